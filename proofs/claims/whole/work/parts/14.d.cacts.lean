/-! each call, the two side by side: a world begins, goes on, is left -/
section DCA
variable {c : Nat} {s u v w0 : dk_S} {T W0 A : dq_W} {D : Nat → Nat × Nat × Nat} {B : Nat → Int32} {st sp : Int32} {n t l m r : Nat}
theorem mr_C.k2 {m0 m1 : dq_W} (C : mr_C T m0) (h : ∀ a k, ((61 ≤ a ∧ a ≤ 74) ∨ (a = 60 ∧ (k = 10 ∨ k = 15 ∨ k = 18))) → m1 a k = m0 a k) : mr_C T m1 := by
  refine ⟨fun a k hk => ?_, ?_⟩
  · have h1 := mc_l_hi (show 0 < mc_l a by omega)
    have h2 := mc_q0 a h1 (by omega)
    rw [h a k (Or.inl (by omega))]; exact C.1 a k hk
  · rw [h 60 10 (by omega), h 60 15 (by omega), h 60 18 (by omega)]; exact C.2
/-- behind a turn *of* the keep *in* a world *of* m deeds -/
def dz_TK (n t m r : Nat) (T W0 A : dq_W) (D : Nat → Nat × Nat × Nat) (B : Nat → Int32) (sp : Int32) (s v : dk_S) : Prop :=
  dq_WR T (v 1) ∧ kq_S n t m r W0 A D v ∧ v 4 = s 4 ∧ ((dq_lv (dq_ch n t W0 D m) 0 ∧ v 0 40 5 = 111 ∧ (v 0 45 1 = sp ∧ (sp = -1 ∨ ∀ i, i < 24 → v 0 46 i = B i))) ∨ (¬ dq_lv (dq_ch n t W0 D m) 0 ∧ v 0 40 5 = 100 ∧ (∀ i, i < 24 → v 0 46 i = dq_bp (dq_ch n t W0 D m) t i) ∧ v 0 45 1 = nI (dq_pl (dq_ch n t W0 D m) 0)))
theorem dq_cr_ne {w : dq_W} {i : Nat} (h : dq_cr w i) : w 25 i ≠ -2 := fun q => by
  unfold dq_cr at h
  rw [dq_ou_top (dq_bg_no q (by decide)), q] at h
  exact absurd h (by decide)
theorem dz_turn (P1 : dq_TW n t l T) (V : dq_BV t B) (hsp : dq_SP sp) (RP : dq_RP n t l m W0 D) (hm : m ≤ c + 1) (ho : ∃ o, o < 6 ∧ W0 0 6 = nI o) (C : mr_C T (s 4)) (MB : mr_B t B sp (s 4)) (K : dz_TK n t m r T W0 A D B sp s v)
    (kw : ∀ a k, mk_g a k → ¬ (a = 60 ∧ (k = 0 ∨ k = 1 ∨ k = 3)) → w0 4 a k = s 4 a k) (fw : dq_fr 4 v w0) (w1 : w0 4 60 1 = 111) (w3 : w0 4 60 3 - w0 4 60 3 / 6 * 6 = W0 0 6) (w00 : w0 4 60 0 = 0)
    (E : mx_E t (dq_ch n t W0 D m) w0 u) : dq_I (c + 1) u ∧ u 4 60 0 = 0 ∧ u 4 60 2 = dq_nw n t m W0 D 0 5 := by
  obtain ⟨⟨JV, _⟩, wd⟩ := RP.at m (Nat.le_refl _)
  obtain ⟨K1, K2, K3, K4⟩ := K
  rcases E with ⟨hl, R, o, f⟩ | ⟨hl, R, f, o, h1, h32, hb, hb'⟩
  · have K4 := K4.resolve_right fun g => g.1 hl
    have fu : dq_fr 4 v u := fw.tr f
    have R' : mr_R (dq_nw n t m W0 D) (u 4) := by rw [RP.nw_a hl]; exact R
    refine ⟨⟨n, t, l, m, r, 111, T, W0, A, D, B, sp, ⟨P1, ⟨V, hsp⟩, Or.inr (Or.inl rfl), fun _ => ⟨RP, hm, fun _ => ⟨hl, wd.resolve_left fun g => g hl⟩, ho⟩⟩, dq_Kf.fr ⟨K1, K4.2.1, K4.2.2, fun _ => K2⟩ fu, ⟨C.k2 fun a k h => ?_, ?_, ⟨?_, fun i hi => ?_, fun g i hi => ?_⟩, fun g => absurd g (by decide), fun _ => ⟨R', ?_⟩⟩⟩, ?_, R'.n2⟩
    · rw [o a k (by unfold mk_g; omega), kw a k (by unfold mk_g; omega) (by omega)]
    · rw [o 60 1 (by unfold mk_g; omega)]; exact w1
    · rw [o 60 32 (by unfold mk_g; omega), kw 60 32 (by unfold mk_g; omega) (by omega)]; exact MB.1
    · rw [o 84 i (by unfold mk_g; omega), kw 84 i (by unfold mk_g; omega) (by omega)]; exact MB.2.1 i hi
    · rw [o 84 i (by unfold mk_g; omega), kw 84 i (by unfold mk_g; omega) (by omega), o 85 i (by unfold mk_g; omega), kw 85 i (by unfold mk_g; omega) (by omega)]; exact MB.2.2 g i hi
    · rw [o 60 3 (by unfold mk_g; omega)]; exact w3
    · rw [o 60 0 (by unfold mk_g; omega)]; exact w00
  · have K4 := K4.resolve_left fun g => hl g.1
    have fu : dq_fr 4 v u := fw.tr f
    have R' : mr_R (dq_nw n t m W0 D) (u 4) := by
      have : dq_nw n t m W0 D = ax_hands t (dq_ch n t W0 D m) := dq_if_f hl
      rw [this]; exact R
    have hp := (JV.1.pl 0 (by decide)).1
    refine ⟨⟨n, t, l, m, r, 100, T, W0, A, D, dq_bp (dq_ch n t W0 D m) t, nI (dq_pl (dq_ch n t W0 D m) 0), ⟨P1, ⟨dq_bp_V JV.1, Or.inr ⟨_, hp, rfl⟩⟩, Or.inr (Or.inr (Or.inl rfl)), fun _ => ⟨RP, hm, fun g => absurd g (by decide), ho⟩⟩, dq_Kf.fr ⟨K1, K4.2.1, ⟨K4.2.2.2, Or.inr K4.2.2.1⟩, fun _ => K2⟩ fu, ⟨C.k2 fun a k h => ?_, h1, ⟨?_, fun i hi => ?_, fun g i hi => ?_⟩, fun g => absurd g (by decide), fun _ => ⟨R', ?_⟩⟩⟩, ?_, R'.n2⟩
    · rw [o a k (by unfold mk_g; omega) (by omega) (by omega) (by omega), kw a k (by unfold mk_g; omega) (by omega)]
    · rw [h32, mt_V_c hp]
    · rw [hb' i hi, kw 84 i (by unfold mk_g; omega) (by omega)]; exact MB.2.1 i hi
    · by_cases ht : i < t
      · obtain ⟨e84, e85⟩ := hb i ht
        rw [e84, e85]
        unfold dq_bp
        by_cases hcr : dq_cr (dq_ch n t W0 D m) i
        · rw [dq_if_t hcr, dq_if_t ⟨ht, hcr⟩]
          exact Or.inr ⟨dq_cr_ne hcr, rfl, rfl⟩
        · rw [dq_if_f hcr, dq_if_f fun q => hcr q.2]
          exact Or.inl ⟨rfl, rfl⟩
      · refine Or.inl ⟨dq_if_f fun q => ht q.1, ?_⟩
        rw [hb' i (by omega), kw 84 i (by unfold mk_g; omega) (by omega)]; exact MB.2.1 i (by omega)
    · rw [o 60 3 (by unfold mk_g; omega) (by omega) (by omega) (by omega)]; exact w3
    · rw [o 60 0 (by unfold mk_g; omega) (by omega) (by omega) (by omega)]; exact w00
/-- an act *of* the hero: both sides *of* it -/
theorem dz_do {d a b : Nat} (P : dq_P n t l m c 111 T W0 D B sp) (Kf : dq_Kf n t m r 111 T W0 A D B sp s) (Mf : dq_Mf n t m 111 T W0 D B sp s) (hc : c < 512) (hd : dq_DV t d a b (dq_ch n t W0 D m)) :
    (∀ KK : Int32 → dk_S → Prop, ((ax_deed n t d a b (dq_ch n t W0 D m)).1 = -1000000 → ∀ v, dq_Kf n t m r 111 T W0 A D B sp v → v 4 = s 4 → KK (-1000000) v) → ((ax_deed n t d a b (dq_ch n t W0 D m)).1 ≠ -1000000 → ∀ v, dz_TK n t (m + 1) r T W0 A (dq_up3 D m d a b) B sp s v → KK (ax_deed n t d a b (dq_ch n t W0 D m)).1 v) → wf_X8_act (nI d) (nI a) (dq_bI b) s KK) ∧
    ((ax_deed n t d a b (dq_ch n t W0 D m)).1 ≠ -1000000 → ∀ v u, dz_TK n t (m + 1) r T W0 A (dq_up3 D m d a b) B sp s v → mx_E t (ax_on n (ax_deed n t d a b (dq_ch n t W0 D m)).2) (mx_F v 0) u → dq_I (c + 1) u ∧ u 4 60 0 = 0 ∧ u 4 60 2 = dq_nw n t (m + 1) W0 (dq_up3 D m d a b) 0 5) := by
  obtain ⟨RP, hmc, hRT, ho⟩ := P.2.2.2 (by decide)
  have RT := hRT rfl
  have kS := Kf.2.2.2 (by decide)
  refine ⟨fun KK k0 k1 => kx_act RP kS (by omega) RT hd (fun hno v kv fv => k0 hno v ⟨?_, ?_, ?_, fun _ => kv⟩ (fv 4 (by decide))) (fun hno RP' v kv fv hv => k1 hno v ⟨?_, kv, fv 4 (by decide) (by decide), ?_⟩), fun hno v u Kv E => ?_⟩
  · rw [fv 1 (by decide)]; exact Kf.1
  · rw [fv 0 (by decide)]; exact Kf.2.1
  · rw [fv 0 (by decide)]; exact Kf.2.2.1
  · rw [fv 1 (by decide) (by decide)]; exact Kf.1
  · rcases hv with ⟨h1, h2, h3, h4⟩ | h
    · refine Or.inl ⟨h1, h2.trans Kf.2.1, ?_⟩
      rw [h3, h4]; exact Kf.2.2.1
    · exact Or.inr h
  · have RP' := RP.next (show m < 512 by omega) RT hd hno
    have e4 := Kv.2.2.1
    rw [← dq_ch_up1 (D := D) (m := m)] at E
    refine dz_turn P.1 P.2.1.1 P.2.1.2 RP' (by omega) ho Mf.1 Mf.2.2.1 Kv (fun a k _ hk => ?_) mx_F_fr ?_ ?_ mx_F_0 E
    · have : mx_F v 0 4 a k = v 4 a k := mx_st_q (by omega)
      rw [this, e4]
    · rw [mx_F_1 (by decide), e4]; exact Mf.2.1
    · rw [mx_F_1 (by decide), e4]; exact (Mf.2.2.2.2 (by decide)).2
/-- what is shown -/
noncomputable def dq_shw (n t m : Nat) (st : Int32) (T W0 : dq_W) (D : Nat → Nat × Nat × Nat) : dq_W := dq_if (st = 110) T (dq_nw n t m W0 D)
theorem dz_shR (P : dq_P n t l m c st T W0 D B sp) (Mf : dq_Mf n t m st T W0 D B sp s) : mr_R (dq_shw n t m st T W0 D) (s 4) ∧ dq_IV n t l (dq_shw n t m st T W0 D) := by
  unfold dq_shw
  by_cases g : st = 110
  · rw [dq_if_t g]; exact ⟨Mf.2.2.2.1 g, P.1.1⟩
  · rw [dq_if_f g]; exact ⟨(Mf.2.2.2.2 g).1, (P.2.2.2 g).1.nw_I⟩
/-- *in* a world that is on -/
theorem dz_onR (P : dq_P n t l m c 111 T W0 D B sp) (Mf : dq_Mf n t m 111 T W0 D B sp s) (e : u 4 = s 4) : mr_R (dq_ch n t W0 D m) (u 4) ∧ dq_JV n t l (dq_ch n t W0 D m) ∧ dq_RT n (dq_ch n t W0 D m) := by
  obtain ⟨RP, _, hRT, _⟩ := P.2.2.2 (by decide)
  have RT := hRT rfl
  refine ⟨?_, (RP.at m (Nat.le_refl _)).1.1, RT⟩
  have := (Mf.2.2.2.2 (by decide)).1
  rw [RP.nw_a RT.1] at this
  rw [e]; exact this
theorem dz_no {d a b : Nat} (P : dq_P n t l m c 111 T W0 D B sp) (hc : c < 512) (hd : dq_DV t d a b (dq_ch n t W0 D m)) (h0 : d ≠ 0) : (ax_deed n t d a b (dq_ch n t W0 D m)).1 ≠ -1000000 := fun g => by
  obtain ⟨RP, hmc, hRT, _⟩ := P.2.2.2 (by decide)
  obtain ⟨⟨JV, JX⟩, _⟩ := RP.at m (Nat.le_refl _)
  exact h0 (ax_deed_no JX JV (hRT rfl).1 (by omega) hd g).1
theorem dz_rest (hc : c < 512) (h : dq_I c s) : dz_C c wf_X8_rest wf_X9_rest [(eIS, 1)] s := by
  have hI := h
  obtain ⟨n, t, l, m, r, st, T, W0, A, D, B, sp, P, Kf, Mf⟩ := h
  by_cases on : st = 111
  · subst on
    have hd : dq_DV t 1 0 0 (dq_ch n t W0 D m) := Or.inr (Or.inl rfl)
    have hno := dz_no P hc hd (by decide)
    obtain ⟨q1, q2⟩ := dz_do P Kf Mf hc hd
    have q2 := q2 hno
    refine Or.inr ⟨dq_nw n t (m + 1) W0 (dq_up3 D m 1 0 0) 0 5, dz_TK n t (m + 1) r T W0 A (dq_up3 D m 1 0 0) B sp s, fun K X k => ?_, fun v J hv k => ?_⟩
    · unfold wf_X8_rest
      exact kz_checkWorld (fun _ => q1 _ (fun g => absurd g hno) (fun _ v hv => dq_ke (hv.2.1.1.1.f0 (by decide) (by decide)) (k v hv))) (fun g => absurd Kf.2.1 g)
    · obtain ⟨R, JV, RT⟩ := dz_onR P Mf hv.2.2.1
      have e1 : v 4 60 1 = 111 := by rw [hv.2.2.1]; exact Mf.2.1
      refine km_rest (w := dq_ch n t W0 D m) (fun g => absurd e1 g) (fun _ => ⟨R, JV, RT, fun u E => ?_⟩)
      obtain ⟨z1, z2, z3⟩ := q2 v u hv E
      exact dq_ke z3 (k u z1 z2)
  · refine Or.inl ⟨eIS, 1, by simp, fun K X k => ?_, fun J k => km_rest (w := T) (n := n) (t := t) (l := l) (fun _ => k _ hI.F mx_F_0) (fun g => absurd (Mf.2.1.symm.trans g) on)⟩
    unfold wf_X8_rest
    exact kz_checkWorld (fun g => absurd (Kf.2.1.symm.trans g) on) (fun _ => k)
theorem dz_pray (hc : c < 512) (h : dq_I c s) : dz_C c wf_X8_pray wf_X9_pray [(eIS, 1)] s := by
  have hI := h
  obtain ⟨n, t, l, m, r, st, T, W0, A, D, B, sp, P, Kf, Mf⟩ := h
  by_cases on : st = 111
  · subst on
    have hd : dq_DV t 8 0 0 (dq_ch n t W0 D m) := Or.inr (Or.inr (Or.inr (Or.inr (Or.inr (Or.inr (Or.inr rfl))))))
    have hno := dz_no P hc hd (by decide)
    obtain ⟨q1, q2⟩ := dz_do P Kf Mf hc hd
    have q2 := q2 hno
    refine Or.inr ⟨(ax_deed n t 8 0 0 (dq_ch n t W0 D m)).1, dz_TK n t (m + 1) r T W0 A (dq_up3 D m 8 0 0) B sp s, fun K X k => ?_, fun v J hv k => ?_⟩
    · unfold wf_X8_pray
      exact kz_checkWorld (fun _ => q1 _ (fun g => absurd g hno) (fun _ v hv => k v hv)) (fun g => absurd Kf.2.1 g)
    · obtain ⟨R, JV, RT⟩ := dz_onR P Mf hv.2.2.1
      have e1 : v 4 60 1 = 111 := by rw [hv.2.2.1]; exact Mf.2.1
      refine km_pray (w := dq_ch n t W0 D m) (fun g => absurd e1 g) (fun _ => ⟨R, JV, RT, fun u E => ?_⟩)
      obtain ⟨z1, z2, z3⟩ := q2 v u hv E
      exact k u z1 z2
  · refine Or.inl ⟨eIS, 1, by simp, fun K X k => ?_, fun J k => km_pray (w := T) (n := n) (t := t) (l := l) (fun _ => k _ hI.F mx_F_0) (fun g => absurd (Mf.2.1.symm.trans g) on)⟩
    unfold wf_X8_pray
    exact kz_checkWorld (fun g => absurd (Kf.2.1.symm.trans g) on) (fun _ => k)
theorem dz_on1 (Mf : dq_Mf n t m 111 T W0 D B sp s) (e : u 4 = s 4) : u 4 60 1 = 111 := by rw [e]; exact Mf.2.1
theorem dz_shout {x : Int32} (hc : c < 512) (h : dq_I c s) : dz_C c (wf_X8_shout x) (wf_X9_shout x) [(eIA, 1), (eIS, 2)] s := by
  have hI := h
  obtain ⟨n, t, l, m, r, st, T, W0, A, D, B, sp, P, Kf, Mf⟩ := h
  by_cases hx : mr_in x 1 30
  · by_cases on : st = 111
    · subst on
      obtain ⟨a, a1, a30, ex⟩ := mr_in_01 (L := 1) (N := 30) rfl rfl hx
      have hd : dq_DV t 7 a 0 (dq_ch n t W0 D m) := Or.inr (Or.inr (Or.inr (Or.inr (Or.inr (Or.inr (Or.inl ⟨rfl, by omega⟩))))))
      have hno := dz_no P hc hd (by decide)
      obtain ⟨q1, q2⟩ := dz_do P Kf Mf hc hd
      have q2 := q2 hno
      refine Or.inr ⟨(ax_deed n t 7 a 0 (dq_ch n t W0 D m)).1, dz_TK n t (m + 1) r T W0 A (dq_up3 D m 7 a 0) B sp s, fun K X k => ?_, fun v J hv k => ?_⟩
      · unfold wf_X8_shout
        refine kz_checkRange (fun _ => kz_checkWorld (fun _ => ?_) (fun g => absurd Kf.2.1 g)) (fun g => absurd hx g)
        subst ex
        exact q1 _ (fun g => absurd g hno) (fun _ v hv => k v hv)
      · obtain ⟨R, JV, RT⟩ := dz_onR P Mf hv.2.2.1
        refine km_shout (w := dq_ch n t W0 D m) (fun g => absurd hx g) (fun _ g => absurd (dz_on1 Mf hv.2.2.1) g) (fun a' _ _ e _ => ⟨R, JV, RT, fun u E => ?_⟩)
        have : a' = a := (nI_eq (by omega) (by omega)).1 (e.symm.trans ex)
        subst this
        obtain ⟨z1, z2, z3⟩ := q2 v u hv E
        exact k u z1 z2
    · refine Or.inl ⟨eIS, 2, by simp, fun K X k => ?_, fun J k => km_shout (w := T) (n := n) (t := t) (l := l) (fun g => absurd hx g) (fun _ _ => k _ hI.F mx_F_0) (fun _ _ _ _ g => absurd (Mf.2.1.symm.trans g) on)⟩
      unfold wf_X8_shout
      exact kz_checkRange (fun _ => kz_checkWorld (fun g => absurd (Kf.2.1.symm.trans g) on) (fun _ => k)) (fun g => absurd hx g)
  · refine Or.inl ⟨eIA, 1, by simp, fun K X k => ?_, fun J k => km_shout (w := T) (n := n) (t := t) (l := l) (fun _ => k _ hI.F mx_F_0) (fun g => absurd g hx) (fun a a1 a30 e => absurd (by rw [e]; exact ⟨nI_nlt (b := 1) a1 (by omega), nI_nlt (a := 30) a30 (by decide)⟩) hx)⟩
    unfold wf_X8_shout
    exact kz_checkRange (fun g => absurd g hx) (fun _ => k)
theorem mr_in_3 {x : Int32} {d : Nat} (hd : d < 4) (e : x = nI d) : mr_in x 0 3 := by
  rw [e]; exact ⟨nI_pos (by omega), nI_nlt (b := d) (a := 3) (by omega) (by decide)⟩
theorem ax_go_ans {w : dq_W} {a : Nat} : (ax_deed n t 0 a 0 w).1 = -1000000 ∨ (ax_deed n t 0 a 0 w).1 = 97 ∨ (ax_deed n t 0 a 0 w).1 = 111 ∨ (ax_deed n t 0 a 0 w).1 = 109 := by
  show (ax_go n t a w).1 = -1000000 ∨ (ax_go n t a w).1 = 97 ∨ (ax_go n t a w).1 = 111 ∨ (ax_go n t a w).1 = 109
  unfold ax_go
  by_cases g : 1 ≤ dq_la w (dq_nb (dq_pl w 0) a) n ∧ dq_la w (dq_nb (dq_pl w 0) a) n < 8
  · rw [dq_if_t g]; exact Or.inr (Or.inl rfl)
  · rw [dq_if_f g]
    by_cases g2 : dq_sg w (dq_nb (dq_pl w 0) a) = 43 ∨ dq_ky w t (dq_sg w (dq_nb (dq_pl w 0) a))
    · rw [dq_if_t g2]; exact Or.inr (Or.inr (Or.inl rfl))
    · rw [dq_if_f g2]
      by_cases g3 : dq_free (dq_sg w (dq_nb (dq_pl w 0) a))
      · rw [dq_if_t g3]; exact Or.inr (Or.inr (Or.inr rfl))
      · rw [dq_if_f g3]; exact Or.inl rfl
theorem dz_go {x : Int32} (hc : c < 512) (h : dq_I c s) : dz_C c (wf_X8_go x) (wf_X9_go x) [(eIA, 1), (eIS, 2)] s := by
  have hI := h
  obtain ⟨n, t, l, m, r, st, T, W0, A, D, B, sp, P, Kf, Mf⟩ := h
  obtain ⟨Rs, Is⟩ := dz_shR P Mf
  by_cases hx : mr_in x 0 3
  · by_cases on : st = 111
    · subst on
      obtain ⟨a, a3, ex⟩ := mr_in_n (N := 3) rfl hx
      have hd : dq_DV t 0 a 0 (dq_ch n t W0 D m) := Or.inl ⟨rfl, by omega⟩
      obtain ⟨q1, q2⟩ := dz_do P Kf Mf hc hd
      by_cases hno : (ax_deed n t 0 a 0 (dq_ch n t W0 D m)).1 = -1000000
      · refine Or.inr ⟨98, fun v => dq_Kf n t m r 111 T W0 A D B sp v ∧ v 4 = s 4, fun K X k => ?_, fun v J hv k => ?_⟩
        · unfold wf_X8_go
          refine kz_checkWay (fun _ => kz_checkWorld (fun _ => ?_) (fun g => absurd Kf.2.1 g)) (fun g => absurd hx g)
          subst ex
          exact q1 _ (fun _ v hv e4 => ⟨fun g => absurd rfl g, fun _ => k v ⟨hv, e4⟩⟩) (fun g => absurd hno g)
        · obtain ⟨R, JV, RT⟩ := dz_onR P Mf hv.2
          refine km_go (w := dq_ch n t W0 D m) (l := l) R JV.1 (fun g => absurd hx g) (fun _ g => absurd (dz_on1 Mf hv.2) g) (fun a' ha' e _ => ?_)
          have : a' = a := (nI_eq (by omega) (by omega)).1 (e.symm.trans ex)
          subst this
          refine ⟨JV, RT, fun _ u Pu => ?_, fun g => absurd hno g⟩
          -- nothing has changed
          have Mv : dq_Mf n t m 111 T W0 D B sp (mx_F v 0) := (Mf.e hv.2).F
          have RP := (P.2.2.2 (by decide)).1
          obtain ⟨Ru, ou, fu⟩ := Pu
          refine k u ⟨n, t, l, m, r, 111, T, W0, A, D, B, sp, ⟨P.1, P.2.1, P.2.2.1, fun g => ⟨RP, by have := (P.2.2.2 g).2.1; omega, (P.2.2.2 g).2.2⟩⟩, (hv.1.fr mx_F_fr).fr fu, Mv.1.keep ou, ?_, ⟨?_, fun i hi => ?_, fun g i hi => ?_⟩, fun g => absurd g (by decide), fun _ => ⟨by rw [RP.nw_a RT.1]; exact Ru, ?_⟩⟩ ?_
          · rw [ou 60 1 (by unfold mk_g; omega)]; exact Mv.2.1
          · rw [ou 60 32 (by unfold mk_g; omega)]; exact Mv.2.2.1.1
          · rw [ou 84 i (by unfold mk_g; omega)]; exact Mv.2.2.1.2.1 i hi
          · rw [ou 84 i (by unfold mk_g; omega), ou 85 i (by unfold mk_g; omega)]; exact Mv.2.2.1.2.2 g i hi
          · rw [ou 60 3 (by unfold mk_g; omega)]; exact (Mv.2.2.2.2 (by decide)).2
          · rw [ou 60 0 (by unfold mk_g; omega)]; exact mx_F_0
      · have q2 := q2 hno
        have ans := (ax_go_ans (n := n) (t := t) (w := dq_ch n t W0 D m) (a := a)).resolve_left hno
        have e16 : ((ax_deed n t 0 a 0 (dq_ch n t W0 D m)).1.toUInt32 % 65536).toInt32 = (ax_deed n t 0 a 0 (dq_ch n t W0 D m)).1 := by
          rcases ans with g | g | g <;> rw [g] <;> decide
        refine Or.inr ⟨(ax_deed n t 0 a 0 (dq_ch n t W0 D m)).1, dz_TK n t (m + 1) r T W0 A (dq_up3 D m 0 a 0) B sp s, fun K X k => ?_, fun v J hv k => ?_⟩
        · unfold wf_X8_go
          refine kz_checkWay (fun _ => kz_checkWorld (fun _ => ?_) (fun g => absurd Kf.2.1 g)) (fun g => absurd hx g)
          subst ex
          refine q1 _ (fun g => absurd g hno) (fun _ v hv => ⟨fun _ => ?_, fun g => absurd g hno⟩)
          rw [e16]
          refine ⟨?_, k v hv⟩
          rcases ans with g | g | g <;> rw [g] <;> decide
        · obtain ⟨R, JV, RT⟩ := dz_onR P Mf hv.2.2.1
          refine km_go (w := dq_ch n t W0 D m) (l := l) R JV.1 (fun g => absurd hx g) (fun _ g => absurd (dz_on1 Mf hv.2.2.1) g) (fun a' ha' e _ => ?_)
          have : a' = a := (nI_eq (by omega) (by omega)).1 (e.symm.trans ex)
          subst this
          refine ⟨JV, RT, fun g => absurd g hno, fun _ u E => ?_⟩
          obtain ⟨z1, z2, z3⟩ := q2 v u hv E
          exact k u z1 z2
    · refine Or.inl ⟨eIS, 2, by simp, fun K X k => ?_, fun J k => km_go Rs Is (fun g => absurd hx g) (fun _ _ => k _ hI.F mx_F_0) (fun _ _ _ g => absurd (Mf.2.1.symm.trans g) on)⟩
      unfold wf_X8_go
      exact kz_checkWay (fun _ => kz_checkWorld (fun g => absurd (Kf.2.1.symm.trans g) on) (fun _ => k)) (fun g => absurd hx g)
  · refine Or.inl ⟨eIA, 1, by simp, fun K X k => ?_, fun J k => km_go Rs Is (fun _ => k _ hI.F mx_F_0) (fun g => absurd g hx) (fun a ha e => absurd (mr_in_3 ha e) hx)⟩
    unfold wf_X8_go
    exact kz_checkWay (fun g => absurd g hx) (fun _ => k)
theorem dz_et (P : dq_P n t l m c st T W0 D B sp) (Kf : dq_Kf n t m r st T W0 A D B sp s) : s 1 23 2 = nI t := (Kf.1.1 23 2 (by decide) (by decide)).trans P.1.1.ht
theorem dz_W2 (P : dq_P n t l m c 111 T W0 D B sp) (Kf : dq_Kf n t m r 111 T W0 A D B sp s) : dq_WR (dq_ch n t W0 D m) (s 2) := by
  obtain ⟨RP, _, hRT, _⟩ := P.2.2.2 (by decide)
  have := (Kf.2.2.2 (by decide)).1.1
  rw [RP.nw_a (hRT rfl).1] at this
  exact this
theorem dz_drop {x : Int32} (hc : c < 512) (h : dq_I c s) : dz_C c (wf_X8_drop x) (wf_X9_drop x) [(eIO, 1), (eIS, 2), (eNS, 3)] s := by
  have hI := h
  obtain ⟨n, t, l, m, r, st, T, W0, A, D, B, sp, P, Kf, Mf⟩ := h
  obtain ⟨Rs, Is⟩ := dz_shR P Mf
  have et := dz_et P Kf
  have t24 := P.1.1.t24
  by_cases hx : mr_th t x
  · by_cases on : st = 111
    · subst on
      obtain ⟨a, ha, ex⟩ := hx
      have W2 := dz_W2 P Kf
      obtain ⟨R, JV, RT⟩ := dz_onR P Mf rfl
      by_cases h3 : dq_ch n t W0 D m 25 a = -1
      · have hd : dq_DV t 3 a 0 (dq_ch n t W0 D m) := Or.inr (Or.inr (Or.inl ⟨Or.inr rfl, ha⟩))
        have hno := dz_no P hc hd (by decide)
        obtain ⟨q1, q2⟩ := dz_do P Kf Mf hc hd
        have q2 := q2 hno
        refine Or.inr ⟨(ax_deed n t 3 a 0 (dq_ch n t W0 D m)).1, dz_TK n t (m + 1) r T W0 A (dq_up3 D m 3 a 0) B sp s, fun K X k => ?_, fun v J hv k => ?_⟩
        · unfold wf_X8_drop
          refine kz_checkThing et t24 (fun _ => kz_checkWorld (fun _ => ?_) (fun g => absurd Kf.2.1 g)) (fun g => absurd ⟨a, ha, ex⟩ g)
          subst ex
          exact kz_checkInHands W2 (show a < 24 by omega) (fun _ => q1 _ (fun g => absurd g hno) (fun _ v hv => k v hv)) (fun g => absurd h3 g)
        · obtain ⟨R, JV, RT⟩ := dz_onR P Mf hv.2.2.1
          refine km_drop (w := dq_ch n t W0 D m) R JV.1 (fun g => absurd ⟨a, ha, ex⟩ g) (fun _ g => absurd (dz_on1 Mf hv.2.2.1) g) (fun a' ha' e _ g => ?_) (fun a' ha' e _ _ => ⟨JV, RT, fun u E => ?_⟩)
          · have : a' = a := (nI_eq (by omega) (by omega)).1 (e.symm.trans ex)
            subst this
            exact absurd h3 g
          · have : a' = a := (nI_eq (by omega) (by omega)).1 (e.symm.trans ex)
            subst this
            obtain ⟨z1, z2, z3⟩ := q2 v u hv E
            exact k u z1 z2
      · refine Or.inl ⟨eNS, 3, by simp, fun K X k => ?_, fun J k => km_drop R JV.1 (fun g => absurd ⟨a, ha, ex⟩ g) (fun _ g => absurd Mf.2.1 g) (fun _ _ _ _ _ => k _ hI.F mx_F_0) (fun a' ha' e _ g => ?_)⟩
        · unfold wf_X8_drop
          refine kz_checkThing et t24 (fun _ => kz_checkWorld (fun _ => ?_) (fun g => absurd Kf.2.1 g)) (fun g => absurd ⟨a, ha, ex⟩ g)
          subst ex
          exact kz_checkInHands W2 (show a < 24 by omega) (fun g => absurd g h3) (fun _ => k)
        · have : a' = a := (nI_eq (by omega) (by omega)).1 (e.symm.trans ex)
          subst this
          exact absurd g h3
    · refine Or.inl ⟨eIS, 2, by simp, fun K X k => ?_, fun J k => km_drop Rs Is (fun g => absurd hx g) (fun _ _ => k _ hI.F mx_F_0) (fun _ _ _ g => absurd (Mf.2.1.symm.trans g) on) (fun _ _ _ g => absurd (Mf.2.1.symm.trans g) on)⟩
      unfold wf_X8_drop
      exact kz_checkThing et t24 (fun _ => kz_checkWorld (fun g => absurd (Kf.2.1.symm.trans g) on) (fun _ => k)) (fun g => absurd hx g)
  · refine Or.inl ⟨eIO, 1, by simp, fun K X k => ?_, fun J k => km_drop Rs Is (fun _ => k _ hI.F mx_F_0) (fun g => absurd g hx) (fun a ha e => absurd ⟨a, ha, e⟩ hx) (fun a ha e => absurd ⟨a, ha, e⟩ hx)⟩
    unfold wf_X8_drop
    exact kz_checkThing et t24 (fun g => absurd g hx) (fun _ => k)
end DCA
