/-! the reference: what the hero could come to -/
def rz (m : dq_W) (c : Nat) : Prop := ¬ m 87 (mt_T c) = 0
def rz_01 (m : dq_W) : Prop := ∀ c, c < 144 → m 87 (mt_T c) = 0 ∨ m 87 (mt_T c) = 1
noncomputable def rz_n (z : Nat → Prop) : Nat := dq_sm (fun c => dq_if (z c) 0 1) 144
theorem dq_sm_lt {f g : Nat → Nat} : ∀ n, (∀ c, c < n → f c ≤ g c) → dq_sm f n ≤ dq_sm g n
  | 0, _ => Nat.le_refl _
  | n + 1, h => by
    have := dq_sm_lt n (fun c hc => h c (by omega))
    have := h n (by omega)
    show dq_sm f n + f n ≤ dq_sm g n + g n
    omega
theorem dq_sm_ltx {f g : Nat → Nat} {x : Nat} : ∀ n, x < n → (∀ c, c < n → f c ≤ g c) → f x < g x → dq_sm f n < dq_sm g n
  | 0, h, _, _ => absurd h (Nat.not_lt_zero _)
  | n + 1, h, hl, hx => by
    show dq_sm f n + f n < dq_sm g n + g n
    by_cases e : x = n
    · subst e
      have := dq_sm_lt x (fun c hc => hl c (by omega))
      omega
    · have := dq_sm_ltx n (by omega) (fun c hc => hl c (by omega)) hx
      have := hl n (by omega)
      omega
theorem rz_n_lt {z y : Nat → Prop} (h : ∀ c, c < 144 → z c → y c) {x : Nat} (hx : x < 144) (h1 : ¬ z x) (h2 : y x) : rz_n y < rz_n z := by
  refine dq_sm_ltx 144 hx (fun c hc => ?_) ?_
  · show dq_if (y c) 0 1 ≤ dq_if (z c) 0 1
    by_cases g : z c
    · rw [dq_if_t g, dq_if_t (h c hc g)]; exact Nat.le_refl _
    · rw [dq_if_f g]
      by_cases g2 : y c
      · rw [dq_if_t g2]; exact Nat.zero_le _
      · rw [dq_if_f g2]; exact Nat.le_refl _
  · show dq_if (y x) 0 1 < dq_if (z x) 0 1
    rw [dq_if_t h2, dq_if_f h1]; decide
/-- a pass: what it has done so far, from z0 -/
def rz_I (w : dq_W) (M : Nat) (z0 : Nat → Prop) (P : Prop) (s0 u : dk_S) (f : Int32) : Prop :=
  mx_P w s0 u ∧ rz_01 (u 4) ∧ (∀ c, c < 144 → rz (u 4) c → rh_R w M c) ∧ (∀ c, c < 144 → z0 c → rz (u 4) c) ∧ ((f = 0 ∧ (∀ c, c < 144 → (rz (u 4) c ↔ z0 c)) ∧ P) ∨ (f = 1 ∧ ∃ x, x < 144 ∧ ¬ z0 x ∧ rz (u 4) x))
/-- all ways into a cell have been looked at -/
def rz_C (w : dq_W) (t : Nat) (z0 : Nat → Prop) (c : Nat) : Prop := z0 c ∨ ¬ rh_M w (rh_K w t z0) c ∨ ∀ v, v < 4 → dq_nb c v < 144 → ¬ z0 (dq_nb c v)
section DRZ
variable {n t l : Nat} {w : dq_W} {s u s0 : dk_S} {K : Int32 → dk_S → Prop} {M : Nat} {z0 : Nat → Prop} {Pc : Prop}
theorem rz_I.f01 {f : Int32} (h : rz_I w M z0 Pc s0 u f) : f = 0 ∨ f = 1 := by
  rcases h.2.2.2.2 with q | q
  · exact Or.inl q.1
  · exact Or.inr q.1
theorem km_hasFound {e : Nat} (R : mr_R w (s 4)) (I : dq_IV n t l w) (k1 : (∃ i, i < t ∧ dq_kd w i = e ∧ rh_A w (rz (s 4)) i) → K 1 s) (k0 : ¬ (∃ i, i < t ∧ dq_kd w i = e ∧ rh_A w (rz (s 4)) i) → K 0 s) (he : e < 3) : wf_X9_hasFound (nI e) s K := by
  unfold wf_X9_hasFound
  have ht := I.t24
  have kk : K (mb_ex (fun i => dq_kd w i = e ∧ rh_A w (rz (s 4)) i) t) s := mb_ex_e (K := fun x => K x s) k1 k0
  have q := dq_lp (fun m i z => wf_X9_hasFound_4 K m (nI e) z (nI i) s) (mb_ex (fun i => dq_kd w i = e ∧ rh_A w (rz (s 4)) i)) t (fun m => by
    show wf_X9_hasFound_4 K (m + 1) (nI e) (mb_ex (fun i => dq_kd w i = e ∧ rh_A w (rz (s 4)) i) t) (nI t) s
    unfold wf_X9_hasFound_4
    rw [R.n15, I.ht]
    exact br_t (nI_le (Nat.le_refl _) (by omega)) ⟨mb_ex_n, kk⟩) (fun m i hi h => by
    have h : wf_X9_hasFound_4 K m (nI e) (mb_ex (fun i => dq_kd w i = e ∧ rh_A w (rz (s 4)) i) (i + 1)) (nI (i + 1)) s := h
    show wf_X9_hasFound_4 K (m + 1) (nI e) (mb_ex (fun i => dq_kd w i = e ∧ rh_A w (rz (s 4)) i) i) (nI i) s
    unfold wf_X9_hasFound_4
    rw [R.n15, I.ht]
    have hk := mr_kind R I (x := i) (by omega)
    have hk8 := hk.2
    have hou := dq_ou_lt (f := w) I.tp ht 24 i (by omega)
    have yes : mb_ex (fun i => dq_kd w i = e ∧ rh_A w (rz (s 4)) i) (i + 1) = 1 → wf_X9_hasFound_54 K (wf_X9_hasFound_4 K m) (nI e) (nI i) s := fun g => by
      unfold wf_X9_hasFound_54
      rw [g] at h
      exact nm_r (nI_1 i) h
    have no : mb_ex (fun i => dq_kd w i = e ∧ rh_A w (rz (s 4)) i) (i + 1) = 0 → wf_X9_hasFound_58 K (wf_X9_hasFound_4 K m) (nI e) (nI i) s := fun g => by
      unfold wf_X9_hasFound_58
      rw [g] at h
      exact nm_r (nI_1 i) h
    refine br_f (nI_ge hi (by omega)) (km_outermost R I (by omega) (dq_rb (fun g => yes (mb_ex_s1 g)) (fun g => ⟨vp_in_nI (by omega) (by decide), ?_⟩)))
    rw [nI_clamp (by omega), hk.1]
    refine dq_rb (fun g2 => no (mb_ex_sn g (fun r => g2 (congrArg nI r.1)))) (fun g2 => ?_)
    have g2' : dq_kd w i = e := (nI_eq (by omega) (by omega)).1 g2
    refine br_c (fun g3 => yes (mb_ex_sy (P := fun i => dq_kd w i = e ∧ rh_A w (rz (s 4)) i) ⟨g2', Or.inl (mt_V_m1.1 g3)⟩)) (fun g3 => br_c (fun g4 => no (mb_ex_sn g ?_)) (fun g4 => ?_))
    · rintro ⟨_, r | ⟨c, r1, r2, _⟩⟩
      · exact g3 (mt_V_m1.2 r)
      · rw [r2, mt_V_c r1] at g4
        exact nI_pos (by have := mt_T_lt r1; omega) g4
    · obtain ⟨c, hc, ec⟩ : ∃ c, c < 144 ∧ w 25 (dq_ou w 24 i) = nI c := by
        rcases dq_TP_neg I hou with r | r
        · exact absurd (mt_V_neg.2 r) g4
        · exact r
      have lT := mt_T_lt hc
      rw [ec, mt_V_c hc]
      refine ⟨vp_in_nI lT (by decide), ?_⟩
      rw [nI_clamp (by omega)]
      refine br_c (fun g5 => no (mb_ex_sn g ?_)) (fun g5 => yes (mb_ex_sy (P := fun i => dq_kd w i = e ∧ rh_A w (rz (s 4)) i) ⟨g2', Or.inr ⟨c, hc, ec, g5⟩⟩))
      rintro ⟨_, r | ⟨d, r1, r2, r3⟩⟩
      · exact g3 (mt_V_m1.2 r)
      · have : d = c := (nI_eq (by omega) (by omega)).1 (r2.symm.trans ec)
        rw [this] at r3
        exact r3 g5) (Nat.zero_le t)
  obtain ⟨m, q⟩ := q
  have q : wf_X9_hasFound_4 K m (nI e) (mb_ex (fun i => dq_kd w i = e ∧ rh_A w (rz (s 4)) i) 0) (nI 0) s := q
  rw [mb_ex_0] at q
  exact ⟨m, q⟩
/-- one way: nothing new -/
theorem km_sp_no {B : Int32 → Int32 → Int32 → Int32 → dk_S → Prop} {E : Int32 → Int32 → dk_S → Prop} {f : Int32} {c i : Nat} (hf : f = 0 ∨ f = 1) (hc : c < 144) (h0 : u 4 87 (mt_T c) = 0) (h : ∀ u', u' 4 = u 4 → dq_fr 4 u u' → B f (nI (mt_T c)) 1 (nI (i + 1)) u') : wf_X9_spreads_119 K B E f (nI (mt_T c)) 1 (nI i) 0 u := by
  have hl := mt_T_lt hc
  unfold wf_X9_spreads_119
  refine ⟨vp_in_nI hl (by decide), ?_⟩
  rw [nI_clamp (by omega)]
  refine dq_rt h0 (br_t rfl ?_)
  unfold wf_X9_spreads_145
  refine ⟨vp_in_nI hl (by decide), ?_⟩
  rw [nI_clamp (by omega)]
  have e := h (dq_st u 4 87 (mt_T c) 0) (by rw [dq_st_p, ← h0, dq_set_same]) dq_st_fr
  refine mx_put (v := 0) ?_
  rcases hf with rfl | rfl
  · exact dq_rt rfl (br_t rfl (nm_r (nI_1 i) e))
  · exact dq_rf (by decide) (nm_r (nI_1 i) e)
theorem km_sp_yes {B : Int32 → Int32 → Int32 → Int32 → dk_S → Prop} {E : Int32 → Int32 → dk_S → Prop} {f : Int32} {c i : Nat} (hc : c < 144) (h0 : u 4 87 (mt_T c) = 0) (h : B 1 (nI (mt_T c)) 1 (nI (i + 1)) (dq_st u 4 87 (mt_T c) 1)) : wf_X9_spreads_119 K B E f (nI (mt_T c)) 1 (nI i) 1 u := by
  have hl := mt_T_lt hc
  unfold wf_X9_spreads_119
  refine ⟨vp_in_nI hl (by decide), ?_⟩
  rw [nI_clamp (by omega)]
  refine dq_rt h0 (br_f (by decide) ?_)
  unfold wf_X9_spreads_145
  refine ⟨vp_in_nI hl (by decide), ?_⟩
  rw [nI_clamp (by omega)]
  refine mx_put (v := 1) ⟨fun _ => nm_r (nI_1 i) h, fun _ => br_f (by decide) (nm_r (nI_1 i) h)⟩
/-- the four ways into a cell -/
theorem km_sp_ways {E : Int32 → Int32 → dk_S → Prop} {f y : Int32} {c : Nat} (I : dq_IV n t l w) (hM : M < 8) (hc : c < 144) (hy : y = 0 ∨ y = 1) (h : rz_I w M z0 Pc s0 u f)
    (h1 : y = 1 → rh_M w (rh_h M) c) (h2 : y = 0 → f = 0 → ¬ rh_M w (rh_K w t z0) c)
    (k : ∀ u' f', rz_I w M z0 (Pc ∧ rz_C w t z0 c) s0 u' f' → E f' (nI (mt_T c)) u') : ∃ n, wf_X9_spreads_71 K E n f (nI (mt_T c)) y 0 u := by
  have hl := mt_T_lt hc
  refine loop_0 (σ := dk_S × Int32) (fun m i x => wf_X9_spreads_71 K E m x.2 (nI (mt_T c)) y (nI i) x.1) (fun i x => rz_I w M z0 (Pc ∧ (z0 c ∨ ∀ v, v < i → dq_nb c v < 144 → ¬ z0 (dq_nb c v)) ∧ (y = 0 → ¬ rh_M w (rh_K w t z0) c)) s0 x.1 x.2) 4 (u, f) ?_ ?_ ?_
  · refine ⟨h.1, h.2.1, h.2.2.1, h.2.2.2.1, ?_⟩
    rcases h.2.2.2.2 with ⟨g1, g2, g3⟩ | g
    · exact Or.inl ⟨g1, g2, g3, Or.inr (fun v hv => absurd hv (Nat.not_lt_zero _)), fun e => h2 e g1⟩
    · exact Or.inr g
  · rintro m ⟨u1, f1⟩ H
    show wf_X9_spreads_71 K E (m + 1) f1 (nI (mt_T c)) y (nI 4) u1
    unfold wf_X9_spreads_71
    refine br_t (by decide) (k u1 f1 ⟨H.1, H.2.1, H.2.2.1, H.2.2.2.1, ?_⟩)
    rcases H.2.2.2.2 with ⟨g1, g2, g3, g4, _⟩ | g
    · refine Or.inl ⟨g1, g2, g3, ?_⟩
      rcases g4 with q | q
      · exact Or.inl q
      · exact Or.inr (Or.inr q)
    · exact Or.inr g
  · rintro m i ⟨u1, f1⟩ hi H next
    show wf_X9_spreads_71 K E (m + 1) f1 (nI (mt_T c)) y (nI i) u1
    have hf := rz_I.f01 H
    have H : rz_I w M z0 (Pc ∧ (z0 c ∨ ∀ v, v < i → dq_nb c v < 144 → ¬ z0 (dq_nb c v)) ∧ (y = 0 → ¬ rh_M w (rh_K w t z0) c)) s0 u1 f1 := H
    unfold wf_X9_spreads_71
    refine br_f (nI_ge (b := 4) hi (by decide)) (br_c (fun g => ?_) (fun g => ⟨vp_in_nI hl (by decide), ?_⟩))
    · refine k u1 f1 ⟨H.1, H.2.1, H.2.2.1, H.2.2.2.1, ?_⟩
      rcases H.2.2.2.2 with ⟨g1, g2, g3, _, g5⟩ | q
      · exact Or.inl ⟨g1, g2, g3, Or.inr (Or.inl (g5 g))⟩
      · exact Or.inr q
    · have y1 : y = 1 := hy.resolve_left g
      subst y1
      rw [nI_clamp (by omega)]
      refine dq_rb (fun g2 => ?_) (fun g2 => ?_)
      · refine k u1 f1 ⟨H.1, H.2.1, H.2.2.1, H.2.2.2.1, ?_⟩
        rcases H.2.2.2.2 with ⟨g1, g3, g4, _⟩ | q
        · exact Or.inl ⟨g1, g3, g4, Or.inl ((g3 c hc).1 g2)⟩
        · exact Or.inr q
      · -- the cell isn't reached yet
        have keep : (rz_I w M z0 (Pc ∧ (z0 c ∨ ∀ v, v < i + 1 → dq_nb c v < 144 → ¬ z0 (dq_nb c v)) ∧ ((1 : Int32) = 0 → ¬ rh_M w (rh_K w t z0) c)) s0 u1 f1) → wf_X9_spreads_119 K (wf_X9_spreads_71 K E m) E f1 (nI (mt_T c)) 1 (nI i) 0 u1 := fun H2 =>
          km_sp_no hf hc g2 (fun u2 e1 e2 => next (u2, f1) (by
            obtain ⟨a1, a2, a3, a4, a5⟩ := H2
            refine ⟨⟨by show mr_R w (u2 4); rw [e1]; exact a1.1, by show mk_o (s0 4) (u2 4); rw [e1]; exact a1.2.1, a1.2.2.tr e2⟩, ?_, ?_, ?_, ?_⟩
            · show rz_01 (u2 4); rw [e1]; exact a2
            · show ∀ c, c < 144 → rz (u2 4) c → _; rw [e1]; exact a3
            · show ∀ c, c < 144 → z0 c → rz (u2 4) c; rw [e1]; exact a4
            · show (f1 = 0 ∧ (∀ c, c < 144 → (rz (u2 4) c ↔ z0 c)) ∧ _) ∨ (f1 = 1 ∧ ∃ x, x < 144 ∧ ¬ z0 x ∧ rz (u2 4) x); rw [e1]; exact a5))
        have add : (∀ (_ : f1 = 0), (∀ c, c < 144 → (rz (u1 4) c ↔ z0 c)) → dq_nb c i < 144 → ¬ z0 (dq_nb c i)) → rz_I w M z0 (Pc ∧ (z0 c ∨ ∀ v, v < i + 1 → dq_nb c v < 144 → ¬ z0 (dq_nb c v)) ∧ ((1 : Int32) = 0 → ¬ rh_M w (rh_K w t z0) c)) s0 u1 f1 := fun g3 => by
          refine ⟨H.1, H.2.1, H.2.2.1, H.2.2.2.1, ?_⟩
          rcases H.2.2.2.2 with ⟨a1, a2, a3, a4, a5⟩ | q
          · refine Or.inl ⟨a1, a2, a3, ?_, a5⟩
            rcases a4 with q | q
            · exact Or.inl q
            · refine Or.inr fun v hv hn => ?_
              by_cases e : v = i
              · rw [e] at hn ⊢; exact g3 a1 a2 hn
              · exact q v (by omega) hn
          · exact Or.inr q
        refine km_beside hc hi ?_
        have hn := dq_nb_le c hc i hi
        by_cases hb : dq_nb c i < 144
        · have lb := mt_T_lt hb
          rw [mt_pI_in hb]
          refine br_f (dq_m1' (by omega)) ⟨vp_in_nI lb (by decide), ?_⟩
          rw [nI_clamp (by omega)]
          refine br_c (fun g3 => keep (add fun _ a2 _ q => (a2 _ hb).2 q g3)) (fun g3 => km_sp_yes hc g2 (next (_, 1) ?_))
          have hbk := dq_nb_back c hc i hi hb
          have hR := H.2.2.1 _ hb g3
          have hRc : rh_R w M c := by
            have := rh_R_s (v := (i + 2) % 4) I.sg hM hR hb (by omega) (by rw [hbk]; exact hc) (by rw [hbk]; exact h1 rfl)
            rw [hbk] at this
            exact this
          have e87 : ∀ d, d < 144 → dq_st u1 4 87 (mt_T c) 1 4 87 (mt_T d) = if d = c then 1 else u1 4 87 (mt_T d) := fun d hd => by
            rw [dq_st_p]
            by_cases e : d = c
            · rw [if_pos e, e, dq_set_eq]
            · rw [if_neg e, dq_set_ne (Or.inr (fun q => e ((mt_T_i hd hc).1 q)))]
          have nz0 : ¬ z0 c := fun q => H.2.2.2.1 c hc q g2
          refine ⟨H.1.st (H.1.1.out (Or.inl (by decide))) (by unfold mk_g; omega), fun d hd => ?_, fun d hd q => ?_, fun d hd q => ?_, Or.inr ⟨rfl, c, hc, nz0, ?_⟩⟩
          · show dq_st u1 4 87 (mt_T c) 1 4 87 (mt_T d) = 0 ∨ dq_st u1 4 87 (mt_T c) 1 4 87 (mt_T d) = 1
            rw [e87 d hd]
            by_cases e : d = c
            · rw [if_pos e]; exact Or.inr rfl
            · rw [if_neg e]; exact H.2.1 d hd
          · have q : ¬ dq_st u1 4 87 (mt_T c) 1 4 87 (mt_T d) = 0 := q
            rw [e87 d hd] at q
            by_cases e : d = c
            · rw [e]; exact hRc
            · rw [if_neg e] at q; exact H.2.2.1 d hd q
          · show ¬ dq_st u1 4 87 (mt_T c) 1 4 87 (mt_T d) = 0
            rw [e87 d hd]
            by_cases e : d = c
            · rw [if_pos e]; decide
            · rw [if_neg e]; exact H.2.2.2.1 d hd q
          · show ¬ dq_st u1 4 87 (mt_T c) 1 4 87 (mt_T c) = 0
            rw [e87 c hc, if_pos rfl]; decide
        · rw [mt_pI_out hb]
          exact br_t rfl (keep (add fun _ _ q => absurd q hb))
/-- one pass over the cells -/
theorem km_spreads (I : dq_IV n t l w) (hL : rh_L w t M) (h : rz_I w M z0 True s0 u 0) (k : ∀ u' f', narrow .boolean (.int f') = .int f' → rz_I w M z0 (∀ c, c < 144 → rz_C w t z0 c) s0 u' f' → K f' u') : wf_X9_spreads u K := by
  unfold wf_X9_spreads
  have hM := hL.1
  refine loop_0 (σ := dk_S × Int32) (fun m i x => wf_X9_spreads_4 K m x.2 (nI i) x.1) (fun i x => rz_I w M z0 (∀ j, j < i → rz_C w t z0 (mt_T j)) s0 x.1 x.2) 144 (u, 0) ?_ ?_ ?_
  · refine ⟨h.1, h.2.1, h.2.2.1, h.2.2.2.1, ?_⟩
    rcases h.2.2.2.2 with ⟨g1, g2, g3⟩ | g
    · exact Or.inl ⟨g1, g2, fun j hj => absurd hj (Nat.not_lt_zero _)⟩
    · exact Or.inr g
  · rintro m ⟨u1, f1⟩ H
    show wf_X9_spreads_4 K (m + 1) f1 (nI 144) u1
    have hn : narrow .boolean (.int f1) = .int f1 := by
      rcases rz_I.f01 H with e | e
      · have e : f1 = 0 := e
        rw [e]; exact dq_nz0
      · have e : f1 = 1 := e
        rw [e]; exact dq_nz1
    unfold wf_X9_spreads_4
    refine br_t (by decide) ⟨hn, k u1 f1 hn ⟨H.1, H.2.1, H.2.2.1, H.2.2.2.1, ?_⟩⟩
    rcases H.2.2.2.2 with ⟨g1, g2, g3⟩ | g
    · refine Or.inl ⟨g1, g2, fun c hc => ?_⟩
      have := g3 (mt_T c) (mt_T_lt hc)
      rw [mt_T_T hc] at this
      exact this
    · exact Or.inr g
  · rintro m j ⟨u1, f1⟩ hj H next
    show wf_X9_spreads_4 K (m + 1) f1 (nI j) u1
    have hc := mt_T_lt hj
    have H : rz_I w M z0 (∀ i, i < j → rz_C w t z0 (mt_T i)) s0 u1 f1 := H
    have R : mr_R w (u1 4) := H.1.1
    have cell : u1 4 75 j = w 2 (mt_T j) := R.r75 hj
    have ei : nI j = mt_pI (mt_T j) := by rw [mt_pI_in hc, mt_T_T hj]
    have ej : nI j = nI (mt_T (mt_T j)) := by rw [mt_T_T hj]
    have kz : rh_K w t (rz (u1 4)) = rh_K w t (rz (u1 4)) := rfl
    -- what is found now is found in the end
    have sub : ∀ e, e < 3 → rh_K w t (rz (u1 4)) e → rh_h M e := fun e he q => (hL.2.1.2 e he).2 (rh_K_mono (fun c hc q => H.2.2.1 c hc q) q)
    have fin : ∀ y : Int32, (y = 0 ∨ y = 1) → (y = 1 → rh_M w (rh_h M) (mt_T j)) → (y = 0 → ¬ rh_M w (rh_K w t (rz (u1 4))) (mt_T j)) → ∃ nn, wf_X9_spreads_71 K (fun (w23 : Int32) (w24 : Int32) (s25 : dk_S) => ∀ v26 : Int32, v26 = w24 + 1 → wf_X9_spreads_4 K m w23 v26 s25) nn f1 (nI j) y 0 u1 := by
      intro y hy h1 h2
      rw [ej]
      refine km_sp_ways (y := y) I hM hc hy H h1 (fun e e0 q => h2 e (rh_M_mono (fun x hx r => rh_K_mono (fun c hc r2 => H.2.2.2.1 c hc r2) r) q)) (fun u2 f2 H2 => ?_)
      rw [mt_T_T hj]
      refine nm_r (nI_1 j) (next (u2, f2) ⟨H2.1, H2.2.1, H2.2.2.1, H2.2.2.2.1, ?_⟩)
      rcases H2.2.2.2.2 with ⟨g1, g2, g3, g4⟩ | g
      · refine Or.inl ⟨g1, g2, fun i hi => ?_⟩
        by_cases e : i = j
        · rw [e]; exact g4
        · exact g3 i (by omega)
      · exact Or.inr g
    have yes : rh_M w (rh_h M) (mt_T j) → wf_X9_spreads_62 K (wf_X9_spreads_4 K m) f1 (nI j) u1 := fun q => by
      unfold wf_X9_spreads_62
      exact fin 1 (Or.inr rfl) (fun _ => q) (fun e => absurd e (by decide))
    unfold wf_X9_spreads_4
    refine br_f (nI_ge (b := 144) hj (by decide)) ?_
    have q : wf_X9_isFree (mt_pI (mt_T j)) u1 (fun r3 s2 => ((¬ r3 = 0 → wf_X9_spreads_62 K (wf_X9_spreads_4 K m) f1 (nI j) s2) ∧ (r3 = 0 → (vp_in (nI j) 144 ∧ (((s2 4 75 (nI j).toNatClampNeg) = 43 → wf_X9_spreads_62 K (wf_X9_spreads_4 K m) f1 (nI j) s2) ∧ (¬ (s2 4 75 (nI j).toNatClampNeg) = 43 → (vp_in (nI j) 144 ∧ wf_X9_in (s2 4 75 (nI j).toNatClampNeg) 48 50 s2 (fun r5 s4 => ((r5 = 0 → ∃ nn10 : Nat, wf_X9_spreads_71 K (fun (w6 : Int32) (w7 : Int32) (s8 : dk_S) => ∀ v9 : Int32, v9 = w7 + 1 → wf_X9_spreads_4 K m w6 v9 s8) nn10 f1 (nI j) 0 0 s4) ∧ (¬ r5 = 0 → (vp_in (nI j) 144 ∧ wf_X9_hasFound ((s4 4 75 (nI j).toNatClampNeg) - 48) s4 (fun r12 s11 => ((r12 = 0 → ∃ nn17 : Nat, wf_X9_spreads_71 K (fun (w13 : Int32) (w14 : Int32) (s15 : dk_S) => ∀ v16 : Int32, v16 = w14 + 1 → wf_X9_spreads_4 K m w13 v16 s15) nn17 f1 (nI j) 0 0 s11) ∧ (¬ r12 = 0 → wf_X9_spreads_62 K (wf_X9_spreads_4 K m) f1 (nI j) s11)))))))))))))) := by
      refine km_isFree R (by omega) (fun f => dq_1' (yes ?_)) (fun f => dq_0' ⟨vp_in_nI hj (by decide), ?_⟩)
      · rw [dq_sg_in hc] at f; exact Or.inl f
      · rw [dq_sg_in hc] at f
        rw [nI_clamp (by omega), cell]
        refine br_c (fun g => yes (Or.inr (Or.inl g))) (fun g => ⟨vp_in_nI hj (by decide), ?_⟩)
        have lk : mr_in (w 2 (mt_T j)) 48 50 ↔ ∃ e, e < 3 ∧ w 2 (mt_T j) = 48 + nI e := by
          constructor
          · rintro ⟨h1, h2⟩
            have e48 : (48 : Int32).toInt = 48 := rfl
            have e50 : (50 : Int32).toInt = 50 := rfl
            rw [Int32.lt_iff_toInt_lt] at h1 h2
            refine ⟨((w 2 (mt_T j)).toInt - 48).toNat, by omega, ?_⟩
            rw [dq_iN, show (48 : Int32) = dq_iI 48 from rfl, dq_iadd]
            exact dq_of_int (by omega)
          · rintro ⟨e, he, h1⟩
            rw [h1]
            have : ∀ e, e < 3 → ¬ (48 : Int32) + nI e < 48 ∧ ¬ 50 < (48 : Int32) + nI e := by decide +kernel
            exact this e he
        refine km_in (fun g2 => dq_1 ⟨vp_in_nI hj (by decide), ?_⟩) (fun g2 => dq_0 (fin 0 (Or.inl rfl) (fun e => absurd e (by decide)) (fun _ => ?_)))
        · obtain ⟨e, he, g3⟩ := lk.1 g2
          rw [cell, g3, (rh_lock e he).2.2.2]
          refine km_hasFound R I (fun q => dq_1 (yes (Or.inr (Or.inr ⟨e, he, g3, sub e he q⟩)))) (fun q => dq_0 (fin 0 (Or.inl rfl) (fun e => absurd e (by decide)) (fun _ => ?_))) he
          rintro (r | r | ⟨y, hy, r1, r2⟩)
          · exact f r
          · exact g r
          · have e1 : (48 : Int32) + nI e - 48 = (48 : Int32) + nI y - 48 := by rw [← g3, r1]
            rw [(rh_lock e he).2.2.2, (rh_lock y hy).2.2.2] at e1
            have : e = y := (nI_eq (by omega) (by omega)).1 e1
            rw [← this] at r2
            exact q r2
        · rintro (r | r | ⟨y, hy, r1, _⟩)
          · exact f r
          · exact g r
          · exact g2 (lk.2 ⟨y, hy, r1⟩)
    rw [← ei] at q
    exact q
theorem km_isReachable {x y : Int32} (R : mr_R w (s 4)) (I : dq_IV n t l w) (k1 : ¬ mr_pl x y → K 0 (mx_F s 1)) (k2 : mr_pl x y → ¬ s 4 60 1 = 111 → K 0 (mx_F s 2))
    (kk : ∀ a b, a < 12 → b < 12 → x = nI a → y = nI b → s 4 60 1 = 111 → ∃ M, rh_L w t M ∧ (rh_R w M (12 * a + b) → ∀ u, mx_P w (mx_F s 0) u → K 1 u) ∧ (¬ rh_R w M (12 * a + b) → ∀ u, mx_P w (mx_F s 0) u → K 0 u)) : wf_X9_isReachable x y s K := by
  unfold wf_X9_isReachable
  have fault : ∀ e : Int32, ¬ e = 0 → K 0 (mx_F s e) → wf_X9_isReachable_25 K x y e s := fun e he h => by
    unfold wf_X9_isReachable_25
    exact km_goesN he (dq_0' h)
  refine km_isPlace (fun h => dq_1' (km_isOn (fun on => dq_1' ?_) (fun g => dq_0' (fault 2 (by decide) (k2 h g))))) (fun h => dq_0' (fault 1 (by decide) (k1 h)))
  obtain ⟨a, b, ha, hb, ex, ey⟩ := mr_pl_n h
  obtain ⟨M, hL, y1, y0⟩ := kk a b ha hb ex ey on
  subst ex
  subst ey
  have R1 : mr_R w (mx_F s 0 4) := mx_F_R R
  have hp := (I.pl 0 (by decide)).1
  unfold wf_X9_isReachable_25
  refine km_goes0 (dq_1' ?_)
  refine loop_0 (fun m i u => wf_X9_isReachable_35 K _ m (nI a) (nI b) (nI i) u) (fun i u => mx_P w (mx_F s 0) u ∧ ∀ j, j < i → u 4 87 j = if j = mt_T (dq_pl w 0) then 1 else 0) 144 (mx_F s 0) ⟨mx_P.rf R1, fun j hj => absurd hj (Nat.not_lt_zero _)⟩ ?_ ?_
  · rintro m u ⟨P, h87⟩
    show wf_X9_isReachable_35 K _ (m + 1) (nI a) (nI b) (nI 144) u
    unfold wf_X9_isReachable_35
    refine br_t (by decide) ?_
    have e87 : ∀ c, c < 144 → u 4 87 (mt_T c) = if c = dq_pl w 0 then 1 else 0 := fun c hc => by
      rw [h87 _ (mt_T_lt hc)]
      by_cases e : c = dq_pl w 0
      · rw [if_pos e, if_pos (by rw [e])]
      · rw [if_neg e, if_neg (fun q => e ((mt_T_i hc hp).1 q))]
    have run := loop_m (σ := dk_S × Int32) (fun m x => wf_X9_isReachable_71 K (fun (w12 : Int32) (w13 : Int32) (s14 : dk_S) => wf_X9_at w12 w13 s14 (fun r16 s15 => (vp_in r16 144 ∧ (narrow .boolean (.int (s15 4 87 r16.toNatClampNeg)) = .int (s15 4 87 r16.toNatClampNeg) ∧ K (s15 4 87 r16.toNatClampNeg) s15)))) m (nI a) (nI b) x.2 x.1)
      (fun x => mx_P w (mx_F s 0) x.1 ∧ rz_01 (x.1 4) ∧ rz (x.1 4) (dq_pl w 0) ∧ (∀ c, c < 144 → rz (x.1 4) c → rh_R w M c) ∧ (x.2 = 1 ∨ (x.2 = 0 ∧ ∀ c, c < 144 → rz_C w t (rz (x.1 4)) c)))
      (fun x => 2 * rz_n (rz (x.1 4)) + (if x.2 = 0 then 0 else 1)) (fun m x H next => by
        obtain ⟨u1, f1⟩ := x
        obtain ⟨P1, z01, zh, zR, hf⟩ := H
        have P1 : mx_P w (mx_F s 0) u1 := P1
        show wf_X9_isReachable_71 K _ (m + 1) (nI a) (nI b) f1 u1
        unfold wf_X9_isReachable_71
        rcases hf with rfl | ⟨rfl, hcl⟩
        · refine br_f (by decide) (km_spreads (z0 := rz (u1 4)) I hL ⟨P1, z01, zR, fun _ _ q => q, Or.inl ⟨rfl, fun _ _ => Iff.rfl, trivial⟩⟩ (fun u2 f2 _ H2 => next (u2, f2) ⟨H2.1, H2.2.1, H2.2.2.2.1 _ hp zh, H2.2.2.1, ?_⟩ ?_))
          · rcases H2.2.2.2.2 with ⟨g1, g2, g3⟩ | g
            · refine Or.inr ⟨g1, fun c hc => ?_⟩
              have kz : ∀ e, rh_K w t (rz (u2 4)) e → rh_K w t (rz (u1 4)) e := fun e q => rh_K_mono (fun c hc q => (g2 c hc).1 q) q
              rcases g3 c hc with q | q | q
              · exact Or.inl ((g2 c hc).2 q)
              · exact Or.inr (Or.inl fun r => q (rh_M_mono (fun e _ r2 => kz e r2) r))
              · exact Or.inr (Or.inr fun v hv hn r => q v hv hn ((g2 _ hn).1 r))
            · exact Or.inl g.1
          · show 2 * rz_n (rz (u2 4)) + (if f2 = 0 then 0 else 1) < 2 * rz_n (rz (u1 4)) + 1
            rcases H2.2.2.2.2 with ⟨g1, g2, g3⟩ | ⟨g1, x, g2, g3, g4⟩
            · have : rz_n (rz (u2 4)) = rz_n (rz (u1 4)) := dq_sm_eq 144 (fun c hc => dq_if_c (g2 c hc))
              rw [this, g1, if_pos rfl]; omega
            · have := rz_n_lt H2.2.2.2.1 g2 g3 g4
              rw [g1, if_neg (by decide)]; omega
        · refine br_t rfl (km_at ha hb ?_)
          have hc2 : 12 * a + b < 144 := by omega
          have lT := mt_T_lt hc2
          refine ⟨vp_in_nI lT (by decide), ?_⟩
          rw [nI_clamp (by omega)]
          have same := rh_same (z := rz (u1 4)) I hL zh zR (fun c hc hz v hv hn hM => by
            rcases hcl _ hn with q | q | q
            · exact q
            · exact absurd hM q
            · have hbk := dq_nb_back c hc v hv hn
              have := q ((v + 2) % 4) (by omega) (by rw [hbk]; exact hc)
              rw [hbk] at this
              exact absurd hz this) hc2
          rcases z01 _ hc2 with e | e
          · have e : u1 4 87 (mt_T (12 * a + b)) = 0 := e
            rw [e]
            exact ⟨dq_nz0, y0 (fun q => same.2 q e) u1 P1⟩
          · have e : u1 4 87 (mt_T (12 * a + b)) = 1 := e
            have nz : rz (u1 4) (12 * a + b) := by
              show ¬ u1 4 87 (mt_T (12 * a + b)) = 0
              rw [e]; decide
            rw [e]
            exact ⟨dq_nz1, y1 (same.1 nz) u1 P1⟩) (u, 1) ⟨P, fun c hc => by
        show u 4 87 (mt_T c) = 0 ∨ u 4 87 (mt_T c) = 1
        rw [e87 c hc]
        by_cases e : c = dq_pl w 0
        · rw [if_pos e]; exact Or.inr rfl
        · rw [if_neg e]; exact Or.inl rfl, by
        show ¬ u 4 87 (mt_T (dq_pl w 0)) = 0
        rw [e87 _ hp, if_pos rfl]; decide, fun c hc q => by
        have q : ¬ u 4 87 (mt_T c) = 0 := q
        rw [e87 c hc] at q
        by_cases e : c = dq_pl w 0
        · rw [e]; exact rh_R_0
        · rw [if_neg e] at q; exact absurd rfl q, Or.inl rfl⟩
    exact run
  · rintro m i u hi ⟨P, h87⟩ next
    show wf_X9_isReachable_35 K _ (m + 1) (nI a) (nI b) (nI i) u
    unfold wf_X9_isReachable_35
    have e76 : u 4 76 (0 : Int32).toNatClampNeg = nI (mt_T (dq_pl w 0)) := mr_place P.1 I.pl (b := 0) (by decide)
    have hpT := mt_T_lt hp
    have fin : ∀ v : Int32, v = (if i = mt_T (dq_pl w 0) then 1 else 0) → mx_P w (mx_F s 0) (dq_st u 4 87 i v) ∧ ∀ j, j < i + 1 → dq_st u 4 87 i v 4 87 j = if j = mt_T (dq_pl w 0) then 1 else 0 := fun v hv => by
      refine ⟨P.st (P.1.out (Or.inl (by decide))) (by unfold mk_g; omega), fun j hj => ?_⟩
      rw [dq_st_p]
      by_cases e : j = i
      · rw [e, dq_set_eq, hv]
      · rw [dq_set_ne (Or.inr e)]; exact h87 j (by omega)
    refine br_f (nI_ge (b := 144) hi (by decide)) ⟨dq_v0 (by decide) (by decide), ?_⟩
    rw [e76, nI_clamp (by omega)]
    refine dq_rb (fun g => ⟨vp_in_nI hi (by decide), mx_put (v := 0) (nm_r (nI_1 i) (next _ (fin 0 ?_)))⟩) (fun g => ⟨vp_in_nI hi (by decide), mx_put (v := 1) (nm_r (nI_1 i) (next _ (fin 1 ?_)))⟩)
    · rw [if_neg (fun q => g (congrArg nI q))]
    · rw [if_pos ((nI_eq (by omega) (by omega)).1 g)]
end DRZ
