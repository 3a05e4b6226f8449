/-! the reference: a world begins -/
def dq_fw (w : dq_W) (i : Nat) : Prop := ∀ k, k < i → dq_free (w 2 (dq_pl w k)) ∧ ∀ j, j < k → dq_pl w j ≠ dq_pl w k
noncomputable def mb_al (P : Prop) : Int32 := dq_if P 1 0
theorem mb_al_t {P : Prop} (h : P) : mb_al P = 1 := dq_if_t h
theorem mb_al_f {P : Prop} (h : ¬ P) : mb_al P = 0 := dq_if_f h
theorem mb_al_c {P Q : Prop} (h : P ↔ Q) : mb_al P = mb_al Q := dq_if_c h
theorem dq_fw_s {w : dq_W} {i : Nat} : dq_fw w (i + 1) ↔ ((dq_fw w i ∧ dq_free (w 2 (dq_pl w i))) ∧ ∀ j, j < i → dq_pl w j ≠ dq_pl w i) := by
  constructor
  · intro h
    exact ⟨⟨fun k hk => h k (by omega), (h i (by omega)).1⟩, (h i (by omega)).2⟩
  · rintro ⟨⟨h1, h2⟩, h3⟩ k hk
    by_cases e : k = i
    · subst e; exact ⟨h2, h3⟩
    · exact h1 k (by omega)
/-- bones: what was carried, with its bags -/
def dq_BV (t : Nat) (B : Nat → Int32) : Prop := ∃ r : Nat → Nat, ∀ i, i < 24 → B i = -2 ∨ (i < t ∧ (B i = -1 ∨ ∃ b, b < t ∧ B i = (-3) - nI b ∧ B b ≠ -2 ∧ r b < r i))
def dq_SP (sp : Int32) : Prop := sp = -1 ∨ ∃ c, c < 144 ∧ sp = nI c
/-- the bones as the reference has them -/
def mr_B (t : Nat) (B : Nat → Int32) (sp : Int32) (m : dq_W) : Prop :=
  m 60 32 = mt_V sp ∧ (∀ i, t ≤ i → m 84 i = 0) ∧ (sp ≠ -1 → ∀ i, i < 24 → (B i = -2 ∧ m 84 i = 0) ∨ (B i ≠ -2 ∧ m 84 i = 1 ∧ m 85 i = mt_V (B i)))
theorem dq_BV.neg {t : Nat} {B : Nat → Int32} (V : dq_BV t B) {i : Nat} (hi : i < 24) (ht : t ≤ 24) : B i < 0 := by
  obtain ⟨r, h⟩ := V
  rcases h i hi with e | ⟨_, e | ⟨b, hb, e, _⟩⟩
  · rw [e]; decide
  · rw [e]; decide
  · rw [e]; exact dq_bag_neg (by omega)
theorem dq_BV.out {t : Nat} {B : Nat → Int32} (V : dq_BV t B) {i : Nat} (hi : i < 24) (ht : t ≤ i) : B i = -2 := by
  obtain ⟨r, h⟩ := V
  rcases h i hi with e | ⟨g, _⟩
  · exact e
  · omega
theorem dq_BV.mono {t t' : Nat} {B : Nat → Int32} (V : dq_BV t B) (h : t ≤ t') : dq_BV t' B := by
  obtain ⟨r, g⟩ := V
  refine ⟨r, fun i hi => ?_⟩
  rcases g i hi with e | ⟨g, e | ⟨b, hb, e⟩⟩
  · exact Or.inl e
  · exact Or.inr ⟨by omega, Or.inl e⟩
  · exact Or.inr ⟨by omega, Or.inr ⟨b, by omega, e⟩⟩
theorem dq_sm_ge {r : Nat → Nat} : ∀ n i, i < n → r i ≤ dq_sm r n
  | 0, i, h => absurd h (Nat.not_lt_zero _)
  | n + 1, i, h => by
    show r i ≤ dq_sm r n + r n
    by_cases e : i = n
    · rw [e]; omega
    · have := dq_sm_ge (r := r) n i (show i < n by omega)
      omega
theorem ax_lay_t24 {w : dq_W} {t : Nat} {B : Nat → Int32} {sp : Int32} (V : dq_BV t B) (ht : t ≤ 24) : ax_lay B sp t w = ax_lay B sp 24 w := by
  funext q k
  unfold ax_lay
  by_cases c : q = 25 ∧ k < 24 ∧ B k ≠ -2
  · have : k < t := Nat.lt_of_not_le fun g => c.2.2 (V.out c.2.1 g)
    rw [if_pos c, if_pos ⟨c.1, this, c.2.2⟩]
  · rw [if_neg c, if_neg fun g => c ⟨g.1, by omega, g.2.2⟩]
theorem ax_bones_I {w : dq_W} {n t l : Nat} {B : Nat → Int32} {sp : Int32} (I : dq_IV n t l w) (V : dq_BV t B) : dq_IV n t l (ax_bones B sp w) := by
  unfold ax_bones
  by_cases c : ∃ c, c < 144 ∧ sp = nI c ∧ dq_free (w 2 c)
  · rw [dq_if_t c]
    obtain ⟨c0, hc, ec, _⟩ := c
    have e25 : ∀ x, x < 24 → ax_lay B sp 24 w 25 x = if B x ≠ -2 then (if B x = -1 then sp else B x) else w 25 x := fun x hx => by
      unfold ax_lay
      by_cases g : B x ≠ -2
      · rw [if_pos ⟨rfl, hx, g⟩, if_pos g]
      · rw [if_neg (fun h => g h.2.2), if_neg g]
    have ht := I.t24
    obtain ⟨r, hr⟩ := V
    obtain ⟨r0, hr0⟩ := I.ac
    refine I.p25 (fun q hq => funext fun k => ax_lay_o (Or.inl hq)) (fun x hx => ?_) ⟨fun x => if x < 24 ∧ B x ≠ -2 then r x else dq_sm r 24 + 1 + r0 x, fun x hx hb => ?_⟩
    · rw [e25 x hx]
      by_cases g : B x ≠ -2
      · rw [if_pos g]
        rcases hr x hx with e | ⟨_, e | ⟨b, hb, e, _⟩⟩
        · exact absurd e g
        · rw [if_pos e]; exact Or.inr (Or.inr (Or.inl ⟨c0, hc, ec⟩))
        · have : B x ≠ -1 := by
            rw [e]; intro q
            have := dq_bg_yes (f := fun _ _ => (-3) - nI b) (x := 0) (show b < 24 by omega) rfl
            have h2 := dq_bg_no (f := fun _ _ => (-3) - nI b) (x := 0) (v := -1) q (by decide)
            omega
          rw [if_neg this, e]; exact Or.inr (Or.inr (Or.inr ⟨b, hb, rfl⟩))
      · rw [if_neg g]; exact I.tp x hx
    · by_cases g : B x ≠ -2
      · have e1 := e25 x hx
        rw [if_pos g] at e1
        rcases hr x hx with e | ⟨_, e | ⟨b, hb2, e, h2, h3⟩⟩
        · exact absurd e g
        · rw [if_pos e] at e1
          refine absurd (dq_bg_no e1 ?_) hb
          rw [ec]
          have := nI_pos (show c0 < 2 ^ 31 by omega)
          rw [Int32.lt_iff_toInt_lt] at *
          rw [nI_toInt (by omega)]
          have : (-3 : Int32).toInt = -3 := rfl
          omega
        · have hn : B x ≠ -1 := by
            rw [e]; intro q
            have := dq_bg_yes (f := fun _ _ => (-3) - nI b) (x := 0) (show b < 24 by omega) rfl
            have h2 := dq_bg_no (f := fun _ _ => (-3) - nI b) (x := 0) (v := -1) q (by decide)
            omega
          rw [if_neg hn, e] at e1
          rw [dq_bg_yes (show b < 24 by omega) e1]
          show (if b < 24 ∧ B b ≠ -2 then _ else _) < (if x < 24 ∧ B x ≠ -2 then _ else _)
          rw [if_pos ⟨by omega, h2⟩, if_pos ⟨hx, g⟩]; exact h3
      · have e1 := e25 x hx
        rw [if_neg g] at e1
        have e2 : dq_bg (ax_lay B sp 24 w) x = dq_bg w x := dq_bg_c e1
        rw [e2] at hb ⊢
        have h3 := hr0 x hx hb
        show (if dq_bg w x < 24 ∧ B (dq_bg w x) ≠ -2 then _ else _) < (if x < 24 ∧ B x ≠ -2 then _ else _)
        rw [if_neg (show ¬ (x < 24 ∧ B x ≠ -2) from fun q => g q.2)]
        by_cases g2 : dq_bg w x < 24 ∧ B (dq_bg w x) ≠ -2
        · rw [if_pos g2]
          have := dq_sm_ge (r := r) 24 _ g2.1
          omega
        · rw [if_neg g2]; omega
  · rw [dq_if_f c]; exact I
theorem dq_bp_V {w : dq_W} {n t l : Nat} (I : dq_IV n t l w) : dq_BV t (dq_bp w t) := by
  obtain ⟨r, hr⟩ := I.ac
  have ht := I.t24
  refine ⟨r, fun i hi => ?_⟩
  unfold dq_bp
  by_cases c : i < t ∧ dq_cr w i
  · rw [dq_if_t c]
    refine Or.inr ⟨c.1, ?_⟩
    have top : dq_bg w i = 24 → w 25 i = -1 := fun e => by
      have := c.2
      unfold dq_cr at this
      rw [dq_ou_top e] at this
      exact this
    rcases I.tp i hi with e | e | ⟨p, hp, e⟩ | ⟨b, hb, e⟩
    · exact Or.inl e
    · exact Or.inl (top (dq_bg_no e (by decide)))
    · refine Or.inl (top (dq_bg_no e ?_))
      have := nI_pos (show p < 2 ^ 31 by omega)
      rw [Int32.lt_iff_toInt_lt] at *
      rw [nI_toInt (by omega)]
      have : (-3 : Int32).toInt = -3 := rfl
      omega
    · have eb : dq_bg w i = b := dq_bg_yes (by omega) e
      have hcr : dq_cr w b := by
        have := c.2
        unfold dq_cr at this ⊢
        rw [dq_ou_bg I.tp ht I.ac hi (by omega), eb] at this
        exact this
      refine Or.inr ⟨b, hb, e, ?_, ?_⟩
      · rw [dq_if_t ⟨hb, hcr⟩]
        intro q
        unfold dq_cr at hcr
        rw [dq_ou_top (dq_bg_no q (by decide)), q] at hcr
        exact absurd hcr (by decide)
      · have := hr i hi (by omega)
        rw [eb] at this
        exact this
  · rw [dq_if_f c]; exact Or.inl rfl
section DMW
variable {n t l : Nat} {w : dq_W} {s u : dk_S} {K : Int32 → dk_S → Prop} {J : dk_S → Prop}
theorem mr_C.p67 (C : mr_C w (s 4)) (hP : dq_PL w) {k : Nat} (hk : k < 8) : s 4 67 k = nI (mt_T (dq_pl w k)) := by
  rw [C.c67 hk, (hP k hk).2, mt_V_c (hP k hk).1]
theorem km_sw_in {i : Nat} (C : mr_C w (s 4)) (hP : dq_PL w) (hi : i < 8) {f : Int32} {P : Prop} (hf : f = mb_al P) {E : Int32 → Int32 → dk_S → Prop} (h : E (mb_al (P ∧ ∀ j, j < i → dq_pl w j ≠ dq_pl w i)) (nI i) s) : ∃ nn, wf_X9_isSetWell_41 K E nn f (nI i) 0 s := by
  have e0 : f = mb_al (P ∧ ∀ j, j < 0 → dq_pl w j ≠ dq_pl w i) := hf.trans (mb_al_c ⟨fun q => ⟨q, fun j hj => absurd hj (Nat.not_lt_zero _)⟩, fun q => q.1⟩)
  rw [e0]
  refine dq_lp (fun m j x => wf_X9_isSetWell_41 K E m x (nI i) (nI j) s) (fun j => mb_al (P ∧ ∀ j', j' < j → dq_pl w j' ≠ dq_pl w i)) i (fun m => ?_) (fun m j hj g => ?_) (Nat.zero_le _)
  · show wf_X9_isSetWell_41 K E (m + 1) _ (nI i) (nI i) s
    unfold wf_X9_isSetWell_41
    exact br_t (nI_le (Nat.le_refl _) (by omega)) h
  · have g : wf_X9_isSetWell_41 K E m (mb_al (P ∧ ∀ j', j' < j + 1 → dq_pl w j' ≠ dq_pl w i)) (nI i) (nI (j + 1)) s := g
    show wf_X9_isSetWell_41 K E (m + 1) (mb_al (P ∧ ∀ j', j' < j → dq_pl w j' ≠ dq_pl w i)) (nI i) (nI j) s
    unfold wf_X9_isSetWell_41
    refine br_f (nI_ge hj (by omega)) ?_
    have e1 : s 4 67 (nI j).toNatClampNeg = nI (mt_T (dq_pl w j)) := by rw [nI_clamp (by omega)]; exact C.p67 hP (by omega)
    have e2 : s 4 67 (nI i).toNatClampNeg = nI (mt_T (dq_pl w i)) := by rw [nI_clamp (by omega)]; exact C.p67 hP hi
    have hpi := (hP i hi).1
    have hpj := (hP j (by omega)).1
    by_cases c : P ∧ ∀ j', j' < j → dq_pl w j' ≠ dq_pl w i
    · rw [mb_al_t c, e1, e2]
      refine dq_1 ⟨vp_in_nI (show j < 8 by omega) (by decide), vp_in_nI hi (by decide), fun q => nm_r (nI_1 j) ?_, fun q => nm_r (nI_1 j) ?_⟩
      · have : dq_pl w j = dq_pl w i := (mt_T_i hpj hpi).1 ((nI_eq (by have := mt_T_lt hpj; omega) (by have := mt_T_lt hpi; omega)).1 q)
        rw [mb_al_f (fun r => r.2 j (by omega) this)] at g
        exact g
      · have hh : P ∧ ∀ j', j' < j + 1 → dq_pl w j' ≠ dq_pl w i := ⟨c.1, fun j' hj' => by
          by_cases e : j' = j
          · rw [e]; exact fun r => q (by rw [r])
          · exact c.2 j' (by omega)⟩
        rw [mb_al_t hh] at g
        exact g
    · rw [mb_al_f c]
      rw [mb_al_f (fun r => c ⟨r.1, fun j' hj' => r.2 j' (by omega)⟩)] at g
      exact dq_0 (nm_r (nI_1 j) g)
theorem km_isSetWell (C : mr_C w (s 4)) (hn : w 13 9 = nI n) (n8 : n ≤ 8) (hP : dq_PL w) (k1 : dq_fw w n → K 1 s) (k0 : ¬ dq_fw w n → K 0 s) : wf_X9_isSetWell s K := by
  unfold wf_X9_isSetWell
  have en : s 4 60 10 = nI n := C.2.1.trans hn
  have e0 : (1 : Int32) = mb_al (dq_fw w 0) := (mb_al_t fun k hk => absurd hk (Nat.not_lt_zero _)).symm
  rw [e0]
  refine dq_lp (fun m i x => wf_X9_isSetWell_4 K m x (nI i) s) (fun i => mb_al (dq_fw w i)) n (fun m => ?_) (fun m i hi g => ?_) (Nat.zero_le _)
  · show wf_X9_isSetWell_4 K (m + 1) (mb_al (dq_fw w n)) (nI n) s
    unfold wf_X9_isSetWell_4
    rw [en]
    refine br_t (nI_le (Nat.le_refl _) (by omega)) ?_
    by_cases c : dq_fw w n
    · rw [mb_al_t c]; exact ⟨dq_nz1, k1 c⟩
    · rw [mb_al_f c]; exact ⟨dq_nz0, k0 c⟩
  · have g : wf_X9_isSetWell_4 K m (mb_al (dq_fw w (i + 1))) (nI (i + 1)) s := g
    show wf_X9_isSetWell_4 K (m + 1) (mb_al (dq_fw w i)) (nI i) s
    unfold wf_X9_isSetWell_4
    rw [en]
    refine br_f (nI_ge hi (by omega)) ?_
    rw [mb_al_c dq_fw_s] at g
    have hpi := (hP i (by omega)).1
    have e1 : s 4 67 (nI i).toNatClampNeg = nI (mt_T (dq_pl w i)) := by rw [nI_clamp (by omega)]; exact C.p67 hP (by omega)
    have e2 : s 4 61 (nI (mt_T (dq_pl w i))).toNatClampNeg = w 2 (dq_pl w i) := by rw [nI_clamp (by have := mt_T_lt hpi; omega), C.c61 (mt_T_lt hpi), mt_T_T hpi]
    by_cases c : dq_fw w i
    · rw [mb_al_t c, e1, e2]
      refine dq_1 ⟨vp_in_nI (show i < 8 by omega) (by decide), vp_in_nI (mt_T_lt hpi) (by decide), km_isFreeKind (fun f => dq_1 ?_) (fun f => dq_0 ?_)⟩
      · exact km_sw_in C hP (by omega) (mb_al_t ⟨c, f⟩).symm (nm_r (nI_1 i) g)
      · exact km_sw_in (P := dq_fw w i ∧ dq_free (w 2 (dq_pl w i))) C hP (by omega) (mb_al_f fun r => f r.2).symm (nm_r (nI_1 i) g)
    · rw [mb_al_f c]
      exact dq_0 (km_sw_in (P := dq_fw w i ∧ dq_free (w 2 (dq_pl w i))) C hP (by omega) (mb_al_f fun r => c r.1).symm (nm_r (nI_1 i) g))
theorem mr_R.o6 {m : dq_W} {v : Int32} (R : mr_R w m) : mr_R (dq_set w 0 6 v) m := by
  obtain ⟨h1, ⟨⟨a1, a2, a3⟩, a4, a5, a6⟩, h3, h4⟩ := R
  have e : ∀ q, q ≠ 0 → dq_set w 0 6 v q = w q := fun q hq => dq_set_r hq
  have e0 : ∀ k, k ≠ 6 → dq_set w 0 6 v 0 k = w 0 k := fun k hk => dq_set_ne (Or.inr hk)
  refine ⟨fun a k hk => ?_, ⟨⟨?_, ?_, ?_⟩, ?_, ?_, ?_⟩, fun d hd => ?_, fun b hb => ?_⟩
  · have := mt_q0 a (mt_l_hi (show 0 < mt_l a by omega)) (by omega)
    rw [e _ this.1]; exact h1 a k hk
  · rw [e0 5 (by decide)]; exact a1
  · rw [e 13 (by decide)]; exact a2
  · rw [e 23 (by decide)]; exact a3
  · rw [e 26 (by decide)]; exact a4
  · rw [e0 8 (by decide)]; exact a5
  · rw [e0 7 (by decide)]; exact a6
  · unfold mt_kb mt_kn
    rw [e0 9 (by decide)]; exact h3 d hd
  · rw [e 21 (by decide), e 20 (by decide)]; exact h4 b hb
/-- the world as it begins, from s -/
def mx_B (W : dq_W) (s : dk_S) (x : Int32) (v : dk_S) : Prop :=
  mr_R W (v 4) ∧ v 4 60 1 = 111 ∧ v 4 60 3 = x ∧ (∀ a k, mk_g a k → ¬ (a = 60 ∧ (k = 1 ∨ k = 3)) → v 4 a k = s 4 a k) ∧ dq_fr 4 s v
theorem km_begin {x : Int32} {B : Nat → Int32} {sp o : Int32} (T : mr_T w (s 4)) (I : dq_IV n t l w) (V : dq_BV t B) (hsp : dq_SP sp) (hB : mr_B t B sp (s 4)) (k1 : x < 0 → K 0 (mx_F s 1)) (k2 : ¬ x < 0 → (s 4 60 1 = 111 ∨ ¬ dq_fw w n) → K 0 (mx_F s 2))
    (kk : ¬ x < 0 → ¬ s 4 60 1 = 111 → dq_fw w n → (dq_JV n t l (ax_bones B sp (dq_set w 0 6 o)) ∧ dq_lv (ax_bones B sp (dq_set w 0 6 o)) 0) ∧ ∀ v u, mx_B (ax_bones B sp (dq_set w 0 6 o)) (mx_F s 0) x v → mx_E t (ax_wait n 4000 (ax_bones B sp (dq_set w 0 6 o))) v u → K (u 4 60 2) u) : wf_X9_begin x s K := by
  unfold wf_X9_begin
  have fault : ∀ e : Int32, ¬ e = 0 → K 0 (mx_F s e) → wf_X9_begin_28 K x e s := fun e he q => by
    unfold wf_X9_begin_28
    exact km_goesN he (dq_0' q)
  have lt0 : ∀ {y : Int32}, 0 ≤ y ↔ ¬ y < 0 := fun {y} => by
    rw [Int32.le_iff_toInt_le, Int32.lt_iff_toInt_lt]
    have : (0 : Int32).toInt = 0 := rfl
    omega
  refine ⟨fun hx => km_isOn (fun on => dq_1' (fault 2 (by decide) (k2 (lt0.1 hx) (Or.inl on)))) (fun g => dq_0' (km_isSetWell T.1 I.hn I.h8 I.pl (fun hw => dq_1' ?_) (fun hw => dq_0' (fault 2 (by decide) (k2 (lt0.1 hx) (Or.inr hw)))))), fun hx => fault 1 (by decide) (k1 (Classical.byContradiction fun q => hx (lt0.2 q)))⟩
  obtain ⟨⟨JV, hl⟩, k⟩ := kk (lt0.1 hx) g hw
  have ht := I.t24
  unfold wf_X9_begin_28
  refine km_goes0 (dq_1' (km_becomes (mx_F_C (e := 0) T.1) T.2.1 T.2.2 fun u1 R1 o1 f1 => mx_put (mx_put ?_)))
  have B1 : mx_B w (mx_F s 0) x (dq_st (dq_st u1 4 60 3 x) 4 60 1 111) := by
    refine ⟨?_, mx_st_e, (mx_st_q (by decide)).trans mx_st_e, fun a j hg hn => ?_, (f1.tr dq_st_fr).tr dq_st_fr⟩
    · rw [dq_st_p, dq_st_p]
      exact (R1.out (Or.inr ⟨rfl, by decide⟩)).out (Or.inr ⟨rfl, by decide⟩)
    · rw [mx_st_q (by omega), mx_st_q (by omega)]; exact o1 a j hg
  have R6 : mr_R (dq_set w 0 6 o) ((dq_st (dq_st u1 4 60 3 x) 4 60 1 111) 4) := B1.1.o6
  have B2 : mx_B (dq_set w 0 6 o) (mx_F s 0) x (dq_st (dq_st u1 4 60 3 x) 4 60 1 111) := ⟨R6, B1.2⟩
  revert B2
  generalize dq_st (dq_st u1 4 60 3 x) 4 60 1 111 = v0
  intro B2
  -- the end
  have fin : ∀ v, mx_B (ax_bones B sp (dq_set w 0 6 o)) (mx_F s 0) x v → wf_X9_goesToHero v (fun s21 => K (s21 4 60 2) s21) := fun v Bv => km_goesToHero Bv.1 JV Bv.2.1 hl fun u E => k v u Bv E
  have e32 : v0 4 60 32 = mt_V sp := (B2.2.2.2.1 60 32 (by unfold mk_g; omega) (by omega)).trans ((mx_F_1 (by decide)).trans hB.1)
  have et : ∀ {W v}, mx_B W (mx_F s 0) x v → W 23 2 = nI t → v 4 60 15 = nI t := fun Bv e => Bv.1.n15.trans e
  have I6 : dq_IV n t l (dq_set w 0 6 o) := I.st (by decide)
  have none : ¬ (∃ c, c < 144 ∧ sp = nI c ∧ dq_free (dq_set w 0 6 o 2 c)) → ∃ nn, wf_X9_begin_82 K nn 0 0 v0 := fun hno => by
    have e : ax_bones B sp (dq_set w 0 6 o) = dq_set w 0 6 o := dq_if_f hno
    refine ⟨1, ?_⟩
    unfold wf_X9_begin_82
    have f := fin v0 (by rw [e]; exact B2)
    exact ⟨fun _ => f, fun _ => dq_0 f⟩
  rw [e32]
  refine ⟨fun q => none fun ⟨c, hc, ec, _⟩ => ?_, fun q => ?_⟩
  · rw [ec, mt_V_c hc] at q
    exact absurd q (dq_m1' (by have := mt_T_lt hc; omega))
  · rcases hsp with h | ⟨c, hc, ec⟩
    · rw [h] at q; exact absurd mt_V_1 q
    have hne : sp ≠ -1 := fun h => q (by rw [h]; exact mt_V_1)
    have e61 : v0 4 61 (mt_V sp).toNatClampNeg = w 2 c := by
      rw [ec, mt_V_c hc, nI_clamp (by have := mt_T_lt hc; omega), B2.2.2.2.1 61 _ (by unfold mk_g; omega) (by omega)]
      have := (mx_F_C (e := 0) T.1).c61 (mt_T_lt hc)
      rw [mt_T_T hc] at this
      exact this
    rw [e61]
    have ew : dq_set w 0 6 o 2 c = w 2 c := dq_set_q (by decide)
    refine ⟨by rw [ec, mt_V_c hc]; exact vp_in_nI (mt_T_lt hc) (by decide), km_isFreeKind (fun hf => dq_1 ?_) (fun hf => dq_0 (none fun ⟨c', hc', ec', hf'⟩ => ?_))⟩
    · have e : ax_bones B sp (dq_set w 0 6 o) = ax_lay B sp t (dq_set w 0 6 o) := (dq_if_t ⟨c, hc, ec, by rw [ew]; exact hf⟩).trans (ax_lay_t24 V ht).symm
      refine loop_0 (fun m i v => wf_X9_begin_82 K m 1 (nI i) v) (fun i v => mx_B (ax_lay B sp i (dq_set w 0 6 o)) (mx_F s 0) x v) t v0 ?_ ?_ ?_
      · have : ax_lay B sp 0 (dq_set w 0 6 o) = dq_set w 0 6 o := by funext q j; exact ax_lay_o (Or.inr (Nat.zero_le _))
        rw [this]; exact B2
      · intro m v Bv
        show wf_X9_begin_82 K (m + 1) 1 (nI t) v
        unfold wf_X9_begin_82
        have e15 : v 4 60 15 = nI t := et Bv ((ax_lay_o (Or.inl (by decide))).trans I6.ht)
        rw [e15]
        exact br_t (nI_le (Nat.le_refl _) (by omega)) (fin v (by rw [e]; exact Bv))
      · intro m i v hi Bv next
        show wf_X9_begin_82 K (m + 1) 1 (nI i) v
        unfold wf_X9_begin_82
        have e15 : v 4 60 15 = nI t := et Bv ((ax_lay_o (Or.inl (by decide))).trans I6.ht)
        rw [e15]
        have hi24 : i < 24 := by omega
        have vi := vp_in_nI hi24 (by decide)
        have e84 : v 4 84 (nI i).toNatClampNeg = s 4 84 i := by
          rw [nI_clamp (by omega), Bv.2.2.2.1 84 i (by unfold mk_g; omega) (by omega)]; exact mx_F_q (by decide)
        have e85 : v 4 85 (nI i).toNatClampNeg = s 4 85 i := by
          rw [nI_clamp (by omega), Bv.2.2.2.1 85 i (by unfold mk_g; omega) (by omega)]; exact mx_F_q (by decide)
        have v32 : v 4 60 32 = mt_V sp := (Bv.2.2.2.1 60 32 (by unfold mk_g; omega) (by omega)).trans ((mx_F_1 (by decide)).trans hB.1)
        refine br_f (nI_ge hi (by omega)) (dq_1 ?_)
        rw [e84, e85]
        have laid : ∀ y : Int32, B i ≠ -2 → y = (if B i = -1 then sp else B i) → mx_B (ax_lay B sp (i + 1) (dq_set w 0 6 o)) (mx_F s 0) x (dq_st v 4 82 i (mt_V y)) := fun y hb hy => by
          rw [← ax_lay_t hb, ← hy]
          refine ⟨?_, (mx_st_q (Or.inl (by decide))).trans Bv.2.1, (mx_st_q (Or.inl (by decide))).trans Bv.2.2.1, fun a j hg hn => ?_, Bv.2.2.2.2.tr dq_st_fr⟩
          · rw [dq_st_p]; exact Bv.1.p82 hi24
          · rw [mx_st_q (by unfold mk_g at hg; omega)]; exact Bv.2.2.2.1 a j hg hn
        rcases hB.2.2 hne i hi24 with ⟨hb, h84⟩ | ⟨hb, h84, h85⟩
        · rw [h84]
          refine ⟨vi, dq_0 (nm_r (nI_1 i) (next v ?_))⟩
          rw [← ax_lay_f hb]; exact Bv
        · rw [h84, h85]
          refine ⟨vi, dq_1 ⟨vi, fun g => ⟨vi, vi, mx_putI (by omega) (nm_r (nI_1 i) (next _ ?_))⟩, fun g => ⟨vi, ?_⟩⟩⟩
          · exact laid _ hb (if_neg fun q => g (mt_V_m1.2 q)).symm
          · rw [v32]
            exact mx_putI (by omega) (nm_r (nI_1 i) (next _ (laid _ hb (if_pos (mt_V_m1.1 g)).symm)))
    · have : c' = c := (nI_eq (by omega) (by omega)).1 (ec'.symm.trans ec)
      rw [this, ew] at hf'
      exact hf hf'
end DMW
