/-! the reference: a beast's turn; blows, potions, fire -/
theorem dq_nbr_see {w : dq_W} {a b : Nat} (h : dq_nbr a b) : dq_see w a b := by
  intro c hc h1 h2 hx
  exfalso
  unfold dq_nbr at h
  obtain ⟨x1, x2, x3, x4, x5⟩ := hx
  have e1 : c / 12 = a / 12 ∧ c % 12 = a % 12 ∨ c / 12 = b / 12 ∧ c % 12 = b % 12 := by omega
  rcases e1 with e | e <;> omega
section DQXG
variable {n t l : Nat} {w : dq_W} {s : dk_S} {K : Int32 → dk_S → Prop} {J : dk_S → Prop}
theorem mr_R.e {w' : dq_W} {m : dq_W} (R : mr_R w m) (h : w = w') : mr_R w' m := h ▸ R
theorem km_goes {b c : Nat} (R : mr_R w (s 4)) (hb : b < 8) (hc : c < 144) (k : ∀ u, mx_P (ax_goto b c w) s u → J u) : wf_X9_goes (nI b) (nI (mt_T c)) s J := by
  unfold wf_X9_goes
  have lT := mt_T_lt hc
  unfold ax_goto at k
  refine dq_rf (dq_m1' (by omega)) ⟨vp_in_nI lT (by decide), ?_⟩
  rw [nI_clamp (by omega), R.r75' hc, ← dq_sg_in (f := w) hc]
  refine dq_rb (fun g => ⟨vp_in_nI hb (by decide), mx_putI (by omega) (k _ ?_)⟩) (fun g => ⟨vp_in_nI lT (by decide), mx_put (k _ ?_)⟩)
  · rw [dq_if_f g]
    exact (mx_P.rf R).st (R.p76 hb hc) (by unfold mk_g; omega)
  · rw [dq_if_t g]
    exact (mx_P.rf R).st (R.p75 hc) (by unfold mk_g; omega)
theorem km_goes_no (k : J s) {b : Nat} : wf_X9_goes (nI b) (-1) s J := by
  unfold wf_X9_goes
  exact dq_rt rfl k
theorem km_143 {b a : Nat} (R : mr_R w (s 4)) (I : dq_IV n t l w) (hb : b < 8) (ha : a < 144) (e22 : w 22 b = nI a) (k : ∀ u, mx_P (ax_lose b a (dq_pl w 0) w) s u → J u) : wf_X9_beastTurns_143 J (nI b) s := by
  unfold wf_X9_beastTurns_143
  have hp := (I.pl b hb).1
  have hp0 := (I.pl 0 (by decide)).1
  have e76 := mr_place R I.pl hb
  have e760 : s 4 76 (0 : Int32).toNatClampNeg = nI (mt_T (dq_pl w 0)) := mr_place R I.pl (b := 0) (by decide)
  have e81 : s 4 81 b = nI (mt_T a) := by rw [R.r81 hb, e22, mt_V_c ha]
  unfold ax_lose at k
  refine ⟨vp_in_nI hb (by decide), vp_in_nI hb (by decide), ?_⟩
  rw [nI_clamp (by omega), e76, e81]
  have hpT := mt_T_lt hp
  have haT := mt_T_lt ha
  refine dq_rb (fun g => ?_) (fun g => ⟨vp_in_nI hb (by decide), dq_v0 (by decide) (by decide), ?_⟩)
  · rw [dq_if_f (fun q => g (by rw [q.1]))] at k
    exact k s (mx_P.rf R)
  · have g2 := (mt_T_i hp ha).1 ((nI_eq (by omega) (by omega)).1 g)
    rw [e760]
    refine km_sees R hp hp0 (fun v => dq_1' ?_) (fun v => dq_0' ⟨vp_in_nI hb (by decide), mx_put ?_⟩)
    · rw [dq_if_f (fun q => q.2 v)] at k
      exact k s (mx_P.rf R)
    · rw [dq_if_t ⟨g2, v⟩] at k
      refine k _ ((mx_P.rf R).st ?_ (by unfold mk_g; omega))
      have q := R.p81 (k := b) (v := -1) hb
      rw [mt_V_1] at q
      exact q
theorem dq_fl_h {a h : Nat} (hh : h < 144) : ∀ v, v ≤ 4 → dq_fl w n a h v = h ∨ dq_free (dq_sg w (dq_fl w n a h v))
  | 0, _ => Or.inl rfl
  | v + 1, hv => by
    have ih := dq_fl_h (a := a) hh v (by omega)
    have e : dq_fl w n a h (v + 1) = dq_if (dq_op w n (dq_nb h v) ∧ dq_D (dq_tl w 1 0) a (dq_fl w n a h v) < dq_D (dq_tl w 1 0) a (dq_nb h v)) (dq_nb h v) (dq_fl w n a h v) := rfl
    rw [e]
    by_cases c : dq_op w n (dq_nb h v) ∧ dq_D (dq_tl w 1 0) a (dq_fl w n a h v) < dq_D (dq_tl w 1 0) a (dq_nb h v)
    · rw [dq_if_t c]; exact Or.inr c.1.1
    · rw [dq_if_f c]; exact ih
theorem km_beastTurns {b : Nat} (R : mr_R w (s 4)) (I : dq_IV n t l w) (U : dq_IU n w) (hb1 : 1 ≤ b) (hb : b < n) (hl : dq_lv w b) (k : ∀ u, mx_P (ax_move n b w) s u → J u) : wf_X9_beastTurns (nI b) s J := by
  unfold wf_X9_beastTurns
  have h8 := I.h8
  have hb8 : b < 8 := by omega
  have hp := (I.pl b hb8).1
  have hp0 := (I.pl 0 (by decide)).1
  have e76 := mr_place R I.pl hb8
  have e760 : s 4 76 (0 : Int32).toNatClampNeg = nI (mt_T (dq_pl w 0)) := mr_place R I.pl (b := 0) (by decide)
  have aimed : ∀ u, mx_P (ax_aimed b w) s u → wf_X9_beastTurns_31 J (nI b) u := by
    intro u P1
    have I1 : dq_IV n t l (ax_aimed b w) := ax_aimed_I I
    have ne22 : ∀ q, q ≠ 22 → ax_aimed b w q = w q := fun q hq => by
      unfold ax_aimed
      by_cases g : dq_see w (dq_pl w b) (dq_pl w 0)
      · rw [dq_if_t g, dq_set_r hq]
      · rw [dq_if_f g]
    have epl : ∀ j, dq_pl (ax_aimed b w) j = dq_pl w j := fun j => by unfold dq_pl; rw [ne22 14 (by decide)]
    have elv : ∀ j, dq_lv (ax_aimed b w) j = dq_lv w j := fun j => by unfold dq_lv; rw [ne22 18 (by decide)]
    have U1 : dq_IU n (ax_aimed b w) := U.sub (fun i _ h => by rw [← elv]; exact h) (fun i _ => epl i) (fun c h => by rw [ne22 2 (by decide)]; exact h)
    have see1 : dq_see w (dq_pl w b) (dq_pl w 0) → ax_aimed b w 22 b = nI (dq_pl w 0) := fun g => by
      unfold ax_aimed
      rw [dq_if_t g, dq_set_eq]
    unfold ax_move at k
    rw [← epl 0] at k see1 hp0
    rw [← epl b] at hp
    have nb_see : dq_nbr (dq_pl (ax_aimed b w) b) (dq_pl (ax_aimed b w) 0) → ax_aimed b w 22 b = nI (dq_pl (ax_aimed b w) 0) := fun g => see1 (by
      rw [epl, epl] at g
      rw [epl]
      exact dq_nbr_see g)
    have hl1 : dq_lv (ax_aimed b w) b := by rw [elv]; exact hl
    generalize ax_aimed b w = w1 at *
    unfold wf_X9_beastTurns_31
    refine ⟨vp_in_nI hb8 (by decide), ?_⟩
    rw [nI_clamp (by omega), P1.1.r81 hb8]
    rcases I1.am b hb8 with e | ⟨a, ha, e⟩
    · rw [dq_if_t e] at k
      rw [e, mt_V_1]
      exact dq_rt rfl (k u P1)
    · have ene : ¬ w1 22 b = -1 := by rw [e]; exact dq_m1' (by omega)
      rw [dq_if_f ene] at k
      rw [e] at k ⊢
      rw [nI_clamp (by omega)] at k
      rw [mt_V_c ha]
      have haT := mt_T_lt ha
      refine dq_rf (dq_m1' (by omega)) ⟨vp_in_nI hb8 (by decide), ?_⟩
      refine km_findsSteps (tl := dq_tl w1 1 0) (cl := 1) (lk := 100000) P1.1 I1.sg ha (mf_co_1 I1.sg) (fun u5 P5 S5 => ⟨vp_in_nI hb8 (by decide), vp_in_nI hb8 (by decide), ?_⟩)
      rw [P5.1.r70 hb8, P5.1.r77 hb8]
      have P6 := P1.tr P5
      have e76b := mr_place P6.1 I1.pl hb8
      have e76h : u5 4 76 (0 : Int32).toNatClampNeg = nI (mt_T (dq_pl w1 0)) := mr_place P6.1 I1.pl (b := 0) (by decide)
      have hfree : dq_free (dq_sg w1 (dq_pl w1 b)) := by
        rw [dq_sg_in hp]
        exact (U1 b hb hl1).1
      have ht := dq_tl_free (w := w1) hfree
      have bne : b ≠ 0 := by omega
      have fin : ∀ w2 u3, ax_turn n b a w1 = w2 → w2 22 b = nI a → dq_pl w2 0 = dq_pl w1 0 → mx_P w2 u5 u3 → wf_X9_beastTurns_143 J (nI b) u3 := by
        intro w2 u3 h1 h2 h3 h4
        have I2 : dq_IV n t l w2 := by rw [← h1]; exact ax_turn_I I1 hb8
        refine km_143 h4.1 I2 hb8 ha h2 (fun u4 h5 => k u4 ?_)
        rw [h1]
        rw [h3] at h5
        exact (P6.tr h4).tr h5
      have self : dq_set w1 14 b (nI (dq_pl w1 b)) = w1 := by
        have := (I1.pl b hb8).2
        rw [← this]
        exact dq_set_same
      -- away from the aim
      have flee : dq_wk w1 b → wf_X9_beastTurns_77 J (nI b) 1 u5 := by
        intro c1
        have et : ax_turn n b a w1 = dq_set w1 14 b (nI (dq_fl w1 n a (dq_pl w1 b) 4)) := by unfold ax_turn; rw [dq_if_t c1]
        have q22 : dq_set w1 14 b (nI (dq_fl w1 n a (dq_pl w1 b) 4)) 22 b = nI a := by rw [dq_set_q (by decide)]; exact e
        have qpl : dq_pl (dq_set w1 14 b (nI (dq_fl w1 n a (dq_pl w1 b) 4))) 0 = dq_pl w1 0 := by unfold dq_pl; rw [dq_set_ne (Or.inr (by omega))]
        have hin := dq_fl_in (w := w1) (n := n) (a := a) hp 4 (Nat.le_refl _)
        have hh := dq_fl_h (w := w1) (n := n) (a := a) hp 4 (Nat.le_refl _)
        unfold wf_X9_beastTurns_77
        refine dq_rf (by decide) ?_
        refine km_chosen_loop (fl := true) P6.1 I1 U1.ua hb8 ht S5 (dq_fl w1 n a (dq_pl w1 b)) rfl (fun v hv => ?_) ?_
        · show dq_if _ _ _ = _
          refine dq_if_c ?_
          constructor
          · rintro ⟨g1, g2⟩
            have := dq_D_ge (tl := dq_tl w1 1 0) (a := a) (c := dq_fl w1 n a (dq_pl w1 b) v)
            exact ⟨Or.inl g1, by omega, g2⟩
          · rintro ⟨g1, g2, g3⟩
            rcases g1 with g1 | g1
            · exact ⟨g1, g3⟩
            · exact absurd g1.1 (by decide)
        · by_cases g : dq_fl w1 n a (dq_pl w1 b) 4 = dq_pl w1 b
          · rw [if_pos g]
            refine km_goes_no (fin _ u5 et q22 qpl ?_)
            rw [g, self]
            exact mx_P.rf P6.1
          · rw [if_neg g, mt_pI_in hin]
            have hf := hh.resolve_left g
            refine km_goes P6.1 hb8 hin (fun u6 h6 => fin _ u6 et q22 qpl ?_)
            unfold ax_goto at h6
            rw [dq_if_f (by
              intro q
              rw [q] at hf
              exact absurd hf (by decide))] at h6
            exact h6
      -- nearer to it
      have near : ¬ dq_wk w1 b → ¬ dq_nbr (dq_pl w1 b) (dq_pl w1 0) → wf_X9_chosen (nI b) 0 u5 (fun r14 s13 => wf_X9_goes (nI b) r14 s13 (fun s15 => wf_X9_beastTurns_143 J (nI b) s15)) := by
        intro c1 c2
        have et : ax_turn n b a w1 = ax_goto b (dq_nr w1 n a (dq_pl w1 b) 4) w1 := by unfold ax_turn; rw [dq_if_f c1, dq_if_f c2]
        have hin := dq_nr_in (w := w1) (n := n) (a := a) hp 4 (Nat.le_refl _)
        have q22 : ax_goto b (dq_nr w1 n a (dq_pl w1 b) 4) w1 22 b = nI a := by
          unfold ax_goto
          by_cases g : dq_sg w1 (dq_nr w1 n a (dq_pl w1 b) 4) = 43
          · rw [dq_if_t g, dq_set_q (by decide)]; exact e
          · rw [dq_if_f g, dq_set_q (by decide)]; exact e
        have qpl0 : ∀ z, dq_pl (ax_goto b z w1) 0 = dq_pl w1 0 := fun z => by
          unfold dq_pl ax_goto
          by_cases g : dq_sg w1 z = 43
          · rw [dq_if_t g, dq_set_q (by decide)]
          · rw [dq_if_f g, dq_set_ne (Or.inr (by omega))]
        have qpl := qpl0 (dq_nr w1 n a (dq_pl w1 b) 4)
        refine km_chosen_loop (fl := false) P6.1 I1 U1.ua hb8 ht S5 (dq_nr w1 n a (dq_pl w1 b)) rfl (fun v hv => ?_) ?_
        · show dq_if _ _ _ = _
          refine dq_if_c ?_
          constructor
          · rintro ⟨g1, g2, g3⟩
            refine ⟨?_, g2, g3⟩
            rcases g1 with g1 | g1
            · exact Or.inl g1
            · exact Or.inr ⟨rfl, g1⟩
          · rintro ⟨g1, g2, g3⟩
            refine ⟨?_, g2, g3⟩
            rcases g1 with g1 | g1
            · exact Or.inl g1
            · exact Or.inr g1.2
        · by_cases g : dq_nr w1 n a (dq_pl w1 b) 4 = dq_pl w1 b
          · rw [if_pos g]
            refine km_goes_no (fin _ u5 et q22 qpl ?_)
            have e9 : ax_goto b (dq_nr w1 n a (dq_pl w1 b) 4) w1 = w1 := by
              unfold ax_goto
              rw [g, dq_if_f (by
                intro q
                rw [q] at hfree
                exact absurd hfree (by decide)), self]
            rw [e9]
            exact mx_P.rf P6.1
          · rw [if_neg g, mt_pI_in hin]
            exact km_goes P6.1 hb8 hin (fun u6 h6 => fin _ u6 et q22 qpl h6)
      refine br_c (fun c1 => ?_) (fun c1 => flee c1)
      have c1 : ¬ dq_wk w1 b := fun g => g c1
      unfold wf_X9_beastTurns_77
      refine dq_rt rfl ⟨vp_in_nI hb8 (by decide), dq_v0 (by decide) (by decide), ?_⟩
      rw [nI_clamp (by omega), e76b, e76h]
      refine km_isBeside hp hp0 (fun c2 => dq_1 ?_) (fun c2 => dq_0 (near c1 c2))
      refine ⟨dq_v0 (by decide) (by decide), vp_in_nI hb8 (by decide), dq_v0 (by decide) (by decide), ?_⟩
      have e77 : u5 4 77 (0 : Int32).toNatClampNeg = w1 18 0 := P6.1.r77 (k := 0) (by decide)
      rw [P6.1.r69 hb8, e77]
      have Pw : mx_P (dq_set w1 18 0 (w1 18 0 - w1 16 b)) u5 (dq_st u5 4 77 0 (w1 18 0 - w1 16 b)) := (mx_P.rf P6.1).st (P6.1.p77 (k := 0) (by decide)) (by unfold mk_g; omega)
      have I3 : dq_IV n t l (dq_set w1 18 0 (w1 18 0 - w1 16 b)) := I1.st (by decide)
      refine mx_put (a := 77) (k := 0) ⟨dq_v0 (by decide) (by decide), ?_⟩
      have e9 : dq_st u5 4 77 0 (w1 18 0 - w1 16 b) 4 76 (0 : Int32).toNatClampNeg = nI (mt_T (dq_pl w1 0)) := by
        have := mr_place Pw.1 I3.pl (b := 0) (by decide)
        unfold dq_pl at this ⊢
        rw [dq_set_q (by decide)] at this
        exact this
      rw [e9]
      have et : ax_turn n b a w1 = ax_noise (dq_pl w1 0) 6 n (dq_set w1 18 0 (w1 18 0 - w1 16 b)) := by unfold ax_turn; rw [dq_if_f c1, dq_if_t c2]
      have ea : a = dq_pl w1 0 := by
        have q := nb_see c2
        rw [e] at q
        exact (nI_eq (by omega) (by omega)).1 q
      refine km_sounds (m := 6) Pw.1 I3 hp0 (by decide) (fun u7 P7 => fin _ u7 et ?_ ?_ (Pw.tr P7))
      · unfold ax_noise
        by_cases g : 22 = 22 ∧ b < n ∧ dq_hd (dq_set w1 18 0 (w1 18 0 - w1 16 b)) (dq_pl w1 0) 6 b
        · rw [dq_if_t g, ea]
        · rw [dq_if_f g, dq_set_q (by decide)]; exact e
      · unfold dq_pl
        rw [ax_noise_o (Or.inl (by decide)), dq_set_q (by decide)]
  unfold ax_aimed at aimed
  refine ⟨vp_in_nI hb8 (by decide), dq_v0 (by decide) (by decide), ?_⟩
  rw [nI_clamp (by omega), e76, e760]
  refine km_sees R hp hp0 (fun g => dq_1 ?_) (fun g => dq_0 ?_)
  · rw [dq_if_t g] at aimed
    refine ⟨dq_v0 (by decide) (by decide), vp_in_nI hb8 (by decide), ?_⟩
    rw [e760]
    refine mx_put (aimed _ ((mx_P.rf R).st ?_ (by unfold mk_g; omega)))
    have q := R.p81 (k := b) (v := nI (dq_pl w 0)) hb8
    rw [mt_V_c hp0] at q
    exact q
  · rw [dq_if_f g] at aimed
    exact aimed s (mx_P.rf R)
end DQXG
