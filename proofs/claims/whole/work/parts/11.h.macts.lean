/-! the reference: blows, potions, fire, the end of a world -/
def dq_WD (w : dq_W) : Prop := ∀ d, d < 8 → w 9 d = 0 ∨ w 9 d = 1
/-- the hero has died: what is carried lies there, the bones are told -/
def mx_D (w : dq_W) (t : Nat) (s u : dk_S) : Prop :=
  mr_R (ax_hands t w) (u 4) ∧ dq_fr 4 s u ∧ (∀ a k, mk_g a k → a ≠ 84 → a ≠ 85 → ¬ (a = 60 ∧ (k = 1 ∨ k = 32)) → u 4 a k = s 4 a k) ∧ u 4 60 1 = 100 ∧ u 4 60 32 = nI (mt_T (dq_pl w 0)) ∧ (∀ i, i < t → u 4 84 i = dq_if (dq_cr w i) 1 0 ∧ u 4 85 i = mt_V (w 25 i)) ∧ (∀ i, t ≤ i → u 4 84 i = s 4 84 i)
section DQXH
variable {n t l : Nat} {w : dq_W} {s : dk_S} {K : Int32 → dk_S → Prop} {J : dk_S → Prop}
theorem km_strikes {b : Nat} {v : Int32} (R : mr_R w (s 4)) (I : dq_IV n t l w) (hb : b < 8) (k : ∀ u, mx_P (ax_noise (dq_pl w b) 6 n (ax_strike b v w)) s u → J u) : wf_X9_strikes (nI b) v s J := by
  unfold wf_X9_strikes
  have hp := (I.pl b hb).1
  have I2 : dq_IV n t l (ax_strike b v w) := ax_strike_I I
  have epl : dq_pl (ax_strike b v w) b = dq_pl w b := by
    unfold dq_pl ax_strike
    by_cases g : dq_lv (dq_set w 18 b (w 18 b - v)) b
    · rw [dq_if_t g, dq_set_q (by decide)]
    · rw [dq_if_f g, dq_set_q (by decide), dq_set_q (by decide)]
  have last : ∀ u, mx_P (ax_strike b v w) s u → wf_X9_strikes_60 J (nI b) u := by
    intro u P1
    unfold wf_X9_strikes_60
    refine ⟨vp_in_nI hb (by decide), ?_⟩
    rw [nI_clamp (by omega), mr_place P1.1 I2.pl hb, epl]
    exact km_sounds (m := 6) P1.1 I2 hp (by decide) (fun u2 P2 => k u2 (P1.tr P2))
  have mid : ∀ y : Int32, (y = 0 ↔ ¬ dq_wk w b) → wf_X9_strikes_22 J (nI b) v y s := by
    intro y hy
    unfold wf_X9_strikes_22
    refine ⟨vp_in_nI hb (by decide), vp_in_nI hb (by decide), ?_⟩
    rw [nI_clamp (by omega), R.r77 hb]
    have P1 : mx_P (dq_set w 18 b (w 18 b - v)) s (dq_st s 4 77 b (w 18 b - v)) := (mx_P.rf R).st (R.p77 hb) (by unfold mk_g; omega)
    refine mx_put (km_lives P1.1 hb (fun g => dq_1' (last _ ?_)) (fun g => dq_0' ?_))
    · have e : ax_strike b v w = dq_set w 18 b (w 18 b - v) := dq_if_t g
      rw [e]; exact P1
    · have e : ax_strike b v w = dq_set (dq_set w 18 b (w 18 b - v)) 0 7 (w 0 7 + dq_if (dq_wk w b) (-2) 1) := dq_if_f g
      have e31 : dq_st s 4 77 b (w 18 b - v) 4 60 31 = w 0 7 := by rw [P1.1.n31, dq_set_q (by decide)]
      rw [e31]
      have fin : ∀ x, x = w 0 7 + dq_if (dq_wk w b) (-2) 1 → wf_X9_strikes_60 J (nI b) (dq_st (dq_st s 4 77 b (w 18 b - v)) 4 60 31 x) := by
        intro x hx
        refine last _ ?_
        rw [e, ← hx]
        exact P1.st (P1.1.p0 (Or.inr (Or.inr ⟨rfl, rfl⟩))) (by unfold mk_g; omega)
      refine br_c (fun h => mx_put (fin _ ?_)) (fun h => mx_put (fin _ ?_))
      · rw [dq_if_f (hy.1 h)]
      · rw [dq_if_t (Classical.not_not.mp (fun q => h (hy.2 q)))]
  refine ⟨vp_in_nI hb (by decide), vp_in_nI hb (by decide), ?_⟩
  rw [nI_clamp (by omega), R.r70 hb, R.r77 hb]
  exact br_c (fun g => mid 0 ⟨fun _ q => q g, fun _ => rfl⟩) (fun g => mid 1 ⟨fun q => absurd q (by decide), fun q => absurd g q⟩)
theorem km_works {d b : Nat} (R : mr_R w (s 4)) (hd : d < 8) (hb : b < 8) (k : ∀ u, mx_P (ax_work d b w) s u → J u) : wf_X9_works (nI d) (nI b) s J := by
  unfold wf_X9_works
  unfold ax_work at k
  refine ⟨vp_in_nI hd (by decide), ?_⟩
  rw [nI_clamp (show d < 2 ^ 31 by omega), nI_clamp (show b < 2 ^ 31 by omega), R.r64 hd, R.r65 hd]
  refine nm_e ⟨vp_in_nI hd (by decide), dq_rb (fun h1 => ⟨vp_in_nI hd (by decide), dq_rb (fun h2 => ⟨vp_in_nI hd (by decide), dq_rb (fun h3 => ⟨vp_in_nI hd (by decide), dq_rb (fun h4 => ?_) (fun h4 => ?_)⟩) (fun h3 => ?_)⟩) (fun h2 => ?_)⟩) (fun h1 => ?_)⟩
  · rw [dq_if_f h4, dq_if_f h2, dq_if_f h1, dq_if_f h3] at k
    exact k s (mx_P.rf R)
  · rw [dq_if_t h4] at k
    by_cases e : b = 0
    · subst e
      rw [dq_if_t rfl] at k
      exact dq_rt rfl (mx_put (k _ ((mx_P.rf R).st (R.p0 (Or.inr (Or.inl ⟨rfl, rfl⟩))) (by unfold mk_g; omega))))
    · rw [dq_if_f e] at k
      exact dq_rf (fun g => e ((nI_eq (b := 0) (by omega) (by decide)).1 g)) (k s (mx_P.rf R))
  · have n98 : ¬ w 10 d = 98 := by rw [h3]; decide
    have n100 : ¬ w 10 d = 100 := by rw [h3]; decide
    have n104 : ¬ w 10 d = 104 := by rw [h3]; decide
    rw [dq_if_f n98, dq_if_f n100, dq_if_f n104, dq_if_t h3] at k
    refine ⟨vp_in_nI hb (by decide), mx_put ⟨vp_in_nI hb (by decide), mx_put (k _ ⟨?_, ?_, dq_st_fr.tr dq_st_fr⟩)⟩⟩
    · rw [dq_st_p, dq_st_p]
      exact R.p79 hb
    · rw [dq_st_p, dq_st_p]
      exact (mk_o.set (by unfold mk_g; omega)).tr (mk_o.set (by unfold mk_g; omega))
  · have n98 : ¬ w 10 d = 98 := by rw [h2]; decide
    rw [dq_if_f n98, dq_if_t h2] at k
    refine ⟨vp_in_nI hb (by decide), vp_in_nI hb (by decide), ?_⟩
    rw [R.r77 hb]
    exact mx_put (k _ ((mx_P.rf R).st (R.p77 hb) (by unfold mk_g; omega)))
  · have n98 : ¬ w 10 d = 98 := by rw [h1]; decide
    have n100 : ¬ w 10 d = 100 := by rw [h1]; decide
    rw [dq_if_f n98, dq_if_f n100, dq_if_t h1] at k
    refine ⟨vp_in_nI hb (by decide), vp_in_nI hb (by decide), ?_⟩
    rw [R.r77 hb, R.r70 hb]
    have fin : ∀ x, x = (if w 18 b + w 11 d < w 17 b then w 18 b + w 11 d else w 17 b) → J (dq_st s 4 77 b x) := by
      intro x hx
      refine k _ ?_
      rw [← hx]
      exact (mx_P.rf R).st (R.p77 hb) (by unfold mk_g; omega)
    refine br_c (fun g => ⟨vp_in_nI hb (by decide), vp_in_nI hb (by decide), mx_put (fin _ ?_)⟩) (fun g => ⟨vp_in_nI hb (by decide), vp_in_nI hb (by decide), mx_put (fin _ ?_)⟩)
    · by_cases g2 : w 18 b + w 11 d < w 17 b
      · rw [if_pos g2]
      · rw [if_neg g2]
        rw [Int32.le_iff_toInt_le] at g
        rw [Int32.lt_iff_toInt_lt] at g2
        exact Int32.toInt_inj.mp (by omega)
    · rw [if_neg (fun g2 => g (by
        rw [Int32.le_iff_toInt_le]
        rw [Int32.lt_iff_toInt_lt] at g2
        omega))]
/-- what burns lets fall what is in it -/
theorem dq_fall {i : Nat} {c : Int32} (hi : i < 24) : dq_set (dq_mv ((-3) - nI i) c t w) 25 i (-2) = dq_mv ((-3) - nI i) c t (dq_set w 25 i (-2)) := by
  have h2 : ¬ (-2 : Int32) = (-3) - nI i := by
    have : ∀ i, i < 24 → ¬ (-2 : Int32) = (-3) - nI i := by decide +kernel
    exact this i hi
  funext q k
  by_cases e : q = 25 ∧ k = i
  · obtain ⟨rfl, rfl⟩ := e
    rw [dq_set_eq]
    have e2 : dq_set w 25 k (-2) 25 k = -2 := dq_set_eq
    have e3 : ¬ (25 = 25 ∧ k < t ∧ dq_set w 25 k (-2) 25 k = (-3) - nI k) := fun g => h2 (e2.symm.trans g.2.2)
    exact e2.symm.trans (if_neg e3).symm
  · rw [dq_set_ne (by omega)]
    have e2 : dq_set w 25 i (-2) q k = w q k := dq_set_ne (by omega)
    by_cases c1 : q = 25 ∧ k < t ∧ w 25 k = (-3) - nI i
    · obtain ⟨rfl, c2, c3⟩ := c1
      have e3 : dq_set w 25 i (-2) 25 k = w 25 k := e2
      exact (if_pos ⟨rfl, c2, c3⟩).trans (if_pos ⟨rfl, c2, by rw [e3]; exact c3⟩).symm
    · have e3 : ¬ (q = 25 ∧ k < t ∧ dq_set w 25 i (-2) 25 k = (-3) - nI i) := by
        rintro ⟨rfl, g1, g2⟩
        have e4 : dq_set w 25 i (-2) 25 k = w 25 k := e2
        rw [e4] at g2
        exact c1 ⟨rfl, g1, g2⟩
      exact ((if_neg c1).trans e2.symm).trans (if_neg e3).symm
theorem ax_burn_o {c0 : Nat} {r : Int32} {q : Nat} (hq : q ≠ 25) : ∀ i, ax_burn t c0 r w i q = w q
  | 0 => rfl
  | i + 1 => by
    have ih := ax_burn_o (c0 := c0) (r := r) hq i
    have e : ax_burn t c0 r w (i + 1) = dq_if (dq_bu (ax_burn t c0 r w i) c0 r i) (dq_mv ((-3) - nI i) (ax_burn t c0 r w i 25 i) t (dq_set (ax_burn t c0 r w i) 25 i (-2))) (ax_burn t c0 r w i) := rfl
    rw [e]
    by_cases g : dq_bu (ax_burn t c0 r w i) c0 r i
    · rw [dq_if_t g]
      funext k
      rw [dq_mv_o (Or.inl hq), dq_set_q hq, ih]
    · rw [dq_if_f g]; exact ih
theorem km_burns {c0 : Nat} {r : Int32} (R : mr_R w (s 4)) (I : dq_IV n t l w) (hW : dq_WD w) (hc : c0 < 144) (k : ∀ u, mx_P (ax_burn t c0 r w t) s u → J u) : wf_X9_burns (nI (mt_T c0)) r s J := by
  unfold wf_X9_burns
  have ht := I.t24
  refine loop_0 (fun m i u => wf_X9_burns_2 J m (nI (mt_T c0)) r (nI i) u) (fun i u => mx_P (ax_burn t c0 r w i) s u) t s (mx_P.rf R) ?_ ?_
  · intro m u P1
    show wf_X9_burns_2 J (m + 1) (nI (mt_T c0)) r (nI t) u
    unfold wf_X9_burns_2
    rw [P1.1.n15, ax_burn_o (by decide), I.ht]
    exact br_t (nI_le (Nat.le_refl _) (by omega)) (k u P1)
  · intro m i u hi P1 next
    show wf_X9_burns_2 J (m + 1) (nI (mt_T c0)) r (nI i) u
    have I1 : dq_IV n t l (ax_burn t c0 r w i) := ax_burn_I I i
    have ew : ∀ d, ax_burn t c0 r w i 9 d = w 9 d := fun d => by rw [ax_burn_o (by decide)]
    have es : ax_burn t c0 r w (i + 1) = dq_if (dq_bu (ax_burn t c0 r w i) c0 r i) (dq_mv ((-3) - nI i) (ax_burn t c0 r w i 25 i) t (dq_set (ax_burn t c0 r w i) 25 i (-2))) (ax_burn t c0 r w i) := rfl
    unfold wf_X9_burns_2
    rw [P1.1.n15, ax_burn_o (by decide), I.ht]
    generalize ax_burn t c0 r w i = w1 at *
    have hk := mr_kind P1.1 I1 (x := i) (by omega)
    -- it does not burn
    have no : ¬ dq_bu w1 c0 r i → wf_X9_burns_52 J (wf_X9_burns_2 J m) (nI (mt_T c0)) r (nI i) 0 u := by
      intro g
      unfold wf_X9_burns_52
      refine dq_rt rfl (nm_r (nI_1 i) (next u ?_))
      rw [es, dq_if_f g]; exact P1
    refine br_f (nI_ge hi (by omega)) ⟨vp_in_nI (by omega) (by decide), ?_⟩
    rw [nI_clamp (by omega), P1.1.r82 (by omega)]
    refine br_c (fun g => no ?_) (fun g => ⟨vp_in_nI (by omega) (by decide), ?_⟩)
    · rintro ⟨c, h1, h2, _⟩
      rw [h2, mt_V_c h1] at g
      exact nI_pos (by have := mt_T_lt h1; omega) g
    · have g1 : ¬ w1 25 i < 0 := fun q => g (mt_V_neg.2 q)
      obtain ⟨c, hc2, e25⟩ : ∃ c, c < 144 ∧ w1 25 i = nI c := by
        rcases I1.tp i (by omega) with q | q | q | ⟨b, hb, q⟩
        · rw [q] at g1; exact absurd (by decide) g1
        · rw [q] at g1; exact absurd (by decide) g1
        · exact q
        · rw [q] at g1; exact absurd (dq_bag_neg (by omega)) g1
      rw [hk.1]
      refine ⟨vp_in_nI hk.2 (by decide), ?_⟩
      rw [nI_clamp (by have := hk.2; omega), P1.1.r63 hk.2]
      refine br_c (fun g2 => no ?_) (fun g2 => ⟨vp_in_nI (by omega) (by decide), ?_⟩)
      · rintro ⟨_, _, _, _, q⟩
        rw [q] at g2
        exact absurd g2 (by decide)
      · have hw1 : w1 9 (dq_kd w1 i) = 1 := by
          have := hW _ hk.2
          rw [← ew] at this
          exact this.resolve_left g2
        rw [e25, mt_V_c hc2]
        refine km_around hc2 hc (br_c (fun g3 => no ?_) (fun g3 => ?_))
        · rintro ⟨c', h1, h2, h3, _⟩
          have : c' = c := (nI_eq (by omega) (by omega)).1 (h2.symm.trans e25)
          rw [this] at h3
          exact h3 g3
        · have yes : dq_bu w1 c0 r i := ⟨c, hc2, e25, g3, hw1⟩
          rw [dq_if_t yes, e25] at es
          unfold wf_X9_burns_52
          refine dq_rf (by decide) ?_
          refine loop_0 (fun m2 j u2 => wf_X9_burns_65 J _ m2 (nI (mt_T c0)) r (nI i) (nI j) u2) (fun j u2 => mx_P (dq_mv ((-3) - nI i) (nI c) j w1) s u2) t u (by rw [dq_mv0]; exact P1) ?_ ?_
          · intro m2 u2 P2
            show wf_X9_burns_65 J _ (m2 + 1) (nI (mt_T c0)) r (nI i) (nI t) u2
            unfold wf_X9_burns_65
            rw [P2.1.n15, dq_mv_o (Or.inl (by decide)), I1.ht]
            refine br_t (nI_le (Nat.le_refl _) (by omega)) ⟨vp_in_nI (by omega) (by decide), ?_⟩
            rw [nI_clamp (by omega)]
            refine mx_put (nm_r (nI_1 i) (next _ ?_))
            rw [es, ← dq_fall (by omega)]
            have q := P2.1.p82 (k := i) (v := -2) (by omega)
            rw [mt_V_2] at q
            exact P2.st q (by unfold mk_g; omega)
          · intro m2 j u2 hj P2 nx
            show wf_X9_burns_65 J _ (m2 + 1) (nI (mt_T c0)) r (nI i) (nI j) u2
            unfold wf_X9_burns_65
            rw [P2.1.n15, dq_mv_o (Or.inl (by decide)), I1.ht]
            have ej : u2 4 82 j = mt_V (w1 25 j) := by rw [P2.1.r82 (by omega), dq_mv_o (Or.inr (Nat.le_refl _))]
            have ei : u2 4 82 i = nI (mt_T c) := by
              rw [P2.1.r82 (by omega)]
              have : dq_mv ((-3) - nI i) (nI c) j w1 25 i = nI c := by
                unfold dq_mv
                by_cases q : 25 = 25 ∧ i < j ∧ w1 25 i = (-3) - nI i
                · rw [if_pos q]
                · rw [if_neg q]; exact e25
              rw [this, mt_V_c hc2]
            refine br_f (nI_ge hj (by omega)) ⟨vp_in_nI (by omega) (by decide), ?_⟩
            rw [nI_clamp (show j < 2 ^ 31 by omega), nI_clamp (show i < 2 ^ 31 by omega), ej, ei]
            have bn := dq_bag_neg (b := i) (by omega)
            refine dq_rb (fun g4 => ⟨vp_in_nI (by omega) (by decide), vp_in_nI (by omega) (by decide), mx_put (nm_r (nI_1 j) (nx _ ?_))⟩) (fun g4 => ⟨vp_in_nI (by omega) (by decide), vp_in_nI (by omega) (by decide), mx_put (nm_r (nI_1 j) (nx _ ?_))⟩)
            · have g5 : ¬ w1 25 j = (-3) - nI i := fun q => g4 ((mt_V_eqn bn).2 q)
              rw [← dq_mv_f g5, ← ej]
              exact ⟨by rw [dq_st_p, dq_set_same]; exact P2.1, by rw [dq_st_p, dq_set_same]; exact P2.2.1, P2.2.2.tr dq_st_fr⟩
            · have g5 := (mt_V_eqn bn).1 g4
              have q := P2.1.p82 (k := j) (v := nI c) (by omega)
              rw [mt_V_c hc2, dq_mv_t g5] at q
              exact P2.st q (by unfold mk_g; omega)
theorem ax_work_o {d b q : Nat} (hq : q ≠ 0 ∧ q ≠ 18 ∧ q ≠ 20 ∧ q ≠ 21) : ax_work d b w q = w q := by
  unfold ax_work
  by_cases c1 : w 10 d = 98
  · rw [dq_if_t c1]
    by_cases c2 : b = 0
    · rw [dq_if_t c2, dq_set_r hq.1]
    · rw [dq_if_f c2]
  · rw [dq_if_f c1]
    by_cases c2 : w 10 d = 100
    · rw [dq_if_t c2, dq_set_r hq.2.1]
    · rw [dq_if_f c2]
      by_cases c3 : w 10 d = 104
      · rw [dq_if_t c3, dq_set_r hq.2.1]
      · rw [dq_if_f c3]
        by_cases c4 : w 10 d = 115
        · rw [dq_if_t c4, dq_set_r hq.2.2.2, dq_set_r hq.2.2.1]
        · rw [dq_if_f c4]
theorem ax_sh_o {d c0 : Nat} {r : Int32} {q : Nat} (hq : q ≠ 0 ∧ q ≠ 18 ∧ q ≠ 20 ∧ q ≠ 21) : ∀ i, ax_sh d c0 r w i q = w q
  | 0 => rfl
  | i + 1 => by
    have ih := ax_sh_o (d := d) (c0 := c0) (r := r) hq i
    have e : ax_sh d c0 r w (i + 1) = dq_if (dq_lv (ax_sh d c0 r w i) i ∧ ¬ r < nI (dq_gp (dq_pl (ax_sh d c0 r w i) i) c0)) (ax_work d i (ax_sh d c0 r w i)) (ax_sh d c0 r w i) := rfl
    rw [e]
    by_cases g : dq_lv (ax_sh d c0 r w i) i ∧ ¬ r < nI (dq_gp (dq_pl (ax_sh d c0 r w i) i) c0)
    · rw [dq_if_t g, ax_work_o hq]; exact ih
    · rw [dq_if_f g]; exact ih
theorem km_use {x : Nat} (R : mr_R w (s 4)) (I : dq_IV n t l w) (hx : x < 24) : mx_P (ax_use x w) s (dq_st (dq_st s 4 82 x (-2)) 4 83 (dq_kd w x) 1) := by
  have P1 : mx_P (dq_set w 25 x (-2)) s (dq_st s 4 82 x (-2)) := by
    have q := R.p82 (k := x) (v := -2) hx
    rw [mt_V_2] at q
    exact (mx_P.rf R).st q (by unfold mk_g; omega)
  have hk := I.kd x hx
  have q := P1.1.p83 (d := dq_kd w x) hk.1
  have e : dq_set w 25 x (-2) 0 9 = w 0 9 := dq_set_q (by decide)
  rw [e] at q
  have e2 : ax_use x w = dq_set (dq_set w 25 x (-2)) 0 9 (w 0 9 ||| (1 <<< (nI (dq_kd w x) &&& 31))) := by unfold ax_use; rw [hk.2]
  rw [e2]
  exact P1.st q (by unfold mk_g; omega)
theorem km_breaks {x c : Nat} (R : mr_R w (s 4)) (I : dq_IV n t l w) (hW : dq_WD w) (hx : x < 24) (hc : c < 144) (k : ∀ u, mx_P (ax_noise c 6 n (ax_burnBy t (dq_kd w x) c (w 12 (dq_kd w x)) (ax_shatter n x c w))) s u → J u) : wf_X9_breaks (nI x) (nI (mt_T c)) s J := by
  unfold wf_X9_breaks
  have h8 := I.h8
  have hk := mr_kind R I hx
  have hk8 := hk.2
  have P2 := km_use R I hx
  have I2 : dq_IV n t l (ax_use x w) := ax_use_I I
  have uo : ∀ q, q ≠ 0 → q ≠ 25 → ax_use x w q = w q := fun q h1 h2 => by
    unfold ax_use
    rw [dq_set_r h1, dq_set_r h2]
  refine ⟨vp_in_nI hx (by decide), ?_⟩
  rw [nI_clamp (by omega), hk.1]
  refine nm_e ⟨vp_in_nI hx (by decide), mx_put ⟨vp_in_nI hk8 (by decide), ?_⟩⟩
  rw [nI_clamp (by omega)]
  refine mx_put (v := 1) ?_
  have so : ∀ q i, (q ≠ 0 ∧ q ≠ 18 ∧ q ≠ 20 ∧ q ≠ 21) → q ≠ 25 → ax_sh (dq_kd w x) c (w 12 (dq_kd w x)) (ax_use x w) i q = w q := fun q i h1 h2 => by
    rw [ax_sh_o h1, uo q h1.1 h2]
  refine loop_0 (fun m i u => wf_X9_breaks_25 J _ m (nI (mt_T c)) (nI (dq_kd w x)) (nI i) u) (fun i u => mx_P (ax_sh (dq_kd w x) c (w 12 (dq_kd w x)) (ax_use x w) i) s u) n _ P2 ?_ ?_
  · intro m u P3
    show wf_X9_breaks_25 J _ (m + 1) (nI (mt_T c)) (nI (dq_kd w x)) (nI n) u
    unfold wf_X9_breaks_25
    rw [P3.1.n10, so 13 n (by decide) (by decide), I.hn]
    refine br_t (nI_le (Nat.le_refl _) (by omega)) ⟨vp_in_nI hk8 (by decide), ?_⟩
    have I3 : dq_IV n t l (ax_sh (dq_kd w x) c (w 12 (dq_kd w x)) (ax_use x w) n) := ax_sh_I I2 n
    rw [nI_clamp (by omega), P3.1.r64 hk8, so 10 n (by decide) (by decide)]
    have e1 : ax_burnBy t (dq_kd w x) c (w 12 (dq_kd w x)) (ax_shatter n x c w) = dq_if (w 10 (dq_kd w x) = 102) (ax_burn t c (w 12 (dq_kd w x)) (ax_sh (dq_kd w x) c (w 12 (dq_kd w x)) (ax_use x w) n) t) (ax_sh (dq_kd w x) c (w 12 (dq_kd w x)) (ax_use x w) n) := by
      unfold ax_burnBy ax_shatter
      rw [so 10 n (by decide) (by decide)]
    rw [e1] at k
    refine dq_rb (fun g => ?_) (fun g => ⟨vp_in_nI hk8 (by decide), ?_⟩)
    · rw [dq_if_f g] at k
      exact km_sounds (m := 6) P3.1 I3 hc (by decide) (fun u2 P4 => k u2 (P3.tr P4))
    · rw [dq_if_t g] at k
      rw [P3.1.r66 hk8, so 12 n (by decide) (by decide)]
      refine km_burns P3.1 I3 (fun d hd => by rw [so 9 n (by decide) (by decide)]; exact hW d hd) hc (fun u2 P4 => ?_)
      exact km_sounds (m := 6) P4.1 (ax_burn_I I3 t) hc (by decide) (fun u3 P5 => k u3 ((P3.tr P4).tr P5))
  · intro m i u hi P3 next
    show wf_X9_breaks_25 J _ (m + 1) (nI (mt_T c)) (nI (dq_kd w x)) (nI i) u
    unfold wf_X9_breaks_25
    rw [P3.1.n10, so 13 i (by decide) (by decide), I.hn]
    have I3 : dq_IV n t l (ax_sh (dq_kd w x) c (w 12 (dq_kd w x)) (ax_use x w) i) := ax_sh_I I2 i
    have e12 : u 4 66 (dq_kd w x) = w 12 (dq_kd w x) := by rw [P3.1.r66 hk8, so 12 i (by decide) (by decide)]
    have es : ax_sh (dq_kd w x) c (w 12 (dq_kd w x)) (ax_use x w) (i + 1) = dq_if (dq_lv (ax_sh (dq_kd w x) c (w 12 (dq_kd w x)) (ax_use x w) i) i ∧ ¬ w 12 (dq_kd w x) < nI (dq_gp (dq_pl (ax_sh (dq_kd w x) c (w 12 (dq_kd w x)) (ax_use x w) i) i) c)) (ax_work (dq_kd w x) i (ax_sh (dq_kd w x) c (w 12 (dq_kd w x)) (ax_use x w) i)) (ax_sh (dq_kd w x) c (w 12 (dq_kd w x)) (ax_use x w) i) := rfl
    generalize ax_sh (dq_kd w x) c (w 12 (dq_kd w x)) (ax_use x w) i = w1 at *
    have hp := (I3.pl i (by omega)).1
    refine br_f (nI_ge hi (by omega)) (km_lives P3.1 (by omega) (fun g => dq_1 ⟨vp_in_nI (by omega) (by decide), ?_⟩) (fun g => dq_0 (nm_r (nI_1 i) (next u (by rw [es, dq_if_f (fun q => g q.1)]; exact P3)))))
    rw [nI_clamp (by omega), mr_place P3.1 I3.pl (by omega)]
    refine km_around hp hc ⟨vp_in_nI hk8 (by decide), ?_⟩
    rw [nI_clamp (by omega), e12]
    refine br_c (fun g2 => nm_r (nI_1 i) (next u (by rw [es, dq_if_f (fun q => q.2 g2)]; exact P3))) (fun g2 => km_works P3.1 hk8 (by omega) (fun u2 P4 => nm_r (nI_1 i) (next u2 ?_)))
    rw [es, dq_if_t ⟨g, g2⟩]
    exact P3.tr P4
theorem km_isWorldOver (R : mr_R w (s 4)) (I : dq_IV n t l w) (k0 : dq_lv w 0 → K 0 s) (k1 : ¬ dq_lv w 0 → ∀ u, mx_D w t s u → K 1 u) : wf_X9_isWorldOver s K := by
  unfold wf_X9_isWorldOver
  have ht := I.t24
  have hp0 := (I.pl 0 (by decide)).1
  have e77 : s 4 77 (0 : Int32).toNatClampNeg = w 18 0 := R.r77 (k := 0) (by decide)
  refine ⟨dq_v0 (by decide) (by decide), ?_⟩
  rw [e77]
  refine br_c (fun g => ?_) (fun g => k0 g)
  have k1 := k1 (fun q => q g)
  -- what the first loop keeps
  refine loop_0 (fun m i u => wf_X9_isWorldOver_13 K _ m (nI i) u) (fun i u => mr_R w (u 4) ∧ dq_fr 4 s u ∧ (∀ a k, a ≠ 84 → a ≠ 85 → u 4 a k = s 4 a k) ∧ (∀ j, j < i → u 4 84 j = dq_if (dq_cr w j) 1 0 ∧ u 4 85 j = mt_V (w 25 j)) ∧ (∀ j, i ≤ j → u 4 84 j = s 4 84 j)) t s ⟨R, dq_fr.rf, fun _ _ _ _ => rfl, fun j hj => absurd hj (Nat.not_lt_zero _), fun _ _ => rfl⟩ ?_ ?_
  · rintro m u ⟨R1, f1, o1, b1, b2⟩
    show wf_X9_isWorldOver_13 K _ (m + 1) (nI t) u
    unfold wf_X9_isWorldOver_13
    rw [R1.n15, I.ht]
    refine br_t (nI_le (Nat.le_refl _) (by omega)) ?_
    refine loop_0 (fun m i u => wf_X9_isWorldOver_61 K _ m (nI i) u) (fun i u => mr_R (dq_mv (-1) (nI (dq_pl w 0)) i w) (u 4) ∧ dq_fr 4 s u ∧ (∀ a k, a ≠ 84 → a ≠ 85 → a ≠ 82 → u 4 a k = s 4 a k) ∧ (∀ j, j < t → u 4 84 j = dq_if (dq_cr w j) 1 0 ∧ u 4 85 j = mt_V (w 25 j)) ∧ (∀ j, t ≤ j → u 4 84 j = s 4 84 j)) t u ⟨by rw [dq_mv0]; exact R1, f1, fun a k h1 h2 _ => o1 a k h1 h2, b1, b2⟩ ?_ ?_
    · rintro m u ⟨R2, f2, o2, c1, c2⟩
      show wf_X9_isWorldOver_61 K _ (m + 1) (nI t) u
      unfold wf_X9_isWorldOver_61
      rw [R2.n15, dq_mv_o (Or.inl (by decide)), I.ht]
      have e760 : u 4 76 (0 : Int32).toNatClampNeg = nI (mt_T (dq_pl w 0)) := by
        have : u 4 76 (0 : Int32).toNatClampNeg = mt_V (dq_mv (-1) (nI (dq_pl w 0)) t w 14 0) := R2.r76 (k := 0) (by decide)
        rw [this, dq_mv_o (Or.inl (by decide)), (I.pl 0 (by decide)).2, mt_V_c hp0]
      refine br_t (nI_le (Nat.le_refl _) (by omega)) ⟨dq_v0 (by decide) (by decide), ?_⟩
      rw [e760]
      refine mx_put (mx_put (k1 _ ⟨?_, (f2.tr dq_st_fr).tr dq_st_fr, ?_, ?_, ?_, ?_, ?_⟩))
      · rw [dq_st_p, dq_st_p]
        exact (R2.out (Or.inr ⟨rfl, by omega⟩)).out (Or.inr ⟨rfl, by omega⟩)
      · intro a j hg h1 h2 h3
        rw [dq_st_p, dq_st_p, dq_set_ne (by omega), dq_set_ne (by omega)]
        refine o2 a j h1 h2 ?_
        rintro rfl
        unfold mk_g at hg
        omega
      · rw [dq_st_p, dq_set_eq]
      · rw [dq_st_p, dq_st_p, dq_set_ne (by decide), dq_set_eq]
      · intro i hi
        rw [dq_st_p, dq_st_p, dq_set_q (by decide), dq_set_q (by decide), dq_set_q (by decide), dq_set_q (by decide)]
        exact c1 i hi
      · intro i hi
        rw [dq_st_p, dq_st_p, dq_set_q (by decide), dq_set_q (by decide)]
        exact c2 i hi
    · rintro m i u hi ⟨R2, f2, o2, c1, c2⟩ next
      show wf_X9_isWorldOver_61 K _ (m + 1) (nI i) u
      unfold wf_X9_isWorldOver_61
      rw [R2.n15, dq_mv_o (Or.inl (by decide)), I.ht]
      have e760 : u 4 76 (0 : Int32).toNatClampNeg = nI (mt_T (dq_pl w 0)) := by
        have : u 4 76 (0 : Int32).toNatClampNeg = mt_V (dq_mv (-1) (nI (dq_pl w 0)) i w 14 0) := R2.r76 (k := 0) (by decide)
        rw [this, dq_mv_o (Or.inl (by decide)), (I.pl 0 (by decide)).2, mt_V_c hp0]
      have e82 : u 4 82 i = mt_V (w 25 i) := by rw [R2.r82 (by omega), dq_mv_o (Or.inr (Nat.le_refl _))]
      have keep : ∀ v, (∀ a k, a ≠ 84 → a ≠ 85 → a ≠ 82 → dq_st u 4 82 i v 4 a k = s 4 a k) ∧ (∀ j, j < t → dq_st u 4 82 i v 4 84 j = dq_if (dq_cr w j) 1 0 ∧ dq_st u 4 82 i v 4 85 j = mt_V (w 25 j)) ∧ (∀ j, t ≤ j → dq_st u 4 82 i v 4 84 j = s 4 84 j) := fun v => by
        refine ⟨fun a j h1 h2 h3 => ?_, fun j hj => ?_, fun j hj => ?_⟩
        · rw [dq_st_p, dq_set_q h3]; exact o2 a j h1 h2 h3
        · rw [dq_st_p, dq_set_q (by decide), dq_set_q (by decide)]; exact c1 j hj
        · rw [dq_st_p, dq_set_q (by decide)]; exact c2 j hj
      refine br_f (nI_ge hi (by omega)) ⟨vp_in_nI (by omega) (by decide), ?_⟩
      rw [nI_clamp (by omega), e760]
      refine dq_rb (fun g4 => ⟨vp_in_nI (by omega) (by decide), vp_in_nI (by omega) (by decide), mx_put (nm_r (nI_1 i) (next _ ⟨?_, f2.tr dq_st_fr, keep _⟩))⟩) (fun g4 => ⟨dq_v0 (by decide) (by decide), vp_in_nI (by omega) (by decide), mx_put (nm_r (nI_1 i) (next _ ⟨?_, f2.tr dq_st_fr, keep _⟩))⟩)
      · rw [e82] at g4
        have g5 : ¬ w 25 i = -1 := fun q => g4 (mt_V_m1.2 q)
        rw [← dq_mv_f g5, dq_st_p, dq_set_same]
        exact R2
      · rw [e82] at g4
        have g5 := mt_V_m1.1 g4
        have q := R2.p82 (k := i) (v := nI (dq_pl w 0)) (by omega)
        rw [mt_V_c hp0, dq_mv_t g5] at q
        rw [dq_st_p]
        exact q
  · rintro m i u hi ⟨R1, f1, o1, b1, b2⟩ next
    show wf_X9_isWorldOver_13 K _ (m + 1) (nI i) u
    unfold wf_X9_isWorldOver_13
    rw [R1.n15, I.ht]
    have e82 : u 4 82 i = mt_V (w 25 i) := R1.r82 (by omega)
    have fin : ∀ y : Int32, y = dq_if (dq_cr w i) 1 0 → vp_nar .boolean y = y → ∀ B : Int32 → dk_S → Prop, (∀ u', (mr_R w (u' 4) ∧ dq_fr 4 s u' ∧ (∀ a k, a ≠ 84 → a ≠ 85 → u' 4 a k = s 4 a k) ∧ (∀ j, j < i + 1 → u' 4 84 j = dq_if (dq_cr w j) 1 0 ∧ u' 4 85 j = mt_V (w 25 j)) ∧ (∀ j, i + 1 ≤ j → u' 4 84 j = s 4 84 j)) → B (nI (i + 1)) u') → ∀ E : dk_S → Prop, wf_X9_isWorldOver_40 K B E (nI i) y (nI i) u := by
      intro y hy hn B hB E
      unfold wf_X9_isWorldOver_40
      refine ⟨vp_in_nI (by omega) (by decide), ?_⟩
      rw [nI_clamp (by omega), hn]
      have e82' : dq_st u 4 84 i y 4 82 i = mt_V (w 25 i) := by rw [dq_st_p, dq_set_q (by decide), e82]
      refine mx_put ⟨vp_in_nI (by omega) (by decide), vp_in_nI (by omega) (by decide), ?_⟩
      rw [e82']
      refine mx_put (nm_r (nI_1 i) (hB _ ⟨?_, (f1.tr dq_st_fr).tr dq_st_fr, fun a j h1 h2 => ?_, fun j hj => ?_, fun j hj => ?_⟩))
      · rw [dq_st_p, dq_st_p]
        exact (R1.out (Or.inl (by decide))).out (Or.inl (by decide))
      · rw [dq_st_p, dq_st_p, dq_set_q h2, dq_set_q h1]; exact o1 a j h1 h2
      · rw [dq_st_p, dq_st_p]
        by_cases e : j = i
        · subst e
          rw [dq_set_q (by decide), dq_set_eq, dq_set_eq]
          exact ⟨hy, rfl⟩
        · rw [dq_set_q (by decide), dq_set_ne (Or.inr e), dq_set_ne (Or.inr e), dq_set_q (by decide)]
          exact b1 j (by omega)
      · rw [dq_st_p, dq_st_p, dq_set_q (by decide), dq_set_ne (Or.inr (by omega))]
        exact b2 j (by omega)
    refine br_f (nI_ge hi (by omega)) (km_outermost R1 I (by omega) ⟨fun h1 => ?_, fun h1 => ?_⟩)
    · exact fin 0 (dq_if_f (fun q => h1 (mt_V_m1.2 q))).symm (by decide) _ (fun u' h => next u' h) _
    · exact fin 1 (dq_if_t (mt_V_m1.1 h1)).symm (by decide) _ (fun u' h => next u' h) _
end DQXH
