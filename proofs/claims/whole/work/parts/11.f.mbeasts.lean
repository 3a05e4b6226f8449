/-! the reference: ticks, turns of beasts, the end of a world -/
/-- what lasts has no less than 0 left -/
def dq_NN (w : dq_W) : Prop := ¬ w 0 8 < 0 ∧ ∀ k, k < 8 → ¬ w 21 k < 0
theorem dq_dec {x : Int32} (h : ¬ x < 0) : (if (0 : Int32) < x - 1 then x - 1 else 0) = (if x ≤ 0 then x - 0 else x - 1) := by
  obtain ⟨j, hj, rfl⟩ := nI_of h
  by_cases e : j = 0
  · subst e
    decide
  · have e1 : nI j - 1 = nI (j - 1) := by
      have := nI_pred (j - 1)
      rwa [show j - 1 + 1 = j by omega] at this
    rw [e1, if_neg (nI_nle (by omega) hj)]
    by_cases e2 : j = 1
    · subst e2
      decide
    · have z : (0 : Int32) < nI (j - 1) := nI_lt (a := 0) (by omega) (by omega)
      rw [if_pos z]
def dt_E (i : Nat) (f : dq_W) : dq_W := fun q k => if q = 19 ∧ k < i ∧ ¬ f 18 k ≤ 0 then f 19 k + (if f 21 k ≤ 0 then f 15 k else f 20 k) else f q k
def dt_H (i : Nat) (f : dq_W) : dq_W := fun q k => if q = 21 ∧ k < i then (if f 21 k ≤ 0 then f 21 k - 0 else f 21 k - 1) else f q k
section DQT1
variable {f : dq_W} {i q k : Nat}
theorem dt_E_o (h : q ≠ 19 ∨ i ≤ k) : dt_E i f q k = f q k := if_neg (by omega)
theorem dt_E_r (h : q ≠ 19) : dt_E i f q = f q := funext fun _ => dt_E_o (Or.inl h)
theorem dt_H_o (h : q ≠ 21 ∨ i ≤ k) : dt_H i f q k = f q k := if_neg (by omega)
theorem dt_H_r (h : q ≠ 21) : dt_H i f q = f q := funext fun _ => dt_H_o (Or.inl h)
theorem dt_E_0 : dt_E 0 f = f := by
  funext q k
  exact dt_E_o (Or.inr (Nat.zero_le _))
theorem dt_H_0 : dt_H 0 f = f := by
  funext q k
  exact dt_H_o (Or.inr (Nat.zero_le _))
theorem dt_E_s : dq_set (dt_E i f) 19 i (f 19 i + (if f 18 i ≤ 0 then 0 else if f 21 i ≤ 0 then f 15 i else f 20 i)) = dt_E (i + 1) f := by
  funext q k
  by_cases e : q = 19 ∧ k = i
  · obtain ⟨rfl, rfl⟩ := e
    rw [dq_set_eq]
    by_cases c : f 18 k ≤ 0
    · rw [if_pos c, Int32.add_zero]
      exact (if_neg (fun g => g.2.2 c)).symm
    · rw [if_neg c]
      exact (if_pos ⟨rfl, by omega, c⟩).symm
  · rw [dq_set_ne (by omega)]
    by_cases c : q = 19 ∧ k < i ∧ ¬ f 18 k ≤ 0
    · exact (if_pos c).trans (if_pos ⟨c.1, by omega, c.2.2⟩).symm
    · exact (if_neg c).trans (if_neg (fun g => c ⟨g.1, by omega, g.2.2⟩)).symm
theorem dt_H_s : dq_set (dt_H i f) 21 i (if f 21 i ≤ 0 then f 21 i - 0 else f 21 i - 1) = dt_H (i + 1) f := by
  funext q k
  by_cases e : q = 21 ∧ k = i
  · obtain ⟨rfl, rfl⟩ := e
    rw [dq_set_eq]
    exact (if_pos ⟨rfl, by omega⟩).symm
  · rw [dq_set_ne (by omega)]
    by_cases c : q = 21 ∧ k < i
    · exact (if_pos c).trans (if_pos ⟨c.1, by omega⟩).symm
    · exact (if_neg c).trans (if_neg (fun g => c ⟨g.1, by omega⟩)).symm
theorem dt_tick {n : Nat} {w : dq_W} (h8 : n ≤ 8) (N : dq_NN w) : dq_set (dt_H n (dt_E n (dq_set w 0 5 (w 0 5 + 1)))) 0 8 (if w 0 8 ≤ 0 then w 0 8 - 0 else w 0 8 - 1) = ax_tick n w := by
  unfold ax_tick
  rw [dq_dec N.1]
  funext q k
  by_cases e0 : q = 0
  · subst e0
    by_cases e8 : k = 8
    · subst e8
      rw [dq_set_eq, dq_set_ne (Or.inr (by decide)), dq_set_eq]
    · rw [dq_set_ne (Or.inr e8), dt_H_o (Or.inl (by decide)), dt_E_o (Or.inl (by decide))]
      by_cases e5 : k = 5
      · subst e5
        rw [dq_set_eq, dq_set_eq]
      · rw [dq_set_ne (Or.inr e5), dq_set_ne (Or.inr e5), dq_set_ne (Or.inr e8), dq_gain_o (Or.inl (by decide))]
  · rw [dq_set_q e0, dq_set_q e0, dq_set_q e0]
    have e : ∀ a b, a ≠ 0 → dq_set w 0 5 (w 0 5 + 1) a b = w a b := fun a b h => dq_set_q h
    by_cases c1 : q = 21
    · subst c1
      by_cases c2 : k < n
      · have L : dt_H n (dt_E n (dq_set w 0 5 (w 0 5 + 1))) 21 k = (if w 21 k ≤ 0 then w 21 k - 0 else w 21 k - 1) := by
          refine (if_pos ⟨rfl, c2⟩).trans ?_
          rw [dt_E_o (Or.inl (by decide)), e 21 k (by decide)]
        rw [L, dq_gain_21 c2]
        exact (dq_dec (N.2 k (by omega))).symm
      · rw [dt_H_o (Or.inr (by omega)), dt_E_o (Or.inl (by decide)), e 21 k (by decide), dq_gain_o (Or.inr (by omega))]
    · rw [dt_H_o (Or.inl c1)]
      unfold dt_E dq_gain
      rw [e 18 k (by decide), e 19 k (by decide), e 21 k (by decide), e 15 k (by decide), e 20 k (by decide), e q k e0]
      by_cases c3 : q = 19 ∧ k < n ∧ ¬ w 18 k ≤ 0
      · rw [if_pos c3, if_pos c3]
      · rw [if_neg c3, if_neg c3, if_neg (fun g => c1 g.1)]
end DQT1
theorem dq_nx_12 {w : dq_W} : ∀ i, i ≤ 8 → dq_nx w i ≠ 8 → ¬ w 19 (dq_nx w i) ≤ 11
  | 0, _, h => absurd rfl h
  | i + 1, hi, h => by
    have ih := dq_nx_12 (w := w) i (by omega)
    rw [dq_nx_s] at h ⊢
    by_cases c1 : w 18 i ≤ 0
    · rw [if_pos c1] at h ⊢; exact ih h
    · rw [if_neg c1] at h ⊢
      by_cases c2 : w 19 i ≤ dq_ms w (dq_nx w i)
      · rw [if_pos c2] at h ⊢; exact ih h
      · rw [if_neg c2]
        by_cases c3 : dq_nx w i = 8
        · rw [c3] at c2
          exact c2
        · have i2 := ih c3
          have e : dq_ms w (dq_nx w i) = w 19 (dq_nx w i) := if_neg c3
          rw [e] at c2
          rw [Int32.le_iff_toInt_le] at c2 i2 ⊢
          omega
section DQXF
variable {n t l : Nat} {w : dq_W} {s : dk_S} {K : Int32 → dk_S → Prop} {J : dk_S → Prop}
theorem km_speedOf {b : Nat} (R : mr_R w (s 4)) (hb : b < 8) (k : K (if w 21 b ≤ 0 then w 15 b else w 20 b) s) : wf_X9_speedOf (nI b) s K := by
  unfold wf_X9_speedOf
  refine ⟨vp_in_nI hb (by decide), ?_⟩
  rw [nI_clamp (by omega), R.r80 hb]
  refine br_c (fun h => ⟨vp_in_nI hb (by decide), ?_⟩) (fun h => ⟨vp_in_nI hb (by decide), ?_⟩)
  · rw [if_pos h] at k
    rw [R.r68 hb]; exact k
  · rw [if_neg h] at k
    rw [R.r79 hb (by rw [Int32.lt_iff_toInt_lt]; rw [Int32.le_iff_toInt_le] at h; omega)]; exact k
theorem km_nextTurn (R : mr_R w (s 4)) (I : dq_IV n t l w) (k : K (dq_n8 (dq_nx w n)) s) : wf_X9_nextTurn s K := by
  unfold wf_X9_nextTurn
  have h8 := I.h8
  exact dq_lp (fun m i x => wf_X9_nextTurn_4 K m x (nI i) s) (fun i => dq_n8 (dq_nx w i)) n (fun m => by
    show wf_X9_nextTurn_4 K (m + 1) (dq_n8 (dq_nx w n)) (nI n) s
    unfold wf_X9_nextTurn_4
    rw [R.n10, I.hn]
    exact br_t (nI_le (Nat.le_refl _) (by omega)) k) (fun m i hi h => by
    have h : wf_X9_nextTurn_4 K m (dq_n8 (dq_nx w (i + 1))) (nI (i + 1)) s := h
    show wf_X9_nextTurn_4 K (m + 1) (dq_n8 (dq_nx w i)) (nI i) s
    unfold wf_X9_nextTurn_4
    rw [R.n10, I.hn]
    rw [dq_nx_s] at h
    have hx := dq_nx_le (f := w) i (by omega)
    have hx12 := dq_nx_12 (w := w) i (by omega)
    have stay : (w 18 i ≤ 0 ∨ w 19 i ≤ dq_ms w (dq_nx w i)) → wf_X9_nextTurn_36 K (wf_X9_nextTurn_4 K m) (dq_n8 (dq_nx w i)) (nI i) 0 s := by
      intro g
      have h2 : wf_X9_nextTurn_4 K m (dq_n8 (dq_nx w i)) (nI (i + 1)) s := by
        by_cases c : w 18 i ≤ 0
        · rw [if_pos c] at h; exact h
        · rw [if_neg c, if_pos (g.resolve_left c)] at h; exact h
      unfold wf_X9_nextTurn_36
      exact br_t rfl (nm_r (nI_1 i) h2)
    refine br_f (nI_ge hi (by omega)) (km_lives R (by omega) (fun h1 => dq_1 ⟨vp_in_nI (by omega) (by decide), ?_⟩) (fun h1 => dq_0 (stay (Or.inl (Classical.not_not.mp h1)))))
    rw [nI_clamp (by omega), R.r78 (by omega)]
    have c1 : ¬ w 18 i ≤ 0 := h1
    refine br_c (fun g => stay (Or.inr ?_)) (fun g => ?_)
    · by_cases c3 : dq_nx w i = 8
      · rw [c3]
        show w 19 i ≤ 11
        rw [Int32.lt_iff_toInt_lt] at g
        rw [Int32.le_iff_toInt_le]
        have e1 : (12 : Int32).toInt = 12 := rfl
        have e2 : (11 : Int32).toInt = 11 := rfl
        omega
      · have e : dq_ms w (dq_nx w i) = w 19 (dq_nx w i) := if_neg c3
        have i2 := hx12 c3
        rw [e]
        rw [Int32.lt_iff_toInt_lt] at g
        rw [Int32.le_iff_toInt_le] at i2 ⊢
        have e1 : (12 : Int32).toInt = 12 := rfl
        have e2 : (11 : Int32).toInt = 11 := rfl
        omega
    · rw [if_neg c1] at h
      unfold wf_X9_nextTurn_36
      refine br_f (by decide) ?_
      by_cases c3 : dq_nx w i = 8
      · have c2 : ¬ w 19 i ≤ dq_ms w (dq_nx w i) := by
          rw [c3]
          show ¬ w 19 i ≤ 11
          rw [Int32.lt_iff_toInt_lt] at g
          rw [Int32.le_iff_toInt_le]
          have e1 : (12 : Int32).toInt = 12 := rfl
          have e2 : (11 : Int32).toInt = 11 := rfl
          omega
        rw [if_neg c2, dq_n8_of (by omega)] at h
        rw [c3]
        exact br_t rfl (nm_r (nI_1 i) h)
      · have e : dq_ms w (dq_nx w i) = w 19 (dq_nx w i) := if_neg c3
        rw [e] at h
        have hj : dq_nx w i < 8 := by omega
        have ei : dq_n8 (dq_nx w i) = nI (dq_nx w i) := dq_n8_of hj
        have ej : dq_n8 i = nI i := dq_n8_of (by omega)
        rw [ei]
        refine br_f (dq_m1' (by omega)) ⟨vp_in_nI (by omega) (by decide), vp_in_nI hj (by decide), ?_⟩
        rw [nI_clamp (show i < 2 ^ 31 by omega), nI_clamp (show dq_nx w i < 2 ^ 31 by omega), R.r78 (k := i) (by omega), R.r78 (k := dq_nx w i) hj]
        refine br_c (fun q => ?_) (fun q => ?_)
        · rw [if_pos q, ei] at h
          exact nm_r (nI_1 i) h
        · rw [if_neg q, ej] at h
          exact nm_r (nI_1 i) h) (Nat.zero_le n)
theorem km_ticks (R : mr_R w (s 4)) (I : dq_IV n t l w) (N : dq_NN w) (k : ∀ u, mx_P (ax_tick n w) s u → J u) : wf_X9_ticks s J := by
  unfold wf_X9_ticks
  have h8 := I.h8
  have e2 : s 4 60 2 + 1 = w 0 5 + 1 := by rw [R.n2]
  refine nm_e ?_
  have P0 : mx_P (dq_set w 0 5 (w 0 5 + 1)) s (dq_st s 4 60 2 (s 4 60 2 + 1)) := by
    rw [e2]
    exact (mx_P.rf R).st (R.p0 (Or.inl ⟨rfl, rfl⟩)) (by unfold mk_g; omega)
  refine loop_0 (fun m i u => wf_X9_ticks_12 J _ m (nI i) u) (fun i u => mx_P (dt_E i (dq_set w 0 5 (w 0 5 + 1))) s u) n _ (by rw [dt_E_0]; exact P0) ?_ ?_
  · intro m u P1
    show wf_X9_ticks_12 J _ (m + 1) (nI n) u
    unfold wf_X9_ticks_12
    rw [P1.1.n10, dt_E_o (Or.inl (by decide)), dq_set_q (by decide), I.hn]
    refine br_t (nI_le (Nat.le_refl _) (by omega)) ?_
    refine loop_0 (fun m i u => wf_X9_ticks_54 J _ m (nI i) u) (fun i u => mx_P (dt_H i (dt_E n (dq_set w 0 5 (w 0 5 + 1)))) s u) n u (by rw [dt_H_0]; exact P1) ?_ ?_
    · intro m u P2
      show wf_X9_ticks_54 J _ (m + 1) (nI n) u
      unfold wf_X9_ticks_54
      rw [P2.1.n10, dt_H_o (Or.inl (by decide)), dt_E_o (Or.inl (by decide)), dq_set_q (by decide), I.hn]
      refine br_t (nI_le (Nat.le_refl _) (by omega)) ?_
      have e30 : u 4 60 30 = w 0 8 := by rw [P2.1.n30, dt_H_o (Or.inl (by decide)), dt_E_o (Or.inl (by decide)), dq_set_ne (Or.inr (by decide))]
      rw [e30]
      have fin : ∀ v, v = (if w 0 8 ≤ 0 then w 0 8 - 0 else w 0 8 - 1) → J (dq_st u 4 60 30 v) := by
        intro v hv
        refine k _ ?_
        rw [← dt_tick h8 N, ← hv]
        exact P2.st (P2.1.p0 (Or.inr (Or.inl ⟨rfl, rfl⟩))) (by unfold mk_g; omega)
      exact br_c (fun g => nm_e (fin _ (if_pos g).symm)) (fun g => nm_e (fin _ (if_neg g).symm))
    · intro m i u hi P2 next
      show wf_X9_ticks_54 J _ (m + 1) (nI i) u
      unfold wf_X9_ticks_54
      rw [P2.1.n10, dt_H_o (Or.inl (by decide)), dt_E_o (Or.inl (by decide)), dq_set_q (by decide), I.hn]
      have e80 : u 4 80 i = dt_E n (dq_set w 0 5 (w 0 5 + 1)) 21 i := by rw [P2.1.r80 (by omega), dt_H_o (Or.inr (Nat.le_refl _))]
      have a : dt_E n (dq_set w 0 5 (w 0 5 + 1)) 21 i = w 21 i := by rw [dt_E_o (Or.inl (by decide)), dq_set_q (by decide)]
      rw [nI_clamp (by omega), e80]
      have fin : ∀ v, v = (if dt_E n (dq_set w 0 5 (w 0 5 + 1)) 21 i ≤ 0 then dt_E n (dq_set w 0 5 (w 0 5 + 1)) 21 i - 0 else dt_E n (dq_set w 0 5 (w 0 5 + 1)) 21 i - 1) → mx_P (dt_H (i + 1) (dt_E n (dq_set w 0 5 (w 0 5 + 1)))) s (dq_st u 4 80 i v) := by
        intro v hv
        have q := P2.1.p80 (k := i) (v := v) (by omega) (fun g => Or.inl (by
          rw [dt_H_o (Or.inr (Nat.le_refl _))]
          rw [hv] at g
          by_cases c : dt_E n (dq_set w 0 5 (w 0 5 + 1)) 21 i ≤ 0
          · rw [if_pos c, Int32.sub_zero] at g
            exact g
          · rw [Int32.lt_iff_toInt_lt]
            rw [Int32.le_iff_toInt_le] at c
            omega))
        rw [hv, dt_H_s] at q
        rw [hv]
        exact P2.st q (by unfold mk_g; omega)
      refine br_f (nI_ge hi (by omega)) ⟨vp_in_nI (by omega) (by decide), vp_in_nI (by omega) (by decide), br_c (fun g => ⟨vp_in_nI (by omega) (by decide), nm_e (nm_r (nI_1 i) (next _ (fin _ (if_pos g).symm)))⟩) (fun g => ⟨vp_in_nI (by omega) (by decide), nm_e (nm_r (nI_1 i) (next _ (fin _ (if_neg g).symm)))⟩)⟩
  · intro m i u hi P1 next
    show wf_X9_ticks_12 J _ (m + 1) (nI i) u
    unfold wf_X9_ticks_12
    rw [P1.1.n10, dt_E_o (Or.inl (by decide)), dq_set_q (by decide), I.hn]
    have e78 : u 4 78 i = dq_set w 0 5 (w 0 5 + 1) 19 i := by rw [P1.1.r78 (by omega), dt_E_o (Or.inr (Nat.le_refl _))]
    have e18 : dt_E i (dq_set w 0 5 (w 0 5 + 1)) 18 i = dq_set w 0 5 (w 0 5 + 1) 18 i := dt_E_o (Or.inl (by decide))
    have fin : ∀ v, v = dq_set w 0 5 (w 0 5 + 1) 19 i + (if dq_set w 0 5 (w 0 5 + 1) 18 i ≤ 0 then 0 else if dq_set w 0 5 (w 0 5 + 1) 21 i ≤ 0 then dq_set w 0 5 (w 0 5 + 1) 15 i else dq_set w 0 5 (w 0 5 + 1) 20 i) → mx_P (dt_E (i + 1) (dq_set w 0 5 (w 0 5 + 1))) s (dq_st u 4 78 i v) := by
      intro v hv
      have q := P1.1.p78 (k := i) (v := v) (by omega)
      rw [hv, dt_E_s] at q
      rw [hv]
      exact P1.st q (by unfold mk_g; omega)
    refine br_f (nI_ge hi (by omega)) ⟨vp_in_nI (by omega) (by decide), km_lives P1.1 (by omega) (fun h1 => dq_1 (km_speedOf P1.1 (by omega) ⟨vp_in_nI (by omega) (by decide), ?_⟩)) (fun h1 => dq_0 ⟨vp_in_nI (by omega) (by decide), ?_⟩)⟩
    · rw [nI_clamp (by omega), e78]
      refine nm_e (nm_r (nI_1 i) (next _ (fin _ ?_)))
      have c : ¬ dq_set w 0 5 (w 0 5 + 1) 18 i ≤ 0 := by
        have h1 : ¬ dt_E i (dq_set w 0 5 (w 0 5 + 1)) 18 i ≤ 0 := h1
        rwa [e18] at h1
      rw [if_neg c, dt_E_o (Or.inl (by decide)), dt_E_o (Or.inl (by decide)), dt_E_o (Or.inl (by decide))]
    · rw [nI_clamp (by omega), e78]
      refine nm_e (nm_r (nI_1 i) (next _ (fin _ ?_)))
      have c : dq_set w 0 5 (w 0 5 + 1) 18 i ≤ 0 := by
        have h1 : dt_E i (dq_set w 0 5 (w 0 5 + 1)) 18 i ≤ 0 := Classical.not_not.mp h1
        rwa [e18] at h1
      rw [if_pos c]
/-! a beast's turn -/
theorem dq_IU.ua (U : dq_IU n w) : dq_UA n w := fun i hi j hj li lj e => ((U i hi li).2 j hj lj e.symm).symm
theorem km_isOpenFor {c : Nat} (R : mr_R w (s 4)) (I : dq_IV n t l w) (U : dq_UA n w) (hc : c ≤ 144) (k1 : dq_op w n c → K 1 s) (k0 : ¬ dq_op w n c → K 0 s) : wf_X9_isOpenFor (mt_pI c) s K := by
  unfold wf_X9_isOpenFor
  refine km_isFree R hc (fun f => dq_1 ?_) (fun f => dq_0 (k0 fun g => f g.1))
  have hc2 := dq_free_in hc f
  rw [mt_pI_in hc2]
  refine km_livingAt R I U hc2 ?_
  have := dq_la_9 I c
  by_cases e : dq_la w c n = 8
  · rw [e]
    exact ⟨fun g => absurd rfl g, fun _ => k1 ⟨f, e⟩⟩
  · rw [dq_n8_of (by omega)]
    exact ⟨fun _ => k0 fun g => e g.2, fun g => absurd g (dq_m1' (by omega))⟩
/-- the cell of a beast can be come to, if a cell beside it can -/
theorem dq_D_beside {tl : Nat → Nat} {a h v : Nat} (hh : h < 144) (hv : v < 4) (hn : dq_nb h v < 144) (ht : 0 < tl h) (hD : 0 ≤ dq_D tl a (dq_nb h v)) : 0 ≤ dq_D tl a h := by
  have hb := dq_nb_back h hh v hv hn
  rcases dq_D_s tl a (dq_nb h v) with ⟨e, _⟩ | ⟨_, e, _⟩
  · omega
  · have r := dq_R_s (w := (v + 2) % 4) e hn (by omega) (by rw [hb]; exact hh) (by rw [hb]; exact ht)
    rw [hb] at r
    rcases dq_D_s tl a h with ⟨_, f⟩ | ⟨f, _⟩
    · exact absurd r (f _)
    · exact f
theorem dq_tl_free (h : dq_free (dq_sg w n)) : 0 < dq_tl w 1 0 n := by
  unfold dq_tl dq_tlv
  by_cases e : dq_sg w n = 43
  · rw [if_pos e]; decide
  · rw [if_neg e, if_pos h]; decide
theorem ms_lt {m : dq_W} {tl : Nat → Nat} {a c : Nat} (S : ms_S tl a m) (hc : c < 144) : ¬ 100000 ≤ m 86 (mt_T c) ↔ 0 ≤ dq_D tl a c := by
  rcases S c hc with ⟨e, f⟩ | ⟨e1, e2, f⟩
  · rw [f, e]
    exact ⟨fun g => absurd (by decide) g, fun g => absurd g (by decide)⟩
  · rw [f, show (100000 : Int32) = dq_iI 100000 from rfl, dq_ile (by decide) (by decide) (by omega) (by omega)]
    omega
theorem ms_cmp {m : dq_W} {tl : Nat → Nat} {a c d : Nat} (S : ms_S tl a m) (hc : c < 144) (hd : d < 144) (h1 : 0 ≤ dq_D tl a c) (h2 : 0 ≤ dq_D tl a d) : m 86 (mt_T c) ≤ m 86 (mt_T d) ↔ dq_D tl a c ≤ dq_D tl a d := by
  rcases S c hc with ⟨e, _⟩ | ⟨_, e2, f⟩
  · omega
  · rcases S d hd with ⟨g, _⟩ | ⟨_, g2, g3⟩
    · omega
    · rw [f, g3, dq_ile (by omega) (by omega) (by omega) (by omega)]
/-- the cell that is chosen: that of the world, or none where that is the own one -/
theorem km_chosen_loop {b a : Nat} {fl : Bool} (R : mr_R w (s 4)) (I : dq_IV n t l w) (U : dq_UA n w) (hb : b < 8) (ht : 0 < dq_tl w 1 0 (dq_pl w b)) (S : ms_S (dq_tl w 1 0) a (s 4))
    (B : Nat → Nat) (hB0 : B 0 = dq_pl w b) (hBs : ∀ v, v < 4 → B (v + 1) = dq_if ((dq_op w n (dq_nb (dq_pl w b) v) ∨ (fl = false ∧ dq_sg w (dq_nb (dq_pl w b) v) = 43)) ∧ 0 ≤ dq_D (dq_tl w 1 0) a (dq_nb (dq_pl w b) v) ∧ (if fl then dq_D (dq_tl w 1 0) a (B v) < dq_D (dq_tl w 1 0) a (dq_nb (dq_pl w b) v) else dq_D (dq_tl w 1 0) a (dq_nb (dq_pl w b) v) < dq_D (dq_tl w 1 0) a (B v))) (dq_nb (dq_pl w b) v) (B v))
    (k : K (if B 4 = dq_pl w b then -1 else mt_pI (B 4)) s) : wf_X9_chosen (nI b) (if fl then 1 else 0) s K := by
  unfold wf_X9_chosen
  have hp := (I.pl b hb).1
  generalize hh : dq_pl w b = h at *
  have hnb : ∀ v, v < 4 → dq_nb h v ≤ 144 := dq_nb_le h hp
  -- nothing beside is come to, or the own cell is
  have inB : ∀ v, v ≤ 4 → B v < 144 ∧ (B v = h ∨ 0 ≤ dq_D (dq_tl w 1 0) a (B v)) := by
    intro v
    induction v with
    | zero => intro _; rw [hB0]; exact ⟨hp, Or.inl rfl⟩
    | succ v ih =>
      intro hv
      rw [hBs v (by omega)]
      by_cases c : (dq_op w n (dq_nb h v) ∨ (fl = false ∧ dq_sg w (dq_nb h v) = 43)) ∧ 0 ≤ dq_D (dq_tl w 1 0) a (dq_nb h v) ∧ (if fl then dq_D (dq_tl w 1 0) a (B v) < dq_D (dq_tl w 1 0) a (dq_nb h v) else dq_D (dq_tl w 1 0) a (dq_nb h v) < dq_D (dq_tl w 1 0) a (B v))
      · rw [dq_if_t c]
        refine ⟨?_, Or.inr c.2.1⟩
        rcases c.1 with g | g
        · exact dq_op_in (hnb v (by omega)) g
        · refine Nat.lt_of_le_of_ne (hnb v (by omega)) fun e => ?_
          have := g.2
          rw [e, dq_sg_out] at this
          exact absurd this (by decide)
      · rw [dq_if_f c]; exact ih (by omega)
  have ne : ∀ v, v < 4 → dq_nb h v ≠ h := dq_nb_ne h hp
  refine dq_lp (fun m i x => wf_X9_chosen_5 K m (nI b) (if fl then 1 else 0) x (nI i) s) (fun i => if B i = h then -1 else mt_pI (B i)) 4 (fun m => by
    show wf_X9_chosen_5 K (m + 1) (nI b) (if fl then 1 else 0) (if B 4 = h then -1 else mt_pI (B 4)) (nI 4) s
    unfold wf_X9_chosen_5
    exact br_t (by decide) k) (fun m i hi hx => by
    have hx : wf_X9_chosen_5 K m (nI b) (if fl then 1 else 0) (if B (i + 1) = h then -1 else mt_pI (B (i + 1))) (nI (i + 1)) s := hx
    show wf_X9_chosen_5 K (m + 1) (nI b) (if fl then 1 else 0) (if B i = h then -1 else mt_pI (B i)) (nI i) s
    have hBi := hBs i hi
    have iB := inB i (by omega)
    have e76 : s 4 76 b = nI (mt_T h) := by rw [← hh]; exact mr_place R I.pl hb
    -- it is not taken
    have no : B (i + 1) = B i → wf_X9_chosen_142 K (wf_X9_chosen_5 K m) (nI b) (if fl then 1 else 0) (if B i = h then -1 else mt_pI (B i)) (nI i) s := by
      intro g
      rw [g] at hx
      unfold wf_X9_chosen_142
      exact nm_r (nI_1 i) hx
    have no0 : ∀ r, B (i + 1) = B i → wf_X9_chosen_72 K (wf_X9_chosen_5 K m) (nI b) (if fl then 1 else 0) (if B i = h then -1 else mt_pI (B i)) (nI i) r 0 s := by
      intro r g
      unfold wf_X9_chosen_72
      have q : ∀ y, wf_X9_chosen_99 K (wf_X9_chosen_5 K m) (nI b) (if fl then 1 else 0) (if B i = h then -1 else mt_pI (B i)) (nI i) r 0 y s := fun y => by
        unfold wf_X9_chosen_99
        exact br_t rfl (no g)
      refine dq_rb (fun g1 => ⟨?_, q _⟩) (fun g1 => ⟨vp_in_nI hb (by decide), ?_, q _⟩)
      · by_cases e : B i = h
        · rw [if_pos e] at g1; exact absurd rfl g1
        · rw [if_neg e, mt_pI_in iB.1]
          exact vp_in_nI (mt_T_lt iB.1) (by decide)
      · rw [nI_clamp (by omega), e76]
        exact vp_in_nI (mt_T_lt hp) (by decide)
    unfold wf_X9_chosen_5
    refine br_f (nI_ge (b := 4) hi (by decide)) ⟨vp_in_nI hb (by decide), ?_⟩
    rw [nI_clamp (by omega), e76]
    refine km_beside hp hi ?_
    by_cases hn : dq_nb h i < 144
    · have lT := mt_T_lt hn
      have fin : (dq_op w n (dq_nb h i) ∨ (fl = false ∧ dq_sg w (dq_nb h i) = 43)) → 0 ≤ dq_D (dq_tl w 1 0) a (dq_nb h i) → wf_X9_chosen_72 K (wf_X9_chosen_5 K m) (nI b) (if fl then 1 else 0) (if B i = h then -1 else mt_pI (B i)) (nI i) (nI (mt_T (dq_nb h i))) 1 s := by
        intro g1 g2
        have hD := dq_D_beside hp hi hn ht g2
        have BD : 0 ≤ dq_D (dq_tl w 1 0) a (B i) := by
          rcases iB.2 with e | e
          · rw [e]; exact hD
          · exact e
        have q : wf_X9_chosen_99 K (wf_X9_chosen_5 K m) (nI b) (if fl then 1 else 0) (if B i = h then -1 else mt_pI (B i)) (nI i) (nI (mt_T (dq_nb h i))) 1 (s 4 86 (mt_T (B i))) s := by
          unfold wf_X9_chosen_99
          refine br_f (by decide) ?_
          cases fl with
          | true =>
            have hBi : B (i + 1) = dq_if ((dq_op w n (dq_nb h i) ∨ (true = false ∧ dq_sg w (dq_nb h i) = 43)) ∧ 0 ≤ dq_D (dq_tl w 1 0) a (dq_nb h i) ∧ dq_D (dq_tl w 1 0) a (B i) < dq_D (dq_tl w 1 0) a (dq_nb h i)) (dq_nb h i) (B i) := hBi
            refine br_f (by decide) ⟨vp_in_nI lT (by decide), ?_⟩
            rw [nI_clamp (by omega)]
            have c := ms_cmp S hn iB.1 g2 BD
            refine br_c (fun g3 => no ?_) (fun g3 => ?_)
            · have := c.1 g3
              rw [hBi, dq_if_f (fun r => by omega)]
            · have g4 : ¬ dq_D (dq_tl w 1 0) a (dq_nb h i) ≤ dq_D (dq_tl w 1 0) a (B i) := fun r => g3 (c.2 r)
              rw [hBi, dq_if_t ⟨g1, g2, by omega⟩, if_neg (ne i hi), mt_pI_in hn] at hx
              exact nm_r (nI_1 i) hx
          | false =>
            have hBi : B (i + 1) = dq_if ((dq_op w n (dq_nb h i) ∨ (false = false ∧ dq_sg w (dq_nb h i) = 43)) ∧ 0 ≤ dq_D (dq_tl w 1 0) a (dq_nb h i) ∧ dq_D (dq_tl w 1 0) a (dq_nb h i) < dq_D (dq_tl w 1 0) a (B i)) (dq_nb h i) (B i) := hBi
            refine br_t rfl ⟨vp_in_nI lT (by decide), ?_⟩
            rw [nI_clamp (by omega)]
            have c := ms_cmp S iB.1 hn BD g2
            refine br_c (fun g3 => no ?_) (fun g3 => ?_)
            · have := c.1 g3
              rw [hBi, dq_if_f (fun r => by omega)]
            · have g4 : ¬ dq_D (dq_tl w 1 0) a (B i) ≤ dq_D (dq_tl w 1 0) a (dq_nb h i) := fun r => g3 (c.2 r)
              rw [hBi, dq_if_t ⟨g1, g2, by omega⟩, if_neg (ne i hi), mt_pI_in hn] at hx
              exact nm_r (nI_1 i) hx
        unfold wf_X9_chosen_72
        by_cases e : B i = h
        · rw [if_pos e]
          rw [if_pos e, e] at q
          refine dq_rt rfl ⟨vp_in_nI hb (by decide), ?_⟩
          rw [nI_clamp (by omega), e76, nI_clamp (by have := mt_T_lt hp; omega)]
          exact ⟨vp_in_nI (mt_T_lt hp) (by decide), q⟩
        · have lB := mt_T_lt iB.1
          rw [if_neg e, mt_pI_in iB.1]
          rw [if_neg e, mt_pI_in iB.1] at q
          refine dq_rf (dq_m1' (by omega)) ⟨vp_in_nI lB (by decide), ?_⟩
          rw [nI_clamp (by omega)]
          exact q
      have e3 := mt_pI_in hn
      rw [e3]
      refine br_f (dq_m1' (by omega)) ⟨vp_in_nI lT (by decide), ?_⟩
      rw [nI_clamp (by omega)]
      have c := ms_lt S hn
      refine br_c (fun g => no0 _ ?_) (fun g => ?_)
      · rw [hBi, dq_if_f (fun r => absurd g (c.2 r.2.1))]
      · have g2 := c.1 g
        rw [← e3]
        refine km_isOpenFor R I U (by omega) (fun o => dq_1' ?_) (fun o => dq_0' ?_)
        · rw [e3]; exact fin (Or.inl o) g2
        · rw [e3]
          cases fl with
          | true => exact dq_rf (by decide) (no0 _ (by rw [hBi, dq_if_f (fun r => by rcases r.1 with q | q; exact o q; exact absurd q.1 (by decide))]))
          | false =>
            refine dq_rt rfl ⟨vp_in_nI lT (by decide), ?_⟩
            rw [R.r75' hn, ← dq_sg_in (f := w) hn]
            exact dq_rb (fun g3 => no0 _ (by rw [hBi, dq_if_f (fun r => by rcases r.1 with q | q; exact o q; exact g3 q.2)])) (fun g3 => fin (Or.inr ⟨rfl, g3⟩) g2)
    · rw [mt_pI_out hn]
      refine br_t rfl (no0 _ ?_)
      have e : dq_nb h i = 144 := by have := hnb i hi; omega
      rw [hBi, dq_if_f]
      rintro ⟨g | g, _⟩
      · exact absurd (dq_op_in (by omega) g) hn
      · have := g.2
        rw [e, dq_sg_out] at this
        exact absurd this (by decide)) (Nat.zero_le 4) |> fun q => by
    obtain ⟨m, q⟩ := q
    have q : wf_X9_chosen_5 K m (nI b) (if fl then 1 else 0) (if B 0 = h then -1 else mt_pI (B 0)) (nI 0) s := q
    rw [hB0, if_pos rfl] at q
    exact ⟨m, q⟩
end DQXF
