/-! the reference's noises, bags, weights -/
theorem mt_V_neg {v : Int32} : mt_V v < 0 ↔ v < 0 := by
  unfold mt_V
  by_cases h : v < 0
  · rw [if_pos h]
  · rw [if_neg h]
    obtain ⟨j, hj, rfl⟩ := nI_of h
    rw [nI_clamp hj]
    have : mt_T j < 2 ^ 31 := by unfold mt_T; omega
    exact ⟨fun g => absurd g (nI_pos this), fun g => absurd g h⟩
theorem mt_V_eqn {v x : Int32} (hx : x < 0) : mt_V v = x ↔ v = x := by
  by_cases h : v < 0
  · rw [mt_V_n h]
  · constructor
    · intro g
      have := mt_V_neg (v := v)
      rw [g] at this
      exact absurd (this.1 hx) h
    · intro g
      rw [g] at h
      exact absurd hx h
theorem mt_V_m1 {v : Int32} : mt_V v = -1 ↔ v = -1 := mt_V_eqn (by decide)
theorem mt_V_lt3 {v : Int32} : -3 < mt_V v ↔ -3 < v := by
  by_cases h : v < 0
  · rw [mt_V_n h]
  · have h2 : ¬ mt_V v < 0 := fun g => h (mt_V_neg.1 g)
    rw [Int32.lt_iff_toInt_lt] at h h2
    rw [Int32.lt_iff_toInt_lt, Int32.lt_iff_toInt_lt]
    have e0 : (0 : Int32).toInt = 0 := rfl
    have e3 : (-3 : Int32).toInt = -3 := rfl
    rw [e0] at h h2
    rw [e3]
    omega
/-- a truth that is gathered -/
noncomputable def mb_ex (P : Nat → Prop) (i : Nat) : Int32 := dq_if (∃ j, j < i ∧ P j) 1 0
theorem mb_ex_0 {P : Nat → Prop} : mb_ex P 0 = 0 := dq_if_f (fun ⟨j, h, _⟩ => absurd h (Nat.not_lt_zero j))
theorem mb_ex_n {P : Nat → Prop} {i : Nat} : narrow .boolean (.int (mb_ex P i)) = .int (mb_ex P i) := by
  unfold mb_ex
  by_cases h : ∃ j, j < i ∧ P j
  · rw [dq_if_t h]; exact dq_nz1
  · rw [dq_if_f h]; exact dq_nz0
theorem mb_ex_s1 {P : Nat → Prop} {i : Nat} (h : ¬ mb_ex P i = 0) : mb_ex P (i + 1) = 1 := by
  unfold mb_ex at h ⊢
  by_cases g : ∃ j, j < i ∧ P j
  · obtain ⟨j, h1, h2⟩ := g
    exact dq_if_t ⟨j, by omega, h2⟩
  · exact absurd (dq_if_f g) h
theorem mb_ex_sy {P : Nat → Prop} {i : Nat} (h : P i) : mb_ex P (i + 1) = 1 := dq_if_t ⟨i, by omega, h⟩
theorem mb_ex_sn {P : Nat → Prop} {i : Nat} (h : mb_ex P i = 0) (hP : ¬ P i) : mb_ex P (i + 1) = 0 := by
  unfold mb_ex at h ⊢
  refine dq_if_f ?_
  rintro ⟨j, h1, h2⟩
  by_cases e : j = i
  · rw [e] at h2; exact hP h2
  · rw [dq_if_t ⟨j, by omega, h2⟩] at h
    exact absurd h (by decide)
theorem mb_ex_e {P : Nat → Prop} {i : Nat} {K : Int32 → Prop} (k1 : (∃ j, j < i ∧ P j) → K 1) (k0 : ¬ (∃ j, j < i ∧ P j) → K 0) : K (mb_ex P i) := by
  unfold mb_ex
  by_cases h : ∃ j, j < i ∧ P j
  · rw [dq_if_t h]; exact k1 h
  · rw [dq_if_f h]; exact k0 h
section DQXE
variable {n t l : Nat} {w : dq_W} {s : dk_S} {K : Int32 → dk_S → Prop} {J : dk_S → Prop}
theorem ms_S.set {tl : Nat → Nat} {a q k : Nat} {v : Int32} {m : dq_W} (h : ms_S tl a m) (hq : q ≠ 86) : ms_S tl a (dq_set m q k v) := fun c hc => by
  rw [dq_set_q (Ne.symm hq)]; exact h c hc
theorem km_sounds {c m : Nat} (R : mr_R w (s 4)) (I : dq_IV n t l w) (hc : c < 144) (hm : m < 100000) (k : ∀ u, mx_P (ax_noise c m n w) s u → K (ax_ears w c m n) u) : wf_X9_sounds (nI (mt_T c)) (nI m) s K := by
  unfold wf_X9_sounds
  have h8 := I.h8
  have h1 := I.h1
  have hcl := mt_T_lt hc
  refine km_findsSteps (tl := dq_tl w 3 7) (cl := 3) (lk := 3) R I.sg hc (mf_co_3 I.sg) (fun u P0 S0 => ?_)
  have ears0 : ax_ears w c m 1 = 0 := by
    unfold ax_ears
    rw [dq_sum_f (fun g => absurd g.1 (by decide))]; rfl
  refine ⟨n + 1, loop_i (σ := dk_S × Int32) (fun f i x => wf_X9_sounds_12 K f (nI (mt_T c)) (nI m) x.2 (nI i) x.1) (fun i x => 1 ≤ i ∧ mx_P (ax_noise c m i w) s x.1 ∧ ms_S (dq_tl w 3 7) c (x.1 4) ∧ x.2 = ax_ears w c m i) n ?_ ?_ (n + 1) 1 (u, 0) h1 (by omega) ⟨Nat.le_refl 1, by rw [ax_noise_0]; exact P0, S0, ears0.symm⟩⟩
  · rintro f ⟨u1, e1⟩ ⟨-, P1, S1, he⟩
    have P1 : mx_P (ax_noise c m n w) s u1 := P1
    have he : e1 = ax_ears w c m n := he
    show wf_X9_sounds_12 K (f + 1) (nI (mt_T c)) (nI m) e1 (nI n) u1
    unfold wf_X9_sounds_12
    rw [P1.1.n10, ax_noise_o (Or.inl (by decide)), I.hn, he]
    exact br_t (nI_le (Nat.le_refl _) (by omega)) (k u1 P1)
  · rintro f i ⟨u1, e1⟩ hi ⟨i0, P1, S1, he⟩ next
    have P1 : mx_P (ax_noise c m i w) s u1 := P1
    have S1 : ms_S (dq_tl w 3 7) c (u1 4) := S1
    have he : e1 = ax_ears w c m i := he
    show wf_X9_sounds_12 K (f + 1) (nI (mt_T c)) (nI m) e1 (nI i) u1
    unfold wf_X9_sounds_12
    rw [P1.1.n10, ax_noise_o (Or.inl (by decide)), I.hn]
    have hlv : dq_lv (ax_noise c m i w) i = dq_lv w i := by unfold dq_lv; rw [ax_noise_o (Or.inl (by decide))]
    have hpl : dq_pl (ax_noise c m i w) i = dq_pl w i := by unfold dq_pl; rw [ax_noise_o (Or.inl (by decide))]
    have I1 := ax_noise_I (c := c) (m := m) (i := i) hc I
    have hp := (I.pl i (by omega)).1
    have no : ¬ dq_hd w c m i → 1 ≤ i + 1 ∧ mx_P (ax_noise c m (i + 1) w) s u1 ∧ ms_S (dq_tl w 3 7) c (u1 4) ∧ e1 = ax_ears w c m (i + 1) := fun g => by
      refine ⟨by omega, by rw [← ax_noise_n g]; exact P1, S1, ?_⟩
      rw [he]
      exact (dq_sum_f (P := dq_hd w c m) (g := fun _ => 1) g).symm
    refine br_f (nI_ge hi (by omega)) (km_lives P1.1 (by omega) (fun h2 => dq_1 ⟨vp_in_nI (by omega) (by decide), ?_⟩) (fun h2 => dq_0 (nm_r (nI_1 i) (next (u1, e1) (no fun g => h2 (by rw [hlv]; exact g.2.1))))))
    rw [hlv] at h2
    rw [nI_clamp (by omega), mr_place P1.1 I1.pl (by omega), hpl]
    have hpT := mt_T_lt hp
    refine ⟨vp_in_nI hpT (by decide), ?_⟩
    rw [nI_clamp (by omega)]
    have st := S1 _ hp
    have cond : (nI m < u1 4 86 (mt_T (dq_pl w i))) ↔ ¬ (0 ≤ dq_D (dq_tl w 3 7) c (dq_pl w i) ∧ dq_D (dq_tl w 3 7) c (dq_pl w i) ≤ m) := by
      rcases st with ⟨g1, g2⟩ | ⟨g1, g2, g3⟩
      · rw [g2, g1, show (100000 : Int32) = nI 100000 from rfl, nI_ltI (by omega) (by decide)]
        omega
      · rw [g3, dq_iN, dq_ilt (by omega) (by omega) (by omega) (by omega)]
        omega
    refine br_c (fun g => nm_r (nI_1 i) (next (u1, e1) (no fun q => (cond.1 g) q.2.2))) (fun g => ⟨vp_in_nI (by omega) (by decide), ?_⟩)
    have hd : dq_hd w c m i := ⟨i0, h2, Classical.not_not.mp (fun q => g (cond.2 q))⟩
    refine mx_put (nm_r (e' := e1 + 1) rfl (nm_r (nI_1 i) (next (_, e1 + 1) ⟨by omega, ?_, ?_, ?_⟩)))
    · have q := P1.1.p81 (k := i) (v := nI c) (by omega)
      rw [mt_V_c hc, ax_noise_s hd] at q
      exact P1.st q (by unfold mk_g; omega)
    · show ms_S (dq_tl w 3 7) c (dq_st u1 4 81 i (nI (mt_T c)) 4)
      rw [dq_st_p]
      exact S1.set (by decide)
    · show e1 + 1 = ax_ears w c m (i + 1)
      rw [he]
      exact (dq_sum_t (P := dq_hd w c m) (g := fun _ => 1) hd).symm
theorem mr_where {m : dq_W} {x : Nat} (R : mr_R w m) (hx : x < 24) : m 82 x = mt_V (w 25 x) := R.r82 hx
theorem dq_bg_24 (I : dq_IV n t l w) {x : Nat} (hx : x < 24) (h : dq_bg w x = 24) : -3 < w 25 x := by
  rcases dq_bg_cases I.tp I.t24 hx with ⟨_, g⟩ | ⟨g, _⟩
  · exact g
  · have := I.t24; omega
theorem dq_bg_v (I : dq_IV n t l w) {x : Nat} (hx : x < 24) (h : dq_bg w x ≠ 24) : dq_bg w x < t ∧ w 25 x = (-3) - nI (dq_bg w x) := by
  rcases dq_bg_cases I.tp I.t24 hx with ⟨g, _⟩ | g
  · exact absurd g h
  · exact g
theorem km_outermost {x : Nat} (R : mr_R w (s 4)) (I : dq_IV n t l w) (hx : x < 24) (k : K (mt_V (w 25 (dq_ou w 24 x))) s) : wf_X9_outermost (nI x) s K := by
  unfold wf_X9_outermost
  have ht := I.t24
  have key : ∀ j y, y < 24 → dq_bg w (dq_ou w j y) = 24 → K (mt_V (w 25 (dq_ou w j y))) s → wf_X9_outermost_7 K (j + 1) (mt_V (w 25 y)) s := by
    intro j
    induction j with
    | zero =>
      intro y hy h1 h2
      unfold wf_X9_outermost_7
      exact br_t (mt_V_lt3.2 (dq_bg_24 I hy h1)) h2
    | succ j ih =>
      intro y hy h1 h2
      unfold wf_X9_outermost_7
      rw [dq_ou_s] at h1 h2
      by_cases g : dq_bg w y = 24
      · rw [if_pos g] at h2
        exact br_t (mt_V_lt3.2 (dq_bg_24 I hy g)) h2
      · rw [if_neg g] at h1 h2
        obtain ⟨g1, g2⟩ := dq_bg_v I hy g
        rw [g2, mt_V_b (by omega), dq_bag_sub (by omega)]
        refine br_f (dq_bag_le (by omega)) ⟨vp_in_nI (by omega) (by decide), ?_⟩
        rw [nI_clamp (by omega), R.r82 (by omega)]
        exact nm_e (ih _ (by omega) h1 h2)
  refine ⟨vp_in_nI hx (by decide), ?_⟩
  rw [nI_clamp (by omega), R.r82 hx]
  exact nm_e ⟨25, key 24 x hx (dq_ou_end I.tp ht I.ac hx) k⟩
/-- in a bag, at a depth of 1 or more -/
def mt_wi (w : dq_W) (y x : Nat) : Prop := dq_bg w x ≠ 24 ∧ dq_IN w y (dq_bg w x)
theorem mt_wi_IN {x y : Nat} (h : x ≠ y) : mt_wi w y x ↔ dq_IN w y x := by
  unfold mt_wi
  by_cases g : dq_bg w x = 24
  · rw [dq_IN_top g]
    exact ⟨fun q => absurd g q.1, fun q => absurd q h⟩
  · rw [dq_IN_up g]
    exact ⟨fun q => Or.inr q.2, fun q => ⟨g, q.resolve_left h⟩⟩
theorem km_isWithin {x y : Nat} (R : mr_R w (s 4)) (I : dq_IV n t l w) (hx : x < 24) (hy : y < 24) (k1 : mt_wi w y x → K 1 s) (k0 : ¬ mt_wi w y x → K 0 s) : wf_X9_isWithin (nI x) (nI y) s K := by
  unfold wf_X9_isWithin
  have ht := I.t24
  have key : ∀ j z, z < 24 → dq_bg w (dq_ou w j z) = 24 → (mt_wi w y z → K 1 s) → (¬ mt_wi w y z → K 0 s) → wf_X9_isWithin_7 K (fun (w2 : Int32) (s3 : dk_S) => (((-3) < w2 → K 0 s3) ∧ (¬ (-3) < w2 → K 1 s3))) (j + 1) (nI y) (mt_V (w 25 z)) s := by
    intro j
    induction j with
    | zero =>
      intro z hz h1 h2 h3
      unfold wf_X9_isWithin_7
      have h1 : dq_bg w z = 24 := h1
      have q := mt_V_lt3.2 (dq_bg_24 I hz h1)
      exact br_t q (br_t q (h3 fun g => g.1 h1))
    | succ j ih =>
      intro z hz h1 h2 h3
      unfold wf_X9_isWithin_7
      rw [dq_ou_s] at h1
      by_cases g : dq_bg w z = 24
      · have q := mt_V_lt3.2 (dq_bg_24 I hz g)
        exact br_t q (br_t q (h3 fun r => r.1 g))
      · rw [if_neg g] at h1
        obtain ⟨g1, g2⟩ := dq_bg_v I hz g
        rw [g2, mt_V_b (by omega), dq_bag_sub (by omega)]
        have q := dq_bag_le (b := dq_bg w z) (by omega)
        refine br_f q (br_c (fun e => br_f q (h2 ⟨g, ?_⟩)) (fun e => ⟨vp_in_nI (by omega) (by decide), ?_⟩))
        · have := (nI_eq (by omega) (by omega)).1 e
          exact ⟨0, this, fun k hk => absurd hk (Nat.not_lt_zero _)⟩
        · have ne : dq_bg w z ≠ y := fun r => e (congrArg nI r)
          have e2 := mt_wi_IN (w := w) ne
          rw [nI_clamp (by omega), R.r82 (by omega)]
          refine nm_e (ih _ (by omega) h1 (fun r => h2 ⟨g, e2.1 r⟩) (fun r => h3 fun r2 => r (e2.2 r2.2)))
  refine ⟨vp_in_nI hx (by decide), ?_⟩
  rw [nI_clamp (by omega), R.r82 hx]
  exact nm_e ⟨25, key 24 x hx (dq_ou_end I.tp ht I.ac hx) k1 k0⟩
theorem mr_kind {m : dq_W} {x : Nat} (R : mr_R w m) (I : dq_IV n t l w) (hx : x < 24) : m 71 x = nI (dq_kd w x) ∧ dq_kd w x < 8 := by
  obtain ⟨h1, h2⟩ := I.kd x hx
  rw [R.r71 hx]
  exact ⟨h2, h1⟩
theorem dq_sum_out {P : Nat → Prop} {g : Nat → Int32} {x : Nat} (hx : P x) : ∀ i, dq_sum P g i = (if x < i then g x else 0) + dq_sum (fun k => k ≠ x ∧ P k) g i
  | 0 => by
    rw [if_neg (by omega)]
    exact (Int32.zero_add _).symm
  | i + 1 => by
    have ih := dq_sum_out (g := g) hx i
    by_cases e : i = x
    · subst e
      rw [if_neg (by omega), Int32.zero_add] at ih
      rw [dq_sum_t hx, dq_sum_f (P := fun k => k ≠ i ∧ P k) (fun q => q.1 rfl), if_pos (by omega), ih, Int32.add_comm]
    · have e2 : (if x < i + 1 then g x else 0) = (if x < i then g x else 0) := by
        by_cases q : x < i
        · rw [if_pos q, if_pos (by omega)]
        · rw [if_neg q, if_neg (by omega)]
      rw [e2]
      by_cases q : P i
      · rw [dq_sum_t q, dq_sum_t (P := fun k => k ≠ x ∧ P k) ⟨e, q⟩, ih, Int32.add_assoc]
      · rw [dq_sum_f q, dq_sum_f (P := fun k => k ≠ x ∧ P k) (fun r => q r.2), ih]
theorem km_wholeWeight {x : Nat} (R : mr_R w (s 4)) (I : dq_IV n t l w) (hx : x < t) (k : K (dq_sum (fun i => dq_wi w x 24 i) (dq_wt w) t) s) : wf_X9_wholeWeight (nI x) s K := by
  unfold wf_X9_wholeWeight
  have ht := I.t24
  obtain ⟨e1, e2⟩ := mr_kind R I (x := x) (by omega)
  have hw : ∀ i, i < 24 → s 4 62 (dq_kd w i) = dq_wt w i := fun i hi => R.r62 (mr_kind R I hi).2
  refine ⟨vp_in_nI (by omega) (by decide), ?_⟩
  rw [nI_clamp (by omega), e1]
  refine ⟨vp_in_nI e2 (by decide), ?_⟩
  rw [nI_clamp (by omega), hw x (by omega)]
  have hp : ∀ i, i < 24 → (dq_wi w x 24 i ↔ dq_IN w x i) := fun i hi => dq_wi_IN I.tp ht I.ac hi
  have fin : dq_sum (fun i => dq_wi w x 24 i) (dq_wt w) t = dq_wt w x + dq_sum (fun i => i ≠ x ∧ dq_IN w x i) (dq_wt w) t := by
    have a1 := dq_sum_e (P := fun i => dq_wi w x 24 i) (Q := fun i => dq_IN w x i) (g := dq_wt w) (k := dq_wt w) t (fun j hj => hp j (by omega)) (fun j hj => rfl)
    have a2 := dq_sum_out (P := fun i => dq_IN w x i) (g := dq_wt w) (x := x) ⟨0, rfl, fun k hk => absurd hk (Nat.not_lt_zero _)⟩ t
    rw [if_pos hx] at a2
    rw [a1, a2]
  rw [fin] at k
  have q := dq_lp (fun m i z => wf_X9_wholeWeight_14 K m (nI x) z (nI i) s) (fun i => dq_wt w x + dq_sum (fun i => i ≠ x ∧ dq_IN w x i) (dq_wt w) i) t (fun m => by
    show wf_X9_wholeWeight_14 K (m + 1) (nI x) (dq_wt w x + dq_sum (fun i => i ≠ x ∧ dq_IN w x i) (dq_wt w) t) (nI t) s
    unfold wf_X9_wholeWeight_14
    rw [R.n15, I.ht]
    exact br_t (nI_le (Nat.le_refl _) (by omega)) k) (fun m i hi h => by
    have h : wf_X9_wholeWeight_14 K m (nI x) (dq_wt w x + dq_sum (fun i => i ≠ x ∧ dq_IN w x i) (dq_wt w) (i + 1)) (nI (i + 1)) s := h
    show wf_X9_wholeWeight_14 K (m + 1) (nI x) (dq_wt w x + dq_sum (fun i => i ≠ x ∧ dq_IN w x i) (dq_wt w) i) (nI i) s
    unfold wf_X9_wholeWeight_14
    rw [R.n15, I.ht]
    refine br_f (nI_ge hi (by omega)) (br_c (fun g => ?_) (fun g => km_isWithin R I (by omega) (by omega) (fun h1 => dq_1 ⟨vp_in_nI (by omega) (by decide), ?_⟩) (fun h1 => dq_0 ?_)))
    · have := (nI_eq (by omega) (by omega)).1 g
      rw [dq_sum_f (P := fun i => i ≠ x ∧ dq_IN w x i) (fun r => r.1 this)] at h
      exact nm_r (Int32.add_zero _) (nm_r (nI_1 i) h)
    · have ne : i ≠ x := fun r => g (congrArg nI r)
      obtain ⟨f1, f2⟩ := mr_kind R I (x := i) (by omega)
      rw [nI_clamp (by omega), f1]
      refine ⟨vp_in_nI f2 (by decide), ?_⟩
      rw [nI_clamp (by omega), hw i (by omega)]
      rw [dq_sum_t (P := fun i => i ≠ x ∧ dq_IN w x i) ⟨ne, (mt_wi_IN ne).1 h1⟩, ← Int32.add_assoc] at h
      exact nm_e (nm_r (nI_1 i) h)
    · have ne : i ≠ x := fun r => g (congrArg nI r)
      rw [dq_sum_f (P := fun i => i ≠ x ∧ dq_IN w x i) (fun r => h1 ((mt_wi_IN ne).2 r.2))] at h
      exact nm_r (Int32.add_zero _) (nm_r (nI_1 i) h)) (Nat.zero_le t)
  have q0 : dq_wt w x + dq_sum (fun i => i ≠ x ∧ dq_IN w x i) (dq_wt w) 0 = dq_wt w x := Int32.add_zero _
  obtain ⟨m, q⟩ := q
  have q : wf_X9_wholeWeight_14 K m (nI x) (dq_wt w x + dq_sum (fun i => i ≠ x ∧ dq_IN w x i) (dq_wt w) 0) (nI 0) s := q
  rw [q0] at q
  exact nm_e ⟨m, q⟩
theorem km_carriedWeight (R : mr_R w (s 4)) (I : dq_IV n t l w) (k : K (dq_cw w t) s) : wf_X9_carriedWeight s K := by
  unfold wf_X9_carriedWeight
  have ht := I.t24
  exact dq_lp (fun m i z => wf_X9_carriedWeight_4 K m z (nI i) s) (dq_sum (dq_cr w) (dq_wt w)) t (fun m => by
    show wf_X9_carriedWeight_4 K (m + 1) (dq_sum (dq_cr w) (dq_wt w) t) (nI t) s
    unfold wf_X9_carriedWeight_4
    rw [R.n15, I.ht]
    exact br_t (nI_le (Nat.le_refl _) (by omega)) k) (fun m i hi h => by
    have h : wf_X9_carriedWeight_4 K m (dq_sum (dq_cr w) (dq_wt w) (i + 1)) (nI (i + 1)) s := h
    show wf_X9_carriedWeight_4 K (m + 1) (dq_sum (dq_cr w) (dq_wt w) i) (nI i) s
    unfold wf_X9_carriedWeight_4
    rw [R.n15, I.ht]
    refine br_f (nI_ge hi (by omega)) (km_outermost R I (by omega) ⟨fun h1 => ?_, fun h1 => ⟨vp_in_nI (by omega) (by decide), ?_⟩⟩)
    · rw [dq_sum_f (P := dq_cr w) (fun g => h1 (mt_V_m1.2 g))] at h
      exact nm_r (Int32.add_zero _) (nm_r (nI_1 i) h)
    · obtain ⟨f1, f2⟩ := mr_kind R I (x := i) (by omega)
      rw [nI_clamp (by omega), f1]
      refine ⟨vp_in_nI f2 (by decide), ?_⟩
      rw [nI_clamp (by omega), R.r62 f2]
      rw [dq_sum_t (P := dq_cr w) (mt_V_m1.1 h1)] at h
      exact nm_e (nm_r (nI_1 i) h)) (Nat.zero_le t)
theorem km_carries {v : Int32} (R : mr_R w (s 4)) (I : dq_IV n t l w) (k1 : dq_hs w t v → K 1 s) (k0 : ¬ dq_hs w t v → K 0 s) : wf_X9_carries v s K := by
  unfold wf_X9_carries
  have ht := I.t24
  have kk : K (mb_ex (fun i => w 24 i = v ∧ w 25 i = -1) t) s := mb_ex_e (K := fun x => K x s) k1 k0
  have q := dq_lp (fun m i z => wf_X9_carries_4 K m v z (nI i) s) (mb_ex (fun i => w 24 i = v ∧ w 25 i = -1)) t (fun m => by
    show wf_X9_carries_4 K (m + 1) v (mb_ex (fun i => w 24 i = v ∧ w 25 i = -1) t) (nI t) s
    unfold wf_X9_carries_4
    rw [R.n15, I.ht]
    exact br_t (nI_le (Nat.le_refl _) (by omega)) ⟨mb_ex_n, kk⟩) (fun m i hi h => by
    have h : wf_X9_carries_4 K m v (mb_ex (fun i => w 24 i = v ∧ w 25 i = -1) (i + 1)) (nI (i + 1)) s := h
    show wf_X9_carries_4 K (m + 1) v (mb_ex (fun i => w 24 i = v ∧ w 25 i = -1) i) (nI i) s
    unfold wf_X9_carries_4
    rw [R.n15, I.ht]
    refine br_f (nI_ge hi (by omega)) (dq_rb (fun g => ?_) (fun g => ⟨vp_in_nI (by omega) (by decide), ?_⟩))
    · rw [mb_ex_s1 g] at h
      exact nm_r (nI_1 i) h
    · rw [nI_clamp (by omega), R.r71 (by omega), R.r82 (by omega)]
      refine dq_rb (fun g2 => ?_) (fun g2 => ⟨vp_in_nI (by omega) (by decide), dq_rb (fun g3 => ?_) (fun g3 => ?_)⟩)
      · rw [mb_ex_sn g (fun r => g2 r.1)] at h
        exact nm_r (nI_1 i) h
      · rw [mb_ex_sn g (fun r => g3 (mt_V_m1.2 r.2))] at h
        exact nm_r (nI_1 i) h
      · rw [mb_ex_sy (P := fun i => w 24 i = v ∧ w 25 i = -1) ⟨g2, mt_V_m1.1 g3⟩] at h
        exact nm_r (nI_1 i) h) (Nat.zero_le t)
  obtain ⟨m, q⟩ := q
  have q : wf_X9_carries_4 K m v (mb_ex (fun i => w 24 i = v ∧ w 25 i = -1) 0) (nI 0) s := q
  rw [mb_ex_0] at q
  exact ⟨m, q⟩
theorem km_carriesAnywhere {v : Int32} (R : mr_R w (s 4)) (I : dq_IV n t l w) (k1 : (∃ i, i < t ∧ w 24 i = v ∧ dq_cr w i) → K 1 s) (k0 : ¬ (∃ i, i < t ∧ w 24 i = v ∧ dq_cr w i) → K 0 s) : wf_X9_carriesAnywhere v s K := by
  unfold wf_X9_carriesAnywhere
  have ht := I.t24
  have kk : K (mb_ex (fun i => w 24 i = v ∧ dq_cr w i) t) s := mb_ex_e (K := fun x => K x s) k1 k0
  have q := dq_lp (fun m i z => wf_X9_carriesAnywhere_4 K m v z (nI i) s) (mb_ex (fun i => w 24 i = v ∧ dq_cr w i)) t (fun m => by
    show wf_X9_carriesAnywhere_4 K (m + 1) v (mb_ex (fun i => w 24 i = v ∧ dq_cr w i) t) (nI t) s
    unfold wf_X9_carriesAnywhere_4
    rw [R.n15, I.ht]
    exact br_t (nI_le (Nat.le_refl _) (by omega)) ⟨mb_ex_n, kk⟩) (fun m i hi h => by
    have h : wf_X9_carriesAnywhere_4 K m v (mb_ex (fun i => w 24 i = v ∧ dq_cr w i) (i + 1)) (nI (i + 1)) s := h
    show wf_X9_carriesAnywhere_4 K (m + 1) v (mb_ex (fun i => w 24 i = v ∧ dq_cr w i) i) (nI i) s
    unfold wf_X9_carriesAnywhere_4
    rw [R.n15, I.ht]
    refine br_f (nI_ge hi (by omega)) (dq_rb (fun g => ?_) (fun g => ⟨vp_in_nI (by omega) (by decide), ?_⟩))
    · rw [mb_ex_s1 g] at h
      exact nm_r (nI_1 i) h
    · rw [nI_clamp (by omega), R.r71 (by omega)]
      refine dq_rb (fun g2 => ?_) (fun g2 => km_outermost R I (by omega) (dq_rb (fun g3 => ?_) (fun g3 => ?_)))
      · rw [mb_ex_sn g (fun r => g2 r.1)] at h
        exact nm_r (nI_1 i) h
      · rw [mb_ex_sn g (fun r => g3 (mt_V_m1.2 r.2))] at h
        exact nm_r (nI_1 i) h
      · rw [mb_ex_sy (P := fun i => w 24 i = v ∧ dq_cr w i) ⟨g2, mt_V_m1.1 g3⟩] at h
        exact nm_r (nI_1 i) h) (Nat.zero_le t)
  obtain ⟨m, q⟩ := q
  have q : wf_X9_carriesAnywhere_4 K m v (mb_ex (fun i => w 24 i = v ∧ dq_cr w i) 0) (nI 0) s := q
  rw [mb_ex_0] at q
  exact ⟨m, q⟩
theorem km_isBag {x : Nat} (R : mr_R w (s 4)) (hx : x < 24) (k1 : w 24 x = 6 → K 1 s) (k0 : ¬ w 24 x = 6 → K 0 s) : wf_X9_isBag (nI x) s K := by
  unfold wf_X9_isBag
  refine ⟨vp_in_nI hx (by decide), ?_⟩
  rw [nI_clamp (by omega), R.r71 hx]
  exact dq_rb k0 k1
theorem km_hasKeyFor {v : Int32} (R : mr_R w (s 4)) (I : dq_IV n t l w) (k1 : dq_ky w t v → K 1 s) (k0 : ¬ dq_ky w t v → K 0 s) : wf_X9_hasKeyFor v s K := by
  unfold wf_X9_hasKeyFor
  have e : mr_in v 48 50 ↔ (v = 48 ∨ v = 49 ∨ v = 50) := by
    unfold mr_in
    have z : ∀ a : Int32, v = a ↔ v.toInt = a.toInt := fun a => Int32.toInt_inj.symm
    rw [z 48, z 49, z 50, Int32.lt_iff_toInt_lt, Int32.lt_iff_toInt_lt]
    have e1 : (48 : Int32).toInt = 48 := rfl
    have e2 : (49 : Int32).toInt = 49 := rfl
    have e3 : (50 : Int32).toInt = 50 := rfl
    rw [e1, e2, e3]
    omega
  unfold dq_ky at k1 k0
  exact km_in (fun h => dq_1 (km_carriesAnywhere R I (fun g => dq_1 (k1 ⟨e.1 h, g⟩)) (fun g => dq_0 (k0 fun q => g q.2)))) (fun h => dq_0 (k0 fun q => h (e.2 q.1)))
end DQXE
