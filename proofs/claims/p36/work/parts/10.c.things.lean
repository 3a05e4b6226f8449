/-! things: bags, weights -/
/-- the bag that a thing is in; 24: none -/
def dq_bg (f : dq_W) (x : Nat) : Nat := if -3 < f 25 x then 24 else ((-3) - f 25 x).toNatClampNeg
def dq_bI (j : Nat) : Int32 := if j = 24 then -1 else nI j
theorem dq_bI_of {j : Nat} (h : j < 24) : dq_bI j = nI j := if_neg (by omega)
/-- places of things: held, gone, a cell, or a bag among the things -/
def dq_TP (f : dq_W) (t : Nat) : Prop := ∀ x, x < 24 → f 25 x = -1 ∨ f 25 x = -2 ∨ (∃ c, c < 144 ∧ f 25 x = nI c) ∨ ∃ b, b < t ∧ f 25 x = (-3) - nI b
theorem dq_bag_sub {b : Nat} (h : b < 24) : (-3) - ((-3) - nI b) = nI b := by
  have : ∀ b, b < 24 → (-3 : Int32) - ((-3) - nI b) = nI b := by decide +kernel
  exact this b h
theorem dq_bag_le {b : Nat} (h : b < 24) : ¬ (-3 : Int32) < (-3) - nI b := by
  have : ∀ b, b < 24 → ¬ (-3 : Int32) < (-3) - nI b := by decide +kernel
  exact this b h
theorem dq_bag_m1 {b : Nat} (h : b < 24) : ¬ (-3) - nI b = (-1 : Int32) := by
  have : ∀ b, b < 24 → ¬ (-3) - nI b = (-1 : Int32) := by decide +kernel
  exact this b h
theorem dq_bag_neg {b : Nat} (h : b < 24) : (-3) - nI b < (0 : Int32) := by
  have : ∀ b, b < 24 → (-3) - nI b < (0 : Int32) := by decide +kernel
  exact this b h
theorem dq_cell_bag {c : Nat} (h : c < 144) : (-3 : Int32) < nI c := by
  have : ∀ c, c < 144 → (-3 : Int32) < nI c := by decide +kernel
  exact this c h
theorem dq_bg_cases {f : dq_W} {t x : Nat} (hP : dq_TP f t) (ht : t ≤ 24) (hx : x < 24) : (dq_bg f x = 24 ∧ -3 < f 25 x) ∨ (dq_bg f x < t ∧ f 25 x = (-3) - nI (dq_bg f x)) := by
  rcases hP x hx with h | h | ⟨c, hc, h⟩ | ⟨b, hb, h⟩
  · refine Or.inl ⟨?_, ?_⟩
    · unfold dq_bg; rw [h]; rfl
    · rw [h]; decide
  · refine Or.inl ⟨?_, ?_⟩
    · unfold dq_bg; rw [h]; rfl
    · rw [h]; decide
  · refine Or.inl ⟨?_, ?_⟩
    · unfold dq_bg; rw [h, if_pos (dq_cell_bag hc)]
    · rw [h]; exact dq_cell_bag hc
  · refine Or.inr ?_
    have e : dq_bg f x = b := by
      unfold dq_bg
      rw [h, if_neg (dq_bag_le (by omega)), dq_bag_sub (by omega), nI_clamp (by omega)]
    rw [e]
    exact ⟨hb, h⟩
/-- the outermost, within j steps -/
def dq_ou (f : dq_W) : Nat → Nat → Nat
  | 0, x => x
  | j + 1, x => if dq_bg f x = 24 then x else dq_ou f j (dq_bg f x)
theorem dq_ou_s {f : dq_W} {j x : Nat} : dq_ou f (j + 1) x = if dq_bg f x = 24 then x else dq_ou f j (dq_bg f x) := rfl
/-- whether x is y, or in y at a depth up to j -/
def dq_wi (f : dq_W) (y : Nat) : Nat → Nat → Prop
  | 0, x => x = y
  | j + 1, x => x = y ∨ (dq_bg f x ≠ 24 ∧ dq_wi f y j (dq_bg f x))
section DQT
variable {p n t : Nat} {s : dk_S} {w : dq_W} {K : Int32 → dk_S → Prop} {J : dk_S → Prop}
theorem kx_bagOf {x : Nat} (hP : dq_TP (s p) t) (ht : t ≤ 24) (hx : x < 24) (k : K (dq_bI (dq_bg (s p) x)) s) : wf_X6_bagOf p (nI x) s K := by
  unfold wf_X6_bagOf
  refine kx_at hx (by decide) ?_
  rcases dq_bg_cases hP ht hx with ⟨h1, h2⟩ | ⟨h1, h2⟩
  · refine br_t h2 ?_
    rw [h1] at k
    exact k
  · have h3 : ¬ (-3) < s p 25 x := by rw [h2]; exact dq_bag_le (by omega)
    refine br_f h3 ?_
    rw [h2, dq_bag_sub (by omega)]
    rw [dq_bI_of (by omega)] at k
    exact k
theorem dq_bg_lt {f : dq_W} {x : Nat} (hP : dq_TP f t) (ht : t ≤ 24) (hx : x < 24) (h : dq_bg f x ≠ 24) : dq_bg f x < t := by
  rcases dq_bg_cases hP ht hx with ⟨h1, h2⟩ | ⟨h1, h2⟩
  · exact absurd h1 h
  · exact h1
theorem dq_ou_lt {f : dq_W} (hP : dq_TP f t) (ht : t ≤ 24) : ∀ (j x : Nat), x < 24 → dq_ou f j x < 24
  | 0, x, hx => hx
  | j + 1, x, hx => by
    rw [dq_ou_s]
    by_cases h : dq_bg f x = 24
    · rw [if_pos h]; exact hx
    · rw [if_neg h]
      have := dq_bg_lt hP ht hx h
      exact dq_ou_lt hP ht j _ (by omega)
theorem kx_outerPlace {x : Nat} (hP : dq_TP (s p) t) (ht : t ≤ 24) (hx : x < 24) (k : K (s p 25 (dq_ou (s p) 24 x)) s) : wf_X6_outerPlace p (nI x) s K := by
  unfold wf_X6_outerPlace
  have key : ∀ d i y, i + d = 24 → y < 24 → K (s p 25 (dq_ou (s p) d y)) s → wf_X6_outerPlace_4 p K (d + 1) (nI y) (nI i) s := by
    intro d
    induction d with
    | zero =>
      intro i y hi hy hk
      unfold wf_X6_outerPlace_4
      exact br_t (nI_le (a := 24) (by omega) (by omega)) (kx_at hy (by decide) hk)
    | succ d ih =>
      intro i y hi hy hk
      unfold wf_X6_outerPlace_4
      refine br_f (nI_ge (b := 24) (by omega) (by omega)) (kx_bagOf hP ht hy ?_)
      rw [dq_ou_s] at hk
      by_cases h : dq_bg (s p) y = 24
      · rw [if_pos h] at hk
        rw [h]
        exact br_t rfl (kx_at hy (by decide) hk)
      · rw [if_neg h] at hk
        have h2 := dq_bg_lt hP ht hy h
        rw [dq_bI_of (by omega)]
        refine br_f (dq_m1' (by omega)) (kx_bagOf hP ht hy ?_)
        rw [dq_bI_of (by omega)]
        exact nm_r (nI_1 i) (ih (i + 1) _ (by omega) (by omega) hk)
  exact ⟨25, key 24 0 x (by omega) hx k⟩
theorem kx_isWithin {x y : Nat} (hP : dq_TP (s p) t) (ht : t ≤ 24) (hx : x < 24) (hy : y < 24) (k1 : dq_wi (s p) y 24 x → K 1 s) (k0 : ¬ dq_wi (s p) y 24 x → K 0 s) : wf_X6_isWithin p (nI x) (nI y) s K := by
  unfold wf_X6_isWithin
  have key : ∀ d i z, i + d = 24 → z < 24 → (dq_wi (s p) y d z → K 1 s) → (¬ dq_wi (s p) y d z → K 0 s) → wf_X6_isWithin_5 p K (d + 2) (nI y) (nI z) (nI i) s := by
    intro d
    induction d with
    | zero =>
      intro i z hi hz h1 h0
      unfold wf_X6_isWithin_5
      refine br_f (nI_nlt (a := 24) (by omega) (by omega)) (br_f (dq_m1' (by omega)) ⟨fun h => ?_, fun h => ?_⟩)
      · refine kx_bagOf hP ht hz (nm_r (nI_1 i) ?_)
        unfold wf_X6_isWithin_5
        refine br_t (nI_lt (a := 24) (by omega) (by omega)) (h0 fun g => h ?_)
        exact congrArg nI g
      · exact h1 ((nI_eq (by omega) (by omega)).1 h)
    | succ d ih =>
      intro i z hi hz h1 h0
      unfold wf_X6_isWithin_5
      refine br_f (nI_nlt (a := 24) (by omega) (by omega)) (br_f (dq_m1' (by omega)) ⟨fun h => ?_, fun h => ?_⟩)
      · have hne : z ≠ y := fun g => h (congrArg nI g)
        refine kx_bagOf hP ht hz (nm_r (nI_1 i) ?_)
        by_cases hb : dq_bg (s p) z = 24
        · rw [hb]
          unfold wf_X6_isWithin_5
          refine br_f (nI_nlt (a := 24) (by omega) (by omega)) (br_t rfl (h0 ?_))
          rintro (g | g)
          · exact hne g
          · exact g.1 hb
        · have h2 := dq_bg_lt hP ht hz hb
          rw [dq_bI_of (by omega)]
          refine ih (i + 1) _ (by omega) (by omega) (fun g => h1 (Or.inr ⟨hb, g⟩)) (fun g => h0 ?_)
          rintro (q | q)
          · exact hne q
          · exact g q.2
      · exact h1 (Or.inl ((nI_eq (by omega) (by omega)).1 h))
  exact ⟨26, key 24 0 x (by omega) hx k1 k0⟩
/-- sums over the things -/
noncomputable def dq_sum (P : Nat → Prop) (g : Nat → Int32) : Nat → Int32
  | 0 => 0
  | i + 1 => @ite _ (P i) (Classical.propDecidable _) (dq_sum P g i + g i) (dq_sum P g i)
theorem dq_sum_t {P : Nat → Prop} {g : Nat → Int32} {i : Nat} (h : P i) : dq_sum P g (i + 1) = dq_sum P g i + g i := @if_pos _ (Classical.propDecidable _) h _ _ _
theorem dq_sum_f {P : Nat → Prop} {g : Nat → Int32} {i : Nat} (h : ¬ P i) : dq_sum P g (i + 1) = dq_sum P g i := @if_neg _ (Classical.propDecidable _) h _ _ _
/-- the kind of a thing -/
def dq_kd (f : dq_W) (x : Nat) : Nat := (f 24 x).toNatClampNeg
def dq_KD (f : dq_W) : Prop := ∀ x, x < 24 → dq_kd f x < 8 ∧ f 24 x = nI (dq_kd f x)
def dq_wt (f : dq_W) (x : Nat) : Int32 := f 8 (dq_kd f x)
def dq_cr (f : dq_W) (x : Nat) : Prop := f 25 (dq_ou f 24 x) = -1
theorem kx_carriedWeight (hP : dq_TP (s p) t) (hK : dq_KD (s p)) (ht : t ≤ 24) (hn : s p 23 2 = nI t) (k : K (dq_sum (dq_cr (s p)) (dq_wt (s p)) t) s) : wf_X6_carriedWeight p p s K := by
  unfold wf_X6_carriedWeight
  exact dq_lp (fun m i x => wf_X6_carriedWeight_4 p p K m x (nI i) s) (dq_sum (dq_cr (s p)) (dq_wt (s p))) t (fun m => by
    show wf_X6_carriedWeight_4 p p K (m + 1) (dq_sum (dq_cr (s p)) (dq_wt (s p)) t) (nI t) s
    unfold wf_X6_carriedWeight_4
    rw [hn]
    exact br_t (nI_le (Nat.le_refl _) (by omega)) k) (fun m i hi h => by
    have h : wf_X6_carriedWeight_4 p p K m (dq_sum (dq_cr (s p)) (dq_wt (s p)) (i + 1)) (nI (i + 1)) s := h
    show wf_X6_carriedWeight_4 p p K (m + 1) (dq_sum (dq_cr (s p)) (dq_wt (s p)) i) (nI i) s
    unfold wf_X6_carriedWeight_4
    rw [hn]
    refine br_f (nI_ge hi (by omega)) (kx_outerPlace hP ht (by omega) ⟨fun h1 => ?_, fun h1 => ?_⟩)
    · rw [dq_sum_f h1] at h
      exact nm_r (nI_1 i) h
    · rw [dq_sum_t h1] at h
      obtain ⟨e1, e2⟩ := hK i (by omega)
      refine kx_at (by omega) (by decide) (kx_atL e2 e1 (by decide) ?_)
      exact nm_e (nm_r (nI_1 i) h)) (Nat.zero_le t)
theorem kx_wholeWeight {x : Nat} (hx : x < 24) (hP : dq_TP (s p) t) (hK : dq_KD (s p)) (ht : t ≤ 24) (hn : s p 23 2 = nI t) (k : K (dq_sum (fun i => dq_wi (s p) x 24 i) (dq_wt (s p)) t) s) : wf_X6_wholeWeight p (nI x) p s K := by
  unfold wf_X6_wholeWeight
  exact dq_lp (fun m i z => wf_X6_wholeWeight_5 p p K m (nI x) z (nI i) s) (dq_sum (fun i => dq_wi (s p) x 24 i) (dq_wt (s p))) t (fun m => by
    show wf_X6_wholeWeight_5 p p K (m + 1) (nI x) (dq_sum (fun i => dq_wi (s p) x 24 i) (dq_wt (s p)) t) (nI t) s
    unfold wf_X6_wholeWeight_5
    rw [hn]
    exact br_t (nI_le (Nat.le_refl _) (by omega)) k) (fun m i hi h => by
    have h : wf_X6_wholeWeight_5 p p K m (nI x) (dq_sum (fun i => dq_wi (s p) x 24 i) (dq_wt (s p)) (i + 1)) (nI (i + 1)) s := h
    show wf_X6_wholeWeight_5 p p K (m + 1) (nI x) (dq_sum (fun i => dq_wi (s p) x 24 i) (dq_wt (s p)) i) (nI i) s
    unfold wf_X6_wholeWeight_5
    rw [hn]
    refine br_f (nI_ge hi (by omega)) (kx_isWithin hP ht (by omega) hx (fun h1 => dq_1 ?_) (fun h1 => dq_0 ?_))
    · rw [dq_sum_t (P := fun i => dq_wi (s p) x 24 i) h1] at h
      obtain ⟨e1, e2⟩ := hK i (by omega)
      refine kx_at (by omega) (by decide) (kx_atL e2 e1 (by decide) ?_)
      exact nm_e (nm_r (nI_1 i) h)
    · rw [dq_sum_f (P := fun i => dq_wi (s p) x 24 i) h1] at h
      exact nm_r (nI_1 i) h) (Nat.zero_le t)
theorem kx_countAt {v : Int32} (ht : t ≤ 24) (hn : s p 23 2 = nI t) (k : K (dq_sum (fun i => s p 25 i = v) (fun _ => 1) t) s) : wf_X6_countAt p v s K := by
  unfold wf_X6_countAt
  exact dq_lp (fun m i z => wf_X6_countAt_4 p K m v z (nI i) s) (dq_sum (fun i => s p 25 i = v) (fun _ => 1)) t (fun m => by
    show wf_X6_countAt_4 p K (m + 1) v (dq_sum (fun i => s p 25 i = v) (fun _ => 1) t) (nI t) s
    unfold wf_X6_countAt_4
    rw [hn]
    exact br_t (nI_le (Nat.le_refl _) (by omega)) k) (fun m i hi h => by
    have h : wf_X6_countAt_4 p K m v (dq_sum (fun i => s p 25 i = v) (fun _ => 1) (i + 1)) (nI (i + 1)) s := h
    show wf_X6_countAt_4 p K (m + 1) v (dq_sum (fun i => s p 25 i = v) (fun _ => 1) i) (nI i) s
    unfold wf_X6_countAt_4
    rw [hn]
    refine br_f (nI_ge hi (by omega)) (kx_at (by omega) (by decide) ⟨fun h1 => ?_, fun h1 => ?_⟩)
    · rw [dq_sum_f (P := fun i => s p 25 i = v) h1] at h
      exact nm_r (nI_1 i) h
    · rw [dq_sum_t (P := fun i => s p 25 i = v) h1] at h
      exact nm_e (nm_r (nI_1 i) h)) (Nat.zero_le t)
/-- all that is at one place, of the first i, goes to another -/
def dq_mv (a b : Int32) (i : Nat) (f : dq_W) : dq_W := fun q k => if q = 25 ∧ k < i ∧ f 25 k = a then b else f q k
theorem dq_mv0 {a b : Int32} {f : dq_W} : dq_mv a b 0 f = f := by
  funext q k
  simp [dq_mv]
theorem dq_mv_o {a b : Int32} {f : dq_W} {i q k : Nat} (h : q ≠ 25 ∨ i ≤ k) : dq_mv a b i f q k = f q k := by
  unfold dq_mv
  rw [if_neg (by omega)]
theorem dq_mv_t {a b : Int32} {f : dq_W} {i : Nat} (h : f 25 i = a) : dq_set (dq_mv a b i f) 25 i b = dq_mv a b (i + 1) f := by
  funext q k
  unfold dq_set
  by_cases e : q = 25 ∧ k = i
  · obtain ⟨rfl, rfl⟩ := e
    rw [if_pos ⟨rfl, rfl⟩]
    unfold dq_mv
    rw [if_pos ⟨rfl, by omega, h⟩]
  · rw [if_neg e]
    unfold dq_mv
    by_cases c1 : q = 25 ∧ k < i ∧ f 25 k = a
    · rw [if_pos c1, if_pos ⟨c1.1, by omega, c1.2.2⟩]
    · rw [if_neg c1, if_neg (fun g => c1 ⟨g.1, by omega, g.2.2⟩)]
theorem dq_mv_f {a b : Int32} {f : dq_W} {i : Nat} (h : ¬ f 25 i = a) : dq_mv a b i f = dq_mv a b (i + 1) f := by
  funext q k
  unfold dq_mv
  by_cases c1 : q = 25 ∧ k < i ∧ f 25 k = a
  · rw [if_pos c1, if_pos ⟨c1.1, by omega, c1.2.2⟩]
  · refine (if_neg c1).trans (if_neg (fun g => ?_)).symm
    by_cases e : k = i
    · exact h (e ▸ g.2.2)
    · exact c1 ⟨g.1, by omega, g.2.2⟩
theorem kx_moveAll {a b : Int32} (ht : t ≤ 24) (hn : s p 23 2 = nI t) (k : ∀ u, u p = dq_mv a b t (s p) → dq_fr p s u → J u) : wf_X6_moveAll p a b s J := by
  unfold wf_X6_moveAll
  refine loop_0 (fun m i u => wf_X6_moveAll_2 p J m a b (nI i) u) (fun i u => u p = dq_mv a b i (s p) ∧ dq_fr p s u) t s ⟨dq_mv0.symm, dq_fr.rf⟩ ?_ ?_
  · rintro m u ⟨hu, hf⟩
    show wf_X6_moveAll_2 p J (m + 1) a b (nI t) u
    unfold wf_X6_moveAll_2
    have hn' : u p 23 2 = nI t := by rw [hu, dq_mv_o (by omega)]; exact hn
    rw [hn']
    exact br_t (nI_le (Nat.le_refl _) (by omega)) (k u hu hf)
  · rintro m i u hi ⟨hu, hf⟩ h
    show wf_X6_moveAll_2 p J (m + 1) a b (nI i) u
    unfold wf_X6_moveAll_2
    have g : u p 25 i = s p 25 i := by rw [hu, dq_mv_o (by omega)]
    have hn' : u p 23 2 = nI t := by rw [hu, dq_mv_o (by omega)]; exact hn
    rw [hn']
    refine br_f (nI_ge hi (by omega)) (kx_at (by omega) (by decide) ⟨fun h1 => ?_, fun h1 => ?_⟩)
    · rw [g] at h1
      exact nm_r (nI_1 i) (h u ⟨by rw [hu]; exact dq_mv_f h1, hf⟩)
    · rw [g] at h1
      refine kx_put (by omega) (by decide) (nm_r (nI_1 i) (h _ ⟨?_, hf.tr dq_st_fr⟩))
      rw [dq_st_p, hu]
      exact dq_mv_t h1
theorem kx_hasInHands {v : Int32} (ht : t ≤ 24) (hn : s p 23 2 = nI t) (k1 : (∃ i, i < t ∧ s p 24 i = v ∧ s p 25 i = -1) → K 1 s) (k0 : ¬ (∃ i, i < t ∧ s p 24 i = v ∧ s p 25 i = -1) → K 0 s) : wf_X6_hasInHands p v s K := by
  unfold wf_X6_hasInHands
  refine dq_ls (fun m i => wf_X6_hasInHands_2 p K m v (nI i) s) (fun i => ¬ (s p 24 i = v ∧ s p 25 i = -1)) t ?_ ?_
  · intro m h
    show wf_X6_hasInHands_2 p K (m + 1) v (nI t) s
    unfold wf_X6_hasInHands_2
    rw [hn]
    exact br_t (nI_le (Nat.le_refl _) (by omega)) (k0 fun ⟨i, hi, hh⟩ => h i hi hh)
  · intro m i hi hp h
    show wf_X6_hasInHands_2 p K (m + 1) v (nI i) s
    unfold wf_X6_hasInHands_2
    rw [hn]
    refine br_f (nI_ge hi (by omega)) (kx_at (by omega) (by decide) ⟨fun h1 => nm_r (nI_1 i) (h fun g => h1 g.1), fun h1 => kx_at (by omega) (by decide) ⟨fun h2 => nm_r (nI_1 i) (h fun g => h2 g.2), fun h2 => k1 ⟨i, hi, h1, h2⟩⟩⟩)
theorem kx_isCarriedKey {v : Int32} (hP : dq_TP (s p) t) (ht : t ≤ 24) (hn : s p 23 2 = nI t) (k1 : (∃ i, i < t ∧ s p 24 i = v ∧ dq_cr (s p) i) → K 1 s) (k0 : ¬ (∃ i, i < t ∧ s p 24 i = v ∧ dq_cr (s p) i) → K 0 s) : wf_X6_isCarriedKey p v s K := by
  unfold wf_X6_isCarriedKey
  refine dq_ls (fun m i => wf_X6_isCarriedKey_2 p K m v (nI i) s) (fun i => ¬ (s p 24 i = v ∧ dq_cr (s p) i)) t ?_ ?_
  · intro m h
    show wf_X6_isCarriedKey_2 p K (m + 1) v (nI t) s
    unfold wf_X6_isCarriedKey_2
    rw [hn]
    exact br_t (nI_le (Nat.le_refl _) (by omega)) (k0 fun ⟨i, hi, hh⟩ => h i hi hh)
  · intro m i hi hp h
    show wf_X6_isCarriedKey_2 p K (m + 1) v (nI i) s
    unfold wf_X6_isCarriedKey_2
    rw [hn]
    refine br_f (nI_ge hi (by omega)) (kx_at (by omega) (by decide) ⟨fun h1 => nm_r (nI_1 i) (h fun g => h1 g.1), fun h1 => kx_outerPlace hP ht (by omega) ⟨fun h2 => nm_r (nI_1 i) (h fun g => h2 g.2), fun h2 => k1 ⟨i, hi, h1, h2⟩⟩⟩)
theorem kx_isLikeT {o : Nat} (hn : s p 23 2 = nI t) (ht : t ≤ 24) (hc : s o 23 2 = nI t) (he : ∀ i, i < t → s p 25 i = s o 25 i) (k : K 1 s) : wf_X6_isLike p o s K := by
  unfold wf_X6_isLike
  refine dq_ls (fun m i => wf_X6_isLike_2 p o K _ m (nI i) s) (fun _ => True) t ?_ ?_
  · intro m h
    show wf_X6_isLike_2 p o K _ (m + 1) (nI t) s
    unfold wf_X6_isLike_2
    rw [hn]
    refine br_t (nI_le (Nat.le_refl _) (by omega)) ?_
    exact ⟨fun g => absurd hc.symm g, fun _ => k⟩
  · intro m i hi hp h
    show wf_X6_isLike_2 p o K _ (m + 1) (nI i) s
    unfold wf_X6_isLike_2
    rw [hn]
    exact br_f (nI_ge hi (by omega)) (kx_at (by omega) (by decide) (kx_at (by omega) (by decide) (br_t (he i hi) (nm_r (nI_1 i) (h trivial)))))
end DQT
