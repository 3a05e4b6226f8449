/-! bags: chains end; what keeps the invariant of a world -/
theorem dq_php : ∀ (n : Nat) (f : Nat → Nat), (∀ i, i ≤ n → f i < n) → ∃ i j, i < j ∧ j ≤ n ∧ f i = f j
  | 0, f, h => absurd (h 0 (Nat.le_refl _)) (Nat.not_lt_zero _)
  | n + 1, f, h => by
    by_cases c : ∃ i, i ≤ n ∧ f i = f (n + 1)
    · obtain ⟨i, h1, h2⟩ := c
      exact ⟨i, n + 1, by omega, Nat.le_refl _, h2⟩
    · have c2 : ∀ i, i ≤ n → f i ≠ f (n + 1) := fun i hi g => c ⟨i, hi, g⟩
      have hg : ∀ i, i ≤ n → (if f i = n then f (n + 1) else f i) < n := by
        intro i hi
        have h1 := h i (by omega)
        have h2 := h (n + 1) (Nat.le_refl _)
        have h3 := c2 i hi
        by_cases e : f i = n
        · rw [if_pos e]; omega
        · rw [if_neg e]; omega
      obtain ⟨i, j, h1, h2, h3⟩ := dq_php n (fun i => if f i = n then f (n + 1) else f i) hg
      refine ⟨i, j, h1, by omega, ?_⟩
      have a1 := c2 i (by omega)
      have a2 := c2 j (by omega)
      have h3 : (if f i = n then f (n + 1) else f i) = (if f j = n then f (n + 1) else f j) := h3
      by_cases e1 : f i = n
      · rw [if_pos e1] at h3
        by_cases e2 : f j = n
        · omega
        · rw [if_neg e2] at h3; exact absurd h3.symm a2
      · rw [if_neg e1] at h3
        by_cases e2 : f j = n
        · rw [if_pos e2] at h3; exact absurd h3 a1
        · rw [if_neg e2] at h3; exact h3
/-- what x is in, j bags further out -/
def dq_up (f : dq_W) (x : Nat) : Nat → Nat
  | 0 => x
  | j + 1 => dq_bg f (dq_up f x j)
theorem dq_up_s {f : dq_W} {x : Nat} : ∀ j, dq_up f x (j + 1) = dq_up f (dq_bg f x) j
  | 0 => rfl
  | j + 1 => by
    show dq_bg f (dq_up f x (j + 1)) = dq_bg f (dq_up f (dq_bg f x) j)
    rw [dq_up_s j]
section DQI
variable {n t l : Nat} {w f : dq_W}
/-- x is y, or in it at a depth of i -/
def dq_in (f : dq_W) (y x i : Nat) : Prop := dq_up f x i = y ∧ ∀ k, k < i → dq_bg f (dq_up f x k) ≠ 24
theorem dq_up_lt (hP : dq_TP f t) (ht : t ≤ 24) {x : Nat} (hx : x < 24) : ∀ i, (∀ k, k < i → dq_bg f (dq_up f x k) ≠ 24) → dq_up f x i < 24
  | 0, _ => hx
  | i + 1, h => by
    have ih := dq_up_lt hP ht hx i (fun k hk => h k (by omega))
    have := dq_bg_lt hP ht ih (h i (by omega))
    show dq_bg f (dq_up f x i) < 24
    omega
theorem dq_up_r (hP : dq_TP f t) (ht : t ≤ 24) {r : Nat → Nat} (hr : ∀ x, x < 24 → dq_bg f x ≠ 24 → r (dq_bg f x) < r x) {x : Nat} (hx : x < 24) : ∀ j i, i < j → (∀ k, k < j → dq_bg f (dq_up f x k) ≠ 24) → r (dq_up f x j) < r (dq_up f x i)
  | 0, i, h, _ => absurd h (Nat.not_lt_zero _)
  | j + 1, i, h, hk => by
    have h1 := hr _ (dq_up_lt hP ht hx j (fun k hk2 => hk k (by omega))) (hk j (by omega))
    have h1 : r (dq_up f x (j + 1)) < r (dq_up f x j) := h1
    by_cases e : i = j
    · rw [e]; exact h1
    · have := dq_up_r hP ht hr hx j i (by omega) (fun k hk2 => hk k (by omega))
      omega
/-- no chain is longer than 23 -/
theorem dq_up_end (hP : dq_TP f t) (ht : t ≤ 24) (hA : dq_AC f) {x : Nat} (hx : x < 24) {i : Nat} (h : ∀ k, k < i → dq_bg f (dq_up f x k) ≠ 24) : i ≤ 23 := by
  obtain ⟨r, hr⟩ := hA
  refine Nat.le_of_not_lt fun g => ?_
  obtain ⟨a, b, h1, h2, h3⟩ := dq_php 24 (dq_up f x) (fun k hk => dq_up_lt hP ht hx k (fun k2 hk2 => h k2 (by omega)))
  have := dq_up_r hP ht hr hx b a h1 (fun k hk => h k (by omega))
  rw [h3] at this
  omega
theorem dq_wi_in {y : Nat} : ∀ (j x : Nat), dq_wi f y j x ↔ ∃ i, i ≤ j ∧ dq_in f y x i
  | 0, x => by
    constructor
    · intro h
      exact ⟨0, Nat.le_refl _, h, fun k hk => absurd hk (Nat.not_lt_zero _)⟩
    · rintro ⟨i, hi, h, _⟩
      have : i = 0 := by omega
      subst this
      exact h
  | j + 1, x => by
    have ih := dq_wi_in (y := y) j (dq_bg f x)
    constructor
    · rintro (h | ⟨h1, h2⟩)
      · exact ⟨0, Nat.zero_le _, h, fun k hk => absurd hk (Nat.not_lt_zero _)⟩
      · obtain ⟨i, hi, g1, g2⟩ := ih.1 h2
        refine ⟨i + 1, by omega, by rw [dq_up_s]; exact g1, fun k hk => ?_⟩
        cases k with
        | zero => exact h1
        | succ k => rw [dq_up_s]; exact g2 k (by omega)
    · rintro ⟨i, hi, g1, g2⟩
      cases i with
      | zero => exact Or.inl g1
      | succ i =>
        refine Or.inr ⟨g2 0 (by omega), ih.2 ⟨i, by omega, by rw [← dq_up_s]; exact g1, fun k hk => ?_⟩⟩
        rw [← dq_up_s]; exact g2 (k + 1) (by omega)
/-- whether x is y or in it -/
def dq_IN (f : dq_W) (y x : Nat) : Prop := ∃ i, dq_in f y x i
theorem dq_wi_IN (hP : dq_TP f t) (ht : t ≤ 24) (hA : dq_AC f) {x y : Nat} (hx : x < 24) : dq_wi f y 24 x ↔ dq_IN f y x := by
  rw [dq_wi_in]
  constructor
  · rintro ⟨i, _, h⟩
    exact ⟨i, h⟩
  · rintro ⟨i, h⟩
    have := dq_up_end hP ht hA hx h.2
    exact ⟨i, by omega, h⟩
theorem dq_IN_up {x y : Nat} (h : dq_bg f x ≠ 24) : dq_IN f y x ↔ (x = y ∨ dq_IN f y (dq_bg f x)) := by
  constructor
  · rintro ⟨i, h1, h2⟩
    cases i with
    | zero => exact Or.inl h1
    | succ i => exact Or.inr ⟨i, by rw [← dq_up_s]; exact h1, fun k hk => by rw [← dq_up_s]; exact h2 (k + 1) (by omega)⟩
  · rintro (g | ⟨i, h1, h2⟩)
    · exact ⟨0, g, fun k hk => absurd hk (Nat.not_lt_zero _)⟩
    · refine ⟨i + 1, by rw [dq_up_s]; exact h1, fun k hk => ?_⟩
      cases k with
      | zero => exact h
      | succ k => rw [dq_up_s]; exact h2 k (by omega)
theorem dq_IN_top {x y : Nat} (h : dq_bg f x = 24) : dq_IN f y x ↔ x = y := by
  constructor
  · rintro ⟨i, h1, h2⟩
    cases i with
    | zero => exact h1
    | succ i => exact absurd h (h2 0 (by omega))
  · intro g
    exact ⟨0, g, fun k hk => absurd hk (Nat.not_lt_zero _)⟩
/-- the outermost is in no bag -/
theorem dq_ou_up : ∀ (j x : Nat), (∃ i, i ≤ j ∧ dq_ou f j x = dq_up f x i ∧ (∀ k, k < i → dq_bg f (dq_up f x k) ≠ 24) ∧ (i = j ∨ dq_bg f (dq_up f x i) = 24))
  | 0, x => ⟨0, Nat.le_refl _, rfl, fun k hk => absurd hk (Nat.not_lt_zero _), Or.inl rfl⟩
  | j + 1, x => by
    by_cases h : dq_bg f x = 24
    · exact ⟨0, Nat.zero_le _, by rw [dq_ou_s, if_pos h]; rfl, fun k hk => absurd hk (Nat.not_lt_zero _), Or.inr h⟩
    · obtain ⟨i, h1, h2, h3, h4⟩ := dq_ou_up j (dq_bg f x)
      refine ⟨i + 1, by omega, by rw [dq_ou_s, if_neg h, h2, dq_up_s], fun k hk => ?_, ?_⟩
      · cases k with
        | zero => exact h
        | succ k => rw [dq_up_s]; exact h3 k (by omega)
      · rw [dq_up_s]
        rcases h4 with g | g
        · exact Or.inl (by omega)
        · exact Or.inr g
theorem dq_ou_end (hP : dq_TP f t) (ht : t ≤ 24) (hA : dq_AC f) {x : Nat} (hx : x < 24) : dq_bg f (dq_ou f 24 x) = 24 := by
  obtain ⟨i, h1, h2, h3, h4⟩ := dq_ou_up (f := f) 24 x
  have := dq_up_end hP ht hA hx h3
  rw [h2]
  rcases h4 with g | g
  · omega
  · exact g
theorem dq_ou_bg (hP : dq_TP f t) (ht : t ≤ 24) (hA : dq_AC f) {x : Nat} (hx : x < 24) (h : dq_bg f x ≠ 24) : dq_ou f 24 x = dq_ou f 24 (dq_bg f x) := by
  have hb := dq_bg_lt hP ht hx h
  have e : ∀ (j x : Nat), dq_bg f (dq_ou f j x) = 24 → dq_ou f (j + 1) x = dq_ou f j x := by
    intro j
    induction j with
    | zero => intro x g; rw [dq_ou_s, if_pos (show dq_bg f x = 24 from g)]; rfl
    | succ j ih =>
      intro x g
      rw [dq_ou_s (j := j + 1) (x := x), dq_ou_s (j := j) (x := x)]
      rw [dq_ou_s] at g
      by_cases c : dq_bg f x = 24
      · rw [if_pos c, if_pos c]
      · rw [if_neg c, if_neg c]
        rw [if_neg c] at g
        exact ih _ g
  have g := dq_ou_end hP ht hA hx
  rw [← e 24 x g, dq_ou_s, if_neg h]
theorem dq_ou_top {x : Nat} (h : dq_bg f x = 24) : dq_ou f 24 x = x := by rw [dq_ou_s, if_pos h]
/-! what keeps it -/
theorem dq_bg_c {x : Nat} (h : f 25 x = w 25 x) : dq_bg f x = dq_bg w x := by unfold dq_bg; rw [h]
theorem dq_bg_no {x : Nat} {v : Int32} (h : f 25 x = v) (hv : -3 < v) : dq_bg f x = 24 := by unfold dq_bg; rw [h, if_pos hv]
theorem dq_bg_yes {x b : Nat} (hb : b < 24) (h : f 25 x = (-3) - nI b) : dq_bg f x = b := by
  unfold dq_bg
  rw [h, if_neg (dq_bag_le hb), dq_bag_sub hb, nI_clamp (by omega)]
theorem dq_IV.cg (I : dq_IV n t l w) (h : ∀ q, q = 13 ∨ q = 23 ∨ q = 26 ∨ q = 2 ∨ q = 14 ∨ q = 24 ∨ q = 27 ∨ q = 22 ∨ q = 10 ∨ q = 25 → f q = w q) : dq_IV n t l f := by
  have e13 := h 13 (by omega)
  have e23 := h 23 (by omega)
  have e26 := h 26 (by omega)
  have e2 := h 2 (by omega)
  have e14 := h 14 (by omega)
  have e24 := h 24 (by omega)
  have e27 := h 27 (by omega)
  have e22 := h 22 (by omega)
  have e10 := h 10 (by omega)
  have e25 := h 25 (by omega)
  refine ⟨⟨by rw [e13]; exact I.hn, I.h1, I.h8⟩, ⟨by rw [e23]; exact I.ht, I.t24⟩, ⟨by rw [e26]; exact I.hl, I.l4⟩, fun c hc => ?_, fun k hk => ?_, fun x hx => ?_, fun k hk => ?_, fun k hk => ?_, fun k hk => ?_, fun x hx => ?_, ?_⟩
  · rw [e2]; exact I.sg c hc
  · unfold dq_pl; rw [e14]; exact I.pl k hk
  · unfold dq_kd; rw [e24]; exact I.kd x hx
  · rw [e27]; exact I.lp k hk
  · rw [e22]; exact I.am k hk
  · rw [e10]; exact I.ef k hk
  · rw [e25]; exact I.tp x hx
  · obtain ⟨r, hr⟩ := I.ac
    refine ⟨r, fun x hx => ?_⟩
    rw [dq_bg_c (w := w) (by rw [e25])]
    exact hr x hx
theorem dq_IV.st (I : dq_IV n t l w) {q k : Nat} {v : Int32} (hq : ¬ (q = 13 ∨ q = 23 ∨ q = 26 ∨ q = 2 ∨ q = 14 ∨ q = 24 ∨ q = 27 ∨ q = 22 ∨ q = 10 ∨ q = 25)) : dq_IV n t l (dq_set w q k v) :=
  I.cg fun a ha => dq_set_r (by rintro rfl; exact hq ha)
theorem dq_IV.s14 (I : dq_IV n t l w) {k c : Nat} (hc : c < 144) : dq_IV n t l (dq_set w 14 k (nI c)) := by
  refine ⟨⟨by rw [dq_set_q (by decide)]; exact I.hn, I.h1, I.h8⟩, ⟨by rw [dq_set_q (by decide)]; exact I.ht, I.t24⟩, ⟨by rw [dq_set_q (by decide)]; exact I.hl, I.l4⟩, fun c hc => by rw [dq_set_q (by decide)]; exact I.sg c hc, fun j hj => ?_, fun x hx => ?_, fun k hk => ?_, fun k hk => ?_, fun k hk => ?_, fun x hx => ?_, ?_⟩
  · unfold dq_pl
    by_cases e : j = k
    · rw [e, dq_set_eq, nI_clamp (by omega)]; exact ⟨hc, rfl⟩
    · rw [dq_set_ne (Or.inr e)]; exact I.pl j hj
  · unfold dq_kd; rw [dq_set_q (by decide)]; exact I.kd x hx
  · rw [dq_set_q (by decide)]; exact I.lp k hk
  · rw [dq_set_q (by decide)]; exact I.am k hk
  · rw [dq_set_q (by decide)]; exact I.ef k hk
  · rw [dq_set_q (by decide)]; exact I.tp x hx
  · obtain ⟨r, hr⟩ := I.ac
    refine ⟨r, fun x hx => ?_⟩
    rw [dq_bg_c (w := w) (dq_set_q (by decide))]
    exact hr x hx
theorem dq_IV.s22 (I : dq_IV n t l w) {k : Nat} {v : Int32} (hv : v = -1 ∨ ∃ c, c < 144 ∧ v = nI c) : dq_IV n t l (dq_set w 22 k v) := by
  refine ⟨⟨by rw [dq_set_q (by decide)]; exact I.hn, I.h1, I.h8⟩, ⟨by rw [dq_set_q (by decide)]; exact I.ht, I.t24⟩, ⟨by rw [dq_set_q (by decide)]; exact I.hl, I.l4⟩, fun c hc => by rw [dq_set_q (by decide)]; exact I.sg c hc, fun j hj => ?_, fun x hx => ?_, fun k hk => ?_, fun j hj => ?_, fun k hk => ?_, fun x hx => ?_, ?_⟩
  · unfold dq_pl; rw [dq_set_q (by decide)]; exact I.pl j hj
  · unfold dq_kd; rw [dq_set_q (by decide)]; exact I.kd x hx
  · rw [dq_set_q (by decide)]; exact I.lp k hk
  · by_cases e : j = k
    · rw [e, dq_set_eq]; exact hv
    · rw [dq_set_ne (Or.inr e)]; exact I.am j hj
  · rw [dq_set_q (by decide)]; exact I.ef k hk
  · rw [dq_set_q (by decide)]; exact I.tp x hx
  · obtain ⟨r, hr⟩ := I.ac
    refine ⟨r, fun x hx => ?_⟩
    rw [dq_bg_c (w := w) (dq_set_q (by decide))]
    exact hr x hx
theorem dq_IV.s2 (I : dq_IV n t l w) {k : Nat} {v : Int32} (hv : dq_sgn v) : dq_IV n t l (dq_set w 2 k v) := by
  refine ⟨⟨by rw [dq_set_q (by decide)]; exact I.hn, I.h1, I.h8⟩, ⟨by rw [dq_set_q (by decide)]; exact I.ht, I.t24⟩, ⟨by rw [dq_set_q (by decide)]; exact I.hl, I.l4⟩, fun c hc => ?_, fun j hj => ?_, fun x hx => ?_, fun k hk => ?_, fun j hj => ?_, fun k hk => ?_, fun x hx => ?_, ?_⟩
  · by_cases e : c = k
    · rw [e, dq_set_eq]; exact hv
    · rw [dq_set_ne (Or.inr e)]; exact I.sg c hc
  · unfold dq_pl; rw [dq_set_q (by decide)]; exact I.pl j hj
  · unfold dq_kd; rw [dq_set_q (by decide)]; exact I.kd x hx
  · rw [dq_set_q (by decide)]; exact I.lp k hk
  · rw [dq_set_q (by decide)]; exact I.am j hj
  · rw [dq_set_q (by decide)]; exact I.ef k hk
  · rw [dq_set_q (by decide)]; exact I.tp x hx
  · obtain ⟨r, hr⟩ := I.ac
    refine ⟨r, fun x hx => ?_⟩
    rw [dq_bg_c (w := w) (dq_set_q (by decide))]
    exact hr x hx
/-- only places of things change; each stays a place, and no chain closes -/
theorem dq_IV.p25 (I : dq_IV n t l w) (h : ∀ q, q ≠ 25 → f q = w q) (hP : dq_TP f t) (hA : dq_AC f) : dq_IV n t l f := by
  refine ⟨⟨by rw [h 13 (by decide)]; exact I.hn, I.h1, I.h8⟩, ⟨by rw [h 23 (by decide)]; exact I.ht, I.t24⟩, ⟨by rw [h 26 (by decide)]; exact I.hl, I.l4⟩, fun c hc => ?_, fun j hj => ?_, fun x hx => ?_, fun k hk => ?_, fun j hj => ?_, fun k hk => ?_, hP, hA⟩
  · rw [h 2 (by decide)]; exact I.sg c hc
  · unfold dq_pl; rw [h 14 (by decide)]; exact I.pl j hj
  · unfold dq_kd; rw [h 24 (by decide)]; exact I.kd x hx
  · rw [h 27 (by decide)]; exact I.lp k hk
  · rw [h 22 (by decide)]; exact I.am j hj
  · rw [h 10 (by decide)]; exact I.ef k hk
/-- a place that is no bag -/
def dq_pv (v : Int32) : Prop := v = -1 ∨ v = -2 ∨ ∃ c, c < 144 ∧ v = nI c
theorem dq_pv_gt {v : Int32} (h : dq_pv v) : -3 < v := by
  rcases h with h | h | ⟨c, hc, h⟩
  · rw [h]; decide
  · rw [h]; decide
  · rw [h]; exact dq_cell_bag hc
theorem dq_IV.n25 (I : dq_IV n t l w) (h : ∀ q, q ≠ 25 → f q = w q) (hp : ∀ x, x < 24 → f 25 x = w 25 x ∨ dq_pv (f 25 x)) : dq_IV n t l f := by
  refine I.p25 h (fun x hx => ?_) ?_
  · rcases hp x hx with g | g
    · rw [g]; exact I.tp x hx
    · rcases g with g | g | g
      · exact Or.inl g
      · exact Or.inr (Or.inl g)
      · exact Or.inr (Or.inr (Or.inl g))
  · obtain ⟨r, hr⟩ := I.ac
    refine ⟨r, fun x hx hb => ?_⟩
    rcases hp x hx with g | g
    · rw [dq_bg_c g] at hb ⊢
      exact hr x hx hb
    · exact absurd (dq_bg_no rfl (dq_pv_gt g)) hb
theorem dq_IV.s25 (I : dq_IV n t l w) {x : Nat} {v : Int32} (hv : dq_pv v) : dq_IV n t l (dq_set w 25 x v) := by
  refine I.n25 (fun q hq => dq_set_r hq) (fun y _ => ?_)
  by_cases e : y = x
  · rw [e, dq_set_eq]; exact Or.inr hv
  · rw [dq_set_ne (Or.inr e)]; exact Or.inl rfl
theorem dq_IV.mv (I : dq_IV n t l w) {a b : Int32} {i : Nat} (hb : dq_pv b) : dq_IV n t l (dq_mv a b i w) := by
  refine I.n25 (fun q hq => ?_) (fun y _ => ?_)
  · funext k; exact dq_mv_o (Or.inl hq)
  · unfold dq_mv
    by_cases e : 25 = 25 ∧ y < i ∧ w 25 y = a
    · rw [if_pos e]; exact Or.inr hb
    · rw [if_neg e]; exact Or.inl rfl
/-- into a bag that isn't in it -/
theorem dq_IV.bag (I : dq_IV n t l w) {x b : Nat} (hx : x < 24) (hb : b < t) (hn : ¬ dq_IN w x b) : dq_IV n t l (dq_set w 25 x ((-3) - nI b)) := by
  have ht := I.t24
  refine I.p25 (fun q hq => dq_set_r hq) (fun y hy => ?_) ?_
  · by_cases e : y = x
    · rw [e, dq_set_eq]; exact Or.inr (Or.inr (Or.inr ⟨b, hb, rfl⟩))
    · rw [dq_set_ne (Or.inr e)]; exact I.tp y hy
  · obtain ⟨r, hr⟩ := I.ac
    refine ⟨fun y => dq_if (dq_IN w x y) (r y + r b + 1) (r y), fun y hy hg => ?_⟩
    by_cases e : y = x
    · have hbg : dq_bg (dq_set w 25 x ((-3) - nI b)) y = b := dq_bg_yes (by omega) (by rw [e, dq_set_eq])
      rw [hbg]
      show dq_if (dq_IN w x b) (r b + r b + 1) (r b) < dq_if (dq_IN w x y) (r y + r b + 1) (r y)
      rw [dq_if_f hn, dq_if_t (show dq_IN w x y from ⟨0, e, fun k hk => absurd hk (Nat.not_lt_zero _)⟩)]
      omega
    · have hbg : dq_bg (dq_set w 25 x ((-3) - nI b)) y = dq_bg w y := dq_bg_c (dq_set_ne (Or.inr e))
      rw [hbg] at hg ⊢
      have h1 := hr y hy hg
      have h2 := dq_IN_up (f := w) (y := x) hg
      show dq_if (dq_IN w x (dq_bg w y)) (r (dq_bg w y) + r b + 1) (r (dq_bg w y)) < dq_if (dq_IN w x y) (r y + r b + 1) (r y)
      by_cases c : dq_IN w x y
      · have c2 : dq_IN w x (dq_bg w y) := by
          rcases h2.1 c with q | q
          · exact absurd q e
          · exact q
        rw [dq_if_t c, dq_if_t c2]; omega
      · rw [dq_if_f c, dq_if_f (fun q => c (h2.2 (Or.inr q)))]; exact h1
/-- living creatures stand apart, on free cells -/
def dq_IU (n : Nat) (w : dq_W) : Prop := ∀ i, i < n → dq_lv w i → dq_free (w 2 (dq_pl w i)) ∧ ∀ j, j < n → dq_lv w j → dq_pl w j = dq_pl w i → j = i
theorem dq_IU.sub (U : dq_IU n w) (h1 : ∀ i, i < n → dq_lv f i → dq_lv w i) (h2 : ∀ i, i < n → dq_pl f i = dq_pl w i) (h3 : ∀ c, dq_free (w 2 c) → dq_free (f 2 c)) : dq_IU n f := by
  intro i hi hl
  obtain ⟨a, b⟩ := U i hi (h1 i hi hl)
  refine ⟨by rw [h2 i hi]; exact h3 _ a, fun j hj hlj e => b j hj (h1 j hj hlj) ?_⟩
  rw [h2 i hi, h2 j hj] at e
  exact e
theorem dq_la_iff (U : dq_IU n w) {c k : Nat} (h8 : n ≤ 8) (hk : k < n) (hl : dq_lv w k) (hc : dq_pl w k = c) : dq_la w c n = k :=
  dq_la_y (by omega) hl hc (fun j hj hlj e => by
    have := (U k hk hl).2 j (by omega) hlj (by rw [e, hc])
    omega) n hk
end DQI
