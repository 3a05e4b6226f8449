/-! the pure layer: a world's rows as a function, what of it is relevant, reads and writes -/
abbrev dq_W : Type := Nat → Nat → Int32
def dq_iI (z : Int) : Int32 := Int32.ofInt z
theorem dq_iN (n : Nat) : nI n = dq_iI n := Int32.ofInt_eq_ofNat.symm
theorem dq_iadd (a b : Int) : dq_iI a + dq_iI b = dq_iI (a + b) := (Int32.ofInt_add a b).symm
theorem dq_isub (a b : Int) : dq_iI a - dq_iI b = dq_iI (a - b) := (Int32.ofInt_sub a b).symm
theorem dq_imul (a b : Int) : dq_iI a * dq_iI b = dq_iI (a * b) := (Int32.ofInt_mul a b).symm
theorem dq_iT {z : Int} (h1 : -2147483648 ≤ z) (h2 : z < 2147483648) : (dq_iI z).toInt = z := Int32.toInt_ofInt_of_le (by omega) (by omega)
theorem dq_ile {a b : Int} (a1 : -2147483648 ≤ a) (a2 : a < 2147483648) (b1 : -2147483648 ≤ b) (b2 : b < 2147483648) : dq_iI a ≤ dq_iI b ↔ a ≤ b := by
  rw [Int32.le_iff_toInt_le, dq_iT a1 a2, dq_iT b1 b2]
theorem dq_ilt {a b : Int} (a1 : -2147483648 ≤ a) (a2 : a < 2147483648) (b1 : -2147483648 ≤ b) (b2 : b < 2147483648) : dq_iI a < dq_iI b ↔ a < b := by
  rw [Int32.lt_iff_toInt_lt, dq_iT a1 a2, dq_iT b1 b2]
theorem dq_ieq {a b : Int} (a1 : -2147483648 ≤ a) (a2 : a < 2147483648) (b1 : -2147483648 ≤ b) (b2 : b < 2147483648) : dq_iI a = dq_iI b ↔ a = b := by
  rw [← Int32.toInt_inj, dq_iT a1 a2, dq_iT b1 b2]
theorem dq_of_int {x : Int32} {z : Int} (h : x.toInt = z) : x = dq_iI z := by
  subst h; exact (Int32.ofInt_toInt x).symm
theorem dq_dm : ∀ c, c < 144 → nI c / 12 = nI (c / 12) ∧ nI c - nI c / 12 * 12 = nI (c % 12) := by decide +kernel
theorem dq_dv {c : Nat} (h : c < 144) : nI c / 12 = nI (c / 12) := (dq_dm c h).1
theorem dq_md {c : Nat} (h : c < 144) : nI c - nI c / 12 * 12 = nI (c % 12) := (dq_dm c h).2
/-- an int for a truth -/
def dq_b (c : Prop) [Decidable c] : Int32 := if c then 1 else 0
theorem dq_b1 {c : Prop} [Decidable c] (h : c) : dq_b c = 1 := if_pos h
theorem dq_b0 {c : Prop} [Decidable c] (h : ¬ c) : dq_b c = 0 := if_neg h
theorem dq_bz {c : Prop} [Decidable c] : dq_b c = 0 ↔ ¬ c := by
  unfold dq_b; by_cases h : c <;> simp [h]
theorem dq_bo {c : Prop} [Decidable c] : dq_b c = 1 ↔ c := by
  unfold dq_b; by_cases h : c <;> simp [h]
theorem dq_bn (c : Prop) [Decidable c] : narrow .boolean (.int (dq_b c)) = .int (dq_b c) := by
  unfold dq_b; by_cases h : c <;> simp only [h, if_true, if_false] <;> decide
theorem dq_bc {c d : Prop} [Decidable c] [Decidable d] (h : c ↔ d) : dq_b c = dq_b d := by
  unfold dq_b; by_cases h1 : c <;> simp [h1, ← h]
/-- what is in a branch, by a truth -/
theorem dq_br {c A B : Prop} (a : c → A) (b : ¬ c → B) : (c → A) ∧ (¬ c → B) := ⟨a, b⟩
theorem dq_rb {c A B : Prop} (a : ¬ c → A) (b : c → B) : (¬ c → A) ∧ (c → B) := ⟨a, b⟩
theorem dq_rt {c A B : Prop} (h : c) (b : B) : (¬ c → A) ∧ (c → B) := ⟨fun n => absurd h n, fun _ => b⟩
theorem dq_rf {c A B : Prop} (h : ¬ c) (a : A) : (¬ c → A) ∧ (c → B) := ⟨fun _ => a, fun n => absurd n h⟩
/-- nothing but one instance changes -/
def dq_fr (p : Nat) (s t : dk_S) : Prop := ∀ a, a ≠ p → t a = s a
theorem dq_fr.rf {p : Nat} {s : dk_S} : dq_fr p s s := fun _ _ => rfl
theorem dq_fr.tr {p : Nat} {s t u : dk_S} (h : dq_fr p s t) (k : dq_fr p t u) : dq_fr p s u := fun a ha => (k a ha).trans (h a ha)
def dq_set (w : dq_W) (q k : Nat) (v : Int32) : dq_W := fun a b => if a = q ∧ b = k then v else w a b
theorem dq_set_eq {w : dq_W} {q k : Nat} {v : Int32} : dq_set w q k v q k = v := by simp [dq_set]
theorem dq_set_ne {w : dq_W} {q k a b : Nat} {v : Int32} (h : a ≠ q ∨ b ≠ k) : dq_set w q k v a b = w a b := by
  unfold dq_set; rw [if_neg]; omega
theorem dq_set_q {w : dq_W} {q k a b : Nat} {v : Int32} (h : a ≠ q) : dq_set w q k v a b = w a b := dq_set_ne (Or.inl h)
theorem dq_set_r {w : dq_W} {q k a : Nat} {v : Int32} (h : a ≠ q) : dq_set w q k v a = w a := funext fun _ => dq_set_q h
theorem dq_set_same {w : dq_W} {q k : Nat} : dq_set w q k (w q k) = w := by
  funext a b
  unfold dq_set
  by_cases h : a = q ∧ b = k
  · rw [if_pos h, h.1, h.2]
  · rw [if_neg h]
theorem dq_set_row (s : dk_S) (p q k : Nat) (v : Int32) : dk_row s p q (upd (s p q) k v) p = dq_set (s p) q k v := by
  funext a b
  unfold dk_row dq_set upd
  by_cases h : a = q
  · subst h
    by_cases h2 : b = k <;> simp [h2]
  · simp [h]
theorem dq_row_fr {p q : Nat} {s : dk_S} {f : Nat → Int32} : dq_fr p s (dk_row s p q f) := fun a h => by
  funext b
  simp [dk_row, h]
theorem dq_row_self {s : dk_S} {p q : Nat} {f : Nat → Int32} : dk_row s p q f p q = f := by simp [dk_row]
theorem dq_row_r {s : dk_S} {p q a b : Nat} {f : Nat → Int32} (h : a ≠ p ∨ b ≠ q) : dk_row s p q f a b = s a b := by
  unfold dk_row; rw [if_neg]; omega
/-- a field is written -/
theorem dq_fld {p q k : Nat} {v : Int32} {s : dk_S} {K : dk_S → Prop} (h : ∀ t, t p = dq_set (s p) q k v → dq_fr p s t → K t) : ∀ t, t = dk_row s p q (upd (s p q) k v) → K t := by
  intro t e
  subst e
  exact h _ (dq_set_row s p q k v) dq_row_fr
theorem dq_at {p q n i : Nat} {s : dk_S} {K : Int32 → dk_S → Prop} (hi : i < n) (hn : n < 2147483648) (k : K (s p q i) s) : wf_X8_at p q n (nI i) s K := by
  unfold wf_X8_at
  refine br_f (nI_pos (by omega)) (br_f (nI_ge hi (by omega)) ⟨vp_in_nI hi (by omega), ?_⟩)
  rw [nI_clamp (by omega)]
  exact k
theorem dq_put {p q n i : Nat} {v : Int32} {s : dk_S} {K : dk_S → Prop} (hi : i < n) (hn : n < 2147483648) (k : ∀ t, t p = dq_set (s p) q i v → dq_fr p s t → K t) : wf_X8_put p q n (nI i) v s K := by
  unfold wf_X8_put
  refine br_f (nI_pos (by omega)) (br_f (nI_ge hi (by omega)) ⟨vp_in_nI hi (by omega), ?_⟩)
  rw [nI_clamp (by omega)]
  exact dq_fld k
/-- a read at any index -/
def dq_rd (f : Nat → Int32) (n : Nat) (i : Int32) : Int32 := if i < 0 then 0 else if nI n ≤ i then 0 else f i.toNatClampNeg
theorem dq_atR {p q n : Nat} {i : Int32} {s : dk_S} {K : Int32 → dk_S → Prop} (hn : n < 2147483648) (k : K (dq_rd (s p q) n i) s) : wf_X8_at p q n i s K := by
  unfold wf_X8_at
  unfold dq_rd at k
  refine br_c (fun h => ?_) (fun h => br_c (fun h2 => ?_) (fun h2 => ?_))
  · rw [if_pos h] at k; exact k
  · have h3 : nI n ≤ i := h2
    rw [if_neg h, if_pos h3] at k; exact k
  · have h3 : ¬ nI n ≤ i := h2
    rw [if_neg h, if_neg h3] at k
    refine ⟨?_, k⟩
    obtain ⟨j, hj, rfl⟩ := nI_of h
    refine vp_in_nI ?_ (by omega)
    refine Nat.lt_of_not_le fun h3 => h2 (nI_le h3 (by omega))
theorem dq_rdN {f : Nat → Int32} {n i : Nat} (hi : i < n) (hn : n < 2147483648) : dq_rd f n (nI i) = f i := by
  unfold dq_rd
  rw [if_neg (nI_pos (by omega)), if_neg (nI_ge hi (by omega)), nI_clamp (by omega)]
theorem dq_rdM {f : Nat → Int32} {n : Nat} : dq_rd f n (-1) = 0 := by
  unfold dq_rd; rw [if_pos (by decide)]
/-- a put at an index of none changes nothing -/
theorem dq_putN {p q n : Nat} {i : Int32} {v : Int32} {s : dk_S} {K : dk_S → Prop} (hi : i < 0) (k : K s) : wf_X8_put p q n i v s K := by
  unfold wf_X8_put
  exact br_t hi k
/-! cells: 144 stands for none -/
def dq_nb (c w : Nat) : Nat := if w = 0 then (if c % 12 = 0 then 144 else c - 1) else if w = 1 then (if c + 12 < 144 then c + 12 else 144) else if w = 2 then (if c % 12 = 11 then 144 else c + 1) else (if c < 12 then 144 else c - 12)
def dq_pI (n : Nat) : Int32 := if n < 144 then nI n else -1
theorem dq_pI_in {n : Nat} (h : n < 144) : dq_pI n = nI n := if_pos h
theorem dq_pI_out : dq_pI 144 = -1 := rfl
theorem dq_nb_le : ∀ c, c < 144 → ∀ w, w < 4 → dq_nb c w ≤ 144 := by decide +kernel
theorem dq_nb_back : ∀ c, c < 144 → ∀ w, w < 4 → dq_nb c w < 144 → dq_nb (dq_nb c w) ((w + 2) % 4) = c := by decide +kernel
theorem dq_nb_ne : ∀ c, c < 144 → ∀ w, w < 4 → dq_nb c w ≠ c := by decide +kernel
theorem dq_beside {c w : Nat} {s : dk_S} {K : Int32 → dk_S → Prop} (hc : c < 144) (hw : w < 4) (k : K (dq_pI (dq_nb c w)) s) : wf_X8_beside (nI c) (nI w) s K := by
  unfold wf_X8_beside
  have e1 := dq_md hc
  have e2 : nI c + 12 = nI (c + 12) := nI_add c 12
  rw [e1, e2]
  have h4 : w = 0 ∨ w = 1 ∨ w = 2 ∨ w = 3 := by omega
  rcases h4 with rfl | rfl | rfl | rfl
  · refine br_t rfl ?_
    by_cases h : c % 12 = 0
    · rw [h]
      refine dq_rt rfl ?_
      have e : dq_nb c 0 = 144 := by simp [dq_nb, h]
      rw [e] at k; exact k
    · refine dq_rf (fun q => h ((nI_eq (by omega) (by omega)).1 (show nI (c % 12) = nI 0 from q))) ?_
      have e : dq_nb c 0 = c - 1 := by simp [dq_nb, h]
      rw [e, dq_pI_in (by omega)] at k
      have e3 : nI c - 1 = nI (c - 1) := by
        have := nI_pred (c - 1)
        rwa [show c - 1 + 1 = c by omega] at this
      rw [e3]; exact k
  · refine br_f (by decide) (br_t rfl ?_)
    by_cases h : c + 12 < 144
    · refine br_f (fun q => absurd ((nI_leI (a := 144) (by omega) (by omega)).1 q) (by omega)) ?_
      have e : dq_nb c 1 = c + 12 := by simp [dq_nb, h]
      rw [e, dq_pI_in h] at k; exact k
    · refine br_t ((nI_leI (a := 144) (by omega) (by omega)).2 (by omega)) ?_
      have e : dq_nb c 1 = 144 := by simp [dq_nb, h]
      rw [e] at k; exact k
  · refine br_f (by decide) (br_f (by decide) (br_t rfl ?_))
    by_cases h : c % 12 = 11
    · rw [h]
      refine dq_rt rfl ?_
      have e : dq_nb c 2 = 144 := by simp [dq_nb, h]
      rw [e] at k; exact k
    · refine dq_rf (fun q => h ((nI_eq (by omega) (by omega)).1 (show nI (c % 12) = nI 11 from q))) ?_
      have e : dq_nb c 2 = c + 1 := by simp [dq_nb, h]
      rw [e, dq_pI_in (by omega)] at k
      rw [nI_1]; exact k
  · refine br_f (by decide) (br_f (by decide) (br_f (by decide) (br_t rfl ?_)))
    by_cases h : c < 12
    · refine br_t ((nI_ltI (b := 12) (by omega) (by omega)).2 h) ?_
      have e : dq_nb c 3 = 144 := by simp [dq_nb, h]
      rw [e] at k; exact k
    · refine br_f (fun q => h ((nI_ltI (b := 12) (by omega) (by omega)).1 q)) ?_
      have e : dq_nb c 3 = c - 12 := by simp [dq_nb, h]
      rw [e, dq_pI_in (by omega)] at k
      have e3 : nI c - 12 = nI (c - 12) := by
        rw [show c = (c - 12) + 12 by omega, ← nI_add]
        show nI (c - 12) + 12 - 12 = nI (c - 12 + 12 - 12)
        rw [show c - 12 + 12 - 12 = c - 12 by omega]
        generalize nI (c - 12) = z
        rw [Int32.add_sub_cancel]
      rw [e3]; exact k
/-! signs -/
def dq_sgn (v : Int32) : Prop := v = 35 ∨ v = 46 ∨ v = 126 ∨ v = 43 ∨ v = 47 ∨ v = 48 ∨ v = 49 ∨ v = 50
theorem dq_sgn_nar {v : Int32} (h : dq_sgn v) : narrow .char (.int v) = .int v := by
  rcases h with h | h | h | h | h | h | h | h <;> subst h <;> decide
theorem dq_sgn_fit {v : Int32} (h : dq_sgn v) : fits .char (.int v) = true := by
  rcases h with h | h | h | h | h | h | h | h <;> subst h <;> decide
theorem dq_sgn_vp {v : Int32} (h : dq_sgn v) : vp_nar .char v = v := by
  rcases h with h | h | h | h | h | h | h | h <;> subst h <;> decide
def dq_SG (f : dq_W) : Prop := ∀ c, c < 144 → dq_sgn (f 2 c)
/-- the sign at a cell, '#' beyond -/
def dq_sg (f : dq_W) (n : Nat) : Int32 := if n < 144 then f 2 n else 35
abbrev dq_free (v : Int32) : Prop := v = 46 ∨ v = 126 ∨ v = 47
theorem dq_sg_in {f : dq_W} {n : Nat} (h : n < 144) : dq_sg f n = f 2 n := if_pos h
theorem dq_sg_out {f : dq_W} : dq_sg f 144 = 35 := rfl
theorem dq_sg_sgn {f : dq_W} (hS : dq_SG f) {n : Nat} : dq_sgn (dq_sg f n) := by
  unfold dq_sg
  by_cases h : n < 144
  · rw [if_pos h]; exact hS n h
  · rw [if_neg h]; exact Or.inl rfl
/-! a truth that came back -/
theorem dq_1 {A B : Prop} (b : B) : ((1 : Int32) = 0 → A) ∧ (¬ (1 : Int32) = 0 → B) := ⟨fun h => absurd h (by decide), fun _ => b⟩
theorem dq_1' {A B : Prop} (b : B) : (¬ (1 : Int32) = 0 → B) ∧ ((1 : Int32) = 0 → A) := ⟨fun _ => b, fun h => absurd h (by decide)⟩
theorem dq_0 {A B : Prop} (a : A) : ((0 : Int32) = 0 → A) ∧ (¬ (0 : Int32) = 0 → B) := ⟨fun _ => a, fun h => absurd rfl h⟩
theorem dq_0' {A B : Prop} (a : A) : (¬ (0 : Int32) = 0 → B) ∧ ((0 : Int32) = 0 → A) := ⟨fun h => absurd rfl h, fun _ => a⟩
theorem dq_nz1 : narrow .boolean (.int 1) = .int 1 := by decide
theorem dq_nz0 : narrow .boolean (.int 0) = .int 0 := by decide
theorem dq_cz : (0 : Int32).toNatClampNeg = 0 := rfl
theorem dq_v0 {n : Nat} (h : 0 < n) (hn : n < 2 ^ 31) : vp_in 0 n := vp_in_nI h hn
/-! reading loops: the state stays, what is gathered is a function of the counter -/
theorem dq_lp {α : Type} (W : Nat → Nat → α → Prop) (F : Nat → α) (e : Nat) (hx : ∀ n, W (n + 1) e (F e)) (hs : ∀ n i, i < e → W n (i + 1) (F (i + 1)) → W (n + 1) i (F i)) {i : Nat} (hi : i ≤ e) : ∃ n, W n i (F i) := by
  have key : ∀ d i, i + d = e → W (d + 1) i (F i) := by
    intro d
    induction d with
    | zero => intro i h; rw [show i = e by omega]; exact hx 0
    | succ d ih => intro i h; exact hs (d + 1) i (by omega) (ih (i + 1) (by omega))
  exact ⟨e - i + 1, key (e - i) i (by omega)⟩
/-- .. where what was passed is known -/
theorem dq_ls (W : Nat → Nat → Prop) (P : Nat → Prop) (e : Nat) (hx : ∀ n, (∀ j, j < e → P j) → W (n + 1) e) (hs : ∀ n i, i < e → (∀ j, j < i → P j) → (P i → W n (i + 1)) → W (n + 1) i) : ∃ n, W n 0 := by
  have key : ∀ d i, i + d = e → (∀ j, j < i → P j) → W (d + 1) i := by
    intro d
    induction d with
    | zero => intro i h hP; rw [show i = e by omega] at hP ⊢; exact hx 0 hP
    | succ d ih =>
      intro i h hP
      refine hs (d + 1) i (by omega) hP (fun hi => ih (i + 1) (by omega) (fun j hj => ?_))
      by_cases hji : j = i
      · rw [hji]; exact hi
      · exact hP j (by omega)
  exact ⟨e + 1, key e 0 (by omega) (fun j hj => absurd hj (by omega))⟩
