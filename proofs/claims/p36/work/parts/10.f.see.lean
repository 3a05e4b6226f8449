/-! sight -/
/-- whether the line from a to b has points inside c -/
def dq_xs (a b c : Nat) : Prop := (a / 12 ≤ c / 12 ∨ b / 12 ≤ c / 12) ∧ (c / 12 ≤ a / 12 ∨ c / 12 ≤ b / 12) ∧ (a % 12 ≤ c % 12 ∨ b % 12 ≤ c % 12) ∧ (c % 12 ≤ a % 12 ∨ c % 12 ≤ b % 12) ∧
  2 * ((((b / 12 : Nat) : Int) - (a / 12 : Nat)) * (((c % 12 : Nat) : Int) - (a % 12 : Nat)) - (((b % 12 : Nat) : Int) - (a % 12 : Nat)) * (((c / 12 : Nat) : Int) - (a / 12 : Nat))).natAbs < (((b / 12 : Nat) : Int) - (a / 12 : Nat)).natAbs + (((b % 12 : Nat) : Int) - (a % 12 : Nat)).natAbs
def dq_see (f : dq_W) (a b : Nat) : Prop := ∀ c, c < 144 → c ≠ a → c ≠ b → dq_xs a b c → dq_free (f 2 c)
theorem dq_mulb {x y : Int} (hx : x.natAbs ≤ 11) (hy : y.natAbs ≤ 11) : (x * y).natAbs ≤ 121 := by
  rw [Int.natAbs_mul]
  exact Nat.mul_le_mul hx hy
theorem dq_absI {z : Int} (h : z.natAbs ≤ 1000) : (if (0 : Int32) ≤ dq_iI z then dq_iI z else 0 - dq_iI z) = nI z.natAbs := by
  have e0 : (0 : Int32) = dq_iI 0 := rfl
  by_cases g : 0 ≤ z
  · rw [if_pos (by rw [e0]; exact (dq_ile (by omega) (by omega) (by omega) (by omega)).2 g), dq_iN]
    congr 1; omega
  · rw [if_neg (by rw [e0]; exact fun q => g ((dq_ile (by omega) (by omega) (by omega) (by omega)).1 q)), dq_iN, e0, dq_isub]
    congr 1; omega
theorem dq_subN (a b : Nat) : nI a - nI b = dq_iI ((a : Int) - b) := by rw [dq_iN, dq_iN, dq_isub]
theorem dq_mul2 (n : Nat) : 2 * nI n = nI (2 * n) := by
  rw [show (2 : Int32) = nI 2 from rfl, dq_iN, dq_iN, dq_iN, dq_imul]; rfl
theorem dq_offI {dx dy : Int} {i j X Y : Nat} (h1 : dx.natAbs ≤ 11) (h2 : dy.natAbs ≤ 11) (hi : i < 12) (hj : j < 12) (hX : X < 12) (hY : Y < 12) :
    (if 0 ≤ ((dq_iI dx * (nI j - nI Y)) - (dq_iI dy * (nI i - nI X))) then ((dq_iI dx * (nI j - nI Y)) - (dq_iI dy * (nI i - nI X))) else 0 - ((dq_iI dx * (nI j - nI Y)) - (dq_iI dy * (nI i - nI X)))) = nI (dx * ((j : Int) - Y) - dy * ((i : Int) - X)).natAbs := by
  have e : (dq_iI dx * (nI j - nI Y)) - (dq_iI dy * (nI i - nI X)) = dq_iI (dx * ((j : Int) - Y) - dy * ((i : Int) - X)) := by
    rw [dq_subN, dq_subN, dq_imul, dq_imul, dq_isub]
  rw [e]
  have b1 := dq_mulb h1 (y := (j : Int) - Y) (by omega)
  have b2 := dq_mulb h2 (y := (i : Int) - X) (by omega)
  exact dq_absI (by omega)
theorem dq_addI {X X2 : Nat} : nI X + dq_iI ((X2 : Int) - X) = nI X2 := by
  rw [dq_iN, dq_iadd, dq_iN]
  congr 1; omega
theorem dq_maxI {a b : Nat} (ha : a < 2 ^ 31) (hb : b < 2 ^ 31) : (if nI a < nI b then nI b else nI a) = nI (max a b) := by
  by_cases h : a < b
  · rw [if_pos ((nI_ltI ha hb).2 h), Nat.max_eq_right (by omega)]
  · rw [if_neg (fun g => h ((nI_ltI ha hb).1 g)), Nat.max_eq_left (by omega)]
theorem dq_minI {a b : Nat} (ha : a < 2 ^ 31) (hb : b < 2 ^ 31) : (if nI b < nI a then nI b else nI a) = nI (min a b) := by
  by_cases h : b < a
  · rw [if_pos ((nI_ltI hb ha).2 h), Nat.min_eq_right (by omega)]
  · rw [if_neg (fun g => h ((nI_ltI hb ha).1 g)), Nat.min_eq_left (by omega)]
theorem dq_lsF (W : Nat → Nat → Prop) (P : Nat → Prop) (b e : Nat) (hbe : b ≤ e) (hx : ∀ n, (∀ j, b ≤ j → j < e → P j) → W (n + 1) e) (hs : ∀ n i, b ≤ i → i < e → (∀ j, b ≤ j → j < i → P j) → (P i → W n (i + 1)) → W (n + 1) i) : ∃ n, W n b := by
  have key : ∀ d i, i + d = e → b ≤ i → (∀ j, b ≤ j → j < i → P j) → W (d + 1) i := by
    intro d
    induction d with
    | zero => intro i h _ hP; rw [show i = e by omega] at hP ⊢; exact hx 0 hP
    | succ d ih =>
      intro i h hb hP
      refine hs (d + 1) i hb (by omega) hP (fun hi => ih (i + 1) (by omega) (by omega) (fun j hj hj2 => ?_))
      by_cases hji : j = i
      · rw [hji]; exact hi
      · exact hP j hj (by omega)
  exact ⟨e - b + 1, key (e - b) b (by omega) (Nat.le_refl _) (fun j h1 h2 => absurd h2 (by omega))⟩
section DQS
variable {p : Nat} {s : dk_S} {K : Int32 → dk_S → Prop}
theorem kx_see_n {B : Int32 → Int32 → Int32 → Int32 → Int32 → Int32 → Int32 → Int32 → Int32 → Int32 → Int32 → dk_S → Prop} {E : Int32 → Int32 → Int32 → Int32 → Int32 → Int32 → Int32 → Int32 → Int32 → Int32 → dk_S → Prop} {x1 x2 x3 x4 x5 x6 x7 x8 x9 x10 : Int32} {j : Nat} (h : B x1 x2 x3 x4 x5 x6 x7 x8 x9 x10 (nI (j + 1)) s) : wf_X1_seeEachOther_161 p K B E x1 x2 x3 x4 x5 x6 x7 x8 x9 x10 (nI j) s := by
  unfold wf_X1_seeEachOther_161
  exact nm_r (nI_1 j) h
theorem kx_see {a b : Nat} (hS : dq_SG (s p)) (ha : a < 144) (hb : b < 144) (k1 : dq_see (s p) a b → K 1 s) (k0 : ¬ dq_see (s p) a b → K 0 s) : wf_X1_seeEachOther p (nI a) (nI b) s K := by
  unfold wf_X1_seeEachOther
  have ba : a / 12 < 12 ∧ a % 12 < 12 := by omega
  have bb : b / 12 < 12 ∧ b % 12 < 12 := by omega
  generalize hX : a / 12 = X at *
  generalize hY : a % 12 = Y at *
  generalize hX2 : b / 12 = X2 at *
  generalize hY2 : b % 12 = Y2 at *
  have eX : nI a / 12 = nI X := by rw [dq_dv ha, hX]
  have eY : nI a - nI a / 12 * 12 = nI Y := by rw [dq_md ha, hY]
  refine nm_r eX (nm_r eY ?_)
  refine nm_r (e' := dq_iI ((X2 : Int) - X)) (by rw [dq_dv hb, hX2, dq_subN]) ?_
  refine nm_r (e' := dq_iI ((Y2 : Int) - Y)) (by rw [dq_md hb, hY2, dq_subN]) ?_
  refine nm_r (e' := nI (((X2 : Int) - X).natAbs + ((Y2 : Int) - Y).natAbs)) (by rw [dq_absI (by omega), dq_absI (by omega), nI_add]) ?_
  refine nm_r (e' := nI (max X X2)) (by rw [dq_addI, dq_maxI (by omega) (by omega)]) ?_
  refine nm_r (e' := nI (max Y Y2)) (by rw [dq_addI, dq_maxI (by omega) (by omega)]) ?_
  refine nm_r (e' := nI (min X X2)) (by rw [dq_addI, dq_minI (by omega) (by omega)]) ?_
  -- what a cell of the box must be
  let Q : Nat → Nat → Prop := fun i j => 2 * (((X2 : Int) - X) * ((j : Int) - Y) - ((Y2 : Int) - Y) * ((i : Int) - X)).natAbs < ((X2 : Int) - X).natAbs + ((Y2 : Int) - Y).natAbs → 12 * i + j ≠ a → 12 * i + j ≠ b → dq_free (s p 2 (12 * i + j))
  have hQ : dq_see (s p) a b → ∀ i, min X X2 ≤ i → i ≤ max X X2 → ∀ j, min Y Y2 ≤ j → j ≤ max Y Y2 → Q i j := by
    intro h i hi hi2 j hj hj2 g1 g2 g3
    have d1 : (12 * i + j) / 12 = i := by omega
    have d2 : (12 * i + j) % 12 = j := by omega
    refine h (12 * i + j) (by omega) g2 g3 ?_
    unfold dq_xs
    rw [d1, d2, hX, hY, hX2, hY2]
    exact ⟨by omega, by omega, by omega, by omega, g1⟩
  have hQ2 : (∀ i, min X X2 ≤ i → i < max X X2 + 1 → ∀ j, min Y Y2 ≤ j → j < max Y Y2 + 1 → Q i j) → dq_see (s p) a b := by
    intro h c hc g2 g3 hx
    unfold dq_xs at hx
    rw [hX, hY, hX2, hY2] at hx
    have := h (c / 12) (by omega) (by omega) (c % 12) (by omega) (by omega)
    have e : 12 * (c / 12) + c % 12 = c := by omega
    have := this hx.2.2.2.2
    rw [e] at this
    exact this g2 g3
  refine dq_lsF (fun m i => wf_X1_seeEachOther_73 p K m (nI a) (nI b) (nI X) (nI Y) (dq_iI ((X2 : Int) - X)) (dq_iI ((Y2 : Int) - Y)) (nI (((X2 : Int) - X).natAbs + ((Y2 : Int) - Y).natAbs)) (nI (max X X2)) (nI (max Y Y2)) (nI i) s) (fun i => ∀ j, min Y Y2 ≤ j → j < max Y Y2 + 1 → Q i j) (min X X2) (max X X2 + 1) (by omega) ?_ ?_
  · intro m h
    show wf_X1_seeEachOther_73 p K (m + 1) (nI a) (nI b) (nI X) (nI Y) (dq_iI ((X2 : Int) - X)) (dq_iI ((Y2 : Int) - Y)) (nI (((X2 : Int) - X).natAbs + ((Y2 : Int) - Y).natAbs)) (nI (max X X2)) (nI (max Y Y2)) (nI (max X X2 + 1)) s
    unfold wf_X1_seeEachOther_73
    exact br_t (nI_lt (by omega) (by omega)) (k1 (hQ2 h))
  · intro m i hi hi2 hp h
    show wf_X1_seeEachOther_73 p K (m + 1) (nI a) (nI b) (nI X) (nI Y) (dq_iI ((X2 : Int) - X)) (dq_iI ((Y2 : Int) - Y)) (nI (((X2 : Int) - X).natAbs + ((Y2 : Int) - Y).natAbs)) (nI (max X X2)) (nI (max Y Y2)) (nI i) s
    unfold wf_X1_seeEachOther_73
    refine br_f (nI_nlt (by omega) (by omega)) ?_
    refine nm_r (e' := nI (min Y Y2)) (by rw [dq_addI, dq_minI (by omega) (by omega)]) ?_
    refine dq_lsF (fun m2 j => wf_X1_seeEachOther_92 p K _ m2 (nI a) (nI b) (nI X) (nI Y) (dq_iI ((X2 : Int) - X)) (dq_iI ((Y2 : Int) - Y)) (nI (((X2 : Int) - X).natAbs + ((Y2 : Int) - Y).natAbs)) (nI (max X X2)) (nI (max Y Y2)) (nI i) (nI j) s) (Q i) (min Y Y2) (max Y Y2 + 1) (by omega) ?_ ?_
    · intro m2 hh
      show wf_X1_seeEachOther_92 p K _ (m2 + 1) (nI a) (nI b) (nI X) (nI Y) (dq_iI ((X2 : Int) - X)) (dq_iI ((Y2 : Int) - Y)) (nI (((X2 : Int) - X).natAbs + ((Y2 : Int) - Y).natAbs)) (nI (max X X2)) (nI (max Y Y2)) (nI i) (nI (max Y Y2 + 1)) s
      unfold wf_X1_seeEachOther_92
      exact br_t (nI_lt (by omega) (by omega)) (nm_r (nI_1 i) (h hh))
    · intro m2 j hj hj2 hpj hh
      show wf_X1_seeEachOther_92 p K _ (m2 + 1) (nI a) (nI b) (nI X) (nI Y) (dq_iI ((X2 : Int) - X)) (dq_iI ((Y2 : Int) - Y)) (nI (((X2 : Int) - X).natAbs + ((Y2 : Int) - Y).natAbs)) (nI (max X X2)) (nI (max Y Y2)) (nI i) (nI j) s
      unfold wf_X1_seeEachOther_92
      have b1 := dq_mulb (x := (X2 : Int) - X) (y := (j : Int) - Y) (by omega) (by omega)
      have b2 := dq_mulb (x := (Y2 : Int) - Y) (y := (i : Int) - X) (by omega) (by omega)
      refine br_f (nI_nlt (by omega) (by omega)) (kx_spot (nm_r (dq_offI (by omega) (by omega) (by omega) (by omega) (by omega) (by omega)) ?_))
      rw [dq_mul2]
      refine br_c (fun g => kx_see_n (hh fun g1 => absurd ((nI_leI (by omega) (by omega)).1 g) (by omega))) (fun g => br_c (fun g2 => kx_see_n (hh fun _ g3 => absurd ((nI_eq (by omega) (by omega)).1 g2) g3)) (fun g2 => br_c (fun g3 => kx_see_n (hh fun _ _ g4 => absurd ((nI_eq (by omega) (by omega)).1 g3) g4)) (fun g3 => ?_)))
      have hc : 12 * i + j < 144 := by omega
      rw [← dq_pI_in hc]
      refine kx_isFreeAt hS (by omega) (fun g4 => dq_1' (kx_see_n (hh fun _ _ _ => ?_))) (fun g4 => dq_0' (k0 fun hs => g4 ?_))
      · rw [dq_sg_in hc] at g4; exact g4
      · rw [dq_sg_in hc]
        refine hQ hs i hi (by omega) j hj (by omega) ?_ (fun q => g2 (congrArg nI q)) (fun q => g3 (congrArg nI q))
        exact Nat.lt_of_not_le fun q => g ((nI_leI (by omega) (by omega)).2 q)
end DQS
