/-! the pure layer: what of a world is relevant; its leaf methods -/
def dq_lo (q : Nat) : Nat := if q = 0 then 5 else if q = 13 then 9 else if q = 23 then 2 else if q = 26 then 2 else 0
def dq_hi (q : Nat) : Nat := if q = 0 then 10 else if q = 2 then 144 else if q < 8 then 0 else if q < 13 then 8 else if q = 13 then 10 else if q < 23 then 8 else if q = 23 then 3 else if q < 26 then 24 else if q = 26 then 3 else if q < 29 then 4 else 0
def dq_Ab (w f : dq_W) : Prop := ∀ q k, dq_lo q ≤ k → k < dq_hi q → f q k = w q k
theorem dq_Ab.rf {w : dq_W} : dq_Ab w w := fun _ _ _ _ => rfl
theorem dq_Ab.set {w f : dq_W} (h : dq_Ab w f) (q k : Nat) (v : Int32) : dq_Ab (dq_set w q k v) (dq_set f q k v) := fun a b h1 h2 => by
  unfold dq_set
  by_cases e : a = q ∧ b = k
  · rw [if_pos e, if_pos e]
  · rw [if_neg e, if_neg e]; exact h a b h1 h2
theorem dq_Ab.out {w f : dq_W} (h : dq_Ab w f) {q k : Nat} {v : Int32} (hq : k < dq_lo q ∨ dq_hi q ≤ k) : dq_Ab w (dq_set f q k v) := fun a b h1 h2 => by
  unfold dq_set
  rw [if_neg (by rintro ⟨rfl, rfl⟩; omega)]
  exact h a b h1 h2
section DQK
variable {p n t : Nat} {s : dk_S} {w : dq_W} {K : Int32 → dk_S → Prop} {J : dk_S → Prop}
/-- a row is written: the exact state -/
def dq_st (s : dk_S) (p q k : Nat) (v : Int32) : dk_S := dk_row s p q (upd (s p q) k v)
theorem dq_st_p {q k : Nat} {v : Int32} : dq_st s p q k v p = dq_set (s p) q k v := dq_set_row s p q k v
theorem dq_st_fr {q k : Nat} {v : Int32} : dq_fr p s (dq_st s p q k v) := dq_row_fr
theorem kx_put {q k : Nat} {v : Int32} (hi : k < n) (hn : n < 2 ^ 31) (h : J (dq_st s p q k v)) : wf_X8_put p q n (nI k) v s J := by
  unfold wf_X8_put
  refine br_f (nI_pos (by omega)) (br_f (nI_ge hi (by omega)) ⟨vp_in_nI hi (by omega), ?_⟩)
  rw [nI_clamp (by omega)]
  exact nm_e h
theorem kx_putL {q k : Nat} {v i : Int32} (he : i = nI k) (hi : k < n) (hn : n < 2 ^ 31) (h : J (dq_st s p q k v)) : wf_X8_put p q n i v s J := by
  rw [he]; exact kx_put hi hn h
theorem kx_at {q k : Nat} (hi : k < n) (hn : n < 2 ^ 31) (h : K (s p q k) s) : wf_X8_at p q n (nI k) s K := by
  unfold wf_X8_at
  refine br_f (nI_pos (by omega)) (br_f (nI_ge hi (by omega)) ⟨vp_in_nI hi (by omega), ?_⟩)
  rw [nI_clamp (by omega)]
  exact h
theorem kx_atL {q k : Nat} {i : Int32} (he : i = nI k) (hi : k < n) (hn : n < 2 ^ 31) (h : K (s p q k) s) : wf_X8_at p q n i s K := by
  rw [he]; exact kx_at hi hn h
theorem kx_heroSpot (k : K (s p 14 0) s) : wf_X7_heroSpot p s K := by
  unfold wf_X7_heroSpot
  exact kx_atL (k := 0) rfl (by decide) (by decide) k
/-! signs -/
theorem kx_signAt {c : Nat} (hS : dq_SG (s p)) (hc : c ≤ 144) (k : K (dq_sg (s p) c) s) : wf_X1_signAt p (dq_pI c) s K := by
  unfold wf_X1_signAt
  by_cases h : c < 144
  · rw [dq_pI_in h]
    refine br_f (nI_pos (by omega)) (br_f (nI_ge (b := 144) h (by decide)) ⟨vp_in_nI h (by decide), ?_⟩)
    rw [nI_clamp (by omega)]
    rw [dq_sg_in h] at k
    exact ⟨dq_sgn_nar (hS c h), k⟩
  · have e : c = 144 := by omega
    rw [e] at k ⊢
    exact br_t (by decide) k
theorem kx_isFree {v : Int32} (k1 : dq_free v → K 1 s) (k0 : ¬ dq_free v → K 0 s) : wf_X8_isFree v s K := by
  unfold wf_X8_isFree
  refine br_c (fun h => k1 (Or.inl h)) (fun h1 => br_c (fun h => k1 (Or.inr (Or.inl h))) (fun h2 => ⟨fun h3 => k0 ?_, fun h3 => k1 (Or.inr (Or.inr h3))⟩))
  rintro (h | h | h)
  · exact h1 h
  · exact h2 h
  · exact h3 h
theorem kx_isFreeAt {c : Nat} (hS : dq_SG (s p)) (hc : c ≤ 144) (k1 : dq_free (dq_sg (s p) c) → K 1 s) (k0 : ¬ dq_free (dq_sg (s p) c) → K 0 s) : wf_X1_isFreeAt p (dq_pI c) s K := by
  unfold wf_X1_isFreeAt
  refine kx_signAt hS hc (kx_isFree (fun h => ⟨dq_nz1, k1 h⟩) (fun h => ⟨dq_nz0, k0 h⟩))
/-- no free sign is beyond the cells -/
theorem dq_free_in {f : dq_W} {c : Nat} (hc : c ≤ 144) (h : dq_free (dq_sg f c)) : c < 144 := by
  rcases Nat.lt_or_ge c 144 with h1 | h1
  · exact h1
  · have e : c = 144 := by omega
    subst e
    rw [dq_sg_out] at h
    exact absurd h (by decide)
theorem kx_change {c : Nat} {v : Int32} (hc : c < 144) (hv : dq_sgn v) (k : J (dq_st (dq_st s p 2 c v) p 1 5 (-1))) : wf_X1_change p (dq_pI c) v s J := by
  unfold wf_X1_change
  rw [dq_pI_in hc]
  refine br_f (nI_pos (by omega)) (br_f (nI_ge (b := 144) hc (by decide)) ⟨vp_in_nI hc (by decide), ?_⟩)
  rw [nI_clamp (by omega), dq_sgn_vp hv]
  exact nm_e (nm_e k)
theorem kx_spot {a b : Nat} (k : K (nI (12 * a + b)) s) : wf_X8_spot (nI a) (nI b) s K := by
  unfold wf_X8_spot
  have e : (12 : Int32) * nI a + nI b = nI (12 * a + b) := by
    rw [show (12 : Int32) = nI 12 from rfl, dq_iN, dq_iN, dq_iN, dq_iN, dq_imul, dq_iadd]; rfl
  rw [e]; exact k
/-! creatures -/
def dq_lv (w : dq_W) (b : Nat) : Prop := ¬ w 18 b ≤ 0
def dq_wk (w : dq_W) (b : Nat) : Prop := ¬ w 17 b ≤ 3 * w 18 b
theorem kx_lives {b : Nat} (hb : b < 8) (k1 : dq_lv (s p) b → K 1 s) (k0 : ¬ dq_lv (s p) b → K 0 s) : wf_X2_lives p (nI b) s K := by
  unfold wf_X2_lives
  exact kx_at hb (by decide) (br_c (fun h => k0 (fun g => g h)) (fun h => k1 h))
theorem kx_livesL {b : Nat} {i : Int32} (he : i = nI b) (hb : b < 8) (k1 : dq_lv (s p) b → K 1 s) (k0 : ¬ dq_lv (s p) b → K 0 s) : wf_X2_lives p i s K := by
  rw [he]; exact kx_lives hb k1 k0
theorem kx_isWeak {b : Nat} (hb : b < 8) (k1 : dq_wk (s p) b → K 1 s) (k0 : ¬ dq_wk (s p) b → K 0 s) : wf_X2_isWeak p (nI b) s K := by
  unfold wf_X2_isWeak
  exact kx_at hb (by decide) (kx_at hb (by decide) (br_c (fun h => k0 (fun g => g h)) (fun h => k1 h)))
theorem kx_harm {b : Nat} {v : Int32} (hb : b < 8) (k : J (dq_st s p 18 b (s p 18 b - v))) : wf_X2_harm p (nI b) v s J := by
  unfold wf_X2_harm
  exact kx_at hb (by decide) (kx_put hb (by decide) k)
theorem kx_heal {b : Nat} {v : Int32} (hb : b < 8) (k : J (dq_st s p 18 b (if s p 18 b + v < s p 17 b then s p 18 b + v else s p 17 b))) : wf_X2_heal p (nI b) v s J := by
  unfold wf_X2_heal
  exact kx_at hb (by decide) (kx_at hb (by decide) (kx_put hb (by decide) k))
theorem kx_hasten {b : Nat} {v : Int32} (hb : b < 8) (k : J (dq_st (dq_st s p 20 b v) p 21 b 12)) : wf_X2_hasten p (nI b) v s J := by
  unfold wf_X2_hasten
  exact kx_put hb (by decide) (kx_put hb (by decide) k)
theorem kx_spendTurn {b : Nat} (hb : b < 8) (k : J (dq_st s p 19 b (s p 19 b - 12))) : wf_X2_spendTurn p (nI b) s J := by
  unfold wf_X2_spendTurn
  exact kx_at hb (by decide) (kx_put hb (by decide) k)
theorem kx_livingAt {x : Int32} (hn : s p 13 9 = nI n) (h8 : n ≤ 8)
    (h1 : ∀ i, i < n → dq_lv (s p) i → s p 14 i = x → (∀ j, j < i → dq_lv (s p) j → s p 14 j ≠ x) → K (nI i) s) (h0 : (∀ i, i < n → dq_lv (s p) i → s p 14 i ≠ x) → K (-1) s) : wf_X2_livingAt p x s K := by
  unfold wf_X2_livingAt
  refine dq_ls (fun m i => wf_X2_livingAt_2 p K m x (nI i) s) (fun i => dq_lv (s p) i → s p 14 i ≠ x) n ?_ ?_
  · intro m h
    show wf_X2_livingAt_2 p K (m + 1) x (nI n) s
    unfold wf_X2_livingAt_2
    rw [hn]
    exact br_t (nI_le (Nat.le_refl _) (by omega)) (h0 h)
  · intro m i hi hp k
    show wf_X2_livingAt_2 p K (m + 1) x (nI i) s
    unfold wf_X2_livingAt_2
    rw [hn]
    refine br_f (nI_ge hi (by omega)) (kx_at (by omega) (by decide) (br_c (fun h => ?_) (fun h => kx_at (by omega) (by decide) ⟨fun h2 => ?_, fun h2 => ?_⟩)))
    · exact nm_r (nI_1 i) (k (fun g => absurd h g))
    · exact nm_r (nI_1 i) (k (fun _ => h2))
    · exact h1 i hi h h2 hp
theorem dq_m1 {i : Nat} (h : i < 2 ^ 31) : ¬ (-1 : Int32) = nI i := fun g => by
  have := congrArg Int32.toInt g
  rw [nI_toInt h] at this
  have e : (-1 : Int32).toInt = -1 := by decide
  omega
theorem dq_m1' {i : Nat} (h : i < 2 ^ 31) : ¬ nI i = (-1 : Int32) := fun g => dq_m1 h g.symm
theorem kx_living {a : Nat} (hn : s p 13 9 = nI n) (h8 : n ≤ 8) (ha : a ≤ n) (F : Nat → Int32) (hF0 : F a = 0) (hF : ∀ i, i < n → F (i + 1) = if s p 18 i ≤ 0 then F i else F i + 1) (k : K (F n) s) : wf_X2_living p (nI a) s K := by
  unfold wf_X2_living
  have q := dq_lp (fun m i x => wf_X2_living_4 p K m x (nI i) s) F n (fun m => by
    show wf_X2_living_4 p K (m + 1) (F n) (nI n) s
    unfold wf_X2_living_4
    rw [hn]
    exact br_t (nI_le (Nat.le_refl _) (by omega)) k) (fun m i hi h => by
    show wf_X2_living_4 p K (m + 1) (F i) (nI i) s
    unfold wf_X2_living_4
    rw [hn]
    have e := hF i hi
    refine br_f (nI_ge hi (by omega)) (kx_lives (by omega) (fun h1 => dq_1 ?_) (fun h1 => dq_0 ?_))
    · rw [if_neg h1] at e
      exact nm_r e.symm (nm_r (nI_1 i) h)
    · rw [if_pos (Classical.not_not.mp h1)] at e
      have h : wf_X2_living_4 p K m (F (i + 1)) (nI (i + 1)) s := h
      rw [e] at h
      exact nm_r (nI_1 i) h) ha
  rw [hF0] at q
  exact q
theorem kx_healthOfLiving (hn : s p 13 9 = nI n) (h8 : n ≤ 8) (F : Nat → Int32) (hF0 : F 0 = 0) (hF : ∀ i, i < n → F (i + 1) = F i + (if (0 : Int32) < s p 18 i then s p 18 i else (0 : Int32))) (k : K (F n) s) : wf_X2_healthOfLiving p s K := by
  unfold wf_X2_healthOfLiving
  have q := dq_lp (fun m i x => wf_X2_healthOfLiving_4 p K m x (nI i) s) F n (fun m => by
    show wf_X2_healthOfLiving_4 p K (m + 1) (F n) (nI n) s
    unfold wf_X2_healthOfLiving_4
    rw [hn]
    exact br_t (nI_le (Nat.le_refl _) (by omega)) k) (fun m i hi h => by
    show wf_X2_healthOfLiving_4 p K (m + 1) (F i) (nI i) s
    unfold wf_X2_healthOfLiving_4
    rw [hn]
    exact br_f (nI_ge hi (by omega)) (kx_at (by omega) (by decide) (nm_r (hF i hi).symm (nm_r (nI_1 i) h)))) (Nat.zero_le n)
  rw [hF0] at q
  exact q
theorem kx_allStandApart (hn : s p 13 9 = nI n) (h8 : n ≤ 8) (k1 : (∀ i, i < n → dq_lv (s p) i ∧ ∀ j, j < i → s p 14 j ≠ s p 14 i) → K 1 s)
    (k0 : ¬ (∀ i, i < n → dq_lv (s p) i ∧ ∀ j, j < i → s p 14 j ≠ s p 14 i) → K 0 s) : wf_X2_allStandApart p s K := by
  unfold wf_X2_allStandApart
  refine dq_ls (fun m i => wf_X2_allStandApart_2 p K m (nI i) s) (fun i => dq_lv (s p) i ∧ ∀ j, j < i → s p 14 j ≠ s p 14 i) n ?_ ?_
  · intro m h
    show wf_X2_allStandApart_2 p K (m + 1) (nI n) s
    unfold wf_X2_allStandApart_2
    rw [hn]
    exact br_t (nI_le (Nat.le_refl _) (by omega)) (k1 h)
  · intro m i hi hp k
    show wf_X2_allStandApart_2 p K (m + 1) (nI i) s
    unfold wf_X2_allStandApart_2
    rw [hn]
    refine br_f (nI_ge hi (by omega)) (kx_at (by omega) (by decide) (kx_livingAt hn h8 (fun j hj hl he hf => ?_) (fun h => ?_)))
    · by_cases hji : j = i
      · subst hji
        exact br_t rfl (nm_r (nI_1 j) (k ⟨hl, fun a ha => hf a ha (hp a ha).1⟩))
      · refine br_f (fun h => hji ((nI_eq (by omega) (by omega)).1 h)) (k0 fun H => ?_)
        rcases Nat.lt_or_ge j i with g | g
        · exact (H i hi).2 j g he
        · exact (H j hj).2 i (by omega) he.symm
    · exact br_f (dq_m1 (by omega)) (k0 fun H => h i hi (H i hi).1 rfl)
/-- energy is gained by the first i creatures -/
def dq_gain (i : Nat) (f : dq_W) : dq_W := fun q k => if q = 19 ∧ k < i ∧ ¬ f 18 k ≤ 0 then f 19 k + (if f 21 k ≤ 0 then f 15 k else f 20 k) else if q = 21 ∧ k < i then (if (0 : Int32) < f 21 k - 1 then f 21 k - 1 else (0 : Int32)) else f q k
theorem dq_gain0 {f : dq_W} : dq_gain 0 f = f := by
  funext q k
  simp [dq_gain]
theorem dq_gain_o {f : dq_W} {i q k : Nat} (h : (q ≠ 19 ∧ q ≠ 21) ∨ i ≤ k) : dq_gain i f q k = f q k := by
  unfold dq_gain
  rw [if_neg (by omega), if_neg (by omega)]
theorem dq_gain_19 {f : dq_W} {i k : Nat} (h : k < i) (hl : ¬ f 18 k ≤ 0) : dq_gain i f 19 k = f 19 k + (if f 21 k ≤ 0 then f 15 k else f 20 k) := if_pos ⟨rfl, h, hl⟩
theorem dq_gain_19d {f : dq_W} {i k : Nat} (hl : f 18 k ≤ 0) : dq_gain i f 19 k = f 19 k := (if_neg (fun g => g.2.2 hl)).trans (if_neg (by omega))
theorem dq_gain_21 {f : dq_W} {i k : Nat} (h : k < i) : dq_gain i f 21 k = (if (0 : Int32) < f 21 k - 1 then f 21 k - 1 else (0 : Int32)) := (if_neg (by omega)).trans (if_pos ⟨rfl, h⟩)
theorem dq_gain_e {f : dq_W} {i q k : Nat} (h1 : ¬ (q = 19 ∧ k = i)) (h2 : ¬ (q = 21 ∧ k = i)) : dq_gain i f q k = dq_gain (i + 1) f q k := by
  by_cases c1 : q = 19 ∧ k < i ∧ ¬ f 18 k ≤ 0
  · obtain ⟨rfl, c2, c3⟩ := c1
    rw [dq_gain_19 c2 c3, dq_gain_19 (by omega) c3]
  · by_cases c2 : q = 21 ∧ k < i
    · obtain ⟨rfl, c2⟩ := c2
      rw [dq_gain_21 c2, dq_gain_21 (by omega)]
    · have n1 : ¬ (q = 19 ∧ k < i + 1 ∧ ¬ f 18 k ≤ 0) := fun g => c1 ⟨g.1, by omega, g.2.2⟩
      have n2 : ¬ (q = 21 ∧ k < i + 1) := by omega
      exact ((if_neg c1).trans (if_neg c2)).trans ((if_neg n1).trans (if_neg n2)).symm
theorem dq_gain_d {f : dq_W} {i : Nat} (h : f 18 i ≤ 0) : dq_set (dq_gain i f) 21 i (if (0 : Int32) < f 21 i - 1 then f 21 i - 1 else (0 : Int32)) = dq_gain (i + 1) f := by
  funext q k
  by_cases e : q = 21 ∧ k = i
  · obtain ⟨rfl, rfl⟩ := e
    rw [dq_set_eq, dq_gain_21 (Nat.lt_succ_self _)]
  · rw [dq_set_ne (by omega)]
    by_cases e2 : q = 19 ∧ k = i
    · obtain ⟨rfl, rfl⟩ := e2
      rw [dq_gain_19d h, dq_gain_19d h]
    · exact dq_gain_e e2 e
theorem dq_gain_l {f : dq_W} {i : Nat} (h : ¬ f 18 i ≤ 0) : dq_set (dq_set (dq_gain i f) 19 i (f 19 i + (if f 21 i ≤ 0 then f 15 i else f 20 i))) 21 i (if (0 : Int32) < f 21 i - 1 then f 21 i - 1 else (0 : Int32)) = dq_gain (i + 1) f := by
  funext q k
  by_cases e : q = 21 ∧ k = i
  · obtain ⟨rfl, rfl⟩ := e
    rw [dq_set_eq, dq_gain_21 (Nat.lt_succ_self _)]
  · rw [dq_set_ne (by omega)]
    by_cases e2 : q = 19 ∧ k = i
    · obtain ⟨rfl, rfl⟩ := e2
      rw [dq_set_eq, dq_gain_19 (Nat.lt_succ_self _) h]
    · rw [dq_set_ne (by omega)]
      exact dq_gain_e e2 e
theorem kx_gainEnergy (hn : s p 13 9 = nI n) (h8 : n ≤ 8) (k : ∀ u, u p = dq_gain n (s p) → dq_fr p s u → J u) : wf_X2_gainEnergy p s J := by
  unfold wf_X2_gainEnergy
  refine loop_0 (fun m i u => wf_X2_gainEnergy_2 p J m (nI i) u) (fun i u => u p = dq_gain i (s p) ∧ dq_fr p s u) n s ⟨dq_gain0.symm, dq_fr.rf⟩ ?_ ?_
  · rintro m u ⟨hu, hf⟩
    show wf_X2_gainEnergy_2 p J (m + 1) (nI n) u
    unfold wf_X2_gainEnergy_2
    have hn' : u p 13 9 = nI n := by rw [hu, dq_gain_o (by omega)]; exact hn
    rw [hn']
    exact br_t (nI_le (Nat.le_refl _) (by omega)) (k u hu hf)
  · rintro m i u hi ⟨hu, hf⟩ h
    show wf_X2_gainEnergy_2 p J (m + 1) (nI i) u
    unfold wf_X2_gainEnergy_2
    have g : ∀ q, (q ≠ 19 ∧ q ≠ 21) ∨ i ≤ i → u p q i = s p q i := fun q hq => by rw [hu, dq_gain_o hq]
    have hn' : u p 13 9 = nI n := by rw [hu, dq_gain_o (by omega)]; exact hn
    rw [hn']
    refine br_f (nI_ge hi (by omega)) (kx_lives (by omega) (fun h1 => dq_1 ?_) (fun h1 => dq_0 ?_))
    · have h1' : ¬ s p 18 i ≤ 0 := by rw [← g 18 (by omega)]; exact h1
      have fin : ∀ v : Int32, v = (if s p 21 i ≤ 0 then s p 15 i else s p 20 i) → wf_X2_gainEnergy_48 p J (wf_X2_gainEnergy_2 p J m) (nI i) v u := by
        intro v hv
        unfold wf_X2_gainEnergy_48
        refine kx_at (by omega) (by decide) (kx_put (by omega) (by decide) ?_)
        unfold wf_X2_gainEnergy_67
        refine kx_at (by omega) (by decide) (kx_put (by omega) (by decide) (nm_r (nI_1 i) (h _ ⟨?_, (hf.tr dq_st_fr).tr dq_st_fr⟩)))
        rw [dq_st_p, dq_st_p, dq_set_q (by decide), hu, dq_gain_o (by omega), dq_gain_o (by omega), hv]
        exact dq_gain_l h1'
      refine kx_at (by omega) (by decide) (br_c (fun h2 => kx_at (by omega) (by decide) (fin _ ?_)) (fun h2 => kx_at (by omega) (by decide) (fin _ ?_)))
      · rw [g 21 (by omega)] at h2
        rw [if_pos h2, g 15 (by omega)]
      · rw [g 21 (by omega)] at h2
        rw [if_neg h2, g 20 (by omega)]
    · have h1' : s p 18 i ≤ 0 := by
        have := Classical.not_not.mp h1
        rwa [g 18 (by omega)] at this
      unfold wf_X2_gainEnergy_67
      refine kx_at (by omega) (by decide) (kx_put (by omega) (by decide) (nm_r (nI_1 i) (h _ ⟨?_, hf.tr dq_st_fr⟩)))
      rw [dq_st_p, hu, dq_gain_o (by omega)]
      exact dq_gain_d h1'
/-- who acts next among the first i; 8: nobody -/
def dq_ms (f : dq_W) (j : Nat) : Int32 := if j = 8 then 11 else f 19 j
def dq_nx (f : dq_W) : Nat → Nat
  | 0 => 8
  | i + 1 => if f 18 i ≤ 0 then dq_nx f i else if f 19 i ≤ dq_ms f (dq_nx f i) then dq_nx f i else i
theorem dq_nx_s {f : dq_W} {i : Nat} : dq_nx f (i + 1) = if f 18 i ≤ 0 then dq_nx f i else if f 19 i ≤ dq_ms f (dq_nx f i) then dq_nx f i else i := rfl
def dq_n8 (j : Nat) : Int32 := if j = 8 then -1 else nI j
theorem dq_nx_le {f : dq_W} : ∀ i, i ≤ 8 → dq_nx f i = 8 ∨ dq_nx f i < i
  | 0, _ => Or.inl rfl
  | i + 1, h => by
    have ih := dq_nx_le (f := f) i (by omega)
    rw [dq_nx_s]
    by_cases c1 : f 18 i ≤ 0
    · rw [if_pos c1]; omega
    · rw [if_neg c1]
      by_cases c2 : f 19 i ≤ dq_ms f (dq_nx f i)
      · rw [if_pos c2]; omega
      · rw [if_neg c2]; omega
theorem dq_n8_of {j : Nat} (h : j < 8) : dq_n8 j = nI j := if_neg (by omega)
theorem kx_nextToAct (hn : s p 13 9 = nI n) (h8 : n ≤ 8) (k : K (dq_n8 (dq_nx (s p) n)) s) : wf_X2_nextToAct p s K := by
  unfold wf_X2_nextToAct
  have q := dq_lp (fun m i (x : Int32 × Int32) => wf_X2_nextToAct_7 p K m x.1 x.2 (nI i) s) (fun i => (dq_n8 (dq_nx (s p) i), dq_ms (s p) (dq_nx (s p) i))) n (fun m => by
    show wf_X2_nextToAct_7 p K (m + 1) (dq_n8 (dq_nx (s p) n)) (dq_ms (s p) (dq_nx (s p) n)) (nI n) s
    unfold wf_X2_nextToAct_7
    rw [hn]
    exact br_t (nI_le (Nat.le_refl _) (by omega)) k) (fun m i hi h => by
    have h : wf_X2_nextToAct_7 p K m (dq_n8 (dq_nx (s p) (i + 1))) (dq_ms (s p) (dq_nx (s p) (i + 1))) (nI (i + 1)) s := h
    show wf_X2_nextToAct_7 p K (m + 1) (dq_n8 (dq_nx (s p) i)) (dq_ms (s p) (dq_nx (s p) i)) (nI i) s
    unfold wf_X2_nextToAct_7
    rw [hn]
    rw [dq_nx_s] at h
    refine br_f (nI_ge hi (by omega)) (kx_lives (by omega) (fun h1 => dq_1 ?_) (fun h1 => dq_0 ?_))
    · rw [if_neg h1] at h
      refine kx_at (by omega) (by decide) (br_c (fun h2 => ?_) (fun h2 => ?_))
      · rw [if_pos h2] at h
        exact nm_r (nI_1 i) h
      · rw [if_neg h2] at h
        refine kx_at (by omega) (by decide) (nm_r (nI_1 i) ?_)
        rw [dq_n8_of (by omega)] at h
        have e : dq_ms (s p) i = s p 19 i := if_neg (by omega)
        rw [e] at h
        exact h
    · rw [if_pos (Classical.not_not.mp h1)] at h
      exact nm_r (nI_1 i) h) (Nat.zero_le n)
  exact q
theorem kx_isLikeC {o : Nat} (hn : s p 13 9 = nI n) (h8 : n ≤ 8) (hc : s o 13 9 = nI n) (he : ∀ i, i < n → s p 14 i = s o 14 i ∧ s p 18 i = s o 18 i) (k : K 1 s) : wf_X2_isLike p o s K := by
  unfold wf_X2_isLike
  refine dq_ls (fun m i => wf_X2_isLike_2 p o K _ m (nI i) s) (fun _ => True) n ?_ ?_
  · intro m h
    show wf_X2_isLike_2 p o K _ (m + 1) (nI n) s
    unfold wf_X2_isLike_2
    rw [hn]
    refine br_t (nI_le (Nat.le_refl _) (by omega)) ?_
    exact ⟨fun g => absurd hc.symm g, fun _ => k⟩
  · intro m i hi hp h
    show wf_X2_isLike_2 p o K _ (m + 1) (nI i) s
    unfold wf_X2_isLike_2
    rw [hn]
    exact br_f (nI_ge hi (by omega)) (kx_at (by omega) (by decide) (kx_at (by omega) (by decide) ⟨fun g => absurd (he i hi).1 g, fun _ => kx_at (by omega) (by decide) (kx_at (by omega) (by decide) (br_t (he i hi).2 (nm_r (nI_1 i) (h trivial))))⟩))
/-! kinds -/
def dq_eff (v : Int32) : Prop := v = 104 ∨ v = 100 ∨ v = 115 ∨ v = 98 ∨ v = 102
theorem dq_eff_c {v : Int32} (h : dq_eff v) : (v.toUInt32 % 65536).toInt32 = v := by
  rcases h with h | h | h | h | h <;> subst h <;> decide
theorem dq_eff_n {v : Int32} (h : dq_eff v) : narrow .char (.int v) = .int v := by
  rcases h with h | h | h | h | h <;> subst h <;> decide
theorem dq_eff_vp {v : Int32} (h : dq_eff v) : vp_nar .char v = v := by
  rcases h with h | h | h | h | h <;> subst h <;> decide
theorem kx_effectOf {d : Nat} (hd : d < 8) (he : dq_eff (s p 10 d)) (k : K (s p 10 d) s) : wf_X3_effectOf p (nI d) s K := by
  unfold wf_X3_effectOf
  refine kx_at hd (by decide) ?_
  show narrow .char (.int ((s p 10 d).toUInt32 % 65536).toInt32) = _ ∧ _
  rw [dq_eff_c he]
  exact ⟨dq_eff_n he, k⟩
theorem kx_isWooden {d : Nat} (hd : d < 8) (k1 : s p 9 d = 1 → K 1 s) (k0 : ¬ s p 9 d = 1 → K 0 s) : wf_X3_isWooden p (nI d) s K := by
  unfold wf_X3_isWooden
  exact kx_at hd (by decide) ⟨k0, k1⟩
end DQK
