/-! what depends on the relevant rows alone; leaf methods over a world -/
def dq_LP (f : dq_W) : Prop := ∀ k, k < 4 → (f 27 k).toNatClampNeg < 144 ∧ f 27 k = nI (f 27 k).toNatClampNeg
def dq_AM (f : dq_W) : Prop := ∀ k, k < 8 → f 22 k = -1 ∨ ∃ c, c < 144 ∧ f 22 k = nI c
def dq_EF (f : dq_W) : Prop := ∀ k, k < 8 → dq_eff (f 10 k)
def dq_AC (f : dq_W) : Prop := ∃ r : Nat → Nat, ∀ x, x < 24 → dq_bg f x ≠ 24 → r (dq_bg f x) < r x
def dq_IV (n t l : Nat) (w : dq_W) : Prop :=
  (w 13 9 = nI n ∧ 1 ≤ n ∧ n ≤ 8) ∧ (w 23 2 = nI t ∧ t ≤ 24) ∧ (w 26 2 = nI l ∧ l ≤ 4) ∧ dq_SG w ∧ dq_PL w ∧ dq_KD w ∧ dq_LP w ∧ dq_AM w ∧ dq_EF w ∧ dq_TP w t ∧ dq_AC w
section DQIV
variable {n t l : Nat} {w f : dq_W}
theorem dq_IV.hn (I : dq_IV n t l w) : w 13 9 = nI n := I.1.1
theorem dq_IV.h1 (I : dq_IV n t l w) : 1 ≤ n := I.1.2.1
theorem dq_IV.h8 (I : dq_IV n t l w) : n ≤ 8 := I.1.2.2
theorem dq_IV.ht (I : dq_IV n t l w) : w 23 2 = nI t := I.2.1.1
theorem dq_IV.t24 (I : dq_IV n t l w) : t ≤ 24 := I.2.1.2
theorem dq_IV.hl (I : dq_IV n t l w) : w 26 2 = nI l := I.2.2.1.1
theorem dq_IV.l4 (I : dq_IV n t l w) : l ≤ 4 := I.2.2.1.2
theorem dq_IV.sg (I : dq_IV n t l w) : dq_SG w := I.2.2.2.1
theorem dq_IV.pl (I : dq_IV n t l w) : dq_PL w := I.2.2.2.2.1
theorem dq_IV.kd (I : dq_IV n t l w) : dq_KD w := I.2.2.2.2.2.1
theorem dq_IV.lp (I : dq_IV n t l w) : dq_LP w := I.2.2.2.2.2.2.1
theorem dq_IV.am (I : dq_IV n t l w) : dq_AM w := I.2.2.2.2.2.2.2.1
theorem dq_IV.ef (I : dq_IV n t l w) : dq_EF w := I.2.2.2.2.2.2.2.2.1
theorem dq_IV.tp (I : dq_IV n t l w) : dq_TP w t := I.2.2.2.2.2.2.2.2.2.1
theorem dq_IV.ac (I : dq_IV n t l w) : dq_AC w := I.2.2.2.2.2.2.2.2.2.2
theorem dq_Ab.g8 (h : dq_Ab w f) {q k : Nat} (hq : 8 ≤ q ∧ q ≤ 12 ∨ 14 ≤ q ∧ q ≤ 22) (hk : k < 8) : f q k = w q k := by
  refine h q k ?_ ?_
  · unfold dq_lo
    repeat rw [if_neg (by omega)]
    exact Nat.zero_le _
  · unfold dq_hi
    rw [if_neg (by omega), if_neg (by omega), if_neg (by omega)]
    by_cases g : q < 13
    · rw [if_pos g]; exact hk
    · rw [if_neg g, if_neg (by omega), if_pos (by omega)]; exact hk
theorem dq_lv_e (h : dq_Ab w f) {b : Nat} (hb : b < 8) : dq_lv f b = dq_lv w b := by unfold dq_lv; rw [h.g8 (by omega) hb]
theorem dq_wk_e (h : dq_Ab w f) {b : Nat} (hb : b < 8) : dq_wk f b = dq_wk w b := by unfold dq_wk; rw [h.g8 (by omega) hb, h.g8 (by omega) hb]
theorem dq_pl_e (h : dq_Ab w f) {b : Nat} (hb : b < 8) : dq_pl f b = dq_pl w b := by unfold dq_pl; rw [h.g8 (by omega) hb]
theorem dq_PL_e (h : dq_Ab w f) (hP : dq_PL w) : dq_PL f := fun k hk => by
  rw [dq_pl_e h hk, h.g8 (by omega) hk]; exact hP k hk
theorem dq_bg_e (h : dq_Ab w f) {x : Nat} (hx : x < 24) : dq_bg f x = dq_bg w x := by
  unfold dq_bg
  rw [h 25 x (Nat.zero_le _) hx]
theorem dq_TP_e (h : dq_Ab w f) (hP : dq_TP w t) : dq_TP f t := fun x hx => by
  rw [h 25 x (Nat.zero_le _) hx]; exact hP x hx
theorem dq_ou_e (h : dq_Ab w f) (hP : dq_TP w t) (ht : t ≤ 24) : ∀ (j x : Nat), x < 24 → dq_ou f j x = dq_ou w j x
  | 0, _, _ => rfl
  | j + 1, x, hx => by
    rw [dq_ou_s, dq_ou_s, dq_bg_e h hx]
    by_cases g : dq_bg w x = 24
    · rw [if_pos g, if_pos g]
    · rw [if_neg g, if_neg g]
      have := dq_bg_lt hP ht hx g
      exact dq_ou_e h hP ht j _ (by omega)
theorem dq_wi_e (h : dq_Ab w f) (hP : dq_TP w t) (ht : t ≤ 24) {y : Nat} : ∀ (j x : Nat), x < 24 → (dq_wi f y j x ↔ dq_wi w y j x)
  | 0, _, _ => Iff.rfl
  | j + 1, x, hx => by
    show (x = y ∨ (dq_bg f x ≠ 24 ∧ dq_wi f y j (dq_bg f x))) ↔ (x = y ∨ (dq_bg w x ≠ 24 ∧ dq_wi w y j (dq_bg w x)))
    rw [dq_bg_e h hx]
    by_cases g : dq_bg w x = 24
    · rw [g]
      exact ⟨fun q => q.imp_right fun q => absurd rfl q.1, fun q => q.imp_right fun q => absurd rfl q.1⟩
    · have := dq_bg_lt hP ht hx g
      have := dq_wi_e h hP ht (y := y) j (dq_bg w x) (by omega)
      rw [this]
theorem dq_cr_e (h : dq_Ab w f) (hP : dq_TP w t) (ht : t ≤ 24) {x : Nat} (hx : x < 24) : dq_cr f x = dq_cr w x := by
  unfold dq_cr
  rw [dq_ou_e h hP ht 24 x hx, h 25 _ (Nat.zero_le _) (dq_ou_lt hP ht 24 x hx)]
theorem dq_kd_e (h : dq_Ab w f) {x : Nat} (hx : x < 24) : dq_kd f x = dq_kd w x := by
  unfold dq_kd; rw [h 24 x (Nat.zero_le _) hx]
theorem dq_KD_e (h : dq_Ab w f) (hK : dq_KD w) : dq_KD f := fun x hx => by
  rw [dq_kd_e h hx, h 24 x (Nat.zero_le _) hx]; exact hK x hx
theorem dq_wt_e (h : dq_Ab w f) (hK : dq_KD w) {x : Nat} (hx : x < 24) : dq_wt f x = dq_wt w x := by
  unfold dq_wt
  rw [dq_kd_e h hx, h.g8 (by omega) (hK x hx).1]
theorem dq_sum_e {P Q : Nat → Prop} {g k : Nat → Int32} : ∀ i, (∀ j, j < i → (P j ↔ Q j)) → (∀ j, j < i → g j = k j) → dq_sum P g i = dq_sum Q k i
  | 0, _, _ => rfl
  | i + 1, h1, h2 => by
    have ih := dq_sum_e (P := P) (Q := Q) (g := g) (k := k) i (fun j hj => h1 j (by omega)) (fun j hj => h2 j (by omega))
    by_cases c : P i
    · rw [dq_sum_t c, dq_sum_t ((h1 i (by omega)).1 c), ih, h2 i (by omega)]
    · rw [dq_sum_f c, dq_sum_f (fun q => c ((h1 i (by omega)).2 q)), ih]
theorem dq_ms_e (h : dq_Ab w f) {j : Nat} (hj : j ≤ 8) : dq_ms f j = dq_ms w j := by
  unfold dq_ms
  by_cases g : j = 8
  · rw [if_pos g, if_pos g]
  · rw [if_neg g, if_neg g, h.g8 (by omega) (by omega)]
theorem dq_nx_e (h : dq_Ab w f) : ∀ i, i ≤ 8 → dq_nx f i = dq_nx w i
  | 0, _ => rfl
  | i + 1, hi => by
    have ih := dq_nx_e h i (by omega)
    have hl := dq_nx_le (f := w) i (by omega)
    rw [dq_nx_s, dq_nx_s, ih, h.g8 (by omega) (by omega), h.g8 (by omega) (by omega), dq_ms_e h (by omega)]
theorem dq_gain_Ab (h : dq_Ab w f) {i : Nat} (hi : i ≤ 8) : dq_Ab (dq_gain i w) (dq_gain i f) := by
  intro q k h1 h2
  by_cases c : (q = 19 ∨ q = 21) ∧ k < i
  · obtain ⟨c1, c2⟩ := c
    have e18 : f 18 k = w 18 k := h.g8 (by omega) (by omega)
    have e21 : f 21 k = w 21 k := h.g8 (by omega) (by omega)
    rcases c1 with rfl | rfl
    · by_cases g : w 18 k ≤ 0
      · rw [dq_gain_19d g, dq_gain_19d (by rw [e18]; exact g)]; exact h 19 k h1 h2
      · rw [dq_gain_19 c2 g, dq_gain_19 c2 (by rw [e18]; exact g), e21, h.g8 (q := 19) (by omega) (by omega), h.g8 (q := 15) (by omega) (by omega), h.g8 (q := 20) (by omega) (by omega)]
    · rw [dq_gain_21 c2, dq_gain_21 c2, e21]
  · rw [dq_gain_o (by omega), dq_gain_o (by omega)]; exact h q k h1 h2
theorem dq_mv_Ab (h : dq_Ab w f) {a b : Int32} {i : Nat} (hi : i ≤ 24) : dq_Ab (dq_mv a b i w) (dq_mv a b i f) := by
  intro q k h1 h2
  unfold dq_mv
  by_cases c : q = 25 ∧ k < i
  · have e : f 25 k = w 25 k := h 25 k (Nat.zero_le _) (show k < 24 by omega)
    rw [e]
    by_cases g : q = 25 ∧ k < i ∧ w 25 k = a
    · rw [if_pos g, if_pos g]
    · rw [if_neg g, if_neg g]; exact h q k h1 h2
  · rw [if_neg (fun g => c ⟨g.1, g.2.1⟩), if_neg (fun g => c ⟨g.1, g.2.1⟩)]; exact h q k h1 h2
/-- the first living creature at a cell, among i; 8: nobody -/
noncomputable def dq_la (f : dq_W) (c : Nat) : Nat → Nat
  | 0 => 8
  | i + 1 => dq_if (dq_la f c i = 8) (dq_if (dq_lv f i ∧ dq_pl f i = c) i 8) (dq_la f c i)
theorem dq_la_n {f : dq_W} {c : Nat} : ∀ i, (∀ j, j < i → dq_lv f j → dq_pl f j ≠ c) → dq_la f c i = 8
  | 0, _ => rfl
  | i + 1, h => by
    have ih := dq_la_n (f := f) (c := c) i (fun j hj => h j (by omega))
    show dq_if (dq_la f c i = 8) (dq_if (dq_lv f i ∧ dq_pl f i = c) i 8) (dq_la f c i) = 8
    rw [dq_if_t ih, dq_if_f (fun g => h i (by omega) g.1 g.2)]
theorem dq_la_y {f : dq_W} {c k : Nat} (hk : k < 8) (h1 : dq_lv f k) (h2 : dq_pl f k = c) (h3 : ∀ j, j < k → dq_lv f j → dq_pl f j ≠ c) : ∀ i, k < i → dq_la f c i = k
  | 0, h => absurd h (Nat.not_lt_zero _)
  | i + 1, h => by
    show dq_if (dq_la f c i = 8) (dq_if (dq_lv f i ∧ dq_pl f i = c) i 8) (dq_la f c i) = k
    by_cases e : k = i
    · subst e
      rw [dq_if_t (dq_la_n k h3), dq_if_t ⟨h1, h2⟩]
    · have ih := dq_la_y hk h1 h2 h3 i (by omega)
      rw [dq_if_f (by omega), ih]
theorem dq_la_s {f : dq_W} {c : Nat} : ∀ i, i ≤ 8 → dq_la f c i = 8 ∨ (dq_la f c i < i ∧ dq_lv f (dq_la f c i) ∧ dq_pl f (dq_la f c i) = c)
  | 0, _ => Or.inl rfl
  | i + 1, h => by
    have e0 : dq_la f c (i + 1) = dq_if (dq_la f c i = 8) (dq_if (dq_lv f i ∧ dq_pl f i = c) i 8) (dq_la f c i) := rfl
    rcases dq_la_s (f := f) (c := c) i (by omega) with g | ⟨g1, g2⟩
    · rw [e0, dq_if_t g]
      by_cases q : dq_lv f i ∧ dq_pl f i = c
      · rw [dq_if_t q]; exact Or.inr ⟨by omega, q⟩
      · rw [dq_if_f q]; exact Or.inl rfl
    · rw [e0, dq_if_f (by omega)]
      exact Or.inr ⟨by omega, g2⟩
/-- gaps, neighbours -/
def dq_gp (a b : Nat) : Nat := max (((a / 12 : Nat) : Int) - (b / 12 : Nat)).natAbs (((a % 12 : Nat) : Int) - (b % 12 : Nat)).natAbs
def dq_nbr (a b : Nat) : Prop := (((a / 12 : Nat) : Int) - (b / 12 : Nat)).natAbs + (((a % 12 : Nat) : Int) - (b % 12 : Nat)).natAbs = 1
end DQIV
theorem dq_sq1 : ∀ x, x < 12 → ∀ y, y < 12 → (x * x + y * y = 1 ↔ x + y = 1) := by decide
section DQW
variable {p n t l : Nat} {s : dk_S} {w : dq_W} {K : Int32 → dk_S → Prop} {J : dk_S → Prop}
theorem kx_gap {a b : Nat} (ha : a < 144) (hb : b < 144) (k : K (nI (dq_gp a b)) s) : wf_X8_gap (nI a) (nI b) s K := by
  unfold wf_X8_gap
  refine nm_r (e' := nI (((a / 12 : Nat) : Int) - (b / 12 : Nat)).natAbs) (by rw [dq_dv ha, dq_dv hb, dq_subN, dq_absI (by omega)]) ?_
  refine nm_r (e' := nI (((a % 12 : Nat) : Int) - (b % 12 : Nat)).natAbs) (by rw [dq_md ha, dq_md hb, dq_subN, dq_absI (by omega)]) ?_
  rw [dq_maxI (by omega) (by omega)]
  exact k
theorem kx_areNeighbours {a b : Nat} (ha : a < 144) (hb : b < 144) (k1 : dq_nbr a b → K 1 s) (k0 : ¬ dq_nbr a b → K 0 s) : wf_X8_areNeighbours (nI a) (nI b) s K := by
  unfold wf_X8_areNeighbours
  refine nm_r (e' := dq_iI (((a / 12 : Nat) : Int) - (b / 12 : Nat))) (by rw [dq_dv ha, dq_dv hb, dq_subN]) ?_
  refine nm_r (e' := dq_iI (((a % 12 : Nat) : Int) - (b % 12 : Nat))) (by rw [dq_md ha, dq_md hb, dq_subN]) ?_
  have b1 := dq_mulb (x := ((a / 12 : Nat) : Int) - (b / 12 : Nat)) (y := ((a / 12 : Nat) : Int) - (b / 12 : Nat)) (by omega) (by omega)
  have b2 := dq_mulb (x := ((a % 12 : Nat) : Int) - (b % 12 : Nat)) (y := ((a % 12 : Nat) : Int) - (b % 12 : Nat)) (by omega) (by omega)
  have e1 : dq_iI (((a / 12 : Nat) : Int) - (b / 12 : Nat)) * dq_iI (((a / 12 : Nat) : Int) - (b / 12 : Nat)) + dq_iI (((a % 12 : Nat) : Int) - (b % 12 : Nat)) * dq_iI (((a % 12 : Nat) : Int) - (b % 12 : Nat)) = 1 ↔ dq_nbr a b := by
    rw [dq_imul, dq_imul, dq_iadd, show (1 : Int32) = dq_iI 1 from rfl, dq_ieq (by omega) (by omega) (by omega) (by omega)]
    rw [← Int.natAbs_mul_self, ← Int.natAbs_mul_self (a := ((a % 12 : Nat) : Int) - (b % 12 : Nat))]
    have := dq_sq1 (((a / 12 : Nat) : Int) - (b / 12 : Nat)).natAbs (by omega) (((a % 12 : Nat) : Int) - (b % 12 : Nat)).natAbs (by omega)
    unfold dq_nbr
    rw [← this]
    omega
  exact ⟨fun h => k0 fun g => h (e1.2 g), fun h => k1 (e1.1 h)⟩
theorem kx_isPotion {d : Nat} (hd : d < 8) (k1 : 3 ≤ d ∧ d ≤ 5 → K 1 s) (k0 : ¬ (3 ≤ d ∧ d ≤ 5) → K 0 s) : wf_X8_isPotion (nI d) s K := by
  unfold wf_X8_isPotion
  refine br_c (fun h => k0 fun g => ?_) (fun h => br_c (fun h2 => k0 fun g => ?_) (fun h2 => k1 ⟨?_, ?_⟩))
  · have := (nI_ltI (a := d) (b := 3) (by omega) (by omega)).1 h; omega
  · have := (nI_ltI (a := 5) (b := d) (by omega) (by omega)).1 h2; omega
  · exact Nat.le_of_not_lt fun g => h ((nI_ltI (a := d) (b := 3) (by omega) (by omega)).2 g)
  · exact Nat.le_of_not_lt fun g => h2 ((nI_ltI (a := 5) (b := d) (by omega) (by omega)).2 g)
theorem kw_lives {b : Nat} (H : dq_WR w (s p)) (hb : b < 8) (k1 : dq_lv w b → K 1 s) (k0 : ¬ dq_lv w b → K 0 s) : wf_X2_lives p (nI b) s K := by
  rw [← dq_lv_e H.1 hb] at k1 k0
  exact kx_lives hb k1 k0
theorem kw_isWeak {b : Nat} (H : dq_WR w (s p)) (hb : b < 8) (k1 : dq_wk w b → K 1 s) (k0 : ¬ dq_wk w b → K 0 s) : wf_X2_isWeak p (nI b) s K := by
  rw [← dq_wk_e H.1 hb] at k1 k0
  exact kx_isWeak hb k1 k0
theorem kw_put {q k m : Nat} {v : Int32} (H : dq_WR w (s p)) (hk : k < m) (hm : m < 2 ^ 31) (hq : q ≠ 1 ∧ q ≠ 2 ∧ q ≠ 6) (k1 : ∀ u, dq_WR (dq_set w q k v) (u p) → dq_fr p s u → J u) : wf_X8_put p q m (nI k) v s J :=
  kx_put hk hm (k1 _ (by rw [dq_st_p]; exact H.set hq) dq_st_fr)
theorem kw_put8 {q k : Nat} {v : Int32} (H : dq_WR w (s p)) (hk : k < 8) (hq : 8 ≤ q ∧ q ≤ 12 ∨ 14 ≤ q ∧ q ≤ 22) (k1 : ∀ u, dq_WR (dq_set w q k v) (u p) → dq_fr p s u → J u) : wf_X8_put p q 8 (nI k) v s J :=
  kw_put H hk (by decide) (by omega) k1
theorem kw_at8 {q k : Nat} (H : dq_WR w (s p)) (hk : k < 8) (hq : 8 ≤ q ∧ q ≤ 12 ∨ 14 ≤ q ∧ q ≤ 22) (k1 : K (w q k) s) : wf_X8_at p q 8 (nI k) s K := by
  rw [← H.1.g8 hq hk] at k1
  exact kx_at hk (by decide) k1
theorem kw_at24 {q k : Nat} (H : dq_WR w (s p)) (hk : k < 24) (hq : q = 24 ∨ q = 25) (k1 : K (w q k) s) : wf_X8_at p q 24 (nI k) s K := by
  have e : s p q k = w q k := by
    rcases hq with rfl | rfl
    · exact H.1 24 k (Nat.zero_le _) hk
    · exact H.1 25 k (Nat.zero_le _) hk
  rw [← e] at k1
  exact kx_at hk (by decide) k1
theorem kw_harm {b : Nat} {v : Int32} (H : dq_WR w (s p)) (hb : b < 8) (k : ∀ u, dq_WR (dq_set w 18 b (w 18 b - v)) (u p) → dq_fr p s u → J u) : wf_X2_harm p (nI b) v s J := by
  unfold wf_X2_harm
  exact kw_at8 H hb (by omega) (kw_put8 H hb (by omega) k)
theorem kw_heal {b : Nat} {v : Int32} (H : dq_WR w (s p)) (hb : b < 8) (k : ∀ u, dq_WR (dq_set w 18 b (if w 18 b + v < w 17 b then w 18 b + v else w 17 b)) (u p) → dq_fr p s u → J u) : wf_X2_heal p (nI b) v s J := by
  unfold wf_X2_heal
  exact kw_at8 H hb (by omega) (kw_at8 H hb (by omega) (kw_put8 H hb (by omega) k))
theorem kw_hasten {b : Nat} {v : Int32} (H : dq_WR w (s p)) (hb : b < 8) (k : ∀ u, dq_WR (dq_set (dq_set w 20 b v) 21 b 12) (u p) → dq_fr p s u → J u) : wf_X2_hasten p (nI b) v s J := by
  unfold wf_X2_hasten
  exact kw_put8 H hb (by omega) (fun u h1 h2 => kw_put8 h1 hb (by omega) (fun u2 h3 h4 => k u2 h3 (h2.tr h4)))
theorem kw_spendTurn {b : Nat} (H : dq_WR w (s p)) (hb : b < 8) (k : ∀ u, dq_WR (dq_set w 19 b (w 19 b - 12)) (u p) → dq_fr p s u → J u) : wf_X2_spendTurn p (nI b) s J := by
  unfold wf_X2_spendTurn
  exact kw_at8 H hb (by omega) (kw_put8 H hb (by omega) k)
theorem kw_heroSpot (H : dq_WR w (s p)) (hP : dq_PL w) (k : K (nI (dq_pl w 0)) s) : wf_X7_heroSpot p s K := by
  unfold wf_X7_heroSpot
  refine kw_at8 (k := 0) H (by omega) (by omega) ?_
  rw [(hP 0 (by omega)).2]; exact k
theorem kw_livingAt {c : Nat} (H : dq_WR w (s p)) (I : dq_IV n t l w) (hc : c ≤ 144) (k : K (dq_n8 (dq_la w c n)) s) : wf_X2_livingAt p (dq_pI c) s K := by
  have h8 := I.h8
  have hP := I.pl
  have e : ∀ i, i < n → (s p 14 i = dq_pI c ↔ dq_pl w i = c) := fun i hi => by
    rw [H.1.g8 (by omega) (by omega), (hP i (by omega)).2]
    have hp := (hP i (by omega)).1
    by_cases g : c < 144
    · rw [dq_pI_in g, nI_eq (by omega) (by omega)]
    · have : c = 144 := by omega
      subst this
      exact ⟨fun q => absurd q (dq_m1' (by omega)), fun q => by omega⟩
  refine kx_livingAt (n := n) (by rw [H.1 13 9 (by decide) (by decide)]; exact I.hn) h8 (fun i hi h1 h2 h3 => ?_) (fun h => ?_)
  · rw [dq_lv_e H.1 (by omega)] at h1
    rw [e i hi] at h2
    have := dq_la_y (by omega) h1 h2 (fun j hj hl => by
      have := h3 j hj (by rw [dq_lv_e H.1 (by omega)]; exact hl)
      rwa [ne_eq, e j (by omega)] at this) n hi
    rw [this, dq_n8_of (by omega)] at k
    exact k
  · have := dq_la_n (f := w) (c := c) n (fun j hj hl => by
      have := h j hj (by rw [dq_lv_e H.1 (by omega)]; exact hl)
      rwa [ne_eq, e j (by omega)] at this)
    rw [this] at k
    exact k
theorem kw_signAt {c : Nat} (H : dq_WR w (s p)) (hS : dq_SG w) (hc : c ≤ 144) (k : K (dq_sg w c) s) : wf_X1_signAt p (dq_pI c) s K := by
  rw [← dq_sg_e H.1] at k
  exact kx_signAt (dq_SG_e H.1 hS) hc k
theorem kw_isFreeAt {c : Nat} (H : dq_WR w (s p)) (hS : dq_SG w) (hc : c ≤ 144) (k1 : dq_free (dq_sg w c) → K 1 s) (k0 : ¬ dq_free (dq_sg w c) → K 0 s) : wf_X1_isFreeAt p (dq_pI c) s K := by
  rw [← dq_sg_e H.1] at k1 k0
  exact kx_isFreeAt (dq_SG_e H.1 hS) hc k1 k0
theorem kw_see {a b : Nat} (H : dq_WR w (s p)) (hS : dq_SG w) (ha : a < 144) (hb : b < 144) (k1 : dq_see w a b → K 1 s) (k0 : ¬ dq_see w a b → K 0 s) : wf_X1_seeEachOther p (nI a) (nI b) s K := by
  rw [← dq_see_e H.1] at k1 k0
  exact kx_see (dq_SG_e H.1 hS) ha hb k1 k0
theorem kw_change {c : Nat} {v : Int32} (H : dq_WR w (s p)) (hc : c < 144) (hv : dq_sgn v) (k : ∀ u, dq_WR (dq_set w 2 c v) (u p) → dq_fr p s u → J u) : wf_X1_change p (dq_pI c) v s J :=
  kx_change hc hv (k _ (by rw [dq_st_p, dq_st_p]; exact H.sgn) (dq_st_fr.tr dq_st_fr))
theorem kw_fld {k : Nat} {v : Int32} (H : dq_WR w (s p)) (k1 : ∀ u, dq_WR (dq_set w 0 k v) (u p) → dq_fr p s u → J u) : ∀ u, u = dk_row s p 0 (upd (s p 0) k v) → J u := by
  intro u e
  subst e
  exact k1 _ (by rw [dq_set_row]; exact H.set (by omega)) dq_row_fr
theorem dq_WR.f0 (H : dq_WR w (s p)) {k : Nat} (h1 : 5 ≤ k) (h2 : k < 10) : s p 0 k = w 0 k := H.1 0 k h1 h2
theorem kw_gainEnergy (H : dq_WR w (s p)) (I : dq_IV n t l w) (k : ∀ u, dq_WR (dq_gain n w) (u p) → dq_fr p s u → J u) : wf_X2_gainEnergy p s J := by
  refine kx_gainEnergy (n := n) (by rw [H.1 13 9 (by decide) (by decide)]; exact I.hn) I.h8 (fun u h1 h2 => k u ?_ h2)
  rw [h1]
  exact ⟨dq_gain_Ab H.1 I.h8, H.2.same (dq_gain_o (by omega)) (fun c _ => dq_gain_o (by omega)) (fun c _ => dq_gain_o (by omega))⟩
theorem kw_moveAll {a b : Int32} (H : dq_WR w (s p)) (I : dq_IV n t l w) (k : ∀ u, dq_WR (dq_mv a b t w) (u p) → dq_fr p s u → J u) : wf_X6_moveAll p a b s J := by
  refine kx_moveAll (t := t) I.t24 (by rw [H.1 23 2 (by decide) (by decide)]; exact I.ht) (fun u h1 h2 => k u ?_ h2)
  rw [h1]
  exact ⟨dq_mv_Ab H.1 I.t24, H.2.same (dq_mv_o (by omega)) (fun c _ => dq_mv_o (by omega)) (fun c _ => dq_mv_o (by omega))⟩
theorem kw_nextToAct (H : dq_WR w (s p)) (I : dq_IV n t l w) (k : K (dq_n8 (dq_nx w n)) s) : wf_X2_nextToAct p s K := by
  rw [← dq_nx_e H.1 n I.h8] at k
  exact kx_nextToAct (by rw [H.1 13 9 (by decide) (by decide)]; exact I.hn) I.h8 k
theorem kw_outerPlace {x : Nat} (H : dq_WR w (s p)) (I : dq_IV n t l w) (hx : x < 24) (k : K (w 25 (dq_ou w 24 x)) s) : wf_X6_outerPlace p (nI x) s K := by
  refine kx_outerPlace (dq_TP_e H.1 I.tp) I.t24 hx ?_
  rw [dq_ou_e H.1 I.tp I.t24 24 x hx, H.1 25 _ (Nat.zero_le _) (dq_ou_lt I.tp I.t24 24 x hx)]
  exact k
theorem kw_isWithin {x y : Nat} (H : dq_WR w (s p)) (I : dq_IV n t l w) (hx : x < 24) (hy : y < 24) (k1 : dq_wi w y 24 x → K 1 s) (k0 : ¬ dq_wi w y 24 x → K 0 s) : wf_X6_isWithin p (nI x) (nI y) s K := by
  rw [← dq_wi_e H.1 I.tp I.t24 24 x hx] at k1 k0
  exact kx_isWithin (dq_TP_e H.1 I.tp) I.t24 hx hy k1 k0
/-- what is carried weighs -/
noncomputable def dq_cw (w : dq_W) (t : Nat) : Int32 := dq_sum (dq_cr w) (dq_wt w) t
theorem kw_carriedWeight (H : dq_WR w (s p)) (I : dq_IV n t l w) (k : K (dq_cw w t) s) : wf_X6_carriedWeight p p s K := by
  refine kx_carriedWeight (dq_TP_e H.1 I.tp) (dq_KD_e H.1 I.kd) I.t24 (by rw [H.1 23 2 (by decide) (by decide)]; exact I.ht) ?_
  have ht := I.t24
  rw [dq_sum_e (Q := dq_cr w) (k := dq_wt w) t (fun j hj => by rw [dq_cr_e H.1 I.tp I.t24 (by omega)]) (fun j hj => dq_wt_e H.1 I.kd (by omega))]
  exact k
theorem kw_wholeWeight {x : Nat} (hx : x < 24) (H : dq_WR w (s p)) (I : dq_IV n t l w) (k : K (dq_sum (fun i => dq_wi w x 24 i) (dq_wt w) t) s) : wf_X6_wholeWeight p (nI x) p s K := by
  refine kx_wholeWeight hx (dq_TP_e H.1 I.tp) (dq_KD_e H.1 I.kd) I.t24 (by rw [H.1 23 2 (by decide) (by decide)]; exact I.ht) ?_
  have ht := I.t24
  rw [dq_sum_e (Q := fun i => dq_wi w x 24 i) (k := dq_wt w) t (fun j hj => dq_wi_e H.1 I.tp I.t24 24 j (by omega)) (fun j hj => dq_wt_e H.1 I.kd (by omega))]
  exact k
theorem kw_countAt {v : Int32} (H : dq_WR w (s p)) (I : dq_IV n t l w) (k : K (dq_sum (fun i => w 25 i = v) (fun _ => 1) t) s) : wf_X6_countAt p v s K := by
  have ht := I.t24
  refine kx_countAt I.t24 (by rw [H.1 23 2 (by decide) (by decide)]; exact I.ht) ?_
  rw [dq_sum_e (Q := fun i => w 25 i = v) (k := fun _ => 1) t (fun j hj => by rw [H.1 25 j (Nat.zero_le _) (show j < 24 by omega)]) (fun j hj => rfl)]
  exact k
theorem kw_hasInHands {v : Int32} (H : dq_WR w (s p)) (I : dq_IV n t l w) (k1 : (∃ i, i < t ∧ w 24 i = v ∧ w 25 i = -1) → K 1 s) (k0 : ¬ (∃ i, i < t ∧ w 24 i = v ∧ w 25 i = -1) → K 0 s) : wf_X6_hasInHands p v s K := by
  have ht := I.t24
  have e : (∃ i, i < t ∧ s p 24 i = v ∧ s p 25 i = -1) ↔ (∃ i, i < t ∧ w 24 i = v ∧ w 25 i = -1) := by
    refine exists_congr fun i => and_congr_right fun hi => ?_
    rw [H.1 24 i (Nat.zero_le _) (show i < 24 by omega), H.1 25 i (Nat.zero_le _) (show i < 24 by omega)]
  rw [← e] at k1 k0
  exact kx_hasInHands I.t24 (by rw [H.1 23 2 (by decide) (by decide)]; exact I.ht) k1 k0
theorem kw_isCarriedKey {v : Int32} (H : dq_WR w (s p)) (I : dq_IV n t l w) (k1 : (∃ i, i < t ∧ w 24 i = v ∧ dq_cr w i) → K 1 s) (k0 : ¬ (∃ i, i < t ∧ w 24 i = v ∧ dq_cr w i) → K 0 s) : wf_X6_isCarriedKey p v s K := by
  have ht := I.t24
  have e : (∃ i, i < t ∧ s p 24 i = v ∧ dq_cr (s p) i) ↔ (∃ i, i < t ∧ w 24 i = v ∧ dq_cr w i) := by
    refine exists_congr fun i => and_congr_right fun hi => ?_
    rw [H.1 24 i (Nat.zero_le _) (show i < 24 by omega), dq_cr_e H.1 I.tp I.t24 (by omega)]
  rw [← e] at k1 k0
  exact kx_isCarriedKey (dq_TP_e H.1 I.tp) I.t24 (by rw [H.1 23 2 (by decide) (by decide)]; exact I.ht) k1 k0
theorem kw_effectOf {d : Nat} (H : dq_WR w (s p)) (I : dq_IV n t l w) (hd : d < 8) (k : K (w 10 d) s) : wf_X3_effectOf p (nI d) s K := by
  rw [← H.1.g8 (by omega) hd] at k
  exact kx_effectOf hd (by rw [H.1.g8 (by omega) hd]; exact I.ef d hd) k
theorem kw_isWooden {d : Nat} (H : dq_WR w (s p)) (hd : d < 8) (k1 : w 9 d = 1 → K 1 s) (k0 : ¬ w 9 d = 1 → K 0 s) : wf_X3_isWooden p (nI d) s K := by
  rw [← H.1.g8 (by omega) hd] at k1 k0
  exact kx_isWooden hd k1 k0
end DQW
