/-! light, names, copies, bones -/
def dq_lpn (w : dq_W) (i : Nat) : Nat := (w 27 i).toNatClampNeg
/-- a lamp that is near enough -/
def dq_ln (w : dq_W) (c i : Nat) : Prop := ¬ w 28 i * w 28 i < dq_iI ((((dq_lpn w i / 12 : Nat) : Int) - (c / 12 : Nat)) * (((dq_lpn w i / 12 : Nat) : Int) - (c / 12 : Nat)) + (((dq_lpn w i % 12 : Nat) : Int) - (c % 12 : Nat)) * (((dq_lpn w i % 12 : Nat) : Int) - (c % 12 : Nat)))
def dq_lit (w : dq_W) (l c : Nat) : Prop := ∃ i, i < l ∧ dq_ln w c i ∧ dq_see w (dq_lpn w i) c
/-- what the hero sees -/
def dq_sn (w : dq_W) (l c : Nat) : Prop := (¬ w 0 8 ≤ 0 ∧ c = dq_pl w 0) ∨ (w 0 8 ≤ 0 ∧ dq_see w (dq_pl w 0) c ∧ (dq_gp (dq_pl w 0) c ≤ 1 ∨ dq_lit w l c))
def dq_uk (w : dq_W) (d : Nat) : Prop := (3 ≤ d ∧ d ≤ 5) ∧ ((w 0 9) >>> (nI d &&& 31)) &&& 1 = 0
def dq_ho (q : Nat) (Q : List Nat) : Prop := q ∈ Q
section DQM
variable {p n t l : Nat} {s : dk_S} {w : dq_W} {K : Int32 → dk_S → Prop} {J : dk_S → Prop}
theorem kw_light {c : Nat} (H : dq_WR w (s p)) (I : dq_IV n t l w) (hc : c < 144) (k1 : dq_lit w l c → K 1 s) (k0 : ¬ dq_lit w l c → K 0 s) : wf_X4_light p (nI c) p s K := by
  unfold wf_X4_light
  have hl4 := I.l4
  refine dq_ls (fun m i => wf_X4_light_2 p p K m (nI c) (nI i) s) (fun i => ¬ (dq_ln w c i ∧ dq_see w (dq_lpn w i) c)) l ?_ ?_
  · intro m h
    show wf_X4_light_2 p p K (m + 1) (nI c) (nI l) s
    unfold wf_X4_light_2
    rw [H.1 26 2 (by decide) (by decide), I.hl]
    exact br_t (nI_le (Nat.le_refl _) (by omega)) (k0 fun ⟨i, hi, g⟩ => h i hi g)
  · intro m i hi hp h
    show wf_X4_light_2 p p K (m + 1) (nI c) (nI i) s
    unfold wf_X4_light_2
    rw [H.1 26 2 (by decide) (by decide), I.hl]
    have hi4 : i < 4 := by omega
    have e27 : s p 27 i = w 27 i := H.1 27 i (Nat.zero_le _) hi4
    have e28 : s p 28 i = w 28 i := H.1 28 i (Nat.zero_le _) hi4
    obtain ⟨q1, q2⟩ := I.lp i hi4
    have q1 : dq_lpn w i < 144 := q1
    have q2 : w 27 i = nI (dq_lpn w i) := q2
    refine br_f (nI_ge hi (by omega)) (kx_at hi4 (by decide) ?_)
    rw [e27, q2]
    refine nm_r (e' := dq_iI (((dq_lpn w i / 12 : Nat) : Int) - (c / 12 : Nat))) (by rw [dq_dv q1, dq_dv hc, dq_subN]) ?_
    refine nm_r (e' := dq_iI (((dq_lpn w i % 12 : Nat) : Int) - (c % 12 : Nat))) (by rw [dq_md q1, dq_md hc, dq_subN]) ?_
    refine kx_at hi4 (by decide) ?_
    rw [e28, dq_imul, dq_imul, dq_iadd]
    refine br_c (fun c1 => nm_r (nI_1 i) (h fun g => g.1 c1)) (fun c1 => kw_see H I.sg q1 hc (fun c2 => dq_1 (k1 ⟨i, hi, c1, c2⟩)) (fun c2 => dq_0 (nm_r (nI_1 i) (h fun g => c2 g.2))))
theorem kw_isSeenByHero {c : Nat} (H : dq_WR w (s p)) (I : dq_IV n t l w) (hc : c < 144) (k1 : dq_sn w l c → K 1 s) (k0 : ¬ dq_sn w l c → K 0 s) : wf_X7_isSeenByHero p (nI c) s K := by
  unfold wf_X7_isSeenByHero
  have hp := (I.pl 0 (by omega)).1
  refine kw_heroSpot H I.pl ?_
  rw [H.f0 (by omega) (by omega)]
  refine br_c (fun c1 => kw_see H I.sg hp hc (fun c2 => dq_1 (kx_gap hp hc (br_c (fun c3 => ?_) (fun c3 => kw_light H I hc (fun c4 => dq_1 ?_) (fun c4 => dq_0 ?_))))) (fun c2 => dq_0 (k0 ?_))) (fun c1 => ⟨fun c2 => k0 ?_, fun c2 => k1 ?_⟩)
  · have := (nI_leI (b := 1) (by unfold dq_gp; omega) (by omega)).1 c3
    exact k1 (Or.inr ⟨c1, c2, Or.inl this⟩)
  · exact k1 (Or.inr ⟨c1, c2, Or.inr c4⟩)
  · refine k0 ?_
    rintro (g | ⟨_, _, g | g⟩)
    · exact g.1 c1
    · exact c3 ((nI_leI (b := 1) (by unfold dq_gp; omega) (by omega)).2 g)
    · exact c4 g
  · rintro (g | g)
    · exact g.1 c1
    · exact c2 g.2.1
  · rintro (g | g)
    · exact c2 (congrArg nI g.2)
    · exact c1 g.1
  · exact Or.inl ⟨c1, (nI_eq (by omega) (by omega)).1 c2⟩
theorem kw_nameOfKind {d o : Nat} (H : dq_WR w (s p)) (hd : d < 8) (ho : w 0 6 = nI o) (ho6 : o < 6) (k1 : dq_uk w d → K (100 + dk_looks (3 * o + d - 3)) s) (k0 : ¬ dq_uk w d → K (nI d) s) : wf_X7_nameOfKind p (nI d) s K := by
  unfold wf_X7_nameOfKind
  have no : ¬ dq_uk w d → wf_X7_nameOfKind_23 p K (nI d) 0 s := by
    intro h
    unfold wf_X7_nameOfKind_23
    exact dq_0 (k0 h)
  refine kx_isPotion hd (fun c1 => dq_1 ?_) (fun c1 => dq_0 (no fun g => c1 g.1))
  rw [H.f0 (by omega) (by omega)]
  refine ⟨fun c2 => no fun g => c2 g.2, fun c2 => ?_⟩
  unfold wf_X7_nameOfKind_23
  refine dq_1 ?_
  have e : ((3 * (s p 0 6)) + nI d) - 3 = nI (3 * o + d - 3) := by
    rw [H.f0 (by omega) (by omega), ho, show (3 : Int32) = nI 3 from rfl, dq_iN, dq_iN, dq_iN, dq_iN, dq_imul, dq_iadd, dq_isub]
    congr 1
    omega
  rw [e]
  unfold wf_X8_at_L
  refine br_f (nI_pos (by omega)) (br_f (nI_ge (b := 18) (by omega) (by decide)) ⟨vp_in_nI (by omega) (by decide), ?_⟩)
  rw [nI_clamp (by omega)]
  exact k1 ⟨c1, c2⟩
/-! copies -/
theorem kx_copyRow {q m o : Nat} (hm : m < 2 ^ 31) (k : ∀ u, (∀ c, c < m → u p q c = s o q c) → (∀ a b, a ≠ p ∨ b ≠ q → u a b = s a b) → J u) : wf_X8_copyRow o q m p q m s J := by
  unfold wf_X8_copyRow
  have e : (if (Int32.ofNat m) < (Int32.ofNat m) then (Int32.ofNat m) else (Int32.ofNat m)) = nI m := by
    by_cases h : Int32.ofNat m < Int32.ofNat m
    · rw [if_pos h]; rfl
    · rw [if_neg h]; rfl
  rw [e, nI_clamp hm]
  refine ⟨nI_pos hm, Nat.le_refl _, Nat.le_refl _, fun _ _ => rfl, nm_e (k _ (fun c hc => ?_) (fun a b hab => dq_row_r hab))⟩
  rw [dq_row_self]
  unfold va_cpy
  rw [if_pos ⟨Nat.zero_le _, by omega⟩]
  congr 1
  omega
/-- rows Q are as another instance has them -/
def dq_cq (s u : dk_S) (p o : Nat) (Q : List Nat) : Prop := dq_fr p s u ∧ (∀ q, q ∈ Q → ∀ k, dq_lo q ≤ k → k < dq_hi q → u p q k = s o q k) ∧ u p 1 5 = -1
theorem dq_cq.row {u v : dk_S} {o q : Nat} {Q : List Nat} (h : dq_cq s u p o Q) (hop : o ≠ p) (hq1 : q ≠ 1) (h1 : ∀ k, dq_lo q ≤ k → k < dq_hi q → v p q k = u o q k) (h2 : ∀ a b, a ≠ p ∨ b ≠ q → v a b = u a b) : dq_cq s v p o (q :: Q) := by
  refine ⟨fun a ha => ?_, fun q' hq k l1 l2 => ?_, by rw [h2 p 1 (Or.inr (Ne.symm hq1))]; exact h.2.2⟩
  · rw [← h.1 a ha]; funext b; exact h2 a b (Or.inl ha)
  · by_cases e : q' = q
    · subst e
      rw [h1 k l1 l2, h.1 o hop]
    · rw [h2 p q' (Or.inr e)]
      rcases List.mem_cons.mp hq with g | g
      · exact absurd g e
      · exact h.2.1 q' g k l1 l2
theorem dq_cq.fld {u : dk_S} {o q k : Nat} {Q : List Nat} (h : dq_cq s u p o Q) (hop : o ≠ p) (hq1 : q ≠ 1) (hlo : dq_lo q = k) (hhi : dq_hi q = k + 1) : dq_cq s (dk_row u p q (upd (u p q) k (u o q k))) p o (q :: Q) :=
  h.row hop hq1 (fun c l1 l2 => by
    have : c = k := by omega
    subst this
    rw [dq_set_row, dq_set_eq]) (fun a b hab => dq_row_r hab)
theorem kx_cp8 {u : dk_S} {o q : Nat} {Q : List Nat} (h : dq_cq s u p o Q) (hop : o ≠ p) (hq1 : q ≠ 1) (hhi : dq_hi q = 8) (k : ∀ v, dq_cq s v p o (q :: Q) → J v) : wf_X8_copyRow o q 8 p q 8 u J :=
  kx_copyRow (by decide) (fun v h1 h2 => k v (h.row hop hq1 (fun c _ l2 => h1 c (by omega)) h2))
theorem kx_copyW {o : Nat} (hop : o ≠ p) (hS : dq_SG (s o)) (k : ∀ u, dq_fr p s u → (∀ q, q ≠ 0 → ∀ k, dq_lo q ≤ k → k < dq_hi q → u p q k = s o q k) → u p 1 5 = -1 → u p 0 5 = 0 → u p 0 7 = 0 → u p 0 8 = 0 → u p 0 9 = 0 → J u) : wf_X7_copy p o s J := by
  unfold wf_X7_copy
  unfold wf_X1_copy
  have e : (if (144 : Int32) < (144 : Int32) then (144 : Int32) else (144 : Int32)) = nI 144 := by decide
  rw [e, nI_clamp (by decide)]
  refine ⟨nI_pos (by decide), Nat.le_refl _, Nat.le_refl _, fun i hi => dq_sgn_fit (hS i hi), nm_e (nm_e ?_)⟩
  generalize hu : dk_row (dk_row s p 2 (va_cpy (s o 2) (s p 2) 0 0 144)) p 1 (upd (dk_row s p 2 (va_cpy (s o 2) (s p 2) 0 0 144) p 1) 5 (-1)) = u
  have h15 : u p 1 5 = -1 := by rw [← hu, dq_set_row, dq_set_eq]
  have h0 : dq_cq s u p o [2] := by
    refine ⟨fun a ha => ?_, fun q hq k l1 l2 => ?_, h15⟩
    · rw [← hu]; funext b; rw [dq_row_r (Or.inl ha), dq_row_r (Or.inl ha)]
    · have : q = 2 := by simpa using hq
      subst this
      have l2 : k < 144 := l2
      rw [← hu, dq_row_r (Or.inr (by decide)), dq_row_self]
      unfold va_cpy
      rw [if_pos ⟨Nat.zero_le _, by omega⟩]
      congr 1
      omega
  clear hu
  unfold wf_X3_copy
  refine kx_cp8 h0 hop (by decide) rfl (fun u1 h1 => kx_cp8 h1 hop (by decide) rfl (fun u2 h2 => kx_cp8 h2 hop (by decide) rfl (fun u3 h3 => kx_cp8 h3 hop (by decide) rfl (fun u4 h4 => kx_cp8 h4 hop (by decide) rfl (fun u5 h5 => ?_)))))
  unfold wf_X2_copy
  refine kx_cp8 h5 hop (by decide) rfl (fun u6 h6 => kx_cp8 h6 hop (by decide) rfl (fun u7 h7 => kx_cp8 h7 hop (by decide) rfl (fun u8 h8 => kx_cp8 h8 hop (by decide) rfl (fun u9 h9 => kx_cp8 h9 hop (by decide) rfl (fun u10 h10 => kx_cp8 h10 hop (by decide) rfl (fun u11 h11 => kx_cp8 h11 hop (by decide) rfl (fun u12 h12 => kx_cp8 h12 hop (by decide) rfl (fun u13 h13 => kx_cp8 h13 hop (by decide) rfl (fun u14 h14 => nm_e ?_)))))))))
  have h15b := h14.fld (q := 13) (k := 9) hop (by decide) rfl rfl
  generalize dk_row u14 p 13 (upd (u14 p 13) 9 (u14 o 13 9)) = u15 at h15b
  unfold wf_X6_copy
  refine kx_copyRow (by decide) (fun u16 a1 a2 => kx_copyRow (by decide) (fun u17 b1 b2 => nm_e ?_))
  have h17 := (h15b.row hop (q := 24) (by decide) (fun c _ l2 => a1 c l2) a2).row hop (q := 25) (by decide) (fun c _ l2 => b1 c l2) b2
  have h18 := h17.fld (q := 23) (k := 2) hop (by decide) rfl rfl
  generalize dk_row u17 p 23 (upd (u17 p 23) 2 (u17 o 23 2)) = u18 at h18
  unfold wf_X4_copy
  refine kx_copyRow (by decide) (fun u19 c1 c2 => kx_copyRow (by decide) (fun u20 d1 d2 => nm_e ?_))
  have h20 := (h18.row hop (q := 27) (by decide) (fun c _ l2 => c1 c l2) c2).row hop (q := 28) (by decide) (fun c _ l2 => d1 c l2) d2
  have h21 := h20.fld (q := 26) (k := 2) hop (by decide) rfl rfl
  generalize dk_row u20 p 26 (upd (u20 p 26) 2 (u20 o 26 2)) = u21 at h21
  intro v1 e1 v2 e2 v3 e3 v4 e4
  have r0 : ∀ k, v4 p 0 k = upd (upd (upd (upd (u21 p 0) 5 0) 7 0) 8 0) 9 0 k := by
    intro k
    rw [e4, dq_row_self, e3, dq_row_self, e2, dq_row_self, e1, dq_row_self]
  have rq : ∀ a b, a ≠ p ∨ b ≠ 0 → v4 a b = u21 a b := by
    intro a b hab
    rw [e4, dq_row_r hab, e3, dq_row_r hab, e2, dq_row_r hab, e1, dq_row_r hab]
  refine k v4 (fun a ha => ?_) (fun q hq k l1 l2 => ?_) ?_ ?_ ?_ ?_ ?_
  · rw [← h21.1 a ha]; funext b; exact rq a b (Or.inl ha)
  · rw [rq p q (Or.inr hq)]
    refine h21.2.1 q ?_ k l1 l2
    have hh : q = 2 ∨ (8 ≤ q ∧ q ≤ 28) := by
      unfold dq_hi at l2
      by_cases g2 : q = 2
      · exact Or.inl g2
      · refine Or.inr ?_
        rw [if_neg hq, if_neg g2] at l2
        by_cases g8 : q < 8
        · rw [if_pos g8] at l2; omega
        · rw [if_neg g8] at l2
          by_cases g28 : q ≤ 28
          · omega
          · repeat rw [if_neg (by omega)] at l2
            omega
    have : q = 2 ∨ q = 8 ∨ q = 9 ∨ q = 10 ∨ q = 11 ∨ q = 12 ∨ q = 13 ∨ q = 14 ∨ q = 15 ∨ q = 16 ∨ q = 17 ∨ q = 18 ∨ q = 19 ∨ q = 20 ∨ q = 21 ∨ q = 22 ∨ q = 23 ∨ q = 24 ∨ q = 25 ∨ q = 26 ∨ q = 27 ∨ q = 28 := by omega
    simp only [List.mem_cons, List.not_mem_nil, or_false]
    omega
  · rw [rq p 1 (Or.inr (by decide))]; exact h21.2.2
  · rw [r0]; rfl
  · rw [r0]; rfl
  · rw [r0]; rfl
  · rw [r0]; rfl
end DQM
