/-! the reference's leaf methods -/
def mr_in (a lo hi : Int32) : Prop := ¬ a < lo ∧ ¬ hi < a
theorem mr_in_n {a hi : Int32} {N : Nat} (e : hi.toInt = N) (h : mr_in a 0 hi) : ∃ j, j ≤ N ∧ a = nI j :=
  nI_of2 e h.1 (by
    have := h.2
    rw [Int32.lt_iff_toInt_lt] at this
    rw [Int32.le_iff_toInt_le]
    omega)
def mr_pl (x y : Int32) : Prop := mr_in x 0 11 ∧ mr_in y 0 11
theorem mr_pl_n {x y : Int32} (h : mr_pl x y) : ∃ a b, a < 12 ∧ b < 12 ∧ x = nI a ∧ y = nI b := by
  obtain ⟨a, ha, ea⟩ := mr_in_n (N := 11) rfl h.1
  obtain ⟨b, hb, eb⟩ := mr_in_n (N := 11) rfl h.2
  exact ⟨a, b, by omega, by omega, ea, eb⟩
def mt_pI (n : Nat) : Int32 := if n < 144 then nI (mt_T n) else -1
theorem mt_pI_in {n : Nat} (h : n < 144) : mt_pI n = nI (mt_T n) := if_pos h
theorem mt_pI_out {n : Nat} (h : ¬ n < 144) : mt_pI n = -1 := if_neg h
/-- apart: living creatures are on cells of their own -/
def dq_UA (n : Nat) (w : dq_W) : Prop := ∀ i, i < n → ∀ j, j < n → dq_lv w i → dq_lv w j → dq_pl w i = dq_pl w j → i = j
section DQX
variable {n t l : Nat} {w : dq_W} {s : dk_S} {K : Int32 → dk_S → Prop} {J : dk_S → Prop}
theorem km_in {a lo hi : Int32} (k1 : mr_in a lo hi → K 1 s) (k0 : ¬ mr_in a lo hi → K 0 s) : wf_X9_in a lo hi s K := by
  unfold wf_X9_in
  exact br_c (fun h => k0 fun g => g.1 h) (fun h => br_c (fun h2 => k0 fun g => g.2 h2) (fun h2 => k1 ⟨h, h2⟩))
theorem km_goes0 (h : K 1 (dq_st s 4 60 0 0)) : wf_X9_goesOn 0 s K := by
  unfold wf_X9_goesOn
  exact nm_e (dq_rt rfl h)
theorem km_goesN {v : Int32} (hv : ¬ v = 0) (h : K 0 (dq_st s 4 60 0 v)) : wf_X9_goesOn v s K := by
  unfold wf_X9_goesOn
  exact nm_e (dq_rf hv h)
theorem km_isPlace {x y : Int32} (k1 : mr_pl x y → K 1 s) (k0 : ¬ mr_pl x y → K 0 s) : wf_X9_isPlace x y s K := by
  unfold wf_X9_isPlace
  exact km_in (fun h => dq_1 (km_in (fun h2 => dq_1 (k1 ⟨h, h2⟩)) (fun h2 => dq_0 (k0 fun g => h2 g.2)))) (fun h => dq_0 (k0 fun g => h g.1))
theorem km_at {a b : Nat} (ha : a < 12) (hb : b < 12) (h : K (nI (mt_T (12 * a + b))) s) : wf_X9_at (nI a) (nI b) s K := by
  unfold wf_X9_at
  have e : (12 : Int32) * nI b + nI a = nI (mt_T (12 * a + b)) := by
    have e2 : mt_T (12 * a + b) = 12 * b + a := by unfold mt_T; omega
    rw [e2, show (12 : Int32) = nI 12 from rfl, dq_iN, dq_iN, dq_iN, dq_iN, dq_imul, dq_iadd]; rfl
  rw [e]; exact h
theorem km_xOf {c : Nat} (hc : c < 144) (h : K (nI (c / 12)) s) : wf_X9_xOf (nI (mt_T c)) s K := by
  unfold wf_X9_xOf
  rw [dq_md (mt_T_lt hc), mt_T_m hc]; exact h
theorem km_yOf {c : Nat} (hc : c < 144) (h : K (nI (c % 12)) s) : wf_X9_yOf (nI (mt_T c)) s K := by
  unfold wf_X9_yOf
  rw [dq_dv (mt_T_lt hc), mt_T_d hc]; exact h
/-- a place as it is told: 100 x + y -/
def dq_sp (c : Nat) : Int32 := nI (100 * (c / 12) + c % 12)
theorem km_told {c : Nat} (hc : c < 144) (h : K (dq_sp c) s) : wf_X9_told (nI (mt_T c)) s K := by
  unfold wf_X9_told
  refine km_xOf hc (km_yOf hc ?_)
  have e : (100 : Int32) * nI (c / 12) + nI (c % 12) = dq_sp c := by
    unfold dq_sp
    rw [show (100 : Int32) = nI 100 from rfl, dq_iN, dq_iN, dq_iN, dq_iN, dq_imul, dq_iadd]; rfl
  rw [e]; exact h
theorem km_far {z : Int} (h : z.natAbs ≤ 1000) (k : K (nI z.natAbs) s) : wf_X9_far (dq_iI z) s K := by
  unfold wf_X9_far
  have e0 : (0 : Int32) = dq_iI 0 := rfl
  by_cases g : 0 ≤ z
  · refine br_t (by rw [e0]; exact (dq_ile (by omega) (by omega) (by omega) (by omega)).2 g) ?_
    rw [dq_iN, show ((z.natAbs : Nat) : Int) = z by omega] at k
    exact k
  · refine br_f (by rw [e0]; exact fun q => g ((dq_ile (by omega) (by omega) (by omega) (by omega)).1 q)) ?_
    have e : -(dq_iI z) = dq_iI (-z) := (Int32.ofInt_neg z).symm
    rw [e]
    rw [dq_iN, show ((z.natAbs : Nat) : Int) = -z by omega] at k
    exact k
theorem km_inI {a lo hi : Int} (b1 : a.natAbs ≤ 1000000) (b2 : lo.natAbs ≤ 1000000) (b3 : hi.natAbs ≤ 1000000) : mr_in (dq_iI a) (dq_iI lo) (dq_iI hi) ↔ (lo ≤ a ∧ a ≤ hi) := by
  unfold mr_in
  rw [dq_ilt (by omega) (by omega) (by omega) (by omega), dq_ilt (by omega) (by omega) (by omega) (by omega)]
  omega
theorem km_isPlaceI {a b : Int} (ha : -1 ≤ a ∧ a ≤ 12) (hb : -1 ≤ b ∧ b ≤ 12) (k1 : 0 ≤ a ∧ a < 12 ∧ 0 ≤ b ∧ b < 12 → K 1 s) (k0 : ¬ (0 ≤ a ∧ a < 12 ∧ 0 ≤ b ∧ b < 12) → K 0 s) : wf_X9_isPlace (dq_iI a) (dq_iI b) s K := by
  have e : mr_pl (dq_iI a) (dq_iI b) ↔ (0 ≤ a ∧ a < 12 ∧ 0 ≤ b ∧ b < 12) := by
    have h1 := km_inI (a := a) (lo := 0) (hi := 11) (by omega) (by decide) (by decide)
    have h2 := km_inI (a := b) (lo := 0) (hi := 11) (by omega) (by decide) (by decide)
    constructor
    · rintro ⟨g1, g2⟩
      have := h1.1 g1
      have := h2.1 g2
      omega
    · intro g
      exact ⟨h1.2 (by omega), h2.2 (by omega)⟩
  exact km_isPlace (fun h => k1 (e.1 h)) (fun h => k0 fun g => h (e.2 g))
theorem km_bs {a b : Int} {y0 y1 : Int32} (ha : -1 ≤ a ∧ a ≤ 12) (hb : -1 ≤ b ∧ b ≤ 12) (e : y1 + y0 = dq_iI b) (k1 : 0 ≤ a ∧ a < 12 ∧ 0 ≤ b ∧ b < 12 → K (nI (mt_T (12 * a + b).toNat)) s) (k0 : ¬ (0 ≤ a ∧ a < 12 ∧ 0 ≤ b ∧ b < 12) → K (-1) s) : wf_X9_beside_47 K (dq_iI a) y0 y1 s := by
  unfold wf_X9_beside_47
  refine nm_r e (km_isPlaceI ha hb (fun h => dq_1 ?_) (fun h => dq_0 (k0 h)))
  have ea : dq_iI a = nI a.toNat := by rw [dq_iN]; congr 1; omega
  have eb : dq_iI b = nI b.toNat := by rw [dq_iN]; congr 1; omega
  rw [ea, eb]
  refine km_at (by omega) (by omega) ?_
  have e2 : 12 * a.toNat + b.toNat = (12 * a + b).toNat := by omega
  rw [e2]; exact k1 h
theorem km_beside {c v : Nat} (hc : c < 144) (hv : v < 4) (k : K (mt_pI (dq_nb c v)) s) : wf_X9_beside (nI (mt_T c)) (nI v) s K := by
  unfold wf_X9_beside
  have hn := dq_nb_le c hc v hv
  have z0 : (0 : Int32) = dq_iI 0 := rfl
  have z1 : (1 : Int32) = dq_iI 1 := rfl
  have zm : (-1 : Int32) = dq_iI (-1) := rfl
  have h4 : v = 0 ∨ v = 1 ∨ v = 2 ∨ v = 3 := by omega
  refine km_xOf hc ?_
  rcases h4 with rfl | rfl | rfl | rfl
  · refine dq_rf (by decide) (dq_rf (by decide) ?_)
    unfold wf_X9_beside_23
    refine nm_r (e' := dq_iI ((c / 12 : Nat) : Int)) (by rw [z0, dq_iN, dq_iadd, Int.add_zero]) (km_yOf hc (dq_rf (by decide) (dq_rt rfl (km_bs (b := ((c % 12 : Nat) : Int) - 1) (by omega) (by omega) (by rw [zm, dq_iN, dq_iadd]; rfl) (fun h => ?_) (fun h => ?_)))))
    · have e : dq_nb c 0 = c - 1 := by unfold dq_nb; rw [if_pos rfl, if_neg (by omega)]
      rw [e, mt_pI_in (by omega)] at k
      rw [show (12 * ((c / 12 : Nat) : Int) + (((c % 12 : Nat) : Int) - 1)).toNat = c - 1 by omega]
      exact k
    · have e : dq_nb c 0 = 144 := by unfold dq_nb; rw [if_pos rfl, if_pos (by omega)]
      rw [e, mt_pI_out (by omega)] at k
      exact k
  · refine dq_rt rfl ?_
    unfold wf_X9_beside_23
    refine nm_r (e' := dq_iI (((c / 12 : Nat) : Int) + 1)) (by rw [z1, dq_iN, dq_iadd]) (km_yOf hc (dq_rf (by decide) (dq_rf (by decide) (km_bs (b := ((c % 12 : Nat) : Int)) (by omega) (by omega) (by rw [z0, dq_iN, dq_iadd, Int.add_zero]) (fun h => ?_) (fun h => ?_)))))
    · have e : dq_nb c 1 = c + 12 := by unfold dq_nb; rw [if_neg (by decide), if_pos rfl, if_pos (by omega)]
      rw [e, mt_pI_in (by omega)] at k
      rw [show (12 * (((c / 12 : Nat) : Int) + 1) + ((c % 12 : Nat) : Int)).toNat = c + 12 by omega]
      exact k
    · have e : dq_nb c 1 = 144 := by unfold dq_nb; rw [if_neg (by decide), if_pos rfl, if_neg (by omega)]
      rw [e, mt_pI_out (by omega)] at k
      exact k
  · refine dq_rf (by decide) (dq_rf (by decide) ?_)
    unfold wf_X9_beside_23
    refine nm_r (e' := dq_iI ((c / 12 : Nat) : Int)) (by rw [z0, dq_iN, dq_iadd, Int.add_zero]) (km_yOf hc (dq_rt rfl (km_bs (b := ((c % 12 : Nat) : Int) + 1) (by omega) (by omega) (by rw [z1, dq_iN, dq_iadd]) (fun h => ?_) (fun h => ?_))))
    · have e : dq_nb c 2 = c + 1 := by unfold dq_nb; rw [if_neg (by decide), if_neg (by decide), if_pos rfl, if_neg (by omega)]
      rw [e, mt_pI_in (by omega)] at k
      rw [show (12 * ((c / 12 : Nat) : Int) + (((c % 12 : Nat) : Int) + 1)).toNat = c + 1 by omega]
      exact k
    · have e : dq_nb c 2 = 144 := by unfold dq_nb; rw [if_neg (by decide), if_neg (by decide), if_pos rfl, if_pos (by omega)]
      rw [e, mt_pI_out (by omega)] at k
      exact k
  · refine dq_rf (by decide) (dq_rt rfl ?_)
    unfold wf_X9_beside_23
    refine nm_r (e' := dq_iI (((c / 12 : Nat) : Int) - 1)) (by rw [zm, dq_iN, dq_iadd]; rfl) (km_yOf hc (dq_rf (by decide) (dq_rf (by decide) (km_bs (b := ((c % 12 : Nat) : Int)) (by omega) (by omega) (by rw [z0, dq_iN, dq_iadd, Int.add_zero]) (fun h => ?_) (fun h => ?_)))))
    · have e : dq_nb c 3 = c - 12 := by unfold dq_nb; rw [if_neg (by decide), if_neg (by decide), if_neg (by decide), if_neg (by omega)]
      rw [e, mt_pI_in (by omega)] at k
      rw [show (12 * (((c / 12 : Nat) : Int) - 1) + ((c % 12 : Nat) : Int)).toNat = c - 12 by omega]
      exact k
    · have e : dq_nb c 3 = 144 := by unfold dq_nb; rw [if_neg (by decide), if_neg (by decide), if_neg (by decide), if_pos (by omega)]
      rw [e, mt_pI_out (by omega)] at k
      exact k
theorem km_isFreeKind {v : Int32} (k1 : dq_free v → K 1 s) (k0 : ¬ dq_free v → K 0 s) : wf_X9_isFreeKind v s K := by
  unfold wf_X9_isFreeKind
  refine br_c (fun h => k1 (Or.inl h)) (fun h1 => br_c (fun h => k1 (Or.inr (Or.inl h))) (fun h2 => ⟨fun h3 => k0 ?_, fun h3 => k1 (Or.inr (Or.inr h3))⟩))
  rintro (h | h | h)
  · exact h1 h
  · exact h2 h
  · exact h3 h
theorem km_isFree {c : Nat} (R : mr_R w (s 4)) (hc : c ≤ 144) (k1 : dq_free (dq_sg w c) → K 1 s) (k0 : ¬ dq_free (dq_sg w c) → K 0 s) : wf_X9_isFree (mt_pI c) s K := by
  unfold wf_X9_isFree
  by_cases h : c < 144
  · rw [mt_pI_in h]
    have := mt_T_lt h
    refine br_f (dq_m1' (by omega)) ⟨vp_in_nI this (by decide), ?_⟩
    rw [nI_clamp (by omega), R.r75' h]
    rw [dq_sg_in h] at k1 k0
    exact km_isFreeKind (fun g => dq_1 (k1 g)) (fun g => dq_0 (k0 g))
  · rw [mt_pI_out h]
    refine br_t rfl (k0 fun g => ?_)
    have e : c = 144 := by omega
    subst e
    rw [dq_sg_out] at g
    exact absurd g (by decide)
theorem km_lives {b : Nat} (R : mr_R w (s 4)) (hb : b < 8) (k1 : dq_lv w b → K 1 s) (k0 : ¬ dq_lv w b → K 0 s) : wf_X9_lives (nI b) s K := by
  unfold wf_X9_lives
  refine ⟨vp_in_nI hb (by decide), ?_⟩
  rw [nI_clamp (by omega), R.r77 hb]
  exact br_c (fun h => k0 fun g => g h) (fun h => k1 h)
theorem mr_place {m : dq_W} {b : Nat} (R : mr_R w m) (hP : dq_PL w) (hb : b < 8) : m 76 b = nI (mt_T (dq_pl w b)) := by
  obtain ⟨h1, h2⟩ := hP b hb
  rw [R.r76 hb, h2, mt_V_c h1]
theorem km_livingAt {c : Nat} (R : mr_R w (s 4)) (I : dq_IV n t l w) (U : dq_UA n w) (hc : c < 144) (k : K (dq_n8 (dq_la w c n)) s) : wf_X9_livingAt (nI (mt_T c)) s K := by
  unfold wf_X9_livingAt
  have h8 := I.h8
  exact dq_lp (fun m i x => wf_X9_livingAt_4 K m (nI (mt_T c)) x (nI i) s) (fun i => dq_n8 (dq_la w c i)) n (fun m => by
    show wf_X9_livingAt_4 K (m + 1) (nI (mt_T c)) (dq_n8 (dq_la w c n)) (nI n) s
    unfold wf_X9_livingAt_4
    rw [R.n10, I.hn]
    exact br_t (nI_le (Nat.le_refl _) (by omega)) k) (fun m i hi h => by
    have h : wf_X9_livingAt_4 K m (nI (mt_T c)) (dq_n8 (dq_la w c (i + 1))) (nI (i + 1)) s := h
    show wf_X9_livingAt_4 K (m + 1) (nI (mt_T c)) (dq_n8 (dq_la w c i)) (nI i) s
    unfold wf_X9_livingAt_4
    rw [R.n10, I.hn]
    have e0 : dq_la w c (i + 1) = dq_if (dq_la w c i = 8) (dq_if (dq_lv w i ∧ dq_pl w i = c) i 8) (dq_la w c i) := rfl
    have no : ¬ (dq_lv w i ∧ dq_pl w i = c) → dq_la w c (i + 1) = dq_la w c i := fun g => by
      rw [e0]
      by_cases g2 : dq_la w c i = 8
      · rw [dq_if_t g2, dq_if_f g, g2]
      · rw [dq_if_f g2]
    refine br_f (nI_ge hi (by omega)) (km_lives R (by omega) (fun h1 => dq_1 ⟨vp_in_nI (by omega) (by decide), ?_⟩) (fun h1 => dq_0 ?_))
    · rw [nI_clamp (by omega), mr_place R I.pl (by omega)]
      have hp := (I.pl i (by omega)).1
      refine ⟨fun h2 => ?_, fun h2 => ?_⟩
      · rw [no (fun g => h2 (by rw [g.2]))] at h
        exact nm_r (nI_1 i) h
      · have h3 : dq_pl w i = c := (mt_T_i hp hc).1 ((nI_eq (by have := mt_T_lt hp; omega) (by have := mt_T_lt hc; omega)).1 h2)
        have e1 : dq_la w c (i + 1) = i := dq_la_y (by omega) h1 h3 (fun j hj hl he => by
          have := U i hi j (by omega) h1 hl (by rw [h3, he])
          omega) (i + 1) (by omega)
        rw [e1, dq_n8_of (by omega)] at h
        exact nm_r (nI_1 i) h
    · rw [no (fun g => h1 g.1)] at h
      exact nm_r (nI_1 i) h) (Nat.zero_le n)
theorem km_around {a b : Nat} (ha : a < 144) (hb : b < 144) (k : K (nI (dq_gp a b)) s) : wf_X9_around (nI (mt_T a)) (nI (mt_T b)) s K := by
  unfold wf_X9_around
  refine km_xOf ha (km_xOf hb ?_)
  rw [dq_subN]
  refine km_far (by omega) (km_yOf ha (km_yOf hb ?_))
  rw [dq_subN]
  refine km_far (by omega) ?_
  unfold dq_gp at k
  refine br_c (fun h => ?_) (fun h => ?_)
  · have := (nI_leI (by omega) (by omega)).1 h
    rw [Nat.max_eq_right this] at k; exact k
  · have : ¬ _ := fun g => h ((nI_leI (by omega) (by omega)).2 g)
    rw [Nat.max_eq_left (by omega)] at k; exact k
theorem km_isBeside {a b : Nat} (ha : a < 144) (hb : b < 144) (k1 : dq_nbr a b → K 1 s) (k0 : ¬ dq_nbr a b → K 0 s) : wf_X9_isBeside (nI (mt_T a)) (nI (mt_T b)) s K := by
  unfold wf_X9_isBeside
  refine km_xOf ha (km_xOf hb ?_)
  rw [dq_subN]
  refine km_far (by omega) (km_yOf ha (km_yOf hb ?_))
  rw [dq_subN]
  refine km_far (by omega) ?_
  rw [nI_add]
  have e : ∀ z : Nat, z < 1000 → (nI z = 1 ↔ z = 1) := fun z hz => nI_eq (b := 1) (by omega) (by decide)
  unfold dq_nbr at k1 k0
  exact ⟨fun h => k0 fun g => h ((e _ (by omega)).2 g), fun h => k1 ((e _ (by omega)).1 h)⟩
theorem km_isDoor {v : Int32} (k1 : v = 43 ∨ v = 48 ∨ v = 49 ∨ v = 50 → K 1 s) (k0 : ¬ (v = 43 ∨ v = 48 ∨ v = 49 ∨ v = 50) → K 0 s) : wf_X9_isDoor v s K := by
  unfold wf_X9_isDoor
  have e : mr_in v 48 50 ↔ (v = 48 ∨ v = 49 ∨ v = 50) := by
    unfold mr_in
    have z : ∀ a : Int32, v = a ↔ v.toInt = a.toInt := fun a => Int32.toInt_inj.symm
    rw [z 48, z 49, z 50, Int32.lt_iff_toInt_lt, Int32.lt_iff_toInt_lt]
    have e1 : (48 : Int32).toInt = 48 := rfl
    have e2 : (49 : Int32).toInt = 49 := rfl
    have e3 : (50 : Int32).toInt = 50 := rfl
    rw [e1, e2, e3]
    omega
  refine br_c (fun h => k1 (Or.inl h)) (fun h => km_in (fun g => dq_1 (k1 (Or.inr (e.1 g)))) (fun g => dq_0 (k0 ?_)))
  rintro (q | q)
  · exact h q
  · exact g (e.2 q)
end DQX
