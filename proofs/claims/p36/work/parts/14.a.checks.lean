/-! the keep's own tests of what it is given -/
theorem mr_lt_le {a b : Int32} : ¬ b < a ↔ a ≤ b := by
  rw [Int32.lt_iff_toInt_lt, Int32.le_iff_toInt_le]; omega
theorem mr_12 {a : Int32} : 12 ≤ a ↔ 11 < a := by
  rw [Int32.lt_iff_toInt_lt, Int32.le_iff_toInt_le]
  have h1 : (12 : Int32).toInt = 12 := rfl
  have h2 : (11 : Int32).toInt = 11 := rfl
  omega
theorem mr_12' {a : Int32} : a < 12 ↔ ¬ 11 < a := by
  rw [Int32.lt_iff_toInt_lt, Int32.lt_iff_toInt_lt]
  have h1 : (12 : Int32).toInt = 12 := rfl
  have h2 : (11 : Int32).toInt = 11 := rfl
  omega
theorem mr_cr_iff {n lo : Nat} (h8 : n ≤ 1000) (hl : lo ≤ 1000) {a : Int32} : mr_cr n lo a ↔ ¬ a < nI lo ∧ a < nI n := by
  constructor
  · rintro ⟨c, h1, h2, rfl⟩
    exact ⟨nI_nlt h1 (by omega), nI_lt h2 (by omega)⟩
  · rintro ⟨h1, h2⟩
    have h0 : ¬ a < 0 := fun q => h1 (by
      rw [Int32.lt_iff_toInt_lt] at q ⊢
      rw [nI_toInt (by omega)]
      have : (0 : Int32).toInt = 0 := rfl
      omega)
    obtain ⟨j, hj, rfl⟩ := nI_of h0
    refine ⟨j, ?_, (nI_ltI hj (by omega)).1 h2, rfl⟩
    exact Nat.le_of_not_lt fun q => h1 (nI_lt q (by omega))
theorem mr_th_iff {t : Nat} (h8 : t ≤ 1000) {a : Int32} : mr_th t a ↔ ¬ a < 0 ∧ a < nI t := by
  have := mr_cr_iff (n := t) (lo := 0) h8 (by omega) (a := a)
  constructor
  · rintro ⟨x, h1, h2⟩; exact this.1 ⟨x, Nat.zero_le _, h1, h2⟩
  · intro h
    obtain ⟨x, _, h1, h2⟩ := this.2 h
    exact ⟨x, h1, h2⟩
section DZC
variable {s : dk_S} {J : dk_S → Prop} {X : String → dk_S → Prop} {n t l : Nat} {w : dq_W}
theorem kz_checkPlace {x y : Int32} (k1 : mr_pl x y → J s) (k0 : ¬ mr_pl x y → X "java/lang/IndexOutOfBoundsException" s) : wf_X8_checkPlace x y s J X := by
  unfold wf_X8_checkPlace
  exact br_c (fun h => k0 fun g => g.1.1 h) (fun h1 => br_c (fun h => k0 fun g => g.1.2 (mr_12.1 h)) (fun h2 => br_c (fun h => k0 fun g => g.2.1 h) (fun h3 => br_c (fun h => k1 ⟨⟨h1, fun q => h2 (mr_12.2 q)⟩, h3, mr_12'.1 h⟩) (fun h => k0 fun g => h (mr_12'.2 g.2.2)))))
theorem kz_checkRange {x lo hi : Int32} (k1 : mr_in x lo hi → J s) (k0 : ¬ mr_in x lo hi → X "java/lang/IllegalArgumentException" s) : wf_X8_checkRange x lo hi s J X := by
  unfold wf_X8_checkRange
  exact br_c (fun h => k0 fun g => g.1 h) (fun h1 => br_c (fun h => k1 ⟨h1, mr_lt_le.2 h⟩) (fun h => k0 fun g => h (mr_lt_le.1 g.2)))
theorem kz_checkWay {x : Int32} (k1 : mr_in x 0 3 → J s) (k0 : ¬ mr_in x 0 3 → X "java/lang/IllegalArgumentException" s) : wf_X8_checkWay x s J X := by
  unfold wf_X8_checkWay
  exact kz_checkRange k1 k0
theorem kz_checkNoWorld (k1 : ¬ s 0 40 5 = 111 → J s) (k0 : s 0 40 5 = 111 → X "java/lang/IllegalStateException" s) : wf_X8_checkNoWorld s J X := by
  unfold wf_X8_checkNoWorld
  exact ⟨k1, k0⟩
theorem kz_checkWorld (k1 : s 0 40 5 = 111 → J s) (k0 : ¬ s 0 40 5 = 111 → X "java/lang/IllegalStateException" s) : wf_X8_checkWorld s J X := by
  unfold wf_X8_checkWorld
  exact ⟨k1, k0⟩
theorem kz_checkRoom {c m : Nat} (hc : c ≤ 1000) (hm : m ≤ 1000) (k1 : c < m → J s) (k0 : ¬ c < m → X "java/lang/IllegalStateException" s) : wf_X8_checkRoom (nI c) (nI m) s J X := by
  unfold wf_X8_checkRoom
  exact ⟨fun h => k1 ((nI_ltI (by omega) (by omega)).1 h), fun h => k0 fun q => h ((nI_ltI (by omega) (by omega)).2 q)⟩
theorem kz_checkThing {x : Int32} (ht : s 1 23 2 = nI t) (t24 : t ≤ 24) (k1 : mr_th t x → J s) (k0 : ¬ mr_th t x → X "java/lang/IndexOutOfBoundsException" s) : wf_X8_checkThing x s J X := by
  unfold wf_X8_checkThing
  rw [ht]
  have e := mr_th_iff (t := t) (by omega) (a := x)
  exact br_c (fun h => k0 fun g => (e.1 g).1 h) (fun h1 => br_c (fun h => k1 (e.2 ⟨h1, h⟩)) (fun h => k0 fun g => h (e.1 g).2))
theorem kz_checkCreature {x : Int32} {lo : Nat} (hl : lo ≤ 1) (hn : s 1 13 9 = nI n) (n8 : n ≤ 8) (k1 : mr_cr n lo x → J s) (k0 : ¬ mr_cr n lo x → X "java/lang/IndexOutOfBoundsException" s) : wf_X8_checkCreature x (nI lo) s J X := by
  unfold wf_X8_checkCreature
  rw [hn]
  have e := mr_cr_iff (n := n) (lo := lo) (by omega) (by omega) (a := x)
  exact br_c (fun h => k0 fun g => (e.1 g).1 h) (fun h1 => br_c (fun h => k1 (e.2 ⟨h1, h⟩)) (fun h => k0 fun g => h (e.1 g).2))
theorem kz_checkBag {x : Nat} (H : dq_WR w (s 1)) (hx : x < 24) (k1 : w 24 x = 6 → J s) (k0 : ¬ w 24 x = 6 → X "java/lang/UnsupportedOperationException" s) : wf_X8_checkBag (nI x) s J X := by
  unfold wf_X8_checkBag
  exact kw_at24 H hx (Or.inl rfl) ⟨k1, k0⟩
theorem kz_checkInHands {x : Nat} (H : dq_WR w (s 2)) (hx : x < 24) (k1 : w 25 x = -1 → J s) (k0 : ¬ w 25 x = -1 → X "java/util/NoSuchElementException" s) : wf_X8_checkInHands (nI x) s J X := by
  unfold wf_X8_checkInHands
  exact kw_at24 H hx (Or.inr rfl) ⟨k1, k0⟩
theorem kz_checkCarried {x : Nat} (H : dq_WR w (s 2)) (I : dq_IV n t l w) (hx : x < 24) (k1 : dq_cr w x → J s) (k0 : ¬ dq_cr w x → X "java/util/NoSuchElementException" s) : wf_X8_checkCarried (nI x) s J X := by
  unfold wf_X8_checkCarried
  exact kw_outerPlace H I hx ⟨k1, k0⟩
theorem kz_spot {a b : Nat} (ha : a < 12) (hb : b < 12) {K : Int32 → dk_S → Prop} (k : K (nI (12 * a + b)) s) : wf_X8_spot (nI a) (nI b) s K := by
  unfold wf_X8_spot
  have e : (12 : Int32) * nI a + nI b = nI (12 * a + b) := by
    rw [show (12 : Int32) = nI 12 from rfl, dq_iN, dq_iN, dq_iN, dq_iN, dq_imul, dq_iadd]; rfl
  rw [e]; exact k
theorem kz_shownPlace {c : Nat} (hc : c < 144) {K : Int32 → dk_S → Prop} (k : K (dq_sp c) s) : wf_X8_shownPlace (nI c) s K := by
  unfold wf_X8_shownPlace
  rw [dq_md hc, dq_dv hc]
  have e : (100 : Int32) * nI (c / 12) + nI (c % 12) = dq_sp c := by
    unfold dq_sp
    rw [show (100 : Int32) = nI 100 from rfl, dq_iN, dq_iN, dq_iN, dq_iN, dq_imul, dq_iadd]; rfl
  rw [e]; exact k
end DZC
