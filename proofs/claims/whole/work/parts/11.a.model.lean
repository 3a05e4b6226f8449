/-! bits -/
def bt (x : Int32) (i : Nat) : Bool := x.toBitVec.getLsbD i
theorem b_ext {x y : Int32} (h : ∀ i, i < 32 → bt x i = bt y i) : x = y := Int32.toBitVec_inj.mp (BitVec.eq_of_getLsbD_eq (fun i hi => h i hi))
theorem b_or (x y : Int32) (i : Nat) : bt (x ||| y) i = (bt x i || bt y i) := by unfold bt; rw [Int32.toBitVec_or, BitVec.getLsbD_or]
theorem b_and (x y : Int32) (i : Nat) : bt (x &&& y) i = (bt x i && bt y i) := by unfold bt; rw [Int32.toBitVec_and, BitVec.getLsbD_and]
theorem b_xor (x y : Int32) (i : Nat) : bt (x ^^^ y) i = (bt x i ^^ bt y i) := by unfold bt; rw [Int32.toBitVec_xor, BitVec.getLsbD_xor]
theorem b_big {x : Int32} {i : Nat} (h : 32 ≤ i) : bt x i = false := BitVec.getLsbD_of_ge _ _ h
theorem b_255 (i : Nat) : bt 255 i = decide (i < 8) := by
  rcases Nat.lt_or_ge i 32 with h | h
  · exact (by decide +kernel : ∀ i, i < 32 → bt 255 i = decide (i < 8)) i h
  · rw [b_big h, decide_eq_false (by omega)]
theorem b_65535 (i : Nat) : bt 65535 i = decide (i < 16) := by
  rcases Nat.lt_or_ge i 32 with h | h
  · exact (by decide +kernel : ∀ i, i < 32 → bt 65535 i = decide (i < 16)) i h
  · rw [b_big h, decide_eq_false (by omega)]
theorem b_m1 : ∀ i, i < 32 → bt (-1) i = true := by decide +kernel
theorem b_0 (i : Nat) : bt 0 i = false := BitVec.getLsbD_zero
theorem s_l : ∀ n, n < 32 → ((nI n &&& 31).toBitVec.smod 32).toNat = n := by decide +kernel
theorem s_u : ∀ n, n < 32 → (((nI n).toUInt32 &&& Int32.toUInt32 31).toBitVec % 32).toNat = n := by decide +kernel
theorem b_shl (n : Nat) (hn : n < 32) (x : Int32) {i : Nat} (hi : i < 32) : bt (x <<< (nI n &&& 31)) i = (decide (n ≤ i) && bt x (i - n)) := by
  unfold bt
  rw [Int32.toBitVec_shiftLeft]
  show (x.toBitVec <<< ((nI n &&& 31).toBitVec.smod 32).toNat).getLsbD i = _
  rw [s_l n hn, BitVec.getLsbD_shiftLeft]
  rcases Nat.lt_or_ge i n with h | h
  · simp [h, Nat.not_le.mpr h]
  · simp [hi, h, Nat.not_lt.mpr h]
theorem b_ushr (n : Nat) (hn : n < 32) (x : Int32) (i : Nat) : bt ((x.toUInt32 >>> ((nI n).toUInt32 &&& Int32.toUInt32 31)).toInt32) i = bt x (n + i) := by
  show (x.toUInt32 >>> ((nI n).toUInt32 &&& Int32.toUInt32 31)).toBitVec.getLsbD i = x.toUInt32.toBitVec.getLsbD (n + i)
  rw [UInt32.toBitVec_shiftRight]
  show (x.toUInt32.toBitVec >>> (((nI n).toUInt32 &&& Int32.toUInt32 31).toBitVec % 32).toNat).getLsbD i = _
  rw [s_u n hn, BitVec.getLsbD_ushiftRight]
theorem b_sshr (n : Nat) (hn : n < 32) (x : Int32) {i : Nat} (hi : i < 32) : bt (x >>> (nI n &&& 31)) i = if n + i < 32 then bt x (n + i) else bt x 31 := by
  unfold bt
  rw [Int32.toBitVec_shiftRight]
  show (x.toBitVec.sshiftRight ((nI n &&& 31).toBitVec.smod 32).toNat).getLsbD i = _
  rw [s_l n hn, BitVec.getLsbD_sshiftRight, BitVec.msb_eq_getLsbD_last]
  simp [hi]
theorem mb_1 : ∀ i, i < 32 → bt 1 i = decide (i = 0) := by decide +kernel
theorem mb_z {y : Int32} : y &&& 1 = 0 ↔ bt y 0 = false := by
  constructor
  · intro h
    have := b_and y 1 0
    rw [h, b_0, mb_1 0 (by decide)] at this
    simpa using this.symm
  · intro h
    refine b_ext fun i hi => ?_
    rw [b_and, mb_1 i hi, b_0]
    by_cases g : i = 0
    · rw [g, h]; rfl
    · simp [g]
theorem mb_o {y : Int32} : y &&& 1 = 1 ↔ bt y 0 = true := by
  constructor
  · intro h
    have := b_and y 1 0
    rw [h, mb_1 0 (by decide)] at this
    simpa using this.symm
  · intro h
    refine b_ext fun i hi => ?_
    rw [b_and, mb_1 i hi]
    by_cases g : i = 0
    · rw [g, h]; rfl
    · simp [g]
theorem mb_sh {x : Int32} {d : Nat} (hd : d < 32) : bt (x >>> (nI d &&& 31)) 0 = bt x d := by
  rw [b_sshr d hd x (by decide), if_pos (by omega), Nat.add_zero]
theorem mb_or {x : Int32} {d e : Nat} (hd : d < 8) (he : e < 8) : bt (x ||| (1 <<< (nI d &&& 31))) e = true ↔ (e = d ∨ bt x e = true) := by
  rw [b_or, b_shl d (by omega) 1 (by omega), mb_1 _ (by omega)]
  by_cases h : e = d
  · subst h
    simp
  · have : ¬ (d ≤ e ∧ e - d = 0) := by omega
    simp only [h, false_or]
    cases bt x e <;> simp
    omega
/-! the reference's rows beside a world's: which row of it holds which row of the world -/
/-- a cell's number in the reference: 12 y + x where the world has 12 x + y -/
def mt_T (c : Nat) : Nat := 12 * (c % 12) + c / 12
theorem mt_T_lt {c : Nat} (h : c < 144) : mt_T c < 144 := by unfold mt_T; omega
theorem mt_T_T {c : Nat} (h : c < 144) : mt_T (mt_T c) = c := by unfold mt_T; omega
theorem mt_T_d {c : Nat} (h : c < 144) : mt_T c / 12 = c % 12 := by unfold mt_T; omega
theorem mt_T_m {c : Nat} (h : c < 144) : mt_T c % 12 = c / 12 := by unfold mt_T; omega
theorem mt_T_i {a b : Nat} (ha : a < 144) (hb : b < 144) : mt_T a = mt_T b ↔ a = b := by
  constructor
  · intro h
    rw [← mt_T_T ha, ← mt_T_T hb, h]
  · intro h; rw [h]
/-- a place: cells are renumbered, what is below 0 stays -/
def mt_V (v : Int32) : Int32 := if v < 0 then v else nI (mt_T v.toNatClampNeg)
theorem mt_V_n {v : Int32} (h : v < 0) : mt_V v = v := if_pos h
theorem mt_V_c {c : Nat} (h : c < 144) : mt_V (nI c) = nI (mt_T c) := by
  unfold mt_V
  rw [if_neg (nI_pos (by omega)), nI_clamp (by omega)]
theorem mt_V_1 : mt_V (-1) = -1 := mt_V_n (by decide)
theorem mt_V_2 : mt_V (-2) = -2 := mt_V_n (by decide)
theorem mt_V_b {b : Nat} (h : b < 24) : mt_V ((-3) - nI b) = (-3) - nI b := mt_V_n (dq_bag_neg h)
def mt_lL : List Nat := [0, 0, 8, 8, 8, 8, 8, 0, 8, 8, 8, 24, 0, 4, 4, 144, 8, 8, 8, 0, 8, 8, 24]
def mt_qL : List Nat := [0, 0, 8, 9, 10, 11, 12, 0, 15, 16, 17, 24, 0, 27, 28, 2, 14, 18, 19, 0, 21, 22, 25]
/-- how much of a row is held, and in which row of the world -/
def mt_l (a : Nat) : Nat := if a < 60 then 0 else mt_lL.getD (a - 60) 0
def mt_q (a : Nat) : Nat := mt_qL.getD (a - 60) 0
def mt_k (a k : Nat) : Nat := if a = 75 then mt_T k else k
def mt_v (a : Nat) (v : Int32) : Int32 := if a = 73 ∨ a = 76 ∨ a = 81 ∨ a = 82 then mt_V v else v
/-- whether a kind is known, as the world's bits say -/
def mt_kn (w : dq_W) (d : Nat) : Prop := ¬ ((w 0 9) >>> (nI d &&& 31)) &&& 1 = 0
theorem mt_kn_b {w : dq_W} {d : Nat} (hd : d < 8) : mt_kn w d ↔ bt (w 0 9) d = true := by
  unfold mt_kn
  rw [mb_z, mb_sh (by omega)]
  cases bt (w 0 9) d <;> simp
noncomputable def mt_kb (w : dq_W) (d : Nat) : Int32 := dq_if (mt_kn w d) 1 0
def mr_H (w m : dq_W) : Prop := (m 60 2 = w 0 5 ∧ m 60 10 = w 13 9 ∧ m 60 15 = w 23 2) ∧ (m 60 18 = w 26 2 ∧ m 60 30 = w 0 8 ∧ m 60 31 = w 0 7)
def mr_R (w m : dq_W) : Prop := (∀ a k, k < mt_l a → m a k = mt_v a (w (mt_q a) (mt_k a k))) ∧ mr_H w m ∧ (∀ d, d < 8 → m 83 d = mt_kb w d) ∧ (∀ b, b < 8 → 0 < w 21 b → m 79 b = w 20 b)
theorem mt_l_hi {a : Nat} (h : 0 < mt_l a) : a < 83 := by
  refine Nat.lt_of_not_le fun g => ?_
  have : mt_l a = 0 := by
    unfold mt_l
    rw [if_neg (by omega)]
    have : mt_lL.length ≤ a - 60 := by
      show 23 ≤ a - 60
      omega
    rw [List.getD_eq_getElem?_getD, List.getElem?_eq_none this]
    rfl
  omega
theorem mt_q_i0 : ∀ a, a < 83 → ∀ b, b < 83 → 0 < mt_l a → 0 < mt_l b → mt_q a = mt_q b → a = b := by decide +kernel
theorem mt_q_i {a b : Nat} (ha : 0 < mt_l a) (hb : 0 < mt_l b) (h : mt_q a = mt_q b) : a = b := mt_q_i0 a (mt_l_hi ha) b (mt_l_hi hb) ha hb h
theorem mt_l75 : ∀ a, a < 83 → a ≠ 75 → mt_l a ≤ 24 := by decide +kernel
theorem mt_k_lt {a k : Nat} (h : k < mt_l a) : mt_k a k < mt_l a := by
  unfold mt_k
  by_cases e : a = 75
  · subst e
    rw [if_pos rfl]
    exact mt_T_lt h
  · rw [if_neg e]; exact h
theorem mt_k_k {a k : Nat} (h : k < mt_l a) : mt_k a (mt_k a k) = k := by
  unfold mt_k
  by_cases e : a = 75
  · subst e
    rw [if_pos rfl, if_pos rfl]
    exact mt_T_T h
  · rw [if_neg e, if_neg e]
theorem mt_k_i {a j k : Nat} (hj : j < mt_l a) (hk : k < mt_l a) (h : mt_k a j = mt_k a k) : j = k := by
  rw [← mt_k_k hj, ← mt_k_k hk, h]
theorem mt_q0 : ∀ a, a < 83 → 0 < mt_l a → mt_q a ≠ 0 ∧ mt_q a ≠ 13 ∧ mt_q a ≠ 23 ∧ mt_q a ≠ 26 ∧ mt_q a ≠ 20 ∧ a ≠ 60 ∧ a ≠ 79 := by decide +kernel
section DMR
variable {w m : dq_W}
theorem mr_R.n2 (R : mr_R w m) : m 60 2 = w 0 5 := R.2.1.1.1
theorem mr_R.n10 (R : mr_R w m) : m 60 10 = w 13 9 := R.2.1.1.2.1
theorem mr_R.n15 (R : mr_R w m) : m 60 15 = w 23 2 := R.2.1.1.2.2
theorem mr_R.n18 (R : mr_R w m) : m 60 18 = w 26 2 := R.2.1.2.1
theorem mr_R.n30 (R : mr_R w m) : m 60 30 = w 0 8 := R.2.1.2.2.1
theorem mr_R.n31 (R : mr_R w m) : m 60 31 = w 0 7 := R.2.1.2.2.2
theorem mr_R.r62 (R : mr_R w m) {k : Nat} (h : k < 8) : m 62 k = w 8 k := R.1 62 k h
theorem mr_R.r63 (R : mr_R w m) {k : Nat} (h : k < 8) : m 63 k = w 9 k := R.1 63 k h
theorem mr_R.r64 (R : mr_R w m) {k : Nat} (h : k < 8) : m 64 k = w 10 k := R.1 64 k h
theorem mr_R.r65 (R : mr_R w m) {k : Nat} (h : k < 8) : m 65 k = w 11 k := R.1 65 k h
theorem mr_R.r66 (R : mr_R w m) {k : Nat} (h : k < 8) : m 66 k = w 12 k := R.1 66 k h
theorem mr_R.r68 (R : mr_R w m) {k : Nat} (h : k < 8) : m 68 k = w 15 k := R.1 68 k h
theorem mr_R.r69 (R : mr_R w m) {k : Nat} (h : k < 8) : m 69 k = w 16 k := R.1 69 k h
theorem mr_R.r70 (R : mr_R w m) {k : Nat} (h : k < 8) : m 70 k = w 17 k := R.1 70 k h
theorem mr_R.r71 (R : mr_R w m) {k : Nat} (h : k < 24) : m 71 k = w 24 k := R.1 71 k h
theorem mr_R.r73 (R : mr_R w m) {k : Nat} (h : k < 4) : m 73 k = mt_V (w 27 k) := R.1 73 k h
theorem mr_R.r74 (R : mr_R w m) {k : Nat} (h : k < 4) : m 74 k = w 28 k := R.1 74 k h
theorem mr_R.r75 (R : mr_R w m) {k : Nat} (h : k < 144) : m 75 k = w 2 (mt_T k) := R.1 75 k h
theorem mr_R.r75' (R : mr_R w m) {c : Nat} (h : c < 144) : m 75 (mt_T c) = w 2 c := by rw [R.r75 (mt_T_lt h), mt_T_T h]
theorem mr_R.r76 (R : mr_R w m) {k : Nat} (h : k < 8) : m 76 k = mt_V (w 14 k) := R.1 76 k h
theorem mr_R.r77 (R : mr_R w m) {k : Nat} (h : k < 8) : m 77 k = w 18 k := R.1 77 k h
theorem mr_R.r78 (R : mr_R w m) {k : Nat} (h : k < 8) : m 78 k = w 19 k := R.1 78 k h
theorem mr_R.r80 (R : mr_R w m) {k : Nat} (h : k < 8) : m 80 k = w 21 k := R.1 80 k h
theorem mr_R.r81 (R : mr_R w m) {k : Nat} (h : k < 8) : m 81 k = mt_V (w 22 k) := R.1 81 k h
theorem mr_R.r82 (R : mr_R w m) {k : Nat} (h : k < 24) : m 82 k = mt_V (w 25 k) := R.1 82 k h
theorem mr_R.r83 (R : mr_R w m) {k : Nat} (h : k < 8) : m 83 k = mt_kb w k := R.2.2.1 k h
theorem mr_R.r79 (R : mr_R w m) {k : Nat} (h : k < 8) (h1 : 0 < w 21 k) : m 79 k = w 20 k := R.2.2.2 k h h1
/-- a row of the reference that holds nothing of the world is written -/
theorem mr_R.out (R : mr_R w m) {a k : Nat} {v : Int32} (h : 83 < a ∨ (a = 60 ∧ (k = 0 ∨ k = 1 ∨ k = 3 ∨ k = 32))) : mr_R w (dq_set m a k v) := by
  refine ⟨fun b j hj => ?_, ?_, fun d hd => ?_, fun b hb h1 => ?_⟩
  · have h2 := mt_l_hi (show 0 < mt_l b by omega)
    have h3 := mt_q0 b h2 (by omega)
    rw [dq_set_ne (by omega)]; exact R.1 b j hj
  · refine ⟨⟨?_, ?_, ?_⟩, ?_, ?_, ?_⟩ <;> rw [dq_set_ne (by omega)]
    · exact R.n2
    · exact R.n10
    · exact R.n15
    · exact R.n18
    · exact R.n30
    · exact R.n31
  · rw [dq_set_ne (by omega)]; exact R.r83 hd
  · rw [dq_set_ne (by omega)]; exact R.r79 hb h1
/-- a row of both is written -/
theorem mr_R.put (R : mr_R w m) {a k : Nat} {v : Int32} (hk : k < mt_l a) (h21 : a = 80 → 0 < v → 0 < w 21 k ∨ m 79 k = w 20 k) : mr_R (dq_set w (mt_q a) (mt_k a k) v) (dq_set m a k (mt_v a v)) := by
  have ha := mt_l_hi (show 0 < mt_l a by omega)
  have hq := mt_q0 a ha (by omega)
  refine ⟨fun b j hj => ?_, ?_, fun d hd => ?_, fun b hb h1 => ?_⟩
  · by_cases e : b = a ∧ j = k
    · obtain ⟨rfl, rfl⟩ := e
      rw [dq_set_eq, dq_set_eq]
    · rw [dq_set_ne (by omega), dq_set_ne ?_]
      · exact R.1 b j hj
      · by_cases e1 : mt_q b = mt_q a
        · have e2 := mt_q_i (show 0 < mt_l b by omega) (by omega) e1
          subst e2
          refine Or.inr fun e3 => e ⟨rfl, mt_k_i hj hk e3⟩
        · exact Or.inl e1
  · refine ⟨⟨?_, ?_, ?_⟩, ?_, ?_, ?_⟩ <;> rw [dq_set_q (by omega), dq_set_q (by omega)]
    · exact R.n2
    · exact R.n10
    · exact R.n15
    · exact R.n18
    · exact R.n30
    · exact R.n31
  · rw [dq_set_q (by omega), R.r83 hd]
    unfold mt_kb mt_kn
    rw [dq_set_q (by omega)]
  · rw [dq_set_q (by omega), dq_set_q (by omega)]
    by_cases e : mt_q a = 21
    · have e2 : a = 80 := mt_q_i (show 0 < mt_l a by omega) (show 0 < mt_l 80 by decide) (by rw [e]; rfl)
      subst e2
      by_cases e3 : b = k
      · subst e3
        have h1 : 0 < v := by
          have e4 : dq_set w 21 b v 21 b = v := dq_set_eq
          have h1 : 0 < dq_set w 21 b v 21 b := h1
          rwa [e4] at h1
        rcases h21 rfl h1 with g | g
        · exact R.r79 hb g
        · exact g
      · have h1 : 0 < dq_set w 21 k v 21 b := h1
        rw [dq_set_ne (Or.inr e3)] at h1
        exact R.r79 hb h1
    · rw [dq_set_q (Ne.symm e)] at h1
      exact R.r79 hb h1
theorem mr_R.p75 (R : mr_R w m) {c : Nat} {v : Int32} (h : c < 144) : mr_R (dq_set w 2 c v) (dq_set m 75 (mt_T c) v) := by
  have q := R.put (a := 75) (k := mt_T c) (v := v) (mt_T_lt h) (fun g => absurd g (by decide))
  have e : mt_k 75 (mt_T c) = c := mt_T_T h
  rw [e] at q
  exact q
theorem mr_R.p76 (R : mr_R w m) {k c : Nat} (h : k < 8) (hc : c < 144) : mr_R (dq_set w 14 k (nI c)) (dq_set m 76 k (nI (mt_T c))) := by
  have q := R.put (a := 76) (k := k) (v := nI c) h (fun g => absurd g (by decide))
  have e : mt_v 76 (nI c) = nI (mt_T c) := mt_V_c hc
  rw [e] at q
  exact q
theorem mr_R.p77 (R : mr_R w m) {k : Nat} {v : Int32} (h : k < 8) : mr_R (dq_set w 18 k v) (dq_set m 77 k v) := R.put (a := 77) (k := k) (v := v) h (fun g => absurd g (by decide))
theorem mr_R.p78 (R : mr_R w m) {k : Nat} {v : Int32} (h : k < 8) : mr_R (dq_set w 19 k v) (dq_set m 78 k v) := R.put (a := 78) (k := k) (v := v) h (fun g => absurd g (by decide))
theorem mr_R.p80 (R : mr_R w m) {k : Nat} {v : Int32} (h : k < 8) (h1 : 0 < v → 0 < w 21 k ∨ m 79 k = w 20 k) : mr_R (dq_set w 21 k v) (dq_set m 80 k v) := R.put (a := 80) (k := k) (v := v) h (fun _ => h1)
theorem mr_R.p81 (R : mr_R w m) {k : Nat} {v : Int32} (h : k < 8) : mr_R (dq_set w 22 k v) (dq_set m 81 k (mt_V v)) := R.put (a := 81) (k := k) (v := v) h (fun g => absurd g (by decide))
theorem mr_R.p82 (R : mr_R w m) {k : Nat} {v : Int32} (h : k < 24) : mr_R (dq_set w 25 k v) (dq_set m 82 k (mt_V v)) := R.put (a := 82) (k := k) (v := v) h (fun g => absurd g (by decide))
/-- haste: both rows -/
theorem mr_R.p79 (R : mr_R w m) {b : Nat} {v : Int32} (h : b < 8) : mr_R (dq_set (dq_set w 20 b v) 21 b 12) (dq_set (dq_set m 79 b v) 80 b 12) := by
  refine ⟨fun a j hj => ?_, ?_, fun d hd => ?_, fun a ha h1 => ?_⟩
  · have h2 := mt_l_hi (show 0 < mt_l a by omega)
    have h3 := mt_q0 a h2 (by omega)
    by_cases e : a = 80 ∧ j = b
    · obtain ⟨rfl, rfl⟩ := e
      rw [dq_set_eq]
      exact (dq_set_eq (w := dq_set w 20 j v) (q := 21) (k := j)).symm
    · rw [dq_set_ne (by omega), dq_set_ne (by omega), dq_set_ne ?_, dq_set_q (by omega)]
      · exact R.1 a j hj
      · by_cases e1 : mt_q a = 21
        · have e2 : a = 80 := mt_q_i (show 0 < mt_l a by omega) (show 0 < mt_l 80 by decide) (by rw [e1]; rfl)
          subst e2
          exact Or.inr fun e3 => e ⟨rfl, e3⟩
        · exact Or.inl e1
  · refine ⟨⟨?_, ?_, ?_⟩, ?_, ?_, ?_⟩ <;> rw [dq_set_q (by decide), dq_set_q (by decide), dq_set_q (by decide), dq_set_q (by decide)]
    · exact R.n2
    · exact R.n10
    · exact R.n15
    · exact R.n18
    · exact R.n30
    · exact R.n31
  · rw [dq_set_q (by decide), dq_set_q (by decide), R.r83 hd]
    unfold mt_kb mt_kn
    rw [dq_set_q (by decide), dq_set_q (by decide)]
  · rw [show dq_set (dq_set m 79 b v) 80 b 12 79 a = dq_set m 79 b v 79 a from dq_set_q (by decide), show dq_set (dq_set w 20 b v) 21 b 12 20 a = dq_set w 20 b v 20 a from dq_set_q (by decide)]
    by_cases e : a = b
    · subst e
      rw [dq_set_eq, dq_set_eq]
    · rw [dq_set_ne (Or.inr e), dq_set_ne (Or.inr e)]
      rw [dq_set_ne (Or.inr e), dq_set_q (by decide)] at h1
      exact R.r79 ha h1
/-- fields of the world -/
theorem mr_R.p0 (R : mr_R w m) {a k : Nat} {v : Int32} (h : (a = 2 ∧ k = 5) ∨ (a = 30 ∧ k = 8) ∨ (a = 31 ∧ k = 7)) : mr_R (dq_set w 0 k v) (dq_set m 60 a v) := by
  refine ⟨fun b j hj => ?_, ?_, fun d hd => ?_, fun b hb h1 => ?_⟩
  · have h2 := mt_l_hi (show 0 < mt_l b by omega)
    have h3 := mt_q0 b h2 (by omega)
    rw [dq_set_q (by omega), dq_set_q (by omega)]; exact R.1 b j hj
  · rcases h with ⟨rfl, rfl⟩ | ⟨rfl, rfl⟩ | ⟨rfl, rfl⟩
    · refine ⟨⟨by rw [dq_set_eq, dq_set_eq], ?_, ?_⟩, ?_, ?_, ?_⟩ <;> rw [dq_set_ne (by decide), dq_set_ne (by decide)]
      · exact R.n10
      · exact R.n15
      · exact R.n18
      · exact R.n30
      · exact R.n31
    · refine ⟨⟨?_, ?_, ?_⟩, ?_, by rw [dq_set_eq, dq_set_eq], ?_⟩ <;> rw [dq_set_ne (by decide), dq_set_ne (by decide)]
      · exact R.n2
      · exact R.n10
      · exact R.n15
      · exact R.n18
      · exact R.n31
    · refine ⟨⟨?_, ?_, ?_⟩, ?_, ?_, by rw [dq_set_eq, dq_set_eq]⟩ <;> rw [dq_set_ne (by decide), dq_set_ne (by decide)]
      · exact R.n2
      · exact R.n10
      · exact R.n15
      · exact R.n18
      · exact R.n30
  · rw [dq_set_q (by decide), R.r83 hd]
    unfold mt_kb mt_kn
    rw [dq_set_ne (Or.inr (by omega))]
  · rw [dq_set_q (by decide), dq_set_q (by decide)]
    rw [dq_set_q (by decide)] at h1
    exact R.r79 hb h1
theorem mr_R.p83 (R : mr_R w m) {d : Nat} (hd : d < 8) : mr_R (dq_set w 0 9 (w 0 9 ||| (1 <<< (nI d &&& 31)))) (dq_set m 83 d 1) := by
  refine ⟨fun b j hj => ?_, ?_, fun e he => ?_, fun b hb h1 => ?_⟩
  · have h2 := mt_l_hi (show 0 < mt_l b by omega)
    have h3 := mt_q0 b h2 (by omega)
    rw [dq_set_q (by omega), dq_set_q (by omega)]; exact R.1 b j hj
  · refine ⟨⟨?_, ?_, ?_⟩, ?_, ?_, ?_⟩ <;> rw [dq_set_ne (Or.inl (by decide)), dq_set_ne (by decide)]
    · exact R.n2
    · exact R.n10
    · exact R.n15
    · exact R.n18
    · exact R.n30
    · exact R.n31
  · have e1 : mt_kn (dq_set w 0 9 (w 0 9 ||| (1 <<< (nI d &&& 31)))) e ↔ (e = d ∨ mt_kn w e) := by
      rw [mt_kn_b he, mt_kn_b he, dq_set_eq, mb_or hd he]
    by_cases g : e = d
    · have e2 := e1.2 (Or.inl g)
      rw [g, dq_set_eq]
      rw [g] at e2
      exact (dq_if_t e2).symm
    · rw [dq_set_ne (Or.inr g), R.r83 he]
      refine dq_if_c ?_
      rw [e1]
      exact ⟨fun h => Or.inr h, fun h => h.resolve_left g⟩
  · rw [dq_set_q (by decide), dq_set_q (by decide)]
    rw [dq_set_q (by decide)] at h1
    exact R.r79 hb h1
end DMR
/-- what of the reference stays while a world goes on -/
def mk_g (a k : Nat) : Prop := (61 ≤ a ∧ a ≤ 74) ∨ a = 84 ∨ a = 85 ∨ (a = 60 ∧ ¬ (k = 2 ∨ k = 30 ∨ k = 31))
def mk_o (m m' : dq_W) : Prop := ∀ a k, mk_g a k → m' a k = m a k
theorem mk_o.rf {m : dq_W} : mk_o m m := fun _ _ _ => rfl
theorem mk_o.tr {m m1 m2 : dq_W} (h : mk_o m m1) (k : mk_o m1 m2) : mk_o m m2 := fun a j hg => (k a j hg).trans (h a j hg)
theorem mk_o.set {m : dq_W} {a k : Nat} {v : Int32} (h : ¬ mk_g a k) : mk_o m (dq_set m a k v) := fun b j hg => by
  by_cases e : b = a ∧ j = k
  · obtain ⟨rfl, rfl⟩ := e
    exact absurd hg h
  · exact dq_set_ne (by omega)
/-- from s the reference has come to u, where it holds w -/
def mx_P (w : dq_W) (s u : dk_S) : Prop := mr_R w (u 4) ∧ mk_o (s 4) (u 4) ∧ dq_fr 4 s u
theorem mx_P.rf {w : dq_W} {s : dk_S} (R : mr_R w (s 4)) : mx_P w s s := ⟨R, mk_o.rf, dq_fr.rf⟩
theorem mx_P.tr {w w' : dq_W} {s u v : dk_S} (h : mx_P w s u) (k : mx_P w' u v) : mx_P w' s v := ⟨k.1, h.2.1.tr k.2.1, h.2.2.tr k.2.2⟩
theorem mx_P.st {w w' : dq_W} {s u : dk_S} {a k : Nat} {v : Int32} (h : mx_P w s u) (hR : mr_R w' (dq_set (u 4) a k v)) (hg : ¬ mk_g a k) : mx_P w' s (dq_st u 4 a k v) :=
  ⟨by rw [dq_st_p]; exact hR, h.2.1.tr (by rw [dq_st_p]; exact mk_o.set hg), h.2.2.tr dq_st_fr⟩
/-- a row is written, at a known place -/
theorem mx_put {a k : Nat} {v : Int32} {s : dk_S} {J : dk_S → Prop} (h : J (dq_st s 4 a k v)) : ∀ t, t = dk_row s 4 a (upd (s 4 a) k v) → J t := nm_e h
theorem mx_putI {a k : Nat} {v : Int32} {s : dk_S} {J : dk_S → Prop} (hk : k < 2 ^ 31) (h : J (dq_st s 4 a k v)) : ∀ t, t = dk_row s 4 a (upd (s 4 a) (nI k).toNatClampNeg v) → J t := by
  rw [nI_clamp hk]; exact nm_e h
