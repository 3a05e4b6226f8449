/-! the reference's sight: intervals that cross, beside the world's strips -/
theorem mr_mb {x y : Int} (hx : x.natAbs ≤ 23) (hy : y.natAbs ≤ 22) : (x * y).natAbs ≤ 506 := by
  rw [Int.natAbs_mul]
  exact Nat.mul_le_mul hx hy
def mr_c9 (LX HX LY HY P : Int) : Prop := (LX < HX ∧ LX < HY ∧ LX < P) ∧ (LY < HX ∧ LY < HY ∧ LY < P) ∧ (0 < HX ∧ 0 < HY ∧ 0 < P)
section DQCR
variable {s : dk_S} {K : Int32 → dk_S → Prop}
theorem km_iz {z : Int} (h : z.natAbs ≤ 1000000) : dq_iI z = 0 ↔ z = 0 := dq_ieq (b := 0) (by omega) (by omega) (by decide) (by decide)
theorem km_i0 {z : Int} (h : z.natAbs ≤ 1000000) : 0 ≤ dq_iI z ↔ 0 ≤ z := dq_ile (a := 0) (by decide) (by decide) (by omega) (by omega)
theorem km_il {a b : Int} (ha : a.natAbs ≤ 1000000) (hb : b.natAbs ≤ 1000000) : dq_iI a ≤ dq_iI b ↔ a ≤ b := dq_ile (by omega) (by omega) (by omega) (by omega)
theorem km_cr282 {lo hi : Int} (h1 : lo.natAbs ≤ 10000) (h2 : hi.natAbs ≤ 10000) (k1 : lo < hi → K 1 s) (k0 : ¬ lo < hi → K 0 s) : wf_X9_crosses_282 K (dq_iI lo) (dq_iI hi) s := by
  unfold wf_X9_crosses_282
  have e := km_il (a := hi) (b := lo) (by omega) (by omega)
  exact br_c (fun h => k0 (by have := e.1 h; omega)) (fun h => k1 (by have : ¬ hi ≤ lo := fun g => h (e.2 g); omega))
theorem km_cr256 {X Y lo hi P : Int} (hP : P = 2 * X * Y) (hPb : P.natAbs ≤ 10000) (h1 : lo.natAbs ≤ 10000) (h2 : hi.natAbs ≤ 10000) (k1 : lo < hi ∧ lo < P → K 1 s) (k0 : ¬ (lo < hi ∧ lo < P) → K 0 s) : wf_X9_crosses_256 K (dq_iI X) (dq_iI Y) (dq_iI hi) (dq_iI lo) s := by
  unfold wf_X9_crosses_256
  have e : (2 * dq_iI X) * dq_iI Y = dq_iI P := by
    rw [show (2 : Int32) = dq_iI 2 from rfl, dq_imul, dq_imul, hP]
  rw [e]
  have e2 := km_il (a := hi) (b := P) (by omega) (by omega)
  refine br_c (fun h => ?_) (fun h => ?_)
  · have := e2.1 h
    exact km_cr282 h1 h2 (fun g => k1 (by omega)) (fun g => k0 (by omega))
  · have : ¬ hi ≤ P := fun g => h (e2.2 g)
    exact km_cr282 h1 hPb (fun g => k1 (by omega)) (fun g => k0 (by omega))
theorem km_cr227 {X Y lo hX hY P : Int} (hP : P = 2 * X * Y) (hPb : P.natAbs ≤ 10000) (h1 : lo.natAbs ≤ 10000) (h2 : hX.natAbs ≤ 10000) (h3 : hY.natAbs ≤ 10000) (k1 : (lo < hX ∧ lo < hY ∧ lo < P) ∧ (0 < hX ∧ 0 < hY ∧ 0 < P) → K 1 s) (k0 : ¬ ((lo < hX ∧ lo < hY ∧ lo < P) ∧ (0 < hX ∧ 0 < hY ∧ 0 < P)) → K 0 s) : wf_X9_crosses_227 K (dq_iI X) (dq_iI Y) (dq_iI hX) (dq_iI hY) (dq_iI lo) s := by
  unfold wf_X9_crosses_227
  have e1 := km_il (a := hY) (b := hX) (by omega) (by omega)
  have e2 := km_i0 (z := lo) (by omega)
  have z0 : (0 : Int32) = dq_iI 0 := rfl
  refine br_c (fun h => ?_) (fun h => ?_)
  · have := e1.1 h
    refine br_c (fun g => ?_) (fun g => ?_)
    · have := e2.1 g
      exact km_cr256 hP hPb h1 h3 (fun q => k1 (by omega)) (fun q => k0 (by omega))
    · have : ¬ 0 ≤ lo := fun q => g (e2.2 q)
      have r := km_cr256 (s := s) (K := K) (lo := 0) (hi := hY) hP hPb (by decide) h3 (fun q => k1 (by omega)) (fun q => k0 (by omega))
      exact r
  · have : ¬ hY ≤ hX := fun q => h (e1.2 q)
    refine br_c (fun g => ?_) (fun g => ?_)
    · have := e2.1 g
      exact km_cr256 hP hPb h1 h2 (fun q => k1 (by omega)) (fun q => k0 (by omega))
    · have : ¬ 0 ≤ lo := fun q => g (e2.2 q)
      have r := km_cr256 (s := s) (K := K) (lo := 0) (hi := hX) hP hPb (by decide) h2 (fun q => k1 (by omega)) (fun q => k0 (by omega))
      exact r
theorem km_cr211 {X Y LX HX LY HY P : Int} (hP : P = 2 * X * Y) (hPb : P.natAbs ≤ 10000) (h1 : LX.natAbs ≤ 10000) (h2 : HX.natAbs ≤ 10000) (h3 : LY.natAbs ≤ 10000) (h4 : HY.natAbs ≤ 10000) (k1 : mr_c9 LX HX LY HY P → K 1 s) (k0 : ¬ mr_c9 LX HX LY HY P → K 0 s) : wf_X9_crosses_211 K (dq_iI X) (dq_iI Y) (dq_iI LX) (dq_iI HX) (dq_iI LY) (dq_iI HY) s := by
  unfold wf_X9_crosses_211
  unfold mr_c9 at k1 k0
  have e1 := km_il (a := LX) (b := LY) (by omega) (by omega)
  refine br_c (fun h => ?_) (fun h => ?_)
  · have := e1.1 h
    exact km_cr227 hP hPb h3 h2 h4 (fun q => k1 (by omega)) (fun q => k0 (by omega))
  · have : ¬ LX ≤ LY := fun q => h (e1.2 q)
    exact km_cr227 hP hPb h1 h2 h4 (fun q => k1 (by omega)) (fun q => k0 (by omega))
/-- from the turned distances on -/
theorem km_cr121 {dx dy p q X Y LX HX LY HY P : Int} (bdx : dx.natAbs ≤ 11) (bdy : dy.natAbs ≤ 11) (hP : P = 2 * X * Y) (hPb : P.natAbs ≤ 10000) (h1 : LX.natAbs ≤ 10000) (h2 : HX.natAbs ≤ 10000) (h3 : LY.natAbs ≤ 10000) (h4 : HY.natAbs ≤ 10000)
    (a1 : dx = 0 → LX = 0) (a2 : ¬ dx = 0 → LX = (2 * p - 1) * Y) (a3 : dx = 0 → HX = P) (a4 : ¬ dx = 0 → HX = (2 * p + 1) * Y)
    (b1 : dy = 0 → LY = 0) (b2 : ¬ dy = 0 → LY = (2 * q - 1) * X) (b3 : dy = 0 → HY = P) (b4 : ¬ dy = 0 → HY = (2 * q + 1) * X)
    (k1 : mr_c9 LX HX LY HY P → K 1 s) (k0 : ¬ mr_c9 LX HX LY HY P → K 0 s) : wf_X9_crosses_121 K (dq_iI dx) (dq_iI dy) (dq_iI X) (dq_iI Y) (dq_iI p) (dq_iI q) s := by
  have z0 : (0 : Int32) = dq_iI 0 := rfl
  have z1 : (1 : Int32) = dq_iI 1 := rfl
  have z2 : (2 : Int32) = dq_iI 2 := rfl
  have ex := km_iz (z := dx) (by omega)
  have ey := km_iz (z := dy) (by omega)
  have eP : (2 * dq_iI X) * dq_iI Y = dq_iI P := by rw [z2, dq_imul, dq_imul, hP]
  have last : wf_X9_crosses_165 K (dq_iI dy) (dq_iI X) (dq_iI Y) (dq_iI q) (dq_iI LX) (dq_iI HX) s := by
    unfold wf_X9_crosses_165
    have go : ∀ L, L = dq_iI LY → wf_X9_crosses_185 K (dq_iI dy) (dq_iI X) (dq_iI Y) (dq_iI q) (dq_iI LX) (dq_iI HX) L s := by
      intro L hL
      subst hL
      unfold wf_X9_crosses_185
      refine dq_rb (fun h => ?_) (fun h => ?_)
      · have e : (2 * dq_iI q + 1) * dq_iI X = dq_iI HY := by
          rw [z2, z1, dq_imul, dq_iadd, dq_imul, b4 (fun g => h (ey.2 g))]
        rw [e]
        exact km_cr211 hP hPb h1 h2 h3 h4 k1 k0
      · rw [eP, ← b3 (ey.1 h)]
        exact km_cr211 hP hPb h1 h2 h3 h4 k1 k0
    refine dq_rb (fun h => go _ ?_) (fun h => go _ ?_)
    · rw [z2, z1, dq_imul, dq_isub, dq_imul, b2 (fun g => h (ey.2 g))]
    · rw [b1 (ey.1 h)]; rfl
  unfold wf_X9_crosses_121
  have go : ∀ L, L = dq_iI LX → wf_X9_crosses_140 K (dq_iI dx) (dq_iI dy) (dq_iI X) (dq_iI Y) (dq_iI p) (dq_iI q) L s := by
    intro L hL
    subst hL
    unfold wf_X9_crosses_140
    refine dq_rb (fun h => ?_) (fun h => ?_)
    · have e : (2 * dq_iI p + 1) * dq_iI Y = dq_iI HX := by
        rw [z2, z1, dq_imul, dq_iadd, dq_imul, a4 (fun g => h (ex.2 g))]
      rw [e]
      exact last
    · rw [eP, ← a3 (ex.1 h)]
      exact last
  refine dq_rb (fun h => go _ ?_) (fun h => go _ ?_)
  · rw [z2, z1, dq_imul, dq_isub, dq_imul, a2 (fun g => h (ex.2 g))]
  · rw [a1 (ex.1 h)]; rfl
/-- the numbers: strips and boxes -/
theorem mr_strip {u v p q : Int} (hu : 0 < u) (hv : 0 < v) : mr_c9 ((2 * p - 1) * v) ((2 * p + 1) * v) ((2 * q - 1) * u) ((2 * q + 1) * u) (2 * u * v) ↔ (0 ≤ p ∧ p ≤ u ∧ 0 ≤ q ∧ q ≤ v ∧ 2 * (p * v - q * u).natAbs < u + v) := by
  unfold mr_c9
  have e1 : (2 * p - 1) * v = 2 * (p * v) - v := by rw [Int.sub_mul, Int.mul_assoc, Int.one_mul]
  have e2 : (2 * p + 1) * v = 2 * (p * v) + v := by rw [Int.add_mul, Int.mul_assoc, Int.one_mul]
  have e3 : (2 * q - 1) * u = 2 * (q * u) - u := by rw [Int.sub_mul, Int.mul_assoc, Int.one_mul]
  have e4 : (2 * q + 1) * u = 2 * (q * u) + u := by rw [Int.add_mul, Int.mul_assoc, Int.one_mul]
  have e5 : 2 * u * v = 2 * (u * v) := Int.mul_assoc 2 u v
  rw [e1, e2, e3, e4, e5]
  have p1 : 0 ≤ p → 0 ≤ p * v := fun h => Int.mul_nonneg h (by omega)
  have p2 : p ≤ -1 → p * v ≤ -1 * v := fun h => Int.mul_le_mul_of_nonneg_right h (by omega)
  have p3 : p ≤ u → p * v ≤ u * v := fun h => Int.mul_le_mul_of_nonneg_right h (by omega)
  have p4 : u + 1 ≤ p → (u + 1) * v ≤ p * v := fun h => Int.mul_le_mul_of_nonneg_right h (by omega)
  have p5 : (u + 1) * v = u * v + v := by rw [Int.add_mul, Int.one_mul]
  have q1 : 0 ≤ q → 0 ≤ q * u := fun h => Int.mul_nonneg h (by omega)
  have q2 : q ≤ -1 → q * u ≤ -1 * u := fun h => Int.mul_le_mul_of_nonneg_right h (by omega)
  have q3 : q ≤ v → q * u ≤ v * u := fun h => Int.mul_le_mul_of_nonneg_right h (by omega)
  have q4 : v + 1 ≤ q → (v + 1) * u ≤ q * u := fun h => Int.mul_le_mul_of_nonneg_right h (by omega)
  have q5 : (v + 1) * u = u * v + u := by rw [Int.add_mul, Int.one_mul, Int.mul_comm v u]
  have q6 : v * u = u * v := Int.mul_comm v u
  have c0 : 0 < u * v := Int.mul_pos hu hv
  rw [p5] at p4
  rw [q5] at q4
  rw [q6] at q3
  generalize p * v = A at *
  generalize q * u = B at *
  generalize u * v = C at *
  constructor
  · rintro ⟨⟨x1, x2, x3⟩, ⟨x4, x5, x6⟩, x7, x8, x9⟩
    have g1 : 0 ≤ p := by
      refine Int.not_lt.mp fun g => ?_
      have := p2 (by omega)
      omega
    have g2 : p ≤ u := by
      refine Int.not_lt.mp fun g => ?_
      have := p4 (by omega)
      omega
    have g3 : 0 ≤ q := by
      refine Int.not_lt.mp fun g => ?_
      have := q2 (by omega)
      omega
    have g4 : q ≤ v := by
      refine Int.not_lt.mp fun g => ?_
      have := q4 (by omega)
      omega
    refine ⟨g1, g2, g3, g4, ?_⟩
    omega
  · rintro ⟨g1, g2, g3, g4, g5⟩
    have := p1 g1
    have := p3 g2
    have := q1 g3
    have := q3 g4
    refine ⟨⟨?_, ?_, ?_⟩, ⟨?_, ?_, ?_⟩, ?_, ?_, ?_⟩ <;> omega
/-- .. of the world -/
def mr_bx (dx x : Int) : Prop := (0 ≤ x ∨ dx ≤ x) ∧ (x ≤ 0 ∨ x ≤ dx)
def mr_xs (dx dy x y : Int) : Prop := mr_bx dx x ∧ mr_bx dy y ∧ 2 * (dx * y - dy * x).natAbs < dx.natAbs + dy.natAbs
theorem mr_xs_of {a b c : Nat} : dq_xs a b c ↔ mr_xs (((b / 12 : Nat) : Int) - (a / 12 : Nat)) (((b % 12 : Nat) : Int) - (a % 12 : Nat)) (((c / 12 : Nat) : Int) - (a / 12 : Nat)) (((c % 12 : Nat) : Int) - (a % 12 : Nat)) := by
  unfold dq_xs mr_xs mr_bx
  constructor
  · rintro ⟨h1, h2, h3, h4, h5⟩
    exact ⟨⟨by omega, by omega⟩, ⟨by omega, by omega⟩, h5⟩
  · rintro ⟨⟨h1, h2⟩, ⟨h3, h4⟩, h5⟩
    exact ⟨by omega, by omega, by omega, by omega, h5⟩
theorem mr_turn {dx dy x y p q : Int} (hp1 : 0 ≤ dx → p = x) (hp2 : ¬ 0 ≤ dx → p = -x) (hq1 : 0 ≤ dy → q = y) (hq2 : ¬ 0 ≤ dy → q = -y) : (dx * y - dy * x).natAbs = (p * (dy.natAbs : Int) - q * (dx.natAbs : Int)).natAbs := by
  have c1 : x * dy = dy * x := Int.mul_comm x dy
  have c2 : y * dx = dx * y := Int.mul_comm y dx
  by_cases h1 : 0 ≤ dx
  · have n1 : (dx.natAbs : Int) = dx := by omega
    by_cases h2 : 0 ≤ dy
    · have n2 : (dy.natAbs : Int) = dy := by omega
      rw [n1, n2, hp1 h1, hq1 h2, c1, c2]
      omega
    · have n2 : (dy.natAbs : Int) = -dy := by omega
      rw [n1, n2, hp1 h1, hq2 h2, Int.mul_neg, Int.neg_mul, c1, c2]
      omega
  · have n1 : (dx.natAbs : Int) = -dx := by omega
    by_cases h2 : 0 ≤ dy
    · have n2 : (dy.natAbs : Int) = dy := by omega
      rw [n1, n2, hp2 h1, hq1 h2, Int.mul_neg, Int.neg_mul, c1, c2]
      omega
    · have n2 : (dy.natAbs : Int) = -dy := by omega
      rw [n1, n2, hp2 h1, hq2 h2, Int.mul_neg, Int.neg_mul, Int.mul_neg, Int.neg_mul, c1, c2]
      omega
theorem km_cr92 {dx dy x y p q X Y LX HX LY HY P : Int} (bdx : dx.natAbs ≤ 11) (bdy : dy.natAbs ≤ 11) (hp1 : 0 ≤ dx → p = x) (hp2 : ¬ 0 ≤ dx → p = -x) (hq1 : 0 ≤ dy → q = y) (hq2 : ¬ 0 ≤ dy → q = -y)
    (hP : P = 2 * X * Y) (hPb : P.natAbs ≤ 10000) (h1 : LX.natAbs ≤ 10000) (h2 : HX.natAbs ≤ 10000) (h3 : LY.natAbs ≤ 10000) (h4 : HY.natAbs ≤ 10000)
    (a1 : dx = 0 → LX = 0) (a2 : ¬ dx = 0 → LX = (2 * p - 1) * Y) (a3 : dx = 0 → HX = P) (a4 : ¬ dx = 0 → HX = (2 * p + 1) * Y)
    (b1 : dy = 0 → LY = 0) (b2 : ¬ dy = 0 → LY = (2 * q - 1) * X) (b3 : dy = 0 → HY = P) (b4 : ¬ dy = 0 → HY = (2 * q + 1) * X)
    (k1 : mr_c9 LX HX LY HY P → K 1 s) (k0 : ¬ mr_c9 LX HX LY HY P → K 0 s) : wf_X9_crosses_92 K (dq_iI dx) (dq_iI dy) (dq_iI x) (dq_iI y) (dq_iI X) (dq_iI Y) s := by
  have ex := km_i0 (z := dx) (by omega)
  have ey := km_i0 (z := dy) (by omega)
  have fin := km_cr121 (s := s) (K := K) bdx bdy hP hPb h1 h2 h3 h4 a1 a2 a3 a4 b1 b2 b3 b4 k1 k0
  unfold wf_X9_crosses_92
  have neg : ∀ z : Int, -(dq_iI z) = dq_iI (-z) := fun z => (Int32.ofInt_neg z).symm
  have go : ∀ L, L = dq_iI p → wf_X9_crosses_106 K (dq_iI dx) (dq_iI dy) (dq_iI y) (dq_iI X) (dq_iI Y) L s := by
    intro L hL
    subst hL
    unfold wf_X9_crosses_106
    refine br_c (fun h => ?_) (fun h => ?_)
    · rw [← hq1 (ey.1 h)]; exact fin
    · rw [neg, ← hq2 (fun g => h (ey.2 g))]; exact fin
  refine br_c (fun h => go _ ?_) (fun h => go _ ?_)
  · rw [hp1 (ex.1 h)]
  · rw [neg, hp2 (fun g => h (ex.2 g))]
theorem mr_both {dx dy x y p q : Int} (hp1 : 0 ≤ dx → p = x) (hp2 : ¬ 0 ≤ dx → p = -x) (hq1 : 0 ≤ dy → q = y) (hq2 : ¬ 0 ≤ dy → q = -y) (g1 : ¬ dx = 0) (g2 : ¬ dy = 0) : mr_c9 ((2 * p - 1) * (dy.natAbs : Int)) ((2 * p + 1) * (dy.natAbs : Int)) ((2 * q - 1) * (dx.natAbs : Int)) ((2 * q + 1) * (dx.natAbs : Int)) (2 * (dx.natAbs : Int) * (dy.natAbs : Int)) ↔ mr_xs dx dy x y := by
  rw [mr_strip (by omega) (by omega)]
  unfold mr_xs
  rw [mr_turn hp1 hp2 hq1 hq2]
  generalize (p * (dy.natAbs : Int) - q * (dx.natAbs : Int)).natAbs = N
  have b1 : mr_bx dx x ↔ (0 ≤ p ∧ p ≤ (dx.natAbs : Int)) := by
    unfold mr_bx
    by_cases c1 : 0 ≤ dx
    · have := hp1 c1
      omega
    · have := hp2 c1
      omega
  have b2 : mr_bx dy y ↔ (0 ≤ q ∧ q ≤ (dy.natAbs : Int)) := by
    unfold mr_bx
    by_cases c1 : 0 ≤ dy
    · have := hq1 c1
      omega
    · have := hq2 c1
      omega
  rw [b1, b2]
  constructor
  · rintro ⟨h1, h2, h3, h4, h5⟩
    exact ⟨⟨h1, h2⟩, ⟨h3, h4⟩, by omega⟩
  · rintro ⟨⟨h1, h2⟩, ⟨h3, h4⟩, h5⟩
    exact ⟨h1, h2, h3, h4, by omega⟩
theorem mr_oney {dy y q : Int} (hq1 : 0 ≤ dy → q = y) (hq2 : ¬ 0 ≤ dy → q = -y) (g2 : ¬ dy = 0) : mr_c9 0 (2 * 1 * (dy.natAbs : Int)) ((2 * q - 1) * 1) ((2 * q + 1) * 1) (2 * 1 * (dy.natAbs : Int)) ↔ mr_xs 0 dy 0 y := by
  unfold mr_c9 mr_xs mr_bx
  rw [Int.zero_mul, Int.mul_zero]
  by_cases c2 : 0 ≤ dy
  · have := hq1 c2
    omega
  · have := hq2 c2
    omega
theorem mr_onex {dx x p : Int} (hp1 : 0 ≤ dx → p = x) (hp2 : ¬ 0 ≤ dx → p = -x) (g1 : ¬ dx = 0) : mr_c9 ((2 * p - 1) * 1) ((2 * p + 1) * 1) 0 (2 * (dx.natAbs : Int) * 1) (2 * (dx.natAbs : Int) * 1) ↔ mr_xs dx 0 x 0 := by
  unfold mr_c9 mr_xs mr_bx
  rw [Int.zero_mul, Int.mul_zero]
  by_cases c2 : 0 ≤ dx
  · have := hp1 c2
    omega
  · have := hp2 c2
    omega
theorem mr_turned {d x : Int} : ∃ p : Int, (0 ≤ d → p = x) ∧ (¬ 0 ≤ d → p = -x) ∧ p.natAbs = x.natAbs := by
  by_cases g : 0 ≤ d
  · exact ⟨x, fun _ => rfl, fun h => absurd g h, rfl⟩
  · exact ⟨-x, fun h => absurd h g, fun _ => rfl, by omega⟩
theorem km_crB {dx dy x y : Int} (bdx : dx.natAbs ≤ 11) (bdy : dy.natAbs ≤ 11) (bx : x.natAbs ≤ 11) (by' : y.natAbs ≤ 11) (g1 : ¬ dx = 0) (g2 : ¬ dy = 0) (k1 : mr_xs dx dy x y → K 1 s) (k0 : ¬ mr_xs dx dy x y → K 0 s) : wf_X9_crosses_92 K (dq_iI dx) (dq_iI dy) (dq_iI x) (dq_iI y) (nI dx.natAbs) (nI dy.natAbs) s := by
  obtain ⟨p, hp1, hp2, bp⟩ := mr_turned (d := dx) (x := x)
  obtain ⟨q, hq1, hq2, bq⟩ := mr_turned (d := dy) (x := y)
  rw [dq_iN, dq_iN]
  have m1 := mr_mb (x := 2 * p - 1) (y := (dy.natAbs : Int)) (by omega) (by omega)
  have m2 := mr_mb (x := 2 * p + 1) (y := (dy.natAbs : Int)) (by omega) (by omega)
  have m3 := mr_mb (x := 2 * q - 1) (y := (dx.natAbs : Int)) (by omega) (by omega)
  have m4 := mr_mb (x := 2 * q + 1) (y := (dx.natAbs : Int)) (by omega) (by omega)
  have m5 := mr_mb (x := 2 * (dx.natAbs : Int)) (y := (dy.natAbs : Int)) (by omega) (by omega)
  have up : ∀ {z : Int}, z.natAbs ≤ 506 → z.natAbs ≤ 10000 := fun h => by omega
  have e2 := mr_both hp1 hp2 hq1 hq2 g1 g2
  exact km_cr92 bdx bdy hp1 hp2 hq1 hq2 rfl (up m5) (up m1) (up m2) (up m3) (up m4) (fun h => absurd h g1) (fun _ => rfl) (fun h => absurd h g1) (fun _ => rfl) (fun h => absurd h g2) (fun _ => rfl) (fun h => absurd h g2) (fun _ => rfl) (fun h => k1 (e2.1 h)) (fun h => k0 fun g => h (e2.2 g))
theorem km_crY {dy y : Int} (bdy : dy.natAbs ≤ 11) (by' : y.natAbs ≤ 11) (g2 : ¬ dy = 0) (k1 : mr_xs 0 dy 0 y → K 1 s) (k0 : ¬ mr_xs 0 dy 0 y → K 0 s) : wf_X9_crosses_92 K (dq_iI 0) (dq_iI dy) (dq_iI 0) (dq_iI y) 1 (nI dy.natAbs) s := by
  obtain ⟨q, hq1, hq2, bq⟩ := mr_turned (d := dy) (x := y)
  rw [dq_iN, show (1 : Int32) = dq_iI 1 from rfl]
  have m1 : (2 * 1 * (dy.natAbs : Int)).natAbs ≤ 10000 := by omega
  have m2 : ((2 * q - 1) * 1).natAbs ≤ 10000 := by omega
  have m3 : ((2 * q + 1) * 1).natAbs ≤ 10000 := by omega
  have e2 := mr_oney hq1 hq2 g2
  exact km_cr92 (p := 0) (q := q) (by decide) bdy (fun _ => rfl) (fun _ => rfl) hq1 hq2 rfl m1 (by decide) m1 m2 m3 (fun _ => rfl) (fun h => absurd rfl h) (fun _ => rfl) (fun h => absurd rfl h) (fun h => absurd h g2) (fun _ => rfl) (fun h => absurd h g2) (fun _ => rfl) (fun h => k1 (e2.1 h)) (fun h => k0 fun g => h (e2.2 g))
theorem km_crX {dx x : Int} (bdx : dx.natAbs ≤ 11) (bx : x.natAbs ≤ 11) (g1 : ¬ dx = 0) (k1 : mr_xs dx 0 x 0 → K 1 s) (k0 : ¬ mr_xs dx 0 x 0 → K 0 s) : wf_X9_crosses_92 K (dq_iI dx) (dq_iI 0) (dq_iI x) (dq_iI 0) (nI dx.natAbs) 1 s := by
  obtain ⟨p, hp1, hp2, bp⟩ := mr_turned (d := dx) (x := x)
  rw [dq_iN, show (1 : Int32) = dq_iI 1 from rfl]
  have m1 : (2 * (dx.natAbs : Int) * 1).natAbs ≤ 10000 := by omega
  have m2 : ((2 * p - 1) * 1).natAbs ≤ 10000 := by omega
  have m3 : ((2 * p + 1) * 1).natAbs ≤ 10000 := by omega
  have e2 := mr_onex hp1 hp2 g1
  exact km_cr92 (p := p) (q := 0) bdx (by decide) hp1 hp2 (fun _ => rfl) (fun _ => rfl) rfl m1 m2 m3 (by decide) m1 (fun h => absurd h g1) (fun _ => rfl) (fun h => absurd h g1) (fun _ => rfl) (fun _ => rfl) (fun h => absurd rfl h) (fun _ => rfl) (fun h => absurd rfl h) (fun h => k1 (e2.1 h)) (fun h => k0 fun g => h (e2.2 g))
theorem km_cr52 {dx dy x y : Int} (bdx : dx.natAbs ≤ 11) (bdy : dy.natAbs ≤ 11) (bx : x.natAbs ≤ 11) (by' : y.natAbs ≤ 11) (hx : dx = 0 → x = 0) (hn : ¬ (x = 0 ∧ y = 0)) (k1 : mr_xs dx dy x y → K 1 s) (k0 : ¬ mr_xs dx dy x y → K 0 s) : wf_X9_crosses_52 K (dq_iI dx) (dq_iI dy) (dq_iI x) (dq_iI y) s := by
  have ex := km_iz (z := dx) (by omega)
  have ey := km_iz (z := dy) (by omega)
  have eyy := km_iz (z := y) (by omega)
  have b1 : dx.natAbs ≤ 1000 := by omega
  have b2 : dy.natAbs ≤ 1000 := by omega
  have fx : (wf_X9_crosses_76 K (dq_iI dx) (dq_iI dy) (dq_iI x) (dq_iI y) (nI dx.natAbs) s) → wf_X9_far (dq_iI dx) s (fun r24 s23 => wf_X9_crosses_76 K (dq_iI dx) (dq_iI dy) (dq_iI x) (dq_iI y) r24 s23) := fun h => km_far b1 h
  unfold wf_X9_crosses_52
  refine dq_rb (fun h => ?_) (fun h => ?_)
  · have g2 : ¬ dy = 0 := fun g => h (ey.2 g)
    refine dq_rb (fun h1 => ?_) (fun h1 => ?_)
    · have g1 : ¬ dx = 0 := fun g => h1 (ex.2 g)
      refine fx ?_
      unfold wf_X9_crosses_76
      exact dq_rf h (km_far b2 (km_crB bdx bdy bx by' g1 g2 k1 k0))
    · have g1 := ex.1 h1
      have gx := hx g1
      subst g1
      subst gx
      unfold wf_X9_crosses_76
      exact dq_rf h (km_far b2 (km_crY bdy by' g2 k1 k0))
  · have g2 := ey.1 h
    refine br_c (fun h3 => ?_) (fun h3 => k0 ?_)
    · have gy := eyy.1 h3
      have gx : ¬ x = 0 := fun g => hn ⟨g, gy⟩
      have g1 : ¬ dx = 0 := fun g => gx (hx g)
      refine dq_rb (fun h1 => ?_) (fun h1 => absurd (ex.1 h1) g1)
      refine fx ?_
      subst g2
      subst gy
      unfold wf_X9_crosses_76
      exact dq_rt rfl (km_crX bdx bx g1 k1 k0)
    · have gy : ¬ y = 0 := fun g => h3 (eyy.2 g)
      unfold mr_xs mr_bx
      rintro ⟨_, ⟨q1, q2⟩, _⟩
      omega
theorem km_crosses {a b c : Nat} (ha : a < 144) (hb : b < 144) (hc : c < 144) (hca : c ≠ a) (k1 : dq_xs a b c → K 1 s) (k0 : ¬ dq_xs a b c → K 0 s) : wf_X9_crosses (nI (mt_T a)) (nI (mt_T b)) (nI (mt_T c)) s K := by
  unfold wf_X9_crosses
  rw [mr_xs_of] at k1 k0
  refine km_xOf hb (km_xOf ha (nm_r (dq_subN _ _) (km_yOf hb (km_yOf ha (nm_r (dq_subN _ _) (km_xOf hc (km_xOf ha (nm_r (dq_subN _ _) (km_yOf hc (km_yOf ha (nm_r (dq_subN _ _) ?_)))))))))))
  have e1 := km_iz (z := ((b / 12 : Nat) : Int) - (a / 12 : Nat)) (by omega)
  have e2 := km_iz (z := ((c / 12 : Nat) : Int) - (a / 12 : Nat)) (by omega)
  have go := fun h => km_cr52 (s := s) (K := K) (dx := ((b / 12 : Nat) : Int) - (a / 12 : Nat)) (dy := ((b % 12 : Nat) : Int) - (a % 12 : Nat)) (x := ((c / 12 : Nat) : Int) - (a / 12 : Nat)) (y := ((c % 12 : Nat) : Int) - (a % 12 : Nat)) (by omega) (by omega) (by omega) (by omega) h (by omega) k1 k0
  refine dq_rb (fun h => go fun g => absurd (e1.2 g) h) (fun h => dq_rb (fun h2 => k0 ?_) (fun h2 => go fun _ => e2.1 h2))
  have g1 := e1.1 h
  have g2 : ¬ (((c / 12 : Nat) : Int) - (a / 12 : Nat)) = 0 := fun g => h2 (e2.2 g)
  unfold mr_xs mr_bx
  rintro ⟨⟨q1, q2⟩, _⟩
  omega
end DQCR
/-- a loop that goes one turn more where it fails -/
theorem dq_ls2 (W : Nat → Nat → Prop) (P : Nat → Prop) (e : Nat) (hx : ∀ n, (∀ j, j < e → P j) → W (n + 1) e) (hs : ∀ n i, i < e → (∀ j, j < i → P j) → (P i → W (n + 1) (i + 1)) → W (n + 2) i) : ∃ n, W n 0 := by
  have key : ∀ d i, i + d = e → (∀ j, j < i → P j) → W (d + 1) i := by
    intro d
    induction d with
    | zero => intro i h hP; rw [show i = e by omega] at hP ⊢; exact hx 0 hP
    | succ d ih =>
      intro i h hP
      refine hs d i (by omega) hP (fun hi => ih (i + 1) (by omega) (fun j hj => ?_))
      by_cases hji : j = i
      · rw [hji]; exact hi
      · exact hP j (by omega)
  exact ⟨e + 1, key e 0 (by omega) (fun j hj => absurd hj (by omega))⟩
section DQX2
variable {n t l : Nat} {w : dq_W} {s : dk_S} {K : Int32 → dk_S → Prop} {J : dk_S → Prop}
theorem km_sees {a b : Nat} (R : mr_R w (s 4)) (ha : a < 144) (hb : b < 144) (k1 : dq_see w a b → K 1 s) (k0 : ¬ dq_see w a b → K 0 s) : wf_X9_sees (nI (mt_T a)) (nI (mt_T b)) s K := by
  unfold wf_X9_sees
  have la := mt_T_lt ha
  have lb := mt_T_lt hb
  refine dq_ls2 (fun m i => wf_X9_sees_5 K m (nI (mt_T a)) (nI (mt_T b)) 1 (nI i) s) (fun i => mt_T i = a ∨ mt_T i = b ∨ dq_free (w 2 (mt_T i)) ∨ ¬ dq_xs a b (mt_T i)) 144 ?_ ?_
  · intro m h
    show wf_X9_sees_5 K (m + 1) (nI (mt_T a)) (nI (mt_T b)) 1 (nI 144) s
    unfold wf_X9_sees_5
    refine br_t (by decide) ⟨dq_nz1, k1 fun c hc h1 h2 h3 => ?_⟩
    have := h (mt_T c) (mt_T_lt hc)
    rw [mt_T_T hc] at this
    rcases this with g | g | g | g
    · exact absurd g h1
    · exact absurd g h2
    · exact g
    · exact absurd h3 g
  · intro m i hi hp h
    show wf_X9_sees_5 K (m + 2) (nI (mt_T a)) (nI (mt_T b)) 1 (nI i) s
    have li := mt_T_lt hi
    have nx : (mt_T i = a ∨ mt_T i = b ∨ dq_free (w 2 (mt_T i)) ∨ ¬ dq_xs a b (mt_T i)) → ∀ B : Int32 → Int32 → Int32 → Int32 → dk_S → Prop, (∀ x y z u v, B x y z u v = wf_X9_sees_5 K (m + 1) x y z u v) → wf_X9_sees_48 K B (nI (mt_T a)) (nI (mt_T b)) (nI i) s := by
      intro g B hB
      unfold wf_X9_sees_48
      refine nm_r (nI_1 i) ?_
      rw [hB]; exact h g
    unfold wf_X9_sees_5
    refine br_f (nI_ge (b := 144) hi (by decide)) (br_f (by decide) (br_c (fun h1 => nx (Or.inl ?_) _ (fun _ _ _ _ _ => rfl)) (fun h1 => br_c (fun h2 => nx (Or.inr (Or.inl ?_)) _ (fun _ _ _ _ _ => rfl)) (fun h2 => ?_))))
    · have := (nI_eq (by omega) (by omega)).1 h1
      rw [this, mt_T_T ha]
    · have := (nI_eq (by omega) (by omega)).1 h2
      rw [this, mt_T_T hb]
    · have ei : nI i = mt_pI (mt_T i) := by rw [mt_pI_in li, mt_T_T hi]
      have q : wf_X9_isFree (mt_pI (mt_T i)) s (fun r3 s2 => ((¬ r3 = 0 → wf_X9_sees_48 K (wf_X9_sees_5 K (m + 1)) (nI (mt_T a)) (nI (mt_T b)) (nI i) s2) ∧ (r3 = 0 → wf_X9_crosses (nI (mt_T a)) (nI (mt_T b)) (nI i) s2 (fun r5 s4 => ((¬ r5 = 0 → ∀ v6 : Int32, v6 = nI i + 1 → wf_X9_sees_5 K (m + 1) (nI (mt_T a)) (nI (mt_T b)) 0 v6 s4) ∧ (r5 = 0 → wf_X9_sees_48 K (wf_X9_sees_5 K (m + 1)) (nI (mt_T a)) (nI (mt_T b)) (nI i) s4)))))) := by
        refine km_isFree R (by omega) (fun f => dq_1' (nx (Or.inr (Or.inr (Or.inl ?_))) _ (fun _ _ _ _ _ => rfl))) (fun f => dq_0' ?_)
        · rw [dq_sg_in li] at f; exact f
        · rw [dq_sg_in li] at f
          have na : mt_T i ≠ a := fun g => h1 (by rw [← g, mt_T_T hi])
          have nb : mt_T i ≠ b := fun g => h2 (by rw [← g, mt_T_T hi])
          have q2 := km_crosses (s := s) (K := (fun r5 s4 => ((¬ r5 = 0 → ∀ v6 : Int32, v6 = nI i + 1 → wf_X9_sees_5 K (m + 1) (nI (mt_T a)) (nI (mt_T b)) 0 v6 s4) ∧ (r5 = 0 → wf_X9_sees_48 K (wf_X9_sees_5 K (m + 1)) (nI (mt_T a)) (nI (mt_T b)) (nI i) s4)))) ha hb li na (fun x => dq_1' (nm_r (nI_1 i) ?_)) (fun x => dq_0' (nx (Or.inr (Or.inr (Or.inr x))) _ (fun _ _ _ _ _ => rfl)))
          · rw [mt_T_T hi] at q2; exact q2
          · have no : K 0 s := k0 fun g => f (g _ li na nb x)
            show wf_X9_sees_5 K (m + 1) (nI (mt_T a)) (nI (mt_T b)) 0 (nI (i + 1)) s
            unfold wf_X9_sees_5
            exact br_c (fun _ => ⟨dq_nz0, no⟩) (fun _ => br_t rfl ⟨dq_nz0, no⟩)
      rw [← ei] at q
      exact q
theorem km_isLit {c : Nat} (R : mr_R w (s 4)) (I : dq_IV n t l w) (hc : c < 144) (k1 : dq_lit w l c → K 1 s) (k0 : ¬ dq_lit w l c → K 0 s) : wf_X9_isLit (nI (mt_T c)) s K := by
  unfold wf_X9_isLit
  have l4 := I.l4
  refine dq_ls2 (fun m i => wf_X9_isLit_4 K m (nI (mt_T c)) 0 (nI i) s) (fun i => ¬ (dq_ln w c i ∧ dq_see w (dq_lpn w i) c)) l ?_ ?_
  · intro m h
    show wf_X9_isLit_4 K (m + 1) (nI (mt_T c)) 0 (nI l) s
    unfold wf_X9_isLit_4
    rw [R.n18, I.hl]
    exact br_t (nI_le (Nat.le_refl _) (by omega)) ⟨dq_nz0, k0 fun ⟨i, hi, h1, h2⟩ => h i hi ⟨h1, h2⟩⟩
  · intro m i hi hp h
    show wf_X9_isLit_4 K (m + 2) (nI (mt_T c)) 0 (nI i) s
    unfold wf_X9_isLit_4
    rw [R.n18, I.hl]
    have hlp := I.lp i (by omega)
    have e27 : s 4 73 i = nI (mt_T (dq_lpn w i)) := by rw [R.r73 (by omega), hlp.2, mt_V_c hlp.1]; rfl
    have hpl : dq_lpn w i < 144 := hlp.1
    refine br_f (nI_ge hi (by omega)) (dq_rt rfl (km_xOf hc ⟨vp_in_nI (by omega) (by decide), ?_⟩))
    rw [nI_clamp (by omega), e27]
    refine km_xOf hpl (nm_r (dq_subN _ _) (km_yOf hc ⟨vp_in_nI (by omega) (by decide), ?_⟩))
    rw [e27]
    refine km_yOf hpl (nm_r (dq_subN _ _) ⟨vp_in_nI (by omega) (by decide), vp_in_nI (by omega) (by decide), ?_⟩)
    rw [R.r74 (by omega)]
    have sq : dq_iI (((c / 12 : Nat) : Int) - (dq_lpn w i / 12 : Nat)) * dq_iI (((c / 12 : Nat) : Int) - (dq_lpn w i / 12 : Nat)) + dq_iI (((c % 12 : Nat) : Int) - (dq_lpn w i % 12 : Nat)) * dq_iI (((c % 12 : Nat) : Int) - (dq_lpn w i % 12 : Nat)) = dq_iI ((((dq_lpn w i / 12 : Nat) : Int) - (c / 12 : Nat)) * (((dq_lpn w i / 12 : Nat) : Int) - (c / 12 : Nat)) + (((dq_lpn w i % 12 : Nat) : Int) - (c % 12 : Nat)) * (((dq_lpn w i % 12 : Nat) : Int) - (c % 12 : Nat))) := by
      rw [dq_imul, dq_imul, dq_iadd]
      congr 2
      · rw [← Int.neg_mul_neg]; congr 1 <;> omega
      · rw [← Int.neg_mul_neg]; congr 1 <;> omega
    rw [sq]
    refine br_c (fun h1 => nm_r (nI_1 i) (h fun g => g.1 h1)) (fun h1 => ⟨vp_in_nI (by omega) (by decide), ?_⟩)
    rw [e27]
    refine km_sees R hpl hc (fun v => dq_1 (nm_r (nI_1 i) ?_)) (fun v => dq_0 (nm_r (nI_1 i) (h fun g => v g.2)))
    have yes : K 1 s := k1 ⟨i, hi, h1, v⟩
    show wf_X9_isLit_4 K (m + 1) (nI (mt_T c)) 1 (nI (i + 1)) s
    unfold wf_X9_isLit_4
    exact br_c (fun _ => ⟨dq_nz1, yes⟩) (fun _ => dq_rf (by decide) ⟨dq_nz1, yes⟩)
theorem km_heroSeesCell {c : Nat} (R : mr_R w (s 4)) (I : dq_IV n t l w) (hc : c < 144) (k1 : dq_sn w l c → K 1 s) (k0 : ¬ dq_sn w l c → K 0 s) : wf_X9_heroSeesCell (nI (mt_T c)) s K := by
  unfold wf_X9_heroSeesCell
  have hp := (I.pl 0 (by decide)).1
  have e := mr_place R I.pl (b := 0) (by decide)
  have e' : s 4 76 (0 : Int32).toNatClampNeg = nI (mt_T (dq_pl w 0)) := e
  rw [R.n30, e']
  refine br_c (fun h => ⟨dq_v0 (by decide) (by decide), ?_⟩) (fun h => ⟨dq_v0 (by decide) (by decide), ?_⟩)
  · refine km_sees R hp hc (fun v => dq_1 ⟨dq_v0 (by decide) (by decide), ?_⟩) (fun v => dq_0 (k0 ?_))
    · rw [e']
      refine km_around hp hc ?_
      refine br_c (fun g => k1 (Or.inr ⟨h, v, Or.inl ?_⟩)) (fun g => ?_)
      · refine (nI_leI (b := 1) ?_ (by decide)).1 g
        unfold dq_gp; omega
      · have ng : ¬ dq_gp (dq_pl w 0) c ≤ 1 := fun q => g ((nI_leI (b := 1) (by unfold dq_gp; omega) (by decide)).2 q)
        refine km_isLit R I hc (fun q => dq_1 (k1 (Or.inr ⟨h, v, Or.inr q⟩))) (fun q => dq_0 (k0 ?_))
        rintro (⟨r, _⟩ | ⟨_, _, r | r⟩)
        · exact r h
        · exact ng r
        · exact q r
    · rintro (⟨r, _⟩ | ⟨_, r, _⟩)
      · exact r h
      · exact v r
  · have hc2 := mt_T_lt hc
    have hp2 := mt_T_lt hp
    refine dq_rb (fun g => k0 ?_) (fun g => k1 (Or.inl ⟨h, ?_⟩))
    · rintro (⟨_, r⟩ | ⟨r, _⟩)
      · exact g (by rw [r])
      · exact h r
    · exact (mt_T_i hc hp).1 ((nI_eq (by omega) (by omega)).1 g)
end DQX2
