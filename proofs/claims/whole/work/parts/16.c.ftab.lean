/-! no answer *of* livingShare or meanHealth is a NaN -/
theorem fd_w0 : ∀ a, a < 9 → ∀ b, b < 9 → 0 < b → FP.f2d (FP.fdiv (FP.i2f (nI a)) (FP.i2f (nI b))) &&& 0x7fffffffffffffff ≤ 0x7ff0000000000000 := by decide +kernel
theorem fd_w {a b : Nat} (ha : a < 9) (hb : b < 9) (h : 0 < b) : vf_n64 (FP.f2d (FP.fdiv (FP.i2f (nI a)) (FP.i2f (nI b)))) := fd_w0 a ha b hb h
theorem fd_d0 : ∀ b, b < 9 → 0 < b → ∀ a, a < 800 → FP.ddiv (FP.i2d (nI a)) (FP.i2d (nI b)) &&& 0x7fffffffffffffff ≤ 0x7ff0000000000000 := by decide +kernel
theorem fd_d {a b : Nat} (ha : a < 800) (hb : b < 9) (h : 0 < b) : vf_n64 (FP.ddiv (FP.i2d (nI a)) (FP.i2d (nI b))) := fd_d0 b hb h a ha
