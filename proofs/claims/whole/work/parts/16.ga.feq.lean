/-! an answer *of* livingShare or meanHealth is like itself -/
theorem fd_q0 : ∀ a, a < 9 → ∀ b, b < 9 → 0 < b → FP.dcmp (FP.f2d (FP.fdiv (FP.i2f (nI a)) (FP.i2f (nI b)))) (FP.f2d (FP.fdiv (FP.i2f (nI a)) (FP.i2f (nI b)))) = some .eq := by decide +kernel
theorem fd_q {a b : Nat} (ha : a < 9) (hb : b < 9) (h : 0 < b) : FP.dcmp (FP.f2d (FP.fdiv (FP.i2f (nI a)) (FP.i2f (nI b)))) (FP.f2d (FP.fdiv (FP.i2f (nI a)) (FP.i2f (nI b)))) = some .eq := fd_q0 a ha b hb h
theorem fd_r0 : ∀ b, b < 9 → 0 < b → ∀ a, a < 800 → FP.dcmp (FP.ddiv (FP.i2d (nI a)) (FP.i2d (nI b))) (FP.ddiv (FP.i2d (nI a)) (FP.i2d (nI b))) = some .eq := by decide +kernel
theorem fd_r {a b : Nat} (ha : a < 800) (hb : b < 9) (h : 0 < b) : FP.dcmp (FP.ddiv (FP.i2d (nI a)) (FP.i2d (nI b))) (FP.ddiv (FP.i2d (nI a)) (FP.i2d (nI b))) = some .eq := fd_r0 b hb h a ha
