/-! rows *for* float and double -/
section DKF
variable {G : dk_G} {p : Program} {l : Launch} {e : Env} {R : Room} {s : State} {m : MethodId} {args : Array Value} {below : List Frame} {meth : Method} {c : Code} {cells slots : Nat} {Q : State → Prop}
variable {cc : ByteArray} {nL : Nat} {own : String} {pc n : Nat} {L L' : List (Option Value)} {st st' : List Value} {σ : dk_S}
theorem dk_i2f (C : dk_C G p R s m args c cells slots cc nL own) {x : Int32} (d : decode cc pc = .ok (.i2f, 1)) (hn : pc + 1 = n) (k : dk_W G p l e R s m args below meth c cells slots Q n L (.float (FP.i2f x) :: st) σ) : dk_W G p l e R s m args below meth c cells slots Q pc L (.int x :: st) σ := fun H locs ls hL hP hS => by
  subst hn
  exact lv_i2f C.1 C.2.1 d (k H locs ls hL hP hS)
theorem dk_i2d (C : dk_C G p R s m args c cells slots cc nL own) {x : Int32} (d : decode cc pc = .ok (.i2d, 1)) (hn : pc + 1 = n) (k : dk_W G p l e R s m args below meth c cells slots Q n L (.double (FP.i2d x) :: st) σ) : dk_W G p l e R s m args below meth c cells slots Q pc L (.int x :: st) σ := fun H locs ls hL hP hS => by
  subst hn
  exact lv_i2d C.1 C.2.1 d (k H locs ls hL hP hS)
theorem dk_fdiv (C : dk_C G p R s m args c cells slots cc nL own) {x y : UInt32} (d : decode cc pc = .ok (.fdiv, 1)) (hn : pc + 1 = n) (hne : vf_n32 (FP.fdiv x y)) (k : dk_W G p l e R s m args below meth c cells slots Q n L (.float (FP.fdiv x y) :: st) σ) : dk_W G p l e R s m args below meth c cells slots Q pc L (.float y :: .float x :: st) σ := fun H locs ls hL hP hS => by
  subst hn
  exact lv_fdiv C.1 C.2.1 d hne (k H locs ls hL hP hS)
theorem dk_ddiv (C : dk_C G p R s m args c cells slots cc nL own) {x y : UInt64} (d : decode cc pc = .ok (.ddiv, 1)) (hn : pc + 1 = n) (hne : vf_n64 (FP.ddiv x y)) (k : dk_W G p l e R s m args below meth c cells slots Q n L (.double (FP.ddiv x y) :: st) σ) : dk_W G p l e R s m args below meth c cells slots Q pc L (.double y :: .double x :: st) σ := fun H locs ls hL hP hS => by
  subst hn
  exact lv_ddiv C.1 C.2.1 d hne (k H locs ls hL hP hS)
theorem dk_fret (C : dk_C G p R s m args c 0 0 cc nL own) {K : Option Value → dk_S → Prop} {v : UInt32} (hr : meth.sig.returnType = some .float) (hlk : meth.locks = false) (d : decode cc pc = .ok (.freturn, 1)) (k : K (some (.float v)) σ) :
    dk_W G p l e R s m args below meth c 0 0 (MQ below (dk_Qc G K) args s 0 0 (dk_A G)) pc L [.float v] σ := fun H locs ls hL hP hS =>
  W.fret C.1 C.2.1 hr (fun t ht hW => ⟨⟨_, σ, rfl, k, by rw [ht]; exact hP⟩, hS.F ht⟩) hS.2.2 d hlk
theorem dk_dret (C : dk_C G p R s m args c 0 0 cc nL own) {K : Option Value → dk_S → Prop} {v : UInt64} (hr : meth.sig.returnType = some .double) (hlk : meth.locks = false) (d : decode cc pc = .ok (.dreturn, 1)) (k : K (some (.double v)) σ) :
    dk_W G p l e R s m args below meth c 0 0 (MQ below (dk_Qc G K) args s 0 0 (dk_A G)) pc L [.double v] σ := fun H locs ls hL hP hS =>
  W.dret C.1 C.2.1 hr (fun t ht hW => ⟨⟨_, σ, rfl, k, by rw [ht]; exact hP⟩, hS.F ht⟩) hS.2.2 d hlk
end DKF
theorem fd_f0 : ∀ a, a < 9 → ∀ b, b < 9 → 0 < b → FP.fdiv (FP.i2f (nI a)) (FP.i2f (nI b)) &&& 0x7fffffff ≤ 0x7f800000 := by decide +kernel
theorem fd_f {a b : Nat} (ha : a < 9) (hb : b < 9) (h : 0 < b) : vf_n32 (FP.fdiv (FP.i2f (nI a)) (FP.i2f (nI b))) := fd_f0 a ha b hb h
