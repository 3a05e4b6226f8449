/-- the frame judgement: from pc, with these locals, this stack and this store, the run comes to Q -/
def dk_W (G : dk_G) (p : Program) (l : Launch) (e : Env) (R : Room) (s : State) (m : MethodId) (args : Array Value) (below : List Frame) (meth : Method) (c : Code) (cells slots : Nat) (Q : State → Prop) (pc : Nat) (L : List (Option Value)) (st : List Value) (σ : dk_S) : Prop :=
  ∀ (H : Heap) (locs : List Loc) (ls : Array Slot), dk_L L ls → va_P G.1 dk_cl (dk_wsl G σ) H → va_S (dk_A G) s.heap H locs → W p l e R s m args below meth c H locs cells slots Q (F0 m pc ls st)
section DKR
variable {G : dk_G} {p : Program} {l : Launch} {e : Env} {R : Room} {s : State} {m : MethodId} {args : Array Value} {below : List Frame} {meth : Method} {c : Code} {cells slots : Nat} {Q : State → Prop}
variable {cc : ByteArray} {nL : Nat} {own : String} {pc n : Nat} {L L' : List (Option Value)} {st : List Value} {σ : dk_S}

theorem dk_iconst (C : dk_C G p R s m args c cells slots cc nL own) {i : Int} {v : Int32} (d : decode cc pc = .ok (.iconst i, 1)) (hn : pc + 1 = n) (hv : Int32.ofInt i = v) (k : dk_W G p l e R s m args below meth c cells slots Q n L (.int v :: st) σ) : dk_W G p l e R s m args below meth c cells slots Q pc L st σ := fun H locs ls hL hP hS => by
  subst hn
  exact lv_iconst C.1 C.2.1 d hv (k H locs ls hL hP hS)
theorem dk_bipush (C : dk_C G p R s m args c cells slots cc nL own) {i : Int} {v : Int32} (d : decode cc pc = .ok (.bipush i, 2)) (hn : pc + 2 = n) (hv : (Int8.ofInt i).toInt32 = v) (k : dk_W G p l e R s m args below meth c cells slots Q n L (.int v :: st) σ) : dk_W G p l e R s m args below meth c cells slots Q pc L st σ := fun H locs ls hL hP hS => by
  subst hn
  exact lv_bipush C.1 C.2.1 d hv (k H locs ls hL hP hS)
theorem dk_sipush (C : dk_C G p R s m args c cells slots cc nL own) {i : Int} {v : Int32} (d : decode cc pc = .ok (.sipush i, 3)) (hn : pc + 3 = n) (hv : (Int16.ofInt i).toInt32 = v) (k : dk_W G p l e R s m args below meth c cells slots Q n L (.int v :: st) σ) : dk_W G p l e R s m args below meth c cells slots Q pc L st σ := fun H locs ls hL hP hS => by
  subst hn
  exact lv_sipush C.1 C.2.1 d hv (k H locs ls hL hP hS)
theorem dk_ldc (C : dk_C G p R s m args c cells slots cc nL own) {i : Nat} {v : Int32} (d : decode cc pc = .ok (.ldc i, 2)) (hn : pc + 2 = n) (hw : Cond.constant own i v ∈ dk_ws) (k : dk_W G p l e R s m args below meth c cells slots Q n L (.int v :: st) σ) : dk_W G p l e R s m args below meth c cells slots Q pc L st σ := fun H locs ls hL hP hS => by
  subst hn
  exact lv_ldc C.1 C.2.1 C.2.2.2.1 (C.2.2.2.2.1 _ hw) d (k H locs ls hL hP hS)
theorem dk_iload_n (C : dk_C G p R s m args c cells slots cc nL own) {x : Int32} {k0 : Fin 4} {i : Nat} (d : decode cc pc = .ok (.iload_n k0, 1)) (hn : pc + 1 = n) (hi : (k0 : Nat) = i) (hv : L[i]? = some (some (.int x))) (k : dk_W G p l e R s m args below meth c cells slots Q n L (.int x :: st) σ) : dk_W G p l e R s m args below meth c cells slots Q pc L st σ := fun H locs ls hL hP hS => by
  subst hn
  exact lv_iload_n C.1 C.2.1 d hi (hL.at hv) (k H locs ls hL hP hS)
theorem dk_iload (C : dk_C G p R s m args c cells slots cc nL own) {x : Int32} {i : Nat} (d : decode cc pc = .ok (.iload i, 2)) (hn : pc + 2 = n) (hv : L[i]? = some (some (.int x))) (k : dk_W G p l e R s m args below meth c cells slots Q n L (.int x :: st) σ) : dk_W G p l e R s m args below meth c cells slots Q pc L st σ := fun H locs ls hL hP hS => by
  subst hn
  exact lv_iload C.1 C.2.1 d (hL.at hv) (k H locs ls hL hP hS)
theorem dk_aload_n (C : dk_C G p R s m args c cells slots cc nL own) {x : Nat} {k0 : Fin 4} {i : Nat} (d : decode cc pc = .ok (.aload_n k0, 1)) (hn : pc + 1 = n) (hi : (k0 : Nat) = i) (hv : L[i]? = some (some (.ref x))) (k : dk_W G p l e R s m args below meth c cells slots Q n L (.ref x :: st) σ) : dk_W G p l e R s m args below meth c cells slots Q pc L st σ := fun H locs ls hL hP hS => by
  subst hn
  exact lv_aload_n C.1 C.2.1 d hi (hL.at hv) (k H locs ls hL hP hS)
theorem dk_aload (C : dk_C G p R s m args c cells slots cc nL own) {x : Nat} {i : Nat} (d : decode cc pc = .ok (.aload i, 2)) (hn : pc + 2 = n) (hv : L[i]? = some (some (.ref x))) (k : dk_W G p l e R s m args below meth c cells slots Q n L (.ref x :: st) σ) : dk_W G p l e R s m args below meth c cells slots Q pc L st σ := fun H locs ls hL hP hS => by
  subst hn
  exact lv_aload C.1 C.2.1 d (hL.at hv) (k H locs ls hL hP hS)
theorem dk_istore_n (C : dk_C G p R s m args c cells slots cc nL own) {x : Int32} {k0 : Fin 4} {i : Nat} (d : decode cc pc = .ok (.istore_n k0, 1)) (hn : pc + 1 = n) (hi : (k0 : Nat) = i) (hc : dk_nc L i) (hl : i < L.length) (hs : L.set i (some (.int x)) = L') (k : dk_W G p l e R s m args below meth c cells slots Q n L' st σ) : dk_W G p l e R s m args below meth c cells slots Q pc L (.int x :: st) σ := fun H locs ls hL hP hS => by
  subst hn; subst hs
  exact lv_istore_n C.1 C.2.1 d hi hL hl rfl (fun ls' h => k H locs ls' (dk_L.set hc hl h) hP hS)
theorem dk_istore (C : dk_C G p R s m args c cells slots cc nL own) {x : Int32} {i : Nat} (d : decode cc pc = .ok (.istore i, 2)) (hn : pc + 2 = n) (hc : dk_nc L i) (hl : i < L.length) (hs : L.set i (some (.int x)) = L') (k : dk_W G p l e R s m args below meth c cells slots Q n L' st σ) : dk_W G p l e R s m args below meth c cells slots Q pc L (.int x :: st) σ := fun H locs ls hL hP hS => by
  subst hn; subst hs
  exact lv_istore C.1 C.2.1 d hL hl rfl (fun ls' h => k H locs ls' (dk_L.set hc hl h) hP hS)
theorem dk_astore_n (C : dk_C G p R s m args c cells slots cc nL own) {x : Nat} {k0 : Fin 4} {i : Nat} (d : decode cc pc = .ok (.astore_n k0, 1)) (hn : pc + 1 = n) (hi : (k0 : Nat) = i) (hc : dk_nc L i) (hl : i < L.length) (hs : L.set i (some (.ref x)) = L') (k : dk_W G p l e R s m args below meth c cells slots Q n L' st σ) : dk_W G p l e R s m args below meth c cells slots Q pc L (.ref x :: st) σ := fun H locs ls hL hP hS => by
  subst hn; subst hs
  exact lv_astore_n C.1 C.2.1 d hi hL hl rfl (fun ls' h => k H locs ls' (dk_L.set hc hl h) hP hS)
theorem dk_astore (C : dk_C G p R s m args c cells slots cc nL own) {x : Nat} {i : Nat} (d : decode cc pc = .ok (.astore i, 2)) (hn : pc + 2 = n) (hc : dk_nc L i) (hl : i < L.length) (hs : L.set i (some (.ref x)) = L') (k : dk_W G p l e R s m args below meth c cells slots Q n L' st σ) : dk_W G p l e R s m args below meth c cells slots Q pc L (.ref x :: st) σ := fun H locs ls hL hP hS => by
  subst hn; subst hs
  exact lv_astore C.1 C.2.1 d hL hl rfl (fun ls' h => k H locs ls' (dk_L.set hc hl h) hP hS)
theorem dk_iinc (C : dk_C G p R s m args c cells slots cc nL own) {i : Nat} {k0 : Int} {x v : Int32} (d : decode cc pc = .ok (.iinc i k0, 3)) (hn : pc + 3 = n) (hv : L[i]? = some (some (.int x))) (he : x + Int32.ofInt k0 = v) (hc : dk_nc L i) (hl : i < L.length) (hs : L.set i (some (.int v)) = L') (k : dk_W G p l e R s m args below meth c cells slots Q n L' st σ) : dk_W G p l e R s m args below meth c cells slots Q pc L st σ := fun H locs ls hL hP hS => by
  subst hn; subst hs
  obtain ⟨j, hj⟩ := List.getElem?_of_mem (by have := dk_ll_in L 0 i _ hv; rw [Nat.zero_add] at this; exact this)
  exact lv_iinc C.1 C.2.1 d hL hj he hl rfl (fun ls' h => k H locs ls' (dk_L.set hc hl h) hP hS)
theorem dk_iadd (C : dk_C G p R s m args c cells slots cc nL own) {x y : Int32} (d : decode cc pc = .ok (.iadd, 1)) (hn : pc + 1 = n) (k : dk_W G p l e R s m args below meth c cells slots Q n L (.int (x + y) :: st) σ) : dk_W G p l e R s m args below meth c cells slots Q pc L (.int y :: .int x :: st) σ := fun H locs ls hL hP hS => by
  subst hn
  exact lv_iadd C.1 C.2.1 d (k H locs ls hL hP hS)
theorem dk_isub (C : dk_C G p R s m args c cells slots cc nL own) {x y : Int32} (d : decode cc pc = .ok (.isub, 1)) (hn : pc + 1 = n) (k : dk_W G p l e R s m args below meth c cells slots Q n L (.int (x - y) :: st) σ) : dk_W G p l e R s m args below meth c cells slots Q pc L (.int y :: .int x :: st) σ := fun H locs ls hL hP hS => by
  subst hn
  exact lv_isub C.1 C.2.1 d (k H locs ls hL hP hS)
theorem dk_imul (C : dk_C G p R s m args c cells slots cc nL own) {x y : Int32} (d : decode cc pc = .ok (.imul, 1)) (hn : pc + 1 = n) (k : dk_W G p l e R s m args below meth c cells slots Q n L (.int (x * y) :: st) σ) : dk_W G p l e R s m args below meth c cells slots Q pc L (.int y :: .int x :: st) σ := fun H locs ls hL hP hS => by
  subst hn
  exact lv_imul C.1 C.2.1 d (k H locs ls hL hP hS)
theorem dk_iand (C : dk_C G p R s m args c cells slots cc nL own) {x y : Int32} (d : decode cc pc = .ok (.iand, 1)) (hn : pc + 1 = n) (k : dk_W G p l e R s m args below meth c cells slots Q n L (.int (x &&& y) :: st) σ) : dk_W G p l e R s m args below meth c cells slots Q pc L (.int y :: .int x :: st) σ := fun H locs ls hL hP hS => by
  subst hn
  exact lv_iand C.1 C.2.1 d (k H locs ls hL hP hS)
theorem dk_ior (C : dk_C G p R s m args c cells slots cc nL own) {x y : Int32} (d : decode cc pc = .ok (.ior, 1)) (hn : pc + 1 = n) (k : dk_W G p l e R s m args below meth c cells slots Q n L (.int (x ||| y) :: st) σ) : dk_W G p l e R s m args below meth c cells slots Q pc L (.int y :: .int x :: st) σ := fun H locs ls hL hP hS => by
  subst hn
  exact lv_ior C.1 C.2.1 d (k H locs ls hL hP hS)
theorem dk_idiv (C : dk_C G p R s m args c cells slots cc nL own) {x y : Int32} (d : decode cc pc = .ok (.idiv, 1)) (hn : pc + 1 = n) (h0 : ¬ y = 0) (k : dk_W G p l e R s m args below meth c cells slots Q n L (.int (x / y) :: st) σ) : dk_W G p l e R s m args below meth c cells slots Q pc L (.int y :: .int x :: st) σ := fun H locs ls hL hP hS => by
  subst hn
  exact lv_idiv C.1 C.2.1 d h0 (k H locs ls hL hP hS)
theorem dk_irem (C : dk_C G p R s m args c cells slots cc nL own) {x y : Int32} (d : decode cc pc = .ok (.irem, 1)) (hn : pc + 1 = n) (h0 : ¬ y = 0) (k : dk_W G p l e R s m args below meth c cells slots Q n L (.int (x - x / y * y) :: st) σ) : dk_W G p l e R s m args below meth c cells slots Q pc L (.int y :: .int x :: st) σ := fun H locs ls hL hP hS => by
  subst hn
  exact lv_irem C.1 C.2.1 d h0 (k H locs ls hL hP hS)
theorem dk_ishl (C : dk_C G p R s m args c cells slots cc nL own) {x y : Int32} (d : decode cc pc = .ok (.ishl, 1)) (hn : pc + 1 = n) (k : dk_W G p l e R s m args below meth c cells slots Q n L (.int (x <<< (y &&& 31)) :: st) σ) : dk_W G p l e R s m args below meth c cells slots Q pc L (.int y :: .int x :: st) σ := fun H locs ls hL hP hS => by
  subst hn
  exact lv_ishl C.1 C.2.1 d (k H locs ls hL hP hS)
theorem dk_ishr (C : dk_C G p R s m args c cells slots cc nL own) {x y : Int32} (d : decode cc pc = .ok (.ishr, 1)) (hn : pc + 1 = n) (k : dk_W G p l e R s m args below meth c cells slots Q n L (.int (x >>> (y &&& 31)) :: st) σ) : dk_W G p l e R s m args below meth c cells slots Q pc L (.int y :: .int x :: st) σ := fun H locs ls hL hP hS => by
  subst hn
  exact lv_ishr C.1 C.2.1 d (k H locs ls hL hP hS)
theorem dk_ineg (C : dk_C G p R s m args c cells slots cc nL own) {x : Int32} (d : decode cc pc = .ok (.ineg, 1)) (hn : pc + 1 = n) (k : dk_W G p l e R s m args below meth c cells slots Q n L (.int (-x) :: st) σ) : dk_W G p l e R s m args below meth c cells slots Q pc L (.int x :: st) σ := fun H locs ls hL hP hS => by
  subst hn
  exact lv_ineg C.1 C.2.1 d (k H locs ls hL hP hS)
theorem dk_i2c (C : dk_C G p R s m args c cells slots cc nL own) {x v : Int32} (d : decode cc pc = .ok (.i2c, 1)) (hn : pc + 1 = n) (hv : (x.toUInt32 % 65536).toInt32 = v) (k : dk_W G p l e R s m args below meth c cells slots Q n L (.int v :: st) σ) : dk_W G p l e R s m args below meth c cells slots Q pc L (.int x :: st) σ := fun H locs ls hL hP hS => by
  subst hn
  exact lv_i2c C.1 C.2.1 d hv (k H locs ls hL hP hS)
theorem dk_dup (C : dk_C G p R s m args c cells slots cc nL own) {v : Value} (d : decode cc pc = .ok (.dup, 1)) (hn : pc + 1 = n) (hv : v.category = 1) (k : dk_W G p l e R s m args below meth c cells slots Q n L (v :: v :: st) σ) : dk_W G p l e R s m args below meth c cells slots Q pc L (v :: st) σ := fun H locs ls hL hP hS => by
  subst hn
  exact lv_dup C.1 C.2.1 d hv (k H locs ls hL hP hS)
theorem dk_dup2 (C : dk_C G p R s m args c cells slots cc nL own) {v w : Value} (d : decode cc pc = .ok (.dup2, 1)) (hn : pc + 1 = n) (hv : v.category = 1) (hw : w.category = 1) (k : dk_W G p l e R s m args below meth c cells slots Q n L (v :: w :: v :: w :: st) σ) : dk_W G p l e R s m args below meth c cells slots Q pc L (v :: w :: st) σ := fun H locs ls hL hP hS => by
  subst hn
  exact lv_dup2_11 C.1 C.2.1 d hv hw (k H locs ls hL hP hS)
theorem dk_pop (C : dk_C G p R s m args c cells slots cc nL own) {v : Value} (d : decode cc pc = .ok (.pop, 1)) (hn : pc + 1 = n) (hv : v.category = 1) (k : dk_W G p l e R s m args below meth c cells slots Q n L st σ) : dk_W G p l e R s m args below meth c cells slots Q pc L (v :: st) σ := fun H locs ls hL hP hS => by
  subst hn
  exact lv_pop C.1 C.2.1 d hv (k H locs ls hL hP hS)
theorem dk_if_eq (C : dk_C G p R s m args c cells slots cc nL own) {x : Int32} {off : Int} {t : Nat} (d : decode cc pc = .ok (.ifCond .eq off, 3)) (hn : pc + 3 = n) (ht : (pc : Int) + off = (t : Int)) (kt : x = 0 → dk_W G p l e R s m args below meth c cells slots Q t L st σ) (kf : ¬ x = 0 → dk_W G p l e R s m args below meth c cells slots Q n L st σ) : dk_W G p l e R s m args below meth c cells slots Q pc L (.int x :: st) σ := fun H locs ls hL hP hS => by
  subst hn
  exact lv_if_eq C.1 C.2.1 d ht (fun h => kt h H locs ls hL hP hS) (fun h => kf h H locs ls hL hP hS)
theorem dk_icmp_eq (C : dk_C G p R s m args c cells slots cc nL own) {x y : Int32} {off : Int} {t : Nat} (d : decode cc pc = .ok (.if_icmp .eq off, 3)) (hn : pc + 3 = n) (ht : (pc : Int) + off = (t : Int)) (kt : x = y → dk_W G p l e R s m args below meth c cells slots Q t L st σ) (kf : ¬ x = y → dk_W G p l e R s m args below meth c cells slots Q n L st σ) : dk_W G p l e R s m args below meth c cells slots Q pc L (.int y :: .int x :: st) σ := fun H locs ls hL hP hS => by
  subst hn
  exact lv_icmp_eq C.1 C.2.1 d ht (fun h => kt h H locs ls hL hP hS) (fun h => kf h H locs ls hL hP hS)
theorem dk_if_ne (C : dk_C G p R s m args c cells slots cc nL own) {x : Int32} {off : Int} {t : Nat} (d : decode cc pc = .ok (.ifCond .ne off, 3)) (hn : pc + 3 = n) (ht : (pc : Int) + off = (t : Int)) (kt : ¬ x = 0 → dk_W G p l e R s m args below meth c cells slots Q t L st σ) (kf : x = 0 → dk_W G p l e R s m args below meth c cells slots Q n L st σ) : dk_W G p l e R s m args below meth c cells slots Q pc L (.int x :: st) σ := fun H locs ls hL hP hS => by
  subst hn
  exact lv_if_ne C.1 C.2.1 d ht (fun h => kt h H locs ls hL hP hS) (fun h => kf h H locs ls hL hP hS)
theorem dk_icmp_ne (C : dk_C G p R s m args c cells slots cc nL own) {x y : Int32} {off : Int} {t : Nat} (d : decode cc pc = .ok (.if_icmp .ne off, 3)) (hn : pc + 3 = n) (ht : (pc : Int) + off = (t : Int)) (kt : ¬ x = y → dk_W G p l e R s m args below meth c cells slots Q t L st σ) (kf : x = y → dk_W G p l e R s m args below meth c cells slots Q n L st σ) : dk_W G p l e R s m args below meth c cells slots Q pc L (.int y :: .int x :: st) σ := fun H locs ls hL hP hS => by
  subst hn
  exact lv_icmp_ne C.1 C.2.1 d ht (fun h => kt h H locs ls hL hP hS) (fun h => kf h H locs ls hL hP hS)
theorem dk_if_lt (C : dk_C G p R s m args c cells slots cc nL own) {x : Int32} {off : Int} {t : Nat} (d : decode cc pc = .ok (.ifCond .lt off, 3)) (hn : pc + 3 = n) (ht : (pc : Int) + off = (t : Int)) (kt : x < 0 → dk_W G p l e R s m args below meth c cells slots Q t L st σ) (kf : ¬ x < 0 → dk_W G p l e R s m args below meth c cells slots Q n L st σ) : dk_W G p l e R s m args below meth c cells slots Q pc L (.int x :: st) σ := fun H locs ls hL hP hS => by
  subst hn
  exact lv_if_lt C.1 C.2.1 d ht (fun h => kt h H locs ls hL hP hS) (fun h => kf h H locs ls hL hP hS)
theorem dk_icmp_lt (C : dk_C G p R s m args c cells slots cc nL own) {x y : Int32} {off : Int} {t : Nat} (d : decode cc pc = .ok (.if_icmp .lt off, 3)) (hn : pc + 3 = n) (ht : (pc : Int) + off = (t : Int)) (kt : x < y → dk_W G p l e R s m args below meth c cells slots Q t L st σ) (kf : ¬ x < y → dk_W G p l e R s m args below meth c cells slots Q n L st σ) : dk_W G p l e R s m args below meth c cells slots Q pc L (.int y :: .int x :: st) σ := fun H locs ls hL hP hS => by
  subst hn
  exact lv_icmp_lt C.1 C.2.1 d ht (fun h => kt h H locs ls hL hP hS) (fun h => kf h H locs ls hL hP hS)
theorem dk_if_ge (C : dk_C G p R s m args c cells slots cc nL own) {x : Int32} {off : Int} {t : Nat} (d : decode cc pc = .ok (.ifCond .ge off, 3)) (hn : pc + 3 = n) (ht : (pc : Int) + off = (t : Int)) (kt : 0 ≤ x → dk_W G p l e R s m args below meth c cells slots Q t L st σ) (kf : ¬ 0 ≤ x → dk_W G p l e R s m args below meth c cells slots Q n L st σ) : dk_W G p l e R s m args below meth c cells slots Q pc L (.int x :: st) σ := fun H locs ls hL hP hS => by
  subst hn
  exact lv_if_ge C.1 C.2.1 d ht (fun h => kt h H locs ls hL hP hS) (fun h => kf h H locs ls hL hP hS)
theorem dk_icmp_ge (C : dk_C G p R s m args c cells slots cc nL own) {x y : Int32} {off : Int} {t : Nat} (d : decode cc pc = .ok (.if_icmp .ge off, 3)) (hn : pc + 3 = n) (ht : (pc : Int) + off = (t : Int)) (kt : y ≤ x → dk_W G p l e R s m args below meth c cells slots Q t L st σ) (kf : ¬ y ≤ x → dk_W G p l e R s m args below meth c cells slots Q n L st σ) : dk_W G p l e R s m args below meth c cells slots Q pc L (.int y :: .int x :: st) σ := fun H locs ls hL hP hS => by
  subst hn
  exact lv_icmp_ge C.1 C.2.1 d ht (fun h => kt h H locs ls hL hP hS) (fun h => kf h H locs ls hL hP hS)
theorem dk_if_gt (C : dk_C G p R s m args c cells slots cc nL own) {x : Int32} {off : Int} {t : Nat} (d : decode cc pc = .ok (.ifCond .gt off, 3)) (hn : pc + 3 = n) (ht : (pc : Int) + off = (t : Int)) (kt : 0 < x → dk_W G p l e R s m args below meth c cells slots Q t L st σ) (kf : ¬ 0 < x → dk_W G p l e R s m args below meth c cells slots Q n L st σ) : dk_W G p l e R s m args below meth c cells slots Q pc L (.int x :: st) σ := fun H locs ls hL hP hS => by
  subst hn
  exact lv_if_gt C.1 C.2.1 d ht (fun h => kt h H locs ls hL hP hS) (fun h => kf h H locs ls hL hP hS)
theorem dk_icmp_gt (C : dk_C G p R s m args c cells slots cc nL own) {x y : Int32} {off : Int} {t : Nat} (d : decode cc pc = .ok (.if_icmp .gt off, 3)) (hn : pc + 3 = n) (ht : (pc : Int) + off = (t : Int)) (kt : y < x → dk_W G p l e R s m args below meth c cells slots Q t L st σ) (kf : ¬ y < x → dk_W G p l e R s m args below meth c cells slots Q n L st σ) : dk_W G p l e R s m args below meth c cells slots Q pc L (.int y :: .int x :: st) σ := fun H locs ls hL hP hS => by
  subst hn
  exact lv_icmp_gt C.1 C.2.1 d ht (fun h => kt h H locs ls hL hP hS) (fun h => kf h H locs ls hL hP hS)
theorem dk_if_le (C : dk_C G p R s m args c cells slots cc nL own) {x : Int32} {off : Int} {t : Nat} (d : decode cc pc = .ok (.ifCond .le off, 3)) (hn : pc + 3 = n) (ht : (pc : Int) + off = (t : Int)) (kt : x ≤ 0 → dk_W G p l e R s m args below meth c cells slots Q t L st σ) (kf : ¬ x ≤ 0 → dk_W G p l e R s m args below meth c cells slots Q n L st σ) : dk_W G p l e R s m args below meth c cells slots Q pc L (.int x :: st) σ := fun H locs ls hL hP hS => by
  subst hn
  exact lv_if_le C.1 C.2.1 d ht (fun h => kt h H locs ls hL hP hS) (fun h => kf h H locs ls hL hP hS)
theorem dk_icmp_le (C : dk_C G p R s m args c cells slots cc nL own) {x y : Int32} {off : Int} {t : Nat} (d : decode cc pc = .ok (.if_icmp .le off, 3)) (hn : pc + 3 = n) (ht : (pc : Int) + off = (t : Int)) (kt : x ≤ y → dk_W G p l e R s m args below meth c cells slots Q t L st σ) (kf : ¬ x ≤ y → dk_W G p l e R s m args below meth c cells slots Q n L st σ) : dk_W G p l e R s m args below meth c cells slots Q pc L (.int y :: .int x :: st) σ := fun H locs ls hL hP hS => by
  subst hn
  exact lv_icmp_le C.1 C.2.1 d ht (fun h => kt h H locs ls hL hP hS) (fun h => kf h H locs ls hL hP hS)
theorem dk_goto (C : dk_C G p R s m args c cells slots cc nL own) {off : Int} {t : Nat} (d : decode cc pc = .ok (.goto off, 3)) (ht : (pc : Int) + off = (t : Int)) (k : dk_W G p l e R s m args below meth c cells slots Q t L st σ) : dk_W G p l e R s m args below meth c cells slots Q pc L st σ := fun H locs ls hL hP hS => lv_goto C.1 C.2.1 d ht (k H locs ls hL hP hS)
theorem dk_name {x : Int32} (k : ∀ y : Int32, y = x → dk_W G p l e R s m args below meth c cells slots Q pc L (.int y :: st) σ) : dk_W G p l e R s m args below meth c cells slots Q pc L (.int x :: st) σ := k x rfl
theorem dk_sub {L0 : List (Option Value)} (hl : dk_le L0 L) (k : dk_W G p l e R s m args below meth c cells slots Q pc L0 st σ) : dk_W G p l e R s m args below meth c cells slots Q pc L st σ := fun H locs ls hL hP hS => k H locs ls (hL.sub hl) hP hS
theorem dk_lookup (C : dk_C G p R s m args c cells slots cc nL own) {dflt : Int} {ps : Array (Int × Int)} {len : Nat} {x : Int32} (d : decode cc pc = .ok (.lookupswitch dflt ps, len)) (hp : (ps.toList.zip (ps.toList.drop 1)).all (fun (a, next) => a.1 < next.1) = true) (k : ∀ (off : Int) (t : Nat), Op.lookupswitch.offset ps.toList dflt x.toInt = off → (pc : Int) + off = (t : Int) → dk_W G p l e R s m args below meth c cells slots Q t L st σ) (hx : ∃ t : Nat, (pc : Int) + Op.lookupswitch.offset ps.toList dflt x.toInt = (t : Int)) : dk_W G p l e R s m args below meth c cells slots Q pc L (.int x :: st) σ := fun H locs ls hL hP hS => by
  obtain ⟨t, ht⟩ := hx
  exact lv_lookup C.1 C.2.1 d hp rfl ht (k _ t rfl ht H locs ls hL hP hS)
theorem dk_lookT (C : dk_C G p R s m args c cells slots cc nL own) {dflt : Int} {ps : Array (Int × Int)} {len : Nat} {x : Int32} {off : Int} {t : Nat} (d : decode cc pc = .ok (.lookupswitch dflt ps, len)) (hp : (ps.toList.zip (ps.toList.drop 1)).all (fun (a, next) => a.1 < next.1) = true) (ho : Op.lookupswitch.offset ps.toList dflt x.toInt = off) (ht : (pc : Int) + off = (t : Int)) (k : dk_W G p l e R s m args below meth c cells slots Q t L st σ) : dk_W G p l e R s m args below meth c cells slots Q pc L (.int x :: st) σ := fun H locs ls hL hP hS =>
  lv_lookup C.1 C.2.1 d hp ho ht (k H locs ls hL hP hS)
theorem dk_tabOut (C : dk_C G p R s m args c cells slots cc nL own) {dflt lo hi : Int} {offs : Array Int} {len : Nat} {x : Int32} {t : Nat} (d : decode cc pc = .ok (.tableswitch dflt lo hi offs, len)) (h : x.toInt < lo ∨ hi < x.toInt) (ht : (pc : Int) + dflt = (t : Int)) (k : dk_W G p l e R s m args below meth c cells slots Q t L st σ) : dk_W G p l e R s m args below meth c cells slots Q pc L (.int x :: st) σ := fun H locs ls hL hP hS =>
  lv_tableOut C.1 C.2.1 d h ht (k H locs ls hL hP hS)
theorem dk_tabIn (C : dk_C G p R s m args c cells slots cc nL own) {dflt lo hi : Int} {offs : Array Int} {len : Nat} {x : Int32} {off : Int} {t : Nat} (d : decode cc pc = .ok (.tableswitch dflt lo hi offs, len)) (h1 : ¬ x.toInt < lo) (h2 : ¬ hi < x.toInt) (ho : offs[(x.toInt - lo).toNat]? = some off) (ht : (pc : Int) + off = (t : Int)) (k : dk_W G p l e R s m args below meth c cells slots Q t L st σ) : dk_W G p l e R s m args below meth c cells slots Q pc L (.int x :: st) σ := fun H locs ls hL hP hS =>
  lv_tableIn C.1 C.2.1 d h1 h2 ho ht (k H locs ls hL hP hS)
theorem dk_getI (C : dk_C G p R s m args c cells slots cc nL own) {a b i ci k0 N : Nat} {Cn : String} {T : u_T} {fs : List (Option (Nat → Nat × Nat))} (hs : dk_shp b = .inr (ci, fs)) (hf : fs[k0]? = some none) (hc : dk_cl[ci]? = some (Cn, T, N)) (hk : k0 < N) (hin : ∀ w ∈ u_ws Cn T N, w ∈ dk_ws) (hl : Cond.fieldLink own i (T k0).1 (T k0).2.1 (T k0).2.2.1 ∈ dk_ws) (hd : (a, b) ∈ dk_dom G) (d : decode cc pc = .ok (.getfield i, 3)) (hn : pc + 3 = n) (k : dk_W G p l e R s m args below meth c cells slots Q n L (.int (σ a b k0) :: st) σ) : dk_W G p l e R s m args below meth c cells slots Q pc L (dk_r G a b :: st) σ := fun H locs ls hL hP hS => by
  subst hn
  obtain ⟨j, -, hj⟩ := dk_pos hd σ
  rw [dk_cel, dk_ce.eq_def, hs] at hj
  have hv := dk_fv_int G a (σ a b) fs 0 k0 hf
  rw [Nat.zero_add] at hv
  exact va_get C.1 C.2.1 C.2.2.2.2.1 hin C.2.2.2.1 C.2.2.2.2.2.1.1 hP j hj hc k0 hk (C.2.2.2.2.1 _ hl) (fun _ h => h) hv d (k H locs ls hL hP hS)
theorem dk_getR (C : dk_C G p R s m args c cells slots cc nL own) {a b i ci k0 N a1 b1 : Nat} {r : Nat → Nat × Nat} {Cn : String} {T : u_T} {fs : List (Option (Nat → Nat × Nat))} (hs : dk_shp b = .inr (ci, fs)) (hf : fs[k0]? = some (some r)) (hr : r a = (a1, b1)) (hc : dk_cl[ci]? = some (Cn, T, N)) (hk : k0 < N) (hin : ∀ w ∈ u_ws Cn T N, w ∈ dk_ws) (hl : Cond.fieldLink own i (T k0).1 (T k0).2.1 (T k0).2.2.1 ∈ dk_ws) (hd : (a, b) ∈ dk_dom G) (d : decode cc pc = .ok (.getfield i, 3)) (hn : pc + 3 = n) (k : dk_W G p l e R s m args below meth c cells slots Q n L (dk_r G a1 b1 :: st) σ) : dk_W G p l e R s m args below meth c cells slots Q pc L (dk_r G a b :: st) σ := fun H locs ls hL hP hS => by
  subst hn
  obtain ⟨j, -, hj⟩ := dk_pos hd σ
  rw [dk_cel, dk_ce.eq_def, hs] at hj
  have hv := dk_fv_ref G a (σ a b) fs 0 k0 r hf
  rw [hr] at hv
  exact va_get C.1 C.2.1 C.2.2.2.2.1 hin C.2.2.2.1 C.2.2.2.2.2.1.1 hP j hj hc k0 hk (C.2.2.2.2.1 _ hl) (fun _ h => h) hv d (k H locs ls hL hP hS)
theorem dk_put (C : dk_C G p R s m args c cells slots cc nL own) {a b i ci k0 N : Nat} {x : Int32} {ty : FieldType} {Cn : String} {T : u_T} {fs : List (Option (Nat → Nat × Nat))} (hs : dk_shp b = .inr (ci, fs)) (hf : fs[k0]? = some none) (hc : dk_cl[ci]? = some (Cn, T, N)) (hk : k0 < N) (hin : ∀ w ∈ u_ws Cn T N, w ∈ dk_ws) (ty0 : Nat → FieldType) (hty : ∀ k, k < N → parseFieldDescriptor (T k).2.2.1 = some (ty0 k)) (hnm : ∀ a, a < N → ∀ b, b < N → a ≠ b → (T a).2.1 ≠ (T b).2.1) (hl : Cond.fieldLink own i (T k0).1 (T k0).2.1 (T k0).2.2.1 ∈ dk_ws) (hfin : (T k0).2.2.2 = false) (hdd : parseFieldDescriptor (T k0).2.2.1 = some ty) (hna : narrow ty (.int x) = .int x) (hfit : fits ty (.int x) = true) (hd : (a, b) ∈ dk_dom G) (d : decode cc pc = .ok (.putfield i, 3)) (hn : pc + 3 = n) (k : dk_W G p l e R s m args below meth c cells slots Q n L st (dk_row σ a b (upd (σ a b) k0 x))) : dk_W G p l e R s m args below meth c cells slots Q pc L (.int x :: dk_r G a b :: st) σ := fun H locs ls hL hP hS => by
  subst hn
  obtain ⟨j, hj0, hj⟩ := dk_pos hd σ
  rw [dk_cel, dk_ce.eq_def, hs] at hj
  refine va_put C.1 C.2.1 C.2.2.2.2.1 hin ty0 hty hnm C.2.2.2.1 C.2.2.2.2.2.1.1 hP (C.2.2.2.2.2.2.2.2.1 σ) hS j hj hc k0 hk (C.2.2.2.2.1 _ hl) (fun _ h => h) hfin hdd hna hfit ?_ d (fun H1 locs1 hP1 _ hS1 => ?_)
  · rw [dk_fv_len]; exact (List.getElem?_eq_some_iff.mp hf).1
  · rw [dk_fv_set G a (σ a b) x fs 0 k0 hf, Nat.zero_add] at hP1
    have e := dk_set C.2.2.2.2.2.2.2.2.1 σ hj0 (upd (σ a b) k0 x)
    rw [dk_ce.eq_def, hs] at e
    exact k H1 locs1 ls hL (e ▸ hP1) hS1
theorem dk_iald (C : dk_C G p R s m args c cells slots cc nL own) {a b N : Nat} {i : Int32} (hs : dk_shp b = .inl (0, N)) (hi : vp_in i N) (hd : (a, b) ∈ dk_dom G) (d : decode cc pc = .ok (.iaload, 1)) (hn : pc + 1 = n) (k : dk_W G p l e R s m args below meth c cells slots Q n L (.int (σ a b i.toNatClampNeg) :: st) σ) : dk_W G p l e R s m args below meth c cells slots Q pc L (.int i :: dk_r G a b :: st) σ := fun H locs ls hL hP hS => by
  subst hn
  obtain ⟨j, -, hj⟩ := dk_pos hd σ
  rw [dk_cel, dk_ce.eq_def, hs] at hj
  exact va_iald C.1 C.2.1 C.2.2.2.2.2.1.1 hP j 0 hj rfl hi d (k H locs ls hL hP hS)
theorem dk_cald (C : dk_C G p R s m args c cells slots cc nL own) {a b N : Nat} {i : Int32} (hs : dk_shp b = .inl (1, N)) (hi : vp_in i N) (hd : (a, b) ∈ dk_dom G) (d : decode cc pc = .ok (.caload, 1)) (hn : pc + 1 = n) (k : dk_W G p l e R s m args below meth c cells slots Q n L (.int (σ a b i.toNatClampNeg) :: st) σ) : dk_W G p l e R s m args below meth c cells slots Q pc L (.int i :: dk_r G a b :: st) σ := fun H locs ls hL hP hS => by
  subst hn
  obtain ⟨j, -, hj⟩ := dk_pos hd σ
  rw [dk_cel, dk_ce.eq_def, hs] at hj
  exact va_cald C.1 C.2.1 C.2.2.2.2.2.1.1 hP j 1 hj rfl hi d (k H locs ls hL hP hS)
theorem dk_iast (C : dk_C G p R s m args c cells slots cc nL own) {a b N : Nat} {i x : Int32} (hs : dk_shp b = .inl (0, N)) (hi : vp_in i N) (hd : (a, b) ∈ dk_dom G) (d : decode cc pc = .ok (.iastore, 1)) (hn : pc + 1 = n) (k : dk_W G p l e R s m args below meth c cells slots Q n L st (dk_row σ a b (upd (σ a b) i.toNatClampNeg x))) : dk_W G p l e R s m args below meth c cells slots Q pc L (.int x :: .int i :: dk_r G a b :: st) σ := fun H locs ls hL hP hS => by
  subst hn
  obtain ⟨j, hj0, hj⟩ := dk_pos hd σ
  rw [dk_cel, dk_ce.eq_def, hs] at hj
  refine va_iast C.1 C.2.1 C.2.2.2.2.2.1.1 hP (C.2.2.2.2.2.2.2.2.1 σ) hS j 0 hj rfl hi d (fun H1 locs1 hP1 _ hS1 => ?_)
  have e := dk_set C.2.2.2.2.2.2.2.2.1 σ hj0 (upd (σ a b) i.toNatClampNeg x)
  rw [dk_ce.eq_def, hs] at e
  exact k H1 locs1 ls hL (e ▸ hP1) hS1
theorem dk_cast (C : dk_C G p R s m args c cells slots cc nL own) {a b N : Nat} {i x : Int32} (hs : dk_shp b = .inl (1, N)) (hi : vp_in i N) (hd : (a, b) ∈ dk_dom G) (d : decode cc pc = .ok (.castore, 1)) (hn : pc + 1 = n) (k : dk_W G p l e R s m args below meth c cells slots Q n L st (dk_row σ a b (upd (σ a b) i.toNatClampNeg (vp_nar .char x)))) : dk_W G p l e R s m args below meth c cells slots Q pc L (.int x :: .int i :: dk_r G a b :: st) σ := fun H locs ls hL hP hS => by
  subst hn
  obtain ⟨j, hj0, hj⟩ := dk_pos hd σ
  rw [dk_cel, dk_ce.eq_def, hs] at hj
  refine va_cast C.1 C.2.1 C.2.2.2.2.2.1.1 hP (C.2.2.2.2.2.2.2.2.1 σ) hS j 1 hj rfl hi d (fun H1 locs1 hP1 _ hS1 => ?_)
  have e := dk_set C.2.2.2.2.2.2.2.2.1 σ hj0 (upd (σ a b) i.toNatClampNeg (vp_nar .char x))
  rw [dk_ce.eq_def, hs] at e
  exact k H1 locs1 ls hL (e ▸ hP1) hS1
theorem dk_alen (C : dk_C G p R s m args c cells slots cc nL own) {a b kd N : Nat} {v : Int32} {ty : FieldType} (hs : dk_shp b = .inl (kd, N)) (ht : (dk_tys G)[kd]? = some (dk_cA G kd, ty)) (hv : Int32.ofNat N = v) (hd : (a, b) ∈ dk_dom G) (d : decode cc pc = .ok (.arraylength, 1)) (hn : pc + 1 = n) (k : dk_W G p l e R s m args below meth c cells slots Q n L (.int v :: st) σ) : dk_W G p l e R s m args below meth c cells slots Q pc L (dk_r G a b :: st) σ := fun H locs ls hL hP hS => by
  subst hn
  obtain ⟨j, -, hj⟩ := dk_pos hd σ
  rw [dk_cel, dk_ce.eq_def, hs] at hj
  exact va_alen C.1 C.2.1 C.2.2.2.2.2.1.1 hP j kd hj ht hv d (k H locs ls hL hP hS)
theorem dk_mmax (C : dk_C G p R s m args c cells slots cc nL own) {i : Nat} {x y : Int32} (hw1 : Cond.methodLink own i Lib.Math.max.name ∈ dk_ws) (hw2 : Cond.static Lib.Math.max.name ∈ dk_ws) (hw3 : Cond.initialized "java/lang/Math" ∈ dk_ws) (hw4 : Cond.code Lib.Math.max.name Lib.Math.max.code 2 (some .int) ∈ dk_ws) (hR1 : 1 ≤ R.frames) (hR2 : (st.map fun v => v.category).sum + 13 ≤ R.locals) (hLn : L.length = nL) (d : decode cc pc = .ok (.invokestatic i, 3)) (hn : pc + 3 = n) (k : dk_W G p l e R s m args below meth c cells slots Q n L (.int (if x < y then y else x) :: st) σ) : dk_W G p l e R s m args below meth c cells slots Q pc L (.int y :: .int x :: st) σ := fun H locs ls hL hP hS => by
  subst hn
  exact va_mmax C.1 C.2.1 (by rw [C.2.2.1, ← hLn]; exact hL.1.symm) C.2.2.2.1 (C.2.2.2.2.1 _ hw1) (C.2.2.2.2.1 _ hw2) (C.2.2.2.2.1 _ hw3) (C.2.2.2.2.1 _ hw4) hR1 hR2 C.2.2.2.2.2.2.2.2.2.1 C.2.2.2.2.2.2.2.2.2.2 d (k H locs ls hL hP hS)
theorem dk_mmin (C : dk_C G p R s m args c cells slots cc nL own) {i : Nat} {x y : Int32} (hw1 : Cond.methodLink own i Lib.Math.min.name ∈ dk_ws) (hw2 : Cond.static Lib.Math.min.name ∈ dk_ws) (hw3 : Cond.initialized "java/lang/Math" ∈ dk_ws) (hw4 : Cond.code Lib.Math.min.name Lib.Math.min.code 2 (some .int) ∈ dk_ws) (hR1 : 1 ≤ R.frames) (hR2 : (st.map fun v => v.category).sum + 13 ≤ R.locals) (hLn : L.length = nL) (d : decode cc pc = .ok (.invokestatic i, 3)) (hn : pc + 3 = n) (k : dk_W G p l e R s m args below meth c cells slots Q n L (.int (if y < x then y else x) :: st) σ) : dk_W G p l e R s m args below meth c cells slots Q pc L (.int y :: .int x :: st) σ := fun H locs ls hL hP hS => by
  subst hn
  exact va_mmin C.1 C.2.1 (by rw [C.2.2.1, ← hLn]; exact hL.1.symm) C.2.2.2.1 (C.2.2.2.2.1 _ hw1) (C.2.2.2.2.1 _ hw2) (C.2.2.2.2.1 _ hw3) (C.2.2.2.2.1 _ hw4) hR1 hR2 C.2.2.2.2.2.2.2.2.2.1 C.2.2.2.2.2.2.2.2.2.2 d (k H locs ls hL hP hS)
theorem dk_mabs (C : dk_C G p R s m args c cells slots cc nL own) {i : Nat} {x : Int32} (hw1 : Cond.methodLink own i Lib.Math.abs.name ∈ dk_ws) (hw2 : Cond.static Lib.Math.abs.name ∈ dk_ws) (hw3 : Cond.initialized "java/lang/Math" ∈ dk_ws) (hw4 : Cond.code Lib.Math.abs.name Lib.Math.abs.code 1 (some .int) ∈ dk_ws) (hR1 : 1 ≤ R.frames) (hR2 : (st.map fun v => v.category).sum + 13 ≤ R.locals) (hLn : L.length = nL) (d : decode cc pc = .ok (.invokestatic i, 3)) (hn : pc + 3 = n) (k : dk_W G p l e R s m args below meth c cells slots Q n L (.int (if 0 ≤ x then x else 0 - x) :: st) σ) : dk_W G p l e R s m args below meth c cells slots Q pc L (.int x :: st) σ := fun H locs ls hL hP hS => by
  subst hn
  exact va_mabs C.1 C.2.1 (by rw [C.2.2.1, ← hLn]; exact hL.1.symm) C.2.2.2.1 (C.2.2.2.2.1 _ hw1) (C.2.2.2.2.1 _ hw2) (C.2.2.2.2.1 _ hw3) (C.2.2.2.2.1 _ hw4) hR1 hR2 C.2.2.2.2.2.2.2.2.2.1 C.2.2.2.2.2.2.2.2.2.2 d (k H locs ls hL hP hS)
theorem dk_copy (C : dk_C G p R s m args c cells slots cc nL own) {i a b a1 b1 kd N N1 : Nat} {ty : FieldType} {k0 : Int32} (hs : dk_shp b = .inl (kd, N)) (hs1 : dk_shp b1 = .inl (kd, N1)) (ht : (dk_tys G)[kd]? = some (dk_cA G kd, ty)) (hpr : refKind ty = false) (hk : ¬ k0 < 0) (hN : k0.toNatClampNeg ≤ N) (hN1 : k0.toNatClampNeg ≤ N1) (hfit : ∀ i, i < k0.toNatClampNeg → fits ty (.int (σ a b i)) = true) (hw1 : Cond.methodLink own i arraycopyName ∈ dk_ws) (hw2 : Cond.native arraycopyName ∈ dk_ws) (hw3 : Cond.static arraycopyName ∈ dk_ws) (hw4 : Cond.initialized "java/lang/System" ∈ dk_ws) (hR1 : 1 ≤ R.frames) (hR2 : (st.map fun v => v.category).sum + (nativeFrameWords "java/lang/System" "arraycopy" 5 + 11) ≤ R.locals) (hLn : L.length = nL) (hd : (a, b) ∈ dk_dom G) (hd1 : (a1, b1) ∈ dk_dom G) (d : decode cc pc = .ok (.invokestatic i, 3)) (hn : pc + 3 = n) (k : dk_W G p l e R s m args below meth c cells slots Q n L st (dk_row σ a1 b1 (va_cpy (σ a b) (σ a1 b1) 0 0 k0.toNatClampNeg))) : dk_W G p l e R s m args below meth c cells slots Q pc L (.int k0 :: .int 0 :: dk_r G a1 b1 :: .int 0 :: dk_r G a b :: st) σ := fun H locs ls hL hP hS => by
  subst hn
  obtain ⟨j, -, hj⟩ := dk_pos hd σ
  rw [dk_cel, dk_ce.eq_def, hs] at hj
  obtain ⟨j1, hj0, hj1⟩ := dk_pos hd1 σ
  rw [dk_cel, dk_ce.eq_def, hs1] at hj1
  have z0 : (0 : Int32).toNatClampNeg = 0 := rfl
  refine va_copyi C.1 C.2.1 (by rw [C.2.2.1, ← hLn]; exact hL.1.symm) C.2.2.2.1 (C.2.2.2.2.1 _ hw1) (C.2.2.2.2.1 _ hw2) (C.2.2.2.2.1 _ hw3) (C.2.2.2.2.1 _ hw4) C.2.2.2.2.2.1.1 hP (C.2.2.2.2.2.2.2.2.1 σ) hS j j1 kd kd hj hj1 ht ht hpr (by decide) (by decide) hk (by rw [z0]; omega) (by rw [z0]; omega) (by rw [z0]; intro i hi; rw [Nat.zero_add]; exact hfit i hi) hR1 hR2 d (fun H1 locs1 hP1 _ hS1 => ?_)
  rw [z0] at hP1
  have e := dk_set C.2.2.2.2.2.2.2.2.1 σ hj0 (va_cpy (σ a b) (σ a1 b1) 0 0 k0.toNatClampNeg)
  rw [dk_ce.eq_def, hs1] at e
  exact k H1 locs1 ls hL (e ▸ hP1) hS1
end DKR
