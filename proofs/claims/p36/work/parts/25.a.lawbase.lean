/-! the law's own methods: a keep's store, other cells beside it -/
/-- no cell of E may be written by the keep -/
def lz_O (G : dk_G) (E : va_W) : Prop := ∀ (k : Nat) (q : Nat × va_E), E[k]? = some q → ¬ dk_A G q.1
def lz_C (G : dk_G) (F : Nat → Prop) (b0 : Nat) (p : Program) (s : State) (m : MethodId) (args : Array Value) (c : Code) (cc : ByteArray) (nL : Nat) (own : String) : Prop :=
  p.tables.exec = Jvm.exec ∧ c.code = cc ∧ c.maxLocals = nL ∧ s.vm.findClass own = some m.cls ∧ (∀ w ∈ dk_ws, w.before args s = true) ∧ dk_V G s ∧ (∀ q, b0 ≤ q → dk_A G q) ∧ dk_Z (dk_GA G F) s s.heap ∧ dk_D G ∧ (∀ q, dk_A G q → F q)
def lz_W (G : dk_G) (F : Nat → Prop) (b0 : Nat) (p : Program) (l : Launch) (e : Env) (R : Room) (s : State) (m : MethodId) (args : Array Value) (below : List Frame) (meth : Method) (c : Code) (cells slots : Nat) (Q : State → Prop) (pc : Nat) (L : List (Option Value)) (st : List Value) (σ : dk_S) (E : va_W) : Prop :=
  ∀ (H : Heap) (locs : List Loc) (ls : Array Slot), dk_L L ls → va_P G.1 dk_cl (dk_wsl G σ) H → va_P G.1 dk_cl E H → (va_S F s.heap H locs ∧ b0 ≤ H.size) → W p l e R s m args below meth c H locs cells slots Q (F0 m pc ls st)
/-- .. where N has been thrown, caught by nobody yet -/
def lz_X (G : dk_G) (F : Nat → Prop) (b0 : Nat) (p : Program) (l : Launch) (e : Env) (R : Room) (s : State) (m : MethodId) (args : Array Value) (below : List Frame) (meth : Method) (c : Code) (cells slots : Nat) (Q : State → Prop) (N : String) (pc : Nat) (L : List (Option Value)) (st : List Value) (σ : dk_S) (E : va_W) : Prop :=
  ∀ (H : Heap) (locs : List Loc) (ls : Array Slot) (q : Addr) (ce : Cell), dk_L L ls → va_P G.1 dk_cl (dk_wsl G σ) H → va_P G.1 dk_cl E H → (va_S F s.heap H locs ∧ b0 ≤ H.size) → H[q]? = some ce → ce.vm = .none → s.vm.findClass N = some ce.cls → vx_W p l e R s m args below meth c H locs cells slots Q (F0 m pc ls st) q
section LZR
variable {G : dk_G} {F : Nat → Prop} {b0 : Nat} {p : Program} {l : Launch} {e : Env} {R : Room} {s : State} {m : MethodId} {args : Array Value} {below : List Frame} {meth : Method} {c : Code} {cells slots : Nat} {Q : State → Prop}
variable {cc : ByteArray} {nL : Nat} {own : String} {pc n : Nat} {L L' : List (Option Value)} {st st' : List Value} {σ : dk_S} {E : va_W}
theorem lz_iconst (C : lz_C G F b0 p s m args c cc nL own) {i : Int} {v : Int32} (d : decode cc pc = .ok (.iconst i, 1)) (hn : pc + 1 = n) (hv : Int32.ofInt i = v) (k : lz_W G F b0 p l e R s m args below meth c cells slots Q n L (.int v :: st) σ E) : lz_W G F b0 p l e R s m args below meth c cells slots Q pc L st σ E := fun H locs ls hL hP hE hS => by
  subst hn
  exact lv_iconst C.1 C.2.1 d hv (k H locs ls hL hP hE hS)
theorem lz_bipush (C : lz_C G F b0 p s m args c cc nL own) {i : Int} {v : Int32} (d : decode cc pc = .ok (.bipush i, 2)) (hn : pc + 2 = n) (hv : (Int8.ofInt i).toInt32 = v) (k : lz_W G F b0 p l e R s m args below meth c cells slots Q n L (.int v :: st) σ E) : lz_W G F b0 p l e R s m args below meth c cells slots Q pc L st σ E := fun H locs ls hL hP hE hS => by
  subst hn
  exact lv_bipush C.1 C.2.1 d hv (k H locs ls hL hP hE hS)
theorem lz_sipush (C : lz_C G F b0 p s m args c cc nL own) {i : Int} {v : Int32} (d : decode cc pc = .ok (.sipush i, 3)) (hn : pc + 3 = n) (hv : (Int16.ofInt i).toInt32 = v) (k : lz_W G F b0 p l e R s m args below meth c cells slots Q n L (.int v :: st) σ E) : lz_W G F b0 p l e R s m args below meth c cells slots Q pc L st σ E := fun H locs ls hL hP hE hS => by
  subst hn
  exact lv_sipush C.1 C.2.1 d hv (k H locs ls hL hP hE hS)
theorem lz_iload_n (C : lz_C G F b0 p s m args c cc nL own) {x : Int32} {k0 : Fin 4} {i : Nat} (d : decode cc pc = .ok (.iload_n k0, 1)) (hn : pc + 1 = n) (hi : (k0 : Nat) = i) (hv : L[i]? = some (some (.int x))) (k : lz_W G F b0 p l e R s m args below meth c cells slots Q n L (.int x :: st) σ E) : lz_W G F b0 p l e R s m args below meth c cells slots Q pc L st σ E := fun H locs ls hL hP hE hS => by
  subst hn
  exact lv_iload_n C.1 C.2.1 d hi (hL.at hv) (k H locs ls hL hP hE hS)
theorem lz_iload (C : lz_C G F b0 p s m args c cc nL own) {x : Int32} {i : Nat} (d : decode cc pc = .ok (.iload i, 2)) (hn : pc + 2 = n) (hv : L[i]? = some (some (.int x))) (k : lz_W G F b0 p l e R s m args below meth c cells slots Q n L (.int x :: st) σ E) : lz_W G F b0 p l e R s m args below meth c cells slots Q pc L st σ E := fun H locs ls hL hP hE hS => by
  subst hn
  exact lv_iload C.1 C.2.1 d (hL.at hv) (k H locs ls hL hP hE hS)
theorem lz_aload_n (C : lz_C G F b0 p s m args c cc nL own) {x : Nat} {k0 : Fin 4} {i : Nat} (d : decode cc pc = .ok (.aload_n k0, 1)) (hn : pc + 1 = n) (hi : (k0 : Nat) = i) (hv : L[i]? = some (some (.ref x))) (k : lz_W G F b0 p l e R s m args below meth c cells slots Q n L (.ref x :: st) σ E) : lz_W G F b0 p l e R s m args below meth c cells slots Q pc L st σ E := fun H locs ls hL hP hE hS => by
  subst hn
  exact lv_aload_n C.1 C.2.1 d hi (hL.at hv) (k H locs ls hL hP hE hS)
theorem lz_aload (C : lz_C G F b0 p s m args c cc nL own) {x : Nat} {i : Nat} (d : decode cc pc = .ok (.aload i, 2)) (hn : pc + 2 = n) (hv : L[i]? = some (some (.ref x))) (k : lz_W G F b0 p l e R s m args below meth c cells slots Q n L (.ref x :: st) σ E) : lz_W G F b0 p l e R s m args below meth c cells slots Q pc L st σ E := fun H locs ls hL hP hE hS => by
  subst hn
  exact lv_aload C.1 C.2.1 d (hL.at hv) (k H locs ls hL hP hE hS)
theorem lz_istore_n (C : lz_C G F b0 p s m args c cc nL own) {x : Int32} {k0 : Fin 4} {i : Nat} (d : decode cc pc = .ok (.istore_n k0, 1)) (hn : pc + 1 = n) (hi : (k0 : Nat) = i) (hc : dk_nc L i) (hl : i < L.length) (hs : L.set i (some (.int x)) = L') (k : lz_W G F b0 p l e R s m args below meth c cells slots Q n L' st σ E) : lz_W G F b0 p l e R s m args below meth c cells slots Q pc L (.int x :: st) σ E := fun H locs ls hL hP hE hS => by
  subst hn; subst hs
  exact lv_istore_n C.1 C.2.1 d hi hL hl rfl (fun ls' h => k H locs ls' (dk_L.set hc hl h) hP hE hS)
theorem lz_istore (C : lz_C G F b0 p s m args c cc nL own) {x : Int32} {i : Nat} (d : decode cc pc = .ok (.istore i, 2)) (hn : pc + 2 = n) (hc : dk_nc L i) (hl : i < L.length) (hs : L.set i (some (.int x)) = L') (k : lz_W G F b0 p l e R s m args below meth c cells slots Q n L' st σ E) : lz_W G F b0 p l e R s m args below meth c cells slots Q pc L (.int x :: st) σ E := fun H locs ls hL hP hE hS => by
  subst hn; subst hs
  exact lv_istore C.1 C.2.1 d hL hl rfl (fun ls' h => k H locs ls' (dk_L.set hc hl h) hP hE hS)
theorem lz_astore_n (C : lz_C G F b0 p s m args c cc nL own) {x : Nat} {k0 : Fin 4} {i : Nat} (d : decode cc pc = .ok (.astore_n k0, 1)) (hn : pc + 1 = n) (hi : (k0 : Nat) = i) (hc : dk_nc L i) (hl : i < L.length) (hs : L.set i (some (.ref x)) = L') (k : lz_W G F b0 p l e R s m args below meth c cells slots Q n L' st σ E) : lz_W G F b0 p l e R s m args below meth c cells slots Q pc L (.ref x :: st) σ E := fun H locs ls hL hP hE hS => by
  subst hn; subst hs
  exact lv_astore_n C.1 C.2.1 d hi hL hl rfl (fun ls' h => k H locs ls' (dk_L.set hc hl h) hP hE hS)
theorem lz_astore (C : lz_C G F b0 p s m args c cc nL own) {x : Nat} {i : Nat} (d : decode cc pc = .ok (.astore i, 2)) (hn : pc + 2 = n) (hc : dk_nc L i) (hl : i < L.length) (hs : L.set i (some (.ref x)) = L') (k : lz_W G F b0 p l e R s m args below meth c cells slots Q n L' st σ E) : lz_W G F b0 p l e R s m args below meth c cells slots Q pc L (.ref x :: st) σ E := fun H locs ls hL hP hE hS => by
  subst hn; subst hs
  exact lv_astore C.1 C.2.1 d hL hl rfl (fun ls' h => k H locs ls' (dk_L.set hc hl h) hP hE hS)
theorem lz_iinc (C : lz_C G F b0 p s m args c cc nL own) {i : Nat} {k0 : Int} {x v : Int32} (d : decode cc pc = .ok (.iinc i k0, 3)) (hn : pc + 3 = n) (hv : L[i]? = some (some (.int x))) (he : x + Int32.ofInt k0 = v) (hc : dk_nc L i) (hl : i < L.length) (hs : L.set i (some (.int v)) = L') (k : lz_W G F b0 p l e R s m args below meth c cells slots Q n L' st σ E) : lz_W G F b0 p l e R s m args below meth c cells slots Q pc L st σ E := fun H locs ls hL hP hE hS => by
  subst hn; subst hs
  obtain ⟨j, hj⟩ := List.getElem?_of_mem (by have := dk_ll_in L 0 i _ hv; rw [Nat.zero_add] at this; exact this)
  exact lv_iinc C.1 C.2.1 d hL hj he hl rfl (fun ls' h => k H locs ls' (dk_L.set hc hl h) hP hE hS)
theorem lz_iadd (C : lz_C G F b0 p s m args c cc nL own) {x y : Int32} (d : decode cc pc = .ok (.iadd, 1)) (hn : pc + 1 = n) (k : lz_W G F b0 p l e R s m args below meth c cells slots Q n L (.int (x + y) :: st) σ E) : lz_W G F b0 p l e R s m args below meth c cells slots Q pc L (.int y :: .int x :: st) σ E := fun H locs ls hL hP hE hS => by
  subst hn
  exact lv_iadd C.1 C.2.1 d (k H locs ls hL hP hE hS)
theorem lz_isub (C : lz_C G F b0 p s m args c cc nL own) {x y : Int32} (d : decode cc pc = .ok (.isub, 1)) (hn : pc + 1 = n) (k : lz_W G F b0 p l e R s m args below meth c cells slots Q n L (.int (x - y) :: st) σ E) : lz_W G F b0 p l e R s m args below meth c cells slots Q pc L (.int y :: .int x :: st) σ E := fun H locs ls hL hP hE hS => by
  subst hn
  exact lv_isub C.1 C.2.1 d (k H locs ls hL hP hE hS)
theorem lz_imul (C : lz_C G F b0 p s m args c cc nL own) {x y : Int32} (d : decode cc pc = .ok (.imul, 1)) (hn : pc + 1 = n) (k : lz_W G F b0 p l e R s m args below meth c cells slots Q n L (.int (x * y) :: st) σ E) : lz_W G F b0 p l e R s m args below meth c cells slots Q pc L (.int y :: .int x :: st) σ E := fun H locs ls hL hP hE hS => by
  subst hn
  exact lv_imul C.1 C.2.1 d (k H locs ls hL hP hE hS)
theorem lz_idiv (C : lz_C G F b0 p s m args c cc nL own) {x y : Int32} (d : decode cc pc = .ok (.idiv, 1)) (hn : pc + 1 = n) (h0 : ¬ y = 0) (k : lz_W G F b0 p l e R s m args below meth c cells slots Q n L (.int (x / y) :: st) σ E) : lz_W G F b0 p l e R s m args below meth c cells slots Q pc L (.int y :: .int x :: st) σ E := fun H locs ls hL hP hE hS => by
  subst hn
  exact lv_idiv C.1 C.2.1 d h0 (k H locs ls hL hP hE hS)
theorem lz_irem (C : lz_C G F b0 p s m args c cc nL own) {x y : Int32} (d : decode cc pc = .ok (.irem, 1)) (hn : pc + 1 = n) (h0 : ¬ y = 0) (k : lz_W G F b0 p l e R s m args below meth c cells slots Q n L (.int (x - x / y * y) :: st) σ E) : lz_W G F b0 p l e R s m args below meth c cells slots Q pc L (.int y :: .int x :: st) σ E := fun H locs ls hL hP hE hS => by
  subst hn
  exact lv_irem C.1 C.2.1 d h0 (k H locs ls hL hP hE hS)
theorem lz_ishr (C : lz_C G F b0 p s m args c cc nL own) {x y : Int32} (d : decode cc pc = .ok (.ishr, 1)) (hn : pc + 1 = n) (k : lz_W G F b0 p l e R s m args below meth c cells slots Q n L (.int (x >>> (y &&& 31)) :: st) σ E) : lz_W G F b0 p l e R s m args below meth c cells slots Q pc L (.int y :: .int x :: st) σ E := fun H locs ls hL hP hE hS => by
  subst hn
  exact lv_ishr C.1 C.2.1 d (k H locs ls hL hP hE hS)
theorem lz_if_eq (C : lz_C G F b0 p s m args c cc nL own) {x : Int32} {off : Int} {t : Nat} (d : decode cc pc = .ok (.ifCond .eq off, 3)) (hn : pc + 3 = n) (ht : (pc : Int) + off = (t : Int)) (kt : x = 0 → lz_W G F b0 p l e R s m args below meth c cells slots Q t L st σ E) (kf : ¬ x = 0 → lz_W G F b0 p l e R s m args below meth c cells slots Q n L st σ E) : lz_W G F b0 p l e R s m args below meth c cells slots Q pc L (.int x :: st) σ E := fun H locs ls hL hP hE hS => by
  subst hn
  exact lv_if_eq C.1 C.2.1 d ht (fun h => kt h H locs ls hL hP hE hS) (fun h => kf h H locs ls hL hP hE hS)
theorem lz_if_ne (C : lz_C G F b0 p s m args c cc nL own) {x : Int32} {off : Int} {t : Nat} (d : decode cc pc = .ok (.ifCond .ne off, 3)) (hn : pc + 3 = n) (ht : (pc : Int) + off = (t : Int)) (kt : ¬ x = 0 → lz_W G F b0 p l e R s m args below meth c cells slots Q t L st σ E) (kf : x = 0 → lz_W G F b0 p l e R s m args below meth c cells slots Q n L st σ E) : lz_W G F b0 p l e R s m args below meth c cells slots Q pc L (.int x :: st) σ E := fun H locs ls hL hP hE hS => by
  subst hn
  exact lv_if_ne C.1 C.2.1 d ht (fun h => kt h H locs ls hL hP hE hS) (fun h => kf h H locs ls hL hP hE hS)
theorem lz_if_lt (C : lz_C G F b0 p s m args c cc nL own) {x : Int32} {off : Int} {t : Nat} (d : decode cc pc = .ok (.ifCond .lt off, 3)) (hn : pc + 3 = n) (ht : (pc : Int) + off = (t : Int)) (kt : x < 0 → lz_W G F b0 p l e R s m args below meth c cells slots Q t L st σ E) (kf : ¬ x < 0 → lz_W G F b0 p l e R s m args below meth c cells slots Q n L st σ E) : lz_W G F b0 p l e R s m args below meth c cells slots Q pc L (.int x :: st) σ E := fun H locs ls hL hP hE hS => by
  subst hn
  exact lv_if_lt C.1 C.2.1 d ht (fun h => kt h H locs ls hL hP hE hS) (fun h => kf h H locs ls hL hP hE hS)
theorem lz_if_ge (C : lz_C G F b0 p s m args c cc nL own) {x : Int32} {off : Int} {t : Nat} (d : decode cc pc = .ok (.ifCond .ge off, 3)) (hn : pc + 3 = n) (ht : (pc : Int) + off = (t : Int)) (kt : 0 ≤ x → lz_W G F b0 p l e R s m args below meth c cells slots Q t L st σ E) (kf : ¬ 0 ≤ x → lz_W G F b0 p l e R s m args below meth c cells slots Q n L st σ E) : lz_W G F b0 p l e R s m args below meth c cells slots Q pc L (.int x :: st) σ E := fun H locs ls hL hP hE hS => by
  subst hn
  exact lv_if_ge C.1 C.2.1 d ht (fun h => kt h H locs ls hL hP hE hS) (fun h => kf h H locs ls hL hP hE hS)
theorem lz_if_gt (C : lz_C G F b0 p s m args c cc nL own) {x : Int32} {off : Int} {t : Nat} (d : decode cc pc = .ok (.ifCond .gt off, 3)) (hn : pc + 3 = n) (ht : (pc : Int) + off = (t : Int)) (kt : 0 < x → lz_W G F b0 p l e R s m args below meth c cells slots Q t L st σ E) (kf : ¬ 0 < x → lz_W G F b0 p l e R s m args below meth c cells slots Q n L st σ E) : lz_W G F b0 p l e R s m args below meth c cells slots Q pc L (.int x :: st) σ E := fun H locs ls hL hP hE hS => by
  subst hn
  exact lv_if_gt C.1 C.2.1 d ht (fun h => kt h H locs ls hL hP hE hS) (fun h => kf h H locs ls hL hP hE hS)
theorem lz_if_le (C : lz_C G F b0 p s m args c cc nL own) {x : Int32} {off : Int} {t : Nat} (d : decode cc pc = .ok (.ifCond .le off, 3)) (hn : pc + 3 = n) (ht : (pc : Int) + off = (t : Int)) (kt : x ≤ 0 → lz_W G F b0 p l e R s m args below meth c cells slots Q t L st σ E) (kf : ¬ x ≤ 0 → lz_W G F b0 p l e R s m args below meth c cells slots Q n L st σ E) : lz_W G F b0 p l e R s m args below meth c cells slots Q pc L (.int x :: st) σ E := fun H locs ls hL hP hE hS => by
  subst hn
  exact lv_if_le C.1 C.2.1 d ht (fun h => kt h H locs ls hL hP hE hS) (fun h => kf h H locs ls hL hP hE hS)
theorem lz_icmp_eq (C : lz_C G F b0 p s m args c cc nL own) {x y : Int32} {off : Int} {t : Nat} (d : decode cc pc = .ok (.if_icmp .eq off, 3)) (hn : pc + 3 = n) (ht : (pc : Int) + off = (t : Int)) (kt : x = y → lz_W G F b0 p l e R s m args below meth c cells slots Q t L st σ E) (kf : ¬ x = y → lz_W G F b0 p l e R s m args below meth c cells slots Q n L st σ E) : lz_W G F b0 p l e R s m args below meth c cells slots Q pc L (.int y :: .int x :: st) σ E := fun H locs ls hL hP hE hS => by
  subst hn
  exact lv_icmp_eq C.1 C.2.1 d ht (fun h => kt h H locs ls hL hP hE hS) (fun h => kf h H locs ls hL hP hE hS)
theorem lz_icmp_ne (C : lz_C G F b0 p s m args c cc nL own) {x y : Int32} {off : Int} {t : Nat} (d : decode cc pc = .ok (.if_icmp .ne off, 3)) (hn : pc + 3 = n) (ht : (pc : Int) + off = (t : Int)) (kt : ¬ x = y → lz_W G F b0 p l e R s m args below meth c cells slots Q t L st σ E) (kf : x = y → lz_W G F b0 p l e R s m args below meth c cells slots Q n L st σ E) : lz_W G F b0 p l e R s m args below meth c cells slots Q pc L (.int y :: .int x :: st) σ E := fun H locs ls hL hP hE hS => by
  subst hn
  exact lv_icmp_ne C.1 C.2.1 d ht (fun h => kt h H locs ls hL hP hE hS) (fun h => kf h H locs ls hL hP hE hS)
theorem lz_icmp_lt (C : lz_C G F b0 p s m args c cc nL own) {x y : Int32} {off : Int} {t : Nat} (d : decode cc pc = .ok (.if_icmp .lt off, 3)) (hn : pc + 3 = n) (ht : (pc : Int) + off = (t : Int)) (kt : x < y → lz_W G F b0 p l e R s m args below meth c cells slots Q t L st σ E) (kf : ¬ x < y → lz_W G F b0 p l e R s m args below meth c cells slots Q n L st σ E) : lz_W G F b0 p l e R s m args below meth c cells slots Q pc L (.int y :: .int x :: st) σ E := fun H locs ls hL hP hE hS => by
  subst hn
  exact lv_icmp_lt C.1 C.2.1 d ht (fun h => kt h H locs ls hL hP hE hS) (fun h => kf h H locs ls hL hP hE hS)
theorem lz_icmp_ge (C : lz_C G F b0 p s m args c cc nL own) {x y : Int32} {off : Int} {t : Nat} (d : decode cc pc = .ok (.if_icmp .ge off, 3)) (hn : pc + 3 = n) (ht : (pc : Int) + off = (t : Int)) (kt : y ≤ x → lz_W G F b0 p l e R s m args below meth c cells slots Q t L st σ E) (kf : ¬ y ≤ x → lz_W G F b0 p l e R s m args below meth c cells slots Q n L st σ E) : lz_W G F b0 p l e R s m args below meth c cells slots Q pc L (.int y :: .int x :: st) σ E := fun H locs ls hL hP hE hS => by
  subst hn
  exact lv_icmp_ge C.1 C.2.1 d ht (fun h => kt h H locs ls hL hP hE hS) (fun h => kf h H locs ls hL hP hE hS)
theorem lz_icmp_gt (C : lz_C G F b0 p s m args c cc nL own) {x y : Int32} {off : Int} {t : Nat} (d : decode cc pc = .ok (.if_icmp .gt off, 3)) (hn : pc + 3 = n) (ht : (pc : Int) + off = (t : Int)) (kt : y < x → lz_W G F b0 p l e R s m args below meth c cells slots Q t L st σ E) (kf : ¬ y < x → lz_W G F b0 p l e R s m args below meth c cells slots Q n L st σ E) : lz_W G F b0 p l e R s m args below meth c cells slots Q pc L (.int y :: .int x :: st) σ E := fun H locs ls hL hP hE hS => by
  subst hn
  exact lv_icmp_gt C.1 C.2.1 d ht (fun h => kt h H locs ls hL hP hE hS) (fun h => kf h H locs ls hL hP hE hS)
theorem lz_icmp_le (C : lz_C G F b0 p s m args c cc nL own) {x y : Int32} {off : Int} {t : Nat} (d : decode cc pc = .ok (.if_icmp .le off, 3)) (hn : pc + 3 = n) (ht : (pc : Int) + off = (t : Int)) (kt : x ≤ y → lz_W G F b0 p l e R s m args below meth c cells slots Q t L st σ E) (kf : ¬ x ≤ y → lz_W G F b0 p l e R s m args below meth c cells slots Q n L st σ E) : lz_W G F b0 p l e R s m args below meth c cells slots Q pc L (.int y :: .int x :: st) σ E := fun H locs ls hL hP hE hS => by
  subst hn
  exact lv_icmp_le C.1 C.2.1 d ht (fun h => kt h H locs ls hL hP hE hS) (fun h => kf h H locs ls hL hP hE hS)
theorem lz_goto (C : lz_C G F b0 p s m args c cc nL own) {off : Int} {t : Nat} (d : decode cc pc = .ok (.goto off, 3)) (ht : (pc : Int) + off = (t : Int)) (k : lz_W G F b0 p l e R s m args below meth c cells slots Q t L st σ E) : lz_W G F b0 p l e R s m args below meth c cells slots Q pc L st σ E := fun H locs ls hL hP hE hS => lv_goto C.1 C.2.1 d ht (k H locs ls hL hP hE hS)
theorem lz_tabIn (C : lz_C G F b0 p s m args c cc nL own) {dflt lo hi : Int} {offs : Array Int} {len : Nat} {x : Int32} {off : Int} {t : Nat} (d : decode cc pc = .ok (.tableswitch dflt lo hi offs, len)) (h1 : ¬ x.toInt < lo) (h2 : ¬ hi < x.toInt) (ho : offs[(x.toInt - lo).toNat]? = some off) (ht : (pc : Int) + off = (t : Int)) (k : lz_W G F b0 p l e R s m args below meth c cells slots Q t L st σ E) : lz_W G F b0 p l e R s m args below meth c cells slots Q pc L (.int x :: st) σ E := fun H locs ls hL hP hE hS =>
  lv_tableIn C.1 C.2.1 d h1 h2 ho ht (k H locs ls hL hP hE hS)
theorem lz_tabOut (C : lz_C G F b0 p s m args c cc nL own) {dflt lo hi : Int} {offs : Array Int} {len : Nat} {x : Int32} {t : Nat} (d : decode cc pc = .ok (.tableswitch dflt lo hi offs, len)) (h : x.toInt < lo ∨ hi < x.toInt) (ht : (pc : Int) + dflt = (t : Int)) (k : lz_W G F b0 p l e R s m args below meth c cells slots Q t L st σ E) : lz_W G F b0 p l e R s m args below meth c cells slots Q pc L (.int x :: st) σ E := fun H locs ls hL hP hE hS =>
  lv_tableOut C.1 C.2.1 d h ht (k H locs ls hL hP hE hS)
theorem lz_name {x : Int32} (k : ∀ y : Int32, y = x → lz_W G F b0 p l e R s m args below meth c cells slots Q pc L (.int y :: st) σ E) : lz_W G F b0 p l e R s m args below meth c cells slots Q pc L (.int x :: st) σ E := k x rfl
theorem lz_sub {L0 : List (Option Value)} (hl : dk_le L0 L) (k : lz_W G F b0 p l e R s m args below meth c cells slots Q pc L0 st σ E) : lz_W G F b0 p l e R s m args below meth c cells slots Q pc L st σ E := fun H locs ls hL hP hE hS => k H locs ls (hL.sub hl) hP hE hS

theorem lz_widen {k1 n1 : Nat} (h1 : cells ≤ k1) (h2 : slots ≤ n1) (k : lz_W G F b0 p l e R s m args below meth c k1 n1 Q pc L st σ E) : lz_W G F b0 p l e R s m args below meth c cells slots Q pc L st σ E := fun H locs ls hL hP hE hS => W.widen h1 h2 (k H locs ls hL hP hE hS)
theorem lz_here (C : lz_C G F b0 p s m args c cc nL own) {H : Heap} {locs : List Loc} (hP : va_P G.1 dk_cl (dk_wsl G σ) H) (hS : va_S F s.heap H locs ∧ b0 ≤ H.size) : ∀ U : State, U.heap = H → s.WarmedH U.vm → dk_B G σ U := fun U hU hW =>
  ⟨by rw [hU]; exact hP, C.2.2.2.2.2.1.warm hW, fun q hq => C.2.2.2.2.2.2.1 q (Nat.le_trans hS.2 (by rw [← hU]; exact hq)), by
    rw [hU]
    have h : dk_Z (dk_GA G F) U H := (C.2.2.2.2.2.2.2.1.kept (fun a h1 h2 => hS.1.2.1 a h1 h2)).moved hW.alike
    exact h.nar rfl (fun q hq => C.2.2.2.2.2.2.2.2.2 q hq)⟩
theorem lz_keepE (hO : lz_O G E) {H H1 : Heap} (hE : va_P G.1 dk_cl E H) (hk : ∀ q : Nat, q < H.size → ¬ dk_A G q → H1[q]? = H[q]?) : va_P G.1 dk_cl E H1 :=
  hE.kept fun k q hq => hk q.1 (hE k q hq).lt (hO k q hq)
/-- behind a call that came back -/
theorem lz_back (C : lz_C G F b0 p s m args c cc nL own) (hO : lz_O G E) {a : Array Value} {K : Option Value → dk_S → Prop} {H : Heap} {locs : List Loc} {ls : Array Slot} {mc ms : Nat} (hr : va_Run p l e R s m args below meth c H locs cells slots mc ms (F0 m pc ls st) st' (dk_Qc G K a) (dk_A G)) (hL : dk_L L ls) (hE : va_P G.1 dk_cl E H) (hS : va_S F s.heap H locs ∧ b0 ≤ H.size) (hn : pc + 3 = n)
    (k : ∀ (v : Option Value) (σ' : dk_S), K v σ' → lz_W G F b0 p l e R s m args below meth c (cells + mc) (slots + ms) Q n L (v.toList ++ st') σ' E) : W p l e R s m args below meth c H locs cells slots Q (F0 m pc ls st) := by
  subst hn
  intro T hT X
  obtain ⟨v, st₀, t, T', L1, h0, X', hL1, e1, e2, ⟨⟨v2, σ', hv, hK, hP1⟩, hz, hk⟩, stp⟩ := hr T hT X
  cases hv
  rw [h0] at hz hk
  have hk' : ∀ q : Nat, q < H.size → ¬ dk_A G q → T'.heap[q]? = H[q]? := fun q h1 h2 => by rw [e1]; exact hk q h1 h2
  obtain ⟨t2, a1, b1⟩ := k v σ' hK T'.heap (locs ++ L1) ls hL (by rw [e1]; exact hP1) (lz_keepE hO hE hk')
    ⟨⟨Nat.le_trans hS.1.1 (by rw [e1]; exact hz), fun q h1 h2 => by rw [hk' q (Nat.lt_of_lt_of_le h1 hS.1.1) (fun z => h2 (C.2.2.2.2.2.2.2.2.2 q z))]; exact hS.1.2.1 q h1 h2, fun q hq => by
      rcases List.mem_append.mp hq with h | h
      · exact hS.1.2.2 q h
      · exact C.2.2.2.2.2.2.2.2.2 _ (hL1 q h)⟩, Nat.le_trans hS.2 (by rw [e1]; exact hz)⟩ T' rfl X'
  exact ⟨t2, stp t2 a1, b1⟩
theorem lz_goodV {i mL na : Nat} {y : MethodName} {cy : ByteArray} {ret : Option FieldType} (hY : dk_YV y cy mL ret na) (hl : Cond.methodLink own i y ∈ dk_ws) : GoodIn dk_ws (wsV own i y.cls y (Cond.code y cy mL ret :: dk_ws)) := fun w hw => by
  have hm : w ∈ dk_ws := by
    simp only [wsV, List.mem_append, List.mem_cons, List.not_mem_nil, or_false] at hw
    rcases hw with (rfl | rfl | rfl | rfl) | rfl | hw
    · exact hl
    · exact hY.1
    · exact hY.2.1
    · exact hY.2.2.1
    · exact hY.2.2.2.1
    · exact hw
  exact ⟨hm, dk_ws_good w hm⟩
theorem lz_goodS {i mL na : Nat} {y : MethodName} {cy : ByteArray} {ret : Option FieldType} (hY : dk_YS y cy mL ret na) (hl : Cond.methodLink own i y ∈ dk_ws) : GoodIn dk_ws (va_wsS own i y (Cond.code y cy mL ret :: dk_ws)) := fun w hw => by
  have hm : w ∈ dk_ws := by
    simp only [va_wsS, List.mem_append, List.mem_cons, List.not_mem_nil, or_false] at hw
    rcases hw with (rfl | rfl | rfl) | rfl | hw
    · exact hl
    · exact hY.1
    · exact hY.2.1
    · exact hY.2.2.1
    · exact hw
  exact ⟨hm, dk_ws_good w hm⟩
/-- a method of the keep that returns -/
theorem lz_callV (C : lz_C G F b0 p s m args c cc nL own) (hO : lz_O G E) {i lv mL na a b ci : Nat} {y : MethodName} {cy : ByteArray} {ret : Option FieldType} {As : List Value} {K : Option Value → dk_S → Prop} {fs : List (Option (Nat → Nat × Nat))} {T : u_T} {N : Nat} (st' : List Value)
    (hM : dk_M G l lv y cy mL ret (dk_r G a b :: As) σ K) (hY : dk_YV y cy mL ret na) (hl : Cond.methodLink own i y ∈ dk_ws) (hna : As.length = na) (hR : lv + 1 ≤ R.frames ∧ 8 + (mL + 11) + 40 * lv ≤ R.locals) (hRc : cells ≤ R.cells ∧ slots ≤ R.slots)
    (hs : dk_shp b = .inr (ci, fs)) (hc : dk_cl[ci]? = some (y.cls, T, N)) (hd : (a, b) ∈ dk_dom G) (hst : st = As.reverse ++ dk_r G a b :: st') (hcat : (st'.map fun v => v.category).sum ≤ 8) (hLn : L.length = nL) (d : decode cc pc = .ok (.invokevirtual i, 3)) (hn : pc + 3 = n)
    (k : ∀ (v : Option Value) (σ' : dk_S), K v σ' → lz_W G F b0 p l e R s m args below meth c cells slots Q n L (v.toList ++ st') σ' E) : lz_W G F b0 p l e R s m args below meth c cells slots Q pc L st σ E := fun H locs ls hL hP hE hS => by
  subst hst
  obtain ⟨j, -, hj⟩ := dk_pos hd σ
  rw [dk_cel, dk_ce.eq_def, hs] at hj
  have hr := va_runV (p := p) (l := l) (e := e) (R := R) (below := below) (meth := meth) (H := H) (locs := locs) (cells := cells) (slots := slots) (mc := 0) (ms := 0) (As := As) (rest := st') (b := dk_ad G a b) (C := y.cls) (g := F0 m pc ls (As.reverse ++ dk_r G a b :: st')) (Pc := va_Pc (dk_r G a b :: As) (dk_B G σ))
    ⟨C.1, C.2.1, C.2.2.1, C.2.2.2.1, C.2.2.2.2.1⟩ hM (cwV na C.2.2.2.2.1 (lz_goodV hY hl) rfl rfl rfl ⟨rfl, hY.2.2.2.2⟩ hR)
    ⟨dk_blind, va_recv C.2.2.2.2.2.1.1 hP hc hj, fun U hU hW => ⟨rfl, lz_here C hP hS U hU hW⟩⟩ rfl hna (by rw [← hLn]; exact hL.1) rfl (lv_room hcat) d hRc
  exact lz_back C hO hr hL hE hS hn k
/-- a method of the keep that returns or throws -/
theorem lz_callX (C : lz_C G F b0 p s m args c cc nL own) (hO : lz_O G E) {i lv mL na a b ci : Nat} {y : MethodName} {cy : ByteArray} {ret : Option FieldType} {As : List Value} {K : Option Value → dk_S → Prop} {X : String → dk_S → Prop} {fs : List (Option (Nat → Nat × Nat))} {T : u_T} {N : Nat} (st' : List Value)
    (hM : dk_MX G l lv y cy mL ret (dk_r G a b :: As) σ K X) (hY : dk_YV y cy mL ret na) (hl : Cond.methodLink own i y ∈ dk_ws) (hna : As.length = na) (hR : lv + 1 ≤ R.frames ∧ 8 + (mL + 11) + 40 * lv ≤ R.locals) (hRc : cells + 1 ≤ R.cells ∧ slots + 6 ≤ R.slots)
    (hs : dk_shp b = .inr (ci, fs)) (hc : dk_cl[ci]? = some (y.cls, T, N)) (hd : (a, b) ∈ dk_dom G) (hst : st = As.reverse ++ dk_r G a b :: st') (hcat : (st'.map fun v => v.category).sum ≤ 8) (hLn : L.length = nL) (d : decode cc pc = .ok (.invokevirtual i, 3)) (hn : pc + 3 = n)
    (kx : ∀ (M : String) (σ' : dk_S), X M σ' → lz_X G F b0 p l e R s m args below meth c (cells + 1) (slots + 6) Q M pc L st' σ' E)
    (k : ∀ (v : Option Value) (σ' : dk_S), K v σ' → lz_W G F b0 p l e R s m args below meth c cells slots Q n L (v.toList ++ st') σ' E) : lz_W G F b0 p l e R s m args below meth c cells slots Q pc L st σ E := fun H locs ls hL hP hE hS => by
  subst hst
  subst hn
  obtain ⟨j, -, hj⟩ := dk_pos hd σ
  rw [dk_cel, dk_ce.eq_def, hs] at hj
  have hr := zx_runV (p := p) (l := l) (e := e) (R := R) (below := below) (meth := meth) (H := H) (locs := locs) (cells := cells) (slots := slots) (mc := 1) (ms := 6) (As := As) (rest := st') (b := dk_ad G a b) (C := y.cls) (g := F0 m pc ls (As.reverse ++ dk_r G a b :: st')) (Pc := va_Pc (dk_r G a b :: As) (dk_B G σ))
    ⟨C.1, C.2.1, C.2.2.1, C.2.2.2.1, C.2.2.2.2.1⟩ hM (cwV na C.2.2.2.2.1 (lz_goodV hY hl) rfl rfl rfl ⟨rfl, hY.2.2.2.2⟩ hR)
    ⟨dk_blind, va_recv C.2.2.2.2.2.1.1 hP hc hj, fun U hU hW => ⟨rfl, lz_here C hP hS U hU hW⟩⟩ rfl hna (by rw [← hLn]; exact hL.1) rfl (lv_room hcat) d hRc
  intro T hT X9
  have hk' : ∀ {st₀ t T' : State}, st₀.heap = H → T'.heap = t.heap → va_F (dk_A G) st₀ t → ∀ q : Nat, q < H.size → ¬ dk_A G q → T'.heap[q]? = H[q]? := by
    intro st₀ t T' h0 e1 hF q h1 h2
    rw [e1, hF.2 q (by rw [h0]; exact h1) h2, h0]
  have keep : ∀ {st₀ t T' : State} {L1 : List Loc}, st₀.heap = H → T'.heap = t.heap → va_F (dk_A G) st₀ t → (∀ q ∈ L1, dk_A G q.base) → va_S F s.heap T'.heap (locs ++ L1) ∧ b0 ≤ T'.heap.size := by
    intro st₀ t T' L1 h0 e1 hF hL1
    exact ⟨⟨Nat.le_trans hS.1.1 (by rw [e1, ← h0]; exact hF.1), fun q h1 h2 => by rw [hk' h0 e1 hF q (Nat.lt_of_lt_of_le h1 hS.1.1) (fun z => h2 (C.2.2.2.2.2.2.2.2.2 q z))]; exact hS.1.2.1 q h1 h2, fun q hq => by
      rcases List.mem_append.mp hq with h | h
      · exact hS.1.2.2 q h
      · exact C.2.2.2.2.2.2.2.2.2 _ (hL1 q h)⟩, Nat.le_trans hS.2 (by rw [e1, ← h0]; exact hF.1)⟩
  rcases hr T hT X9 with ⟨v, st₀, t, T', L1, h0, X', hL1, e1, e2, ⟨⟨v2, σ', hv, hK, hP1⟩, hF⟩, stp⟩ | ⟨q, st₀, t, T', L1, M, ce, h0, X', hL1, e1, e2, ⟨⟨σ', hx, hP1⟩, hF⟩, hce, hcv, hcl, stp⟩
  · cases hv
    obtain ⟨t2, a1, b1⟩ := k v σ' hK T'.heap (locs ++ L1) ls hL (by rw [e1]; exact hP1) (lz_keepE hO hE (hk' h0 e1 hF)) (keep h0 e1 hF hL1) T' rfl X'
    exact ⟨t2, stp t2 a1, b1⟩
  · obtain ⟨t2, a1, b1⟩ := kx M σ' hx T'.heap (locs ++ L1) ls q ce hL (by rw [e1]; exact hP1) (lz_keepE hO hE (hk' h0 e1 hF)) (keep h0 e1 hF hL1) (by rw [e1]; exact hce) hcv hcl T' rfl X'
    exact ⟨t2, stp.trans a1, b1⟩
/-- a static method over a keep that returns or throws: here it returns -/
theorem lz_callSX (C : lz_C G F b0 p s m args c cc nL own) (hO : lz_O G E) {i lv mL na : Nat} {y : MethodName} {cy : ByteArray} {ret : Option FieldType} {As : List Value} {K : Option Value → dk_S → Prop} (st' : List Value)
    (hM : dk_MX G l lv y cy mL ret As σ K (fun _ _ => False)) (hY : dk_YS y cy mL ret na) (hl : Cond.methodLink own i y ∈ dk_ws) (hna : As.length = na) (hR : lv + 1 ≤ R.frames ∧ 8 + (mL + 11) + 40 * lv ≤ R.locals) (hRc : cells + 1 ≤ R.cells ∧ slots + 6 ≤ R.slots)
    (hst : st = As.reverse ++ st') (hcat : (st'.map fun v => v.category).sum ≤ 8) (hLn : L.length = nL) (d : decode cc pc = .ok (.invokestatic i, 3)) (hn : pc + 3 = n)
    (k : ∀ (v : Option Value) (σ' : dk_S), K v σ' → lz_W G F b0 p l e R s m args below meth c cells slots Q n L (v.toList ++ st') σ' E) : lz_W G F b0 p l e R s m args below meth c cells slots Q pc L st σ E := fun H locs ls hL hP hE hS => by
  subst hst
  subst hn
  have hr := zx_runS (p := p) (l := l) (e := e) (R := R) (below := below) (meth := meth) (H := H) (locs := locs) (cells := cells) (slots := slots) (mc := 1) (ms := 6) (As := As) (rest := st') (g := F0 m pc ls (As.reverse ++ st')) (Pc := va_Pc As (dk_B G σ))
    ⟨C.1, C.2.1, C.2.2.1, C.2.2.2.1, C.2.2.2.2.1⟩ hM (va_cwS na C.2.2.2.2.1 (lz_goodS hY hl) rfl rfl rfl hY.2.2.2 hR)
    ⟨dk_blind, fun U hU hW => ⟨rfl, lz_here C hP hS U hU hW⟩⟩ rfl hna (by rw [← hLn]; exact hL.1) rfl (lv_room hcat) d hRc
  intro T hT X9
  rcases hr T hT X9 with ⟨v, st₀, t, T', L1, h0, X', hL1, e1, e2, ⟨⟨v2, σ', hv, hK, hP1⟩, hF⟩, stp⟩ | ⟨q, st₀, t, T', L1, M, ce, h0, X', hL1, e1, e2, ⟨⟨σ', hx, hP1⟩, hF⟩, hce, hcv, hcl, stp⟩
  · cases hv
    obtain ⟨hz, hk⟩ := hF
    rw [h0] at hz hk
    have hk' : ∀ q : Nat, q < H.size → ¬ dk_A G q → T'.heap[q]? = H[q]? := fun q h1 h2 => by rw [e1]; exact hk q h1 h2
    obtain ⟨t2, a1, b1⟩ := k v σ' hK T'.heap (locs ++ L1) ls hL (by rw [e1]; exact hP1) (lz_keepE hO hE hk')
      ⟨⟨Nat.le_trans hS.1.1 (by rw [e1]; exact hz), fun q h1 h2 => by rw [hk' q (Nat.lt_of_lt_of_le h1 hS.1.1) (fun z => h2 (C.2.2.2.2.2.2.2.2.2 q z))]; exact hS.1.2.1 q h1 h2, fun q hq => by
        rcases List.mem_append.mp hq with h | h
        · exact hS.1.2.2 q h
        · exact C.2.2.2.2.2.2.2.2.2 _ (hL1 q h)⟩, Nat.le_trans hS.2 (by rw [e1]; exact hz)⟩ T' rfl X'
    exact ⟨t2, stp t2 a1, b1⟩
  · exact hx.elim
/-- a static method over a keep that returns -/
theorem lz_callS (C : lz_C G F b0 p s m args c cc nL own) (hO : lz_O G E) {i lv mL na : Nat} {y : MethodName} {cy : ByteArray} {ret : Option FieldType} {As : List Value} {K : Option Value → dk_S → Prop} (st' : List Value)
    (hM : dk_M G l lv y cy mL ret As σ K) (hY : dk_YS y cy mL ret na) (hl : Cond.methodLink own i y ∈ dk_ws) (hna : As.length = na) (hR : lv + 1 ≤ R.frames ∧ 8 + (mL + 11) + 40 * lv ≤ R.locals) (hRc : cells ≤ R.cells ∧ slots ≤ R.slots)
    (hst : st = As.reverse ++ st') (hcat : (st'.map fun v => v.category).sum ≤ 8) (hLn : L.length = nL) (d : decode cc pc = .ok (.invokestatic i, 3)) (hn : pc + 3 = n)
    (k : ∀ (v : Option Value) (σ' : dk_S), K v σ' → lz_W G F b0 p l e R s m args below meth c cells slots Q n L (v.toList ++ st') σ' E) : lz_W G F b0 p l e R s m args below meth c cells slots Q pc L st σ E := fun H locs ls hL hP hE hS => by
  subst hst
  have hr := va_runS (p := p) (l := l) (e := e) (R := R) (below := below) (meth := meth) (H := H) (locs := locs) (cells := cells) (slots := slots) (mc := 0) (ms := 0) (As := As) (rest := st') (g := F0 m pc ls (As.reverse ++ st')) (Pc := va_Pc As (dk_B G σ))
    ⟨C.1, C.2.1, C.2.2.1, C.2.2.2.1, C.2.2.2.2.1⟩ hM (va_cwS na C.2.2.2.2.1 (lz_goodS hY hl) rfl rfl rfl hY.2.2.2 hR)
    ⟨dk_blind, fun U hU hW => ⟨rfl, lz_here C hP hS U hU hW⟩⟩ rfl hna (by rw [← hLn]; exact hL.1) rfl (lv_room hcat) d hRc
  exact lz_back C hO hr hL hE hS hn k
/-- a static method over a keep that makes cells -/
def lz_rm (lv mc ms : Nat) : Room := { frames := lv, cells := mc, slots := ms, locals := 40 * lv }
def lz_MC (G : dk_G) (l : Launch) (lv mc ms : Nat) (y : MethodName) (cy : ByteArray) (mL : Nat) (ret : Option FieldType) (As : List Value) (σ : dk_S) (K : Option Value → dk_S → Prop) : Prop :=
  Met l y (Cond.code y cy mL ret :: dk_ws) (lz_rm lv mc ms) (va_Pc As (dk_B G σ)) (dk_Qc G K) mc ms (dk_A G)
theorem lz_callSC (C : lz_C G F b0 p s m args c cc nL own) (hO : lz_O G E) {i lv mc ms mL na : Nat} {y : MethodName} {cy : ByteArray} {ret : Option FieldType} {As : List Value} {K : Option Value → dk_S → Prop} (st' : List Value)
    (hM : lz_MC G l lv mc ms y cy mL ret As σ K) (hY : dk_YS y cy mL ret na) (hl : Cond.methodLink own i y ∈ dk_ws) (hna : As.length = na) (hR : lv + 1 ≤ R.frames ∧ 8 + (mL + 11) + 40 * lv ≤ R.locals) (hRc : cells + mc ≤ R.cells ∧ slots + ms ≤ R.slots)
    (hst : st = As.reverse ++ st') (hcat : (st'.map fun v => v.category).sum ≤ 8) (hLn : L.length = nL) (d : decode cc pc = .ok (.invokestatic i, 3)) (hn : pc + 3 = n)
    (k : ∀ (v : Option Value) (σ' : dk_S), K v σ' → lz_W G F b0 p l e R s m args below meth c (cells + mc) (slots + ms) Q n L (v.toList ++ st') σ' E) : lz_W G F b0 p l e R s m args below meth c cells slots Q pc L st σ E := fun H locs ls hL hP hE hS => by
  subst hst
  have hr := va_runS (p := p) (l := l) (e := e) (R := R) (below := below) (meth := meth) (H := H) (locs := locs) (cells := cells) (slots := slots) (mc := mc) (ms := ms) (As := As) (rest := st') (g := F0 m pc ls (As.reverse ++ st')) (Pc := va_Pc As (dk_B G σ))
    ⟨C.1, C.2.1, C.2.2.1, C.2.2.2.1, C.2.2.2.2.1⟩ hM (va_cwS na C.2.2.2.2.1 (lz_goodS hY hl) rfl rfl rfl hY.2.2.2 hR)
    ⟨dk_blind, fun U hU hW => ⟨rfl, lz_here C hP hS U hU hW⟩⟩ rfl hna (by rw [← hLn]; exact hL.1) rfl (lv_room hcat) d hRc
  exact lz_back C hO hr hL hE hS hn k
/-- .. that has handlers -/
def lz_MH (G : dk_G) (l : Launch) (lv : Nat) (y : MethodName) (cy : ByteArray) (mL : Nat) (hh : List (Nat × Nat × Nat × Nat)) (As : List Value) (σ : dk_S) (K : Option Value → dk_S → Prop) : Prop :=
  Met l y (Cond.codeWith y cy mL (some .int) hh :: dk_ws) (dk_rx lv) (va_Pc As (dk_B G σ)) (dk_Qc G K) 1 6 (dk_A G)
def lz_YH (y : MethodName) (cy : ByteArray) (mL : Nat) (hh : List (Nat × Nat × Nat × Nat)) (na : Nat) : Prop :=
  Cond.static y ∈ dk_ws ∧ Cond.initialized y.cls ∈ dk_ws ∧ Cond.codeWith y cy mL (some .int) hh ∈ dk_ws ∧ (y.cls ≠ "java/lang/invoke/MethodHandle" ∧ y.cls ≠ "java/lang/invoke/VarHandle" ∧ (parseMethodDescriptor y.desc).map (fun d => d.parameters.length) = some na)
theorem lz_callSH (C : lz_C G F b0 p s m args c cc nL own) (hO : lz_O G E) {i lv mL na : Nat} {y : MethodName} {cy : ByteArray} {hh : List (Nat × Nat × Nat × Nat)} {As : List Value} {K : Option Value → dk_S → Prop} (st' : List Value)
    (hM : lz_MH G l lv y cy mL hh As σ K) (hY : lz_YH y cy mL hh na) (hl : Cond.methodLink own i y ∈ dk_ws) (hna : As.length = na) (hR : lv + 1 ≤ R.frames ∧ 8 + (mL + 11) + 40 * lv ≤ R.locals) (hRc : cells + 1 ≤ R.cells ∧ slots + 6 ≤ R.slots)
    (hst : st = As.reverse ++ st') (hcat : (st'.map fun v => v.category).sum ≤ 8) (hLn : L.length = nL) (d : decode cc pc = .ok (.invokestatic i, 3)) (hn : pc + 3 = n)
    (k : ∀ (v : Option Value) (σ' : dk_S), K v σ' → lz_W G F b0 p l e R s m args below meth c (cells + 1) (slots + 6) Q n L (v.toList ++ st') σ' E) : lz_W G F b0 p l e R s m args below meth c cells slots Q pc L st σ E := fun H locs ls hL hP hE hS => by
  subst hst
  have hT : GoodIn dk_ws (va_wsS own i y (Cond.codeWith y cy mL (some .int) hh :: dk_ws)) := fun w hw => by
    have hm : w ∈ dk_ws := by
      simp only [va_wsS, List.mem_append, List.mem_cons, List.not_mem_nil, or_false] at hw
      rcases hw with (rfl | rfl | rfl) | rfl | hw
      · exact hl
      · exact hY.1
      · exact hY.2.1
      · exact hY.2.2.1
      · exact hw
    exact ⟨hm, dk_ws_good w hm⟩
  have hr := vx_runSW (p := p) (l := l) (e := e) (R := R) (below := below) (meth := meth) (H := H) (locs := locs) (cells := cells) (slots := slots) (mc := 1) (ms := 6) (As := As) (rest := st') (g := F0 m pc ls (As.reverse ++ st')) (Pc := va_Pc As (dk_B G σ)) (Ts := dk_ws)
    ⟨C.1, C.2.1, C.2.2.1, C.2.2.2.1, C.2.2.2.2.1⟩ hM (vx_cwSW na C.2.2.2.2.1 hT rfl rfl rfl hY.2.2.2 hR)
    ⟨dk_blind, fun U hU hW => ⟨rfl, lz_here C hP hS U hU hW⟩⟩ rfl hna (by rw [← hLn]; exact hL.1) rfl (lv_room hcat) d hRc
  exact lz_back C hO hr hL hE hS hn k
/-- caught by the handler x, behind those of pre -/
theorem lz_catch (C : lz_C G F b0 p s m args c cc nL own) {M : String} (pre : List ExceptionTableEntry) (x : ExceptionTableEntry) (suf : List ExceptionTableEntry) (hsplit : c.exceptionTable.toList = pre ++ x :: suf)
    (hpass : ∀ z ∈ pre, covers z pc = false ∨ (z.catchType ≠ 0 ∧ ∃ nm : String, Cond.classLink own z.catchType nm ∈ dk_ws ∧ (M, nm) ∈ dk_ncL)) (hx : covers x pc = true) (h0 : x.catchType ≠ 0) (hlink : Cond.classLink own x.catchType M ∈ dk_ws) (hcast : Cond.castable M M ∈ dk_nw) (hn : x.handlerPc = n)
    (k : ∀ q : Nat, lz_W G F b0 p l e R s m args below meth c cells slots Q n L [.ref q] σ E) : lz_X G F b0 p l e R s m args below meth c cells slots Q M pc L st σ E := fun H locs ls q ce hL hP hE hS hce hcv hcl => by
  subst hn
  refine vx_catch (name := M) C.2.2.2.1 pre x suf hsplit (fun z hz => ?_) hx h0 (C.2.2.2.2.1 _ hlink) (va_Nw.use rfl (C.2.2.2.2.2.1.2.1 _ hcast)) hce hcv hcl (k q H locs ls hL hP hE hS)
  rcases hpass z hz with h | ⟨h1, nm, h2, h3⟩
  · exact Or.inl h
  · exact Or.inr ⟨h1, nm, C.2.2.2.2.1 _ h2, C.2.2.2.2.2.1.2.2.2.2.2 _ h3⟩
end LZR
/-! contracts of methods over one keep -/
theorem lz_ofWH {l : Launch} {y : MethodName} {ws ws' : List Cond} {rm : Room} {Pc : Array Value → State → Prop} {Qc : Array Value → State → Outcome → State → Prop} {mc ms : Nat} {free : Addr → Prop} {cc : ByteArray} {maxL : Nat} {ret : Option FieldType} {hh : List (Nat × Nat × Nat × Nat)}
    (hy : plainName y.cls = true) (hw : ws = Cond.codeWith y cc maxL ret hh :: ws')
    (body : ∀ p e s m args below meth c s₁, BodyLoose p l y (headSpec ws rm) cc maxL ret e s m args below meth c s₁ → c.maxLocals = maxL → Pc args s →
      W p l e (headSpec ws rm).room s m args below meth c s.heap [] 0 0 (MQ below Qc args s mc ms free) (entryFrame m args maxL)) : Met l y ws rm Pc Qc mc ms free := by
  refine MetFree.of_bodyS (code := cc) (maxLocals := maxL) (ret := ret) hy ?_ ?_
  · intro args s m h hn
    obtain ⟨m9, meth, c, hn9, h1, h2, h3, h4, -, h5, h6, -⟩ := Cond.codeWith_spec (atoms_spec (ws := ws) h _ (by rw [hw]; exact List.mem_cons_self))
    cases hn.symm.trans hn9
    exact ⟨meth, c, h1, h2, h3, h4, h5, h6⟩
  · intro p e s m args below meth c s₁ B hml hP _
    have hh0 : s₁.heap = s.heap := by rw [B.state]; rfl
    obtain ⟨t, a1, o, b1, b2, b3⟩ := body p e s m args below meth c s₁ B hml hP s₁ hh0 (Stand.of_body B)
    exact ⟨t, o, a1, b1, b2, ⟨b3.1, b3.2⟩⟩
theorem lz_ofH {G : dk_G} {l : Launch} {lv : Nat} {y : MethodName} {cc : ByteArray} {maxL : Nat} {hh : List (Nat × Nat × Nat × Nat)} {As : List Value} {σ : dk_S} {K : Option Value → dk_S → Prop} (hD : dk_D G) (hpl : plainName y.cls = true) (L : List (Option Value)) (hL : ∀ q ∈ dk_ll 0 L, q ∈ lv_args 0 As) (hlen : L.length = maxL) (hfit : (lg_sl As).length ≤ maxL)
    (body : ∀ (p : Program) (e : Env) (s : State) (m : MethodId) (args : Array Value) (below : List Frame) (meth : Method) (c : Code), lz_C G (dk_A G) s.heap.size p s m args c cc maxL y.cls → c.exceptionTable.toList = tableOf hh → meth.sig.returnType = some .int → meth.locks = false →
      lz_W G (dk_A G) s.heap.size p l e (dk_rx lv) s m args below meth c 0 0 (MQ below (dk_Qc G K) args s 1 6 (dk_A G)) 0 L [] σ []) : lz_MH G l lv y cc maxL hh As σ K := by
  refine lz_ofWH (cc := cc) (maxL := maxL) (ret := some .int) (hh := hh) hpl rfl ?_
  intro p e s m args below meth c s₁ B hml hv
  obtain ⟨rfl, hP, hV, hA, hZ⟩ := hv
  have hts := atoms_spec (ws := Cond.codeWith y cc maxL (some .int) hh :: dk_ws) B.pre
  have C : lz_C G (dk_A G) s.heap.size p s m As.toArray c cc maxL y.cls := ⟨B.exec, B.bytes, hml, findClass_of_methodNamed B.named, fun w hw => hts w (List.mem_cons_of_mem _ hw), hV, hA, hZ, hD, fun _ h => h⟩
  have k := body p e s m As.toArray below meth c C (vx_table (x := y) B (hts _ List.mem_cons_self)) B.returns B.notSynchronized
  rw [lg_entry_eq]
  exact k s.heap [] _ (dk_L.of (lv_entry As hfit) hlen hL) hP (fun k q h => by simp at h) ⟨va_S.rf, Nat.le_refl _⟩
theorem lz_ofC {G : dk_G} {l : Launch} {lv mc ms : Nat} {y : MethodName} {cc : ByteArray} {maxL : Nat} {ret : Option FieldType} {As : List Value} {σ : dk_S} {K : Option Value → dk_S → Prop} (hD : dk_D G) (hpl : plainName y.cls = true) (L : List (Option Value)) (hL : ∀ q ∈ dk_ll 0 L, q ∈ lv_args 0 As) (hlen : L.length = maxL) (hfit : (lg_sl As).length ≤ maxL)
    (body : ∀ (p : Program) (e : Env) (s : State) (m : MethodId) (args : Array Value) (below : List Frame) (meth : Method) (c : Code), lz_C G (dk_A G) s.heap.size p s m args c cc maxL y.cls → meth.sig.returnType = ret → meth.locks = false →
      lz_W G (dk_A G) s.heap.size p l e (lz_rm lv mc ms) s m args below meth c 0 0 (MQ below (dk_Qc G K) args s mc ms (dk_A G)) 0 L [] σ []) : lz_MC G l lv mc ms y cc maxL ret As σ K := by
  refine Met.ofW (cc := cc) (maxL := maxL) (ret := ret) hpl rfl ?_
  intro p e s m args below meth c s₁ B hml hv
  obtain ⟨rfl, hP, hV, hA, hZ⟩ := hv
  have hts := atoms_spec (ws := Cond.code y cc maxL ret :: dk_ws) B.pre
  have C : lz_C G (dk_A G) s.heap.size p s m As.toArray c cc maxL y.cls := ⟨B.exec, B.bytes, hml, findClass_of_methodNamed B.named, fun w hw => hts w (List.mem_cons_of_mem _ hw), hV, hA, hZ, hD, fun _ h => h⟩
  have k := body p e s m As.toArray below meth c C B.returns B.notSynchronized
  rw [lg_entry_eq]
  exact k s.heap [] _ (dk_L.of (lv_entry As hfit) hlen hL) hP (fun k q h => by simp at h) ⟨va_S.rf, Nat.le_refl _⟩
theorem lz_iret {G : dk_G} {A F : Nat → Prop} {b0 : Nat} {p : Program} {l : Launch} {e : Env} {R : Room} {s : State} {m : MethodId} {args : Array Value} {below : List Frame} {meth : Method} {c : Code} {cells slots mc ms : Nat} {cc : ByteArray} {nL : Nat} {own : String} {pc : Nat} {L : List (Option Value)} {σ : dk_S} {E : va_W} (C : lz_C G F b0 p s m args c cc nL own) (hF : ∀ q, F q → A q) {K : Option Value → dk_S → Prop} {v : Int32} {ty : FieldType} (hc : cells ≤ mc) (hs : slots ≤ ms) (hr : meth.sig.returnType = some ty) (hlk : meth.locks = false) (hna : narrow ty (.int v) = .int v) (d : decode cc pc = .ok (.ireturn, 1)) {G' : dk_G} (hG : G'.1 = G.1 ∧ dk_wsl G' σ = dk_wsl G σ ∧ dk_A G' = A) (k : K (some (.int v)) σ) :
    lz_W G F b0 p l e R s m args below meth c cells slots (MQ below (dk_Qc G' K) args s mc ms A) pc L [.int v] σ E := fun H locs ls hL hP hE hS => by
  have hS' : va_S A s.heap H locs := ⟨hS.1.1, fun q h1 h2 => hS.1.2.1 q h1 (fun z => h2 (hF q z)), fun q hq => hF _ (hS.1.2.2 q hq)⟩
  refine W.widen hc hs (W.zret C.1 C.2.1 hr hna (fun t ht hW => ⟨⟨_, σ, rfl, k, by rw [ht, hG.1, hG.2.1]; exact hP⟩, ?_⟩) hS'.2.2 d hlk)
  rw [hG.2.2]
  exact hS'.F ht
