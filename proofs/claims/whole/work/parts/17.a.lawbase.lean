/-! the law and its wrappers: the rows out and outD beside the store -/
abbrev dl_T : Type := Nat × Nat × Nat × ClassId × ClassId
def dl_A (O : dl_T) : Nat → Prop := fun q => O.1 ≤ q
def dl_ws (O : dl_T) (fO : Nat → Int64) (fD : Nat → UInt64) : va_W := [(O.2.1, .inl (O.2.2.2.1, 1, .inr (.inl fO))), (O.2.2.1, .inl (O.2.2.2.2, 1, .inr (.inr (.inr (.inl fD)))))]
def dl_tys (O : dl_T) : List (ClassId × FieldType) := [(O.2.2.2.1, .long), (O.2.2.2.2, .double)]
def dl_O (G : dk_G) (O : dl_T) (fO : Nat → Int64) (fD : Nat → UInt64) (H : Heap) : Prop := va_P G.1 dk_cl (dl_ws O fO fD) H
def dl_G (G : dk_G) (O : dl_T) : Prop := (∀ fO fD, va_D (dl_A O) (dl_ws O fO fD)) ∧ ∀ q, dk_A G q ↔ (O.1 ≤ q ∧ q ≠ O.2.1 ∧ q ≠ O.2.2.1)
theorem dl_G.sub {G : dk_G} {O : dl_T} (h : dl_G G O) {q : Nat} (hq : dk_A G q) : dl_A O q := ((h.2 q).1 hq).1
theorem dl_G.o {G : dk_G} {O : dl_T} (h : dl_G G O) : ¬ dk_A G O.2.1 := fun g => ((h.2 _).1 g).2.1 rfl
theorem dl_G.d {G : dk_G} {O : dl_T} (h : dl_G G O) : ¬ dk_A G O.2.2.1 := fun g => ((h.2 _).1 g).2.2 rfl
theorem dl_O.o {G : dk_G} {O : dl_T} {fO : Nat → Int64} {fD : Nat → UInt64} {H : Heap} (h : dl_O G O fO fD H) : O.2.1 < H.size := (h 0 _ rfl).lt
theorem dl_O.d {G : dk_G} {O : dl_T} {fO : Nat → Int64} {fD : Nat → UInt64} {H : Heap} (h : dl_O G O fO fD H) : O.2.2.1 < H.size := (h 1 _ rfl).lt
theorem dl_O.kept {G : dk_G} {O : dl_T} {fO : Nat → Int64} {fD : Nat → UInt64} {H H1 : Heap} (g : dl_G G O) (h : dl_O G O fO fD H) (hk : ∀ q : Nat, q < H.size → ¬ dk_A G q → H1[q]? = H[q]?) : dl_O G O fO fD H1 := by
  refine va_P.kept h (fun k q hq => ?_)
  match k, hq with
  | 0, hq => cases hq; exact hk _ h.o g.o
  | 1, hq => cases hq; exact hk _ h.d g.d
  | k + 2, hq => simp [dl_ws] at hq
theorem dl_up {G : dk_G} {O : dl_T} {fO : Nat → Int64} {fD : Nat → UInt64} {H : Heap} (g : dl_G G O) (hN : O.1 ≤ H.size) (h : dl_O G O fO fD H) {q : Nat} (hq : H.size ≤ q) : dk_A G q := (g.2 q).2 ⟨Nat.le_trans hN hq, fun e => by have := h.o; omega, fun e => by have := h.d; omega⟩
def dk_GA (G : dk_G) (A : Nat → Prop) : dk_G := (G.1, G.2.1, G.2.2.1, G.2.2.2.1, A, G.2.2.2.2.2)
theorem dk_Z.nar {G G' : dk_G} {U : State} {H : Heap} (h : dk_Z G U H) (e : G'.2.2.2.2.2 = G.2.2.2.2.2) (hAB : ∀ q, dk_A G' q → dk_A G q) : dk_Z G' U H := by
  unfold dk_Z dk_tL dk_aK dk_aV
  rw [e]
  exact ⟨h.1.narrow hAB, h.2.1.narrow hAB, h.2.2.1.narrow hAB, h.2.2.2.1.narrow hAB, h.2.2.2.2.1.narrow hAB, h.2.2.2.2.2.narrow hAB⟩
/-- the world that a wrapper finds -/
def dw_B (G : dk_G) (O : dl_T) (σ : dk_S) (fO : Nat → Int64) (fD : Nat → UInt64) (U : State) : Prop := va_P G.1 dk_cl (dk_wsl G σ) U.heap ∧ dl_O G O fO fD U.heap ∧ dk_V G U ∧ dk_Z (dk_GA G (dl_A O)) U U.heap ∧ va_K G.1 dk_cl (dl_tys O) U ∧ O.1 ≤ U.heap.size
theorem dw_blind {G : dk_G} {O : dl_T} {σ : dk_S} {fO : Nat → Int64} {fD : Nat → UInt64} {As : List Value} : FrameBlind (va_Pc As (dw_B G O σ fO fD)) := fun a U g mk h =>
  ⟨h.1, h.2.1, h.2.2.1, h.2.2.2.1.same (u := U) (U := U.calling g mk a) rfl, h.2.2.2.2.1.moved (u := U) (U := U.calling g mk a) (Vm.Alike.refl U.vm), h.2.2.2.2.2.1.moved (u := U) (U := U.calling g mk a) (Vm.Alike.refl U.vm), h.2.2.2.2.2.2⟩
/-- what a walk of the law or of a wrapper rests on -/
def dw_C (G : dk_G) (O : dl_T) (p : Program) (s : State) (m : MethodId) (args : Array Value) (c : Code) (cc : ByteArray) (nL : Nat) (own : String) : Prop :=
  p.tables.exec = Jvm.exec ∧ c.code = cc ∧ c.maxLocals = nL ∧ s.vm.findClass own = some m.cls ∧ (∀ w ∈ dk_ws, w.before args s = true) ∧ dk_V G s ∧ dk_Z (dk_GA G (dl_A O)) s s.heap ∧ dk_D G ∧ dl_G G O ∧ va_K G.1 dk_cl (dl_tys O) s ∧ O.1 ≤ s.heap.size
def dw_W (G : dk_G) (O : dl_T) (p : Program) (l : Launch) (e : Env) (R : Room) (s : State) (m : MethodId) (args : Array Value) (below : List Frame) (meth : Method) (c : Code) (cells slots : Nat) (Q : State → Prop) (pc : Nat) (L : List (Option Value)) (st : List Value) (σ : dk_S) (fO : Nat → Int64) (fD : Nat → UInt64) : Prop :=
  ∀ (H : Heap) (locs : List Loc) (ls : Array Slot), dk_L L ls → va_P G.1 dk_cl (dk_wsl G σ) H → dl_O G O fO fD H → va_S (dl_A O) s.heap H locs → W p l e R s m args below meth c H locs cells slots Q (F0 m pc ls st)
/-- .. where E has been thrown, caught by nobody yet -/
def dw_X (G : dk_G) (O : dl_T) (p : Program) (l : Launch) (e : Env) (R : Room) (s : State) (m : MethodId) (args : Array Value) (below : List Frame) (meth : Method) (c : Code) (cells slots : Nat) (Q : State → Prop) (E : String) (pc : Nat) (L : List (Option Value)) (st : List Value) (σ : dk_S) (fO : Nat → Int64) (fD : Nat → UInt64) : Prop :=
  ∀ (H : Heap) (locs : List Loc) (ls : Array Slot) (q : Addr) (ce : Cell), dk_L L ls → va_P G.1 dk_cl (dk_wsl G σ) H → dl_O G O fO fD H → va_S (dl_A O) s.heap H locs → H[q]? = some ce → ce.vm = .none → s.vm.findClass E = some ce.cls → vx_W p l e R s m args below meth c H locs cells slots Q (F0 m pc ls st) q
def dw_Qc (G : dk_G) (O : dl_T) (P : Int32 → dk_S → (Nat → Int64) → (Nat → UInt64) → Prop) : Array Value → State → Outcome → State → Prop := fun _ st o t =>
  (∃ (r : Int32) (σ' : dk_S) (fO : Nat → Int64) (fD : Nat → UInt64), o = .returned (some (.int r)) ∧ P r σ' fO fD ∧ va_P G.1 dk_cl (dk_wsl G σ') t.heap ∧ dl_O G O fO fD t.heap) ∧ va_F (dl_A O) st t
def dw_M (G : dk_G) (O : dl_T) (l : Launch) (y : MethodName) (cc : ByteArray) (maxL : Nat) (hh : List (Nat × Nat × Nat × Nat)) (As : List Value) (σ : dk_S) (fO : Nat → Int64) (fD : Nat → UInt64) (P : Int32 → dk_S → (Nat → Int64) → (Nat → UInt64) → Prop) : Prop :=
  Met l y (Cond.codeWith y cc maxL (some .int) hh :: dk_ws) (dk_rx 10) (va_Pc As (dw_B G O σ fO fD)) (dw_Qc G O P) 1 6 (dl_A O)
theorem dw_ofW {l : Launch} {y : MethodName} {ws ws' : List Cond} {rm : Room} {Pc : Array Value → State → Prop} {Qc : Array Value → State → Outcome → State → Prop} {mc ms : Nat} {free : Addr → Prop} {cc : ByteArray} {maxL : Nat} {ret : Option FieldType} {hh : List (Nat × Nat × Nat × Nat)}
    (hy : plainName y.cls = true) (hw : ws = Cond.codeWith y cc maxL ret hh :: ws')
    (body : ∀ p e s m args below meth c s₁, BodyLoose p l y (headSpec ws rm) cc maxL ret e s m args below meth c s₁ → c.maxLocals = maxL → Pc args s →
      W p l e (headSpec ws rm).room s m args below meth c s.heap [] 0 0 (MQ below Qc args s mc ms free) (entryFrame m args maxL)) : Met l y ws rm Pc Qc mc ms free := by
  refine MetFree.of_bodyS (code := cc) (maxLocals := maxL) (ret := ret) hy ?_ ?_
  · intro args s m h hn
    obtain ⟨m9, meth, c, hn9, h1, h2, h3, h4, -, h5, h6, -⟩ := Cond.codeWith_spec (atoms_spec (ws := ws) h _ (by rw [hw]; exact List.mem_cons_self))
    cases hn.symm.trans hn9
    exact ⟨meth, c, h1, h2, h3, h4, h5, h6⟩
  · intro p e s m args below meth c s₁ B hml hP _
    have hh0 : s₁.heap = s.heap := by rw [B.state]; rfl
    obtain ⟨t, a1, o, b1, b2, b3⟩ := body p e s m args below meth c s₁ B hml hP s₁ hh0 (Stand.of_body B)
    exact ⟨t, o, a1, b1, b2, ⟨b3.1, b3.2⟩⟩
theorem dw_of {G : dk_G} {O : dl_T} {l : Launch} {y : MethodName} {cc : ByteArray} {maxL : Nat} {hh : List (Nat × Nat × Nat × Nat)} {As : List Value} {σ : dk_S} {fO : Nat → Int64} {fD : Nat → UInt64} {P : Int32 → dk_S → (Nat → Int64) → (Nat → UInt64) → Prop} (hD : dk_D G) (hg : dl_G G O) (hpl : plainName y.cls = true) (L : List (Option Value)) (hL : ∀ q ∈ dk_ll 0 L, q ∈ lv_args 0 As) (hlen : L.length = maxL) (hfit : (lg_sl As).length ≤ maxL)
    (body : ∀ (p : Program) (e : Env) (s : State) (m : MethodId) (args : Array Value) (below : List Frame) (meth : Method) (c : Code), dw_C G O p s m args c cc maxL y.cls → c.exceptionTable.toList = tableOf hh → meth.sig.returnType = some .int → meth.locks = false →
      dw_W G O p l e (dk_rx 10) s m args below meth c 0 0 (MQ below (dw_Qc G O P) args s 1 6 (dl_A O)) 0 L [] σ fO fD) : dw_M G O l y cc maxL hh As σ fO fD P := by
  refine dw_ofW (cc := cc) (maxL := maxL) (ret := some .int) (hh := hh) hpl rfl ?_
  intro p e s m args below meth c s₁ B hml hv
  obtain ⟨rfl, hP, hO, hV, hZ, hK, hN⟩ := hv
  have hts := atoms_spec (ws := Cond.codeWith y cc maxL (some .int) hh :: dk_ws) B.pre
  have C : dw_C G O p s m As.toArray c cc maxL y.cls := ⟨B.exec, B.bytes, hml, findClass_of_methodNamed B.named, fun w hw => hts w (List.mem_cons_of_mem _ hw), hV, hZ, hD, hg, hK, hN⟩
  have k := body p e s m As.toArray below meth c C (vx_table (x := y) B (hts _ List.mem_cons_self)) B.returns B.notSynchronized
  rw [lg_entry_eq]
  exact k s.heap [] _ (dk_L.of (lv_entry As hfit) hlen hL) hP hO va_S.rf
section DWR
variable {G : dk_G} {O : dl_T} {p : Program} {l : Launch} {e : Env} {R : Room} {s : State} {m : MethodId} {args : Array Value} {below : List Frame} {meth : Method} {c : Code} {cells slots : Nat} {Q : State → Prop}
variable {cc : ByteArray} {nL : Nat} {own : String} {pc n : Nat} {L L' : List (Option Value)} {st st' : List Value} {σ : dk_S} {fO : Nat → Int64} {fD : Nat → UInt64}
theorem dw_iconst (C : dw_C G O p s m args c cc nL own) {i : Int} {v : Int32} (d : decode cc pc = .ok (.iconst i, 1)) (hn : pc + 1 = n) (hv : Int32.ofInt i = v) (k : dw_W G O p l e R s m args below meth c cells slots Q n L (.int v :: st) σ fO fD) : dw_W G O p l e R s m args below meth c cells slots Q pc L st σ fO fD := fun H locs ls hL hP hO hS => by
  subst hn
  exact lv_iconst C.1 C.2.1 d hv (k H locs ls hL hP hO hS)
theorem dw_bipush (C : dw_C G O p s m args c cc nL own) {i : Int} {v : Int32} (d : decode cc pc = .ok (.bipush i, 2)) (hn : pc + 2 = n) (hv : (Int8.ofInt i).toInt32 = v) (k : dw_W G O p l e R s m args below meth c cells slots Q n L (.int v :: st) σ fO fD) : dw_W G O p l e R s m args below meth c cells slots Q pc L st σ fO fD := fun H locs ls hL hP hO hS => by
  subst hn
  exact lv_bipush C.1 C.2.1 d hv (k H locs ls hL hP hO hS)
theorem dw_lconst (C : dw_C G O p s m args c cc nL own) {i : Fin 2} {v : Int64} (d : decode cc pc = .ok (.lconst i, 1)) (hn : pc + 1 = n) (hv : Int64.ofNat (i : Nat) = v) (k : dw_W G O p l e R s m args below meth c cells slots Q n L (.long v :: st) σ fO fD) : dw_W G O p l e R s m args below meth c cells slots Q pc L st σ fO fD := fun H locs ls hL hP hO hS => by
  subst hn
  exact lv_lconst C.1 C.2.1 d hv (k H locs ls hL hP hO hS)
theorem dw_iload_n (C : dw_C G O p s m args c cc nL own) {x : Int32} {k0 : Fin 4} {i : Nat} (d : decode cc pc = .ok (.iload_n k0, 1)) (hn : pc + 1 = n) (hi : (k0 : Nat) = i) (hv : L[i]? = some (some (.int x))) (k : dw_W G O p l e R s m args below meth c cells slots Q n L (.int x :: st) σ fO fD) : dw_W G O p l e R s m args below meth c cells slots Q pc L st σ fO fD := fun H locs ls hL hP hO hS => by
  subst hn
  exact lv_iload_n C.1 C.2.1 d hi (hL.at hv) (k H locs ls hL hP hO hS)
theorem dw_iload (C : dw_C G O p s m args c cc nL own) {x : Int32} {i : Nat} (d : decode cc pc = .ok (.iload i, 2)) (hn : pc + 2 = n) (hv : L[i]? = some (some (.int x))) (k : dw_W G O p l e R s m args below meth c cells slots Q n L (.int x :: st) σ fO fD) : dw_W G O p l e R s m args below meth c cells slots Q pc L st σ fO fD := fun H locs ls hL hP hO hS => by
  subst hn
  exact lv_iload C.1 C.2.1 d (hL.at hv) (k H locs ls hL hP hO hS)
theorem dw_fload (C : dw_C G O p s m args c cc nL own) {x : UInt32} {i : Nat} (d : decode cc pc = .ok (.fload i, 2)) (hn : pc + 2 = n) (hv : L[i]? = some (some (.float x))) (k : dw_W G O p l e R s m args below meth c cells slots Q n L (.float x :: st) σ fO fD) : dw_W G O p l e R s m args below meth c cells slots Q pc L st σ fO fD := fun H locs ls hL hP hO hS => by
  subst hn
  exact lv_fload C.1 C.2.1 d (hL.at hv) (k H locs ls hL hP hO hS)
theorem dw_dload (C : dw_C G O p s m args c cc nL own) {x : UInt64} {i : Nat} (d : decode cc pc = .ok (.dload i, 2)) (hn : pc + 2 = n) (hv : L[i]? = some (some (.double x))) (k : dw_W G O p l e R s m args below meth c cells slots Q n L (.double x :: st) σ fO fD) : dw_W G O p l e R s m args below meth c cells slots Q pc L st σ fO fD := fun H locs ls hL hP hO hS => by
  subst hn
  exact lv_dload C.1 C.2.1 d (hL.at hv) (k H locs ls hL hP hO hS)
theorem dw_aload_n (C : dw_C G O p s m args c cc nL own) {x : Nat} {k0 : Fin 4} {i : Nat} (d : decode cc pc = .ok (.aload_n k0, 1)) (hn : pc + 1 = n) (hi : (k0 : Nat) = i) (hv : L[i]? = some (some (.ref x))) (k : dw_W G O p l e R s m args below meth c cells slots Q n L (.ref x :: st) σ fO fD) : dw_W G O p l e R s m args below meth c cells slots Q pc L st σ fO fD := fun H locs ls hL hP hO hS => by
  subst hn
  exact lv_aload_n C.1 C.2.1 d hi (hL.at hv) (k H locs ls hL hP hO hS)
theorem dw_aload (C : dw_C G O p s m args c cc nL own) {x : Nat} {i : Nat} (d : decode cc pc = .ok (.aload i, 2)) (hn : pc + 2 = n) (hv : L[i]? = some (some (.ref x))) (k : dw_W G O p l e R s m args below meth c cells slots Q n L (.ref x :: st) σ fO fD) : dw_W G O p l e R s m args below meth c cells slots Q pc L st σ fO fD := fun H locs ls hL hP hO hS => by
  subst hn
  exact lv_aload C.1 C.2.1 d (hL.at hv) (k H locs ls hL hP hO hS)
theorem dw_istore (C : dw_C G O p s m args c cc nL own) {x : Int32} {i : Nat} (d : decode cc pc = .ok (.istore i, 2)) (hn : pc + 2 = n) (hc : dk_nc L i) (hl : i < L.length) (hs : L.set i (some (.int x)) = L') (k : dw_W G O p l e R s m args below meth c cells slots Q n L' st σ fO fD) : dw_W G O p l e R s m args below meth c cells slots Q pc L (.int x :: st) σ fO fD := fun H locs ls hL hP hO hS => by
  subst hn; subst hs
  exact lv_istore C.1 C.2.1 d hL hl rfl (fun ls' h => k H locs ls' (dk_L.set hc hl h) hP hO hS)
theorem dw_fstore (C : dw_C G O p s m args c cc nL own) {x : UInt32} {i : Nat} (d : decode cc pc = .ok (.fstore i, 2)) (hn : pc + 2 = n) (hc : dk_nc L i) (hl : i < L.length) (hs : L.set i (some (.float x)) = L') (k : dw_W G O p l e R s m args below meth c cells slots Q n L' st σ fO fD) : dw_W G O p l e R s m args below meth c cells slots Q pc L (.float x :: st) σ fO fD := fun H locs ls hL hP hO hS => by
  subst hn; subst hs
  exact lv_fstore C.1 C.2.1 d hL hl rfl (fun ls' h => k H locs ls' (dk_L.set hc hl h) hP hO hS)
theorem dw_astore (C : dw_C G O p s m args c cc nL own) {x : Nat} {i : Nat} (d : decode cc pc = .ok (.astore i, 2)) (hn : pc + 2 = n) (hc : dk_nc L i) (hl : i < L.length) (hs : L.set i (some (.ref x)) = L') (k : dw_W G O p l e R s m args below meth c cells slots Q n L' st σ fO fD) : dw_W G O p l e R s m args below meth c cells slots Q pc L (.ref x :: st) σ fO fD := fun H locs ls hL hP hO hS => by
  subst hn; subst hs
  exact lv_astore C.1 C.2.1 d hL hl rfl (fun ls' h => k H locs ls' (dk_L.set hc hl h) hP hO hS)
theorem dw_astore_n (C : dw_C G O p s m args c cc nL own) {x : Nat} {k0 : Fin 4} {i : Nat} (d : decode cc pc = .ok (.astore_n k0, 1)) (hn : pc + 1 = n) (hi : (k0 : Nat) = i) (hc : dk_nc L i) (hl : i < L.length) (hs : L.set i (some (.ref x)) = L') (k : dw_W G O p l e R s m args below meth c cells slots Q n L' st σ fO fD) : dw_W G O p l e R s m args below meth c cells slots Q pc L (.ref x :: st) σ fO fD := fun H locs ls hL hP hO hS => by
  subst hn; subst hs
  exact lv_astore_n C.1 C.2.1 d hi hL hl rfl (fun ls' h => k H locs ls' (dk_L.set hc hl h) hP hO hS)
theorem dw_iinc (C : dw_C G O p s m args c cc nL own) {i : Nat} {k0 : Int} {x v : Int32} (d : decode cc pc = .ok (.iinc i k0, 3)) (hn : pc + 3 = n) (hv : L[i]? = some (some (.int x))) (he : x + Int32.ofInt k0 = v) (hc : dk_nc L i) (hl : i < L.length) (hs : L.set i (some (.int v)) = L') (k : dw_W G O p l e R s m args below meth c cells slots Q n L' st σ fO fD) : dw_W G O p l e R s m args below meth c cells slots Q pc L st σ fO fD := fun H locs ls hL hP hO hS => by
  subst hn; subst hs
  obtain ⟨j, hj⟩ := List.getElem?_of_mem (by have := dk_ll_in L 0 i _ hv; rw [Nat.zero_add] at this; exact this)
  exact lv_iinc C.1 C.2.1 d hL hj he hl rfl (fun ls' h => k H locs ls' (dk_L.set hc hl h) hP hO hS)
theorem dw_iadd (C : dw_C G O p s m args c cc nL own) {x y : Int32} (d : decode cc pc = .ok (.iadd, 1)) (hn : pc + 1 = n) (k : dw_W G O p l e R s m args below meth c cells slots Q n L (.int (x + y) :: st) σ fO fD) : dw_W G O p l e R s m args below meth c cells slots Q pc L (.int y :: .int x :: st) σ fO fD := fun H locs ls hL hP hO hS => by
  subst hn
  exact lv_iadd C.1 C.2.1 d (k H locs ls hL hP hO hS)
theorem dw_isub (C : dw_C G O p s m args c cc nL own) {x y : Int32} (d : decode cc pc = .ok (.isub, 1)) (hn : pc + 1 = n) (k : dw_W G O p l e R s m args below meth c cells slots Q n L (.int (x - y) :: st) σ fO fD) : dw_W G O p l e R s m args below meth c cells slots Q pc L (.int y :: .int x :: st) σ fO fD := fun H locs ls hL hP hO hS => by
  subst hn
  exact lv_isub C.1 C.2.1 d (k H locs ls hL hP hO hS)
theorem dw_iand (C : dw_C G O p s m args c cc nL own) {x y : Int32} (d : decode cc pc = .ok (.iand, 1)) (hn : pc + 1 = n) (k : dw_W G O p l e R s m args below meth c cells slots Q n L (.int (x &&& y) :: st) σ fO fD) : dw_W G O p l e R s m args below meth c cells slots Q pc L (.int y :: .int x :: st) σ fO fD := fun H locs ls hL hP hO hS => by
  subst hn
  exact lv_iand C.1 C.2.1 d (k H locs ls hL hP hO hS)
theorem dw_i2c (C : dw_C G O p s m args c cc nL own) {x v : Int32} (d : decode cc pc = .ok (.i2c, 1)) (hn : pc + 1 = n) (hv : (x.toUInt32 % 65536).toInt32 = v) (k : dw_W G O p l e R s m args below meth c cells slots Q n L (.int v :: st) σ fO fD) : dw_W G O p l e R s m args below meth c cells slots Q pc L (.int x :: st) σ fO fD := fun H locs ls hL hP hO hS => by
  subst hn
  exact lv_i2c C.1 C.2.1 d hv (k H locs ls hL hP hO hS)
theorem dw_i2l (C : dw_C G O p s m args c cc nL own) {x : Int32} (d : decode cc pc = .ok (.i2l, 1)) (hn : pc + 1 = n) (k : dw_W G O p l e R s m args below meth c cells slots Q n L (.long x.toInt64 :: st) σ fO fD) : dw_W G O p l e R s m args below meth c cells slots Q pc L (.int x :: st) σ fO fD := fun H locs ls hL hP hO hS => by
  subst hn
  exact lv_i2l C.1 C.2.1 d rfl (k H locs ls hL hP hO hS)
theorem dw_f2d (C : dw_C G O p s m args c cc nL own) {x : UInt32} (d : decode cc pc = .ok (.f2d, 1)) (hne : vf_n64 (FP.f2d x)) (hn : pc + 1 = n) (k : dw_W G O p l e R s m args below meth c cells slots Q n L (.double (FP.f2d x) :: st) σ fO fD) : dw_W G O p l e R s m args below meth c cells slots Q pc L (.float x :: st) σ fO fD := fun H locs ls hL hP hO hS => by
  subst hn
  exact lv_f2d C.1 C.2.1 d hne (k H locs ls hL hP hO hS)
theorem dw_lcmp (C : dw_C G O p s m args c cc nL own) {x y : Int64} (d : decode cc pc = .ok (.lcmp, 1)) (hn : pc + 1 = n) (k : dw_W G O p l e R s m args below meth c cells slots Q n L (.int (lg_cmp x y) :: st) σ fO fD) : dw_W G O p l e R s m args below meth c cells slots Q pc L (.long y :: .long x :: st) σ fO fD := fun H locs ls hL hP hO hS => by
  subst hn
  exact W.lcmp C.1 C.2.1 d (k H locs ls hL hP hO hS)
theorem dw_dcmp (C : dw_C G O p s m args c cc nL own) {x y : UInt64} {op : CmpOp} (d : decode cc pc = .ok (.dcmp op, 1)) (hn : pc + 1 = n) (k : dw_W G O p l e R s m args below meth c cells slots Q n L (.int (Op.cmpValue (FP.dcmp x y) op) :: st) σ fO fD) : dw_W G O p l e R s m args below meth c cells slots Q pc L (.double y :: .double x :: st) σ fO fD := fun H locs ls hL hP hO hS => by
  subst hn
  exact lv_dcmp C.1 C.2.1 d (k H locs ls hL hP hO hS)
theorem dw_goto (C : dw_C G O p s m args c cc nL own) {off : Int} {t : Nat} (d : decode cc pc = .ok (.goto off, 3)) (ht : (pc : Int) + off = (t : Int)) (k : dw_W G O p l e R s m args below meth c cells slots Q t L st σ fO fD) : dw_W G O p l e R s m args below meth c cells slots Q pc L st σ fO fD := fun H locs ls hL hP hO hS =>
  lv_goto C.1 C.2.1 d ht (k H locs ls hL hP hO hS)
theorem dw_if_eq (C : dw_C G O p s m args c cc nL own) {x : Int32} {off : Int} {t : Nat} (d : decode cc pc = .ok (.ifCond .eq off, 3)) (hn : pc + 3 = n) (ht : (pc : Int) + off = (t : Int)) (kt : x = 0 → dw_W G O p l e R s m args below meth c cells slots Q t L st σ fO fD) (kf : ¬ x = 0 → dw_W G O p l e R s m args below meth c cells slots Q n L st σ fO fD) : dw_W G O p l e R s m args below meth c cells slots Q pc L (.int x :: st) σ fO fD := fun H locs ls hL hP hO hS => by
  subst hn
  exact lv_if_eq C.1 C.2.1 d ht (fun h => kt h H locs ls hL hP hO hS) (fun h => kf h H locs ls hL hP hO hS)
theorem dw_if_ne (C : dw_C G O p s m args c cc nL own) {x : Int32} {off : Int} {t : Nat} (d : decode cc pc = .ok (.ifCond .ne off, 3)) (hn : pc + 3 = n) (ht : (pc : Int) + off = (t : Int)) (kt : ¬ x = 0 → dw_W G O p l e R s m args below meth c cells slots Q t L st σ fO fD) (kf : x = 0 → dw_W G O p l e R s m args below meth c cells slots Q n L st σ fO fD) : dw_W G O p l e R s m args below meth c cells slots Q pc L (.int x :: st) σ fO fD := fun H locs ls hL hP hO hS => by
  subst hn
  exact lv_if_ne C.1 C.2.1 d ht (fun h => kt h H locs ls hL hP hO hS) (fun h => kf h H locs ls hL hP hO hS)
theorem dw_icmp_eq (C : dw_C G O p s m args c cc nL own) {x y : Int32} {off : Int} {t : Nat} (d : decode cc pc = .ok (.if_icmp .eq off, 3)) (hn : pc + 3 = n) (ht : (pc : Int) + off = (t : Int)) (kt : x = y → dw_W G O p l e R s m args below meth c cells slots Q t L st σ fO fD) (kf : ¬ x = y → dw_W G O p l e R s m args below meth c cells slots Q n L st σ fO fD) : dw_W G O p l e R s m args below meth c cells slots Q pc L (.int y :: .int x :: st) σ fO fD := fun H locs ls hL hP hO hS => by
  subst hn
  exact lv_icmp_eq C.1 C.2.1 d ht (fun h => kt h H locs ls hL hP hO hS) (fun h => kf h H locs ls hL hP hO hS)
theorem dw_icmp_gt (C : dw_C G O p s m args c cc nL own) {x y : Int32} {off : Int} {t : Nat} (d : decode cc pc = .ok (.if_icmp .gt off, 3)) (hn : pc + 3 = n) (ht : (pc : Int) + off = (t : Int)) (kt : y < x → dw_W G O p l e R s m args below meth c cells slots Q t L st σ fO fD) (kf : ¬ y < x → dw_W G O p l e R s m args below meth c cells slots Q n L st σ fO fD) : dw_W G O p l e R s m args below meth c cells slots Q pc L (.int y :: .int x :: st) σ fO fD := fun H locs ls hL hP hO hS => by
  subst hn
  exact lv_icmp_gt C.1 C.2.1 d ht (fun h => kt h H locs ls hL hP hO hS) (fun h => kf h H locs ls hL hP hO hS)
theorem dw_tabIn (C : dw_C G O p s m args c cc nL own) {dflt lo hi : Int} {offs : Array Int} {len : Nat} {x : Int32} {off : Int} {t : Nat} (d : decode cc pc = .ok (.tableswitch dflt lo hi offs, len)) (h1 : ¬ x.toInt < lo) (h2 : ¬ hi < x.toInt) (ho : offs[(x.toInt - lo).toNat]? = some off) (ht : (pc : Int) + off = (t : Int)) (k : dw_W G O p l e R s m args below meth c cells slots Q t L st σ fO fD) : dw_W G O p l e R s m args below meth c cells slots Q pc L (.int x :: st) σ fO fD := fun H locs ls hL hP hO hS =>
  lv_tableIn C.1 C.2.1 d h1 h2 ho ht (k H locs ls hL hP hO hS)
theorem dw_tabOut (C : dw_C G O p s m args c cc nL own) {dflt lo hi : Int} {offs : Array Int} {len : Nat} {x : Int32} {t : Nat} (d : decode cc pc = .ok (.tableswitch dflt lo hi offs, len)) (h : x.toInt < lo ∨ hi < x.toInt) (ht : (pc : Int) + dflt = (t : Int)) (k : dw_W G O p l e R s m args below meth c cells slots Q t L st σ fO fD) : dw_W G O p l e R s m args below meth c cells slots Q pc L (.int x :: st) σ fO fD := fun H locs ls hL hP hO hS =>
  lv_tableOut C.1 C.2.1 d h ht (k H locs ls hL hP hO hS)
theorem dw_widen {k1 n1 : Nat} (h1 : cells ≤ k1) (h2 : slots ≤ n1) (k : dw_W G O p l e R s m args below meth c k1 n1 Q pc L st σ fO fD) : dw_W G O p l e R s m args below meth c cells slots Q pc L st σ fO fD := fun H locs ls hL hP hO hS => W.widen h1 h2 (k H locs ls hL hP hO hS)
theorem dw_sub {L0 : List (Option Value)} (hl : dk_le L0 L) (k : dw_W G O p l e R s m args below meth c cells slots Q pc L0 st σ fO fD) : dw_W G O p l e R s m args below meth c cells slots Q pc L st σ fO fD := fun H locs ls hL hP hO hS => k H locs ls (hL.sub hl) hP hO hS
/-- out[0] -/
theorem dw_lald (C : dw_C G O p s m args c cc nL own) (d : decode cc pc = .ok (.laload, 1)) (hn : pc + 1 = n) (k : dw_W G O p l e R s m args below meth c cells slots Q n L (.long (fO 0) :: st) σ fO fD) : dw_W G O p l e R s m args below meth c cells slots Q pc L (.int 0 :: .ref O.2.1 :: st) σ fO fD := fun H locs ls hL hP hO hS => by
  subst hn
  exact va_lald (f := fO) C.1 C.2.1 C.2.2.2.2.2.2.2.2.2.1 hO 0 0 rfl rfl (vp_in_nI (n := 0) (by decide) (by decide)) d (k H locs ls hL hP hO hS)
theorem dw_dald (C : dw_C G O p s m args c cc nL own) (d : decode cc pc = .ok (.daload, 1)) (hn : pc + 1 = n) (k : dw_W G O p l e R s m args below meth c cells slots Q n L (.double (fD 0) :: st) σ fO fD) : dw_W G O p l e R s m args below meth c cells slots Q pc L (.int 0 :: .ref O.2.2.1 :: st) σ fO fD := fun H locs ls hL hP hO hS => by
  subst hn
  exact va_dald (f := fD) C.1 C.2.1 C.2.2.2.2.2.2.2.2.2.1 hO 1 1 rfl rfl (vp_in_nI (n := 0) (by decide) (by decide)) d (k H locs ls hL hP hO hS)
theorem dw_keep {A0 : Nat → Prop} {H H1 : Heap} {x : Nat} (hP : va_P G.1 dk_cl (dk_wsl G σ) H) (hD : va_D A0 (dk_wsl G σ)) (hx : ¬ A0 x) (oq : ∀ q : Nat, q ≠ x → H1[q]? = H[q]?) : va_P G.1 dk_cl (dk_wsl G σ) H1 :=
  hP.kept fun k q hk => oq q.1 fun e => hx (by rw [← e]; exact hD.2 k q hk)
end DWR
