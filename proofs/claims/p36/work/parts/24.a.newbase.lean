/-! new objects: a world given cell by cell, one address behind another -/
def dn_ws : Nat → List va_E → va_W
  | _, [] => []
  | h, e :: t => (h, e) :: dn_ws (h + 1) t
theorem dn_get : ∀ (es : List va_E) (h i : Nat), (dn_ws h es)[i]? = es[i]?.map (fun e => (h + i, e))
  | [], _, _ => by simp [dn_ws]
  | e :: t, h, 0 => by simp [dn_ws]
  | e :: t, h, i + 1 => by
    have := dn_get t (h + 1) i
    simp only [dn_ws, List.getElem?_cons_succ]
    rw [this, show h + 1 + i = h + (i + 1) by omega]
theorem dn_at {es : List va_E} {h i : Nat} {e : va_E} (he : es[i]? = some e) : (dn_ws h es)[i]? = some (h + i, e) := by rw [dn_get, he]; rfl
theorem dn_of {es : List va_E} {h i : Nat} {q : Nat × va_E} (hq : (dn_ws h es)[i]? = some q) : q.1 = h + i ∧ es[i]? = some q.2 := by
  rw [dn_get] at hq
  cases he : es[i]? with
  | none => rw [he] at hq; cases hq
  | some e => rw [he] at hq; cases hq; exact ⟨rfl, rfl⟩
theorem dn_set {es : List va_E} {h j : Nat} {e : va_E} : dn_ws h (es.set j e) = (dn_ws h es).set j (h + j, e) := by
  apply List.ext_getElem?
  intro i
  rw [dn_get]
  by_cases hij : j = i
  · subst hij
    rw [List.getElem?_set, List.getElem?_set, dn_get]
    by_cases hl : j < es.length
    · have : j < (dn_ws h es).length := by
        have h9 := dn_at (h := h) (List.getElem?_eq_getElem hl)
        exact (List.getElem?_eq_some_iff.mp h9).1
      simp [hl, this]
    · have : ¬ j < (dn_ws h es).length := fun g => by
        have h9 := (dn_of (List.getElem?_eq_getElem g)).2
        exact hl (List.getElem?_eq_some_iff.mp h9).1
      simp [hl, this]
  · rw [List.getElem?_set_ne hij, List.getElem?_set_ne hij, dn_get]
theorem dn_app : ∀ (es es2 : List va_E) (h : Nat), dn_ws h (es ++ es2) = dn_ws h es ++ dn_ws (h + es.length) es2
  | [], es2, h => rfl
  | e :: t, es2, h => by
    simp only [List.cons_append, dn_ws, List.length_cons]
    rw [dn_app t es2 (h + 1), show h + 1 + t.length = h + (t.length + 1) by omega]
theorem dn_D (h : Nat) (es : List va_E) : va_D (fun q => h ≤ q) (dn_ws h es) := by
  refine ⟨fun i j p q hi hj e => ?_, fun k q hk => ?_⟩
  · have h1 := (dn_of hi).1
    have h2 := (dn_of hj).1
    omega
  · have h1 := (dn_of hk).1
    show h ≤ q.1
    omega
def dn_A (h0 : Nat) : Nat → Prop := fun q => h0 ≤ q
/-- what a constructor finds: its object, new -/
def dn_B (G : dk_G) (h0 ci : Nat) (fs : List Value) (U : State) : Prop := U.heap.size = h0 + 1 ∧ va_P G.1 dk_cl (dn_ws h0 [.inr (ci, fs)]) U.heap ∧ dk_V G U ∧ dk_Z (dk_GA G (dn_A h0)) U U.heap
theorem dn_blind {G : dk_G} {h0 ci : Nat} {fs : List Value} {As : List Value} : FrameBlind (va_Pc As (dn_B G h0 ci fs)) := fun a U g mk h =>
  ⟨h.1, h.2.1, h.2.2.1, h.2.2.2.1.same (u := U) (U := U.calling g mk a) rfl, h.2.2.2.2.moved (u := U) (U := U.calling g mk a) (Vm.Alike.refl U.vm)⟩
def dn_Q (G : dk_G) (h0 k : Nat) (Post : List va_E → Prop) : Array Value → State → Outcome → State → Prop := fun _ st o t =>
  (∃ es, o = .returned none ∧ Post es ∧ es.length = k + 1 ∧ va_P G.1 dk_cl (dn_ws h0 es) t.heap) ∧ va_F (dn_A h0) st t
def dn_rm (lv k sl : Nat) : Room := { frames := lv, cells := k, slots := sl, locals := 40 * lv }
def dn_M (G : dk_G) (l : Launch) (lv : Nat) (y : MethodName) (cc : ByteArray) (maxL h0 ci : Nat) (fs : List Value) (k sl : Nat) (Post : List va_E → Prop) : Prop :=
  Met l y (Cond.code y cc maxL none :: dk_ws) (dn_rm lv k sl) (va_Pc [.ref h0] (dn_B G h0 ci fs)) (dn_Q G h0 k Post) k sl (dn_A h0)
def dn_C (G : dk_G) (h0 : Nat) (p : Program) (s : State) (m : MethodId) (args : Array Value) (meth : Method) (c : Code) (cc : ByteArray) (nL : Nat) (own : String) : Prop :=
  p.tables.exec = Jvm.exec ∧ c.code = cc ∧ c.maxLocals = nL ∧ s.vm.findClass own = some m.cls ∧ (∀ w ∈ dk_ws, w.before args s = true) ∧ dk_V G s ∧ dk_Z (dk_GA G (dn_A h0)) s s.heap ∧ s.heap.size = h0 + 1 ∧ meth.name = "<init>" ∧ meth.sig.returnType = none ∧ meth.locks = false
def dn_W (h0 : Nat) (G : dk_G) (p : Program) (l : Launch) (e : Env) (R : Room) (s : State) (m : MethodId) (args : Array Value) (below : List Frame) (meth : Method) (c : Code) (cells slots : Nat) (Q : State → Prop) (pc : Nat) (L : List (Option Value)) (st : List Value) (es : List va_E) : Prop :=
  ∀ (H : Heap) (locs : List Loc) (ls : Array Slot), dk_L L ls → va_P G.1 dk_cl (dn_ws h0 es) H → va_S (dn_A h0) s.heap H locs → W p l e R s m args below meth c H locs cells slots Q (F0 m pc ls st)
theorem dn_ofM {G : dk_G} {l : Launch} {lv : Nat} {y : MethodName} {cc : ByteArray} {maxL h0 ci : Nat} {fs : List Value} {k sl : Nat} {Post : List va_E → Prop} (hpl : plainName y.cls = true) (hin : y.name = "<init>") (L : List (Option Value)) (hL : ∀ q ∈ dk_ll 0 L, q ∈ lv_args 0 [Value.ref h0]) (hlen : L.length = maxL) (hfit : (lg_sl [Value.ref h0]).length ≤ maxL)
    (body : ∀ (p : Program) (e : Env) (s : State) (m : MethodId) (args : Array Value) (below : List Frame) (meth : Method) (c : Code), dn_C G h0 p s m args meth c cc maxL y.cls →
      dn_W h0 G p l e (dn_rm lv k sl) s m args below meth c 0 0 (MQ below (dn_Q G h0 k Post) args s k sl (dn_A h0)) 0 L [] [.inr (ci, fs)]) : dn_M G l lv y cc maxL h0 ci fs k sl Post := by
  refine Met.ofW (cc := cc) (maxL := maxL) (ret := none) hpl rfl ?_
  intro p e s m args below meth c s₁ B hml hv
  obtain ⟨rfl, hz, hP, hV, hZ⟩ := hv
  have hts := atoms_spec (ws := Cond.code y cc maxL none :: dk_ws) B.pre
  have C : dn_C G h0 p s m ([Value.ref h0] : List Value).toArray meth c cc maxL y.cls := ⟨B.exec, B.bytes, hml, findClass_of_methodNamed B.named, fun w hw => hts w (List.mem_cons_of_mem _ hw), hV, hZ, hz, by rw [(name_of_methodNamed B.named B.method).1]; exact hin, B.returns, B.notSynchronized⟩
  have k := body p e s m ([Value.ref h0] : List Value).toArray below meth c C
  rw [lg_entry_eq]
  exact k s.heap [] _ (dk_L.of (lv_entry [Value.ref h0] hfit) hlen hL) hP va_S.rf
section DNR
variable {h0 : Nat} {G : dk_G} {p : Program} {l : Launch} {e : Env} {R : Room} {s : State} {m : MethodId} {args : Array Value} {below : List Frame} {meth : Method} {c : Code} {cells slots : Nat} {Q : State → Prop}
variable {cc : ByteArray} {nL : Nat} {own : String} {pc n : Nat} {L L' : List (Option Value)} {st st' : List Value} {es : List va_E}
theorem dn_iconst (C : dn_C G h0 p s m args meth c cc nL own) {i : Int} {v : Int32} (d : decode cc pc = .ok (.iconst i, 1)) (hn : pc + 1 = n) (hv : Int32.ofInt i = v) (k : dn_W h0 G p l e R s m args below meth c cells slots Q n L (.int v :: st) es) : dn_W h0 G p l e R s m args below meth c cells slots Q pc L st es := fun H locs ls hL hP hS => by
  subst hn
  exact lv_iconst C.1 C.2.1 d hv (k H locs ls hL hP hS)
theorem dn_bipush (C : dn_C G h0 p s m args meth c cc nL own) {i : Int} {v : Int32} (d : decode cc pc = .ok (.bipush i, 2)) (hn : pc + 2 = n) (hv : (Int8.ofInt i).toInt32 = v) (k : dn_W h0 G p l e R s m args below meth c cells slots Q n L (.int v :: st) es) : dn_W h0 G p l e R s m args below meth c cells slots Q pc L st es := fun H locs ls hL hP hS => by
  subst hn
  exact lv_bipush C.1 C.2.1 d hv (k H locs ls hL hP hS)
theorem dn_sipush (C : dn_C G h0 p s m args meth c cc nL own) {i : Int} {v : Int32} (d : decode cc pc = .ok (.sipush i, 3)) (hn : pc + 3 = n) (hv : (Int16.ofInt i).toInt32 = v) (k : dn_W h0 G p l e R s m args below meth c cells slots Q n L (.int v :: st) es) : dn_W h0 G p l e R s m args below meth c cells slots Q pc L st es := fun H locs ls hL hP hS => by
  subst hn
  exact lv_sipush C.1 C.2.1 d hv (k H locs ls hL hP hS)
theorem dn_aload_n (C : dn_C G h0 p s m args meth c cc nL own) {x : Nat} {k0 : Fin 4} {i : Nat} (d : decode cc pc = .ok (.aload_n k0, 1)) (hn : pc + 1 = n) (hi : (k0 : Nat) = i) (hv : L[i]? = some (some (.ref x))) (k : dn_W h0 G p l e R s m args below meth c cells slots Q n L (.ref x :: st) es) : dn_W h0 G p l e R s m args below meth c cells slots Q pc L st es := fun H locs ls hL hP hS => by
  subst hn
  exact lv_aload_n C.1 C.2.1 d hi (hL.at hv) (k H locs ls hL hP hS)
theorem dn_dup (C : dn_C G h0 p s m args meth c cc nL own) {x : Nat} (d : decode cc pc = .ok (.dup, 1)) (hn : pc + 1 = n) (k : dn_W h0 G p l e R s m args below meth c cells slots Q n L (.ref x :: .ref x :: st) es) : dn_W h0 G p l e R s m args below meth c cells slots Q pc L (.ref x :: st) es := fun H locs ls hL hP hS => by
  subst hn
  exact lv_dup C.1 C.2.1 d rfl (k H locs ls hL hP hS)
theorem dn_astore_n (C : dn_C G h0 p s m args meth c cc nL own) {x : Nat} {k0 : Fin 4} {i : Nat} (d : decode cc pc = .ok (.astore_n k0, 1)) (hn : pc + 1 = n) (hi : (k0 : Nat) = i) (hc : dk_nc L i) (hl : i < L.length) (hs : L.set i (some (.ref x)) = L') (k : dn_W h0 G p l e R s m args below meth c cells slots Q n L' st es) : dn_W h0 G p l e R s m args below meth c cells slots Q pc L (.ref x :: st) es := fun H locs ls hL hP hS => by
  subst hn; subst hs
  exact lv_astore_n C.1 C.2.1 d hi hL hl rfl (fun ls' h => k H locs ls' (dk_L.set hc hl h) hP hS)
theorem dn_obj (C : dn_C G h0 p s m args meth c cc nL own) {i : Nat} {x : Nat} (hl : Cond.methodLink own i Lib.objectInit ∈ dk_ws) (hi : Cond.instanceMethod Lib.objectInit ∈ dk_ws) (hc : Cond.code Lib.objectInit ⟨#[0xb1]⟩ 1 none ∈ dk_ws) (hLn : L.length = nL) (hR : 1 ≤ R.frames ∧ (st.map fun v => v.category).sum + 12 ≤ R.locals) (d : decode cc pc = .ok (.invokespecial i, 3)) (hn : pc + 3 = n) (k : dn_W h0 G p l e R s m args below meth c cells slots Q n L st es) : dn_W h0 G p l e R s m args below meth c cells slots Q pc L (.ref x :: st) es := fun H locs ls hL hP hS => by
  subst hn
  refine W.objInit C.1 C.2.1 C.2.2.2.1 (C.2.2.2.2.1 _ hl) (C.2.2.2.2.1 _ hi) (C.2.2.2.2.1 _ hc) rfl (by rw [C.2.2.1, ← hLn]; exact hL.1) rfl d hR.1 ?_ (k H locs ls hL hP hS)
  show 2 * 0 + _ + 12 ≤ _
  omega
/-- the heap's size, by what has been made -/
theorem dn_size (C : dn_C G h0 p s m args meth c cc nL own) {H : Heap} {locs : List Loc} {g : JFrame} (hlen : es.length = cells + 1) (hP : va_P G.1 dk_cl (dn_ws h0 es) H) (k : H.size = h0 + es.length → W p l e R s m args below meth c H locs cells slots Q g) : W p l e R s m args below meth c H locs cells slots Q g := by
  intro T hT X
  have h1 : T.heap.size ≤ s.heap.size + cells := X.same.2.2.1
  obtain ⟨e9, he⟩ : ∃ e9, es[cells]? = some e9 := ⟨_, List.getElem?_eq_getElem (by omega)⟩
  have h2 := (hP cells _ (dn_at he)).lt
  have h3 := C.2.2.2.2.2.2.2.1
  rw [hT] at h1
  exact k (by show H.size = _; have : h0 + cells < H.size := h2; omega) T hT X
theorem dn_newa (C : dn_C G h0 p s m args meth c cc nL own) (kd : Nat) {N a : Nat} {v : Int32} {atype : ArrayType} {ty : FieldType} (hty : newarray.typeOf atype = ty) (hk : (dk_tys G)[kd]? = some (dk_cA G kd, ty)) (hdef : defaultValue ty = .int 0) (hw : Cond.arrayClass ty ∈ dk_ws) (hv : ¬ v < 0) (hN : v.toNatClampNeg = N) (hby : N * componentBytes ty ≤ 536870912) (hR : cells + 1 ≤ R.cells ∧ slots + N ≤ R.slots)
    (d : decode cc pc = .ok (.newarray atype, 2)) (hn : pc + 2 = n) (hlen : es.length = cells + 1) (ha : a = h0 + (cells + 1)) (k : dn_W h0 G p l e R s m args below meth c (cells + 1) (slots + N) Q n L (.ref a :: st) (es ++ [.inl (dk_cA G kd, N, .inl (fun _ => 0))])) : dn_W h0 G p l e R s m args below meth c cells slots Q pc L (.int v :: st) es := fun H locs ls hL hP hS => by
  subst hn; subst hty; subst ha
  refine dn_size C hlen hP (fun hz => ?_)
  have hRA := (C.2.2.2.2.2.1.1.2 kd _ hk).2
  rw [hlen] at hz
  refine va_newaK C.1 C.2.1 (C.2.2.2.2.1 _ hw) rfl d rfl hv hN hby hR.1 hR.2 hz fun H1 cA e1 z1 o1 hAr hNm => ?_
  have hc : cA = dk_cA G kd := by
    have h9 : s.vm.findClass ("[" ++ (newarray.typeOf atype).toString) = some (dk_cA G kd) := by cases atype <;> exact hRA
    exact Option.some.inj (hNm.symm.trans h9)
  subst hc
  refine k H1 locs ls hL ?_ ⟨Nat.le_trans hS.1 (by omega), fun x h1 h2 => (o1 x (by have := hS.1; omega)).trans (hS.2.1 x h1 h2), hS.2.2⟩
  rw [dn_app, hlen]
  refine (hP.kept fun j q hq => o1 q.1 (by have := (hP j q hq).lt; omega)).app (fun j q hq => ?_)
  have hj : j = 0 := by
    have := (List.getElem?_eq_some_iff.mp hq).1
    simp only [dn_ws, List.length_cons, List.length_nil] at this
    omega
  subst hj
  cases hq
  show H1[_]? = some (vp_cell _ _)
  rw [vp_cell_i, e1, hdef]
theorem dn_new (C : dn_C G h0 p s m args meth c cc nL own) {ci i N a : Nat} {Cn : String} {T : u_T} {fs : List Value} (hin : ∀ w ∈ u_ws Cn T N, w ∈ dk_ws) (ty0 : Nat → FieldType) (hty : ∀ k, k < N → parseFieldDescriptor (T k).2.2.1 = some (ty0 k)) (hcl : Cond.classLink own i Cn ∈ dk_ws) (hinst : Cond.instantiable Cn N ∈ dk_ws) (hini : Cond.initialized Cn ∈ dk_ws) (hc : dk_cl[ci]? = some (Cn, T, N)) (hfs : ∀ j, j < N → defaultValue (ty0 j) = vp_V fs j) (hR : cells + 1 ≤ R.cells ∧ slots + N ≤ R.slots)
    (d : decode cc pc = .ok (.new i, 3)) (hn : pc + 3 = n) (hlen : es.length = cells + 1) (ha : a = h0 + (cells + 1)) (k : dn_W h0 G p l e R s m args below meth c (cells + 1) (slots + N) Q n L (.ref a :: st) (es ++ [.inr (ci, fs)])) : dn_W h0 G p l e R s m args below meth c cells slots Q pc L st es := fun H locs ls hL hP hS => by
  subst hn; subst ha
  refine dn_size C hlen hP (fun hz => ?_)
  have hKn := C.2.2.2.2.2.1.1.1 ci _ hc
  rw [hlen] at hz
  refine W.newcK C.1 C.2.1 C.2.2.2.1 (C.2.2.2.2.1 _ hcl) (C.2.2.2.2.1 _ hinst) (C.2.2.2.2.1 _ hini) rfl d hR.1 hR.2 hKn.2.1 hz fun H1 kC hkC e1 z1 o1 => ?_
  refine k H1 locs ls hL ?_ ⟨Nat.le_trans hS.1 (by omega), fun x h1 h2 => (o1 x (by have := hS.1; omega)).trans (hS.2.1 x h1 h2), hS.2.2⟩
  rw [dn_app, hlen]
  refine (hP.kept fun j q hq => o1 q.1 (by have := (hP j q hq).lt; omega)).app (fun j q hq => ?_)
  have hj : j = 0 := by
    have := (List.getElem?_eq_some_iff.mp hq).1
    simp only [dn_ws, List.length_cons, List.length_nil] at this
    omega
  subst hj
  cases hq
  exact ⟨_, hc, (u_born ty0 C.2.2.2.2.1 hin hKn hkC e1 hty).to hfs⟩
theorem dn_putF (C : dn_C G h0 p s m args meth c cc nL own) (j : Nat) {a i ci k0 N : Nat} {v : Value} {ty : FieldType} {Cn : String} {T : u_T} {fs : List Value} (he : es[j]? = some (.inr (ci, fs))) (ha : a = h0 + j) (hc : dk_cl[ci]? = some (Cn, T, N)) (hk : k0 < N) (hin : ∀ w ∈ u_ws Cn T N, w ∈ dk_ws) (ty0 : Nat → FieldType) (hty : ∀ k, k < N → parseFieldDescriptor (T k).2.2.1 = some (ty0 k)) (hnm : ∀ a, a < N → ∀ b, b < N → a ≠ b → (T a).2.1 ≠ (T b).2.1) (hl : Cond.fieldLink own i (T k0).1 (T k0).2.1 (T k0).2.2.1 ∈ dk_ws) (hfin : (T k0).2.2.2 = true) (hdc : (T k0).1 = own) (hdd : parseFieldDescriptor (T k0).2.2.1 = some ty) (hna : narrow ty v = v) (hfit : fits ty v = true) (hlt : k0 < fs.length)
    (d : decode cc pc = .ok (.putfield i, 3)) (hn : pc + 3 = n) (k : dn_W h0 G p l e R s m args below meth c cells slots Q n L st (es.set j (.inr (ci, fs.set k0 v)))) : dn_W h0 G p l e R s m args below meth c cells slots Q pc L (v :: .ref a :: st) es := fun H locs ls hL hP hS => by
  subst hn; subst ha
  refine va_putF C.1 C.2.1 C.2.2.2.2.1 hin ty0 hty hnm C.2.2.2.1 C.2.2.2.2.2.1.1 hP (dn_D h0 es) hS j (dn_at he) hc k0 hk (C.2.2.2.2.1 _ hl) (fun _ h => h) hfin C.2.2.2.2.2.2.2.2.1 hdc hdd hna hfit hlt d (fun H1 locs1 hP1 _ hS1 => ?_)
  rw [← dn_set] at hP1
  exact k H1 locs1 ls hL hP1 hS1
theorem dn_put (C : dn_C G h0 p s m args meth c cc nL own) (j : Nat) {a i ci k0 N : Nat} {v : Value} {ty : FieldType} {Cn : String} {T : u_T} {fs : List Value} (he : es[j]? = some (.inr (ci, fs))) (ha : a = h0 + j) (hc : dk_cl[ci]? = some (Cn, T, N)) (hk : k0 < N) (hin : ∀ w ∈ u_ws Cn T N, w ∈ dk_ws) (ty0 : Nat → FieldType) (hty : ∀ k, k < N → parseFieldDescriptor (T k).2.2.1 = some (ty0 k)) (hnm : ∀ a, a < N → ∀ b, b < N → a ≠ b → (T a).2.1 ≠ (T b).2.1) (hl : Cond.fieldLink own i (T k0).1 (T k0).2.1 (T k0).2.2.1 ∈ dk_ws) (hfin : (T k0).2.2.2 = false) (hdd : parseFieldDescriptor (T k0).2.2.1 = some ty) (hna : narrow ty v = v) (hfit : fits ty v = true) (hlt : k0 < fs.length)
    (d : decode cc pc = .ok (.putfield i, 3)) (hn : pc + 3 = n) (k : dn_W h0 G p l e R s m args below meth c cells slots Q n L st (es.set j (.inr (ci, fs.set k0 v)))) : dn_W h0 G p l e R s m args below meth c cells slots Q pc L (v :: .ref a :: st) es := fun H locs ls hL hP hS => by
  subst hn; subst ha
  refine va_put C.1 C.2.1 C.2.2.2.2.1 hin ty0 hty hnm C.2.2.2.1 C.2.2.2.2.2.1.1 hP (dn_D h0 es) hS j (dn_at he) hc k0 hk (C.2.2.2.2.1 _ hl) (fun _ h => h) hfin hdd hna hfit hlt d (fun H1 locs1 hP1 _ hS1 => ?_)
  rw [← dn_set] at hP1
  exact k H1 locs1 ls hL hP1 hS1
theorem dn_ret (C : dn_C G h0 p s m args meth c cc nL own) {k sl : Nat} {Post : List va_E → Prop} (hlen : es.length = k + 1) (hc : cells ≤ k) (hs : slots ≤ sl) (d : decode cc pc = .ok (.return_, 1)) (hp : Post es) : dn_W h0 G p l e R s m args below meth c cells slots (MQ below (dn_Q G h0 k Post) args s k sl (dn_A h0)) pc L [] es := fun H locs ls hL hP hS =>
  W.widen hc hs (W.vret C.1 C.2.1 C.2.2.2.2.2.2.2.2.2.1 (fun t ht hW => ⟨⟨es, rfl, hp, hlen, by rw [ht]; exact hP⟩, hS.F ht⟩) hS.2.2 d C.2.2.2.2.2.2.2.2.2.2)
theorem dn_Zk (C : dn_C G h0 p s m args meth c cc nL own) {H : Heap} {locs : List Loc} (hS : va_S (dn_A h0) s.heap H locs) {U : State} (hU : U.heap = H) (hW : s.WarmedH U.vm) : dk_Z (dk_GA G (dn_A h0)) U U.heap := by
  rw [hU]
  exact (C.2.2.2.2.2.2.1.kept (fun a h1 h2 => hS.2.1 a h1 h2)).moved hW.alike
/-- the constructor of the object that was made last -/
theorem dn_call (C : dn_C G h0 p s m args meth c cc nL own) {i lv mL a ci k1 sl : Nat} {y : MethodName} {cy : ByteArray} {fs : List Value} {Post : List va_E → Prop} {es0 : List va_E} (hes : es = es0 ++ [.inr (ci, fs)])
    (hM : dn_M G l lv y cy mL a ci fs k1 sl Post) (hy1 : y.name = "<init>") (hini : Cond.initialized y.cls ∈ dk_ws) (hcd : Cond.code y cy mL none ∈ dk_ws) (hl : Cond.methodLink own i y ∈ dk_ws) (hin : Cond.instanceMethod y ∈ dk_ws) (hd : y.cls ≠ "java/lang/invoke/MethodHandle" ∧ y.cls ≠ "java/lang/invoke/VarHandle" ∧ (parseMethodDescriptor y.desc).map (fun d => d.parameters.length) = some 0)
    (hR : lv + 1 ≤ R.frames ∧ 8 + (mL + 11) + 40 * lv ≤ R.locals) (hRc : cells + k1 ≤ R.cells ∧ slots + sl ≤ R.slots) (hcat : (st.map fun v => v.category).sum ≤ 8) (hLn : L.length = nL) (d : decode cc pc = .ok (.invokespecial i, 3)) (hn : pc + 3 = n) (hlen : es.length = cells + 1) (ha : a = h0 + cells)
    (k : ∀ es1, Post es1 → es1.length = k1 + 1 → dn_W h0 G p l e R s m args below meth c (cells + k1) (slots + sl) Q n L st (es0 ++ es1)) : dn_W h0 G p l e R s m args below meth c cells slots Q pc L (.ref a :: st) es := fun H locs ls hL hP hS => by
  subst hn; subst hes
  have hl0 : es0.length = cells := by simpa using hlen
  have ha0 : a = h0 + es0.length := by rw [hl0]; exact ha
  refine dn_size C hlen hP (fun hz => ?_)
  rw [hlen] at hz
  rw [dn_app, ← ha0] at hP
  have hP0 : va_P G.1 dk_cl (dn_ws h0 es0) H := fun j q hq => hP j q (by rw [List.getElem?_append_left (List.getElem?_eq_some_iff.mp hq).1]; exact hq)
  have hP1 : va_P G.1 dk_cl (dn_ws a [.inr (ci, fs)]) H := fun j q hq => hP ((dn_ws h0 es0).length + j) q (by rw [List.getElem?_append_right (by omega), show (dn_ws h0 es0).length + j - (dn_ws h0 es0).length = j by omega]; exact hq)
  have hG : GoodIn dk_ws (Cond.code y cy mL none :: dk_ws) := fun w hw => by
    have hm : w ∈ dk_ws := by
      rcases List.mem_cons.mp hw with rfl | hw
      · exact hcd
      · exact hw
    exact ⟨hm, dk_ws_good w hm⟩
  have hr := va_runI (p := p) (l := l) (e := e) (R := R) (below := below) (meth := meth) (H := H) (locs := locs) (cells := cells) (slots := slots) (mc := k1) (ms := sl) (As := []) (rest := st) (b := a) (g := F0 m pc ls (.ref a :: st)) (Pc := va_Pc [.ref a] (dn_B G a ci fs)) (Ts := dk_ws)
    ⟨C.1, C.2.1, C.2.2.1, C.2.2.2.1, C.2.2.2.2.1⟩ hM (cwI 0 C.2.2.2.2.1 hG rfl rfl rfl (C.2.2.2.2.1 _ hini) (C.2.2.2.2.1 _ hl) (C.2.2.2.2.1 _ hin) hy1 hd hR)
    ⟨dn_blind, fun U hU hW => ⟨rfl, by rw [hU]; omega, by rw [hU]; exact hP1, C.2.2.2.2.2.1.warm hW, (dn_Zk C hS hU hW).nar rfl (fun q (hq : a ≤ q) => by show h0 ≤ q; omega)⟩⟩ rfl rfl (by rw [← hLn]; exact hL.1) rfl (lv_room hcat) d hRc
  intro T hT X
  obtain ⟨v, st₀, t, T', L1, g0, X', hL1, e1, e2, ⟨⟨es1, hv, hPo, hl1, hP2⟩, hz2, hk⟩, stp⟩ := hr T hT X
  cases hv
  rw [g0] at hz2 hk
  have hkeep : ∀ q : Nat, q < a → T'.heap[q]? = H[q]? := fun q hq => by
    rw [e1]; exact hk q (by omega) (fun z => by have : a ≤ q := z; omega)
  obtain ⟨t2, a1, b1⟩ := k es1 hPo hl1 T'.heap (locs ++ L1) ls hL
    (by
      rw [dn_app, ← ha0]
      refine (hP0.kept fun j q hq => hkeep q.1 ?_).app (by rw [e1]; exact hP2)
      have h9 := dn_of hq
      have h8 := (List.getElem?_eq_some_iff.mp h9.2).1
      omega)
    ⟨Nat.le_trans hS.1 (by rw [e1]; exact hz2), fun q h1 h2 => by
      have : ¬ h0 ≤ q := h2
      rw [hkeep q (by omega)]; exact hS.2.1 q h1 h2, fun q hq => by
      rcases List.mem_append.mp hq with h | h
      · exact hS.2.2 q h
      · have : a ≤ q.base := hL1 q h
        show h0 ≤ q.base
        omega⟩ T' rfl X'
  exact ⟨t2, stp t2 a1, b1⟩
/-- .. by a nest mate: the constructor of the object that was made last -/
theorem dn_callN (C : dn_C G h0 p s m args meth c cc nL own) {i lv mL a ci k1 sl : Nat} {y : MethodName} {cy : ByteArray} {fs : List Value} {Post : List va_E → Prop} {es0 : List va_E} (hes : es = es0 ++ [.inr (ci, fs)])
    (hM : dn_M G l lv y cy mL a ci fs k1 sl Post) (hy1 : y.name = "<init>") (hini : Cond.initialized y.cls ∈ dk_ws) (hcd : Cond.code y cy mL none ∈ dk_ws) {host : String} (hl : Cond.methodLinkNest own i y host ∈ dk_nw) (hin : Cond.instanceMethod y ∈ dk_ws) (hd : y.cls ≠ "java/lang/invoke/MethodHandle" ∧ y.cls ≠ "java/lang/invoke/VarHandle" ∧ (parseMethodDescriptor y.desc).map (fun d => d.parameters.length) = some 0)
    (hR : lv + 1 ≤ R.frames ∧ 8 + (mL + 11) + 40 * lv ≤ R.locals) (hRc : cells + k1 ≤ R.cells ∧ slots + sl ≤ R.slots) (hcat : (st.map fun v => v.category).sum ≤ 8) (hLn : L.length = nL) (d : decode cc pc = .ok (.invokespecial i, 3)) (hn : pc + 3 = n) (hlen : es.length = cells + 1) (ha : a = h0 + cells)
    (k : ∀ es1, Post es1 → es1.length = k1 + 1 → dn_W h0 G p l e R s m args below meth c (cells + k1) (slots + sl) Q n L st (es0 ++ es1)) : dn_W h0 G p l e R s m args below meth c cells slots Q pc L (.ref a :: st) es := fun H locs ls hL hP hS => by
  subst hn; subst hes
  have hl0 : es0.length = cells := by simpa using hlen
  have ha0 : a = h0 + es0.length := by rw [hl0]; exact ha
  refine dn_size C hlen hP (fun hz => ?_)
  rw [hlen] at hz
  rw [dn_app, ← ha0] at hP
  have hP0 : va_P G.1 dk_cl (dn_ws h0 es0) H := fun j q hq => hP j q (by rw [List.getElem?_append_left (List.getElem?_eq_some_iff.mp hq).1]; exact hq)
  have hP1 : va_P G.1 dk_cl (dn_ws a [.inr (ci, fs)]) H := fun j q hq => hP ((dn_ws h0 es0).length + j) q (by rw [List.getElem?_append_right (by omega), show (dn_ws h0 es0).length + j - (dn_ws h0 es0).length = j by omega]; exact hq)
  have hG : GoodIn dk_ws (Cond.code y cy mL none :: dk_ws) := fun w hw => by
    have hm : w ∈ dk_ws := by
      rcases List.mem_cons.mp hw with rfl | hw
      · exact hcd
      · exact hw
    exact ⟨hm, dk_ws_good w hm⟩
  have hr := va_runIN (p := p) (l := l) (e := e) (R := R) (below := below) (meth := meth) (H := H) (locs := locs) (cells := cells) (slots := slots) (mc := k1) (ms := sl) (As := []) (rest := st) (b := a) (g := F0 m pc ls (.ref a :: st)) (Pc := va_Pc [.ref a] (dn_B G a ci fs)) (Ts := dk_ws)
    ⟨C.1, C.2.1, C.2.2.1, C.2.2.2.1, C.2.2.2.2.1⟩ hM ⟨va_cnB 0 C.2.2.2.2.1 hG rfl rfl rfl (C.2.2.2.2.2.1.2.1 _ hl) (C.2.2.2.2.1 _ hini) hd hR, hy1, C.2.2.2.2.1 _ hin⟩
    ⟨dn_blind, fun U hU hW => ⟨rfl, by rw [hU]; omega, by rw [hU]; exact hP1, C.2.2.2.2.2.1.warm hW, (dn_Zk C hS hU hW).nar rfl (fun q (hq : a ≤ q) => by show h0 ≤ q; omega)⟩⟩ rfl rfl (by rw [← hLn]; exact hL.1) rfl (lv_room hcat) d hRc
  intro T hT X
  obtain ⟨v, st₀, t, T', L1, g0, X', hL1, e1, e2, ⟨⟨es1, hv, hPo, hl1, hP2⟩, hz2, hk⟩, stp⟩ := hr T hT X
  cases hv
  rw [g0] at hz2 hk
  have hkeep : ∀ q : Nat, q < a → T'.heap[q]? = H[q]? := fun q hq => by
    rw [e1]; exact hk q (by omega) (fun z => by have : a ≤ q := z; omega)
  obtain ⟨t2, a1, b1⟩ := k es1 hPo hl1 T'.heap (locs ++ L1) ls hL
    (by
      rw [dn_app, ← ha0]
      refine (hP0.kept fun j q hq => hkeep q.1 ?_).app (by rw [e1]; exact hP2)
      have h9 := dn_of hq
      have h8 := (List.getElem?_eq_some_iff.mp h9.2).1
      omega)
    ⟨Nat.le_trans hS.1 (by rw [e1]; exact hz2), fun q h1 h2 => by
      have : ¬ h0 ≤ q := h2
      rw [hkeep q (by omega)]; exact hS.2.1 q h1 h2, fun q hq => by
      rcases List.mem_append.mp hq with h | h
      · exact hS.2.2 q h
      · have : a ≤ q.base := hL1 q h
        show h0 ≤ q.base
        omega⟩ T' rfl X'
  exact ⟨t2, stp t2 a1, b1⟩
/-- on into the store -/
def dn_GC (G : dk_G) (h0 : Nat) (dom : List (Nat × Nat)) : dk_G := (G.1, G.2.1, G.2.2.1, dom, dn_A h0, G.2.2.2.2.2)
theorem dn_toC (C : dn_C G h0 p s m args meth c cc nL own) {dom : List (Nat × Nat)} (hD : dk_D (dn_GC G h0 dom)) (hc : cells ≤ R.cells) (hs : slots ≤ R.slots) : dk_C (dn_GC G h0 dom) p R s m args c cells slots cc nL own :=
  ⟨C.1, C.2.1, C.2.2.1, C.2.2.2.1, C.2.2.2.2.1, C.2.2.2.2.2.1, fun q hq => by have := C.2.2.2.2.2.2.2.1; show h0 ≤ q; omega, C.2.2.2.2.2.2.1, hD, hc, hs⟩
theorem dn_toK {dom : List (Nat × Nat)} {σ : dk_S} (h : dn_ws h0 es = dk_wsl (dn_GC G h0 dom) σ) (k : dk_W (dn_GC G h0 dom) p l e R s m args below meth c cells slots Q pc L st σ) : dn_W h0 G p l e R s m args below meth c cells slots Q pc L st es := fun H locs ls hL hP hS =>
  k H locs ls hL (h ▸ hP) hS
end DNR
