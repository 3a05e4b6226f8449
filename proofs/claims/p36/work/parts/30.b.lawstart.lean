/-! the law's own start: two keeps -/
def dm_C (G : dk_G) (h0 : Nat) (p : Program) (s : State) (m : MethodId) (args : Array Value) (c : Code) (cc : ByteArray) (nL : Nat) (own : String) : Prop :=
  p.tables.exec = Jvm.exec ∧ c.code = cc ∧ c.maxLocals = nL ∧ s.vm.findClass own = some m.cls ∧ (∀ w ∈ dk_ws, w.before args s = true) ∧ dk_V G s ∧ dk_Z (dk_GA G (dn_A h0)) s s.heap ∧ s.heap.size = h0
section DMR
variable {h0 : Nat} {G : dk_G} {p : Program} {l : Launch} {e : Env} {R : Room} {s : State} {m : MethodId} {args : Array Value} {below : List Frame} {meth : Method} {c : Code} {cells slots : Nat} {Q : State → Prop}
variable {cc : ByteArray} {nL : Nat} {own : String} {pc n : Nat} {L L' : List (Option Value)} {st st' : List Value} {es : List va_E}
theorem dm_dup (C : dm_C G h0 p s m args c cc nL own) {x : Nat} (d : decode cc pc = .ok (.dup, 1)) (hn : pc + 1 = n) (k : dn_W h0 G p l e R s m args below meth c cells slots Q n L (.ref x :: .ref x :: st) es) : dn_W h0 G p l e R s m args below meth c cells slots Q pc L (.ref x :: st) es := fun H locs ls hL hP hS => by
  subst hn
  exact lv_dup C.1 C.2.1 d rfl (k H locs ls hL hP hS)
theorem dm_astore_n (C : dm_C G h0 p s m args c cc nL own) {x : Nat} {k0 : Fin 4} {i : Nat} (d : decode cc pc = .ok (.astore_n k0, 1)) (hn : pc + 1 = n) (hi : (k0 : Nat) = i) (hc : dk_nc L i) (hl : i < L.length) (hs : L.set i (some (.ref x)) = L') (k : dn_W h0 G p l e R s m args below meth c cells slots Q n L' st es) : dn_W h0 G p l e R s m args below meth c cells slots Q pc L (.ref x :: st) es := fun H locs ls hL hP hS => by
  subst hn; subst hs
  exact lv_astore_n C.1 C.2.1 d hi hL hl rfl (fun ls' h => k H locs ls' (dk_L.set hc hl h) hP hS)
theorem dm_size (C : dm_C G h0 p s m args c cc nL own) {H : Heap} {locs : List Loc} {g : JFrame} (hlen : es.length = cells) (hP : va_P G.1 dk_cl (dn_ws h0 es) H) (hS : va_S (dn_A h0) s.heap H locs) (k : H.size = h0 + es.length → W p l e R s m args below meth c H locs cells slots Q g) : W p l e R s m args below meth c H locs cells slots Q g := by
  intro T hT X
  have h1 : T.heap.size ≤ s.heap.size + cells := X.same.2.2.1
  have h3 := C.2.2.2.2.2.2.2
  have h4 := hS.1
  rw [hT] at h1
  refine k ?_ T hT X
  rcases Nat.eq_zero_or_pos cells with h5 | h5
  · show H.size = _
    omega
  · obtain ⟨e9, he⟩ : ∃ e9, es[cells - 1]? = some e9 := ⟨_, List.getElem?_eq_getElem (by omega)⟩
    have h2 := (hP (cells - 1) _ (dn_at he)).lt
    have : h0 + (cells - 1) < H.size := h2
    show H.size = _
    omega
theorem dm_Zk (C : dm_C G h0 p s m args c cc nL own) {H : Heap} {locs : List Loc} (hS : va_S (dn_A h0) s.heap H locs) {U : State} (hU : U.heap = H) (hW : s.WarmedH U.vm) : dk_Z (dk_GA G (dn_A h0)) U U.heap := by
  rw [hU]
  exact (C.2.2.2.2.2.2.1.kept (fun a h1 h2 => hS.2.1 a h1 h2)).moved hW.alike
theorem dm_new (C : dm_C G h0 p s m args c cc nL own) {ci i N a : Nat} {Cn : String} {T : u_T} {fs : List Value} (hin : ∀ w ∈ u_ws Cn T N, w ∈ dk_ws) (ty0 : Nat → FieldType) (hty : ∀ k, k < N → parseFieldDescriptor (T k).2.2.1 = some (ty0 k)) (hcl : Cond.classLink own i Cn ∈ dk_ws) (hinst : Cond.instantiable Cn N ∈ dk_ws) (hini : Cond.initialized Cn ∈ dk_ws) (hc : dk_cl[ci]? = some (Cn, T, N)) (hfs : ∀ j, j < N → defaultValue (ty0 j) = vp_V fs j) (hR : cells + 1 ≤ R.cells ∧ slots + N ≤ R.slots)
    (d : decode cc pc = .ok (.new i, 3)) (hn : pc + 3 = n) (hlen : es.length = cells) (ha : a = h0 + cells) (k : dn_W h0 G p l e R s m args below meth c (cells + 1) (slots + N) Q n L (.ref a :: st) (es ++ [.inr (ci, fs)])) : dn_W h0 G p l e R s m args below meth c cells slots Q pc L st es := fun H locs ls hL hP hS => by
  subst hn; subst ha
  refine dm_size C hlen hP hS (fun hz => ?_)
  have hKn := C.2.2.2.2.2.1.1.1 ci _ hc
  rw [hlen] at hz
  refine W.newcK C.1 C.2.1 C.2.2.2.1 (C.2.2.2.2.1 _ hcl) (C.2.2.2.2.1 _ hinst) (C.2.2.2.2.1 _ hini) rfl d hR.1 hR.2 hKn.2.1 hz fun H1 kC hkC e1 z1 o1 => ?_
  refine k H1 locs ls hL ?_ ⟨Nat.le_trans hS.1 (by omega), fun x h1 h2 => (o1 x (by have := hS.1; omega)).trans (hS.2.1 x h1 h2), hS.2.2⟩
  rw [dn_app, hlen]
  refine (hP.kept fun j q hq => o1 q.1 (by have := (hP j q hq).lt; omega)).app (fun j q hq => ?_)
  have hj : j = 0 := by
    have := (List.getElem?_eq_some_iff.mp hq).1
    simp only [dn_ws, List.length_cons, List.length_nil] at this
    omega
  subst hj
  cases hq
  exact ⟨_, hc, (u_born ty0 C.2.2.2.2.1 hin hKn hkC e1 hty).to hfs⟩
theorem dm_call (C : dm_C G h0 p s m args c cc nL own) {i lv mL a ci k1 sl : Nat} {y : MethodName} {cy : ByteArray} {fs : List Value} {Post : List va_E → Prop} {es0 : List va_E} (hes : es = es0 ++ [.inr (ci, fs)])
    (hM : dn_M G l lv y cy mL a ci fs k1 sl Post) (hy1 : y.name = "<init>") (hini : Cond.initialized y.cls ∈ dk_ws) (hcd : Cond.code y cy mL none ∈ dk_ws) (hl : Cond.methodLink own i y ∈ dk_ws) (hin : Cond.instanceMethod y ∈ dk_ws) (hd : y.cls ≠ "java/lang/invoke/MethodHandle" ∧ y.cls ≠ "java/lang/invoke/VarHandle" ∧ (parseMethodDescriptor y.desc).map (fun d => d.parameters.length) = some 0)
    (hR : lv + 1 ≤ R.frames ∧ 8 + (mL + 11) + 40 * lv ≤ R.locals) (hRc : cells + k1 ≤ R.cells ∧ slots + sl ≤ R.slots) (hcat : (st.map fun v => v.category).sum ≤ 8) (hLn : L.length = nL) (d : decode cc pc = .ok (.invokespecial i, 3)) (hn : pc + 3 = n) (hlen : es.length = cells) (ha : a + 1 = h0 + cells)
    (k : ∀ es1, Post es1 → es1.length = k1 + 1 → dn_W h0 G p l e R s m args below meth c (cells + k1) (slots + sl) Q n L st (es0 ++ es1)) : dn_W h0 G p l e R s m args below meth c cells slots Q pc L (.ref a :: st) es := fun H locs ls hL hP hS => by
  subst hn; subst hes
  have hl0 : es0.length + 1 = cells := by simpa using hlen
  have ha0 : a = h0 + es0.length := by omega
  refine dm_size C hlen hP hS (fun hz => ?_)
  rw [hlen] at hz
  rw [dn_app, ← ha0] at hP
  have hP0 : va_P G.1 dk_cl (dn_ws h0 es0) H := fun j q hq => hP j q (by rw [List.getElem?_append_left (List.getElem?_eq_some_iff.mp hq).1]; exact hq)
  have hP1 : va_P G.1 dk_cl (dn_ws a [.inr (ci, fs)]) H := fun j q hq => hP ((dn_ws h0 es0).length + j) q (by rw [List.getElem?_append_right (by omega), show (dn_ws h0 es0).length + j - (dn_ws h0 es0).length = j by omega]; exact hq)
  have hG : GoodIn dk_ws (Cond.code y cy mL none :: dk_ws) := fun w hw => by
    have hm : w ∈ dk_ws := by
      rcases List.mem_cons.mp hw with rfl | hw
      · exact hcd
      · exact hw
    exact ⟨hm, dk_ws_good w hm⟩
  have hr := va_runI (p := p) (l := l) (e := e) (R := R) (below := below) (meth := meth) (H := H) (locs := locs) (cells := cells) (slots := slots) (mc := k1) (ms := sl) (As := []) (rest := st) (b := a) (g := F0 m pc ls (.ref a :: st)) (Pc := va_Pc [.ref a] (dn_B G a ci fs)) (Ts := dk_ws)
    ⟨C.1, C.2.1, C.2.2.1, C.2.2.2.1, C.2.2.2.2.1⟩ hM (cwI 0 C.2.2.2.2.1 hG rfl rfl rfl (C.2.2.2.2.1 _ hini) (C.2.2.2.2.1 _ hl) (C.2.2.2.2.1 _ hin) hy1 hd hR)
    ⟨dn_blind, fun U hU hW => ⟨rfl, by rw [hU]; omega, by rw [hU]; exact hP1, C.2.2.2.2.2.1.warm hW, (dm_Zk C hS hU hW).nar rfl (fun q (hq : a ≤ q) => by show h0 ≤ q; omega)⟩⟩ rfl rfl (by rw [← hLn]; exact hL.1) rfl (lv_room hcat) d hRc
  intro T hT X
  obtain ⟨v, st₀, t, T', L1, g0, X', hL1, e1, e2, ⟨⟨es1, hv, hPo, hl1, hP2⟩, hz2, hk⟩, stp⟩ := hr T hT X
  cases hv
  rw [g0] at hz2 hk
  have hkeep : ∀ q : Nat, q < a → T'.heap[q]? = H[q]? := fun q hq => by
    rw [e1]; exact hk q (by omega) (fun z => by have : a ≤ q := z; omega)
  obtain ⟨t2, a1, b1⟩ := k es1 hPo hl1 T'.heap (locs ++ L1) ls hL
    (by
      rw [dn_app, ← ha0]
      refine (hP0.kept fun j q hq => hkeep q.1 ?_).app (by rw [e1]; exact hP2)
      have h9 := dn_of hq
      have h8 := (List.getElem?_eq_some_iff.mp h9.2).1
      omega)
    ⟨Nat.le_trans hS.1 (by rw [e1]; exact hz2), fun q h1 h2 => by
      have : ¬ h0 ≤ q := h2
      rw [hkeep q (by omega)]; exact hS.2.1 q h1 h2, fun q hq => by
      rcases List.mem_append.mp hq with h | h
      · exact hS.2.2 q h
      · have : a ≤ q.base := hL1 q h
        show h0 ≤ q.base
        omega⟩ T' rfl X'
  exact ⟨t2, stp t2 a1, b1⟩
end DMR
