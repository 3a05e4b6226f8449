/-! the law and its wrappers: stores, calls, catching, ends -/
section DWS
variable {G : dk_G} {O : dl_T} {p : Program} {l : Launch} {e : Env} {R : Room} {s : State} {m : MethodId} {args : Array Value} {below : List Frame} {meth : Method} {c : Code} {cells slots : Nat} {Q : State → Prop}
variable {cc : ByteArray} {nL : Nat} {own : String} {pc n : Nat} {L L' : List (Option Value)} {st st' : List Value} {σ : dk_S} {fO : Nat → Int64} {fD : Nat → UInt64}
theorem dw_notO (hD : dk_D G) (g : dl_G G O) {H H1 : Heap} (hP : va_P G.1 dk_cl (dk_wsl G σ) H) (oq : ∀ q : Nat, q ≠ O.2.1 → H1[q]? = H[q]?) : va_P G.1 dk_cl (dk_wsl G σ) H1 :=
  dw_keep (A0 := dk_A G) hP (hD σ) g.o oq
theorem dw_notD (hD : dk_D G) (g : dl_G G O) {H H1 : Heap} (hP : va_P G.1 dk_cl (dk_wsl G σ) H) (oq : ∀ q : Nat, q ≠ O.2.2.1 → H1[q]? = H[q]?) : va_P G.1 dk_cl (dk_wsl G σ) H1 :=
  dw_keep (A0 := dk_A G) hP (hD σ) g.d oq
/-- out[0] = x -/
theorem dw_last (C : dw_C G O p s m args c cc nL own) {x : Int64} (d : decode cc pc = .ok (.lastore, 1)) (hn : pc + 1 = n) (k : dw_W G O p l e R s m args below meth c cells slots Q n L st σ (vp_updL fO 0 x) fD) : dw_W G O p l e R s m args below meth c cells slots Q pc L (.long x :: .int 0 :: .ref O.2.1 :: st) σ fO fD := fun H locs ls hL hP hO hS => by
  subst hn
  have g := C.2.2.2.2.2.2.2.2.1
  have hK := C.2.2.2.2.2.2.2.2.2.1
  have hD := g.1 fO fD
  refine W.last C.1 C.2.1 (hO 0 _ rfl) ((hK.2 0 _ rfl).1 1 (fun j => .long (fO j))) (fun q => by cases q) (by show ¬ ((0 : Int32) < 0 ∨ (arrV _ _ _).slots.size ≤ _); rw [arrV_size]; exact (by decide : ¬ ((0 : Int32) < 0 ∨ 1 ≤ Int32.toNatClampNeg 0))) rfl rfl d fun H1 e1 z oq => ?_
  refine k H1 _ ls hL (dw_notO C.2.2.2.2.2.2.2.1 g hP oq) ?_ (hS.put z oq (hD.2 0 _ rfl))
  have h9 := va_P.set (e := .inl (O.2.2.2.1, 1, .inr (.inl (vp_updL fO 0 x)))) hO hD (p := 0) rfl ?_ oq
  · exact h9
  · show H1[O.2.1]? = some (vp_cell _ _)
    rw [e1]
    rw [vp_cell_l, vp_cell_l, arrV_store]
    congr 2
    funext q
    by_cases hq : q = (0 : Int32).toNatClampNeg
    · subst hq
      simp [updV, vp_updL]
    · have hq0 : ¬ q = 0 := hq
      simp [updV, vp_updL, hq0]
theorem dw_dast (C : dw_C G O p s m args c cc nL own) {x : UInt64} (d : decode cc pc = .ok (.dastore, 1)) (hn : pc + 1 = n) (k : dw_W G O p l e R s m args below meth c cells slots Q n L st σ fO (vf_upd fD 0 x)) : dw_W G O p l e R s m args below meth c cells slots Q pc L (.double x :: .int 0 :: .ref O.2.2.1 :: st) σ fO fD := fun H locs ls hL hP hO hS => by
  subst hn
  have g := C.2.2.2.2.2.2.2.2.1
  have hK := C.2.2.2.2.2.2.2.2.2.1
  have hD := g.1 fO fD
  refine W.dast C.1 C.2.1 (hO 1 _ rfl) ((hK.2 1 _ rfl).1 1 (fun j => .double (fD j))) (fun q => by cases q) (by show ¬ ((0 : Int32) < 0 ∨ (arrV _ _ _).slots.size ≤ _); rw [arrV_size]; exact (by decide : ¬ ((0 : Int32) < 0 ∨ 1 ≤ Int32.toNatClampNeg 0))) rfl rfl d fun H1 e1 z oq => ?_
  refine k H1 _ ls hL (dw_notD C.2.2.2.2.2.2.2.1 g hP oq) ?_ (hS.put z oq (hD.2 1 _ rfl))
  have h9 := va_P.set (e := .inl (O.2.2.2.2, 1, .inr (.inr (.inr (.inl (vf_upd fD 0 x)))))) hO hD (p := 1) rfl ?_ oq
  · exact h9
  · show H1[O.2.2.1]? = some (vp_cell _ _)
    rw [e1]
    rw [vp_cell_d, vp_cell_d, arrV_store]
    congr 2
    funext q
    by_cases hq : q = (0 : Int32).toNatClampNeg
    · subst hq
      simp [updV, vf_upd]
    · have hq0 : ¬ q = 0 := hq
      simp [updV, vf_upd, hq0]
/-- the script -/
theorem dw_slen (C : dw_C G O p s m args c cc nL own) {b Ls : Nat} {xs : Nat → Int32} (hX : va_X b Ls xs s s.heap) (hb : b < s.heap.size) (hbA : ¬ dl_A O b) (d : decode cc pc = .ok (.arraylength, 1)) (hn : pc + 1 = n) (k : dw_W G O p l e R s m args below meth c cells slots Q n L (.int (Int32.ofNat Ls) :: st) σ fO fD) : dw_W G O p l e R s m args below meth c cells slots Q pc L (.ref b :: st) σ fO fD := fun H locs ls hL hP hO hS => by
  subst hn
  exact va_slen C.1 C.2.1 hX hb hbA hS d (k H locs ls hL hP hO hS)
theorem dw_sld (C : dw_C G O p s m args c cc nL own) {b Ls : Nat} {xs : Nat → Int32} (hX : va_X b Ls xs s s.heap) (hb : b < s.heap.size) (hbA : ¬ dl_A O b) {i : Int32} (hi : vp_in i Ls) (d : decode cc pc = .ok (.iaload, 1)) (hn : pc + 1 = n) (k : dw_W G O p l e R s m args below meth c cells slots Q n L (.int (xs i.toNatClampNeg) :: st) σ fO fD) : dw_W G O p l e R s m args below meth c cells slots Q pc L (.int i :: .ref b :: st) σ fO fD := fun H locs ls hL hP hO hS => by
  subst hn
  exact va_sld C.1 C.2.1 hX hb hbA hS hi d (k H locs ls hL hP hO hS)
theorem dw_Zk (C : dw_C G O p s m args c cc nL own) {H : Heap} {locs : List Loc} (hS : va_S (dl_A O) s.heap H locs) {U : State} (hU : U.heap = H) (hW : s.WarmedH U.vm) : dk_Z (dk_GA G (dl_A O)) U U.heap := by
  rw [hU]
  exact (C.2.2.2.2.2.2.1.kept (fun a h1 h2 => hS.2.1 a h1 h2)).moved hW.alike
theorem dw_here (C : dw_C G O p s m args c cc nL own) {H : Heap} {locs : List Loc} (hP : va_P G.1 dk_cl (dk_wsl G σ) H) (hO : dl_O G O fO fD H) (hS : va_S (dl_A O) s.heap H locs) : ∀ U : State, U.heap = H → s.WarmedH U.vm → dk_B G σ U := fun U hU hW =>
  ⟨by rw [hU]; exact hP, C.2.2.2.2.2.1.warm hW, fun q hq => dl_up C.2.2.2.2.2.2.2.2.1 (Nat.le_trans C.2.2.2.2.2.2.2.2.2.2 hS.1) hO (by rw [← hU]; exact hq), (dw_Zk C hS hU hW).nar rfl (fun _ h => C.2.2.2.2.2.2.2.2.1.sub h)⟩
/-- a method of the keep, or of the reference, that returns -/
theorem dw_callV (C : dw_C G O p s m args c cc nL own) {i lv mL na a b ci : Nat} {y : MethodName} {cy : ByteArray} {ret : Option FieldType} {As : List Value} {K : Option Value → dk_S → Prop} {fs : List (Option (Nat → Nat × Nat))} {T : u_T} {N : Nat} (st' : List Value)
    (hM : dk_M G l lv y cy mL ret (dk_r G a b :: As) σ K) (hY : dk_YV y cy mL ret na) (hl : Cond.methodLink own i y ∈ dk_ws) (hna : As.length = na) (hR : lv + 1 ≤ R.frames ∧ 8 + (mL + 11) + 40 * lv ≤ R.locals) (hRc : cells ≤ R.cells ∧ slots ≤ R.slots)
    (hs : dk_shp b = .inr (ci, fs)) (hc : dk_cl[ci]? = some (y.cls, T, N)) (hd : (a, b) ∈ dk_dom G) (hst : st = As.reverse ++ dk_r G a b :: st') (hcat : (st'.map fun v => v.category).sum ≤ 8) (hLn : L.length = nL) (d : decode cc pc = .ok (.invokevirtual i, 3)) (hn : pc + 3 = n)
    (k : ∀ (v : Option Value) (σ' : dk_S), K v σ' → dw_W G O p l e R s m args below meth c cells slots Q n L (v.toList ++ st') σ' fO fD) : dw_W G O p l e R s m args below meth c cells slots Q pc L st σ fO fD := fun H locs ls hL hP hO hS => by
  subst hst
  subst hn
  have g := C.2.2.2.2.2.2.2.2.1
  obtain ⟨j, -, hj⟩ := dk_pos hd σ
  rw [dk_cel, dk_ce.eq_def, hs] at hj
  have hT : GoodIn dk_ws (wsV own i y.cls y (Cond.code y cy mL ret :: dk_ws)) := fun w hw => by
    have hm : w ∈ dk_ws := by
      simp only [wsV, List.mem_append, List.mem_cons, List.not_mem_nil, or_false] at hw
      rcases hw with (rfl | rfl | rfl | rfl) | rfl | hw
      · exact hl
      · exact hY.1
      · exact hY.2.1
      · exact hY.2.2.1
      · exact hY.2.2.2.1
      · exact hw
    exact ⟨hm, dk_ws_good w hm⟩
  have hr := va_runV (p := p) (l := l) (e := e) (R := R) (below := below) (meth := meth) (H := H) (locs := locs) (cells := cells) (slots := slots) (mc := 0) (ms := 0) (As := As) (rest := st') (b := dk_ad G a b) (C := y.cls) (g := F0 m pc ls (As.reverse ++ dk_r G a b :: st')) (Pc := va_Pc (dk_r G a b :: As) (dk_B G σ))
    ⟨C.1, C.2.1, C.2.2.1, C.2.2.2.1, C.2.2.2.2.1⟩ hM (cwV na C.2.2.2.2.1 hT rfl rfl rfl ⟨rfl, hY.2.2.2.2⟩ hR)
    ⟨dk_blind, va_recv C.2.2.2.2.2.1.1 hP hc hj, fun U hU hW => ⟨rfl, dw_here C hP hO hS U hU hW⟩⟩ rfl hna (by rw [← hLn]; exact hL.1) rfl (lv_room hcat) d hRc
  intro T hT X
  obtain ⟨v, st₀, t, T', L1, h0, X', hL1, e1, e2, ⟨⟨v2, σ', hv, hK, hP1⟩, hz, hk⟩, stp⟩ := hr T hT X
  cases hv
  rw [h0] at hz hk
  have hk' : ∀ q : Nat, q < H.size → ¬ dk_A G q → T'.heap[q]? = H[q]? := fun q h1 h2 => by rw [e1]; exact hk q h1 h2
  obtain ⟨t2, a1, b1⟩ := k v σ' hK T'.heap (locs ++ L1) ls hL (by rw [e1]; exact hP1) (hO.kept g hk')
    ⟨Nat.le_trans hS.1 (by rw [e1]; exact hz), fun q h1 h2 => by rw [hk' q (Nat.lt_of_lt_of_le h1 hS.1) (fun z => h2 (g.sub z))]; exact hS.2.1 q h1 h2, fun q hq => by
      rcases List.mem_append.mp hq with h | h
      · exact hS.2.2 q h
      · exact g.sub (hL1 q h)⟩ T' rfl X'
  exact ⟨t2, stp t2 a1, b1⟩
/-- a method of the keep that returns or throws -/
theorem dw_callX (C : dw_C G O p s m args c cc nL own) {i lv mL na a b ci : Nat} {y : MethodName} {cy : ByteArray} {ret : Option FieldType} {As : List Value} {K : Option Value → dk_S → Prop} {X : String → dk_S → Prop} {fs : List (Option (Nat → Nat × Nat))} {T : u_T} {N : Nat} (st' : List Value)
    (hM : dk_MX G l lv y cy mL ret (dk_r G a b :: As) σ K X) (hY : dk_YV y cy mL ret na) (hl : Cond.methodLink own i y ∈ dk_ws) (hna : As.length = na) (hR : lv + 1 ≤ R.frames ∧ 8 + (mL + 11) + 40 * lv ≤ R.locals) (hRc : cells + 1 ≤ R.cells ∧ slots + 6 ≤ R.slots)
    (hs : dk_shp b = .inr (ci, fs)) (hc : dk_cl[ci]? = some (y.cls, T, N)) (hd : (a, b) ∈ dk_dom G) (hst : st = As.reverse ++ dk_r G a b :: st') (hcat : (st'.map fun v => v.category).sum ≤ 8) (hLn : L.length = nL) (d : decode cc pc = .ok (.invokevirtual i, 3)) (hn : pc + 3 = n)
    (kx : ∀ (E : String) (σ' : dk_S), X E σ' → dw_X G O p l e R s m args below meth c (cells + 1) (slots + 6) Q E pc L st' σ' fO fD)
    (k : ∀ (v : Option Value) (σ' : dk_S), K v σ' → dw_W G O p l e R s m args below meth c cells slots Q n L (v.toList ++ st') σ' fO fD) : dw_W G O p l e R s m args below meth c cells slots Q pc L st σ fO fD := fun H locs ls hL hP hO hS => by
  subst hst
  subst hn
  have g := C.2.2.2.2.2.2.2.2.1
  obtain ⟨j, -, hj⟩ := dk_pos hd σ
  rw [dk_cel, dk_ce.eq_def, hs] at hj
  have hT : GoodIn dk_ws (wsV own i y.cls y (Cond.code y cy mL ret :: dk_ws)) := fun w hw => by
    have hm : w ∈ dk_ws := by
      simp only [wsV, List.mem_append, List.mem_cons, List.not_mem_nil, or_false] at hw
      rcases hw with (rfl | rfl | rfl | rfl) | rfl | hw
      · exact hl
      · exact hY.1
      · exact hY.2.1
      · exact hY.2.2.1
      · exact hY.2.2.2.1
      · exact hw
    exact ⟨hm, dk_ws_good w hm⟩
  have hr := zx_runV (p := p) (l := l) (e := e) (R := R) (below := below) (meth := meth) (H := H) (locs := locs) (cells := cells) (slots := slots) (mc := 1) (ms := 6) (As := As) (rest := st') (b := dk_ad G a b) (C := y.cls) (g := F0 m pc ls (As.reverse ++ dk_r G a b :: st')) (Pc := va_Pc (dk_r G a b :: As) (dk_B G σ))
    ⟨C.1, C.2.1, C.2.2.1, C.2.2.2.1, C.2.2.2.2.1⟩ hM (cwV na C.2.2.2.2.1 hT rfl rfl rfl ⟨rfl, hY.2.2.2.2⟩ hR)
    ⟨dk_blind, va_recv C.2.2.2.2.2.1.1 hP hc hj, fun U hU hW => ⟨rfl, dw_here C hP hO hS U hU hW⟩⟩ rfl hna (by rw [← hLn]; exact hL.1) rfl (lv_room hcat) d hRc
  intro T hT X9
  have hk' : ∀ {st₀ t T' : State}, st₀.heap = H → T'.heap = t.heap → va_F (dk_A G) st₀ t → ∀ q : Nat, q < H.size → ¬ dk_A G q → T'.heap[q]? = H[q]? := by
    intro st₀ t T' h0 e1 hF q h1 h2
    rw [e1, hF.2 q (by rw [h0]; exact h1) h2, h0]
  have keep : ∀ {st₀ t T' : State} {L1 : List Loc}, st₀.heap = H → T'.heap = t.heap → va_F (dk_A G) st₀ t → (∀ q ∈ L1, dk_A G q.base) → va_S (dl_A O) s.heap T'.heap (locs ++ L1) := by
    intro st₀ t T' L1 h0 e1 hF hL1
    exact ⟨Nat.le_trans hS.1 (by rw [e1, ← h0]; exact hF.1), fun q h1 h2 => by rw [hk' h0 e1 hF q (Nat.lt_of_lt_of_le h1 hS.1) (fun z => h2 (g.sub z))]; exact hS.2.1 q h1 h2, fun q hq => by
      rcases List.mem_append.mp hq with h | h
      · exact hS.2.2 q h
      · exact g.sub (hL1 q h)⟩
  rcases hr T hT X9 with ⟨v, st₀, t, T', L1, h0, X', hL1, e1, e2, ⟨⟨v2, σ', hv, hK, hP1⟩, hF⟩, stp⟩ | ⟨q, st₀, t, T', L1, E, ce, h0, X', hL1, e1, e2, ⟨⟨σ', hx, hP1⟩, hF⟩, hce, hcv, hcl, stp⟩
  · cases hv
    obtain ⟨t2, a1, b1⟩ := k v σ' hK T'.heap (locs ++ L1) ls hL (by rw [e1]; exact hP1) (hO.kept g (hk' h0 e1 hF)) (keep h0 e1 hF hL1) T' rfl X'
    exact ⟨t2, stp t2 a1, b1⟩
  · obtain ⟨t2, a1, b1⟩ := kx E σ' hx T'.heap (locs ++ L1) ls q ce hL (by rw [e1]; exact hP1) (hO.kept g (hk' h0 e1 hF)) (keep h0 e1 hF hL1) (by rw [e1]; exact hce) hcv hcl T' rfl X'
    exact ⟨t2, stp.trans a1, b1⟩
/-- a wrapper, called by the law -/
theorem dw_callW (C : dw_C G O p s m args c cc nL own) {i mL na : Nat} {y : MethodName} {cy : ByteArray} {hh : List (Nat × Nat × Nat × Nat)} {As : List Value} {P : Int32 → dk_S → (Nat → Int64) → (Nat → UInt64) → Prop} (st' : List Value)
    (hM : dw_M G O l y cy mL hh As σ fO fD P) (hY : Cond.static y ∈ dk_ws ∧ Cond.initialized y.cls ∈ dk_ws ∧ Cond.codeWith y cy mL (some .int) hh ∈ dk_ws ∧ (y.cls ≠ "java/lang/invoke/MethodHandle" ∧ y.cls ≠ "java/lang/invoke/VarHandle" ∧ (parseMethodDescriptor y.desc).map (fun d => d.parameters.length) = some na)) (hl : Cond.methodLink own i y ∈ dk_ws) (hna : As.length = na) (hR : 10 + 1 ≤ R.frames ∧ 8 + (mL + 11) + 40 * 10 ≤ R.locals) (hRc : cells + 1 ≤ R.cells ∧ slots + 6 ≤ R.slots)
    (hst : st = As.reverse ++ st') (hcat : (st'.map fun v => v.category).sum ≤ 8) (hLn : L.length = nL) (d : decode cc pc = .ok (.invokestatic i, 3)) (hn : pc + 3 = n)
    (k : ∀ (r : Int32) (σ' : dk_S) (fO' : Nat → Int64) (fD' : Nat → UInt64), P r σ' fO' fD' → dw_W G O p l e R s m args below meth c (cells + 1) (slots + 6) Q n L (.int r :: st') σ' fO' fD') : dw_W G O p l e R s m args below meth c cells slots Q pc L st σ fO fD := fun H locs ls hL hP hO hS => by
  subst hst
  subst hn
  have g := C.2.2.2.2.2.2.2.2.1
  have hT : GoodIn dk_ws (va_wsS own i y (Cond.codeWith y cy mL (some .int) hh :: dk_ws)) := fun w hw => by
    have hm : w ∈ dk_ws := by
      simp only [va_wsS, List.mem_append, List.mem_cons, List.not_mem_nil, or_false] at hw
      rcases hw with (rfl | rfl | rfl) | rfl | hw
      · exact hl
      · exact hY.1
      · exact hY.2.1
      · exact hY.2.2.1
      · exact hw
    exact ⟨hm, dk_ws_good w hm⟩
  have hr := vx_runSW (p := p) (l := l) (e := e) (R := R) (below := below) (meth := meth) (H := H) (locs := locs) (cells := cells) (slots := slots) (mc := 1) (ms := 6) (As := As) (rest := st') (g := F0 m pc ls (As.reverse ++ st')) (Pc := va_Pc As (dw_B G O σ fO fD)) (Ts := dk_ws)
    ⟨C.1, C.2.1, C.2.2.1, C.2.2.2.1, C.2.2.2.2.1⟩ hM (vx_cwSW na C.2.2.2.2.1 hT rfl rfl rfl hY.2.2.2 hR)
    ⟨dw_blind, fun U hU hW => ⟨rfl, by rw [hU]; exact hP, by rw [hU]; exact hO, C.2.2.2.2.2.1.warm hW, dw_Zk C hS hU hW, C.2.2.2.2.2.2.2.2.2.1.moved hW.alike, by rw [hU]; exact Nat.le_trans C.2.2.2.2.2.2.2.2.2.2 hS.1⟩⟩ rfl hna (by rw [← hLn]; exact hL.1) rfl (lv_room hcat) d hRc
  intro T hT X
  obtain ⟨v, st₀, t, T', L1, h0, X', hL1, e1, e2, ⟨⟨r, σ', fO', fD', hv, hPo, hP1, hO1⟩, hz, hk⟩, stp⟩ := hr T hT X
  cases hv
  rw [h0] at hz hk
  obtain ⟨t2, a1, b1⟩ := k r σ' fO' fD' hPo T'.heap (locs ++ L1) ls hL (by rw [e1]; exact hP1) (by rw [e1]; exact hO1)
    ⟨Nat.le_trans hS.1 (by rw [e1]; exact hz), fun q h1 h2 => by rw [e1, hk q (Nat.lt_of_lt_of_le h1 hS.1) h2]; exact hS.2.1 q h1 h2, fun q hq => by
      rcases List.mem_append.mp hq with h | h
      · exact hS.2.2 q h
      · exact hL1 q h⟩ T' rfl X'
  exact ⟨t2, stp t2 a1, b1⟩
/-- caught by the handler x, behind those of pre -/
theorem dw_catch (C : dw_C G O p s m args c cc nL own) {E : String} (pre : List ExceptionTableEntry) (x : ExceptionTableEntry) (suf : List ExceptionTableEntry) (hsplit : c.exceptionTable.toList = pre ++ x :: suf)
    (hpass : ∀ z ∈ pre, z.catchType ≠ 0 ∧ ∃ nm : String, Cond.classLink own z.catchType nm ∈ dk_ws ∧ (E, nm) ∈ dk_ncL) (hx : covers x pc = true) (h0 : x.catchType ≠ 0) (hlink : Cond.classLink own x.catchType E ∈ dk_ws) (hcast : Cond.castable E E ∈ dk_nw) (hn : x.handlerPc = n)
    (k : ∀ q : Nat, dw_W G O p l e R s m args below meth c cells slots Q n L [.ref q] σ fO fD) : dw_X G O p l e R s m args below meth c cells slots Q E pc L st σ fO fD := fun H locs ls q ce hL hP hO hS hce hcv hcl => by
  subst hn
  refine vx_catch (name := E) C.2.2.2.1 pre x suf hsplit (fun z hz => ?_) hx h0 (C.2.2.2.2.1 _ hlink) (va_Nw.use rfl (C.2.2.2.2.2.1.2.1 _ hcast)) hce hcv hcl (k q H locs ls hL hP hO hS)
  obtain ⟨h1, nm, h2, h3⟩ := hpass z hz
  exact Or.inr ⟨h1, nm, C.2.2.2.2.1 _ h2, C.2.2.2.2.2.1.2.2.2.2 _ h3⟩
theorem dw_iret (C : dw_C G O p s m args c cc nL own) {P : Int32 → dk_S → (Nat → Int64) → (Nat → UInt64) → Prop} {v : Int32} (hc : cells ≤ 1) (hs : slots ≤ 6) (hr : meth.sig.returnType = some .int) (hlk : meth.locks = false) (d : decode cc pc = .ok (.ireturn, 1)) (k : P v σ fO fD) :
    dw_W G O p l e R s m args below meth c cells slots (MQ below (dw_Qc G O P) args s 1 6 (dl_A O)) pc L [.int v] σ fO fD := fun H locs ls hL hP hO hS =>
  W.widen hc hs (W.iret C.1 C.2.1 hr (fun t ht hW => ⟨⟨v, σ, fO, fD, rfl, k, by rw [ht]; exact hP, by rw [ht]; exact hO⟩, hS.F ht⟩) hS.2.2 d hlk)
end DWS
def dl_b (x : Int32) : Int32 := if x = 0 then 0 else 1
def dl_bl (x : Int32) : Int64 := if x = 0 then 0 else 1
theorem dl_b01 (x : Int32) : dl_b x = 0 ∨ dl_b x = 1 := by
  unfold dl_b
  by_cases h : x = 0
  · exact Or.inl (if_pos h)
  · exact Or.inr (if_neg h)
section DWB
variable {G : dk_G} {O : dl_T} {p : Program} {l : Launch} {e : Env} {R : Room} {s : State} {m : MethodId} {args : Array Value} {below : List Frame} {meth : Method} {c : Code} {cells slots : Nat} {Q : State → Prop}
variable {cc : ByteArray} {nL : Nat} {own : String} {pc n : Nat} {L L' : List (Option Value)} {st st' : List Value} {σ : dk_S} {fO : Nat → Int64} {fD : Nat → UInt64}
/-- x != 0 as an int: ifeq t, 1, goto n, t: 0 -/
theorem dw_bool (C : dw_C G O p s m args c cc nL own) {x : Int32} {off off2 : Int} {t : Nat} (d0 : decode cc pc = .ok (.ifCond .eq off, 3)) (d1 : decode cc (pc + 3) = .ok (.iconst 1, 1)) (d2 : decode cc (pc + 4) = .ok (.goto off2, 3)) (d3 : decode cc t = .ok (.iconst 0, 1)) (ht : (pc : Int) + off = (t : Int)) (ht2 : ((pc + 4 : Nat) : Int) + off2 = (n : Int)) (hn : t + 1 = n)
    (k : dw_W G O p l e R s m args below meth c cells slots Q n L (.int (dl_b x) :: st) σ fO fD) : dw_W G O p l e R s m args below meth c cells slots Q pc L (.int x :: st) σ fO fD := by
  refine dw_if_eq C d0 rfl ht (fun h => ?_) (fun h => ?_)
  · refine dw_iconst (v := 0) C d3 hn (by decide) ?_
    rw [show dl_b x = 0 from if_pos h] at k
    exact k
  · refine dw_iconst (v := 1) C d1 rfl (by decide) ?_
    refine dw_goto C d2 ht2 ?_
    rw [show dl_b x = 1 from if_neg h] at k
    exact k
/-- .. as a long -/
theorem dw_boolL (C : dw_C G O p s m args c cc nL own) {x : Int32} {off off2 : Int} {t : Nat} (d0 : decode cc pc = .ok (.ifCond .eq off, 3)) (d1 : decode cc (pc + 3) = .ok (.lconst 1, 1)) (d2 : decode cc (pc + 4) = .ok (.goto off2, 3)) (d3 : decode cc t = .ok (.lconst 0, 1)) (ht : (pc : Int) + off = (t : Int)) (ht2 : ((pc + 4 : Nat) : Int) + off2 = (n : Int)) (hn : t + 1 = n)
    (k : dw_W G O p l e R s m args below meth c cells slots Q n L (.long (dl_bl x) :: st) σ fO fD) : dw_W G O p l e R s m args below meth c cells slots Q pc L (.int x :: st) σ fO fD := by
  refine dw_if_eq C d0 rfl ht (fun h => ?_) (fun h => ?_)
  · refine dw_lconst (v := 0) C d3 hn (by decide) ?_
    rw [show dl_bl x = 0 from if_pos h] at k
    exact k
  · refine dw_lconst (v := 1) C d1 rfl (by decide) ?_
    refine dw_goto C d2 ht2 ?_
    rw [show dl_bl x = 1 from if_neg h] at k
    exact k
end DWB
/-- what a wrapper answers: 0 and the answer in out[0], or the number of what was thrown -/
def dw_P (K : Int32 → dk_S → Prop) (X : String → dk_S → Prop) (g : Int32 → Int64) (tab : List (String × Int32)) (fD : Nat → UInt64) : Int32 → dk_S → (Nat → Int64) → (Nat → UInt64) → Prop := fun r σ fO' fD' => fD' = fD ∧ ((∃ v, r = 0 ∧ K v σ ∧ fO' 0 = g v) ∨ ∃ E, (E, r) ∈ tab ∧ X E σ)
def dw_PF {V : Type} (K : V → dk_S → Prop) (X : String → dk_S → Prop) (g : V → UInt64) (tab : List (String × Int32)) (fO : Nat → Int64) : Int32 → dk_S → (Nat → Int64) → (Nat → UInt64) → Prop := fun r σ fO' fD' => fO' = fO ∧ ((∃ v, r = 0 ∧ K v σ ∧ fD' 0 = g v) ∨ ∃ E, (E, r) ∈ tab ∧ X E σ)
