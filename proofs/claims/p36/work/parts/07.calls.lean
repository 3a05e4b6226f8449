/-! contracts over the store, their calls, their ends -/
def dk_Qc (G : dk_G) (K : Option Value → dk_S → Prop) : Array Value → State → Outcome → State → Prop := fun _ st o t => (∃ (v : Option Value) (σ' : dk_S), o = .returned v ∧ K v σ' ∧ va_P G.1 dk_cl (dk_wsl G σ') t.heap) ∧ va_F (dk_A G) st t
/-- a method's contract: from the store σ it returns, and K holds of its answer and the new store; it makes no cell -/
def dk_M (G : dk_G) (l : Launch) (lvl : Nat) (y : MethodName) (cc : ByteArray) (maxL : Nat) (ret : Option FieldType) (As : List Value) (σ : dk_S) (K : Option Value → dk_S → Prop) : Prop :=
  Met l y (Cond.code y cc maxL ret :: dk_ws) (dk_rm lvl) (va_Pc As (dk_B G σ)) (dk_Qc G K) 0 0 (dk_A G)
def dk_ki (K : Int32 → dk_S → Prop) : Option Value → dk_S → Prop := fun v σ => ∃ r : Int32, v = some (.int r) ∧ K r σ
def dk_kv (K : dk_S → Prop) : Option Value → dk_S → Prop := fun v σ => v = none ∧ K σ
def dk_kr (G : dk_G) (K : Nat → Nat → dk_S → Prop) : Option Value → dk_S → Prop := fun v σ => ∃ a b : Nat, v = some (dk_r G a b) ∧ K a b σ
def dk_YV (y : MethodName) (cc : ByteArray) (maxL : Nat) (ret : Option FieldType) (na : Nat) : Prop :=
  Cond.instanceMethod y ∈ dk_ws ∧ Cond.selects y.cls y y ∈ dk_ws ∧ Cond.initialized y.cls ∈ dk_ws ∧ Cond.code y cc maxL ret ∈ dk_ws ∧ (y.cls ≠ "java/lang/invoke/MethodHandle" ∧ y.cls ≠ "java/lang/invoke/VarHandle" ∧ (parseMethodDescriptor y.desc).map (fun d => d.parameters.length) = some na)
def dk_YS (y : MethodName) (cc : ByteArray) (maxL : Nat) (ret : Option FieldType) (na : Nat) : Prop :=
  Cond.static y ∈ dk_ws ∧ Cond.initialized y.cls ∈ dk_ws ∧ Cond.code y cc maxL ret ∈ dk_ws ∧ (y.cls ≠ "java/lang/invoke/MethodHandle" ∧ y.cls ≠ "java/lang/invoke/VarHandle" ∧ (parseMethodDescriptor y.desc).map (fun d => d.parameters.length) = some na)
theorem dk_of {G : dk_G} {l : Launch} {lvl : Nat} {y : MethodName} {cc : ByteArray} {maxL : Nat} {ret : Option FieldType} {As : List Value} {σ : dk_S} {K : Option Value → dk_S → Prop} (hD : dk_D G) (hpl : plainName y.cls = true) (L : List (Option Value)) (hL : ∀ q ∈ dk_ll 0 L, q ∈ lv_args 0 As) (hlen : L.length = maxL) (hfit : (lg_sl As).length ≤ maxL)
    (body : ∀ (p : Program) (e : Env) (s : State) (m : MethodId) (args : Array Value) (below : List Frame) (meth : Method) (c : Code), dk_C G p (dk_rm lvl) s m args c 0 0 cc maxL y.cls → meth.sig.returnType = ret → meth.locks = false →
      dk_W G p l e (dk_rm lvl) s m args below meth c 0 0 (MQ below (dk_Qc G K) args s 0 0 (dk_A G)) 0 L [] σ) : dk_M G l lvl y cc maxL ret As σ K := by
  refine Met.ofW (cc := cc) (maxL := maxL) (ret := ret) hpl rfl ?_
  intro p e s m args below meth c s₁ B hml hv
  obtain ⟨rfl, hP, hV, hA, hZ⟩ := hv
  have hts := atoms_spec (ws := Cond.code y cc maxL ret :: dk_ws) B.pre
  have C : dk_C G p (dk_rm lvl) s m As.toArray c 0 0 cc maxL y.cls := ⟨B.exec, B.bytes, hml, findClass_of_methodNamed B.named, fun w hw => hts w (List.mem_cons_of_mem _ hw), hV, hA, hZ, hD, Nat.zero_le _, Nat.zero_le _⟩
  have k := body p e s m As.toArray below meth c C B.returns B.notSynchronized
  rw [lg_entry_eq]
  exact k s.heap [] _ (dk_L.of (lv_entry As hfit) hlen hL) hP va_S.rf
section DKC
variable {G : dk_G} {p : Program} {l : Launch} {e : Env} {R : Room} {s : State} {m : MethodId} {args : Array Value} {below : List Frame} {meth : Method} {c : Code} {cells slots : Nat} {Q : State → Prop}
variable {cc : ByteArray} {nL : Nat} {own : String} {pc n : Nat} {L L' : List (Option Value)} {st st' : List Value} {σ : dk_S}
theorem dk_here (C : dk_C G p R s m args c cells slots cc nL own) {H : Heap} {locs : List Loc} (hP : va_P G.1 dk_cl (dk_wsl G σ) H) (hS : va_S (dk_A G) s.heap H locs) : ∀ U : State, U.heap = H → s.WarmedH U.vm → dk_B G σ U := fun U hU hW =>
  ⟨by rw [hU]; exact hP, C.2.2.2.2.2.1.warm hW, fun q hq => C.2.2.2.2.2.2.1 q (Nat.le_trans hS.1 (by rw [← hU]; exact hq)), by rw [hU]; exact (C.2.2.2.2.2.2.2.1.kept (fun a h1 h2 => hS.2.1 a h1 h2)).moved hW.alike⟩
/-- behind a call that came back -/
theorem dk_back {a : Array Value} {K : Option Value → dk_S → Prop} {H : Heap} {locs : List Loc} {ls : Array Slot} (hr : va_Run p l e R s m args below meth c H locs cells slots 0 0 (F0 m pc ls st) st' (dk_Qc G K a) (dk_A G)) (hL : dk_L L ls) (hS : va_S (dk_A G) s.heap H locs) (hn : pc + 3 = n)
    (k : ∀ (v : Option Value) (σ' : dk_S), K v σ' → dk_W G p l e R s m args below meth c cells slots Q n L (v.toList ++ st') σ') : W p l e R s m args below meth c H locs cells slots Q (F0 m pc ls st) := by
  subst hn
  intro T hT X
  obtain ⟨v, st₀, t, T', L1, h0, X', hL1, e1, e2, ⟨⟨v2, σ', hv, hK, hP1⟩, hz, hk⟩, stp⟩ := hr T hT X
  cases hv
  rw [h0] at hz hk
  obtain ⟨t2, a1, b1⟩ := k v σ' hK T'.heap (locs ++ L1) ls hL (by rw [e1]; exact hP1)
    ⟨Nat.le_trans hS.1 (by rw [e1]; exact hz), fun q h1 h2 => by rw [e1, hk q (Nat.lt_of_lt_of_le h1 hS.1) h2]; exact hS.2.1 q h1 h2, fun q hq => by
      rcases List.mem_append.mp hq with h | h
      · exact hS.2.2 q h
      · exact hL1 q h⟩ T' rfl X'
  exact ⟨t2, stp t2 a1, b1⟩
theorem dk_callV (C : dk_C G p R s m args c cells slots cc nL own) {i lv mL na a b ci : Nat} {y : MethodName} {cy : ByteArray} {ret : Option FieldType} {As : List Value} {K : Option Value → dk_S → Prop} {fs : List (Option (Nat → Nat × Nat))} {T : u_T} {N : Nat}
    (hM : dk_M G l lv y cy mL ret (dk_r G a b :: As) σ K) (hY : dk_YV y cy mL ret na) (hl : Cond.methodLink own i y ∈ dk_ws) (hna : As.length = na) (hR : lv + 1 ≤ R.frames ∧ 8 + (mL + 11) + 40 * lv ≤ R.locals)
    (hs : dk_shp b = .inr (ci, fs)) (hc : dk_cl[ci]? = some (y.cls, T, N)) (hd : (a, b) ∈ dk_dom G) (hst : st = As.reverse ++ dk_r G a b :: st') (hcat : (st'.map fun v => v.category).sum ≤ 8) (hLn : L.length = nL) (d : decode cc pc = .ok (.invokevirtual i, 3)) (hn : pc + 3 = n)
    (k : ∀ (v : Option Value) (σ' : dk_S), K v σ' → dk_W G p l e R s m args below meth c cells slots Q n L (v.toList ++ st') σ') : dk_W G p l e R s m args below meth c cells slots Q pc L st σ := fun H locs ls hL hP hS => by
  subst hst
  obtain ⟨j, -, hj⟩ := dk_pos hd σ
  rw [dk_cel, dk_ce.eq_def, hs] at hj
  have hT : GoodIn dk_ws (wsV own i y.cls y (Cond.code y cy mL ret :: dk_ws)) := fun w hw => by
    have hm : w ∈ dk_ws := by
      simp only [wsV, List.mem_append, List.mem_cons, List.not_mem_nil, or_false] at hw
      rcases hw with (rfl | rfl | rfl | rfl) | rfl | hw
      · exact hl
      · exact hY.1
      · exact hY.2.1
      · exact hY.2.2.1
      · exact hY.2.2.2.1
      · exact hw
    exact ⟨hm, dk_ws_good w hm⟩
  have hr := va_runV (p := p) (l := l) (e := e) (R := R) (below := below) (meth := meth) (H := H) (locs := locs) (cells := cells) (slots := slots) (mc := 0) (ms := 0) (As := As) (rest := st') (b := dk_ad G a b) (C := y.cls) (g := F0 m pc ls (As.reverse ++ dk_r G a b :: st')) (Pc := va_Pc (dk_r G a b :: As) (dk_B G σ))
    ⟨C.1, C.2.1, C.2.2.1, C.2.2.2.1, C.2.2.2.2.1⟩ hM (cwV na C.2.2.2.2.1 hT rfl rfl rfl ⟨rfl, hY.2.2.2.2⟩ hR)
    ⟨dk_blind, va_recv C.2.2.2.2.2.1.1 hP hc hj, fun U hU hW => ⟨rfl, dk_here C hP hS U hU hW⟩⟩ rfl hna (by rw [← hLn]; exact hL.1) rfl (lv_room hcat) d ⟨C.2.2.2.2.2.2.2.2.2.1, C.2.2.2.2.2.2.2.2.2.2⟩
  exact dk_back hr hL hS hn k
theorem dk_callS (C : dk_C G p R s m args c cells slots cc nL own) {i lv mL na : Nat} {y : MethodName} {cy : ByteArray} {ret : Option FieldType} {As : List Value} {K : Option Value → dk_S → Prop}
    (hM : dk_M G l lv y cy mL ret As σ K) (hY : dk_YS y cy mL ret na) (hl : Cond.methodLink own i y ∈ dk_ws) (hna : As.length = na) (hR : lv + 1 ≤ R.frames ∧ 8 + (mL + 11) + 40 * lv ≤ R.locals)
    (hst : st = As.reverse ++ st') (hcat : (st'.map fun v => v.category).sum ≤ 8) (hLn : L.length = nL) (d : decode cc pc = .ok (.invokestatic i, 3)) (hn : pc + 3 = n)
    (k : ∀ (v : Option Value) (σ' : dk_S), K v σ' → dk_W G p l e R s m args below meth c cells slots Q n L (v.toList ++ st') σ') : dk_W G p l e R s m args below meth c cells slots Q pc L st σ := fun H locs ls hL hP hS => by
  subst hst
  have hT : GoodIn dk_ws (va_wsS own i y (Cond.code y cy mL ret :: dk_ws)) := fun w hw => by
    have hm : w ∈ dk_ws := by
      simp only [va_wsS, List.mem_append, List.mem_cons, List.not_mem_nil, or_false] at hw
      rcases hw with (rfl | rfl | rfl) | rfl | hw
      · exact hl
      · exact hY.1
      · exact hY.2.1
      · exact hY.2.2.1
      · exact hw
    exact ⟨hm, dk_ws_good w hm⟩
  have hr := va_runS (p := p) (l := l) (e := e) (R := R) (below := below) (meth := meth) (H := H) (locs := locs) (cells := cells) (slots := slots) (mc := 0) (ms := 0) (As := As) (rest := st') (g := F0 m pc ls (As.reverse ++ st')) (Pc := va_Pc As (dk_B G σ))
    ⟨C.1, C.2.1, C.2.2.1, C.2.2.2.1, C.2.2.2.2.1⟩ hM (va_cwS na C.2.2.2.2.1 hT rfl rfl rfl hY.2.2.2 hR)
    ⟨dk_blind, fun U hU hW => ⟨rfl, dk_here C hP hS U hU hW⟩⟩ rfl hna (by rw [← hLn]; exact hL.1) rfl (lv_room hcat) d ⟨C.2.2.2.2.2.2.2.2.2.1, C.2.2.2.2.2.2.2.2.2.2⟩
  exact dk_back hr hL hS hn k
theorem dk_callN (C : dk_C G p R s m args c cells slots cc nL own) {i lv mL na : Nat} {y : MethodName} {host : String} {cy : ByteArray} {ret : Option FieldType} {As : List Value} {K : Option Value → dk_S → Prop}
    (hM : dk_M G l lv y cy mL ret As σ K) (hY : dk_YS y cy mL ret na) (hl : Cond.methodLinkNest own i y host ∈ dk_nw) (hna : As.length = na) (hR : lv + 1 ≤ R.frames ∧ 8 + (mL + 11) + 40 * lv ≤ R.locals)
    (hst : st = As.reverse ++ st') (hcat : (st'.map fun v => v.category).sum ≤ 8) (hLn : L.length = nL) (d : decode cc pc = .ok (.invokestatic i, 3)) (hn : pc + 3 = n)
    (k : ∀ (v : Option Value) (σ' : dk_S), K v σ' → dk_W G p l e R s m args below meth c cells slots Q n L (v.toList ++ st') σ') : dk_W G p l e R s m args below meth c cells slots Q pc L st σ := fun H locs ls hL hP hS => by
  subst hst
  have hT : GoodIn dk_ws (Cond.code y cy mL ret :: dk_ws) := fun w hw => by
    have hm : w ∈ dk_ws := by
      rcases List.mem_cons.mp hw with rfl | hw
      · exact hY.2.2.1
      · exact hw
    exact ⟨hm, dk_ws_good w hm⟩
  have hr := va_runSN (p := p) (l := l) (e := e) (R := R) (below := below) (meth := meth) (H := H) (locs := locs) (cells := cells) (slots := slots) (mc := 0) (ms := 0) (As := As) (rest := st') (g := F0 m pc ls (As.reverse ++ st')) (Pc := va_Pc As (dk_B G σ)) (Ts := dk_ws)
    ⟨C.1, C.2.1, C.2.2.1, C.2.2.2.1, C.2.2.2.2.1⟩ hM ⟨va_cnB na C.2.2.2.2.1 hT rfl rfl rfl (C.2.2.2.2.2.1.2.1 _ hl) (C.2.2.2.2.1 _ hY.2.1) hY.2.2.2 hR, C.2.2.2.2.1 _ hY.1, trivial⟩
    ⟨dk_blind, fun U hU hW => ⟨rfl, dk_here C hP hS U hU hW⟩⟩ rfl hna (by rw [← hLn]; exact hL.1) rfl (lv_room hcat) d ⟨C.2.2.2.2.2.2.2.2.2.1, C.2.2.2.2.2.2.2.2.2.2⟩
  exact dk_back hr hL hS hn k
theorem dk_iret (C : dk_C G p R s m args c 0 0 cc nL own) {K : Option Value → dk_S → Prop} {v : Int32} {ty : FieldType} (hr : meth.sig.returnType = some ty) (hlk : meth.locks = false) (hna : narrow ty (.int v) = .int v) (d : decode cc pc = .ok (.ireturn, 1)) (k : K (some (.int v)) σ) :
    dk_W G p l e R s m args below meth c 0 0 (MQ below (dk_Qc G K) args s 0 0 (dk_A G)) pc L [.int v] σ := fun H locs ls hL hP hS =>
  W.zret C.1 C.2.1 hr hna (fun t ht hW => ⟨⟨_, σ, rfl, k, by rw [ht]; exact hP⟩, hS.F ht⟩) hS.2.2 d hlk
theorem dk_vret (C : dk_C G p R s m args c 0 0 cc nL own) {K : Option Value → dk_S → Prop} (hr : meth.sig.returnType = none) (hlk : meth.locks = false) (d : decode cc pc = .ok (.return_, 1)) (k : K none σ) :
    dk_W G p l e R s m args below meth c 0 0 (MQ below (dk_Qc G K) args s 0 0 (dk_A G)) pc L [] σ := fun H locs ls hL hP hS =>
  W.vret C.1 C.2.1 hr (fun t ht hW => ⟨⟨_, σ, rfl, k, by rw [ht]; exact hP⟩, hS.F ht⟩) hS.2.2 d hlk
theorem dk_aret (C : dk_C G p R s m args c 0 0 cc nL own) {K : Option Value → dk_S → Prop} {a b : Nat} {ty : FieldType} (hr : meth.sig.returnType = some ty) (hty : (∃ n, ty = .object n) ∨ ∃ t, ty = .array t) (hlk : meth.locks = false) (d : decode cc pc = .ok (.areturn, 1)) (k : K (some (dk_r G a b)) σ) :
    dk_W G p l e R s m args below meth c 0 0 (MQ below (dk_Qc G K) args s 0 0 (dk_A G)) pc L [dk_r G a b] σ := fun H locs ls hL hP hS =>
  W.aret C.1 C.2.1 hr hty (Or.inr ⟨_, rfl⟩) (fun t ht hW => ⟨⟨_, σ, rfl, k, by rw [ht]; exact hP⟩, hS.F ht⟩) hS.2.2 d hlk
end DKC
theorem dk_mono {G : dk_G} {l : Launch} {lvl : Nat} {y : MethodName} {cc : ByteArray} {maxL : Nat} {ret : Option FieldType} {As : List Value} {σ : dk_S} {K K' : Option Value → dk_S → Prop} (h : ∀ v σ, K v σ → K' v σ) (hM : dk_M G l lvl y cc maxL ret As σ K) : dk_M G l lvl y cc maxL ret As σ K' := by
  intro p e ha hc hk s m args below hf happ hpre hK
  obtain ⟨t, o, h1, h2, h3, ⟨⟨v, σ', e1, k1, hP⟩, hF⟩, h5⟩ := hM p e ha hc hk s m args below hf happ hpre hK
  exact ⟨t, o, h1, h2, h3, ⟨⟨v, σ', e1, h v σ' k1, hP⟩, hF⟩, h5⟩
theorem dk_nc_of {L : List (Option Value)} {i : Nat} (h : (match i with | 0 => true | j + 1 => match L[j]? with | some (some v) => v.category == 1 | _ => true) = true) : dk_nc L i := by
  intro j v hj hv
  subst hj
  simp only [hv] at h
  simpa using h
theorem dk_nz0 : narrow .boolean (.int 0) = .int 0 := by decide
theorem dk_nz1 : narrow .boolean (.int 1) = .int 1 := by decide
section DKC2
variable {G : dk_G} {p : Program} {l : Launch} {e : Env} {R : Room} {s : State} {m : MethodId} {args : Array Value} {below : List Frame} {meth : Method} {c : Code} {cells slots : Nat} {Q : State → Prop}
variable {cc : ByteArray} {nL : Nat} {own : String} {pc n : Nat} {L L' : List (Option Value)} {st : List Value} {σ : dk_S}
theorem dk_callVi (C : dk_C G p R s m args c cells slots cc nL own) {i lv mL na a b ci : Nat} {y : MethodName} {cy : ByteArray} {ret : Option FieldType} {As : List Value} {K : Int32 → dk_S → Prop} {fs : List (Option (Nat → Nat × Nat))} {T : u_T} {N : Nat} (st' : List Value)
    (hM : dk_M G l lv y cy mL ret (dk_r G a b :: As) σ (dk_ki K)) (hY : dk_YV y cy mL ret na) (hl : Cond.methodLink own i y ∈ dk_ws) (hs : dk_shp b = .inr (ci, fs)) (hd : (a, b) ∈ dk_dom G) (d : decode cc pc = .ok (.invokevirtual i, 3))
    (k : ∀ (r : Int32) (σ' : dk_S), K r σ' → dk_W G p l e R s m args below meth c cells slots Q n L (.int r :: st') σ') (hc : dk_cl[ci]? = some (y.cls, T, N)) (hna : As.length = na) (hR : lv + 1 ≤ R.frames ∧ 8 + (mL + 11) + 40 * lv ≤ R.locals) (hst : st = As.reverse ++ dk_r G a b :: st') (hcat : (st'.map fun v => v.category).sum ≤ 8) (hLn : L.length = nL) (hn : pc + 3 = n) : dk_W G p l e R s m args below meth c cells slots Q pc L st σ :=
  dk_callV C hM hY hl hna hR hs hc hd hst hcat hLn d hn (fun v σ' hv => by obtain ⟨r, rfl, h⟩ := hv; exact k r σ' h)
theorem dk_callVv (C : dk_C G p R s m args c cells slots cc nL own) {i lv mL na a b ci : Nat} {y : MethodName} {cy : ByteArray} {ret : Option FieldType} {As : List Value} {K : dk_S → Prop} {fs : List (Option (Nat → Nat × Nat))} {T : u_T} {N : Nat} (st' : List Value)
    (hM : dk_M G l lv y cy mL ret (dk_r G a b :: As) σ (dk_kv K)) (hY : dk_YV y cy mL ret na) (hl : Cond.methodLink own i y ∈ dk_ws) (hs : dk_shp b = .inr (ci, fs)) (hd : (a, b) ∈ dk_dom G) (d : decode cc pc = .ok (.invokevirtual i, 3))
    (k : ∀ (σ' : dk_S), K σ' → dk_W G p l e R s m args below meth c cells slots Q n L st' σ') (hc : dk_cl[ci]? = some (y.cls, T, N)) (hna : As.length = na) (hR : lv + 1 ≤ R.frames ∧ 8 + (mL + 11) + 40 * lv ≤ R.locals) (hst : st = As.reverse ++ dk_r G a b :: st') (hcat : (st'.map fun v => v.category).sum ≤ 8) (hLn : L.length = nL) (hn : pc + 3 = n) : dk_W G p l e R s m args below meth c cells slots Q pc L st σ :=
  dk_callV C hM hY hl hna hR hs hc hd hst hcat hLn d hn (fun v σ' hv => by obtain ⟨rfl, h⟩ := hv; exact k σ' h)
theorem dk_callSi (C : dk_C G p R s m args c cells slots cc nL own) {i lv mL na : Nat} {y : MethodName} {cy : ByteArray} {ret : Option FieldType} {As : List Value} {K : Int32 → dk_S → Prop} (st' : List Value)
    (hM : dk_M G l lv y cy mL ret As σ (dk_ki K)) (hY : dk_YS y cy mL ret na) (hl : Cond.methodLink own i y ∈ dk_ws) (d : decode cc pc = .ok (.invokestatic i, 3))
    (k : ∀ (r : Int32) (σ' : dk_S), K r σ' → dk_W G p l e R s m args below meth c cells slots Q n L (.int r :: st') σ') (hna : As.length = na) (hR : lv + 1 ≤ R.frames ∧ 8 + (mL + 11) + 40 * lv ≤ R.locals) (hst : st = As.reverse ++ st') (hcat : (st'.map fun v => v.category).sum ≤ 8) (hLn : L.length = nL) (hn : pc + 3 = n) : dk_W G p l e R s m args below meth c cells slots Q pc L st σ :=
  dk_callS C hM hY hl hna hR hst hcat hLn d hn (fun v σ' hv => by obtain ⟨r, rfl, h⟩ := hv; exact k r σ' h)
theorem dk_callSv (C : dk_C G p R s m args c cells slots cc nL own) {i lv mL na : Nat} {y : MethodName} {cy : ByteArray} {ret : Option FieldType} {As : List Value} {K : dk_S → Prop} (st' : List Value)
    (hM : dk_M G l lv y cy mL ret As σ (dk_kv K)) (hY : dk_YS y cy mL ret na) (hl : Cond.methodLink own i y ∈ dk_ws) (d : decode cc pc = .ok (.invokestatic i, 3))
    (k : ∀ (σ' : dk_S), K σ' → dk_W G p l e R s m args below meth c cells slots Q n L st' σ') (hna : As.length = na) (hR : lv + 1 ≤ R.frames ∧ 8 + (mL + 11) + 40 * lv ≤ R.locals) (hst : st = As.reverse ++ st') (hcat : (st'.map fun v => v.category).sum ≤ 8) (hLn : L.length = nL) (hn : pc + 3 = n) : dk_W G p l e R s m args below meth c cells slots Q pc L st σ :=
  dk_callS C hM hY hl hna hR hst hcat hLn d hn (fun v σ' hv => by obtain ⟨rfl, h⟩ := hv; exact k σ' h)
theorem dk_callNi (C : dk_C G p R s m args c cells slots cc nL own) {i lv mL na : Nat} {y : MethodName} {host : String} {cy : ByteArray} {ret : Option FieldType} {As : List Value} {K : Int32 → dk_S → Prop} (st' : List Value)
    (hM : dk_M G l lv y cy mL ret As σ (dk_ki K)) (hY : dk_YS y cy mL ret na) (hl : Cond.methodLinkNest own i y host ∈ dk_nw) (d : decode cc pc = .ok (.invokestatic i, 3))
    (k : ∀ (r : Int32) (σ' : dk_S), K r σ' → dk_W G p l e R s m args below meth c cells slots Q n L (.int r :: st') σ') (hna : As.length = na) (hR : lv + 1 ≤ R.frames ∧ 8 + (mL + 11) + 40 * lv ≤ R.locals) (hst : st = As.reverse ++ st') (hcat : (st'.map fun v => v.category).sum ≤ 8) (hLn : L.length = nL) (hn : pc + 3 = n) : dk_W G p l e R s m args below meth c cells slots Q pc L st σ :=
  dk_callN C hM hY hl hna hR hst hcat hLn d hn (fun v σ' hv => by obtain ⟨r, rfl, h⟩ := hv; exact k r σ' h)
theorem dk_callNv (C : dk_C G p R s m args c cells slots cc nL own) {i lv mL na : Nat} {y : MethodName} {host : String} {cy : ByteArray} {ret : Option FieldType} {As : List Value} {K : dk_S → Prop} (st' : List Value)
    (hM : dk_M G l lv y cy mL ret As σ (dk_kv K)) (hY : dk_YS y cy mL ret na) (hl : Cond.methodLinkNest own i y host ∈ dk_nw) (d : decode cc pc = .ok (.invokestatic i, 3))
    (k : ∀ (σ' : dk_S), K σ' → dk_W G p l e R s m args below meth c cells slots Q n L st' σ') (hna : As.length = na) (hR : lv + 1 ≤ R.frames ∧ 8 + (mL + 11) + 40 * lv ≤ R.locals) (hst : st = As.reverse ++ st') (hcat : (st'.map fun v => v.category).sum ≤ 8) (hLn : L.length = nL) (hn : pc + 3 = n) : dk_W G p l e R s m args below meth c cells slots Q pc L st σ :=
  dk_callN C hM hY hl hna hR hst hcat hLn d hn (fun v σ' hv => by obtain ⟨rfl, h⟩ := hv; exact k σ' h)
end DKC2
/-- which objects there are: a world's, the keep's own, the model's -/
def dk_WI (G : dk_G) (p : Nat) : Prop := ∀ q, q < 29 → (p, q) ∈ dk_dom G
def dk_RI (G : dk_G) : Prop := (∀ q, 40 ≤ q → q < 47 → (0, q) ∈ dk_dom G) ∧ dk_WI G 1 ∧ dk_WI G 2 ∧ dk_WI G 3
def dk_MI (G : dk_G) : Prop := ∀ q, 60 ≤ q → q < 88 → (4, q) ∈ dk_dom G
theorem dk_C.D {G : dk_G} {p : Program} {R : Room} {s : State} {m : MethodId} {args : Array Value} {c : Code} {cells slots : Nat} {cc : ByteArray} {nL : Nat} {own : String} (C : dk_C G p R s m args c cells slots cc nL own) : dk_D G := C.2.2.2.2.2.2.2.2.1
theorem dk_nameS {G : dk_G} {p : Program} {l : Launch} {e : Env} {R : Room} {s : State} {m : MethodId} {args : Array Value} {below : List Frame} {meth : Method} {c : Code} {cells slots : Nat} {Q : State → Prop} {pc : Nat} {L : List (Option Value)} {st : List Value} {σ : dk_S} (k : ∀ σ', σ' = σ → dk_W G p l e R s m args below meth c cells slots Q pc L st σ') : dk_W G p l e R s m args below meth c cells slots Q pc L st σ := k σ rfl
section DKL
variable {G : dk_G} {p : Program} {l : Launch} {e : Env} {R : Room} {s : State} {m : MethodId} {args : Array Value} {below : List Frame} {meth : Method} {c : Code} {cells slots : Nat} {Q : State → Prop}
variable {cc : ByteArray} {nL : Nat} {own : String} {pc n : Nat} {L L' : List (Option Value)} {st : List Value} {σ : dk_S}
/-- the script -/
theorem dk_lkLen (C : dk_C G p R s m args c cells slots cc nL own) (d : decode cc pc = .ok (.arraylength, 1)) (hn : pc + 1 = n) (k : dk_W G p l e R s m args below meth c cells slots Q n L (.int (Int32.ofNat (dk_tN G)) :: st) σ) : dk_W G p l e R s m args below meth c cells slots Q pc L (.ref (dk_tL G) :: st) σ := fun H locs ls hL hP hS => by
  subst hn
  exact va_tlen C.1 C.2.1 C.2.2.2.2.2.2.2.1.2.2.2.1 hS rfl d (k H locs ls hL hP hS)
theorem dk_lkLd (C : dk_C G p R s m args c cells slots cc nL own) {i : Int32} (hi : vp_in i (dk_tN G)) (d : decode cc pc = .ok (.iaload, 1)) (hn : pc + 1 = n) (k : dk_W G p l e R s m args below meth c cells slots Q n L (.int (dk_tX G i.toNatClampNeg) :: st) σ) : dk_W G p l e R s m args below meth c cells slots Q pc L (.int i :: .ref (dk_tL G) :: st) σ := fun H locs ls hL hP hS => by
  subst hn
  exact va_ti C.1 C.2.1 C.2.2.2.2.2.2.2.1.2.2.2.1 hS hi rfl d (k H locs ls hL hP hS)
end DKL
