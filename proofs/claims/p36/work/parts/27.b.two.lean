/-! two keeps -/
def l2_G (G1 G2 : dk_G) : Prop := (G2.1 = G1.1 ∧ G2.2.1 = G1.2.1 ∧ G2.2.2.2.2.2 = G1.2.2.2.2.2) ∧ (∀ σ, lz_O G1 (dk_wsl G2 σ)) ∧ (∀ σ, lz_O G2 (dk_wsl G1 σ)) ∧ (dk_D G1 ∧ dk_D G2) ∧ dk_RI G1 ∧ dk_RI G2
def l2_F (G1 G2 : dk_G) : Nat → Prop := fun q => dk_A G1 q ∨ dk_A G2 q
def l2_B (G1 G2 : dk_G) (σ1 σ2 : dk_S) (U : State) : Prop := va_P G1.1 dk_cl (dk_wsl G1 σ1) U.heap ∧ va_P G1.1 dk_cl (dk_wsl G2 σ2) U.heap ∧ dk_V G1 U ∧ (∀ q, U.heap.size ≤ q → dk_A G1 q ∧ dk_A G2 q) ∧ dk_Z (dk_GA G1 (l2_F G1 G2)) U U.heap
def l2_Q (G1 G2 : dk_G) (K : Option Value → dk_S → dk_S → Prop) : Array Value → State → Outcome → State → Prop := fun _ st o t => (∃ (v : Option Value) (σ1 σ2 : dk_S), o = .returned v ∧ K v σ1 σ2 ∧ va_P G1.1 dk_cl (dk_wsl G1 σ1) t.heap ∧ va_P G1.1 dk_cl (dk_wsl G2 σ2) t.heap) ∧ va_F (l2_F G1 G2) st t
def l2_M (G1 G2 : dk_G) (l : Launch) (lv mc ms : Nat) (y : MethodName) (cy : ByteArray) (mL : Nat) (ret : Option FieldType) (As : List Value) (σ1 σ2 : dk_S) (K : Option Value → dk_S → dk_S → Prop) : Prop :=
  Met l y (Cond.code y cy mL ret :: dk_ws) (lz_rm lv mc ms) (va_Pc As (l2_B G1 G2 σ1 σ2)) (l2_Q G1 G2 K) mc ms (l2_F G1 G2)
theorem l2_blind {G1 G2 : dk_G} {σ1 σ2 : dk_S} {As : List Value} : FrameBlind (va_Pc As (l2_B G1 G2 σ1 σ2)) := fun a U g mk h =>
  ⟨h.1, h.2.1, h.2.2.1, h.2.2.2.1.same (u := U) (U := U.calling g mk a) rfl, h.2.2.2.2.1, h.2.2.2.2.2.moved (u := U) (U := U.calling g mk a) (Vm.Alike.refl U.vm)⟩
theorem l2_V {G1 G2 : dk_G} {U : State} (hG : l2_G G1 G2) (h : dk_V G1 U) : dk_V G2 U := by
  obtain ⟨⟨e1, e2, e3⟩, _⟩ := hG
  unfold dk_V dk_tys dk_cA dk_aK at h ⊢
  rw [e1, e2, e3]
  exact h
theorem l2_Z {G1 G2 : dk_G} {F : Nat → Prop} {U : State} {H : Heap} (hG : l2_G G1 G2) (h : dk_Z (dk_GA G1 F) U H) : dk_Z (dk_GA G2 F) U H :=
  h.nar (show G2.2.2.2.2.2 = G1.2.2.2.2.2 from hG.1.2.2) (fun _ q => q)
section LWR
variable {G1 G2 : dk_G} {F : Nat → Prop} {b0 : Nat} {p : Program} {l : Launch} {e : Env} {R : Room} {s : State} {m : MethodId} {args : Array Value} {below : List Frame} {meth : Method} {c : Code} {cells slots : Nat} {Q : State → Prop}
variable {cc : ByteArray} {nL : Nat} {own : String} {pc n : Nat} {L : List (Option Value)} {st : List Value} {σ1 σ2 : dk_S}
/-- the other keep to the front -/
theorem lz_swap (hG : l2_G G1 G2) (k : lz_W G2 F b0 p l e R s m args below meth c cells slots Q pc L st σ2 (dk_wsl G1 σ1)) : lz_W G1 F b0 p l e R s m args below meth c cells slots Q pc L st σ1 (dk_wsl G2 σ2) := fun H locs ls hL hP hE hS =>
  k H locs ls hL (by rw [hG.1.1]; exact hE) (by rw [hG.1.1]; exact hP) hS
theorem lz_paws (hG : l2_G G1 G2) (k : lz_W G1 F b0 p l e R s m args below meth c cells slots Q pc L st σ1 (dk_wsl G2 σ2)) : lz_W G2 F b0 p l e R s m args below meth c cells slots Q pc L st σ2 (dk_wsl G1 σ1) := fun H locs ls hL hP hE hS =>
  k H locs ls hL (by rw [← hG.1.1]; exact hE) (by rw [← hG.1.1]; exact hP) hS
theorem l2_of {lv mc ms : Nat} {y : MethodName} {cy : ByteArray} {mL : Nat} {ret : Option FieldType} {As : List Value} {K : Option Value → dk_S → dk_S → Prop} (hG : l2_G G1 G2) (hpl : plainName y.cls = true) (L : List (Option Value)) (hL : ∀ q ∈ dk_ll 0 L, q ∈ lv_args 0 As) (hlen : L.length = mL) (hfit : (lg_sl As).length ≤ mL)
    (body : ∀ (p : Program) (e : Env) (s : State) (m : MethodId) (args : Array Value) (below : List Frame) (meth : Method) (c : Code), lz_C G1 (l2_F G1 G2) s.heap.size p s m args c cy mL y.cls → lz_C G2 (l2_F G1 G2) s.heap.size p s m args c cy mL y.cls → meth.sig.returnType = ret → meth.locks = false →
      lz_W G1 (l2_F G1 G2) s.heap.size p l e (lz_rm lv mc ms) s m args below meth c 0 0 (MQ below (l2_Q G1 G2 K) args s mc ms (l2_F G1 G2)) 0 L [] σ1 (dk_wsl G2 σ2)) : l2_M G1 G2 l lv mc ms y cy mL ret As σ1 σ2 K := by
  refine Met.ofW (cc := cy) (maxL := mL) (ret := ret) hpl rfl ?_
  intro p e s m args below meth c s₁ B hml hv
  obtain ⟨rfl, hP, hE, hV, hA, hZ⟩ := hv
  have hts := atoms_spec (ws := Cond.code y cy mL ret :: dk_ws) B.pre
  have C : lz_C G1 (l2_F G1 G2) s.heap.size p s m As.toArray c cy mL y.cls := ⟨B.exec, B.bytes, hml, findClass_of_methodNamed B.named, fun w hw => hts w (List.mem_cons_of_mem _ hw), hV, fun q hq => (hA q hq).1, hZ, hG.2.2.2.1.1, fun _ h => Or.inl h⟩
  have C2 : lz_C G2 (l2_F G1 G2) s.heap.size p s m As.toArray c cy mL y.cls := ⟨B.exec, B.bytes, hml, findClass_of_methodNamed B.named, fun w hw => hts w (List.mem_cons_of_mem _ hw), l2_V hG hV, fun q hq => (hA q hq).2, l2_Z hG hZ, hG.2.2.2.1.2, fun _ h => Or.inr h⟩
  have k := body p e s m As.toArray below meth c C C2 B.returns B.notSynchronized
  rw [lg_entry_eq]
  exact k s.heap [] _ (dk_L.of (lv_entry As hfit) hlen hL) hP hE ⟨va_S.rf, Nat.le_refl _⟩
theorem l2_callS (C1 : lz_C G1 F b0 p s m args c cc nL own) (C2 : lz_C G2 F b0 p s m args c cc nL own) {i lv mc ms mL na : Nat} {y : MethodName} {cy : ByteArray} {ret : Option FieldType} {As : List Value} {K : Option Value → dk_S → dk_S → Prop} (st' : List Value)
    (hM : l2_M G1 G2 l lv mc ms y cy mL ret As σ1 σ2 K) (hY : dk_YS y cy mL ret na) (hl : Cond.methodLink own i y ∈ dk_ws) (hna : As.length = na) (hR : lv + 1 ≤ R.frames ∧ 8 + (mL + 11) + 40 * lv ≤ R.locals) (hRc : cells + mc ≤ R.cells ∧ slots + ms ≤ R.slots)
    (hst : st = As.reverse ++ st') (hcat : (st'.map fun v => v.category).sum ≤ 8) (hLn : L.length = nL) (d : decode cc pc = .ok (.invokestatic i, 3)) (hn : pc + 3 = n)
    (k : ∀ (v : Option Value) (τ1 τ2 : dk_S), K v τ1 τ2 → lz_W G1 F b0 p l e R s m args below meth c (cells + mc) (slots + ms) Q n L (v.toList ++ st') τ1 (dk_wsl G2 τ2)) : lz_W G1 F b0 p l e R s m args below meth c cells slots Q pc L st σ1 (dk_wsl G2 σ2) := fun H locs ls hL hP hE hS => by
  subst hst
  subst hn
  have hF : ∀ q, l2_F G1 G2 q → F q := fun q h => h.elim (C1.2.2.2.2.2.2.2.2.2 q) (C2.2.2.2.2.2.2.2.2.2 q)
  have here : ∀ U : State, U.heap = H → s.WarmedH U.vm → l2_B G1 G2 σ1 σ2 U := fun U hU hW => ⟨by rw [hU]; exact hP, by rw [hU]; exact hE, C1.2.2.2.2.2.1.warm hW, fun q hq => by
    have h9 : b0 ≤ q := Nat.le_trans hS.2 (by rw [← hU]; exact hq)
    exact ⟨C1.2.2.2.2.2.2.1 q h9, C2.2.2.2.2.2.2.1 q h9⟩, by
    rw [hU]
    have h : dk_Z (dk_GA G1 F) U H := (C1.2.2.2.2.2.2.2.1.kept (fun a h1 h2 => hS.1.2.1 a h1 h2)).moved hW.alike
    exact h.nar rfl hF⟩
  have hr := va_runS (p := p) (l := l) (e := e) (R := R) (below := below) (meth := meth) (H := H) (locs := locs) (cells := cells) (slots := slots) (mc := mc) (ms := ms) (As := As) (rest := st') (g := F0 m pc ls (As.reverse ++ st')) (Pc := va_Pc As (l2_B G1 G2 σ1 σ2))
    ⟨C1.1, C1.2.1, C1.2.2.1, C1.2.2.2.1, C1.2.2.2.2.1⟩ hM (va_cwS na C1.2.2.2.2.1 (lz_goodS hY hl) rfl rfl rfl hY.2.2.2 hR)
    ⟨l2_blind, fun U hU hW => ⟨rfl, here U hU hW⟩⟩ rfl hna (by rw [← hLn]; exact hL.1) rfl (lv_room hcat) d hRc
  intro T hT X
  obtain ⟨v, st₀, t, T', L1, h0, X', hL1, e1, e2, ⟨⟨v2, τ1, τ2, hv, hK, hP1, hP2⟩, hz, hk⟩, stp⟩ := hr T hT X
  cases hv
  rw [h0] at hz hk
  obtain ⟨t2, a1, b1⟩ := k v τ1 τ2 hK T'.heap (locs ++ L1) ls hL (by rw [e1]; exact hP1) (by rw [e1]; exact hP2)
    ⟨⟨Nat.le_trans hS.1.1 (by rw [e1]; exact hz), fun q h1 h2 => by rw [e1, hk q (Nat.lt_of_lt_of_le h1 hS.1.1) (fun z => h2 (hF q z))]; exact hS.1.2.1 q h1 h2, fun q hq => by
      rcases List.mem_append.mp hq with h | h
      · exact hS.1.2.2 q h
      · exact hF _ (hL1 q h)⟩, Nat.le_trans hS.2 (by rw [e1]; exact hz)⟩ T' rfl X'
  exact ⟨t2, stp t2 a1, b1⟩
theorem l2_iret (C : lz_C G1 (l2_F G1 G2) b0 p s m args c cc nL own) {mc ms : Nat} {K : Option Value → dk_S → dk_S → Prop} {v : Int32} {ty : FieldType} (hc : cells ≤ mc) (hs : slots ≤ ms) (hr : meth.sig.returnType = some ty) (hlk : meth.locks = false) (hna : narrow ty (.int v) = .int v) (d : decode cc pc = .ok (.ireturn, 1)) (k : K (some (.int v)) σ1 σ2) :
    lz_W G1 (l2_F G1 G2) b0 p l e R s m args below meth c cells slots (MQ below (l2_Q G1 G2 K) args s mc ms (l2_F G1 G2)) pc L [.int v] σ1 (dk_wsl G2 σ2) := fun H locs ls hL hP hE hS =>
  W.widen hc hs (W.zret C.1 C.2.1 hr hna (fun t ht hW => ⟨⟨_, σ1, σ2, rfl, k, by rw [ht]; exact hP, by rw [ht]; exact hE⟩, hS.1.F ht⟩) hS.1.2.2 d hlk)
end LWR
