/-! contracts of methods that return or throw -/
def dk_rx (k : Nat) : Room := { frames := k, cells := 1, slots := 6, locals := 40 * k }
def dk_XC (G : dk_G) (X : String → dk_S → Prop) : String → State → State → Prop := fun E st t => (∃ σ' : dk_S, X E σ' ∧ va_P G.1 dk_cl (dk_wsl G σ') t.heap) ∧ va_F (dk_A G) st t
def dk_MX (G : dk_G) (l : Launch) (lvl : Nat) (y : MethodName) (cc : ByteArray) (maxL : Nat) (ret : Option FieldType) (As : List Value) (σ : dk_S) (K : Option Value → dk_S → Prop) (X : String → dk_S → Prop) : Prop :=
  zx_Met l y (Cond.code y cc maxL ret :: dk_ws) (dk_rx lvl) (va_Pc As (dk_B G σ)) (dk_Qc G K) (dk_XC G X) 1 6 (dk_A G)
/-- what a throw of E asks of the tables -/
def dk_xN : List String := ["java/lang/RuntimeException", "java/lang/Exception"]
def dk_TH (own E : String) (ik ic : Nat) : Prop := Bundle.fit E = true ∧ Cond.classLink own ik E ∈ dk_ws ∧ Cond.initialized E ∈ dk_ws ∧ ∀ w ∈ vx_at0 own ic E dk_xN, w ∈ dk_ws ∨ w ∈ dk_nw
theorem dk_TH.of {own E : String} {ik ic ia ib : Nat} (is : List Nat) (h0 : (Bundle.fit E && goodWord (Cond.classLink own ik E) && goodWord (Cond.initialized E)) = true) (h1 : lw_tbl[ia]? = some (Cond.classLink own ik E)) (h2 : lw_tbl[ib]? = some (Cond.initialized E))
    (h3 : (vx_at0 own ic E dk_xN = is.filterMap (fun i => lw_tbl[i]?)) ∧ (vx_at0 own ic E dk_xN).all (fun w => goodWord w || dk_isN w) = true) : dk_TH own E ik ic := by
  simp only [Bool.and_eq_true] at h0
  refine ⟨h0.1.1, dk_w ia h1 h0.1.2, dk_w ib h2 h0.2, fun w hw => ?_⟩
  have hg := List.all_eq_true.mp h3.2 w hw
  rw [h3.1] at hw
  obtain ⟨i, -, hi⟩ := List.mem_filterMap.mp hw
  rcases Bool.or_eq_true _ _ ▸ hg with hg | hg
  · exact Or.inl (dk_w i hi hg)
  · exact Or.inr (dk_n i hi hg)
set_option maxRecDepth 20000
theorem dk_THIO : dk_TH "DelveKeep" "java/lang/IndexOutOfBoundsException" 302 304 := dk_TH.of (ia := 385) (ib := 46) [43, 407, 416, 422, 425, 427, 408, 409, 61, 62, 410, 415, 423, 439, 397, 440, 399, 441, 401, 411, 413, 403, 429, 430, 431, 432, 388, 432, 433, 434, 435, 390, 435, 436, 437, 408, 392, 428, 386, 387, 394, 395, 396, 398, 400, 402, 406, 405, 404] (by decide +kernel) (by decide +kernel) (by decide +kernel) (by decide +kernel)
theorem dk_THIA : dk_TH "DelveKeep" "java/lang/IllegalArgumentException" 56 58 := dk_TH.of (ia := 518) (ib := 49) [43, 407, 416, 422, 425, 427, 408, 409, 61, 62, 410, 415, 423, 439, 397, 440, 399, 441, 401, 411, 413, 403, 528, 529, 530, 432, 388, 432, 433, 434, 435, 390, 435, 436, 437, 408, 392, 527, 519, 520, 521, 418, 522, 523, 524, 525, 406, 405, 526] (by decide +kernel) (by decide +kernel) (by decide +kernel) (by decide +kernel)
theorem dk_THIS : dk_TH "DelveKeep" "java/lang/IllegalStateException" 161 163 := dk_TH.of (ia := 537) (ib := 50) [43, 407, 416, 422, 425, 427, 408, 409, 61, 62, 410, 415, 423, 439, 397, 440, 399, 441, 401, 411, 413, 403, 547, 548, 549, 432, 388, 432, 433, 434, 435, 390, 435, 436, 437, 408, 392, 546, 538, 539, 540, 419, 541, 542, 543, 544, 406, 405, 545] (by decide +kernel) (by decide +kernel) (by decide +kernel) (by decide +kernel)
theorem dk_THUO : dk_TH "DelveKeep" "java/lang/UnsupportedOperationException" 207 209 := dk_TH.of (ia := 619) (ib := 51) [43, 407, 416, 422, 425, 427, 408, 409, 61, 62, 410, 415, 423, 439, 397, 440, 399, 441, 401, 411, 413, 403, 629, 630, 631, 432, 388, 432, 433, 434, 435, 390, 435, 436, 437, 408, 392, 628, 620, 621, 622, 420, 623, 624, 625, 626, 406, 405, 627] (by decide +kernel) (by decide +kernel) (by decide +kernel) (by decide +kernel)
theorem dk_THNS : dk_TH "DelveKeep" "java/util/NoSuchElementException" 196 198 := dk_TH.of (ia := 1017) (ib := 54) [43, 407, 416, 422, 425, 427, 408, 409, 61, 62, 410, 415, 423, 439, 397, 440, 399, 441, 401, 411, 413, 403, 1027, 1028, 1029, 432, 388, 432, 433, 434, 435, 390, 435, 436, 437, 408, 392, 1026, 1018, 1019, 1020, 421, 1021, 1022, 1023, 1024, 406, 405, 1025] (by decide +kernel) (by decide +kernel) (by decide +kernel) (by decide +kernel)
theorem dk_xof {G : dk_G} {l : Launch} {lvl : Nat} {y : MethodName} {cc : ByteArray} {maxL : Nat} {ret : Option FieldType} {As : List Value} {σ : dk_S} {K : Option Value → dk_S → Prop} {X : String → dk_S → Prop} (hD : dk_D G) (hpl : plainName y.cls = true) (L : List (Option Value)) (hL : ∀ q ∈ dk_ll 0 L, q ∈ lv_args 0 As) (hlen : L.length = maxL) (hfit : (lg_sl As).length ≤ maxL)
    (body : ∀ (p : Program) (e : Env) (s : State) (m : MethodId) (args : Array Value) (below : List Frame) (meth : Method) (c : Code), dk_C G p (dk_rx lvl) s m args c 0 0 cc maxL y.cls → (∀ x ∈ c.exceptionTable.toList, False) → meth.sig.returnType = ret → meth.locks = false →
      dk_W G p l e (dk_rx lvl) s m args below meth c 0 0 (zx_MQ below (dk_Qc G K) (dk_XC G X) args s 1 6 (dk_A G)) 0 L [] σ) : dk_MX G l lvl y cc maxL ret As σ K X := by
  refine zx_ofW (cc := cc) (maxL := maxL) (ret := ret) hpl rfl ?_
  intro p e s m args below meth c s₁ B hml ht hv
  obtain ⟨rfl, hP, hV, hA, hZ⟩ := hv
  have hts := atoms_spec (ws := Cond.code y cc maxL ret :: dk_ws) B.pre
  have C : dk_C G p (dk_rx lvl) s m As.toArray c 0 0 cc maxL y.cls := ⟨B.exec, B.bytes, hml, findClass_of_methodNamed B.named, fun w hw => hts w (List.mem_cons_of_mem _ hw), hV, hA, hZ, hD, Nat.zero_le _, Nat.zero_le _⟩
  have k := body p e s m As.toArray below meth c C ht B.returns B.notSynchronized
  rw [lg_entry_eq]
  exact k s.heap [] _ (dk_L.of (lv_entry As hfit) hlen hL) hP va_S.rf
section DKX
variable {G : dk_G} {p : Program} {l : Launch} {e : Env} {R : Room} {s : State} {m : MethodId} {args : Array Value} {below : List Frame} {meth : Method} {c : Code}
variable {cc : ByteArray} {nL : Nat} {own : String} {pc n : Nat} {L L' : List (Option Value)} {st st' : List Value} {σ : dk_S} {K0 : Option Value → dk_S → Prop} {X X0 : String → dk_S → Prop}
theorem dk_xret (k : dk_W G p l e R s m args below meth c 0 0 (MQ below (dk_Qc G K0) args s 0 0 (dk_A G)) pc L st σ) : dk_W G p l e R s m args below meth c 0 0 (zx_MQ below (dk_Qc G K0) (dk_XC G X) args s 1 6 (dk_A G)) pc L st σ := fun H locs ls hL hP hS =>
  zx_ret (k H locs ls hL hP hS)
/-- behind a call that came back, or threw -/
theorem dk_xback {a : Array Value} {K : Option Value → dk_S → Prop} {H : Heap} {locs : List Loc} {ls : Array Slot} (ht : ∀ x ∈ c.exceptionTable.toList, False) (hlk : meth.locks = false) (hr : zx_Run p l e R s m args below meth c H locs 0 0 1 6 (F0 m pc ls st) st' (dk_Qc G K a) (dk_XC G X) (dk_A G)) (hL : dk_L L ls) (hS : va_S (dk_A G) s.heap H locs) (hn : pc + 3 = n)
    (hX : ∀ E σ', X E σ' → X0 E σ') (k : ∀ (v : Option Value) (σ' : dk_S), K v σ' → dk_W G p l e R s m args below meth c 0 0 (zx_MQ below (dk_Qc G K0) (dk_XC G X0) args s 1 6 (dk_A G)) n L (v.toList ++ st') σ') : W p l e R s m args below meth c H locs 0 0 (zx_MQ below (dk_Qc G K0) (dk_XC G X0) args s 1 6 (dk_A G)) (F0 m pc ls st) := by
  subst hn
  intro T hT X9
  have keep : ∀ {st₀ t T' : State} {L1 : List Loc}, st₀.heap = H → T'.heap = t.heap → va_F (dk_A G) st₀ t → (∀ q ∈ L1, dk_A G q.base) → va_S (dk_A G) s.heap T'.heap (locs ++ L1) := by
    intro st₀ t T' L1 h0 e1 hF hL1
    obtain ⟨hz, hk⟩ := hF
    rw [h0] at hz hk
    exact ⟨Nat.le_trans hS.1 (by rw [e1]; exact hz), fun q h1 h2 => by rw [e1, hk q (Nat.lt_of_lt_of_le h1 hS.1) h2]; exact hS.2.1 q h1 h2, fun q hq => by
      rcases List.mem_append.mp hq with h | h
      · exact hS.2.2 q h
      · exact hL1 q h⟩
  rcases hr T hT X9 with ⟨v, st₀, t, T', L1, h0, X', hL1, e1, e2, ⟨⟨v2, σ', hv, hK, hP1⟩, hF⟩, stp⟩ | ⟨q, st₀, t, T', L1, E, ce, h0, X', hL1, e1, e2, ⟨⟨σ', hx, hP1⟩, hF⟩, hce, hcv, hcl, stp⟩
  · cases hv
    obtain ⟨t2, a1, b1⟩ := k v σ' hK T'.heap (locs ++ L1) ls hL (by rw [e1]; exact hP1) (keep h0 e1 hF hL1) T' rfl X'
    exact ⟨t2, stp t2 a1, b1⟩
  · have hS' := keep h0 e1 hF hL1
    have ko : vx_W p l e R s m args below meth c T'.heap (locs ++ L1) (0 + 1) (0 + 6) (zx_MQ below (dk_Qc G K0) (dk_XC G X0) args s 1 6 (dk_A G)) (F0 m pc ls st') q :=
      zx_out (fun x hx => (ht x hx).elim) hlk (by rw [e1]; exact hce) hcv hcl (fun t3 h3 _ => ⟨⟨σ', hX E σ' hx, by rw [h3, e1]; exact hP1⟩, hS'.F h3⟩) hS'.2.2 (Nat.le_refl _) (Nat.le_refl _)
    obtain ⟨t2, a1, b1⟩ := ko T' rfl X'
    exact ⟨t2, stp.trans a1, b1⟩
theorem dk_xcallV (C : dk_C G p R s m args c 0 0 cc nL own) (ht : ∀ x ∈ c.exceptionTable.toList, False) (hlk : meth.locks = false) {i lv mL na a b ci : Nat} {y : MethodName} {cy : ByteArray} {ret : Option FieldType} {As : List Value} {K : Option Value → dk_S → Prop} {fs : List (Option (Nat → Nat × Nat))} {T : u_T} {N : Nat}
    (hM : dk_MX G l lv y cy mL ret (dk_r G a b :: As) σ K X) (hY : dk_YV y cy mL ret na) (hl : Cond.methodLink own i y ∈ dk_ws) (hna : As.length = na) (hR : lv + 1 ≤ R.frames ∧ 8 + (mL + 11) + 40 * lv ≤ R.locals) (hRc : 0 + 1 ≤ R.cells ∧ 0 + 6 ≤ R.slots)
    (hs : dk_shp b = .inr (ci, fs)) (hc : dk_cl[ci]? = some (y.cls, T, N)) (hd : (a, b) ∈ dk_dom G) (hst : st = As.reverse ++ dk_r G a b :: st') (hcat : (st'.map fun v => v.category).sum ≤ 8) (hLn : L.length = nL) (d : decode cc pc = .ok (.invokevirtual i, 3)) (hn : pc + 3 = n)
    (hX : ∀ E σ', X E σ' → X0 E σ') (k : ∀ (v : Option Value) (σ' : dk_S), K v σ' → dk_W G p l e R s m args below meth c 0 0 (zx_MQ below (dk_Qc G K0) (dk_XC G X0) args s 1 6 (dk_A G)) n L (v.toList ++ st') σ') : dk_W G p l e R s m args below meth c 0 0 (zx_MQ below (dk_Qc G K0) (dk_XC G X0) args s 1 6 (dk_A G)) pc L st σ := fun H locs ls hL hP hS => by
  subst hst
  obtain ⟨j, -, hj⟩ := dk_pos hd σ
  rw [dk_cel, dk_ce.eq_def, hs] at hj
  have hT : GoodIn dk_ws (wsV own i y.cls y (Cond.code y cy mL ret :: dk_ws)) := fun w hw => by
    have hm : w ∈ dk_ws := by
      simp only [wsV, List.mem_append, List.mem_cons, List.not_mem_nil, or_false] at hw
      rcases hw with (rfl | rfl | rfl | rfl) | rfl | hw
      · exact hl
      · exact hY.1
      · exact hY.2.1
      · exact hY.2.2.1
      · exact hY.2.2.2.1
      · exact hw
    exact ⟨hm, dk_ws_good w hm⟩
  have hr := zx_runV (p := p) (l := l) (e := e) (R := R) (below := below) (meth := meth) (H := H) (locs := locs) (cells := 0) (slots := 0) (mc := 1) (ms := 6) (As := As) (rest := st') (b := dk_ad G a b) (C := y.cls) (g := F0 m pc ls (As.reverse ++ dk_r G a b :: st')) (Pc := va_Pc (dk_r G a b :: As) (dk_B G σ))
    ⟨C.1, C.2.1, C.2.2.1, C.2.2.2.1, C.2.2.2.2.1⟩ hM (cwV na C.2.2.2.2.1 hT rfl rfl rfl ⟨rfl, hY.2.2.2.2⟩ hR)
    ⟨dk_blind, va_recv C.2.2.2.2.2.1.1 hP hc hj, fun U hU hW => ⟨rfl, dk_here C hP hS U hU hW⟩⟩ rfl hna (by rw [← hLn]; exact hL.1) rfl (lv_room hcat) d hRc
  exact dk_xback ht hlk hr hL hS hn hX k
theorem dk_xcallS (C : dk_C G p R s m args c 0 0 cc nL own) (ht : ∀ x ∈ c.exceptionTable.toList, False) (hlk : meth.locks = false) {i lv mL na : Nat} {y : MethodName} {cy : ByteArray} {ret : Option FieldType} {As : List Value} {K : Option Value → dk_S → Prop}
    (hM : dk_MX G l lv y cy mL ret As σ K X) (hY : dk_YS y cy mL ret na) (hl : Cond.methodLink own i y ∈ dk_ws) (hna : As.length = na) (hR : lv + 1 ≤ R.frames ∧ 8 + (mL + 11) + 40 * lv ≤ R.locals) (hRc : 0 + 1 ≤ R.cells ∧ 0 + 6 ≤ R.slots)
    (hst : st = As.reverse ++ st') (hcat : (st'.map fun v => v.category).sum ≤ 8) (hLn : L.length = nL) (d : decode cc pc = .ok (.invokestatic i, 3)) (hn : pc + 3 = n)
    (hX : ∀ E σ', X E σ' → X0 E σ') (k : ∀ (v : Option Value) (σ' : dk_S), K v σ' → dk_W G p l e R s m args below meth c 0 0 (zx_MQ below (dk_Qc G K0) (dk_XC G X0) args s 1 6 (dk_A G)) n L (v.toList ++ st') σ') : dk_W G p l e R s m args below meth c 0 0 (zx_MQ below (dk_Qc G K0) (dk_XC G X0) args s 1 6 (dk_A G)) pc L st σ := fun H locs ls hL hP hS => by
  subst hst
  have hT : GoodIn dk_ws (va_wsS own i y (Cond.code y cy mL ret :: dk_ws)) := fun w hw => by
    have hm : w ∈ dk_ws := by
      simp only [va_wsS, List.mem_append, List.mem_cons, List.not_mem_nil, or_false] at hw
      rcases hw with (rfl | rfl | rfl) | rfl | hw
      · exact hl
      · exact hY.1
      · exact hY.2.1
      · exact hY.2.2.1
      · exact hw
    exact ⟨hm, dk_ws_good w hm⟩
  have hr := zx_runS (p := p) (l := l) (e := e) (R := R) (below := below) (meth := meth) (H := H) (locs := locs) (cells := 0) (slots := 0) (mc := 1) (ms := 6) (As := As) (rest := st') (g := F0 m pc ls (As.reverse ++ st')) (Pc := va_Pc As (dk_B G σ))
    ⟨C.1, C.2.1, C.2.2.1, C.2.2.2.1, C.2.2.2.2.1⟩ hM (va_cwS na C.2.2.2.2.1 hT rfl rfl rfl hY.2.2.2 hR)
    ⟨dk_blind, fun U hU hW => ⟨rfl, dk_here C hP hS U hU hW⟩⟩ rfl hna (by rw [← hLn]; exact hL.1) rfl (lv_room hcat) d hRc
  exact dk_xback ht hlk hr hL hS hn hX k
/-- 'throw new E()' -/
theorem dk_xthrow (C : dk_C G p R s m args c 0 0 cc nL own) (ht : ∀ x ∈ c.exceptionTable.toList, False) (hlk : meth.locks = false) (hl : l.stackTraces = false) {E : String} {ik ic : Nat} (hE : dk_TH own E ik ic)
    (d0 : decode cc pc = .ok (.new ik, 3)) (d3 : decode cc (pc + 3) = .ok (.dup, 1)) (d4 : decode cc (pc + 4) = .ok (.invokespecial ic, 3)) (d7 : decode cc (pc + 7) = .ok (.athrow, 1))
    (hR : 6 ≤ R.frames ∧ 8 + 81 ≤ R.locals) (hRc : 0 + 1 ≤ R.cells ∧ 0 + 6 ≤ R.slots) (hcat : (st.map fun v => v.category).sum ≤ 8) (hLn : L.length = nL) (k : X E σ) : dk_W G p l e R s m args below meth c 0 0 (zx_MQ below (dk_Qc G K0) (dk_XC G X) args s 1 6 (dk_A G)) pc L st σ := fun H locs ls hL hP hS => by
  have hZ := C.2.2.2.2.2.2.2.1
  have hw := C.2.2.2.2.1
  have gd : ∀ w ∈ dk_ws, vx_ot w = true := fun w h => by
    unfold vx_ot
    rw [(List.mem_filter.mp h).2, Bool.or_true]
  refine zx_ofX (vx_throw0 (names := dk_xN) (A := dk_A G) C.1 C.2.1 hl C.2.2.2.1 hE.1 (by decide +kernel) (hw _ hE.2.1) (hw _ hE.2.2.1) (fun w h => (hE.2.2.2 w h).elim (hw w) fun h2 => va_Nw.use (dk_nw_on w h2) (C.2.2.2.2.2.1.2.1 w h2)) (fun w h => ?_) hZ.1 hZ.2.1 hS (by rw [C.2.2.1, ← hLn]; exact hL.1) d0 d3 d4 d7 (fun x hx => (ht x hx).elim)
    (show 2 + 3 < R.frames by omega) (show _ + (13 * (2 + 1) + 42) ≤ R.locals by omega) hRc.1 hRc.2 hlk (fun t _ hz hk => ⟨⟨σ, k, hP.kept fun j q hj => hk q.1 (hP j q hj).lt⟩, Nat.le_trans hS.1 hz, fun q h1 h2 => by rw [hk q (Nat.lt_of_lt_of_le h1 hS.1)]; exact hS.2.1 q h1 h2⟩) hS.2.2 (Nat.le_refl _) (Nat.le_refl _))
  rcases List.mem_cons.mp h with rfl | h
  · exact gd _ hE.2.1
  · rcases List.mem_cons.mp h with rfl | h
    · exact gd _ hE.2.2.1
    · rcases hE.2.2.2 w h with h2 | h2
      · exact gd _ h2
      · unfold vx_ot
        rw [dk_nw_on w h2, Bool.true_or]
end DKX
section DKX2
variable {G : dk_G} {p : Program} {l : Launch} {e : Env} {R : Room} {s : State} {m : MethodId} {args : Array Value} {below : List Frame} {meth : Method} {c : Code}
variable {cc : ByteArray} {nL : Nat} {own : String} {pc n : Nat} {L : List (Option Value)} {st : List Value} {σ : dk_S} {K0 : Option Value → dk_S → Prop} {X : String → dk_S → Prop}
theorem dk_xcallVi (C : dk_C G p R s m args c 0 0 cc nL own) (ht : ∀ x ∈ c.exceptionTable.toList, False) (hlk : meth.locks = false) {i lv mL na a b ci : Nat} {y : MethodName} {cy : ByteArray} {ret : Option FieldType} {As : List Value} {K : Int32 → dk_S → Prop} {fs : List (Option (Nat → Nat × Nat))} {T : u_T} {N : Nat} (st' : List Value)
    (hM : dk_MX G l lv y cy mL ret (dk_r G a b :: As) σ (dk_ki K) X) (hY : dk_YV y cy mL ret na) (hl : Cond.methodLink own i y ∈ dk_ws) (hs : dk_shp b = .inr (ci, fs)) (hd : (a, b) ∈ dk_dom G) (d : decode cc pc = .ok (.invokevirtual i, 3))
    (k : ∀ (r : Int32) (σ' : dk_S), K r σ' → dk_W G p l e R s m args below meth c 0 0 (zx_MQ below (dk_Qc G K0) (dk_XC G X) args s 1 6 (dk_A G)) n L (.int r :: st') σ') (hc : dk_cl[ci]? = some (y.cls, T, N)) (hna : As.length = na) (hR : lv + 1 ≤ R.frames ∧ 8 + (mL + 11) + 40 * lv ≤ R.locals) (hRc : 0 + 1 ≤ R.cells ∧ 0 + 6 ≤ R.slots) (hst : st = As.reverse ++ dk_r G a b :: st') (hcat : (st'.map fun v => v.category).sum ≤ 8) (hLn : L.length = nL) (hn : pc + 3 = n) : dk_W G p l e R s m args below meth c 0 0 (zx_MQ below (dk_Qc G K0) (dk_XC G X) args s 1 6 (dk_A G)) pc L st σ :=
  dk_xcallV C ht hlk hM hY hl hna hR hRc hs hc hd hst hcat hLn d hn (fun _ _ h => h) (fun v σ' hv => by obtain ⟨r, rfl, h⟩ := hv; exact k r σ' h)
theorem dk_xcallVv (C : dk_C G p R s m args c 0 0 cc nL own) (ht : ∀ x ∈ c.exceptionTable.toList, False) (hlk : meth.locks = false) {i lv mL na a b ci : Nat} {y : MethodName} {cy : ByteArray} {ret : Option FieldType} {As : List Value} {K : dk_S → Prop} {fs : List (Option (Nat → Nat × Nat))} {T : u_T} {N : Nat} (st' : List Value)
    (hM : dk_MX G l lv y cy mL ret (dk_r G a b :: As) σ (dk_kv K) X) (hY : dk_YV y cy mL ret na) (hl : Cond.methodLink own i y ∈ dk_ws) (hs : dk_shp b = .inr (ci, fs)) (hd : (a, b) ∈ dk_dom G) (d : decode cc pc = .ok (.invokevirtual i, 3))
    (k : ∀ (σ' : dk_S), K σ' → dk_W G p l e R s m args below meth c 0 0 (zx_MQ below (dk_Qc G K0) (dk_XC G X) args s 1 6 (dk_A G)) n L st' σ') (hc : dk_cl[ci]? = some (y.cls, T, N)) (hna : As.length = na) (hR : lv + 1 ≤ R.frames ∧ 8 + (mL + 11) + 40 * lv ≤ R.locals) (hRc : 0 + 1 ≤ R.cells ∧ 0 + 6 ≤ R.slots) (hst : st = As.reverse ++ dk_r G a b :: st') (hcat : (st'.map fun v => v.category).sum ≤ 8) (hLn : L.length = nL) (hn : pc + 3 = n) : dk_W G p l e R s m args below meth c 0 0 (zx_MQ below (dk_Qc G K0) (dk_XC G X) args s 1 6 (dk_A G)) pc L st σ :=
  dk_xcallV C ht hlk hM hY hl hna hR hRc hs hc hd hst hcat hLn d hn (fun _ _ h => h) (fun v σ' hv => by obtain ⟨rfl, h⟩ := hv; exact k σ' h)
theorem dk_xcallSi (C : dk_C G p R s m args c 0 0 cc nL own) (ht : ∀ x ∈ c.exceptionTable.toList, False) (hlk : meth.locks = false) {i lv mL na : Nat} {y : MethodName} {cy : ByteArray} {ret : Option FieldType} {As : List Value} {K : Int32 → dk_S → Prop} (st' : List Value)
    (hM : dk_MX G l lv y cy mL ret As σ (dk_ki K) X) (hY : dk_YS y cy mL ret na) (hl : Cond.methodLink own i y ∈ dk_ws) (d : decode cc pc = .ok (.invokestatic i, 3))
    (k : ∀ (r : Int32) (σ' : dk_S), K r σ' → dk_W G p l e R s m args below meth c 0 0 (zx_MQ below (dk_Qc G K0) (dk_XC G X) args s 1 6 (dk_A G)) n L (.int r :: st') σ') (hna : As.length = na) (hR : lv + 1 ≤ R.frames ∧ 8 + (mL + 11) + 40 * lv ≤ R.locals) (hRc : 0 + 1 ≤ R.cells ∧ 0 + 6 ≤ R.slots) (hst : st = As.reverse ++ st') (hcat : (st'.map fun v => v.category).sum ≤ 8) (hLn : L.length = nL) (hn : pc + 3 = n) : dk_W G p l e R s m args below meth c 0 0 (zx_MQ below (dk_Qc G K0) (dk_XC G X) args s 1 6 (dk_A G)) pc L st σ :=
  dk_xcallS C ht hlk hM hY hl hna hR hRc hst hcat hLn d hn (fun _ _ h => h) (fun v σ' hv => by obtain ⟨r, rfl, h⟩ := hv; exact k r σ' h)
theorem dk_xcallSv (C : dk_C G p R s m args c 0 0 cc nL own) (ht : ∀ x ∈ c.exceptionTable.toList, False) (hlk : meth.locks = false) {i lv mL na : Nat} {y : MethodName} {cy : ByteArray} {ret : Option FieldType} {As : List Value} {K : dk_S → Prop} (st' : List Value)
    (hM : dk_MX G l lv y cy mL ret As σ (dk_kv K) X) (hY : dk_YS y cy mL ret na) (hl : Cond.methodLink own i y ∈ dk_ws) (d : decode cc pc = .ok (.invokestatic i, 3))
    (k : ∀ (σ' : dk_S), K σ' → dk_W G p l e R s m args below meth c 0 0 (zx_MQ below (dk_Qc G K0) (dk_XC G X) args s 1 6 (dk_A G)) n L st' σ') (hna : As.length = na) (hR : lv + 1 ≤ R.frames ∧ 8 + (mL + 11) + 40 * lv ≤ R.locals) (hRc : 0 + 1 ≤ R.cells ∧ 0 + 6 ≤ R.slots) (hst : st = As.reverse ++ st') (hcat : (st'.map fun v => v.category).sum ≤ 8) (hLn : L.length = nL) (hn : pc + 3 = n) : dk_W G p l e R s m args below meth c 0 0 (zx_MQ below (dk_Qc G K0) (dk_XC G X) args s 1 6 (dk_A G)) pc L st σ :=
  dk_xcallS C ht hlk hM hY hl hna hR hRc hst hcat hLn d hn (fun _ _ h => h) (fun v σ' hv => by obtain ⟨rfl, h⟩ := hv; exact k σ' h)
end DKX2
