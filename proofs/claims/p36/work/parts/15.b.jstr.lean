/-! indexOf on the two texts -/
section DKS
variable {G : dk_G} {p : Program} {l : Launch} {e : Env} {R : Room} {s : State} {m : MethodId} {args : Array Value} {below : List Frame} {meth : Method} {c : Code} {cells slots : Nat} {Q : State → Prop}
variable {cc : ByteArray} {nL : Nat} {own : String} {pc n : Nat} {L L' : List (Option Value)} {st st' : List Value} {σ : dk_S}
theorem dk_sldc (C : dk_C G p R s m args c cells slots cc nL own) {i q : Nat} {tx : String} (hZ : vk_R own i tx q s) (d : decode cc pc = .ok (.ldc i, 2)) (hn : pc + 2 = n) (k : dk_W G p l e R s m args below meth c cells slots Q n L (.ref q :: st) σ) : dk_W G p l e R s m args below meth c cells slots Q pc L st σ := fun H locs ls hL hP hS => by
  subst hn
  exact va_ldcS C.1 C.2.1 C.2.2.2.1 hZ d (k H locs ls hL hP hS)
theorem dk_gcs (C : dk_C G p R s m args c cells slots cc nL own) {i : Nat} (hl : Cond.fieldLink own i "java/lang/String" "COMPACT_STRINGS" "Z" ∈ dk_ws) (d : decode cc pc = .ok (.getstatic i, 3)) (hn : pc + 3 = n) (k : dk_W G p l e R s m args below meth c cells slots Q n L (.int 1 :: st) σ) : dk_W G p l e R s m args below meth c cells slots Q pc L st σ := fun H locs ls hL hP hS => by
  subst hn
  exact va_gets C.1 C.2.1 C.2.2.2.2.2.2.2.1.2.2.2.2.1 hS C.2.2.2.1 (C.2.2.2.2.1 _ hl) (fun _ h => h) d (k H locs ls hL hP hS)
theorem dk_scod (C : dk_C G p R s m args c cells slots cc nL own) {i q : Nat} (hq : q < 3) (hl : Cond.fieldLink own i "java/lang/String" "coder" "B" ∈ dk_ws) (d : decode cc pc = .ok (.getfield i, 3)) (hn : pc + 3 = n) (k : dk_W G p l e R s m args below meth c cells slots Q n L (.int 0 :: st) σ) : dk_W G p l e R s m args below meth c cells slots Q pc L (.ref (dk_aK G q) :: st) σ := fun H locs ls hL hP hS => by
  subst hn
  exact vk_getf C.1 C.2.1 (C.2.2.2.2.2.2.2.1.2.2.2.2.2.1 q hq).2.1 hS C.2.2.2.1 (C.2.2.2.2.1 _ hl) (fun _ h => h) d (k H locs ls hL hP hS)
theorem dk_sval (C : dk_C G p R s m args c cells slots cc nL own) {i q : Nat} (hq : q < 3) (hl : Cond.fieldLink own i "java/lang/String" "value" "[B" ∈ dk_ws) (d : decode cc pc = .ok (.getfield i, 3)) (hn : pc + 3 = n) (k : dk_W G p l e R s m args below meth c cells slots Q n L (.ref (dk_aV G q) :: st) σ) : dk_W G p l e R s m args below meth c cells slots Q pc L (.ref (dk_aK G q) :: st) σ := fun H locs ls hL hP hS => by
  subst hn
  exact vk_getf C.1 C.2.1 (C.2.2.2.2.2.2.2.1.2.2.2.2.2.1 q hq).2.2.1 hS C.2.2.2.1 (C.2.2.2.2.1 _ hl) (fun _ h => h) d (k H locs ls hL hP hS)
theorem dk_slen (C : dk_C G p R s m args c cells slots cc nL own) {q : Nat} (hq : q < 3) (d : decode cc pc = .ok (.arraylength, 1)) (hn : pc + 1 = n) (k : dk_W G p l e R s m args below meth c cells slots Q n L (.int (nI (dk_txL.getD q 0)) :: st) σ) : dk_W G p l e R s m args below meth c cells slots Q pc L (.ref (dk_aV G q) :: st) σ := fun H locs ls hL hP hS => by
  subst hn
  exact va_tlen C.1 C.2.1 (C.2.2.2.2.2.2.2.1.2.2.2.2.2.1 q hq).2.2.2 hS rfl d (k H locs ls hL hP hS)
theorem dk_sbld (C : dk_C G p R s m args c cells slots cc nL own) {q : Nat} (hq : q < 3) {i : Int32} (hi : vp_in i (dk_txL.getD q 0)) (d : decode cc pc = .ok (.baload, 1)) (hn : pc + 1 = n) (k : dk_W G p l e R s m args below meth c cells slots Q n L (.int ((dk_txB.getD q []).getD i.toNatClampNeg 0) :: st) σ) : dk_W G p l e R s m args below meth c cells slots Q pc L (.int i :: .ref (dk_aV G q) :: st) σ := fun H locs ls hL hP hS => by
  subst hn
  exact va_tb C.1 C.2.1 (C.2.2.2.2.2.2.2.1.2.2.2.2.2.1 q hq).2.2.2 hS hi rfl d (k H locs ls hL hP hS)
theorem dk_i2b (C : dk_C G p R s m args c cells slots cc nL own) {x v : Int32} (d : decode cc pc = .ok (.i2b, 1)) (hn : pc + 1 = n) (hv : x.toInt8.toInt32 = v) (k : dk_W G p l e R s m args below meth c cells slots Q n L (.int v :: st) σ) : dk_W G p l e R s m args below meth c cells slots Q pc L (.int x :: st) σ := fun H locs ls hL hP hS => by
  subst hn
  exact lv_i2b C.1 C.2.1 d hv (k H locs ls hL hP hS)
/-- a call on one *of* the two texts -/
theorem dk_callK (C : dk_C G p R s m args c cells slots cc nL own) {i lv mL na q : Nat} {y : MethodName} {cy : ByteArray} {ret : Option FieldType} {As : List Value} {K : Int32 → dk_S → Prop} (st' : List Value)
    (hM : dk_M G l lv y cy mL ret (.ref (dk_aK G q) :: As) σ (dk_ki K)) (hq : q < 3) (hcl : y.cls = "java/lang/String") (hY : dk_YV y cy mL ret na) (hl : Cond.methodLink own i y ∈ dk_ws) (d : decode cc pc = .ok (.invokevirtual i, 3))
    (k : ∀ (r : Int32) (σ' : dk_S), K r σ' → dk_W G p l e R s m args below meth c cells slots Q n L (.int r :: st') σ') (hna : As.length = na) (hR : lv + 1 ≤ R.frames ∧ 8 + (mL + 11) + 40 * lv ≤ R.locals) (hst : st = As.reverse ++ .ref (dk_aK G q) :: st') (hcat : (st'.map fun v => v.category).sum ≤ 8) (hLn : L.length = nL) (hn : pc + 3 = n) : dk_W G p l e R s m args below meth c cells slots Q pc L st σ := fun H locs ls hL hP hS => by
  subst hst
  have hT : GoodIn dk_ws (wsV own i y.cls y (Cond.code y cy mL ret :: dk_ws)) := fun w hw => by
    have hm : w ∈ dk_ws := by
      simp only [wsV, List.mem_append, List.mem_cons, List.not_mem_nil, or_false] at hw
      rcases hw with (rfl | rfl | rfl | rfl) | rfl | hw
      · exact hl
      · exact hY.1
      · exact hY.2.1
      · exact hY.2.2.1
      · exact hY.2.2.2.1
      · exact hw
    exact ⟨hm, dk_ws_good w hm⟩
  have hr := va_runV (p := p) (l := l) (e := e) (R := R) (below := below) (meth := meth) (H := H) (locs := locs) (cells := cells) (slots := slots) (mc := 0) (ms := 0) (As := As) (rest := st') (b := dk_aK G q) (C := y.cls) (g := F0 m pc ls (As.reverse ++ .ref (dk_aK G q) :: st')) (Pc := va_Pc (.ref (dk_aK G q) :: As) (dk_B G σ))
    ⟨C.1, C.2.1, C.2.2.1, C.2.2.2.1, C.2.2.2.2.1⟩ hM (cwV na C.2.2.2.2.1 hT rfl rfl rfl ⟨rfl, hY.2.2.2.2⟩ hR)
    ⟨dk_blind, by rw [hcl]; exact vk_recv C.2.2.2.2.2.2.2.1.2.2.2.2.2 hq hS, fun U hU hW => ⟨rfl, dk_here C hP hS U hU hW⟩⟩ rfl hna (by rw [← hLn]; exact hL.1) rfl (lv_room hcat) d ⟨C.2.2.2.2.2.2.2.2.2.1, C.2.2.2.2.2.2.2.2.2.2⟩
  exact dk_back hr hL hS hn (fun v σ' hv => by obtain ⟨r, rfl, h⟩ := hv; exact k r σ' h)
end DKS
theorem tx_len : ∀ q, q < 2 → 0 < dk_txL.getD q 0 ∧ dk_txL.getD q 0 ≤ 8 ∧ (dk_txB.getD q []).length = dk_txL.getD q 0 := by decide
theorem tx_b0 : ∀ q, q < 2 → ∀ j, j < 8 → ∀ k, k < 256 → ((dk_txB.getD q []).getD j 0 = (nI k).toInt8.toInt32 ↔ nI k = (dk_txB.getD q []).getD j 0) := by decide +kernel
theorem tx_r : ∀ q, q < 2 → ∀ j, j < 8 → ¬ (dk_txB.getD q []).getD j 0 < 0 ∧ ¬ 255 < (dk_txB.getD q []).getD j 0 := by decide +kernel
theorem tx_mem {q : Nat} (hq : q < 2) {x : Int32} : x ∈ dk_txB.getD q [] ↔ ∃ j, j < dk_txL.getD q 0 ∧ (dk_txB.getD q []).getD j 0 = x := by
  have hl := (tx_len q hq).2.2
  have gd : ∀ j (h : j < (dk_txB.getD q []).length), (dk_txB.getD q []).getD j 0 = (dk_txB.getD q [])[j] := fun j h => by
    rw [List.getD_eq_getElem?_getD, List.getElem?_eq_getElem h]; rfl
  rw [List.mem_iff_getElem]
  constructor
  · rintro ⟨j, hj, e⟩
    exact ⟨j, by omega, (gd j hj).trans e⟩
  · rintro ⟨j, hj, e⟩
    have hj' : j < (dk_txB.getD q []).length := by omega
    exact ⟨j, hj', (gd j hj').symm.trans e⟩
section DKT
variable {G : dk_G} {l : Launch} {s : dk_S} {K : Int32 → dk_S → Prop} {q : Nat}
theorem cc_J0_coder (hD : dk_D G) (hq : q < 2) (h : K 0 s) : dk_M G l 1 yJ0_coder_7d493 cJ0_coder_7d493 1 (some .byte) [.ref (dk_aK G q)] s (dk_ki K) := by
  refine dk_of hD (by decide) [some (.ref (dk_aK G q))] (fun q hq => hq) rfl (Nat.le_of_ble_eq_true rfl) (fun P e S0 m args bel meth c C hr hlk => ?_)
  refine dk_gcs C dk_wf_J0_38 dJ0_coder_7d493_0 (n := 3) rfl ?_
  refine dk_if_eq (t := 13) C dJ0_coder_7d493_3 (n := 6) rfl (by decide) (fun c1 => absurd c1 (by decide)) (fun _ => ?_)
  refine dk_aload_n (i := 0) C dJ0_coder_7d493_6 (n := 7) rfl rfl rfl ?_
  refine dk_scod C (show q < 3 by omega) dk_wf_J0_15 dJ0_coder_7d493_7 (n := 10) rfl ?_
  refine dk_goto (t := 14) C dJ0_coder_7d493_10 (by decide) ?_
  exact dk_iret C hr hlk (by decide) dJ0_coder_7d493_14 ⟨_, rfl, h⟩
theorem cc_J0_isLatin1 (hD : dk_D G) (hq : q < 2) (h : K 1 s) : dk_M G l 1 yJ0_isLatin1_aae02 cJ0_isLatin1_aae02 1 (some .boolean) [.ref (dk_aK G q)] s (dk_ki K) := by
  refine dk_of hD (by decide) [some (.ref (dk_aK G q))] (fun q hq => hq) rfl (Nat.le_of_ble_eq_true rfl) (fun P e S0 m args bel meth c C hr hlk => ?_)
  refine dk_gcs C dk_wf_J0_38 dJ0_isLatin1_aae02_0 (n := 3) rfl ?_
  refine dk_if_eq (t := 17) C dJ0_isLatin1_aae02_3 (n := 6) rfl (by decide) (fun c1 => absurd c1 (by decide)) (fun _ => ?_)
  refine dk_aload_n (i := 0) C dJ0_isLatin1_aae02_6 (n := 7) rfl rfl rfl ?_
  refine dk_scod C (show q < 3 by omega) dk_wf_J0_15 dJ0_isLatin1_aae02_7 (n := 10) rfl ?_
  refine dk_if_ne (t := 17) C dJ0_isLatin1_aae02_10 (n := 13) rfl (by decide) (fun c1 => absurd rfl c1) (fun _ => ?_)
  refine dk_iconst (v := 1) C dJ0_isLatin1_aae02_13 (n := 14) rfl (by decide) ?_
  refine dk_goto (t := 18) C dJ0_isLatin1_aae02_14 (by decide) ?_
  exact dk_iret C hr hlk dk_nz1 dJ0_isLatin1_aae02_18 ⟨_, rfl, h⟩
theorem cc_J0_length (hD : dk_D G) (hq : q < 2) (h : K (nI (dk_txL.getD q 0)) s) : dk_M G l 2 yJ0_length_8abf5 cJ0_length_8abf5 1 (some .int) [.ref (dk_aK G q)] s (dk_ki K) := by
  refine dk_of hD (by decide) [some (.ref (dk_aK G q))] (fun q hq => hq) rfl (Nat.le_of_ble_eq_true rfl) (fun P e S0 m args bel meth c C hr hlk => ?_)
  refine dk_aload_n (i := 0) C dJ0_length_8abf5_0 (n := 1) rfl rfl rfl ?_
  refine dk_sval C (show q < 3 by omega) dk_wf_J0_9 dJ0_length_8abf5_1 (n := 4) rfl ?_
  refine dk_slen C (show q < 3 by omega) dJ0_length_8abf5_4 (n := 5) rfl ?_
  refine dk_aload_n (i := 0) C dJ0_length_8abf5_5 (n := 6) rfl rfl rfl ?_
  refine dk_callK C [.int (nI (dk_txL.getD q 0))] (cc_J0_coder (K := fun r σ => r = 0 ∧ σ = s) C.D hq ⟨rfl, rfl⟩) (show q < 3 by omega) rfl yy_J0_coder_7d493 dk_wm_J0_335 dJ0_length_8abf5_6 (fun r s2 hr2 => ?_) rfl ⟨Nat.le_of_ble_eq_true rfl, Nat.le_of_ble_eq_true rfl⟩ rfl (Nat.le_of_ble_eq_true rfl) rfl (n := 9) rfl
  obtain ⟨rfl, rfl⟩ := hr2
  refine dk_ishr C dJ0_length_8abf5_9 (n := 10) rfl ?_
  have e0 : nI (dk_txL.getD q 0) >>> ((0 : Int32) &&& 31) = nI (dk_txL.getD q 0) := by
    have : ∀ q, q < 2 → nI (dk_txL.getD q 0) >>> ((0 : Int32) &&& 31) = nI (dk_txL.getD q 0) := by decide +kernel
    exact this q hq
  rw [e0]
  exact dk_iret C hr hlk rfl dJ0_length_8abf5_10 ⟨_, rfl, h⟩
theorem cc_J1_canEncode {x : Int32} (hD : dk_D G) (h1 : ¬ x < 0 → ¬ 255 < x → K 1 s) (h0 : (x < 0 ∨ 255 < x) → K 0 s) : dk_M G l 1 yJ1_canEncode_9a6ad cJ1_canEncode_9a6ad 1 (some .boolean) [.int x] s (dk_ki K) := by
  refine dk_of hD (by decide) [some (.int x)] (fun q hq => hq) rfl (Nat.le_of_ble_eq_true rfl) (fun P e S0 m args bel meth c C hr hlk => ?_)
  refine dk_iload_n (i := 0) C dJ1_canEncode_9a6ad_0 (n := 1) rfl rfl rfl ?_
  refine dk_if_lt (t := 15) C dJ1_canEncode_9a6ad_1 (n := 4) rfl (by decide) (fun c1 => ?_) (fun c1 => ?_)
  · refine dk_iconst (v := 0) C dJ1_canEncode_9a6ad_15 (n := 16) rfl (by decide) ?_
    exact dk_iret C hr hlk dk_nz0 dJ1_canEncode_9a6ad_16 ⟨_, rfl, h0 (Or.inl c1)⟩
  · refine dk_iload_n (i := 0) C dJ1_canEncode_9a6ad_4 (n := 5) rfl rfl rfl ?_
    refine dk_sipush (v := 255) C dJ1_canEncode_9a6ad_5 (n := 8) rfl (by decide) ?_
    refine dk_icmp_gt (t := 15) C dJ1_canEncode_9a6ad_8 (n := 11) rfl (by decide) (fun c2 => ?_) (fun c2 => ?_)
    · refine dk_iconst (v := 0) C dJ1_canEncode_9a6ad_15 (n := 16) rfl (by decide) ?_
      exact dk_iret C hr hlk dk_nz0 dJ1_canEncode_9a6ad_16 ⟨_, rfl, h0 (Or.inr c2)⟩
    · refine dk_iconst (v := 1) C dJ1_canEncode_9a6ad_11 (n := 12) rfl (by decide) ?_
      refine dk_goto (t := 16) C dJ1_canEncode_9a6ad_12 (by decide) ?_
      exact dk_iret C hr hlk dk_nz1 dJ1_canEncode_9a6ad_16 ⟨_, rfl, h1 c1 c2⟩
theorem cc_J1_indexOfChar {x : Int32} (hD : dk_D G) (hq : q < 2) (hx0 : ¬ x < 0) (hx1 : ¬ 255 < x) (h : ∀ r : Int32, (r < 0 ↔ ¬ x ∈ dk_txB.getD q []) → K r s) : dk_M G l 1 yJ1_indexOfChar_4cfef cJ1_indexOfChar_4cfef 6 (some .int) [.ref (dk_aV G q), .int x, .int 0, .int (nI (dk_txL.getD q 0))] s (dk_ki K) := by
  refine dk_of hD (by decide) [some (.ref (dk_aV G q)), some (.int x), some (.int 0), some (.int (nI (dk_txL.getD q 0))), none, none] (fun q hq => hq) rfl (Nat.le_of_ble_eq_true rfl) (fun P e S0 m args bel meth c C hr hlk => ?_)
  obtain ⟨l0, l8, ll⟩ := tx_len q hq
  obtain ⟨k, hk, ex⟩ := nI_of2 (M := 255) (n := 255) rfl hx0 (mr_lt_le.1 hx1)
  have bx : ∀ j, j < 8 → ((dk_txB.getD q []).getD j 0 = x.toInt8.toInt32 ↔ x = (dk_txB.getD q []).getD j 0) := fun j hj => by rw [ex]; exact tx_b0 q hq j hj k (by omega)
  refine dk_iload_n (i := 1) C dJ1_indexOfChar_4cfef_0 (n := 1) rfl rfl rfl ?_
  refine dk_i2b C dJ1_indexOfChar_4cfef_1 (n := 2) rfl rfl ?_
  refine dk_istore (i := 4) (L' := [some (.ref (dk_aV G q)), some (.int x), some (.int 0), some (.int (nI (dk_txL.getD q 0))), some (.int x.toInt8.toInt32), none]) C dJ1_indexOfChar_4cfef_2 (n := 4) rfl (dk_nc_of rfl) (Nat.le_of_ble_eq_true rfl) rfl ?_
  refine dk_iload_n (i := 2) C dJ1_indexOfChar_4cfef_4 (n := 5) rfl rfl rfl ?_
  refine dk_istore (i := 5) (L' := [some (.ref (dk_aV G q)), some (.int x), some (.int 0), some (.int (nI (dk_txL.getD q 0))), some (.int x.toInt8.toInt32), some (.int 0)]) C dJ1_indexOfChar_4cfef_5 (n := 7) rfl (dk_nc_of rfl) (Nat.le_of_ble_eq_true rfl) rfl ?_
  have loop : ∀ d j, j + d = dk_txL.getD q 0 → (∀ i, i < j → ¬ (dk_txB.getD q []).getD i 0 = x) → dk_W G P l e (dk_rm 1) S0 m args bel meth c 0 0 (MQ bel (dk_Qc G (dk_ki K)) args S0 0 0 (dk_A G)) 7 [some (.ref (dk_aV G q)), some (.int x), some (.int 0), some (.int (nI (dk_txL.getD q 0))), some (.int x.toInt8.toInt32), some (.int (nI j))] [] s := by
    intro d
    induction d with
    | zero =>
      intro j hj hno
      refine dk_iload C dJ1_indexOfChar_4cfef_7 (n := 9) rfl (i := 5) rfl ?_
      refine dk_iload_n (i := 3) C dJ1_indexOfChar_4cfef_9 (n := 10) rfl rfl rfl ?_
      refine dk_icmp_ge (t := 31) C dJ1_indexOfChar_4cfef_10 (n := 13) rfl (by decide) (fun _ => ?_) (fun c1 => absurd (nI_le (show dk_txL.getD q 0 ≤ j by omega) (by omega)) c1)
      refine dk_iconst (v := -1) C dJ1_indexOfChar_4cfef_31 (n := 32) rfl (by decide) ?_
      refine dk_iret C hr hlk rfl dJ1_indexOfChar_4cfef_32 ⟨_, rfl, h _ ⟨fun _ g => ?_, fun _ => by decide⟩⟩
      obtain ⟨i, hi, ei⟩ := (tx_mem hq).1 g
      exact hno i (by omega) ei
    | succ d ih =>
      intro j hj hno
      refine dk_iload C dJ1_indexOfChar_4cfef_7 (n := 9) rfl (i := 5) rfl ?_
      refine dk_iload_n (i := 3) C dJ1_indexOfChar_4cfef_9 (n := 10) rfl rfl rfl ?_
      refine dk_icmp_ge (t := 31) C dJ1_indexOfChar_4cfef_10 (n := 13) rfl (by decide) (fun c1 => absurd c1 (nI_ge (show j < dk_txL.getD q 0 by omega) (by omega))) (fun _ => ?_)
      refine dk_aload_n (i := 0) C dJ1_indexOfChar_4cfef_13 (n := 14) rfl rfl rfl ?_
      refine dk_iload C dJ1_indexOfChar_4cfef_14 (n := 16) rfl (i := 5) rfl ?_
      refine dk_sbld C (show q < 3 by omega) (vp_in_nI (show j < dk_txL.getD q 0 by omega) (by omega)) dJ1_indexOfChar_4cfef_16 (n := 17) rfl ?_
      rw [nI_clamp (by omega)]
      refine dk_iload C dJ1_indexOfChar_4cfef_17 (n := 19) rfl (i := 4) rfl ?_
      refine dk_icmp_ne (t := 25) C dJ1_indexOfChar_4cfef_19 (n := 22) rfl (by decide) (fun c2 => ?_) (fun c2 => ?_)
      · refine dk_iinc (i := 5) (v := nI (j + 1)) (L' := [some (.ref (dk_aV G q)), some (.int x), some (.int 0), some (.int (nI (dk_txL.getD q 0))), some (.int x.toInt8.toInt32), some (.int (nI (j + 1)))]) C dJ1_indexOfChar_4cfef_25 (n := 28) rfl rfl (nI_1 j) (dk_nc_of rfl) (Nat.le_of_ble_eq_true rfl) rfl ?_
        refine dk_goto (t := 7) C dJ1_indexOfChar_4cfef_28 (by decide) ?_
        refine ih (j + 1) (by omega) (fun i hi g => ?_)
        by_cases e1 : i = j
        · subst e1
          exact c2 ((bx i (by omega)).2 g.symm)
        · exact hno i (by omega) g
      · refine dk_iload C dJ1_indexOfChar_4cfef_22 (n := 24) rfl (i := 5) rfl ?_
        refine dk_iret C hr hlk rfl dJ1_indexOfChar_4cfef_24 ⟨_, rfl, h _ ⟨fun g => absurd g (nI_pos (by omega)), fun g => absurd ((tx_mem hq).2 ⟨j, by omega, ((bx j (by omega)).1 c2).symm⟩) g⟩⟩
  exact loop (dk_txL.getD q 0) 0 (by omega) (fun i hi => absurd hi (Nat.not_lt_zero _))
theorem cc_J1_indexOf {x : Int32} (hD : dk_D G) (hq : q < 2) (h : ∀ r : Int32, (r < 0 ↔ ¬ x ∈ dk_txB.getD q []) → K r s) : dk_M G l 2 yJ1_indexOf_4cfef cJ1_indexOf_4cfef 4 (some .int) [.ref (dk_aV G q), .int x, .int 0, .int (nI (dk_txL.getD q 0))] s (dk_ki K) := by
  refine dk_of hD (by decide) [some (.ref (dk_aV G q)), some (.int x), some (.int 0), some (.int (nI (dk_txL.getD q 0)))] (fun q hq => hq) rfl (Nat.le_of_ble_eq_true rfl) (fun P e S0 m args bel meth c C hr hlk => ?_)
  obtain ⟨l0, l8, ll⟩ := tx_len q hq
  refine dk_iload_n (i := 1) C dJ1_indexOf_4cfef_0 (n := 1) rfl rfl rfl ?_
  refine dk_callSi C [] (cc_J1_canEncode (K := fun r σ => σ = s ∧ ((r = 1 ∧ ¬ x < 0 ∧ ¬ 255 < x) ∨ (r = 0 ∧ (x < 0 ∨ 255 < x)))) C.D (fun g1 g2 => ⟨rfl, Or.inl ⟨rfl, g1, g2⟩⟩) (fun g => ⟨rfl, Or.inr ⟨rfl, g⟩⟩)) yy_J1_canEncode_9a6ad dk_wm_J1_88 dJ1_indexOf_4cfef_1 (fun r s2 hr2 => ?_) rfl ⟨Nat.le_of_ble_eq_true rfl, Nat.le_of_ble_eq_true rfl⟩ rfl (Nat.le_of_ble_eq_true rfl) rfl (n := 4) rfl
  obtain ⟨rfl, hr3⟩ := hr2
  refine dk_if_ne (t := 9) C dJ1_indexOf_4cfef_4 (n := 7) rfl (by decide) (fun c1 => ?_) (fun c1 => ?_)
  · have hr3 := hr3.resolve_right fun g => c1 g.1
    refine dk_iload_n (i := 2) C dJ1_indexOf_4cfef_9 (n := 10) rfl rfl rfl ?_
    refine dk_iconst (v := 0) C dJ1_indexOf_4cfef_10 (n := 11) rfl (by decide) ?_
    refine dk_mmax C dk_wm_J1_92 dk_wm_max_s dk_wm_i dk_wm_max_c (Nat.le_of_ble_eq_true rfl) (Nat.le_of_ble_eq_true rfl) rfl dJ1_indexOf_4cfef_11 (n := 14) rfl ?_
    rw [show (if (0 : Int32) < 0 then (0 : Int32) else 0) = 0 by decide]
    refine dk_istore_n (i := 2) (L' := [some (.ref (dk_aV G q)), some (.int x), some (.int 0), some (.int (nI (dk_txL.getD q 0)))]) C dJ1_indexOf_4cfef_14 (n := 15) rfl rfl (dk_nc_of rfl) (Nat.le_of_ble_eq_true rfl) rfl ?_
    refine dk_iload_n (i := 3) C dJ1_indexOf_4cfef_15 (n := 16) rfl rfl rfl ?_
    refine dk_aload_n (i := 0) C dJ1_indexOf_4cfef_16 (n := 17) rfl rfl rfl ?_
    refine dk_slen C (show q < 3 by omega) dJ1_indexOf_4cfef_17 (n := 18) rfl ?_
    refine dk_mmin C dk_wm_J1_38 dk_wm_min_s dk_wm_i dk_wm_min_c (Nat.le_of_ble_eq_true rfl) (Nat.le_of_ble_eq_true rfl) rfl dJ1_indexOf_4cfef_18 (n := 21) rfl ?_
    rw [ite_self]
    refine dk_istore_n (i := 3) (L' := [some (.ref (dk_aV G q)), some (.int x), some (.int 0), some (.int (nI (dk_txL.getD q 0)))]) C dJ1_indexOf_4cfef_21 (n := 22) rfl rfl (dk_nc_of rfl) (Nat.le_of_ble_eq_true rfl) rfl ?_
    refine dk_iload_n (i := 2) C dJ1_indexOf_4cfef_22 (n := 23) rfl rfl rfl ?_
    refine dk_iload_n (i := 3) C dJ1_indexOf_4cfef_23 (n := 24) rfl rfl rfl ?_
    refine dk_icmp_lt (t := 29) C dJ1_indexOf_4cfef_24 (n := 27) rfl (by decide) (fun _ => ?_) (fun c2 => absurd (nI_lt (a := 0) l0 (by omega)) c2)
    refine dk_aload_n (i := 0) C dJ1_indexOf_4cfef_29 (n := 30) rfl rfl rfl ?_
    refine dk_iload_n (i := 1) C dJ1_indexOf_4cfef_30 (n := 31) rfl rfl rfl ?_
    refine dk_iload_n (i := 2) C dJ1_indexOf_4cfef_31 (n := 32) rfl rfl rfl ?_
    refine dk_iload_n (i := 3) C dJ1_indexOf_4cfef_32 (n := 33) rfl rfl rfl ?_
    refine dk_callSi C [] (cc_J1_indexOfChar (K := K) C.D hq hr3.2.1 hr3.2.2 h) yy_J1_indexOfChar_4cfef dk_wm_J1_95 dJ1_indexOf_4cfef_33 (fun r s2 hr2 => ?_) rfl ⟨Nat.le_of_ble_eq_true rfl, Nat.le_of_ble_eq_true rfl⟩ rfl (Nat.le_of_ble_eq_true rfl) rfl (n := 36) rfl
    exact dk_iret C hr hlk rfl dJ1_indexOf_4cfef_36 ⟨_, rfl, hr2⟩
  · have hr3 := hr3.resolve_left fun g => by rw [g.1] at c1; exact absurd c1 (by decide)
    refine dk_iconst (v := -1) C dJ1_indexOf_4cfef_7 (n := 8) rfl (by decide) ?_
    refine dk_iret C hr hlk rfl dJ1_indexOf_4cfef_8 ⟨_, rfl, h _ ⟨fun _ g => ?_, fun _ => by decide⟩⟩
    obtain ⟨j, hj, ej⟩ := (tx_mem hq).1 g
    have := tx_r q hq j (by omega)
    rw [ej] at this
    exact hr3.2.elim this.1 this.2
theorem cc_J0_indexOf2 {x : Int32} (hD : dk_D G) (hq : q < 2) (h : ∀ r : Int32, (r < 0 ↔ ¬ x ∈ dk_txB.getD q []) → K r s) : dk_M G l 3 yJ0_indexOf_7cf53 cJ0_indexOf_7cf53 3 (some .int) [.ref (dk_aK G q), .int x, .int 0] s (dk_ki K) := by
  refine dk_of hD (by decide) [some (.ref (dk_aK G q)), some (.int x), some (.int 0)] (fun q hq => hq) rfl (Nat.le_of_ble_eq_true rfl) (fun P e S0 m args bel meth c C hr hlk => ?_)
  refine dk_aload_n (i := 0) C dJ0_indexOf_7cf53_0 (n := 1) rfl rfl rfl ?_
  refine dk_callK C [] (cc_J0_isLatin1 (K := fun r σ => r = 1 ∧ σ = s) C.D hq ⟨rfl, rfl⟩) (show q < 3 by omega) rfl yy_J0_isLatin1_aae02 dk_wm_J0_492 dJ0_indexOf_7cf53_1 (fun r s2 hr2 => ?_) rfl ⟨Nat.le_of_ble_eq_true rfl, Nat.le_of_ble_eq_true rfl⟩ rfl (Nat.le_of_ble_eq_true rfl) rfl (n := 4) rfl
  obtain ⟨rfl, rfl⟩ := hr2
  refine dk_if_eq (t := 23) C dJ0_indexOf_7cf53_4 (n := 7) rfl (by decide) (fun c1 => absurd c1 (by decide)) (fun _ => ?_)
  refine dk_aload_n (i := 0) C dJ0_indexOf_7cf53_7 (n := 8) rfl rfl rfl ?_
  refine dk_sval C (show q < 3 by omega) dk_wf_J0_9 dJ0_indexOf_7cf53_8 (n := 11) rfl ?_
  refine dk_iload_n (i := 1) C dJ0_indexOf_7cf53_11 (n := 12) rfl rfl rfl ?_
  refine dk_iload_n (i := 2) C dJ0_indexOf_7cf53_12 (n := 13) rfl rfl rfl ?_
  refine dk_aload_n (i := 0) C dJ0_indexOf_7cf53_13 (n := 14) rfl rfl rfl ?_
  refine dk_callK C [.int 0, .int x, .ref (dk_aV G q)] (cc_J0_length (K := fun r σ => r = nI (dk_txL.getD q 0) ∧ σ = s2) C.D hq ⟨rfl, rfl⟩) (show q < 3 by omega) rfl yy_J0_length_8abf5 dk_wm_J0_505 dJ0_indexOf_7cf53_14 (fun r s3 hr3 => ?_) rfl ⟨Nat.le_of_ble_eq_true rfl, Nat.le_of_ble_eq_true rfl⟩ rfl (Nat.le_of_ble_eq_true rfl) rfl (n := 17) rfl
  obtain ⟨rfl, rfl⟩ := hr3
  refine dk_callSi C [] (cc_J1_indexOf (K := K) C.D hq h) yy_J1_indexOf_4cfef dk_wm_J0_637 dJ0_indexOf_7cf53_17 (fun r s2 hr2 => ?_) rfl ⟨Nat.le_of_ble_eq_true rfl, Nat.le_of_ble_eq_true rfl⟩ rfl (Nat.le_of_ble_eq_true rfl) rfl (n := 20) rfl
  refine dk_goto (t := 36) C dJ0_indexOf_7cf53_20 (by decide) ?_
  exact dk_iret C hr hlk rfl dJ0_indexOf_7cf53_36 ⟨_, rfl, hr2⟩
theorem cc_J0_indexOf {x : Int32} (hD : dk_D G) (hq : q < 2) (h : ∀ r : Int32, (r < 0 ↔ ¬ x ∈ dk_txB.getD q []) → K r s) : dk_M G l 4 yJ0_indexOf_0f7a4 cJ0_indexOf_0f7a4 2 (some .int) [.ref (dk_aK G q), .int x] s (dk_ki K) := by
  refine dk_of hD (by decide) [some (.ref (dk_aK G q)), some (.int x)] (fun q hq => hq) rfl (Nat.le_of_ble_eq_true rfl) (fun P e S0 m args bel meth c C hr hlk => ?_)
  refine dk_aload_n (i := 0) C dJ0_indexOf_0f7a4_0 (n := 1) rfl rfl rfl ?_
  refine dk_iload_n (i := 1) C dJ0_indexOf_0f7a4_1 (n := 2) rfl rfl rfl ?_
  refine dk_iconst (v := 0) C dJ0_indexOf_0f7a4_2 (n := 3) rfl (by decide) ?_
  refine dk_callK C [] (cc_J0_indexOf2 (K := K) C.D hq h) (show q < 3 by omega) rfl yy_J0_indexOf_7cf53 dk_wm_J0_633 dJ0_indexOf_0f7a4_3 (fun r s2 hr2 => ?_) rfl ⟨Nat.le_of_ble_eq_true rfl, Nat.le_of_ble_eq_true rfl⟩ rfl (Nat.le_of_ble_eq_true rfl) rfl (n := 6) rfl
  exact dk_iret C hr hlk rfl dJ0_indexOf_0f7a4_6 ⟨_, rfl, hr2⟩
end DKT
