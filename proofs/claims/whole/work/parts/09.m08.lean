/-! X9_rest -/
def wf_X9_rest_13  (K : Int32 → dk_S → Prop) (y0 : Int32) (s : dk_S) : Prop :=
  wf_X9_goesOn y0 s (fun r5 s4 => ((¬ r5 = 0 → wf_X9_ends s4 (fun s6 => K (s6 4 60 2) s6)) ∧ (r5 = 0 → K 0 s4)))
def wf_X9_rest  (s : dk_S) (K : Int32 → dk_S → Prop) : Prop :=
  wf_X9_isOn s (fun r2 s1 => ((r2 = 0 → wf_X9_rest_13 K 1 s1) ∧ (¬ r2 = 0 → wf_X9_rest_13 K 0 s1)))
set_option maxRecDepth 20000 in
set_option maxHeartbeats 4000000 in
theorem ww_X9_rest_13 {G : dk_G} {P : Program} {l : Launch} {e : Env} {S0 : State} {m : MethodId} {args : Array Value} {bel : List Frame} {meth : Method} {c : Code}  (C : dk_C G P (dk_rm 9) S0 m args c 0 0 cX9_rest 1 RX9) (hr : meth.sig.returnType = (some .int)) (hlk : meth.locks = false) (hmi : dk_MI G) {K : Int32 → dk_S → Prop}  : ∀ (y0 : Int32) (s : dk_S), wf_X9_rest_13 K y0 s → dk_W G P l e (dk_rm 9) S0 m args bel meth c 0 0 (MQ bel (dk_Qc G (dk_ki K)) args S0 0 0 (dk_A G)) 13 [some (dk_r G 4 60)] [.int y0, dk_r G 4 60] s := by
  intro y0 s h
  unfold wf_X9_rest_13 at h
  refine dk_callVi C [] (cc_X9_goesOn C.D hmi h) yy_X9_goesOn dk_wm_X9_149 dk_sh60 (hmi 60 (by decide) (by decide)) dX9_rest_13 (fun r5 s4 h => ?_) rfl rfl ⟨Nat.le_of_ble_eq_true rfl, Nat.le_of_ble_eq_true rfl⟩ rfl (Nat.le_of_ble_eq_true rfl) rfl (n := 16) rfl
  refine dk_if_ne (t := 21) C dX9_rest_16 (n := 19) rfl (by decide) (fun c7 => ?_) (fun c7 => ?_)
  · have h := h.1 c7
    refine dk_aload_n (i := 0) C dX9_rest_21 (n := 22) rfl rfl rfl ?_
    refine dk_callVv C [] (cc_X9_ends C.D hmi h) yy_X9_ends dk_wm_X9_273 dk_sh60 (hmi 60 (by decide) (by decide)) dX9_rest_22 (fun s6 h => ?_) rfl rfl ⟨Nat.le_of_ble_eq_true rfl, Nat.le_of_ble_eq_true rfl⟩ rfl (Nat.le_of_ble_eq_true rfl) rfl (n := 25) rfl
    refine dk_aload_n (i := 0) C dX9_rest_25 (n := 26) rfl rfl rfl ?_
    refine gf_X9_133 C (hmi 60 (by decide) (by decide)) dX9_rest_26 (n := 29) rfl ?_
    exact dk_iret C hr hlk rfl dX9_rest_29 ⟨_, rfl, h⟩
  · have h := h.2 c7
    refine dk_iconst (v := 0) C dX9_rest_19 (n := 20) rfl (by decide) ?_
    exact dk_iret C hr hlk rfl dX9_rest_20 ⟨_, rfl, h⟩
set_option maxRecDepth 20000 in
set_option maxHeartbeats 4000000 in
theorem cc_X9_rest {G : dk_G} {l : Launch}  (hD : dk_D G) (hmi : dk_MI G) {s : dk_S} {K : Int32 → dk_S → Prop} (h : wf_X9_rest s K) : dk_M G l 9 yX9_rest cX9_rest 1 (some .int) [dk_r G 4 60] s (dk_ki K) := by
  refine dk_of hD (by decide) [some (dk_r G 4 60)] (fun q hq => hq) rfl (Nat.le_of_ble_eq_true rfl) (fun P e S0 m args bel meth c C hr hlk => ?_)
  unfold wf_X9_rest at h
  refine dk_aload_n (i := 0) C dX9_rest_0 (n := 1) rfl rfl rfl ?_
  refine dk_aload_n (i := 0) C dX9_rest_1 (n := 2) rfl rfl rfl ?_
  refine dk_callVi C [dk_r G 4 60] (cc_X9_isOn C.D hmi h) yy_X9_isOn dk_wm_X9_145 dk_sh60 (hmi 60 (by decide) (by decide)) dX9_rest_2 (fun r2 s1 h => ?_) rfl rfl ⟨Nat.le_of_ble_eq_true rfl, Nat.le_of_ble_eq_true rfl⟩ rfl (Nat.le_of_ble_eq_true rfl) rfl (n := 5) rfl
  refine dk_if_eq (t := 12) C dX9_rest_5 (n := 8) rfl (by decide) (fun c3 => ?_) (fun c3 => ?_)
  · have h := h.1 c3
    refine dk_iconst (v := 1) C dX9_rest_12 (n := 13) rfl (by decide) ?_
    refine dk_sub (L0 := [some (dk_r G 4 60)]) ⟨rfl, trivial⟩ ?_
    exact ww_X9_rest_13 C hr hlk hmi  1 s1 h
  · have h := h.2 c3
    refine dk_iconst (v := 0) C dX9_rest_8 (n := 9) rfl (by decide) ?_
    refine dk_goto (t := 13) C dX9_rest_9 (by decide) ?_
    refine dk_sub (L0 := [some (dk_r G 4 60)]) ⟨rfl, trivial⟩ ?_
    exact ww_X9_rest_13 C hr hlk hmi  0 s1 h
/-! X9_take -/
def wf_X9_take_62  (K : Int32 → dk_S → Prop) (x1 : Int32) (y0 : Int32) (s : dk_S) : Prop :=
  wf_X9_goesOn y0 s (fun r14 s13 => ((¬ r14 = 0 → (vp_in x1 24 ∧ (∀ s15 : dk_S, s15 = dk_row s13 4 82 (upd (s13 4 82) x1.toNatClampNeg (-1)) → wf_X9_carriedWeight s15 (fun r17 s16 => wf_X9_ends s16 (fun s18 => K r17 s18))))) ∧ (r14 = 0 → K 0 s13)))
def wf_X9_take (a1 : Int32) (s : dk_S) (K : Int32 → dk_S → Prop) : Prop :=
  wf_X9_isThing a1 s (fun r2 s1 => ((¬ r2 = 0 → wf_X9_isOn s1 (fun r4 s3 => ((¬ r4 = 0 → (vp_in a1 24 ∧ (vp_in 0 8 ∧ (((s3 4 82 a1.toNatClampNeg) = (s3 4 76 0.toNatClampNeg) → wf_X9_carriedWeight s3 (fun r6 s5 => wf_X9_wholeWeight a1 s5 (fun r8 s7 => (((r6 + r8) ≤ 30 → wf_X9_take_62 K a1 0 s7) ∧ (¬ (r6 + r8) ≤ 30 → wf_X9_take_62 K a1 4 s7))))) ∧ (¬ (s3 4 82 a1.toNatClampNeg) = (s3 4 76 0.toNatClampNeg) → wf_X9_take_62 K a1 3 s3))))) ∧ (r4 = 0 → wf_X9_take_62 K a1 2 s3)))) ∧ (r2 = 0 → wf_X9_take_62 K a1 1 s1)))
set_option maxRecDepth 20000 in
set_option maxHeartbeats 4000000 in
theorem ww_X9_take_62 {G : dk_G} {P : Program} {l : Launch} {e : Env} {S0 : State} {m : MethodId} {args : Array Value} {bel : List Frame} {meth : Method} {c : Code}  (C : dk_C G P (dk_rm 9) S0 m args c 0 0 cX9_take 4 RX9) (hr : meth.sig.returnType = (some .int)) (hlk : meth.locks = false) (hmi : dk_MI G) {K : Int32 → dk_S → Prop}  : ∀ (x1 : Int32) (y0 : Int32) (s : dk_S), wf_X9_take_62 K x1 y0 s → dk_W G P l e (dk_rm 9) S0 m args bel meth c 0 0 (MQ bel (dk_Qc G (dk_ki K)) args S0 0 0 (dk_A G)) 62 [some (dk_r G 4 60), some (.int x1), none, none] [.int y0] s := by
  intro x1 y0 s h
  unfold wf_X9_take_62 at h
  refine dk_istore_n (i := 2) (L' := [some (dk_r G 4 60), some (.int x1), some (.int y0), none]) C dX9_take_62 (n := 63) rfl rfl (dk_nc_of rfl) (Nat.le_of_ble_eq_true rfl) rfl ?_
  refine dk_aload_n (i := 0) C dX9_take_63 (n := 64) rfl rfl rfl ?_
  refine dk_iload_n (i := 2) C dX9_take_64 (n := 65) rfl rfl rfl ?_
  refine dk_callVi C [] (cc_X9_goesOn C.D hmi h) yy_X9_goesOn dk_wm_X9_149 dk_sh60 (hmi 60 (by decide) (by decide)) dX9_take_65 (fun r14 s13 h => ?_) rfl rfl ⟨Nat.le_of_ble_eq_true rfl, Nat.le_of_ble_eq_true rfl⟩ rfl (Nat.le_of_ble_eq_true rfl) rfl (n := 68) rfl
  refine dk_if_ne (t := 73) C dX9_take_68 (n := 71) rfl (by decide) (fun c19 => ?_) (fun c19 => ?_)
  · have h := h.1 c19
    refine dk_aload_n (i := 0) C dX9_take_73 (n := 74) rfl rfl rfl ?_
    refine gf_X9_83 C (hmi 60 (by decide) (by decide)) dX9_take_74 (n := 77) rfl ?_
    refine dk_iload_n (i := 1) C dX9_take_77 (n := 78) rfl rfl rfl ?_
    refine dk_iconst (v := (-1)) C dX9_take_78 (n := 79) rfl (by decide) ?_
    refine dk_iast C dk_sh82 h.1 (hmi 82 (by decide) (by decide)) dX9_take_79 (n := 80) rfl ?_
    refine dk_nameS (fun s15 es15 => ?_)
    have h := h.2 s15 es15
    refine dk_aload_n (i := 0) C dX9_take_80 (n := 81) rfl rfl rfl ?_
    refine dk_callVi C [] (cc_X9_carriedWeight C.D hmi h) yy_X9_carriedWeight dk_wm_X9_276 dk_sh60 (hmi 60 (by decide) (by decide)) dX9_take_81 (fun r17 s16 h => ?_) rfl rfl ⟨Nat.le_of_ble_eq_true rfl, Nat.le_of_ble_eq_true rfl⟩ rfl (Nat.le_of_ble_eq_true rfl) rfl (n := 84) rfl
    refine dk_istore_n (i := 3) (L' := [some (dk_r G 4 60), some (.int x1), some (.int y0), some (.int r17)]) C dX9_take_84 (n := 85) rfl rfl (dk_nc_of rfl) (Nat.le_of_ble_eq_true rfl) rfl ?_
    refine dk_aload_n (i := 0) C dX9_take_85 (n := 86) rfl rfl rfl ?_
    refine dk_callVv C [] (cc_X9_ends C.D hmi h) yy_X9_ends dk_wm_X9_273 dk_sh60 (hmi 60 (by decide) (by decide)) dX9_take_86 (fun s18 h => ?_) rfl rfl ⟨Nat.le_of_ble_eq_true rfl, Nat.le_of_ble_eq_true rfl⟩ rfl (Nat.le_of_ble_eq_true rfl) rfl (n := 89) rfl
    refine dk_iload_n (i := 3) C dX9_take_89 (n := 90) rfl rfl rfl ?_
    exact dk_iret C hr hlk rfl dX9_take_90 ⟨_, rfl, h⟩
  · have h := h.2 c19
    refine dk_iconst (v := 0) C dX9_take_71 (n := 72) rfl (by decide) ?_
    exact dk_iret C hr hlk rfl dX9_take_72 ⟨_, rfl, h⟩
set_option maxRecDepth 20000 in
set_option maxHeartbeats 4000000 in
theorem cc_X9_take {G : dk_G} {l : Launch} {a1 : Int32} (hD : dk_D G) (hmi : dk_MI G) {s : dk_S} {K : Int32 → dk_S → Prop} (h : wf_X9_take a1 s K) : dk_M G l 9 yX9_take cX9_take 4 (some .int) [dk_r G 4 60, .int a1] s (dk_ki K) := by
  refine dk_of hD (by decide) [some (dk_r G 4 60), some (.int a1), none, none] (fun q hq => hq) rfl (Nat.le_of_ble_eq_true rfl) (fun P e S0 m args bel meth c C hr hlk => ?_)
  unfold wf_X9_take at h
  refine dk_aload_n (i := 0) C dX9_take_0 (n := 1) rfl rfl rfl ?_
  refine dk_iload_n (i := 1) C dX9_take_1 (n := 2) rfl rfl rfl ?_
  refine dk_callVi C [] (cc_X9_isThing C.D hmi h) yy_X9_isThing dk_wm_X9_165 dk_sh60 (hmi 60 (by decide) (by decide)) dX9_take_2 (fun r2 s1 h => ?_) rfl rfl ⟨Nat.le_of_ble_eq_true rfl, Nat.le_of_ble_eq_true rfl⟩ rfl (Nat.le_of_ble_eq_true rfl) rfl (n := 5) rfl
  refine dk_if_ne (t := 12) C dX9_take_5 (n := 8) rfl (by decide) (fun c12 => ?_) (fun c12 => ?_)
  · have h := h.1 c12
    refine dk_aload_n (i := 0) C dX9_take_12 (n := 13) rfl rfl rfl ?_
    refine dk_callVi C [] (cc_X9_isOn C.D hmi h) yy_X9_isOn dk_wm_X9_145 dk_sh60 (hmi 60 (by decide) (by decide)) dX9_take_13 (fun r4 s3 h => ?_) rfl rfl ⟨Nat.le_of_ble_eq_true rfl, Nat.le_of_ble_eq_true rfl⟩ rfl (Nat.le_of_ble_eq_true rfl) rfl (n := 16) rfl
    refine dk_if_ne (t := 23) C dX9_take_16 (n := 19) rfl (by decide) (fun c11 => ?_) (fun c11 => ?_)
    · have h := h.1 c11
      refine dk_aload_n (i := 0) C dX9_take_23 (n := 24) rfl rfl rfl ?_
      refine gf_X9_83 C (hmi 60 (by decide) (by decide)) dX9_take_24 (n := 27) rfl ?_
      refine dk_iload_n (i := 1) C dX9_take_27 (n := 28) rfl rfl rfl ?_
      refine dk_iald C dk_sh82 h.1 (hmi 82 (by decide) (by decide)) dX9_take_28 (n := 29) rfl ?_
      have h := h.2
      refine dk_aload_n (i := 0) C dX9_take_29 (n := 30) rfl rfl rfl ?_
      refine gf_X9_65 C (hmi 60 (by decide) (by decide)) dX9_take_30 (n := 33) rfl ?_
      refine dk_iconst (v := 0) C dX9_take_33 (n := 34) rfl (by decide) ?_
      refine dk_iald C dk_sh76 h.1 (hmi 76 (by decide) (by decide)) dX9_take_34 (n := 35) rfl ?_
      have h := h.2
      refine dk_icmp_eq (t := 42) C dX9_take_35 (n := 38) rfl (by decide) (fun c10 => ?_) (fun c10 => ?_)
      · have h := h.1 c10
        refine dk_aload_n (i := 0) C dX9_take_42 (n := 43) rfl rfl rfl ?_
        refine dk_callVi C [] (cc_X9_carriedWeight C.D hmi h) yy_X9_carriedWeight dk_wm_X9_276 dk_sh60 (hmi 60 (by decide) (by decide)) dX9_take_43 (fun r6 s5 h => ?_) rfl rfl ⟨Nat.le_of_ble_eq_true rfl, Nat.le_of_ble_eq_true rfl⟩ rfl (Nat.le_of_ble_eq_true rfl) rfl (n := 46) rfl
        refine dk_aload_n (i := 0) C dX9_take_46 (n := 47) rfl rfl rfl ?_
        refine dk_iload_n (i := 1) C dX9_take_47 (n := 48) rfl rfl rfl ?_
        refine dk_callVi C [.int r6] (cc_X9_wholeWeight C.D hmi h) yy_X9_wholeWeight dk_wm_X9_279 dk_sh60 (hmi 60 (by decide) (by decide)) dX9_take_48 (fun r8 s7 h => ?_) rfl rfl ⟨Nat.le_of_ble_eq_true rfl, Nat.le_of_ble_eq_true rfl⟩ rfl (Nat.le_of_ble_eq_true rfl) rfl (n := 51) rfl
        refine dk_iadd C dX9_take_51 (n := 52) rfl ?_
        refine dk_bipush (v := 30) C dX9_take_52 (n := 54) rfl (by decide) ?_
        refine dk_icmp_le (t := 61) C dX9_take_54 (n := 57) rfl (by decide) (fun c9 => ?_) (fun c9 => ?_)
        · have h := h.1 c9
          refine dk_iconst (v := 0) C dX9_take_61 (n := 62) rfl (by decide) ?_
          refine dk_sub (L0 := [some (dk_r G 4 60), some (.int a1), none, none]) ⟨rfl, ⟨rfl, trivial⟩⟩ ?_
          exact ww_X9_take_62 C hr hlk hmi  a1 0 s7 h
        · have h := h.2 c9
          refine dk_iconst (v := 4) C dX9_take_57 (n := 58) rfl (by decide) ?_
          refine dk_goto (t := 62) C dX9_take_58 (by decide) ?_
          refine dk_sub (L0 := [some (dk_r G 4 60), some (.int a1), none, none]) ⟨rfl, ⟨rfl, trivial⟩⟩ ?_
          exact ww_X9_take_62 C hr hlk hmi  a1 4 s7 h
      · have h := h.2 c10
        refine dk_iconst (v := 3) C dX9_take_38 (n := 39) rfl (by decide) ?_
        refine dk_goto (t := 62) C dX9_take_39 (by decide) ?_
        refine dk_sub (L0 := [some (dk_r G 4 60), some (.int a1), none, none]) ⟨rfl, ⟨rfl, trivial⟩⟩ ?_
        exact ww_X9_take_62 C hr hlk hmi  a1 3 s3 h
    · have h := h.2 c11
      refine dk_iconst (v := 2) C dX9_take_19 (n := 20) rfl (by decide) ?_
      refine dk_goto (t := 62) C dX9_take_20 (by decide) ?_
      refine dk_sub (L0 := [some (dk_r G 4 60), some (.int a1), none, none]) ⟨rfl, ⟨rfl, trivial⟩⟩ ?_
      exact ww_X9_take_62 C hr hlk hmi  a1 2 s3 h
  · have h := h.2 c12
    refine dk_iconst (v := 1) C dX9_take_8 (n := 9) rfl (by decide) ?_
    refine dk_goto (t := 62) C dX9_take_9 (by decide) ?_
    refine dk_sub (L0 := [some (dk_r G 4 60), some (.int a1), none, none]) ⟨rfl, ⟨rfl, trivial⟩⟩ ?_
    exact ww_X9_take_62 C hr hlk hmi  a1 1 s1 h
/-! X9_handFault -/
def wf_X9_handFault (a1 : Int32) (s : dk_S) (K : Int32 → dk_S → Prop) : Prop :=
  wf_X9_isThing a1 s (fun r2 s1 => ((¬ r2 = 0 → wf_X9_isOn s1 (fun r4 s3 => ((¬ r4 = 0 → (vp_in a1 24 ∧ (((s3 4 82 a1.toNatClampNeg) = (-1) → K 0 s3) ∧ (¬ (s3 4 82 a1.toNatClampNeg) = (-1) → K 3 s3)))) ∧ (r4 = 0 → K 2 s3)))) ∧ (r2 = 0 → K 1 s1)))
set_option maxRecDepth 20000 in
set_option maxHeartbeats 4000000 in
theorem cc_X9_handFault {G : dk_G} {l : Launch} {a1 : Int32} (hD : dk_D G) (hmi : dk_MI G) {s : dk_S} {K : Int32 → dk_S → Prop} (h : wf_X9_handFault a1 s K) : dk_M G l 3 yX9_handFault cX9_handFault 2 (some .int) [dk_r G 4 60, .int a1] s (dk_ki K) := by
  refine dk_of hD (by decide) [some (dk_r G 4 60), some (.int a1)] (fun q hq => hq) rfl (Nat.le_of_ble_eq_true rfl) (fun P e S0 m args bel meth c C hr hlk => ?_)
  unfold wf_X9_handFault at h
  refine dk_aload_n (i := 0) C dX9_handFault_0 (n := 1) rfl rfl rfl ?_
  refine dk_iload_n (i := 1) C dX9_handFault_1 (n := 2) rfl rfl rfl ?_
  refine dk_callVi C [] (cc_X9_isThing C.D hmi h) yy_X9_isThing dk_wm_X9_165 dk_sh60 (hmi 60 (by decide) (by decide)) dX9_handFault_2 (fun r2 s1 h => ?_) rfl rfl ⟨Nat.le_of_ble_eq_true rfl, Nat.le_of_ble_eq_true rfl⟩ rfl (Nat.le_of_ble_eq_true rfl) rfl (n := 5) rfl
  refine dk_if_ne (t := 12) C dX9_handFault_5 (n := 8) rfl (by decide) (fun c7 => ?_) (fun c7 => ?_)
  · have h := h.1 c7
    refine dk_aload_n (i := 0) C dX9_handFault_12 (n := 13) rfl rfl rfl ?_
    refine dk_callVi C [] (cc_X9_isOn C.D hmi h) yy_X9_isOn dk_wm_X9_145 dk_sh60 (hmi 60 (by decide) (by decide)) dX9_handFault_13 (fun r4 s3 h => ?_) rfl rfl ⟨Nat.le_of_ble_eq_true rfl, Nat.le_of_ble_eq_true rfl⟩ rfl (Nat.le_of_ble_eq_true rfl) rfl (n := 16) rfl
    refine dk_if_ne (t := 23) C dX9_handFault_16 (n := 19) rfl (by decide) (fun c6 => ?_) (fun c6 => ?_)
    · have h := h.1 c6
      refine dk_aload_n (i := 0) C dX9_handFault_23 (n := 24) rfl rfl rfl ?_
      refine gf_X9_83 C (hmi 60 (by decide) (by decide)) dX9_handFault_24 (n := 27) rfl ?_
      refine dk_iload_n (i := 1) C dX9_handFault_27 (n := 28) rfl rfl rfl ?_
      refine dk_iald C dk_sh82 h.1 (hmi 82 (by decide) (by decide)) dX9_handFault_28 (n := 29) rfl ?_
      have h := h.2
      refine dk_iconst (v := (-1)) C dX9_handFault_29 (n := 30) rfl (by decide) ?_
      refine dk_icmp_eq (t := 37) C dX9_handFault_30 (n := 33) rfl (by decide) (fun c5 => ?_) (fun c5 => ?_)
      · have h := h.1 c5
        refine dk_iconst (v := 0) C dX9_handFault_37 (n := 38) rfl (by decide) ?_
        exact dk_iret C hr hlk rfl dX9_handFault_38 ⟨_, rfl, h⟩
      · have h := h.2 c5
        refine dk_iconst (v := 3) C dX9_handFault_33 (n := 34) rfl (by decide) ?_
        refine dk_goto (t := 38) C dX9_handFault_34 (by decide) ?_
        exact dk_iret C hr hlk rfl dX9_handFault_38 ⟨_, rfl, h⟩
    · have h := h.2 c6
      refine dk_iconst (v := 2) C dX9_handFault_19 (n := 20) rfl (by decide) ?_
      refine dk_goto (t := 38) C dX9_handFault_20 (by decide) ?_
      exact dk_iret C hr hlk rfl dX9_handFault_38 ⟨_, rfl, h⟩
  · have h := h.2 c7
    refine dk_iconst (v := 1) C dX9_handFault_8 (n := 9) rfl (by decide) ?_
    refine dk_goto (t := 38) C dX9_handFault_9 (by decide) ?_
    exact dk_iret C hr hlk rfl dX9_handFault_38 ⟨_, rfl, h⟩
/-! X9_drop -/
def wf_X9_drop (a1 : Int32) (s : dk_S) (K : Int32 → dk_S → Prop) : Prop :=
  wf_X9_handFault a1 s (fun r2 s1 => wf_X9_goesOn r2 s1 (fun r4 s3 => ((¬ r4 = 0 → (vp_in 0 8 ∧ (vp_in a1 24 ∧ (∀ s5 : dk_S, s5 = dk_row s3 4 82 (upd (s3 4 82) a1.toNatClampNeg (s3 4 76 0.toNatClampNeg)) → wf_X9_carriedWeight s5 (fun r7 s6 => wf_X9_ends s6 (fun s8 => K r7 s8)))))) ∧ (r4 = 0 → K 0 s3))))
set_option maxRecDepth 20000 in
set_option maxHeartbeats 4000000 in
theorem cc_X9_drop {G : dk_G} {l : Launch} {a1 : Int32} (hD : dk_D G) (hmi : dk_MI G) {s : dk_S} {K : Int32 → dk_S → Prop} (h : wf_X9_drop a1 s K) : dk_M G l 9 yX9_drop cX9_drop 3 (some .int) [dk_r G 4 60, .int a1] s (dk_ki K) := by
  refine dk_of hD (by decide) [some (dk_r G 4 60), some (.int a1), none] (fun q hq => hq) rfl (Nat.le_of_ble_eq_true rfl) (fun P e S0 m args bel meth c C hr hlk => ?_)
  unfold wf_X9_drop at h
  refine dk_aload_n (i := 0) C dX9_drop_0 (n := 1) rfl rfl rfl ?_
  refine dk_aload_n (i := 0) C dX9_drop_1 (n := 2) rfl rfl rfl ?_
  refine dk_iload_n (i := 1) C dX9_drop_2 (n := 3) rfl rfl rfl ?_
  refine dk_callVi C [dk_r G 4 60] (cc_X9_handFault C.D hmi h) yy_X9_handFault dk_wm_X9_282 dk_sh60 (hmi 60 (by decide) (by decide)) dX9_drop_3 (fun r2 s1 h => ?_) rfl rfl ⟨Nat.le_of_ble_eq_true rfl, Nat.le_of_ble_eq_true rfl⟩ rfl (Nat.le_of_ble_eq_true rfl) rfl (n := 6) rfl
  refine dk_callVi C [] (cc_X9_goesOn C.D hmi h) yy_X9_goesOn dk_wm_X9_149 dk_sh60 (hmi 60 (by decide) (by decide)) dX9_drop_6 (fun r4 s3 h => ?_) rfl rfl ⟨Nat.le_of_ble_eq_true rfl, Nat.le_of_ble_eq_true rfl⟩ rfl (Nat.le_of_ble_eq_true rfl) rfl (n := 9) rfl
  refine dk_if_ne (t := 14) C dX9_drop_9 (n := 12) rfl (by decide) (fun c9 => ?_) (fun c9 => ?_)
  · have h := h.1 c9
    refine dk_aload_n (i := 0) C dX9_drop_14 (n := 15) rfl rfl rfl ?_
    refine gf_X9_83 C (hmi 60 (by decide) (by decide)) dX9_drop_15 (n := 18) rfl ?_
    refine dk_iload_n (i := 1) C dX9_drop_18 (n := 19) rfl rfl rfl ?_
    refine dk_aload_n (i := 0) C dX9_drop_19 (n := 20) rfl rfl rfl ?_
    refine gf_X9_65 C (hmi 60 (by decide) (by decide)) dX9_drop_20 (n := 23) rfl ?_
    refine dk_iconst (v := 0) C dX9_drop_23 (n := 24) rfl (by decide) ?_
    refine dk_iald C dk_sh76 h.1 (hmi 76 (by decide) (by decide)) dX9_drop_24 (n := 25) rfl ?_
    have h := h.2
    refine dk_iast C dk_sh82 h.1 (hmi 82 (by decide) (by decide)) dX9_drop_25 (n := 26) rfl ?_
    refine dk_nameS (fun s5 es5 => ?_)
    have h := h.2 s5 es5
    refine dk_aload_n (i := 0) C dX9_drop_26 (n := 27) rfl rfl rfl ?_
    refine dk_callVi C [] (cc_X9_carriedWeight C.D hmi h) yy_X9_carriedWeight dk_wm_X9_276 dk_sh60 (hmi 60 (by decide) (by decide)) dX9_drop_27 (fun r7 s6 h => ?_) rfl rfl ⟨Nat.le_of_ble_eq_true rfl, Nat.le_of_ble_eq_true rfl⟩ rfl (Nat.le_of_ble_eq_true rfl) rfl (n := 30) rfl
    refine dk_istore_n (i := 2) (L' := [some (dk_r G 4 60), some (.int a1), some (.int r7)]) C dX9_drop_30 (n := 31) rfl rfl (dk_nc_of rfl) (Nat.le_of_ble_eq_true rfl) rfl ?_
    refine dk_aload_n (i := 0) C dX9_drop_31 (n := 32) rfl rfl rfl ?_
    refine dk_callVv C [] (cc_X9_ends C.D hmi h) yy_X9_ends dk_wm_X9_273 dk_sh60 (hmi 60 (by decide) (by decide)) dX9_drop_32 (fun s8 h => ?_) rfl rfl ⟨Nat.le_of_ble_eq_true rfl, Nat.le_of_ble_eq_true rfl⟩ rfl (Nat.le_of_ble_eq_true rfl) rfl (n := 35) rfl
    refine dk_iload_n (i := 2) C dX9_drop_35 (n := 36) rfl rfl rfl ?_
    exact dk_iret C hr hlk rfl dX9_drop_36 ⟨_, rfl, h⟩
  · have h := h.2 c9
    refine dk_iconst (v := 0) C dX9_drop_12 (n := 13) rfl (by decide) ?_
    exact dk_iret C hr hlk rfl dX9_drop_13 ⟨_, rfl, h⟩
/-! X9_pack -/
def wf_X9_pack_172  (K : Int32 → dk_S → Prop) : Nat → Int32 → Int32 → Int32 → dk_S → Prop
  | 0, _, _, _, _ => False
  | n + 1, x1, x6, x7, s => (((s 4 60 15) ≤ x7 → wf_X9_ends s (fun s42 => K x6 s42)) ∧ (¬ (s 4 60 15) ≤ x7 → (vp_in x7 24 ∧ (vp_in x1 24 ∧ ((¬ (s 4 82 x7.toNatClampNeg) = (s 4 82 x1.toNatClampNeg) → ∀ v43 : Int32, v43 = x6 + 0 → ∀ v44 : Int32, v44 = x7 + 1 → wf_X9_pack_172 K n x1 v43 v44 s) ∧ ((s 4 82 x7.toNatClampNeg) = (s 4 82 x1.toNatClampNeg) → ∀ v45 : Int32, v45 = x6 + 1 → ∀ v46 : Int32, v46 = x7 + 1 → wf_X9_pack_172 K n x1 v45 v46 s))))))
def wf_X9_pack_139  (K : Int32 → dk_S → Prop) (x1 : Int32) (x2 : Int32) (y0 : Int32) (s : dk_S) : Prop :=
  wf_X9_goesOn y0 s (fun r35 s34 => ((¬ r35 = 0 → ((¬ x2 = (-1) → (vp_in x1 24 ∧ (∀ s36 : dk_S, s36 = dk_row s34 4 82 (upd (s34 4 82) x1.toNatClampNeg ((-3) - x2)) → ∃ nn37 : Nat, wf_X9_pack_172 K nn37 x1 0 0 s36))) ∧ (x2 = (-1) → (vp_in x1 24 ∧ (∀ s38 : dk_S, s38 = dk_row s34 4 82 (upd (s34 4 82) x1.toNatClampNeg (-1)) → ∃ nn39 : Nat, wf_X9_pack_172 K nn39 x1 0 0 s38))))) ∧ (r35 = 0 → K 0 s34)))
def wf_X9_pack_109  (K : Int32 → dk_S → Prop) (x1 : Int32) (x2 : Int32) (x3 : Int32) (x4 : Int32) (y0 : Int32) (s : dk_S) : Prop :=
  ((x3 = 0 → ((¬ x4 = 0 → ((y0 = 0 → wf_X9_pack_139 K x1 x2 0 s) ∧ (¬ y0 = 0 → wf_X9_pack_139 K x1 x2 4 s))) ∧ (x4 = 0 → wf_X9_pack_139 K x1 x2 3 s))) ∧ (¬ x3 = 0 → wf_X9_pack_139 K x1 x2 x3 s))
def wf_X9_pack_70  (K : Int32 → dk_S → Prop) (x1 : Int32) (x2 : Int32) (x3 : Int32) (y0 : Int32) (s : dk_S) : Prop :=
  ((y0 = 0 → wf_X9_pack_109 K x1 x2 x3 y0 0 s) ∧ (¬ y0 = 0 → ((x2 = (-1) → wf_X9_pack_109 K x1 x2 x3 y0 0 s) ∧ (¬ x2 = (-1) → wf_X9_isBag x2 s (fun r23 s22 => ((r23 = 0 → wf_X9_pack_109 K x1 x2 x3 y0 1 s22) ∧ (¬ r23 = 0 → ((x2 = x1 → wf_X9_pack_109 K x1 x2 x3 y0 1 s22) ∧ (¬ x2 = x1 → wf_X9_isWithin x2 x1 s22 (fun r25 s24 => ((r25 = 0 → wf_X9_pack_109 K x1 x2 x3 y0 0 s24) ∧ (¬ r25 = 0 → wf_X9_pack_109 K x1 x2 x3 y0 1 s24))))))))))))
def wf_X9_pack_37  (K : Int32 → dk_S → Prop) (x1 : Int32) (x2 : Int32) (y0 : Int32) (s : dk_S) : Prop :=
  ((¬ y0 = 0 → wf_X9_pack_70 K x1 x2 y0 0 s) ∧ (y0 = 0 → wf_X9_outermost x1 s (fun r15 s14 => ((¬ r15 = (-1) → wf_X9_pack_70 K x1 x2 y0 0 s14) ∧ (r15 = (-1) → ((x2 = (-1) → wf_X9_pack_70 K x1 x2 y0 1 s14) ∧ (¬ x2 = (-1) → wf_X9_outermost x2 s14 (fun r17 s16 => ((¬ r17 = (-1) → wf_X9_pack_70 K x1 x2 y0 0 s16) ∧ (r17 = (-1) → wf_X9_pack_70 K x1 x2 y0 1 s16))))))))))
def wf_X9_pack (a1 : Int32) (a2 : Int32) (s : dk_S) (K : Int32 → dk_S → Prop) : Prop :=
  wf_X9_isThing a1 s (fun r2 s1 => ((r2 = 0 → wf_X9_pack_37 K a1 a2 1 s1) ∧ (¬ r2 = 0 → ((a2 = (-1) → wf_X9_isOn s1 (fun r4 s3 => ((¬ r4 = 0 → wf_X9_pack_37 K a1 a2 0 s3) ∧ (r4 = 0 → wf_X9_pack_37 K a1 a2 2 s3)))) ∧ (¬ a2 = (-1) → wf_X9_isThing a2 s1 (fun r7 s6 => ((¬ r7 = 0 → wf_X9_isOn s6 (fun r9 s8 => ((¬ r9 = 0 → wf_X9_pack_37 K a1 a2 0 s8) ∧ (r9 = 0 → wf_X9_pack_37 K a1 a2 2 s8)))) ∧ (r7 = 0 → wf_X9_pack_37 K a1 a2 1 s6))))))))
set_option maxRecDepth 20000 in
set_option maxHeartbeats 4000000 in
theorem ww_X9_pack_172 {G : dk_G} {P : Program} {l : Launch} {e : Env} {S0 : State} {m : MethodId} {args : Array Value} {bel : List Frame} {meth : Method} {c : Code}  (C : dk_C G P (dk_rm 9) S0 m args c 0 0 cX9_pack 8 RX9) (hr : meth.sig.returnType = (some .int)) (hlk : meth.locks = false) (hmi : dk_MI G) {K : Int32 → dk_S → Prop}  : ∀ (n : Nat) (x1 : Int32) (x6 : Int32) (x7 : Int32) (s : dk_S), wf_X9_pack_172 K n x1 x6 x7 s → dk_W G P l e (dk_rm 9) S0 m args bel meth c 0 0 (MQ bel (dk_Qc G (dk_ki K)) args S0 0 0 (dk_A G)) 172 [some (dk_r G 4 60), some (.int x1), none, none, none, none, some (.int x6), some (.int x7)] [] s := by
  intro n
  induction n with
  | zero => intro x1 x6 x7 s h; exact False.elim h
  | succ n hB =>
    intro x1 x6 x7 s h
    unfold wf_X9_pack_172 at h
    refine dk_iload C dX9_pack_172 (n := 174) rfl (i := 7) rfl ?_
    refine dk_aload_n (i := 0) C dX9_pack_174 (n := 175) rfl rfl rfl ?_
    refine gf_X9_162 C (hmi 60 (by decide) (by decide)) dX9_pack_175 (n := 178) rfl ?_
    refine dk_icmp_ge (t := 213) C dX9_pack_178 (n := 181) rfl (by decide) (fun c48 => ?_) (fun c48 => ?_)
    · have h := h.1 c48
      refine dk_aload_n (i := 0) C dX9_pack_213 (n := 214) rfl rfl rfl ?_
      refine dk_callVv C [] (cc_X9_ends C.D hmi h) yy_X9_ends dk_wm_X9_273 dk_sh60 (hmi 60 (by decide) (by decide)) dX9_pack_214 (fun s42 h => ?_) rfl rfl ⟨Nat.le_of_ble_eq_true rfl, Nat.le_of_ble_eq_true rfl⟩ rfl (Nat.le_of_ble_eq_true rfl) rfl (n := 217) rfl
      refine dk_iload C dX9_pack_217 (n := 219) rfl (i := 6) rfl ?_
      exact dk_iret C hr hlk rfl dX9_pack_219 ⟨_, rfl, h⟩
    · have h := h.2 c48
      refine dk_iload C dX9_pack_181 (n := 183) rfl (i := 6) rfl ?_
      refine dk_aload_n (i := 0) C dX9_pack_183 (n := 184) rfl rfl rfl ?_
      refine gf_X9_83 C (hmi 60 (by decide) (by decide)) dX9_pack_184 (n := 187) rfl ?_
      refine dk_iload C dX9_pack_187 (n := 189) rfl (i := 7) rfl ?_
      refine dk_iald C dk_sh82 h.1 (hmi 82 (by decide) (by decide)) dX9_pack_189 (n := 190) rfl ?_
      have h := h.2
      refine dk_aload_n (i := 0) C dX9_pack_190 (n := 191) rfl rfl rfl ?_
      refine gf_X9_83 C (hmi 60 (by decide) (by decide)) dX9_pack_191 (n := 194) rfl ?_
      refine dk_iload_n (i := 1) C dX9_pack_194 (n := 195) rfl rfl rfl ?_
      refine dk_iald C dk_sh82 h.1 (hmi 82 (by decide) (by decide)) dX9_pack_195 (n := 196) rfl ?_
      have h := h.2
      refine dk_icmp_ne (t := 203) C dX9_pack_196 (n := 199) rfl (by decide) (fun c47 => ?_) (fun c47 => ?_)
      · have h := h.1 c47
        refine dk_iconst (v := 0) C dX9_pack_203 (n := 204) rfl (by decide) ?_
        refine dk_iadd C dX9_pack_204 (n := 205) rfl ?_
        refine dk_name (fun v43 ev43 => ?_)
        have h := h v43 ev43
        refine dk_istore (i := 6) (L' := [some (dk_r G 4 60), some (.int x1), none, none, none, none, some (.int v43), some (.int x7)]) C dX9_pack_205 (n := 207) rfl (dk_nc_of rfl) (Nat.le_of_ble_eq_true rfl) rfl ?_
        obtain ⟨v44, ev44⟩ : ∃ y : Int32, y = x7 + 1 := ⟨_, rfl⟩
        have h := h v44 ev44
        refine dk_iinc (i := 7) (v := v44) (L' := [some (dk_r G 4 60), some (.int x1), none, none, none, none, some (.int v43), some (.int v44)]) C dX9_pack_207 (n := 210) rfl rfl (by rw [ev44]; rfl) (dk_nc_of rfl) (Nat.le_of_ble_eq_true rfl) rfl ?_
        refine dk_goto (t := 172) C dX9_pack_210 (by decide) ?_
        refine dk_sub (L0 := [some (dk_r G 4 60), some (.int x1), none, none, none, none, some (.int v43), some (.int v44)]) ⟨rfl, ⟨rfl, ⟨rfl, ⟨rfl, trivial⟩⟩⟩⟩ ?_
        exact hB x1 v43 v44 s h
      · have h := h.2 c47
        refine dk_iconst (v := 1) C dX9_pack_199 (n := 200) rfl (by decide) ?_
        refine dk_goto (t := 204) C dX9_pack_200 (by decide) ?_
        refine dk_iadd C dX9_pack_204 (n := 205) rfl ?_
        refine dk_name (fun v45 ev45 => ?_)
        have h := h v45 ev45
        refine dk_istore (i := 6) (L' := [some (dk_r G 4 60), some (.int x1), none, none, none, none, some (.int v45), some (.int x7)]) C dX9_pack_205 (n := 207) rfl (dk_nc_of rfl) (Nat.le_of_ble_eq_true rfl) rfl ?_
        obtain ⟨v46, ev46⟩ : ∃ y : Int32, y = x7 + 1 := ⟨_, rfl⟩
        have h := h v46 ev46
        refine dk_iinc (i := 7) (v := v46) (L' := [some (dk_r G 4 60), some (.int x1), none, none, none, none, some (.int v45), some (.int v46)]) C dX9_pack_207 (n := 210) rfl rfl (by rw [ev46]; rfl) (dk_nc_of rfl) (Nat.le_of_ble_eq_true rfl) rfl ?_
        refine dk_goto (t := 172) C dX9_pack_210 (by decide) ?_
        refine dk_sub (L0 := [some (dk_r G 4 60), some (.int x1), none, none, none, none, some (.int v45), some (.int v46)]) ⟨rfl, ⟨rfl, ⟨rfl, ⟨rfl, trivial⟩⟩⟩⟩ ?_
        exact hB x1 v45 v46 s h
set_option maxRecDepth 20000 in
set_option maxHeartbeats 4000000 in
theorem ww_X9_pack_139 {G : dk_G} {P : Program} {l : Launch} {e : Env} {S0 : State} {m : MethodId} {args : Array Value} {bel : List Frame} {meth : Method} {c : Code}  (C : dk_C G P (dk_rm 9) S0 m args c 0 0 cX9_pack 8 RX9) (hr : meth.sig.returnType = (some .int)) (hlk : meth.locks = false) (hmi : dk_MI G) {K : Int32 → dk_S → Prop}  : ∀ (x1 : Int32) (x2 : Int32) (y0 : Int32) (s : dk_S), wf_X9_pack_139 K x1 x2 y0 s → dk_W G P l e (dk_rm 9) S0 m args bel meth c 0 0 (MQ bel (dk_Qc G (dk_ki K)) args S0 0 0 (dk_A G)) 139 [some (dk_r G 4 60), some (.int x1), some (.int x2), none, none, none, none, none] [.int y0, dk_r G 4 60] s := by
  intro x1 x2 y0 s h
  unfold wf_X9_pack_139 at h
  refine dk_callVi C [] (cc_X9_goesOn C.D hmi h) yy_X9_goesOn dk_wm_X9_149 dk_sh60 (hmi 60 (by decide) (by decide)) dX9_pack_139 (fun r35 s34 h => ?_) rfl rfl ⟨Nat.le_of_ble_eq_true rfl, Nat.le_of_ble_eq_true rfl⟩ rfl (Nat.le_of_ble_eq_true rfl) rfl (n := 142) rfl
  refine dk_if_ne (t := 147) C dX9_pack_142 (n := 145) rfl (by decide) (fun c41 => ?_) (fun c41 => ?_)
  · have h := h.1 c41
    refine dk_aload_n (i := 0) C dX9_pack_147 (n := 148) rfl rfl rfl ?_
    refine gf_X9_83 C (hmi 60 (by decide) (by decide)) dX9_pack_148 (n := 151) rfl ?_
    refine dk_iload_n (i := 1) C dX9_pack_151 (n := 152) rfl rfl rfl ?_
    refine dk_iload_n (i := 2) C dX9_pack_152 (n := 153) rfl rfl rfl ?_
    refine dk_iconst (v := (-1)) C dX9_pack_153 (n := 154) rfl (by decide) ?_
    refine dk_icmp_ne (t := 161) C dX9_pack_154 (n := 157) rfl (by decide) (fun c40 => ?_) (fun c40 => ?_)
    · have h := h.1 c40
      refine dk_bipush (v := (-3)) C dX9_pack_161 (n := 163) rfl (by decide) ?_
      refine dk_iload_n (i := 2) C dX9_pack_163 (n := 164) rfl rfl rfl ?_
      refine dk_isub C dX9_pack_164 (n := 165) rfl ?_
      refine dk_iast C dk_sh82 h.1 (hmi 82 (by decide) (by decide)) dX9_pack_165 (n := 166) rfl ?_
      refine dk_nameS (fun s36 es36 => ?_)
      have h := h.2 s36 es36
      refine dk_iconst (v := 0) C dX9_pack_166 (n := 167) rfl (by decide) ?_
      refine dk_istore (i := 6) (L' := [some (dk_r G 4 60), some (.int x1), some (.int x2), none, none, none, some (.int 0), none]) C dX9_pack_167 (n := 169) rfl (dk_nc_of rfl) (Nat.le_of_ble_eq_true rfl) rfl ?_
      refine dk_iconst (v := 0) C dX9_pack_169 (n := 170) rfl (by decide) ?_
      refine dk_istore (i := 7) (L' := [some (dk_r G 4 60), some (.int x1), some (.int x2), none, none, none, some (.int 0), some (.int 0)]) C dX9_pack_170 (n := 172) rfl (dk_nc_of rfl) (Nat.le_of_ble_eq_true rfl) rfl ?_
      obtain ⟨nn37, h⟩ := h
      refine dk_sub (L0 := [some (dk_r G 4 60), some (.int x1), none, none, none, none, some (.int 0), some (.int 0)]) ⟨rfl, ⟨rfl, ⟨rfl, ⟨rfl, trivial⟩⟩⟩⟩ ?_
      refine ww_X9_pack_172 C hr hlk hmi  nn37 x1 0 0 s36 h
    · have h := h.2 c40
      refine dk_iconst (v := (-1)) C dX9_pack_157 (n := 158) rfl (by decide) ?_
      refine dk_goto (t := 165) C dX9_pack_158 (by decide) ?_
      refine dk_iast C dk_sh82 h.1 (hmi 82 (by decide) (by decide)) dX9_pack_165 (n := 166) rfl ?_
      refine dk_nameS (fun s38 es38 => ?_)
      have h := h.2 s38 es38
      refine dk_iconst (v := 0) C dX9_pack_166 (n := 167) rfl (by decide) ?_
      refine dk_istore (i := 6) (L' := [some (dk_r G 4 60), some (.int x1), some (.int x2), none, none, none, some (.int 0), none]) C dX9_pack_167 (n := 169) rfl (dk_nc_of rfl) (Nat.le_of_ble_eq_true rfl) rfl ?_
      refine dk_iconst (v := 0) C dX9_pack_169 (n := 170) rfl (by decide) ?_
      refine dk_istore (i := 7) (L' := [some (dk_r G 4 60), some (.int x1), some (.int x2), none, none, none, some (.int 0), some (.int 0)]) C dX9_pack_170 (n := 172) rfl (dk_nc_of rfl) (Nat.le_of_ble_eq_true rfl) rfl ?_
      obtain ⟨nn39, h⟩ := h
      refine dk_sub (L0 := [some (dk_r G 4 60), some (.int x1), none, none, none, none, some (.int 0), some (.int 0)]) ⟨rfl, ⟨rfl, ⟨rfl, ⟨rfl, trivial⟩⟩⟩⟩ ?_
      refine ww_X9_pack_172 C hr hlk hmi  nn39 x1 0 0 s38 h
  · have h := h.2 c41
    refine dk_iconst (v := 0) C dX9_pack_145 (n := 146) rfl (by decide) ?_
    exact dk_iret C hr hlk rfl dX9_pack_146 ⟨_, rfl, h⟩
set_option maxRecDepth 20000 in
set_option maxHeartbeats 4000000 in
theorem ww_X9_pack_109 {G : dk_G} {P : Program} {l : Launch} {e : Env} {S0 : State} {m : MethodId} {args : Array Value} {bel : List Frame} {meth : Method} {c : Code}  (C : dk_C G P (dk_rm 9) S0 m args c 0 0 cX9_pack 8 RX9) (hr : meth.sig.returnType = (some .int)) (hlk : meth.locks = false) (hmi : dk_MI G) {K : Int32 → dk_S → Prop}  : ∀ (x1 : Int32) (x2 : Int32) (x3 : Int32) (x4 : Int32) (y0 : Int32) (s : dk_S), wf_X9_pack_109 K x1 x2 x3 x4 y0 s → dk_W G P l e (dk_rm 9) S0 m args bel meth c 0 0 (MQ bel (dk_Qc G (dk_ki K)) args S0 0 0 (dk_A G)) 109 [some (dk_r G 4 60), some (.int x1), some (.int x2), some (.int x3), some (.int x4), none, none, none] [.int y0] s := by
  intro x1 x2 x3 x4 y0 s h
  unfold wf_X9_pack_109 at h
  refine dk_istore (i := 5) (L' := [some (dk_r G 4 60), some (.int x1), some (.int x2), some (.int x3), some (.int x4), some (.int y0), none, none]) C dX9_pack_109 (n := 111) rfl (dk_nc_of rfl) (Nat.le_of_ble_eq_true rfl) rfl ?_
  refine dk_aload_n (i := 0) C dX9_pack_111 (n := 112) rfl rfl rfl ?_
  refine dk_iload_n (i := 3) C dX9_pack_112 (n := 113) rfl rfl rfl ?_
  refine dk_if_eq (t := 120) C dX9_pack_113 (n := 116) rfl (by decide) (fun c33 => ?_) (fun c33 => ?_)
  · have h := h.1 c33
    refine dk_iload C dX9_pack_120 (n := 122) rfl (i := 4) rfl ?_
    refine dk_if_ne (t := 129) C dX9_pack_122 (n := 125) rfl (by decide) (fun c32 => ?_) (fun c32 => ?_)
    · have h := h.1 c32
      refine dk_iload C dX9_pack_129 (n := 131) rfl (i := 5) rfl ?_
      refine dk_if_eq (t := 138) C dX9_pack_131 (n := 134) rfl (by decide) (fun c31 => ?_) (fun c31 => ?_)
      · have h := h.1 c31
        refine dk_iconst (v := 0) C dX9_pack_138 (n := 139) rfl (by decide) ?_
        refine dk_sub (L0 := [some (dk_r G 4 60), some (.int x1), some (.int x2), none, none, none, none, none]) ⟨rfl, ⟨rfl, ⟨rfl, trivial⟩⟩⟩ ?_
        exact ww_X9_pack_139 C hr hlk hmi  x1 x2 0 s h
      · have h := h.2 c31
        refine dk_iconst (v := 4) C dX9_pack_134 (n := 135) rfl (by decide) ?_
        refine dk_goto (t := 139) C dX9_pack_135 (by decide) ?_
        refine dk_sub (L0 := [some (dk_r G 4 60), some (.int x1), some (.int x2), none, none, none, none, none]) ⟨rfl, ⟨rfl, ⟨rfl, trivial⟩⟩⟩ ?_
        exact ww_X9_pack_139 C hr hlk hmi  x1 x2 4 s h
    · have h := h.2 c32
      refine dk_iconst (v := 3) C dX9_pack_125 (n := 126) rfl (by decide) ?_
      refine dk_goto (t := 139) C dX9_pack_126 (by decide) ?_
      refine dk_sub (L0 := [some (dk_r G 4 60), some (.int x1), some (.int x2), none, none, none, none, none]) ⟨rfl, ⟨rfl, ⟨rfl, trivial⟩⟩⟩ ?_
      exact ww_X9_pack_139 C hr hlk hmi  x1 x2 3 s h
  · have h := h.2 c33
    refine dk_iload_n (i := 3) C dX9_pack_116 (n := 117) rfl rfl rfl ?_
    refine dk_goto (t := 139) C dX9_pack_117 (by decide) ?_
    refine dk_sub (L0 := [some (dk_r G 4 60), some (.int x1), some (.int x2), none, none, none, none, none]) ⟨rfl, ⟨rfl, ⟨rfl, trivial⟩⟩⟩ ?_
    exact ww_X9_pack_139 C hr hlk hmi  x1 x2 x3 s h
set_option maxRecDepth 20000 in
set_option maxHeartbeats 4000000 in
theorem ww_X9_pack_70 {G : dk_G} {P : Program} {l : Launch} {e : Env} {S0 : State} {m : MethodId} {args : Array Value} {bel : List Frame} {meth : Method} {c : Code}  (C : dk_C G P (dk_rm 9) S0 m args c 0 0 cX9_pack 8 RX9) (hr : meth.sig.returnType = (some .int)) (hlk : meth.locks = false) (hmi : dk_MI G) {K : Int32 → dk_S → Prop}  : ∀ (x1 : Int32) (x2 : Int32) (x3 : Int32) (y0 : Int32) (s : dk_S), wf_X9_pack_70 K x1 x2 x3 y0 s → dk_W G P l e (dk_rm 9) S0 m args bel meth c 0 0 (MQ bel (dk_Qc G (dk_ki K)) args S0 0 0 (dk_A G)) 70 [some (dk_r G 4 60), some (.int x1), some (.int x2), some (.int x3), none, none, none, none] [.int y0] s := by
  intro x1 x2 x3 y0 s h
  unfold wf_X9_pack_70 at h
  refine dk_istore (i := 4) (L' := [some (dk_r G 4 60), some (.int x1), some (.int x2), some (.int x3), some (.int y0), none, none, none]) C dX9_pack_70 (n := 72) rfl (dk_nc_of rfl) (Nat.le_of_ble_eq_true rfl) rfl ?_
  refine dk_iload C dX9_pack_72 (n := 74) rfl (i := 4) rfl ?_
  refine dk_if_eq (t := 108) C dX9_pack_74 (n := 77) rfl (by decide) (fun c30 => ?_) (fun c30 => ?_)
  · have h := h.1 c30
    refine dk_iconst (v := 0) C dX9_pack_108 (n := 109) rfl (by decide) ?_
    refine dk_sub (L0 := [some (dk_r G 4 60), some (.int x1), some (.int x2), some (.int x3), some (.int y0), none, none, none]) ⟨rfl, ⟨rfl, ⟨rfl, ⟨rfl, ⟨rfl, trivial⟩⟩⟩⟩⟩ ?_
    exact ww_X9_pack_109 C hr hlk hmi  x1 x2 x3 y0 0 s h
  · have h := h.2 c30
    refine dk_iload_n (i := 2) C dX9_pack_77 (n := 78) rfl rfl rfl ?_
    refine dk_iconst (v := (-1)) C dX9_pack_78 (n := 79) rfl (by decide) ?_
    refine dk_icmp_eq (t := 108) C dX9_pack_79 (n := 82) rfl (by decide) (fun c29 => ?_) (fun c29 => ?_)
    · have h := h.1 c29
      refine dk_iconst (v := 0) C dX9_pack_108 (n := 109) rfl (by decide) ?_
      refine dk_sub (L0 := [some (dk_r G 4 60), some (.int x1), some (.int x2), some (.int x3), some (.int y0), none, none, none]) ⟨rfl, ⟨rfl, ⟨rfl, ⟨rfl, ⟨rfl, trivial⟩⟩⟩⟩⟩ ?_
      exact ww_X9_pack_109 C hr hlk hmi  x1 x2 x3 y0 0 s h
    · have h := h.2 c29
      refine dk_aload_n (i := 0) C dX9_pack_82 (n := 83) rfl rfl rfl ?_
      refine dk_iload_n (i := 2) C dX9_pack_83 (n := 84) rfl rfl rfl ?_
      refine dk_callVi C [] (cc_X9_isBag C.D hmi h) yy_X9_isBag dk_wm_X9_285 dk_sh60 (hmi 60 (by decide) (by decide)) dX9_pack_84 (fun r23 s22 h => ?_) rfl rfl ⟨Nat.le_of_ble_eq_true rfl, Nat.le_of_ble_eq_true rfl⟩ rfl (Nat.le_of_ble_eq_true rfl) rfl (n := 87) rfl
      refine dk_if_eq (t := 104) C dX9_pack_87 (n := 90) rfl (by decide) (fun c28 => ?_) (fun c28 => ?_)
      · have h := h.1 c28
        refine dk_iconst (v := 1) C dX9_pack_104 (n := 105) rfl (by decide) ?_
        refine dk_goto (t := 109) C dX9_pack_105 (by decide) ?_
        refine dk_sub (L0 := [some (dk_r G 4 60), some (.int x1), some (.int x2), some (.int x3), some (.int y0), none, none, none]) ⟨rfl, ⟨rfl, ⟨rfl, ⟨rfl, ⟨rfl, trivial⟩⟩⟩⟩⟩ ?_
        exact ww_X9_pack_109 C hr hlk hmi  x1 x2 x3 y0 1 s22 h
      · have h := h.2 c28
        refine dk_iload_n (i := 2) C dX9_pack_90 (n := 91) rfl rfl rfl ?_
        refine dk_iload_n (i := 1) C dX9_pack_91 (n := 92) rfl rfl rfl ?_
        refine dk_icmp_eq (t := 104) C dX9_pack_92 (n := 95) rfl (by decide) (fun c27 => ?_) (fun c27 => ?_)
        · have h := h.1 c27
          refine dk_iconst (v := 1) C dX9_pack_104 (n := 105) rfl (by decide) ?_
          refine dk_goto (t := 109) C dX9_pack_105 (by decide) ?_
          refine dk_sub (L0 := [some (dk_r G 4 60), some (.int x1), some (.int x2), some (.int x3), some (.int y0), none, none, none]) ⟨rfl, ⟨rfl, ⟨rfl, ⟨rfl, ⟨rfl, trivial⟩⟩⟩⟩⟩ ?_
          exact ww_X9_pack_109 C hr hlk hmi  x1 x2 x3 y0 1 s22 h
        · have h := h.2 c27
          refine dk_aload_n (i := 0) C dX9_pack_95 (n := 96) rfl rfl rfl ?_
          refine dk_iload_n (i := 2) C dX9_pack_96 (n := 97) rfl rfl rfl ?_
          refine dk_iload_n (i := 1) C dX9_pack_97 (n := 98) rfl rfl rfl ?_
          refine dk_callVi C [] (cc_X9_isWithin C.D hmi h) yy_X9_isWithin dk_wm_X9_203 dk_sh60 (hmi 60 (by decide) (by decide)) dX9_pack_98 (fun r25 s24 h => ?_) rfl rfl ⟨Nat.le_of_ble_eq_true rfl, Nat.le_of_ble_eq_true rfl⟩ rfl (Nat.le_of_ble_eq_true rfl) rfl (n := 101) rfl
          refine dk_if_eq (t := 108) C dX9_pack_101 (n := 104) rfl (by decide) (fun c26 => ?_) (fun c26 => ?_)
          · have h := h.1 c26
            refine dk_iconst (v := 0) C dX9_pack_108 (n := 109) rfl (by decide) ?_
            refine dk_sub (L0 := [some (dk_r G 4 60), some (.int x1), some (.int x2), some (.int x3), some (.int y0), none, none, none]) ⟨rfl, ⟨rfl, ⟨rfl, ⟨rfl, ⟨rfl, trivial⟩⟩⟩⟩⟩ ?_
            exact ww_X9_pack_109 C hr hlk hmi  x1 x2 x3 y0 0 s24 h
          · have h := h.2 c26
            refine dk_iconst (v := 1) C dX9_pack_104 (n := 105) rfl (by decide) ?_
            refine dk_goto (t := 109) C dX9_pack_105 (by decide) ?_
            refine dk_sub (L0 := [some (dk_r G 4 60), some (.int x1), some (.int x2), some (.int x3), some (.int y0), none, none, none]) ⟨rfl, ⟨rfl, ⟨rfl, ⟨rfl, ⟨rfl, trivial⟩⟩⟩⟩⟩ ?_
            exact ww_X9_pack_109 C hr hlk hmi  x1 x2 x3 y0 1 s24 h
set_option maxRecDepth 20000 in
set_option maxHeartbeats 4000000 in
theorem ww_X9_pack_37 {G : dk_G} {P : Program} {l : Launch} {e : Env} {S0 : State} {m : MethodId} {args : Array Value} {bel : List Frame} {meth : Method} {c : Code}  (C : dk_C G P (dk_rm 9) S0 m args c 0 0 cX9_pack 8 RX9) (hr : meth.sig.returnType = (some .int)) (hlk : meth.locks = false) (hmi : dk_MI G) {K : Int32 → dk_S → Prop}  : ∀ (x1 : Int32) (x2 : Int32) (y0 : Int32) (s : dk_S), wf_X9_pack_37 K x1 x2 y0 s → dk_W G P l e (dk_rm 9) S0 m args bel meth c 0 0 (MQ bel (dk_Qc G (dk_ki K)) args S0 0 0 (dk_A G)) 37 [some (dk_r G 4 60), some (.int x1), some (.int x2), none, none, none, none, none] [.int y0] s := by
  intro x1 x2 y0 s h
  unfold wf_X9_pack_37 at h
  refine dk_istore_n (i := 3) (L' := [some (dk_r G 4 60), some (.int x1), some (.int x2), some (.int y0), none, none, none, none]) C dX9_pack_37 (n := 38) rfl rfl (dk_nc_of rfl) (Nat.le_of_ble_eq_true rfl) rfl ?_
  refine dk_iload_n (i := 3) C dX9_pack_38 (n := 39) rfl rfl rfl ?_
  refine dk_if_ne (t := 69) C dX9_pack_39 (n := 42) rfl (by decide) (fun c21 => ?_) (fun c21 => ?_)
  · have h := h.1 c21
    refine dk_iconst (v := 0) C dX9_pack_69 (n := 70) rfl (by decide) ?_
    refine dk_sub (L0 := [some (dk_r G 4 60), some (.int x1), some (.int x2), some (.int y0), none, none, none, none]) ⟨rfl, ⟨rfl, ⟨rfl, ⟨rfl, trivial⟩⟩⟩⟩ ?_
    exact ww_X9_pack_70 C hr hlk hmi  x1 x2 y0 0 s h
  · have h := h.2 c21
    refine dk_aload_n (i := 0) C dX9_pack_42 (n := 43) rfl rfl rfl ?_
    refine dk_iload_n (i := 1) C dX9_pack_43 (n := 44) rfl rfl rfl ?_
    refine dk_callVi C [] (cc_X9_outermost C.D hmi h) yy_X9_outermost dk_wm_X9_206 dk_sh60 (hmi 60 (by decide) (by decide)) dX9_pack_44 (fun r15 s14 h => ?_) rfl rfl ⟨Nat.le_of_ble_eq_true rfl, Nat.le_of_ble_eq_true rfl⟩ rfl (Nat.le_of_ble_eq_true rfl) rfl (n := 47) rfl
    refine dk_iconst (v := (-1)) C dX9_pack_47 (n := 48) rfl (by decide) ?_
    refine dk_icmp_ne (t := 69) C dX9_pack_48 (n := 51) rfl (by decide) (fun c20 => ?_) (fun c20 => ?_)
    · have h := h.1 c20
      refine dk_iconst (v := 0) C dX9_pack_69 (n := 70) rfl (by decide) ?_
      refine dk_sub (L0 := [some (dk_r G 4 60), some (.int x1), some (.int x2), some (.int y0), none, none, none, none]) ⟨rfl, ⟨rfl, ⟨rfl, ⟨rfl, trivial⟩⟩⟩⟩ ?_
      exact ww_X9_pack_70 C hr hlk hmi  x1 x2 y0 0 s14 h
    · have h := h.2 c20
      refine dk_iload_n (i := 2) C dX9_pack_51 (n := 52) rfl rfl rfl ?_
      refine dk_iconst (v := (-1)) C dX9_pack_52 (n := 53) rfl (by decide) ?_
      refine dk_icmp_eq (t := 65) C dX9_pack_53 (n := 56) rfl (by decide) (fun c19 => ?_) (fun c19 => ?_)
      · have h := h.1 c19
        refine dk_iconst (v := 1) C dX9_pack_65 (n := 66) rfl (by decide) ?_
        refine dk_goto (t := 70) C dX9_pack_66 (by decide) ?_
        refine dk_sub (L0 := [some (dk_r G 4 60), some (.int x1), some (.int x2), some (.int y0), none, none, none, none]) ⟨rfl, ⟨rfl, ⟨rfl, ⟨rfl, trivial⟩⟩⟩⟩ ?_
        exact ww_X9_pack_70 C hr hlk hmi  x1 x2 y0 1 s14 h
      · have h := h.2 c19
        refine dk_aload_n (i := 0) C dX9_pack_56 (n := 57) rfl rfl rfl ?_
        refine dk_iload_n (i := 2) C dX9_pack_57 (n := 58) rfl rfl rfl ?_
        refine dk_callVi C [] (cc_X9_outermost C.D hmi h) yy_X9_outermost dk_wm_X9_206 dk_sh60 (hmi 60 (by decide) (by decide)) dX9_pack_58 (fun r17 s16 h => ?_) rfl rfl ⟨Nat.le_of_ble_eq_true rfl, Nat.le_of_ble_eq_true rfl⟩ rfl (Nat.le_of_ble_eq_true rfl) rfl (n := 61) rfl
        refine dk_iconst (v := (-1)) C dX9_pack_61 (n := 62) rfl (by decide) ?_
        refine dk_icmp_ne (t := 69) C dX9_pack_62 (n := 65) rfl (by decide) (fun c18 => ?_) (fun c18 => ?_)
        · have h := h.1 c18
          refine dk_iconst (v := 0) C dX9_pack_69 (n := 70) rfl (by decide) ?_
          refine dk_sub (L0 := [some (dk_r G 4 60), some (.int x1), some (.int x2), some (.int y0), none, none, none, none]) ⟨rfl, ⟨rfl, ⟨rfl, ⟨rfl, trivial⟩⟩⟩⟩ ?_
          exact ww_X9_pack_70 C hr hlk hmi  x1 x2 y0 0 s16 h
        · have h := h.2 c18
          refine dk_iconst (v := 1) C dX9_pack_65 (n := 66) rfl (by decide) ?_
          refine dk_goto (t := 70) C dX9_pack_66 (by decide) ?_
          refine dk_sub (L0 := [some (dk_r G 4 60), some (.int x1), some (.int x2), some (.int y0), none, none, none, none]) ⟨rfl, ⟨rfl, ⟨rfl, ⟨rfl, trivial⟩⟩⟩⟩ ?_
          exact ww_X9_pack_70 C hr hlk hmi  x1 x2 y0 1 s16 h
set_option maxRecDepth 20000 in
set_option maxHeartbeats 4000000 in
theorem cc_X9_pack {G : dk_G} {l : Launch} {a1 : Int32} {a2 : Int32} (hD : dk_D G) (hmi : dk_MI G) {s : dk_S} {K : Int32 → dk_S → Prop} (h : wf_X9_pack a1 a2 s K) : dk_M G l 9 yX9_pack cX9_pack 8 (some .int) [dk_r G 4 60, .int a1, .int a2] s (dk_ki K) := by
  refine dk_of hD (by decide) [some (dk_r G 4 60), some (.int a1), some (.int a2), none, none, none, none, none] (fun q hq => hq) rfl (Nat.le_of_ble_eq_true rfl) (fun P e S0 m args bel meth c C hr hlk => ?_)
  unfold wf_X9_pack at h
  refine dk_aload_n (i := 0) C dX9_pack_0 (n := 1) rfl rfl rfl ?_
  refine dk_iload_n (i := 1) C dX9_pack_1 (n := 2) rfl rfl rfl ?_
  refine dk_callVi C [] (cc_X9_isThing C.D hmi h) yy_X9_isThing dk_wm_X9_165 dk_sh60 (hmi 60 (by decide) (by decide)) dX9_pack_2 (fun r2 s1 h => ?_) rfl rfl ⟨Nat.le_of_ble_eq_true rfl, Nat.le_of_ble_eq_true rfl⟩ rfl (Nat.le_of_ble_eq_true rfl) rfl (n := 5) rfl
  refine dk_if_eq (t := 21) C dX9_pack_5 (n := 8) rfl (by decide) (fun c13 => ?_) (fun c13 => ?_)
  · have h := h.1 c13
    refine dk_iconst (v := 1) C dX9_pack_21 (n := 22) rfl (by decide) ?_
    refine dk_goto (t := 37) C dX9_pack_22 (by decide) ?_
    refine dk_sub (L0 := [some (dk_r G 4 60), some (.int a1), some (.int a2), none, none, none, none, none]) ⟨rfl, ⟨rfl, ⟨rfl, trivial⟩⟩⟩ ?_
    exact ww_X9_pack_37 C hr hlk hmi  a1 a2 1 s1 h
  · have h := h.2 c13
    refine dk_iload_n (i := 2) C dX9_pack_8 (n := 9) rfl rfl rfl ?_
    refine dk_iconst (v := (-1)) C dX9_pack_9 (n := 10) rfl (by decide) ?_
    refine dk_icmp_eq (t := 25) C dX9_pack_10 (n := 13) rfl (by decide) (fun c12 => ?_) (fun c12 => ?_)
    · have h := h.1 c12
      refine dk_aload_n (i := 0) C dX9_pack_25 (n := 26) rfl rfl rfl ?_
      refine dk_callVi C [] (cc_X9_isOn C.D hmi h) yy_X9_isOn dk_wm_X9_145 dk_sh60 (hmi 60 (by decide) (by decide)) dX9_pack_26 (fun r4 s3 h => ?_) rfl rfl ⟨Nat.le_of_ble_eq_true rfl, Nat.le_of_ble_eq_true rfl⟩ rfl (Nat.le_of_ble_eq_true rfl) rfl (n := 29) rfl
      refine dk_if_ne (t := 36) C dX9_pack_29 (n := 32) rfl (by decide) (fun c5 => ?_) (fun c5 => ?_)
      · have h := h.1 c5
        refine dk_iconst (v := 0) C dX9_pack_36 (n := 37) rfl (by decide) ?_
        refine dk_sub (L0 := [some (dk_r G 4 60), some (.int a1), some (.int a2), none, none, none, none, none]) ⟨rfl, ⟨rfl, ⟨rfl, trivial⟩⟩⟩ ?_
        exact ww_X9_pack_37 C hr hlk hmi  a1 a2 0 s3 h
      · have h := h.2 c5
        refine dk_iconst (v := 2) C dX9_pack_32 (n := 33) rfl (by decide) ?_
        refine dk_goto (t := 37) C dX9_pack_33 (by decide) ?_
        refine dk_sub (L0 := [some (dk_r G 4 60), some (.int a1), some (.int a2), none, none, none, none, none]) ⟨rfl, ⟨rfl, ⟨rfl, trivial⟩⟩⟩ ?_
        exact ww_X9_pack_37 C hr hlk hmi  a1 a2 2 s3 h
    · have h := h.2 c12
      refine dk_aload_n (i := 0) C dX9_pack_13 (n := 14) rfl rfl rfl ?_
      refine dk_iload_n (i := 2) C dX9_pack_14 (n := 15) rfl rfl rfl ?_
      refine dk_callVi C [] (cc_X9_isThing C.D hmi h) yy_X9_isThing dk_wm_X9_165 dk_sh60 (hmi 60 (by decide) (by decide)) dX9_pack_15 (fun r7 s6 h => ?_) rfl rfl ⟨Nat.le_of_ble_eq_true rfl, Nat.le_of_ble_eq_true rfl⟩ rfl (Nat.le_of_ble_eq_true rfl) rfl (n := 18) rfl
      refine dk_if_ne (t := 25) C dX9_pack_18 (n := 21) rfl (by decide) (fun c11 => ?_) (fun c11 => ?_)
      · have h := h.1 c11
        refine dk_aload_n (i := 0) C dX9_pack_25 (n := 26) rfl rfl rfl ?_
        refine dk_callVi C [] (cc_X9_isOn C.D hmi h) yy_X9_isOn dk_wm_X9_145 dk_sh60 (hmi 60 (by decide) (by decide)) dX9_pack_26 (fun r9 s8 h => ?_) rfl rfl ⟨Nat.le_of_ble_eq_true rfl, Nat.le_of_ble_eq_true rfl⟩ rfl (Nat.le_of_ble_eq_true rfl) rfl (n := 29) rfl
        refine dk_if_ne (t := 36) C dX9_pack_29 (n := 32) rfl (by decide) (fun c10 => ?_) (fun c10 => ?_)
        · have h := h.1 c10
          refine dk_iconst (v := 0) C dX9_pack_36 (n := 37) rfl (by decide) ?_
          refine dk_sub (L0 := [some (dk_r G 4 60), some (.int a1), some (.int a2), none, none, none, none, none]) ⟨rfl, ⟨rfl, ⟨rfl, trivial⟩⟩⟩ ?_
          exact ww_X9_pack_37 C hr hlk hmi  a1 a2 0 s8 h
        · have h := h.2 c10
          refine dk_iconst (v := 2) C dX9_pack_32 (n := 33) rfl (by decide) ?_
          refine dk_goto (t := 37) C dX9_pack_33 (by decide) ?_
          refine dk_sub (L0 := [some (dk_r G 4 60), some (.int a1), some (.int a2), none, none, none, none, none]) ⟨rfl, ⟨rfl, ⟨rfl, trivial⟩⟩⟩ ?_
          exact ww_X9_pack_37 C hr hlk hmi  a1 a2 2 s8 h
      · have h := h.2 c11
        refine dk_iconst (v := 1) C dX9_pack_21 (n := 22) rfl (by decide) ?_
        refine dk_goto (t := 37) C dX9_pack_22 (by decide) ?_
        refine dk_sub (L0 := [some (dk_r G 4 60), some (.int a1), some (.int a2), none, none, none, none, none]) ⟨rfl, ⟨rfl, ⟨rfl, trivial⟩⟩⟩ ?_
        exact ww_X9_pack_37 C hr hlk hmi  a1 a2 1 s6 h
/-! X9_drink -/
def wf_X9_drink_86  (K : Int32 → dk_S → Prop)  (s : dk_S) : Prop :=
  (vp_in 0 8 ∧ ∀ v16 : Int32, v16 = s 4 77 0.toNatClampNeg → wf_X9_ends s (fun s17 => K v16 s17))
def wf_X9_drink_28  (K : Int32 → dk_S → Prop) (x1 : Int32) (y0 : Int32) (s : dk_S) : Prop :=
  wf_X9_goesOn y0 s (fun r8 s7 => ((¬ r8 = 0 → (vp_in x1 24 ∧ ∀ v9 : Int32, v9 = s7 4 71 x1.toNatClampNeg → (vp_in x1 24 ∧ (∀ s10 : dk_S, s10 = dk_row s7 4 82 (upd (s7 4 82) x1.toNatClampNeg (-2)) → (vp_in v9 8 ∧ (∀ s11 : dk_S, s11 = dk_row s10 4 83 (upd (s10 4 83) v9.toNatClampNeg (vp_nar .boolean 1)) → wf_X9_works v9 0 s11 (fun s12 => (vp_in v9 8 ∧ ((¬ (s12 4 64 v9.toNatClampNeg) = 102 → wf_X9_drink_86 K s12) ∧ ((s12 4 64 v9.toNatClampNeg) = 102 → (vp_in 0 8 ∧ wf_X9_burns (s12 4 76 0.toNatClampNeg) 0 s12 (fun s13 => wf_X9_drink_86 K s13)))))))))))) ∧ (r8 = 0 → K 0 s7)))
def wf_X9_drink (a1 : Int32) (s : dk_S) (K : Int32 → dk_S → Prop) : Prop :=
  wf_X9_handFault a1 s (fun r2 s1 => ((¬ r2 = 0 → wf_X9_drink_28 K a1 r2 s1) ∧ (r2 = 0 → (vp_in a1 24 ∧ wf_X9_isPotion (s1 4 71 a1.toNatClampNeg) s1 (fun r4 s3 => ((¬ r4 = 0 → wf_X9_drink_28 K a1 r2 s3) ∧ (r4 = 0 → wf_X9_drink_28 K a1 4 s3)))))))
set_option maxRecDepth 20000 in
set_option maxHeartbeats 4000000 in
theorem ww_X9_drink_86 {G : dk_G} {P : Program} {l : Launch} {e : Env} {S0 : State} {m : MethodId} {args : Array Value} {bel : List Frame} {meth : Method} {c : Code}  (C : dk_C G P (dk_rm 9) S0 m args c 0 0 cX9_drink 5 RX9) (hr : meth.sig.returnType = (some .int)) (hlk : meth.locks = false) (hmi : dk_MI G) {K : Int32 → dk_S → Prop}  : ∀  (s : dk_S), wf_X9_drink_86 K s → dk_W G P l e (dk_rm 9) S0 m args bel meth c 0 0 (MQ bel (dk_Qc G (dk_ki K)) args S0 0 0 (dk_A G)) 86 [some (dk_r G 4 60), none, none, none, none] [] s := by
  intro s h
  unfold wf_X9_drink_86 at h
  refine dk_aload_n (i := 0) C dX9_drink_86 (n := 87) rfl rfl rfl ?_
  refine gf_X9_68 C (hmi 60 (by decide) (by decide)) dX9_drink_87 (n := 90) rfl ?_
  refine dk_iconst (v := 0) C dX9_drink_90 (n := 91) rfl (by decide) ?_
  refine dk_iald C dk_sh77 h.1 (hmi 77 (by decide) (by decide)) dX9_drink_91 (n := 92) rfl ?_
  have h := h.2
  refine dk_name (fun v16 ev16 => ?_)
  have h := h v16 ev16
  refine dk_istore (i := 4) (L' := [some (dk_r G 4 60), none, none, none, some (.int v16)]) C dX9_drink_92 (n := 94) rfl (dk_nc_of rfl) (Nat.le_of_ble_eq_true rfl) rfl ?_
  refine dk_aload_n (i := 0) C dX9_drink_94 (n := 95) rfl rfl rfl ?_
  refine dk_callVv C [] (cc_X9_ends C.D hmi h) yy_X9_ends dk_wm_X9_273 dk_sh60 (hmi 60 (by decide) (by decide)) dX9_drink_95 (fun s17 h => ?_) rfl rfl ⟨Nat.le_of_ble_eq_true rfl, Nat.le_of_ble_eq_true rfl⟩ rfl (Nat.le_of_ble_eq_true rfl) rfl (n := 98) rfl
  refine dk_iload C dX9_drink_98 (n := 100) rfl (i := 4) rfl ?_
  exact dk_iret C hr hlk rfl dX9_drink_100 ⟨_, rfl, h⟩
set_option maxRecDepth 20000 in
set_option maxHeartbeats 4000000 in
theorem ww_X9_drink_28 {G : dk_G} {P : Program} {l : Launch} {e : Env} {S0 : State} {m : MethodId} {args : Array Value} {bel : List Frame} {meth : Method} {c : Code}  (C : dk_C G P (dk_rm 9) S0 m args c 0 0 cX9_drink 5 RX9) (hr : meth.sig.returnType = (some .int)) (hlk : meth.locks = false) (hmi : dk_MI G) {K : Int32 → dk_S → Prop}  : ∀ (x1 : Int32) (y0 : Int32) (s : dk_S), wf_X9_drink_28 K x1 y0 s → dk_W G P l e (dk_rm 9) S0 m args bel meth c 0 0 (MQ bel (dk_Qc G (dk_ki K)) args S0 0 0 (dk_A G)) 28 [some (dk_r G 4 60), some (.int x1), none, none, none] [.int y0, dk_r G 4 60] s := by
  intro x1 y0 s h
  unfold wf_X9_drink_28 at h
  refine dk_callVi C [] (cc_X9_goesOn C.D hmi h) yy_X9_goesOn dk_wm_X9_149 dk_sh60 (hmi 60 (by decide) (by decide)) dX9_drink_28 (fun r8 s7 h => ?_) rfl rfl ⟨Nat.le_of_ble_eq_true rfl, Nat.le_of_ble_eq_true rfl⟩ rfl (Nat.le_of_ble_eq_true rfl) rfl (n := 31) rfl
  refine dk_if_ne (t := 36) C dX9_drink_31 (n := 34) rfl (by decide) (fun c15 => ?_) (fun c15 => ?_)
  · have h := h.1 c15
    refine dk_aload_n (i := 0) C dX9_drink_36 (n := 37) rfl rfl rfl ?_
    refine gf_X9_50 C (hmi 60 (by decide) (by decide)) dX9_drink_37 (n := 40) rfl ?_
    refine dk_iload_n (i := 1) C dX9_drink_40 (n := 41) rfl rfl rfl ?_
    refine dk_iald C dk_sh71 h.1 (hmi 71 (by decide) (by decide)) dX9_drink_41 (n := 42) rfl ?_
    have h := h.2
    refine dk_name (fun v9 ev9 => ?_)
    have h := h v9 ev9
    refine dk_istore_n (i := 3) (L' := [some (dk_r G 4 60), some (.int x1), none, some (.int v9), none]) C dX9_drink_42 (n := 43) rfl rfl (dk_nc_of rfl) (Nat.le_of_ble_eq_true rfl) rfl ?_
    refine dk_aload_n (i := 0) C dX9_drink_43 (n := 44) rfl rfl rfl ?_
    refine gf_X9_83 C (hmi 60 (by decide) (by decide)) dX9_drink_44 (n := 47) rfl ?_
    refine dk_iload_n (i := 1) C dX9_drink_47 (n := 48) rfl rfl rfl ?_
    refine dk_bipush (v := (-2)) C dX9_drink_48 (n := 50) rfl (by decide) ?_
    refine dk_iast C dk_sh82 h.1 (hmi 82 (by decide) (by decide)) dX9_drink_50 (n := 51) rfl ?_
    refine dk_nameS (fun s10 es10 => ?_)
    have h := h.2 s10 es10
    refine dk_aload_n (i := 0) C dX9_drink_51 (n := 52) rfl rfl rfl ?_
    refine gf_X9_86 C (hmi 60 (by decide) (by decide)) dX9_drink_52 (n := 55) rfl ?_
    refine dk_iload_n (i := 3) C dX9_drink_55 (n := 56) rfl rfl rfl ?_
    refine dk_iconst (v := 1) C dX9_drink_56 (n := 57) rfl (by decide) ?_
    refine dk_zast C dk_sh83 h.1 (hmi 83 (by decide) (by decide)) dX9_drink_57 (n := 58) rfl ?_
    refine dk_nameS (fun s11 es11 => ?_)
    have h := h.2 s11 es11
    refine dk_aload_n (i := 0) C dX9_drink_58 (n := 59) rfl rfl rfl ?_
    refine dk_iload_n (i := 3) C dX9_drink_59 (n := 60) rfl rfl rfl ?_
    refine dk_iconst (v := 0) C dX9_drink_60 (n := 61) rfl (by decide) ?_
    refine dk_callVv C [] (cc_X9_works C.D hmi h) yy_X9_works dk_wm_X9_255 dk_sh60 (hmi 60 (by decide) (by decide)) dX9_drink_61 (fun s12 h => ?_) rfl rfl ⟨Nat.le_of_ble_eq_true rfl, Nat.le_of_ble_eq_true rfl⟩ rfl (Nat.le_of_ble_eq_true rfl) rfl (n := 64) rfl
    refine dk_aload_n (i := 0) C dX9_drink_64 (n := 65) rfl rfl rfl ?_
    refine gf_X9_25 C (hmi 60 (by decide) (by decide)) dX9_drink_65 (n := 68) rfl ?_
    refine dk_iload_n (i := 3) C dX9_drink_68 (n := 69) rfl rfl rfl ?_
    refine dk_cald C dk_sh64 h.1 (hmi 64 (by decide) (by decide)) dX9_drink_69 (n := 70) rfl ?_
    have h := h.2
    refine dk_bipush (v := 102) C dX9_drink_70 (n := 72) rfl (by decide) ?_
    refine dk_icmp_ne (t := 86) C dX9_drink_72 (n := 75) rfl (by decide) (fun c14 => ?_) (fun c14 => ?_)
    · have h := h.1 c14
      refine dk_sub (L0 := [some (dk_r G 4 60), none, none, none, none]) ⟨rfl, trivial⟩ ?_
      exact ww_X9_drink_86 C hr hlk hmi   s12 h
    · have h := h.2 c14
      refine dk_aload_n (i := 0) C dX9_drink_75 (n := 76) rfl rfl rfl ?_
      refine dk_aload_n (i := 0) C dX9_drink_76 (n := 77) rfl rfl rfl ?_
      refine gf_X9_65 C (hmi 60 (by decide) (by decide)) dX9_drink_77 (n := 80) rfl ?_
      refine dk_iconst (v := 0) C dX9_drink_80 (n := 81) rfl (by decide) ?_
      refine dk_iald C dk_sh76 h.1 (hmi 76 (by decide) (by decide)) dX9_drink_81 (n := 82) rfl ?_
      have h := h.2
      refine dk_iconst (v := 0) C dX9_drink_82 (n := 83) rfl (by decide) ?_
      refine dk_callVv C [] (cc_X9_burns C.D hmi h) yy_X9_burns dk_wm_X9_258 dk_sh60 (hmi 60 (by decide) (by decide)) dX9_drink_83 (fun s13 h => ?_) rfl rfl ⟨Nat.le_of_ble_eq_true rfl, Nat.le_of_ble_eq_true rfl⟩ rfl (Nat.le_of_ble_eq_true rfl) rfl (n := 86) rfl
      refine dk_sub (L0 := [some (dk_r G 4 60), none, none, none, none]) ⟨rfl, trivial⟩ ?_
      exact ww_X9_drink_86 C hr hlk hmi   s13 h
  · have h := h.2 c15
    refine dk_iconst (v := 0) C dX9_drink_34 (n := 35) rfl (by decide) ?_
    exact dk_iret C hr hlk rfl dX9_drink_35 ⟨_, rfl, h⟩
set_option maxRecDepth 20000 in
set_option maxHeartbeats 4000000 in
theorem cc_X9_drink {G : dk_G} {l : Launch} {a1 : Int32} (hD : dk_D G) (hmi : dk_MI G) {s : dk_S} {K : Int32 → dk_S → Prop} (h : wf_X9_drink a1 s K) : dk_M G l 9 yX9_drink cX9_drink 5 (some .int) [dk_r G 4 60, .int a1] s (dk_ki K) := by
  refine dk_of hD (by decide) [some (dk_r G 4 60), some (.int a1), none, none, none] (fun q hq => hq) rfl (Nat.le_of_ble_eq_true rfl) (fun P e S0 m args bel meth c C hr hlk => ?_)
  unfold wf_X9_drink at h
  refine dk_aload_n (i := 0) C dX9_drink_0 (n := 1) rfl rfl rfl ?_
  refine dk_iload_n (i := 1) C dX9_drink_1 (n := 2) rfl rfl rfl ?_
  refine dk_callVi C [] (cc_X9_handFault C.D hmi h) yy_X9_handFault dk_wm_X9_282 dk_sh60 (hmi 60 (by decide) (by decide)) dX9_drink_2 (fun r2 s1 h => ?_) rfl rfl ⟨Nat.le_of_ble_eq_true rfl, Nat.le_of_ble_eq_true rfl⟩ rfl (Nat.le_of_ble_eq_true rfl) rfl (n := 5) rfl
  refine dk_istore_n (i := 2) (L' := [some (dk_r G 4 60), some (.int a1), some (.int r2), none, none]) C dX9_drink_5 (n := 6) rfl rfl (dk_nc_of rfl) (Nat.le_of_ble_eq_true rfl) rfl ?_
  refine dk_aload_n (i := 0) C dX9_drink_6 (n := 7) rfl rfl rfl ?_
  refine dk_iload_n (i := 2) C dX9_drink_7 (n := 8) rfl rfl rfl ?_
  refine dk_if_ne (t := 27) C dX9_drink_8 (n := 11) rfl (by decide) (fun c6 => ?_) (fun c6 => ?_)
  · have h := h.1 c6
    refine dk_iload_n (i := 2) C dX9_drink_27 (n := 28) rfl rfl rfl ?_
    refine dk_sub (L0 := [some (dk_r G 4 60), some (.int a1), none, none, none]) ⟨rfl, ⟨rfl, trivial⟩⟩ ?_
    exact ww_X9_drink_28 C hr hlk hmi  a1 r2 s1 h
  · have h := h.2 c6
    refine dk_aload_n (i := 0) C dX9_drink_11 (n := 12) rfl rfl rfl ?_
    refine gf_X9_50 C (hmi 60 (by decide) (by decide)) dX9_drink_12 (n := 15) rfl ?_
    refine dk_iload_n (i := 1) C dX9_drink_15 (n := 16) rfl rfl rfl ?_
    refine dk_iald C dk_sh71 h.1 (hmi 71 (by decide) (by decide)) dX9_drink_16 (n := 17) rfl ?_
    have h := h.2
    refine dk_callSi C [dk_r G 4 60] (cc_X9_isPotion C.D  h) yy_X9_isPotion dk_wm_X9_156 dX9_drink_17 (fun r4 s3 h => ?_) rfl ⟨Nat.le_of_ble_eq_true rfl, Nat.le_of_ble_eq_true rfl⟩ rfl (Nat.le_of_ble_eq_true rfl) rfl (n := 20) rfl
    refine dk_if_ne (t := 27) C dX9_drink_20 (n := 23) rfl (by decide) (fun c5 => ?_) (fun c5 => ?_)
    · have h := h.1 c5
      refine dk_iload_n (i := 2) C dX9_drink_27 (n := 28) rfl rfl rfl ?_
      refine dk_sub (L0 := [some (dk_r G 4 60), some (.int a1), none, none, none]) ⟨rfl, ⟨rfl, trivial⟩⟩ ?_
      exact ww_X9_drink_28 C hr hlk hmi  a1 r2 s3 h
    · have h := h.2 c5
      refine dk_iconst (v := 4) C dX9_drink_23 (n := 24) rfl (by decide) ?_
      refine dk_goto (t := 28) C dX9_drink_24 (by decide) ?_
      refine dk_sub (L0 := [some (dk_r G 4 60), some (.int a1), none, none, none]) ⟨rfl, ⟨rfl, trivial⟩⟩ ?_
      exact ww_X9_drink_28 C hr hlk hmi  a1 4 s3 h
/-! X9_hurl -/
def wf_X9_hurl_192  (K : Int32 → dk_S → Prop) (x5 : Int32) (s : dk_S) : Prop :=
  wf_X9_ends s (fun s47 => K x5 s47)
def wf_X9_hurl_144  (K : Int32 → dk_S → Prop) (x1 : Int32) (x4 : Int32) (x5 : Int32) (y0 : Int32) (s : dk_S) : Prop :=
  (vp_in x1 24 ∧ wf_X9_isPotion (s 4 71 x1.toNatClampNeg) s (fun r41 s40 => ((r41 = 0 → (vp_in x1 24 ∧ ((¬ (s40 4 71 x1.toNatClampNeg) = 7 → wf_X9_hurl_192 K x5 s40) ∧ ((s40 4 71 x1.toNatClampNeg) = 7 → ((y0 = (-1) → wf_X9_hurl_192 K x5 s40) ∧ (¬ y0 = (-1) → wf_X9_strikes y0 4 s40 (fun s42 => wf_X9_hurl_192 K x5 s42))))))) ∧ (¬ r41 = 0 → wf_X9_breaks x1 x4 s40 (fun s45 => wf_X9_hurl_192 K x5 s45)))))
def wf_X9_hurl_121  (K : Int32 → dk_S → Prop) (x1 : Int32) (x4 : Int32) (x5 : Int32) (s : dk_S) : Prop :=
  (vp_in x1 24 ∧ (∀ s20 : dk_S, s20 = dk_row s 4 82 (upd (s 4 82) x1.toNatClampNeg x4) → ((x5 ≤ 0 → wf_X9_hurl_144 K x1 x4 x5 (-1) s20) ∧ (¬ x5 ≤ 0 → wf_X9_livingAt x4 s20 (fun r22 s21 => wf_X9_hurl_144 K x1 x4 x5 r22 s21)))))
def wf_X9_hurl_73  (K : Int32 → dk_S → Prop) (E121 : Int32 → Int32 → Int32 → dk_S → Prop) : Nat → Int32 → Int32 → Int32 → Int32 → dk_S → Prop
  | 0, _, _, _, _, _ => False
  | n + 1, x1, x2, x4, x5, s => ((5 ≤ x5 → E121 x1 x4 x5 s) ∧ (¬ 5 ≤ x5 → wf_X9_beside x4 x2 s (fun r25 s24 => wf_X9_isFree r25 s24 (fun r27 s26 => ((r27 = 0 → E121 x1 x4 x5 s26) ∧ (¬ r27 = 0 → ((x5 = 0 → wf_X9_beside x4 x2 s26 (fun r29 s28 => ∀ v30 : Int32, v30 = x5 + 1 → wf_X9_hurl_73 K E121 n x1 x2 r29 v30 s28)) ∧ (¬ x5 = 0 → wf_X9_livingAt x4 s26 (fun r32 s31 => ((¬ r32 = (-1) → E121 x1 x4 x5 s31) ∧ (r32 = (-1) → wf_X9_beside x4 x2 s31 (fun r34 s33 => ∀ v35 : Int32, v35 = x5 + 1 → wf_X9_hurl_73 K E121 n x1 x2 r34 v35 s33))))))))))))
def wf_X9_hurl_51  (K : Int32 → dk_S → Prop) (x1 : Int32) (x2 : Int32) (y0 : Int32) (s : dk_S) : Prop :=
  wf_X9_goesOn y0 s (fun r12 s11 => ((¬ r12 = 0 → (vp_in 0 8 ∧ ∀ v13 : Int32, v13 = s11 4 76 0.toNatClampNeg → ∃ nn18 : Nat, wf_X9_hurl_73 K (fun (w14 : Int32) (w15 : Int32) (w16 : Int32) (s17 : dk_S) => wf_X9_hurl_121 K w14 w15 w16 s17) nn18 x1 x2 v13 0 s11)) ∧ (r12 = 0 → K 0 s11)))
def wf_X9_hurl (a1 : Int32) (a2 : Int32) (s : dk_S) (K : Int32 → dk_S → Prop) : Prop :=
  wf_X9_isThing a1 s (fun r2 s1 => ((¬ r2 = 0 → wf_X9_in a2 0 3 s1 (fun r4 s3 => ((¬ r4 = 0 → wf_X9_isOn s3 (fun r6 s5 => ((¬ r6 = 0 → (vp_in a1 24 ∧ (((s5 4 82 a1.toNatClampNeg) = (-1) → wf_X9_hurl_51 K a1 a2 0 s5) ∧ (¬ (s5 4 82 a1.toNatClampNeg) = (-1) → wf_X9_hurl_51 K a1 a2 4 s5)))) ∧ (r6 = 0 → wf_X9_hurl_51 K a1 a2 3 s5)))) ∧ (r4 = 0 → wf_X9_hurl_51 K a1 a2 2 s3)))) ∧ (r2 = 0 → wf_X9_hurl_51 K a1 a2 1 s1)))
set_option maxRecDepth 20000 in
set_option maxHeartbeats 4000000 in
theorem ww_X9_hurl_192 {G : dk_G} {P : Program} {l : Launch} {e : Env} {S0 : State} {m : MethodId} {args : Array Value} {bel : List Frame} {meth : Method} {c : Code}  (C : dk_C G P (dk_rm 9) S0 m args c 0 0 cX9_hurl 7 RX9) (hr : meth.sig.returnType = (some .int)) (hlk : meth.locks = false) (hmi : dk_MI G) {K : Int32 → dk_S → Prop}  : ∀ (x5 : Int32) (s : dk_S), wf_X9_hurl_192 K x5 s → dk_W G P l e (dk_rm 9) S0 m args bel meth c 0 0 (MQ bel (dk_Qc G (dk_ki K)) args S0 0 0 (dk_A G)) 192 [some (dk_r G 4 60), none, none, none, none, some (.int x5), none] [] s := by
  intro x5 s h
  unfold wf_X9_hurl_192 at h
  refine dk_aload_n (i := 0) C dX9_hurl_192 (n := 193) rfl rfl rfl ?_
  refine dk_callVv C [] (cc_X9_ends C.D hmi h) yy_X9_ends dk_wm_X9_273 dk_sh60 (hmi 60 (by decide) (by decide)) dX9_hurl_193 (fun s47 h => ?_) rfl rfl ⟨Nat.le_of_ble_eq_true rfl, Nat.le_of_ble_eq_true rfl⟩ rfl (Nat.le_of_ble_eq_true rfl) rfl (n := 196) rfl
  refine dk_iload C dX9_hurl_196 (n := 198) rfl (i := 5) rfl ?_
  exact dk_iret C hr hlk rfl dX9_hurl_198 ⟨_, rfl, h⟩
set_option maxRecDepth 20000 in
set_option maxHeartbeats 4000000 in
theorem ww_X9_hurl_144 {G : dk_G} {P : Program} {l : Launch} {e : Env} {S0 : State} {m : MethodId} {args : Array Value} {bel : List Frame} {meth : Method} {c : Code}  (C : dk_C G P (dk_rm 9) S0 m args c 0 0 cX9_hurl 7 RX9) (hr : meth.sig.returnType = (some .int)) (hlk : meth.locks = false) (hmi : dk_MI G) {K : Int32 → dk_S → Prop}  : ∀ (x1 : Int32) (x4 : Int32) (x5 : Int32) (y0 : Int32) (s : dk_S), wf_X9_hurl_144 K x1 x4 x5 y0 s → dk_W G P l e (dk_rm 9) S0 m args bel meth c 0 0 (MQ bel (dk_Qc G (dk_ki K)) args S0 0 0 (dk_A G)) 144 [some (dk_r G 4 60), some (.int x1), none, none, some (.int x4), some (.int x5), none] [.int y0] s := by
  intro x1 x4 x5 y0 s h
  unfold wf_X9_hurl_144 at h
  refine dk_istore (i := 6) (L' := [some (dk_r G 4 60), some (.int x1), none, none, some (.int x4), some (.int x5), some (.int y0)]) C dX9_hurl_144 (n := 146) rfl (dk_nc_of rfl) (Nat.le_of_ble_eq_true rfl) rfl ?_
  refine dk_aload_n (i := 0) C dX9_hurl_146 (n := 147) rfl rfl rfl ?_
  refine gf_X9_50 C (hmi 60 (by decide) (by decide)) dX9_hurl_147 (n := 150) rfl ?_
  refine dk_iload_n (i := 1) C dX9_hurl_150 (n := 151) rfl rfl rfl ?_
  refine dk_iald C dk_sh71 h.1 (hmi 71 (by decide) (by decide)) dX9_hurl_151 (n := 152) rfl ?_
  have h := h.2
  refine dk_callSi C [] (cc_X9_isPotion C.D  h) yy_X9_isPotion dk_wm_X9_156 dX9_hurl_152 (fun r41 s40 h => ?_) rfl ⟨Nat.le_of_ble_eq_true rfl, Nat.le_of_ble_eq_true rfl⟩ rfl (Nat.le_of_ble_eq_true rfl) rfl (n := 155) rfl
  refine dk_if_eq (t := 168) C dX9_hurl_155 (n := 158) rfl (by decide) (fun c46 => ?_) (fun c46 => ?_)
  · have h := h.1 c46
    refine dk_aload_n (i := 0) C dX9_hurl_168 (n := 169) rfl rfl rfl ?_
    refine gf_X9_50 C (hmi 60 (by decide) (by decide)) dX9_hurl_169 (n := 172) rfl ?_
    refine dk_iload_n (i := 1) C dX9_hurl_172 (n := 173) rfl rfl rfl ?_
    refine dk_iald C dk_sh71 h.1 (hmi 71 (by decide) (by decide)) dX9_hurl_173 (n := 174) rfl ?_
    have h := h.2
    refine dk_bipush (v := 7) C dX9_hurl_174 (n := 176) rfl (by decide) ?_
    refine dk_icmp_ne (t := 192) C dX9_hurl_176 (n := 179) rfl (by decide) (fun c44 => ?_) (fun c44 => ?_)
    · have h := h.1 c44
      refine dk_sub (L0 := [some (dk_r G 4 60), none, none, none, none, some (.int x5), none]) ⟨rfl, ⟨rfl, trivial⟩⟩ ?_
      exact ww_X9_hurl_192 C hr hlk hmi  x5 s40 h
    · have h := h.2 c44
      refine dk_iload C dX9_hurl_179 (n := 181) rfl (i := 6) rfl ?_
      refine dk_iconst (v := (-1)) C dX9_hurl_181 (n := 182) rfl (by decide) ?_
      refine dk_icmp_eq (t := 192) C dX9_hurl_182 (n := 185) rfl (by decide) (fun c43 => ?_) (fun c43 => ?_)
      · have h := h.1 c43
        refine dk_sub (L0 := [some (dk_r G 4 60), none, none, none, none, some (.int x5), none]) ⟨rfl, ⟨rfl, trivial⟩⟩ ?_
        exact ww_X9_hurl_192 C hr hlk hmi  x5 s40 h
      · have h := h.2 c43
        refine dk_aload_n (i := 0) C dX9_hurl_185 (n := 186) rfl rfl rfl ?_
        refine dk_iload C dX9_hurl_186 (n := 188) rfl (i := 6) rfl ?_
        refine dk_iconst (v := 4) C dX9_hurl_188 (n := 189) rfl (by decide) ?_
        refine dk_callVv C [] (cc_X9_strikes C.D hmi h) yy_X9_strikes dk_wm_X9_267 dk_sh60 (hmi 60 (by decide) (by decide)) dX9_hurl_189 (fun s42 h => ?_) rfl rfl ⟨Nat.le_of_ble_eq_true rfl, Nat.le_of_ble_eq_true rfl⟩ rfl (Nat.le_of_ble_eq_true rfl) rfl (n := 192) rfl
        refine dk_sub (L0 := [some (dk_r G 4 60), none, none, none, none, some (.int x5), none]) ⟨rfl, ⟨rfl, trivial⟩⟩ ?_
        exact ww_X9_hurl_192 C hr hlk hmi  x5 s42 h
  · have h := h.2 c46
    refine dk_aload_n (i := 0) C dX9_hurl_158 (n := 159) rfl rfl rfl ?_
    refine dk_iload_n (i := 1) C dX9_hurl_159 (n := 160) rfl rfl rfl ?_
    refine dk_iload C dX9_hurl_160 (n := 162) rfl (i := 4) rfl ?_
    refine dk_callVv C [] (cc_X9_breaks C.D hmi h) yy_X9_breaks dk_wm_X9_288 dk_sh60 (hmi 60 (by decide) (by decide)) dX9_hurl_162 (fun s45 h => ?_) rfl rfl ⟨Nat.le_of_ble_eq_true rfl, Nat.le_of_ble_eq_true rfl⟩ rfl (Nat.le_of_ble_eq_true rfl) rfl (n := 165) rfl
    refine dk_goto (t := 192) C dX9_hurl_165 (by decide) ?_
    refine dk_sub (L0 := [some (dk_r G 4 60), none, none, none, none, some (.int x5), none]) ⟨rfl, ⟨rfl, trivial⟩⟩ ?_
    exact ww_X9_hurl_192 C hr hlk hmi  x5 s45 h
set_option maxRecDepth 20000 in
set_option maxHeartbeats 4000000 in
theorem ww_X9_hurl_121 {G : dk_G} {P : Program} {l : Launch} {e : Env} {S0 : State} {m : MethodId} {args : Array Value} {bel : List Frame} {meth : Method} {c : Code}  (C : dk_C G P (dk_rm 9) S0 m args c 0 0 cX9_hurl 7 RX9) (hr : meth.sig.returnType = (some .int)) (hlk : meth.locks = false) (hmi : dk_MI G) {K : Int32 → dk_S → Prop}  : ∀ (x1 : Int32) (x4 : Int32) (x5 : Int32) (s : dk_S), wf_X9_hurl_121 K x1 x4 x5 s → dk_W G P l e (dk_rm 9) S0 m args bel meth c 0 0 (MQ bel (dk_Qc G (dk_ki K)) args S0 0 0 (dk_A G)) 121 [some (dk_r G 4 60), some (.int x1), none, none, some (.int x4), some (.int x5), none] [] s := by
  intro x1 x4 x5 s h
  unfold wf_X9_hurl_121 at h
  refine dk_aload_n (i := 0) C dX9_hurl_121 (n := 122) rfl rfl rfl ?_
  refine gf_X9_83 C (hmi 60 (by decide) (by decide)) dX9_hurl_122 (n := 125) rfl ?_
  refine dk_iload_n (i := 1) C dX9_hurl_125 (n := 126) rfl rfl rfl ?_
  refine dk_iload C dX9_hurl_126 (n := 128) rfl (i := 4) rfl ?_
  refine dk_iast C dk_sh82 h.1 (hmi 82 (by decide) (by decide)) dX9_hurl_128 (n := 129) rfl ?_
  refine dk_nameS (fun s20 es20 => ?_)
  have h := h.2 s20 es20
  refine dk_iload C dX9_hurl_129 (n := 131) rfl (i := 5) rfl ?_
  refine dk_if_le (t := 143) C dX9_hurl_131 (n := 134) rfl (by decide) (fun c23 => ?_) (fun c23 => ?_)
  · have h := h.1 c23
    refine dk_iconst (v := (-1)) C dX9_hurl_143 (n := 144) rfl (by decide) ?_
    refine dk_sub (L0 := [some (dk_r G 4 60), some (.int x1), none, none, some (.int x4), some (.int x5), none]) ⟨rfl, ⟨rfl, ⟨rfl, ⟨rfl, trivial⟩⟩⟩⟩ ?_
    exact ww_X9_hurl_144 C hr hlk hmi  x1 x4 x5 (-1) s20 h
  · have h := h.2 c23
    refine dk_aload_n (i := 0) C dX9_hurl_134 (n := 135) rfl rfl rfl ?_
    refine dk_iload C dX9_hurl_135 (n := 137) rfl (i := 4) rfl ?_
    refine dk_callVi C [] (cc_X9_livingAt C.D hmi h) yy_X9_livingAt dk_wm_X9_229 dk_sh60 (hmi 60 (by decide) (by decide)) dX9_hurl_137 (fun r22 s21 h => ?_) rfl rfl ⟨Nat.le_of_ble_eq_true rfl, Nat.le_of_ble_eq_true rfl⟩ rfl (Nat.le_of_ble_eq_true rfl) rfl (n := 140) rfl
    refine dk_goto (t := 144) C dX9_hurl_140 (by decide) ?_
    refine dk_sub (L0 := [some (dk_r G 4 60), some (.int x1), none, none, some (.int x4), some (.int x5), none]) ⟨rfl, ⟨rfl, ⟨rfl, ⟨rfl, trivial⟩⟩⟩⟩ ?_
    exact ww_X9_hurl_144 C hr hlk hmi  x1 x4 x5 r22 s21 h
set_option maxRecDepth 20000 in
set_option maxHeartbeats 4000000 in
theorem ww_X9_hurl_73 {G : dk_G} {P : Program} {l : Launch} {e : Env} {S0 : State} {m : MethodId} {args : Array Value} {bel : List Frame} {meth : Method} {c : Code}  (C : dk_C G P (dk_rm 9) S0 m args c 0 0 cX9_hurl 7 RX9) (hr : meth.sig.returnType = (some .int)) (hlk : meth.locks = false) (hmi : dk_MI G) {K : Int32 → dk_S → Prop} {E121 : Int32 → Int32 → Int32 → dk_S → Prop} (hE121 : ∀ (x1 : Int32) (x4 : Int32) (x5 : Int32) (s : dk_S), E121 x1 x4 x5 s → dk_W G P l e (dk_rm 9) S0 m args bel meth c 0 0 (MQ bel (dk_Qc G (dk_ki K)) args S0 0 0 (dk_A G)) 121 [some (dk_r G 4 60), some (.int x1), none, none, some (.int x4), some (.int x5), none] [] s) : ∀ (n : Nat) (x1 : Int32) (x2 : Int32) (x4 : Int32) (x5 : Int32) (s : dk_S), wf_X9_hurl_73 K E121 n x1 x2 x4 x5 s → dk_W G P l e (dk_rm 9) S0 m args bel meth c 0 0 (MQ bel (dk_Qc G (dk_ki K)) args S0 0 0 (dk_A G)) 73 [some (dk_r G 4 60), some (.int x1), some (.int x2), none, some (.int x4), some (.int x5), none] [] s := by
  intro n
  induction n with
  | zero => intro x1 x2 x4 x5 s h; exact False.elim h
  | succ n hB =>
    intro x1 x2 x4 x5 s h
    unfold wf_X9_hurl_73 at h
    refine dk_iload C dX9_hurl_73 (n := 75) rfl (i := 5) rfl ?_
    refine dk_iconst (v := 5) C dX9_hurl_75 (n := 76) rfl (by decide) ?_
    refine dk_icmp_ge (t := 121) C dX9_hurl_76 (n := 79) rfl (by decide) (fun c39 => ?_) (fun c39 => ?_)
    · have h := h.1 c39
      refine dk_sub (L0 := [some (dk_r G 4 60), some (.int x1), none, none, some (.int x4), some (.int x5), none]) ⟨rfl, ⟨rfl, ⟨rfl, ⟨rfl, trivial⟩⟩⟩⟩ ?_
      exact hE121 x1 x4 x5 s h
    · have h := h.2 c39
      refine dk_aload_n (i := 0) C dX9_hurl_79 (n := 80) rfl rfl rfl ?_
      refine dk_iload C dX9_hurl_80 (n := 82) rfl (i := 4) rfl ?_
      refine dk_iload_n (i := 2) C dX9_hurl_82 (n := 83) rfl rfl rfl ?_
      refine dk_callSi C [dk_r G 4 60] (cc_X9_beside C.D  h) yy_X9_beside dk_wm_X9_193 dX9_hurl_83 (fun r25 s24 h => ?_) rfl ⟨Nat.le_of_ble_eq_true rfl, Nat.le_of_ble_eq_true rfl⟩ rfl (Nat.le_of_ble_eq_true rfl) rfl (n := 86) rfl
      refine dk_callVi C [] (cc_X9_isFree C.D hmi h) yy_X9_isFree dk_wm_X9_174 dk_sh60 (hmi 60 (by decide) (by decide)) dX9_hurl_86 (fun r27 s26 h => ?_) rfl rfl ⟨Nat.le_of_ble_eq_true rfl, Nat.le_of_ble_eq_true rfl⟩ rfl (Nat.le_of_ble_eq_true rfl) rfl (n := 89) rfl
      refine dk_if_eq (t := 121) C dX9_hurl_89 (n := 92) rfl (by decide) (fun c38 => ?_) (fun c38 => ?_)
      · have h := h.1 c38
        refine dk_sub (L0 := [some (dk_r G 4 60), some (.int x1), none, none, some (.int x4), some (.int x5), none]) ⟨rfl, ⟨rfl, ⟨rfl, ⟨rfl, trivial⟩⟩⟩⟩ ?_
        exact hE121 x1 x4 x5 s26 h
      · have h := h.2 c38
        refine dk_iload C dX9_hurl_92 (n := 94) rfl (i := 5) rfl ?_
        refine dk_if_eq (t := 107) C dX9_hurl_94 (n := 97) rfl (by decide) (fun c37 => ?_) (fun c37 => ?_)
        · have h := h.1 c37
          refine dk_iload C dX9_hurl_107 (n := 109) rfl (i := 4) rfl ?_
          refine dk_iload_n (i := 2) C dX9_hurl_109 (n := 110) rfl rfl rfl ?_
          refine dk_callSi C [] (cc_X9_beside C.D  h) yy_X9_beside dk_wm_X9_193 dX9_hurl_110 (fun r29 s28 h => ?_) rfl ⟨Nat.le_of_ble_eq_true rfl, Nat.le_of_ble_eq_true rfl⟩ rfl (Nat.le_of_ble_eq_true rfl) rfl (n := 113) rfl
          refine dk_istore (i := 4) (L' := [some (dk_r G 4 60), some (.int x1), some (.int x2), none, some (.int r29), some (.int x5), none]) C dX9_hurl_113 (n := 115) rfl (dk_nc_of rfl) (Nat.le_of_ble_eq_true rfl) rfl ?_
          obtain ⟨v30, ev30⟩ : ∃ y : Int32, y = x5 + 1 := ⟨_, rfl⟩
          have h := h v30 ev30
          refine dk_iinc (i := 5) (v := v30) (L' := [some (dk_r G 4 60), some (.int x1), some (.int x2), none, some (.int r29), some (.int v30), none]) C dX9_hurl_115 (n := 118) rfl rfl (by rw [ev30]; rfl) (dk_nc_of rfl) (Nat.le_of_ble_eq_true rfl) rfl ?_
          refine dk_goto (t := 73) C dX9_hurl_118 (by decide) ?_
          refine dk_sub (L0 := [some (dk_r G 4 60), some (.int x1), some (.int x2), none, some (.int r29), some (.int v30), none]) ⟨rfl, ⟨rfl, ⟨rfl, ⟨rfl, ⟨rfl, trivial⟩⟩⟩⟩⟩ ?_
          exact hB x1 x2 r29 v30 s28 h
        · have h := h.2 c37
          refine dk_aload_n (i := 0) C dX9_hurl_97 (n := 98) rfl rfl rfl ?_
          refine dk_iload C dX9_hurl_98 (n := 100) rfl (i := 4) rfl ?_
          refine dk_callVi C [] (cc_X9_livingAt C.D hmi h) yy_X9_livingAt dk_wm_X9_229 dk_sh60 (hmi 60 (by decide) (by decide)) dX9_hurl_100 (fun r32 s31 h => ?_) rfl rfl ⟨Nat.le_of_ble_eq_true rfl, Nat.le_of_ble_eq_true rfl⟩ rfl (Nat.le_of_ble_eq_true rfl) rfl (n := 103) rfl
          refine dk_iconst (v := (-1)) C dX9_hurl_103 (n := 104) rfl (by decide) ?_
          refine dk_icmp_ne (t := 121) C dX9_hurl_104 (n := 107) rfl (by decide) (fun c36 => ?_) (fun c36 => ?_)
          · have h := h.1 c36
            refine dk_sub (L0 := [some (dk_r G 4 60), some (.int x1), none, none, some (.int x4), some (.int x5), none]) ⟨rfl, ⟨rfl, ⟨rfl, ⟨rfl, trivial⟩⟩⟩⟩ ?_
            exact hE121 x1 x4 x5 s31 h
          · have h := h.2 c36
            refine dk_iload C dX9_hurl_107 (n := 109) rfl (i := 4) rfl ?_
            refine dk_iload_n (i := 2) C dX9_hurl_109 (n := 110) rfl rfl rfl ?_
            refine dk_callSi C [] (cc_X9_beside C.D  h) yy_X9_beside dk_wm_X9_193 dX9_hurl_110 (fun r34 s33 h => ?_) rfl ⟨Nat.le_of_ble_eq_true rfl, Nat.le_of_ble_eq_true rfl⟩ rfl (Nat.le_of_ble_eq_true rfl) rfl (n := 113) rfl
            refine dk_istore (i := 4) (L' := [some (dk_r G 4 60), some (.int x1), some (.int x2), none, some (.int r34), some (.int x5), none]) C dX9_hurl_113 (n := 115) rfl (dk_nc_of rfl) (Nat.le_of_ble_eq_true rfl) rfl ?_
            obtain ⟨v35, ev35⟩ : ∃ y : Int32, y = x5 + 1 := ⟨_, rfl⟩
            have h := h v35 ev35
            refine dk_iinc (i := 5) (v := v35) (L' := [some (dk_r G 4 60), some (.int x1), some (.int x2), none, some (.int r34), some (.int v35), none]) C dX9_hurl_115 (n := 118) rfl rfl (by rw [ev35]; rfl) (dk_nc_of rfl) (Nat.le_of_ble_eq_true rfl) rfl ?_
            refine dk_goto (t := 73) C dX9_hurl_118 (by decide) ?_
            refine dk_sub (L0 := [some (dk_r G 4 60), some (.int x1), some (.int x2), none, some (.int r34), some (.int v35), none]) ⟨rfl, ⟨rfl, ⟨rfl, ⟨rfl, ⟨rfl, trivial⟩⟩⟩⟩⟩ ?_
            exact hB x1 x2 r34 v35 s33 h
set_option maxRecDepth 20000 in
set_option maxHeartbeats 4000000 in
theorem ww_X9_hurl_51 {G : dk_G} {P : Program} {l : Launch} {e : Env} {S0 : State} {m : MethodId} {args : Array Value} {bel : List Frame} {meth : Method} {c : Code}  (C : dk_C G P (dk_rm 9) S0 m args c 0 0 cX9_hurl 7 RX9) (hr : meth.sig.returnType = (some .int)) (hlk : meth.locks = false) (hmi : dk_MI G) {K : Int32 → dk_S → Prop}  : ∀ (x1 : Int32) (x2 : Int32) (y0 : Int32) (s : dk_S), wf_X9_hurl_51 K x1 x2 y0 s → dk_W G P l e (dk_rm 9) S0 m args bel meth c 0 0 (MQ bel (dk_Qc G (dk_ki K)) args S0 0 0 (dk_A G)) 51 [some (dk_r G 4 60), some (.int x1), some (.int x2), none, none, none, none] [.int y0] s := by
  intro x1 x2 y0 s h
  unfold wf_X9_hurl_51 at h
  refine dk_istore_n (i := 3) (L' := [some (dk_r G 4 60), some (.int x1), some (.int x2), some (.int y0), none, none, none]) C dX9_hurl_51 (n := 52) rfl rfl (dk_nc_of rfl) (Nat.le_of_ble_eq_true rfl) rfl ?_
  refine dk_aload_n (i := 0) C dX9_hurl_52 (n := 53) rfl rfl rfl ?_
  refine dk_iload_n (i := 3) C dX9_hurl_53 (n := 54) rfl rfl rfl ?_
  refine dk_callVi C [] (cc_X9_goesOn C.D hmi h) yy_X9_goesOn dk_wm_X9_149 dk_sh60 (hmi 60 (by decide) (by decide)) dX9_hurl_54 (fun r12 s11 h => ?_) rfl rfl ⟨Nat.le_of_ble_eq_true rfl, Nat.le_of_ble_eq_true rfl⟩ rfl (Nat.le_of_ble_eq_true rfl) rfl (n := 57) rfl
  refine dk_if_ne (t := 62) C dX9_hurl_57 (n := 60) rfl (by decide) (fun c19 => ?_) (fun c19 => ?_)
  · have h := h.1 c19
    refine dk_aload_n (i := 0) C dX9_hurl_62 (n := 63) rfl rfl rfl ?_
    refine gf_X9_65 C (hmi 60 (by decide) (by decide)) dX9_hurl_63 (n := 66) rfl ?_
    refine dk_iconst (v := 0) C dX9_hurl_66 (n := 67) rfl (by decide) ?_
    refine dk_iald C dk_sh76 h.1 (hmi 76 (by decide) (by decide)) dX9_hurl_67 (n := 68) rfl ?_
    have h := h.2
    refine dk_name (fun v13 ev13 => ?_)
    have h := h v13 ev13
    refine dk_istore (i := 4) (L' := [some (dk_r G 4 60), some (.int x1), some (.int x2), some (.int y0), some (.int v13), none, none]) C dX9_hurl_68 (n := 70) rfl (dk_nc_of rfl) (Nat.le_of_ble_eq_true rfl) rfl ?_
    refine dk_iconst (v := 0) C dX9_hurl_70 (n := 71) rfl (by decide) ?_
    refine dk_istore (i := 5) (L' := [some (dk_r G 4 60), some (.int x1), some (.int x2), some (.int y0), some (.int v13), some (.int 0), none]) C dX9_hurl_71 (n := 73) rfl (dk_nc_of rfl) (Nat.le_of_ble_eq_true rfl) rfl ?_
    obtain ⟨nn18, h⟩ := h
    refine dk_sub (L0 := [some (dk_r G 4 60), some (.int x1), some (.int x2), none, some (.int v13), some (.int 0), none]) ⟨rfl, ⟨rfl, ⟨rfl, ⟨rfl, ⟨rfl, trivial⟩⟩⟩⟩⟩ ?_
    refine ww_X9_hurl_73 C hr hlk hmi (fun w14 w15 w16 s17 h => ?_) nn18 x1 x2 v13 0 s11 h
    · refine dk_sub (L0 := [some (dk_r G 4 60), some (.int w14), none, none, some (.int w15), some (.int w16), none]) ⟨rfl, ⟨rfl, ⟨rfl, ⟨rfl, trivial⟩⟩⟩⟩ ?_
      exact ww_X9_hurl_121 C hr hlk hmi  w14 w15 w16 s17 h
  · have h := h.2 c19
    refine dk_iconst (v := 0) C dX9_hurl_60 (n := 61) rfl (by decide) ?_
    exact dk_iret C hr hlk rfl dX9_hurl_61 ⟨_, rfl, h⟩
set_option maxRecDepth 20000 in
set_option maxHeartbeats 4000000 in
theorem cc_X9_hurl {G : dk_G} {l : Launch} {a1 : Int32} {a2 : Int32} (hD : dk_D G) (hmi : dk_MI G) {s : dk_S} {K : Int32 → dk_S → Prop} (h : wf_X9_hurl a1 a2 s K) : dk_M G l 9 yX9_hurl cX9_hurl 7 (some .int) [dk_r G 4 60, .int a1, .int a2] s (dk_ki K) := by
  refine dk_of hD (by decide) [some (dk_r G 4 60), some (.int a1), some (.int a2), none, none, none, none] (fun q hq => hq) rfl (Nat.le_of_ble_eq_true rfl) (fun P e S0 m args bel meth c C hr hlk => ?_)
  unfold wf_X9_hurl at h
  refine dk_aload_n (i := 0) C dX9_hurl_0 (n := 1) rfl rfl rfl ?_
  refine dk_iload_n (i := 1) C dX9_hurl_1 (n := 2) rfl rfl rfl ?_
  refine dk_callVi C [] (cc_X9_isThing C.D hmi h) yy_X9_isThing dk_wm_X9_165 dk_sh60 (hmi 60 (by decide) (by decide)) dX9_hurl_2 (fun r2 s1 h => ?_) rfl rfl ⟨Nat.le_of_ble_eq_true rfl, Nat.le_of_ble_eq_true rfl⟩ rfl (Nat.le_of_ble_eq_true rfl) rfl (n := 5) rfl
  refine dk_if_ne (t := 12) C dX9_hurl_5 (n := 8) rfl (by decide) (fun c10 => ?_) (fun c10 => ?_)
  · have h := h.1 c10
    refine dk_iload_n (i := 2) C dX9_hurl_12 (n := 13) rfl rfl rfl ?_
    refine dk_iconst (v := 0) C dX9_hurl_13 (n := 14) rfl (by decide) ?_
    refine dk_iconst (v := 3) C dX9_hurl_14 (n := 15) rfl (by decide) ?_
    refine dk_callSi C [] (cc_X9_in C.D  h) yy_X9_in dk_wm_X9_110 dX9_hurl_15 (fun r4 s3 h => ?_) rfl ⟨Nat.le_of_ble_eq_true rfl, Nat.le_of_ble_eq_true rfl⟩ rfl (Nat.le_of_ble_eq_true rfl) rfl (n := 18) rfl
    refine dk_if_ne (t := 25) C dX9_hurl_18 (n := 21) rfl (by decide) (fun c9 => ?_) (fun c9 => ?_)
    · have h := h.1 c9
      refine dk_aload_n (i := 0) C dX9_hurl_25 (n := 26) rfl rfl rfl ?_
      refine dk_callVi C [] (cc_X9_isOn C.D hmi h) yy_X9_isOn dk_wm_X9_145 dk_sh60 (hmi 60 (by decide) (by decide)) dX9_hurl_26 (fun r6 s5 h => ?_) rfl rfl ⟨Nat.le_of_ble_eq_true rfl, Nat.le_of_ble_eq_true rfl⟩ rfl (Nat.le_of_ble_eq_true rfl) rfl (n := 29) rfl
      refine dk_if_ne (t := 36) C dX9_hurl_29 (n := 32) rfl (by decide) (fun c8 => ?_) (fun c8 => ?_)
      · have h := h.1 c8
        refine dk_aload_n (i := 0) C dX9_hurl_36 (n := 37) rfl rfl rfl ?_
        refine gf_X9_83 C (hmi 60 (by decide) (by decide)) dX9_hurl_37 (n := 40) rfl ?_
        refine dk_iload_n (i := 1) C dX9_hurl_40 (n := 41) rfl rfl rfl ?_
        refine dk_iald C dk_sh82 h.1 (hmi 82 (by decide) (by decide)) dX9_hurl_41 (n := 42) rfl ?_
        have h := h.2
        refine dk_iconst (v := (-1)) C dX9_hurl_42 (n := 43) rfl (by decide) ?_
        refine dk_icmp_eq (t := 50) C dX9_hurl_43 (n := 46) rfl (by decide) (fun c7 => ?_) (fun c7 => ?_)
        · have h := h.1 c7
          refine dk_iconst (v := 0) C dX9_hurl_50 (n := 51) rfl (by decide) ?_
          refine dk_sub (L0 := [some (dk_r G 4 60), some (.int a1), some (.int a2), none, none, none, none]) ⟨rfl, ⟨rfl, ⟨rfl, trivial⟩⟩⟩ ?_
          exact ww_X9_hurl_51 C hr hlk hmi  a1 a2 0 s5 h
        · have h := h.2 c7
          refine dk_iconst (v := 4) C dX9_hurl_46 (n := 47) rfl (by decide) ?_
          refine dk_goto (t := 51) C dX9_hurl_47 (by decide) ?_
          refine dk_sub (L0 := [some (dk_r G 4 60), some (.int a1), some (.int a2), none, none, none, none]) ⟨rfl, ⟨rfl, ⟨rfl, trivial⟩⟩⟩ ?_
          exact ww_X9_hurl_51 C hr hlk hmi  a1 a2 4 s5 h
      · have h := h.2 c8
        refine dk_iconst (v := 3) C dX9_hurl_32 (n := 33) rfl (by decide) ?_
        refine dk_goto (t := 51) C dX9_hurl_33 (by decide) ?_
        refine dk_sub (L0 := [some (dk_r G 4 60), some (.int a1), some (.int a2), none, none, none, none]) ⟨rfl, ⟨rfl, ⟨rfl, trivial⟩⟩⟩ ?_
        exact ww_X9_hurl_51 C hr hlk hmi  a1 a2 3 s5 h
    · have h := h.2 c9
      refine dk_iconst (v := 2) C dX9_hurl_21 (n := 22) rfl (by decide) ?_
      refine dk_goto (t := 51) C dX9_hurl_22 (by decide) ?_
      refine dk_sub (L0 := [some (dk_r G 4 60), some (.int a1), some (.int a2), none, none, none, none]) ⟨rfl, ⟨rfl, ⟨rfl, trivial⟩⟩⟩ ?_
      exact ww_X9_hurl_51 C hr hlk hmi  a1 a2 2 s3 h
  · have h := h.2 c10
    refine dk_iconst (v := 1) C dX9_hurl_8 (n := 9) rfl (by decide) ?_
    refine dk_goto (t := 51) C dX9_hurl_9 (by decide) ?_
    refine dk_sub (L0 := [some (dk_r G 4 60), some (.int a1), some (.int a2), none, none, none, none]) ⟨rfl, ⟨rfl, ⟨rfl, trivial⟩⟩⟩ ?_
    exact ww_X9_hurl_51 C hr hlk hmi  a1 a2 1 s1 h
/-! X9_shout -/
def wf_X9_shout_27  (K : Int32 → dk_S → Prop) (x1 : Int32) (y0 : Int32) (s : dk_S) : Prop :=
  wf_X9_goesOn y0 s (fun r8 s7 => ((¬ r8 = 0 → (vp_in 0 8 ∧ wf_X9_sounds (s7 4 76 0.toNatClampNeg) x1 s7 (fun r10 s9 => wf_X9_ends s9 (fun s11 => K r10 s11)))) ∧ (r8 = 0 → K 0 s7)))
def wf_X9_shout (a1 : Int32) (s : dk_S) (K : Int32 → dk_S → Prop) : Prop :=
  wf_X9_in a1 1 30 s (fun r2 s1 => ((¬ r2 = 0 → wf_X9_isOn s1 (fun r4 s3 => ((¬ r4 = 0 → wf_X9_shout_27 K a1 0 s3) ∧ (r4 = 0 → wf_X9_shout_27 K a1 2 s3)))) ∧ (r2 = 0 → wf_X9_shout_27 K a1 1 s1)))
set_option maxRecDepth 20000 in
set_option maxHeartbeats 4000000 in
theorem ww_X9_shout_27 {G : dk_G} {P : Program} {l : Launch} {e : Env} {S0 : State} {m : MethodId} {args : Array Value} {bel : List Frame} {meth : Method} {c : Code}  (C : dk_C G P (dk_rm 9) S0 m args c 0 0 cX9_shout 3 RX9) (hr : meth.sig.returnType = (some .int)) (hlk : meth.locks = false) (hmi : dk_MI G) {K : Int32 → dk_S → Prop}  : ∀ (x1 : Int32) (y0 : Int32) (s : dk_S), wf_X9_shout_27 K x1 y0 s → dk_W G P l e (dk_rm 9) S0 m args bel meth c 0 0 (MQ bel (dk_Qc G (dk_ki K)) args S0 0 0 (dk_A G)) 27 [some (dk_r G 4 60), some (.int x1), none] [.int y0, dk_r G 4 60] s := by
  intro x1 y0 s h
  unfold wf_X9_shout_27 at h
  refine dk_callVi C [] (cc_X9_goesOn C.D hmi h) yy_X9_goesOn dk_wm_X9_149 dk_sh60 (hmi 60 (by decide) (by decide)) dX9_shout_27 (fun r8 s7 h => ?_) rfl rfl ⟨Nat.le_of_ble_eq_true rfl, Nat.le_of_ble_eq_true rfl⟩ rfl (Nat.le_of_ble_eq_true rfl) rfl (n := 30) rfl
  refine dk_if_ne (t := 35) C dX9_shout_30 (n := 33) rfl (by decide) (fun c12 => ?_) (fun c12 => ?_)
  · have h := h.1 c12
    refine dk_aload_n (i := 0) C dX9_shout_35 (n := 36) rfl rfl rfl ?_
    refine dk_aload_n (i := 0) C dX9_shout_36 (n := 37) rfl rfl rfl ?_
    refine gf_X9_65 C (hmi 60 (by decide) (by decide)) dX9_shout_37 (n := 40) rfl ?_
    refine dk_iconst (v := 0) C dX9_shout_40 (n := 41) rfl (by decide) ?_
    refine dk_iald C dk_sh76 h.1 (hmi 76 (by decide) (by decide)) dX9_shout_41 (n := 42) rfl ?_
    have h := h.2
    refine dk_iload_n (i := 1) C dX9_shout_42 (n := 43) rfl rfl rfl ?_
    refine dk_callVi C [] (cc_X9_sounds C.D hmi h) yy_X9_sounds dk_wm_X9_238 dk_sh60 (hmi 60 (by decide) (by decide)) dX9_shout_43 (fun r10 s9 h => ?_) rfl rfl ⟨Nat.le_of_ble_eq_true rfl, Nat.le_of_ble_eq_true rfl⟩ rfl (Nat.le_of_ble_eq_true rfl) rfl (n := 46) rfl
    refine dk_istore_n (i := 2) (L' := [some (dk_r G 4 60), some (.int x1), some (.int r10)]) C dX9_shout_46 (n := 47) rfl rfl (dk_nc_of rfl) (Nat.le_of_ble_eq_true rfl) rfl ?_
    refine dk_aload_n (i := 0) C dX9_shout_47 (n := 48) rfl rfl rfl ?_
    refine dk_callVv C [] (cc_X9_ends C.D hmi h) yy_X9_ends dk_wm_X9_273 dk_sh60 (hmi 60 (by decide) (by decide)) dX9_shout_48 (fun s11 h => ?_) rfl rfl ⟨Nat.le_of_ble_eq_true rfl, Nat.le_of_ble_eq_true rfl⟩ rfl (Nat.le_of_ble_eq_true rfl) rfl (n := 51) rfl
    refine dk_iload_n (i := 2) C dX9_shout_51 (n := 52) rfl rfl rfl ?_
    exact dk_iret C hr hlk rfl dX9_shout_52 ⟨_, rfl, h⟩
  · have h := h.2 c12
    refine dk_iconst (v := 0) C dX9_shout_33 (n := 34) rfl (by decide) ?_
    exact dk_iret C hr hlk rfl dX9_shout_34 ⟨_, rfl, h⟩
set_option maxRecDepth 20000 in
set_option maxHeartbeats 4000000 in
theorem cc_X9_shout {G : dk_G} {l : Launch} {a1 : Int32} (hD : dk_D G) (hmi : dk_MI G) {s : dk_S} {K : Int32 → dk_S → Prop} (h : wf_X9_shout a1 s K) : dk_M G l 9 yX9_shout cX9_shout 3 (some .int) [dk_r G 4 60, .int a1] s (dk_ki K) := by
  refine dk_of hD (by decide) [some (dk_r G 4 60), some (.int a1), none] (fun q hq => hq) rfl (Nat.le_of_ble_eq_true rfl) (fun P e S0 m args bel meth c C hr hlk => ?_)
  unfold wf_X9_shout at h
  refine dk_aload_n (i := 0) C dX9_shout_0 (n := 1) rfl rfl rfl ?_
  refine dk_iload_n (i := 1) C dX9_shout_1 (n := 2) rfl rfl rfl ?_
  refine dk_iconst (v := 1) C dX9_shout_2 (n := 3) rfl (by decide) ?_
  refine dk_bipush (v := 30) C dX9_shout_3 (n := 5) rfl (by decide) ?_
  refine dk_callSi C [dk_r G 4 60] (cc_X9_in C.D  h) yy_X9_in dk_wm_X9_110 dX9_shout_5 (fun r2 s1 h => ?_) rfl ⟨Nat.le_of_ble_eq_true rfl, Nat.le_of_ble_eq_true rfl⟩ rfl (Nat.le_of_ble_eq_true rfl) rfl (n := 8) rfl
  refine dk_if_ne (t := 15) C dX9_shout_8 (n := 11) rfl (by decide) (fun c6 => ?_) (fun c6 => ?_)
  · have h := h.1 c6
    refine dk_aload_n (i := 0) C dX9_shout_15 (n := 16) rfl rfl rfl ?_
    refine dk_callVi C [dk_r G 4 60] (cc_X9_isOn C.D hmi h) yy_X9_isOn dk_wm_X9_145 dk_sh60 (hmi 60 (by decide) (by decide)) dX9_shout_16 (fun r4 s3 h => ?_) rfl rfl ⟨Nat.le_of_ble_eq_true rfl, Nat.le_of_ble_eq_true rfl⟩ rfl (Nat.le_of_ble_eq_true rfl) rfl (n := 19) rfl
    refine dk_if_ne (t := 26) C dX9_shout_19 (n := 22) rfl (by decide) (fun c5 => ?_) (fun c5 => ?_)
    · have h := h.1 c5
      refine dk_iconst (v := 0) C dX9_shout_26 (n := 27) rfl (by decide) ?_
      refine dk_sub (L0 := [some (dk_r G 4 60), some (.int a1), none]) ⟨rfl, ⟨rfl, trivial⟩⟩ ?_
      exact ww_X9_shout_27 C hr hlk hmi  a1 0 s3 h
    · have h := h.2 c5
      refine dk_iconst (v := 2) C dX9_shout_22 (n := 23) rfl (by decide) ?_
      refine dk_goto (t := 27) C dX9_shout_23 (by decide) ?_
      refine dk_sub (L0 := [some (dk_r G 4 60), some (.int a1), none]) ⟨rfl, ⟨rfl, trivial⟩⟩ ?_
      exact ww_X9_shout_27 C hr hlk hmi  a1 2 s3 h
  · have h := h.2 c6
    refine dk_iconst (v := 1) C dX9_shout_11 (n := 12) rfl (by decide) ?_
    refine dk_goto (t := 27) C dX9_shout_12 (by decide) ?_
    refine dk_sub (L0 := [some (dk_r G 4 60), some (.int a1), none]) ⟨rfl, ⟨rfl, trivial⟩⟩ ?_
    exact ww_X9_shout_27 C hr hlk hmi  a1 1 s1 h
/-! X9_pray -/
def wf_X9_pray_90  (K : Int32 → dk_S → Prop) (y0 : Int32) (y1 : Int32) (s : dk_S) : Prop :=
  ∀ s12 : dk_S, s12 = dk_row s 4 60 (upd (s 4 60) 31 (y1 - y0)) → ∀ v13 : Int32, v13 = s12 4 60 31 → wf_X9_ends s12 (fun s14 => K v13 s14)
def wf_X9_pray_75  (K : Int32 → dk_S → Prop) (x1 : Int32) (y0 : Int32) (y1 : Int32) (s : dk_S) : Prop :=
  (vp_in y1 8 ∧ (∀ s10 : dk_S, s10 = dk_row s 4 77 (upd (s 4 77) y1.toNatClampNeg y0) → ((x1 = 0 → wf_X9_pray_90 K 1 (s10 4 60 31) s10) ∧ (¬ x1 = 0 → wf_X9_pray_90 K 5 (s10 4 60 31) s10))))
def wf_X9_pray_50  (K : Int32 → dk_S → Prop) (y0 : Int32) (s : dk_S) : Prop :=
  ((y0 = 0 → (vp_in 0 8 ∧ wf_X9_pray_75 K y0 (s 4 77 0.toNatClampNeg) 0 s)) ∧ (¬ y0 = 0 → (vp_in 0 8 ∧ wf_X9_pray_75 K y0 (s 4 70 0.toNatClampNeg) 0 s)))
def wf_X9_pray_13  (K : Int32 → dk_S → Prop) (y0 : Int32) (s : dk_S) : Prop :=
  wf_X9_goesOn y0 s (fun r5 s4 => ((¬ r5 = 0 → (vp_in 0 8 ∧ (vp_in 0 8 ∧ (((s4 4 70 0.toNatClampNeg) ≤ (3 * (s4 4 77 0.toNatClampNeg)) → wf_X9_pray_50 K 0 s4) ∧ (¬ (s4 4 70 0.toNatClampNeg) ≤ (3 * (s4 4 77 0.toNatClampNeg)) → (((s4 4 60 31) < 0 → wf_X9_pray_50 K 0 s4) ∧ (¬ (s4 4 60 31) < 0 → wf_X9_pray_50 K 1 s4))))))) ∧ (r5 = 0 → K 0 s4)))
def wf_X9_pray  (s : dk_S) (K : Int32 → dk_S → Prop) : Prop :=
  wf_X9_isOn s (fun r2 s1 => ((r2 = 0 → wf_X9_pray_13 K 1 s1) ∧ (¬ r2 = 0 → wf_X9_pray_13 K 0 s1)))
set_option maxRecDepth 20000 in
set_option maxHeartbeats 4000000 in
theorem ww_X9_pray_90 {G : dk_G} {P : Program} {l : Launch} {e : Env} {S0 : State} {m : MethodId} {args : Array Value} {bel : List Frame} {meth : Method} {c : Code}  (C : dk_C G P (dk_rm 9) S0 m args c 0 0 cX9_pray 3 RX9) (hr : meth.sig.returnType = (some .int)) (hlk : meth.locks = false) (hmi : dk_MI G) {K : Int32 → dk_S → Prop}  : ∀ (y0 : Int32) (y1 : Int32) (s : dk_S), wf_X9_pray_90 K y0 y1 s → dk_W G P l e (dk_rm 9) S0 m args bel meth c 0 0 (MQ bel (dk_Qc G (dk_ki K)) args S0 0 0 (dk_A G)) 90 [some (dk_r G 4 60), none, none] [.int y0, .int y1, dk_r G 4 60] s := by
  intro y0 y1 s h
  unfold wf_X9_pray_90 at h
  refine dk_isub C dX9_pray_90 (n := 91) rfl ?_
  refine pf_X9_139 C rfl rfl (hmi 60 (by decide) (by decide)) dX9_pray_91 (n := 94) rfl ?_
  refine dk_nameS (fun s12 es12 => ?_)
  have h := h s12 es12
  refine dk_aload_n (i := 0) C dX9_pray_94 (n := 95) rfl rfl rfl ?_
  refine gf_X9_139 C (hmi 60 (by decide) (by decide)) dX9_pray_95 (n := 98) rfl ?_
  refine dk_name (fun v13 ev13 => ?_)
  have h := h v13 ev13
  refine dk_istore_n (i := 2) (L' := [some (dk_r G 4 60), none, some (.int v13)]) C dX9_pray_98 (n := 99) rfl rfl (dk_nc_of rfl) (Nat.le_of_ble_eq_true rfl) rfl ?_
  refine dk_aload_n (i := 0) C dX9_pray_99 (n := 100) rfl rfl rfl ?_
  refine dk_callVv C [] (cc_X9_ends C.D hmi h) yy_X9_ends dk_wm_X9_273 dk_sh60 (hmi 60 (by decide) (by decide)) dX9_pray_100 (fun s14 h => ?_) rfl rfl ⟨Nat.le_of_ble_eq_true rfl, Nat.le_of_ble_eq_true rfl⟩ rfl (Nat.le_of_ble_eq_true rfl) rfl (n := 103) rfl
  refine dk_iload_n (i := 2) C dX9_pray_103 (n := 104) rfl rfl rfl ?_
  exact dk_iret C hr hlk rfl dX9_pray_104 ⟨_, rfl, h⟩
set_option maxRecDepth 20000 in
set_option maxHeartbeats 4000000 in
theorem ww_X9_pray_75 {G : dk_G} {P : Program} {l : Launch} {e : Env} {S0 : State} {m : MethodId} {args : Array Value} {bel : List Frame} {meth : Method} {c : Code}  (C : dk_C G P (dk_rm 9) S0 m args c 0 0 cX9_pray 3 RX9) (hr : meth.sig.returnType = (some .int)) (hlk : meth.locks = false) (hmi : dk_MI G) {K : Int32 → dk_S → Prop}  : ∀ (x1 : Int32) (y0 : Int32) (y1 : Int32) (s : dk_S), wf_X9_pray_75 K x1 y0 y1 s → dk_W G P l e (dk_rm 9) S0 m args bel meth c 0 0 (MQ bel (dk_Qc G (dk_ki K)) args S0 0 0 (dk_A G)) 75 [some (dk_r G 4 60), some (.int x1), none] [.int y0, .int y1, dk_r G 4 77] s := by
  intro x1 y0 y1 s h
  unfold wf_X9_pray_75 at h
  refine dk_iast C dk_sh77 h.1 (hmi 77 (by decide) (by decide)) dX9_pray_75 (n := 76) rfl ?_
  refine dk_nameS (fun s10 es10 => ?_)
  have h := h.2 s10 es10
  refine dk_aload_n (i := 0) C dX9_pray_76 (n := 77) rfl rfl rfl ?_
  refine dk_dup C dX9_pray_77 (n := 78) rfl rfl ?_
  refine gf_X9_139 C (hmi 60 (by decide) (by decide)) dX9_pray_78 (n := 81) rfl ?_
  refine dk_iload_n (i := 1) C dX9_pray_81 (n := 82) rfl rfl rfl ?_
  refine dk_if_eq (t := 89) C dX9_pray_82 (n := 85) rfl (by decide) (fun c11 => ?_) (fun c11 => ?_)
  · have h := h.1 c11
    refine dk_iconst (v := 1) C dX9_pray_89 (n := 90) rfl (by decide) ?_
    refine dk_sub (L0 := [some (dk_r G 4 60), none, none]) ⟨rfl, trivial⟩ ?_
    exact ww_X9_pray_90 C hr hlk hmi  1 (s10 4 60 31) s10 h
  · have h := h.2 c11
    refine dk_iconst (v := 5) C dX9_pray_85 (n := 86) rfl (by decide) ?_
    refine dk_goto (t := 90) C dX9_pray_86 (by decide) ?_
    refine dk_sub (L0 := [some (dk_r G 4 60), none, none]) ⟨rfl, trivial⟩ ?_
    exact ww_X9_pray_90 C hr hlk hmi  5 (s10 4 60 31) s10 h
set_option maxRecDepth 20000 in
set_option maxHeartbeats 4000000 in
theorem ww_X9_pray_50 {G : dk_G} {P : Program} {l : Launch} {e : Env} {S0 : State} {m : MethodId} {args : Array Value} {bel : List Frame} {meth : Method} {c : Code}  (C : dk_C G P (dk_rm 9) S0 m args c 0 0 cX9_pray 3 RX9) (hr : meth.sig.returnType = (some .int)) (hlk : meth.locks = false) (hmi : dk_MI G) {K : Int32 → dk_S → Prop}  : ∀ (y0 : Int32) (s : dk_S), wf_X9_pray_50 K y0 s → dk_W G P l e (dk_rm 9) S0 m args bel meth c 0 0 (MQ bel (dk_Qc G (dk_ki K)) args S0 0 0 (dk_A G)) 50 [some (dk_r G 4 60), none, none] [.int y0] s := by
  intro y0 s h
  unfold wf_X9_pray_50 at h
  refine dk_istore_n (i := 1) (L' := [some (dk_r G 4 60), some (.int y0), none]) C dX9_pray_50 (n := 51) rfl rfl (dk_nc_of rfl) (Nat.le_of_ble_eq_true rfl) rfl ?_
  refine dk_aload_n (i := 0) C dX9_pray_51 (n := 52) rfl rfl rfl ?_
  refine gf_X9_68 C (hmi 60 (by decide) (by decide)) dX9_pray_52 (n := 55) rfl ?_
  refine dk_iconst (v := 0) C dX9_pray_55 (n := 56) rfl (by decide) ?_
  refine dk_iload_n (i := 1) C dX9_pray_56 (n := 57) rfl rfl rfl ?_
  refine dk_if_eq (t := 69) C dX9_pray_57 (n := 60) rfl (by decide) (fun c9 => ?_) (fun c9 => ?_)
  · have h := h.1 c9
    refine dk_aload_n (i := 0) C dX9_pray_69 (n := 70) rfl rfl rfl ?_
    refine gf_X9_68 C (hmi 60 (by decide) (by decide)) dX9_pray_70 (n := 73) rfl ?_
    refine dk_iconst (v := 0) C dX9_pray_73 (n := 74) rfl (by decide) ?_
    refine dk_iald C dk_sh77 h.1 (hmi 77 (by decide) (by decide)) dX9_pray_74 (n := 75) rfl ?_
    have h := h.2
    refine dk_sub (L0 := [some (dk_r G 4 60), some (.int y0), none]) ⟨rfl, ⟨rfl, trivial⟩⟩ ?_
    exact ww_X9_pray_75 C hr hlk hmi  y0 (s 4 77 0.toNatClampNeg) 0 s h
  · have h := h.2 c9
    refine dk_aload_n (i := 0) C dX9_pray_60 (n := 61) rfl rfl rfl ?_
    refine gf_X9_47 C (hmi 60 (by decide) (by decide)) dX9_pray_61 (n := 64) rfl ?_
    refine dk_iconst (v := 0) C dX9_pray_64 (n := 65) rfl (by decide) ?_
    refine dk_iald C dk_sh70 h.1 (hmi 70 (by decide) (by decide)) dX9_pray_65 (n := 66) rfl ?_
    have h := h.2
    refine dk_goto (t := 75) C dX9_pray_66 (by decide) ?_
    refine dk_sub (L0 := [some (dk_r G 4 60), some (.int y0), none]) ⟨rfl, ⟨rfl, trivial⟩⟩ ?_
    exact ww_X9_pray_75 C hr hlk hmi  y0 (s 4 70 0.toNatClampNeg) 0 s h
set_option maxRecDepth 20000 in
set_option maxHeartbeats 4000000 in
theorem ww_X9_pray_13 {G : dk_G} {P : Program} {l : Launch} {e : Env} {S0 : State} {m : MethodId} {args : Array Value} {bel : List Frame} {meth : Method} {c : Code}  (C : dk_C G P (dk_rm 9) S0 m args c 0 0 cX9_pray 3 RX9) (hr : meth.sig.returnType = (some .int)) (hlk : meth.locks = false) (hmi : dk_MI G) {K : Int32 → dk_S → Prop}  : ∀ (y0 : Int32) (s : dk_S), wf_X9_pray_13 K y0 s → dk_W G P l e (dk_rm 9) S0 m args bel meth c 0 0 (MQ bel (dk_Qc G (dk_ki K)) args S0 0 0 (dk_A G)) 13 [some (dk_r G 4 60), none, none] [.int y0, dk_r G 4 60] s := by
  intro y0 s h
  unfold wf_X9_pray_13 at h
  refine dk_callVi C [] (cc_X9_goesOn C.D hmi h) yy_X9_goesOn dk_wm_X9_149 dk_sh60 (hmi 60 (by decide) (by decide)) dX9_pray_13 (fun r5 s4 h => ?_) rfl rfl ⟨Nat.le_of_ble_eq_true rfl, Nat.le_of_ble_eq_true rfl⟩ rfl (Nat.le_of_ble_eq_true rfl) rfl (n := 16) rfl
  refine dk_if_ne (t := 21) C dX9_pray_16 (n := 19) rfl (by decide) (fun c8 => ?_) (fun c8 => ?_)
  · have h := h.1 c8
    refine dk_iconst (v := 3) C dX9_pray_21 (n := 22) rfl (by decide) ?_
    refine dk_aload_n (i := 0) C dX9_pray_22 (n := 23) rfl rfl rfl ?_
    refine gf_X9_68 C (hmi 60 (by decide) (by decide)) dX9_pray_23 (n := 26) rfl ?_
    refine dk_iconst (v := 0) C dX9_pray_26 (n := 27) rfl (by decide) ?_
    refine dk_iald C dk_sh77 h.1 (hmi 77 (by decide) (by decide)) dX9_pray_27 (n := 28) rfl ?_
    have h := h.2
    refine dk_imul C dX9_pray_28 (n := 29) rfl ?_
    refine dk_aload_n (i := 0) C dX9_pray_29 (n := 30) rfl rfl rfl ?_
    refine gf_X9_47 C (hmi 60 (by decide) (by decide)) dX9_pray_30 (n := 33) rfl ?_
    refine dk_iconst (v := 0) C dX9_pray_33 (n := 34) rfl (by decide) ?_
    refine dk_iald C dk_sh70 h.1 (hmi 70 (by decide) (by decide)) dX9_pray_34 (n := 35) rfl ?_
    have h := h.2
    refine dk_icmp_ge (t := 49) C dX9_pray_35 (n := 38) rfl (by decide) (fun c7 => ?_) (fun c7 => ?_)
    · have h := h.1 c7
      refine dk_iconst (v := 0) C dX9_pray_49 (n := 50) rfl (by decide) ?_
      refine dk_sub (L0 := [some (dk_r G 4 60), none, none]) ⟨rfl, trivial⟩ ?_
      exact ww_X9_pray_50 C hr hlk hmi  0 s4 h
    · have h := h.2 c7
      refine dk_aload_n (i := 0) C dX9_pray_38 (n := 39) rfl rfl rfl ?_
      refine gf_X9_139 C (hmi 60 (by decide) (by decide)) dX9_pray_39 (n := 42) rfl ?_
      refine dk_if_lt (t := 49) C dX9_pray_42 (n := 45) rfl (by decide) (fun c6 => ?_) (fun c6 => ?_)
      · have h := h.1 c6
        refine dk_iconst (v := 0) C dX9_pray_49 (n := 50) rfl (by decide) ?_
        refine dk_sub (L0 := [some (dk_r G 4 60), none, none]) ⟨rfl, trivial⟩ ?_
        exact ww_X9_pray_50 C hr hlk hmi  0 s4 h
      · have h := h.2 c6
        refine dk_iconst (v := 1) C dX9_pray_45 (n := 46) rfl (by decide) ?_
        refine dk_goto (t := 50) C dX9_pray_46 (by decide) ?_
        refine dk_sub (L0 := [some (dk_r G 4 60), none, none]) ⟨rfl, trivial⟩ ?_
        exact ww_X9_pray_50 C hr hlk hmi  1 s4 h
  · have h := h.2 c8
    refine dk_iconst (v := 0) C dX9_pray_19 (n := 20) rfl (by decide) ?_
    exact dk_iret C hr hlk rfl dX9_pray_20 ⟨_, rfl, h⟩
set_option maxRecDepth 20000 in
set_option maxHeartbeats 4000000 in
theorem cc_X9_pray {G : dk_G} {l : Launch}  (hD : dk_D G) (hmi : dk_MI G) {s : dk_S} {K : Int32 → dk_S → Prop} (h : wf_X9_pray s K) : dk_M G l 9 yX9_pray cX9_pray 3 (some .int) [dk_r G 4 60] s (dk_ki K) := by
  refine dk_of hD (by decide) [some (dk_r G 4 60), none, none] (fun q hq => hq) rfl (Nat.le_of_ble_eq_true rfl) (fun P e S0 m args bel meth c C hr hlk => ?_)
  unfold wf_X9_pray at h
  refine dk_aload_n (i := 0) C dX9_pray_0 (n := 1) rfl rfl rfl ?_
  refine dk_aload_n (i := 0) C dX9_pray_1 (n := 2) rfl rfl rfl ?_
  refine dk_callVi C [dk_r G 4 60] (cc_X9_isOn C.D hmi h) yy_X9_isOn dk_wm_X9_145 dk_sh60 (hmi 60 (by decide) (by decide)) dX9_pray_2 (fun r2 s1 h => ?_) rfl rfl ⟨Nat.le_of_ble_eq_true rfl, Nat.le_of_ble_eq_true rfl⟩ rfl (Nat.le_of_ble_eq_true rfl) rfl (n := 5) rfl
  refine dk_if_eq (t := 12) C dX9_pray_5 (n := 8) rfl (by decide) (fun c3 => ?_) (fun c3 => ?_)
  · have h := h.1 c3
    refine dk_iconst (v := 1) C dX9_pray_12 (n := 13) rfl (by decide) ?_
    refine dk_sub (L0 := [some (dk_r G 4 60), none, none]) ⟨rfl, trivial⟩ ?_
    exact ww_X9_pray_13 C hr hlk hmi  1 s1 h
  · have h := h.2 c3
    refine dk_iconst (v := 0) C dX9_pray_8 (n := 9) rfl (by decide) ?_
    refine dk_goto (t := 13) C dX9_pray_9 (by decide) ?_
    refine dk_sub (L0 := [some (dk_r G 4 60), none, none]) ⟨rfl, trivial⟩ ?_
    exact ww_X9_pray_13 C hr hlk hmi  0 s1 h
/-! X9_state -/
def wf_X9_state  (s : dk_S) (K : Int32 → dk_S → Prop) : Prop :=
  ∀ s1 : dk_S, s1 = dk_row s 4 60 (upd (s 4 60) 0 0) → (narrow .char (.int (s1 4 60 1)) = .int (s1 4 60 1) ∧ K (s1 4 60 1) s1)
set_option maxRecDepth 20000 in
set_option maxHeartbeats 4000000 in
theorem cc_X9_state {G : dk_G} {l : Launch}  (hD : dk_D G) (hmi : dk_MI G) {s : dk_S} {K : Int32 → dk_S → Prop} (h : wf_X9_state s K) : dk_M G l 1 yX9_state cX9_state 1 (some .char) [dk_r G 4 60] s (dk_ki K) := by
  refine dk_of hD (by decide) [some (dk_r G 4 60)] (fun q hq => hq) rfl (Nat.le_of_ble_eq_true rfl) (fun P e S0 m args bel meth c C hr hlk => ?_)
  unfold wf_X9_state at h
  refine dk_aload_n (i := 0) C dX9_state_0 (n := 1) rfl rfl rfl ?_
  refine dk_iconst (v := 0) C dX9_state_1 (n := 2) rfl (by decide) ?_
  refine pf_X9_107 C rfl rfl (hmi 60 (by decide) (by decide)) dX9_state_2 (n := 5) rfl ?_
  refine dk_nameS (fun s1 es1 => ?_)
  have h := h s1 es1
  refine dk_aload_n (i := 0) C dX9_state_5 (n := 6) rfl rfl rfl ?_
  refine gf_X9_7 C (hmi 60 (by decide) (by decide)) dX9_state_6 (n := 9) rfl ?_
  exact dk_iret C hr hlk h.1 dX9_state_9 ⟨_, rfl, h.2⟩
/-! X9_tick -/
def wf_X9_tick  (s : dk_S) (K : Int32 → dk_S → Prop) : Prop :=
  ∀ s1 : dk_S, s1 = dk_row s 4 60 (upd (s 4 60) 0 0) → K (s1 4 60 2) s1
set_option maxRecDepth 20000 in
set_option maxHeartbeats 4000000 in
theorem cc_X9_tick {G : dk_G} {l : Launch}  (hD : dk_D G) (hmi : dk_MI G) {s : dk_S} {K : Int32 → dk_S → Prop} (h : wf_X9_tick s K) : dk_M G l 1 yX9_tick cX9_tick 1 (some .int) [dk_r G 4 60] s (dk_ki K) := by
  refine dk_of hD (by decide) [some (dk_r G 4 60)] (fun q hq => hq) rfl (Nat.le_of_ble_eq_true rfl) (fun P e S0 m args bel meth c C hr hlk => ?_)
  unfold wf_X9_tick at h
  refine dk_aload_n (i := 0) C dX9_tick_0 (n := 1) rfl rfl rfl ?_
  refine dk_iconst (v := 0) C dX9_tick_1 (n := 2) rfl (by decide) ?_
  refine pf_X9_107 C rfl rfl (hmi 60 (by decide) (by decide)) dX9_tick_2 (n := 5) rfl ?_
  refine dk_nameS (fun s1 es1 => ?_)
  have h := h s1 es1
  refine dk_aload_n (i := 0) C dX9_tick_5 (n := 6) rfl rfl rfl ?_
  refine gf_X9_133 C (hmi 60 (by decide) (by decide)) dX9_tick_6 (n := 9) rfl ?_
  exact dk_iret C hr hlk rfl dX9_tick_9 ⟨_, rfl, h⟩
/-! X9_cell -/
def wf_X9_cell_14  (K : Int32 → dk_S → Prop) (x1 : Int32) (x2 : Int32) (y0 : Int32) (s : dk_S) : Prop :=
  wf_X9_goesOn y0 s (fun r5 s4 => ((r5 = 0 → K 0 s4) ∧ (¬ r5 = 0 → wf_X9_at x1 x2 s4 (fun r7 s6 => (vp_in r7 144 ∧ (narrow .char (.int (s6 4 75 r7.toNatClampNeg)) = .int (s6 4 75 r7.toNatClampNeg) ∧ K (s6 4 75 r7.toNatClampNeg) s6))))))
def wf_X9_cell (a1 : Int32) (a2 : Int32) (s : dk_S) (K : Int32 → dk_S → Prop) : Prop :=
  wf_X9_isPlace a1 a2 s (fun r2 s1 => ((r2 = 0 → wf_X9_cell_14 K a1 a2 1 s1) ∧ (¬ r2 = 0 → wf_X9_cell_14 K a1 a2 0 s1)))
set_option maxRecDepth 20000 in
set_option maxHeartbeats 4000000 in
theorem ww_X9_cell_14 {G : dk_G} {P : Program} {l : Launch} {e : Env} {S0 : State} {m : MethodId} {args : Array Value} {bel : List Frame} {meth : Method} {c : Code}  (C : dk_C G P (dk_rm 3) S0 m args c 0 0 cX9_cell 3 RX9) (hr : meth.sig.returnType = (some .char)) (hlk : meth.locks = false) (hmi : dk_MI G) {K : Int32 → dk_S → Prop}  : ∀ (x1 : Int32) (x2 : Int32) (y0 : Int32) (s : dk_S), wf_X9_cell_14 K x1 x2 y0 s → dk_W G P l e (dk_rm 3) S0 m args bel meth c 0 0 (MQ bel (dk_Qc G (dk_ki K)) args S0 0 0 (dk_A G)) 14 [some (dk_r G 4 60), some (.int x1), some (.int x2)] [.int y0, dk_r G 4 60] s := by
  intro x1 x2 y0 s h
  unfold wf_X9_cell_14 at h
  refine dk_callVi C [] (cc_X9_goesOn C.D hmi h) yy_X9_goesOn dk_wm_X9_149 dk_sh60 (hmi 60 (by decide) (by decide)) dX9_cell_14 (fun r5 s4 h => ?_) rfl rfl ⟨Nat.le_of_ble_eq_true rfl, Nat.le_of_ble_eq_true rfl⟩ rfl (Nat.le_of_ble_eq_true rfl) rfl (n := 17) rfl
  refine dk_if_eq (t := 33) C dX9_cell_17 (n := 20) rfl (by decide) (fun c8 => ?_) (fun c8 => ?_)
  · have h := h.1 c8
    refine dk_iconst (v := 0) C dX9_cell_33 (n := 34) rfl (by decide) ?_
    exact dk_iret C hr hlk (by decide) dX9_cell_34 ⟨_, rfl, h⟩
  · have h := h.2 c8
    refine dk_aload_n (i := 0) C dX9_cell_20 (n := 21) rfl rfl rfl ?_
    refine gf_X9_62 C (hmi 60 (by decide) (by decide)) dX9_cell_21 (n := 24) rfl ?_
    refine dk_iload_n (i := 1) C dX9_cell_24 (n := 25) rfl rfl rfl ?_
    refine dk_iload_n (i := 2) C dX9_cell_25 (n := 26) rfl rfl rfl ?_
    refine dk_callSi C [dk_r G 4 75] (cc_X9_at C.D  h) yy_X9_at dk_wm_X9_125 dX9_cell_26 (fun r7 s6 h => ?_) rfl ⟨Nat.le_of_ble_eq_true rfl, Nat.le_of_ble_eq_true rfl⟩ rfl (Nat.le_of_ble_eq_true rfl) rfl (n := 29) rfl
    refine dk_cald C dk_sh75 h.1 (hmi 75 (by decide) (by decide)) dX9_cell_29 (n := 30) rfl ?_
    have h := h.2
    refine dk_goto (t := 34) C dX9_cell_30 (by decide) ?_
    exact dk_iret C hr hlk h.1 dX9_cell_34 ⟨_, rfl, h.2⟩
set_option maxRecDepth 20000 in
set_option maxHeartbeats 4000000 in
theorem cc_X9_cell {G : dk_G} {l : Launch} {a1 : Int32} {a2 : Int32} (hD : dk_D G) (hmi : dk_MI G) {s : dk_S} {K : Int32 → dk_S → Prop} (h : wf_X9_cell a1 a2 s K) : dk_M G l 3 yX9_cell cX9_cell 3 (some .char) [dk_r G 4 60, .int a1, .int a2] s (dk_ki K) := by
  refine dk_of hD (by decide) [some (dk_r G 4 60), some (.int a1), some (.int a2)] (fun q hq => hq) rfl (Nat.le_of_ble_eq_true rfl) (fun P e S0 m args bel meth c C hr hlk => ?_)
  unfold wf_X9_cell at h
  refine dk_aload_n (i := 0) C dX9_cell_0 (n := 1) rfl rfl rfl ?_
  refine dk_iload_n (i := 1) C dX9_cell_1 (n := 2) rfl rfl rfl ?_
  refine dk_iload_n (i := 2) C dX9_cell_2 (n := 3) rfl rfl rfl ?_
  refine dk_callSi C [dk_r G 4 60] (cc_X9_isPlace C.D  h) yy_X9_isPlace dk_wm_X9_121 dX9_cell_3 (fun r2 s1 h => ?_) rfl ⟨Nat.le_of_ble_eq_true rfl, Nat.le_of_ble_eq_true rfl⟩ rfl (Nat.le_of_ble_eq_true rfl) rfl (n := 6) rfl
  refine dk_if_eq (t := 13) C dX9_cell_6 (n := 9) rfl (by decide) (fun c3 => ?_) (fun c3 => ?_)
  · have h := h.1 c3
    refine dk_iconst (v := 1) C dX9_cell_13 (n := 14) rfl (by decide) ?_
    refine dk_sub (L0 := [some (dk_r G 4 60), some (.int a1), some (.int a2)]) ⟨rfl, ⟨rfl, ⟨rfl, trivial⟩⟩⟩ ?_
    exact ww_X9_cell_14 C hr hlk hmi  a1 a2 1 s1 h
  · have h := h.2 c3
    refine dk_iconst (v := 0) C dX9_cell_9 (n := 10) rfl (by decide) ?_
    refine dk_goto (t := 14) C dX9_cell_10 (by decide) ?_
    refine dk_sub (L0 := [some (dk_r G 4 60), some (.int a1), some (.int a2)]) ⟨rfl, ⟨rfl, ⟨rfl, trivial⟩⟩⟩ ?_
    exact ww_X9_cell_14 C hr hlk hmi  a1 a2 0 s1 h
/-! X9_see -/
def wf_X9_see_23  (K : Int32 → dk_S → Prop) (x1 : Int32) (x2 : Int32) (x3 : Int32) (x4 : Int32) (y0 : Int32) (s : dk_S) : Prop :=
  wf_X9_goesOn y0 s (fun r8 s7 => ((r8 = 0 → K 0 s7) ∧ (¬ r8 = 0 → wf_X9_at x1 x2 s7 (fun r10 s9 => wf_X9_at x3 x4 s9 (fun r12 s11 => wf_X9_sees r10 r12 s11 (fun r14 s13 => ((r14 = 0 → K 0 s13) ∧ (¬ r14 = 0 → K 1 s13))))))))
def wf_X9_see (a1 : Int32) (a2 : Int32) (a3 : Int32) (a4 : Int32) (s : dk_S) (K : Int32 → dk_S → Prop) : Prop :=
  wf_X9_isPlace a1 a2 s (fun r2 s1 => ((r2 = 0 → wf_X9_see_23 K a1 a2 a3 a4 1 s1) ∧ (¬ r2 = 0 → wf_X9_isPlace a3 a4 s1 (fun r4 s3 => ((r4 = 0 → wf_X9_see_23 K a1 a2 a3 a4 1 s3) ∧ (¬ r4 = 0 → wf_X9_see_23 K a1 a2 a3 a4 0 s3))))))
set_option maxRecDepth 20000 in
set_option maxHeartbeats 4000000 in
theorem ww_X9_see_23 {G : dk_G} {P : Program} {l : Launch} {e : Env} {S0 : State} {m : MethodId} {args : Array Value} {bel : List Frame} {meth : Method} {c : Code}  (C : dk_C G P (dk_rm 4) S0 m args c 0 0 cX9_see 5 RX9) (hr : meth.sig.returnType = (some .boolean)) (hlk : meth.locks = false) (hmi : dk_MI G) {K : Int32 → dk_S → Prop}  : ∀ (x1 : Int32) (x2 : Int32) (x3 : Int32) (x4 : Int32) (y0 : Int32) (s : dk_S), wf_X9_see_23 K x1 x2 x3 x4 y0 s → dk_W G P l e (dk_rm 4) S0 m args bel meth c 0 0 (MQ bel (dk_Qc G (dk_ki K)) args S0 0 0 (dk_A G)) 23 [some (dk_r G 4 60), some (.int x1), some (.int x2), some (.int x3), some (.int x4)] [.int y0, dk_r G 4 60] s := by
  intro x1 x2 x3 x4 y0 s h
  unfold wf_X9_see_23 at h
  refine dk_callVi C [] (cc_X9_goesOn C.D hmi h) yy_X9_goesOn dk_wm_X9_149 dk_sh60 (hmi 60 (by decide) (by decide)) dX9_see_23 (fun r8 s7 h => ?_) rfl rfl ⟨Nat.le_of_ble_eq_true rfl, Nat.le_of_ble_eq_true rfl⟩ rfl (Nat.le_of_ble_eq_true rfl) rfl (n := 26) rfl
  refine dk_if_eq (t := 51) C dX9_see_26 (n := 29) rfl (by decide) (fun c16 => ?_) (fun c16 => ?_)
  · have h := h.1 c16
    refine dk_iconst (v := 0) C dX9_see_51 (n := 52) rfl (by decide) ?_
    exact dk_iret C hr hlk dk_nz0 dX9_see_52 ⟨_, rfl, h⟩
  · have h := h.2 c16
    refine dk_aload_n (i := 0) C dX9_see_29 (n := 30) rfl rfl rfl ?_
    refine dk_iload_n (i := 1) C dX9_see_30 (n := 31) rfl rfl rfl ?_
    refine dk_iload_n (i := 2) C dX9_see_31 (n := 32) rfl rfl rfl ?_
    refine dk_callSi C [dk_r G 4 60] (cc_X9_at C.D  h) yy_X9_at dk_wm_X9_125 dX9_see_32 (fun r10 s9 h => ?_) rfl ⟨Nat.le_of_ble_eq_true rfl, Nat.le_of_ble_eq_true rfl⟩ rfl (Nat.le_of_ble_eq_true rfl) rfl (n := 35) rfl
    refine dk_iload_n (i := 3) C dX9_see_35 (n := 36) rfl rfl rfl ?_
    refine dk_iload C dX9_see_36 (n := 38) rfl (i := 4) rfl ?_
    refine dk_callSi C [.int r10, dk_r G 4 60] (cc_X9_at C.D  h) yy_X9_at dk_wm_X9_125 dX9_see_38 (fun r12 s11 h => ?_) rfl ⟨Nat.le_of_ble_eq_true rfl, Nat.le_of_ble_eq_true rfl⟩ rfl (Nat.le_of_ble_eq_true rfl) rfl (n := 41) rfl
    refine dk_callVi C [] (cc_X9_sees C.D hmi h) yy_X9_sees dk_wm_X9_180 dk_sh60 (hmi 60 (by decide) (by decide)) dX9_see_41 (fun r14 s13 h => ?_) rfl rfl ⟨Nat.le_of_ble_eq_true rfl, Nat.le_of_ble_eq_true rfl⟩ rfl (Nat.le_of_ble_eq_true rfl) rfl (n := 44) rfl
    refine dk_if_eq (t := 51) C dX9_see_44 (n := 47) rfl (by decide) (fun c15 => ?_) (fun c15 => ?_)
    · have h := h.1 c15
      refine dk_iconst (v := 0) C dX9_see_51 (n := 52) rfl (by decide) ?_
      exact dk_iret C hr hlk dk_nz0 dX9_see_52 ⟨_, rfl, h⟩
    · have h := h.2 c15
      refine dk_iconst (v := 1) C dX9_see_47 (n := 48) rfl (by decide) ?_
      refine dk_goto (t := 52) C dX9_see_48 (by decide) ?_
      exact dk_iret C hr hlk dk_nz1 dX9_see_52 ⟨_, rfl, h⟩
set_option maxRecDepth 20000 in
set_option maxHeartbeats 4000000 in
theorem cc_X9_see {G : dk_G} {l : Launch} {a1 : Int32} {a2 : Int32} {a3 : Int32} {a4 : Int32} (hD : dk_D G) (hmi : dk_MI G) {s : dk_S} {K : Int32 → dk_S → Prop} (h : wf_X9_see a1 a2 a3 a4 s K) : dk_M G l 4 yX9_see cX9_see 5 (some .boolean) [dk_r G 4 60, .int a1, .int a2, .int a3, .int a4] s (dk_ki K) := by
  refine dk_of hD (by decide) [some (dk_r G 4 60), some (.int a1), some (.int a2), some (.int a3), some (.int a4)] (fun q hq => hq) rfl (Nat.le_of_ble_eq_true rfl) (fun P e S0 m args bel meth c C hr hlk => ?_)
  unfold wf_X9_see at h
  refine dk_aload_n (i := 0) C dX9_see_0 (n := 1) rfl rfl rfl ?_
  refine dk_iload_n (i := 1) C dX9_see_1 (n := 2) rfl rfl rfl ?_
  refine dk_iload_n (i := 2) C dX9_see_2 (n := 3) rfl rfl rfl ?_
  refine dk_callSi C [dk_r G 4 60] (cc_X9_isPlace C.D  h) yy_X9_isPlace dk_wm_X9_121 dX9_see_3 (fun r2 s1 h => ?_) rfl ⟨Nat.le_of_ble_eq_true rfl, Nat.le_of_ble_eq_true rfl⟩ rfl (Nat.le_of_ble_eq_true rfl) rfl (n := 6) rfl
  refine dk_if_eq (t := 22) C dX9_see_6 (n := 9) rfl (by decide) (fun c6 => ?_) (fun c6 => ?_)
  · have h := h.1 c6
    refine dk_iconst (v := 1) C dX9_see_22 (n := 23) rfl (by decide) ?_
    refine dk_sub (L0 := [some (dk_r G 4 60), some (.int a1), some (.int a2), some (.int a3), some (.int a4)]) ⟨rfl, ⟨rfl, ⟨rfl, ⟨rfl, ⟨rfl, trivial⟩⟩⟩⟩⟩ ?_
    exact ww_X9_see_23 C hr hlk hmi  a1 a2 a3 a4 1 s1 h
  · have h := h.2 c6
    refine dk_iload_n (i := 3) C dX9_see_9 (n := 10) rfl rfl rfl ?_
    refine dk_iload C dX9_see_10 (n := 12) rfl (i := 4) rfl ?_
    refine dk_callSi C [dk_r G 4 60] (cc_X9_isPlace C.D  h) yy_X9_isPlace dk_wm_X9_121 dX9_see_12 (fun r4 s3 h => ?_) rfl ⟨Nat.le_of_ble_eq_true rfl, Nat.le_of_ble_eq_true rfl⟩ rfl (Nat.le_of_ble_eq_true rfl) rfl (n := 15) rfl
    refine dk_if_eq (t := 22) C dX9_see_15 (n := 18) rfl (by decide) (fun c5 => ?_) (fun c5 => ?_)
    · have h := h.1 c5
      refine dk_iconst (v := 1) C dX9_see_22 (n := 23) rfl (by decide) ?_
      refine dk_sub (L0 := [some (dk_r G 4 60), some (.int a1), some (.int a2), some (.int a3), some (.int a4)]) ⟨rfl, ⟨rfl, ⟨rfl, ⟨rfl, ⟨rfl, trivial⟩⟩⟩⟩⟩ ?_
      exact ww_X9_see_23 C hr hlk hmi  a1 a2 a3 a4 1 s3 h
    · have h := h.2 c5
      refine dk_iconst (v := 0) C dX9_see_18 (n := 19) rfl (by decide) ?_
      refine dk_goto (t := 23) C dX9_see_19 (by decide) ?_
      refine dk_sub (L0 := [some (dk_r G 4 60), some (.int a1), some (.int a2), some (.int a3), some (.int a4)]) ⟨rfl, ⟨rfl, ⟨rfl, ⟨rfl, ⟨rfl, trivial⟩⟩⟩⟩⟩ ?_
      exact ww_X9_see_23 C hr hlk hmi  a1 a2 a3 a4 0 s3 h
/-! X9_heroSees -/
def wf_X9_heroSees_25  (K : Int32 → dk_S → Prop) (x1 : Int32) (x2 : Int32) (y0 : Int32) (s : dk_S) : Prop :=
  wf_X9_goesOn y0 s (fun r8 s7 => ((r8 = 0 → K 0 s7) ∧ (¬ r8 = 0 → wf_X9_at x1 x2 s7 (fun r10 s9 => wf_X9_heroSeesCell r10 s9 (fun r12 s11 => ((r12 = 0 → K 0 s11) ∧ (¬ r12 = 0 → K 1 s11)))))))
def wf_X9_heroSees (a1 : Int32) (a2 : Int32) (s : dk_S) (K : Int32 → dk_S → Prop) : Prop :=
  wf_X9_isPlace a1 a2 s (fun r2 s1 => ((¬ r2 = 0 → wf_X9_isOn s1 (fun r4 s3 => ((¬ r4 = 0 → wf_X9_heroSees_25 K a1 a2 0 s3) ∧ (r4 = 0 → wf_X9_heroSees_25 K a1 a2 2 s3)))) ∧ (r2 = 0 → wf_X9_heroSees_25 K a1 a2 1 s1)))
set_option maxRecDepth 20000 in
set_option maxHeartbeats 4000000 in
theorem ww_X9_heroSees_25 {G : dk_G} {P : Program} {l : Launch} {e : Env} {S0 : State} {m : MethodId} {args : Array Value} {bel : List Frame} {meth : Method} {c : Code}  (C : dk_C G P (dk_rm 6) S0 m args c 0 0 cX9_heroSees 3 RX9) (hr : meth.sig.returnType = (some .boolean)) (hlk : meth.locks = false) (hmi : dk_MI G) {K : Int32 → dk_S → Prop}  : ∀ (x1 : Int32) (x2 : Int32) (y0 : Int32) (s : dk_S), wf_X9_heroSees_25 K x1 x2 y0 s → dk_W G P l e (dk_rm 6) S0 m args bel meth c 0 0 (MQ bel (dk_Qc G (dk_ki K)) args S0 0 0 (dk_A G)) 25 [some (dk_r G 4 60), some (.int x1), some (.int x2)] [.int y0, dk_r G 4 60] s := by
  intro x1 x2 y0 s h
  unfold wf_X9_heroSees_25 at h
  refine dk_callVi C [] (cc_X9_goesOn C.D hmi h) yy_X9_goesOn dk_wm_X9_149 dk_sh60 (hmi 60 (by decide) (by decide)) dX9_heroSees_25 (fun r8 s7 h => ?_) rfl rfl ⟨Nat.le_of_ble_eq_true rfl, Nat.le_of_ble_eq_true rfl⟩ rfl (Nat.le_of_ble_eq_true rfl) rfl (n := 28) rfl
  refine dk_if_eq (t := 47) C dX9_heroSees_28 (n := 31) rfl (by decide) (fun c14 => ?_) (fun c14 => ?_)
  · have h := h.1 c14
    refine dk_iconst (v := 0) C dX9_heroSees_47 (n := 48) rfl (by decide) ?_
    exact dk_iret C hr hlk dk_nz0 dX9_heroSees_48 ⟨_, rfl, h⟩
  · have h := h.2 c14
    refine dk_aload_n (i := 0) C dX9_heroSees_31 (n := 32) rfl rfl rfl ?_
    refine dk_iload_n (i := 1) C dX9_heroSees_32 (n := 33) rfl rfl rfl ?_
    refine dk_iload_n (i := 2) C dX9_heroSees_33 (n := 34) rfl rfl rfl ?_
    refine dk_callSi C [dk_r G 4 60] (cc_X9_at C.D  h) yy_X9_at dk_wm_X9_125 dX9_heroSees_34 (fun r10 s9 h => ?_) rfl ⟨Nat.le_of_ble_eq_true rfl, Nat.le_of_ble_eq_true rfl⟩ rfl (Nat.le_of_ble_eq_true rfl) rfl (n := 37) rfl
    refine dk_callVi C [] (cc_X9_heroSeesCell C.D hmi h) yy_X9_heroSeesCell dk_wm_X9_291 dk_sh60 (hmi 60 (by decide) (by decide)) dX9_heroSees_37 (fun r12 s11 h => ?_) rfl rfl ⟨Nat.le_of_ble_eq_true rfl, Nat.le_of_ble_eq_true rfl⟩ rfl (Nat.le_of_ble_eq_true rfl) rfl (n := 40) rfl
    refine dk_if_eq (t := 47) C dX9_heroSees_40 (n := 43) rfl (by decide) (fun c13 => ?_) (fun c13 => ?_)
    · have h := h.1 c13
      refine dk_iconst (v := 0) C dX9_heroSees_47 (n := 48) rfl (by decide) ?_
      exact dk_iret C hr hlk dk_nz0 dX9_heroSees_48 ⟨_, rfl, h⟩
    · have h := h.2 c13
      refine dk_iconst (v := 1) C dX9_heroSees_43 (n := 44) rfl (by decide) ?_
      refine dk_goto (t := 48) C dX9_heroSees_44 (by decide) ?_
      exact dk_iret C hr hlk dk_nz1 dX9_heroSees_48 ⟨_, rfl, h⟩
set_option maxRecDepth 20000 in
set_option maxHeartbeats 4000000 in
theorem cc_X9_heroSees {G : dk_G} {l : Launch} {a1 : Int32} {a2 : Int32} (hD : dk_D G) (hmi : dk_MI G) {s : dk_S} {K : Int32 → dk_S → Prop} (h : wf_X9_heroSees a1 a2 s K) : dk_M G l 6 yX9_heroSees cX9_heroSees 3 (some .boolean) [dk_r G 4 60, .int a1, .int a2] s (dk_ki K) := by
  refine dk_of hD (by decide) [some (dk_r G 4 60), some (.int a1), some (.int a2)] (fun q hq => hq) rfl (Nat.le_of_ble_eq_true rfl) (fun P e S0 m args bel meth c C hr hlk => ?_)
  unfold wf_X9_heroSees at h
  refine dk_aload_n (i := 0) C dX9_heroSees_0 (n := 1) rfl rfl rfl ?_
  refine dk_iload_n (i := 1) C dX9_heroSees_1 (n := 2) rfl rfl rfl ?_
  refine dk_iload_n (i := 2) C dX9_heroSees_2 (n := 3) rfl rfl rfl ?_
  refine dk_callSi C [dk_r G 4 60] (cc_X9_isPlace C.D  h) yy_X9_isPlace dk_wm_X9_121 dX9_heroSees_3 (fun r2 s1 h => ?_) rfl ⟨Nat.le_of_ble_eq_true rfl, Nat.le_of_ble_eq_true rfl⟩ rfl (Nat.le_of_ble_eq_true rfl) rfl (n := 6) rfl
  refine dk_if_ne (t := 13) C dX9_heroSees_6 (n := 9) rfl (by decide) (fun c6 => ?_) (fun c6 => ?_)
  · have h := h.1 c6
    refine dk_aload_n (i := 0) C dX9_heroSees_13 (n := 14) rfl rfl rfl ?_
    refine dk_callVi C [dk_r G 4 60] (cc_X9_isOn C.D hmi h) yy_X9_isOn dk_wm_X9_145 dk_sh60 (hmi 60 (by decide) (by decide)) dX9_heroSees_14 (fun r4 s3 h => ?_) rfl rfl ⟨Nat.le_of_ble_eq_true rfl, Nat.le_of_ble_eq_true rfl⟩ rfl (Nat.le_of_ble_eq_true rfl) rfl (n := 17) rfl
    refine dk_if_ne (t := 24) C dX9_heroSees_17 (n := 20) rfl (by decide) (fun c5 => ?_) (fun c5 => ?_)
    · have h := h.1 c5
      refine dk_iconst (v := 0) C dX9_heroSees_24 (n := 25) rfl (by decide) ?_
      refine dk_sub (L0 := [some (dk_r G 4 60), some (.int a1), some (.int a2)]) ⟨rfl, ⟨rfl, ⟨rfl, trivial⟩⟩⟩ ?_
      exact ww_X9_heroSees_25 C hr hlk hmi  a1 a2 0 s3 h
    · have h := h.2 c5
      refine dk_iconst (v := 2) C dX9_heroSees_20 (n := 21) rfl (by decide) ?_
      refine dk_goto (t := 25) C dX9_heroSees_21 (by decide) ?_
      refine dk_sub (L0 := [some (dk_r G 4 60), some (.int a1), some (.int a2)]) ⟨rfl, ⟨rfl, ⟨rfl, trivial⟩⟩⟩ ?_
      exact ww_X9_heroSees_25 C hr hlk hmi  a1 a2 2 s3 h
  · have h := h.2 c6
    refine dk_iconst (v := 1) C dX9_heroSees_9 (n := 10) rfl (by decide) ?_
    refine dk_goto (t := 25) C dX9_heroSees_10 (by decide) ?_
    refine dk_sub (L0 := [some (dk_r G 4 60), some (.int a1), some (.int a2)]) ⟨rfl, ⟨rfl, ⟨rfl, trivial⟩⟩⟩ ?_
    exact ww_X9_heroSees_25 C hr hlk hmi  a1 a2 1 s1 h
/-! X9_placeOf -/
def wf_X9_placeOf_20  (K : Int32 → dk_S → Prop) (x1 : Int32) (y0 : Int32) (s : dk_S) : Prop :=
  wf_X9_goesOn y0 s (fun r5 s4 => ((r5 = 0 → K 0 s4) ∧ (¬ r5 = 0 → (vp_in x1 8 ∧ wf_X9_told (s4 4 76 x1.toNatClampNeg) s4 (fun r7 s6 => K r7 s6)))))
def wf_X9_placeOf (a1 : Int32) (s : dk_S) (K : Int32 → dk_S → Prop) : Prop :=
  wf_X9_in a1 0 ((s 4 60 10) - 1) s (fun r2 s1 => ((r2 = 0 → wf_X9_placeOf_20 K a1 1 s1) ∧ (¬ r2 = 0 → wf_X9_placeOf_20 K a1 0 s1)))
set_option maxRecDepth 20000 in
set_option maxHeartbeats 4000000 in
theorem ww_X9_placeOf_20 {G : dk_G} {P : Program} {l : Launch} {e : Env} {S0 : State} {m : MethodId} {args : Array Value} {bel : List Frame} {meth : Method} {c : Code}  (C : dk_C G P (dk_rm 3) S0 m args c 0 0 cX9_placeOf 2 RX9) (hr : meth.sig.returnType = (some .int)) (hlk : meth.locks = false) (hmi : dk_MI G) {K : Int32 → dk_S → Prop}  : ∀ (x1 : Int32) (y0 : Int32) (s : dk_S), wf_X9_placeOf_20 K x1 y0 s → dk_W G P l e (dk_rm 3) S0 m args bel meth c 0 0 (MQ bel (dk_Qc G (dk_ki K)) args S0 0 0 (dk_A G)) 20 [some (dk_r G 4 60), some (.int x1)] [.int y0, dk_r G 4 60] s := by
  intro x1 y0 s h
  unfold wf_X9_placeOf_20 at h
  refine dk_callVi C [] (cc_X9_goesOn C.D hmi h) yy_X9_goesOn dk_wm_X9_149 dk_sh60 (hmi 60 (by decide) (by decide)) dX9_placeOf_20 (fun r5 s4 h => ?_) rfl rfl ⟨Nat.le_of_ble_eq_true rfl, Nat.le_of_ble_eq_true rfl⟩ rfl (Nat.le_of_ble_eq_true rfl) rfl (n := 23) rfl
  refine dk_if_eq (t := 38) C dX9_placeOf_23 (n := 26) rfl (by decide) (fun c8 => ?_) (fun c8 => ?_)
  · have h := h.1 c8
    refine dk_iconst (v := 0) C dX9_placeOf_38 (n := 39) rfl (by decide) ?_
    exact dk_iret C hr hlk rfl dX9_placeOf_39 ⟨_, rfl, h⟩
  · have h := h.2 c8
    refine dk_aload_n (i := 0) C dX9_placeOf_26 (n := 27) rfl rfl rfl ?_
    refine gf_X9_65 C (hmi 60 (by decide) (by decide)) dX9_placeOf_27 (n := 30) rfl ?_
    refine dk_iload_n (i := 1) C dX9_placeOf_30 (n := 31) rfl rfl rfl ?_
    refine dk_iald C dk_sh76 h.1 (hmi 76 (by decide) (by decide)) dX9_placeOf_31 (n := 32) rfl ?_
    have h := h.2
    refine dk_callSi C [] (cc_X9_told C.D  h) yy_X9_told dk_wm_X9_294 dX9_placeOf_32 (fun r7 s6 h => ?_) rfl ⟨Nat.le_of_ble_eq_true rfl, Nat.le_of_ble_eq_true rfl⟩ rfl (Nat.le_of_ble_eq_true rfl) rfl (n := 35) rfl
    refine dk_goto (t := 39) C dX9_placeOf_35 (by decide) ?_
    exact dk_iret C hr hlk rfl dX9_placeOf_39 ⟨_, rfl, h⟩
set_option maxRecDepth 20000 in
set_option maxHeartbeats 4000000 in
theorem cc_X9_placeOf {G : dk_G} {l : Launch} {a1 : Int32} (hD : dk_D G) (hmi : dk_MI G) {s : dk_S} {K : Int32 → dk_S → Prop} (h : wf_X9_placeOf a1 s K) : dk_M G l 3 yX9_placeOf cX9_placeOf 2 (some .int) [dk_r G 4 60, .int a1] s (dk_ki K) := by
  refine dk_of hD (by decide) [some (dk_r G 4 60), some (.int a1)] (fun q hq => hq) rfl (Nat.le_of_ble_eq_true rfl) (fun P e S0 m args bel meth c C hr hlk => ?_)
  unfold wf_X9_placeOf at h
  refine dk_aload_n (i := 0) C dX9_placeOf_0 (n := 1) rfl rfl rfl ?_
  refine dk_iload_n (i := 1) C dX9_placeOf_1 (n := 2) rfl rfl rfl ?_
  refine dk_iconst (v := 0) C dX9_placeOf_2 (n := 3) rfl (by decide) ?_
  refine dk_aload_n (i := 0) C dX9_placeOf_3 (n := 4) rfl rfl rfl ?_
  refine gf_X9_34 C (hmi 60 (by decide) (by decide)) dX9_placeOf_4 (n := 7) rfl ?_
  refine dk_iconst (v := 1) C dX9_placeOf_7 (n := 8) rfl (by decide) ?_
  refine dk_isub C dX9_placeOf_8 (n := 9) rfl ?_
  refine dk_callSi C [dk_r G 4 60] (cc_X9_in C.D  h) yy_X9_in dk_wm_X9_110 dX9_placeOf_9 (fun r2 s1 h => ?_) rfl ⟨Nat.le_of_ble_eq_true rfl, Nat.le_of_ble_eq_true rfl⟩ rfl (Nat.le_of_ble_eq_true rfl) rfl (n := 12) rfl
  refine dk_if_eq (t := 19) C dX9_placeOf_12 (n := 15) rfl (by decide) (fun c3 => ?_) (fun c3 => ?_)
  · have h := h.1 c3
    refine dk_iconst (v := 1) C dX9_placeOf_19 (n := 20) rfl (by decide) ?_
    refine dk_sub (L0 := [some (dk_r G 4 60), some (.int a1)]) ⟨rfl, ⟨rfl, trivial⟩⟩ ?_
    exact ww_X9_placeOf_20 C hr hlk hmi  a1 1 s1 h
  · have h := h.2 c3
    refine dk_iconst (v := 0) C dX9_placeOf_15 (n := 16) rfl (by decide) ?_
    refine dk_goto (t := 20) C dX9_placeOf_16 (by decide) ?_
    refine dk_sub (L0 := [some (dk_r G 4 60), some (.int a1)]) ⟨rfl, ⟨rfl, trivial⟩⟩ ?_
    exact ww_X9_placeOf_20 C hr hlk hmi  a1 0 s1 h
