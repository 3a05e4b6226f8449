/-! X9_pray -/
set_option maxRecDepth 20000 in
set_option maxHeartbeats 4000000 in
theorem ww_X9_pray_90 {G : dk_G} {P : Program} {l : Launch} {e : Env} {S0 : State} {m : MethodId} {args : Array Value} {bel : List Frame} {meth : Method} {c : Code}  (C : dk_C G P (dk_rm 9) S0 m args c 0 0 cX9_pray 3 RX9) (hr : meth.sig.returnType = (some .int)) (hlk : meth.locks = false) (hmi : dk_MI G) {K : Int32 → dk_S → Prop}  : ∀ (y0 : Int32) (y1 : Int32) (s : dk_S), wf_X9_pray_90 K y0 y1 s → dk_W G P l e (dk_rm 9) S0 m args bel meth c 0 0 (MQ bel (dk_Qc G (dk_ki K)) args S0 0 0 (dk_A G)) 90 [some (dk_r G 4 60), none, none] [.int y0, .int y1, dk_r G 4 60] s := by
  intro y0 y1 s h
  unfold wf_X9_pray_90 at h
  refine dk_isub C dX9_pray_90 (n := 91) rfl ?_
  refine pf_X9_139 C rfl rfl (hmi 60 (by decide) (by decide)) dX9_pray_91 (n := 94) rfl ?_
  refine dk_nameS (fun s12 es12 => ?_)
  have h := h s12 es12
  refine dk_aload_n (i := 0) C dX9_pray_94 (n := 95) rfl rfl rfl ?_
  refine gf_X9_139 C (hmi 60 (by decide) (by decide)) dX9_pray_95 (n := 98) rfl ?_
  refine dk_name (fun v13 ev13 => ?_)
  have h := h v13 ev13
  refine dk_istore_n (i := 2) (L' := [some (dk_r G 4 60), none, some (.int v13)]) C dX9_pray_98 (n := 99) rfl rfl (dk_nc_of rfl) (Nat.le_of_ble_eq_true rfl) rfl ?_
  refine dk_aload_n (i := 0) C dX9_pray_99 (n := 100) rfl rfl rfl ?_
  refine dk_callVv C [] (cc_X9_ends C.D hmi h) yy_X9_ends dk_wm_X9_273 dk_sh60 (hmi 60 (by decide) (by decide)) dX9_pray_100 (fun s14 h => ?_) rfl rfl ⟨Nat.le_of_ble_eq_true rfl, Nat.le_of_ble_eq_true rfl⟩ rfl (Nat.le_of_ble_eq_true rfl) rfl (n := 103) rfl
  refine dk_iload_n (i := 2) C dX9_pray_103 (n := 104) rfl rfl rfl ?_
  exact dk_iret C hr hlk rfl dX9_pray_104 ⟨_, rfl, h⟩
set_option maxRecDepth 20000 in
set_option maxHeartbeats 4000000 in
theorem ww_X9_pray_75 {G : dk_G} {P : Program} {l : Launch} {e : Env} {S0 : State} {m : MethodId} {args : Array Value} {bel : List Frame} {meth : Method} {c : Code}  (C : dk_C G P (dk_rm 9) S0 m args c 0 0 cX9_pray 3 RX9) (hr : meth.sig.returnType = (some .int)) (hlk : meth.locks = false) (hmi : dk_MI G) {K : Int32 → dk_S → Prop}  : ∀ (x1 : Int32) (y0 : Int32) (y1 : Int32) (s : dk_S), wf_X9_pray_75 K x1 y0 y1 s → dk_W G P l e (dk_rm 9) S0 m args bel meth c 0 0 (MQ bel (dk_Qc G (dk_ki K)) args S0 0 0 (dk_A G)) 75 [some (dk_r G 4 60), some (.int x1), none] [.int y0, .int y1, dk_r G 4 77] s := by
  intro x1 y0 y1 s h
  unfold wf_X9_pray_75 at h
  refine dk_iast C dk_sh77 h.1 (hmi 77 (by decide) (by decide)) dX9_pray_75 (n := 76) rfl ?_
  refine dk_nameS (fun s10 es10 => ?_)
  have h := h.2 s10 es10
  refine dk_aload_n (i := 0) C dX9_pray_76 (n := 77) rfl rfl rfl ?_
  refine dk_dup C dX9_pray_77 (n := 78) rfl rfl ?_
  refine gf_X9_139 C (hmi 60 (by decide) (by decide)) dX9_pray_78 (n := 81) rfl ?_
  refine dk_iload_n (i := 1) C dX9_pray_81 (n := 82) rfl rfl rfl ?_
  refine dk_if_eq (t := 89) C dX9_pray_82 (n := 85) rfl (by decide) (fun c11 => ?_) (fun c11 => ?_)
  · have h := h.1 c11
    refine dk_iconst (v := 1) C dX9_pray_89 (n := 90) rfl (by decide) ?_
    refine dk_sub (L0 := [some (dk_r G 4 60), none, none]) ⟨rfl, trivial⟩ ?_
    exact ww_X9_pray_90 C hr hlk hmi  1 (s10 4 60 31) s10 h
  · have h := h.2 c11
    refine dk_iconst (v := 5) C dX9_pray_85 (n := 86) rfl (by decide) ?_
    refine dk_goto (t := 90) C dX9_pray_86 (by decide) ?_
    refine dk_sub (L0 := [some (dk_r G 4 60), none, none]) ⟨rfl, trivial⟩ ?_
    exact ww_X9_pray_90 C hr hlk hmi  5 (s10 4 60 31) s10 h
set_option maxRecDepth 20000 in
set_option maxHeartbeats 4000000 in
theorem ww_X9_pray_50 {G : dk_G} {P : Program} {l : Launch} {e : Env} {S0 : State} {m : MethodId} {args : Array Value} {bel : List Frame} {meth : Method} {c : Code}  (C : dk_C G P (dk_rm 9) S0 m args c 0 0 cX9_pray 3 RX9) (hr : meth.sig.returnType = (some .int)) (hlk : meth.locks = false) (hmi : dk_MI G) {K : Int32 → dk_S → Prop}  : ∀ (y0 : Int32) (s : dk_S), wf_X9_pray_50 K y0 s → dk_W G P l e (dk_rm 9) S0 m args bel meth c 0 0 (MQ bel (dk_Qc G (dk_ki K)) args S0 0 0 (dk_A G)) 50 [some (dk_r G 4 60), none, none] [.int y0] s := by
  intro y0 s h
  unfold wf_X9_pray_50 at h
  refine dk_istore_n (i := 1) (L' := [some (dk_r G 4 60), some (.int y0), none]) C dX9_pray_50 (n := 51) rfl rfl (dk_nc_of rfl) (Nat.le_of_ble_eq_true rfl) rfl ?_
  refine dk_aload_n (i := 0) C dX9_pray_51 (n := 52) rfl rfl rfl ?_
  refine gf_X9_68 C (hmi 60 (by decide) (by decide)) dX9_pray_52 (n := 55) rfl ?_
  refine dk_iconst (v := 0) C dX9_pray_55 (n := 56) rfl (by decide) ?_
  refine dk_iload_n (i := 1) C dX9_pray_56 (n := 57) rfl rfl rfl ?_
  refine dk_if_eq (t := 69) C dX9_pray_57 (n := 60) rfl (by decide) (fun c9 => ?_) (fun c9 => ?_)
  · have h := h.1 c9
    refine dk_aload_n (i := 0) C dX9_pray_69 (n := 70) rfl rfl rfl ?_
    refine gf_X9_68 C (hmi 60 (by decide) (by decide)) dX9_pray_70 (n := 73) rfl ?_
    refine dk_iconst (v := 0) C dX9_pray_73 (n := 74) rfl (by decide) ?_
    refine dk_iald C dk_sh77 h.1 (hmi 77 (by decide) (by decide)) dX9_pray_74 (n := 75) rfl ?_
    have h := h.2
    refine dk_sub (L0 := [some (dk_r G 4 60), some (.int y0), none]) ⟨rfl, ⟨rfl, trivial⟩⟩ ?_
    exact ww_X9_pray_75 C hr hlk hmi  y0 (s 4 77 (0 : Int32).toNatClampNeg) 0 s h
  · have h := h.2 c9
    refine dk_aload_n (i := 0) C dX9_pray_60 (n := 61) rfl rfl rfl ?_
    refine gf_X9_47 C (hmi 60 (by decide) (by decide)) dX9_pray_61 (n := 64) rfl ?_
    refine dk_iconst (v := 0) C dX9_pray_64 (n := 65) rfl (by decide) ?_
    refine dk_iald C dk_sh70 h.1 (hmi 70 (by decide) (by decide)) dX9_pray_65 (n := 66) rfl ?_
    have h := h.2
    refine dk_goto (t := 75) C dX9_pray_66 (by decide) ?_
    refine dk_sub (L0 := [some (dk_r G 4 60), some (.int y0), none]) ⟨rfl, ⟨rfl, trivial⟩⟩ ?_
    exact ww_X9_pray_75 C hr hlk hmi  y0 (s 4 70 (0 : Int32).toNatClampNeg) 0 s h
set_option maxRecDepth 20000 in
set_option maxHeartbeats 4000000 in
theorem ww_X9_pray_13 {G : dk_G} {P : Program} {l : Launch} {e : Env} {S0 : State} {m : MethodId} {args : Array Value} {bel : List Frame} {meth : Method} {c : Code}  (C : dk_C G P (dk_rm 9) S0 m args c 0 0 cX9_pray 3 RX9) (hr : meth.sig.returnType = (some .int)) (hlk : meth.locks = false) (hmi : dk_MI G) {K : Int32 → dk_S → Prop}  : ∀ (y0 : Int32) (s : dk_S), wf_X9_pray_13 K y0 s → dk_W G P l e (dk_rm 9) S0 m args bel meth c 0 0 (MQ bel (dk_Qc G (dk_ki K)) args S0 0 0 (dk_A G)) 13 [some (dk_r G 4 60), none, none] [.int y0, dk_r G 4 60] s := by
  intro y0 s h
  unfold wf_X9_pray_13 at h
  refine dk_callVi C [] (cc_X9_goesOn C.D hmi h) yy_X9_goesOn dk_wm_X9_149 dk_sh60 (hmi 60 (by decide) (by decide)) dX9_pray_13 (fun r5 s4 h => ?_) rfl rfl ⟨Nat.le_of_ble_eq_true rfl, Nat.le_of_ble_eq_true rfl⟩ rfl (Nat.le_of_ble_eq_true rfl) rfl (n := 16) rfl
  refine dk_if_ne (t := 21) C dX9_pray_16 (n := 19) rfl (by decide) (fun c8 => ?_) (fun c8 => ?_)
  · have h := h.1 c8
    refine dk_iconst (v := 3) C dX9_pray_21 (n := 22) rfl (by decide) ?_
    refine dk_aload_n (i := 0) C dX9_pray_22 (n := 23) rfl rfl rfl ?_
    refine gf_X9_68 C (hmi 60 (by decide) (by decide)) dX9_pray_23 (n := 26) rfl ?_
    refine dk_iconst (v := 0) C dX9_pray_26 (n := 27) rfl (by decide) ?_
    refine dk_iald C dk_sh77 h.1 (hmi 77 (by decide) (by decide)) dX9_pray_27 (n := 28) rfl ?_
    have h := h.2
    refine dk_imul C dX9_pray_28 (n := 29) rfl ?_
    refine dk_aload_n (i := 0) C dX9_pray_29 (n := 30) rfl rfl rfl ?_
    refine gf_X9_47 C (hmi 60 (by decide) (by decide)) dX9_pray_30 (n := 33) rfl ?_
    refine dk_iconst (v := 0) C dX9_pray_33 (n := 34) rfl (by decide) ?_
    refine dk_iald C dk_sh70 h.1 (hmi 70 (by decide) (by decide)) dX9_pray_34 (n := 35) rfl ?_
    have h := h.2
    refine dk_icmp_ge (t := 49) C dX9_pray_35 (n := 38) rfl (by decide) (fun c7 => ?_) (fun c7 => ?_)
    · have h := h.1 c7
      refine dk_iconst (v := 0) C dX9_pray_49 (n := 50) rfl (by decide) ?_
      refine dk_sub (L0 := [some (dk_r G 4 60), none, none]) ⟨rfl, trivial⟩ ?_
      exact ww_X9_pray_50 C hr hlk hmi  0 s4 h
    · have h := h.2 c7
      refine dk_aload_n (i := 0) C dX9_pray_38 (n := 39) rfl rfl rfl ?_
      refine gf_X9_139 C (hmi 60 (by decide) (by decide)) dX9_pray_39 (n := 42) rfl ?_
      refine dk_if_lt (t := 49) C dX9_pray_42 (n := 45) rfl (by decide) (fun c6 => ?_) (fun c6 => ?_)
      · have h := h.1 c6
        refine dk_iconst (v := 0) C dX9_pray_49 (n := 50) rfl (by decide) ?_
        refine dk_sub (L0 := [some (dk_r G 4 60), none, none]) ⟨rfl, trivial⟩ ?_
        exact ww_X9_pray_50 C hr hlk hmi  0 s4 h
      · have h := h.2 c6
        refine dk_iconst (v := 1) C dX9_pray_45 (n := 46) rfl (by decide) ?_
        refine dk_goto (t := 50) C dX9_pray_46 (by decide) ?_
        refine dk_sub (L0 := [some (dk_r G 4 60), none, none]) ⟨rfl, trivial⟩ ?_
        exact ww_X9_pray_50 C hr hlk hmi  1 s4 h
  · have h := h.2 c8
    refine dk_iconst (v := 0) C dX9_pray_19 (n := 20) rfl (by decide) ?_
    exact dk_iret C hr hlk rfl dX9_pray_20 ⟨_, rfl, h⟩
set_option maxRecDepth 20000 in
set_option maxHeartbeats 4000000 in
theorem cc_X9_pray {G : dk_G} {l : Launch}  (hD : dk_D G) (hmi : dk_MI G) {s : dk_S} {K : Int32 → dk_S → Prop} (h : wf_X9_pray s K) : dk_M G l 9 yX9_pray cX9_pray 3 (some .int) [dk_r G 4 60] s (dk_ki K) := by
  refine dk_of hD (by decide) [some (dk_r G 4 60), none, none] (fun q hq => hq) rfl (Nat.le_of_ble_eq_true rfl) (fun P e S0 m args bel meth c C hr hlk => ?_)
  unfold wf_X9_pray at h
  refine dk_aload_n (i := 0) C dX9_pray_0 (n := 1) rfl rfl rfl ?_
  refine dk_aload_n (i := 0) C dX9_pray_1 (n := 2) rfl rfl rfl ?_
  refine dk_callVi C [dk_r G 4 60] (cc_X9_isOn C.D hmi h) yy_X9_isOn dk_wm_X9_145 dk_sh60 (hmi 60 (by decide) (by decide)) dX9_pray_2 (fun r2 s1 h => ?_) rfl rfl ⟨Nat.le_of_ble_eq_true rfl, Nat.le_of_ble_eq_true rfl⟩ rfl (Nat.le_of_ble_eq_true rfl) rfl (n := 5) rfl
  refine dk_if_eq (t := 12) C dX9_pray_5 (n := 8) rfl (by decide) (fun c3 => ?_) (fun c3 => ?_)
  · have h := h.1 c3
    refine dk_iconst (v := 1) C dX9_pray_12 (n := 13) rfl (by decide) ?_
    refine dk_sub (L0 := [some (dk_r G 4 60), none, none]) ⟨rfl, trivial⟩ ?_
    exact ww_X9_pray_13 C hr hlk hmi  1 s1 h
  · have h := h.2 c3
    refine dk_iconst (v := 0) C dX9_pray_8 (n := 9) rfl (by decide) ?_
    refine dk_goto (t := 13) C dX9_pray_9 (by decide) ?_
    refine dk_sub (L0 := [some (dk_r G 4 60), none, none]) ⟨rfl, trivial⟩ ?_
    exact ww_X9_pray_13 C hr hlk hmi  0 s1 h
/-! X9_state -/
set_option maxRecDepth 20000 in
set_option maxHeartbeats 4000000 in
theorem cc_X9_state {G : dk_G} {l : Launch}  (hD : dk_D G) (hmi : dk_MI G) {s : dk_S} {K : Int32 → dk_S → Prop} (h : wf_X9_state s K) : dk_M G l 1 yX9_state cX9_state 1 (some .char) [dk_r G 4 60] s (dk_ki K) := by
  refine dk_of hD (by decide) [some (dk_r G 4 60)] (fun q hq => hq) rfl (Nat.le_of_ble_eq_true rfl) (fun P e S0 m args bel meth c C hr hlk => ?_)
  unfold wf_X9_state at h
  refine dk_aload_n (i := 0) C dX9_state_0 (n := 1) rfl rfl rfl ?_
  refine dk_iconst (v := 0) C dX9_state_1 (n := 2) rfl (by decide) ?_
  refine pf_X9_107 C rfl rfl (hmi 60 (by decide) (by decide)) dX9_state_2 (n := 5) rfl ?_
  refine dk_nameS (fun s1 es1 => ?_)
  have h := h s1 es1
  refine dk_aload_n (i := 0) C dX9_state_5 (n := 6) rfl rfl rfl ?_
  refine gf_X9_7 C (hmi 60 (by decide) (by decide)) dX9_state_6 (n := 9) rfl ?_
  exact dk_iret C hr hlk h.1 dX9_state_9 ⟨_, rfl, h.2⟩
/-! X9_tick -/
set_option maxRecDepth 20000 in
set_option maxHeartbeats 4000000 in
theorem cc_X9_tick {G : dk_G} {l : Launch}  (hD : dk_D G) (hmi : dk_MI G) {s : dk_S} {K : Int32 → dk_S → Prop} (h : wf_X9_tick s K) : dk_M G l 1 yX9_tick cX9_tick 1 (some .int) [dk_r G 4 60] s (dk_ki K) := by
  refine dk_of hD (by decide) [some (dk_r G 4 60)] (fun q hq => hq) rfl (Nat.le_of_ble_eq_true rfl) (fun P e S0 m args bel meth c C hr hlk => ?_)
  unfold wf_X9_tick at h
  refine dk_aload_n (i := 0) C dX9_tick_0 (n := 1) rfl rfl rfl ?_
  refine dk_iconst (v := 0) C dX9_tick_1 (n := 2) rfl (by decide) ?_
  refine pf_X9_107 C rfl rfl (hmi 60 (by decide) (by decide)) dX9_tick_2 (n := 5) rfl ?_
  refine dk_nameS (fun s1 es1 => ?_)
  have h := h s1 es1
  refine dk_aload_n (i := 0) C dX9_tick_5 (n := 6) rfl rfl rfl ?_
  refine gf_X9_133 C (hmi 60 (by decide) (by decide)) dX9_tick_6 (n := 9) rfl ?_
  exact dk_iret C hr hlk rfl dX9_tick_9 ⟨_, rfl, h⟩
/-! X9_cell -/
set_option maxRecDepth 20000 in
set_option maxHeartbeats 4000000 in
theorem ww_X9_cell_14 {G : dk_G} {P : Program} {l : Launch} {e : Env} {S0 : State} {m : MethodId} {args : Array Value} {bel : List Frame} {meth : Method} {c : Code}  (C : dk_C G P (dk_rm 3) S0 m args c 0 0 cX9_cell 3 RX9) (hr : meth.sig.returnType = (some .char)) (hlk : meth.locks = false) (hmi : dk_MI G) {K : Int32 → dk_S → Prop}  : ∀ (x1 : Int32) (x2 : Int32) (y0 : Int32) (s : dk_S), wf_X9_cell_14 K x1 x2 y0 s → dk_W G P l e (dk_rm 3) S0 m args bel meth c 0 0 (MQ bel (dk_Qc G (dk_ki K)) args S0 0 0 (dk_A G)) 14 [some (dk_r G 4 60), some (.int x1), some (.int x2)] [.int y0, dk_r G 4 60] s := by
  intro x1 x2 y0 s h
  unfold wf_X9_cell_14 at h
  refine dk_callVi C [] (cc_X9_goesOn C.D hmi h) yy_X9_goesOn dk_wm_X9_149 dk_sh60 (hmi 60 (by decide) (by decide)) dX9_cell_14 (fun r5 s4 h => ?_) rfl rfl ⟨Nat.le_of_ble_eq_true rfl, Nat.le_of_ble_eq_true rfl⟩ rfl (Nat.le_of_ble_eq_true rfl) rfl (n := 17) rfl
  refine dk_if_eq (t := 33) C dX9_cell_17 (n := 20) rfl (by decide) (fun c8 => ?_) (fun c8 => ?_)
  · have h := h.1 c8
    refine dk_iconst (v := 0) C dX9_cell_33 (n := 34) rfl (by decide) ?_
    exact dk_iret C hr hlk (by decide) dX9_cell_34 ⟨_, rfl, h⟩
  · have h := h.2 c8
    refine dk_aload_n (i := 0) C dX9_cell_20 (n := 21) rfl rfl rfl ?_
    refine gf_X9_62 C (hmi 60 (by decide) (by decide)) dX9_cell_21 (n := 24) rfl ?_
    refine dk_iload_n (i := 1) C dX9_cell_24 (n := 25) rfl rfl rfl ?_
    refine dk_iload_n (i := 2) C dX9_cell_25 (n := 26) rfl rfl rfl ?_
    refine dk_callSi C [dk_r G 4 75] (cc_X9_at C.D  h) yy_X9_at dk_wm_X9_125 dX9_cell_26 (fun r7 s6 h => ?_) rfl ⟨Nat.le_of_ble_eq_true rfl, Nat.le_of_ble_eq_true rfl⟩ rfl (Nat.le_of_ble_eq_true rfl) rfl (n := 29) rfl
    refine dk_cald C dk_sh75 h.1 (hmi 75 (by decide) (by decide)) dX9_cell_29 (n := 30) rfl ?_
    have h := h.2
    refine dk_goto (t := 34) C dX9_cell_30 (by decide) ?_
    exact dk_iret C hr hlk h.1 dX9_cell_34 ⟨_, rfl, h.2⟩
set_option maxRecDepth 20000 in
set_option maxHeartbeats 4000000 in
theorem cc_X9_cell {G : dk_G} {l : Launch} {a1 : Int32} {a2 : Int32} (hD : dk_D G) (hmi : dk_MI G) {s : dk_S} {K : Int32 → dk_S → Prop} (h : wf_X9_cell a1 a2 s K) : dk_M G l 3 yX9_cell cX9_cell 3 (some .char) [dk_r G 4 60, .int a1, .int a2] s (dk_ki K) := by
  refine dk_of hD (by decide) [some (dk_r G 4 60), some (.int a1), some (.int a2)] (fun q hq => hq) rfl (Nat.le_of_ble_eq_true rfl) (fun P e S0 m args bel meth c C hr hlk => ?_)
  unfold wf_X9_cell at h
  refine dk_aload_n (i := 0) C dX9_cell_0 (n := 1) rfl rfl rfl ?_
  refine dk_iload_n (i := 1) C dX9_cell_1 (n := 2) rfl rfl rfl ?_
  refine dk_iload_n (i := 2) C dX9_cell_2 (n := 3) rfl rfl rfl ?_
  refine dk_callSi C [dk_r G 4 60] (cc_X9_isPlace C.D  h) yy_X9_isPlace dk_wm_X9_121 dX9_cell_3 (fun r2 s1 h => ?_) rfl ⟨Nat.le_of_ble_eq_true rfl, Nat.le_of_ble_eq_true rfl⟩ rfl (Nat.le_of_ble_eq_true rfl) rfl (n := 6) rfl
  refine dk_if_eq (t := 13) C dX9_cell_6 (n := 9) rfl (by decide) (fun c3 => ?_) (fun c3 => ?_)
  · have h := h.1 c3
    refine dk_iconst (v := 1) C dX9_cell_13 (n := 14) rfl (by decide) ?_
    refine dk_sub (L0 := [some (dk_r G 4 60), some (.int a1), some (.int a2)]) ⟨rfl, ⟨rfl, ⟨rfl, trivial⟩⟩⟩ ?_
    exact ww_X9_cell_14 C hr hlk hmi  a1 a2 1 s1 h
  · have h := h.2 c3
    refine dk_iconst (v := 0) C dX9_cell_9 (n := 10) rfl (by decide) ?_
    refine dk_goto (t := 14) C dX9_cell_10 (by decide) ?_
    refine dk_sub (L0 := [some (dk_r G 4 60), some (.int a1), some (.int a2)]) ⟨rfl, ⟨rfl, ⟨rfl, trivial⟩⟩⟩ ?_
    exact ww_X9_cell_14 C hr hlk hmi  a1 a2 0 s1 h
/-! X9_see -/
set_option maxRecDepth 20000 in
set_option maxHeartbeats 4000000 in
theorem ww_X9_see_23 {G : dk_G} {P : Program} {l : Launch} {e : Env} {S0 : State} {m : MethodId} {args : Array Value} {bel : List Frame} {meth : Method} {c : Code}  (C : dk_C G P (dk_rm 4) S0 m args c 0 0 cX9_see 5 RX9) (hr : meth.sig.returnType = (some .boolean)) (hlk : meth.locks = false) (hmi : dk_MI G) {K : Int32 → dk_S → Prop}  : ∀ (x1 : Int32) (x2 : Int32) (x3 : Int32) (x4 : Int32) (y0 : Int32) (s : dk_S), wf_X9_see_23 K x1 x2 x3 x4 y0 s → dk_W G P l e (dk_rm 4) S0 m args bel meth c 0 0 (MQ bel (dk_Qc G (dk_ki K)) args S0 0 0 (dk_A G)) 23 [some (dk_r G 4 60), some (.int x1), some (.int x2), some (.int x3), some (.int x4)] [.int y0, dk_r G 4 60] s := by
  intro x1 x2 x3 x4 y0 s h
  unfold wf_X9_see_23 at h
  refine dk_callVi C [] (cc_X9_goesOn C.D hmi h) yy_X9_goesOn dk_wm_X9_149 dk_sh60 (hmi 60 (by decide) (by decide)) dX9_see_23 (fun r8 s7 h => ?_) rfl rfl ⟨Nat.le_of_ble_eq_true rfl, Nat.le_of_ble_eq_true rfl⟩ rfl (Nat.le_of_ble_eq_true rfl) rfl (n := 26) rfl
  refine dk_if_eq (t := 51) C dX9_see_26 (n := 29) rfl (by decide) (fun c16 => ?_) (fun c16 => ?_)
  · have h := h.1 c16
    refine dk_iconst (v := 0) C dX9_see_51 (n := 52) rfl (by decide) ?_
    exact dk_iret C hr hlk dk_nz0 dX9_see_52 ⟨_, rfl, h⟩
  · have h := h.2 c16
    refine dk_aload_n (i := 0) C dX9_see_29 (n := 30) rfl rfl rfl ?_
    refine dk_iload_n (i := 1) C dX9_see_30 (n := 31) rfl rfl rfl ?_
    refine dk_iload_n (i := 2) C dX9_see_31 (n := 32) rfl rfl rfl ?_
    refine dk_callSi C [dk_r G 4 60] (cc_X9_at C.D  h) yy_X9_at dk_wm_X9_125 dX9_see_32 (fun r10 s9 h => ?_) rfl ⟨Nat.le_of_ble_eq_true rfl, Nat.le_of_ble_eq_true rfl⟩ rfl (Nat.le_of_ble_eq_true rfl) rfl (n := 35) rfl
    refine dk_iload_n (i := 3) C dX9_see_35 (n := 36) rfl rfl rfl ?_
    refine dk_iload C dX9_see_36 (n := 38) rfl (i := 4) rfl ?_
    refine dk_callSi C [.int r10, dk_r G 4 60] (cc_X9_at C.D  h) yy_X9_at dk_wm_X9_125 dX9_see_38 (fun r12 s11 h => ?_) rfl ⟨Nat.le_of_ble_eq_true rfl, Nat.le_of_ble_eq_true rfl⟩ rfl (Nat.le_of_ble_eq_true rfl) rfl (n := 41) rfl
    refine dk_callVi C [] (cc_X9_sees C.D hmi h) yy_X9_sees dk_wm_X9_180 dk_sh60 (hmi 60 (by decide) (by decide)) dX9_see_41 (fun r14 s13 h => ?_) rfl rfl ⟨Nat.le_of_ble_eq_true rfl, Nat.le_of_ble_eq_true rfl⟩ rfl (Nat.le_of_ble_eq_true rfl) rfl (n := 44) rfl
    refine dk_if_eq (t := 51) C dX9_see_44 (n := 47) rfl (by decide) (fun c15 => ?_) (fun c15 => ?_)
    · have h := h.1 c15
      refine dk_iconst (v := 0) C dX9_see_51 (n := 52) rfl (by decide) ?_
      exact dk_iret C hr hlk dk_nz0 dX9_see_52 ⟨_, rfl, h⟩
    · have h := h.2 c15
      refine dk_iconst (v := 1) C dX9_see_47 (n := 48) rfl (by decide) ?_
      refine dk_goto (t := 52) C dX9_see_48 (by decide) ?_
      exact dk_iret C hr hlk dk_nz1 dX9_see_52 ⟨_, rfl, h⟩
set_option maxRecDepth 20000 in
set_option maxHeartbeats 4000000 in
theorem cc_X9_see {G : dk_G} {l : Launch} {a1 : Int32} {a2 : Int32} {a3 : Int32} {a4 : Int32} (hD : dk_D G) (hmi : dk_MI G) {s : dk_S} {K : Int32 → dk_S → Prop} (h : wf_X9_see a1 a2 a3 a4 s K) : dk_M G l 4 yX9_see cX9_see 5 (some .boolean) [dk_r G 4 60, .int a1, .int a2, .int a3, .int a4] s (dk_ki K) := by
  refine dk_of hD (by decide) [some (dk_r G 4 60), some (.int a1), some (.int a2), some (.int a3), some (.int a4)] (fun q hq => hq) rfl (Nat.le_of_ble_eq_true rfl) (fun P e S0 m args bel meth c C hr hlk => ?_)
  unfold wf_X9_see at h
  refine dk_aload_n (i := 0) C dX9_see_0 (n := 1) rfl rfl rfl ?_
  refine dk_iload_n (i := 1) C dX9_see_1 (n := 2) rfl rfl rfl ?_
  refine dk_iload_n (i := 2) C dX9_see_2 (n := 3) rfl rfl rfl ?_
  refine dk_callSi C [dk_r G 4 60] (cc_X9_isPlace C.D  h) yy_X9_isPlace dk_wm_X9_121 dX9_see_3 (fun r2 s1 h => ?_) rfl ⟨Nat.le_of_ble_eq_true rfl, Nat.le_of_ble_eq_true rfl⟩ rfl (Nat.le_of_ble_eq_true rfl) rfl (n := 6) rfl
  refine dk_if_eq (t := 22) C dX9_see_6 (n := 9) rfl (by decide) (fun c6 => ?_) (fun c6 => ?_)
  · have h := h.1 c6
    refine dk_iconst (v := 1) C dX9_see_22 (n := 23) rfl (by decide) ?_
    refine dk_sub (L0 := [some (dk_r G 4 60), some (.int a1), some (.int a2), some (.int a3), some (.int a4)]) ⟨rfl, ⟨rfl, ⟨rfl, ⟨rfl, ⟨rfl, trivial⟩⟩⟩⟩⟩ ?_
    exact ww_X9_see_23 C hr hlk hmi  a1 a2 a3 a4 1 s1 h
  · have h := h.2 c6
    refine dk_iload_n (i := 3) C dX9_see_9 (n := 10) rfl rfl rfl ?_
    refine dk_iload C dX9_see_10 (n := 12) rfl (i := 4) rfl ?_
    refine dk_callSi C [dk_r G 4 60] (cc_X9_isPlace C.D  h) yy_X9_isPlace dk_wm_X9_121 dX9_see_12 (fun r4 s3 h => ?_) rfl ⟨Nat.le_of_ble_eq_true rfl, Nat.le_of_ble_eq_true rfl⟩ rfl (Nat.le_of_ble_eq_true rfl) rfl (n := 15) rfl
    refine dk_if_eq (t := 22) C dX9_see_15 (n := 18) rfl (by decide) (fun c5 => ?_) (fun c5 => ?_)
    · have h := h.1 c5
      refine dk_iconst (v := 1) C dX9_see_22 (n := 23) rfl (by decide) ?_
      refine dk_sub (L0 := [some (dk_r G 4 60), some (.int a1), some (.int a2), some (.int a3), some (.int a4)]) ⟨rfl, ⟨rfl, ⟨rfl, ⟨rfl, ⟨rfl, trivial⟩⟩⟩⟩⟩ ?_
      exact ww_X9_see_23 C hr hlk hmi  a1 a2 a3 a4 1 s3 h
    · have h := h.2 c5
      refine dk_iconst (v := 0) C dX9_see_18 (n := 19) rfl (by decide) ?_
      refine dk_goto (t := 23) C dX9_see_19 (by decide) ?_
      refine dk_sub (L0 := [some (dk_r G 4 60), some (.int a1), some (.int a2), some (.int a3), some (.int a4)]) ⟨rfl, ⟨rfl, ⟨rfl, ⟨rfl, ⟨rfl, trivial⟩⟩⟩⟩⟩ ?_
      exact ww_X9_see_23 C hr hlk hmi  a1 a2 a3 a4 0 s3 h
/-! X9_heroSees -/
set_option maxRecDepth 20000 in
set_option maxHeartbeats 4000000 in
theorem ww_X9_heroSees_25 {G : dk_G} {P : Program} {l : Launch} {e : Env} {S0 : State} {m : MethodId} {args : Array Value} {bel : List Frame} {meth : Method} {c : Code}  (C : dk_C G P (dk_rm 6) S0 m args c 0 0 cX9_heroSees 3 RX9) (hr : meth.sig.returnType = (some .boolean)) (hlk : meth.locks = false) (hmi : dk_MI G) {K : Int32 → dk_S → Prop}  : ∀ (x1 : Int32) (x2 : Int32) (y0 : Int32) (s : dk_S), wf_X9_heroSees_25 K x1 x2 y0 s → dk_W G P l e (dk_rm 6) S0 m args bel meth c 0 0 (MQ bel (dk_Qc G (dk_ki K)) args S0 0 0 (dk_A G)) 25 [some (dk_r G 4 60), some (.int x1), some (.int x2)] [.int y0, dk_r G 4 60] s := by
  intro x1 x2 y0 s h
  unfold wf_X9_heroSees_25 at h
  refine dk_callVi C [] (cc_X9_goesOn C.D hmi h) yy_X9_goesOn dk_wm_X9_149 dk_sh60 (hmi 60 (by decide) (by decide)) dX9_heroSees_25 (fun r8 s7 h => ?_) rfl rfl ⟨Nat.le_of_ble_eq_true rfl, Nat.le_of_ble_eq_true rfl⟩ rfl (Nat.le_of_ble_eq_true rfl) rfl (n := 28) rfl
  refine dk_if_eq (t := 47) C dX9_heroSees_28 (n := 31) rfl (by decide) (fun c14 => ?_) (fun c14 => ?_)
  · have h := h.1 c14
    refine dk_iconst (v := 0) C dX9_heroSees_47 (n := 48) rfl (by decide) ?_
    exact dk_iret C hr hlk dk_nz0 dX9_heroSees_48 ⟨_, rfl, h⟩
  · have h := h.2 c14
    refine dk_aload_n (i := 0) C dX9_heroSees_31 (n := 32) rfl rfl rfl ?_
    refine dk_iload_n (i := 1) C dX9_heroSees_32 (n := 33) rfl rfl rfl ?_
    refine dk_iload_n (i := 2) C dX9_heroSees_33 (n := 34) rfl rfl rfl ?_
    refine dk_callSi C [dk_r G 4 60] (cc_X9_at C.D  h) yy_X9_at dk_wm_X9_125 dX9_heroSees_34 (fun r10 s9 h => ?_) rfl ⟨Nat.le_of_ble_eq_true rfl, Nat.le_of_ble_eq_true rfl⟩ rfl (Nat.le_of_ble_eq_true rfl) rfl (n := 37) rfl
    refine dk_callVi C [] (cc_X9_heroSeesCell C.D hmi h) yy_X9_heroSeesCell dk_wm_X9_291 dk_sh60 (hmi 60 (by decide) (by decide)) dX9_heroSees_37 (fun r12 s11 h => ?_) rfl rfl ⟨Nat.le_of_ble_eq_true rfl, Nat.le_of_ble_eq_true rfl⟩ rfl (Nat.le_of_ble_eq_true rfl) rfl (n := 40) rfl
    refine dk_if_eq (t := 47) C dX9_heroSees_40 (n := 43) rfl (by decide) (fun c13 => ?_) (fun c13 => ?_)
    · have h := h.1 c13
      refine dk_iconst (v := 0) C dX9_heroSees_47 (n := 48) rfl (by decide) ?_
      exact dk_iret C hr hlk dk_nz0 dX9_heroSees_48 ⟨_, rfl, h⟩
    · have h := h.2 c13
      refine dk_iconst (v := 1) C dX9_heroSees_43 (n := 44) rfl (by decide) ?_
      refine dk_goto (t := 48) C dX9_heroSees_44 (by decide) ?_
      exact dk_iret C hr hlk dk_nz1 dX9_heroSees_48 ⟨_, rfl, h⟩
set_option maxRecDepth 20000 in
set_option maxHeartbeats 4000000 in
theorem cc_X9_heroSees {G : dk_G} {l : Launch} {a1 : Int32} {a2 : Int32} (hD : dk_D G) (hmi : dk_MI G) {s : dk_S} {K : Int32 → dk_S → Prop} (h : wf_X9_heroSees a1 a2 s K) : dk_M G l 6 yX9_heroSees cX9_heroSees 3 (some .boolean) [dk_r G 4 60, .int a1, .int a2] s (dk_ki K) := by
  refine dk_of hD (by decide) [some (dk_r G 4 60), some (.int a1), some (.int a2)] (fun q hq => hq) rfl (Nat.le_of_ble_eq_true rfl) (fun P e S0 m args bel meth c C hr hlk => ?_)
  unfold wf_X9_heroSees at h
  refine dk_aload_n (i := 0) C dX9_heroSees_0 (n := 1) rfl rfl rfl ?_
  refine dk_iload_n (i := 1) C dX9_heroSees_1 (n := 2) rfl rfl rfl ?_
  refine dk_iload_n (i := 2) C dX9_heroSees_2 (n := 3) rfl rfl rfl ?_
  refine dk_callSi C [dk_r G 4 60] (cc_X9_isPlace C.D  h) yy_X9_isPlace dk_wm_X9_121 dX9_heroSees_3 (fun r2 s1 h => ?_) rfl ⟨Nat.le_of_ble_eq_true rfl, Nat.le_of_ble_eq_true rfl⟩ rfl (Nat.le_of_ble_eq_true rfl) rfl (n := 6) rfl
  refine dk_if_ne (t := 13) C dX9_heroSees_6 (n := 9) rfl (by decide) (fun c6 => ?_) (fun c6 => ?_)
  · have h := h.1 c6
    refine dk_aload_n (i := 0) C dX9_heroSees_13 (n := 14) rfl rfl rfl ?_
    refine dk_callVi C [dk_r G 4 60] (cc_X9_isOn C.D hmi h) yy_X9_isOn dk_wm_X9_145 dk_sh60 (hmi 60 (by decide) (by decide)) dX9_heroSees_14 (fun r4 s3 h => ?_) rfl rfl ⟨Nat.le_of_ble_eq_true rfl, Nat.le_of_ble_eq_true rfl⟩ rfl (Nat.le_of_ble_eq_true rfl) rfl (n := 17) rfl
    refine dk_if_ne (t := 24) C dX9_heroSees_17 (n := 20) rfl (by decide) (fun c5 => ?_) (fun c5 => ?_)
    · have h := h.1 c5
      refine dk_iconst (v := 0) C dX9_heroSees_24 (n := 25) rfl (by decide) ?_
      refine dk_sub (L0 := [some (dk_r G 4 60), some (.int a1), some (.int a2)]) ⟨rfl, ⟨rfl, ⟨rfl, trivial⟩⟩⟩ ?_
      exact ww_X9_heroSees_25 C hr hlk hmi  a1 a2 0 s3 h
    · have h := h.2 c5
      refine dk_iconst (v := 2) C dX9_heroSees_20 (n := 21) rfl (by decide) ?_
      refine dk_goto (t := 25) C dX9_heroSees_21 (by decide) ?_
      refine dk_sub (L0 := [some (dk_r G 4 60), some (.int a1), some (.int a2)]) ⟨rfl, ⟨rfl, ⟨rfl, trivial⟩⟩⟩ ?_
      exact ww_X9_heroSees_25 C hr hlk hmi  a1 a2 2 s3 h
  · have h := h.2 c6
    refine dk_iconst (v := 1) C dX9_heroSees_9 (n := 10) rfl (by decide) ?_
    refine dk_goto (t := 25) C dX9_heroSees_10 (by decide) ?_
    refine dk_sub (L0 := [some (dk_r G 4 60), some (.int a1), some (.int a2)]) ⟨rfl, ⟨rfl, ⟨rfl, trivial⟩⟩⟩ ?_
    exact ww_X9_heroSees_25 C hr hlk hmi  a1 a2 1 s1 h
/-! X9_placeOf -/
set_option maxRecDepth 20000 in
set_option maxHeartbeats 4000000 in
theorem ww_X9_placeOf_20 {G : dk_G} {P : Program} {l : Launch} {e : Env} {S0 : State} {m : MethodId} {args : Array Value} {bel : List Frame} {meth : Method} {c : Code}  (C : dk_C G P (dk_rm 3) S0 m args c 0 0 cX9_placeOf 2 RX9) (hr : meth.sig.returnType = (some .int)) (hlk : meth.locks = false) (hmi : dk_MI G) {K : Int32 → dk_S → Prop}  : ∀ (x1 : Int32) (y0 : Int32) (s : dk_S), wf_X9_placeOf_20 K x1 y0 s → dk_W G P l e (dk_rm 3) S0 m args bel meth c 0 0 (MQ bel (dk_Qc G (dk_ki K)) args S0 0 0 (dk_A G)) 20 [some (dk_r G 4 60), some (.int x1)] [.int y0, dk_r G 4 60] s := by
  intro x1 y0 s h
  unfold wf_X9_placeOf_20 at h
  refine dk_callVi C [] (cc_X9_goesOn C.D hmi h) yy_X9_goesOn dk_wm_X9_149 dk_sh60 (hmi 60 (by decide) (by decide)) dX9_placeOf_20 (fun r5 s4 h => ?_) rfl rfl ⟨Nat.le_of_ble_eq_true rfl, Nat.le_of_ble_eq_true rfl⟩ rfl (Nat.le_of_ble_eq_true rfl) rfl (n := 23) rfl
  refine dk_if_eq (t := 38) C dX9_placeOf_23 (n := 26) rfl (by decide) (fun c8 => ?_) (fun c8 => ?_)
  · have h := h.1 c8
    refine dk_iconst (v := 0) C dX9_placeOf_38 (n := 39) rfl (by decide) ?_
    exact dk_iret C hr hlk rfl dX9_placeOf_39 ⟨_, rfl, h⟩
  · have h := h.2 c8
    refine dk_aload_n (i := 0) C dX9_placeOf_26 (n := 27) rfl rfl rfl ?_
    refine gf_X9_65 C (hmi 60 (by decide) (by decide)) dX9_placeOf_27 (n := 30) rfl ?_
    refine dk_iload_n (i := 1) C dX9_placeOf_30 (n := 31) rfl rfl rfl ?_
    refine dk_iald C dk_sh76 h.1 (hmi 76 (by decide) (by decide)) dX9_placeOf_31 (n := 32) rfl ?_
    have h := h.2
    refine dk_callSi C [] (cc_X9_told C.D  h) yy_X9_told dk_wm_X9_294 dX9_placeOf_32 (fun r7 s6 h => ?_) rfl ⟨Nat.le_of_ble_eq_true rfl, Nat.le_of_ble_eq_true rfl⟩ rfl (Nat.le_of_ble_eq_true rfl) rfl (n := 35) rfl
    refine dk_goto (t := 39) C dX9_placeOf_35 (by decide) ?_
    exact dk_iret C hr hlk rfl dX9_placeOf_39 ⟨_, rfl, h⟩
set_option maxRecDepth 20000 in
set_option maxHeartbeats 4000000 in
theorem cc_X9_placeOf {G : dk_G} {l : Launch} {a1 : Int32} (hD : dk_D G) (hmi : dk_MI G) {s : dk_S} {K : Int32 → dk_S → Prop} (h : wf_X9_placeOf a1 s K) : dk_M G l 3 yX9_placeOf cX9_placeOf 2 (some .int) [dk_r G 4 60, .int a1] s (dk_ki K) := by
  refine dk_of hD (by decide) [some (dk_r G 4 60), some (.int a1)] (fun q hq => hq) rfl (Nat.le_of_ble_eq_true rfl) (fun P e S0 m args bel meth c C hr hlk => ?_)
  unfold wf_X9_placeOf at h
  refine dk_aload_n (i := 0) C dX9_placeOf_0 (n := 1) rfl rfl rfl ?_
  refine dk_iload_n (i := 1) C dX9_placeOf_1 (n := 2) rfl rfl rfl ?_
  refine dk_iconst (v := 0) C dX9_placeOf_2 (n := 3) rfl (by decide) ?_
  refine dk_aload_n (i := 0) C dX9_placeOf_3 (n := 4) rfl rfl rfl ?_
  refine gf_X9_34 C (hmi 60 (by decide) (by decide)) dX9_placeOf_4 (n := 7) rfl ?_
  refine dk_iconst (v := 1) C dX9_placeOf_7 (n := 8) rfl (by decide) ?_
  refine dk_isub C dX9_placeOf_8 (n := 9) rfl ?_
  refine dk_callSi C [dk_r G 4 60] (cc_X9_in C.D  h) yy_X9_in dk_wm_X9_110 dX9_placeOf_9 (fun r2 s1 h => ?_) rfl ⟨Nat.le_of_ble_eq_true rfl, Nat.le_of_ble_eq_true rfl⟩ rfl (Nat.le_of_ble_eq_true rfl) rfl (n := 12) rfl
  refine dk_if_eq (t := 19) C dX9_placeOf_12 (n := 15) rfl (by decide) (fun c3 => ?_) (fun c3 => ?_)
  · have h := h.1 c3
    refine dk_iconst (v := 1) C dX9_placeOf_19 (n := 20) rfl (by decide) ?_
    refine dk_sub (L0 := [some (dk_r G 4 60), some (.int a1)]) ⟨rfl, ⟨rfl, trivial⟩⟩ ?_
    exact ww_X9_placeOf_20 C hr hlk hmi  a1 1 s1 h
  · have h := h.2 c3
    refine dk_iconst (v := 0) C dX9_placeOf_15 (n := 16) rfl (by decide) ?_
    refine dk_goto (t := 20) C dX9_placeOf_16 (by decide) ?_
    refine dk_sub (L0 := [some (dk_r G 4 60), some (.int a1)]) ⟨rfl, ⟨rfl, trivial⟩⟩ ?_
    exact ww_X9_placeOf_20 C hr hlk hmi  a1 0 s1 h
/-! X9_healthOf -/
set_option maxRecDepth 20000 in
set_option maxHeartbeats 4000000 in
theorem ww_X9_healthOf_20 {G : dk_G} {P : Program} {l : Launch} {e : Env} {S0 : State} {m : MethodId} {args : Array Value} {bel : List Frame} {meth : Method} {c : Code}  (C : dk_C G P (dk_rm 2) S0 m args c 0 0 cX9_healthOf 2 RX9) (hr : meth.sig.returnType = (some .int)) (hlk : meth.locks = false) (hmi : dk_MI G) {K : Int32 → dk_S → Prop}  : ∀ (x1 : Int32) (y0 : Int32) (s : dk_S), wf_X9_healthOf_20 K x1 y0 s → dk_W G P l e (dk_rm 2) S0 m args bel meth c 0 0 (MQ bel (dk_Qc G (dk_ki K)) args S0 0 0 (dk_A G)) 20 [some (dk_r G 4 60), some (.int x1)] [.int y0, dk_r G 4 60] s := by
  intro x1 y0 s h
  unfold wf_X9_healthOf_20 at h
  refine dk_callVi C [] (cc_X9_goesOn C.D hmi h) yy_X9_goesOn dk_wm_X9_149 dk_sh60 (hmi 60 (by decide) (by decide)) dX9_healthOf_20 (fun r5 s4 h => ?_) rfl rfl ⟨Nat.le_of_ble_eq_true rfl, Nat.le_of_ble_eq_true rfl⟩ rfl (Nat.le_of_ble_eq_true rfl) rfl (n := 23) rfl
  refine dk_if_eq (t := 35) C dX9_healthOf_23 (n := 26) rfl (by decide) (fun c6 => ?_) (fun c6 => ?_)
  · have h := h.1 c6
    refine dk_iconst (v := 0) C dX9_healthOf_35 (n := 36) rfl (by decide) ?_
    exact dk_iret C hr hlk rfl dX9_healthOf_36 ⟨_, rfl, h⟩
  · have h := h.2 c6
    refine dk_aload_n (i := 0) C dX9_healthOf_26 (n := 27) rfl rfl rfl ?_
    refine gf_X9_68 C (hmi 60 (by decide) (by decide)) dX9_healthOf_27 (n := 30) rfl ?_
    refine dk_iload_n (i := 1) C dX9_healthOf_30 (n := 31) rfl rfl rfl ?_
    refine dk_iald C dk_sh77 h.1 (hmi 77 (by decide) (by decide)) dX9_healthOf_31 (n := 32) rfl ?_
    have h := h.2
    refine dk_goto (t := 36) C dX9_healthOf_32 (by decide) ?_
    exact dk_iret C hr hlk rfl dX9_healthOf_36 ⟨_, rfl, h⟩
set_option maxRecDepth 20000 in
set_option maxHeartbeats 4000000 in
theorem cc_X9_healthOf {G : dk_G} {l : Launch} {a1 : Int32} (hD : dk_D G) (hmi : dk_MI G) {s : dk_S} {K : Int32 → dk_S → Prop} (h : wf_X9_healthOf a1 s K) : dk_M G l 2 yX9_healthOf cX9_healthOf 2 (some .int) [dk_r G 4 60, .int a1] s (dk_ki K) := by
  refine dk_of hD (by decide) [some (dk_r G 4 60), some (.int a1)] (fun q hq => hq) rfl (Nat.le_of_ble_eq_true rfl) (fun P e S0 m args bel meth c C hr hlk => ?_)
  unfold wf_X9_healthOf at h
  refine dk_aload_n (i := 0) C dX9_healthOf_0 (n := 1) rfl rfl rfl ?_
  refine dk_iload_n (i := 1) C dX9_healthOf_1 (n := 2) rfl rfl rfl ?_
  refine dk_iconst (v := 0) C dX9_healthOf_2 (n := 3) rfl (by decide) ?_
  refine dk_aload_n (i := 0) C dX9_healthOf_3 (n := 4) rfl rfl rfl ?_
  refine gf_X9_34 C (hmi 60 (by decide) (by decide)) dX9_healthOf_4 (n := 7) rfl ?_
  refine dk_iconst (v := 1) C dX9_healthOf_7 (n := 8) rfl (by decide) ?_
  refine dk_isub C dX9_healthOf_8 (n := 9) rfl ?_
  refine dk_callSi C [dk_r G 4 60] (cc_X9_in C.D  h) yy_X9_in dk_wm_X9_110 dX9_healthOf_9 (fun r2 s1 h => ?_) rfl ⟨Nat.le_of_ble_eq_true rfl, Nat.le_of_ble_eq_true rfl⟩ rfl (Nat.le_of_ble_eq_true rfl) rfl (n := 12) rfl
  refine dk_if_eq (t := 19) C dX9_healthOf_12 (n := 15) rfl (by decide) (fun c3 => ?_) (fun c3 => ?_)
  · have h := h.1 c3
    refine dk_iconst (v := 1) C dX9_healthOf_19 (n := 20) rfl (by decide) ?_
    refine dk_sub (L0 := [some (dk_r G 4 60), some (.int a1)]) ⟨rfl, ⟨rfl, trivial⟩⟩ ?_
    exact ww_X9_healthOf_20 C hr hlk hmi  a1 1 s1 h
  · have h := h.2 c3
    refine dk_iconst (v := 0) C dX9_healthOf_15 (n := 16) rfl (by decide) ?_
    refine dk_goto (t := 20) C dX9_healthOf_16 (by decide) ?_
    refine dk_sub (L0 := [some (dk_r G 4 60), some (.int a1)]) ⟨rfl, ⟨rfl, trivial⟩⟩ ?_
    exact ww_X9_healthOf_20 C hr hlk hmi  a1 0 s1 h
/-! X9_aimOf -/
set_option maxRecDepth 20000 in
set_option maxHeartbeats 4000000 in
theorem ww_X9_aimOf_36 {G : dk_G} {P : Program} {l : Launch} {e : Env} {S0 : State} {m : MethodId} {args : Array Value} {bel : List Frame} {meth : Method} {c : Code}  (C : dk_C G P (dk_rm 3) S0 m args c 0 0 cX9_aimOf 3 RX9) (hr : meth.sig.returnType = (some .int)) (hlk : meth.locks = false) (hmi : dk_MI G) {K : Int32 → dk_S → Prop}  : ∀ (x1 : Int32) (y0 : Int32) (s : dk_S), wf_X9_aimOf_36 K x1 y0 s → dk_W G P l e (dk_rm 3) S0 m args bel meth c 0 0 (MQ bel (dk_Qc G (dk_ki K)) args S0 0 0 (dk_A G)) 36 [some (dk_r G 4 60), some (.int x1), none] [.int y0, dk_r G 4 60] s := by
  intro x1 y0 s h
  unfold wf_X9_aimOf_36 at h
  refine dk_callVi C [] (cc_X9_goesOn C.D hmi h) yy_X9_goesOn dk_wm_X9_149 dk_sh60 (hmi 60 (by decide) (by decide)) dX9_aimOf_36 (fun r6 s5 h => ?_) rfl rfl ⟨Nat.le_of_ble_eq_true rfl, Nat.le_of_ble_eq_true rfl⟩ rfl (Nat.le_of_ble_eq_true rfl) rfl (n := 39) rfl
  refine dk_if_eq (t := 54) C dX9_aimOf_39 (n := 42) rfl (by decide) (fun c9 => ?_) (fun c9 => ?_)
  · have h := h.1 c9
    refine dk_iconst (v := 0) C dX9_aimOf_54 (n := 55) rfl (by decide) ?_
    exact dk_iret C hr hlk rfl dX9_aimOf_55 ⟨_, rfl, h⟩
  · have h := h.2 c9
    refine dk_aload_n (i := 0) C dX9_aimOf_42 (n := 43) rfl rfl rfl ?_
    refine gf_X9_80 C (hmi 60 (by decide) (by decide)) dX9_aimOf_43 (n := 46) rfl ?_
    refine dk_iload_n (i := 1) C dX9_aimOf_46 (n := 47) rfl rfl rfl ?_
    refine dk_iald C dk_sh81 h.1 (hmi 81 (by decide) (by decide)) dX9_aimOf_47 (n := 48) rfl ?_
    have h := h.2
    refine dk_callSi C [] (cc_X9_told C.D  h) yy_X9_told dk_wm_X9_294 dX9_aimOf_48 (fun r8 s7 h => ?_) rfl ⟨Nat.le_of_ble_eq_true rfl, Nat.le_of_ble_eq_true rfl⟩ rfl (Nat.le_of_ble_eq_true rfl) rfl (n := 51) rfl
    refine dk_goto (t := 55) C dX9_aimOf_51 (by decide) ?_
    exact dk_iret C hr hlk rfl dX9_aimOf_55 ⟨_, rfl, h⟩
set_option maxRecDepth 20000 in
set_option maxHeartbeats 4000000 in
theorem cc_X9_aimOf {G : dk_G} {l : Launch} {a1 : Int32} (hD : dk_D G) (hmi : dk_MI G) {s : dk_S} {K : Int32 → dk_S → Prop} (h : wf_X9_aimOf a1 s K) : dk_M G l 3 yX9_aimOf cX9_aimOf 3 (some .int) [dk_r G 4 60, .int a1] s (dk_ki K) := by
  refine dk_of hD (by decide) [some (dk_r G 4 60), some (.int a1), none] (fun q hq => hq) rfl (Nat.le_of_ble_eq_true rfl) (fun P e S0 m args bel meth c C hr hlk => ?_)
  unfold wf_X9_aimOf at h
  refine dk_iload_n (i := 1) C dX9_aimOf_0 (n := 1) rfl rfl rfl ?_
  refine dk_iconst (v := 1) C dX9_aimOf_1 (n := 2) rfl (by decide) ?_
  refine dk_aload_n (i := 0) C dX9_aimOf_2 (n := 3) rfl rfl rfl ?_
  refine gf_X9_34 C (hmi 60 (by decide) (by decide)) dX9_aimOf_3 (n := 6) rfl ?_
  refine dk_iconst (v := 1) C dX9_aimOf_6 (n := 7) rfl (by decide) ?_
  refine dk_isub C dX9_aimOf_7 (n := 8) rfl ?_
  refine dk_callSi C [] (cc_X9_in C.D  h) yy_X9_in dk_wm_X9_110 dX9_aimOf_8 (fun r2 s1 h => ?_) rfl ⟨Nat.le_of_ble_eq_true rfl, Nat.le_of_ble_eq_true rfl⟩ rfl (Nat.le_of_ble_eq_true rfl) rfl (n := 11) rfl
  refine dk_istore_n (i := 2) (L' := [some (dk_r G 4 60), some (.int a1), some (.int r2)]) C dX9_aimOf_11 (n := 12) rfl rfl (dk_nc_of rfl) (Nat.le_of_ble_eq_true rfl) rfl ?_
  refine dk_aload_n (i := 0) C dX9_aimOf_12 (n := 13) rfl rfl rfl ?_
  refine dk_iload_n (i := 2) C dX9_aimOf_13 (n := 14) rfl rfl rfl ?_
  refine dk_if_ne (t := 21) C dX9_aimOf_14 (n := 17) rfl (by decide) (fun c4 => ?_) (fun c4 => ?_)
  · have h := h.1 c4
    refine dk_aload_n (i := 0) C dX9_aimOf_21 (n := 22) rfl rfl rfl ?_
    refine gf_X9_80 C (hmi 60 (by decide) (by decide)) dX9_aimOf_22 (n := 25) rfl ?_
    refine dk_iload_n (i := 1) C dX9_aimOf_25 (n := 26) rfl rfl rfl ?_
    refine dk_iald C dk_sh81 h.1 (hmi 81 (by decide) (by decide)) dX9_aimOf_26 (n := 27) rfl ?_
    have h := h.2
    refine dk_iconst (v := (-1)) C dX9_aimOf_27 (n := 28) rfl (by decide) ?_
    refine dk_icmp_ne (t := 35) C dX9_aimOf_28 (n := 31) rfl (by decide) (fun c3 => ?_) (fun c3 => ?_)
    · have h := h.1 c3
      refine dk_iconst (v := 0) C dX9_aimOf_35 (n := 36) rfl (by decide) ?_
      refine dk_sub (L0 := [some (dk_r G 4 60), some (.int a1), none]) ⟨rfl, ⟨rfl, trivial⟩⟩ ?_
      exact ww_X9_aimOf_36 C hr hlk hmi  a1 0 s1 h
    · have h := h.2 c3
      refine dk_iconst (v := 2) C dX9_aimOf_31 (n := 32) rfl (by decide) ?_
      refine dk_goto (t := 36) C dX9_aimOf_32 (by decide) ?_
      refine dk_sub (L0 := [some (dk_r G 4 60), some (.int a1), none]) ⟨rfl, ⟨rfl, trivial⟩⟩ ?_
      exact ww_X9_aimOf_36 C hr hlk hmi  a1 2 s1 h
  · have h := h.2 c4
    refine dk_iconst (v := 1) C dX9_aimOf_17 (n := 18) rfl (by decide) ?_
    refine dk_goto (t := 36) C dX9_aimOf_18 (by decide) ?_
    refine dk_sub (L0 := [some (dk_r G 4 60), some (.int a1), none]) ⟨rfl, ⟨rfl, trivial⟩⟩ ?_
    exact ww_X9_aimOf_36 C hr hlk hmi  a1 1 s1 h
/-! X9_whereIs -/
set_option maxRecDepth 20000 in
set_option maxHeartbeats 4000000 in
theorem ww_X9_whereIs_14 {G : dk_G} {P : Program} {l : Launch} {e : Env} {S0 : State} {m : MethodId} {args : Array Value} {bel : List Frame} {meth : Method} {c : Code}  (C : dk_C G P (dk_rm 3) S0 m args c 0 0 cX9_whereIs 2 RX9) (hr : meth.sig.returnType = (some .int)) (hlk : meth.locks = false) (hmi : dk_MI G) {K : Int32 → dk_S → Prop}  : ∀ (x1 : Int32) (y0 : Int32) (s : dk_S), wf_X9_whereIs_14 K x1 y0 s → dk_W G P l e (dk_rm 3) S0 m args bel meth c 0 0 (MQ bel (dk_Qc G (dk_ki K)) args S0 0 0 (dk_A G)) 14 [some (dk_r G 4 60), some (.int x1)] [.int y0, dk_r G 4 60] s := by
  intro x1 y0 s h
  unfold wf_X9_whereIs_14 at h
  refine dk_callVi C [] (cc_X9_goesOn C.D hmi h) yy_X9_goesOn dk_wm_X9_149 dk_sh60 (hmi 60 (by decide) (by decide)) dX9_whereIs_14 (fun r5 s4 h => ?_) rfl rfl ⟨Nat.le_of_ble_eq_true rfl, Nat.le_of_ble_eq_true rfl⟩ rfl (Nat.le_of_ble_eq_true rfl) rfl (n := 17) rfl
  refine dk_if_eq (t := 50) C dX9_whereIs_17 (n := 20) rfl (by decide) (fun c9 => ?_) (fun c9 => ?_)
  · have h := h.1 c9
    refine dk_iconst (v := 0) C dX9_whereIs_50 (n := 51) rfl (by decide) ?_
    exact dk_iret C hr hlk rfl dX9_whereIs_51 ⟨_, rfl, h⟩
  · have h := h.2 c9
    refine dk_aload_n (i := 0) C dX9_whereIs_20 (n := 21) rfl rfl rfl ?_
    refine gf_X9_83 C (hmi 60 (by decide) (by decide)) dX9_whereIs_21 (n := 24) rfl ?_
    refine dk_iload_n (i := 1) C dX9_whereIs_24 (n := 25) rfl rfl rfl ?_
    refine dk_iald C dk_sh82 h.1 (hmi 82 (by decide) (by decide)) dX9_whereIs_25 (n := 26) rfl ?_
    have h := h.2
    refine dk_if_lt (t := 41) C dX9_whereIs_26 (n := 29) rfl (by decide) (fun c8 => ?_) (fun c8 => ?_)
    · have h := h.1 c8
      refine dk_aload_n (i := 0) C dX9_whereIs_41 (n := 42) rfl rfl rfl ?_
      refine gf_X9_83 C (hmi 60 (by decide) (by decide)) dX9_whereIs_42 (n := 45) rfl ?_
      refine dk_iload_n (i := 1) C dX9_whereIs_45 (n := 46) rfl rfl rfl ?_
      refine dk_iald C dk_sh82 h.1 (hmi 82 (by decide) (by decide)) dX9_whereIs_46 (n := 47) rfl ?_
      have h := h.2
      refine dk_goto (t := 51) C dX9_whereIs_47 (by decide) ?_
      exact dk_iret C hr hlk rfl dX9_whereIs_51 ⟨_, rfl, h⟩
    · have h := h.2 c8
      refine dk_aload_n (i := 0) C dX9_whereIs_29 (n := 30) rfl rfl rfl ?_
      refine gf_X9_83 C (hmi 60 (by decide) (by decide)) dX9_whereIs_30 (n := 33) rfl ?_
      refine dk_iload_n (i := 1) C dX9_whereIs_33 (n := 34) rfl rfl rfl ?_
      refine dk_iald C dk_sh82 h.1 (hmi 82 (by decide) (by decide)) dX9_whereIs_34 (n := 35) rfl ?_
      have h := h.2
      refine dk_callSi C [] (cc_X9_told C.D  h) yy_X9_told dk_wm_X9_294 dX9_whereIs_35 (fun r7 s6 h => ?_) rfl ⟨Nat.le_of_ble_eq_true rfl, Nat.le_of_ble_eq_true rfl⟩ rfl (Nat.le_of_ble_eq_true rfl) rfl (n := 38) rfl
      refine dk_goto (t := 51) C dX9_whereIs_38 (by decide) ?_
      exact dk_iret C hr hlk rfl dX9_whereIs_51 ⟨_, rfl, h⟩
set_option maxRecDepth 20000 in
set_option maxHeartbeats 4000000 in
theorem cc_X9_whereIs {G : dk_G} {l : Launch} {a1 : Int32} (hD : dk_D G) (hmi : dk_MI G) {s : dk_S} {K : Int32 → dk_S → Prop} (h : wf_X9_whereIs a1 s K) : dk_M G l 3 yX9_whereIs cX9_whereIs 2 (some .int) [dk_r G 4 60, .int a1] s (dk_ki K) := by
  refine dk_of hD (by decide) [some (dk_r G 4 60), some (.int a1)] (fun q hq => hq) rfl (Nat.le_of_ble_eq_true rfl) (fun P e S0 m args bel meth c C hr hlk => ?_)
  unfold wf_X9_whereIs at h
  refine dk_aload_n (i := 0) C dX9_whereIs_0 (n := 1) rfl rfl rfl ?_
  refine dk_aload_n (i := 0) C dX9_whereIs_1 (n := 2) rfl rfl rfl ?_
  refine dk_iload_n (i := 1) C dX9_whereIs_2 (n := 3) rfl rfl rfl ?_
  refine dk_callVi C [dk_r G 4 60] (cc_X9_isThing C.D hmi h) yy_X9_isThing dk_wm_X9_165 dk_sh60 (hmi 60 (by decide) (by decide)) dX9_whereIs_3 (fun r2 s1 h => ?_) rfl rfl ⟨Nat.le_of_ble_eq_true rfl, Nat.le_of_ble_eq_true rfl⟩ rfl (Nat.le_of_ble_eq_true rfl) rfl (n := 6) rfl
  refine dk_if_eq (t := 13) C dX9_whereIs_6 (n := 9) rfl (by decide) (fun c3 => ?_) (fun c3 => ?_)
  · have h := h.1 c3
    refine dk_iconst (v := 1) C dX9_whereIs_13 (n := 14) rfl (by decide) ?_
    refine dk_sub (L0 := [some (dk_r G 4 60), some (.int a1)]) ⟨rfl, ⟨rfl, trivial⟩⟩ ?_
    exact ww_X9_whereIs_14 C hr hlk hmi  a1 1 s1 h
  · have h := h.2 c3
    refine dk_iconst (v := 0) C dX9_whereIs_9 (n := 10) rfl (by decide) ?_
    refine dk_goto (t := 14) C dX9_whereIs_10 (by decide) ?_
    refine dk_sub (L0 := [some (dk_r G 4 60), some (.int a1)]) ⟨rfl, ⟨rfl, trivial⟩⟩ ?_
    exact ww_X9_whereIs_14 C hr hlk hmi  a1 0 s1 h
/-! X9_weightOf -/
set_option maxRecDepth 20000 in
set_option maxHeartbeats 4000000 in
theorem ww_X9_weightOf_14 {G : dk_G} {P : Program} {l : Launch} {e : Env} {S0 : State} {m : MethodId} {args : Array Value} {bel : List Frame} {meth : Method} {c : Code}  (C : dk_C G P (dk_rm 3) S0 m args c 0 0 cX9_weightOf 2 RX9) (hr : meth.sig.returnType = (some .int)) (hlk : meth.locks = false) (hmi : dk_MI G) {K : Int32 → dk_S → Prop}  : ∀ (x1 : Int32) (y0 : Int32) (s : dk_S), wf_X9_weightOf_14 K x1 y0 s → dk_W G P l e (dk_rm 3) S0 m args bel meth c 0 0 (MQ bel (dk_Qc G (dk_ki K)) args S0 0 0 (dk_A G)) 14 [some (dk_r G 4 60), some (.int x1)] [.int y0, dk_r G 4 60] s := by
  intro x1 y0 s h
  unfold wf_X9_weightOf_14 at h
  refine dk_callVi C [] (cc_X9_goesOn C.D hmi h) yy_X9_goesOn dk_wm_X9_149 dk_sh60 (hmi 60 (by decide) (by decide)) dX9_weightOf_14 (fun r5 s4 h => ?_) rfl rfl ⟨Nat.le_of_ble_eq_true rfl, Nat.le_of_ble_eq_true rfl⟩ rfl (Nat.le_of_ble_eq_true rfl) rfl (n := 17) rfl
  refine dk_if_eq (t := 28) C dX9_weightOf_17 (n := 20) rfl (by decide) (fun c8 => ?_) (fun c8 => ?_)
  · have h := h.1 c8
    refine dk_iconst (v := 0) C dX9_weightOf_28 (n := 29) rfl (by decide) ?_
    exact dk_iret C hr hlk rfl dX9_weightOf_29 ⟨_, rfl, h⟩
  · have h := h.2 c8
    refine dk_aload_n (i := 0) C dX9_weightOf_20 (n := 21) rfl rfl rfl ?_
    refine dk_iload_n (i := 1) C dX9_weightOf_21 (n := 22) rfl rfl rfl ?_
    refine dk_callVi C [] (cc_X9_wholeWeight C.D hmi h) yy_X9_wholeWeight dk_wm_X9_279 dk_sh60 (hmi 60 (by decide) (by decide)) dX9_weightOf_22 (fun r7 s6 h => ?_) rfl rfl ⟨Nat.le_of_ble_eq_true rfl, Nat.le_of_ble_eq_true rfl⟩ rfl (Nat.le_of_ble_eq_true rfl) rfl (n := 25) rfl
    refine dk_goto (t := 29) C dX9_weightOf_25 (by decide) ?_
    exact dk_iret C hr hlk rfl dX9_weightOf_29 ⟨_, rfl, h⟩
set_option maxRecDepth 20000 in
set_option maxHeartbeats 4000000 in
theorem cc_X9_weightOf {G : dk_G} {l : Launch} {a1 : Int32} (hD : dk_D G) (hmi : dk_MI G) {s : dk_S} {K : Int32 → dk_S → Prop} (h : wf_X9_weightOf a1 s K) : dk_M G l 3 yX9_weightOf cX9_weightOf 2 (some .int) [dk_r G 4 60, .int a1] s (dk_ki K) := by
  refine dk_of hD (by decide) [some (dk_r G 4 60), some (.int a1)] (fun q hq => hq) rfl (Nat.le_of_ble_eq_true rfl) (fun P e S0 m args bel meth c C hr hlk => ?_)
  unfold wf_X9_weightOf at h
  refine dk_aload_n (i := 0) C dX9_weightOf_0 (n := 1) rfl rfl rfl ?_
  refine dk_aload_n (i := 0) C dX9_weightOf_1 (n := 2) rfl rfl rfl ?_
  refine dk_iload_n (i := 1) C dX9_weightOf_2 (n := 3) rfl rfl rfl ?_
  refine dk_callVi C [dk_r G 4 60] (cc_X9_isThing C.D hmi h) yy_X9_isThing dk_wm_X9_165 dk_sh60 (hmi 60 (by decide) (by decide)) dX9_weightOf_3 (fun r2 s1 h => ?_) rfl rfl ⟨Nat.le_of_ble_eq_true rfl, Nat.le_of_ble_eq_true rfl⟩ rfl (Nat.le_of_ble_eq_true rfl) rfl (n := 6) rfl
  refine dk_if_eq (t := 13) C dX9_weightOf_6 (n := 9) rfl (by decide) (fun c3 => ?_) (fun c3 => ?_)
  · have h := h.1 c3
    refine dk_iconst (v := 1) C dX9_weightOf_13 (n := 14) rfl (by decide) ?_
    refine dk_sub (L0 := [some (dk_r G 4 60), some (.int a1)]) ⟨rfl, ⟨rfl, trivial⟩⟩ ?_
    exact ww_X9_weightOf_14 C hr hlk hmi  a1 1 s1 h
  · have h := h.2 c3
    refine dk_iconst (v := 0) C dX9_weightOf_9 (n := 10) rfl (by decide) ?_
    refine dk_goto (t := 14) C dX9_weightOf_10 (by decide) ?_
    refine dk_sub (L0 := [some (dk_r G 4 60), some (.int a1)]) ⟨rfl, ⟨rfl, trivial⟩⟩ ?_
    exact ww_X9_weightOf_14 C hr hlk hmi  a1 0 s1 h
/-! X9_lookOf -/
set_option maxRecDepth 20000 in
set_option maxHeartbeats 4000000 in
theorem ww_X9_lookOf_44 {G : dk_G} {P : Program} {l : Launch} {e : Env} {S0 : State} {m : MethodId} {args : Array Value} {bel : List Frame} {meth : Method} {c : Code}  (C : dk_C G P (dk_rm 1) S0 m args c 0 0 cX9_lookOf 7 RX9) (hr : meth.sig.returnType = (some .int)) (hlk : meth.locks = false) (hmi : dk_MI G) {K : Int32 → dk_S → Prop}  : ∀ (x1 : Int32) (x3 : Int32) (y0 : Int32) (s : dk_S), wf_X9_lookOf_44 K x1 x3 y0 s → dk_W G P l e (dk_rm 1) S0 m args bel meth c 0 0 (MQ bel (dk_Qc G (dk_ki K)) args S0 0 0 (dk_A G)) 44 [none, some (.int x1), none, some (.int x3), none, none, none] [.int y0] s := by
  intro x1 x3 y0 s h
  unfold wf_X9_lookOf_44 at h
  refine dk_istore (i := 6) (L' := [none, some (.int x1), none, some (.int x3), none, none, some (.int y0)]) C dX9_lookOf_44 (n := 46) rfl (dk_nc_of rfl) (Nat.le_of_ble_eq_true rfl) rfl ?_
  refine dk_iload_n (i := 1) C dX9_lookOf_46 (n := 47) rfl rfl rfl ?_
  refine dk_iconst (v := 3) C dX9_lookOf_47 (n := 48) rfl (by decide) ?_
  refine dk_icmp_ne (t := 55) C dX9_lookOf_48 (n := 51) rfl (by decide) (fun c7 => ?_) (fun c7 => ?_)
  · have h := h.1 c7
    refine dk_iload_n (i := 1) C dX9_lookOf_55 (n := 56) rfl rfl rfl ?_
    refine dk_iconst (v := 4) C dX9_lookOf_56 (n := 57) rfl (by decide) ?_
    refine dk_icmp_ne (t := 65) C dX9_lookOf_57 (n := 60) rfl (by decide) (fun c6 => ?_) (fun c6 => ?_)
    · have h := h.1 c6
      refine dk_iconst (v := 3) C dX9_lookOf_65 (n := 66) rfl (by decide) ?_
      refine dk_iload_n (i := 3) C dX9_lookOf_66 (n := 67) rfl rfl rfl ?_
      refine dk_isub C dX9_lookOf_67 (n := 68) rfl ?_
      refine dk_iload C dX9_lookOf_68 (n := 70) rfl (i := 6) rfl ?_
      refine dk_isub C dX9_lookOf_70 (n := 71) rfl ?_
      exact dk_iret C hr hlk rfl dX9_lookOf_71 ⟨_, rfl, h⟩
    · have h := h.2 c6
      refine dk_iload C dX9_lookOf_60 (n := 62) rfl (i := 6) rfl ?_
      refine dk_goto (t := 71) C dX9_lookOf_62 (by decide) ?_
      exact dk_iret C hr hlk rfl dX9_lookOf_71 ⟨_, rfl, h⟩
  · have h := h.2 c7
    refine dk_iload_n (i := 3) C dX9_lookOf_51 (n := 52) rfl rfl rfl ?_
    refine dk_goto (t := 71) C dX9_lookOf_52 (by decide) ?_
    exact dk_iret C hr hlk rfl dX9_lookOf_71 ⟨_, rfl, h⟩
set_option maxRecDepth 20000 in
set_option maxHeartbeats 4000000 in
theorem ww_X9_lookOf_21 {G : dk_G} {P : Program} {l : Launch} {e : Env} {S0 : State} {m : MethodId} {args : Array Value} {bel : List Frame} {meth : Method} {c : Code}  (C : dk_C G P (dk_rm 1) S0 m args c 0 0 cX9_lookOf 7 RX9) (hr : meth.sig.returnType = (some .int)) (hlk : meth.locks = false) (hmi : dk_MI G) {K : Int32 → dk_S → Prop}  : ∀ (x1 : Int32) (x2 : Int32) (x3 : Int32) (y0 : Int32) (s : dk_S), wf_X9_lookOf_21 K x1 x2 x3 y0 s → dk_W G P l e (dk_rm 1) S0 m args bel meth c 0 0 (MQ bel (dk_Qc G (dk_ki K)) args S0 0 0 (dk_A G)) 21 [none, some (.int x1), some (.int x2), some (.int x3), none, none, none] [.int y0] s := by
  intro x1 x2 x3 y0 s h
  unfold wf_X9_lookOf_21 at h
  refine dk_istore (i := 4) (L' := [none, some (.int x1), some (.int x2), some (.int x3), some (.int y0), none, none]) C dX9_lookOf_21 (n := 23) rfl (dk_nc_of rfl) (Nat.le_of_ble_eq_true rfl) rfl ?_
  refine dk_iconst (v := 3) C dX9_lookOf_23 (n := 24) rfl (by decide) ?_
  refine dk_iload_n (i := 3) C dX9_lookOf_24 (n := 25) rfl rfl rfl ?_
  refine dk_isub C dX9_lookOf_25 (n := 26) rfl ?_
  refine dk_iload C dX9_lookOf_26 (n := 28) rfl (i := 4) rfl ?_
  refine dk_isub C dX9_lookOf_28 (n := 29) rfl ?_
  refine dk_name (fun v4 ev4 => ?_)
  have h := h v4 ev4
  refine dk_istore (i := 5) (L' := [none, some (.int x1), some (.int x2), some (.int x3), some (.int y0), some (.int v4), none]) C dX9_lookOf_29 (n := 31) rfl (dk_nc_of rfl) (Nat.le_of_ble_eq_true rfl) rfl ?_
  refine dk_iload_n (i := 2) C dX9_lookOf_31 (n := 32) rfl rfl rfl ?_
  refine dk_iconst (v := 2) C dX9_lookOf_32 (n := 33) rfl (by decide) ?_
  refine dk_irem C dX9_lookOf_33 (n := 34) rfl (by decide) ?_
  refine dk_if_ne (t := 42) C dX9_lookOf_34 (n := 37) rfl (by decide) (fun c5 => ?_) (fun c5 => ?_)
  · have h := h.1 c5
    refine dk_iload C dX9_lookOf_42 (n := 44) rfl (i := 5) rfl ?_
    refine dk_sub (L0 := [none, some (.int x1), none, some (.int x3), none, none, none]) ⟨rfl, ⟨rfl, trivial⟩⟩ ?_
    exact ww_X9_lookOf_44 C hr hlk hmi  x1 x3 v4 s h
  · have h := h.2 c5
    refine dk_iload C dX9_lookOf_37 (n := 39) rfl (i := 4) rfl ?_
    refine dk_goto (t := 44) C dX9_lookOf_39 (by decide) ?_
    refine dk_sub (L0 := [none, some (.int x1), none, some (.int x3), none, none, none]) ⟨rfl, ⟨rfl, trivial⟩⟩ ?_
    exact ww_X9_lookOf_44 C hr hlk hmi  x1 x3 y0 s h
set_option maxRecDepth 20000 in
set_option maxHeartbeats 4000000 in
theorem cc_X9_lookOf {G : dk_G} {l : Launch} {a1 : Int32} (hD : dk_D G) (hmi : dk_MI G) {s : dk_S} {K : Int32 → dk_S → Prop} (h : wf_X9_lookOf a1 s K) : dk_M G l 1 yX9_lookOf cX9_lookOf 7 (some .int) [dk_r G 4 60, .int a1] s (dk_ki K) := by
  refine dk_of hD (by decide) [some (dk_r G 4 60), some (.int a1), none, none, none, none, none] (fun q hq => hq) rfl (Nat.le_of_ble_eq_true rfl) (fun P e S0 m args bel meth c C hr hlk => ?_)
  unfold wf_X9_lookOf at h
  refine dk_aload_n (i := 0) C dX9_lookOf_0 (n := 1) rfl rfl rfl ?_
  refine gf_X9_252 C (hmi 60 (by decide) (by decide)) dX9_lookOf_1 (n := 4) rfl ?_
  refine dk_bipush (v := 6) C dX9_lookOf_4 (n := 6) rfl (by decide) ?_
  refine dk_irem C dX9_lookOf_6 (n := 7) rfl (by decide) ?_
  refine dk_name (fun v1 ev1 => ?_)
  have h := h v1 ev1
  refine dk_istore_n (i := 2) (L' := [some (dk_r G 4 60), some (.int a1), some (.int v1), none, none, none, none]) C dX9_lookOf_7 (n := 8) rfl rfl (dk_nc_of rfl) (Nat.le_of_ble_eq_true rfl) rfl ?_
  refine dk_iload_n (i := 2) C dX9_lookOf_8 (n := 9) rfl rfl rfl ?_
  refine dk_iconst (v := 2) C dX9_lookOf_9 (n := 10) rfl (by decide) ?_
  refine dk_idiv C dX9_lookOf_10 (n := 11) rfl (by decide) ?_
  refine dk_name (fun v2 ev2 => ?_)
  have h := h v2 ev2
  refine dk_istore_n (i := 3) (L' := [some (dk_r G 4 60), some (.int a1), some (.int v1), some (.int v2), none, none, none]) C dX9_lookOf_11 (n := 12) rfl rfl (dk_nc_of rfl) (Nat.le_of_ble_eq_true rfl) rfl ?_
  refine dk_iload_n (i := 3) C dX9_lookOf_12 (n := 13) rfl rfl rfl ?_
  refine dk_if_ne (t := 20) C dX9_lookOf_13 (n := 16) rfl (by decide) (fun c3 => ?_) (fun c3 => ?_)
  · have h := h.1 c3
    refine dk_iconst (v := 0) C dX9_lookOf_20 (n := 21) rfl (by decide) ?_
    refine dk_sub (L0 := [none, some (.int a1), some (.int v1), some (.int v2), none, none, none]) ⟨rfl, ⟨rfl, ⟨rfl, trivial⟩⟩⟩ ?_
    exact ww_X9_lookOf_21 C hr hlk hmi  a1 v1 v2 0 s h
  · have h := h.2 c3
    refine dk_iconst (v := 1) C dX9_lookOf_16 (n := 17) rfl (by decide) ?_
    refine dk_goto (t := 21) C dX9_lookOf_17 (by decide) ?_
    refine dk_sub (L0 := [none, some (.int a1), some (.int v1), some (.int v2), none, none, none]) ⟨rfl, ⟨rfl, ⟨rfl, trivial⟩⟩⟩ ?_
    exact ww_X9_lookOf_21 C hr hlk hmi  a1 v1 v2 1 s h
/-! X9_nameOf -/
set_option maxRecDepth 20000 in
set_option maxHeartbeats 4000000 in
theorem ww_X9_nameOf_25 {G : dk_G} {P : Program} {l : Launch} {e : Env} {S0 : State} {m : MethodId} {args : Array Value} {bel : List Frame} {meth : Method} {c : Code}  (C : dk_C G P (dk_rm 3) S0 m args c 0 0 cX9_nameOf 3 RX9) (hr : meth.sig.returnType = (some .int)) (hlk : meth.locks = false) (hmi : dk_MI G) {K : Int32 → dk_S → Prop}  : ∀ (x1 : Int32) (y0 : Int32) (s : dk_S), wf_X9_nameOf_25 K x1 y0 s → dk_W G P l e (dk_rm 3) S0 m args bel meth c 0 0 (MQ bel (dk_Qc G (dk_ki K)) args S0 0 0 (dk_A G)) 25 [some (dk_r G 4 60), some (.int x1), none] [.int y0, dk_r G 4 60] s := by
  intro x1 y0 s h
  unfold wf_X9_nameOf_25 at h
  refine dk_callVi C [] (cc_X9_goesOn C.D hmi h) yy_X9_goesOn dk_wm_X9_149 dk_sh60 (hmi 60 (by decide) (by decide)) dX9_nameOf_25 (fun r8 s7 h => ?_) rfl rfl ⟨Nat.le_of_ble_eq_true rfl, Nat.le_of_ble_eq_true rfl⟩ rfl (Nat.le_of_ble_eq_true rfl) rfl (n := 28) rfl
  refine dk_if_ne (t := 33) C dX9_nameOf_28 (n := 31) rfl (by decide) (fun c16 => ?_) (fun c16 => ?_)
  · have h := h.1 c16
    refine dk_aload_n (i := 0) C dX9_nameOf_33 (n := 34) rfl rfl rfl ?_
    refine gf_X9_50 C (hmi 60 (by decide) (by decide)) dX9_nameOf_34 (n := 37) rfl ?_
    refine dk_iload_n (i := 1) C dX9_nameOf_37 (n := 38) rfl rfl rfl ?_
    refine dk_iald C dk_sh71 h.1 (hmi 71 (by decide) (by decide)) dX9_nameOf_38 (n := 39) rfl ?_
    have h := h.2
    refine dk_name (fun v9 ev9 => ?_)
    have h := h v9 ev9
    refine dk_istore_n (i := 2) (L' := [some (dk_r G 4 60), some (.int x1), some (.int v9)]) C dX9_nameOf_39 (n := 40) rfl rfl (dk_nc_of rfl) (Nat.le_of_ble_eq_true rfl) rfl ?_
    refine dk_iload_n (i := 2) C dX9_nameOf_40 (n := 41) rfl rfl rfl ?_
    refine dk_callSi C [] (cc_X9_isPotion C.D  h) yy_X9_isPotion dk_wm_X9_156 dX9_nameOf_41 (fun r11 s10 h => ?_) rfl ⟨Nat.le_of_ble_eq_true rfl, Nat.le_of_ble_eq_true rfl⟩ rfl (Nat.le_of_ble_eq_true rfl) rfl (n := 44) rfl
    refine dk_if_eq (t := 67) C dX9_nameOf_44 (n := 47) rfl (by decide) (fun c15 => ?_) (fun c15 => ?_)
    · have h := h.1 c15
      refine dk_iload_n (i := 2) C dX9_nameOf_67 (n := 68) rfl rfl rfl ?_
      exact dk_iret C hr hlk rfl dX9_nameOf_68 ⟨_, rfl, h⟩
    · have h := h.2 c15
      refine dk_aload_n (i := 0) C dX9_nameOf_47 (n := 48) rfl rfl rfl ?_
      refine gf_X9_86 C (hmi 60 (by decide) (by decide)) dX9_nameOf_48 (n := 51) rfl ?_
      refine dk_iload_n (i := 2) C dX9_nameOf_51 (n := 52) rfl rfl rfl ?_
      refine dk_zald C dk_sh83 h.1 (hmi 83 (by decide) (by decide)) dX9_nameOf_52 (n := 53) rfl ?_
      have h := h.2
      refine dk_if_ne (t := 67) C dX9_nameOf_53 (n := 56) rfl (by decide) (fun c14 => ?_) (fun c14 => ?_)
      · have h := h.1 c14
        refine dk_iload_n (i := 2) C dX9_nameOf_67 (n := 68) rfl rfl rfl ?_
        exact dk_iret C hr hlk rfl dX9_nameOf_68 ⟨_, rfl, h⟩
      · have h := h.2 c14
        refine dk_bipush (v := 100) C dX9_nameOf_56 (n := 58) rfl (by decide) ?_
        refine dk_aload_n (i := 0) C dX9_nameOf_58 (n := 59) rfl rfl rfl ?_
        refine dk_iload_n (i := 2) C dX9_nameOf_59 (n := 60) rfl rfl rfl ?_
        refine dk_callVi C [.int 100] (cc_X9_lookOf C.D hmi h) yy_X9_lookOf dk_wm_X9_297 dk_sh60 (hmi 60 (by decide) (by decide)) dX9_nameOf_60 (fun r13 s12 h => ?_) rfl rfl ⟨Nat.le_of_ble_eq_true rfl, Nat.le_of_ble_eq_true rfl⟩ rfl (Nat.le_of_ble_eq_true rfl) rfl (n := 63) rfl
        refine dk_iadd C dX9_nameOf_63 (n := 64) rfl ?_
        refine dk_goto (t := 68) C dX9_nameOf_64 (by decide) ?_
        exact dk_iret C hr hlk rfl dX9_nameOf_68 ⟨_, rfl, h⟩
  · have h := h.2 c16
    refine dk_iconst (v := 0) C dX9_nameOf_31 (n := 32) rfl (by decide) ?_
    exact dk_iret C hr hlk rfl dX9_nameOf_32 ⟨_, rfl, h⟩
set_option maxRecDepth 20000 in
set_option maxHeartbeats 4000000 in
theorem cc_X9_nameOf {G : dk_G} {l : Launch} {a1 : Int32} (hD : dk_D G) (hmi : dk_MI G) {s : dk_S} {K : Int32 → dk_S → Prop} (h : wf_X9_nameOf a1 s K) : dk_M G l 3 yX9_nameOf cX9_nameOf 3 (some .int) [dk_r G 4 60, .int a1] s (dk_ki K) := by
  refine dk_of hD (by decide) [some (dk_r G 4 60), some (.int a1), none] (fun q hq => hq) rfl (Nat.le_of_ble_eq_true rfl) (fun P e S0 m args bel meth c C hr hlk => ?_)
  unfold wf_X9_nameOf at h
  refine dk_aload_n (i := 0) C dX9_nameOf_0 (n := 1) rfl rfl rfl ?_
  refine dk_aload_n (i := 0) C dX9_nameOf_1 (n := 2) rfl rfl rfl ?_
  refine dk_iload_n (i := 1) C dX9_nameOf_2 (n := 3) rfl rfl rfl ?_
  refine dk_callVi C [dk_r G 4 60] (cc_X9_isThing C.D hmi h) yy_X9_isThing dk_wm_X9_165 dk_sh60 (hmi 60 (by decide) (by decide)) dX9_nameOf_3 (fun r2 s1 h => ?_) rfl rfl ⟨Nat.le_of_ble_eq_true rfl, Nat.le_of_ble_eq_true rfl⟩ rfl (Nat.le_of_ble_eq_true rfl) rfl (n := 6) rfl
  refine dk_if_ne (t := 13) C dX9_nameOf_6 (n := 9) rfl (by decide) (fun c6 => ?_) (fun c6 => ?_)
  · have h := h.1 c6
    refine dk_aload_n (i := 0) C dX9_nameOf_13 (n := 14) rfl rfl rfl ?_
    refine dk_callVi C [dk_r G 4 60] (cc_X9_isOn C.D hmi h) yy_X9_isOn dk_wm_X9_145 dk_sh60 (hmi 60 (by decide) (by decide)) dX9_nameOf_14 (fun r4 s3 h => ?_) rfl rfl ⟨Nat.le_of_ble_eq_true rfl, Nat.le_of_ble_eq_true rfl⟩ rfl (Nat.le_of_ble_eq_true rfl) rfl (n := 17) rfl
    refine dk_if_ne (t := 24) C dX9_nameOf_17 (n := 20) rfl (by decide) (fun c5 => ?_) (fun c5 => ?_)
    · have h := h.1 c5
      refine dk_iconst (v := 0) C dX9_nameOf_24 (n := 25) rfl (by decide) ?_
      refine dk_sub (L0 := [some (dk_r G 4 60), some (.int a1), none]) ⟨rfl, ⟨rfl, trivial⟩⟩ ?_
      exact ww_X9_nameOf_25 C hr hlk hmi  a1 0 s3 h
    · have h := h.2 c5
      refine dk_iconst (v := 2) C dX9_nameOf_20 (n := 21) rfl (by decide) ?_
      refine dk_goto (t := 25) C dX9_nameOf_21 (by decide) ?_
      refine dk_sub (L0 := [some (dk_r G 4 60), some (.int a1), none]) ⟨rfl, ⟨rfl, trivial⟩⟩ ?_
      exact ww_X9_nameOf_25 C hr hlk hmi  a1 2 s3 h
  · have h := h.2 c6
    refine dk_iconst (v := 1) C dX9_nameOf_9 (n := 10) rfl (by decide) ?_
    refine dk_goto (t := 25) C dX9_nameOf_10 (by decide) ?_
    refine dk_sub (L0 := [some (dk_r G 4 60), some (.int a1), none]) ⟨rfl, ⟨rfl, trivial⟩⟩ ?_
    exact ww_X9_nameOf_25 C hr hlk hmi  a1 1 s1 h
/-! X9_hasFound -/
set_option maxRecDepth 20000 in
set_option maxHeartbeats 4000000 in
theorem ww_X9_hasFound_58 {G : dk_G} {P : Program} {l : Launch} {e : Env} {S0 : State} {m : MethodId} {args : Array Value} {bel : List Frame} {meth : Method} {c : Code}  (C : dk_C G P (dk_rm 2) S0 m args c 0 0 cX9_hasFound 5 RX9) (hr : meth.sig.returnType = (some .boolean)) (hlk : meth.locks = false) (hmi : dk_MI G) {K : Int32 → dk_S → Prop} {B : Int32 → Int32 → Int32 → dk_S → Prop} (hB : ∀ (x1 : Int32) (x2 : Int32) (x3 : Int32) (s : dk_S), B x1 x2 x3 s → dk_W G P l e (dk_rm 2) S0 m args bel meth c 0 0 (MQ bel (dk_Qc G (dk_ki K)) args S0 0 0 (dk_A G)) 4 [some (dk_r G 4 60), some (.int x1), some (.int x2), some (.int x3), none] [] s)  : ∀ (x1 : Int32) (x3 : Int32) (s : dk_S), wf_X9_hasFound_58 K B x1 x3 s → dk_W G P l e (dk_rm 2) S0 m args bel meth c 0 0 (MQ bel (dk_Qc G (dk_ki K)) args S0 0 0 (dk_A G)) 58 [some (dk_r G 4 60), some (.int x1), none, some (.int x3), none] [] s := by
  intro x1 x3 s h
  unfold wf_X9_hasFound_58 at h
  refine dk_iconst (v := 0) C dX9_hasFound_58 (n := 59) rfl (by decide) ?_
  refine dk_istore_n (i := 2) (L' := [some (dk_r G 4 60), some (.int x1), some (.int 0), some (.int x3), none]) C dX9_hasFound_59 (n := 60) rfl rfl (dk_nc_of rfl) (Nat.le_of_ble_eq_true rfl) rfl ?_
  obtain ⟨v11, ev11⟩ : ∃ y : Int32, y = x3 + 1 := ⟨_, rfl⟩
  have h := h v11 ev11
  refine dk_iinc (i := 3) (v := v11) (L' := [some (dk_r G 4 60), some (.int x1), some (.int 0), some (.int v11), none]) C dX9_hasFound_60 (n := 63) rfl rfl (by rw [ev11]; rfl) (dk_nc_of rfl) (Nat.le_of_ble_eq_true rfl) rfl ?_
  refine dk_goto (t := 4) C dX9_hasFound_63 (by decide) ?_
  refine dk_sub (L0 := [some (dk_r G 4 60), some (.int x1), some (.int 0), some (.int v11), none]) ⟨rfl, ⟨rfl, ⟨rfl, ⟨rfl, trivial⟩⟩⟩⟩ ?_
  exact hB x1 0 v11 s h
set_option maxRecDepth 20000 in
set_option maxHeartbeats 4000000 in
theorem ww_X9_hasFound_54 {G : dk_G} {P : Program} {l : Launch} {e : Env} {S0 : State} {m : MethodId} {args : Array Value} {bel : List Frame} {meth : Method} {c : Code}  (C : dk_C G P (dk_rm 2) S0 m args c 0 0 cX9_hasFound 5 RX9) (hr : meth.sig.returnType = (some .boolean)) (hlk : meth.locks = false) (hmi : dk_MI G) {K : Int32 → dk_S → Prop} {B : Int32 → Int32 → Int32 → dk_S → Prop} (hB : ∀ (x1 : Int32) (x2 : Int32) (x3 : Int32) (s : dk_S), B x1 x2 x3 s → dk_W G P l e (dk_rm 2) S0 m args bel meth c 0 0 (MQ bel (dk_Qc G (dk_ki K)) args S0 0 0 (dk_A G)) 4 [some (dk_r G 4 60), some (.int x1), some (.int x2), some (.int x3), none] [] s)  : ∀ (x1 : Int32) (x3 : Int32) (s : dk_S), wf_X9_hasFound_54 K B x1 x3 s → dk_W G P l e (dk_rm 2) S0 m args bel meth c 0 0 (MQ bel (dk_Qc G (dk_ki K)) args S0 0 0 (dk_A G)) 54 [some (dk_r G 4 60), some (.int x1), none, some (.int x3), none] [] s := by
  intro x1 x3 s h
  unfold wf_X9_hasFound_54 at h
  refine dk_iconst (v := 1) C dX9_hasFound_54 (n := 55) rfl (by decide) ?_
  refine dk_goto (t := 59) C dX9_hasFound_55 (by decide) ?_
  refine dk_istore_n (i := 2) (L' := [some (dk_r G 4 60), some (.int x1), some (.int 1), some (.int x3), none]) C dX9_hasFound_59 (n := 60) rfl rfl (dk_nc_of rfl) (Nat.le_of_ble_eq_true rfl) rfl ?_
  obtain ⟨v10, ev10⟩ : ∃ y : Int32, y = x3 + 1 := ⟨_, rfl⟩
  have h := h v10 ev10
  refine dk_iinc (i := 3) (v := v10) (L' := [some (dk_r G 4 60), some (.int x1), some (.int 1), some (.int v10), none]) C dX9_hasFound_60 (n := 63) rfl rfl (by rw [ev10]; rfl) (dk_nc_of rfl) (Nat.le_of_ble_eq_true rfl) rfl ?_
  refine dk_goto (t := 4) C dX9_hasFound_63 (by decide) ?_
  refine dk_sub (L0 := [some (dk_r G 4 60), some (.int x1), some (.int 1), some (.int v10), none]) ⟨rfl, ⟨rfl, ⟨rfl, ⟨rfl, trivial⟩⟩⟩⟩ ?_
  exact hB x1 1 v10 s h
set_option maxRecDepth 20000 in
set_option maxHeartbeats 4000000 in
theorem ww_X9_hasFound_4 {G : dk_G} {P : Program} {l : Launch} {e : Env} {S0 : State} {m : MethodId} {args : Array Value} {bel : List Frame} {meth : Method} {c : Code}  (C : dk_C G P (dk_rm 2) S0 m args c 0 0 cX9_hasFound 5 RX9) (hr : meth.sig.returnType = (some .boolean)) (hlk : meth.locks = false) (hmi : dk_MI G) {K : Int32 → dk_S → Prop}  : ∀ (n : Nat) (x1 : Int32) (x2 : Int32) (x3 : Int32) (s : dk_S), wf_X9_hasFound_4 K n x1 x2 x3 s → dk_W G P l e (dk_rm 2) S0 m args bel meth c 0 0 (MQ bel (dk_Qc G (dk_ki K)) args S0 0 0 (dk_A G)) 4 [some (dk_r G 4 60), some (.int x1), some (.int x2), some (.int x3), none] [] s := by
  intro n
  induction n with
  | zero => intro x1 x2 x3 s h; exact False.elim h
  | succ n hB =>
    intro x1 x2 x3 s h
    unfold wf_X9_hasFound_4 at h
    refine dk_iload_n (i := 3) C dX9_hasFound_4 (n := 5) rfl rfl rfl ?_
    refine dk_aload_n (i := 0) C dX9_hasFound_5 (n := 6) rfl rfl rfl ?_
    refine gf_X9_162 C (hmi 60 (by decide) (by decide)) dX9_hasFound_6 (n := 9) rfl ?_
    refine dk_icmp_ge (t := 66) C dX9_hasFound_9 (n := 12) rfl (by decide) (fun c9 => ?_) (fun c9 => ?_)
    · have h := h.1 c9
      refine dk_iload_n (i := 2) C dX9_hasFound_66 (n := 67) rfl rfl rfl ?_
      exact dk_iret C hr hlk h.1 dX9_hasFound_67 ⟨_, rfl, h.2⟩
    · have h := h.2 c9
      refine dk_aload_n (i := 0) C dX9_hasFound_12 (n := 13) rfl rfl rfl ?_
      refine dk_iload_n (i := 3) C dX9_hasFound_13 (n := 14) rfl rfl rfl ?_
      refine dk_callVi C [] (cc_X9_outermost C.D hmi h) yy_X9_outermost dk_wm_X9_206 dk_sh60 (hmi 60 (by decide) (by decide)) dX9_hasFound_14 (fun r3 s2 h => ?_) rfl rfl ⟨Nat.le_of_ble_eq_true rfl, Nat.le_of_ble_eq_true rfl⟩ rfl (Nat.le_of_ble_eq_true rfl) rfl (n := 17) rfl
      refine dk_istore (i := 4) (L' := [some (dk_r G 4 60), some (.int x1), some (.int x2), some (.int x3), some (.int r3)]) C dX9_hasFound_17 (n := 19) rfl (dk_nc_of rfl) (Nat.le_of_ble_eq_true rfl) rfl ?_
      refine dk_iload_n (i := 2) C dX9_hasFound_19 (n := 20) rfl rfl rfl ?_
      refine dk_if_ne (t := 54) C dX9_hasFound_20 (n := 23) rfl (by decide) (fun c8 => ?_) (fun c8 => ?_)
      · have h := h.1 c8
        refine dk_sub (L0 := [some (dk_r G 4 60), some (.int x1), none, some (.int x3), none]) ⟨rfl, ⟨rfl, ⟨rfl, trivial⟩⟩⟩ ?_
        exact ww_X9_hasFound_54 C hr hlk hmi hB x1 x3 s2 h
      · have h := h.2 c8
        refine dk_aload_n (i := 0) C dX9_hasFound_23 (n := 24) rfl rfl rfl ?_
        refine gf_X9_50 C (hmi 60 (by decide) (by decide)) dX9_hasFound_24 (n := 27) rfl ?_
        refine dk_iload_n (i := 3) C dX9_hasFound_27 (n := 28) rfl rfl rfl ?_
        refine dk_iald C dk_sh71 h.1 (hmi 71 (by decide) (by decide)) dX9_hasFound_28 (n := 29) rfl ?_
        have h := h.2
        refine dk_iload_n (i := 1) C dX9_hasFound_29 (n := 30) rfl rfl rfl ?_
        refine dk_icmp_ne (t := 58) C dX9_hasFound_30 (n := 33) rfl (by decide) (fun c7 => ?_) (fun c7 => ?_)
        · have h := h.1 c7
          refine dk_sub (L0 := [some (dk_r G 4 60), some (.int x1), none, some (.int x3), none]) ⟨rfl, ⟨rfl, ⟨rfl, trivial⟩⟩⟩ ?_
          exact ww_X9_hasFound_58 C hr hlk hmi hB x1 x3 s2 h
        · have h := h.2 c7
          refine dk_iload C dX9_hasFound_33 (n := 35) rfl (i := 4) rfl ?_
          refine dk_iconst (v := (-1)) C dX9_hasFound_35 (n := 36) rfl (by decide) ?_
          refine dk_icmp_eq (t := 54) C dX9_hasFound_36 (n := 39) rfl (by decide) (fun c6 => ?_) (fun c6 => ?_)
          · have h := h.1 c6
            refine dk_sub (L0 := [some (dk_r G 4 60), some (.int x1), none, some (.int x3), none]) ⟨rfl, ⟨rfl, ⟨rfl, trivial⟩⟩⟩ ?_
            exact ww_X9_hasFound_54 C hr hlk hmi hB x1 x3 s2 h
          · have h := h.2 c6
            refine dk_iload C dX9_hasFound_39 (n := 41) rfl (i := 4) rfl ?_
            refine dk_if_lt (t := 58) C dX9_hasFound_41 (n := 44) rfl (by decide) (fun c5 => ?_) (fun c5 => ?_)
            · have h := h.1 c5
              refine dk_sub (L0 := [some (dk_r G 4 60), some (.int x1), none, some (.int x3), none]) ⟨rfl, ⟨rfl, ⟨rfl, trivial⟩⟩⟩ ?_
              exact ww_X9_hasFound_58 C hr hlk hmi hB x1 x3 s2 h
            · have h := h.2 c5
              refine dk_aload_n (i := 0) C dX9_hasFound_44 (n := 45) rfl rfl rfl ?_
              refine gf_X9_101 C (hmi 60 (by decide) (by decide)) dX9_hasFound_45 (n := 48) rfl ?_
              refine dk_iload C dX9_hasFound_48 (n := 50) rfl (i := 4) rfl ?_
              refine dk_zald C dk_sh87 h.1 (hmi 87 (by decide) (by decide)) dX9_hasFound_50 (n := 51) rfl ?_
              have h := h.2
              refine dk_if_eq (t := 58) C dX9_hasFound_51 (n := 54) rfl (by decide) (fun c4 => ?_) (fun c4 => ?_)
              · have h := h.1 c4
                refine dk_sub (L0 := [some (dk_r G 4 60), some (.int x1), none, some (.int x3), none]) ⟨rfl, ⟨rfl, ⟨rfl, trivial⟩⟩⟩ ?_
                exact ww_X9_hasFound_58 C hr hlk hmi hB x1 x3 s2 h
              · have h := h.2 c4
                refine dk_sub (L0 := [some (dk_r G 4 60), some (.int x1), none, some (.int x3), none]) ⟨rfl, ⟨rfl, ⟨rfl, trivial⟩⟩⟩ ?_
                exact ww_X9_hasFound_54 C hr hlk hmi hB x1 x3 s2 h
set_option maxRecDepth 20000 in
set_option maxHeartbeats 4000000 in
theorem cc_X9_hasFound {G : dk_G} {l : Launch} {a1 : Int32} (hD : dk_D G) (hmi : dk_MI G) {s : dk_S} {K : Int32 → dk_S → Prop} (h : wf_X9_hasFound a1 s K) : dk_M G l 2 yX9_hasFound cX9_hasFound 5 (some .boolean) [dk_r G 4 60, .int a1] s (dk_ki K) := by
  refine dk_of hD (by decide) [some (dk_r G 4 60), some (.int a1), none, none, none] (fun q hq => hq) rfl (Nat.le_of_ble_eq_true rfl) (fun P e S0 m args bel meth c C hr hlk => ?_)
  unfold wf_X9_hasFound at h
  refine dk_iconst (v := 0) C dX9_hasFound_0 (n := 1) rfl (by decide) ?_
  refine dk_istore_n (i := 2) (L' := [some (dk_r G 4 60), some (.int a1), some (.int 0), none, none]) C dX9_hasFound_1 (n := 2) rfl rfl (dk_nc_of rfl) (Nat.le_of_ble_eq_true rfl) rfl ?_
  refine dk_iconst (v := 0) C dX9_hasFound_2 (n := 3) rfl (by decide) ?_
  refine dk_istore_n (i := 3) (L' := [some (dk_r G 4 60), some (.int a1), some (.int 0), some (.int 0), none]) C dX9_hasFound_3 (n := 4) rfl rfl (dk_nc_of rfl) (Nat.le_of_ble_eq_true rfl) rfl ?_
  obtain ⟨nn1, h⟩ := h
  refine dk_sub (L0 := [some (dk_r G 4 60), some (.int a1), some (.int 0), some (.int 0), none]) ⟨rfl, ⟨rfl, ⟨rfl, ⟨rfl, trivial⟩⟩⟩⟩ ?_
  refine ww_X9_hasFound_4 C hr hlk hmi  nn1 a1 0 0 s h
/-! X9_spreads -/
set_option maxRecDepth 20000 in
set_option maxHeartbeats 4000000 in
theorem ww_X9_spreads_145 {G : dk_G} {P : Program} {l : Launch} {e : Env} {S0 : State} {m : MethodId} {args : Array Value} {bel : List Frame} {meth : Method} {c : Code}  (C : dk_C G P (dk_rm 4) S0 m args c 0 0 cX9_spreads 7 RX9) (hr : meth.sig.returnType = (some .boolean)) (hlk : meth.locks = false) (hmi : dk_MI G) {K : Int32 → dk_S → Prop} {B : Int32 → Int32 → Int32 → Int32 → dk_S → Prop} {E167 : Int32 → Int32 → dk_S → Prop} (hB : ∀ (x1 : Int32) (x2 : Int32) (x3 : Int32) (x4 : Int32) (s : dk_S), B x1 x2 x3 x4 s → dk_W G P l e (dk_rm 4) S0 m args bel meth c 0 0 (MQ bel (dk_Qc G (dk_ki K)) args S0 0 0 (dk_A G)) 71 [some (dk_r G 4 60), some (.int x1), some (.int x2), some (.int x3), some (.int x4), none, none] [] s) (hE167 : ∀ (x1 : Int32) (x2 : Int32) (s : dk_S), E167 x1 x2 s → dk_W G P l e (dk_rm 4) S0 m args bel meth c 0 0 (MQ bel (dk_Qc G (dk_ki K)) args S0 0 0 (dk_A G)) 167 [some (dk_r G 4 60), some (.int x1), some (.int x2), none, none, none, none] [] s) : ∀ (x1 : Int32) (x2 : Int32) (x3 : Int32) (x4 : Int32) (x6 : Int32) (y0 : Int32) (y1 : Int32) (s : dk_S), wf_X9_spreads_145 K B E167 x1 x2 x3 x4 x6 y0 y1 s → dk_W G P l e (dk_rm 4) S0 m args bel meth c 0 0 (MQ bel (dk_Qc G (dk_ki K)) args S0 0 0 (dk_A G)) 145 [some (dk_r G 4 60), some (.int x1), some (.int x2), some (.int x3), some (.int x4), none, some (.int x6)] [.int y0, .int y1, dk_r G 4 87] s := by
  intro x1 x2 x3 x4 x6 y0 y1 s h
  unfold wf_X9_spreads_145 at h
  refine dk_zast C dk_sh87 h.1 (hmi 87 (by decide) (by decide)) dX9_spreads_145 (n := 146) rfl ?_
  refine dk_nameS (fun s37 es37 => ?_)
  have h := h.2 s37 es37
  refine dk_iload_n (i := 1) C dX9_spreads_146 (n := 147) rfl rfl rfl ?_
  refine dk_if_ne (t := 155) C dX9_spreads_147 (n := 150) rfl (by decide) (fun c42 => ?_) (fun c42 => ?_)
  · have h := h.1 c42
    refine dk_iconst (v := 1) C dX9_spreads_155 (n := 156) rfl (by decide) ?_
    refine dk_goto (t := 160) C dX9_spreads_156 (by decide) ?_
    refine dk_istore_n (i := 1) (L' := [some (dk_r G 4 60), some (.int 1), some (.int x2), some (.int x3), some (.int x4), none, some (.int x6)]) C dX9_spreads_160 (n := 161) rfl rfl (dk_nc_of rfl) (Nat.le_of_ble_eq_true rfl) rfl ?_
    obtain ⟨v38, ev38⟩ : ∃ y : Int32, y = x4 + 1 := ⟨_, rfl⟩
    have h := h v38 ev38
    refine dk_iinc (i := 4) (v := v38) (L' := [some (dk_r G 4 60), some (.int 1), some (.int x2), some (.int x3), some (.int v38), none, some (.int x6)]) C dX9_spreads_161 (n := 164) rfl rfl (by rw [ev38]; rfl) (dk_nc_of rfl) (Nat.le_of_ble_eq_true rfl) rfl ?_
    refine dk_goto (t := 71) C dX9_spreads_164 (by decide) ?_
    refine dk_sub (L0 := [some (dk_r G 4 60), some (.int 1), some (.int x2), some (.int x3), some (.int v38), none, none]) ⟨rfl, ⟨rfl, ⟨rfl, ⟨rfl, ⟨rfl, trivial⟩⟩⟩⟩⟩ ?_
    exact hB 1 x2 x3 v38 s37 h
  · have h := h.2 c42
    refine dk_iload C dX9_spreads_150 (n := 152) rfl (i := 6) rfl ?_
    refine dk_if_eq (t := 159) C dX9_spreads_152 (n := 155) rfl (by decide) (fun c41 => ?_) (fun c41 => ?_)
    · have h := h.1 c41
      refine dk_iconst (v := 0) C dX9_spreads_159 (n := 160) rfl (by decide) ?_
      refine dk_istore_n (i := 1) (L' := [some (dk_r G 4 60), some (.int 0), some (.int x2), some (.int x3), some (.int x4), none, some (.int x6)]) C dX9_spreads_160 (n := 161) rfl rfl (dk_nc_of rfl) (Nat.le_of_ble_eq_true rfl) rfl ?_
      obtain ⟨v39, ev39⟩ : ∃ y : Int32, y = x4 + 1 := ⟨_, rfl⟩
      have h := h v39 ev39
      refine dk_iinc (i := 4) (v := v39) (L' := [some (dk_r G 4 60), some (.int 0), some (.int x2), some (.int x3), some (.int v39), none, some (.int x6)]) C dX9_spreads_161 (n := 164) rfl rfl (by rw [ev39]; rfl) (dk_nc_of rfl) (Nat.le_of_ble_eq_true rfl) rfl ?_
      refine dk_goto (t := 71) C dX9_spreads_164 (by decide) ?_
      refine dk_sub (L0 := [some (dk_r G 4 60), some (.int 0), some (.int x2), some (.int x3), some (.int v39), none, none]) ⟨rfl, ⟨rfl, ⟨rfl, ⟨rfl, ⟨rfl, trivial⟩⟩⟩⟩⟩ ?_
      exact hB 0 x2 x3 v39 s37 h
    · have h := h.2 c41
      refine dk_iconst (v := 1) C dX9_spreads_155 (n := 156) rfl (by decide) ?_
      refine dk_goto (t := 160) C dX9_spreads_156 (by decide) ?_
      refine dk_istore_n (i := 1) (L' := [some (dk_r G 4 60), some (.int 1), some (.int x2), some (.int x3), some (.int x4), none, some (.int x6)]) C dX9_spreads_160 (n := 161) rfl rfl (dk_nc_of rfl) (Nat.le_of_ble_eq_true rfl) rfl ?_
      obtain ⟨v40, ev40⟩ : ∃ y : Int32, y = x4 + 1 := ⟨_, rfl⟩
      have h := h v40 ev40
      refine dk_iinc (i := 4) (v := v40) (L' := [some (dk_r G 4 60), some (.int 1), some (.int x2), some (.int x3), some (.int v40), none, some (.int x6)]) C dX9_spreads_161 (n := 164) rfl rfl (by rw [ev40]; rfl) (dk_nc_of rfl) (Nat.le_of_ble_eq_true rfl) rfl ?_
      refine dk_goto (t := 71) C dX9_spreads_164 (by decide) ?_
      refine dk_sub (L0 := [some (dk_r G 4 60), some (.int 1), some (.int x2), some (.int x3), some (.int v40), none, none]) ⟨rfl, ⟨rfl, ⟨rfl, ⟨rfl, ⟨rfl, trivial⟩⟩⟩⟩⟩ ?_
      exact hB 1 x2 x3 v40 s37 h
set_option maxRecDepth 20000 in
set_option maxHeartbeats 4000000 in
theorem ww_X9_spreads_119 {G : dk_G} {P : Program} {l : Launch} {e : Env} {S0 : State} {m : MethodId} {args : Array Value} {bel : List Frame} {meth : Method} {c : Code}  (C : dk_C G P (dk_rm 4) S0 m args c 0 0 cX9_spreads 7 RX9) (hr : meth.sig.returnType = (some .boolean)) (hlk : meth.locks = false) (hmi : dk_MI G) {K : Int32 → dk_S → Prop} {B : Int32 → Int32 → Int32 → Int32 → dk_S → Prop} {E167 : Int32 → Int32 → dk_S → Prop} (hB : ∀ (x1 : Int32) (x2 : Int32) (x3 : Int32) (x4 : Int32) (s : dk_S), B x1 x2 x3 x4 s → dk_W G P l e (dk_rm 4) S0 m args bel meth c 0 0 (MQ bel (dk_Qc G (dk_ki K)) args S0 0 0 (dk_A G)) 71 [some (dk_r G 4 60), some (.int x1), some (.int x2), some (.int x3), some (.int x4), none, none] [] s) (hE167 : ∀ (x1 : Int32) (x2 : Int32) (s : dk_S), E167 x1 x2 s → dk_W G P l e (dk_rm 4) S0 m args bel meth c 0 0 (MQ bel (dk_Qc G (dk_ki K)) args S0 0 0 (dk_A G)) 167 [some (dk_r G 4 60), some (.int x1), some (.int x2), none, none, none, none] [] s) : ∀ (x1 : Int32) (x2 : Int32) (x3 : Int32) (x4 : Int32) (y0 : Int32) (s : dk_S), wf_X9_spreads_119 K B E167 x1 x2 x3 x4 y0 s → dk_W G P l e (dk_rm 4) S0 m args bel meth c 0 0 (MQ bel (dk_Qc G (dk_ki K)) args S0 0 0 (dk_A G)) 119 [some (dk_r G 4 60), some (.int x1), some (.int x2), some (.int x3), some (.int x4), none, none] [.int y0] s := by
  intro x1 x2 x3 x4 y0 s h
  unfold wf_X9_spreads_119 at h
  refine dk_istore (i := 6) (L' := [some (dk_r G 4 60), some (.int x1), some (.int x2), some (.int x3), some (.int x4), none, some (.int y0)]) C dX9_spreads_119 (n := 121) rfl (dk_nc_of rfl) (Nat.le_of_ble_eq_true rfl) rfl ?_
  refine dk_aload_n (i := 0) C dX9_spreads_121 (n := 122) rfl rfl rfl ?_
  refine gf_X9_101 C (hmi 60 (by decide) (by decide)) dX9_spreads_122 (n := 125) rfl ?_
  refine dk_iload_n (i := 2) C dX9_spreads_125 (n := 126) rfl rfl rfl ?_
  refine dk_aload_n (i := 0) C dX9_spreads_126 (n := 127) rfl rfl rfl ?_
  refine gf_X9_101 C (hmi 60 (by decide) (by decide)) dX9_spreads_127 (n := 130) rfl ?_
  refine dk_iload_n (i := 2) C dX9_spreads_130 (n := 131) rfl rfl rfl ?_
  refine dk_zald C dk_sh87 h.1 (hmi 87 (by decide) (by decide)) dX9_spreads_131 (n := 132) rfl ?_
  have h := h.2
  refine dk_if_ne (t := 140) C dX9_spreads_132 (n := 135) rfl (by decide) (fun c36 => ?_) (fun c36 => ?_)
  · have h := h.1 c36
    refine dk_iconst (v := 1) C dX9_spreads_140 (n := 141) rfl (by decide) ?_
    refine dk_goto (t := 145) C dX9_spreads_141 (by decide) ?_
    refine dk_sub (L0 := [some (dk_r G 4 60), some (.int x1), some (.int x2), some (.int x3), some (.int x4), none, some (.int y0)]) ⟨rfl, ⟨rfl, ⟨rfl, ⟨rfl, ⟨rfl, ⟨rfl, trivial⟩⟩⟩⟩⟩⟩ ?_
    exact ww_X9_spreads_145 C hr hlk hmi hB hE167 x1 x2 x3 x4 y0 1 x2 s h
  · have h := h.2 c36
    refine dk_iload C dX9_spreads_135 (n := 137) rfl (i := 6) rfl ?_
    refine dk_if_eq (t := 144) C dX9_spreads_137 (n := 140) rfl (by decide) (fun c35 => ?_) (fun c35 => ?_)
    · have h := h.1 c35
      refine dk_iconst (v := 0) C dX9_spreads_144 (n := 145) rfl (by decide) ?_
      refine dk_sub (L0 := [some (dk_r G 4 60), some (.int x1), some (.int x2), some (.int x3), some (.int x4), none, some (.int y0)]) ⟨rfl, ⟨rfl, ⟨rfl, ⟨rfl, ⟨rfl, ⟨rfl, trivial⟩⟩⟩⟩⟩⟩ ?_
      exact ww_X9_spreads_145 C hr hlk hmi hB hE167 x1 x2 x3 x4 y0 0 x2 s h
    · have h := h.2 c35
      refine dk_iconst (v := 1) C dX9_spreads_140 (n := 141) rfl (by decide) ?_
      refine dk_goto (t := 145) C dX9_spreads_141 (by decide) ?_
      refine dk_sub (L0 := [some (dk_r G 4 60), some (.int x1), some (.int x2), some (.int x3), some (.int x4), none, some (.int y0)]) ⟨rfl, ⟨rfl, ⟨rfl, ⟨rfl, ⟨rfl, ⟨rfl, trivial⟩⟩⟩⟩⟩⟩ ?_
      exact ww_X9_spreads_145 C hr hlk hmi hB hE167 x1 x2 x3 x4 y0 1 x2 s h
set_option maxRecDepth 20000 in
set_option maxHeartbeats 4000000 in
theorem ww_X9_spreads_71 {G : dk_G} {P : Program} {l : Launch} {e : Env} {S0 : State} {m : MethodId} {args : Array Value} {bel : List Frame} {meth : Method} {c : Code}  (C : dk_C G P (dk_rm 4) S0 m args c 0 0 cX9_spreads 7 RX9) (hr : meth.sig.returnType = (some .boolean)) (hlk : meth.locks = false) (hmi : dk_MI G) {K : Int32 → dk_S → Prop} {E167 : Int32 → Int32 → dk_S → Prop} (hE167 : ∀ (x1 : Int32) (x2 : Int32) (s : dk_S), E167 x1 x2 s → dk_W G P l e (dk_rm 4) S0 m args bel meth c 0 0 (MQ bel (dk_Qc G (dk_ki K)) args S0 0 0 (dk_A G)) 167 [some (dk_r G 4 60), some (.int x1), some (.int x2), none, none, none, none] [] s) : ∀ (n : Nat) (x1 : Int32) (x2 : Int32) (x3 : Int32) (x4 : Int32) (s : dk_S), wf_X9_spreads_71 K E167 n x1 x2 x3 x4 s → dk_W G P l e (dk_rm 4) S0 m args bel meth c 0 0 (MQ bel (dk_Qc G (dk_ki K)) args S0 0 0 (dk_A G)) 71 [some (dk_r G 4 60), some (.int x1), some (.int x2), some (.int x3), some (.int x4), none, none] [] s := by
  intro n
  induction n with
  | zero => intro x1 x2 x3 x4 s h; exact False.elim h
  | succ n hB =>
    intro x1 x2 x3 x4 s h
    unfold wf_X9_spreads_71 at h
    refine dk_iload C dX9_spreads_71 (n := 73) rfl (i := 4) rfl ?_
    refine dk_iconst (v := 4) C dX9_spreads_73 (n := 74) rfl (by decide) ?_
    refine dk_icmp_ge (t := 167) C dX9_spreads_74 (n := 77) rfl (by decide) (fun c34 => ?_) (fun c34 => ?_)
    · have h := h.1 c34
      refine dk_sub (L0 := [some (dk_r G 4 60), some (.int x1), some (.int x2), none, none, none, none]) ⟨rfl, ⟨rfl, ⟨rfl, trivial⟩⟩⟩ ?_
      exact hE167 x1 x2 s h
    · have h := h.2 c34
      refine dk_iload_n (i := 3) C dX9_spreads_77 (n := 78) rfl rfl rfl ?_
      refine dk_if_eq (t := 167) C dX9_spreads_78 (n := 81) rfl (by decide) (fun c33 => ?_) (fun c33 => ?_)
      · have h := h.1 c33
        refine dk_sub (L0 := [some (dk_r G 4 60), some (.int x1), some (.int x2), none, none, none, none]) ⟨rfl, ⟨rfl, ⟨rfl, trivial⟩⟩⟩ ?_
        exact hE167 x1 x2 s h
      · have h := h.2 c33
        refine dk_aload_n (i := 0) C dX9_spreads_81 (n := 82) rfl rfl rfl ?_
        refine gf_X9_101 C (hmi 60 (by decide) (by decide)) dX9_spreads_82 (n := 85) rfl ?_
        refine dk_iload_n (i := 2) C dX9_spreads_85 (n := 86) rfl rfl rfl ?_
        refine dk_zald C dk_sh87 h.1 (hmi 87 (by decide) (by decide)) dX9_spreads_86 (n := 87) rfl ?_
        have h := h.2
        refine dk_if_ne (t := 167) C dX9_spreads_87 (n := 90) rfl (by decide) (fun c32 => ?_) (fun c32 => ?_)
        · have h := h.1 c32
          refine dk_sub (L0 := [some (dk_r G 4 60), some (.int x1), some (.int x2), none, none, none, none]) ⟨rfl, ⟨rfl, ⟨rfl, trivial⟩⟩⟩ ?_
          exact hE167 x1 x2 s h
        · have h := h.2 c32
          refine dk_iload_n (i := 2) C dX9_spreads_90 (n := 91) rfl rfl rfl ?_
          refine dk_iload C dX9_spreads_91 (n := 93) rfl (i := 4) rfl ?_
          refine dk_callSi C [] (cc_X9_beside C.D  h) yy_X9_beside dk_wm_X9_193 dX9_spreads_93 (fun r29 s28 h => ?_) rfl ⟨Nat.le_of_ble_eq_true rfl, Nat.le_of_ble_eq_true rfl⟩ rfl (Nat.le_of_ble_eq_true rfl) rfl (n := 96) rfl
          refine dk_istore (i := 5) (L' := [some (dk_r G 4 60), some (.int x1), some (.int x2), some (.int x3), some (.int x4), some (.int r29), none]) C dX9_spreads_96 (n := 98) rfl (dk_nc_of rfl) (Nat.le_of_ble_eq_true rfl) rfl ?_
          refine dk_iload C dX9_spreads_98 (n := 100) rfl (i := 5) rfl ?_
          refine dk_iconst (v := (-1)) C dX9_spreads_100 (n := 101) rfl (by decide) ?_
          refine dk_icmp_eq (t := 118) C dX9_spreads_101 (n := 104) rfl (by decide) (fun c31 => ?_) (fun c31 => ?_)
          · have h := h.1 c31
            refine dk_iconst (v := 0) C dX9_spreads_118 (n := 119) rfl (by decide) ?_
            refine dk_sub (L0 := [some (dk_r G 4 60), some (.int x1), some (.int x2), some (.int x3), some (.int x4), none, none]) ⟨rfl, ⟨rfl, ⟨rfl, ⟨rfl, ⟨rfl, trivial⟩⟩⟩⟩⟩ ?_
            exact ww_X9_spreads_119 C hr hlk hmi hB hE167 x1 x2 x3 x4 0 s28 h
          · have h := h.2 c31
            refine dk_aload_n (i := 0) C dX9_spreads_104 (n := 105) rfl rfl rfl ?_
            refine gf_X9_101 C (hmi 60 (by decide) (by decide)) dX9_spreads_105 (n := 108) rfl ?_
            refine dk_iload C dX9_spreads_108 (n := 110) rfl (i := 5) rfl ?_
            refine dk_zald C dk_sh87 h.1 (hmi 87 (by decide) (by decide)) dX9_spreads_110 (n := 111) rfl ?_
            have h := h.2
            refine dk_if_eq (t := 118) C dX9_spreads_111 (n := 114) rfl (by decide) (fun c30 => ?_) (fun c30 => ?_)
            · have h := h.1 c30
              refine dk_iconst (v := 0) C dX9_spreads_118 (n := 119) rfl (by decide) ?_
              refine dk_sub (L0 := [some (dk_r G 4 60), some (.int x1), some (.int x2), some (.int x3), some (.int x4), none, none]) ⟨rfl, ⟨rfl, ⟨rfl, ⟨rfl, ⟨rfl, trivial⟩⟩⟩⟩⟩ ?_
              exact ww_X9_spreads_119 C hr hlk hmi hB hE167 x1 x2 x3 x4 0 s28 h
            · have h := h.2 c30
              refine dk_iconst (v := 1) C dX9_spreads_114 (n := 115) rfl (by decide) ?_
              refine dk_goto (t := 119) C dX9_spreads_115 (by decide) ?_
              refine dk_sub (L0 := [some (dk_r G 4 60), some (.int x1), some (.int x2), some (.int x3), some (.int x4), none, none]) ⟨rfl, ⟨rfl, ⟨rfl, ⟨rfl, ⟨rfl, trivial⟩⟩⟩⟩⟩ ?_
              exact ww_X9_spreads_119 C hr hlk hmi hB hE167 x1 x2 x3 x4 1 s28 h
set_option maxRecDepth 20000 in
set_option maxHeartbeats 4000000 in
theorem ww_X9_spreads_62 {G : dk_G} {P : Program} {l : Launch} {e : Env} {S0 : State} {m : MethodId} {args : Array Value} {bel : List Frame} {meth : Method} {c : Code}  (C : dk_C G P (dk_rm 4) S0 m args c 0 0 cX9_spreads 7 RX9) (hr : meth.sig.returnType = (some .boolean)) (hlk : meth.locks = false) (hmi : dk_MI G) {K : Int32 → dk_S → Prop} {B : Int32 → Int32 → dk_S → Prop} (hB : ∀ (x1 : Int32) (x2 : Int32) (s : dk_S), B x1 x2 s → dk_W G P l e (dk_rm 4) S0 m args bel meth c 0 0 (MQ bel (dk_Qc G (dk_ki K)) args S0 0 0 (dk_A G)) 4 [some (dk_r G 4 60), some (.int x1), some (.int x2), none, none, none, none] [] s)  : ∀ (x1 : Int32) (x2 : Int32) (s : dk_S), wf_X9_spreads_62 K B x1 x2 s → dk_W G P l e (dk_rm 4) S0 m args bel meth c 0 0 (MQ bel (dk_Qc G (dk_ki K)) args S0 0 0 (dk_A G)) 62 [some (dk_r G 4 60), some (.int x1), some (.int x2), none, none, none, none] [] s := by
  intro x1 x2 s h
  unfold wf_X9_spreads_62 at h
  refine dk_iconst (v := 1) C dX9_spreads_62 (n := 63) rfl (by decide) ?_
  refine dk_goto (t := 67) C dX9_spreads_63 (by decide) ?_
  refine dk_istore_n (i := 3) (L' := [some (dk_r G 4 60), some (.int x1), some (.int x2), some (.int 1), none, none, none]) C dX9_spreads_67 (n := 68) rfl rfl (dk_nc_of rfl) (Nat.le_of_ble_eq_true rfl) rfl ?_
  refine dk_iconst (v := 0) C dX9_spreads_68 (n := 69) rfl (by decide) ?_
  refine dk_istore (i := 4) (L' := [some (dk_r G 4 60), some (.int x1), some (.int x2), some (.int 1), some (.int 0), none, none]) C dX9_spreads_69 (n := 71) rfl (dk_nc_of rfl) (Nat.le_of_ble_eq_true rfl) rfl ?_
  obtain ⟨nn27, h⟩ := h
  refine dk_sub (L0 := [some (dk_r G 4 60), some (.int x1), some (.int x2), some (.int 1), some (.int 0), none, none]) ⟨rfl, ⟨rfl, ⟨rfl, ⟨rfl, ⟨rfl, trivial⟩⟩⟩⟩⟩ ?_
  refine ww_X9_spreads_71 C hr hlk hmi (fun w23 w24 s25 h => ?_) nn27 x1 x2 1 0 s h
  · obtain ⟨v26, ev26⟩ : ∃ y : Int32, y = w24 + 1 := ⟨_, rfl⟩
    have h := h v26 ev26
    refine dk_iinc (i := 2) (v := v26) (L' := [some (dk_r G 4 60), some (.int w23), some (.int v26), none, none, none, none]) C dX9_spreads_167 (n := 170) rfl rfl (by rw [ev26]; rfl) (dk_nc_of rfl) (Nat.le_of_ble_eq_true rfl) rfl ?_
    refine dk_goto (t := 4) C dX9_spreads_170 (by decide) ?_
    refine dk_sub (L0 := [some (dk_r G 4 60), some (.int w23), some (.int v26), none, none, none, none]) ⟨rfl, ⟨rfl, ⟨rfl, trivial⟩⟩⟩ ?_
    exact hB w23 v26 s25 h
set_option maxRecDepth 20000 in
set_option maxHeartbeats 4000000 in
theorem ww_X9_spreads_4 {G : dk_G} {P : Program} {l : Launch} {e : Env} {S0 : State} {m : MethodId} {args : Array Value} {bel : List Frame} {meth : Method} {c : Code}  (C : dk_C G P (dk_rm 4) S0 m args c 0 0 cX9_spreads 7 RX9) (hr : meth.sig.returnType = (some .boolean)) (hlk : meth.locks = false) (hmi : dk_MI G) {K : Int32 → dk_S → Prop}  : ∀ (n : Nat) (x1 : Int32) (x2 : Int32) (s : dk_S), wf_X9_spreads_4 K n x1 x2 s → dk_W G P l e (dk_rm 4) S0 m args bel meth c 0 0 (MQ bel (dk_Qc G (dk_ki K)) args S0 0 0 (dk_A G)) 4 [some (dk_r G 4 60), some (.int x1), some (.int x2), none, none, none, none] [] s := by
  intro n
  induction n with
  | zero => intro x1 x2 s h; exact False.elim h
  | succ n hB =>
    intro x1 x2 s h
    unfold wf_X9_spreads_4 at h
    refine dk_iload_n (i := 2) C dX9_spreads_4 (n := 5) rfl rfl rfl ?_
    refine dk_sipush (v := 144) C dX9_spreads_5 (n := 8) rfl (by decide) ?_
    refine dk_icmp_ge (t := 173) C dX9_spreads_8 (n := 11) rfl (by decide) (fun c22 => ?_) (fun c22 => ?_)
    · have h := h.1 c22
      refine dk_iload_n (i := 1) C dX9_spreads_173 (n := 174) rfl rfl rfl ?_
      exact dk_iret C hr hlk h.1 dX9_spreads_174 ⟨_, rfl, h.2⟩
    · have h := h.2 c22
      refine dk_aload_n (i := 0) C dX9_spreads_11 (n := 12) rfl rfl rfl ?_
      refine dk_iload_n (i := 2) C dX9_spreads_12 (n := 13) rfl rfl rfl ?_
      refine dk_callVi C [] (cc_X9_isFree C.D hmi h) yy_X9_isFree dk_wm_X9_174 dk_sh60 (hmi 60 (by decide) (by decide)) dX9_spreads_13 (fun r3 s2 h => ?_) rfl rfl ⟨Nat.le_of_ble_eq_true rfl, Nat.le_of_ble_eq_true rfl⟩ rfl (Nat.le_of_ble_eq_true rfl) rfl (n := 16) rfl
      refine dk_if_ne (t := 62) C dX9_spreads_16 (n := 19) rfl (by decide) (fun c21 => ?_) (fun c21 => ?_)
      · have h := h.1 c21
        refine dk_sub (L0 := [some (dk_r G 4 60), some (.int x1), some (.int x2), none, none, none, none]) ⟨rfl, ⟨rfl, ⟨rfl, trivial⟩⟩⟩ ?_
        exact ww_X9_spreads_62 C hr hlk hmi hB x1 x2 s2 h
      · have h := h.2 c21
        refine dk_aload_n (i := 0) C dX9_spreads_19 (n := 20) rfl rfl rfl ?_
        refine gf_X9_62 C (hmi 60 (by decide) (by decide)) dX9_spreads_20 (n := 23) rfl ?_
        refine dk_iload_n (i := 2) C dX9_spreads_23 (n := 24) rfl rfl rfl ?_
        refine dk_cald C dk_sh75 h.1 (hmi 75 (by decide) (by decide)) dX9_spreads_24 (n := 25) rfl ?_
        have h := h.2
        refine dk_bipush (v := 43) C dX9_spreads_25 (n := 27) rfl (by decide) ?_
        refine dk_icmp_eq (t := 62) C dX9_spreads_27 (n := 30) rfl (by decide) (fun c20 => ?_) (fun c20 => ?_)
        · have h := h.1 c20
          refine dk_sub (L0 := [some (dk_r G 4 60), some (.int x1), some (.int x2), none, none, none, none]) ⟨rfl, ⟨rfl, ⟨rfl, trivial⟩⟩⟩ ?_
          exact ww_X9_spreads_62 C hr hlk hmi hB x1 x2 s2 h
        · have h := h.2 c20
          refine dk_aload_n (i := 0) C dX9_spreads_30 (n := 31) rfl rfl rfl ?_
          refine gf_X9_62 C (hmi 60 (by decide) (by decide)) dX9_spreads_31 (n := 34) rfl ?_
          refine dk_iload_n (i := 2) C dX9_spreads_34 (n := 35) rfl rfl rfl ?_
          refine dk_cald C dk_sh75 h.1 (hmi 75 (by decide) (by decide)) dX9_spreads_35 (n := 36) rfl ?_
          have h := h.2
          refine dk_bipush (v := 48) C dX9_spreads_36 (n := 38) rfl (by decide) ?_
          refine dk_bipush (v := 50) C dX9_spreads_38 (n := 40) rfl (by decide) ?_
          refine dk_callSi C [] (cc_X9_in C.D  h) yy_X9_in dk_wm_X9_110 dX9_spreads_40 (fun r5 s4 h => ?_) rfl ⟨Nat.le_of_ble_eq_true rfl, Nat.le_of_ble_eq_true rfl⟩ rfl (Nat.le_of_ble_eq_true rfl) rfl (n := 43) rfl
          refine dk_if_eq (t := 66) C dX9_spreads_43 (n := 46) rfl (by decide) (fun c19 => ?_) (fun c19 => ?_)
          · have h := h.1 c19
            refine dk_iconst (v := 0) C dX9_spreads_66 (n := 67) rfl (by decide) ?_
            refine dk_istore_n (i := 3) (L' := [some (dk_r G 4 60), some (.int x1), some (.int x2), some (.int 0), none, none, none]) C dX9_spreads_67 (n := 68) rfl rfl (dk_nc_of rfl) (Nat.le_of_ble_eq_true rfl) rfl ?_
            refine dk_iconst (v := 0) C dX9_spreads_68 (n := 69) rfl (by decide) ?_
            refine dk_istore (i := 4) (L' := [some (dk_r G 4 60), some (.int x1), some (.int x2), some (.int 0), some (.int 0), none, none]) C dX9_spreads_69 (n := 71) rfl (dk_nc_of rfl) (Nat.le_of_ble_eq_true rfl) rfl ?_
            obtain ⟨nn10, h⟩ := h
            refine dk_sub (L0 := [some (dk_r G 4 60), some (.int x1), some (.int x2), some (.int 0), some (.int 0), none, none]) ⟨rfl, ⟨rfl, ⟨rfl, ⟨rfl, ⟨rfl, trivial⟩⟩⟩⟩⟩ ?_
            refine ww_X9_spreads_71 C hr hlk hmi (fun w6 w7 s8 h => ?_) nn10 x1 x2 0 0 s4 h
            · obtain ⟨v9, ev9⟩ : ∃ y : Int32, y = w7 + 1 := ⟨_, rfl⟩
              have h := h v9 ev9
              refine dk_iinc (i := 2) (v := v9) (L' := [some (dk_r G 4 60), some (.int w6), some (.int v9), none, none, none, none]) C dX9_spreads_167 (n := 170) rfl rfl (by rw [ev9]; rfl) (dk_nc_of rfl) (Nat.le_of_ble_eq_true rfl) rfl ?_
              refine dk_goto (t := 4) C dX9_spreads_170 (by decide) ?_
              refine dk_sub (L0 := [some (dk_r G 4 60), some (.int w6), some (.int v9), none, none, none, none]) ⟨rfl, ⟨rfl, ⟨rfl, trivial⟩⟩⟩ ?_
              exact hB w6 v9 s8 h
          · have h := h.2 c19
            refine dk_aload_n (i := 0) C dX9_spreads_46 (n := 47) rfl rfl rfl ?_
            refine dk_aload_n (i := 0) C dX9_spreads_47 (n := 48) rfl rfl rfl ?_
            refine gf_X9_62 C (hmi 60 (by decide) (by decide)) dX9_spreads_48 (n := 51) rfl ?_
            refine dk_iload_n (i := 2) C dX9_spreads_51 (n := 52) rfl rfl rfl ?_
            refine dk_cald C dk_sh75 h.1 (hmi 75 (by decide) (by decide)) dX9_spreads_52 (n := 53) rfl ?_
            have h := h.2
            refine dk_bipush (v := 48) C dX9_spreads_53 (n := 55) rfl (by decide) ?_
            refine dk_isub C dX9_spreads_55 (n := 56) rfl ?_
            refine dk_callVi C [] (cc_X9_hasFound C.D hmi h) yy_X9_hasFound dk_wm_X9_300 dk_sh60 (hmi 60 (by decide) (by decide)) dX9_spreads_56 (fun r12 s11 h => ?_) rfl rfl ⟨Nat.le_of_ble_eq_true rfl, Nat.le_of_ble_eq_true rfl⟩ rfl (Nat.le_of_ble_eq_true rfl) rfl (n := 59) rfl
            refine dk_if_eq (t := 66) C dX9_spreads_59 (n := 62) rfl (by decide) (fun c18 => ?_) (fun c18 => ?_)
            · have h := h.1 c18
              refine dk_iconst (v := 0) C dX9_spreads_66 (n := 67) rfl (by decide) ?_
              refine dk_istore_n (i := 3) (L' := [some (dk_r G 4 60), some (.int x1), some (.int x2), some (.int 0), none, none, none]) C dX9_spreads_67 (n := 68) rfl rfl (dk_nc_of rfl) (Nat.le_of_ble_eq_true rfl) rfl ?_
              refine dk_iconst (v := 0) C dX9_spreads_68 (n := 69) rfl (by decide) ?_
              refine dk_istore (i := 4) (L' := [some (dk_r G 4 60), some (.int x1), some (.int x2), some (.int 0), some (.int 0), none, none]) C dX9_spreads_69 (n := 71) rfl (dk_nc_of rfl) (Nat.le_of_ble_eq_true rfl) rfl ?_
              obtain ⟨nn17, h⟩ := h
              refine dk_sub (L0 := [some (dk_r G 4 60), some (.int x1), some (.int x2), some (.int 0), some (.int 0), none, none]) ⟨rfl, ⟨rfl, ⟨rfl, ⟨rfl, ⟨rfl, trivial⟩⟩⟩⟩⟩ ?_
              refine ww_X9_spreads_71 C hr hlk hmi (fun w13 w14 s15 h => ?_) nn17 x1 x2 0 0 s11 h
              · obtain ⟨v16, ev16⟩ : ∃ y : Int32, y = w14 + 1 := ⟨_, rfl⟩
                have h := h v16 ev16
                refine dk_iinc (i := 2) (v := v16) (L' := [some (dk_r G 4 60), some (.int w13), some (.int v16), none, none, none, none]) C dX9_spreads_167 (n := 170) rfl rfl (by rw [ev16]; rfl) (dk_nc_of rfl) (Nat.le_of_ble_eq_true rfl) rfl ?_
                refine dk_goto (t := 4) C dX9_spreads_170 (by decide) ?_
                refine dk_sub (L0 := [some (dk_r G 4 60), some (.int w13), some (.int v16), none, none, none, none]) ⟨rfl, ⟨rfl, ⟨rfl, trivial⟩⟩⟩ ?_
                exact hB w13 v16 s15 h
            · have h := h.2 c18
              refine dk_sub (L0 := [some (dk_r G 4 60), some (.int x1), some (.int x2), none, none, none, none]) ⟨rfl, ⟨rfl, ⟨rfl, trivial⟩⟩⟩ ?_
              exact ww_X9_spreads_62 C hr hlk hmi hB x1 x2 s11 h
set_option maxRecDepth 20000 in
set_option maxHeartbeats 4000000 in
theorem cc_X9_spreads {G : dk_G} {l : Launch}  (hD : dk_D G) (hmi : dk_MI G) {s : dk_S} {K : Int32 → dk_S → Prop} (h : wf_X9_spreads s K) : dk_M G l 4 yX9_spreads cX9_spreads 7 (some .boolean) [dk_r G 4 60] s (dk_ki K) := by
  refine dk_of hD (by decide) [some (dk_r G 4 60), none, none, none, none, none, none] (fun q hq => hq) rfl (Nat.le_of_ble_eq_true rfl) (fun P e S0 m args bel meth c C hr hlk => ?_)
  unfold wf_X9_spreads at h
  refine dk_iconst (v := 0) C dX9_spreads_0 (n := 1) rfl (by decide) ?_
  refine dk_istore_n (i := 1) (L' := [some (dk_r G 4 60), some (.int 0), none, none, none, none, none]) C dX9_spreads_1 (n := 2) rfl rfl (dk_nc_of rfl) (Nat.le_of_ble_eq_true rfl) rfl ?_
  refine dk_iconst (v := 0) C dX9_spreads_2 (n := 3) rfl (by decide) ?_
  refine dk_istore_n (i := 2) (L' := [some (dk_r G 4 60), some (.int 0), some (.int 0), none, none, none, none]) C dX9_spreads_3 (n := 4) rfl rfl (dk_nc_of rfl) (Nat.le_of_ble_eq_true rfl) rfl ?_
  obtain ⟨nn1, h⟩ := h
  refine dk_sub (L0 := [some (dk_r G 4 60), some (.int 0), some (.int 0), none, none, none, none]) ⟨rfl, ⟨rfl, ⟨rfl, trivial⟩⟩⟩ ?_
  refine ww_X9_spreads_4 C hr hlk hmi  nn1 0 0 s h
/-! X9_isReachable -/
set_option maxRecDepth 20000 in
set_option maxHeartbeats 4000000 in
theorem ww_X9_isReachable_71 {G : dk_G} {P : Program} {l : Launch} {e : Env} {S0 : State} {m : MethodId} {args : Array Value} {bel : List Frame} {meth : Method} {c : Code}  (C : dk_C G P (dk_rm 5) S0 m args c 0 0 cX9_isReachable 4 RX9) (hr : meth.sig.returnType = (some .boolean)) (hlk : meth.locks = false) (hmi : dk_MI G) {K : Int32 → dk_S → Prop} {E83 : Int32 → Int32 → dk_S → Prop} (hE83 : ∀ (x1 : Int32) (x2 : Int32) (s : dk_S), E83 x1 x2 s → dk_W G P l e (dk_rm 5) S0 m args bel meth c 0 0 (MQ bel (dk_Qc G (dk_ki K)) args S0 0 0 (dk_A G)) 83 [some (dk_r G 4 60), some (.int x1), some (.int x2), none] [] s) : ∀ (n : Nat) (x1 : Int32) (x2 : Int32) (x3 : Int32) (s : dk_S), wf_X9_isReachable_71 K E83 n x1 x2 x3 s → dk_W G P l e (dk_rm 5) S0 m args bel meth c 0 0 (MQ bel (dk_Qc G (dk_ki K)) args S0 0 0 (dk_A G)) 71 [some (dk_r G 4 60), some (.int x1), some (.int x2), some (.int x3)] [] s := by
  intro n
  induction n with
  | zero => intro x1 x2 x3 s h; exact False.elim h
  | succ n hB =>
    intro x1 x2 x3 s h
    unfold wf_X9_isReachable_71 at h
    refine dk_iload_n (i := 3) C dX9_isReachable_71 (n := 72) rfl rfl rfl ?_
    refine dk_if_eq (t := 83) C dX9_isReachable_72 (n := 75) rfl (by decide) (fun c22 => ?_) (fun c22 => ?_)
    · have h := h.1 c22
      refine dk_sub (L0 := [some (dk_r G 4 60), some (.int x1), some (.int x2), none]) ⟨rfl, ⟨rfl, ⟨rfl, trivial⟩⟩⟩ ?_
      exact hE83 x1 x2 s h
    · have h := h.2 c22
      refine dk_aload_n (i := 0) C dX9_isReachable_75 (n := 76) rfl rfl rfl ?_
      refine dk_callVi C [] (cc_X9_spreads C.D hmi h) yy_X9_spreads dk_wm_X9_303 dk_sh60 (hmi 60 (by decide) (by decide)) dX9_isReachable_76 (fun r21 s20 h => ?_) rfl rfl ⟨Nat.le_of_ble_eq_true rfl, Nat.le_of_ble_eq_true rfl⟩ rfl (Nat.le_of_ble_eq_true rfl) rfl (n := 79) rfl
      refine dk_istore_n (i := 3) (L' := [some (dk_r G 4 60), some (.int x1), some (.int x2), some (.int r21)]) C dX9_isReachable_79 (n := 80) rfl rfl (dk_nc_of rfl) (Nat.le_of_ble_eq_true rfl) rfl ?_
      refine dk_goto (t := 71) C dX9_isReachable_80 (by decide) ?_
      refine dk_sub (L0 := [some (dk_r G 4 60), some (.int x1), some (.int x2), some (.int r21)]) ⟨rfl, ⟨rfl, ⟨rfl, ⟨rfl, trivial⟩⟩⟩⟩ ?_
      exact hB x1 x2 r21 s20 h
set_option maxRecDepth 20000 in
set_option maxHeartbeats 4000000 in
theorem ww_X9_isReachable_35 {G : dk_G} {P : Program} {l : Launch} {e : Env} {S0 : State} {m : MethodId} {args : Array Value} {bel : List Frame} {meth : Method} {c : Code}  (C : dk_C G P (dk_rm 5) S0 m args c 0 0 cX9_isReachable 4 RX9) (hr : meth.sig.returnType = (some .boolean)) (hlk : meth.locks = false) (hmi : dk_MI G) {K : Int32 → dk_S → Prop} {E69 : Int32 → Int32 → dk_S → Prop} (hE69 : ∀ (x1 : Int32) (x2 : Int32) (s : dk_S), E69 x1 x2 s → dk_W G P l e (dk_rm 5) S0 m args bel meth c 0 0 (MQ bel (dk_Qc G (dk_ki K)) args S0 0 0 (dk_A G)) 69 [some (dk_r G 4 60), some (.int x1), some (.int x2), none] [] s) : ∀ (n : Nat) (x1 : Int32) (x2 : Int32) (x3 : Int32) (s : dk_S), wf_X9_isReachable_35 K E69 n x1 x2 x3 s → dk_W G P l e (dk_rm 5) S0 m args bel meth c 0 0 (MQ bel (dk_Qc G (dk_ki K)) args S0 0 0 (dk_A G)) 35 [some (dk_r G 4 60), some (.int x1), some (.int x2), some (.int x3)] [] s := by
  intro n
  induction n with
  | zero => intro x1 x2 x3 s h; exact False.elim h
  | succ n hB =>
    intro x1 x2 x3 s h
    unfold wf_X9_isReachable_35 at h
    refine dk_iload_n (i := 3) C dX9_isReachable_35 (n := 36) rfl rfl rfl ?_
    refine dk_sipush (v := 144) C dX9_isReachable_36 (n := 39) rfl (by decide) ?_
    refine dk_icmp_ge (t := 69) C dX9_isReachable_39 (n := 42) rfl (by decide) (fun c28 => ?_) (fun c28 => ?_)
    · have h := h.1 c28
      refine dk_sub (L0 := [some (dk_r G 4 60), some (.int x1), some (.int x2), none]) ⟨rfl, ⟨rfl, ⟨rfl, trivial⟩⟩⟩ ?_
      exact hE69 x1 x2 s h
    · have h := h.2 c28
      refine dk_aload_n (i := 0) C dX9_isReachable_42 (n := 43) rfl rfl rfl ?_
      refine gf_X9_101 C (hmi 60 (by decide) (by decide)) dX9_isReachable_43 (n := 46) rfl ?_
      refine dk_iload_n (i := 3) C dX9_isReachable_46 (n := 47) rfl rfl rfl ?_
      refine dk_iload_n (i := 3) C dX9_isReachable_47 (n := 48) rfl rfl rfl ?_
      refine dk_aload_n (i := 0) C dX9_isReachable_48 (n := 49) rfl rfl rfl ?_
      refine gf_X9_65 C (hmi 60 (by decide) (by decide)) dX9_isReachable_49 (n := 52) rfl ?_
      refine dk_iconst (v := 0) C dX9_isReachable_52 (n := 53) rfl (by decide) ?_
      refine dk_iald C dk_sh76 h.1 (hmi 76 (by decide) (by decide)) dX9_isReachable_53 (n := 54) rfl ?_
      have h := h.2
      refine dk_icmp_ne (t := 61) C dX9_isReachable_54 (n := 57) rfl (by decide) (fun c27 => ?_) (fun c27 => ?_)
      · have h := h.1 c27
        refine dk_iconst (v := 0) C dX9_isReachable_61 (n := 62) rfl (by decide) ?_
        refine dk_zast C dk_sh87 h.1 (hmi 87 (by decide) (by decide)) dX9_isReachable_62 (n := 63) rfl ?_
        refine dk_nameS (fun s23 es23 => ?_)
        have h := h.2 s23 es23
        obtain ⟨v24, ev24⟩ : ∃ y : Int32, y = x3 + 1 := ⟨_, rfl⟩
        have h := h v24 ev24
        refine dk_iinc (i := 3) (v := v24) (L' := [some (dk_r G 4 60), some (.int x1), some (.int x2), some (.int v24)]) C dX9_isReachable_63 (n := 66) rfl rfl (by rw [ev24]; rfl) (dk_nc_of rfl) (Nat.le_of_ble_eq_true rfl) rfl ?_
        refine dk_goto (t := 35) C dX9_isReachable_66 (by decide) ?_
        refine dk_sub (L0 := [some (dk_r G 4 60), some (.int x1), some (.int x2), some (.int v24)]) ⟨rfl, ⟨rfl, ⟨rfl, ⟨rfl, trivial⟩⟩⟩⟩ ?_
        exact hB x1 x2 v24 s23 h
      · have h := h.2 c27
        refine dk_iconst (v := 1) C dX9_isReachable_57 (n := 58) rfl (by decide) ?_
        refine dk_goto (t := 62) C dX9_isReachable_58 (by decide) ?_
        refine dk_zast C dk_sh87 h.1 (hmi 87 (by decide) (by decide)) dX9_isReachable_62 (n := 63) rfl ?_
        refine dk_nameS (fun s25 es25 => ?_)
        have h := h.2 s25 es25
        obtain ⟨v26, ev26⟩ : ∃ y : Int32, y = x3 + 1 := ⟨_, rfl⟩
        have h := h v26 ev26
        refine dk_iinc (i := 3) (v := v26) (L' := [some (dk_r G 4 60), some (.int x1), some (.int x2), some (.int v26)]) C dX9_isReachable_63 (n := 66) rfl rfl (by rw [ev26]; rfl) (dk_nc_of rfl) (Nat.le_of_ble_eq_true rfl) rfl ?_
        refine dk_goto (t := 35) C dX9_isReachable_66 (by decide) ?_
        refine dk_sub (L0 := [some (dk_r G 4 60), some (.int x1), some (.int x2), some (.int v26)]) ⟨rfl, ⟨rfl, ⟨rfl, ⟨rfl, trivial⟩⟩⟩⟩ ?_
        exact hB x1 x2 v26 s25 h
set_option maxRecDepth 20000 in
set_option maxHeartbeats 4000000 in
theorem ww_X9_isReachable_25 {G : dk_G} {P : Program} {l : Launch} {e : Env} {S0 : State} {m : MethodId} {args : Array Value} {bel : List Frame} {meth : Method} {c : Code}  (C : dk_C G P (dk_rm 5) S0 m args c 0 0 cX9_isReachable 4 RX9) (hr : meth.sig.returnType = (some .boolean)) (hlk : meth.locks = false) (hmi : dk_MI G) {K : Int32 → dk_S → Prop}  : ∀ (x1 : Int32) (x2 : Int32) (y0 : Int32) (s : dk_S), wf_X9_isReachable_25 K x1 x2 y0 s → dk_W G P l e (dk_rm 5) S0 m args bel meth c 0 0 (MQ bel (dk_Qc G (dk_ki K)) args S0 0 0 (dk_A G)) 25 [some (dk_r G 4 60), some (.int x1), some (.int x2), none] [.int y0, dk_r G 4 60] s := by
  intro x1 x2 y0 s h
  unfold wf_X9_isReachable_25 at h
  refine dk_callVi C [] (cc_X9_goesOn C.D hmi h) yy_X9_goesOn dk_wm_X9_149 dk_sh60 (hmi 60 (by decide) (by decide)) dX9_isReachable_25 (fun r8 s7 h => ?_) rfl rfl ⟨Nat.le_of_ble_eq_true rfl, Nat.le_of_ble_eq_true rfl⟩ rfl (Nat.le_of_ble_eq_true rfl) rfl (n := 28) rfl
  refine dk_if_ne (t := 33) C dX9_isReachable_28 (n := 31) rfl (by decide) (fun c19 => ?_) (fun c19 => ?_)
  · have h := h.1 c19
    refine dk_iconst (v := 0) C dX9_isReachable_33 (n := 34) rfl (by decide) ?_
    refine dk_istore_n (i := 3) (L' := [some (dk_r G 4 60), some (.int x1), some (.int x2), some (.int 0)]) C dX9_isReachable_34 (n := 35) rfl rfl (dk_nc_of rfl) (Nat.le_of_ble_eq_true rfl) rfl ?_
    obtain ⟨nn18, h⟩ := h
    refine dk_sub (L0 := [some (dk_r G 4 60), some (.int x1), some (.int x2), some (.int 0)]) ⟨rfl, ⟨rfl, ⟨rfl, ⟨rfl, trivial⟩⟩⟩⟩ ?_
    refine ww_X9_isReachable_35 C hr hlk hmi (fun w9 w10 s11 h => ?_) nn18 x1 x2 0 s7 h
    · refine dk_iconst (v := 1) C dX9_isReachable_69 (n := 70) rfl (by decide) ?_
      refine dk_istore_n (i := 3) (L' := [some (dk_r G 4 60), some (.int w9), some (.int w10), some (.int 1)]) C dX9_isReachable_70 (n := 71) rfl rfl (dk_nc_of rfl) (Nat.le_of_ble_eq_true rfl) rfl ?_
      obtain ⟨nn17, h⟩ := h
      refine dk_sub (L0 := [some (dk_r G 4 60), some (.int w9), some (.int w10), some (.int 1)]) ⟨rfl, ⟨rfl, ⟨rfl, ⟨rfl, trivial⟩⟩⟩⟩ ?_
      refine ww_X9_isReachable_71 C hr hlk hmi (fun w12 w13 s14 h => ?_) nn17 w9 w10 1 s11 h
      · refine dk_aload_n (i := 0) C dX9_isReachable_83 (n := 84) rfl rfl rfl ?_
        refine gf_X9_101 C (hmi 60 (by decide) (by decide)) dX9_isReachable_84 (n := 87) rfl ?_
        refine dk_iload_n (i := 1) C dX9_isReachable_87 (n := 88) rfl rfl rfl ?_
        refine dk_iload_n (i := 2) C dX9_isReachable_88 (n := 89) rfl rfl rfl ?_
        refine dk_callSi C [dk_r G 4 87] (cc_X9_at C.D  h) yy_X9_at dk_wm_X9_125 dX9_isReachable_89 (fun r16 s15 h => ?_) rfl ⟨Nat.le_of_ble_eq_true rfl, Nat.le_of_ble_eq_true rfl⟩ rfl (Nat.le_of_ble_eq_true rfl) rfl (n := 92) rfl
        refine dk_zald C dk_sh87 h.1 (hmi 87 (by decide) (by decide)) dX9_isReachable_92 (n := 93) rfl ?_
        have h := h.2
        exact dk_iret C hr hlk h.1 dX9_isReachable_93 ⟨_, rfl, h.2⟩
  · have h := h.2 c19
    refine dk_iconst (v := 0) C dX9_isReachable_31 (n := 32) rfl (by decide) ?_
    exact dk_iret C hr hlk dk_nz0 dX9_isReachable_32 ⟨_, rfl, h⟩
set_option maxRecDepth 20000 in
set_option maxHeartbeats 4000000 in
theorem cc_X9_isReachable {G : dk_G} {l : Launch} {a1 : Int32} {a2 : Int32} (hD : dk_D G) (hmi : dk_MI G) {s : dk_S} {K : Int32 → dk_S → Prop} (h : wf_X9_isReachable a1 a2 s K) : dk_M G l 5 yX9_isReachable cX9_isReachable 4 (some .boolean) [dk_r G 4 60, .int a1, .int a2] s (dk_ki K) := by
  refine dk_of hD (by decide) [some (dk_r G 4 60), some (.int a1), some (.int a2), none] (fun q hq => hq) rfl (Nat.le_of_ble_eq_true rfl) (fun P e S0 m args bel meth c C hr hlk => ?_)
  unfold wf_X9_isReachable at h
  refine dk_aload_n (i := 0) C dX9_isReachable_0 (n := 1) rfl rfl rfl ?_
  refine dk_iload_n (i := 1) C dX9_isReachable_1 (n := 2) rfl rfl rfl ?_
  refine dk_iload_n (i := 2) C dX9_isReachable_2 (n := 3) rfl rfl rfl ?_
  refine dk_callSi C [dk_r G 4 60] (cc_X9_isPlace C.D  h) yy_X9_isPlace dk_wm_X9_121 dX9_isReachable_3 (fun r2 s1 h => ?_) rfl ⟨Nat.le_of_ble_eq_true rfl, Nat.le_of_ble_eq_true rfl⟩ rfl (Nat.le_of_ble_eq_true rfl) rfl (n := 6) rfl
  refine dk_if_ne (t := 13) C dX9_isReachable_6 (n := 9) rfl (by decide) (fun c6 => ?_) (fun c6 => ?_)
  · have h := h.1 c6
    refine dk_aload_n (i := 0) C dX9_isReachable_13 (n := 14) rfl rfl rfl ?_
    refine dk_callVi C [dk_r G 4 60] (cc_X9_isOn C.D hmi h) yy_X9_isOn dk_wm_X9_145 dk_sh60 (hmi 60 (by decide) (by decide)) dX9_isReachable_14 (fun r4 s3 h => ?_) rfl rfl ⟨Nat.le_of_ble_eq_true rfl, Nat.le_of_ble_eq_true rfl⟩ rfl (Nat.le_of_ble_eq_true rfl) rfl (n := 17) rfl
    refine dk_if_ne (t := 24) C dX9_isReachable_17 (n := 20) rfl (by decide) (fun c5 => ?_) (fun c5 => ?_)
    · have h := h.1 c5
      refine dk_iconst (v := 0) C dX9_isReachable_24 (n := 25) rfl (by decide) ?_
      refine dk_sub (L0 := [some (dk_r G 4 60), some (.int a1), some (.int a2), none]) ⟨rfl, ⟨rfl, ⟨rfl, trivial⟩⟩⟩ ?_
      exact ww_X9_isReachable_25 C hr hlk hmi  a1 a2 0 s3 h
    · have h := h.2 c5
      refine dk_iconst (v := 2) C dX9_isReachable_20 (n := 21) rfl (by decide) ?_
      refine dk_goto (t := 25) C dX9_isReachable_21 (by decide) ?_
      refine dk_sub (L0 := [some (dk_r G 4 60), some (.int a1), some (.int a2), none]) ⟨rfl, ⟨rfl, ⟨rfl, trivial⟩⟩⟩ ?_
      exact ww_X9_isReachable_25 C hr hlk hmi  a1 a2 2 s3 h
  · have h := h.2 c6
    refine dk_iconst (v := 1) C dX9_isReachable_9 (n := 10) rfl (by decide) ?_
    refine dk_goto (t := 25) C dX9_isReachable_10 (by decide) ?_
    refine dk_sub (L0 := [some (dk_r G 4 60), some (.int a1), some (.int a2), none]) ⟨rfl, ⟨rfl, ⟨rfl, trivial⟩⟩⟩ ?_
    exact ww_X9_isReachable_25 C hr hlk hmi  a1 a2 1 s1 h
/-! X9_isSame -/
set_option maxRecDepth 20000 in
set_option maxHeartbeats 4000000 in
theorem cc_X9_isSame {G : dk_G} {l : Launch}  (hD : dk_D G) (hmi : dk_MI G) {s : dk_S} {K : Int32 → dk_S → Prop} (h : wf_X9_isSame s K) : dk_M G l 2 yX9_isSame cX9_isSame 1 (some .boolean) [dk_r G 4 60] s (dk_ki K) := by
  refine dk_of hD (by decide) [some (dk_r G 4 60)] (fun q hq => hq) rfl (Nat.le_of_ble_eq_true rfl) (fun P e S0 m args bel meth c C hr hlk => ?_)
  unfold wf_X9_isSame at h
  refine dk_aload_n (i := 0) C dX9_isSame_0 (n := 1) rfl rfl rfl ?_
  refine dk_aload_n (i := 0) C dX9_isSame_1 (n := 2) rfl rfl rfl ?_
  refine gf_X9_7 C (hmi 60 (by decide) (by decide)) dX9_isSame_2 (n := 5) rfl ?_
  refine dk_bipush (v := 110) C dX9_isSame_5 (n := 7) rfl (by decide) ?_
  refine dk_icmp_ne (t := 14) C dX9_isSame_7 (n := 10) rfl (by decide) (fun c5 => ?_) (fun c5 => ?_)
  · have h := h.1 c5
    refine dk_iconst (v := 0) C dX9_isSame_14 (n := 15) rfl (by decide) ?_
    refine dk_callVi C [] (cc_X9_goesOn C.D hmi h) yy_X9_goesOn dk_wm_X9_149 dk_sh60 (hmi 60 (by decide) (by decide)) dX9_isSame_15 (fun r2 s1 h => ?_) rfl rfl ⟨Nat.le_of_ble_eq_true rfl, Nat.le_of_ble_eq_true rfl⟩ rfl (Nat.le_of_ble_eq_true rfl) rfl (n := 18) rfl
    exact dk_iret C hr hlk h.1 dX9_isSame_18 ⟨_, rfl, h.2⟩
  · have h := h.2 c5
    refine dk_iconst (v := 1) C dX9_isSame_10 (n := 11) rfl (by decide) ?_
    refine dk_goto (t := 15) C dX9_isSame_11 (by decide) ?_
    refine dk_callVi C [] (cc_X9_goesOn C.D hmi h) yy_X9_goesOn dk_wm_X9_149 dk_sh60 (hmi 60 (by decide) (by decide)) dX9_isSame_15 (fun r4 s3 h => ?_) rfl rfl ⟨Nat.le_of_ble_eq_true rfl, Nat.le_of_ble_eq_true rfl⟩ rfl (Nat.le_of_ble_eq_true rfl) rfl (n := 18) rfl
    exact dk_iret C hr hlk h.1 dX9_isSame_18 ⟨_, rfl, h.2⟩
