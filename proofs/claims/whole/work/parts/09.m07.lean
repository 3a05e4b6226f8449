/-! X9_burns -/
set_option maxRecDepth 20000 in
set_option maxHeartbeats 4000000 in
theorem ww_X9_burns_65 {G : dk_G} {P : Program} {l : Launch} {e : Env} {S0 : State} {m : MethodId} {args : Array Value} {bel : List Frame} {meth : Method} {c : Code}  (C : dk_C G P (dk_rm 3) S0 m args c 0 0 cX9_burns 6 RX9) (hr : meth.sig.returnType = none) (hlk : meth.locks = false) (hmi : dk_MI G) {K : dk_S → Prop} {E117 : Int32 → Int32 → Int32 → dk_S → Prop} (hE117 : ∀ (x1 : Int32) (x2 : Int32) (x3 : Int32) (s : dk_S), E117 x1 x2 x3 s → dk_W G P l e (dk_rm 3) S0 m args bel meth c 0 0 (MQ bel (dk_Qc G (dk_kv K)) args S0 0 0 (dk_A G)) 117 [some (dk_r G 4 60), some (.int x1), some (.int x2), some (.int x3), none, none] [] s) : ∀ (n : Nat) (x1 : Int32) (x2 : Int32) (x3 : Int32) (x5 : Int32) (s : dk_S), wf_X9_burns_65 K E117 n x1 x2 x3 x5 s → dk_W G P l e (dk_rm 3) S0 m args bel meth c 0 0 (MQ bel (dk_Qc G (dk_kv K)) args S0 0 0 (dk_A G)) 65 [some (dk_r G 4 60), some (.int x1), some (.int x2), some (.int x3), none, some (.int x5)] [] s := by
  intro n
  induction n with
  | zero => intro x1 x2 x3 x5 s h; exact False.elim h
  | succ n hB =>
    intro x1 x2 x3 x5 s h
    unfold wf_X9_burns_65 at h
    refine dk_iload C dX9_burns_65 (n := 67) rfl (i := 5) rfl ?_
    refine dk_aload_n (i := 0) C dX9_burns_67 (n := 68) rfl rfl rfl ?_
    refine gf_X9_162 C (hmi 60 (by decide) (by decide)) dX9_burns_68 (n := 71) rfl ?_
    refine dk_icmp_ge (t := 117) C dX9_burns_71 (n := 74) rfl (by decide) (fun c22 => ?_) (fun c22 => ?_)
    · have h := h.1 c22
      refine dk_sub (L0 := [some (dk_r G 4 60), some (.int x1), some (.int x2), some (.int x3), none, none]) ⟨rfl, ⟨rfl, ⟨rfl, ⟨rfl, trivial⟩⟩⟩⟩ ?_
      exact hE117 x1 x2 x3 s h
    · have h := h.2 c22
      refine dk_aload_n (i := 0) C dX9_burns_74 (n := 75) rfl rfl rfl ?_
      refine gf_X9_83 C (hmi 60 (by decide) (by decide)) dX9_burns_75 (n := 78) rfl ?_
      refine dk_iload C dX9_burns_78 (n := 80) rfl (i := 5) rfl ?_
      refine dk_aload_n (i := 0) C dX9_burns_80 (n := 81) rfl rfl rfl ?_
      refine gf_X9_83 C (hmi 60 (by decide) (by decide)) dX9_burns_81 (n := 84) rfl ?_
      refine dk_iload C dX9_burns_84 (n := 86) rfl (i := 5) rfl ?_
      refine dk_iald C dk_sh82 h.1 (hmi 82 (by decide) (by decide)) dX9_burns_86 (n := 87) rfl ?_
      have h := h.2
      refine dk_bipush (v := (-3)) C dX9_burns_87 (n := 89) rfl (by decide) ?_
      refine dk_iload_n (i := 3) C dX9_burns_89 (n := 90) rfl rfl rfl ?_
      refine dk_isub C dX9_burns_90 (n := 91) rfl ?_
      refine dk_icmp_ne (t := 103) C dX9_burns_91 (n := 94) rfl (by decide) (fun c21 => ?_) (fun c21 => ?_)
      · have h := h.1 c21
        refine dk_aload_n (i := 0) C dX9_burns_103 (n := 104) rfl rfl rfl ?_
        refine gf_X9_83 C (hmi 60 (by decide) (by decide)) dX9_burns_104 (n := 107) rfl ?_
        refine dk_iload C dX9_burns_107 (n := 109) rfl (i := 5) rfl ?_
        refine dk_iald C dk_sh82 h.1 (hmi 82 (by decide) (by decide)) dX9_burns_109 (n := 110) rfl ?_
        have h := h.2
        refine dk_iast C dk_sh82 h.1 (hmi 82 (by decide) (by decide)) dX9_burns_110 (n := 111) rfl ?_
        refine dk_nameS (fun s17 es17 => ?_)
        have h := h.2 s17 es17
        obtain ⟨v18, ev18⟩ : ∃ y : Int32, y = x5 + 1 := ⟨_, rfl⟩
        have h := h v18 ev18
        refine dk_iinc (i := 5) (v := v18) (L' := [some (dk_r G 4 60), some (.int x1), some (.int x2), some (.int x3), none, some (.int v18)]) C dX9_burns_111 (n := 114) rfl rfl (by rw [ev18]; rfl) (dk_nc_of rfl) (Nat.le_of_ble_eq_true rfl) rfl ?_
        refine dk_goto (t := 65) C dX9_burns_114 (by decide) ?_
        refine dk_sub (L0 := [some (dk_r G 4 60), some (.int x1), some (.int x2), some (.int x3), none, some (.int v18)]) ⟨rfl, ⟨rfl, ⟨rfl, ⟨rfl, ⟨rfl, trivial⟩⟩⟩⟩⟩ ?_
        exact hB x1 x2 x3 v18 s17 h
      · have h := h.2 c21
        refine dk_aload_n (i := 0) C dX9_burns_94 (n := 95) rfl rfl rfl ?_
        refine gf_X9_83 C (hmi 60 (by decide) (by decide)) dX9_burns_95 (n := 98) rfl ?_
        refine dk_iload_n (i := 3) C dX9_burns_98 (n := 99) rfl rfl rfl ?_
        refine dk_iald C dk_sh82 h.1 (hmi 82 (by decide) (by decide)) dX9_burns_99 (n := 100) rfl ?_
        have h := h.2
        refine dk_goto (t := 110) C dX9_burns_100 (by decide) ?_
        refine dk_iast C dk_sh82 h.1 (hmi 82 (by decide) (by decide)) dX9_burns_110 (n := 111) rfl ?_
        refine dk_nameS (fun s19 es19 => ?_)
        have h := h.2 s19 es19
        obtain ⟨v20, ev20⟩ : ∃ y : Int32, y = x5 + 1 := ⟨_, rfl⟩
        have h := h v20 ev20
        refine dk_iinc (i := 5) (v := v20) (L' := [some (dk_r G 4 60), some (.int x1), some (.int x2), some (.int x3), none, some (.int v20)]) C dX9_burns_111 (n := 114) rfl rfl (by rw [ev20]; rfl) (dk_nc_of rfl) (Nat.le_of_ble_eq_true rfl) rfl ?_
        refine dk_goto (t := 65) C dX9_burns_114 (by decide) ?_
        refine dk_sub (L0 := [some (dk_r G 4 60), some (.int x1), some (.int x2), some (.int x3), none, some (.int v20)]) ⟨rfl, ⟨rfl, ⟨rfl, ⟨rfl, ⟨rfl, trivial⟩⟩⟩⟩⟩ ?_
        exact hB x1 x2 x3 v20 s19 h
set_option maxRecDepth 20000 in
set_option maxHeartbeats 4000000 in
theorem ww_X9_burns_52 {G : dk_G} {P : Program} {l : Launch} {e : Env} {S0 : State} {m : MethodId} {args : Array Value} {bel : List Frame} {meth : Method} {c : Code}  (C : dk_C G P (dk_rm 3) S0 m args c 0 0 cX9_burns 6 RX9) (hr : meth.sig.returnType = none) (hlk : meth.locks = false) (hmi : dk_MI G) {K : dk_S → Prop} {B : Int32 → Int32 → Int32 → dk_S → Prop} (hB : ∀ (x1 : Int32) (x2 : Int32) (x3 : Int32) (s : dk_S), B x1 x2 x3 s → dk_W G P l e (dk_rm 3) S0 m args bel meth c 0 0 (MQ bel (dk_Qc G (dk_kv K)) args S0 0 0 (dk_A G)) 2 [some (dk_r G 4 60), some (.int x1), some (.int x2), some (.int x3), none, none] [] s)  : ∀ (x1 : Int32) (x2 : Int32) (x3 : Int32) (y0 : Int32) (s : dk_S), wf_X9_burns_52 K B x1 x2 x3 y0 s → dk_W G P l e (dk_rm 3) S0 m args bel meth c 0 0 (MQ bel (dk_Qc G (dk_kv K)) args S0 0 0 (dk_A G)) 52 [some (dk_r G 4 60), some (.int x1), some (.int x2), some (.int x3), none, none] [.int y0] s := by
  intro x1 x2 x3 y0 s h
  unfold wf_X9_burns_52 at h
  refine dk_istore (i := 4) (L' := [some (dk_r G 4 60), some (.int x1), some (.int x2), some (.int x3), some (.int y0), none]) C dX9_burns_52 (n := 54) rfl (dk_nc_of rfl) (Nat.le_of_ble_eq_true rfl) rfl ?_
  refine dk_iload C dX9_burns_54 (n := 56) rfl (i := 4) rfl ?_
  refine dk_if_ne (t := 62) C dX9_burns_56 (n := 59) rfl (by decide) (fun c16 => ?_) (fun c16 => ?_)
  · have h := h.1 c16
    refine dk_iconst (v := 0) C dX9_burns_62 (n := 63) rfl (by decide) ?_
    refine dk_istore (i := 5) (L' := [some (dk_r G 4 60), some (.int x1), some (.int x2), some (.int x3), some (.int y0), some (.int 0)]) C dX9_burns_63 (n := 65) rfl (dk_nc_of rfl) (Nat.le_of_ble_eq_true rfl) rfl ?_
    obtain ⟨nn14, h⟩ := h
    refine dk_sub (L0 := [some (dk_r G 4 60), some (.int x1), some (.int x2), some (.int x3), none, some (.int 0)]) ⟨rfl, ⟨rfl, ⟨rfl, ⟨rfl, ⟨rfl, trivial⟩⟩⟩⟩⟩ ?_
    refine ww_X9_burns_65 C hr hlk hmi (fun w8 w9 w10 s11 h => ?_) nn14 x1 x2 x3 0 s h
    · refine dk_aload_n (i := 0) C dX9_burns_117 (n := 118) rfl rfl rfl ?_
      refine gf_X9_83 C (hmi 60 (by decide) (by decide)) dX9_burns_118 (n := 121) rfl ?_
      refine dk_iload_n (i := 3) C dX9_burns_121 (n := 122) rfl rfl rfl ?_
      refine dk_bipush (v := (-2)) C dX9_burns_122 (n := 124) rfl (by decide) ?_
      refine dk_iast C dk_sh82 h.1 (hmi 82 (by decide) (by decide)) dX9_burns_124 (n := 125) rfl ?_
      refine dk_nameS (fun s12 es12 => ?_)
      have h := h.2 s12 es12
      obtain ⟨v13, ev13⟩ : ∃ y : Int32, y = w10 + 1 := ⟨_, rfl⟩
      have h := h v13 ev13
      refine dk_iinc (i := 3) (v := v13) (L' := [some (dk_r G 4 60), some (.int w8), some (.int w9), some (.int v13), none, none]) C dX9_burns_125 (n := 128) rfl rfl (by rw [ev13]; rfl) (dk_nc_of rfl) (Nat.le_of_ble_eq_true rfl) rfl ?_
      refine dk_goto (t := 2) C dX9_burns_128 (by decide) ?_
      refine dk_sub (L0 := [some (dk_r G 4 60), some (.int w8), some (.int w9), some (.int v13), none, none]) ⟨rfl, ⟨rfl, ⟨rfl, ⟨rfl, trivial⟩⟩⟩⟩ ?_
      exact hB w8 w9 v13 s12 h
  · have h := h.2 c16
    refine dk_goto (t := 125) C dX9_burns_59 (by decide) ?_
    obtain ⟨v15, ev15⟩ : ∃ y : Int32, y = x3 + 1 := ⟨_, rfl⟩
    have h := h v15 ev15
    refine dk_iinc (i := 3) (v := v15) (L' := [some (dk_r G 4 60), some (.int x1), some (.int x2), some (.int v15), some (.int y0), none]) C dX9_burns_125 (n := 128) rfl rfl (by rw [ev15]; rfl) (dk_nc_of rfl) (Nat.le_of_ble_eq_true rfl) rfl ?_
    refine dk_goto (t := 2) C dX9_burns_128 (by decide) ?_
    refine dk_sub (L0 := [some (dk_r G 4 60), some (.int x1), some (.int x2), some (.int v15), none, none]) ⟨rfl, ⟨rfl, ⟨rfl, ⟨rfl, trivial⟩⟩⟩⟩ ?_
    exact hB x1 x2 v15 s h
set_option maxRecDepth 20000 in
set_option maxHeartbeats 4000000 in
theorem ww_X9_burns_2 {G : dk_G} {P : Program} {l : Launch} {e : Env} {S0 : State} {m : MethodId} {args : Array Value} {bel : List Frame} {meth : Method} {c : Code}  (C : dk_C G P (dk_rm 3) S0 m args c 0 0 cX9_burns 6 RX9) (hr : meth.sig.returnType = none) (hlk : meth.locks = false) (hmi : dk_MI G) {K : dk_S → Prop}  : ∀ (n : Nat) (x1 : Int32) (x2 : Int32) (x3 : Int32) (s : dk_S), wf_X9_burns_2 K n x1 x2 x3 s → dk_W G P l e (dk_rm 3) S0 m args bel meth c 0 0 (MQ bel (dk_Qc G (dk_kv K)) args S0 0 0 (dk_A G)) 2 [some (dk_r G 4 60), some (.int x1), some (.int x2), some (.int x3), none, none] [] s := by
  intro n
  induction n with
  | zero => intro x1 x2 x3 s h; exact False.elim h
  | succ n hB =>
    intro x1 x2 x3 s h
    unfold wf_X9_burns_2 at h
    refine dk_iload_n (i := 3) C dX9_burns_2 (n := 3) rfl rfl rfl ?_
    refine dk_aload_n (i := 0) C dX9_burns_3 (n := 4) rfl rfl rfl ?_
    refine gf_X9_162 C (hmi 60 (by decide) (by decide)) dX9_burns_4 (n := 7) rfl ?_
    refine dk_icmp_ge (t := 131) C dX9_burns_7 (n := 10) rfl (by decide) (fun c7 => ?_) (fun c7 => ?_)
    · have h := h.1 c7
      exact dk_vret C hr hlk dX9_burns_131 ⟨rfl, h⟩
    · have h := h.2 c7
      refine dk_aload_n (i := 0) C dX9_burns_10 (n := 11) rfl rfl rfl ?_
      refine gf_X9_83 C (hmi 60 (by decide) (by decide)) dX9_burns_11 (n := 14) rfl ?_
      refine dk_iload_n (i := 3) C dX9_burns_14 (n := 15) rfl rfl rfl ?_
      refine dk_iald C dk_sh82 h.1 (hmi 82 (by decide) (by decide)) dX9_burns_15 (n := 16) rfl ?_
      have h := h.2
      refine dk_if_lt (t := 51) C dX9_burns_16 (n := 19) rfl (by decide) (fun c6 => ?_) (fun c6 => ?_)
      · have h := h.1 c6
        refine dk_iconst (v := 0) C dX9_burns_51 (n := 52) rfl (by decide) ?_
        refine dk_sub (L0 := [some (dk_r G 4 60), some (.int x1), some (.int x2), some (.int x3), none, none]) ⟨rfl, ⟨rfl, ⟨rfl, ⟨rfl, trivial⟩⟩⟩⟩ ?_
        exact ww_X9_burns_52 C hr hlk hmi hB x1 x2 x3 0 s h
      · have h := h.2 c6
        refine dk_aload_n (i := 0) C dX9_burns_19 (n := 20) rfl rfl rfl ?_
        refine gf_X9_21 C (hmi 60 (by decide) (by decide)) dX9_burns_20 (n := 23) rfl ?_
        refine dk_aload_n (i := 0) C dX9_burns_23 (n := 24) rfl rfl rfl ?_
        refine gf_X9_50 C (hmi 60 (by decide) (by decide)) dX9_burns_24 (n := 27) rfl ?_
        refine dk_iload_n (i := 3) C dX9_burns_27 (n := 28) rfl rfl rfl ?_
        refine dk_iald C dk_sh71 h.1 (hmi 71 (by decide) (by decide)) dX9_burns_28 (n := 29) rfl ?_
        have h := h.2
        refine dk_zald C dk_sh63 h.1 (hmi 63 (by decide) (by decide)) dX9_burns_29 (n := 30) rfl ?_
        have h := h.2
        refine dk_if_eq (t := 51) C dX9_burns_30 (n := 33) rfl (by decide) (fun c5 => ?_) (fun c5 => ?_)
        · have h := h.1 c5
          refine dk_iconst (v := 0) C dX9_burns_51 (n := 52) rfl (by decide) ?_
          refine dk_sub (L0 := [some (dk_r G 4 60), some (.int x1), some (.int x2), some (.int x3), none, none]) ⟨rfl, ⟨rfl, ⟨rfl, ⟨rfl, trivial⟩⟩⟩⟩ ?_
          exact ww_X9_burns_52 C hr hlk hmi hB x1 x2 x3 0 s h
        · have h := h.2 c5
          refine dk_aload_n (i := 0) C dX9_burns_33 (n := 34) rfl rfl rfl ?_
          refine gf_X9_83 C (hmi 60 (by decide) (by decide)) dX9_burns_34 (n := 37) rfl ?_
          refine dk_iload_n (i := 3) C dX9_burns_37 (n := 38) rfl rfl rfl ?_
          refine dk_iald C dk_sh82 h.1 (hmi 82 (by decide) (by decide)) dX9_burns_38 (n := 39) rfl ?_
          have h := h.2
          refine dk_iload_n (i := 1) C dX9_burns_39 (n := 40) rfl rfl rfl ?_
          refine dk_callSi C [] (cc_X9_around C.D  h) yy_X9_around dk_wm_X9_183 dX9_burns_40 (fun r3 s2 h => ?_) rfl ⟨Nat.le_of_ble_eq_true rfl, Nat.le_of_ble_eq_true rfl⟩ rfl (Nat.le_of_ble_eq_true rfl) rfl (n := 43) rfl
          refine dk_iload_n (i := 2) C dX9_burns_43 (n := 44) rfl rfl rfl ?_
          refine dk_icmp_gt (t := 51) C dX9_burns_44 (n := 47) rfl (by decide) (fun c4 => ?_) (fun c4 => ?_)
          · have h := h.1 c4
            refine dk_iconst (v := 0) C dX9_burns_51 (n := 52) rfl (by decide) ?_
            refine dk_sub (L0 := [some (dk_r G 4 60), some (.int x1), some (.int x2), some (.int x3), none, none]) ⟨rfl, ⟨rfl, ⟨rfl, ⟨rfl, trivial⟩⟩⟩⟩ ?_
            exact ww_X9_burns_52 C hr hlk hmi hB x1 x2 x3 0 s2 h
          · have h := h.2 c4
            refine dk_iconst (v := 1) C dX9_burns_47 (n := 48) rfl (by decide) ?_
            refine dk_goto (t := 52) C dX9_burns_48 (by decide) ?_
            refine dk_sub (L0 := [some (dk_r G 4 60), some (.int x1), some (.int x2), some (.int x3), none, none]) ⟨rfl, ⟨rfl, ⟨rfl, ⟨rfl, trivial⟩⟩⟩⟩ ?_
            exact ww_X9_burns_52 C hr hlk hmi hB x1 x2 x3 1 s2 h
set_option maxRecDepth 20000 in
set_option maxHeartbeats 4000000 in
theorem cc_X9_burns {G : dk_G} {l : Launch} {a1 : Int32} {a2 : Int32} (hD : dk_D G) (hmi : dk_MI G) {s : dk_S} {K : dk_S → Prop} (h : wf_X9_burns a1 a2 s K) : dk_M G l 3 yX9_burns cX9_burns 6 none [dk_r G 4 60, .int a1, .int a2] s (dk_kv K) := by
  refine dk_of hD (by decide) [some (dk_r G 4 60), some (.int a1), some (.int a2), none, none, none] (fun q hq => hq) rfl (Nat.le_of_ble_eq_true rfl) (fun P e S0 m args bel meth c C hr hlk => ?_)
  unfold wf_X9_burns at h
  refine dk_iconst (v := 0) C dX9_burns_0 (n := 1) rfl (by decide) ?_
  refine dk_istore_n (i := 3) (L' := [some (dk_r G 4 60), some (.int a1), some (.int a2), some (.int 0), none, none]) C dX9_burns_1 (n := 2) rfl rfl (dk_nc_of rfl) (Nat.le_of_ble_eq_true rfl) rfl ?_
  obtain ⟨nn1, h⟩ := h
  refine dk_sub (L0 := [some (dk_r G 4 60), some (.int a1), some (.int a2), some (.int 0), none, none]) ⟨rfl, ⟨rfl, ⟨rfl, ⟨rfl, trivial⟩⟩⟩⟩ ?_
  refine ww_X9_burns_2 C hr hlk hmi  nn1 a1 a2 0 s h
/-! X9_breaks -/
set_option maxRecDepth 20000 in
set_option maxHeartbeats 4000000 in
theorem ww_X9_breaks_25 {G : dk_G} {P : Program} {l : Launch} {e : Env} {S0 : State} {m : MethodId} {args : Array Value} {bel : List Frame} {meth : Method} {c : Code}  (C : dk_C G P (dk_rm 6) S0 m args c 0 0 cX9_breaks 5 RX9) (hr : meth.sig.returnType = none) (hlk : meth.locks = false) (hmi : dk_MI G) {K : dk_S → Prop} {E76 : Int32 → Int32 → dk_S → Prop} (hE76 : ∀ (x2 : Int32) (x3 : Int32) (s : dk_S), E76 x2 x3 s → dk_W G P l e (dk_rm 6) S0 m args bel meth c 0 0 (MQ bel (dk_Qc G (dk_kv K)) args S0 0 0 (dk_A G)) 76 [some (dk_r G 4 60), none, some (.int x2), some (.int x3), none] [] s) : ∀ (n : Nat) (x2 : Int32) (x3 : Int32) (x4 : Int32) (s : dk_S), wf_X9_breaks_25 K E76 n x2 x3 x4 s → dk_W G P l e (dk_rm 6) S0 m args bel meth c 0 0 (MQ bel (dk_Qc G (dk_kv K)) args S0 0 0 (dk_A G)) 25 [some (dk_r G 4 60), none, some (.int x2), some (.int x3), some (.int x4)] [] s := by
  intro n
  induction n with
  | zero => intro x2 x3 x4 s h; exact False.elim h
  | succ n hB =>
    intro x2 x3 x4 s h
    unfold wf_X9_breaks_25 at h
    refine dk_iload C dX9_breaks_25 (n := 27) rfl (i := 4) rfl ?_
    refine dk_aload_n (i := 0) C dX9_breaks_27 (n := 28) rfl rfl rfl ?_
    refine gf_X9_34 C (hmi 60 (by decide) (by decide)) dX9_breaks_28 (n := 31) rfl ?_
    refine dk_icmp_ge (t := 76) C dX9_breaks_31 (n := 34) rfl (by decide) (fun c24 => ?_) (fun c24 => ?_)
    · have h := h.1 c24
      refine dk_sub (L0 := [some (dk_r G 4 60), none, some (.int x2), some (.int x3), none]) ⟨rfl, ⟨rfl, ⟨rfl, trivial⟩⟩⟩ ?_
      exact hE76 x2 x3 s h
    · have h := h.2 c24
      refine dk_aload_n (i := 0) C dX9_breaks_34 (n := 35) rfl rfl rfl ?_
      refine dk_iload C dX9_breaks_35 (n := 37) rfl (i := 4) rfl ?_
      refine dk_callVi C [] (cc_X9_lives C.D hmi h) yy_X9_lives dk_wm_X9_200 dk_sh60 (hmi 60 (by decide) (by decide)) dX9_breaks_37 (fun r15 s14 h => ?_) rfl rfl ⟨Nat.le_of_ble_eq_true rfl, Nat.le_of_ble_eq_true rfl⟩ rfl (Nat.le_of_ble_eq_true rfl) rfl (n := 40) rfl
      refine dk_if_eq (t := 70) C dX9_breaks_40 (n := 43) rfl (by decide) (fun c23 => ?_) (fun c23 => ?_)
      · have h := h.1 c23
        obtain ⟨v16, ev16⟩ : ∃ y : Int32, y = x4 + 1 := ⟨_, rfl⟩
        have h := h v16 ev16
        refine dk_iinc (i := 4) (v := v16) (L' := [some (dk_r G 4 60), none, some (.int x2), some (.int x3), some (.int v16)]) C dX9_breaks_70 (n := 73) rfl rfl (by rw [ev16]; rfl) (dk_nc_of rfl) (Nat.le_of_ble_eq_true rfl) rfl ?_
        refine dk_goto (t := 25) C dX9_breaks_73 (by decide) ?_
        refine dk_sub (L0 := [some (dk_r G 4 60), none, some (.int x2), some (.int x3), some (.int v16)]) ⟨rfl, ⟨rfl, ⟨rfl, ⟨rfl, trivial⟩⟩⟩⟩ ?_
        exact hB x2 x3 v16 s14 h
      · have h := h.2 c23
        refine dk_aload_n (i := 0) C dX9_breaks_43 (n := 44) rfl rfl rfl ?_
        refine gf_X9_65 C (hmi 60 (by decide) (by decide)) dX9_breaks_44 (n := 47) rfl ?_
        refine dk_iload C dX9_breaks_47 (n := 49) rfl (i := 4) rfl ?_
        refine dk_iald C dk_sh76 h.1 (hmi 76 (by decide) (by decide)) dX9_breaks_49 (n := 50) rfl ?_
        have h := h.2
        refine dk_iload_n (i := 2) C dX9_breaks_50 (n := 51) rfl rfl rfl ?_
        refine dk_callSi C [] (cc_X9_around C.D  h) yy_X9_around dk_wm_X9_183 dX9_breaks_51 (fun r18 s17 h => ?_) rfl ⟨Nat.le_of_ble_eq_true rfl, Nat.le_of_ble_eq_true rfl⟩ rfl (Nat.le_of_ble_eq_true rfl) rfl (n := 54) rfl
        refine dk_aload_n (i := 0) C dX9_breaks_54 (n := 55) rfl rfl rfl ?_
        refine gf_X9_31 C (hmi 60 (by decide) (by decide)) dX9_breaks_55 (n := 58) rfl ?_
        refine dk_iload_n (i := 3) C dX9_breaks_58 (n := 59) rfl rfl rfl ?_
        refine dk_iald C dk_sh66 h.1 (hmi 66 (by decide) (by decide)) dX9_breaks_59 (n := 60) rfl ?_
        have h := h.2
        refine dk_icmp_gt (t := 70) C dX9_breaks_60 (n := 63) rfl (by decide) (fun c22 => ?_) (fun c22 => ?_)
        · have h := h.1 c22
          obtain ⟨v19, ev19⟩ : ∃ y : Int32, y = x4 + 1 := ⟨_, rfl⟩
          have h := h v19 ev19
          refine dk_iinc (i := 4) (v := v19) (L' := [some (dk_r G 4 60), none, some (.int x2), some (.int x3), some (.int v19)]) C dX9_breaks_70 (n := 73) rfl rfl (by rw [ev19]; rfl) (dk_nc_of rfl) (Nat.le_of_ble_eq_true rfl) rfl ?_
          refine dk_goto (t := 25) C dX9_breaks_73 (by decide) ?_
          refine dk_sub (L0 := [some (dk_r G 4 60), none, some (.int x2), some (.int x3), some (.int v19)]) ⟨rfl, ⟨rfl, ⟨rfl, ⟨rfl, trivial⟩⟩⟩⟩ ?_
          exact hB x2 x3 v19 s17 h
        · have h := h.2 c22
          refine dk_aload_n (i := 0) C dX9_breaks_63 (n := 64) rfl rfl rfl ?_
          refine dk_iload_n (i := 3) C dX9_breaks_64 (n := 65) rfl rfl rfl ?_
          refine dk_iload C dX9_breaks_65 (n := 67) rfl (i := 4) rfl ?_
          refine dk_callVv C [] (cc_X9_works C.D hmi h) yy_X9_works dk_wm_X9_255 dk_sh60 (hmi 60 (by decide) (by decide)) dX9_breaks_67 (fun s20 h => ?_) rfl rfl ⟨Nat.le_of_ble_eq_true rfl, Nat.le_of_ble_eq_true rfl⟩ rfl (Nat.le_of_ble_eq_true rfl) rfl (n := 70) rfl
          obtain ⟨v21, ev21⟩ : ∃ y : Int32, y = x4 + 1 := ⟨_, rfl⟩
          have h := h v21 ev21
          refine dk_iinc (i := 4) (v := v21) (L' := [some (dk_r G 4 60), none, some (.int x2), some (.int x3), some (.int v21)]) C dX9_breaks_70 (n := 73) rfl rfl (by rw [ev21]; rfl) (dk_nc_of rfl) (Nat.le_of_ble_eq_true rfl) rfl ?_
          refine dk_goto (t := 25) C dX9_breaks_73 (by decide) ?_
          refine dk_sub (L0 := [some (dk_r G 4 60), none, some (.int x2), some (.int x3), some (.int v21)]) ⟨rfl, ⟨rfl, ⟨rfl, ⟨rfl, trivial⟩⟩⟩⟩ ?_
          exact hB x2 x3 v21 s20 h
set_option maxRecDepth 20000 in
set_option maxHeartbeats 4000000 in
theorem cc_X9_breaks {G : dk_G} {l : Launch} {a1 : Int32} {a2 : Int32} (hD : dk_D G) (hmi : dk_MI G) {s : dk_S} {K : dk_S → Prop} (h : wf_X9_breaks a1 a2 s K) : dk_M G l 6 yX9_breaks cX9_breaks 5 none [dk_r G 4 60, .int a1, .int a2] s (dk_kv K) := by
  refine dk_of hD (by decide) [some (dk_r G 4 60), some (.int a1), some (.int a2), none, none] (fun q hq => hq) rfl (Nat.le_of_ble_eq_true rfl) (fun P e S0 m args bel meth c C hr hlk => ?_)
  unfold wf_X9_breaks at h
  refine dk_aload_n (i := 0) C dX9_breaks_0 (n := 1) rfl rfl rfl ?_
  refine gf_X9_50 C (hmi 60 (by decide) (by decide)) dX9_breaks_1 (n := 4) rfl ?_
  refine dk_iload_n (i := 1) C dX9_breaks_4 (n := 5) rfl rfl rfl ?_
  refine dk_iald C dk_sh71 h.1 (hmi 71 (by decide) (by decide)) dX9_breaks_5 (n := 6) rfl ?_
  have h := h.2
  refine dk_name (fun v1 ev1 => ?_)
  have h := h v1 ev1
  refine dk_istore_n (i := 3) (L' := [some (dk_r G 4 60), some (.int a1), some (.int a2), some (.int v1), none]) C dX9_breaks_6 (n := 7) rfl rfl (dk_nc_of rfl) (Nat.le_of_ble_eq_true rfl) rfl ?_
  refine dk_aload_n (i := 0) C dX9_breaks_7 (n := 8) rfl rfl rfl ?_
  refine gf_X9_83 C (hmi 60 (by decide) (by decide)) dX9_breaks_8 (n := 11) rfl ?_
  refine dk_iload_n (i := 1) C dX9_breaks_11 (n := 12) rfl rfl rfl ?_
  refine dk_bipush (v := (-2)) C dX9_breaks_12 (n := 14) rfl (by decide) ?_
  refine dk_iast C dk_sh82 h.1 (hmi 82 (by decide) (by decide)) dX9_breaks_14 (n := 15) rfl ?_
  refine dk_nameS (fun s2 es2 => ?_)
  have h := h.2 s2 es2
  refine dk_aload_n (i := 0) C dX9_breaks_15 (n := 16) rfl rfl rfl ?_
  refine gf_X9_86 C (hmi 60 (by decide) (by decide)) dX9_breaks_16 (n := 19) rfl ?_
  refine dk_iload_n (i := 3) C dX9_breaks_19 (n := 20) rfl rfl rfl ?_
  refine dk_iconst (v := 1) C dX9_breaks_20 (n := 21) rfl (by decide) ?_
  refine dk_zast C dk_sh83 h.1 (hmi 83 (by decide) (by decide)) dX9_breaks_21 (n := 22) rfl ?_
  refine dk_nameS (fun s3 es3 => ?_)
  have h := h.2 s3 es3
  refine dk_iconst (v := 0) C dX9_breaks_22 (n := 23) rfl (by decide) ?_
  refine dk_istore (i := 4) (L' := [some (dk_r G 4 60), some (.int a1), some (.int a2), some (.int v1), some (.int 0)]) C dX9_breaks_23 (n := 25) rfl (dk_nc_of rfl) (Nat.le_of_ble_eq_true rfl) rfl ?_
  obtain ⟨nn13, h⟩ := h
  refine dk_sub (L0 := [some (dk_r G 4 60), none, some (.int a2), some (.int v1), some (.int 0)]) ⟨rfl, ⟨rfl, ⟨rfl, ⟨rfl, trivial⟩⟩⟩⟩ ?_
  refine ww_X9_breaks_25 C hr hlk hmi (fun w4 w5 s6 h => ?_) nn13 a2 v1 0 s3 h
  · refine dk_aload_n (i := 0) C dX9_breaks_76 (n := 77) rfl rfl rfl ?_
    refine gf_X9_25 C (hmi 60 (by decide) (by decide)) dX9_breaks_77 (n := 80) rfl ?_
    refine dk_iload_n (i := 3) C dX9_breaks_80 (n := 81) rfl rfl rfl ?_
    refine dk_cald C dk_sh64 h.1 (hmi 64 (by decide) (by decide)) dX9_breaks_81 (n := 82) rfl ?_
    have h := h.2
    refine dk_bipush (v := 102) C dX9_breaks_82 (n := 84) rfl (by decide) ?_
    refine dk_icmp_ne (t := 98) C dX9_breaks_84 (n := 87) rfl (by decide) (fun c12 => ?_) (fun c12 => ?_)
    · have h := h.1 c12
      refine dk_aload_n (i := 0) C dX9_breaks_98 (n := 99) rfl rfl rfl ?_
      refine dk_iload_n (i := 2) C dX9_breaks_99 (n := 100) rfl rfl rfl ?_
      refine dk_bipush (v := 6) C dX9_breaks_100 (n := 102) rfl (by decide) ?_
      refine dk_callVi C [] (cc_X9_sounds C.D hmi h) yy_X9_sounds dk_wm_X9_238 dk_sh60 (hmi 60 (by decide) (by decide)) dX9_breaks_102 (fun r8 s7 h => ?_) rfl rfl ⟨Nat.le_of_ble_eq_true rfl, Nat.le_of_ble_eq_true rfl⟩ rfl (Nat.le_of_ble_eq_true rfl) rfl (n := 105) rfl
      refine dk_istore (i := 4) (L' := [some (dk_r G 4 60), none, some (.int w4), some (.int w5), some (.int r8)]) C dX9_breaks_105 (n := 107) rfl (dk_nc_of rfl) (Nat.le_of_ble_eq_true rfl) rfl ?_
      exact dk_vret C hr hlk dX9_breaks_107 ⟨rfl, h⟩
    · have h := h.2 c12
      refine dk_aload_n (i := 0) C dX9_breaks_87 (n := 88) rfl rfl rfl ?_
      refine dk_iload_n (i := 2) C dX9_breaks_88 (n := 89) rfl rfl rfl ?_
      refine dk_aload_n (i := 0) C dX9_breaks_89 (n := 90) rfl rfl rfl ?_
      refine gf_X9_31 C (hmi 60 (by decide) (by decide)) dX9_breaks_90 (n := 93) rfl ?_
      refine dk_iload_n (i := 3) C dX9_breaks_93 (n := 94) rfl rfl rfl ?_
      refine dk_iald C dk_sh66 h.1 (hmi 66 (by decide) (by decide)) dX9_breaks_94 (n := 95) rfl ?_
      have h := h.2
      refine dk_callVv C [] (cc_X9_burns C.D hmi h) yy_X9_burns dk_wm_X9_258 dk_sh60 (hmi 60 (by decide) (by decide)) dX9_breaks_95 (fun s9 h => ?_) rfl rfl ⟨Nat.le_of_ble_eq_true rfl, Nat.le_of_ble_eq_true rfl⟩ rfl (Nat.le_of_ble_eq_true rfl) rfl (n := 98) rfl
      refine dk_aload_n (i := 0) C dX9_breaks_98 (n := 99) rfl rfl rfl ?_
      refine dk_iload_n (i := 2) C dX9_breaks_99 (n := 100) rfl rfl rfl ?_
      refine dk_bipush (v := 6) C dX9_breaks_100 (n := 102) rfl (by decide) ?_
      refine dk_callVi C [] (cc_X9_sounds C.D hmi h) yy_X9_sounds dk_wm_X9_238 dk_sh60 (hmi 60 (by decide) (by decide)) dX9_breaks_102 (fun r11 s10 h => ?_) rfl rfl ⟨Nat.le_of_ble_eq_true rfl, Nat.le_of_ble_eq_true rfl⟩ rfl (Nat.le_of_ble_eq_true rfl) rfl (n := 105) rfl
      refine dk_istore (i := 4) (L' := [some (dk_r G 4 60), none, some (.int w4), some (.int w5), some (.int r11)]) C dX9_breaks_105 (n := 107) rfl (dk_nc_of rfl) (Nat.le_of_ble_eq_true rfl) rfl ?_
      exact dk_vret C hr hlk dX9_breaks_107 ⟨rfl, h⟩
/-! X9_hasKeyFor -/
set_option maxRecDepth 20000 in
set_option maxHeartbeats 4000000 in
theorem cc_X9_hasKeyFor {G : dk_G} {l : Launch} {a1 : Int32} (hD : dk_D G) (hmi : dk_MI G) {s : dk_S} {K : Int32 → dk_S → Prop} (h : wf_X9_hasKeyFor a1 s K) : dk_M G l 3 yX9_hasKeyFor cX9_hasKeyFor 2 (some .boolean) [dk_r G 4 60, .int a1] s (dk_ki K) := by
  refine dk_of hD (by decide) [some (dk_r G 4 60), some (.int a1)] (fun q hq => hq) rfl (Nat.le_of_ble_eq_true rfl) (fun P e S0 m args bel meth c C hr hlk => ?_)
  unfold wf_X9_hasKeyFor at h
  refine dk_iload_n (i := 1) C dX9_hasKeyFor_0 (n := 1) rfl rfl rfl ?_
  refine dk_bipush (v := 48) C dX9_hasKeyFor_1 (n := 3) rfl (by decide) ?_
  refine dk_bipush (v := 50) C dX9_hasKeyFor_3 (n := 5) rfl (by decide) ?_
  refine dk_callSi C [] (cc_X9_in C.D  h) yy_X9_in dk_wm_X9_110 dX9_hasKeyFor_5 (fun r2 s1 h => ?_) rfl ⟨Nat.le_of_ble_eq_true rfl, Nat.le_of_ble_eq_true rfl⟩ rfl (Nat.le_of_ble_eq_true rfl) rfl (n := 8) rfl
  refine dk_if_eq (t := 26) C dX9_hasKeyFor_8 (n := 11) rfl (by decide) (fun c6 => ?_) (fun c6 => ?_)
  · have h := h.1 c6
    refine dk_iconst (v := 0) C dX9_hasKeyFor_26 (n := 27) rfl (by decide) ?_
    exact dk_iret C hr hlk dk_nz0 dX9_hasKeyFor_27 ⟨_, rfl, h⟩
  · have h := h.2 c6
    refine dk_aload_n (i := 0) C dX9_hasKeyFor_11 (n := 12) rfl rfl rfl ?_
    refine dk_iload_n (i := 1) C dX9_hasKeyFor_12 (n := 13) rfl rfl rfl ?_
    refine dk_bipush (v := 48) C dX9_hasKeyFor_13 (n := 15) rfl (by decide) ?_
    refine dk_isub C dX9_hasKeyFor_15 (n := 16) rfl ?_
    refine dk_callVi C [] (cc_X9_carriesAnywhere C.D hmi h) yy_X9_carriesAnywhere dk_wm_X9_261 dk_sh60 (hmi 60 (by decide) (by decide)) dX9_hasKeyFor_16 (fun r4 s3 h => ?_) rfl rfl ⟨Nat.le_of_ble_eq_true rfl, Nat.le_of_ble_eq_true rfl⟩ rfl (Nat.le_of_ble_eq_true rfl) rfl (n := 19) rfl
    refine dk_if_eq (t := 26) C dX9_hasKeyFor_19 (n := 22) rfl (by decide) (fun c5 => ?_) (fun c5 => ?_)
    · have h := h.1 c5
      refine dk_iconst (v := 0) C dX9_hasKeyFor_26 (n := 27) rfl (by decide) ?_
      exact dk_iret C hr hlk dk_nz0 dX9_hasKeyFor_27 ⟨_, rfl, h⟩
    · have h := h.2 c5
      refine dk_iconst (v := 1) C dX9_hasKeyFor_22 (n := 23) rfl (by decide) ?_
      refine dk_goto (t := 27) C dX9_hasKeyFor_23 (by decide) ?_
      exact dk_iret C hr hlk dk_nz1 dX9_hasKeyFor_27 ⟨_, rfl, h⟩
/-! X9_go -/
set_option maxRecDepth 20000 in
set_option maxHeartbeats 4000000 in
theorem ww_X9_go_159 {G : dk_G} {P : Program} {l : Launch} {e : Env} {S0 : State} {m : MethodId} {args : Array Value} {bel : List Frame} {meth : Method} {c : Code}  (C : dk_C G P (dk_rm 9) S0 m args c 0 0 cX9_go 5 RX9) (hr : meth.sig.returnType = (some .char)) (hlk : meth.locks = false) (hmi : dk_MI G) {K : Int32 → dk_S → Prop}  : ∀ (x4 : Int32) (s : dk_S), wf_X9_go_159 K x4 s → dk_W G P l e (dk_rm 9) S0 m args bel meth c 0 0 (MQ bel (dk_Qc G (dk_ki K)) args S0 0 0 (dk_A G)) 159 [some (dk_r G 4 60), none, none, none, some (.int x4)] [] s := by
  intro x4 s h
  unfold wf_X9_go_159 at h
  refine dk_iload C dX9_go_159 (n := 161) rfl (i := 4) rfl ?_
  refine dk_bipush (v := 98) C dX9_go_161 (n := 163) rfl (by decide) ?_
  refine dk_icmp_eq (t := 170) C dX9_go_163 (n := 166) rfl (by decide) (fun c32 => ?_) (fun c32 => ?_)
  · have h := h.1 c32
    refine dk_iload C dX9_go_170 (n := 172) rfl (i := 4) rfl ?_
    exact dk_iret C hr hlk h.1 dX9_go_172 ⟨_, rfl, h.2⟩
  · have h := h.2 c32
    refine dk_aload_n (i := 0) C dX9_go_166 (n := 167) rfl rfl rfl ?_
    refine dk_callVv C [] (cc_X9_ends C.D hmi h) yy_X9_ends dk_wm_X9_273 dk_sh60 (hmi 60 (by decide) (by decide)) dX9_go_167 (fun s31 h => ?_) rfl rfl ⟨Nat.le_of_ble_eq_true rfl, Nat.le_of_ble_eq_true rfl⟩ rfl (Nat.le_of_ble_eq_true rfl) rfl (n := 170) rfl
    refine dk_iload C dX9_go_170 (n := 172) rfl (i := 4) rfl ?_
    exact dk_iret C hr hlk h.1 dX9_go_172 ⟨_, rfl, h.2⟩
set_option maxRecDepth 20000 in
set_option maxHeartbeats 4000000 in
theorem ww_X9_go_140 {G : dk_G} {P : Program} {l : Launch} {e : Env} {S0 : State} {m : MethodId} {args : Array Value} {bel : List Frame} {meth : Method} {c : Code}  (C : dk_C G P (dk_rm 9) S0 m args c 0 0 cX9_go 5 RX9) (hr : meth.sig.returnType = (some .char)) (hlk : meth.locks = false) (hmi : dk_MI G) {K : Int32 → dk_S → Prop}  : ∀ (x2 : Int32) (x4 : Int32) (s : dk_S), wf_X9_go_140 K x2 x4 s → dk_W G P l e (dk_rm 9) S0 m args bel meth c 0 0 (MQ bel (dk_Qc G (dk_ki K)) args S0 0 0 (dk_A G)) 140 [some (dk_r G 4 60), none, some (.int x2), none, some (.int x4)] [] s := by
  intro x2 x4 s h
  unfold wf_X9_go_140 at h
  refine dk_aload_n (i := 0) C dX9_go_140 (n := 141) rfl rfl rfl ?_
  refine dk_iload_n (i := 2) C dX9_go_141 (n := 142) rfl rfl rfl ?_
  refine dk_callVi C [] (cc_X9_isFree C.D hmi h) yy_X9_isFree dk_wm_X9_174 dk_sh60 (hmi 60 (by decide) (by decide)) dX9_go_142 (fun r27 s26 h => ?_) rfl rfl ⟨Nat.le_of_ble_eq_true rfl, Nat.le_of_ble_eq_true rfl⟩ rfl (Nat.le_of_ble_eq_true rfl) rfl (n := 145) rfl
  refine dk_if_eq (t := 159) C dX9_go_145 (n := 148) rfl (by decide) (fun c29 => ?_) (fun c29 => ?_)
  · have h := h.1 c29
    refine dk_sub (L0 := [some (dk_r G 4 60), none, none, none, some (.int x4)]) ⟨rfl, ⟨rfl, trivial⟩⟩ ?_
    exact ww_X9_go_159 C hr hlk hmi  x4 s26 h
  · have h := h.2 c29
    refine dk_aload_n (i := 0) C dX9_go_148 (n := 149) rfl rfl rfl ?_
    refine gf_X9_65 C (hmi 60 (by decide) (by decide)) dX9_go_149 (n := 152) rfl ?_
    refine dk_iconst (v := 0) C dX9_go_152 (n := 153) rfl (by decide) ?_
    refine dk_iload_n (i := 2) C dX9_go_153 (n := 154) rfl rfl rfl ?_
    refine dk_iast C dk_sh76 h.1 (hmi 76 (by decide) (by decide)) dX9_go_154 (n := 155) rfl ?_
    refine dk_nameS (fun s28 es28 => ?_)
    have h := h.2 s28 es28
    refine dk_bipush (v := 109) C dX9_go_155 (n := 157) rfl (by decide) ?_
    refine dk_istore (i := 4) (L' := [some (dk_r G 4 60), none, some (.int x2), none, some (.int 109)]) C dX9_go_157 (n := 159) rfl (dk_nc_of rfl) (Nat.le_of_ble_eq_true rfl) rfl ?_
    refine dk_sub (L0 := [some (dk_r G 4 60), none, none, none, some (.int 109)]) ⟨rfl, ⟨rfl, trivial⟩⟩ ?_
    exact ww_X9_go_159 C hr hlk hmi  109 s28 h
set_option maxRecDepth 20000 in
set_option maxHeartbeats 4000000 in
theorem ww_X9_go_125 {G : dk_G} {P : Program} {l : Launch} {e : Env} {S0 : State} {m : MethodId} {args : Array Value} {bel : List Frame} {meth : Method} {c : Code}  (C : dk_C G P (dk_rm 9) S0 m args c 0 0 cX9_go 5 RX9) (hr : meth.sig.returnType = (some .char)) (hlk : meth.locks = false) (hmi : dk_MI G) {K : Int32 → dk_S → Prop}  : ∀ (x2 : Int32) (s : dk_S), wf_X9_go_125 K x2 s → dk_W G P l e (dk_rm 9) S0 m args bel meth c 0 0 (MQ bel (dk_Qc G (dk_ki K)) args S0 0 0 (dk_A G)) 125 [some (dk_r G 4 60), none, some (.int x2), none, none] [] s := by
  intro x2 s h
  unfold wf_X9_go_125 at h
  refine dk_aload_n (i := 0) C dX9_go_125 (n := 126) rfl rfl rfl ?_
  refine gf_X9_62 C (hmi 60 (by decide) (by decide)) dX9_go_126 (n := 129) rfl ?_
  refine dk_iload_n (i := 2) C dX9_go_129 (n := 130) rfl rfl rfl ?_
  refine dk_bipush (v := 47) C dX9_go_130 (n := 132) rfl (by decide) ?_
  refine dk_cast C dk_sh75 h.1 (hmi 75 (by decide) (by decide)) dX9_go_132 (n := 133) rfl ?_
  refine dk_nameS (fun s30 es30 => ?_)
  have h := h.2 s30 es30
  refine dk_bipush (v := 111) C dX9_go_133 (n := 135) rfl (by decide) ?_
  refine dk_istore (i := 4) (L' := [some (dk_r G 4 60), none, some (.int x2), none, some (.int 111)]) C dX9_go_135 (n := 137) rfl (dk_nc_of rfl) (Nat.le_of_ble_eq_true rfl) rfl ?_
  refine dk_goto (t := 159) C dX9_go_137 (by decide) ?_
  refine dk_sub (L0 := [some (dk_r G 4 60), none, none, none, some (.int 111)]) ⟨rfl, ⟨rfl, trivial⟩⟩ ?_
  exact ww_X9_go_159 C hr hlk hmi  111 s30 h
set_option maxRecDepth 20000 in
set_option maxHeartbeats 4000000 in
theorem ww_X9_go_59 {G : dk_G} {P : Program} {l : Launch} {e : Env} {S0 : State} {m : MethodId} {args : Array Value} {bel : List Frame} {meth : Method} {c : Code}  (C : dk_C G P (dk_rm 9) S0 m args c 0 0 cX9_go 5 RX9) (hr : meth.sig.returnType = (some .char)) (hlk : meth.locks = false) (hmi : dk_MI G) {K : Int32 → dk_S → Prop}  : ∀ (x2 : Int32) (y0 : Int32) (s : dk_S), wf_X9_go_59 K x2 y0 s → dk_W G P l e (dk_rm 9) S0 m args bel meth c 0 0 (MQ bel (dk_Qc G (dk_ki K)) args S0 0 0 (dk_A G)) 59 [some (dk_r G 4 60), none, some (.int x2), none, none] [.int y0] s := by
  intro x2 y0 s h
  unfold wf_X9_go_59 at h
  refine dk_istore_n (i := 3) (L' := [some (dk_r G 4 60), none, some (.int x2), some (.int y0), none]) C dX9_go_59 (n := 60) rfl rfl (dk_nc_of rfl) (Nat.le_of_ble_eq_true rfl) rfl ?_
  refine dk_bipush (v := 98) C dX9_go_60 (n := 62) rfl (by decide) ?_
  refine dk_istore (i := 4) (L' := [some (dk_r G 4 60), none, some (.int x2), some (.int y0), some (.int 98)]) C dX9_go_62 (n := 64) rfl (dk_nc_of rfl) (Nat.le_of_ble_eq_true rfl) rfl ?_
  refine dk_iload_n (i := 3) C dX9_go_64 (n := 65) rfl rfl rfl ?_
  refine dk_iconst (v := (-1)) C dX9_go_65 (n := 66) rfl (by decide) ?_
  refine dk_icmp_eq (t := 96) C dX9_go_66 (n := 69) rfl (by decide) (fun c25 => ?_) (fun c25 => ?_)
  · have h := h.1 c25
    refine dk_iload_n (i := 2) C dX9_go_96 (n := 97) rfl rfl rfl ?_
    refine dk_iconst (v := (-1)) C dX9_go_97 (n := 98) rfl (by decide) ?_
    refine dk_icmp_eq (t := 140) C dX9_go_98 (n := 101) rfl (by decide) (fun c19 => ?_) (fun c19 => ?_)
    · have h := h.1 c19
      refine dk_sub (L0 := [some (dk_r G 4 60), none, some (.int x2), none, some (.int 98)]) ⟨rfl, ⟨rfl, ⟨rfl, trivial⟩⟩⟩ ?_
      exact ww_X9_go_140 C hr hlk hmi  x2 98 s h
    · have h := h.2 c19
      refine dk_aload_n (i := 0) C dX9_go_101 (n := 102) rfl rfl rfl ?_
      refine gf_X9_62 C (hmi 60 (by decide) (by decide)) dX9_go_102 (n := 105) rfl ?_
      refine dk_iload_n (i := 2) C dX9_go_105 (n := 106) rfl rfl rfl ?_
      refine dk_cald C dk_sh75 h.1 (hmi 75 (by decide) (by decide)) dX9_go_106 (n := 107) rfl ?_
      have h := h.2
      refine dk_bipush (v := 43) C dX9_go_107 (n := 109) rfl (by decide) ?_
      refine dk_icmp_eq (t := 125) C dX9_go_109 (n := 112) rfl (by decide) (fun c18 => ?_) (fun c18 => ?_)
      · have h := h.1 c18
        refine dk_sub (L0 := [some (dk_r G 4 60), none, some (.int x2), none, none]) ⟨rfl, ⟨rfl, trivial⟩⟩ ?_
        exact ww_X9_go_125 C hr hlk hmi  x2 s h
      · have h := h.2 c18
        refine dk_aload_n (i := 0) C dX9_go_112 (n := 113) rfl rfl rfl ?_
        refine dk_aload_n (i := 0) C dX9_go_113 (n := 114) rfl rfl rfl ?_
        refine gf_X9_62 C (hmi 60 (by decide) (by decide)) dX9_go_114 (n := 117) rfl ?_
        refine dk_iload_n (i := 2) C dX9_go_117 (n := 118) rfl rfl rfl ?_
        refine dk_cald C dk_sh75 h.1 (hmi 75 (by decide) (by decide)) dX9_go_118 (n := 119) rfl ?_
        have h := h.2
        refine dk_callVi C [] (cc_X9_hasKeyFor C.D hmi h) yy_X9_hasKeyFor dk_wm_X9_270 dk_sh60 (hmi 60 (by decide) (by decide)) dX9_go_119 (fun r16 s15 h => ?_) rfl rfl ⟨Nat.le_of_ble_eq_true rfl, Nat.le_of_ble_eq_true rfl⟩ rfl (Nat.le_of_ble_eq_true rfl) rfl (n := 122) rfl
        refine dk_if_eq (t := 140) C dX9_go_122 (n := 125) rfl (by decide) (fun c17 => ?_) (fun c17 => ?_)
        · have h := h.1 c17
          refine dk_sub (L0 := [some (dk_r G 4 60), none, some (.int x2), none, some (.int 98)]) ⟨rfl, ⟨rfl, ⟨rfl, trivial⟩⟩⟩ ?_
          exact ww_X9_go_140 C hr hlk hmi  x2 98 s15 h
        · have h := h.2 c17
          refine dk_sub (L0 := [some (dk_r G 4 60), none, some (.int x2), none, none]) ⟨rfl, ⟨rfl, trivial⟩⟩ ?_
          exact ww_X9_go_125 C hr hlk hmi  x2 s15 h
  · have h := h.2 c25
    refine dk_aload_n (i := 0) C dX9_go_69 (n := 70) rfl rfl rfl ?_
    refine dk_iload_n (i := 3) C dX9_go_70 (n := 71) rfl rfl rfl ?_
    refine dk_aload_n (i := 0) C dX9_go_71 (n := 72) rfl rfl rfl ?_
    refine dk_bipush (v := 7) C dX9_go_72 (n := 74) rfl (by decide) ?_
    refine dk_callVi C [.int y0, dk_r G 4 60] (cc_X9_carries C.D hmi h) yy_X9_carries dk_wm_X9_264 dk_sh60 (hmi 60 (by decide) (by decide)) dX9_go_74 (fun r21 s20 h => ?_) rfl rfl ⟨Nat.le_of_ble_eq_true rfl, Nat.le_of_ble_eq_true rfl⟩ rfl (Nat.le_of_ble_eq_true rfl) rfl (n := 77) rfl
    refine dk_if_eq (t := 85) C dX9_go_77 (n := 80) rfl (by decide) (fun c24 => ?_) (fun c24 => ?_)
    · have h := h.1 c24
      refine dk_iconst (v := 3) C dX9_go_85 (n := 86) rfl (by decide) ?_
      refine dk_callVv C [] (cc_X9_strikes C.D hmi h) yy_X9_strikes dk_wm_X9_267 dk_sh60 (hmi 60 (by decide) (by decide)) dX9_go_86 (fun s22 h => ?_) rfl rfl ⟨Nat.le_of_ble_eq_true rfl, Nat.le_of_ble_eq_true rfl⟩ rfl (Nat.le_of_ble_eq_true rfl) rfl (n := 89) rfl
      refine dk_bipush (v := 97) C dX9_go_89 (n := 91) rfl (by decide) ?_
      refine dk_istore (i := 4) (L' := [some (dk_r G 4 60), none, some (.int x2), some (.int y0), some (.int 97)]) C dX9_go_91 (n := 93) rfl (dk_nc_of rfl) (Nat.le_of_ble_eq_true rfl) rfl ?_
      refine dk_goto (t := 159) C dX9_go_93 (by decide) ?_
      refine dk_sub (L0 := [some (dk_r G 4 60), none, none, none, some (.int 97)]) ⟨rfl, ⟨rfl, trivial⟩⟩ ?_
      exact ww_X9_go_159 C hr hlk hmi  97 s22 h
    · have h := h.2 c24
      refine dk_bipush (v := 7) C dX9_go_80 (n := 82) rfl (by decide) ?_
      refine dk_goto (t := 86) C dX9_go_82 (by decide) ?_
      refine dk_callVv C [] (cc_X9_strikes C.D hmi h) yy_X9_strikes dk_wm_X9_267 dk_sh60 (hmi 60 (by decide) (by decide)) dX9_go_86 (fun s23 h => ?_) rfl rfl ⟨Nat.le_of_ble_eq_true rfl, Nat.le_of_ble_eq_true rfl⟩ rfl (Nat.le_of_ble_eq_true rfl) rfl (n := 89) rfl
      refine dk_bipush (v := 97) C dX9_go_89 (n := 91) rfl (by decide) ?_
      refine dk_istore (i := 4) (L' := [some (dk_r G 4 60), none, some (.int x2), some (.int y0), some (.int 97)]) C dX9_go_91 (n := 93) rfl (dk_nc_of rfl) (Nat.le_of_ble_eq_true rfl) rfl ?_
      refine dk_goto (t := 159) C dX9_go_93 (by decide) ?_
      refine dk_sub (L0 := [some (dk_r G 4 60), none, none, none, some (.int 97)]) ⟨rfl, ⟨rfl, trivial⟩⟩ ?_
      exact ww_X9_go_159 C hr hlk hmi  97 s23 h
set_option maxRecDepth 20000 in
set_option maxHeartbeats 4000000 in
theorem ww_X9_go_26 {G : dk_G} {P : Program} {l : Launch} {e : Env} {S0 : State} {m : MethodId} {args : Array Value} {bel : List Frame} {meth : Method} {c : Code}  (C : dk_C G P (dk_rm 9) S0 m args c 0 0 cX9_go 5 RX9) (hr : meth.sig.returnType = (some .char)) (hlk : meth.locks = false) (hmi : dk_MI G) {K : Int32 → dk_S → Prop}  : ∀ (x1 : Int32) (y0 : Int32) (s : dk_S), wf_X9_go_26 K x1 y0 s → dk_W G P l e (dk_rm 9) S0 m args bel meth c 0 0 (MQ bel (dk_Qc G (dk_ki K)) args S0 0 0 (dk_A G)) 26 [some (dk_r G 4 60), some (.int x1), none, none, none] [.int y0, dk_r G 4 60] s := by
  intro x1 y0 s h
  unfold wf_X9_go_26 at h
  refine dk_callVi C [] (cc_X9_goesOn C.D hmi h) yy_X9_goesOn dk_wm_X9_149 dk_sh60 (hmi 60 (by decide) (by decide)) dX9_go_26 (fun r8 s7 h => ?_) rfl rfl ⟨Nat.le_of_ble_eq_true rfl, Nat.le_of_ble_eq_true rfl⟩ rfl (Nat.le_of_ble_eq_true rfl) rfl (n := 29) rfl
  refine dk_if_ne (t := 34) C dX9_go_29 (n := 32) rfl (by decide) (fun c14 => ?_) (fun c14 => ?_)
  · have h := h.1 c14
    refine dk_aload_n (i := 0) C dX9_go_34 (n := 35) rfl rfl rfl ?_
    refine gf_X9_65 C (hmi 60 (by decide) (by decide)) dX9_go_35 (n := 38) rfl ?_
    refine dk_iconst (v := 0) C dX9_go_38 (n := 39) rfl (by decide) ?_
    refine dk_iald C dk_sh76 h.1 (hmi 76 (by decide) (by decide)) dX9_go_39 (n := 40) rfl ?_
    have h := h.2
    refine dk_iload_n (i := 1) C dX9_go_40 (n := 41) rfl rfl rfl ?_
    refine dk_callSi C [] (cc_X9_beside C.D  h) yy_X9_beside dk_wm_X9_193 dX9_go_41 (fun r10 s9 h => ?_) rfl ⟨Nat.le_of_ble_eq_true rfl, Nat.le_of_ble_eq_true rfl⟩ rfl (Nat.le_of_ble_eq_true rfl) rfl (n := 44) rfl
    refine dk_istore_n (i := 2) (L' := [some (dk_r G 4 60), some (.int x1), some (.int r10), none, none]) C dX9_go_44 (n := 45) rfl rfl (dk_nc_of rfl) (Nat.le_of_ble_eq_true rfl) rfl ?_
    refine dk_iload_n (i := 2) C dX9_go_45 (n := 46) rfl rfl rfl ?_
    refine dk_iconst (v := (-1)) C dX9_go_46 (n := 47) rfl (by decide) ?_
    refine dk_icmp_ne (t := 54) C dX9_go_47 (n := 50) rfl (by decide) (fun c13 => ?_) (fun c13 => ?_)
    · have h := h.1 c13
      refine dk_aload_n (i := 0) C dX9_go_54 (n := 55) rfl rfl rfl ?_
      refine dk_iload_n (i := 2) C dX9_go_55 (n := 56) rfl rfl rfl ?_
      refine dk_callVi C [] (cc_X9_livingAt C.D hmi h) yy_X9_livingAt dk_wm_X9_229 dk_sh60 (hmi 60 (by decide) (by decide)) dX9_go_56 (fun r12 s11 h => ?_) rfl rfl ⟨Nat.le_of_ble_eq_true rfl, Nat.le_of_ble_eq_true rfl⟩ rfl (Nat.le_of_ble_eq_true rfl) rfl (n := 59) rfl
      refine dk_sub (L0 := [some (dk_r G 4 60), none, some (.int r10), none, none]) ⟨rfl, ⟨rfl, trivial⟩⟩ ?_
      exact ww_X9_go_59 C hr hlk hmi  r10 r12 s11 h
    · have h := h.2 c13
      refine dk_iconst (v := (-1)) C dX9_go_50 (n := 51) rfl (by decide) ?_
      refine dk_goto (t := 59) C dX9_go_51 (by decide) ?_
      refine dk_sub (L0 := [some (dk_r G 4 60), none, some (.int r10), none, none]) ⟨rfl, ⟨rfl, trivial⟩⟩ ?_
      exact ww_X9_go_59 C hr hlk hmi  r10 (-1) s9 h
  · have h := h.2 c14
    refine dk_iconst (v := 0) C dX9_go_32 (n := 33) rfl (by decide) ?_
    exact dk_iret C hr hlk (by decide) dX9_go_33 ⟨_, rfl, h⟩
set_option maxRecDepth 20000 in
set_option maxHeartbeats 4000000 in
theorem cc_X9_go {G : dk_G} {l : Launch} {a1 : Int32} (hD : dk_D G) (hmi : dk_MI G) {s : dk_S} {K : Int32 → dk_S → Prop} (h : wf_X9_go a1 s K) : dk_M G l 9 yX9_go cX9_go 5 (some .char) [dk_r G 4 60, .int a1] s (dk_ki K) := by
  refine dk_of hD (by decide) [some (dk_r G 4 60), some (.int a1), none, none, none] (fun q hq => hq) rfl (Nat.le_of_ble_eq_true rfl) (fun P e S0 m args bel meth c C hr hlk => ?_)
  unfold wf_X9_go at h
  refine dk_aload_n (i := 0) C dX9_go_0 (n := 1) rfl rfl rfl ?_
  refine dk_iload_n (i := 1) C dX9_go_1 (n := 2) rfl rfl rfl ?_
  refine dk_iconst (v := 0) C dX9_go_2 (n := 3) rfl (by decide) ?_
  refine dk_iconst (v := 3) C dX9_go_3 (n := 4) rfl (by decide) ?_
  refine dk_callSi C [dk_r G 4 60] (cc_X9_in C.D  h) yy_X9_in dk_wm_X9_110 dX9_go_4 (fun r2 s1 h => ?_) rfl ⟨Nat.le_of_ble_eq_true rfl, Nat.le_of_ble_eq_true rfl⟩ rfl (Nat.le_of_ble_eq_true rfl) rfl (n := 7) rfl
  refine dk_if_ne (t := 14) C dX9_go_7 (n := 10) rfl (by decide) (fun c6 => ?_) (fun c6 => ?_)
  · have h := h.1 c6
    refine dk_aload_n (i := 0) C dX9_go_14 (n := 15) rfl rfl rfl ?_
    refine dk_callVi C [dk_r G 4 60] (cc_X9_isOn C.D hmi h) yy_X9_isOn dk_wm_X9_145 dk_sh60 (hmi 60 (by decide) (by decide)) dX9_go_15 (fun r4 s3 h => ?_) rfl rfl ⟨Nat.le_of_ble_eq_true rfl, Nat.le_of_ble_eq_true rfl⟩ rfl (Nat.le_of_ble_eq_true rfl) rfl (n := 18) rfl
    refine dk_if_ne (t := 25) C dX9_go_18 (n := 21) rfl (by decide) (fun c5 => ?_) (fun c5 => ?_)
    · have h := h.1 c5
      refine dk_iconst (v := 0) C dX9_go_25 (n := 26) rfl (by decide) ?_
      refine dk_sub (L0 := [some (dk_r G 4 60), some (.int a1), none, none, none]) ⟨rfl, ⟨rfl, trivial⟩⟩ ?_
      exact ww_X9_go_26 C hr hlk hmi  a1 0 s3 h
    · have h := h.2 c5
      refine dk_iconst (v := 2) C dX9_go_21 (n := 22) rfl (by decide) ?_
      refine dk_goto (t := 26) C dX9_go_22 (by decide) ?_
      refine dk_sub (L0 := [some (dk_r G 4 60), some (.int a1), none, none, none]) ⟨rfl, ⟨rfl, trivial⟩⟩ ?_
      exact ww_X9_go_26 C hr hlk hmi  a1 2 s3 h
  · have h := h.2 c6
    refine dk_iconst (v := 1) C dX9_go_10 (n := 11) rfl (by decide) ?_
    refine dk_goto (t := 26) C dX9_go_11 (by decide) ?_
    refine dk_sub (L0 := [some (dk_r G 4 60), some (.int a1), none, none, none]) ⟨rfl, ⟨rfl, trivial⟩⟩ ?_
    exact ww_X9_go_26 C hr hlk hmi  a1 1 s1 h
/-! X9_rest -/
set_option maxRecDepth 20000 in
set_option maxHeartbeats 4000000 in
theorem ww_X9_rest_13 {G : dk_G} {P : Program} {l : Launch} {e : Env} {S0 : State} {m : MethodId} {args : Array Value} {bel : List Frame} {meth : Method} {c : Code}  (C : dk_C G P (dk_rm 9) S0 m args c 0 0 cX9_rest 1 RX9) (hr : meth.sig.returnType = (some .int)) (hlk : meth.locks = false) (hmi : dk_MI G) {K : Int32 → dk_S → Prop}  : ∀ (y0 : Int32) (s : dk_S), wf_X9_rest_13 K y0 s → dk_W G P l e (dk_rm 9) S0 m args bel meth c 0 0 (MQ bel (dk_Qc G (dk_ki K)) args S0 0 0 (dk_A G)) 13 [some (dk_r G 4 60)] [.int y0, dk_r G 4 60] s := by
  intro y0 s h
  unfold wf_X9_rest_13 at h
  refine dk_callVi C [] (cc_X9_goesOn C.D hmi h) yy_X9_goesOn dk_wm_X9_149 dk_sh60 (hmi 60 (by decide) (by decide)) dX9_rest_13 (fun r5 s4 h => ?_) rfl rfl ⟨Nat.le_of_ble_eq_true rfl, Nat.le_of_ble_eq_true rfl⟩ rfl (Nat.le_of_ble_eq_true rfl) rfl (n := 16) rfl
  refine dk_if_ne (t := 21) C dX9_rest_16 (n := 19) rfl (by decide) (fun c7 => ?_) (fun c7 => ?_)
  · have h := h.1 c7
    refine dk_aload_n (i := 0) C dX9_rest_21 (n := 22) rfl rfl rfl ?_
    refine dk_callVv C [] (cc_X9_ends C.D hmi h) yy_X9_ends dk_wm_X9_273 dk_sh60 (hmi 60 (by decide) (by decide)) dX9_rest_22 (fun s6 h => ?_) rfl rfl ⟨Nat.le_of_ble_eq_true rfl, Nat.le_of_ble_eq_true rfl⟩ rfl (Nat.le_of_ble_eq_true rfl) rfl (n := 25) rfl
    refine dk_aload_n (i := 0) C dX9_rest_25 (n := 26) rfl rfl rfl ?_
    refine gf_X9_133 C (hmi 60 (by decide) (by decide)) dX9_rest_26 (n := 29) rfl ?_
    exact dk_iret C hr hlk rfl dX9_rest_29 ⟨_, rfl, h⟩
  · have h := h.2 c7
    refine dk_iconst (v := 0) C dX9_rest_19 (n := 20) rfl (by decide) ?_
    exact dk_iret C hr hlk rfl dX9_rest_20 ⟨_, rfl, h⟩
set_option maxRecDepth 20000 in
set_option maxHeartbeats 4000000 in
theorem cc_X9_rest {G : dk_G} {l : Launch}  (hD : dk_D G) (hmi : dk_MI G) {s : dk_S} {K : Int32 → dk_S → Prop} (h : wf_X9_rest s K) : dk_M G l 9 yX9_rest cX9_rest 1 (some .int) [dk_r G 4 60] s (dk_ki K) := by
  refine dk_of hD (by decide) [some (dk_r G 4 60)] (fun q hq => hq) rfl (Nat.le_of_ble_eq_true rfl) (fun P e S0 m args bel meth c C hr hlk => ?_)
  unfold wf_X9_rest at h
  refine dk_aload_n (i := 0) C dX9_rest_0 (n := 1) rfl rfl rfl ?_
  refine dk_aload_n (i := 0) C dX9_rest_1 (n := 2) rfl rfl rfl ?_
  refine dk_callVi C [dk_r G 4 60] (cc_X9_isOn C.D hmi h) yy_X9_isOn dk_wm_X9_145 dk_sh60 (hmi 60 (by decide) (by decide)) dX9_rest_2 (fun r2 s1 h => ?_) rfl rfl ⟨Nat.le_of_ble_eq_true rfl, Nat.le_of_ble_eq_true rfl⟩ rfl (Nat.le_of_ble_eq_true rfl) rfl (n := 5) rfl
  refine dk_if_eq (t := 12) C dX9_rest_5 (n := 8) rfl (by decide) (fun c3 => ?_) (fun c3 => ?_)
  · have h := h.1 c3
    refine dk_iconst (v := 1) C dX9_rest_12 (n := 13) rfl (by decide) ?_
    refine dk_sub (L0 := [some (dk_r G 4 60)]) ⟨rfl, trivial⟩ ?_
    exact ww_X9_rest_13 C hr hlk hmi  1 s1 h
  · have h := h.2 c3
    refine dk_iconst (v := 0) C dX9_rest_8 (n := 9) rfl (by decide) ?_
    refine dk_goto (t := 13) C dX9_rest_9 (by decide) ?_
    refine dk_sub (L0 := [some (dk_r G 4 60)]) ⟨rfl, trivial⟩ ?_
    exact ww_X9_rest_13 C hr hlk hmi  0 s1 h
/-! X9_take -/
set_option maxRecDepth 20000 in
set_option maxHeartbeats 4000000 in
theorem ww_X9_take_62 {G : dk_G} {P : Program} {l : Launch} {e : Env} {S0 : State} {m : MethodId} {args : Array Value} {bel : List Frame} {meth : Method} {c : Code}  (C : dk_C G P (dk_rm 9) S0 m args c 0 0 cX9_take 4 RX9) (hr : meth.sig.returnType = (some .int)) (hlk : meth.locks = false) (hmi : dk_MI G) {K : Int32 → dk_S → Prop}  : ∀ (x1 : Int32) (y0 : Int32) (s : dk_S), wf_X9_take_62 K x1 y0 s → dk_W G P l e (dk_rm 9) S0 m args bel meth c 0 0 (MQ bel (dk_Qc G (dk_ki K)) args S0 0 0 (dk_A G)) 62 [some (dk_r G 4 60), some (.int x1), none, none] [.int y0] s := by
  intro x1 y0 s h
  unfold wf_X9_take_62 at h
  refine dk_istore_n (i := 2) (L' := [some (dk_r G 4 60), some (.int x1), some (.int y0), none]) C dX9_take_62 (n := 63) rfl rfl (dk_nc_of rfl) (Nat.le_of_ble_eq_true rfl) rfl ?_
  refine dk_aload_n (i := 0) C dX9_take_63 (n := 64) rfl rfl rfl ?_
  refine dk_iload_n (i := 2) C dX9_take_64 (n := 65) rfl rfl rfl ?_
  refine dk_callVi C [] (cc_X9_goesOn C.D hmi h) yy_X9_goesOn dk_wm_X9_149 dk_sh60 (hmi 60 (by decide) (by decide)) dX9_take_65 (fun r14 s13 h => ?_) rfl rfl ⟨Nat.le_of_ble_eq_true rfl, Nat.le_of_ble_eq_true rfl⟩ rfl (Nat.le_of_ble_eq_true rfl) rfl (n := 68) rfl
  refine dk_if_ne (t := 73) C dX9_take_68 (n := 71) rfl (by decide) (fun c19 => ?_) (fun c19 => ?_)
  · have h := h.1 c19
    refine dk_aload_n (i := 0) C dX9_take_73 (n := 74) rfl rfl rfl ?_
    refine gf_X9_83 C (hmi 60 (by decide) (by decide)) dX9_take_74 (n := 77) rfl ?_
    refine dk_iload_n (i := 1) C dX9_take_77 (n := 78) rfl rfl rfl ?_
    refine dk_iconst (v := (-1)) C dX9_take_78 (n := 79) rfl (by decide) ?_
    refine dk_iast C dk_sh82 h.1 (hmi 82 (by decide) (by decide)) dX9_take_79 (n := 80) rfl ?_
    refine dk_nameS (fun s15 es15 => ?_)
    have h := h.2 s15 es15
    refine dk_aload_n (i := 0) C dX9_take_80 (n := 81) rfl rfl rfl ?_
    refine dk_callVi C [] (cc_X9_carriedWeight C.D hmi h) yy_X9_carriedWeight dk_wm_X9_276 dk_sh60 (hmi 60 (by decide) (by decide)) dX9_take_81 (fun r17 s16 h => ?_) rfl rfl ⟨Nat.le_of_ble_eq_true rfl, Nat.le_of_ble_eq_true rfl⟩ rfl (Nat.le_of_ble_eq_true rfl) rfl (n := 84) rfl
    refine dk_istore_n (i := 3) (L' := [some (dk_r G 4 60), some (.int x1), some (.int y0), some (.int r17)]) C dX9_take_84 (n := 85) rfl rfl (dk_nc_of rfl) (Nat.le_of_ble_eq_true rfl) rfl ?_
    refine dk_aload_n (i := 0) C dX9_take_85 (n := 86) rfl rfl rfl ?_
    refine dk_callVv C [] (cc_X9_ends C.D hmi h) yy_X9_ends dk_wm_X9_273 dk_sh60 (hmi 60 (by decide) (by decide)) dX9_take_86 (fun s18 h => ?_) rfl rfl ⟨Nat.le_of_ble_eq_true rfl, Nat.le_of_ble_eq_true rfl⟩ rfl (Nat.le_of_ble_eq_true rfl) rfl (n := 89) rfl
    refine dk_iload_n (i := 3) C dX9_take_89 (n := 90) rfl rfl rfl ?_
    exact dk_iret C hr hlk rfl dX9_take_90 ⟨_, rfl, h⟩
  · have h := h.2 c19
    refine dk_iconst (v := 0) C dX9_take_71 (n := 72) rfl (by decide) ?_
    exact dk_iret C hr hlk rfl dX9_take_72 ⟨_, rfl, h⟩
set_option maxRecDepth 20000 in
set_option maxHeartbeats 4000000 in
theorem cc_X9_take {G : dk_G} {l : Launch} {a1 : Int32} (hD : dk_D G) (hmi : dk_MI G) {s : dk_S} {K : Int32 → dk_S → Prop} (h : wf_X9_take a1 s K) : dk_M G l 9 yX9_take cX9_take 4 (some .int) [dk_r G 4 60, .int a1] s (dk_ki K) := by
  refine dk_of hD (by decide) [some (dk_r G 4 60), some (.int a1), none, none] (fun q hq => hq) rfl (Nat.le_of_ble_eq_true rfl) (fun P e S0 m args bel meth c C hr hlk => ?_)
  unfold wf_X9_take at h
  refine dk_aload_n (i := 0) C dX9_take_0 (n := 1) rfl rfl rfl ?_
  refine dk_iload_n (i := 1) C dX9_take_1 (n := 2) rfl rfl rfl ?_
  refine dk_callVi C [] (cc_X9_isThing C.D hmi h) yy_X9_isThing dk_wm_X9_165 dk_sh60 (hmi 60 (by decide) (by decide)) dX9_take_2 (fun r2 s1 h => ?_) rfl rfl ⟨Nat.le_of_ble_eq_true rfl, Nat.le_of_ble_eq_true rfl⟩ rfl (Nat.le_of_ble_eq_true rfl) rfl (n := 5) rfl
  refine dk_if_ne (t := 12) C dX9_take_5 (n := 8) rfl (by decide) (fun c12 => ?_) (fun c12 => ?_)
  · have h := h.1 c12
    refine dk_aload_n (i := 0) C dX9_take_12 (n := 13) rfl rfl rfl ?_
    refine dk_callVi C [] (cc_X9_isOn C.D hmi h) yy_X9_isOn dk_wm_X9_145 dk_sh60 (hmi 60 (by decide) (by decide)) dX9_take_13 (fun r4 s3 h => ?_) rfl rfl ⟨Nat.le_of_ble_eq_true rfl, Nat.le_of_ble_eq_true rfl⟩ rfl (Nat.le_of_ble_eq_true rfl) rfl (n := 16) rfl
    refine dk_if_ne (t := 23) C dX9_take_16 (n := 19) rfl (by decide) (fun c11 => ?_) (fun c11 => ?_)
    · have h := h.1 c11
      refine dk_aload_n (i := 0) C dX9_take_23 (n := 24) rfl rfl rfl ?_
      refine gf_X9_83 C (hmi 60 (by decide) (by decide)) dX9_take_24 (n := 27) rfl ?_
      refine dk_iload_n (i := 1) C dX9_take_27 (n := 28) rfl rfl rfl ?_
      refine dk_iald C dk_sh82 h.1 (hmi 82 (by decide) (by decide)) dX9_take_28 (n := 29) rfl ?_
      have h := h.2
      refine dk_aload_n (i := 0) C dX9_take_29 (n := 30) rfl rfl rfl ?_
      refine gf_X9_65 C (hmi 60 (by decide) (by decide)) dX9_take_30 (n := 33) rfl ?_
      refine dk_iconst (v := 0) C dX9_take_33 (n := 34) rfl (by decide) ?_
      refine dk_iald C dk_sh76 h.1 (hmi 76 (by decide) (by decide)) dX9_take_34 (n := 35) rfl ?_
      have h := h.2
      refine dk_icmp_eq (t := 42) C dX9_take_35 (n := 38) rfl (by decide) (fun c10 => ?_) (fun c10 => ?_)
      · have h := h.1 c10
        refine dk_aload_n (i := 0) C dX9_take_42 (n := 43) rfl rfl rfl ?_
        refine dk_callVi C [] (cc_X9_carriedWeight C.D hmi h) yy_X9_carriedWeight dk_wm_X9_276 dk_sh60 (hmi 60 (by decide) (by decide)) dX9_take_43 (fun r6 s5 h => ?_) rfl rfl ⟨Nat.le_of_ble_eq_true rfl, Nat.le_of_ble_eq_true rfl⟩ rfl (Nat.le_of_ble_eq_true rfl) rfl (n := 46) rfl
        refine dk_aload_n (i := 0) C dX9_take_46 (n := 47) rfl rfl rfl ?_
        refine dk_iload_n (i := 1) C dX9_take_47 (n := 48) rfl rfl rfl ?_
        refine dk_callVi C [.int r6] (cc_X9_wholeWeight C.D hmi h) yy_X9_wholeWeight dk_wm_X9_279 dk_sh60 (hmi 60 (by decide) (by decide)) dX9_take_48 (fun r8 s7 h => ?_) rfl rfl ⟨Nat.le_of_ble_eq_true rfl, Nat.le_of_ble_eq_true rfl⟩ rfl (Nat.le_of_ble_eq_true rfl) rfl (n := 51) rfl
        refine dk_iadd C dX9_take_51 (n := 52) rfl ?_
        refine dk_bipush (v := 30) C dX9_take_52 (n := 54) rfl (by decide) ?_
        refine dk_icmp_le (t := 61) C dX9_take_54 (n := 57) rfl (by decide) (fun c9 => ?_) (fun c9 => ?_)
        · have h := h.1 c9
          refine dk_iconst (v := 0) C dX9_take_61 (n := 62) rfl (by decide) ?_
          refine dk_sub (L0 := [some (dk_r G 4 60), some (.int a1), none, none]) ⟨rfl, ⟨rfl, trivial⟩⟩ ?_
          exact ww_X9_take_62 C hr hlk hmi  a1 0 s7 h
        · have h := h.2 c9
          refine dk_iconst (v := 4) C dX9_take_57 (n := 58) rfl (by decide) ?_
          refine dk_goto (t := 62) C dX9_take_58 (by decide) ?_
          refine dk_sub (L0 := [some (dk_r G 4 60), some (.int a1), none, none]) ⟨rfl, ⟨rfl, trivial⟩⟩ ?_
          exact ww_X9_take_62 C hr hlk hmi  a1 4 s7 h
      · have h := h.2 c10
        refine dk_iconst (v := 3) C dX9_take_38 (n := 39) rfl (by decide) ?_
        refine dk_goto (t := 62) C dX9_take_39 (by decide) ?_
        refine dk_sub (L0 := [some (dk_r G 4 60), some (.int a1), none, none]) ⟨rfl, ⟨rfl, trivial⟩⟩ ?_
        exact ww_X9_take_62 C hr hlk hmi  a1 3 s3 h
    · have h := h.2 c11
      refine dk_iconst (v := 2) C dX9_take_19 (n := 20) rfl (by decide) ?_
      refine dk_goto (t := 62) C dX9_take_20 (by decide) ?_
      refine dk_sub (L0 := [some (dk_r G 4 60), some (.int a1), none, none]) ⟨rfl, ⟨rfl, trivial⟩⟩ ?_
      exact ww_X9_take_62 C hr hlk hmi  a1 2 s3 h
  · have h := h.2 c12
    refine dk_iconst (v := 1) C dX9_take_8 (n := 9) rfl (by decide) ?_
    refine dk_goto (t := 62) C dX9_take_9 (by decide) ?_
    refine dk_sub (L0 := [some (dk_r G 4 60), some (.int a1), none, none]) ⟨rfl, ⟨rfl, trivial⟩⟩ ?_
    exact ww_X9_take_62 C hr hlk hmi  a1 1 s1 h
/-! X9_handFault -/
set_option maxRecDepth 20000 in
set_option maxHeartbeats 4000000 in
theorem cc_X9_handFault {G : dk_G} {l : Launch} {a1 : Int32} (hD : dk_D G) (hmi : dk_MI G) {s : dk_S} {K : Int32 → dk_S → Prop} (h : wf_X9_handFault a1 s K) : dk_M G l 3 yX9_handFault cX9_handFault 2 (some .int) [dk_r G 4 60, .int a1] s (dk_ki K) := by
  refine dk_of hD (by decide) [some (dk_r G 4 60), some (.int a1)] (fun q hq => hq) rfl (Nat.le_of_ble_eq_true rfl) (fun P e S0 m args bel meth c C hr hlk => ?_)
  unfold wf_X9_handFault at h
  refine dk_aload_n (i := 0) C dX9_handFault_0 (n := 1) rfl rfl rfl ?_
  refine dk_iload_n (i := 1) C dX9_handFault_1 (n := 2) rfl rfl rfl ?_
  refine dk_callVi C [] (cc_X9_isThing C.D hmi h) yy_X9_isThing dk_wm_X9_165 dk_sh60 (hmi 60 (by decide) (by decide)) dX9_handFault_2 (fun r2 s1 h => ?_) rfl rfl ⟨Nat.le_of_ble_eq_true rfl, Nat.le_of_ble_eq_true rfl⟩ rfl (Nat.le_of_ble_eq_true rfl) rfl (n := 5) rfl
  refine dk_if_ne (t := 12) C dX9_handFault_5 (n := 8) rfl (by decide) (fun c7 => ?_) (fun c7 => ?_)
  · have h := h.1 c7
    refine dk_aload_n (i := 0) C dX9_handFault_12 (n := 13) rfl rfl rfl ?_
    refine dk_callVi C [] (cc_X9_isOn C.D hmi h) yy_X9_isOn dk_wm_X9_145 dk_sh60 (hmi 60 (by decide) (by decide)) dX9_handFault_13 (fun r4 s3 h => ?_) rfl rfl ⟨Nat.le_of_ble_eq_true rfl, Nat.le_of_ble_eq_true rfl⟩ rfl (Nat.le_of_ble_eq_true rfl) rfl (n := 16) rfl
    refine dk_if_ne (t := 23) C dX9_handFault_16 (n := 19) rfl (by decide) (fun c6 => ?_) (fun c6 => ?_)
    · have h := h.1 c6
      refine dk_aload_n (i := 0) C dX9_handFault_23 (n := 24) rfl rfl rfl ?_
      refine gf_X9_83 C (hmi 60 (by decide) (by decide)) dX9_handFault_24 (n := 27) rfl ?_
      refine dk_iload_n (i := 1) C dX9_handFault_27 (n := 28) rfl rfl rfl ?_
      refine dk_iald C dk_sh82 h.1 (hmi 82 (by decide) (by decide)) dX9_handFault_28 (n := 29) rfl ?_
      have h := h.2
      refine dk_iconst (v := (-1)) C dX9_handFault_29 (n := 30) rfl (by decide) ?_
      refine dk_icmp_eq (t := 37) C dX9_handFault_30 (n := 33) rfl (by decide) (fun c5 => ?_) (fun c5 => ?_)
      · have h := h.1 c5
        refine dk_iconst (v := 0) C dX9_handFault_37 (n := 38) rfl (by decide) ?_
        exact dk_iret C hr hlk rfl dX9_handFault_38 ⟨_, rfl, h⟩
      · have h := h.2 c5
        refine dk_iconst (v := 3) C dX9_handFault_33 (n := 34) rfl (by decide) ?_
        refine dk_goto (t := 38) C dX9_handFault_34 (by decide) ?_
        exact dk_iret C hr hlk rfl dX9_handFault_38 ⟨_, rfl, h⟩
    · have h := h.2 c6
      refine dk_iconst (v := 2) C dX9_handFault_19 (n := 20) rfl (by decide) ?_
      refine dk_goto (t := 38) C dX9_handFault_20 (by decide) ?_
      exact dk_iret C hr hlk rfl dX9_handFault_38 ⟨_, rfl, h⟩
  · have h := h.2 c7
    refine dk_iconst (v := 1) C dX9_handFault_8 (n := 9) rfl (by decide) ?_
    refine dk_goto (t := 38) C dX9_handFault_9 (by decide) ?_
    exact dk_iret C hr hlk rfl dX9_handFault_38 ⟨_, rfl, h⟩
/-! X9_drop -/
set_option maxRecDepth 20000 in
set_option maxHeartbeats 4000000 in
theorem cc_X9_drop {G : dk_G} {l : Launch} {a1 : Int32} (hD : dk_D G) (hmi : dk_MI G) {s : dk_S} {K : Int32 → dk_S → Prop} (h : wf_X9_drop a1 s K) : dk_M G l 9 yX9_drop cX9_drop 3 (some .int) [dk_r G 4 60, .int a1] s (dk_ki K) := by
  refine dk_of hD (by decide) [some (dk_r G 4 60), some (.int a1), none] (fun q hq => hq) rfl (Nat.le_of_ble_eq_true rfl) (fun P e S0 m args bel meth c C hr hlk => ?_)
  unfold wf_X9_drop at h
  refine dk_aload_n (i := 0) C dX9_drop_0 (n := 1) rfl rfl rfl ?_
  refine dk_aload_n (i := 0) C dX9_drop_1 (n := 2) rfl rfl rfl ?_
  refine dk_iload_n (i := 1) C dX9_drop_2 (n := 3) rfl rfl rfl ?_
  refine dk_callVi C [dk_r G 4 60] (cc_X9_handFault C.D hmi h) yy_X9_handFault dk_wm_X9_282 dk_sh60 (hmi 60 (by decide) (by decide)) dX9_drop_3 (fun r2 s1 h => ?_) rfl rfl ⟨Nat.le_of_ble_eq_true rfl, Nat.le_of_ble_eq_true rfl⟩ rfl (Nat.le_of_ble_eq_true rfl) rfl (n := 6) rfl
  refine dk_callVi C [] (cc_X9_goesOn C.D hmi h) yy_X9_goesOn dk_wm_X9_149 dk_sh60 (hmi 60 (by decide) (by decide)) dX9_drop_6 (fun r4 s3 h => ?_) rfl rfl ⟨Nat.le_of_ble_eq_true rfl, Nat.le_of_ble_eq_true rfl⟩ rfl (Nat.le_of_ble_eq_true rfl) rfl (n := 9) rfl
  refine dk_if_ne (t := 14) C dX9_drop_9 (n := 12) rfl (by decide) (fun c9 => ?_) (fun c9 => ?_)
  · have h := h.1 c9
    refine dk_aload_n (i := 0) C dX9_drop_14 (n := 15) rfl rfl rfl ?_
    refine gf_X9_83 C (hmi 60 (by decide) (by decide)) dX9_drop_15 (n := 18) rfl ?_
    refine dk_iload_n (i := 1) C dX9_drop_18 (n := 19) rfl rfl rfl ?_
    refine dk_aload_n (i := 0) C dX9_drop_19 (n := 20) rfl rfl rfl ?_
    refine gf_X9_65 C (hmi 60 (by decide) (by decide)) dX9_drop_20 (n := 23) rfl ?_
    refine dk_iconst (v := 0) C dX9_drop_23 (n := 24) rfl (by decide) ?_
    refine dk_iald C dk_sh76 h.1 (hmi 76 (by decide) (by decide)) dX9_drop_24 (n := 25) rfl ?_
    have h := h.2
    refine dk_iast C dk_sh82 h.1 (hmi 82 (by decide) (by decide)) dX9_drop_25 (n := 26) rfl ?_
    refine dk_nameS (fun s5 es5 => ?_)
    have h := h.2 s5 es5
    refine dk_aload_n (i := 0) C dX9_drop_26 (n := 27) rfl rfl rfl ?_
    refine dk_callVi C [] (cc_X9_carriedWeight C.D hmi h) yy_X9_carriedWeight dk_wm_X9_276 dk_sh60 (hmi 60 (by decide) (by decide)) dX9_drop_27 (fun r7 s6 h => ?_) rfl rfl ⟨Nat.le_of_ble_eq_true rfl, Nat.le_of_ble_eq_true rfl⟩ rfl (Nat.le_of_ble_eq_true rfl) rfl (n := 30) rfl
    refine dk_istore_n (i := 2) (L' := [some (dk_r G 4 60), some (.int a1), some (.int r7)]) C dX9_drop_30 (n := 31) rfl rfl (dk_nc_of rfl) (Nat.le_of_ble_eq_true rfl) rfl ?_
    refine dk_aload_n (i := 0) C dX9_drop_31 (n := 32) rfl rfl rfl ?_
    refine dk_callVv C [] (cc_X9_ends C.D hmi h) yy_X9_ends dk_wm_X9_273 dk_sh60 (hmi 60 (by decide) (by decide)) dX9_drop_32 (fun s8 h => ?_) rfl rfl ⟨Nat.le_of_ble_eq_true rfl, Nat.le_of_ble_eq_true rfl⟩ rfl (Nat.le_of_ble_eq_true rfl) rfl (n := 35) rfl
    refine dk_iload_n (i := 2) C dX9_drop_35 (n := 36) rfl rfl rfl ?_
    exact dk_iret C hr hlk rfl dX9_drop_36 ⟨_, rfl, h⟩
  · have h := h.2 c9
    refine dk_iconst (v := 0) C dX9_drop_12 (n := 13) rfl (by decide) ?_
    exact dk_iret C hr hlk rfl dX9_drop_13 ⟨_, rfl, h⟩
/-! X9_pack -/
set_option maxRecDepth 20000 in
set_option maxHeartbeats 4000000 in
theorem ww_X9_pack_172 {G : dk_G} {P : Program} {l : Launch} {e : Env} {S0 : State} {m : MethodId} {args : Array Value} {bel : List Frame} {meth : Method} {c : Code}  (C : dk_C G P (dk_rm 9) S0 m args c 0 0 cX9_pack 8 RX9) (hr : meth.sig.returnType = (some .int)) (hlk : meth.locks = false) (hmi : dk_MI G) {K : Int32 → dk_S → Prop}  : ∀ (n : Nat) (x1 : Int32) (x6 : Int32) (x7 : Int32) (s : dk_S), wf_X9_pack_172 K n x1 x6 x7 s → dk_W G P l e (dk_rm 9) S0 m args bel meth c 0 0 (MQ bel (dk_Qc G (dk_ki K)) args S0 0 0 (dk_A G)) 172 [some (dk_r G 4 60), some (.int x1), none, none, none, none, some (.int x6), some (.int x7)] [] s := by
  intro n
  induction n with
  | zero => intro x1 x6 x7 s h; exact False.elim h
  | succ n hB =>
    intro x1 x6 x7 s h
    unfold wf_X9_pack_172 at h
    refine dk_iload C dX9_pack_172 (n := 174) rfl (i := 7) rfl ?_
    refine dk_aload_n (i := 0) C dX9_pack_174 (n := 175) rfl rfl rfl ?_
    refine gf_X9_162 C (hmi 60 (by decide) (by decide)) dX9_pack_175 (n := 178) rfl ?_
    refine dk_icmp_ge (t := 213) C dX9_pack_178 (n := 181) rfl (by decide) (fun c48 => ?_) (fun c48 => ?_)
    · have h := h.1 c48
      refine dk_aload_n (i := 0) C dX9_pack_213 (n := 214) rfl rfl rfl ?_
      refine dk_callVv C [] (cc_X9_ends C.D hmi h) yy_X9_ends dk_wm_X9_273 dk_sh60 (hmi 60 (by decide) (by decide)) dX9_pack_214 (fun s42 h => ?_) rfl rfl ⟨Nat.le_of_ble_eq_true rfl, Nat.le_of_ble_eq_true rfl⟩ rfl (Nat.le_of_ble_eq_true rfl) rfl (n := 217) rfl
      refine dk_iload C dX9_pack_217 (n := 219) rfl (i := 6) rfl ?_
      exact dk_iret C hr hlk rfl dX9_pack_219 ⟨_, rfl, h⟩
    · have h := h.2 c48
      refine dk_iload C dX9_pack_181 (n := 183) rfl (i := 6) rfl ?_
      refine dk_aload_n (i := 0) C dX9_pack_183 (n := 184) rfl rfl rfl ?_
      refine gf_X9_83 C (hmi 60 (by decide) (by decide)) dX9_pack_184 (n := 187) rfl ?_
      refine dk_iload C dX9_pack_187 (n := 189) rfl (i := 7) rfl ?_
      refine dk_iald C dk_sh82 h.1 (hmi 82 (by decide) (by decide)) dX9_pack_189 (n := 190) rfl ?_
      have h := h.2
      refine dk_aload_n (i := 0) C dX9_pack_190 (n := 191) rfl rfl rfl ?_
      refine gf_X9_83 C (hmi 60 (by decide) (by decide)) dX9_pack_191 (n := 194) rfl ?_
      refine dk_iload_n (i := 1) C dX9_pack_194 (n := 195) rfl rfl rfl ?_
      refine dk_iald C dk_sh82 h.1 (hmi 82 (by decide) (by decide)) dX9_pack_195 (n := 196) rfl ?_
      have h := h.2
      refine dk_icmp_ne (t := 203) C dX9_pack_196 (n := 199) rfl (by decide) (fun c47 => ?_) (fun c47 => ?_)
      · have h := h.1 c47
        refine dk_iconst (v := 0) C dX9_pack_203 (n := 204) rfl (by decide) ?_
        refine dk_iadd C dX9_pack_204 (n := 205) rfl ?_
        refine dk_name (fun v43 ev43 => ?_)
        have h := h v43 ev43
        refine dk_istore (i := 6) (L' := [some (dk_r G 4 60), some (.int x1), none, none, none, none, some (.int v43), some (.int x7)]) C dX9_pack_205 (n := 207) rfl (dk_nc_of rfl) (Nat.le_of_ble_eq_true rfl) rfl ?_
        obtain ⟨v44, ev44⟩ : ∃ y : Int32, y = x7 + 1 := ⟨_, rfl⟩
        have h := h v44 ev44
        refine dk_iinc (i := 7) (v := v44) (L' := [some (dk_r G 4 60), some (.int x1), none, none, none, none, some (.int v43), some (.int v44)]) C dX9_pack_207 (n := 210) rfl rfl (by rw [ev44]; rfl) (dk_nc_of rfl) (Nat.le_of_ble_eq_true rfl) rfl ?_
        refine dk_goto (t := 172) C dX9_pack_210 (by decide) ?_
        refine dk_sub (L0 := [some (dk_r G 4 60), some (.int x1), none, none, none, none, some (.int v43), some (.int v44)]) ⟨rfl, ⟨rfl, ⟨rfl, ⟨rfl, trivial⟩⟩⟩⟩ ?_
        exact hB x1 v43 v44 s h
      · have h := h.2 c47
        refine dk_iconst (v := 1) C dX9_pack_199 (n := 200) rfl (by decide) ?_
        refine dk_goto (t := 204) C dX9_pack_200 (by decide) ?_
        refine dk_iadd C dX9_pack_204 (n := 205) rfl ?_
        refine dk_name (fun v45 ev45 => ?_)
        have h := h v45 ev45
        refine dk_istore (i := 6) (L' := [some (dk_r G 4 60), some (.int x1), none, none, none, none, some (.int v45), some (.int x7)]) C dX9_pack_205 (n := 207) rfl (dk_nc_of rfl) (Nat.le_of_ble_eq_true rfl) rfl ?_
        obtain ⟨v46, ev46⟩ : ∃ y : Int32, y = x7 + 1 := ⟨_, rfl⟩
        have h := h v46 ev46
        refine dk_iinc (i := 7) (v := v46) (L' := [some (dk_r G 4 60), some (.int x1), none, none, none, none, some (.int v45), some (.int v46)]) C dX9_pack_207 (n := 210) rfl rfl (by rw [ev46]; rfl) (dk_nc_of rfl) (Nat.le_of_ble_eq_true rfl) rfl ?_
        refine dk_goto (t := 172) C dX9_pack_210 (by decide) ?_
        refine dk_sub (L0 := [some (dk_r G 4 60), some (.int x1), none, none, none, none, some (.int v45), some (.int v46)]) ⟨rfl, ⟨rfl, ⟨rfl, ⟨rfl, trivial⟩⟩⟩⟩ ?_
        exact hB x1 v45 v46 s h
set_option maxRecDepth 20000 in
set_option maxHeartbeats 4000000 in
theorem ww_X9_pack_139 {G : dk_G} {P : Program} {l : Launch} {e : Env} {S0 : State} {m : MethodId} {args : Array Value} {bel : List Frame} {meth : Method} {c : Code}  (C : dk_C G P (dk_rm 9) S0 m args c 0 0 cX9_pack 8 RX9) (hr : meth.sig.returnType = (some .int)) (hlk : meth.locks = false) (hmi : dk_MI G) {K : Int32 → dk_S → Prop}  : ∀ (x1 : Int32) (x2 : Int32) (y0 : Int32) (s : dk_S), wf_X9_pack_139 K x1 x2 y0 s → dk_W G P l e (dk_rm 9) S0 m args bel meth c 0 0 (MQ bel (dk_Qc G (dk_ki K)) args S0 0 0 (dk_A G)) 139 [some (dk_r G 4 60), some (.int x1), some (.int x2), none, none, none, none, none] [.int y0, dk_r G 4 60] s := by
  intro x1 x2 y0 s h
  unfold wf_X9_pack_139 at h
  refine dk_callVi C [] (cc_X9_goesOn C.D hmi h) yy_X9_goesOn dk_wm_X9_149 dk_sh60 (hmi 60 (by decide) (by decide)) dX9_pack_139 (fun r35 s34 h => ?_) rfl rfl ⟨Nat.le_of_ble_eq_true rfl, Nat.le_of_ble_eq_true rfl⟩ rfl (Nat.le_of_ble_eq_true rfl) rfl (n := 142) rfl
  refine dk_if_ne (t := 147) C dX9_pack_142 (n := 145) rfl (by decide) (fun c41 => ?_) (fun c41 => ?_)
  · have h := h.1 c41
    refine dk_aload_n (i := 0) C dX9_pack_147 (n := 148) rfl rfl rfl ?_
    refine gf_X9_83 C (hmi 60 (by decide) (by decide)) dX9_pack_148 (n := 151) rfl ?_
    refine dk_iload_n (i := 1) C dX9_pack_151 (n := 152) rfl rfl rfl ?_
    refine dk_iload_n (i := 2) C dX9_pack_152 (n := 153) rfl rfl rfl ?_
    refine dk_iconst (v := (-1)) C dX9_pack_153 (n := 154) rfl (by decide) ?_
    refine dk_icmp_ne (t := 161) C dX9_pack_154 (n := 157) rfl (by decide) (fun c40 => ?_) (fun c40 => ?_)
    · have h := h.1 c40
      refine dk_bipush (v := (-3)) C dX9_pack_161 (n := 163) rfl (by decide) ?_
      refine dk_iload_n (i := 2) C dX9_pack_163 (n := 164) rfl rfl rfl ?_
      refine dk_isub C dX9_pack_164 (n := 165) rfl ?_
      refine dk_iast C dk_sh82 h.1 (hmi 82 (by decide) (by decide)) dX9_pack_165 (n := 166) rfl ?_
      refine dk_nameS (fun s36 es36 => ?_)
      have h := h.2 s36 es36
      refine dk_iconst (v := 0) C dX9_pack_166 (n := 167) rfl (by decide) ?_
      refine dk_istore (i := 6) (L' := [some (dk_r G 4 60), some (.int x1), some (.int x2), none, none, none, some (.int 0), none]) C dX9_pack_167 (n := 169) rfl (dk_nc_of rfl) (Nat.le_of_ble_eq_true rfl) rfl ?_
      refine dk_iconst (v := 0) C dX9_pack_169 (n := 170) rfl (by decide) ?_
      refine dk_istore (i := 7) (L' := [some (dk_r G 4 60), some (.int x1), some (.int x2), none, none, none, some (.int 0), some (.int 0)]) C dX9_pack_170 (n := 172) rfl (dk_nc_of rfl) (Nat.le_of_ble_eq_true rfl) rfl ?_
      obtain ⟨nn37, h⟩ := h
      refine dk_sub (L0 := [some (dk_r G 4 60), some (.int x1), none, none, none, none, some (.int 0), some (.int 0)]) ⟨rfl, ⟨rfl, ⟨rfl, ⟨rfl, trivial⟩⟩⟩⟩ ?_
      refine ww_X9_pack_172 C hr hlk hmi  nn37 x1 0 0 s36 h
    · have h := h.2 c40
      refine dk_iconst (v := (-1)) C dX9_pack_157 (n := 158) rfl (by decide) ?_
      refine dk_goto (t := 165) C dX9_pack_158 (by decide) ?_
      refine dk_iast C dk_sh82 h.1 (hmi 82 (by decide) (by decide)) dX9_pack_165 (n := 166) rfl ?_
      refine dk_nameS (fun s38 es38 => ?_)
      have h := h.2 s38 es38
      refine dk_iconst (v := 0) C dX9_pack_166 (n := 167) rfl (by decide) ?_
      refine dk_istore (i := 6) (L' := [some (dk_r G 4 60), some (.int x1), some (.int x2), none, none, none, some (.int 0), none]) C dX9_pack_167 (n := 169) rfl (dk_nc_of rfl) (Nat.le_of_ble_eq_true rfl) rfl ?_
      refine dk_iconst (v := 0) C dX9_pack_169 (n := 170) rfl (by decide) ?_
      refine dk_istore (i := 7) (L' := [some (dk_r G 4 60), some (.int x1), some (.int x2), none, none, none, some (.int 0), some (.int 0)]) C dX9_pack_170 (n := 172) rfl (dk_nc_of rfl) (Nat.le_of_ble_eq_true rfl) rfl ?_
      obtain ⟨nn39, h⟩ := h
      refine dk_sub (L0 := [some (dk_r G 4 60), some (.int x1), none, none, none, none, some (.int 0), some (.int 0)]) ⟨rfl, ⟨rfl, ⟨rfl, ⟨rfl, trivial⟩⟩⟩⟩ ?_
      refine ww_X9_pack_172 C hr hlk hmi  nn39 x1 0 0 s38 h
  · have h := h.2 c41
    refine dk_iconst (v := 0) C dX9_pack_145 (n := 146) rfl (by decide) ?_
    exact dk_iret C hr hlk rfl dX9_pack_146 ⟨_, rfl, h⟩
set_option maxRecDepth 20000 in
set_option maxHeartbeats 4000000 in
theorem ww_X9_pack_109 {G : dk_G} {P : Program} {l : Launch} {e : Env} {S0 : State} {m : MethodId} {args : Array Value} {bel : List Frame} {meth : Method} {c : Code}  (C : dk_C G P (dk_rm 9) S0 m args c 0 0 cX9_pack 8 RX9) (hr : meth.sig.returnType = (some .int)) (hlk : meth.locks = false) (hmi : dk_MI G) {K : Int32 → dk_S → Prop}  : ∀ (x1 : Int32) (x2 : Int32) (x3 : Int32) (x4 : Int32) (y0 : Int32) (s : dk_S), wf_X9_pack_109 K x1 x2 x3 x4 y0 s → dk_W G P l e (dk_rm 9) S0 m args bel meth c 0 0 (MQ bel (dk_Qc G (dk_ki K)) args S0 0 0 (dk_A G)) 109 [some (dk_r G 4 60), some (.int x1), some (.int x2), some (.int x3), some (.int x4), none, none, none] [.int y0] s := by
  intro x1 x2 x3 x4 y0 s h
  unfold wf_X9_pack_109 at h
  refine dk_istore (i := 5) (L' := [some (dk_r G 4 60), some (.int x1), some (.int x2), some (.int x3), some (.int x4), some (.int y0), none, none]) C dX9_pack_109 (n := 111) rfl (dk_nc_of rfl) (Nat.le_of_ble_eq_true rfl) rfl ?_
  refine dk_aload_n (i := 0) C dX9_pack_111 (n := 112) rfl rfl rfl ?_
  refine dk_iload_n (i := 3) C dX9_pack_112 (n := 113) rfl rfl rfl ?_
  refine dk_if_eq (t := 120) C dX9_pack_113 (n := 116) rfl (by decide) (fun c33 => ?_) (fun c33 => ?_)
  · have h := h.1 c33
    refine dk_iload C dX9_pack_120 (n := 122) rfl (i := 4) rfl ?_
    refine dk_if_ne (t := 129) C dX9_pack_122 (n := 125) rfl (by decide) (fun c32 => ?_) (fun c32 => ?_)
    · have h := h.1 c32
      refine dk_iload C dX9_pack_129 (n := 131) rfl (i := 5) rfl ?_
      refine dk_if_eq (t := 138) C dX9_pack_131 (n := 134) rfl (by decide) (fun c31 => ?_) (fun c31 => ?_)
      · have h := h.1 c31
        refine dk_iconst (v := 0) C dX9_pack_138 (n := 139) rfl (by decide) ?_
        refine dk_sub (L0 := [some (dk_r G 4 60), some (.int x1), some (.int x2), none, none, none, none, none]) ⟨rfl, ⟨rfl, ⟨rfl, trivial⟩⟩⟩ ?_
        exact ww_X9_pack_139 C hr hlk hmi  x1 x2 0 s h
      · have h := h.2 c31
        refine dk_iconst (v := 4) C dX9_pack_134 (n := 135) rfl (by decide) ?_
        refine dk_goto (t := 139) C dX9_pack_135 (by decide) ?_
        refine dk_sub (L0 := [some (dk_r G 4 60), some (.int x1), some (.int x2), none, none, none, none, none]) ⟨rfl, ⟨rfl, ⟨rfl, trivial⟩⟩⟩ ?_
        exact ww_X9_pack_139 C hr hlk hmi  x1 x2 4 s h
    · have h := h.2 c32
      refine dk_iconst (v := 3) C dX9_pack_125 (n := 126) rfl (by decide) ?_
      refine dk_goto (t := 139) C dX9_pack_126 (by decide) ?_
      refine dk_sub (L0 := [some (dk_r G 4 60), some (.int x1), some (.int x2), none, none, none, none, none]) ⟨rfl, ⟨rfl, ⟨rfl, trivial⟩⟩⟩ ?_
      exact ww_X9_pack_139 C hr hlk hmi  x1 x2 3 s h
  · have h := h.2 c33
    refine dk_iload_n (i := 3) C dX9_pack_116 (n := 117) rfl rfl rfl ?_
    refine dk_goto (t := 139) C dX9_pack_117 (by decide) ?_
    refine dk_sub (L0 := [some (dk_r G 4 60), some (.int x1), some (.int x2), none, none, none, none, none]) ⟨rfl, ⟨rfl, ⟨rfl, trivial⟩⟩⟩ ?_
    exact ww_X9_pack_139 C hr hlk hmi  x1 x2 x3 s h
set_option maxRecDepth 20000 in
set_option maxHeartbeats 4000000 in
theorem ww_X9_pack_70 {G : dk_G} {P : Program} {l : Launch} {e : Env} {S0 : State} {m : MethodId} {args : Array Value} {bel : List Frame} {meth : Method} {c : Code}  (C : dk_C G P (dk_rm 9) S0 m args c 0 0 cX9_pack 8 RX9) (hr : meth.sig.returnType = (some .int)) (hlk : meth.locks = false) (hmi : dk_MI G) {K : Int32 → dk_S → Prop}  : ∀ (x1 : Int32) (x2 : Int32) (x3 : Int32) (y0 : Int32) (s : dk_S), wf_X9_pack_70 K x1 x2 x3 y0 s → dk_W G P l e (dk_rm 9) S0 m args bel meth c 0 0 (MQ bel (dk_Qc G (dk_ki K)) args S0 0 0 (dk_A G)) 70 [some (dk_r G 4 60), some (.int x1), some (.int x2), some (.int x3), none, none, none, none] [.int y0] s := by
  intro x1 x2 x3 y0 s h
  unfold wf_X9_pack_70 at h
  refine dk_istore (i := 4) (L' := [some (dk_r G 4 60), some (.int x1), some (.int x2), some (.int x3), some (.int y0), none, none, none]) C dX9_pack_70 (n := 72) rfl (dk_nc_of rfl) (Nat.le_of_ble_eq_true rfl) rfl ?_
  refine dk_iload C dX9_pack_72 (n := 74) rfl (i := 4) rfl ?_
  refine dk_if_eq (t := 108) C dX9_pack_74 (n := 77) rfl (by decide) (fun c30 => ?_) (fun c30 => ?_)
  · have h := h.1 c30
    refine dk_iconst (v := 0) C dX9_pack_108 (n := 109) rfl (by decide) ?_
    refine dk_sub (L0 := [some (dk_r G 4 60), some (.int x1), some (.int x2), some (.int x3), some (.int y0), none, none, none]) ⟨rfl, ⟨rfl, ⟨rfl, ⟨rfl, ⟨rfl, trivial⟩⟩⟩⟩⟩ ?_
    exact ww_X9_pack_109 C hr hlk hmi  x1 x2 x3 y0 0 s h
  · have h := h.2 c30
    refine dk_iload_n (i := 2) C dX9_pack_77 (n := 78) rfl rfl rfl ?_
    refine dk_iconst (v := (-1)) C dX9_pack_78 (n := 79) rfl (by decide) ?_
    refine dk_icmp_eq (t := 108) C dX9_pack_79 (n := 82) rfl (by decide) (fun c29 => ?_) (fun c29 => ?_)
    · have h := h.1 c29
      refine dk_iconst (v := 0) C dX9_pack_108 (n := 109) rfl (by decide) ?_
      refine dk_sub (L0 := [some (dk_r G 4 60), some (.int x1), some (.int x2), some (.int x3), some (.int y0), none, none, none]) ⟨rfl, ⟨rfl, ⟨rfl, ⟨rfl, ⟨rfl, trivial⟩⟩⟩⟩⟩ ?_
      exact ww_X9_pack_109 C hr hlk hmi  x1 x2 x3 y0 0 s h
    · have h := h.2 c29
      refine dk_aload_n (i := 0) C dX9_pack_82 (n := 83) rfl rfl rfl ?_
      refine dk_iload_n (i := 2) C dX9_pack_83 (n := 84) rfl rfl rfl ?_
      refine dk_callVi C [] (cc_X9_isBag C.D hmi h) yy_X9_isBag dk_wm_X9_285 dk_sh60 (hmi 60 (by decide) (by decide)) dX9_pack_84 (fun r23 s22 h => ?_) rfl rfl ⟨Nat.le_of_ble_eq_true rfl, Nat.le_of_ble_eq_true rfl⟩ rfl (Nat.le_of_ble_eq_true rfl) rfl (n := 87) rfl
      refine dk_if_eq (t := 104) C dX9_pack_87 (n := 90) rfl (by decide) (fun c28 => ?_) (fun c28 => ?_)
      · have h := h.1 c28
        refine dk_iconst (v := 1) C dX9_pack_104 (n := 105) rfl (by decide) ?_
        refine dk_goto (t := 109) C dX9_pack_105 (by decide) ?_
        refine dk_sub (L0 := [some (dk_r G 4 60), some (.int x1), some (.int x2), some (.int x3), some (.int y0), none, none, none]) ⟨rfl, ⟨rfl, ⟨rfl, ⟨rfl, ⟨rfl, trivial⟩⟩⟩⟩⟩ ?_
        exact ww_X9_pack_109 C hr hlk hmi  x1 x2 x3 y0 1 s22 h
      · have h := h.2 c28
        refine dk_iload_n (i := 2) C dX9_pack_90 (n := 91) rfl rfl rfl ?_
        refine dk_iload_n (i := 1) C dX9_pack_91 (n := 92) rfl rfl rfl ?_
        refine dk_icmp_eq (t := 104) C dX9_pack_92 (n := 95) rfl (by decide) (fun c27 => ?_) (fun c27 => ?_)
        · have h := h.1 c27
          refine dk_iconst (v := 1) C dX9_pack_104 (n := 105) rfl (by decide) ?_
          refine dk_goto (t := 109) C dX9_pack_105 (by decide) ?_
          refine dk_sub (L0 := [some (dk_r G 4 60), some (.int x1), some (.int x2), some (.int x3), some (.int y0), none, none, none]) ⟨rfl, ⟨rfl, ⟨rfl, ⟨rfl, ⟨rfl, trivial⟩⟩⟩⟩⟩ ?_
          exact ww_X9_pack_109 C hr hlk hmi  x1 x2 x3 y0 1 s22 h
        · have h := h.2 c27
          refine dk_aload_n (i := 0) C dX9_pack_95 (n := 96) rfl rfl rfl ?_
          refine dk_iload_n (i := 2) C dX9_pack_96 (n := 97) rfl rfl rfl ?_
          refine dk_iload_n (i := 1) C dX9_pack_97 (n := 98) rfl rfl rfl ?_
          refine dk_callVi C [] (cc_X9_isWithin C.D hmi h) yy_X9_isWithin dk_wm_X9_203 dk_sh60 (hmi 60 (by decide) (by decide)) dX9_pack_98 (fun r25 s24 h => ?_) rfl rfl ⟨Nat.le_of_ble_eq_true rfl, Nat.le_of_ble_eq_true rfl⟩ rfl (Nat.le_of_ble_eq_true rfl) rfl (n := 101) rfl
          refine dk_if_eq (t := 108) C dX9_pack_101 (n := 104) rfl (by decide) (fun c26 => ?_) (fun c26 => ?_)
          · have h := h.1 c26
            refine dk_iconst (v := 0) C dX9_pack_108 (n := 109) rfl (by decide) ?_
            refine dk_sub (L0 := [some (dk_r G 4 60), some (.int x1), some (.int x2), some (.int x3), some (.int y0), none, none, none]) ⟨rfl, ⟨rfl, ⟨rfl, ⟨rfl, ⟨rfl, trivial⟩⟩⟩⟩⟩ ?_
            exact ww_X9_pack_109 C hr hlk hmi  x1 x2 x3 y0 0 s24 h
          · have h := h.2 c26
            refine dk_iconst (v := 1) C dX9_pack_104 (n := 105) rfl (by decide) ?_
            refine dk_goto (t := 109) C dX9_pack_105 (by decide) ?_
            refine dk_sub (L0 := [some (dk_r G 4 60), some (.int x1), some (.int x2), some (.int x3), some (.int y0), none, none, none]) ⟨rfl, ⟨rfl, ⟨rfl, ⟨rfl, ⟨rfl, trivial⟩⟩⟩⟩⟩ ?_
            exact ww_X9_pack_109 C hr hlk hmi  x1 x2 x3 y0 1 s24 h
set_option maxRecDepth 20000 in
set_option maxHeartbeats 4000000 in
theorem ww_X9_pack_37 {G : dk_G} {P : Program} {l : Launch} {e : Env} {S0 : State} {m : MethodId} {args : Array Value} {bel : List Frame} {meth : Method} {c : Code}  (C : dk_C G P (dk_rm 9) S0 m args c 0 0 cX9_pack 8 RX9) (hr : meth.sig.returnType = (some .int)) (hlk : meth.locks = false) (hmi : dk_MI G) {K : Int32 → dk_S → Prop}  : ∀ (x1 : Int32) (x2 : Int32) (y0 : Int32) (s : dk_S), wf_X9_pack_37 K x1 x2 y0 s → dk_W G P l e (dk_rm 9) S0 m args bel meth c 0 0 (MQ bel (dk_Qc G (dk_ki K)) args S0 0 0 (dk_A G)) 37 [some (dk_r G 4 60), some (.int x1), some (.int x2), none, none, none, none, none] [.int y0] s := by
  intro x1 x2 y0 s h
  unfold wf_X9_pack_37 at h
  refine dk_istore_n (i := 3) (L' := [some (dk_r G 4 60), some (.int x1), some (.int x2), some (.int y0), none, none, none, none]) C dX9_pack_37 (n := 38) rfl rfl (dk_nc_of rfl) (Nat.le_of_ble_eq_true rfl) rfl ?_
  refine dk_iload_n (i := 3) C dX9_pack_38 (n := 39) rfl rfl rfl ?_
  refine dk_if_ne (t := 69) C dX9_pack_39 (n := 42) rfl (by decide) (fun c21 => ?_) (fun c21 => ?_)
  · have h := h.1 c21
    refine dk_iconst (v := 0) C dX9_pack_69 (n := 70) rfl (by decide) ?_
    refine dk_sub (L0 := [some (dk_r G 4 60), some (.int x1), some (.int x2), some (.int y0), none, none, none, none]) ⟨rfl, ⟨rfl, ⟨rfl, ⟨rfl, trivial⟩⟩⟩⟩ ?_
    exact ww_X9_pack_70 C hr hlk hmi  x1 x2 y0 0 s h
  · have h := h.2 c21
    refine dk_aload_n (i := 0) C dX9_pack_42 (n := 43) rfl rfl rfl ?_
    refine dk_iload_n (i := 1) C dX9_pack_43 (n := 44) rfl rfl rfl ?_
    refine dk_callVi C [] (cc_X9_outermost C.D hmi h) yy_X9_outermost dk_wm_X9_206 dk_sh60 (hmi 60 (by decide) (by decide)) dX9_pack_44 (fun r15 s14 h => ?_) rfl rfl ⟨Nat.le_of_ble_eq_true rfl, Nat.le_of_ble_eq_true rfl⟩ rfl (Nat.le_of_ble_eq_true rfl) rfl (n := 47) rfl
    refine dk_iconst (v := (-1)) C dX9_pack_47 (n := 48) rfl (by decide) ?_
    refine dk_icmp_ne (t := 69) C dX9_pack_48 (n := 51) rfl (by decide) (fun c20 => ?_) (fun c20 => ?_)
    · have h := h.1 c20
      refine dk_iconst (v := 0) C dX9_pack_69 (n := 70) rfl (by decide) ?_
      refine dk_sub (L0 := [some (dk_r G 4 60), some (.int x1), some (.int x2), some (.int y0), none, none, none, none]) ⟨rfl, ⟨rfl, ⟨rfl, ⟨rfl, trivial⟩⟩⟩⟩ ?_
      exact ww_X9_pack_70 C hr hlk hmi  x1 x2 y0 0 s14 h
    · have h := h.2 c20
      refine dk_iload_n (i := 2) C dX9_pack_51 (n := 52) rfl rfl rfl ?_
      refine dk_iconst (v := (-1)) C dX9_pack_52 (n := 53) rfl (by decide) ?_
      refine dk_icmp_eq (t := 65) C dX9_pack_53 (n := 56) rfl (by decide) (fun c19 => ?_) (fun c19 => ?_)
      · have h := h.1 c19
        refine dk_iconst (v := 1) C dX9_pack_65 (n := 66) rfl (by decide) ?_
        refine dk_goto (t := 70) C dX9_pack_66 (by decide) ?_
        refine dk_sub (L0 := [some (dk_r G 4 60), some (.int x1), some (.int x2), some (.int y0), none, none, none, none]) ⟨rfl, ⟨rfl, ⟨rfl, ⟨rfl, trivial⟩⟩⟩⟩ ?_
        exact ww_X9_pack_70 C hr hlk hmi  x1 x2 y0 1 s14 h
      · have h := h.2 c19
        refine dk_aload_n (i := 0) C dX9_pack_56 (n := 57) rfl rfl rfl ?_
        refine dk_iload_n (i := 2) C dX9_pack_57 (n := 58) rfl rfl rfl ?_
        refine dk_callVi C [] (cc_X9_outermost C.D hmi h) yy_X9_outermost dk_wm_X9_206 dk_sh60 (hmi 60 (by decide) (by decide)) dX9_pack_58 (fun r17 s16 h => ?_) rfl rfl ⟨Nat.le_of_ble_eq_true rfl, Nat.le_of_ble_eq_true rfl⟩ rfl (Nat.le_of_ble_eq_true rfl) rfl (n := 61) rfl
        refine dk_iconst (v := (-1)) C dX9_pack_61 (n := 62) rfl (by decide) ?_
        refine dk_icmp_ne (t := 69) C dX9_pack_62 (n := 65) rfl (by decide) (fun c18 => ?_) (fun c18 => ?_)
        · have h := h.1 c18
          refine dk_iconst (v := 0) C dX9_pack_69 (n := 70) rfl (by decide) ?_
          refine dk_sub (L0 := [some (dk_r G 4 60), some (.int x1), some (.int x2), some (.int y0), none, none, none, none]) ⟨rfl, ⟨rfl, ⟨rfl, ⟨rfl, trivial⟩⟩⟩⟩ ?_
          exact ww_X9_pack_70 C hr hlk hmi  x1 x2 y0 0 s16 h
        · have h := h.2 c18
          refine dk_iconst (v := 1) C dX9_pack_65 (n := 66) rfl (by decide) ?_
          refine dk_goto (t := 70) C dX9_pack_66 (by decide) ?_
          refine dk_sub (L0 := [some (dk_r G 4 60), some (.int x1), some (.int x2), some (.int y0), none, none, none, none]) ⟨rfl, ⟨rfl, ⟨rfl, ⟨rfl, trivial⟩⟩⟩⟩ ?_
          exact ww_X9_pack_70 C hr hlk hmi  x1 x2 y0 1 s16 h
set_option maxRecDepth 20000 in
set_option maxHeartbeats 4000000 in
theorem cc_X9_pack {G : dk_G} {l : Launch} {a1 : Int32} {a2 : Int32} (hD : dk_D G) (hmi : dk_MI G) {s : dk_S} {K : Int32 → dk_S → Prop} (h : wf_X9_pack a1 a2 s K) : dk_M G l 9 yX9_pack cX9_pack 8 (some .int) [dk_r G 4 60, .int a1, .int a2] s (dk_ki K) := by
  refine dk_of hD (by decide) [some (dk_r G 4 60), some (.int a1), some (.int a2), none, none, none, none, none] (fun q hq => hq) rfl (Nat.le_of_ble_eq_true rfl) (fun P e S0 m args bel meth c C hr hlk => ?_)
  unfold wf_X9_pack at h
  refine dk_aload_n (i := 0) C dX9_pack_0 (n := 1) rfl rfl rfl ?_
  refine dk_iload_n (i := 1) C dX9_pack_1 (n := 2) rfl rfl rfl ?_
  refine dk_callVi C [] (cc_X9_isThing C.D hmi h) yy_X9_isThing dk_wm_X9_165 dk_sh60 (hmi 60 (by decide) (by decide)) dX9_pack_2 (fun r2 s1 h => ?_) rfl rfl ⟨Nat.le_of_ble_eq_true rfl, Nat.le_of_ble_eq_true rfl⟩ rfl (Nat.le_of_ble_eq_true rfl) rfl (n := 5) rfl
  refine dk_if_eq (t := 21) C dX9_pack_5 (n := 8) rfl (by decide) (fun c13 => ?_) (fun c13 => ?_)
  · have h := h.1 c13
    refine dk_iconst (v := 1) C dX9_pack_21 (n := 22) rfl (by decide) ?_
    refine dk_goto (t := 37) C dX9_pack_22 (by decide) ?_
    refine dk_sub (L0 := [some (dk_r G 4 60), some (.int a1), some (.int a2), none, none, none, none, none]) ⟨rfl, ⟨rfl, ⟨rfl, trivial⟩⟩⟩ ?_
    exact ww_X9_pack_37 C hr hlk hmi  a1 a2 1 s1 h
  · have h := h.2 c13
    refine dk_iload_n (i := 2) C dX9_pack_8 (n := 9) rfl rfl rfl ?_
    refine dk_iconst (v := (-1)) C dX9_pack_9 (n := 10) rfl (by decide) ?_
    refine dk_icmp_eq (t := 25) C dX9_pack_10 (n := 13) rfl (by decide) (fun c12 => ?_) (fun c12 => ?_)
    · have h := h.1 c12
      refine dk_aload_n (i := 0) C dX9_pack_25 (n := 26) rfl rfl rfl ?_
      refine dk_callVi C [] (cc_X9_isOn C.D hmi h) yy_X9_isOn dk_wm_X9_145 dk_sh60 (hmi 60 (by decide) (by decide)) dX9_pack_26 (fun r4 s3 h => ?_) rfl rfl ⟨Nat.le_of_ble_eq_true rfl, Nat.le_of_ble_eq_true rfl⟩ rfl (Nat.le_of_ble_eq_true rfl) rfl (n := 29) rfl
      refine dk_if_ne (t := 36) C dX9_pack_29 (n := 32) rfl (by decide) (fun c5 => ?_) (fun c5 => ?_)
      · have h := h.1 c5
        refine dk_iconst (v := 0) C dX9_pack_36 (n := 37) rfl (by decide) ?_
        refine dk_sub (L0 := [some (dk_r G 4 60), some (.int a1), some (.int a2), none, none, none, none, none]) ⟨rfl, ⟨rfl, ⟨rfl, trivial⟩⟩⟩ ?_
        exact ww_X9_pack_37 C hr hlk hmi  a1 a2 0 s3 h
      · have h := h.2 c5
        refine dk_iconst (v := 2) C dX9_pack_32 (n := 33) rfl (by decide) ?_
        refine dk_goto (t := 37) C dX9_pack_33 (by decide) ?_
        refine dk_sub (L0 := [some (dk_r G 4 60), some (.int a1), some (.int a2), none, none, none, none, none]) ⟨rfl, ⟨rfl, ⟨rfl, trivial⟩⟩⟩ ?_
        exact ww_X9_pack_37 C hr hlk hmi  a1 a2 2 s3 h
    · have h := h.2 c12
      refine dk_aload_n (i := 0) C dX9_pack_13 (n := 14) rfl rfl rfl ?_
      refine dk_iload_n (i := 2) C dX9_pack_14 (n := 15) rfl rfl rfl ?_
      refine dk_callVi C [] (cc_X9_isThing C.D hmi h) yy_X9_isThing dk_wm_X9_165 dk_sh60 (hmi 60 (by decide) (by decide)) dX9_pack_15 (fun r7 s6 h => ?_) rfl rfl ⟨Nat.le_of_ble_eq_true rfl, Nat.le_of_ble_eq_true rfl⟩ rfl (Nat.le_of_ble_eq_true rfl) rfl (n := 18) rfl
      refine dk_if_ne (t := 25) C dX9_pack_18 (n := 21) rfl (by decide) (fun c11 => ?_) (fun c11 => ?_)
      · have h := h.1 c11
        refine dk_aload_n (i := 0) C dX9_pack_25 (n := 26) rfl rfl rfl ?_
        refine dk_callVi C [] (cc_X9_isOn C.D hmi h) yy_X9_isOn dk_wm_X9_145 dk_sh60 (hmi 60 (by decide) (by decide)) dX9_pack_26 (fun r9 s8 h => ?_) rfl rfl ⟨Nat.le_of_ble_eq_true rfl, Nat.le_of_ble_eq_true rfl⟩ rfl (Nat.le_of_ble_eq_true rfl) rfl (n := 29) rfl
        refine dk_if_ne (t := 36) C dX9_pack_29 (n := 32) rfl (by decide) (fun c10 => ?_) (fun c10 => ?_)
        · have h := h.1 c10
          refine dk_iconst (v := 0) C dX9_pack_36 (n := 37) rfl (by decide) ?_
          refine dk_sub (L0 := [some (dk_r G 4 60), some (.int a1), some (.int a2), none, none, none, none, none]) ⟨rfl, ⟨rfl, ⟨rfl, trivial⟩⟩⟩ ?_
          exact ww_X9_pack_37 C hr hlk hmi  a1 a2 0 s8 h
        · have h := h.2 c10
          refine dk_iconst (v := 2) C dX9_pack_32 (n := 33) rfl (by decide) ?_
          refine dk_goto (t := 37) C dX9_pack_33 (by decide) ?_
          refine dk_sub (L0 := [some (dk_r G 4 60), some (.int a1), some (.int a2), none, none, none, none, none]) ⟨rfl, ⟨rfl, ⟨rfl, trivial⟩⟩⟩ ?_
          exact ww_X9_pack_37 C hr hlk hmi  a1 a2 2 s8 h
      · have h := h.2 c11
        refine dk_iconst (v := 1) C dX9_pack_21 (n := 22) rfl (by decide) ?_
        refine dk_goto (t := 37) C dX9_pack_22 (by decide) ?_
        refine dk_sub (L0 := [some (dk_r G 4 60), some (.int a1), some (.int a2), none, none, none, none, none]) ⟨rfl, ⟨rfl, ⟨rfl, trivial⟩⟩⟩ ?_
        exact ww_X9_pack_37 C hr hlk hmi  a1 a2 1 s6 h
/-! X9_drink -/
set_option maxRecDepth 20000 in
set_option maxHeartbeats 4000000 in
theorem ww_X9_drink_86 {G : dk_G} {P : Program} {l : Launch} {e : Env} {S0 : State} {m : MethodId} {args : Array Value} {bel : List Frame} {meth : Method} {c : Code}  (C : dk_C G P (dk_rm 9) S0 m args c 0 0 cX9_drink 5 RX9) (hr : meth.sig.returnType = (some .int)) (hlk : meth.locks = false) (hmi : dk_MI G) {K : Int32 → dk_S → Prop}  : ∀  (s : dk_S), wf_X9_drink_86 K s → dk_W G P l e (dk_rm 9) S0 m args bel meth c 0 0 (MQ bel (dk_Qc G (dk_ki K)) args S0 0 0 (dk_A G)) 86 [some (dk_r G 4 60), none, none, none, none] [] s := by
  intro s h
  unfold wf_X9_drink_86 at h
  refine dk_aload_n (i := 0) C dX9_drink_86 (n := 87) rfl rfl rfl ?_
  refine gf_X9_68 C (hmi 60 (by decide) (by decide)) dX9_drink_87 (n := 90) rfl ?_
  refine dk_iconst (v := 0) C dX9_drink_90 (n := 91) rfl (by decide) ?_
  refine dk_iald C dk_sh77 h.1 (hmi 77 (by decide) (by decide)) dX9_drink_91 (n := 92) rfl ?_
  have h := h.2
  refine dk_name (fun v16 ev16 => ?_)
  have h := h v16 ev16
  refine dk_istore (i := 4) (L' := [some (dk_r G 4 60), none, none, none, some (.int v16)]) C dX9_drink_92 (n := 94) rfl (dk_nc_of rfl) (Nat.le_of_ble_eq_true rfl) rfl ?_
  refine dk_aload_n (i := 0) C dX9_drink_94 (n := 95) rfl rfl rfl ?_
  refine dk_callVv C [] (cc_X9_ends C.D hmi h) yy_X9_ends dk_wm_X9_273 dk_sh60 (hmi 60 (by decide) (by decide)) dX9_drink_95 (fun s17 h => ?_) rfl rfl ⟨Nat.le_of_ble_eq_true rfl, Nat.le_of_ble_eq_true rfl⟩ rfl (Nat.le_of_ble_eq_true rfl) rfl (n := 98) rfl
  refine dk_iload C dX9_drink_98 (n := 100) rfl (i := 4) rfl ?_
  exact dk_iret C hr hlk rfl dX9_drink_100 ⟨_, rfl, h⟩
set_option maxRecDepth 20000 in
set_option maxHeartbeats 4000000 in
theorem ww_X9_drink_28 {G : dk_G} {P : Program} {l : Launch} {e : Env} {S0 : State} {m : MethodId} {args : Array Value} {bel : List Frame} {meth : Method} {c : Code}  (C : dk_C G P (dk_rm 9) S0 m args c 0 0 cX9_drink 5 RX9) (hr : meth.sig.returnType = (some .int)) (hlk : meth.locks = false) (hmi : dk_MI G) {K : Int32 → dk_S → Prop}  : ∀ (x1 : Int32) (y0 : Int32) (s : dk_S), wf_X9_drink_28 K x1 y0 s → dk_W G P l e (dk_rm 9) S0 m args bel meth c 0 0 (MQ bel (dk_Qc G (dk_ki K)) args S0 0 0 (dk_A G)) 28 [some (dk_r G 4 60), some (.int x1), none, none, none] [.int y0, dk_r G 4 60] s := by
  intro x1 y0 s h
  unfold wf_X9_drink_28 at h
  refine dk_callVi C [] (cc_X9_goesOn C.D hmi h) yy_X9_goesOn dk_wm_X9_149 dk_sh60 (hmi 60 (by decide) (by decide)) dX9_drink_28 (fun r8 s7 h => ?_) rfl rfl ⟨Nat.le_of_ble_eq_true rfl, Nat.le_of_ble_eq_true rfl⟩ rfl (Nat.le_of_ble_eq_true rfl) rfl (n := 31) rfl
  refine dk_if_ne (t := 36) C dX9_drink_31 (n := 34) rfl (by decide) (fun c15 => ?_) (fun c15 => ?_)
  · have h := h.1 c15
    refine dk_aload_n (i := 0) C dX9_drink_36 (n := 37) rfl rfl rfl ?_
    refine gf_X9_50 C (hmi 60 (by decide) (by decide)) dX9_drink_37 (n := 40) rfl ?_
    refine dk_iload_n (i := 1) C dX9_drink_40 (n := 41) rfl rfl rfl ?_
    refine dk_iald C dk_sh71 h.1 (hmi 71 (by decide) (by decide)) dX9_drink_41 (n := 42) rfl ?_
    have h := h.2
    refine dk_name (fun v9 ev9 => ?_)
    have h := h v9 ev9
    refine dk_istore_n (i := 3) (L' := [some (dk_r G 4 60), some (.int x1), none, some (.int v9), none]) C dX9_drink_42 (n := 43) rfl rfl (dk_nc_of rfl) (Nat.le_of_ble_eq_true rfl) rfl ?_
    refine dk_aload_n (i := 0) C dX9_drink_43 (n := 44) rfl rfl rfl ?_
    refine gf_X9_83 C (hmi 60 (by decide) (by decide)) dX9_drink_44 (n := 47) rfl ?_
    refine dk_iload_n (i := 1) C dX9_drink_47 (n := 48) rfl rfl rfl ?_
    refine dk_bipush (v := (-2)) C dX9_drink_48 (n := 50) rfl (by decide) ?_
    refine dk_iast C dk_sh82 h.1 (hmi 82 (by decide) (by decide)) dX9_drink_50 (n := 51) rfl ?_
    refine dk_nameS (fun s10 es10 => ?_)
    have h := h.2 s10 es10
    refine dk_aload_n (i := 0) C dX9_drink_51 (n := 52) rfl rfl rfl ?_
    refine gf_X9_86 C (hmi 60 (by decide) (by decide)) dX9_drink_52 (n := 55) rfl ?_
    refine dk_iload_n (i := 3) C dX9_drink_55 (n := 56) rfl rfl rfl ?_
    refine dk_iconst (v := 1) C dX9_drink_56 (n := 57) rfl (by decide) ?_
    refine dk_zast C dk_sh83 h.1 (hmi 83 (by decide) (by decide)) dX9_drink_57 (n := 58) rfl ?_
    refine dk_nameS (fun s11 es11 => ?_)
    have h := h.2 s11 es11
    refine dk_aload_n (i := 0) C dX9_drink_58 (n := 59) rfl rfl rfl ?_
    refine dk_iload_n (i := 3) C dX9_drink_59 (n := 60) rfl rfl rfl ?_
    refine dk_iconst (v := 0) C dX9_drink_60 (n := 61) rfl (by decide) ?_
    refine dk_callVv C [] (cc_X9_works C.D hmi h) yy_X9_works dk_wm_X9_255 dk_sh60 (hmi 60 (by decide) (by decide)) dX9_drink_61 (fun s12 h => ?_) rfl rfl ⟨Nat.le_of_ble_eq_true rfl, Nat.le_of_ble_eq_true rfl⟩ rfl (Nat.le_of_ble_eq_true rfl) rfl (n := 64) rfl
    refine dk_aload_n (i := 0) C dX9_drink_64 (n := 65) rfl rfl rfl ?_
    refine gf_X9_25 C (hmi 60 (by decide) (by decide)) dX9_drink_65 (n := 68) rfl ?_
    refine dk_iload_n (i := 3) C dX9_drink_68 (n := 69) rfl rfl rfl ?_
    refine dk_cald C dk_sh64 h.1 (hmi 64 (by decide) (by decide)) dX9_drink_69 (n := 70) rfl ?_
    have h := h.2
    refine dk_bipush (v := 102) C dX9_drink_70 (n := 72) rfl (by decide) ?_
    refine dk_icmp_ne (t := 86) C dX9_drink_72 (n := 75) rfl (by decide) (fun c14 => ?_) (fun c14 => ?_)
    · have h := h.1 c14
      refine dk_sub (L0 := [some (dk_r G 4 60), none, none, none, none]) ⟨rfl, trivial⟩ ?_
      exact ww_X9_drink_86 C hr hlk hmi   s12 h
    · have h := h.2 c14
      refine dk_aload_n (i := 0) C dX9_drink_75 (n := 76) rfl rfl rfl ?_
      refine dk_aload_n (i := 0) C dX9_drink_76 (n := 77) rfl rfl rfl ?_
      refine gf_X9_65 C (hmi 60 (by decide) (by decide)) dX9_drink_77 (n := 80) rfl ?_
      refine dk_iconst (v := 0) C dX9_drink_80 (n := 81) rfl (by decide) ?_
      refine dk_iald C dk_sh76 h.1 (hmi 76 (by decide) (by decide)) dX9_drink_81 (n := 82) rfl ?_
      have h := h.2
      refine dk_iconst (v := 0) C dX9_drink_82 (n := 83) rfl (by decide) ?_
      refine dk_callVv C [] (cc_X9_burns C.D hmi h) yy_X9_burns dk_wm_X9_258 dk_sh60 (hmi 60 (by decide) (by decide)) dX9_drink_83 (fun s13 h => ?_) rfl rfl ⟨Nat.le_of_ble_eq_true rfl, Nat.le_of_ble_eq_true rfl⟩ rfl (Nat.le_of_ble_eq_true rfl) rfl (n := 86) rfl
      refine dk_sub (L0 := [some (dk_r G 4 60), none, none, none, none]) ⟨rfl, trivial⟩ ?_
      exact ww_X9_drink_86 C hr hlk hmi   s13 h
  · have h := h.2 c15
    refine dk_iconst (v := 0) C dX9_drink_34 (n := 35) rfl (by decide) ?_
    exact dk_iret C hr hlk rfl dX9_drink_35 ⟨_, rfl, h⟩
set_option maxRecDepth 20000 in
set_option maxHeartbeats 4000000 in
theorem cc_X9_drink {G : dk_G} {l : Launch} {a1 : Int32} (hD : dk_D G) (hmi : dk_MI G) {s : dk_S} {K : Int32 → dk_S → Prop} (h : wf_X9_drink a1 s K) : dk_M G l 9 yX9_drink cX9_drink 5 (some .int) [dk_r G 4 60, .int a1] s (dk_ki K) := by
  refine dk_of hD (by decide) [some (dk_r G 4 60), some (.int a1), none, none, none] (fun q hq => hq) rfl (Nat.le_of_ble_eq_true rfl) (fun P e S0 m args bel meth c C hr hlk => ?_)
  unfold wf_X9_drink at h
  refine dk_aload_n (i := 0) C dX9_drink_0 (n := 1) rfl rfl rfl ?_
  refine dk_iload_n (i := 1) C dX9_drink_1 (n := 2) rfl rfl rfl ?_
  refine dk_callVi C [] (cc_X9_handFault C.D hmi h) yy_X9_handFault dk_wm_X9_282 dk_sh60 (hmi 60 (by decide) (by decide)) dX9_drink_2 (fun r2 s1 h => ?_) rfl rfl ⟨Nat.le_of_ble_eq_true rfl, Nat.le_of_ble_eq_true rfl⟩ rfl (Nat.le_of_ble_eq_true rfl) rfl (n := 5) rfl
  refine dk_istore_n (i := 2) (L' := [some (dk_r G 4 60), some (.int a1), some (.int r2), none, none]) C dX9_drink_5 (n := 6) rfl rfl (dk_nc_of rfl) (Nat.le_of_ble_eq_true rfl) rfl ?_
  refine dk_aload_n (i := 0) C dX9_drink_6 (n := 7) rfl rfl rfl ?_
  refine dk_iload_n (i := 2) C dX9_drink_7 (n := 8) rfl rfl rfl ?_
  refine dk_if_ne (t := 27) C dX9_drink_8 (n := 11) rfl (by decide) (fun c6 => ?_) (fun c6 => ?_)
  · have h := h.1 c6
    refine dk_iload_n (i := 2) C dX9_drink_27 (n := 28) rfl rfl rfl ?_
    refine dk_sub (L0 := [some (dk_r G 4 60), some (.int a1), none, none, none]) ⟨rfl, ⟨rfl, trivial⟩⟩ ?_
    exact ww_X9_drink_28 C hr hlk hmi  a1 r2 s1 h
  · have h := h.2 c6
    refine dk_aload_n (i := 0) C dX9_drink_11 (n := 12) rfl rfl rfl ?_
    refine gf_X9_50 C (hmi 60 (by decide) (by decide)) dX9_drink_12 (n := 15) rfl ?_
    refine dk_iload_n (i := 1) C dX9_drink_15 (n := 16) rfl rfl rfl ?_
    refine dk_iald C dk_sh71 h.1 (hmi 71 (by decide) (by decide)) dX9_drink_16 (n := 17) rfl ?_
    have h := h.2
    refine dk_callSi C [dk_r G 4 60] (cc_X9_isPotion C.D  h) yy_X9_isPotion dk_wm_X9_156 dX9_drink_17 (fun r4 s3 h => ?_) rfl ⟨Nat.le_of_ble_eq_true rfl, Nat.le_of_ble_eq_true rfl⟩ rfl (Nat.le_of_ble_eq_true rfl) rfl (n := 20) rfl
    refine dk_if_ne (t := 27) C dX9_drink_20 (n := 23) rfl (by decide) (fun c5 => ?_) (fun c5 => ?_)
    · have h := h.1 c5
      refine dk_iload_n (i := 2) C dX9_drink_27 (n := 28) rfl rfl rfl ?_
      refine dk_sub (L0 := [some (dk_r G 4 60), some (.int a1), none, none, none]) ⟨rfl, ⟨rfl, trivial⟩⟩ ?_
      exact ww_X9_drink_28 C hr hlk hmi  a1 r2 s3 h
    · have h := h.2 c5
      refine dk_iconst (v := 4) C dX9_drink_23 (n := 24) rfl (by decide) ?_
      refine dk_goto (t := 28) C dX9_drink_24 (by decide) ?_
      refine dk_sub (L0 := [some (dk_r G 4 60), some (.int a1), none, none, none]) ⟨rfl, ⟨rfl, trivial⟩⟩ ?_
      exact ww_X9_drink_28 C hr hlk hmi  a1 4 s3 h
/-! X9_hurl -/
set_option maxRecDepth 20000 in
set_option maxHeartbeats 4000000 in
theorem ww_X9_hurl_192 {G : dk_G} {P : Program} {l : Launch} {e : Env} {S0 : State} {m : MethodId} {args : Array Value} {bel : List Frame} {meth : Method} {c : Code}  (C : dk_C G P (dk_rm 9) S0 m args c 0 0 cX9_hurl 7 RX9) (hr : meth.sig.returnType = (some .int)) (hlk : meth.locks = false) (hmi : dk_MI G) {K : Int32 → dk_S → Prop}  : ∀ (x5 : Int32) (s : dk_S), wf_X9_hurl_192 K x5 s → dk_W G P l e (dk_rm 9) S0 m args bel meth c 0 0 (MQ bel (dk_Qc G (dk_ki K)) args S0 0 0 (dk_A G)) 192 [some (dk_r G 4 60), none, none, none, none, some (.int x5), none] [] s := by
  intro x5 s h
  unfold wf_X9_hurl_192 at h
  refine dk_aload_n (i := 0) C dX9_hurl_192 (n := 193) rfl rfl rfl ?_
  refine dk_callVv C [] (cc_X9_ends C.D hmi h) yy_X9_ends dk_wm_X9_273 dk_sh60 (hmi 60 (by decide) (by decide)) dX9_hurl_193 (fun s47 h => ?_) rfl rfl ⟨Nat.le_of_ble_eq_true rfl, Nat.le_of_ble_eq_true rfl⟩ rfl (Nat.le_of_ble_eq_true rfl) rfl (n := 196) rfl
  refine dk_iload C dX9_hurl_196 (n := 198) rfl (i := 5) rfl ?_
  exact dk_iret C hr hlk rfl dX9_hurl_198 ⟨_, rfl, h⟩
set_option maxRecDepth 20000 in
set_option maxHeartbeats 4000000 in
theorem ww_X9_hurl_144 {G : dk_G} {P : Program} {l : Launch} {e : Env} {S0 : State} {m : MethodId} {args : Array Value} {bel : List Frame} {meth : Method} {c : Code}  (C : dk_C G P (dk_rm 9) S0 m args c 0 0 cX9_hurl 7 RX9) (hr : meth.sig.returnType = (some .int)) (hlk : meth.locks = false) (hmi : dk_MI G) {K : Int32 → dk_S → Prop}  : ∀ (x1 : Int32) (x4 : Int32) (x5 : Int32) (y0 : Int32) (s : dk_S), wf_X9_hurl_144 K x1 x4 x5 y0 s → dk_W G P l e (dk_rm 9) S0 m args bel meth c 0 0 (MQ bel (dk_Qc G (dk_ki K)) args S0 0 0 (dk_A G)) 144 [some (dk_r G 4 60), some (.int x1), none, none, some (.int x4), some (.int x5), none] [.int y0] s := by
  intro x1 x4 x5 y0 s h
  unfold wf_X9_hurl_144 at h
  refine dk_istore (i := 6) (L' := [some (dk_r G 4 60), some (.int x1), none, none, some (.int x4), some (.int x5), some (.int y0)]) C dX9_hurl_144 (n := 146) rfl (dk_nc_of rfl) (Nat.le_of_ble_eq_true rfl) rfl ?_
  refine dk_aload_n (i := 0) C dX9_hurl_146 (n := 147) rfl rfl rfl ?_
  refine gf_X9_50 C (hmi 60 (by decide) (by decide)) dX9_hurl_147 (n := 150) rfl ?_
  refine dk_iload_n (i := 1) C dX9_hurl_150 (n := 151) rfl rfl rfl ?_
  refine dk_iald C dk_sh71 h.1 (hmi 71 (by decide) (by decide)) dX9_hurl_151 (n := 152) rfl ?_
  have h := h.2
  refine dk_callSi C [] (cc_X9_isPotion C.D  h) yy_X9_isPotion dk_wm_X9_156 dX9_hurl_152 (fun r41 s40 h => ?_) rfl ⟨Nat.le_of_ble_eq_true rfl, Nat.le_of_ble_eq_true rfl⟩ rfl (Nat.le_of_ble_eq_true rfl) rfl (n := 155) rfl
  refine dk_if_eq (t := 168) C dX9_hurl_155 (n := 158) rfl (by decide) (fun c46 => ?_) (fun c46 => ?_)
  · have h := h.1 c46
    refine dk_aload_n (i := 0) C dX9_hurl_168 (n := 169) rfl rfl rfl ?_
    refine gf_X9_50 C (hmi 60 (by decide) (by decide)) dX9_hurl_169 (n := 172) rfl ?_
    refine dk_iload_n (i := 1) C dX9_hurl_172 (n := 173) rfl rfl rfl ?_
    refine dk_iald C dk_sh71 h.1 (hmi 71 (by decide) (by decide)) dX9_hurl_173 (n := 174) rfl ?_
    have h := h.2
    refine dk_bipush (v := 7) C dX9_hurl_174 (n := 176) rfl (by decide) ?_
    refine dk_icmp_ne (t := 192) C dX9_hurl_176 (n := 179) rfl (by decide) (fun c44 => ?_) (fun c44 => ?_)
    · have h := h.1 c44
      refine dk_sub (L0 := [some (dk_r G 4 60), none, none, none, none, some (.int x5), none]) ⟨rfl, ⟨rfl, trivial⟩⟩ ?_
      exact ww_X9_hurl_192 C hr hlk hmi  x5 s40 h
    · have h := h.2 c44
      refine dk_iload C dX9_hurl_179 (n := 181) rfl (i := 6) rfl ?_
      refine dk_iconst (v := (-1)) C dX9_hurl_181 (n := 182) rfl (by decide) ?_
      refine dk_icmp_eq (t := 192) C dX9_hurl_182 (n := 185) rfl (by decide) (fun c43 => ?_) (fun c43 => ?_)
      · have h := h.1 c43
        refine dk_sub (L0 := [some (dk_r G 4 60), none, none, none, none, some (.int x5), none]) ⟨rfl, ⟨rfl, trivial⟩⟩ ?_
        exact ww_X9_hurl_192 C hr hlk hmi  x5 s40 h
      · have h := h.2 c43
        refine dk_aload_n (i := 0) C dX9_hurl_185 (n := 186) rfl rfl rfl ?_
        refine dk_iload C dX9_hurl_186 (n := 188) rfl (i := 6) rfl ?_
        refine dk_iconst (v := 4) C dX9_hurl_188 (n := 189) rfl (by decide) ?_
        refine dk_callVv C [] (cc_X9_strikes C.D hmi h) yy_X9_strikes dk_wm_X9_267 dk_sh60 (hmi 60 (by decide) (by decide)) dX9_hurl_189 (fun s42 h => ?_) rfl rfl ⟨Nat.le_of_ble_eq_true rfl, Nat.le_of_ble_eq_true rfl⟩ rfl (Nat.le_of_ble_eq_true rfl) rfl (n := 192) rfl
        refine dk_sub (L0 := [some (dk_r G 4 60), none, none, none, none, some (.int x5), none]) ⟨rfl, ⟨rfl, trivial⟩⟩ ?_
        exact ww_X9_hurl_192 C hr hlk hmi  x5 s42 h
  · have h := h.2 c46
    refine dk_aload_n (i := 0) C dX9_hurl_158 (n := 159) rfl rfl rfl ?_
    refine dk_iload_n (i := 1) C dX9_hurl_159 (n := 160) rfl rfl rfl ?_
    refine dk_iload C dX9_hurl_160 (n := 162) rfl (i := 4) rfl ?_
    refine dk_callVv C [] (cc_X9_breaks C.D hmi h) yy_X9_breaks dk_wm_X9_288 dk_sh60 (hmi 60 (by decide) (by decide)) dX9_hurl_162 (fun s45 h => ?_) rfl rfl ⟨Nat.le_of_ble_eq_true rfl, Nat.le_of_ble_eq_true rfl⟩ rfl (Nat.le_of_ble_eq_true rfl) rfl (n := 165) rfl
    refine dk_goto (t := 192) C dX9_hurl_165 (by decide) ?_
    refine dk_sub (L0 := [some (dk_r G 4 60), none, none, none, none, some (.int x5), none]) ⟨rfl, ⟨rfl, trivial⟩⟩ ?_
    exact ww_X9_hurl_192 C hr hlk hmi  x5 s45 h
set_option maxRecDepth 20000 in
set_option maxHeartbeats 4000000 in
theorem ww_X9_hurl_121 {G : dk_G} {P : Program} {l : Launch} {e : Env} {S0 : State} {m : MethodId} {args : Array Value} {bel : List Frame} {meth : Method} {c : Code}  (C : dk_C G P (dk_rm 9) S0 m args c 0 0 cX9_hurl 7 RX9) (hr : meth.sig.returnType = (some .int)) (hlk : meth.locks = false) (hmi : dk_MI G) {K : Int32 → dk_S → Prop}  : ∀ (x1 : Int32) (x4 : Int32) (x5 : Int32) (s : dk_S), wf_X9_hurl_121 K x1 x4 x5 s → dk_W G P l e (dk_rm 9) S0 m args bel meth c 0 0 (MQ bel (dk_Qc G (dk_ki K)) args S0 0 0 (dk_A G)) 121 [some (dk_r G 4 60), some (.int x1), none, none, some (.int x4), some (.int x5), none] [] s := by
  intro x1 x4 x5 s h
  unfold wf_X9_hurl_121 at h
  refine dk_aload_n (i := 0) C dX9_hurl_121 (n := 122) rfl rfl rfl ?_
  refine gf_X9_83 C (hmi 60 (by decide) (by decide)) dX9_hurl_122 (n := 125) rfl ?_
  refine dk_iload_n (i := 1) C dX9_hurl_125 (n := 126) rfl rfl rfl ?_
  refine dk_iload C dX9_hurl_126 (n := 128) rfl (i := 4) rfl ?_
  refine dk_iast C dk_sh82 h.1 (hmi 82 (by decide) (by decide)) dX9_hurl_128 (n := 129) rfl ?_
  refine dk_nameS (fun s20 es20 => ?_)
  have h := h.2 s20 es20
  refine dk_iload C dX9_hurl_129 (n := 131) rfl (i := 5) rfl ?_
  refine dk_if_le (t := 143) C dX9_hurl_131 (n := 134) rfl (by decide) (fun c23 => ?_) (fun c23 => ?_)
  · have h := h.1 c23
    refine dk_iconst (v := (-1)) C dX9_hurl_143 (n := 144) rfl (by decide) ?_
    refine dk_sub (L0 := [some (dk_r G 4 60), some (.int x1), none, none, some (.int x4), some (.int x5), none]) ⟨rfl, ⟨rfl, ⟨rfl, ⟨rfl, trivial⟩⟩⟩⟩ ?_
    exact ww_X9_hurl_144 C hr hlk hmi  x1 x4 x5 (-1) s20 h
  · have h := h.2 c23
    refine dk_aload_n (i := 0) C dX9_hurl_134 (n := 135) rfl rfl rfl ?_
    refine dk_iload C dX9_hurl_135 (n := 137) rfl (i := 4) rfl ?_
    refine dk_callVi C [] (cc_X9_livingAt C.D hmi h) yy_X9_livingAt dk_wm_X9_229 dk_sh60 (hmi 60 (by decide) (by decide)) dX9_hurl_137 (fun r22 s21 h => ?_) rfl rfl ⟨Nat.le_of_ble_eq_true rfl, Nat.le_of_ble_eq_true rfl⟩ rfl (Nat.le_of_ble_eq_true rfl) rfl (n := 140) rfl
    refine dk_goto (t := 144) C dX9_hurl_140 (by decide) ?_
    refine dk_sub (L0 := [some (dk_r G 4 60), some (.int x1), none, none, some (.int x4), some (.int x5), none]) ⟨rfl, ⟨rfl, ⟨rfl, ⟨rfl, trivial⟩⟩⟩⟩ ?_
    exact ww_X9_hurl_144 C hr hlk hmi  x1 x4 x5 r22 s21 h
set_option maxRecDepth 20000 in
set_option maxHeartbeats 4000000 in
theorem ww_X9_hurl_73 {G : dk_G} {P : Program} {l : Launch} {e : Env} {S0 : State} {m : MethodId} {args : Array Value} {bel : List Frame} {meth : Method} {c : Code}  (C : dk_C G P (dk_rm 9) S0 m args c 0 0 cX9_hurl 7 RX9) (hr : meth.sig.returnType = (some .int)) (hlk : meth.locks = false) (hmi : dk_MI G) {K : Int32 → dk_S → Prop} {E121 : Int32 → Int32 → Int32 → dk_S → Prop} (hE121 : ∀ (x1 : Int32) (x4 : Int32) (x5 : Int32) (s : dk_S), E121 x1 x4 x5 s → dk_W G P l e (dk_rm 9) S0 m args bel meth c 0 0 (MQ bel (dk_Qc G (dk_ki K)) args S0 0 0 (dk_A G)) 121 [some (dk_r G 4 60), some (.int x1), none, none, some (.int x4), some (.int x5), none] [] s) : ∀ (n : Nat) (x1 : Int32) (x2 : Int32) (x4 : Int32) (x5 : Int32) (s : dk_S), wf_X9_hurl_73 K E121 n x1 x2 x4 x5 s → dk_W G P l e (dk_rm 9) S0 m args bel meth c 0 0 (MQ bel (dk_Qc G (dk_ki K)) args S0 0 0 (dk_A G)) 73 [some (dk_r G 4 60), some (.int x1), some (.int x2), none, some (.int x4), some (.int x5), none] [] s := by
  intro n
  induction n with
  | zero => intro x1 x2 x4 x5 s h; exact False.elim h
  | succ n hB =>
    intro x1 x2 x4 x5 s h
    unfold wf_X9_hurl_73 at h
    refine dk_iload C dX9_hurl_73 (n := 75) rfl (i := 5) rfl ?_
    refine dk_iconst (v := 5) C dX9_hurl_75 (n := 76) rfl (by decide) ?_
    refine dk_icmp_ge (t := 121) C dX9_hurl_76 (n := 79) rfl (by decide) (fun c39 => ?_) (fun c39 => ?_)
    · have h := h.1 c39
      refine dk_sub (L0 := [some (dk_r G 4 60), some (.int x1), none, none, some (.int x4), some (.int x5), none]) ⟨rfl, ⟨rfl, ⟨rfl, ⟨rfl, trivial⟩⟩⟩⟩ ?_
      exact hE121 x1 x4 x5 s h
    · have h := h.2 c39
      refine dk_aload_n (i := 0) C dX9_hurl_79 (n := 80) rfl rfl rfl ?_
      refine dk_iload C dX9_hurl_80 (n := 82) rfl (i := 4) rfl ?_
      refine dk_iload_n (i := 2) C dX9_hurl_82 (n := 83) rfl rfl rfl ?_
      refine dk_callSi C [dk_r G 4 60] (cc_X9_beside C.D  h) yy_X9_beside dk_wm_X9_193 dX9_hurl_83 (fun r25 s24 h => ?_) rfl ⟨Nat.le_of_ble_eq_true rfl, Nat.le_of_ble_eq_true rfl⟩ rfl (Nat.le_of_ble_eq_true rfl) rfl (n := 86) rfl
      refine dk_callVi C [] (cc_X9_isFree C.D hmi h) yy_X9_isFree dk_wm_X9_174 dk_sh60 (hmi 60 (by decide) (by decide)) dX9_hurl_86 (fun r27 s26 h => ?_) rfl rfl ⟨Nat.le_of_ble_eq_true rfl, Nat.le_of_ble_eq_true rfl⟩ rfl (Nat.le_of_ble_eq_true rfl) rfl (n := 89) rfl
      refine dk_if_eq (t := 121) C dX9_hurl_89 (n := 92) rfl (by decide) (fun c38 => ?_) (fun c38 => ?_)
      · have h := h.1 c38
        refine dk_sub (L0 := [some (dk_r G 4 60), some (.int x1), none, none, some (.int x4), some (.int x5), none]) ⟨rfl, ⟨rfl, ⟨rfl, ⟨rfl, trivial⟩⟩⟩⟩ ?_
        exact hE121 x1 x4 x5 s26 h
      · have h := h.2 c38
        refine dk_iload C dX9_hurl_92 (n := 94) rfl (i := 5) rfl ?_
        refine dk_if_eq (t := 107) C dX9_hurl_94 (n := 97) rfl (by decide) (fun c37 => ?_) (fun c37 => ?_)
        · have h := h.1 c37
          refine dk_iload C dX9_hurl_107 (n := 109) rfl (i := 4) rfl ?_
          refine dk_iload_n (i := 2) C dX9_hurl_109 (n := 110) rfl rfl rfl ?_
          refine dk_callSi C [] (cc_X9_beside C.D  h) yy_X9_beside dk_wm_X9_193 dX9_hurl_110 (fun r29 s28 h => ?_) rfl ⟨Nat.le_of_ble_eq_true rfl, Nat.le_of_ble_eq_true rfl⟩ rfl (Nat.le_of_ble_eq_true rfl) rfl (n := 113) rfl
          refine dk_istore (i := 4) (L' := [some (dk_r G 4 60), some (.int x1), some (.int x2), none, some (.int r29), some (.int x5), none]) C dX9_hurl_113 (n := 115) rfl (dk_nc_of rfl) (Nat.le_of_ble_eq_true rfl) rfl ?_
          obtain ⟨v30, ev30⟩ : ∃ y : Int32, y = x5 + 1 := ⟨_, rfl⟩
          have h := h v30 ev30
          refine dk_iinc (i := 5) (v := v30) (L' := [some (dk_r G 4 60), some (.int x1), some (.int x2), none, some (.int r29), some (.int v30), none]) C dX9_hurl_115 (n := 118) rfl rfl (by rw [ev30]; rfl) (dk_nc_of rfl) (Nat.le_of_ble_eq_true rfl) rfl ?_
          refine dk_goto (t := 73) C dX9_hurl_118 (by decide) ?_
          refine dk_sub (L0 := [some (dk_r G 4 60), some (.int x1), some (.int x2), none, some (.int r29), some (.int v30), none]) ⟨rfl, ⟨rfl, ⟨rfl, ⟨rfl, ⟨rfl, trivial⟩⟩⟩⟩⟩ ?_
          exact hB x1 x2 r29 v30 s28 h
        · have h := h.2 c37
          refine dk_aload_n (i := 0) C dX9_hurl_97 (n := 98) rfl rfl rfl ?_
          refine dk_iload C dX9_hurl_98 (n := 100) rfl (i := 4) rfl ?_
          refine dk_callVi C [] (cc_X9_livingAt C.D hmi h) yy_X9_livingAt dk_wm_X9_229 dk_sh60 (hmi 60 (by decide) (by decide)) dX9_hurl_100 (fun r32 s31 h => ?_) rfl rfl ⟨Nat.le_of_ble_eq_true rfl, Nat.le_of_ble_eq_true rfl⟩ rfl (Nat.le_of_ble_eq_true rfl) rfl (n := 103) rfl
          refine dk_iconst (v := (-1)) C dX9_hurl_103 (n := 104) rfl (by decide) ?_
          refine dk_icmp_ne (t := 121) C dX9_hurl_104 (n := 107) rfl (by decide) (fun c36 => ?_) (fun c36 => ?_)
          · have h := h.1 c36
            refine dk_sub (L0 := [some (dk_r G 4 60), some (.int x1), none, none, some (.int x4), some (.int x5), none]) ⟨rfl, ⟨rfl, ⟨rfl, ⟨rfl, trivial⟩⟩⟩⟩ ?_
            exact hE121 x1 x4 x5 s31 h
          · have h := h.2 c36
            refine dk_iload C dX9_hurl_107 (n := 109) rfl (i := 4) rfl ?_
            refine dk_iload_n (i := 2) C dX9_hurl_109 (n := 110) rfl rfl rfl ?_
            refine dk_callSi C [] (cc_X9_beside C.D  h) yy_X9_beside dk_wm_X9_193 dX9_hurl_110 (fun r34 s33 h => ?_) rfl ⟨Nat.le_of_ble_eq_true rfl, Nat.le_of_ble_eq_true rfl⟩ rfl (Nat.le_of_ble_eq_true rfl) rfl (n := 113) rfl
            refine dk_istore (i := 4) (L' := [some (dk_r G 4 60), some (.int x1), some (.int x2), none, some (.int r34), some (.int x5), none]) C dX9_hurl_113 (n := 115) rfl (dk_nc_of rfl) (Nat.le_of_ble_eq_true rfl) rfl ?_
            obtain ⟨v35, ev35⟩ : ∃ y : Int32, y = x5 + 1 := ⟨_, rfl⟩
            have h := h v35 ev35
            refine dk_iinc (i := 5) (v := v35) (L' := [some (dk_r G 4 60), some (.int x1), some (.int x2), none, some (.int r34), some (.int v35), none]) C dX9_hurl_115 (n := 118) rfl rfl (by rw [ev35]; rfl) (dk_nc_of rfl) (Nat.le_of_ble_eq_true rfl) rfl ?_
            refine dk_goto (t := 73) C dX9_hurl_118 (by decide) ?_
            refine dk_sub (L0 := [some (dk_r G 4 60), some (.int x1), some (.int x2), none, some (.int r34), some (.int v35), none]) ⟨rfl, ⟨rfl, ⟨rfl, ⟨rfl, ⟨rfl, trivial⟩⟩⟩⟩⟩ ?_
            exact hB x1 x2 r34 v35 s33 h
set_option maxRecDepth 20000 in
set_option maxHeartbeats 4000000 in
theorem ww_X9_hurl_51 {G : dk_G} {P : Program} {l : Launch} {e : Env} {S0 : State} {m : MethodId} {args : Array Value} {bel : List Frame} {meth : Method} {c : Code}  (C : dk_C G P (dk_rm 9) S0 m args c 0 0 cX9_hurl 7 RX9) (hr : meth.sig.returnType = (some .int)) (hlk : meth.locks = false) (hmi : dk_MI G) {K : Int32 → dk_S → Prop}  : ∀ (x1 : Int32) (x2 : Int32) (y0 : Int32) (s : dk_S), wf_X9_hurl_51 K x1 x2 y0 s → dk_W G P l e (dk_rm 9) S0 m args bel meth c 0 0 (MQ bel (dk_Qc G (dk_ki K)) args S0 0 0 (dk_A G)) 51 [some (dk_r G 4 60), some (.int x1), some (.int x2), none, none, none, none] [.int y0] s := by
  intro x1 x2 y0 s h
  unfold wf_X9_hurl_51 at h
  refine dk_istore_n (i := 3) (L' := [some (dk_r G 4 60), some (.int x1), some (.int x2), some (.int y0), none, none, none]) C dX9_hurl_51 (n := 52) rfl rfl (dk_nc_of rfl) (Nat.le_of_ble_eq_true rfl) rfl ?_
  refine dk_aload_n (i := 0) C dX9_hurl_52 (n := 53) rfl rfl rfl ?_
  refine dk_iload_n (i := 3) C dX9_hurl_53 (n := 54) rfl rfl rfl ?_
  refine dk_callVi C [] (cc_X9_goesOn C.D hmi h) yy_X9_goesOn dk_wm_X9_149 dk_sh60 (hmi 60 (by decide) (by decide)) dX9_hurl_54 (fun r12 s11 h => ?_) rfl rfl ⟨Nat.le_of_ble_eq_true rfl, Nat.le_of_ble_eq_true rfl⟩ rfl (Nat.le_of_ble_eq_true rfl) rfl (n := 57) rfl
  refine dk_if_ne (t := 62) C dX9_hurl_57 (n := 60) rfl (by decide) (fun c19 => ?_) (fun c19 => ?_)
  · have h := h.1 c19
    refine dk_aload_n (i := 0) C dX9_hurl_62 (n := 63) rfl rfl rfl ?_
    refine gf_X9_65 C (hmi 60 (by decide) (by decide)) dX9_hurl_63 (n := 66) rfl ?_
    refine dk_iconst (v := 0) C dX9_hurl_66 (n := 67) rfl (by decide) ?_
    refine dk_iald C dk_sh76 h.1 (hmi 76 (by decide) (by decide)) dX9_hurl_67 (n := 68) rfl ?_
    have h := h.2
    refine dk_name (fun v13 ev13 => ?_)
    have h := h v13 ev13
    refine dk_istore (i := 4) (L' := [some (dk_r G 4 60), some (.int x1), some (.int x2), some (.int y0), some (.int v13), none, none]) C dX9_hurl_68 (n := 70) rfl (dk_nc_of rfl) (Nat.le_of_ble_eq_true rfl) rfl ?_
    refine dk_iconst (v := 0) C dX9_hurl_70 (n := 71) rfl (by decide) ?_
    refine dk_istore (i := 5) (L' := [some (dk_r G 4 60), some (.int x1), some (.int x2), some (.int y0), some (.int v13), some (.int 0), none]) C dX9_hurl_71 (n := 73) rfl (dk_nc_of rfl) (Nat.le_of_ble_eq_true rfl) rfl ?_
    obtain ⟨nn18, h⟩ := h
    refine dk_sub (L0 := [some (dk_r G 4 60), some (.int x1), some (.int x2), none, some (.int v13), some (.int 0), none]) ⟨rfl, ⟨rfl, ⟨rfl, ⟨rfl, ⟨rfl, trivial⟩⟩⟩⟩⟩ ?_
    refine ww_X9_hurl_73 C hr hlk hmi (fun w14 w15 w16 s17 h => ?_) nn18 x1 x2 v13 0 s11 h
    · refine dk_sub (L0 := [some (dk_r G 4 60), some (.int w14), none, none, some (.int w15), some (.int w16), none]) ⟨rfl, ⟨rfl, ⟨rfl, ⟨rfl, trivial⟩⟩⟩⟩ ?_
      exact ww_X9_hurl_121 C hr hlk hmi  w14 w15 w16 s17 h
  · have h := h.2 c19
    refine dk_iconst (v := 0) C dX9_hurl_60 (n := 61) rfl (by decide) ?_
    exact dk_iret C hr hlk rfl dX9_hurl_61 ⟨_, rfl, h⟩
set_option maxRecDepth 20000 in
set_option maxHeartbeats 4000000 in
theorem cc_X9_hurl {G : dk_G} {l : Launch} {a1 : Int32} {a2 : Int32} (hD : dk_D G) (hmi : dk_MI G) {s : dk_S} {K : Int32 → dk_S → Prop} (h : wf_X9_hurl a1 a2 s K) : dk_M G l 9 yX9_hurl cX9_hurl 7 (some .int) [dk_r G 4 60, .int a1, .int a2] s (dk_ki K) := by
  refine dk_of hD (by decide) [some (dk_r G 4 60), some (.int a1), some (.int a2), none, none, none, none] (fun q hq => hq) rfl (Nat.le_of_ble_eq_true rfl) (fun P e S0 m args bel meth c C hr hlk => ?_)
  unfold wf_X9_hurl at h
  refine dk_aload_n (i := 0) C dX9_hurl_0 (n := 1) rfl rfl rfl ?_
  refine dk_iload_n (i := 1) C dX9_hurl_1 (n := 2) rfl rfl rfl ?_
  refine dk_callVi C [] (cc_X9_isThing C.D hmi h) yy_X9_isThing dk_wm_X9_165 dk_sh60 (hmi 60 (by decide) (by decide)) dX9_hurl_2 (fun r2 s1 h => ?_) rfl rfl ⟨Nat.le_of_ble_eq_true rfl, Nat.le_of_ble_eq_true rfl⟩ rfl (Nat.le_of_ble_eq_true rfl) rfl (n := 5) rfl
  refine dk_if_ne (t := 12) C dX9_hurl_5 (n := 8) rfl (by decide) (fun c10 => ?_) (fun c10 => ?_)
  · have h := h.1 c10
    refine dk_iload_n (i := 2) C dX9_hurl_12 (n := 13) rfl rfl rfl ?_
    refine dk_iconst (v := 0) C dX9_hurl_13 (n := 14) rfl (by decide) ?_
    refine dk_iconst (v := 3) C dX9_hurl_14 (n := 15) rfl (by decide) ?_
    refine dk_callSi C [] (cc_X9_in C.D  h) yy_X9_in dk_wm_X9_110 dX9_hurl_15 (fun r4 s3 h => ?_) rfl ⟨Nat.le_of_ble_eq_true rfl, Nat.le_of_ble_eq_true rfl⟩ rfl (Nat.le_of_ble_eq_true rfl) rfl (n := 18) rfl
    refine dk_if_ne (t := 25) C dX9_hurl_18 (n := 21) rfl (by decide) (fun c9 => ?_) (fun c9 => ?_)
    · have h := h.1 c9
      refine dk_aload_n (i := 0) C dX9_hurl_25 (n := 26) rfl rfl rfl ?_
      refine dk_callVi C [] (cc_X9_isOn C.D hmi h) yy_X9_isOn dk_wm_X9_145 dk_sh60 (hmi 60 (by decide) (by decide)) dX9_hurl_26 (fun r6 s5 h => ?_) rfl rfl ⟨Nat.le_of_ble_eq_true rfl, Nat.le_of_ble_eq_true rfl⟩ rfl (Nat.le_of_ble_eq_true rfl) rfl (n := 29) rfl
      refine dk_if_ne (t := 36) C dX9_hurl_29 (n := 32) rfl (by decide) (fun c8 => ?_) (fun c8 => ?_)
      · have h := h.1 c8
        refine dk_aload_n (i := 0) C dX9_hurl_36 (n := 37) rfl rfl rfl ?_
        refine gf_X9_83 C (hmi 60 (by decide) (by decide)) dX9_hurl_37 (n := 40) rfl ?_
        refine dk_iload_n (i := 1) C dX9_hurl_40 (n := 41) rfl rfl rfl ?_
        refine dk_iald C dk_sh82 h.1 (hmi 82 (by decide) (by decide)) dX9_hurl_41 (n := 42) rfl ?_
        have h := h.2
        refine dk_iconst (v := (-1)) C dX9_hurl_42 (n := 43) rfl (by decide) ?_
        refine dk_icmp_eq (t := 50) C dX9_hurl_43 (n := 46) rfl (by decide) (fun c7 => ?_) (fun c7 => ?_)
        · have h := h.1 c7
          refine dk_iconst (v := 0) C dX9_hurl_50 (n := 51) rfl (by decide) ?_
          refine dk_sub (L0 := [some (dk_r G 4 60), some (.int a1), some (.int a2), none, none, none, none]) ⟨rfl, ⟨rfl, ⟨rfl, trivial⟩⟩⟩ ?_
          exact ww_X9_hurl_51 C hr hlk hmi  a1 a2 0 s5 h
        · have h := h.2 c7
          refine dk_iconst (v := 4) C dX9_hurl_46 (n := 47) rfl (by decide) ?_
          refine dk_goto (t := 51) C dX9_hurl_47 (by decide) ?_
          refine dk_sub (L0 := [some (dk_r G 4 60), some (.int a1), some (.int a2), none, none, none, none]) ⟨rfl, ⟨rfl, ⟨rfl, trivial⟩⟩⟩ ?_
          exact ww_X9_hurl_51 C hr hlk hmi  a1 a2 4 s5 h
      · have h := h.2 c8
        refine dk_iconst (v := 3) C dX9_hurl_32 (n := 33) rfl (by decide) ?_
        refine dk_goto (t := 51) C dX9_hurl_33 (by decide) ?_
        refine dk_sub (L0 := [some (dk_r G 4 60), some (.int a1), some (.int a2), none, none, none, none]) ⟨rfl, ⟨rfl, ⟨rfl, trivial⟩⟩⟩ ?_
        exact ww_X9_hurl_51 C hr hlk hmi  a1 a2 3 s5 h
    · have h := h.2 c9
      refine dk_iconst (v := 2) C dX9_hurl_21 (n := 22) rfl (by decide) ?_
      refine dk_goto (t := 51) C dX9_hurl_22 (by decide) ?_
      refine dk_sub (L0 := [some (dk_r G 4 60), some (.int a1), some (.int a2), none, none, none, none]) ⟨rfl, ⟨rfl, ⟨rfl, trivial⟩⟩⟩ ?_
      exact ww_X9_hurl_51 C hr hlk hmi  a1 a2 2 s3 h
  · have h := h.2 c10
    refine dk_iconst (v := 1) C dX9_hurl_8 (n := 9) rfl (by decide) ?_
    refine dk_goto (t := 51) C dX9_hurl_9 (by decide) ?_
    refine dk_sub (L0 := [some (dk_r G 4 60), some (.int a1), some (.int a2), none, none, none, none]) ⟨rfl, ⟨rfl, ⟨rfl, trivial⟩⟩⟩ ?_
    exact ww_X9_hurl_51 C hr hlk hmi  a1 a2 1 s1 h
/-! X9_shout -/
set_option maxRecDepth 20000 in
set_option maxHeartbeats 4000000 in
theorem ww_X9_shout_27 {G : dk_G} {P : Program} {l : Launch} {e : Env} {S0 : State} {m : MethodId} {args : Array Value} {bel : List Frame} {meth : Method} {c : Code}  (C : dk_C G P (dk_rm 9) S0 m args c 0 0 cX9_shout 3 RX9) (hr : meth.sig.returnType = (some .int)) (hlk : meth.locks = false) (hmi : dk_MI G) {K : Int32 → dk_S → Prop}  : ∀ (x1 : Int32) (y0 : Int32) (s : dk_S), wf_X9_shout_27 K x1 y0 s → dk_W G P l e (dk_rm 9) S0 m args bel meth c 0 0 (MQ bel (dk_Qc G (dk_ki K)) args S0 0 0 (dk_A G)) 27 [some (dk_r G 4 60), some (.int x1), none] [.int y0, dk_r G 4 60] s := by
  intro x1 y0 s h
  unfold wf_X9_shout_27 at h
  refine dk_callVi C [] (cc_X9_goesOn C.D hmi h) yy_X9_goesOn dk_wm_X9_149 dk_sh60 (hmi 60 (by decide) (by decide)) dX9_shout_27 (fun r8 s7 h => ?_) rfl rfl ⟨Nat.le_of_ble_eq_true rfl, Nat.le_of_ble_eq_true rfl⟩ rfl (Nat.le_of_ble_eq_true rfl) rfl (n := 30) rfl
  refine dk_if_ne (t := 35) C dX9_shout_30 (n := 33) rfl (by decide) (fun c12 => ?_) (fun c12 => ?_)
  · have h := h.1 c12
    refine dk_aload_n (i := 0) C dX9_shout_35 (n := 36) rfl rfl rfl ?_
    refine dk_aload_n (i := 0) C dX9_shout_36 (n := 37) rfl rfl rfl ?_
    refine gf_X9_65 C (hmi 60 (by decide) (by decide)) dX9_shout_37 (n := 40) rfl ?_
    refine dk_iconst (v := 0) C dX9_shout_40 (n := 41) rfl (by decide) ?_
    refine dk_iald C dk_sh76 h.1 (hmi 76 (by decide) (by decide)) dX9_shout_41 (n := 42) rfl ?_
    have h := h.2
    refine dk_iload_n (i := 1) C dX9_shout_42 (n := 43) rfl rfl rfl ?_
    refine dk_callVi C [] (cc_X9_sounds C.D hmi h) yy_X9_sounds dk_wm_X9_238 dk_sh60 (hmi 60 (by decide) (by decide)) dX9_shout_43 (fun r10 s9 h => ?_) rfl rfl ⟨Nat.le_of_ble_eq_true rfl, Nat.le_of_ble_eq_true rfl⟩ rfl (Nat.le_of_ble_eq_true rfl) rfl (n := 46) rfl
    refine dk_istore_n (i := 2) (L' := [some (dk_r G 4 60), some (.int x1), some (.int r10)]) C dX9_shout_46 (n := 47) rfl rfl (dk_nc_of rfl) (Nat.le_of_ble_eq_true rfl) rfl ?_
    refine dk_aload_n (i := 0) C dX9_shout_47 (n := 48) rfl rfl rfl ?_
    refine dk_callVv C [] (cc_X9_ends C.D hmi h) yy_X9_ends dk_wm_X9_273 dk_sh60 (hmi 60 (by decide) (by decide)) dX9_shout_48 (fun s11 h => ?_) rfl rfl ⟨Nat.le_of_ble_eq_true rfl, Nat.le_of_ble_eq_true rfl⟩ rfl (Nat.le_of_ble_eq_true rfl) rfl (n := 51) rfl
    refine dk_iload_n (i := 2) C dX9_shout_51 (n := 52) rfl rfl rfl ?_
    exact dk_iret C hr hlk rfl dX9_shout_52 ⟨_, rfl, h⟩
  · have h := h.2 c12
    refine dk_iconst (v := 0) C dX9_shout_33 (n := 34) rfl (by decide) ?_
    exact dk_iret C hr hlk rfl dX9_shout_34 ⟨_, rfl, h⟩
set_option maxRecDepth 20000 in
set_option maxHeartbeats 4000000 in
theorem cc_X9_shout {G : dk_G} {l : Launch} {a1 : Int32} (hD : dk_D G) (hmi : dk_MI G) {s : dk_S} {K : Int32 → dk_S → Prop} (h : wf_X9_shout a1 s K) : dk_M G l 9 yX9_shout cX9_shout 3 (some .int) [dk_r G 4 60, .int a1] s (dk_ki K) := by
  refine dk_of hD (by decide) [some (dk_r G 4 60), some (.int a1), none] (fun q hq => hq) rfl (Nat.le_of_ble_eq_true rfl) (fun P e S0 m args bel meth c C hr hlk => ?_)
  unfold wf_X9_shout at h
  refine dk_aload_n (i := 0) C dX9_shout_0 (n := 1) rfl rfl rfl ?_
  refine dk_iload_n (i := 1) C dX9_shout_1 (n := 2) rfl rfl rfl ?_
  refine dk_iconst (v := 1) C dX9_shout_2 (n := 3) rfl (by decide) ?_
  refine dk_bipush (v := 30) C dX9_shout_3 (n := 5) rfl (by decide) ?_
  refine dk_callSi C [dk_r G 4 60] (cc_X9_in C.D  h) yy_X9_in dk_wm_X9_110 dX9_shout_5 (fun r2 s1 h => ?_) rfl ⟨Nat.le_of_ble_eq_true rfl, Nat.le_of_ble_eq_true rfl⟩ rfl (Nat.le_of_ble_eq_true rfl) rfl (n := 8) rfl
  refine dk_if_ne (t := 15) C dX9_shout_8 (n := 11) rfl (by decide) (fun c6 => ?_) (fun c6 => ?_)
  · have h := h.1 c6
    refine dk_aload_n (i := 0) C dX9_shout_15 (n := 16) rfl rfl rfl ?_
    refine dk_callVi C [dk_r G 4 60] (cc_X9_isOn C.D hmi h) yy_X9_isOn dk_wm_X9_145 dk_sh60 (hmi 60 (by decide) (by decide)) dX9_shout_16 (fun r4 s3 h => ?_) rfl rfl ⟨Nat.le_of_ble_eq_true rfl, Nat.le_of_ble_eq_true rfl⟩ rfl (Nat.le_of_ble_eq_true rfl) rfl (n := 19) rfl
    refine dk_if_ne (t := 26) C dX9_shout_19 (n := 22) rfl (by decide) (fun c5 => ?_) (fun c5 => ?_)
    · have h := h.1 c5
      refine dk_iconst (v := 0) C dX9_shout_26 (n := 27) rfl (by decide) ?_
      refine dk_sub (L0 := [some (dk_r G 4 60), some (.int a1), none]) ⟨rfl, ⟨rfl, trivial⟩⟩ ?_
      exact ww_X9_shout_27 C hr hlk hmi  a1 0 s3 h
    · have h := h.2 c5
      refine dk_iconst (v := 2) C dX9_shout_22 (n := 23) rfl (by decide) ?_
      refine dk_goto (t := 27) C dX9_shout_23 (by decide) ?_
      refine dk_sub (L0 := [some (dk_r G 4 60), some (.int a1), none]) ⟨rfl, ⟨rfl, trivial⟩⟩ ?_
      exact ww_X9_shout_27 C hr hlk hmi  a1 2 s3 h
  · have h := h.2 c6
    refine dk_iconst (v := 1) C dX9_shout_11 (n := 12) rfl (by decide) ?_
    refine dk_goto (t := 27) C dX9_shout_12 (by decide) ?_
    refine dk_sub (L0 := [some (dk_r G 4 60), some (.int a1), none]) ⟨rfl, ⟨rfl, trivial⟩⟩ ?_
    exact ww_X9_shout_27 C hr hlk hmi  a1 1 s1 h
