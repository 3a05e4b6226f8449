/-! X9_sees -/
set_option maxRecDepth 20000 in
set_option maxHeartbeats 4000000 in
theorem ww_X9_sees_48 {G : dk_G} {P : Program} {l : Launch} {e : Env} {S0 : State} {m : MethodId} {args : Array Value} {bel : List Frame} {meth : Method} {c : Code}  (C : dk_C G P (dk_rm 3) S0 m args c 0 0 cX9_sees 5 RX9) (hr : meth.sig.returnType = (some .boolean)) (hlk : meth.locks = false) (hmi : dk_MI G) {K : Int32 → dk_S → Prop} {B : Int32 → Int32 → Int32 → Int32 → dk_S → Prop} (hB : ∀ (x1 : Int32) (x2 : Int32) (x3 : Int32) (x4 : Int32) (s : dk_S), B x1 x2 x3 x4 s → dk_W G P l e (dk_rm 3) S0 m args bel meth c 0 0 (MQ bel (dk_Qc G (dk_ki K)) args S0 0 0 (dk_A G)) 5 [some (dk_r G 4 60), some (.int x1), some (.int x2), some (.int x3), some (.int x4)] [] s)  : ∀ (x1 : Int32) (x2 : Int32) (x4 : Int32) (s : dk_S), wf_X9_sees_48 K B x1 x2 x4 s → dk_W G P l e (dk_rm 3) S0 m args bel meth c 0 0 (MQ bel (dk_Qc G (dk_ki K)) args S0 0 0 (dk_A G)) 48 [some (dk_r G 4 60), some (.int x1), some (.int x2), none, some (.int x4)] [] s := by
  intro x1 x2 x4 s h
  unfold wf_X9_sees_48 at h
  refine dk_iconst (v := 1) C dX9_sees_48 (n := 49) rfl (by decide) ?_
  refine dk_goto (t := 53) C dX9_sees_49 (by decide) ?_
  refine dk_istore_n (i := 3) (L' := [some (dk_r G 4 60), some (.int x1), some (.int x2), some (.int 1), some (.int x4)]) C dX9_sees_53 (n := 54) rfl rfl (dk_nc_of rfl) (Nat.le_of_ble_eq_true rfl) rfl ?_
  obtain ⟨v13, ev13⟩ : ∃ y : Int32, y = x4 + 1 := ⟨_, rfl⟩
  have h := h v13 ev13
  refine dk_iinc (i := 4) (v := v13) (L' := [some (dk_r G 4 60), some (.int x1), some (.int x2), some (.int 1), some (.int v13)]) C dX9_sees_54 (n := 57) rfl rfl (by rw [ev13]; rfl) (dk_nc_of rfl) (Nat.le_of_ble_eq_true rfl) rfl ?_
  refine dk_goto (t := 5) C dX9_sees_57 (by decide) ?_
  refine dk_sub (L0 := [some (dk_r G 4 60), some (.int x1), some (.int x2), some (.int 1), some (.int v13)]) ⟨rfl, ⟨rfl, ⟨rfl, ⟨rfl, ⟨rfl, trivial⟩⟩⟩⟩⟩ ?_
  exact hB x1 x2 1 v13 s h
set_option maxRecDepth 20000 in
set_option maxHeartbeats 4000000 in
theorem ww_X9_sees_5 {G : dk_G} {P : Program} {l : Launch} {e : Env} {S0 : State} {m : MethodId} {args : Array Value} {bel : List Frame} {meth : Method} {c : Code}  (C : dk_C G P (dk_rm 3) S0 m args c 0 0 cX9_sees 5 RX9) (hr : meth.sig.returnType = (some .boolean)) (hlk : meth.locks = false) (hmi : dk_MI G) {K : Int32 → dk_S → Prop}  : ∀ (n : Nat) (x1 : Int32) (x2 : Int32) (x3 : Int32) (x4 : Int32) (s : dk_S), wf_X9_sees_5 K n x1 x2 x3 x4 s → dk_W G P l e (dk_rm 3) S0 m args bel meth c 0 0 (MQ bel (dk_Qc G (dk_ki K)) args S0 0 0 (dk_A G)) 5 [some (dk_r G 4 60), some (.int x1), some (.int x2), some (.int x3), some (.int x4)] [] s := by
  intro n
  induction n with
  | zero => intro x1 x2 x3 x4 s h; exact False.elim h
  | succ n hB =>
    intro x1 x2 x3 x4 s h
    unfold wf_X9_sees_5 at h
    refine dk_iload C dX9_sees_5 (n := 7) rfl (i := 4) rfl ?_
    refine dk_sipush (v := 144) C dX9_sees_7 (n := 10) rfl (by decide) ?_
    refine dk_icmp_ge (t := 60) C dX9_sees_10 (n := 13) rfl (by decide) (fun c12 => ?_) (fun c12 => ?_)
    · have h := h.1 c12
      refine dk_iload_n (i := 3) C dX9_sees_60 (n := 61) rfl rfl rfl ?_
      exact dk_iret C hr hlk h.1 dX9_sees_61 ⟨_, rfl, h.2⟩
    · have h := h.2 c12
      refine dk_iload_n (i := 3) C dX9_sees_13 (n := 14) rfl rfl rfl ?_
      refine dk_if_eq (t := 60) C dX9_sees_14 (n := 17) rfl (by decide) (fun c11 => ?_) (fun c11 => ?_)
      · have h := h.1 c11
        refine dk_iload_n (i := 3) C dX9_sees_60 (n := 61) rfl rfl rfl ?_
        exact dk_iret C hr hlk h.1 dX9_sees_61 ⟨_, rfl, h.2⟩
      · have h := h.2 c11
        refine dk_iload C dX9_sees_17 (n := 19) rfl (i := 4) rfl ?_
        refine dk_iload_n (i := 1) C dX9_sees_19 (n := 20) rfl rfl rfl ?_
        refine dk_icmp_eq (t := 48) C dX9_sees_20 (n := 23) rfl (by decide) (fun c10 => ?_) (fun c10 => ?_)
        · have h := h.1 c10
          refine dk_sub (L0 := [some (dk_r G 4 60), some (.int x1), some (.int x2), none, some (.int x4)]) ⟨rfl, ⟨rfl, ⟨rfl, ⟨rfl, trivial⟩⟩⟩⟩ ?_
          exact ww_X9_sees_48 C hr hlk hmi hB x1 x2 x4 s h
        · have h := h.2 c10
          refine dk_iload C dX9_sees_23 (n := 25) rfl (i := 4) rfl ?_
          refine dk_iload_n (i := 2) C dX9_sees_25 (n := 26) rfl rfl rfl ?_
          refine dk_icmp_eq (t := 48) C dX9_sees_26 (n := 29) rfl (by decide) (fun c9 => ?_) (fun c9 => ?_)
          · have h := h.1 c9
            refine dk_sub (L0 := [some (dk_r G 4 60), some (.int x1), some (.int x2), none, some (.int x4)]) ⟨rfl, ⟨rfl, ⟨rfl, ⟨rfl, trivial⟩⟩⟩⟩ ?_
            exact ww_X9_sees_48 C hr hlk hmi hB x1 x2 x4 s h
          · have h := h.2 c9
            refine dk_aload_n (i := 0) C dX9_sees_29 (n := 30) rfl rfl rfl ?_
            refine dk_iload C dX9_sees_30 (n := 32) rfl (i := 4) rfl ?_
            refine dk_callVi C [] (cc_X9_isFree C.D hmi h) yy_X9_isFree dk_wm_X9_174 dk_sh60 (hmi 60 (by decide) (by decide)) dX9_sees_32 (fun r3 s2 h => ?_) rfl rfl ⟨Nat.le_of_ble_eq_true rfl, Nat.le_of_ble_eq_true rfl⟩ rfl (Nat.le_of_ble_eq_true rfl) rfl (n := 35) rfl
            refine dk_if_ne (t := 48) C dX9_sees_35 (n := 38) rfl (by decide) (fun c8 => ?_) (fun c8 => ?_)
            · have h := h.1 c8
              refine dk_sub (L0 := [some (dk_r G 4 60), some (.int x1), some (.int x2), none, some (.int x4)]) ⟨rfl, ⟨rfl, ⟨rfl, ⟨rfl, trivial⟩⟩⟩⟩ ?_
              exact ww_X9_sees_48 C hr hlk hmi hB x1 x2 x4 s2 h
            · have h := h.2 c8
              refine dk_iload_n (i := 1) C dX9_sees_38 (n := 39) rfl rfl rfl ?_
              refine dk_iload_n (i := 2) C dX9_sees_39 (n := 40) rfl rfl rfl ?_
              refine dk_iload C dX9_sees_40 (n := 42) rfl (i := 4) rfl ?_
              refine dk_callSi C [] (cc_X9_crosses C.D  h) yy_X9_crosses dk_wm_X9_177 dX9_sees_42 (fun r5 s4 h => ?_) rfl ⟨Nat.le_of_ble_eq_true rfl, Nat.le_of_ble_eq_true rfl⟩ rfl (Nat.le_of_ble_eq_true rfl) rfl (n := 45) rfl
              refine dk_if_ne (t := 52) C dX9_sees_45 (n := 48) rfl (by decide) (fun c7 => ?_) (fun c7 => ?_)
              · have h := h.1 c7
                refine dk_iconst (v := 0) C dX9_sees_52 (n := 53) rfl (by decide) ?_
                refine dk_istore_n (i := 3) (L' := [some (dk_r G 4 60), some (.int x1), some (.int x2), some (.int 0), some (.int x4)]) C dX9_sees_53 (n := 54) rfl rfl (dk_nc_of rfl) (Nat.le_of_ble_eq_true rfl) rfl ?_
                obtain ⟨v6, ev6⟩ : ∃ y : Int32, y = x4 + 1 := ⟨_, rfl⟩
                have h := h v6 ev6
                refine dk_iinc (i := 4) (v := v6) (L' := [some (dk_r G 4 60), some (.int x1), some (.int x2), some (.int 0), some (.int v6)]) C dX9_sees_54 (n := 57) rfl rfl (by rw [ev6]; rfl) (dk_nc_of rfl) (Nat.le_of_ble_eq_true rfl) rfl ?_
                refine dk_goto (t := 5) C dX9_sees_57 (by decide) ?_
                refine dk_sub (L0 := [some (dk_r G 4 60), some (.int x1), some (.int x2), some (.int 0), some (.int v6)]) ⟨rfl, ⟨rfl, ⟨rfl, ⟨rfl, ⟨rfl, trivial⟩⟩⟩⟩⟩ ?_
                exact hB x1 x2 0 v6 s4 h
              · have h := h.2 c7
                refine dk_sub (L0 := [some (dk_r G 4 60), some (.int x1), some (.int x2), none, some (.int x4)]) ⟨rfl, ⟨rfl, ⟨rfl, ⟨rfl, trivial⟩⟩⟩⟩ ?_
                exact ww_X9_sees_48 C hr hlk hmi hB x1 x2 x4 s4 h
set_option maxRecDepth 20000 in
set_option maxHeartbeats 4000000 in
theorem cc_X9_sees {G : dk_G} {l : Launch} {a1 : Int32} {a2 : Int32} (hD : dk_D G) (hmi : dk_MI G) {s : dk_S} {K : Int32 → dk_S → Prop} (h : wf_X9_sees a1 a2 s K) : dk_M G l 3 yX9_sees cX9_sees 5 (some .boolean) [dk_r G 4 60, .int a1, .int a2] s (dk_ki K) := by
  refine dk_of hD (by decide) [some (dk_r G 4 60), some (.int a1), some (.int a2), none, none] (fun q hq => hq) rfl (Nat.le_of_ble_eq_true rfl) (fun P e S0 m args bel meth c C hr hlk => ?_)
  unfold wf_X9_sees at h
  refine dk_iconst (v := 1) C dX9_sees_0 (n := 1) rfl (by decide) ?_
  refine dk_istore_n (i := 3) (L' := [some (dk_r G 4 60), some (.int a1), some (.int a2), some (.int 1), none]) C dX9_sees_1 (n := 2) rfl rfl (dk_nc_of rfl) (Nat.le_of_ble_eq_true rfl) rfl ?_
  refine dk_iconst (v := 0) C dX9_sees_2 (n := 3) rfl (by decide) ?_
  refine dk_istore (i := 4) (L' := [some (dk_r G 4 60), some (.int a1), some (.int a2), some (.int 1), some (.int 0)]) C dX9_sees_3 (n := 5) rfl (dk_nc_of rfl) (Nat.le_of_ble_eq_true rfl) rfl ?_
  obtain ⟨nn1, h⟩ := h
  refine dk_sub (L0 := [some (dk_r G 4 60), some (.int a1), some (.int a2), some (.int 1), some (.int 0)]) ⟨rfl, ⟨rfl, ⟨rfl, ⟨rfl, ⟨rfl, trivial⟩⟩⟩⟩⟩ ?_
  refine ww_X9_sees_5 C hr hlk hmi  nn1 a1 a2 1 0 s h
/-! X9_isLit -/
set_option maxRecDepth 20000 in
set_option maxHeartbeats 4000000 in
theorem ww_X9_isLit_4 {G : dk_G} {P : Program} {l : Launch} {e : Env} {S0 : State} {m : MethodId} {args : Array Value} {bel : List Frame} {meth : Method} {c : Code}  (C : dk_C G P (dk_rm 4) S0 m args c 0 0 cX9_isLit 6 RX9) (hr : meth.sig.returnType = (some .boolean)) (hlk : meth.locks = false) (hmi : dk_MI G) {K : Int32 → dk_S → Prop}  : ∀ (n : Nat) (x1 : Int32) (x2 : Int32) (x3 : Int32) (s : dk_S), wf_X9_isLit_4 K n x1 x2 x3 s → dk_W G P l e (dk_rm 4) S0 m args bel meth c 0 0 (MQ bel (dk_Qc G (dk_ki K)) args S0 0 0 (dk_A G)) 4 [some (dk_r G 4 60), some (.int x1), some (.int x2), some (.int x3), none, none] [] s := by
  intro n
  induction n with
  | zero => intro x1 x2 x3 s h; exact False.elim h
  | succ n hB =>
    intro x1 x2 x3 s h
    unfold wf_X9_isLit_4 at h
    refine dk_iload_n (i := 3) C dX9_isLit_4 (n := 5) rfl rfl rfl ?_
    refine dk_aload_n (i := 0) C dX9_isLit_5 (n := 6) rfl rfl rfl ?_
    refine gf_X9_168 C (hmi 60 (by decide) (by decide)) dX9_isLit_6 (n := 9) rfl ?_
    refine dk_icmp_ge (t := 101) C dX9_isLit_9 (n := 12) rfl (by decide) (fun c20 => ?_) (fun c20 => ?_)
    · have h := h.1 c20
      refine dk_iload_n (i := 2) C dX9_isLit_101 (n := 102) rfl rfl rfl ?_
      exact dk_iret C hr hlk h.1 dX9_isLit_102 ⟨_, rfl, h.2⟩
    · have h := h.2 c20
      refine dk_iload_n (i := 2) C dX9_isLit_12 (n := 13) rfl rfl rfl ?_
      refine dk_if_ne (t := 101) C dX9_isLit_13 (n := 16) rfl (by decide) (fun c19 => ?_) (fun c19 => ?_)
      · have h := h.1 c19
        refine dk_iload_n (i := 2) C dX9_isLit_101 (n := 102) rfl rfl rfl ?_
        exact dk_iret C hr hlk h.1 dX9_isLit_102 ⟨_, rfl, h.2⟩
      · have h := h.2 c19
        refine dk_iload_n (i := 1) C dX9_isLit_16 (n := 17) rfl rfl rfl ?_
        refine dk_callSi C [] (cc_X9_xOf C.D  h) yy_X9_xOf dk_wm_X9_114 dX9_isLit_17 (fun r3 s2 h => ?_) rfl ⟨Nat.le_of_ble_eq_true rfl, Nat.le_of_ble_eq_true rfl⟩ rfl (Nat.le_of_ble_eq_true rfl) rfl (n := 20) rfl
        refine dk_aload_n (i := 0) C dX9_isLit_20 (n := 21) rfl rfl rfl ?_
        refine gf_X9_56 C (hmi 60 (by decide) (by decide)) dX9_isLit_21 (n := 24) rfl ?_
        refine dk_iload_n (i := 3) C dX9_isLit_24 (n := 25) rfl rfl rfl ?_
        refine dk_iald C dk_sh73 h.1 (hmi 73 (by decide) (by decide)) dX9_isLit_25 (n := 26) rfl ?_
        have h := h.2
        refine dk_callSi C [.int r3] (cc_X9_xOf C.D  h) yy_X9_xOf dk_wm_X9_114 dX9_isLit_26 (fun r5 s4 h => ?_) rfl ⟨Nat.le_of_ble_eq_true rfl, Nat.le_of_ble_eq_true rfl⟩ rfl (Nat.le_of_ble_eq_true rfl) rfl (n := 29) rfl
        refine dk_isub C dX9_isLit_29 (n := 30) rfl ?_
        refine dk_name (fun v6 ev6 => ?_)
        have h := h v6 ev6
        refine dk_istore (i := 4) (L' := [some (dk_r G 4 60), some (.int x1), some (.int x2), some (.int x3), some (.int v6), none]) C dX9_isLit_30 (n := 32) rfl (dk_nc_of rfl) (Nat.le_of_ble_eq_true rfl) rfl ?_
        refine dk_iload_n (i := 1) C dX9_isLit_32 (n := 33) rfl rfl rfl ?_
        refine dk_callSi C [] (cc_X9_yOf C.D  h) yy_X9_yOf dk_wm_X9_118 dX9_isLit_33 (fun r8 s7 h => ?_) rfl ⟨Nat.le_of_ble_eq_true rfl, Nat.le_of_ble_eq_true rfl⟩ rfl (Nat.le_of_ble_eq_true rfl) rfl (n := 36) rfl
        refine dk_aload_n (i := 0) C dX9_isLit_36 (n := 37) rfl rfl rfl ?_
        refine gf_X9_56 C (hmi 60 (by decide) (by decide)) dX9_isLit_37 (n := 40) rfl ?_
        refine dk_iload_n (i := 3) C dX9_isLit_40 (n := 41) rfl rfl rfl ?_
        refine dk_iald C dk_sh73 h.1 (hmi 73 (by decide) (by decide)) dX9_isLit_41 (n := 42) rfl ?_
        have h := h.2
        refine dk_callSi C [.int r8] (cc_X9_yOf C.D  h) yy_X9_yOf dk_wm_X9_118 dX9_isLit_42 (fun r10 s9 h => ?_) rfl ⟨Nat.le_of_ble_eq_true rfl, Nat.le_of_ble_eq_true rfl⟩ rfl (Nat.le_of_ble_eq_true rfl) rfl (n := 45) rfl
        refine dk_isub C dX9_isLit_45 (n := 46) rfl ?_
        refine dk_name (fun v11 ev11 => ?_)
        have h := h v11 ev11
        refine dk_istore (i := 5) (L' := [some (dk_r G 4 60), some (.int x1), some (.int x2), some (.int x3), some (.int v6), some (.int v11)]) C dX9_isLit_46 (n := 48) rfl (dk_nc_of rfl) (Nat.le_of_ble_eq_true rfl) rfl ?_
        refine dk_iload C dX9_isLit_48 (n := 50) rfl (i := 4) rfl ?_
        refine dk_iload C dX9_isLit_50 (n := 52) rfl (i := 4) rfl ?_
        refine dk_imul C dX9_isLit_52 (n := 53) rfl ?_
        refine dk_iload C dX9_isLit_53 (n := 55) rfl (i := 5) rfl ?_
        refine dk_iload C dX9_isLit_55 (n := 57) rfl (i := 5) rfl ?_
        refine dk_imul C dX9_isLit_57 (n := 58) rfl ?_
        refine dk_iadd C dX9_isLit_58 (n := 59) rfl ?_
        refine dk_aload_n (i := 0) C dX9_isLit_59 (n := 60) rfl rfl rfl ?_
        refine gf_X9_59 C (hmi 60 (by decide) (by decide)) dX9_isLit_60 (n := 63) rfl ?_
        refine dk_iload_n (i := 3) C dX9_isLit_63 (n := 64) rfl rfl rfl ?_
        refine dk_iald C dk_sh74 h.1 (hmi 74 (by decide) (by decide)) dX9_isLit_64 (n := 65) rfl ?_
        have h := h.2
        refine dk_aload_n (i := 0) C dX9_isLit_65 (n := 66) rfl rfl rfl ?_
        refine gf_X9_59 C (hmi 60 (by decide) (by decide)) dX9_isLit_66 (n := 69) rfl ?_
        refine dk_iload_n (i := 3) C dX9_isLit_69 (n := 70) rfl rfl rfl ?_
        refine dk_iald C dk_sh74 h.1 (hmi 74 (by decide) (by decide)) dX9_isLit_70 (n := 71) rfl ?_
        have h := h.2
        refine dk_imul C dX9_isLit_71 (n := 72) rfl ?_
        refine dk_icmp_gt (t := 93) C dX9_isLit_72 (n := 75) rfl (by decide) (fun c18 => ?_) (fun c18 => ?_)
        · have h := h.1 c18
          refine dk_iconst (v := 0) C dX9_isLit_93 (n := 94) rfl (by decide) ?_
          refine dk_istore_n (i := 2) (L' := [some (dk_r G 4 60), some (.int x1), some (.int 0), some (.int x3), some (.int v6), some (.int v11)]) C dX9_isLit_94 (n := 95) rfl rfl (dk_nc_of rfl) (Nat.le_of_ble_eq_true rfl) rfl ?_
          obtain ⟨v12, ev12⟩ : ∃ y : Int32, y = x3 + 1 := ⟨_, rfl⟩
          have h := h v12 ev12
          refine dk_iinc (i := 3) (v := v12) (L' := [some (dk_r G 4 60), some (.int x1), some (.int 0), some (.int v12), some (.int v6), some (.int v11)]) C dX9_isLit_95 (n := 98) rfl rfl (by rw [ev12]; rfl) (dk_nc_of rfl) (Nat.le_of_ble_eq_true rfl) rfl ?_
          refine dk_goto (t := 4) C dX9_isLit_98 (by decide) ?_
          refine dk_sub (L0 := [some (dk_r G 4 60), some (.int x1), some (.int 0), some (.int v12), none, none]) ⟨rfl, ⟨rfl, ⟨rfl, ⟨rfl, trivial⟩⟩⟩⟩ ?_
          exact hB x1 0 v12 s9 h
        · have h := h.2 c18
          refine dk_aload_n (i := 0) C dX9_isLit_75 (n := 76) rfl rfl rfl ?_
          refine dk_aload_n (i := 0) C dX9_isLit_76 (n := 77) rfl rfl rfl ?_
          refine gf_X9_56 C (hmi 60 (by decide) (by decide)) dX9_isLit_77 (n := 80) rfl ?_
          refine dk_iload_n (i := 3) C dX9_isLit_80 (n := 81) rfl rfl rfl ?_
          refine dk_iald C dk_sh73 h.1 (hmi 73 (by decide) (by decide)) dX9_isLit_81 (n := 82) rfl ?_
          have h := h.2
          refine dk_iload_n (i := 1) C dX9_isLit_82 (n := 83) rfl rfl rfl ?_
          refine dk_callVi C [] (cc_X9_sees C.D hmi h) yy_X9_sees dk_wm_X9_180 dk_sh60 (hmi 60 (by decide) (by decide)) dX9_isLit_83 (fun r14 s13 h => ?_) rfl rfl ⟨Nat.le_of_ble_eq_true rfl, Nat.le_of_ble_eq_true rfl⟩ rfl (Nat.le_of_ble_eq_true rfl) rfl (n := 86) rfl
          refine dk_if_eq (t := 93) C dX9_isLit_86 (n := 89) rfl (by decide) (fun c17 => ?_) (fun c17 => ?_)
          · have h := h.1 c17
            refine dk_iconst (v := 0) C dX9_isLit_93 (n := 94) rfl (by decide) ?_
            refine dk_istore_n (i := 2) (L' := [some (dk_r G 4 60), some (.int x1), some (.int 0), some (.int x3), some (.int v6), some (.int v11)]) C dX9_isLit_94 (n := 95) rfl rfl (dk_nc_of rfl) (Nat.le_of_ble_eq_true rfl) rfl ?_
            obtain ⟨v15, ev15⟩ : ∃ y : Int32, y = x3 + 1 := ⟨_, rfl⟩
            have h := h v15 ev15
            refine dk_iinc (i := 3) (v := v15) (L' := [some (dk_r G 4 60), some (.int x1), some (.int 0), some (.int v15), some (.int v6), some (.int v11)]) C dX9_isLit_95 (n := 98) rfl rfl (by rw [ev15]; rfl) (dk_nc_of rfl) (Nat.le_of_ble_eq_true rfl) rfl ?_
            refine dk_goto (t := 4) C dX9_isLit_98 (by decide) ?_
            refine dk_sub (L0 := [some (dk_r G 4 60), some (.int x1), some (.int 0), some (.int v15), none, none]) ⟨rfl, ⟨rfl, ⟨rfl, ⟨rfl, trivial⟩⟩⟩⟩ ?_
            exact hB x1 0 v15 s13 h
          · have h := h.2 c17
            refine dk_iconst (v := 1) C dX9_isLit_89 (n := 90) rfl (by decide) ?_
            refine dk_goto (t := 94) C dX9_isLit_90 (by decide) ?_
            refine dk_istore_n (i := 2) (L' := [some (dk_r G 4 60), some (.int x1), some (.int 1), some (.int x3), some (.int v6), some (.int v11)]) C dX9_isLit_94 (n := 95) rfl rfl (dk_nc_of rfl) (Nat.le_of_ble_eq_true rfl) rfl ?_
            obtain ⟨v16, ev16⟩ : ∃ y : Int32, y = x3 + 1 := ⟨_, rfl⟩
            have h := h v16 ev16
            refine dk_iinc (i := 3) (v := v16) (L' := [some (dk_r G 4 60), some (.int x1), some (.int 1), some (.int v16), some (.int v6), some (.int v11)]) C dX9_isLit_95 (n := 98) rfl rfl (by rw [ev16]; rfl) (dk_nc_of rfl) (Nat.le_of_ble_eq_true rfl) rfl ?_
            refine dk_goto (t := 4) C dX9_isLit_98 (by decide) ?_
            refine dk_sub (L0 := [some (dk_r G 4 60), some (.int x1), some (.int 1), some (.int v16), none, none]) ⟨rfl, ⟨rfl, ⟨rfl, ⟨rfl, trivial⟩⟩⟩⟩ ?_
            exact hB x1 1 v16 s13 h
set_option maxRecDepth 20000 in
set_option maxHeartbeats 4000000 in
theorem cc_X9_isLit {G : dk_G} {l : Launch} {a1 : Int32} (hD : dk_D G) (hmi : dk_MI G) {s : dk_S} {K : Int32 → dk_S → Prop} (h : wf_X9_isLit a1 s K) : dk_M G l 4 yX9_isLit cX9_isLit 6 (some .boolean) [dk_r G 4 60, .int a1] s (dk_ki K) := by
  refine dk_of hD (by decide) [some (dk_r G 4 60), some (.int a1), none, none, none, none] (fun q hq => hq) rfl (Nat.le_of_ble_eq_true rfl) (fun P e S0 m args bel meth c C hr hlk => ?_)
  unfold wf_X9_isLit at h
  refine dk_iconst (v := 0) C dX9_isLit_0 (n := 1) rfl (by decide) ?_
  refine dk_istore_n (i := 2) (L' := [some (dk_r G 4 60), some (.int a1), some (.int 0), none, none, none]) C dX9_isLit_1 (n := 2) rfl rfl (dk_nc_of rfl) (Nat.le_of_ble_eq_true rfl) rfl ?_
  refine dk_iconst (v := 0) C dX9_isLit_2 (n := 3) rfl (by decide) ?_
  refine dk_istore_n (i := 3) (L' := [some (dk_r G 4 60), some (.int a1), some (.int 0), some (.int 0), none, none]) C dX9_isLit_3 (n := 4) rfl rfl (dk_nc_of rfl) (Nat.le_of_ble_eq_true rfl) rfl ?_
  obtain ⟨nn1, h⟩ := h
  refine dk_sub (L0 := [some (dk_r G 4 60), some (.int a1), some (.int 0), some (.int 0), none, none]) ⟨rfl, ⟨rfl, ⟨rfl, ⟨rfl, trivial⟩⟩⟩⟩ ?_
  refine ww_X9_isLit_4 C hr hlk hmi  nn1 a1 0 0 s h
/-! X9_around -/
set_option maxRecDepth 20000 in
set_option maxHeartbeats 4000000 in
theorem cc_X9_around {G : dk_G} {l : Launch} {a0 : Int32} {a1 : Int32} (hD : dk_D G)  {s : dk_S} {K : Int32 → dk_S → Prop} (h : wf_X9_around a0 a1 s K) : dk_M G l 2 yX9_around cX9_around 4 (some .int) [.int a0, .int a1] s (dk_ki K) := by
  refine dk_of hD (by decide) [some (.int a0), some (.int a1), none, none] (fun q hq => hq) rfl (Nat.le_of_ble_eq_true rfl) (fun P e S0 m args bel meth c C hr hlk => ?_)
  unfold wf_X9_around at h
  refine dk_iload_n (i := 0) C dX9_around_0 (n := 1) rfl rfl rfl ?_
  refine dk_callSi C [] (cc_X9_xOf C.D  h) yy_X9_xOf dk_wm_X9_114 dX9_around_1 (fun r2 s1 h => ?_) rfl ⟨Nat.le_of_ble_eq_true rfl, Nat.le_of_ble_eq_true rfl⟩ rfl (Nat.le_of_ble_eq_true rfl) rfl (n := 4) rfl
  refine dk_iload_n (i := 1) C dX9_around_4 (n := 5) rfl rfl rfl ?_
  refine dk_callSi C [.int r2] (cc_X9_xOf C.D  h) yy_X9_xOf dk_wm_X9_114 dX9_around_5 (fun r4 s3 h => ?_) rfl ⟨Nat.le_of_ble_eq_true rfl, Nat.le_of_ble_eq_true rfl⟩ rfl (Nat.le_of_ble_eq_true rfl) rfl (n := 8) rfl
  refine dk_isub C dX9_around_8 (n := 9) rfl ?_
  refine dk_callSi C [] (cc_X9_far C.D  h) yy_X9_far dk_wm_X9_171 dX9_around_9 (fun r6 s5 h => ?_) rfl ⟨Nat.le_of_ble_eq_true rfl, Nat.le_of_ble_eq_true rfl⟩ rfl (Nat.le_of_ble_eq_true rfl) rfl (n := 12) rfl
  refine dk_istore_n (i := 2) (L' := [some (.int a0), some (.int a1), some (.int r6), none]) C dX9_around_12 (n := 13) rfl rfl (dk_nc_of rfl) (Nat.le_of_ble_eq_true rfl) rfl ?_
  refine dk_iload_n (i := 0) C dX9_around_13 (n := 14) rfl rfl rfl ?_
  refine dk_callSi C [] (cc_X9_yOf C.D  h) yy_X9_yOf dk_wm_X9_118 dX9_around_14 (fun r8 s7 h => ?_) rfl ⟨Nat.le_of_ble_eq_true rfl, Nat.le_of_ble_eq_true rfl⟩ rfl (Nat.le_of_ble_eq_true rfl) rfl (n := 17) rfl
  refine dk_iload_n (i := 1) C dX9_around_17 (n := 18) rfl rfl rfl ?_
  refine dk_callSi C [.int r8] (cc_X9_yOf C.D  h) yy_X9_yOf dk_wm_X9_118 dX9_around_18 (fun r10 s9 h => ?_) rfl ⟨Nat.le_of_ble_eq_true rfl, Nat.le_of_ble_eq_true rfl⟩ rfl (Nat.le_of_ble_eq_true rfl) rfl (n := 21) rfl
  refine dk_isub C dX9_around_21 (n := 22) rfl ?_
  refine dk_callSi C [] (cc_X9_far C.D  h) yy_X9_far dk_wm_X9_171 dX9_around_22 (fun r12 s11 h => ?_) rfl ⟨Nat.le_of_ble_eq_true rfl, Nat.le_of_ble_eq_true rfl⟩ rfl (Nat.le_of_ble_eq_true rfl) rfl (n := 25) rfl
  refine dk_istore_n (i := 3) (L' := [some (.int a0), some (.int a1), some (.int r6), some (.int r12)]) C dX9_around_25 (n := 26) rfl rfl (dk_nc_of rfl) (Nat.le_of_ble_eq_true rfl) rfl ?_
  refine dk_iload_n (i := 2) C dX9_around_26 (n := 27) rfl rfl rfl ?_
  refine dk_iload_n (i := 3) C dX9_around_27 (n := 28) rfl rfl rfl ?_
  refine dk_icmp_le (t := 35) C dX9_around_28 (n := 31) rfl (by decide) (fun c13 => ?_) (fun c13 => ?_)
  · have h := h.1 c13
    refine dk_iload_n (i := 3) C dX9_around_35 (n := 36) rfl rfl rfl ?_
    exact dk_iret C hr hlk rfl dX9_around_36 ⟨_, rfl, h⟩
  · have h := h.2 c13
    refine dk_iload_n (i := 2) C dX9_around_31 (n := 32) rfl rfl rfl ?_
    refine dk_goto (t := 36) C dX9_around_32 (by decide) ?_
    exact dk_iret C hr hlk rfl dX9_around_36 ⟨_, rfl, h⟩
/-! X9_heroSeesCell -/
set_option maxRecDepth 20000 in
set_option maxHeartbeats 4000000 in
theorem cc_X9_heroSeesCell {G : dk_G} {l : Launch} {a1 : Int32} (hD : dk_D G) (hmi : dk_MI G) {s : dk_S} {K : Int32 → dk_S → Prop} (h : wf_X9_heroSeesCell a1 s K) : dk_M G l 5 yX9_heroSeesCell cX9_heroSeesCell 2 (some .boolean) [dk_r G 4 60, .int a1] s (dk_ki K) := by
  refine dk_of hD (by decide) [some (dk_r G 4 60), some (.int a1)] (fun q hq => hq) rfl (Nat.le_of_ble_eq_true rfl) (fun P e S0 m args bel meth c C hr hlk => ?_)
  unfold wf_X9_heroSeesCell at h
  refine dk_aload_n (i := 0) C dX9_heroSeesCell_0 (n := 1) rfl rfl rfl ?_
  refine gf_X9_136 C (hmi 60 (by decide) (by decide)) dX9_heroSeesCell_1 (n := 4) rfl ?_
  refine dk_if_le (t := 23) C dX9_heroSeesCell_4 (n := 7) rfl (by decide) (fun c11 => ?_) (fun c11 => ?_)
  · have h := h.1 c11
    refine dk_aload_n (i := 0) C dX9_heroSeesCell_23 (n := 24) rfl rfl rfl ?_
    refine dk_aload_n (i := 0) C dX9_heroSeesCell_24 (n := 25) rfl rfl rfl ?_
    refine gf_X9_65 C (hmi 60 (by decide) (by decide)) dX9_heroSeesCell_25 (n := 28) rfl ?_
    refine dk_iconst (v := 0) C dX9_heroSeesCell_28 (n := 29) rfl (by decide) ?_
    refine dk_iald C dk_sh76 h.1 (hmi 76 (by decide) (by decide)) dX9_heroSeesCell_29 (n := 30) rfl ?_
    have h := h.2
    refine dk_iload_n (i := 1) C dX9_heroSeesCell_30 (n := 31) rfl rfl rfl ?_
    refine dk_callVi C [] (cc_X9_sees C.D hmi h) yy_X9_sees dk_wm_X9_180 dk_sh60 (hmi 60 (by decide) (by decide)) dX9_heroSeesCell_31 (fun r2 s1 h => ?_) rfl rfl ⟨Nat.le_of_ble_eq_true rfl, Nat.le_of_ble_eq_true rfl⟩ rfl (Nat.le_of_ble_eq_true rfl) rfl (n := 34) rfl
    refine dk_if_eq (t := 63) C dX9_heroSeesCell_34 (n := 37) rfl (by decide) (fun c9 => ?_) (fun c9 => ?_)
    · have h := h.1 c9
      refine dk_iconst (v := 0) C dX9_heroSeesCell_63 (n := 64) rfl (by decide) ?_
      exact dk_iret C hr hlk dk_nz0 dX9_heroSeesCell_64 ⟨_, rfl, h⟩
    · have h := h.2 c9
      refine dk_aload_n (i := 0) C dX9_heroSeesCell_37 (n := 38) rfl rfl rfl ?_
      refine gf_X9_65 C (hmi 60 (by decide) (by decide)) dX9_heroSeesCell_38 (n := 41) rfl ?_
      refine dk_iconst (v := 0) C dX9_heroSeesCell_41 (n := 42) rfl (by decide) ?_
      refine dk_iald C dk_sh76 h.1 (hmi 76 (by decide) (by decide)) dX9_heroSeesCell_42 (n := 43) rfl ?_
      have h := h.2
      refine dk_iload_n (i := 1) C dX9_heroSeesCell_43 (n := 44) rfl rfl rfl ?_
      refine dk_callSi C [] (cc_X9_around C.D  h) yy_X9_around dk_wm_X9_183 dX9_heroSeesCell_44 (fun r4 s3 h => ?_) rfl ⟨Nat.le_of_ble_eq_true rfl, Nat.le_of_ble_eq_true rfl⟩ rfl (Nat.le_of_ble_eq_true rfl) rfl (n := 47) rfl
      refine dk_iconst (v := 1) C dX9_heroSeesCell_47 (n := 48) rfl (by decide) ?_
      refine dk_icmp_le (t := 59) C dX9_heroSeesCell_48 (n := 51) rfl (by decide) (fun c8 => ?_) (fun c8 => ?_)
      · have h := h.1 c8
        refine dk_iconst (v := 1) C dX9_heroSeesCell_59 (n := 60) rfl (by decide) ?_
        refine dk_goto (t := 64) C dX9_heroSeesCell_60 (by decide) ?_
        exact dk_iret C hr hlk dk_nz1 dX9_heroSeesCell_64 ⟨_, rfl, h⟩
      · have h := h.2 c8
        refine dk_aload_n (i := 0) C dX9_heroSeesCell_51 (n := 52) rfl rfl rfl ?_
        refine dk_iload_n (i := 1) C dX9_heroSeesCell_52 (n := 53) rfl rfl rfl ?_
        refine dk_callVi C [] (cc_X9_isLit C.D hmi h) yy_X9_isLit dk_wm_X9_186 dk_sh60 (hmi 60 (by decide) (by decide)) dX9_heroSeesCell_53 (fun r6 s5 h => ?_) rfl rfl ⟨Nat.le_of_ble_eq_true rfl, Nat.le_of_ble_eq_true rfl⟩ rfl (Nat.le_of_ble_eq_true rfl) rfl (n := 56) rfl
        refine dk_if_eq (t := 63) C dX9_heroSeesCell_56 (n := 59) rfl (by decide) (fun c7 => ?_) (fun c7 => ?_)
        · have h := h.1 c7
          refine dk_iconst (v := 0) C dX9_heroSeesCell_63 (n := 64) rfl (by decide) ?_
          exact dk_iret C hr hlk dk_nz0 dX9_heroSeesCell_64 ⟨_, rfl, h⟩
        · have h := h.2 c7
          refine dk_iconst (v := 1) C dX9_heroSeesCell_59 (n := 60) rfl (by decide) ?_
          refine dk_goto (t := 64) C dX9_heroSeesCell_60 (by decide) ?_
          exact dk_iret C hr hlk dk_nz1 dX9_heroSeesCell_64 ⟨_, rfl, h⟩
  · have h := h.2 c11
    refine dk_iload_n (i := 1) C dX9_heroSeesCell_7 (n := 8) rfl rfl rfl ?_
    refine dk_aload_n (i := 0) C dX9_heroSeesCell_8 (n := 9) rfl rfl rfl ?_
    refine gf_X9_65 C (hmi 60 (by decide) (by decide)) dX9_heroSeesCell_9 (n := 12) rfl ?_
    refine dk_iconst (v := 0) C dX9_heroSeesCell_12 (n := 13) rfl (by decide) ?_
    refine dk_iald C dk_sh76 h.1 (hmi 76 (by decide) (by decide)) dX9_heroSeesCell_13 (n := 14) rfl ?_
    have h := h.2
    refine dk_icmp_ne (t := 21) C dX9_heroSeesCell_14 (n := 17) rfl (by decide) (fun c10 => ?_) (fun c10 => ?_)
    · have h := h.1 c10
      refine dk_iconst (v := 0) C dX9_heroSeesCell_21 (n := 22) rfl (by decide) ?_
      exact dk_iret C hr hlk dk_nz0 dX9_heroSeesCell_22 ⟨_, rfl, h⟩
    · have h := h.2 c10
      refine dk_iconst (v := 1) C dX9_heroSeesCell_17 (n := 18) rfl (by decide) ?_
      refine dk_goto (t := 22) C dX9_heroSeesCell_18 (by decide) ?_
      exact dk_iret C hr hlk dk_nz1 dX9_heroSeesCell_22 ⟨_, rfl, h⟩
/-! X9_isDoor -/
set_option maxRecDepth 20000 in
set_option maxHeartbeats 4000000 in
theorem cc_X9_isDoor {G : dk_G} {l : Launch} {a0 : Int32} (hD : dk_D G)  {s : dk_S} {K : Int32 → dk_S → Prop} (h : wf_X9_isDoor a0 s K) : dk_M G l 2 yX9_isDoor cX9_isDoor 1 (some .boolean) [.int a0] s (dk_ki K) := by
  refine dk_of hD (by decide) [some (.int a0)] (fun q hq => hq) rfl (Nat.le_of_ble_eq_true rfl) (fun P e S0 m args bel meth c C hr hlk => ?_)
  unfold wf_X9_isDoor at h
  refine dk_iload_n (i := 0) C dX9_isDoor_0 (n := 1) rfl rfl rfl ?_
  refine dk_bipush (v := 43) C dX9_isDoor_1 (n := 3) rfl (by decide) ?_
  refine dk_icmp_eq (t := 17) C dX9_isDoor_3 (n := 6) rfl (by decide) (fun c4 => ?_) (fun c4 => ?_)
  · have h := h.1 c4
    refine dk_iconst (v := 1) C dX9_isDoor_17 (n := 18) rfl (by decide) ?_
    refine dk_goto (t := 22) C dX9_isDoor_18 (by decide) ?_
    exact dk_iret C hr hlk dk_nz1 dX9_isDoor_22 ⟨_, rfl, h⟩
  · have h := h.2 c4
    refine dk_iload_n (i := 0) C dX9_isDoor_6 (n := 7) rfl rfl rfl ?_
    refine dk_bipush (v := 48) C dX9_isDoor_7 (n := 9) rfl (by decide) ?_
    refine dk_bipush (v := 50) C dX9_isDoor_9 (n := 11) rfl (by decide) ?_
    refine dk_callSi C [] (cc_X9_in C.D  h) yy_X9_in dk_wm_X9_110 dX9_isDoor_11 (fun r2 s1 h => ?_) rfl ⟨Nat.le_of_ble_eq_true rfl, Nat.le_of_ble_eq_true rfl⟩ rfl (Nat.le_of_ble_eq_true rfl) rfl (n := 14) rfl
    refine dk_if_eq (t := 21) C dX9_isDoor_14 (n := 17) rfl (by decide) (fun c3 => ?_) (fun c3 => ?_)
    · have h := h.1 c3
      refine dk_iconst (v := 0) C dX9_isDoor_21 (n := 22) rfl (by decide) ?_
      exact dk_iret C hr hlk dk_nz0 dX9_isDoor_22 ⟨_, rfl, h⟩
    · have h := h.2 c3
      refine dk_iconst (v := 1) C dX9_isDoor_17 (n := 18) rfl (by decide) ?_
      refine dk_goto (t := 22) C dX9_isDoor_18 (by decide) ?_
      exact dk_iret C hr hlk dk_nz1 dX9_isDoor_22 ⟨_, rfl, h⟩
/-! X9_findsSteps -/
set_option maxRecDepth 20000 in
set_option maxHeartbeats 4000000 in
theorem ww_X9_findsSteps_206 {G : dk_G} {P : Program} {l : Launch} {e : Env} {S0 : State} {m : MethodId} {args : Array Value} {bel : List Frame} {meth : Method} {c : Code}  (C : dk_C G P (dk_rm 4) S0 m args c 0 0 cX9_findsSteps 10 RX9) (hr : meth.sig.returnType = none) (hlk : meth.locks = false) (hmi : dk_MI G) {K : dk_S → Prop} {B : Int32 → Int32 → Int32 → Int32 → Int32 → Int32 → dk_S → Prop} {E230 : Int32 → Int32 → Int32 → Int32 → dk_S → Prop} (hB : ∀ (x2 : Int32) (x3 : Int32) (x4 : Int32) (x5 : Int32) (x6 : Int32) (x7 : Int32) (s : dk_S), B x2 x3 x4 x5 x6 x7 s → dk_W G P l e (dk_rm 4) S0 m args bel meth c 0 0 (MQ bel (dk_Qc G (dk_kv K)) args S0 0 0 (dk_A G)) 108 [some (dk_r G 4 60), none, some (.int x2), some (.int x3), some (.int x4), some (.int x5), some (.int x6), some (.int x7), none, none] [] s) (hE230 : ∀ (x2 : Int32) (x3 : Int32) (x4 : Int32) (x5 : Int32) (s : dk_S), E230 x2 x3 x4 x5 s → dk_W G P l e (dk_rm 4) S0 m args bel meth c 0 0 (MQ bel (dk_Qc G (dk_kv K)) args S0 0 0 (dk_A G)) 230 [some (dk_r G 4 60), none, some (.int x2), some (.int x3), some (.int x4), some (.int x5), none, none, none, none] [] s) : ∀ (x2 : Int32) (x3 : Int32) (x4 : Int32) (x5 : Int32) (x6 : Int32) (x7 : Int32) (x9 : Int32) (y0 : Int32) (y1 : Int32) (s : dk_S), wf_X9_findsSteps_206 K B E230 x2 x3 x4 x5 x6 x7 x9 y0 y1 s → dk_W G P l e (dk_rm 4) S0 m args bel meth c 0 0 (MQ bel (dk_Qc G (dk_kv K)) args S0 0 0 (dk_A G)) 206 [some (dk_r G 4 60), none, some (.int x2), some (.int x3), some (.int x4), some (.int x5), some (.int x6), some (.int x7), none, some (.int x9)] [.int y0, .int y1, dk_r G 4 86] s := by
  intro x2 x3 x4 x5 x6 x7 x9 y0 y1 s h
  unfold wf_X9_findsSteps_206 at h
  refine dk_iast C dk_sh86 h.1 (hmi 86 (by decide) (by decide)) dX9_findsSteps_206 (n := 207) rfl ?_
  refine dk_nameS (fun s40 es40 => ?_)
  have h := h.2 s40 es40
  refine dk_iload C dX9_findsSteps_207 (n := 209) rfl (i := 4) rfl ?_
  refine dk_if_ne (t := 217) C dX9_findsSteps_209 (n := 212) rfl (by decide) (fun c45 => ?_) (fun c45 => ?_)
  · have h := h.1 c45
    refine dk_iconst (v := 1) C dX9_findsSteps_217 (n := 218) rfl (by decide) ?_
    refine dk_goto (t := 222) C dX9_findsSteps_218 (by decide) ?_
    refine dk_istore (i := 4) (L' := [some (dk_r G 4 60), none, some (.int x2), some (.int x3), some (.int 1), some (.int x5), some (.int x6), some (.int x7), none, some (.int x9)]) C dX9_findsSteps_222 (n := 224) rfl (dk_nc_of rfl) (Nat.le_of_ble_eq_true rfl) rfl ?_
    obtain ⟨v41, ev41⟩ : ∃ y : Int32, y = x7 + 1 := ⟨_, rfl⟩
    have h := h v41 ev41
    refine dk_iinc (i := 7) (v := v41) (L' := [some (dk_r G 4 60), none, some (.int x2), some (.int x3), some (.int 1), some (.int x5), some (.int x6), some (.int v41), none, some (.int x9)]) C dX9_findsSteps_224 (n := 227) rfl rfl (by rw [ev41]; rfl) (dk_nc_of rfl) (Nat.le_of_ble_eq_true rfl) rfl ?_
    refine dk_goto (t := 108) C dX9_findsSteps_227 (by decide) ?_
    refine dk_sub (L0 := [some (dk_r G 4 60), none, some (.int x2), some (.int x3), some (.int 1), some (.int x5), some (.int x6), some (.int v41), none, none]) ⟨rfl, ⟨rfl, ⟨rfl, ⟨rfl, ⟨rfl, ⟨rfl, ⟨rfl, trivial⟩⟩⟩⟩⟩⟩⟩ ?_
    exact hB x2 x3 1 x5 x6 v41 s40 h
  · have h := h.2 c45
    refine dk_iload C dX9_findsSteps_212 (n := 214) rfl (i := 9) rfl ?_
    refine dk_if_eq (t := 221) C dX9_findsSteps_214 (n := 217) rfl (by decide) (fun c44 => ?_) (fun c44 => ?_)
    · have h := h.1 c44
      refine dk_iconst (v := 0) C dX9_findsSteps_221 (n := 222) rfl (by decide) ?_
      refine dk_istore (i := 4) (L' := [some (dk_r G 4 60), none, some (.int x2), some (.int x3), some (.int 0), some (.int x5), some (.int x6), some (.int x7), none, some (.int x9)]) C dX9_findsSteps_222 (n := 224) rfl (dk_nc_of rfl) (Nat.le_of_ble_eq_true rfl) rfl ?_
      obtain ⟨v42, ev42⟩ : ∃ y : Int32, y = x7 + 1 := ⟨_, rfl⟩
      have h := h v42 ev42
      refine dk_iinc (i := 7) (v := v42) (L' := [some (dk_r G 4 60), none, some (.int x2), some (.int x3), some (.int 0), some (.int x5), some (.int x6), some (.int v42), none, some (.int x9)]) C dX9_findsSteps_224 (n := 227) rfl rfl (by rw [ev42]; rfl) (dk_nc_of rfl) (Nat.le_of_ble_eq_true rfl) rfl ?_
      refine dk_goto (t := 108) C dX9_findsSteps_227 (by decide) ?_
      refine dk_sub (L0 := [some (dk_r G 4 60), none, some (.int x2), some (.int x3), some (.int 0), some (.int x5), some (.int x6), some (.int v42), none, none]) ⟨rfl, ⟨rfl, ⟨rfl, ⟨rfl, ⟨rfl, ⟨rfl, ⟨rfl, trivial⟩⟩⟩⟩⟩⟩⟩ ?_
      exact hB x2 x3 0 x5 x6 v42 s40 h
    · have h := h.2 c44
      refine dk_iconst (v := 1) C dX9_findsSteps_217 (n := 218) rfl (by decide) ?_
      refine dk_goto (t := 222) C dX9_findsSteps_218 (by decide) ?_
      refine dk_istore (i := 4) (L' := [some (dk_r G 4 60), none, some (.int x2), some (.int x3), some (.int 1), some (.int x5), some (.int x6), some (.int x7), none, some (.int x9)]) C dX9_findsSteps_222 (n := 224) rfl (dk_nc_of rfl) (Nat.le_of_ble_eq_true rfl) rfl ?_
      obtain ⟨v43, ev43⟩ : ∃ y : Int32, y = x7 + 1 := ⟨_, rfl⟩
      have h := h v43 ev43
      refine dk_iinc (i := 7) (v := v43) (L' := [some (dk_r G 4 60), none, some (.int x2), some (.int x3), some (.int 1), some (.int x5), some (.int x6), some (.int v43), none, some (.int x9)]) C dX9_findsSteps_224 (n := 227) rfl rfl (by rw [ev43]; rfl) (dk_nc_of rfl) (Nat.le_of_ble_eq_true rfl) rfl ?_
      refine dk_goto (t := 108) C dX9_findsSteps_227 (by decide) ?_
      refine dk_sub (L0 := [some (dk_r G 4 60), none, some (.int x2), some (.int x3), some (.int 1), some (.int x5), some (.int x6), some (.int v43), none, none]) ⟨rfl, ⟨rfl, ⟨rfl, ⟨rfl, ⟨rfl, ⟨rfl, ⟨rfl, trivial⟩⟩⟩⟩⟩⟩⟩ ?_
      exact hB x2 x3 1 x5 x6 v43 s40 h
set_option maxRecDepth 20000 in
set_option maxHeartbeats 4000000 in
theorem ww_X9_findsSteps_173 {G : dk_G} {P : Program} {l : Launch} {e : Env} {S0 : State} {m : MethodId} {args : Array Value} {bel : List Frame} {meth : Method} {c : Code}  (C : dk_C G P (dk_rm 4) S0 m args c 0 0 cX9_findsSteps 10 RX9) (hr : meth.sig.returnType = none) (hlk : meth.locks = false) (hmi : dk_MI G) {K : dk_S → Prop} {B : Int32 → Int32 → Int32 → Int32 → Int32 → Int32 → dk_S → Prop} {E230 : Int32 → Int32 → Int32 → Int32 → dk_S → Prop} (hB : ∀ (x2 : Int32) (x3 : Int32) (x4 : Int32) (x5 : Int32) (x6 : Int32) (x7 : Int32) (s : dk_S), B x2 x3 x4 x5 x6 x7 s → dk_W G P l e (dk_rm 4) S0 m args bel meth c 0 0 (MQ bel (dk_Qc G (dk_kv K)) args S0 0 0 (dk_A G)) 108 [some (dk_r G 4 60), none, some (.int x2), some (.int x3), some (.int x4), some (.int x5), some (.int x6), some (.int x7), none, none] [] s) (hE230 : ∀ (x2 : Int32) (x3 : Int32) (x4 : Int32) (x5 : Int32) (s : dk_S), E230 x2 x3 x4 x5 s → dk_W G P l e (dk_rm 4) S0 m args bel meth c 0 0 (MQ bel (dk_Qc G (dk_kv K)) args S0 0 0 (dk_A G)) 230 [some (dk_r G 4 60), none, some (.int x2), some (.int x3), some (.int x4), some (.int x5), none, none, none, none] [] s) : ∀ (x2 : Int32) (x3 : Int32) (x4 : Int32) (x5 : Int32) (x6 : Int32) (x7 : Int32) (x8 : Int32) (y0 : Int32) (s : dk_S), wf_X9_findsSteps_173 K B E230 x2 x3 x4 x5 x6 x7 x8 y0 s → dk_W G P l e (dk_rm 4) S0 m args bel meth c 0 0 (MQ bel (dk_Qc G (dk_kv K)) args S0 0 0 (dk_A G)) 173 [some (dk_r G 4 60), none, some (.int x2), some (.int x3), some (.int x4), some (.int x5), some (.int x6), some (.int x7), some (.int x8), none] [.int y0] s := by
  intro x2 x3 x4 x5 x6 x7 x8 y0 s h
  unfold wf_X9_findsSteps_173 at h
  refine dk_istore (i := 9) (L' := [some (dk_r G 4 60), none, some (.int x2), some (.int x3), some (.int x4), some (.int x5), some (.int x6), some (.int x7), some (.int x8), some (.int y0)]) C dX9_findsSteps_173 (n := 175) rfl (dk_nc_of rfl) (Nat.le_of_ble_eq_true rfl) rfl ?_
  refine dk_aload_n (i := 0) C dX9_findsSteps_175 (n := 176) rfl rfl rfl ?_
  refine gf_X9_98 C (hmi 60 (by decide) (by decide)) dX9_findsSteps_176 (n := 179) rfl ?_
  refine dk_iload C dX9_findsSteps_179 (n := 181) rfl (i := 5) rfl ?_
  refine dk_iload C dX9_findsSteps_181 (n := 183) rfl (i := 9) rfl ?_
  refine dk_if_eq (t := 199) C dX9_findsSteps_183 (n := 186) rfl (by decide) (fun c39 => ?_) (fun c39 => ?_)
  · have h := h.1 c39
    refine dk_aload_n (i := 0) C dX9_findsSteps_199 (n := 200) rfl rfl rfl ?_
    refine gf_X9_98 C (hmi 60 (by decide) (by decide)) dX9_findsSteps_200 (n := 203) rfl ?_
    refine dk_iload C dX9_findsSteps_203 (n := 205) rfl (i := 5) rfl ?_
    refine dk_iald C dk_sh86 h.1 (hmi 86 (by decide) (by decide)) dX9_findsSteps_205 (n := 206) rfl ?_
    have h := h.2
    refine dk_sub (L0 := [some (dk_r G 4 60), none, some (.int x2), some (.int x3), some (.int x4), some (.int x5), some (.int x6), some (.int x7), none, some (.int y0)]) ⟨rfl, ⟨rfl, ⟨rfl, ⟨rfl, ⟨rfl, ⟨rfl, ⟨rfl, ⟨rfl, trivial⟩⟩⟩⟩⟩⟩⟩⟩ ?_
    exact ww_X9_findsSteps_206 C hr hlk hmi hB hE230 x2 x3 x4 x5 x6 x7 y0 (s 4 86 x5.toNatClampNeg) x5 s h
  · have h := h.2 c39
    refine dk_aload_n (i := 0) C dX9_findsSteps_186 (n := 187) rfl rfl rfl ?_
    refine gf_X9_98 C (hmi 60 (by decide) (by decide)) dX9_findsSteps_187 (n := 190) rfl ?_
    refine dk_iload C dX9_findsSteps_190 (n := 192) rfl (i := 8) rfl ?_
    refine dk_iald C dk_sh86 h.1 (hmi 86 (by decide) (by decide)) dX9_findsSteps_192 (n := 193) rfl ?_
    have h := h.2
    refine dk_iload C dX9_findsSteps_193 (n := 195) rfl (i := 6) rfl ?_
    refine dk_iadd C dX9_findsSteps_195 (n := 196) rfl ?_
    refine dk_goto (t := 206) C dX9_findsSteps_196 (by decide) ?_
    refine dk_sub (L0 := [some (dk_r G 4 60), none, some (.int x2), some (.int x3), some (.int x4), some (.int x5), some (.int x6), some (.int x7), none, some (.int y0)]) ⟨rfl, ⟨rfl, ⟨rfl, ⟨rfl, ⟨rfl, ⟨rfl, ⟨rfl, ⟨rfl, trivial⟩⟩⟩⟩⟩⟩⟩⟩ ?_
    exact ww_X9_findsSteps_206 C hr hlk hmi hB hE230 x2 x3 x4 x5 x6 x7 y0 ((s 4 86 x8.toNatClampNeg) + x6) x5 s h
set_option maxRecDepth 20000 in
set_option maxHeartbeats 4000000 in
theorem ww_X9_findsSteps_108 {G : dk_G} {P : Program} {l : Launch} {e : Env} {S0 : State} {m : MethodId} {args : Array Value} {bel : List Frame} {meth : Method} {c : Code}  (C : dk_C G P (dk_rm 4) S0 m args c 0 0 cX9_findsSteps 10 RX9) (hr : meth.sig.returnType = none) (hlk : meth.locks = false) (hmi : dk_MI G) {K : dk_S → Prop} {E230 : Int32 → Int32 → Int32 → Int32 → dk_S → Prop} (hE230 : ∀ (x2 : Int32) (x3 : Int32) (x4 : Int32) (x5 : Int32) (s : dk_S), E230 x2 x3 x4 x5 s → dk_W G P l e (dk_rm 4) S0 m args bel meth c 0 0 (MQ bel (dk_Qc G (dk_kv K)) args S0 0 0 (dk_A G)) 230 [some (dk_r G 4 60), none, some (.int x2), some (.int x3), some (.int x4), some (.int x5), none, none, none, none] [] s) : ∀ (n : Nat) (x2 : Int32) (x3 : Int32) (x4 : Int32) (x5 : Int32) (x6 : Int32) (x7 : Int32) (s : dk_S), wf_X9_findsSteps_108 K E230 n x2 x3 x4 x5 x6 x7 s → dk_W G P l e (dk_rm 4) S0 m args bel meth c 0 0 (MQ bel (dk_Qc G (dk_kv K)) args S0 0 0 (dk_A G)) 108 [some (dk_r G 4 60), none, some (.int x2), some (.int x3), some (.int x4), some (.int x5), some (.int x6), some (.int x7), none, none] [] s := by
  intro n
  induction n with
  | zero => intro x2 x3 x4 x5 x6 x7 s h; exact False.elim h
  | succ n hB =>
    intro x2 x3 x4 x5 x6 x7 s h
    unfold wf_X9_findsSteps_108 at h
    refine dk_iload C dX9_findsSteps_108 (n := 110) rfl (i := 7) rfl ?_
    refine dk_iconst (v := 4) C dX9_findsSteps_110 (n := 111) rfl (by decide) ?_
    refine dk_icmp_ge (t := 230) C dX9_findsSteps_111 (n := 114) rfl (by decide) (fun c38 => ?_) (fun c38 => ?_)
    · have h := h.1 c38
      refine dk_sub (L0 := [some (dk_r G 4 60), none, some (.int x2), some (.int x3), some (.int x4), some (.int x5), none, none, none, none]) ⟨rfl, ⟨rfl, ⟨rfl, ⟨rfl, ⟨rfl, trivial⟩⟩⟩⟩⟩ ?_
      exact hE230 x2 x3 x4 x5 s h
    · have h := h.2 c38
      refine dk_iload C dX9_findsSteps_114 (n := 116) rfl (i := 5) rfl ?_
      refine dk_iload C dX9_findsSteps_116 (n := 118) rfl (i := 7) rfl ?_
      refine dk_callSi C [] (cc_X9_beside C.D  h) yy_X9_beside dk_wm_X9_193 dX9_findsSteps_118 (fun r33 s32 h => ?_) rfl ⟨Nat.le_of_ble_eq_true rfl, Nat.le_of_ble_eq_true rfl⟩ rfl (Nat.le_of_ble_eq_true rfl) rfl (n := 121) rfl
      refine dk_istore (i := 8) (L' := [some (dk_r G 4 60), none, some (.int x2), some (.int x3), some (.int x4), some (.int x5), some (.int x6), some (.int x7), some (.int r33), none]) C dX9_findsSteps_121 (n := 123) rfl (dk_nc_of rfl) (Nat.le_of_ble_eq_true rfl) rfl ?_
      refine dk_iload C dX9_findsSteps_123 (n := 125) rfl (i := 8) rfl ?_
      refine dk_iconst (v := (-1)) C dX9_findsSteps_125 (n := 126) rfl (by decide) ?_
      refine dk_icmp_eq (t := 172) C dX9_findsSteps_126 (n := 129) rfl (by decide) (fun c37 => ?_) (fun c37 => ?_)
      · have h := h.1 c37
        refine dk_iconst (v := 0) C dX9_findsSteps_172 (n := 173) rfl (by decide) ?_
        refine dk_sub (L0 := [some (dk_r G 4 60), none, some (.int x2), some (.int x3), some (.int x4), some (.int x5), some (.int x6), some (.int x7), some (.int r33), none]) ⟨rfl, ⟨rfl, ⟨rfl, ⟨rfl, ⟨rfl, ⟨rfl, ⟨rfl, ⟨rfl, trivial⟩⟩⟩⟩⟩⟩⟩⟩ ?_
        exact ww_X9_findsSteps_173 C hr hlk hmi hB hE230 x2 x3 x4 x5 x6 x7 r33 0 s32 h
      · have h := h.2 c37
        refine dk_aload_n (i := 0) C dX9_findsSteps_129 (n := 130) rfl rfl rfl ?_
        refine gf_X9_98 C (hmi 60 (by decide) (by decide)) dX9_findsSteps_130 (n := 133) rfl ?_
        refine dk_iload C dX9_findsSteps_133 (n := 135) rfl (i := 8) rfl ?_
        refine dk_iald C dk_sh86 h.1 (hmi 86 (by decide) (by decide)) dX9_findsSteps_135 (n := 136) rfl ?_
        have h := h.2
        refine dk_ldc (v := 100000) C dX9_findsSteps_136 (n := 138) rfl dk_wk_X9_189 ?_
        refine dk_icmp_ge (t := 172) C dX9_findsSteps_138 (n := 141) rfl (by decide) (fun c36 => ?_) (fun c36 => ?_)
        · have h := h.1 c36
          refine dk_iconst (v := 0) C dX9_findsSteps_172 (n := 173) rfl (by decide) ?_
          refine dk_sub (L0 := [some (dk_r G 4 60), none, some (.int x2), some (.int x3), some (.int x4), some (.int x5), some (.int x6), some (.int x7), some (.int r33), none]) ⟨rfl, ⟨rfl, ⟨rfl, ⟨rfl, ⟨rfl, ⟨rfl, ⟨rfl, ⟨rfl, trivial⟩⟩⟩⟩⟩⟩⟩⟩ ?_
          exact ww_X9_findsSteps_173 C hr hlk hmi hB hE230 x2 x3 x4 x5 x6 x7 r33 0 s32 h
        · have h := h.2 c36
          refine dk_iload C dX9_findsSteps_141 (n := 143) rfl (i := 6) rfl ?_
          refine dk_ldc (v := 100000) C dX9_findsSteps_143 (n := 145) rfl dk_wk_X9_189 ?_
          refine dk_icmp_ge (t := 172) C dX9_findsSteps_145 (n := 148) rfl (by decide) (fun c35 => ?_) (fun c35 => ?_)
          · have h := h.1 c35
            refine dk_iconst (v := 0) C dX9_findsSteps_172 (n := 173) rfl (by decide) ?_
            refine dk_sub (L0 := [some (dk_r G 4 60), none, some (.int x2), some (.int x3), some (.int x4), some (.int x5), some (.int x6), some (.int x7), some (.int r33), none]) ⟨rfl, ⟨rfl, ⟨rfl, ⟨rfl, ⟨rfl, ⟨rfl, ⟨rfl, ⟨rfl, trivial⟩⟩⟩⟩⟩⟩⟩⟩ ?_
            exact ww_X9_findsSteps_173 C hr hlk hmi hB hE230 x2 x3 x4 x5 x6 x7 r33 0 s32 h
          · have h := h.2 c35
            refine dk_aload_n (i := 0) C dX9_findsSteps_148 (n := 149) rfl rfl rfl ?_
            refine gf_X9_98 C (hmi 60 (by decide) (by decide)) dX9_findsSteps_149 (n := 152) rfl ?_
            refine dk_iload C dX9_findsSteps_152 (n := 154) rfl (i := 8) rfl ?_
            refine dk_iald C dk_sh86 h.1 (hmi 86 (by decide) (by decide)) dX9_findsSteps_154 (n := 155) rfl ?_
            have h := h.2
            refine dk_iload C dX9_findsSteps_155 (n := 157) rfl (i := 6) rfl ?_
            refine dk_iadd C dX9_findsSteps_157 (n := 158) rfl ?_
            refine dk_aload_n (i := 0) C dX9_findsSteps_158 (n := 159) rfl rfl rfl ?_
            refine gf_X9_98 C (hmi 60 (by decide) (by decide)) dX9_findsSteps_159 (n := 162) rfl ?_
            refine dk_iload C dX9_findsSteps_162 (n := 164) rfl (i := 5) rfl ?_
            refine dk_iald C dk_sh86 h.1 (hmi 86 (by decide) (by decide)) dX9_findsSteps_164 (n := 165) rfl ?_
            have h := h.2
            refine dk_icmp_ge (t := 172) C dX9_findsSteps_165 (n := 168) rfl (by decide) (fun c34 => ?_) (fun c34 => ?_)
            · have h := h.1 c34
              refine dk_iconst (v := 0) C dX9_findsSteps_172 (n := 173) rfl (by decide) ?_
              refine dk_sub (L0 := [some (dk_r G 4 60), none, some (.int x2), some (.int x3), some (.int x4), some (.int x5), some (.int x6), some (.int x7), some (.int r33), none]) ⟨rfl, ⟨rfl, ⟨rfl, ⟨rfl, ⟨rfl, ⟨rfl, ⟨rfl, ⟨rfl, trivial⟩⟩⟩⟩⟩⟩⟩⟩ ?_
              exact ww_X9_findsSteps_173 C hr hlk hmi hB hE230 x2 x3 x4 x5 x6 x7 r33 0 s32 h
            · have h := h.2 c34
              refine dk_iconst (v := 1) C dX9_findsSteps_168 (n := 169) rfl (by decide) ?_
              refine dk_goto (t := 173) C dX9_findsSteps_169 (by decide) ?_
              refine dk_sub (L0 := [some (dk_r G 4 60), none, some (.int x2), some (.int x3), some (.int x4), some (.int x5), some (.int x6), some (.int x7), some (.int r33), none]) ⟨rfl, ⟨rfl, ⟨rfl, ⟨rfl, ⟨rfl, ⟨rfl, ⟨rfl, ⟨rfl, trivial⟩⟩⟩⟩⟩⟩⟩⟩ ?_
              exact ww_X9_findsSteps_173 C hr hlk hmi hB hE230 x2 x3 x4 x5 x6 x7 r33 1 s32 h
set_option maxRecDepth 20000 in
set_option maxHeartbeats 4000000 in
theorem ww_X9_findsSteps_103 {G : dk_G} {P : Program} {l : Launch} {e : Env} {S0 : State} {m : MethodId} {args : Array Value} {bel : List Frame} {meth : Method} {c : Code}  (C : dk_C G P (dk_rm 4) S0 m args c 0 0 cX9_findsSteps 10 RX9) (hr : meth.sig.returnType = none) (hlk : meth.locks = false) (hmi : dk_MI G) {K : dk_S → Prop} {B : Int32 → Int32 → Int32 → Int32 → dk_S → Prop} {E236 : Int32 → Int32 → Int32 → dk_S → Prop} (hB : ∀ (x2 : Int32) (x3 : Int32) (x4 : Int32) (x5 : Int32) (s : dk_S), B x2 x3 x4 x5 s → dk_W G P l e (dk_rm 4) S0 m args bel meth c 0 0 (MQ bel (dk_Qc G (dk_kv K)) args S0 0 0 (dk_A G)) 47 [some (dk_r G 4 60), none, some (.int x2), some (.int x3), some (.int x4), some (.int x5), none, none, none, none] [] s) (hE236 : ∀ (x2 : Int32) (x3 : Int32) (x4 : Int32) (s : dk_S), E236 x2 x3 x4 s → dk_W G P l e (dk_rm 4) S0 m args bel meth c 0 0 (MQ bel (dk_Qc G (dk_kv K)) args S0 0 0 (dk_A G)) 236 [some (dk_r G 4 60), none, some (.int x2), some (.int x3), some (.int x4), none, none, none, none, none] [] s) : ∀ (x2 : Int32) (x3 : Int32) (x4 : Int32) (x5 : Int32) (y0 : Int32) (s : dk_S), wf_X9_findsSteps_103 K B E236 x2 x3 x4 x5 y0 s → dk_W G P l e (dk_rm 4) S0 m args bel meth c 0 0 (MQ bel (dk_Qc G (dk_kv K)) args S0 0 0 (dk_A G)) 103 [some (dk_r G 4 60), none, some (.int x2), some (.int x3), some (.int x4), some (.int x5), none, none, none, none] [.int y0] s := by
  intro x2 x3 x4 x5 y0 s h
  unfold wf_X9_findsSteps_103 at h
  refine dk_istore (i := 6) (L' := [some (dk_r G 4 60), none, some (.int x2), some (.int x3), some (.int x4), some (.int x5), some (.int y0), none, none, none]) C dX9_findsSteps_103 (n := 105) rfl (dk_nc_of rfl) (Nat.le_of_ble_eq_true rfl) rfl ?_
  refine dk_iconst (v := 0) C dX9_findsSteps_105 (n := 106) rfl (by decide) ?_
  refine dk_istore (i := 7) (L' := [some (dk_r G 4 60), none, some (.int x2), some (.int x3), some (.int x4), some (.int x5), some (.int y0), some (.int 0), none, none]) C dX9_findsSteps_106 (n := 108) rfl (dk_nc_of rfl) (Nat.le_of_ble_eq_true rfl) rfl ?_
  obtain ⟨nn31, h⟩ := h
  refine dk_sub (L0 := [some (dk_r G 4 60), none, some (.int x2), some (.int x3), some (.int x4), some (.int x5), some (.int y0), some (.int 0), none, none]) ⟨rfl, ⟨rfl, ⟨rfl, ⟨rfl, ⟨rfl, ⟨rfl, ⟨rfl, trivial⟩⟩⟩⟩⟩⟩⟩ ?_
  refine ww_X9_findsSteps_108 C hr hlk hmi (fun w25 w26 w27 w28 s29 h => ?_) nn31 x2 x3 x4 x5 y0 0 s h
  · obtain ⟨v30, ev30⟩ : ∃ y : Int32, y = w28 + 1 := ⟨_, rfl⟩
    have h := h v30 ev30
    refine dk_iinc (i := 5) (v := v30) (L' := [some (dk_r G 4 60), none, some (.int w25), some (.int w26), some (.int w27), some (.int v30), none, none, none, none]) C dX9_findsSteps_230 (n := 233) rfl rfl (by rw [ev30]; rfl) (dk_nc_of rfl) (Nat.le_of_ble_eq_true rfl) rfl ?_
    refine dk_goto (t := 47) C dX9_findsSteps_233 (by decide) ?_
    refine dk_sub (L0 := [some (dk_r G 4 60), none, some (.int w25), some (.int w26), some (.int w27), some (.int v30), none, none, none, none]) ⟨rfl, ⟨rfl, ⟨rfl, ⟨rfl, ⟨rfl, trivial⟩⟩⟩⟩⟩ ?_
    exact hB w25 w26 w27 v30 s29 h
set_option maxRecDepth 20000 in
set_option maxHeartbeats 4000000 in
theorem ww_X9_findsSteps_47 {G : dk_G} {P : Program} {l : Launch} {e : Env} {S0 : State} {m : MethodId} {args : Array Value} {bel : List Frame} {meth : Method} {c : Code}  (C : dk_C G P (dk_rm 4) S0 m args c 0 0 cX9_findsSteps 10 RX9) (hr : meth.sig.returnType = none) (hlk : meth.locks = false) (hmi : dk_MI G) {K : dk_S → Prop} {E236 : Int32 → Int32 → Int32 → dk_S → Prop} (hE236 : ∀ (x2 : Int32) (x3 : Int32) (x4 : Int32) (s : dk_S), E236 x2 x3 x4 s → dk_W G P l e (dk_rm 4) S0 m args bel meth c 0 0 (MQ bel (dk_Qc G (dk_kv K)) args S0 0 0 (dk_A G)) 236 [some (dk_r G 4 60), none, some (.int x2), some (.int x3), some (.int x4), none, none, none, none, none] [] s) : ∀ (n : Nat) (x2 : Int32) (x3 : Int32) (x4 : Int32) (x5 : Int32) (s : dk_S), wf_X9_findsSteps_47 K E236 n x2 x3 x4 x5 s → dk_W G P l e (dk_rm 4) S0 m args bel meth c 0 0 (MQ bel (dk_Qc G (dk_kv K)) args S0 0 0 (dk_A G)) 47 [some (dk_r G 4 60), none, some (.int x2), some (.int x3), some (.int x4), some (.int x5), none, none, none, none] [] s := by
  intro n
  induction n with
  | zero => intro x2 x3 x4 x5 s h; exact False.elim h
  | succ n hB =>
    intro x2 x3 x4 x5 s h
    unfold wf_X9_findsSteps_47 at h
    refine dk_iload C dX9_findsSteps_47 (n := 49) rfl (i := 5) rfl ?_
    refine dk_sipush (v := 144) C dX9_findsSteps_49 (n := 52) rfl (by decide) ?_
    refine dk_icmp_ge (t := 236) C dX9_findsSteps_52 (n := 55) rfl (by decide) (fun c24 => ?_) (fun c24 => ?_)
    · have h := h.1 c24
      refine dk_sub (L0 := [some (dk_r G 4 60), none, some (.int x2), some (.int x3), some (.int x4), none, none, none, none, none]) ⟨rfl, ⟨rfl, ⟨rfl, ⟨rfl, trivial⟩⟩⟩⟩ ?_
      exact hE236 x2 x3 x4 s h
    · have h := h.2 c24
      refine dk_aload_n (i := 0) C dX9_findsSteps_55 (n := 56) rfl rfl rfl ?_
      refine dk_iload C dX9_findsSteps_56 (n := 58) rfl (i := 5) rfl ?_
      refine dk_callVi C [] (cc_X9_isFree C.D hmi h) yy_X9_isFree dk_wm_X9_174 dk_sh60 (hmi 60 (by decide) (by decide)) dX9_findsSteps_58 (fun r18 s17 h => ?_) rfl rfl ⟨Nat.le_of_ble_eq_true rfl, Nat.le_of_ble_eq_true rfl⟩ rfl (Nat.le_of_ble_eq_true rfl) rfl (n := 61) rfl
      refine dk_if_eq (t := 68) C dX9_findsSteps_61 (n := 64) rfl (by decide) (fun c23 => ?_) (fun c23 => ?_)
      · have h := h.1 c23
        refine dk_aload_n (i := 0) C dX9_findsSteps_68 (n := 69) rfl rfl rfl ?_
        refine gf_X9_62 C (hmi 60 (by decide) (by decide)) dX9_findsSteps_69 (n := 72) rfl ?_
        refine dk_iload C dX9_findsSteps_72 (n := 74) rfl (i := 5) rfl ?_
        refine dk_cald C dk_sh75 h.1 (hmi 75 (by decide) (by decide)) dX9_findsSteps_74 (n := 75) rfl ?_
        have h := h.2
        refine dk_bipush (v := 43) C dX9_findsSteps_75 (n := 77) rfl (by decide) ?_
        refine dk_icmp_ne (t := 84) C dX9_findsSteps_77 (n := 80) rfl (by decide) (fun c22 => ?_) (fun c22 => ?_)
        · have h := h.1 c22
          refine dk_aload_n (i := 0) C dX9_findsSteps_84 (n := 85) rfl rfl rfl ?_
          refine gf_X9_62 C (hmi 60 (by decide) (by decide)) dX9_findsSteps_85 (n := 88) rfl ?_
          refine dk_iload C dX9_findsSteps_88 (n := 90) rfl (i := 5) rfl ?_
          refine dk_cald C dk_sh75 h.1 (hmi 75 (by decide) (by decide)) dX9_findsSteps_90 (n := 91) rfl ?_
          have h := h.2
          refine dk_callSi C [] (cc_X9_isDoor C.D  h) yy_X9_isDoor dk_wm_X9_190 dX9_findsSteps_91 (fun r20 s19 h => ?_) rfl ⟨Nat.le_of_ble_eq_true rfl, Nat.le_of_ble_eq_true rfl⟩ rfl (Nat.le_of_ble_eq_true rfl) rfl (n := 94) rfl
          refine dk_if_eq (t := 101) C dX9_findsSteps_94 (n := 97) rfl (by decide) (fun c21 => ?_) (fun c21 => ?_)
          · have h := h.1 c21
            refine dk_ldc (v := 100000) C dX9_findsSteps_101 (n := 103) rfl dk_wk_X9_189 ?_
            refine dk_sub (L0 := [some (dk_r G 4 60), none, some (.int x2), some (.int x3), some (.int x4), some (.int x5), none, none, none, none]) ⟨rfl, ⟨rfl, ⟨rfl, ⟨rfl, ⟨rfl, trivial⟩⟩⟩⟩⟩ ?_
            exact ww_X9_findsSteps_103 C hr hlk hmi hB hE236 x2 x3 x4 x5 100000 s19 h
          · have h := h.2 c21
            refine dk_iload_n (i := 3) C dX9_findsSteps_97 (n := 98) rfl rfl rfl ?_
            refine dk_goto (t := 103) C dX9_findsSteps_98 (by decide) ?_
            refine dk_sub (L0 := [some (dk_r G 4 60), none, some (.int x2), some (.int x3), some (.int x4), some (.int x5), none, none, none, none]) ⟨rfl, ⟨rfl, ⟨rfl, ⟨rfl, ⟨rfl, trivial⟩⟩⟩⟩⟩ ?_
            exact ww_X9_findsSteps_103 C hr hlk hmi hB hE236 x2 x3 x4 x5 x3 s19 h
        · have h := h.2 c22
          refine dk_iload_n (i := 2) C dX9_findsSteps_80 (n := 81) rfl rfl rfl ?_
          refine dk_goto (t := 103) C dX9_findsSteps_81 (by decide) ?_
          refine dk_sub (L0 := [some (dk_r G 4 60), none, some (.int x2), some (.int x3), some (.int x4), some (.int x5), none, none, none, none]) ⟨rfl, ⟨rfl, ⟨rfl, ⟨rfl, ⟨rfl, trivial⟩⟩⟩⟩⟩ ?_
          exact ww_X9_findsSteps_103 C hr hlk hmi hB hE236 x2 x3 x4 x5 x2 s17 h
      · have h := h.2 c23
        refine dk_iconst (v := 1) C dX9_findsSteps_64 (n := 65) rfl (by decide) ?_
        refine dk_goto (t := 103) C dX9_findsSteps_65 (by decide) ?_
        refine dk_sub (L0 := [some (dk_r G 4 60), none, some (.int x2), some (.int x3), some (.int x4), some (.int x5), none, none, none, none]) ⟨rfl, ⟨rfl, ⟨rfl, ⟨rfl, ⟨rfl, trivial⟩⟩⟩⟩⟩ ?_
        exact ww_X9_findsSteps_103 C hr hlk hmi hB hE236 x2 x3 x4 x5 1 s17 h
set_option maxRecDepth 20000 in
set_option maxHeartbeats 4000000 in
theorem ww_X9_findsSteps_36 {G : dk_G} {P : Program} {l : Launch} {e : Env} {S0 : State} {m : MethodId} {args : Array Value} {bel : List Frame} {meth : Method} {c : Code}  (C : dk_C G P (dk_rm 4) S0 m args c 0 0 cX9_findsSteps 10 RX9) (hr : meth.sig.returnType = none) (hlk : meth.locks = false) (hmi : dk_MI G) {K : dk_S → Prop}  : ∀ (n : Nat) (x2 : Int32) (x3 : Int32) (x4 : Int32) (s : dk_S), wf_X9_findsSteps_36 K n x2 x3 x4 s → dk_W G P l e (dk_rm 4) S0 m args bel meth c 0 0 (MQ bel (dk_Qc G (dk_kv K)) args S0 0 0 (dk_A G)) 36 [some (dk_r G 4 60), none, some (.int x2), some (.int x3), some (.int x4), none, none, none, none, none] [] s := by
  intro n
  induction n with
  | zero => intro x2 x3 x4 s h; exact False.elim h
  | succ n hB =>
    intro x2 x3 x4 s h
    unfold wf_X9_findsSteps_36 at h
    refine dk_iload C dX9_findsSteps_36 (n := 38) rfl (i := 4) rfl ?_
    refine dk_if_eq (t := 239) C dX9_findsSteps_38 (n := 41) rfl (by decide) (fun c13 => ?_) (fun c13 => ?_)
    · have h := h.1 c13
      exact dk_vret C hr hlk dX9_findsSteps_239 ⟨rfl, h⟩
    · have h := h.2 c13
      refine dk_iconst (v := 0) C dX9_findsSteps_41 (n := 42) rfl (by decide) ?_
      refine dk_istore (i := 4) (L' := [some (dk_r G 4 60), none, some (.int x2), some (.int x3), some (.int 0), none, none, none, none, none]) C dX9_findsSteps_42 (n := 44) rfl (dk_nc_of rfl) (Nat.le_of_ble_eq_true rfl) rfl ?_
      refine dk_iconst (v := 0) C dX9_findsSteps_44 (n := 45) rfl (by decide) ?_
      refine dk_istore (i := 5) (L' := [some (dk_r G 4 60), none, some (.int x2), some (.int x3), some (.int 0), some (.int 0), none, none, none, none]) C dX9_findsSteps_45 (n := 47) rfl (dk_nc_of rfl) (Nat.le_of_ble_eq_true rfl) rfl ?_
      obtain ⟨nn12, h⟩ := h
      refine dk_sub (L0 := [some (dk_r G 4 60), none, some (.int x2), some (.int x3), some (.int 0), some (.int 0), none, none, none, none]) ⟨rfl, ⟨rfl, ⟨rfl, ⟨rfl, ⟨rfl, trivial⟩⟩⟩⟩⟩ ?_
      refine ww_X9_findsSteps_47 C hr hlk hmi (fun w8 w9 w10 s11 h => ?_) nn12 x2 x3 0 0 s h
      · refine dk_goto (t := 36) C dX9_findsSteps_236 (by decide) ?_
        refine dk_sub (L0 := [some (dk_r G 4 60), none, some (.int w8), some (.int w9), some (.int w10), none, none, none, none, none]) ⟨rfl, ⟨rfl, ⟨rfl, ⟨rfl, trivial⟩⟩⟩⟩ ?_
        exact hB w8 w9 w10 s11 h
set_option maxRecDepth 20000 in
set_option maxHeartbeats 4000000 in
theorem ww_X9_findsSteps_3 {G : dk_G} {P : Program} {l : Launch} {e : Env} {S0 : State} {m : MethodId} {args : Array Value} {bel : List Frame} {meth : Method} {c : Code}  (C : dk_C G P (dk_rm 4) S0 m args c 0 0 cX9_findsSteps 10 RX9) (hr : meth.sig.returnType = none) (hlk : meth.locks = false) (hmi : dk_MI G) {K : dk_S → Prop} {E26 : Int32 → Int32 → Int32 → dk_S → Prop} (hE26 : ∀ (x1 : Int32) (x2 : Int32) (x3 : Int32) (s : dk_S), E26 x1 x2 x3 s → dk_W G P l e (dk_rm 4) S0 m args bel meth c 0 0 (MQ bel (dk_Qc G (dk_kv K)) args S0 0 0 (dk_A G)) 26 [some (dk_r G 4 60), some (.int x1), some (.int x2), some (.int x3), none, none, none, none, none, none] [] s) : ∀ (n : Nat) (x1 : Int32) (x2 : Int32) (x3 : Int32) (x4 : Int32) (s : dk_S), wf_X9_findsSteps_3 K E26 n x1 x2 x3 x4 s → dk_W G P l e (dk_rm 4) S0 m args bel meth c 0 0 (MQ bel (dk_Qc G (dk_kv K)) args S0 0 0 (dk_A G)) 3 [some (dk_r G 4 60), some (.int x1), some (.int x2), some (.int x3), some (.int x4), none, none, none, none, none] [] s := by
  intro n
  induction n with
  | zero => intro x1 x2 x3 x4 s h; exact False.elim h
  | succ n hB =>
    intro x1 x2 x3 x4 s h
    unfold wf_X9_findsSteps_3 at h
    refine dk_iload C dX9_findsSteps_3 (n := 5) rfl (i := 4) rfl ?_
    refine dk_sipush (v := 144) C dX9_findsSteps_5 (n := 8) rfl (by decide) ?_
    refine dk_icmp_ge (t := 26) C dX9_findsSteps_8 (n := 11) rfl (by decide) (fun c16 => ?_) (fun c16 => ?_)
    · have h := h.1 c16
      refine dk_sub (L0 := [some (dk_r G 4 60), some (.int x1), some (.int x2), some (.int x3), none, none, none, none, none, none]) ⟨rfl, ⟨rfl, ⟨rfl, ⟨rfl, trivial⟩⟩⟩⟩ ?_
      exact hE26 x1 x2 x3 s h
    · have h := h.2 c16
      refine dk_aload_n (i := 0) C dX9_findsSteps_11 (n := 12) rfl rfl rfl ?_
      refine gf_X9_98 C (hmi 60 (by decide) (by decide)) dX9_findsSteps_12 (n := 15) rfl ?_
      refine dk_iload C dX9_findsSteps_15 (n := 17) rfl (i := 4) rfl ?_
      refine dk_ldc (v := 100000) C dX9_findsSteps_17 (n := 19) rfl dk_wk_X9_189 ?_
      refine dk_iast C dk_sh86 h.1 (hmi 86 (by decide) (by decide)) dX9_findsSteps_19 (n := 20) rfl ?_
      refine dk_nameS (fun s14 es14 => ?_)
      have h := h.2 s14 es14
      obtain ⟨v15, ev15⟩ : ∃ y : Int32, y = x4 + 1 := ⟨_, rfl⟩
      have h := h v15 ev15
      refine dk_iinc (i := 4) (v := v15) (L' := [some (dk_r G 4 60), some (.int x1), some (.int x2), some (.int x3), some (.int v15), none, none, none, none, none]) C dX9_findsSteps_20 (n := 23) rfl rfl (by rw [ev15]; rfl) (dk_nc_of rfl) (Nat.le_of_ble_eq_true rfl) rfl ?_
      refine dk_goto (t := 3) C dX9_findsSteps_23 (by decide) ?_
      refine dk_sub (L0 := [some (dk_r G 4 60), some (.int x1), some (.int x2), some (.int x3), some (.int v15), none, none, none, none, none]) ⟨rfl, ⟨rfl, ⟨rfl, ⟨rfl, ⟨rfl, trivial⟩⟩⟩⟩⟩ ?_
      exact hB x1 x2 x3 v15 s14 h
set_option maxRecDepth 20000 in
set_option maxHeartbeats 4000000 in
theorem cc_X9_findsSteps {G : dk_G} {l : Launch} {a1 : Int32} {a2 : Int32} {a3 : Int32} (hD : dk_D G) (hmi : dk_MI G) {s : dk_S} {K : dk_S → Prop} (h : wf_X9_findsSteps a1 a2 a3 s K) : dk_M G l 4 yX9_findsSteps cX9_findsSteps 10 none [dk_r G 4 60, .int a1, .int a2, .int a3] s (dk_kv K) := by
  refine dk_of hD (by decide) [some (dk_r G 4 60), some (.int a1), some (.int a2), some (.int a3), none, none, none, none, none, none] (fun q hq => hq) rfl (Nat.le_of_ble_eq_true rfl) (fun P e S0 m args bel meth c C hr hlk => ?_)
  unfold wf_X9_findsSteps at h
  refine dk_iconst (v := 0) C dX9_findsSteps_0 (n := 1) rfl (by decide) ?_
  refine dk_istore (i := 4) (L' := [some (dk_r G 4 60), some (.int a1), some (.int a2), some (.int a3), some (.int 0), none, none, none, none, none]) C dX9_findsSteps_1 (n := 3) rfl (dk_nc_of rfl) (Nat.le_of_ble_eq_true rfl) rfl ?_
  obtain ⟨nn7, h⟩ := h
  refine dk_sub (L0 := [some (dk_r G 4 60), some (.int a1), some (.int a2), some (.int a3), some (.int 0), none, none, none, none, none]) ⟨rfl, ⟨rfl, ⟨rfl, ⟨rfl, ⟨rfl, trivial⟩⟩⟩⟩⟩ ?_
  refine ww_X9_findsSteps_3 C hr hlk hmi (fun w1 w2 w3 s4 h => ?_) nn7 a1 a2 a3 0 s h
  · refine dk_aload_n (i := 0) C dX9_findsSteps_26 (n := 27) rfl rfl rfl ?_
    refine gf_X9_98 C (hmi 60 (by decide) (by decide)) dX9_findsSteps_27 (n := 30) rfl ?_
    refine dk_iload_n (i := 1) C dX9_findsSteps_30 (n := 31) rfl rfl rfl ?_
    refine dk_iconst (v := 0) C dX9_findsSteps_31 (n := 32) rfl (by decide) ?_
    refine dk_iast C dk_sh86 h.1 (hmi 86 (by decide) (by decide)) dX9_findsSteps_32 (n := 33) rfl ?_
    refine dk_nameS (fun s5 es5 => ?_)
    have h := h.2 s5 es5
    refine dk_iconst (v := 1) C dX9_findsSteps_33 (n := 34) rfl (by decide) ?_
    refine dk_istore (i := 4) (L' := [some (dk_r G 4 60), some (.int w1), some (.int w2), some (.int w3), some (.int 1), none, none, none, none, none]) C dX9_findsSteps_34 (n := 36) rfl (dk_nc_of rfl) (Nat.le_of_ble_eq_true rfl) rfl ?_
    obtain ⟨nn6, h⟩ := h
    refine dk_sub (L0 := [some (dk_r G 4 60), none, some (.int w2), some (.int w3), some (.int 1), none, none, none, none, none]) ⟨rfl, ⟨rfl, ⟨rfl, ⟨rfl, trivial⟩⟩⟩⟩ ?_
    refine ww_X9_findsSteps_36 C hr hlk hmi  nn6 w2 w3 1 s5 h
/-! X9_lives -/
set_option maxRecDepth 20000 in
set_option maxHeartbeats 4000000 in
theorem cc_X9_lives {G : dk_G} {l : Launch} {a1 : Int32} (hD : dk_D G) (hmi : dk_MI G) {s : dk_S} {K : Int32 → dk_S → Prop} (h : wf_X9_lives a1 s K) : dk_M G l 1 yX9_lives cX9_lives 2 (some .boolean) [dk_r G 4 60, .int a1] s (dk_ki K) := by
  refine dk_of hD (by decide) [some (dk_r G 4 60), some (.int a1)] (fun q hq => hq) rfl (Nat.le_of_ble_eq_true rfl) (fun P e S0 m args bel meth c C hr hlk => ?_)
  unfold wf_X9_lives at h
  refine dk_aload_n (i := 0) C dX9_lives_0 (n := 1) rfl rfl rfl ?_
  refine gf_X9_68 C (hmi 60 (by decide) (by decide)) dX9_lives_1 (n := 4) rfl ?_
  refine dk_iload_n (i := 1) C dX9_lives_4 (n := 5) rfl rfl rfl ?_
  refine dk_iald C dk_sh77 h.1 (hmi 77 (by decide) (by decide)) dX9_lives_5 (n := 6) rfl ?_
  have h := h.2
  refine dk_if_le (t := 13) C dX9_lives_6 (n := 9) rfl (by decide) (fun c1 => ?_) (fun c1 => ?_)
  · have h := h.1 c1
    refine dk_iconst (v := 0) C dX9_lives_13 (n := 14) rfl (by decide) ?_
    exact dk_iret C hr hlk dk_nz0 dX9_lives_14 ⟨_, rfl, h⟩
  · have h := h.2 c1
    refine dk_iconst (v := 1) C dX9_lives_9 (n := 10) rfl (by decide) ?_
    refine dk_goto (t := 14) C dX9_lives_10 (by decide) ?_
    exact dk_iret C hr hlk dk_nz1 dX9_lives_14 ⟨_, rfl, h⟩
/-! X9_sounds -/
set_option maxRecDepth 20000 in
set_option maxHeartbeats 4000000 in
theorem ww_X9_sounds_12 {G : dk_G} {P : Program} {l : Launch} {e : Env} {S0 : State} {m : MethodId} {args : Array Value} {bel : List Frame} {meth : Method} {c : Code}  (C : dk_C G P (dk_rm 5) S0 m args c 0 0 cX9_sounds 5 RX9) (hr : meth.sig.returnType = (some .int)) (hlk : meth.locks = false) (hmi : dk_MI G) {K : Int32 → dk_S → Prop}  : ∀ (n : Nat) (x1 : Int32) (x2 : Int32) (x3 : Int32) (x4 : Int32) (s : dk_S), wf_X9_sounds_12 K n x1 x2 x3 x4 s → dk_W G P l e (dk_rm 5) S0 m args bel meth c 0 0 (MQ bel (dk_Qc G (dk_ki K)) args S0 0 0 (dk_A G)) 12 [some (dk_r G 4 60), some (.int x1), some (.int x2), some (.int x3), some (.int x4)] [] s := by
  intro n
  induction n with
  | zero => intro x1 x2 x3 x4 s h; exact False.elim h
  | succ n hB =>
    intro x1 x2 x3 x4 s h
    unfold wf_X9_sounds_12 at h
    refine dk_iload C dX9_sounds_12 (n := 14) rfl (i := 4) rfl ?_
    refine dk_aload_n (i := 0) C dX9_sounds_14 (n := 15) rfl rfl rfl ?_
    refine gf_X9_34 C (hmi 60 (by decide) (by decide)) dX9_sounds_15 (n := 18) rfl ?_
    refine dk_icmp_ge (t := 63) C dX9_sounds_18 (n := 21) rfl (by decide) (fun c12 => ?_) (fun c12 => ?_)
    · have h := h.1 c12
      refine dk_iload_n (i := 3) C dX9_sounds_63 (n := 64) rfl rfl rfl ?_
      exact dk_iret C hr hlk rfl dX9_sounds_64 ⟨_, rfl, h⟩
    · have h := h.2 c12
      refine dk_aload_n (i := 0) C dX9_sounds_21 (n := 22) rfl rfl rfl ?_
      refine dk_iload C dX9_sounds_22 (n := 24) rfl (i := 4) rfl ?_
      refine dk_callVi C [] (cc_X9_lives C.D hmi h) yy_X9_lives dk_wm_X9_200 dk_sh60 (hmi 60 (by decide) (by decide)) dX9_sounds_24 (fun r4 s3 h => ?_) rfl rfl ⟨Nat.le_of_ble_eq_true rfl, Nat.le_of_ble_eq_true rfl⟩ rfl (Nat.le_of_ble_eq_true rfl) rfl (n := 27) rfl
      refine dk_if_eq (t := 57) C dX9_sounds_27 (n := 30) rfl (by decide) (fun c11 => ?_) (fun c11 => ?_)
      · have h := h.1 c11
        obtain ⟨v5, ev5⟩ : ∃ y : Int32, y = x4 + 1 := ⟨_, rfl⟩
        have h := h v5 ev5
        refine dk_iinc (i := 4) (v := v5) (L' := [some (dk_r G 4 60), some (.int x1), some (.int x2), some (.int x3), some (.int v5)]) C dX9_sounds_57 (n := 60) rfl rfl (by rw [ev5]; rfl) (dk_nc_of rfl) (Nat.le_of_ble_eq_true rfl) rfl ?_
        refine dk_goto (t := 12) C dX9_sounds_60 (by decide) ?_
        refine dk_sub (L0 := [some (dk_r G 4 60), some (.int x1), some (.int x2), some (.int x3), some (.int v5)]) ⟨rfl, ⟨rfl, ⟨rfl, ⟨rfl, ⟨rfl, trivial⟩⟩⟩⟩⟩ ?_
        exact hB x1 x2 x3 v5 s3 h
      · have h := h.2 c11
        refine dk_aload_n (i := 0) C dX9_sounds_30 (n := 31) rfl rfl rfl ?_
        refine gf_X9_98 C (hmi 60 (by decide) (by decide)) dX9_sounds_31 (n := 34) rfl ?_
        refine dk_aload_n (i := 0) C dX9_sounds_34 (n := 35) rfl rfl rfl ?_
        refine gf_X9_65 C (hmi 60 (by decide) (by decide)) dX9_sounds_35 (n := 38) rfl ?_
        refine dk_iload C dX9_sounds_38 (n := 40) rfl (i := 4) rfl ?_
        refine dk_iald C dk_sh76 h.1 (hmi 76 (by decide) (by decide)) dX9_sounds_40 (n := 41) rfl ?_
        have h := h.2
        refine dk_iald C dk_sh86 h.1 (hmi 86 (by decide) (by decide)) dX9_sounds_41 (n := 42) rfl ?_
        have h := h.2
        refine dk_iload_n (i := 2) C dX9_sounds_42 (n := 43) rfl rfl rfl ?_
        refine dk_icmp_gt (t := 57) C dX9_sounds_43 (n := 46) rfl (by decide) (fun c10 => ?_) (fun c10 => ?_)
        · have h := h.1 c10
          obtain ⟨v6, ev6⟩ : ∃ y : Int32, y = x4 + 1 := ⟨_, rfl⟩
          have h := h v6 ev6
          refine dk_iinc (i := 4) (v := v6) (L' := [some (dk_r G 4 60), some (.int x1), some (.int x2), some (.int x3), some (.int v6)]) C dX9_sounds_57 (n := 60) rfl rfl (by rw [ev6]; rfl) (dk_nc_of rfl) (Nat.le_of_ble_eq_true rfl) rfl ?_
          refine dk_goto (t := 12) C dX9_sounds_60 (by decide) ?_
          refine dk_sub (L0 := [some (dk_r G 4 60), some (.int x1), some (.int x2), some (.int x3), some (.int v6)]) ⟨rfl, ⟨rfl, ⟨rfl, ⟨rfl, ⟨rfl, trivial⟩⟩⟩⟩⟩ ?_
          exact hB x1 x2 x3 v6 s3 h
        · have h := h.2 c10
          refine dk_aload_n (i := 0) C dX9_sounds_46 (n := 47) rfl rfl rfl ?_
          refine gf_X9_80 C (hmi 60 (by decide) (by decide)) dX9_sounds_47 (n := 50) rfl ?_
          refine dk_iload C dX9_sounds_50 (n := 52) rfl (i := 4) rfl ?_
          refine dk_iload_n (i := 1) C dX9_sounds_52 (n := 53) rfl rfl rfl ?_
          refine dk_iast C dk_sh81 h.1 (hmi 81 (by decide) (by decide)) dX9_sounds_53 (n := 54) rfl ?_
          refine dk_nameS (fun s7 es7 => ?_)
          have h := h.2 s7 es7
          obtain ⟨v8, ev8⟩ : ∃ y : Int32, y = x3 + 1 := ⟨_, rfl⟩
          have h := h v8 ev8
          refine dk_iinc (i := 3) (v := v8) (L' := [some (dk_r G 4 60), some (.int x1), some (.int x2), some (.int v8), some (.int x4)]) C dX9_sounds_54 (n := 57) rfl rfl (by rw [ev8]; rfl) (dk_nc_of rfl) (Nat.le_of_ble_eq_true rfl) rfl ?_
          obtain ⟨v9, ev9⟩ : ∃ y : Int32, y = x4 + 1 := ⟨_, rfl⟩
          have h := h v9 ev9
          refine dk_iinc (i := 4) (v := v9) (L' := [some (dk_r G 4 60), some (.int x1), some (.int x2), some (.int v8), some (.int v9)]) C dX9_sounds_57 (n := 60) rfl rfl (by rw [ev9]; rfl) (dk_nc_of rfl) (Nat.le_of_ble_eq_true rfl) rfl ?_
          refine dk_goto (t := 12) C dX9_sounds_60 (by decide) ?_
          refine dk_sub (L0 := [some (dk_r G 4 60), some (.int x1), some (.int x2), some (.int v8), some (.int v9)]) ⟨rfl, ⟨rfl, ⟨rfl, ⟨rfl, ⟨rfl, trivial⟩⟩⟩⟩⟩ ?_
          exact hB x1 x2 v8 v9 s7 h
set_option maxRecDepth 20000 in
set_option maxHeartbeats 4000000 in
theorem cc_X9_sounds {G : dk_G} {l : Launch} {a1 : Int32} {a2 : Int32} (hD : dk_D G) (hmi : dk_MI G) {s : dk_S} {K : Int32 → dk_S → Prop} (h : wf_X9_sounds a1 a2 s K) : dk_M G l 5 yX9_sounds cX9_sounds 5 (some .int) [dk_r G 4 60, .int a1, .int a2] s (dk_ki K) := by
  refine dk_of hD (by decide) [some (dk_r G 4 60), some (.int a1), some (.int a2), none, none] (fun q hq => hq) rfl (Nat.le_of_ble_eq_true rfl) (fun P e S0 m args bel meth c C hr hlk => ?_)
  unfold wf_X9_sounds at h
  refine dk_aload_n (i := 0) C dX9_sounds_0 (n := 1) rfl rfl rfl ?_
  refine dk_iload_n (i := 1) C dX9_sounds_1 (n := 2) rfl rfl rfl ?_
  refine dk_iconst (v := 3) C dX9_sounds_2 (n := 3) rfl (by decide) ?_
  refine dk_iconst (v := 3) C dX9_sounds_3 (n := 4) rfl (by decide) ?_
  refine dk_callVv C [] (cc_X9_findsSteps C.D hmi h) yy_X9_findsSteps dk_wm_X9_196 dk_sh60 (hmi 60 (by decide) (by decide)) dX9_sounds_4 (fun s1 h => ?_) rfl rfl ⟨Nat.le_of_ble_eq_true rfl, Nat.le_of_ble_eq_true rfl⟩ rfl (Nat.le_of_ble_eq_true rfl) rfl (n := 7) rfl
  refine dk_iconst (v := 0) C dX9_sounds_7 (n := 8) rfl (by decide) ?_
  refine dk_istore_n (i := 3) (L' := [some (dk_r G 4 60), some (.int a1), some (.int a2), some (.int 0), none]) C dX9_sounds_8 (n := 9) rfl rfl (dk_nc_of rfl) (Nat.le_of_ble_eq_true rfl) rfl ?_
  refine dk_iconst (v := 1) C dX9_sounds_9 (n := 10) rfl (by decide) ?_
  refine dk_istore (i := 4) (L' := [some (dk_r G 4 60), some (.int a1), some (.int a2), some (.int 0), some (.int 1)]) C dX9_sounds_10 (n := 12) rfl (dk_nc_of rfl) (Nat.le_of_ble_eq_true rfl) rfl ?_
  obtain ⟨nn2, h⟩ := h
  refine dk_sub (L0 := [some (dk_r G 4 60), some (.int a1), some (.int a2), some (.int 0), some (.int 1)]) ⟨rfl, ⟨rfl, ⟨rfl, ⟨rfl, ⟨rfl, trivial⟩⟩⟩⟩⟩ ?_
  refine ww_X9_sounds_12 C hr hlk hmi  nn2 a1 a2 0 1 s1 h
/-! X9_isBag -/
set_option maxRecDepth 20000 in
set_option maxHeartbeats 4000000 in
theorem cc_X9_isBag {G : dk_G} {l : Launch} {a1 : Int32} (hD : dk_D G) (hmi : dk_MI G) {s : dk_S} {K : Int32 → dk_S → Prop} (h : wf_X9_isBag a1 s K) : dk_M G l 1 yX9_isBag cX9_isBag 2 (some .boolean) [dk_r G 4 60, .int a1] s (dk_ki K) := by
  refine dk_of hD (by decide) [some (dk_r G 4 60), some (.int a1)] (fun q hq => hq) rfl (Nat.le_of_ble_eq_true rfl) (fun P e S0 m args bel meth c C hr hlk => ?_)
  unfold wf_X9_isBag at h
  refine dk_aload_n (i := 0) C dX9_isBag_0 (n := 1) rfl rfl rfl ?_
  refine gf_X9_50 C (hmi 60 (by decide) (by decide)) dX9_isBag_1 (n := 4) rfl ?_
  refine dk_iload_n (i := 1) C dX9_isBag_4 (n := 5) rfl rfl rfl ?_
  refine dk_iald C dk_sh71 h.1 (hmi 71 (by decide) (by decide)) dX9_isBag_5 (n := 6) rfl ?_
  have h := h.2
  refine dk_bipush (v := 6) C dX9_isBag_6 (n := 8) rfl (by decide) ?_
  refine dk_icmp_ne (t := 15) C dX9_isBag_8 (n := 11) rfl (by decide) (fun c1 => ?_) (fun c1 => ?_)
  · have h := h.1 c1
    refine dk_iconst (v := 0) C dX9_isBag_15 (n := 16) rfl (by decide) ?_
    exact dk_iret C hr hlk dk_nz0 dX9_isBag_16 ⟨_, rfl, h⟩
  · have h := h.2 c1
    refine dk_iconst (v := 1) C dX9_isBag_11 (n := 12) rfl (by decide) ?_
    refine dk_goto (t := 16) C dX9_isBag_12 (by decide) ?_
    exact dk_iret C hr hlk dk_nz1 dX9_isBag_16 ⟨_, rfl, h⟩
/-! X9_isWithin -/
set_option maxRecDepth 20000 in
set_option maxHeartbeats 4000000 in
theorem ww_X9_isWithin_7 {G : dk_G} {P : Program} {l : Launch} {e : Env} {S0 : State} {m : MethodId} {args : Array Value} {bel : List Frame} {meth : Method} {c : Code}  (C : dk_C G P (dk_rm 1) S0 m args c 0 0 cX9_isWithin 4 RX9) (hr : meth.sig.returnType = (some .boolean)) (hlk : meth.locks = false) (hmi : dk_MI G) {K : Int32 → dk_S → Prop} {E34 : Int32 → dk_S → Prop} (hE34 : ∀ (x3 : Int32) (s : dk_S), E34 x3 s → dk_W G P l e (dk_rm 1) S0 m args bel meth c 0 0 (MQ bel (dk_Qc G (dk_ki K)) args S0 0 0 (dk_A G)) 34 [none, none, none, some (.int x3)] [] s) : ∀ (n : Nat) (x2 : Int32) (x3 : Int32) (s : dk_S), wf_X9_isWithin_7 K E34 n x2 x3 s → dk_W G P l e (dk_rm 1) S0 m args bel meth c 0 0 (MQ bel (dk_Qc G (dk_ki K)) args S0 0 0 (dk_A G)) 7 [some (dk_r G 4 60), none, some (.int x2), some (.int x3)] [] s := by
  intro n
  induction n with
  | zero => intro x2 x3 s h; exact False.elim h
  | succ n hB =>
    intro x2 x3 s h
    unfold wf_X9_isWithin_7 at h
    refine dk_iload_n (i := 3) C dX9_isWithin_7 (n := 8) rfl rfl rfl ?_
    refine dk_bipush (v := (-3)) C dX9_isWithin_8 (n := 10) rfl (by decide) ?_
    refine dk_icmp_gt (t := 34) C dX9_isWithin_10 (n := 13) rfl (by decide) (fun c8 => ?_) (fun c8 => ?_)
    · have h := h.1 c8
      refine dk_sub (L0 := [none, none, none, some (.int x3)]) ⟨rfl, trivial⟩ ?_
      exact hE34 x3 s h
    · have h := h.2 c8
      refine dk_bipush (v := (-3)) C dX9_isWithin_13 (n := 15) rfl (by decide) ?_
      refine dk_iload_n (i := 3) C dX9_isWithin_15 (n := 16) rfl rfl rfl ?_
      refine dk_isub C dX9_isWithin_16 (n := 17) rfl ?_
      refine dk_iload_n (i := 2) C dX9_isWithin_17 (n := 18) rfl rfl rfl ?_
      refine dk_icmp_eq (t := 34) C dX9_isWithin_18 (n := 21) rfl (by decide) (fun c7 => ?_) (fun c7 => ?_)
      · have h := h.1 c7
        refine dk_sub (L0 := [none, none, none, some (.int x3)]) ⟨rfl, trivial⟩ ?_
        exact hE34 x3 s h
      · have h := h.2 c7
        refine dk_aload_n (i := 0) C dX9_isWithin_21 (n := 22) rfl rfl rfl ?_
        refine gf_X9_83 C (hmi 60 (by decide) (by decide)) dX9_isWithin_22 (n := 25) rfl ?_
        refine dk_bipush (v := (-3)) C dX9_isWithin_25 (n := 27) rfl (by decide) ?_
        refine dk_iload_n (i := 3) C dX9_isWithin_27 (n := 28) rfl rfl rfl ?_
        refine dk_isub C dX9_isWithin_28 (n := 29) rfl ?_
        refine dk_iald C dk_sh82 h.1 (hmi 82 (by decide) (by decide)) dX9_isWithin_29 (n := 30) rfl ?_
        have h := h.2
        refine dk_name (fun v6 ev6 => ?_)
        have h := h v6 ev6
        refine dk_istore_n (i := 3) (L' := [some (dk_r G 4 60), none, some (.int x2), some (.int v6)]) C dX9_isWithin_30 (n := 31) rfl rfl (dk_nc_of rfl) (Nat.le_of_ble_eq_true rfl) rfl ?_
        refine dk_goto (t := 7) C dX9_isWithin_31 (by decide) ?_
        refine dk_sub (L0 := [some (dk_r G 4 60), none, some (.int x2), some (.int v6)]) ⟨rfl, ⟨rfl, ⟨rfl, trivial⟩⟩⟩ ?_
        exact hB x2 v6 s h
set_option maxRecDepth 20000 in
set_option maxHeartbeats 4000000 in
theorem cc_X9_isWithin {G : dk_G} {l : Launch} {a1 : Int32} {a2 : Int32} (hD : dk_D G) (hmi : dk_MI G) {s : dk_S} {K : Int32 → dk_S → Prop} (h : wf_X9_isWithin a1 a2 s K) : dk_M G l 1 yX9_isWithin cX9_isWithin 4 (some .boolean) [dk_r G 4 60, .int a1, .int a2] s (dk_ki K) := by
  refine dk_of hD (by decide) [some (dk_r G 4 60), some (.int a1), some (.int a2), none] (fun q hq => hq) rfl (Nat.le_of_ble_eq_true rfl) (fun P e S0 m args bel meth c C hr hlk => ?_)
  unfold wf_X9_isWithin at h
  refine dk_aload_n (i := 0) C dX9_isWithin_0 (n := 1) rfl rfl rfl ?_
  refine gf_X9_83 C (hmi 60 (by decide) (by decide)) dX9_isWithin_1 (n := 4) rfl ?_
  refine dk_iload_n (i := 1) C dX9_isWithin_4 (n := 5) rfl rfl rfl ?_
  refine dk_iald C dk_sh82 h.1 (hmi 82 (by decide) (by decide)) dX9_isWithin_5 (n := 6) rfl ?_
  have h := h.2
  refine dk_name (fun v1 ev1 => ?_)
  have h := h v1 ev1
  refine dk_istore_n (i := 3) (L' := [some (dk_r G 4 60), some (.int a1), some (.int a2), some (.int v1)]) C dX9_isWithin_6 (n := 7) rfl rfl (dk_nc_of rfl) (Nat.le_of_ble_eq_true rfl) rfl ?_
  obtain ⟨nn5, h⟩ := h
  refine dk_sub (L0 := [some (dk_r G 4 60), none, some (.int a2), some (.int v1)]) ⟨rfl, ⟨rfl, ⟨rfl, trivial⟩⟩⟩ ?_
  refine ww_X9_isWithin_7 C hr hlk hmi (fun w2 s3 h => ?_) nn5 a2 v1 s h
  · refine dk_iload_n (i := 3) C dX9_isWithin_34 (n := 35) rfl rfl rfl ?_
    refine dk_bipush (v := (-3)) C dX9_isWithin_35 (n := 37) rfl (by decide) ?_
    refine dk_icmp_gt (t := 44) C dX9_isWithin_37 (n := 40) rfl (by decide) (fun c4 => ?_) (fun c4 => ?_)
    · have h := h.1 c4
      refine dk_iconst (v := 0) C dX9_isWithin_44 (n := 45) rfl (by decide) ?_
      exact dk_iret C hr hlk dk_nz0 dX9_isWithin_45 ⟨_, rfl, h⟩
    · have h := h.2 c4
      refine dk_iconst (v := 1) C dX9_isWithin_40 (n := 41) rfl (by decide) ?_
      refine dk_goto (t := 45) C dX9_isWithin_41 (by decide) ?_
      exact dk_iret C hr hlk dk_nz1 dX9_isWithin_45 ⟨_, rfl, h⟩
/-! X9_outermost -/
set_option maxRecDepth 20000 in
set_option maxHeartbeats 4000000 in
theorem ww_X9_outermost_7 {G : dk_G} {P : Program} {l : Launch} {e : Env} {S0 : State} {m : MethodId} {args : Array Value} {bel : List Frame} {meth : Method} {c : Code}  (C : dk_C G P (dk_rm 1) S0 m args c 0 0 cX9_outermost 3 RX9) (hr : meth.sig.returnType = (some .int)) (hlk : meth.locks = false) (hmi : dk_MI G) {K : Int32 → dk_S → Prop}  : ∀ (n : Nat) (x2 : Int32) (s : dk_S), wf_X9_outermost_7 K n x2 s → dk_W G P l e (dk_rm 1) S0 m args bel meth c 0 0 (MQ bel (dk_Qc G (dk_ki K)) args S0 0 0 (dk_A G)) 7 [some (dk_r G 4 60), none, some (.int x2)] [] s := by
  intro n
  induction n with
  | zero => intro x2 s h; exact False.elim h
  | succ n hB =>
    intro x2 s h
    unfold wf_X9_outermost_7 at h
    refine dk_iload_n (i := 2) C dX9_outermost_7 (n := 8) rfl rfl rfl ?_
    refine dk_bipush (v := (-3)) C dX9_outermost_8 (n := 10) rfl (by decide) ?_
    refine dk_icmp_gt (t := 26) C dX9_outermost_10 (n := 13) rfl (by decide) (fun c4 => ?_) (fun c4 => ?_)
    · have h := h.1 c4
      refine dk_iload_n (i := 2) C dX9_outermost_26 (n := 27) rfl rfl rfl ?_
      exact dk_iret C hr hlk rfl dX9_outermost_27 ⟨_, rfl, h⟩
    · have h := h.2 c4
      refine dk_aload_n (i := 0) C dX9_outermost_13 (n := 14) rfl rfl rfl ?_
      refine gf_X9_83 C (hmi 60 (by decide) (by decide)) dX9_outermost_14 (n := 17) rfl ?_
      refine dk_bipush (v := (-3)) C dX9_outermost_17 (n := 19) rfl (by decide) ?_
      refine dk_iload_n (i := 2) C dX9_outermost_19 (n := 20) rfl rfl rfl ?_
      refine dk_isub C dX9_outermost_20 (n := 21) rfl ?_
      refine dk_iald C dk_sh82 h.1 (hmi 82 (by decide) (by decide)) dX9_outermost_21 (n := 22) rfl ?_
      have h := h.2
      refine dk_name (fun v3 ev3 => ?_)
      have h := h v3 ev3
      refine dk_istore_n (i := 2) (L' := [some (dk_r G 4 60), none, some (.int v3)]) C dX9_outermost_22 (n := 23) rfl rfl (dk_nc_of rfl) (Nat.le_of_ble_eq_true rfl) rfl ?_
      refine dk_goto (t := 7) C dX9_outermost_23 (by decide) ?_
      refine dk_sub (L0 := [some (dk_r G 4 60), none, some (.int v3)]) ⟨rfl, ⟨rfl, trivial⟩⟩ ?_
      exact hB v3 s h
set_option maxRecDepth 20000 in
set_option maxHeartbeats 4000000 in
theorem cc_X9_outermost {G : dk_G} {l : Launch} {a1 : Int32} (hD : dk_D G) (hmi : dk_MI G) {s : dk_S} {K : Int32 → dk_S → Prop} (h : wf_X9_outermost a1 s K) : dk_M G l 1 yX9_outermost cX9_outermost 3 (some .int) [dk_r G 4 60, .int a1] s (dk_ki K) := by
  refine dk_of hD (by decide) [some (dk_r G 4 60), some (.int a1), none] (fun q hq => hq) rfl (Nat.le_of_ble_eq_true rfl) (fun P e S0 m args bel meth c C hr hlk => ?_)
  unfold wf_X9_outermost at h
  refine dk_aload_n (i := 0) C dX9_outermost_0 (n := 1) rfl rfl rfl ?_
  refine gf_X9_83 C (hmi 60 (by decide) (by decide)) dX9_outermost_1 (n := 4) rfl ?_
  refine dk_iload_n (i := 1) C dX9_outermost_4 (n := 5) rfl rfl rfl ?_
  refine dk_iald C dk_sh82 h.1 (hmi 82 (by decide) (by decide)) dX9_outermost_5 (n := 6) rfl ?_
  have h := h.2
  refine dk_name (fun v1 ev1 => ?_)
  have h := h v1 ev1
  refine dk_istore_n (i := 2) (L' := [some (dk_r G 4 60), some (.int a1), some (.int v1)]) C dX9_outermost_6 (n := 7) rfl rfl (dk_nc_of rfl) (Nat.le_of_ble_eq_true rfl) rfl ?_
  obtain ⟨nn2, h⟩ := h
  refine dk_sub (L0 := [some (dk_r G 4 60), none, some (.int v1)]) ⟨rfl, ⟨rfl, trivial⟩⟩ ?_
  refine ww_X9_outermost_7 C hr hlk hmi  nn2 v1 s h
/-! X9_wholeWeight -/
set_option maxRecDepth 20000 in
set_option maxHeartbeats 4000000 in
theorem ww_X9_wholeWeight_14 {G : dk_G} {P : Program} {l : Launch} {e : Env} {S0 : State} {m : MethodId} {args : Array Value} {bel : List Frame} {meth : Method} {c : Code}  (C : dk_C G P (dk_rm 2) S0 m args c 0 0 cX9_wholeWeight 4 RX9) (hr : meth.sig.returnType = (some .int)) (hlk : meth.locks = false) (hmi : dk_MI G) {K : Int32 → dk_S → Prop}  : ∀ (n : Nat) (x1 : Int32) (x2 : Int32) (x3 : Int32) (s : dk_S), wf_X9_wholeWeight_14 K n x1 x2 x3 s → dk_W G P l e (dk_rm 2) S0 m args bel meth c 0 0 (MQ bel (dk_Qc G (dk_ki K)) args S0 0 0 (dk_A G)) 14 [some (dk_r G 4 60), some (.int x1), some (.int x2), some (.int x3)] [] s := by
  intro n
  induction n with
  | zero => intro x1 x2 x3 s h; exact False.elim h
  | succ n hB =>
    intro x1 x2 x3 s h
    unfold wf_X9_wholeWeight_14 at h
    refine dk_iload_n (i := 3) C dX9_wholeWeight_14 (n := 15) rfl rfl rfl ?_
    refine dk_aload_n (i := 0) C dX9_wholeWeight_15 (n := 16) rfl rfl rfl ?_
    refine gf_X9_162 C (hmi 60 (by decide) (by decide)) dX9_wholeWeight_16 (n := 19) rfl ?_
    refine dk_icmp_ge (t := 60) C dX9_wholeWeight_19 (n := 22) rfl (by decide) (fun c13 => ?_) (fun c13 => ?_)
    · have h := h.1 c13
      refine dk_iload_n (i := 2) C dX9_wholeWeight_60 (n := 61) rfl rfl rfl ?_
      exact dk_iret C hr hlk rfl dX9_wholeWeight_61 ⟨_, rfl, h⟩
    · have h := h.2 c13
      refine dk_iload_n (i := 2) C dX9_wholeWeight_22 (n := 23) rfl rfl rfl ?_
      refine dk_iload_n (i := 3) C dX9_wholeWeight_23 (n := 24) rfl rfl rfl ?_
      refine dk_iload_n (i := 1) C dX9_wholeWeight_24 (n := 25) rfl rfl rfl ?_
      refine dk_icmp_eq (t := 51) C dX9_wholeWeight_25 (n := 28) rfl (by decide) (fun c12 => ?_) (fun c12 => ?_)
      · have h := h.1 c12
        refine dk_iconst (v := 0) C dX9_wholeWeight_51 (n := 52) rfl (by decide) ?_
        refine dk_iadd C dX9_wholeWeight_52 (n := 53) rfl ?_
        refine dk_name (fun v3 ev3 => ?_)
        have h := h v3 ev3
        refine dk_istore_n (i := 2) (L' := [some (dk_r G 4 60), some (.int x1), some (.int v3), some (.int x3)]) C dX9_wholeWeight_53 (n := 54) rfl rfl (dk_nc_of rfl) (Nat.le_of_ble_eq_true rfl) rfl ?_
        obtain ⟨v4, ev4⟩ : ∃ y : Int32, y = x3 + 1 := ⟨_, rfl⟩
        have h := h v4 ev4
        refine dk_iinc (i := 3) (v := v4) (L' := [some (dk_r G 4 60), some (.int x1), some (.int v3), some (.int v4)]) C dX9_wholeWeight_54 (n := 57) rfl rfl (by rw [ev4]; rfl) (dk_nc_of rfl) (Nat.le_of_ble_eq_true rfl) rfl ?_
        refine dk_goto (t := 14) C dX9_wholeWeight_57 (by decide) ?_
        refine dk_sub (L0 := [some (dk_r G 4 60), some (.int x1), some (.int v3), some (.int v4)]) ⟨rfl, ⟨rfl, ⟨rfl, ⟨rfl, trivial⟩⟩⟩⟩ ?_
        exact hB x1 v3 v4 s h
      · have h := h.2 c12
        refine dk_aload_n (i := 0) C dX9_wholeWeight_28 (n := 29) rfl rfl rfl ?_
        refine dk_iload_n (i := 3) C dX9_wholeWeight_29 (n := 30) rfl rfl rfl ?_
        refine dk_iload_n (i := 1) C dX9_wholeWeight_30 (n := 31) rfl rfl rfl ?_
        refine dk_callVi C [.int x2] (cc_X9_isWithin C.D hmi h) yy_X9_isWithin dk_wm_X9_203 dk_sh60 (hmi 60 (by decide) (by decide)) dX9_wholeWeight_31 (fun r6 s5 h => ?_) rfl rfl ⟨Nat.le_of_ble_eq_true rfl, Nat.le_of_ble_eq_true rfl⟩ rfl (Nat.le_of_ble_eq_true rfl) rfl (n := 34) rfl
        refine dk_if_eq (t := 51) C dX9_wholeWeight_34 (n := 37) rfl (by decide) (fun c11 => ?_) (fun c11 => ?_)
        · have h := h.1 c11
          refine dk_iconst (v := 0) C dX9_wholeWeight_51 (n := 52) rfl (by decide) ?_
          refine dk_iadd C dX9_wholeWeight_52 (n := 53) rfl ?_
          refine dk_name (fun v7 ev7 => ?_)
          have h := h v7 ev7
          refine dk_istore_n (i := 2) (L' := [some (dk_r G 4 60), some (.int x1), some (.int v7), some (.int x3)]) C dX9_wholeWeight_53 (n := 54) rfl rfl (dk_nc_of rfl) (Nat.le_of_ble_eq_true rfl) rfl ?_
          obtain ⟨v8, ev8⟩ : ∃ y : Int32, y = x3 + 1 := ⟨_, rfl⟩
          have h := h v8 ev8
          refine dk_iinc (i := 3) (v := v8) (L' := [some (dk_r G 4 60), some (.int x1), some (.int v7), some (.int v8)]) C dX9_wholeWeight_54 (n := 57) rfl rfl (by rw [ev8]; rfl) (dk_nc_of rfl) (Nat.le_of_ble_eq_true rfl) rfl ?_
          refine dk_goto (t := 14) C dX9_wholeWeight_57 (by decide) ?_
          refine dk_sub (L0 := [some (dk_r G 4 60), some (.int x1), some (.int v7), some (.int v8)]) ⟨rfl, ⟨rfl, ⟨rfl, ⟨rfl, trivial⟩⟩⟩⟩ ?_
          exact hB x1 v7 v8 s5 h
        · have h := h.2 c11
          refine dk_aload_n (i := 0) C dX9_wholeWeight_37 (n := 38) rfl rfl rfl ?_
          refine gf_X9_17 C (hmi 60 (by decide) (by decide)) dX9_wholeWeight_38 (n := 41) rfl ?_
          refine dk_aload_n (i := 0) C dX9_wholeWeight_41 (n := 42) rfl rfl rfl ?_
          refine gf_X9_50 C (hmi 60 (by decide) (by decide)) dX9_wholeWeight_42 (n := 45) rfl ?_
          refine dk_iload_n (i := 3) C dX9_wholeWeight_45 (n := 46) rfl rfl rfl ?_
          refine dk_iald C dk_sh71 h.1 (hmi 71 (by decide) (by decide)) dX9_wholeWeight_46 (n := 47) rfl ?_
          have h := h.2
          refine dk_iald C dk_sh62 h.1 (hmi 62 (by decide) (by decide)) dX9_wholeWeight_47 (n := 48) rfl ?_
          have h := h.2
          refine dk_goto (t := 52) C dX9_wholeWeight_48 (by decide) ?_
          refine dk_iadd C dX9_wholeWeight_52 (n := 53) rfl ?_
          refine dk_name (fun v9 ev9 => ?_)
          have h := h v9 ev9
          refine dk_istore_n (i := 2) (L' := [some (dk_r G 4 60), some (.int x1), some (.int v9), some (.int x3)]) C dX9_wholeWeight_53 (n := 54) rfl rfl (dk_nc_of rfl) (Nat.le_of_ble_eq_true rfl) rfl ?_
          obtain ⟨v10, ev10⟩ : ∃ y : Int32, y = x3 + 1 := ⟨_, rfl⟩
          have h := h v10 ev10
          refine dk_iinc (i := 3) (v := v10) (L' := [some (dk_r G 4 60), some (.int x1), some (.int v9), some (.int v10)]) C dX9_wholeWeight_54 (n := 57) rfl rfl (by rw [ev10]; rfl) (dk_nc_of rfl) (Nat.le_of_ble_eq_true rfl) rfl ?_
          refine dk_goto (t := 14) C dX9_wholeWeight_57 (by decide) ?_
          refine dk_sub (L0 := [some (dk_r G 4 60), some (.int x1), some (.int v9), some (.int v10)]) ⟨rfl, ⟨rfl, ⟨rfl, ⟨rfl, trivial⟩⟩⟩⟩ ?_
          exact hB x1 v9 v10 s5 h
set_option maxRecDepth 20000 in
set_option maxHeartbeats 4000000 in
theorem cc_X9_wholeWeight {G : dk_G} {l : Launch} {a1 : Int32} (hD : dk_D G) (hmi : dk_MI G) {s : dk_S} {K : Int32 → dk_S → Prop} (h : wf_X9_wholeWeight a1 s K) : dk_M G l 2 yX9_wholeWeight cX9_wholeWeight 4 (some .int) [dk_r G 4 60, .int a1] s (dk_ki K) := by
  refine dk_of hD (by decide) [some (dk_r G 4 60), some (.int a1), none, none] (fun q hq => hq) rfl (Nat.le_of_ble_eq_true rfl) (fun P e S0 m args bel meth c C hr hlk => ?_)
  unfold wf_X9_wholeWeight at h
  refine dk_aload_n (i := 0) C dX9_wholeWeight_0 (n := 1) rfl rfl rfl ?_
  refine gf_X9_17 C (hmi 60 (by decide) (by decide)) dX9_wholeWeight_1 (n := 4) rfl ?_
  refine dk_aload_n (i := 0) C dX9_wholeWeight_4 (n := 5) rfl rfl rfl ?_
  refine gf_X9_50 C (hmi 60 (by decide) (by decide)) dX9_wholeWeight_5 (n := 8) rfl ?_
  refine dk_iload_n (i := 1) C dX9_wholeWeight_8 (n := 9) rfl rfl rfl ?_
  refine dk_iald C dk_sh71 h.1 (hmi 71 (by decide) (by decide)) dX9_wholeWeight_9 (n := 10) rfl ?_
  have h := h.2
  refine dk_iald C dk_sh62 h.1 (hmi 62 (by decide) (by decide)) dX9_wholeWeight_10 (n := 11) rfl ?_
  have h := h.2
  refine dk_name (fun v1 ev1 => ?_)
  have h := h v1 ev1
  refine dk_istore_n (i := 2) (L' := [some (dk_r G 4 60), some (.int a1), some (.int v1), none]) C dX9_wholeWeight_11 (n := 12) rfl rfl (dk_nc_of rfl) (Nat.le_of_ble_eq_true rfl) rfl ?_
  refine dk_iconst (v := 0) C dX9_wholeWeight_12 (n := 13) rfl (by decide) ?_
  refine dk_istore_n (i := 3) (L' := [some (dk_r G 4 60), some (.int a1), some (.int v1), some (.int 0)]) C dX9_wholeWeight_13 (n := 14) rfl rfl (dk_nc_of rfl) (Nat.le_of_ble_eq_true rfl) rfl ?_
  obtain ⟨nn2, h⟩ := h
  refine dk_sub (L0 := [some (dk_r G 4 60), some (.int a1), some (.int v1), some (.int 0)]) ⟨rfl, ⟨rfl, ⟨rfl, ⟨rfl, trivial⟩⟩⟩⟩ ?_
  refine ww_X9_wholeWeight_14 C hr hlk hmi  nn2 a1 v1 0 s h
/-! X9_carriedWeight -/
set_option maxRecDepth 20000 in
set_option maxHeartbeats 4000000 in
theorem ww_X9_carriedWeight_4 {G : dk_G} {P : Program} {l : Launch} {e : Env} {S0 : State} {m : MethodId} {args : Array Value} {bel : List Frame} {meth : Method} {c : Code}  (C : dk_C G P (dk_rm 2) S0 m args c 0 0 cX9_carriedWeight 3 RX9) (hr : meth.sig.returnType = (some .int)) (hlk : meth.locks = false) (hmi : dk_MI G) {K : Int32 → dk_S → Prop}  : ∀ (n : Nat) (x1 : Int32) (x2 : Int32) (s : dk_S), wf_X9_carriedWeight_4 K n x1 x2 s → dk_W G P l e (dk_rm 2) S0 m args bel meth c 0 0 (MQ bel (dk_Qc G (dk_ki K)) args S0 0 0 (dk_A G)) 4 [some (dk_r G 4 60), some (.int x1), some (.int x2)] [] s := by
  intro n
  induction n with
  | zero => intro x1 x2 s h; exact False.elim h
  | succ n hB =>
    intro x1 x2 s h
    unfold wf_X9_carriedWeight_4 at h
    refine dk_iload_n (i := 2) C dX9_carriedWeight_4 (n := 5) rfl rfl rfl ?_
    refine dk_aload_n (i := 0) C dX9_carriedWeight_5 (n := 6) rfl rfl rfl ?_
    refine gf_X9_162 C (hmi 60 (by decide) (by decide)) dX9_carriedWeight_6 (n := 9) rfl ?_
    refine dk_icmp_ge (t := 45) C dX9_carriedWeight_9 (n := 12) rfl (by decide) (fun c9 => ?_) (fun c9 => ?_)
    · have h := h.1 c9
      refine dk_iload_n (i := 1) C dX9_carriedWeight_45 (n := 46) rfl rfl rfl ?_
      exact dk_iret C hr hlk rfl dX9_carriedWeight_46 ⟨_, rfl, h⟩
    · have h := h.2 c9
      refine dk_iload_n (i := 1) C dX9_carriedWeight_12 (n := 13) rfl rfl rfl ?_
      refine dk_aload_n (i := 0) C dX9_carriedWeight_13 (n := 14) rfl rfl rfl ?_
      refine dk_iload_n (i := 2) C dX9_carriedWeight_14 (n := 15) rfl rfl rfl ?_
      refine dk_callVi C [.int x1] (cc_X9_outermost C.D hmi h) yy_X9_outermost dk_wm_X9_206 dk_sh60 (hmi 60 (by decide) (by decide)) dX9_carriedWeight_15 (fun r3 s2 h => ?_) rfl rfl ⟨Nat.le_of_ble_eq_true rfl, Nat.le_of_ble_eq_true rfl⟩ rfl (Nat.le_of_ble_eq_true rfl) rfl (n := 18) rfl
      refine dk_iconst (v := (-1)) C dX9_carriedWeight_18 (n := 19) rfl (by decide) ?_
      refine dk_icmp_ne (t := 36) C dX9_carriedWeight_19 (n := 22) rfl (by decide) (fun c8 => ?_) (fun c8 => ?_)
      · have h := h.1 c8
        refine dk_iconst (v := 0) C dX9_carriedWeight_36 (n := 37) rfl (by decide) ?_
        refine dk_iadd C dX9_carriedWeight_37 (n := 38) rfl ?_
        refine dk_name (fun v4 ev4 => ?_)
        have h := h v4 ev4
        refine dk_istore_n (i := 1) (L' := [some (dk_r G 4 60), some (.int v4), some (.int x2)]) C dX9_carriedWeight_38 (n := 39) rfl rfl (dk_nc_of rfl) (Nat.le_of_ble_eq_true rfl) rfl ?_
        obtain ⟨v5, ev5⟩ : ∃ y : Int32, y = x2 + 1 := ⟨_, rfl⟩
        have h := h v5 ev5
        refine dk_iinc (i := 2) (v := v5) (L' := [some (dk_r G 4 60), some (.int v4), some (.int v5)]) C dX9_carriedWeight_39 (n := 42) rfl rfl (by rw [ev5]; rfl) (dk_nc_of rfl) (Nat.le_of_ble_eq_true rfl) rfl ?_
        refine dk_goto (t := 4) C dX9_carriedWeight_42 (by decide) ?_
        refine dk_sub (L0 := [some (dk_r G 4 60), some (.int v4), some (.int v5)]) ⟨rfl, ⟨rfl, ⟨rfl, trivial⟩⟩⟩ ?_
        exact hB v4 v5 s2 h
      · have h := h.2 c8
        refine dk_aload_n (i := 0) C dX9_carriedWeight_22 (n := 23) rfl rfl rfl ?_
        refine gf_X9_17 C (hmi 60 (by decide) (by decide)) dX9_carriedWeight_23 (n := 26) rfl ?_
        refine dk_aload_n (i := 0) C dX9_carriedWeight_26 (n := 27) rfl rfl rfl ?_
        refine gf_X9_50 C (hmi 60 (by decide) (by decide)) dX9_carriedWeight_27 (n := 30) rfl ?_
        refine dk_iload_n (i := 2) C dX9_carriedWeight_30 (n := 31) rfl rfl rfl ?_
        refine dk_iald C dk_sh71 h.1 (hmi 71 (by decide) (by decide)) dX9_carriedWeight_31 (n := 32) rfl ?_
        have h := h.2
        refine dk_iald C dk_sh62 h.1 (hmi 62 (by decide) (by decide)) dX9_carriedWeight_32 (n := 33) rfl ?_
        have h := h.2
        refine dk_goto (t := 37) C dX9_carriedWeight_33 (by decide) ?_
        refine dk_iadd C dX9_carriedWeight_37 (n := 38) rfl ?_
        refine dk_name (fun v6 ev6 => ?_)
        have h := h v6 ev6
        refine dk_istore_n (i := 1) (L' := [some (dk_r G 4 60), some (.int v6), some (.int x2)]) C dX9_carriedWeight_38 (n := 39) rfl rfl (dk_nc_of rfl) (Nat.le_of_ble_eq_true rfl) rfl ?_
        obtain ⟨v7, ev7⟩ : ∃ y : Int32, y = x2 + 1 := ⟨_, rfl⟩
        have h := h v7 ev7
        refine dk_iinc (i := 2) (v := v7) (L' := [some (dk_r G 4 60), some (.int v6), some (.int v7)]) C dX9_carriedWeight_39 (n := 42) rfl rfl (by rw [ev7]; rfl) (dk_nc_of rfl) (Nat.le_of_ble_eq_true rfl) rfl ?_
        refine dk_goto (t := 4) C dX9_carriedWeight_42 (by decide) ?_
        refine dk_sub (L0 := [some (dk_r G 4 60), some (.int v6), some (.int v7)]) ⟨rfl, ⟨rfl, ⟨rfl, trivial⟩⟩⟩ ?_
        exact hB v6 v7 s2 h
set_option maxRecDepth 20000 in
set_option maxHeartbeats 4000000 in
theorem cc_X9_carriedWeight {G : dk_G} {l : Launch}  (hD : dk_D G) (hmi : dk_MI G) {s : dk_S} {K : Int32 → dk_S → Prop} (h : wf_X9_carriedWeight s K) : dk_M G l 2 yX9_carriedWeight cX9_carriedWeight 3 (some .int) [dk_r G 4 60] s (dk_ki K) := by
  refine dk_of hD (by decide) [some (dk_r G 4 60), none, none] (fun q hq => hq) rfl (Nat.le_of_ble_eq_true rfl) (fun P e S0 m args bel meth c C hr hlk => ?_)
  unfold wf_X9_carriedWeight at h
  refine dk_iconst (v := 0) C dX9_carriedWeight_0 (n := 1) rfl (by decide) ?_
  refine dk_istore_n (i := 1) (L' := [some (dk_r G 4 60), some (.int 0), none]) C dX9_carriedWeight_1 (n := 2) rfl rfl (dk_nc_of rfl) (Nat.le_of_ble_eq_true rfl) rfl ?_
  refine dk_iconst (v := 0) C dX9_carriedWeight_2 (n := 3) rfl (by decide) ?_
  refine dk_istore_n (i := 2) (L' := [some (dk_r G 4 60), some (.int 0), some (.int 0)]) C dX9_carriedWeight_3 (n := 4) rfl rfl (dk_nc_of rfl) (Nat.le_of_ble_eq_true rfl) rfl ?_
  obtain ⟨nn1, h⟩ := h
  refine dk_sub (L0 := [some (dk_r G 4 60), some (.int 0), some (.int 0)]) ⟨rfl, ⟨rfl, ⟨rfl, trivial⟩⟩⟩ ?_
  refine ww_X9_carriedWeight_4 C hr hlk hmi  nn1 0 0 s h
/-! X9_carries -/
set_option maxRecDepth 20000 in
set_option maxHeartbeats 4000000 in
theorem ww_X9_carries_4 {G : dk_G} {P : Program} {l : Launch} {e : Env} {S0 : State} {m : MethodId} {args : Array Value} {bel : List Frame} {meth : Method} {c : Code}  (C : dk_C G P (dk_rm 1) S0 m args c 0 0 cX9_carries 4 RX9) (hr : meth.sig.returnType = (some .boolean)) (hlk : meth.locks = false) (hmi : dk_MI G) {K : Int32 → dk_S → Prop}  : ∀ (n : Nat) (x1 : Int32) (x2 : Int32) (x3 : Int32) (s : dk_S), wf_X9_carries_4 K n x1 x2 x3 s → dk_W G P l e (dk_rm 1) S0 m args bel meth c 0 0 (MQ bel (dk_Qc G (dk_ki K)) args S0 0 0 (dk_A G)) 4 [some (dk_r G 4 60), some (.int x1), some (.int x2), some (.int x3)] [] s := by
  intro n
  induction n with
  | zero => intro x1 x2 x3 s h; exact False.elim h
  | succ n hB =>
    intro x1 x2 x3 s h
    unfold wf_X9_carries_4 at h
    refine dk_iload_n (i := 3) C dX9_carries_4 (n := 5) rfl rfl rfl ?_
    refine dk_aload_n (i := 0) C dX9_carries_5 (n := 6) rfl rfl rfl ?_
    refine gf_X9_162 C (hmi 60 (by decide) (by decide)) dX9_carries_6 (n := 9) rfl ?_
    refine dk_icmp_ge (t := 48) C dX9_carries_9 (n := 12) rfl (by decide) (fun c9 => ?_) (fun c9 => ?_)
    · have h := h.1 c9
      refine dk_iload_n (i := 2) C dX9_carries_48 (n := 49) rfl rfl rfl ?_
      exact dk_iret C hr hlk h.1 dX9_carries_49 ⟨_, rfl, h.2⟩
    · have h := h.2 c9
      refine dk_iload_n (i := 2) C dX9_carries_12 (n := 13) rfl rfl rfl ?_
      refine dk_if_ne (t := 36) C dX9_carries_13 (n := 16) rfl (by decide) (fun c8 => ?_) (fun c8 => ?_)
      · have h := h.1 c8
        refine dk_iconst (v := 1) C dX9_carries_36 (n := 37) rfl (by decide) ?_
        refine dk_goto (t := 41) C dX9_carries_37 (by decide) ?_
        refine dk_istore_n (i := 2) (L' := [some (dk_r G 4 60), some (.int x1), some (.int 1), some (.int x3)]) C dX9_carries_41 (n := 42) rfl rfl (dk_nc_of rfl) (Nat.le_of_ble_eq_true rfl) rfl ?_
        obtain ⟨v2, ev2⟩ : ∃ y : Int32, y = x3 + 1 := ⟨_, rfl⟩
        have h := h v2 ev2
        refine dk_iinc (i := 3) (v := v2) (L' := [some (dk_r G 4 60), some (.int x1), some (.int 1), some (.int v2)]) C dX9_carries_42 (n := 45) rfl rfl (by rw [ev2]; rfl) (dk_nc_of rfl) (Nat.le_of_ble_eq_true rfl) rfl ?_
        refine dk_goto (t := 4) C dX9_carries_45 (by decide) ?_
        refine dk_sub (L0 := [some (dk_r G 4 60), some (.int x1), some (.int 1), some (.int v2)]) ⟨rfl, ⟨rfl, ⟨rfl, ⟨rfl, trivial⟩⟩⟩⟩ ?_
        exact hB x1 1 v2 s h
      · have h := h.2 c8
        refine dk_aload_n (i := 0) C dX9_carries_16 (n := 17) rfl rfl rfl ?_
        refine gf_X9_50 C (hmi 60 (by decide) (by decide)) dX9_carries_17 (n := 20) rfl ?_
        refine dk_iload_n (i := 3) C dX9_carries_20 (n := 21) rfl rfl rfl ?_
        refine dk_iald C dk_sh71 h.1 (hmi 71 (by decide) (by decide)) dX9_carries_21 (n := 22) rfl ?_
        have h := h.2
        refine dk_iload_n (i := 1) C dX9_carries_22 (n := 23) rfl rfl rfl ?_
        refine dk_icmp_ne (t := 40) C dX9_carries_23 (n := 26) rfl (by decide) (fun c7 => ?_) (fun c7 => ?_)
        · have h := h.1 c7
          refine dk_iconst (v := 0) C dX9_carries_40 (n := 41) rfl (by decide) ?_
          refine dk_istore_n (i := 2) (L' := [some (dk_r G 4 60), some (.int x1), some (.int 0), some (.int x3)]) C dX9_carries_41 (n := 42) rfl rfl (dk_nc_of rfl) (Nat.le_of_ble_eq_true rfl) rfl ?_
          obtain ⟨v3, ev3⟩ : ∃ y : Int32, y = x3 + 1 := ⟨_, rfl⟩
          have h := h v3 ev3
          refine dk_iinc (i := 3) (v := v3) (L' := [some (dk_r G 4 60), some (.int x1), some (.int 0), some (.int v3)]) C dX9_carries_42 (n := 45) rfl rfl (by rw [ev3]; rfl) (dk_nc_of rfl) (Nat.le_of_ble_eq_true rfl) rfl ?_
          refine dk_goto (t := 4) C dX9_carries_45 (by decide) ?_
          refine dk_sub (L0 := [some (dk_r G 4 60), some (.int x1), some (.int 0), some (.int v3)]) ⟨rfl, ⟨rfl, ⟨rfl, ⟨rfl, trivial⟩⟩⟩⟩ ?_
          exact hB x1 0 v3 s h
        · have h := h.2 c7
          refine dk_aload_n (i := 0) C dX9_carries_26 (n := 27) rfl rfl rfl ?_
          refine gf_X9_83 C (hmi 60 (by decide) (by decide)) dX9_carries_27 (n := 30) rfl ?_
          refine dk_iload_n (i := 3) C dX9_carries_30 (n := 31) rfl rfl rfl ?_
          refine dk_iald C dk_sh82 h.1 (hmi 82 (by decide) (by decide)) dX9_carries_31 (n := 32) rfl ?_
          have h := h.2
          refine dk_iconst (v := (-1)) C dX9_carries_32 (n := 33) rfl (by decide) ?_
          refine dk_icmp_ne (t := 40) C dX9_carries_33 (n := 36) rfl (by decide) (fun c6 => ?_) (fun c6 => ?_)
          · have h := h.1 c6
            refine dk_iconst (v := 0) C dX9_carries_40 (n := 41) rfl (by decide) ?_
            refine dk_istore_n (i := 2) (L' := [some (dk_r G 4 60), some (.int x1), some (.int 0), some (.int x3)]) C dX9_carries_41 (n := 42) rfl rfl (dk_nc_of rfl) (Nat.le_of_ble_eq_true rfl) rfl ?_
            obtain ⟨v4, ev4⟩ : ∃ y : Int32, y = x3 + 1 := ⟨_, rfl⟩
            have h := h v4 ev4
            refine dk_iinc (i := 3) (v := v4) (L' := [some (dk_r G 4 60), some (.int x1), some (.int 0), some (.int v4)]) C dX9_carries_42 (n := 45) rfl rfl (by rw [ev4]; rfl) (dk_nc_of rfl) (Nat.le_of_ble_eq_true rfl) rfl ?_
            refine dk_goto (t := 4) C dX9_carries_45 (by decide) ?_
            refine dk_sub (L0 := [some (dk_r G 4 60), some (.int x1), some (.int 0), some (.int v4)]) ⟨rfl, ⟨rfl, ⟨rfl, ⟨rfl, trivial⟩⟩⟩⟩ ?_
            exact hB x1 0 v4 s h
          · have h := h.2 c6
            refine dk_iconst (v := 1) C dX9_carries_36 (n := 37) rfl (by decide) ?_
            refine dk_goto (t := 41) C dX9_carries_37 (by decide) ?_
            refine dk_istore_n (i := 2) (L' := [some (dk_r G 4 60), some (.int x1), some (.int 1), some (.int x3)]) C dX9_carries_41 (n := 42) rfl rfl (dk_nc_of rfl) (Nat.le_of_ble_eq_true rfl) rfl ?_
            obtain ⟨v5, ev5⟩ : ∃ y : Int32, y = x3 + 1 := ⟨_, rfl⟩
            have h := h v5 ev5
            refine dk_iinc (i := 3) (v := v5) (L' := [some (dk_r G 4 60), some (.int x1), some (.int 1), some (.int v5)]) C dX9_carries_42 (n := 45) rfl rfl (by rw [ev5]; rfl) (dk_nc_of rfl) (Nat.le_of_ble_eq_true rfl) rfl ?_
            refine dk_goto (t := 4) C dX9_carries_45 (by decide) ?_
            refine dk_sub (L0 := [some (dk_r G 4 60), some (.int x1), some (.int 1), some (.int v5)]) ⟨rfl, ⟨rfl, ⟨rfl, ⟨rfl, trivial⟩⟩⟩⟩ ?_
            exact hB x1 1 v5 s h
set_option maxRecDepth 20000 in
set_option maxHeartbeats 4000000 in
theorem cc_X9_carries {G : dk_G} {l : Launch} {a1 : Int32} (hD : dk_D G) (hmi : dk_MI G) {s : dk_S} {K : Int32 → dk_S → Prop} (h : wf_X9_carries a1 s K) : dk_M G l 1 yX9_carries cX9_carries 4 (some .boolean) [dk_r G 4 60, .int a1] s (dk_ki K) := by
  refine dk_of hD (by decide) [some (dk_r G 4 60), some (.int a1), none, none] (fun q hq => hq) rfl (Nat.le_of_ble_eq_true rfl) (fun P e S0 m args bel meth c C hr hlk => ?_)
  unfold wf_X9_carries at h
  refine dk_iconst (v := 0) C dX9_carries_0 (n := 1) rfl (by decide) ?_
  refine dk_istore_n (i := 2) (L' := [some (dk_r G 4 60), some (.int a1), some (.int 0), none]) C dX9_carries_1 (n := 2) rfl rfl (dk_nc_of rfl) (Nat.le_of_ble_eq_true rfl) rfl ?_
  refine dk_iconst (v := 0) C dX9_carries_2 (n := 3) rfl (by decide) ?_
  refine dk_istore_n (i := 3) (L' := [some (dk_r G 4 60), some (.int a1), some (.int 0), some (.int 0)]) C dX9_carries_3 (n := 4) rfl rfl (dk_nc_of rfl) (Nat.le_of_ble_eq_true rfl) rfl ?_
  obtain ⟨nn1, h⟩ := h
  refine dk_sub (L0 := [some (dk_r G 4 60), some (.int a1), some (.int 0), some (.int 0)]) ⟨rfl, ⟨rfl, ⟨rfl, ⟨rfl, trivial⟩⟩⟩⟩ ?_
  refine ww_X9_carries_4 C hr hlk hmi  nn1 a1 0 0 s h
/-! X9_carriesAnywhere -/
set_option maxRecDepth 20000 in
set_option maxHeartbeats 4000000 in
theorem ww_X9_carriesAnywhere_4 {G : dk_G} {P : Program} {l : Launch} {e : Env} {S0 : State} {m : MethodId} {args : Array Value} {bel : List Frame} {meth : Method} {c : Code}  (C : dk_C G P (dk_rm 2) S0 m args c 0 0 cX9_carriesAnywhere 4 RX9) (hr : meth.sig.returnType = (some .boolean)) (hlk : meth.locks = false) (hmi : dk_MI G) {K : Int32 → dk_S → Prop}  : ∀ (n : Nat) (x1 : Int32) (x2 : Int32) (x3 : Int32) (s : dk_S), wf_X9_carriesAnywhere_4 K n x1 x2 x3 s → dk_W G P l e (dk_rm 2) S0 m args bel meth c 0 0 (MQ bel (dk_Qc G (dk_ki K)) args S0 0 0 (dk_A G)) 4 [some (dk_r G 4 60), some (.int x1), some (.int x2), some (.int x3)] [] s := by
  intro n
  induction n with
  | zero => intro x1 x2 x3 s h; exact False.elim h
  | succ n hB =>
    intro x1 x2 x3 s h
    unfold wf_X9_carriesAnywhere_4 at h
    refine dk_iload_n (i := 3) C dX9_carriesAnywhere_4 (n := 5) rfl rfl rfl ?_
    refine dk_aload_n (i := 0) C dX9_carriesAnywhere_5 (n := 6) rfl rfl rfl ?_
    refine gf_X9_162 C (hmi 60 (by decide) (by decide)) dX9_carriesAnywhere_6 (n := 9) rfl ?_
    refine dk_icmp_ge (t := 47) C dX9_carriesAnywhere_9 (n := 12) rfl (by decide) (fun c11 => ?_) (fun c11 => ?_)
    · have h := h.1 c11
      refine dk_iload_n (i := 2) C dX9_carriesAnywhere_47 (n := 48) rfl rfl rfl ?_
      exact dk_iret C hr hlk h.1 dX9_carriesAnywhere_48 ⟨_, rfl, h.2⟩
    · have h := h.2 c11
      refine dk_iload_n (i := 2) C dX9_carriesAnywhere_12 (n := 13) rfl rfl rfl ?_
      refine dk_if_ne (t := 35) C dX9_carriesAnywhere_13 (n := 16) rfl (by decide) (fun c10 => ?_) (fun c10 => ?_)
      · have h := h.1 c10
        refine dk_iconst (v := 1) C dX9_carriesAnywhere_35 (n := 36) rfl (by decide) ?_
        refine dk_goto (t := 40) C dX9_carriesAnywhere_36 (by decide) ?_
        refine dk_istore_n (i := 2) (L' := [some (dk_r G 4 60), some (.int x1), some (.int 1), some (.int x3)]) C dX9_carriesAnywhere_40 (n := 41) rfl rfl (dk_nc_of rfl) (Nat.le_of_ble_eq_true rfl) rfl ?_
        obtain ⟨v2, ev2⟩ : ∃ y : Int32, y = x3 + 1 := ⟨_, rfl⟩
        have h := h v2 ev2
        refine dk_iinc (i := 3) (v := v2) (L' := [some (dk_r G 4 60), some (.int x1), some (.int 1), some (.int v2)]) C dX9_carriesAnywhere_41 (n := 44) rfl rfl (by rw [ev2]; rfl) (dk_nc_of rfl) (Nat.le_of_ble_eq_true rfl) rfl ?_
        refine dk_goto (t := 4) C dX9_carriesAnywhere_44 (by decide) ?_
        refine dk_sub (L0 := [some (dk_r G 4 60), some (.int x1), some (.int 1), some (.int v2)]) ⟨rfl, ⟨rfl, ⟨rfl, ⟨rfl, trivial⟩⟩⟩⟩ ?_
        exact hB x1 1 v2 s h
      · have h := h.2 c10
        refine dk_aload_n (i := 0) C dX9_carriesAnywhere_16 (n := 17) rfl rfl rfl ?_
        refine gf_X9_50 C (hmi 60 (by decide) (by decide)) dX9_carriesAnywhere_17 (n := 20) rfl ?_
        refine dk_iload_n (i := 3) C dX9_carriesAnywhere_20 (n := 21) rfl rfl rfl ?_
        refine dk_iald C dk_sh71 h.1 (hmi 71 (by decide) (by decide)) dX9_carriesAnywhere_21 (n := 22) rfl ?_
        have h := h.2
        refine dk_iload_n (i := 1) C dX9_carriesAnywhere_22 (n := 23) rfl rfl rfl ?_
        refine dk_icmp_ne (t := 39) C dX9_carriesAnywhere_23 (n := 26) rfl (by decide) (fun c9 => ?_) (fun c9 => ?_)
        · have h := h.1 c9
          refine dk_iconst (v := 0) C dX9_carriesAnywhere_39 (n := 40) rfl (by decide) ?_
          refine dk_istore_n (i := 2) (L' := [some (dk_r G 4 60), some (.int x1), some (.int 0), some (.int x3)]) C dX9_carriesAnywhere_40 (n := 41) rfl rfl (dk_nc_of rfl) (Nat.le_of_ble_eq_true rfl) rfl ?_
          obtain ⟨v3, ev3⟩ : ∃ y : Int32, y = x3 + 1 := ⟨_, rfl⟩
          have h := h v3 ev3
          refine dk_iinc (i := 3) (v := v3) (L' := [some (dk_r G 4 60), some (.int x1), some (.int 0), some (.int v3)]) C dX9_carriesAnywhere_41 (n := 44) rfl rfl (by rw [ev3]; rfl) (dk_nc_of rfl) (Nat.le_of_ble_eq_true rfl) rfl ?_
          refine dk_goto (t := 4) C dX9_carriesAnywhere_44 (by decide) ?_
          refine dk_sub (L0 := [some (dk_r G 4 60), some (.int x1), some (.int 0), some (.int v3)]) ⟨rfl, ⟨rfl, ⟨rfl, ⟨rfl, trivial⟩⟩⟩⟩ ?_
          exact hB x1 0 v3 s h
        · have h := h.2 c9
          refine dk_aload_n (i := 0) C dX9_carriesAnywhere_26 (n := 27) rfl rfl rfl ?_
          refine dk_iload_n (i := 3) C dX9_carriesAnywhere_27 (n := 28) rfl rfl rfl ?_
          refine dk_callVi C [] (cc_X9_outermost C.D hmi h) yy_X9_outermost dk_wm_X9_206 dk_sh60 (hmi 60 (by decide) (by decide)) dX9_carriesAnywhere_28 (fun r5 s4 h => ?_) rfl rfl ⟨Nat.le_of_ble_eq_true rfl, Nat.le_of_ble_eq_true rfl⟩ rfl (Nat.le_of_ble_eq_true rfl) rfl (n := 31) rfl
          refine dk_iconst (v := (-1)) C dX9_carriesAnywhere_31 (n := 32) rfl (by decide) ?_
          refine dk_icmp_ne (t := 39) C dX9_carriesAnywhere_32 (n := 35) rfl (by decide) (fun c8 => ?_) (fun c8 => ?_)
          · have h := h.1 c8
            refine dk_iconst (v := 0) C dX9_carriesAnywhere_39 (n := 40) rfl (by decide) ?_
            refine dk_istore_n (i := 2) (L' := [some (dk_r G 4 60), some (.int x1), some (.int 0), some (.int x3)]) C dX9_carriesAnywhere_40 (n := 41) rfl rfl (dk_nc_of rfl) (Nat.le_of_ble_eq_true rfl) rfl ?_
            obtain ⟨v6, ev6⟩ : ∃ y : Int32, y = x3 + 1 := ⟨_, rfl⟩
            have h := h v6 ev6
            refine dk_iinc (i := 3) (v := v6) (L' := [some (dk_r G 4 60), some (.int x1), some (.int 0), some (.int v6)]) C dX9_carriesAnywhere_41 (n := 44) rfl rfl (by rw [ev6]; rfl) (dk_nc_of rfl) (Nat.le_of_ble_eq_true rfl) rfl ?_
            refine dk_goto (t := 4) C dX9_carriesAnywhere_44 (by decide) ?_
            refine dk_sub (L0 := [some (dk_r G 4 60), some (.int x1), some (.int 0), some (.int v6)]) ⟨rfl, ⟨rfl, ⟨rfl, ⟨rfl, trivial⟩⟩⟩⟩ ?_
            exact hB x1 0 v6 s4 h
          · have h := h.2 c8
            refine dk_iconst (v := 1) C dX9_carriesAnywhere_35 (n := 36) rfl (by decide) ?_
            refine dk_goto (t := 40) C dX9_carriesAnywhere_36 (by decide) ?_
            refine dk_istore_n (i := 2) (L' := [some (dk_r G 4 60), some (.int x1), some (.int 1), some (.int x3)]) C dX9_carriesAnywhere_40 (n := 41) rfl rfl (dk_nc_of rfl) (Nat.le_of_ble_eq_true rfl) rfl ?_
            obtain ⟨v7, ev7⟩ : ∃ y : Int32, y = x3 + 1 := ⟨_, rfl⟩
            have h := h v7 ev7
            refine dk_iinc (i := 3) (v := v7) (L' := [some (dk_r G 4 60), some (.int x1), some (.int 1), some (.int v7)]) C dX9_carriesAnywhere_41 (n := 44) rfl rfl (by rw [ev7]; rfl) (dk_nc_of rfl) (Nat.le_of_ble_eq_true rfl) rfl ?_
            refine dk_goto (t := 4) C dX9_carriesAnywhere_44 (by decide) ?_
            refine dk_sub (L0 := [some (dk_r G 4 60), some (.int x1), some (.int 1), some (.int v7)]) ⟨rfl, ⟨rfl, ⟨rfl, ⟨rfl, trivial⟩⟩⟩⟩ ?_
            exact hB x1 1 v7 s4 h
set_option maxRecDepth 20000 in
set_option maxHeartbeats 4000000 in
theorem cc_X9_carriesAnywhere {G : dk_G} {l : Launch} {a1 : Int32} (hD : dk_D G) (hmi : dk_MI G) {s : dk_S} {K : Int32 → dk_S → Prop} (h : wf_X9_carriesAnywhere a1 s K) : dk_M G l 2 yX9_carriesAnywhere cX9_carriesAnywhere 4 (some .boolean) [dk_r G 4 60, .int a1] s (dk_ki K) := by
  refine dk_of hD (by decide) [some (dk_r G 4 60), some (.int a1), none, none] (fun q hq => hq) rfl (Nat.le_of_ble_eq_true rfl) (fun P e S0 m args bel meth c C hr hlk => ?_)
  unfold wf_X9_carriesAnywhere at h
  refine dk_iconst (v := 0) C dX9_carriesAnywhere_0 (n := 1) rfl (by decide) ?_
  refine dk_istore_n (i := 2) (L' := [some (dk_r G 4 60), some (.int a1), some (.int 0), none]) C dX9_carriesAnywhere_1 (n := 2) rfl rfl (dk_nc_of rfl) (Nat.le_of_ble_eq_true rfl) rfl ?_
  refine dk_iconst (v := 0) C dX9_carriesAnywhere_2 (n := 3) rfl (by decide) ?_
  refine dk_istore_n (i := 3) (L' := [some (dk_r G 4 60), some (.int a1), some (.int 0), some (.int 0)]) C dX9_carriesAnywhere_3 (n := 4) rfl rfl (dk_nc_of rfl) (Nat.le_of_ble_eq_true rfl) rfl ?_
  obtain ⟨nn1, h⟩ := h
  refine dk_sub (L0 := [some (dk_r G 4 60), some (.int a1), some (.int 0), some (.int 0)]) ⟨rfl, ⟨rfl, ⟨rfl, ⟨rfl, trivial⟩⟩⟩⟩ ?_
  refine ww_X9_carriesAnywhere_4 C hr hlk hmi  nn1 a1 0 0 s h
/-! X9_speedOf -/
set_option maxRecDepth 20000 in
set_option maxHeartbeats 4000000 in
theorem cc_X9_speedOf {G : dk_G} {l : Launch} {a1 : Int32} (hD : dk_D G) (hmi : dk_MI G) {s : dk_S} {K : Int32 → dk_S → Prop} (h : wf_X9_speedOf a1 s K) : dk_M G l 1 yX9_speedOf cX9_speedOf 2 (some .int) [dk_r G 4 60, .int a1] s (dk_ki K) := by
  refine dk_of hD (by decide) [some (dk_r G 4 60), some (.int a1)] (fun q hq => hq) rfl (Nat.le_of_ble_eq_true rfl) (fun P e S0 m args bel meth c C hr hlk => ?_)
  unfold wf_X9_speedOf at h
  refine dk_aload_n (i := 0) C dX9_speedOf_0 (n := 1) rfl rfl rfl ?_
  refine gf_X9_77 C (hmi 60 (by decide) (by decide)) dX9_speedOf_1 (n := 4) rfl ?_
  refine dk_iload_n (i := 1) C dX9_speedOf_4 (n := 5) rfl rfl rfl ?_
  refine dk_iald C dk_sh80 h.1 (hmi 80 (by decide) (by decide)) dX9_speedOf_5 (n := 6) rfl ?_
  have h := h.2
  refine dk_if_le (t := 18) C dX9_speedOf_6 (n := 9) rfl (by decide) (fun c1 => ?_) (fun c1 => ?_)
  · have h := h.1 c1
    refine dk_aload_n (i := 0) C dX9_speedOf_18 (n := 19) rfl rfl rfl ?_
    refine gf_X9_41 C (hmi 60 (by decide) (by decide)) dX9_speedOf_19 (n := 22) rfl ?_
    refine dk_iload_n (i := 1) C dX9_speedOf_22 (n := 23) rfl rfl rfl ?_
    refine dk_iald C dk_sh68 h.1 (hmi 68 (by decide) (by decide)) dX9_speedOf_23 (n := 24) rfl ?_
    have h := h.2
    exact dk_iret C hr hlk rfl dX9_speedOf_24 ⟨_, rfl, h⟩
  · have h := h.2 c1
    refine dk_aload_n (i := 0) C dX9_speedOf_9 (n := 10) rfl rfl rfl ?_
    refine gf_X9_74 C (hmi 60 (by decide) (by decide)) dX9_speedOf_10 (n := 13) rfl ?_
    refine dk_iload_n (i := 1) C dX9_speedOf_13 (n := 14) rfl rfl rfl ?_
    refine dk_iald C dk_sh79 h.1 (hmi 79 (by decide) (by decide)) dX9_speedOf_14 (n := 15) rfl ?_
    have h := h.2
    refine dk_goto (t := 24) C dX9_speedOf_15 (by decide) ?_
    exact dk_iret C hr hlk rfl dX9_speedOf_24 ⟨_, rfl, h⟩
/-! X9_isWorldOver -/
set_option maxRecDepth 20000 in
set_option maxHeartbeats 4000000 in
theorem ww_X9_isWorldOver_61 {G : dk_G} {P : Program} {l : Launch} {e : Env} {S0 : State} {m : MethodId} {args : Array Value} {bel : List Frame} {meth : Method} {c : Code}  (C : dk_C G P (dk_rm 2) S0 m args c 0 0 cX9_isWorldOver 2 RX9) (hr : meth.sig.returnType = (some .boolean)) (hlk : meth.locks = false) (hmi : dk_MI G) {K : Int32 → dk_S → Prop} {E106 : dk_S → Prop} (hE106 : ∀ (s : dk_S), E106 s → dk_W G P l e (dk_rm 2) S0 m args bel meth c 0 0 (MQ bel (dk_Qc G (dk_ki K)) args S0 0 0 (dk_A G)) 106 [some (dk_r G 4 60), none] [] s) : ∀ (n : Nat) (x1 : Int32) (s : dk_S), wf_X9_isWorldOver_61 K E106 n x1 s → dk_W G P l e (dk_rm 2) S0 m args bel meth c 0 0 (MQ bel (dk_Qc G (dk_ki K)) args S0 0 0 (dk_A G)) 61 [some (dk_r G 4 60), some (.int x1)] [] s := by
  intro n
  induction n with
  | zero => intro x1 s h; exact False.elim h
  | succ n hB =>
    intro x1 s h
    unfold wf_X9_isWorldOver_61 at h
    refine dk_iload_n (i := 1) C dX9_isWorldOver_61 (n := 62) rfl rfl rfl ?_
    refine dk_aload_n (i := 0) C dX9_isWorldOver_62 (n := 63) rfl rfl rfl ?_
    refine gf_X9_162 C (hmi 60 (by decide) (by decide)) dX9_isWorldOver_63 (n := 66) rfl ?_
    refine dk_icmp_ge (t := 106) C dX9_isWorldOver_66 (n := 69) rfl (by decide) (fun c13 => ?_) (fun c13 => ?_)
    · have h := h.1 c13
      refine dk_sub (L0 := [some (dk_r G 4 60), none]) ⟨rfl, trivial⟩ ?_
      exact hE106  s h
    · have h := h.2 c13
      refine dk_aload_n (i := 0) C dX9_isWorldOver_69 (n := 70) rfl rfl rfl ?_
      refine gf_X9_83 C (hmi 60 (by decide) (by decide)) dX9_isWorldOver_70 (n := 73) rfl ?_
      refine dk_iload_n (i := 1) C dX9_isWorldOver_73 (n := 74) rfl rfl rfl ?_
      refine dk_aload_n (i := 0) C dX9_isWorldOver_74 (n := 75) rfl rfl rfl ?_
      refine gf_X9_83 C (hmi 60 (by decide) (by decide)) dX9_isWorldOver_75 (n := 78) rfl ?_
      refine dk_iload_n (i := 1) C dX9_isWorldOver_78 (n := 79) rfl rfl rfl ?_
      refine dk_iald C dk_sh82 h.1 (hmi 82 (by decide) (by decide)) dX9_isWorldOver_79 (n := 80) rfl ?_
      have h := h.2
      refine dk_iconst (v := (-1)) C dX9_isWorldOver_80 (n := 81) rfl (by decide) ?_
      refine dk_icmp_ne (t := 93) C dX9_isWorldOver_81 (n := 84) rfl (by decide) (fun c12 => ?_) (fun c12 => ?_)
      · have h := h.1 c12
        refine dk_aload_n (i := 0) C dX9_isWorldOver_93 (n := 94) rfl rfl rfl ?_
        refine gf_X9_83 C (hmi 60 (by decide) (by decide)) dX9_isWorldOver_94 (n := 97) rfl ?_
        refine dk_iload_n (i := 1) C dX9_isWorldOver_97 (n := 98) rfl rfl rfl ?_
        refine dk_iald C dk_sh82 h.1 (hmi 82 (by decide) (by decide)) dX9_isWorldOver_98 (n := 99) rfl ?_
        have h := h.2
        refine dk_iast C dk_sh82 h.1 (hmi 82 (by decide) (by decide)) dX9_isWorldOver_99 (n := 100) rfl ?_
        refine dk_nameS (fun s8 es8 => ?_)
        have h := h.2 s8 es8
        obtain ⟨v9, ev9⟩ : ∃ y : Int32, y = x1 + 1 := ⟨_, rfl⟩
        have h := h v9 ev9
        refine dk_iinc (i := 1) (v := v9) (L' := [some (dk_r G 4 60), some (.int v9)]) C dX9_isWorldOver_100 (n := 103) rfl rfl (by rw [ev9]; rfl) (dk_nc_of rfl) (Nat.le_of_ble_eq_true rfl) rfl ?_
        refine dk_goto (t := 61) C dX9_isWorldOver_103 (by decide) ?_
        refine dk_sub (L0 := [some (dk_r G 4 60), some (.int v9)]) ⟨rfl, ⟨rfl, trivial⟩⟩ ?_
        exact hB v9 s8 h
      · have h := h.2 c12
        refine dk_aload_n (i := 0) C dX9_isWorldOver_84 (n := 85) rfl rfl rfl ?_
        refine gf_X9_65 C (hmi 60 (by decide) (by decide)) dX9_isWorldOver_85 (n := 88) rfl ?_
        refine dk_iconst (v := 0) C dX9_isWorldOver_88 (n := 89) rfl (by decide) ?_
        refine dk_iald C dk_sh76 h.1 (hmi 76 (by decide) (by decide)) dX9_isWorldOver_89 (n := 90) rfl ?_
        have h := h.2
        refine dk_goto (t := 99) C dX9_isWorldOver_90 (by decide) ?_
        refine dk_iast C dk_sh82 h.1 (hmi 82 (by decide) (by decide)) dX9_isWorldOver_99 (n := 100) rfl ?_
        refine dk_nameS (fun s10 es10 => ?_)
        have h := h.2 s10 es10
        obtain ⟨v11, ev11⟩ : ∃ y : Int32, y = x1 + 1 := ⟨_, rfl⟩
        have h := h v11 ev11
        refine dk_iinc (i := 1) (v := v11) (L' := [some (dk_r G 4 60), some (.int v11)]) C dX9_isWorldOver_100 (n := 103) rfl rfl (by rw [ev11]; rfl) (dk_nc_of rfl) (Nat.le_of_ble_eq_true rfl) rfl ?_
        refine dk_goto (t := 61) C dX9_isWorldOver_103 (by decide) ?_
        refine dk_sub (L0 := [some (dk_r G 4 60), some (.int v11)]) ⟨rfl, ⟨rfl, trivial⟩⟩ ?_
        exact hB v11 s10 h
set_option maxRecDepth 20000 in
set_option maxHeartbeats 4000000 in
theorem ww_X9_isWorldOver_40 {G : dk_G} {P : Program} {l : Launch} {e : Env} {S0 : State} {m : MethodId} {args : Array Value} {bel : List Frame} {meth : Method} {c : Code}  (C : dk_C G P (dk_rm 2) S0 m args c 0 0 cX9_isWorldOver 2 RX9) (hr : meth.sig.returnType = (some .boolean)) (hlk : meth.locks = false) (hmi : dk_MI G) {K : Int32 → dk_S → Prop} {B : Int32 → dk_S → Prop} {E59 : dk_S → Prop} (hB : ∀ (x1 : Int32) (s : dk_S), B x1 s → dk_W G P l e (dk_rm 2) S0 m args bel meth c 0 0 (MQ bel (dk_Qc G (dk_ki K)) args S0 0 0 (dk_A G)) 13 [some (dk_r G 4 60), some (.int x1)] [] s) (hE59 : ∀ (s : dk_S), E59 s → dk_W G P l e (dk_rm 2) S0 m args bel meth c 0 0 (MQ bel (dk_Qc G (dk_ki K)) args S0 0 0 (dk_A G)) 59 [some (dk_r G 4 60), none] [] s) : ∀ (x1 : Int32) (y0 : Int32) (y1 : Int32) (s : dk_S), wf_X9_isWorldOver_40 K B E59 x1 y0 y1 s → dk_W G P l e (dk_rm 2) S0 m args bel meth c 0 0 (MQ bel (dk_Qc G (dk_ki K)) args S0 0 0 (dk_A G)) 40 [some (dk_r G 4 60), some (.int x1)] [.int y0, .int y1, dk_r G 4 84] s := by
  intro x1 y0 y1 s h
  unfold wf_X9_isWorldOver_40 at h
  refine dk_zast C dk_sh84 h.1 (hmi 84 (by decide) (by decide)) dX9_isWorldOver_40 (n := 41) rfl ?_
  refine dk_nameS (fun s18 es18 => ?_)
  have h := h.2 s18 es18
  refine dk_aload_n (i := 0) C dX9_isWorldOver_41 (n := 42) rfl rfl rfl ?_
  refine gf_X9_95 C (hmi 60 (by decide) (by decide)) dX9_isWorldOver_42 (n := 45) rfl ?_
  refine dk_iload_n (i := 1) C dX9_isWorldOver_45 (n := 46) rfl rfl rfl ?_
  refine dk_aload_n (i := 0) C dX9_isWorldOver_46 (n := 47) rfl rfl rfl ?_
  refine gf_X9_83 C (hmi 60 (by decide) (by decide)) dX9_isWorldOver_47 (n := 50) rfl ?_
  refine dk_iload_n (i := 1) C dX9_isWorldOver_50 (n := 51) rfl rfl rfl ?_
  refine dk_iald C dk_sh82 h.1 (hmi 82 (by decide) (by decide)) dX9_isWorldOver_51 (n := 52) rfl ?_
  have h := h.2
  refine dk_iast C dk_sh85 h.1 (hmi 85 (by decide) (by decide)) dX9_isWorldOver_52 (n := 53) rfl ?_
  refine dk_nameS (fun s19 es19 => ?_)
  have h := h.2 s19 es19
  obtain ⟨v20, ev20⟩ : ∃ y : Int32, y = x1 + 1 := ⟨_, rfl⟩
  have h := h v20 ev20
  refine dk_iinc (i := 1) (v := v20) (L' := [some (dk_r G 4 60), some (.int v20)]) C dX9_isWorldOver_53 (n := 56) rfl rfl (by rw [ev20]; rfl) (dk_nc_of rfl) (Nat.le_of_ble_eq_true rfl) rfl ?_
  refine dk_goto (t := 13) C dX9_isWorldOver_56 (by decide) ?_
  refine dk_sub (L0 := [some (dk_r G 4 60), some (.int v20)]) ⟨rfl, ⟨rfl, trivial⟩⟩ ?_
  exact hB v20 s19 h
set_option maxRecDepth 20000 in
set_option maxHeartbeats 4000000 in
theorem ww_X9_isWorldOver_13 {G : dk_G} {P : Program} {l : Launch} {e : Env} {S0 : State} {m : MethodId} {args : Array Value} {bel : List Frame} {meth : Method} {c : Code}  (C : dk_C G P (dk_rm 2) S0 m args c 0 0 cX9_isWorldOver 2 RX9) (hr : meth.sig.returnType = (some .boolean)) (hlk : meth.locks = false) (hmi : dk_MI G) {K : Int32 → dk_S → Prop} {E59 : dk_S → Prop} (hE59 : ∀ (s : dk_S), E59 s → dk_W G P l e (dk_rm 2) S0 m args bel meth c 0 0 (MQ bel (dk_Qc G (dk_ki K)) args S0 0 0 (dk_A G)) 59 [some (dk_r G 4 60), none] [] s) : ∀ (n : Nat) (x1 : Int32) (s : dk_S), wf_X9_isWorldOver_13 K E59 n x1 s → dk_W G P l e (dk_rm 2) S0 m args bel meth c 0 0 (MQ bel (dk_Qc G (dk_ki K)) args S0 0 0 (dk_A G)) 13 [some (dk_r G 4 60), some (.int x1)] [] s := by
  intro n
  induction n with
  | zero => intro x1 s h; exact False.elim h
  | succ n hB =>
    intro x1 s h
    unfold wf_X9_isWorldOver_13 at h
    refine dk_iload_n (i := 1) C dX9_isWorldOver_13 (n := 14) rfl rfl rfl ?_
    refine dk_aload_n (i := 0) C dX9_isWorldOver_14 (n := 15) rfl rfl rfl ?_
    refine gf_X9_162 C (hmi 60 (by decide) (by decide)) dX9_isWorldOver_15 (n := 18) rfl ?_
    refine dk_icmp_ge (t := 59) C dX9_isWorldOver_18 (n := 21) rfl (by decide) (fun c17 => ?_) (fun c17 => ?_)
    · have h := h.1 c17
      refine dk_sub (L0 := [some (dk_r G 4 60), none]) ⟨rfl, trivial⟩ ?_
      exact hE59  s h
    · have h := h.2 c17
      refine dk_aload_n (i := 0) C dX9_isWorldOver_21 (n := 22) rfl rfl rfl ?_
      refine gf_X9_92 C (hmi 60 (by decide) (by decide)) dX9_isWorldOver_22 (n := 25) rfl ?_
      refine dk_iload_n (i := 1) C dX9_isWorldOver_25 (n := 26) rfl rfl rfl ?_
      refine dk_aload_n (i := 0) C dX9_isWorldOver_26 (n := 27) rfl rfl rfl ?_
      refine dk_iload_n (i := 1) C dX9_isWorldOver_27 (n := 28) rfl rfl rfl ?_
      refine dk_callVi C [.int x1, dk_r G 4 84] (cc_X9_outermost C.D hmi h) yy_X9_outermost dk_wm_X9_206 dk_sh60 (hmi 60 (by decide) (by decide)) dX9_isWorldOver_28 (fun r15 s14 h => ?_) rfl rfl ⟨Nat.le_of_ble_eq_true rfl, Nat.le_of_ble_eq_true rfl⟩ rfl (Nat.le_of_ble_eq_true rfl) rfl (n := 31) rfl
      refine dk_iconst (v := (-1)) C dX9_isWorldOver_31 (n := 32) rfl (by decide) ?_
      refine dk_icmp_ne (t := 39) C dX9_isWorldOver_32 (n := 35) rfl (by decide) (fun c16 => ?_) (fun c16 => ?_)
      · have h := h.1 c16
        refine dk_iconst (v := 0) C dX9_isWorldOver_39 (n := 40) rfl (by decide) ?_
        refine dk_sub (L0 := [some (dk_r G 4 60), some (.int x1)]) ⟨rfl, ⟨rfl, trivial⟩⟩ ?_
        exact ww_X9_isWorldOver_40 C hr hlk hmi hB hE59 x1 0 x1 s14 h
      · have h := h.2 c16
        refine dk_iconst (v := 1) C dX9_isWorldOver_35 (n := 36) rfl (by decide) ?_
        refine dk_goto (t := 40) C dX9_isWorldOver_36 (by decide) ?_
        refine dk_sub (L0 := [some (dk_r G 4 60), some (.int x1)]) ⟨rfl, ⟨rfl, trivial⟩⟩ ?_
        exact ww_X9_isWorldOver_40 C hr hlk hmi hB hE59 x1 1 x1 s14 h
set_option maxRecDepth 20000 in
set_option maxHeartbeats 4000000 in
theorem cc_X9_isWorldOver {G : dk_G} {l : Launch}  (hD : dk_D G) (hmi : dk_MI G) {s : dk_S} {K : Int32 → dk_S → Prop} (h : wf_X9_isWorldOver s K) : dk_M G l 2 yX9_isWorldOver cX9_isWorldOver 2 (some .boolean) [dk_r G 4 60] s (dk_ki K) := by
  refine dk_of hD (by decide) [some (dk_r G 4 60), none] (fun q hq => hq) rfl (Nat.le_of_ble_eq_true rfl) (fun P e S0 m args bel meth c C hr hlk => ?_)
  unfold wf_X9_isWorldOver at h
  refine dk_aload_n (i := 0) C dX9_isWorldOver_0 (n := 1) rfl rfl rfl ?_
  refine gf_X9_68 C (hmi 60 (by decide) (by decide)) dX9_isWorldOver_1 (n := 4) rfl ?_
  refine dk_iconst (v := 0) C dX9_isWorldOver_4 (n := 5) rfl (by decide) ?_
  refine dk_iald C dk_sh77 h.1 (hmi 77 (by decide) (by decide)) dX9_isWorldOver_5 (n := 6) rfl ?_
  have h := h.2
  refine dk_if_le (t := 11) C dX9_isWorldOver_6 (n := 9) rfl (by decide) (fun c7 => ?_) (fun c7 => ?_)
  · have h := h.1 c7
    refine dk_iconst (v := 0) C dX9_isWorldOver_11 (n := 12) rfl (by decide) ?_
    refine dk_istore_n (i := 1) (L' := [some (dk_r G 4 60), some (.int 0)]) C dX9_isWorldOver_12 (n := 13) rfl rfl (dk_nc_of rfl) (Nat.le_of_ble_eq_true rfl) rfl ?_
    obtain ⟨nn6, h⟩ := h
    refine dk_sub (L0 := [some (dk_r G 4 60), some (.int 0)]) ⟨rfl, ⟨rfl, trivial⟩⟩ ?_
    refine ww_X9_isWorldOver_13 C hr hlk hmi (fun s1 h => ?_) nn6 0 s h
    · refine dk_iconst (v := 0) C dX9_isWorldOver_59 (n := 60) rfl (by decide) ?_
      refine dk_istore_n (i := 1) (L' := [some (dk_r G 4 60), some (.int 0)]) C dX9_isWorldOver_60 (n := 61) rfl rfl (dk_nc_of rfl) (Nat.le_of_ble_eq_true rfl) rfl ?_
      obtain ⟨nn5, h⟩ := h
      refine dk_sub (L0 := [some (dk_r G 4 60), some (.int 0)]) ⟨rfl, ⟨rfl, trivial⟩⟩ ?_
      refine ww_X9_isWorldOver_61 C hr hlk hmi (fun s2 h => ?_) nn5 0 s1 h
      · refine dk_aload_n (i := 0) C dX9_isWorldOver_106 (n := 107) rfl rfl rfl ?_
        refine dk_aload_n (i := 0) C dX9_isWorldOver_107 (n := 108) rfl rfl rfl ?_
        refine gf_X9_65 C (hmi 60 (by decide) (by decide)) dX9_isWorldOver_108 (n := 111) rfl ?_
        refine dk_iconst (v := 0) C dX9_isWorldOver_111 (n := 112) rfl (by decide) ?_
        refine dk_iald C dk_sh76 h.1 (hmi 76 (by decide) (by decide)) dX9_isWorldOver_112 (n := 113) rfl ?_
        have h := h.2
        refine pf_X9_89 C rfl rfl (hmi 60 (by decide) (by decide)) dX9_isWorldOver_113 (n := 116) rfl ?_
        refine dk_nameS (fun s3 es3 => ?_)
        have h := h s3 es3
        refine dk_aload_n (i := 0) C dX9_isWorldOver_116 (n := 117) rfl rfl rfl ?_
        refine dk_bipush (v := 100) C dX9_isWorldOver_117 (n := 119) rfl (by decide) ?_
        refine pf_X9_7 C (by decide) (by decide) (hmi 60 (by decide) (by decide)) dX9_isWorldOver_119 (n := 122) rfl ?_
        refine dk_nameS (fun s4 es4 => ?_)
        have h := h s4 es4
        refine dk_iconst (v := 1) C dX9_isWorldOver_122 (n := 123) rfl (by decide) ?_
        exact dk_iret C hr hlk dk_nz1 dX9_isWorldOver_123 ⟨_, rfl, h⟩
  · have h := h.2 c7
    refine dk_iconst (v := 0) C dX9_isWorldOver_9 (n := 10) rfl (by decide) ?_
    exact dk_iret C hr hlk dk_nz0 dX9_isWorldOver_10 ⟨_, rfl, h⟩
