/-! X9_nextTurn -/
set_option maxRecDepth 20000 in
set_option maxHeartbeats 4000000 in
theorem ww_X9_nextTurn_36 {G : dk_G} {P : Program} {l : Launch} {e : Env} {S0 : State} {m : MethodId} {args : Array Value} {bel : List Frame} {meth : Method} {c : Code}  (C : dk_C G P (dk_rm 2) S0 m args c 0 0 cX9_nextTurn 4 RX9) (hr : meth.sig.returnType = (some .int)) (hlk : meth.locks = false) (hmi : dk_MI G) {K : Int32 → dk_S → Prop} {B : Int32 → Int32 → dk_S → Prop} (hB : ∀ (x1 : Int32) (x2 : Int32) (s : dk_S), B x1 x2 s → dk_W G P l e (dk_rm 2) S0 m args bel meth c 0 0 (MQ bel (dk_Qc G (dk_ki K)) args S0 0 0 (dk_A G)) 4 [some (dk_r G 4 60), some (.int x1), some (.int x2), none] [] s)  : ∀ (x1 : Int32) (x2 : Int32) (y0 : Int32) (s : dk_S), wf_X9_nextTurn_36 K B x1 x2 y0 s → dk_W G P l e (dk_rm 2) S0 m args bel meth c 0 0 (MQ bel (dk_Qc G (dk_ki K)) args S0 0 0 (dk_A G)) 36 [some (dk_r G 4 60), some (.int x1), some (.int x2), none] [.int y0] s := by
  intro x1 x2 y0 s h
  unfold wf_X9_nextTurn_36 at h
  refine dk_istore_n (i := 3) (L' := [some (dk_r G 4 60), some (.int x1), some (.int x2), some (.int y0)]) C dX9_nextTurn_36 (n := 37) rfl rfl (dk_nc_of rfl) (Nat.le_of_ble_eq_true rfl) rfl ?_
  refine dk_iload_n (i := 3) C dX9_nextTurn_37 (n := 38) rfl rfl rfl ?_
  refine dk_if_eq (t := 65) C dX9_nextTurn_38 (n := 41) rfl (by decide) (fun c13 => ?_) (fun c13 => ?_)
  · have h := h.1 c13
    refine dk_iload_n (i := 1) C dX9_nextTurn_65 (n := 66) rfl rfl rfl ?_
    refine dk_istore_n (i := 1) (L' := [some (dk_r G 4 60), some (.int x1), some (.int x2), some (.int y0)]) C dX9_nextTurn_66 (n := 67) rfl rfl (dk_nc_of rfl) (Nat.le_of_ble_eq_true rfl) rfl ?_
    obtain ⟨v7, ev7⟩ : ∃ y : Int32, y = x2 + 1 := ⟨_, rfl⟩
    have h := h v7 ev7
    refine dk_iinc (i := 2) (v := v7) (L' := [some (dk_r G 4 60), some (.int x1), some (.int v7), some (.int y0)]) C dX9_nextTurn_67 (n := 70) rfl rfl (by rw [ev7]; rfl) (dk_nc_of rfl) (Nat.le_of_ble_eq_true rfl) rfl ?_
    refine dk_goto (t := 4) C dX9_nextTurn_70 (by decide) ?_
    refine dk_sub (L0 := [some (dk_r G 4 60), some (.int x1), some (.int v7), none]) ⟨rfl, ⟨rfl, ⟨rfl, trivial⟩⟩⟩ ?_
    exact hB x1 v7 s h
  · have h := h.2 c13
    refine dk_iload_n (i := 1) C dX9_nextTurn_41 (n := 42) rfl rfl rfl ?_
    refine dk_iconst (v := (-1)) C dX9_nextTurn_42 (n := 43) rfl (by decide) ?_
    refine dk_icmp_eq (t := 61) C dX9_nextTurn_43 (n := 46) rfl (by decide) (fun c12 => ?_) (fun c12 => ?_)
    · have h := h.1 c12
      refine dk_iload_n (i := 2) C dX9_nextTurn_61 (n := 62) rfl rfl rfl ?_
      refine dk_goto (t := 66) C dX9_nextTurn_62 (by decide) ?_
      refine dk_istore_n (i := 1) (L' := [some (dk_r G 4 60), some (.int x2), some (.int x2), some (.int y0)]) C dX9_nextTurn_66 (n := 67) rfl rfl (dk_nc_of rfl) (Nat.le_of_ble_eq_true rfl) rfl ?_
      obtain ⟨v8, ev8⟩ : ∃ y : Int32, y = x2 + 1 := ⟨_, rfl⟩
      have h := h v8 ev8
      refine dk_iinc (i := 2) (v := v8) (L' := [some (dk_r G 4 60), some (.int x2), some (.int v8), some (.int y0)]) C dX9_nextTurn_67 (n := 70) rfl rfl (by rw [ev8]; rfl) (dk_nc_of rfl) (Nat.le_of_ble_eq_true rfl) rfl ?_
      refine dk_goto (t := 4) C dX9_nextTurn_70 (by decide) ?_
      refine dk_sub (L0 := [some (dk_r G 4 60), some (.int x2), some (.int v8), none]) ⟨rfl, ⟨rfl, ⟨rfl, trivial⟩⟩⟩ ?_
      exact hB x2 v8 s h
    · have h := h.2 c12
      refine dk_aload_n (i := 0) C dX9_nextTurn_46 (n := 47) rfl rfl rfl ?_
      refine gf_X9_71 C (hmi 60 (by decide) (by decide)) dX9_nextTurn_47 (n := 50) rfl ?_
      refine dk_iload_n (i := 2) C dX9_nextTurn_50 (n := 51) rfl rfl rfl ?_
      refine dk_iald C dk_sh78 h.1 (hmi 78 (by decide) (by decide)) dX9_nextTurn_51 (n := 52) rfl ?_
      have h := h.2
      refine dk_aload_n (i := 0) C dX9_nextTurn_52 (n := 53) rfl rfl rfl ?_
      refine gf_X9_71 C (hmi 60 (by decide) (by decide)) dX9_nextTurn_53 (n := 56) rfl ?_
      refine dk_iload_n (i := 1) C dX9_nextTurn_56 (n := 57) rfl rfl rfl ?_
      refine dk_iald C dk_sh78 h.1 (hmi 78 (by decide) (by decide)) dX9_nextTurn_57 (n := 58) rfl ?_
      have h := h.2
      refine dk_icmp_le (t := 65) C dX9_nextTurn_58 (n := 61) rfl (by decide) (fun c11 => ?_) (fun c11 => ?_)
      · have h := h.1 c11
        refine dk_iload_n (i := 1) C dX9_nextTurn_65 (n := 66) rfl rfl rfl ?_
        refine dk_istore_n (i := 1) (L' := [some (dk_r G 4 60), some (.int x1), some (.int x2), some (.int y0)]) C dX9_nextTurn_66 (n := 67) rfl rfl (dk_nc_of rfl) (Nat.le_of_ble_eq_true rfl) rfl ?_
        obtain ⟨v9, ev9⟩ : ∃ y : Int32, y = x2 + 1 := ⟨_, rfl⟩
        have h := h v9 ev9
        refine dk_iinc (i := 2) (v := v9) (L' := [some (dk_r G 4 60), some (.int x1), some (.int v9), some (.int y0)]) C dX9_nextTurn_67 (n := 70) rfl rfl (by rw [ev9]; rfl) (dk_nc_of rfl) (Nat.le_of_ble_eq_true rfl) rfl ?_
        refine dk_goto (t := 4) C dX9_nextTurn_70 (by decide) ?_
        refine dk_sub (L0 := [some (dk_r G 4 60), some (.int x1), some (.int v9), none]) ⟨rfl, ⟨rfl, ⟨rfl, trivial⟩⟩⟩ ?_
        exact hB x1 v9 s h
      · have h := h.2 c11
        refine dk_iload_n (i := 2) C dX9_nextTurn_61 (n := 62) rfl rfl rfl ?_
        refine dk_goto (t := 66) C dX9_nextTurn_62 (by decide) ?_
        refine dk_istore_n (i := 1) (L' := [some (dk_r G 4 60), some (.int x2), some (.int x2), some (.int y0)]) C dX9_nextTurn_66 (n := 67) rfl rfl (dk_nc_of rfl) (Nat.le_of_ble_eq_true rfl) rfl ?_
        obtain ⟨v10, ev10⟩ : ∃ y : Int32, y = x2 + 1 := ⟨_, rfl⟩
        have h := h v10 ev10
        refine dk_iinc (i := 2) (v := v10) (L' := [some (dk_r G 4 60), some (.int x2), some (.int v10), some (.int y0)]) C dX9_nextTurn_67 (n := 70) rfl rfl (by rw [ev10]; rfl) (dk_nc_of rfl) (Nat.le_of_ble_eq_true rfl) rfl ?_
        refine dk_goto (t := 4) C dX9_nextTurn_70 (by decide) ?_
        refine dk_sub (L0 := [some (dk_r G 4 60), some (.int x2), some (.int v10), none]) ⟨rfl, ⟨rfl, ⟨rfl, trivial⟩⟩⟩ ?_
        exact hB x2 v10 s h
set_option maxRecDepth 20000 in
set_option maxHeartbeats 4000000 in
theorem ww_X9_nextTurn_4 {G : dk_G} {P : Program} {l : Launch} {e : Env} {S0 : State} {m : MethodId} {args : Array Value} {bel : List Frame} {meth : Method} {c : Code}  (C : dk_C G P (dk_rm 2) S0 m args c 0 0 cX9_nextTurn 4 RX9) (hr : meth.sig.returnType = (some .int)) (hlk : meth.locks = false) (hmi : dk_MI G) {K : Int32 → dk_S → Prop}  : ∀ (n : Nat) (x1 : Int32) (x2 : Int32) (s : dk_S), wf_X9_nextTurn_4 K n x1 x2 s → dk_W G P l e (dk_rm 2) S0 m args bel meth c 0 0 (MQ bel (dk_Qc G (dk_ki K)) args S0 0 0 (dk_A G)) 4 [some (dk_r G 4 60), some (.int x1), some (.int x2), none] [] s := by
  intro n
  induction n with
  | zero => intro x1 x2 s h; exact False.elim h
  | succ n hB =>
    intro x1 x2 s h
    unfold wf_X9_nextTurn_4 at h
    refine dk_iload_n (i := 2) C dX9_nextTurn_4 (n := 5) rfl rfl rfl ?_
    refine dk_aload_n (i := 0) C dX9_nextTurn_5 (n := 6) rfl rfl rfl ?_
    refine gf_X9_34 C (hmi 60 (by decide) (by decide)) dX9_nextTurn_6 (n := 9) rfl ?_
    refine dk_icmp_ge (t := 73) C dX9_nextTurn_9 (n := 12) rfl (by decide) (fun c6 => ?_) (fun c6 => ?_)
    · have h := h.1 c6
      refine dk_iload_n (i := 1) C dX9_nextTurn_73 (n := 74) rfl rfl rfl ?_
      exact dk_iret C hr hlk rfl dX9_nextTurn_74 ⟨_, rfl, h⟩
    · have h := h.2 c6
      refine dk_aload_n (i := 0) C dX9_nextTurn_12 (n := 13) rfl rfl rfl ?_
      refine dk_iload_n (i := 2) C dX9_nextTurn_13 (n := 14) rfl rfl rfl ?_
      refine dk_callVi C [] (cc_X9_lives C.D hmi h) yy_X9_lives dk_wm_X9_200 dk_sh60 (hmi 60 (by decide) (by decide)) dX9_nextTurn_14 (fun r3 s2 h => ?_) rfl rfl ⟨Nat.le_of_ble_eq_true rfl, Nat.le_of_ble_eq_true rfl⟩ rfl (Nat.le_of_ble_eq_true rfl) rfl (n := 17) rfl
      refine dk_if_eq (t := 35) C dX9_nextTurn_17 (n := 20) rfl (by decide) (fun c5 => ?_) (fun c5 => ?_)
      · have h := h.1 c5
        refine dk_iconst (v := 0) C dX9_nextTurn_35 (n := 36) rfl (by decide) ?_
        refine dk_sub (L0 := [some (dk_r G 4 60), some (.int x1), some (.int x2), none]) ⟨rfl, ⟨rfl, ⟨rfl, trivial⟩⟩⟩ ?_
        exact ww_X9_nextTurn_36 C hr hlk hmi hB x1 x2 0 s2 h
      · have h := h.2 c5
        refine dk_aload_n (i := 0) C dX9_nextTurn_20 (n := 21) rfl rfl rfl ?_
        refine gf_X9_71 C (hmi 60 (by decide) (by decide)) dX9_nextTurn_21 (n := 24) rfl ?_
        refine dk_iload_n (i := 2) C dX9_nextTurn_24 (n := 25) rfl rfl rfl ?_
        refine dk_iald C dk_sh78 h.1 (hmi 78 (by decide) (by decide)) dX9_nextTurn_25 (n := 26) rfl ?_
        have h := h.2
        refine dk_bipush (v := 12) C dX9_nextTurn_26 (n := 28) rfl (by decide) ?_
        refine dk_icmp_lt (t := 35) C dX9_nextTurn_28 (n := 31) rfl (by decide) (fun c4 => ?_) (fun c4 => ?_)
        · have h := h.1 c4
          refine dk_iconst (v := 0) C dX9_nextTurn_35 (n := 36) rfl (by decide) ?_
          refine dk_sub (L0 := [some (dk_r G 4 60), some (.int x1), some (.int x2), none]) ⟨rfl, ⟨rfl, ⟨rfl, trivial⟩⟩⟩ ?_
          exact ww_X9_nextTurn_36 C hr hlk hmi hB x1 x2 0 s2 h
        · have h := h.2 c4
          refine dk_iconst (v := 1) C dX9_nextTurn_31 (n := 32) rfl (by decide) ?_
          refine dk_goto (t := 36) C dX9_nextTurn_32 (by decide) ?_
          refine dk_sub (L0 := [some (dk_r G 4 60), some (.int x1), some (.int x2), none]) ⟨rfl, ⟨rfl, ⟨rfl, trivial⟩⟩⟩ ?_
          exact ww_X9_nextTurn_36 C hr hlk hmi hB x1 x2 1 s2 h
set_option maxRecDepth 20000 in
set_option maxHeartbeats 4000000 in
theorem cc_X9_nextTurn {G : dk_G} {l : Launch}  (hD : dk_D G) (hmi : dk_MI G) {s : dk_S} {K : Int32 → dk_S → Prop} (h : wf_X9_nextTurn s K) : dk_M G l 2 yX9_nextTurn cX9_nextTurn 4 (some .int) [dk_r G 4 60] s (dk_ki K) := by
  refine dk_of hD (by decide) [some (dk_r G 4 60), none, none, none] (fun q hq => hq) rfl (Nat.le_of_ble_eq_true rfl) (fun P e S0 m args bel meth c C hr hlk => ?_)
  unfold wf_X9_nextTurn at h
  refine dk_iconst (v := (-1)) C dX9_nextTurn_0 (n := 1) rfl (by decide) ?_
  refine dk_istore_n (i := 1) (L' := [some (dk_r G 4 60), some (.int (-1)), none, none]) C dX9_nextTurn_1 (n := 2) rfl rfl (dk_nc_of rfl) (Nat.le_of_ble_eq_true rfl) rfl ?_
  refine dk_iconst (v := 0) C dX9_nextTurn_2 (n := 3) rfl (by decide) ?_
  refine dk_istore_n (i := 2) (L' := [some (dk_r G 4 60), some (.int (-1)), some (.int 0), none]) C dX9_nextTurn_3 (n := 4) rfl rfl (dk_nc_of rfl) (Nat.le_of_ble_eq_true rfl) rfl ?_
  obtain ⟨nn1, h⟩ := h
  refine dk_sub (L0 := [some (dk_r G 4 60), some (.int (-1)), some (.int 0), none]) ⟨rfl, ⟨rfl, ⟨rfl, trivial⟩⟩⟩ ?_
  refine ww_X9_nextTurn_4 C hr hlk hmi  nn1 (-1) 0 s h
/-! X9_ticks -/
set_option maxRecDepth 20000 in
set_option maxHeartbeats 4000000 in
theorem ww_X9_ticks_54 {G : dk_G} {P : Program} {l : Launch} {e : Env} {S0 : State} {m : MethodId} {args : Array Value} {bel : List Frame} {meth : Method} {c : Code}  (C : dk_C G P (dk_rm 2) S0 m args c 0 0 cX9_ticks 2 RX9) (hr : meth.sig.returnType = none) (hlk : meth.locks = false) (hmi : dk_MI G) {K : dk_S → Prop} {E91 : dk_S → Prop} (hE91 : ∀ (s : dk_S), E91 s → dk_W G P l e (dk_rm 2) S0 m args bel meth c 0 0 (MQ bel (dk_Qc G (dk_kv K)) args S0 0 0 (dk_A G)) 91 [some (dk_r G 4 60), none] [] s) : ∀ (n : Nat) (x1 : Int32) (s : dk_S), wf_X9_ticks_54 K E91 n x1 s → dk_W G P l e (dk_rm 2) S0 m args bel meth c 0 0 (MQ bel (dk_Qc G (dk_kv K)) args S0 0 0 (dk_A G)) 54 [some (dk_r G 4 60), some (.int x1)] [] s := by
  intro n
  induction n with
  | zero => intro x1 s h; exact False.elim h
  | succ n hB =>
    intro x1 s h
    unfold wf_X9_ticks_54 at h
    refine dk_iload_n (i := 1) C dX9_ticks_54 (n := 55) rfl rfl rfl ?_
    refine dk_aload_n (i := 0) C dX9_ticks_55 (n := 56) rfl rfl rfl ?_
    refine gf_X9_34 C (hmi 60 (by decide) (by decide)) dX9_ticks_56 (n := 59) rfl ?_
    refine dk_icmp_ge (t := 91) C dX9_ticks_59 (n := 62) rfl (by decide) (fun c14 => ?_) (fun c14 => ?_)
    · have h := h.1 c14
      refine dk_sub (L0 := [some (dk_r G 4 60), none]) ⟨rfl, trivial⟩ ?_
      exact hE91  s h
    · have h := h.2 c14
      refine dk_aload_n (i := 0) C dX9_ticks_62 (n := 63) rfl rfl rfl ?_
      refine gf_X9_77 C (hmi 60 (by decide) (by decide)) dX9_ticks_63 (n := 66) rfl ?_
      refine dk_iload_n (i := 1) C dX9_ticks_66 (n := 67) rfl rfl rfl ?_
      refine dk_dup2 C dX9_ticks_67 (n := 68) rfl rfl rfl ?_
      refine dk_iald C dk_sh80 h.1 (hmi 80 (by decide) (by decide)) dX9_ticks_68 (n := 69) rfl ?_
      have h := h.2
      refine dk_aload_n (i := 0) C dX9_ticks_69 (n := 70) rfl rfl rfl ?_
      refine gf_X9_77 C (hmi 60 (by decide) (by decide)) dX9_ticks_70 (n := 73) rfl ?_
      refine dk_iload_n (i := 1) C dX9_ticks_73 (n := 74) rfl rfl rfl ?_
      refine dk_iald C dk_sh80 h.1 (hmi 80 (by decide) (by decide)) dX9_ticks_74 (n := 75) rfl ?_
      have h := h.2
      refine dk_if_le (t := 82) C dX9_ticks_75 (n := 78) rfl (by decide) (fun c13 => ?_) (fun c13 => ?_)
      · have h := h.1 c13
        refine dk_iconst (v := 0) C dX9_ticks_82 (n := 83) rfl (by decide) ?_
        refine dk_isub C dX9_ticks_83 (n := 84) rfl ?_
        refine dk_iast C dk_sh80 h.1 (hmi 80 (by decide) (by decide)) dX9_ticks_84 (n := 85) rfl ?_
        refine dk_nameS (fun s9 es9 => ?_)
        have h := h.2 s9 es9
        obtain ⟨v10, ev10⟩ : ∃ y : Int32, y = x1 + 1 := ⟨_, rfl⟩
        have h := h v10 ev10
        refine dk_iinc (i := 1) (v := v10) (L' := [some (dk_r G 4 60), some (.int v10)]) C dX9_ticks_85 (n := 88) rfl rfl (by rw [ev10]; rfl) (dk_nc_of rfl) (Nat.le_of_ble_eq_true rfl) rfl ?_
        refine dk_goto (t := 54) C dX9_ticks_88 (by decide) ?_
        refine dk_sub (L0 := [some (dk_r G 4 60), some (.int v10)]) ⟨rfl, ⟨rfl, trivial⟩⟩ ?_
        exact hB v10 s9 h
      · have h := h.2 c13
        refine dk_iconst (v := 1) C dX9_ticks_78 (n := 79) rfl (by decide) ?_
        refine dk_goto (t := 83) C dX9_ticks_79 (by decide) ?_
        refine dk_isub C dX9_ticks_83 (n := 84) rfl ?_
        refine dk_iast C dk_sh80 h.1 (hmi 80 (by decide) (by decide)) dX9_ticks_84 (n := 85) rfl ?_
        refine dk_nameS (fun s11 es11 => ?_)
        have h := h.2 s11 es11
        obtain ⟨v12, ev12⟩ : ∃ y : Int32, y = x1 + 1 := ⟨_, rfl⟩
        have h := h v12 ev12
        refine dk_iinc (i := 1) (v := v12) (L' := [some (dk_r G 4 60), some (.int v12)]) C dX9_ticks_85 (n := 88) rfl rfl (by rw [ev12]; rfl) (dk_nc_of rfl) (Nat.le_of_ble_eq_true rfl) rfl ?_
        refine dk_goto (t := 54) C dX9_ticks_88 (by decide) ?_
        refine dk_sub (L0 := [some (dk_r G 4 60), some (.int v12)]) ⟨rfl, ⟨rfl, trivial⟩⟩ ?_
        exact hB v12 s11 h
set_option maxRecDepth 20000 in
set_option maxHeartbeats 4000000 in
theorem ww_X9_ticks_12 {G : dk_G} {P : Program} {l : Launch} {e : Env} {S0 : State} {m : MethodId} {args : Array Value} {bel : List Frame} {meth : Method} {c : Code}  (C : dk_C G P (dk_rm 2) S0 m args c 0 0 cX9_ticks 2 RX9) (hr : meth.sig.returnType = none) (hlk : meth.locks = false) (hmi : dk_MI G) {K : dk_S → Prop} {E52 : dk_S → Prop} (hE52 : ∀ (s : dk_S), E52 s → dk_W G P l e (dk_rm 2) S0 m args bel meth c 0 0 (MQ bel (dk_Qc G (dk_kv K)) args S0 0 0 (dk_A G)) 52 [some (dk_r G 4 60), none] [] s) : ∀ (n : Nat) (x1 : Int32) (s : dk_S), wf_X9_ticks_12 K E52 n x1 s → dk_W G P l e (dk_rm 2) S0 m args bel meth c 0 0 (MQ bel (dk_Qc G (dk_kv K)) args S0 0 0 (dk_A G)) 12 [some (dk_r G 4 60), some (.int x1)] [] s := by
  intro n
  induction n with
  | zero => intro x1 s h; exact False.elim h
  | succ n hB =>
    intro x1 s h
    unfold wf_X9_ticks_12 at h
    refine dk_iload_n (i := 1) C dX9_ticks_12 (n := 13) rfl rfl rfl ?_
    refine dk_aload_n (i := 0) C dX9_ticks_13 (n := 14) rfl rfl rfl ?_
    refine gf_X9_34 C (hmi 60 (by decide) (by decide)) dX9_ticks_14 (n := 17) rfl ?_
    refine dk_icmp_ge (t := 52) C dX9_ticks_17 (n := 20) rfl (by decide) (fun c24 => ?_) (fun c24 => ?_)
    · have h := h.1 c24
      refine dk_sub (L0 := [some (dk_r G 4 60), none]) ⟨rfl, trivial⟩ ?_
      exact hE52  s h
    · have h := h.2 c24
      refine dk_aload_n (i := 0) C dX9_ticks_20 (n := 21) rfl rfl rfl ?_
      refine gf_X9_71 C (hmi 60 (by decide) (by decide)) dX9_ticks_21 (n := 24) rfl ?_
      refine dk_iload_n (i := 1) C dX9_ticks_24 (n := 25) rfl rfl rfl ?_
      refine dk_dup2 C dX9_ticks_25 (n := 26) rfl rfl rfl ?_
      refine dk_iald C dk_sh78 h.1 (hmi 78 (by decide) (by decide)) dX9_ticks_26 (n := 27) rfl ?_
      have h := h.2
      refine dk_aload_n (i := 0) C dX9_ticks_27 (n := 28) rfl rfl rfl ?_
      refine dk_iload_n (i := 1) C dX9_ticks_28 (n := 29) rfl rfl rfl ?_
      refine dk_callVi C [.int (s 4 78 x1.toNatClampNeg), .int x1, dk_r G 4 78] (cc_X9_lives C.D hmi h) yy_X9_lives dk_wm_X9_200 dk_sh60 (hmi 60 (by decide) (by decide)) dX9_ticks_29 (fun r16 s15 h => ?_) rfl rfl ⟨Nat.le_of_ble_eq_true rfl, Nat.le_of_ble_eq_true rfl⟩ rfl (Nat.le_of_ble_eq_true rfl) rfl (n := 32) rfl
      refine dk_if_eq (t := 43) C dX9_ticks_32 (n := 35) rfl (by decide) (fun c23 => ?_) (fun c23 => ?_)
      · have h := h.1 c23
        refine dk_iconst (v := 0) C dX9_ticks_43 (n := 44) rfl (by decide) ?_
        refine dk_iadd C dX9_ticks_44 (n := 45) rfl ?_
        refine dk_iast C dk_sh78 h.1 (hmi 78 (by decide) (by decide)) dX9_ticks_45 (n := 46) rfl ?_
        refine dk_nameS (fun s17 es17 => ?_)
        have h := h.2 s17 es17
        obtain ⟨v18, ev18⟩ : ∃ y : Int32, y = x1 + 1 := ⟨_, rfl⟩
        have h := h v18 ev18
        refine dk_iinc (i := 1) (v := v18) (L' := [some (dk_r G 4 60), some (.int v18)]) C dX9_ticks_46 (n := 49) rfl rfl (by rw [ev18]; rfl) (dk_nc_of rfl) (Nat.le_of_ble_eq_true rfl) rfl ?_
        refine dk_goto (t := 12) C dX9_ticks_49 (by decide) ?_
        refine dk_sub (L0 := [some (dk_r G 4 60), some (.int v18)]) ⟨rfl, ⟨rfl, trivial⟩⟩ ?_
        exact hB v18 s17 h
      · have h := h.2 c23
        refine dk_aload_n (i := 0) C dX9_ticks_35 (n := 36) rfl rfl rfl ?_
        refine dk_iload_n (i := 1) C dX9_ticks_36 (n := 37) rfl rfl rfl ?_
        refine dk_callVi C [.int (s 4 78 x1.toNatClampNeg), .int x1, dk_r G 4 78] (cc_X9_speedOf C.D hmi h) yy_X9_speedOf dk_wm_X9_209 dk_sh60 (hmi 60 (by decide) (by decide)) dX9_ticks_37 (fun r20 s19 h => ?_) rfl rfl ⟨Nat.le_of_ble_eq_true rfl, Nat.le_of_ble_eq_true rfl⟩ rfl (Nat.le_of_ble_eq_true rfl) rfl (n := 40) rfl
        refine dk_goto (t := 44) C dX9_ticks_40 (by decide) ?_
        refine dk_iadd C dX9_ticks_44 (n := 45) rfl ?_
        refine dk_iast C dk_sh78 h.1 (hmi 78 (by decide) (by decide)) dX9_ticks_45 (n := 46) rfl ?_
        refine dk_nameS (fun s21 es21 => ?_)
        have h := h.2 s21 es21
        obtain ⟨v22, ev22⟩ : ∃ y : Int32, y = x1 + 1 := ⟨_, rfl⟩
        have h := h v22 ev22
        refine dk_iinc (i := 1) (v := v22) (L' := [some (dk_r G 4 60), some (.int v22)]) C dX9_ticks_46 (n := 49) rfl rfl (by rw [ev22]; rfl) (dk_nc_of rfl) (Nat.le_of_ble_eq_true rfl) rfl ?_
        refine dk_goto (t := 12) C dX9_ticks_49 (by decide) ?_
        refine dk_sub (L0 := [some (dk_r G 4 60), some (.int v22)]) ⟨rfl, ⟨rfl, trivial⟩⟩ ?_
        exact hB v22 s21 h
set_option maxRecDepth 20000 in
set_option maxHeartbeats 4000000 in
theorem cc_X9_ticks {G : dk_G} {l : Launch}  (hD : dk_D G) (hmi : dk_MI G) {s : dk_S} {K : dk_S → Prop} (h : wf_X9_ticks s K) : dk_M G l 2 yX9_ticks cX9_ticks 2 none [dk_r G 4 60] s (dk_kv K) := by
  refine dk_of hD (by decide) [some (dk_r G 4 60), none] (fun q hq => hq) rfl (Nat.le_of_ble_eq_true rfl) (fun P e S0 m args bel meth c C hr hlk => ?_)
  unfold wf_X9_ticks at h
  refine dk_aload_n (i := 0) C dX9_ticks_0 (n := 1) rfl rfl rfl ?_
  refine dk_dup C dX9_ticks_1 (n := 2) rfl rfl ?_
  refine gf_X9_133 C (hmi 60 (by decide) (by decide)) dX9_ticks_2 (n := 5) rfl ?_
  refine dk_iconst (v := 1) C dX9_ticks_5 (n := 6) rfl (by decide) ?_
  refine dk_iadd C dX9_ticks_6 (n := 7) rfl ?_
  refine pf_X9_133 C rfl rfl (hmi 60 (by decide) (by decide)) dX9_ticks_7 (n := 10) rfl ?_
  refine dk_nameS (fun s1 es1 => ?_)
  have h := h s1 es1
  refine dk_iconst (v := 0) C dX9_ticks_10 (n := 11) rfl (by decide) ?_
  refine dk_istore_n (i := 1) (L' := [some (dk_r G 4 60), some (.int 0)]) C dX9_ticks_11 (n := 12) rfl rfl (dk_nc_of rfl) (Nat.le_of_ble_eq_true rfl) rfl ?_
  obtain ⟨nn8, h⟩ := h
  refine dk_sub (L0 := [some (dk_r G 4 60), some (.int 0)]) ⟨rfl, ⟨rfl, trivial⟩⟩ ?_
  refine ww_X9_ticks_12 C hr hlk hmi (fun s2 h => ?_) nn8 0 s1 h
  · refine dk_iconst (v := 0) C dX9_ticks_52 (n := 53) rfl (by decide) ?_
    refine dk_istore_n (i := 1) (L' := [some (dk_r G 4 60), some (.int 0)]) C dX9_ticks_53 (n := 54) rfl rfl (dk_nc_of rfl) (Nat.le_of_ble_eq_true rfl) rfl ?_
    obtain ⟨nn7, h⟩ := h
    refine dk_sub (L0 := [some (dk_r G 4 60), some (.int 0)]) ⟨rfl, ⟨rfl, trivial⟩⟩ ?_
    refine ww_X9_ticks_54 C hr hlk hmi (fun s3 h => ?_) nn7 0 s2 h
    · refine dk_aload_n (i := 0) C dX9_ticks_91 (n := 92) rfl rfl rfl ?_
      refine dk_dup C dX9_ticks_92 (n := 93) rfl rfl ?_
      refine gf_X9_136 C (hmi 60 (by decide) (by decide)) dX9_ticks_93 (n := 96) rfl ?_
      refine dk_aload_n (i := 0) C dX9_ticks_96 (n := 97) rfl rfl rfl ?_
      refine gf_X9_136 C (hmi 60 (by decide) (by decide)) dX9_ticks_97 (n := 100) rfl ?_
      refine dk_if_le (t := 107) C dX9_ticks_100 (n := 103) rfl (by decide) (fun c6 => ?_) (fun c6 => ?_)
      · have h := h.1 c6
        refine dk_iconst (v := 0) C dX9_ticks_107 (n := 108) rfl (by decide) ?_
        refine dk_isub C dX9_ticks_108 (n := 109) rfl ?_
        refine pf_X9_136 C rfl rfl (hmi 60 (by decide) (by decide)) dX9_ticks_109 (n := 112) rfl ?_
        refine dk_nameS (fun s4 es4 => ?_)
        have h := h s4 es4
        exact dk_vret C hr hlk dX9_ticks_112 ⟨rfl, h⟩
      · have h := h.2 c6
        refine dk_iconst (v := 1) C dX9_ticks_103 (n := 104) rfl (by decide) ?_
        refine dk_goto (t := 108) C dX9_ticks_104 (by decide) ?_
        refine dk_isub C dX9_ticks_108 (n := 109) rfl ?_
        refine pf_X9_136 C rfl rfl (hmi 60 (by decide) (by decide)) dX9_ticks_109 (n := 112) rfl ?_
        refine dk_nameS (fun s5 es5 => ?_)
        have h := h s5 es5
        exact dk_vret C hr hlk dX9_ticks_112 ⟨rfl, h⟩
/-! X9_isBeside -/
set_option maxRecDepth 20000 in
set_option maxHeartbeats 4000000 in
theorem cc_X9_isBeside {G : dk_G} {l : Launch} {a1 : Int32} {a2 : Int32} (hD : dk_D G) (hmi : dk_MI G) {s : dk_S} {K : Int32 → dk_S → Prop} (h : wf_X9_isBeside a1 a2 s K) : dk_M G l 2 yX9_isBeside cX9_isBeside 3 (some .boolean) [dk_r G 4 60, .int a1, .int a2] s (dk_ki K) := by
  refine dk_of hD (by decide) [some (dk_r G 4 60), some (.int a1), some (.int a2)] (fun q hq => hq) rfl (Nat.le_of_ble_eq_true rfl) (fun P e S0 m args bel meth c C hr hlk => ?_)
  unfold wf_X9_isBeside at h
  refine dk_iload_n (i := 1) C dX9_isBeside_0 (n := 1) rfl rfl rfl ?_
  refine dk_callSi C [] (cc_X9_xOf C.D  h) yy_X9_xOf dk_wm_X9_114 dX9_isBeside_1 (fun r2 s1 h => ?_) rfl ⟨Nat.le_of_ble_eq_true rfl, Nat.le_of_ble_eq_true rfl⟩ rfl (Nat.le_of_ble_eq_true rfl) rfl (n := 4) rfl
  refine dk_iload_n (i := 2) C dX9_isBeside_4 (n := 5) rfl rfl rfl ?_
  refine dk_callSi C [.int r2] (cc_X9_xOf C.D  h) yy_X9_xOf dk_wm_X9_114 dX9_isBeside_5 (fun r4 s3 h => ?_) rfl ⟨Nat.le_of_ble_eq_true rfl, Nat.le_of_ble_eq_true rfl⟩ rfl (Nat.le_of_ble_eq_true rfl) rfl (n := 8) rfl
  refine dk_isub C dX9_isBeside_8 (n := 9) rfl ?_
  refine dk_callSi C [] (cc_X9_far C.D  h) yy_X9_far dk_wm_X9_171 dX9_isBeside_9 (fun r6 s5 h => ?_) rfl ⟨Nat.le_of_ble_eq_true rfl, Nat.le_of_ble_eq_true rfl⟩ rfl (Nat.le_of_ble_eq_true rfl) rfl (n := 12) rfl
  refine dk_iload_n (i := 1) C dX9_isBeside_12 (n := 13) rfl rfl rfl ?_
  refine dk_callSi C [.int r6] (cc_X9_yOf C.D  h) yy_X9_yOf dk_wm_X9_118 dX9_isBeside_13 (fun r8 s7 h => ?_) rfl ⟨Nat.le_of_ble_eq_true rfl, Nat.le_of_ble_eq_true rfl⟩ rfl (Nat.le_of_ble_eq_true rfl) rfl (n := 16) rfl
  refine dk_iload_n (i := 2) C dX9_isBeside_16 (n := 17) rfl rfl rfl ?_
  refine dk_callSi C [.int r8, .int r6] (cc_X9_yOf C.D  h) yy_X9_yOf dk_wm_X9_118 dX9_isBeside_17 (fun r10 s9 h => ?_) rfl ⟨Nat.le_of_ble_eq_true rfl, Nat.le_of_ble_eq_true rfl⟩ rfl (Nat.le_of_ble_eq_true rfl) rfl (n := 20) rfl
  refine dk_isub C dX9_isBeside_20 (n := 21) rfl ?_
  refine dk_callSi C [.int r6] (cc_X9_far C.D  h) yy_X9_far dk_wm_X9_171 dX9_isBeside_21 (fun r12 s11 h => ?_) rfl ⟨Nat.le_of_ble_eq_true rfl, Nat.le_of_ble_eq_true rfl⟩ rfl (Nat.le_of_ble_eq_true rfl) rfl (n := 24) rfl
  refine dk_iadd C dX9_isBeside_24 (n := 25) rfl ?_
  refine dk_iconst (v := 1) C dX9_isBeside_25 (n := 26) rfl (by decide) ?_
  refine dk_icmp_ne (t := 33) C dX9_isBeside_26 (n := 29) rfl (by decide) (fun c13 => ?_) (fun c13 => ?_)
  · have h := h.1 c13
    refine dk_iconst (v := 0) C dX9_isBeside_33 (n := 34) rfl (by decide) ?_
    exact dk_iret C hr hlk dk_nz0 dX9_isBeside_34 ⟨_, rfl, h⟩
  · have h := h.2 c13
    refine dk_iconst (v := 1) C dX9_isBeside_29 (n := 30) rfl (by decide) ?_
    refine dk_goto (t := 34) C dX9_isBeside_30 (by decide) ?_
    exact dk_iret C hr hlk dk_nz1 dX9_isBeside_34 ⟨_, rfl, h⟩
/-! X9_livingAt -/
set_option maxRecDepth 20000 in
set_option maxHeartbeats 4000000 in
theorem ww_X9_livingAt_4 {G : dk_G} {P : Program} {l : Launch} {e : Env} {S0 : State} {m : MethodId} {args : Array Value} {bel : List Frame} {meth : Method} {c : Code}  (C : dk_C G P (dk_rm 2) S0 m args c 0 0 cX9_livingAt 4 RX9) (hr : meth.sig.returnType = (some .int)) (hlk : meth.locks = false) (hmi : dk_MI G) {K : Int32 → dk_S → Prop}  : ∀ (n : Nat) (x1 : Int32) (x2 : Int32) (x3 : Int32) (s : dk_S), wf_X9_livingAt_4 K n x1 x2 x3 s → dk_W G P l e (dk_rm 2) S0 m args bel meth c 0 0 (MQ bel (dk_Qc G (dk_ki K)) args S0 0 0 (dk_A G)) 4 [some (dk_r G 4 60), some (.int x1), some (.int x2), some (.int x3)] [] s := by
  intro n
  induction n with
  | zero => intro x1 x2 x3 s h; exact False.elim h
  | succ n hB =>
    intro x1 x2 x3 s h
    unfold wf_X9_livingAt_4 at h
    refine dk_iload_n (i := 3) C dX9_livingAt_4 (n := 5) rfl rfl rfl ?_
    refine dk_aload_n (i := 0) C dX9_livingAt_5 (n := 6) rfl rfl rfl ?_
    refine gf_X9_34 C (hmi 60 (by decide) (by decide)) dX9_livingAt_6 (n := 9) rfl ?_
    refine dk_icmp_ge (t := 42) C dX9_livingAt_9 (n := 12) rfl (by decide) (fun c9 => ?_) (fun c9 => ?_)
    · have h := h.1 c9
      refine dk_iload_n (i := 2) C dX9_livingAt_42 (n := 43) rfl rfl rfl ?_
      exact dk_iret C hr hlk rfl dX9_livingAt_43 ⟨_, rfl, h⟩
    · have h := h.2 c9
      refine dk_aload_n (i := 0) C dX9_livingAt_12 (n := 13) rfl rfl rfl ?_
      refine dk_iload_n (i := 3) C dX9_livingAt_13 (n := 14) rfl rfl rfl ?_
      refine dk_callVi C [] (cc_X9_lives C.D hmi h) yy_X9_lives dk_wm_X9_200 dk_sh60 (hmi 60 (by decide) (by decide)) dX9_livingAt_14 (fun r3 s2 h => ?_) rfl rfl ⟨Nat.le_of_ble_eq_true rfl, Nat.le_of_ble_eq_true rfl⟩ rfl (Nat.le_of_ble_eq_true rfl) rfl (n := 17) rfl
      refine dk_if_eq (t := 34) C dX9_livingAt_17 (n := 20) rfl (by decide) (fun c8 => ?_) (fun c8 => ?_)
      · have h := h.1 c8
        refine dk_iload_n (i := 2) C dX9_livingAt_34 (n := 35) rfl rfl rfl ?_
        refine dk_istore_n (i := 2) (L' := [some (dk_r G 4 60), some (.int x1), some (.int x2), some (.int x3)]) C dX9_livingAt_35 (n := 36) rfl rfl (dk_nc_of rfl) (Nat.le_of_ble_eq_true rfl) rfl ?_
        obtain ⟨v4, ev4⟩ : ∃ y : Int32, y = x3 + 1 := ⟨_, rfl⟩
        have h := h v4 ev4
        refine dk_iinc (i := 3) (v := v4) (L' := [some (dk_r G 4 60), some (.int x1), some (.int x2), some (.int v4)]) C dX9_livingAt_36 (n := 39) rfl rfl (by rw [ev4]; rfl) (dk_nc_of rfl) (Nat.le_of_ble_eq_true rfl) rfl ?_
        refine dk_goto (t := 4) C dX9_livingAt_39 (by decide) ?_
        refine dk_sub (L0 := [some (dk_r G 4 60), some (.int x1), some (.int x2), some (.int v4)]) ⟨rfl, ⟨rfl, ⟨rfl, ⟨rfl, trivial⟩⟩⟩⟩ ?_
        exact hB x1 x2 v4 s2 h
      · have h := h.2 c8
        refine dk_aload_n (i := 0) C dX9_livingAt_20 (n := 21) rfl rfl rfl ?_
        refine gf_X9_65 C (hmi 60 (by decide) (by decide)) dX9_livingAt_21 (n := 24) rfl ?_
        refine dk_iload_n (i := 3) C dX9_livingAt_24 (n := 25) rfl rfl rfl ?_
        refine dk_iald C dk_sh76 h.1 (hmi 76 (by decide) (by decide)) dX9_livingAt_25 (n := 26) rfl ?_
        have h := h.2
        refine dk_iload_n (i := 1) C dX9_livingAt_26 (n := 27) rfl rfl rfl ?_
        refine dk_icmp_ne (t := 34) C dX9_livingAt_27 (n := 30) rfl (by decide) (fun c7 => ?_) (fun c7 => ?_)
        · have h := h.1 c7
          refine dk_iload_n (i := 2) C dX9_livingAt_34 (n := 35) rfl rfl rfl ?_
          refine dk_istore_n (i := 2) (L' := [some (dk_r G 4 60), some (.int x1), some (.int x2), some (.int x3)]) C dX9_livingAt_35 (n := 36) rfl rfl (dk_nc_of rfl) (Nat.le_of_ble_eq_true rfl) rfl ?_
          obtain ⟨v5, ev5⟩ : ∃ y : Int32, y = x3 + 1 := ⟨_, rfl⟩
          have h := h v5 ev5
          refine dk_iinc (i := 3) (v := v5) (L' := [some (dk_r G 4 60), some (.int x1), some (.int x2), some (.int v5)]) C dX9_livingAt_36 (n := 39) rfl rfl (by rw [ev5]; rfl) (dk_nc_of rfl) (Nat.le_of_ble_eq_true rfl) rfl ?_
          refine dk_goto (t := 4) C dX9_livingAt_39 (by decide) ?_
          refine dk_sub (L0 := [some (dk_r G 4 60), some (.int x1), some (.int x2), some (.int v5)]) ⟨rfl, ⟨rfl, ⟨rfl, ⟨rfl, trivial⟩⟩⟩⟩ ?_
          exact hB x1 x2 v5 s2 h
        · have h := h.2 c7
          refine dk_iload_n (i := 3) C dX9_livingAt_30 (n := 31) rfl rfl rfl ?_
          refine dk_goto (t := 35) C dX9_livingAt_31 (by decide) ?_
          refine dk_istore_n (i := 2) (L' := [some (dk_r G 4 60), some (.int x1), some (.int x3), some (.int x3)]) C dX9_livingAt_35 (n := 36) rfl rfl (dk_nc_of rfl) (Nat.le_of_ble_eq_true rfl) rfl ?_
          obtain ⟨v6, ev6⟩ : ∃ y : Int32, y = x3 + 1 := ⟨_, rfl⟩
          have h := h v6 ev6
          refine dk_iinc (i := 3) (v := v6) (L' := [some (dk_r G 4 60), some (.int x1), some (.int x3), some (.int v6)]) C dX9_livingAt_36 (n := 39) rfl rfl (by rw [ev6]; rfl) (dk_nc_of rfl) (Nat.le_of_ble_eq_true rfl) rfl ?_
          refine dk_goto (t := 4) C dX9_livingAt_39 (by decide) ?_
          refine dk_sub (L0 := [some (dk_r G 4 60), some (.int x1), some (.int x3), some (.int v6)]) ⟨rfl, ⟨rfl, ⟨rfl, ⟨rfl, trivial⟩⟩⟩⟩ ?_
          exact hB x1 x3 v6 s2 h
set_option maxRecDepth 20000 in
set_option maxHeartbeats 4000000 in
theorem cc_X9_livingAt {G : dk_G} {l : Launch} {a1 : Int32} (hD : dk_D G) (hmi : dk_MI G) {s : dk_S} {K : Int32 → dk_S → Prop} (h : wf_X9_livingAt a1 s K) : dk_M G l 2 yX9_livingAt cX9_livingAt 4 (some .int) [dk_r G 4 60, .int a1] s (dk_ki K) := by
  refine dk_of hD (by decide) [some (dk_r G 4 60), some (.int a1), none, none] (fun q hq => hq) rfl (Nat.le_of_ble_eq_true rfl) (fun P e S0 m args bel meth c C hr hlk => ?_)
  unfold wf_X9_livingAt at h
  refine dk_iconst (v := (-1)) C dX9_livingAt_0 (n := 1) rfl (by decide) ?_
  refine dk_istore_n (i := 2) (L' := [some (dk_r G 4 60), some (.int a1), some (.int (-1)), none]) C dX9_livingAt_1 (n := 2) rfl rfl (dk_nc_of rfl) (Nat.le_of_ble_eq_true rfl) rfl ?_
  refine dk_iconst (v := 0) C dX9_livingAt_2 (n := 3) rfl (by decide) ?_
  refine dk_istore_n (i := 3) (L' := [some (dk_r G 4 60), some (.int a1), some (.int (-1)), some (.int 0)]) C dX9_livingAt_3 (n := 4) rfl rfl (dk_nc_of rfl) (Nat.le_of_ble_eq_true rfl) rfl ?_
  obtain ⟨nn1, h⟩ := h
  refine dk_sub (L0 := [some (dk_r G 4 60), some (.int a1), some (.int (-1)), some (.int 0)]) ⟨rfl, ⟨rfl, ⟨rfl, ⟨rfl, trivial⟩⟩⟩⟩ ?_
  refine ww_X9_livingAt_4 C hr hlk hmi  nn1 a1 (-1) 0 s h
/-! X9_isOpenFor -/
set_option maxRecDepth 20000 in
set_option maxHeartbeats 4000000 in
theorem cc_X9_isOpenFor {G : dk_G} {l : Launch} {a1 : Int32} (hD : dk_D G) (hmi : dk_MI G) {s : dk_S} {K : Int32 → dk_S → Prop} (h : wf_X9_isOpenFor a1 s K) : dk_M G l 3 yX9_isOpenFor cX9_isOpenFor 2 (some .boolean) [dk_r G 4 60, .int a1] s (dk_ki K) := by
  refine dk_of hD (by decide) [some (dk_r G 4 60), some (.int a1)] (fun q hq => hq) rfl (Nat.le_of_ble_eq_true rfl) (fun P e S0 m args bel meth c C hr hlk => ?_)
  unfold wf_X9_isOpenFor at h
  refine dk_aload_n (i := 0) C dX9_isOpenFor_0 (n := 1) rfl rfl rfl ?_
  refine dk_iload_n (i := 1) C dX9_isOpenFor_1 (n := 2) rfl rfl rfl ?_
  refine dk_callVi C [] (cc_X9_isFree C.D hmi h) yy_X9_isFree dk_wm_X9_174 dk_sh60 (hmi 60 (by decide) (by decide)) dX9_isOpenFor_2 (fun r2 s1 h => ?_) rfl rfl ⟨Nat.le_of_ble_eq_true rfl, Nat.le_of_ble_eq_true rfl⟩ rfl (Nat.le_of_ble_eq_true rfl) rfl (n := 5) rfl
  refine dk_if_eq (t := 21) C dX9_isOpenFor_5 (n := 8) rfl (by decide) (fun c6 => ?_) (fun c6 => ?_)
  · have h := h.1 c6
    refine dk_iconst (v := 0) C dX9_isOpenFor_21 (n := 22) rfl (by decide) ?_
    exact dk_iret C hr hlk dk_nz0 dX9_isOpenFor_22 ⟨_, rfl, h⟩
  · have h := h.2 c6
    refine dk_aload_n (i := 0) C dX9_isOpenFor_8 (n := 9) rfl rfl rfl ?_
    refine dk_iload_n (i := 1) C dX9_isOpenFor_9 (n := 10) rfl rfl rfl ?_
    refine dk_callVi C [] (cc_X9_livingAt C.D hmi h) yy_X9_livingAt dk_wm_X9_229 dk_sh60 (hmi 60 (by decide) (by decide)) dX9_isOpenFor_10 (fun r4 s3 h => ?_) rfl rfl ⟨Nat.le_of_ble_eq_true rfl, Nat.le_of_ble_eq_true rfl⟩ rfl (Nat.le_of_ble_eq_true rfl) rfl (n := 13) rfl
    refine dk_iconst (v := (-1)) C dX9_isOpenFor_13 (n := 14) rfl (by decide) ?_
    refine dk_icmp_ne (t := 21) C dX9_isOpenFor_14 (n := 17) rfl (by decide) (fun c5 => ?_) (fun c5 => ?_)
    · have h := h.1 c5
      refine dk_iconst (v := 0) C dX9_isOpenFor_21 (n := 22) rfl (by decide) ?_
      exact dk_iret C hr hlk dk_nz0 dX9_isOpenFor_22 ⟨_, rfl, h⟩
    · have h := h.2 c5
      refine dk_iconst (v := 1) C dX9_isOpenFor_17 (n := 18) rfl (by decide) ?_
      refine dk_goto (t := 22) C dX9_isOpenFor_18 (by decide) ?_
      exact dk_iret C hr hlk dk_nz1 dX9_isOpenFor_22 ⟨_, rfl, h⟩
/-! X9_chosen -/
set_option maxRecDepth 20000 in
set_option maxHeartbeats 4000000 in
theorem ww_X9_chosen_142 {G : dk_G} {P : Program} {l : Launch} {e : Env} {S0 : State} {m : MethodId} {args : Array Value} {bel : List Frame} {meth : Method} {c : Code}  (C : dk_C G P (dk_rm 4) S0 m args c 0 0 cX9_chosen 8 RX9) (hr : meth.sig.returnType = (some .int)) (hlk : meth.locks = false) (hmi : dk_MI G) {K : Int32 → dk_S → Prop} {B : Int32 → Int32 → Int32 → Int32 → dk_S → Prop} (hB : ∀ (x1 : Int32) (x2 : Int32) (x3 : Int32) (x4 : Int32) (s : dk_S), B x1 x2 x3 x4 s → dk_W G P l e (dk_rm 4) S0 m args bel meth c 0 0 (MQ bel (dk_Qc G (dk_ki K)) args S0 0 0 (dk_A G)) 5 [some (dk_r G 4 60), some (.int x1), some (.int x2), some (.int x3), some (.int x4), none, none, none] [] s)  : ∀ (x1 : Int32) (x2 : Int32) (x3 : Int32) (x4 : Int32) (s : dk_S), wf_X9_chosen_142 K B x1 x2 x3 x4 s → dk_W G P l e (dk_rm 4) S0 m args bel meth c 0 0 (MQ bel (dk_Qc G (dk_ki K)) args S0 0 0 (dk_A G)) 142 [some (dk_r G 4 60), some (.int x1), some (.int x2), some (.int x3), some (.int x4), none, none, none] [] s := by
  intro x1 x2 x3 x4 s h
  unfold wf_X9_chosen_142 at h
  refine dk_iload_n (i := 3) C dX9_chosen_142 (n := 143) rfl rfl rfl ?_
  refine dk_istore_n (i := 3) (L' := [some (dk_r G 4 60), some (.int x1), some (.int x2), some (.int x3), some (.int x4), none, none, none]) C dX9_chosen_143 (n := 144) rfl rfl (dk_nc_of rfl) (Nat.le_of_ble_eq_true rfl) rfl ?_
  obtain ⟨v19, ev19⟩ : ∃ y : Int32, y = x4 + 1 := ⟨_, rfl⟩
  have h := h v19 ev19
  refine dk_iinc (i := 4) (v := v19) (L' := [some (dk_r G 4 60), some (.int x1), some (.int x2), some (.int x3), some (.int v19), none, none, none]) C dX9_chosen_144 (n := 147) rfl rfl (by rw [ev19]; rfl) (dk_nc_of rfl) (Nat.le_of_ble_eq_true rfl) rfl ?_
  refine dk_goto (t := 5) C dX9_chosen_147 (by decide) ?_
  refine dk_sub (L0 := [some (dk_r G 4 60), some (.int x1), some (.int x2), some (.int x3), some (.int v19), none, none, none]) ⟨rfl, ⟨rfl, ⟨rfl, ⟨rfl, ⟨rfl, trivial⟩⟩⟩⟩⟩ ?_
  exact hB x1 x2 x3 v19 s h
set_option maxRecDepth 20000 in
set_option maxHeartbeats 4000000 in
theorem ww_X9_chosen_99 {G : dk_G} {P : Program} {l : Launch} {e : Env} {S0 : State} {m : MethodId} {args : Array Value} {bel : List Frame} {meth : Method} {c : Code}  (C : dk_C G P (dk_rm 4) S0 m args c 0 0 cX9_chosen 8 RX9) (hr : meth.sig.returnType = (some .int)) (hlk : meth.locks = false) (hmi : dk_MI G) {K : Int32 → dk_S → Prop} {B : Int32 → Int32 → Int32 → Int32 → dk_S → Prop} (hB : ∀ (x1 : Int32) (x2 : Int32) (x3 : Int32) (x4 : Int32) (s : dk_S), B x1 x2 x3 x4 s → dk_W G P l e (dk_rm 4) S0 m args bel meth c 0 0 (MQ bel (dk_Qc G (dk_ki K)) args S0 0 0 (dk_A G)) 5 [some (dk_r G 4 60), some (.int x1), some (.int x2), some (.int x3), some (.int x4), none, none, none] [] s)  : ∀ (x1 : Int32) (x2 : Int32) (x3 : Int32) (x4 : Int32) (x5 : Int32) (x6 : Int32) (y0 : Int32) (s : dk_S), wf_X9_chosen_99 K B x1 x2 x3 x4 x5 x6 y0 s → dk_W G P l e (dk_rm 4) S0 m args bel meth c 0 0 (MQ bel (dk_Qc G (dk_ki K)) args S0 0 0 (dk_A G)) 99 [some (dk_r G 4 60), some (.int x1), some (.int x2), some (.int x3), some (.int x4), some (.int x5), some (.int x6), none] [.int y0] s := by
  intro x1 x2 x3 x4 x5 x6 y0 s h
  unfold wf_X9_chosen_99 at h
  refine dk_istore (i := 7) (L' := [some (dk_r G 4 60), some (.int x1), some (.int x2), some (.int x3), some (.int x4), some (.int x5), some (.int x6), some (.int y0)]) C dX9_chosen_99 (n := 101) rfl (dk_nc_of rfl) (Nat.le_of_ble_eq_true rfl) rfl ?_
  refine dk_iload C dX9_chosen_101 (n := 103) rfl (i := 6) rfl ?_
  refine dk_if_eq (t := 142) C dX9_chosen_103 (n := 106) rfl (by decide) (fun c18 => ?_) (fun c18 => ?_)
  · have h := h.1 c18
    refine dk_sub (L0 := [some (dk_r G 4 60), some (.int x1), some (.int x2), some (.int x3), some (.int x4), none, none, none]) ⟨rfl, ⟨rfl, ⟨rfl, ⟨rfl, ⟨rfl, trivial⟩⟩⟩⟩⟩ ?_
    exact ww_X9_chosen_142 C hr hlk hmi hB x1 x2 x3 x4 s h
  · have h := h.2 c18
    refine dk_iload_n (i := 2) C dX9_chosen_106 (n := 107) rfl rfl rfl ?_
    refine dk_if_eq (t := 125) C dX9_chosen_107 (n := 110) rfl (by decide) (fun c17 => ?_) (fun c17 => ?_)
    · have h := h.1 c17
      refine dk_aload_n (i := 0) C dX9_chosen_125 (n := 126) rfl rfl rfl ?_
      refine gf_X9_98 C (hmi 60 (by decide) (by decide)) dX9_chosen_126 (n := 129) rfl ?_
      refine dk_iload C dX9_chosen_129 (n := 131) rfl (i := 5) rfl ?_
      refine dk_iald C dk_sh86 h.1 (hmi 86 (by decide) (by decide)) dX9_chosen_131 (n := 132) rfl ?_
      have h := h.2
      refine dk_iload C dX9_chosen_132 (n := 134) rfl (i := 7) rfl ?_
      refine dk_icmp_ge (t := 142) C dX9_chosen_134 (n := 137) rfl (by decide) (fun c14 => ?_) (fun c14 => ?_)
      · have h := h.1 c14
        refine dk_sub (L0 := [some (dk_r G 4 60), some (.int x1), some (.int x2), some (.int x3), some (.int x4), none, none, none]) ⟨rfl, ⟨rfl, ⟨rfl, ⟨rfl, ⟨rfl, trivial⟩⟩⟩⟩⟩ ?_
        exact ww_X9_chosen_142 C hr hlk hmi hB x1 x2 x3 x4 s h
      · have h := h.2 c14
        refine dk_iload C dX9_chosen_137 (n := 139) rfl (i := 5) rfl ?_
        refine dk_goto (t := 143) C dX9_chosen_139 (by decide) ?_
        refine dk_istore_n (i := 3) (L' := [some (dk_r G 4 60), some (.int x1), some (.int x2), some (.int x5), some (.int x4), some (.int x5), some (.int x6), some (.int y0)]) C dX9_chosen_143 (n := 144) rfl rfl (dk_nc_of rfl) (Nat.le_of_ble_eq_true rfl) rfl ?_
        obtain ⟨v13, ev13⟩ : ∃ y : Int32, y = x4 + 1 := ⟨_, rfl⟩
        have h := h v13 ev13
        refine dk_iinc (i := 4) (v := v13) (L' := [some (dk_r G 4 60), some (.int x1), some (.int x2), some (.int x5), some (.int v13), some (.int x5), some (.int x6), some (.int y0)]) C dX9_chosen_144 (n := 147) rfl rfl (by rw [ev13]; rfl) (dk_nc_of rfl) (Nat.le_of_ble_eq_true rfl) rfl ?_
        refine dk_goto (t := 5) C dX9_chosen_147 (by decide) ?_
        refine dk_sub (L0 := [some (dk_r G 4 60), some (.int x1), some (.int x2), some (.int x5), some (.int v13), none, none, none]) ⟨rfl, ⟨rfl, ⟨rfl, ⟨rfl, ⟨rfl, trivial⟩⟩⟩⟩⟩ ?_
        exact hB x1 x2 x5 v13 s h
    · have h := h.2 c17
      refine dk_aload_n (i := 0) C dX9_chosen_110 (n := 111) rfl rfl rfl ?_
      refine gf_X9_98 C (hmi 60 (by decide) (by decide)) dX9_chosen_111 (n := 114) rfl ?_
      refine dk_iload C dX9_chosen_114 (n := 116) rfl (i := 5) rfl ?_
      refine dk_iald C dk_sh86 h.1 (hmi 86 (by decide) (by decide)) dX9_chosen_116 (n := 117) rfl ?_
      have h := h.2
      refine dk_iload C dX9_chosen_117 (n := 119) rfl (i := 7) rfl ?_
      refine dk_icmp_le (t := 142) C dX9_chosen_119 (n := 122) rfl (by decide) (fun c16 => ?_) (fun c16 => ?_)
      · have h := h.1 c16
        refine dk_sub (L0 := [some (dk_r G 4 60), some (.int x1), some (.int x2), some (.int x3), some (.int x4), none, none, none]) ⟨rfl, ⟨rfl, ⟨rfl, ⟨rfl, ⟨rfl, trivial⟩⟩⟩⟩⟩ ?_
        exact ww_X9_chosen_142 C hr hlk hmi hB x1 x2 x3 x4 s h
      · have h := h.2 c16
        refine dk_goto (t := 137) C dX9_chosen_122 (by decide) ?_
        refine dk_iload C dX9_chosen_137 (n := 139) rfl (i := 5) rfl ?_
        refine dk_goto (t := 143) C dX9_chosen_139 (by decide) ?_
        refine dk_istore_n (i := 3) (L' := [some (dk_r G 4 60), some (.int x1), some (.int x2), some (.int x5), some (.int x4), some (.int x5), some (.int x6), some (.int y0)]) C dX9_chosen_143 (n := 144) rfl rfl (dk_nc_of rfl) (Nat.le_of_ble_eq_true rfl) rfl ?_
        obtain ⟨v15, ev15⟩ : ∃ y : Int32, y = x4 + 1 := ⟨_, rfl⟩
        have h := h v15 ev15
        refine dk_iinc (i := 4) (v := v15) (L' := [some (dk_r G 4 60), some (.int x1), some (.int x2), some (.int x5), some (.int v15), some (.int x5), some (.int x6), some (.int y0)]) C dX9_chosen_144 (n := 147) rfl rfl (by rw [ev15]; rfl) (dk_nc_of rfl) (Nat.le_of_ble_eq_true rfl) rfl ?_
        refine dk_goto (t := 5) C dX9_chosen_147 (by decide) ?_
        refine dk_sub (L0 := [some (dk_r G 4 60), some (.int x1), some (.int x2), some (.int x5), some (.int v15), none, none, none]) ⟨rfl, ⟨rfl, ⟨rfl, ⟨rfl, ⟨rfl, trivial⟩⟩⟩⟩⟩ ?_
        exact hB x1 x2 x5 v15 s h
set_option maxRecDepth 20000 in
set_option maxHeartbeats 4000000 in
theorem ww_X9_chosen_72 {G : dk_G} {P : Program} {l : Launch} {e : Env} {S0 : State} {m : MethodId} {args : Array Value} {bel : List Frame} {meth : Method} {c : Code}  (C : dk_C G P (dk_rm 4) S0 m args c 0 0 cX9_chosen 8 RX9) (hr : meth.sig.returnType = (some .int)) (hlk : meth.locks = false) (hmi : dk_MI G) {K : Int32 → dk_S → Prop} {B : Int32 → Int32 → Int32 → Int32 → dk_S → Prop} (hB : ∀ (x1 : Int32) (x2 : Int32) (x3 : Int32) (x4 : Int32) (s : dk_S), B x1 x2 x3 x4 s → dk_W G P l e (dk_rm 4) S0 m args bel meth c 0 0 (MQ bel (dk_Qc G (dk_ki K)) args S0 0 0 (dk_A G)) 5 [some (dk_r G 4 60), some (.int x1), some (.int x2), some (.int x3), some (.int x4), none, none, none] [] s)  : ∀ (x1 : Int32) (x2 : Int32) (x3 : Int32) (x4 : Int32) (x5 : Int32) (y0 : Int32) (s : dk_S), wf_X9_chosen_72 K B x1 x2 x3 x4 x5 y0 s → dk_W G P l e (dk_rm 4) S0 m args bel meth c 0 0 (MQ bel (dk_Qc G (dk_ki K)) args S0 0 0 (dk_A G)) 72 [some (dk_r G 4 60), some (.int x1), some (.int x2), some (.int x3), some (.int x4), some (.int x5), none, none] [.int y0] s := by
  intro x1 x2 x3 x4 x5 y0 s h
  unfold wf_X9_chosen_72 at h
  refine dk_istore (i := 6) (L' := [some (dk_r G 4 60), some (.int x1), some (.int x2), some (.int x3), some (.int x4), some (.int x5), some (.int y0), none]) C dX9_chosen_72 (n := 74) rfl (dk_nc_of rfl) (Nat.le_of_ble_eq_true rfl) rfl ?_
  refine dk_iload_n (i := 3) C dX9_chosen_74 (n := 75) rfl rfl rfl ?_
  refine dk_iconst (v := (-1)) C dX9_chosen_75 (n := 76) rfl (by decide) ?_
  refine dk_icmp_ne (t := 93) C dX9_chosen_76 (n := 79) rfl (by decide) (fun c12 => ?_) (fun c12 => ?_)
  · have h := h.1 c12
    refine dk_aload_n (i := 0) C dX9_chosen_93 (n := 94) rfl rfl rfl ?_
    refine gf_X9_98 C (hmi 60 (by decide) (by decide)) dX9_chosen_94 (n := 97) rfl ?_
    refine dk_iload_n (i := 3) C dX9_chosen_97 (n := 98) rfl rfl rfl ?_
    refine dk_iald C dk_sh86 h.1 (hmi 86 (by decide) (by decide)) dX9_chosen_98 (n := 99) rfl ?_
    have h := h.2
    refine dk_sub (L0 := [some (dk_r G 4 60), some (.int x1), some (.int x2), some (.int x3), some (.int x4), some (.int x5), some (.int y0), none]) ⟨rfl, ⟨rfl, ⟨rfl, ⟨rfl, ⟨rfl, ⟨rfl, ⟨rfl, trivial⟩⟩⟩⟩⟩⟩⟩ ?_
    exact ww_X9_chosen_99 C hr hlk hmi hB x1 x2 x3 x4 x5 y0 (s 4 86 x3.toNatClampNeg) s h
  · have h := h.2 c12
    refine dk_aload_n (i := 0) C dX9_chosen_79 (n := 80) rfl rfl rfl ?_
    refine gf_X9_98 C (hmi 60 (by decide) (by decide)) dX9_chosen_80 (n := 83) rfl ?_
    refine dk_aload_n (i := 0) C dX9_chosen_83 (n := 84) rfl rfl rfl ?_
    refine gf_X9_65 C (hmi 60 (by decide) (by decide)) dX9_chosen_84 (n := 87) rfl ?_
    refine dk_iload_n (i := 1) C dX9_chosen_87 (n := 88) rfl rfl rfl ?_
    refine dk_iald C dk_sh76 h.1 (hmi 76 (by decide) (by decide)) dX9_chosen_88 (n := 89) rfl ?_
    have h := h.2
    refine dk_iald C dk_sh86 h.1 (hmi 86 (by decide) (by decide)) dX9_chosen_89 (n := 90) rfl ?_
    have h := h.2
    refine dk_goto (t := 99) C dX9_chosen_90 (by decide) ?_
    refine dk_sub (L0 := [some (dk_r G 4 60), some (.int x1), some (.int x2), some (.int x3), some (.int x4), some (.int x5), some (.int y0), none]) ⟨rfl, ⟨rfl, ⟨rfl, ⟨rfl, ⟨rfl, ⟨rfl, ⟨rfl, trivial⟩⟩⟩⟩⟩⟩⟩ ?_
    exact ww_X9_chosen_99 C hr hlk hmi hB x1 x2 x3 x4 x5 y0 (s 4 86 (s 4 76 x1.toNatClampNeg).toNatClampNeg) s h
set_option maxRecDepth 20000 in
set_option maxHeartbeats 4000000 in
theorem ww_X9_chosen_5 {G : dk_G} {P : Program} {l : Launch} {e : Env} {S0 : State} {m : MethodId} {args : Array Value} {bel : List Frame} {meth : Method} {c : Code}  (C : dk_C G P (dk_rm 4) S0 m args c 0 0 cX9_chosen 8 RX9) (hr : meth.sig.returnType = (some .int)) (hlk : meth.locks = false) (hmi : dk_MI G) {K : Int32 → dk_S → Prop}  : ∀ (n : Nat) (x1 : Int32) (x2 : Int32) (x3 : Int32) (x4 : Int32) (s : dk_S), wf_X9_chosen_5 K n x1 x2 x3 x4 s → dk_W G P l e (dk_rm 4) S0 m args bel meth c 0 0 (MQ bel (dk_Qc G (dk_ki K)) args S0 0 0 (dk_A G)) 5 [some (dk_r G 4 60), some (.int x1), some (.int x2), some (.int x3), some (.int x4), none, none, none] [] s := by
  intro n
  induction n with
  | zero => intro x1 x2 x3 x4 s h; exact False.elim h
  | succ n hB =>
    intro x1 x2 x3 x4 s h
    unfold wf_X9_chosen_5 at h
    refine dk_iload C dX9_chosen_5 (n := 7) rfl (i := 4) rfl ?_
    refine dk_iconst (v := 4) C dX9_chosen_7 (n := 8) rfl (by decide) ?_
    refine dk_icmp_ge (t := 150) C dX9_chosen_8 (n := 11) rfl (by decide) (fun c11 => ?_) (fun c11 => ?_)
    · have h := h.1 c11
      refine dk_iload_n (i := 3) C dX9_chosen_150 (n := 151) rfl rfl rfl ?_
      exact dk_iret C hr hlk rfl dX9_chosen_151 ⟨_, rfl, h⟩
    · have h := h.2 c11
      refine dk_aload_n (i := 0) C dX9_chosen_11 (n := 12) rfl rfl rfl ?_
      refine gf_X9_65 C (hmi 60 (by decide) (by decide)) dX9_chosen_12 (n := 15) rfl ?_
      refine dk_iload_n (i := 1) C dX9_chosen_15 (n := 16) rfl rfl rfl ?_
      refine dk_iald C dk_sh76 h.1 (hmi 76 (by decide) (by decide)) dX9_chosen_16 (n := 17) rfl ?_
      have h := h.2
      refine dk_iload C dX9_chosen_17 (n := 19) rfl (i := 4) rfl ?_
      refine dk_callSi C [] (cc_X9_beside C.D  h) yy_X9_beside dk_wm_X9_193 dX9_chosen_19 (fun r3 s2 h => ?_) rfl ⟨Nat.le_of_ble_eq_true rfl, Nat.le_of_ble_eq_true rfl⟩ rfl (Nat.le_of_ble_eq_true rfl) rfl (n := 22) rfl
      refine dk_istore (i := 5) (L' := [some (dk_r G 4 60), some (.int x1), some (.int x2), some (.int x3), some (.int x4), some (.int r3), none, none]) C dX9_chosen_22 (n := 24) rfl (dk_nc_of rfl) (Nat.le_of_ble_eq_true rfl) rfl ?_
      refine dk_iload C dX9_chosen_24 (n := 26) rfl (i := 5) rfl ?_
      refine dk_iconst (v := (-1)) C dX9_chosen_26 (n := 27) rfl (by decide) ?_
      refine dk_icmp_eq (t := 71) C dX9_chosen_27 (n := 30) rfl (by decide) (fun c10 => ?_) (fun c10 => ?_)
      · have h := h.1 c10
        refine dk_iconst (v := 0) C dX9_chosen_71 (n := 72) rfl (by decide) ?_
        refine dk_sub (L0 := [some (dk_r G 4 60), some (.int x1), some (.int x2), some (.int x3), some (.int x4), some (.int r3), none, none]) ⟨rfl, ⟨rfl, ⟨rfl, ⟨rfl, ⟨rfl, ⟨rfl, trivial⟩⟩⟩⟩⟩⟩ ?_
        exact ww_X9_chosen_72 C hr hlk hmi hB x1 x2 x3 x4 r3 0 s2 h
      · have h := h.2 c10
        refine dk_aload_n (i := 0) C dX9_chosen_30 (n := 31) rfl rfl rfl ?_
        refine gf_X9_98 C (hmi 60 (by decide) (by decide)) dX9_chosen_31 (n := 34) rfl ?_
        refine dk_iload C dX9_chosen_34 (n := 36) rfl (i := 5) rfl ?_
        refine dk_iald C dk_sh86 h.1 (hmi 86 (by decide) (by decide)) dX9_chosen_36 (n := 37) rfl ?_
        have h := h.2
        refine dk_ldc (v := 100000) C dX9_chosen_37 (n := 39) rfl dk_wk_X9_189 ?_
        refine dk_icmp_ge (t := 71) C dX9_chosen_39 (n := 42) rfl (by decide) (fun c9 => ?_) (fun c9 => ?_)
        · have h := h.1 c9
          refine dk_iconst (v := 0) C dX9_chosen_71 (n := 72) rfl (by decide) ?_
          refine dk_sub (L0 := [some (dk_r G 4 60), some (.int x1), some (.int x2), some (.int x3), some (.int x4), some (.int r3), none, none]) ⟨rfl, ⟨rfl, ⟨rfl, ⟨rfl, ⟨rfl, ⟨rfl, trivial⟩⟩⟩⟩⟩⟩ ?_
          exact ww_X9_chosen_72 C hr hlk hmi hB x1 x2 x3 x4 r3 0 s2 h
        · have h := h.2 c9
          refine dk_aload_n (i := 0) C dX9_chosen_42 (n := 43) rfl rfl rfl ?_
          refine dk_iload C dX9_chosen_43 (n := 45) rfl (i := 5) rfl ?_
          refine dk_callVi C [] (cc_X9_isOpenFor C.D hmi h) yy_X9_isOpenFor dk_wm_X9_232 dk_sh60 (hmi 60 (by decide) (by decide)) dX9_chosen_45 (fun r5 s4 h => ?_) rfl rfl ⟨Nat.le_of_ble_eq_true rfl, Nat.le_of_ble_eq_true rfl⟩ rfl (Nat.le_of_ble_eq_true rfl) rfl (n := 48) rfl
          refine dk_if_ne (t := 67) C dX9_chosen_48 (n := 51) rfl (by decide) (fun c8 => ?_) (fun c8 => ?_)
          · have h := h.1 c8
            refine dk_iconst (v := 1) C dX9_chosen_67 (n := 68) rfl (by decide) ?_
            refine dk_goto (t := 72) C dX9_chosen_68 (by decide) ?_
            refine dk_sub (L0 := [some (dk_r G 4 60), some (.int x1), some (.int x2), some (.int x3), some (.int x4), some (.int r3), none, none]) ⟨rfl, ⟨rfl, ⟨rfl, ⟨rfl, ⟨rfl, ⟨rfl, trivial⟩⟩⟩⟩⟩⟩ ?_
            exact ww_X9_chosen_72 C hr hlk hmi hB x1 x2 x3 x4 r3 1 s4 h
          · have h := h.2 c8
            refine dk_iload_n (i := 2) C dX9_chosen_51 (n := 52) rfl rfl rfl ?_
            refine dk_if_ne (t := 71) C dX9_chosen_52 (n := 55) rfl (by decide) (fun c7 => ?_) (fun c7 => ?_)
            · have h := h.1 c7
              refine dk_iconst (v := 0) C dX9_chosen_71 (n := 72) rfl (by decide) ?_
              refine dk_sub (L0 := [some (dk_r G 4 60), some (.int x1), some (.int x2), some (.int x3), some (.int x4), some (.int r3), none, none]) ⟨rfl, ⟨rfl, ⟨rfl, ⟨rfl, ⟨rfl, ⟨rfl, trivial⟩⟩⟩⟩⟩⟩ ?_
              exact ww_X9_chosen_72 C hr hlk hmi hB x1 x2 x3 x4 r3 0 s4 h
            · have h := h.2 c7
              refine dk_aload_n (i := 0) C dX9_chosen_55 (n := 56) rfl rfl rfl ?_
              refine gf_X9_62 C (hmi 60 (by decide) (by decide)) dX9_chosen_56 (n := 59) rfl ?_
              refine dk_iload C dX9_chosen_59 (n := 61) rfl (i := 5) rfl ?_
              refine dk_cald C dk_sh75 h.1 (hmi 75 (by decide) (by decide)) dX9_chosen_61 (n := 62) rfl ?_
              have h := h.2
              refine dk_bipush (v := 43) C dX9_chosen_62 (n := 64) rfl (by decide) ?_
              refine dk_icmp_ne (t := 71) C dX9_chosen_64 (n := 67) rfl (by decide) (fun c6 => ?_) (fun c6 => ?_)
              · have h := h.1 c6
                refine dk_iconst (v := 0) C dX9_chosen_71 (n := 72) rfl (by decide) ?_
                refine dk_sub (L0 := [some (dk_r G 4 60), some (.int x1), some (.int x2), some (.int x3), some (.int x4), some (.int r3), none, none]) ⟨rfl, ⟨rfl, ⟨rfl, ⟨rfl, ⟨rfl, ⟨rfl, trivial⟩⟩⟩⟩⟩⟩ ?_
                exact ww_X9_chosen_72 C hr hlk hmi hB x1 x2 x3 x4 r3 0 s4 h
              · have h := h.2 c6
                refine dk_iconst (v := 1) C dX9_chosen_67 (n := 68) rfl (by decide) ?_
                refine dk_goto (t := 72) C dX9_chosen_68 (by decide) ?_
                refine dk_sub (L0 := [some (dk_r G 4 60), some (.int x1), some (.int x2), some (.int x3), some (.int x4), some (.int r3), none, none]) ⟨rfl, ⟨rfl, ⟨rfl, ⟨rfl, ⟨rfl, ⟨rfl, trivial⟩⟩⟩⟩⟩⟩ ?_
                exact ww_X9_chosen_72 C hr hlk hmi hB x1 x2 x3 x4 r3 1 s4 h
set_option maxRecDepth 20000 in
set_option maxHeartbeats 4000000 in
theorem cc_X9_chosen {G : dk_G} {l : Launch} {a1 : Int32} {a2 : Int32} (hD : dk_D G) (hmi : dk_MI G) {s : dk_S} {K : Int32 → dk_S → Prop} (h : wf_X9_chosen a1 a2 s K) : dk_M G l 4 yX9_chosen cX9_chosen 8 (some .int) [dk_r G 4 60, .int a1, .int a2] s (dk_ki K) := by
  refine dk_of hD (by decide) [some (dk_r G 4 60), some (.int a1), some (.int a2), none, none, none, none, none] (fun q hq => hq) rfl (Nat.le_of_ble_eq_true rfl) (fun P e S0 m args bel meth c C hr hlk => ?_)
  unfold wf_X9_chosen at h
  refine dk_iconst (v := (-1)) C dX9_chosen_0 (n := 1) rfl (by decide) ?_
  refine dk_istore_n (i := 3) (L' := [some (dk_r G 4 60), some (.int a1), some (.int a2), some (.int (-1)), none, none, none, none]) C dX9_chosen_1 (n := 2) rfl rfl (dk_nc_of rfl) (Nat.le_of_ble_eq_true rfl) rfl ?_
  refine dk_iconst (v := 0) C dX9_chosen_2 (n := 3) rfl (by decide) ?_
  refine dk_istore (i := 4) (L' := [some (dk_r G 4 60), some (.int a1), some (.int a2), some (.int (-1)), some (.int 0), none, none, none]) C dX9_chosen_3 (n := 5) rfl (dk_nc_of rfl) (Nat.le_of_ble_eq_true rfl) rfl ?_
  obtain ⟨nn1, h⟩ := h
  refine dk_sub (L0 := [some (dk_r G 4 60), some (.int a1), some (.int a2), some (.int (-1)), some (.int 0), none, none, none]) ⟨rfl, ⟨rfl, ⟨rfl, ⟨rfl, ⟨rfl, trivial⟩⟩⟩⟩⟩ ?_
  refine ww_X9_chosen_5 C hr hlk hmi  nn1 a1 a2 (-1) 0 s h
/-! X9_goes -/
set_option maxRecDepth 20000 in
set_option maxHeartbeats 4000000 in
theorem cc_X9_goes {G : dk_G} {l : Launch} {a1 : Int32} {a2 : Int32} (hD : dk_D G) (hmi : dk_MI G) {s : dk_S} {K : dk_S → Prop} (h : wf_X9_goes a1 a2 s K) : dk_M G l 1 yX9_goes cX9_goes 3 none [dk_r G 4 60, .int a1, .int a2] s (dk_kv K) := by
  refine dk_of hD (by decide) [some (dk_r G 4 60), some (.int a1), some (.int a2)] (fun q hq => hq) rfl (Nat.le_of_ble_eq_true rfl) (fun P e S0 m args bel meth c C hr hlk => ?_)
  unfold wf_X9_goes at h
  refine dk_iload_n (i := 2) C dX9_goes_0 (n := 1) rfl rfl rfl ?_
  refine dk_iconst (v := (-1)) C dX9_goes_1 (n := 2) rfl (by decide) ?_
  refine dk_icmp_ne (t := 6) C dX9_goes_2 (n := 5) rfl (by decide) (fun c4 => ?_) (fun c4 => ?_)
  · have h := h.1 c4
    refine dk_aload_n (i := 0) C dX9_goes_6 (n := 7) rfl rfl rfl ?_
    refine gf_X9_62 C (hmi 60 (by decide) (by decide)) dX9_goes_7 (n := 10) rfl ?_
    refine dk_iload_n (i := 2) C dX9_goes_10 (n := 11) rfl rfl rfl ?_
    refine dk_cald C dk_sh75 h.1 (hmi 75 (by decide) (by decide)) dX9_goes_11 (n := 12) rfl ?_
    have h := h.2
    refine dk_bipush (v := 43) C dX9_goes_12 (n := 14) rfl (by decide) ?_
    refine dk_icmp_ne (t := 28) C dX9_goes_14 (n := 17) rfl (by decide) (fun c3 => ?_) (fun c3 => ?_)
    · have h := h.1 c3
      refine dk_aload_n (i := 0) C dX9_goes_28 (n := 29) rfl rfl rfl ?_
      refine gf_X9_65 C (hmi 60 (by decide) (by decide)) dX9_goes_29 (n := 32) rfl ?_
      refine dk_iload_n (i := 1) C dX9_goes_32 (n := 33) rfl rfl rfl ?_
      refine dk_iload_n (i := 2) C dX9_goes_33 (n := 34) rfl rfl rfl ?_
      refine dk_iast C dk_sh76 h.1 (hmi 76 (by decide) (by decide)) dX9_goes_34 (n := 35) rfl ?_
      refine dk_nameS (fun s1 es1 => ?_)
      have h := h.2 s1 es1
      exact dk_vret C hr hlk dX9_goes_35 ⟨rfl, h⟩
    · have h := h.2 c3
      refine dk_aload_n (i := 0) C dX9_goes_17 (n := 18) rfl rfl rfl ?_
      refine gf_X9_62 C (hmi 60 (by decide) (by decide)) dX9_goes_18 (n := 21) rfl ?_
      refine dk_iload_n (i := 2) C dX9_goes_21 (n := 22) rfl rfl rfl ?_
      refine dk_bipush (v := 47) C dX9_goes_22 (n := 24) rfl (by decide) ?_
      refine dk_cast C dk_sh75 h.1 (hmi 75 (by decide) (by decide)) dX9_goes_24 (n := 25) rfl ?_
      refine dk_nameS (fun s2 es2 => ?_)
      have h := h.2 s2 es2
      refine dk_goto (t := 35) C dX9_goes_25 (by decide) ?_
      exact dk_vret C hr hlk dX9_goes_35 ⟨rfl, h⟩
  · have h := h.2 c4
    exact dk_vret C hr hlk dX9_goes_5 ⟨rfl, h⟩
/-! X9_beastTurns -/
set_option maxRecDepth 20000 in
set_option maxHeartbeats 4000000 in
theorem ww_X9_beastTurns_143 {G : dk_G} {P : Program} {l : Launch} {e : Env} {S0 : State} {m : MethodId} {args : Array Value} {bel : List Frame} {meth : Method} {c : Code}  (C : dk_C G P (dk_rm 6) S0 m args c 0 0 cX9_beastTurns 4 RX9) (hr : meth.sig.returnType = none) (hlk : meth.locks = false) (hmi : dk_MI G) {K : dk_S → Prop}  : ∀ (x1 : Int32) (s : dk_S), wf_X9_beastTurns_143 K x1 s → dk_W G P l e (dk_rm 6) S0 m args bel meth c 0 0 (MQ bel (dk_Qc G (dk_kv K)) args S0 0 0 (dk_A G)) 143 [some (dk_r G 4 60), some (.int x1), none, none] [] s := by
  intro x1 s h
  unfold wf_X9_beastTurns_143 at h
  refine dk_aload_n (i := 0) C dX9_beastTurns_143 (n := 144) rfl rfl rfl ?_
  refine gf_X9_65 C (hmi 60 (by decide) (by decide)) dX9_beastTurns_144 (n := 147) rfl ?_
  refine dk_iload_n (i := 1) C dX9_beastTurns_147 (n := 148) rfl rfl rfl ?_
  refine dk_iald C dk_sh76 h.1 (hmi 76 (by decide) (by decide)) dX9_beastTurns_148 (n := 149) rfl ?_
  have h := h.2
  refine dk_aload_n (i := 0) C dX9_beastTurns_149 (n := 150) rfl rfl rfl ?_
  refine gf_X9_80 C (hmi 60 (by decide) (by decide)) dX9_beastTurns_150 (n := 153) rfl ?_
  refine dk_iload_n (i := 1) C dX9_beastTurns_153 (n := 154) rfl rfl rfl ?_
  refine dk_iald C dk_sh81 h.1 (hmi 81 (by decide) (by decide)) dX9_beastTurns_154 (n := 155) rfl ?_
  have h := h.2
  refine dk_icmp_ne (t := 184) C dX9_beastTurns_155 (n := 158) rfl (by decide) (fun c25 => ?_) (fun c25 => ?_)
  · have h := h.1 c25
    exact dk_vret C hr hlk dX9_beastTurns_184 ⟨rfl, h⟩
  · have h := h.2 c25
    refine dk_aload_n (i := 0) C dX9_beastTurns_158 (n := 159) rfl rfl rfl ?_
    refine dk_aload_n (i := 0) C dX9_beastTurns_159 (n := 160) rfl rfl rfl ?_
    refine gf_X9_65 C (hmi 60 (by decide) (by decide)) dX9_beastTurns_160 (n := 163) rfl ?_
    refine dk_iload_n (i := 1) C dX9_beastTurns_163 (n := 164) rfl rfl rfl ?_
    refine dk_iald C dk_sh76 h.1 (hmi 76 (by decide) (by decide)) dX9_beastTurns_164 (n := 165) rfl ?_
    have h := h.2
    refine dk_aload_n (i := 0) C dX9_beastTurns_165 (n := 166) rfl rfl rfl ?_
    refine gf_X9_65 C (hmi 60 (by decide) (by decide)) dX9_beastTurns_166 (n := 169) rfl ?_
    refine dk_iconst (v := 0) C dX9_beastTurns_169 (n := 170) rfl (by decide) ?_
    refine dk_iald C dk_sh76 h.1 (hmi 76 (by decide) (by decide)) dX9_beastTurns_170 (n := 171) rfl ?_
    have h := h.2
    refine dk_callVi C [] (cc_X9_sees C.D hmi h) yy_X9_sees dk_wm_X9_180 dk_sh60 (hmi 60 (by decide) (by decide)) dX9_beastTurns_171 (fun r22 s21 h => ?_) rfl rfl ⟨Nat.le_of_ble_eq_true rfl, Nat.le_of_ble_eq_true rfl⟩ rfl (Nat.le_of_ble_eq_true rfl) rfl (n := 174) rfl
    refine dk_if_ne (t := 184) C dX9_beastTurns_174 (n := 177) rfl (by decide) (fun c24 => ?_) (fun c24 => ?_)
    · have h := h.1 c24
      exact dk_vret C hr hlk dX9_beastTurns_184 ⟨rfl, h⟩
    · have h := h.2 c24
      refine dk_aload_n (i := 0) C dX9_beastTurns_177 (n := 178) rfl rfl rfl ?_
      refine gf_X9_80 C (hmi 60 (by decide) (by decide)) dX9_beastTurns_178 (n := 181) rfl ?_
      refine dk_iload_n (i := 1) C dX9_beastTurns_181 (n := 182) rfl rfl rfl ?_
      refine dk_iconst (v := (-1)) C dX9_beastTurns_182 (n := 183) rfl (by decide) ?_
      refine dk_iast C dk_sh81 h.1 (hmi 81 (by decide) (by decide)) dX9_beastTurns_183 (n := 184) rfl ?_
      refine dk_nameS (fun s23 es23 => ?_)
      have h := h.2 s23 es23
      exact dk_vret C hr hlk dX9_beastTurns_184 ⟨rfl, h⟩
set_option maxRecDepth 20000 in
set_option maxHeartbeats 4000000 in
theorem ww_X9_beastTurns_77 {G : dk_G} {P : Program} {l : Launch} {e : Env} {S0 : State} {m : MethodId} {args : Array Value} {bel : List Frame} {meth : Method} {c : Code}  (C : dk_C G P (dk_rm 6) S0 m args c 0 0 cX9_beastTurns 4 RX9) (hr : meth.sig.returnType = none) (hlk : meth.locks = false) (hmi : dk_MI G) {K : dk_S → Prop}  : ∀ (x1 : Int32) (y0 : Int32) (s : dk_S), wf_X9_beastTurns_77 K x1 y0 s → dk_W G P l e (dk_rm 6) S0 m args bel meth c 0 0 (MQ bel (dk_Qc G (dk_kv K)) args S0 0 0 (dk_A G)) 77 [some (dk_r G 4 60), some (.int x1), none, none] [.int y0] s := by
  intro x1 y0 s h
  unfold wf_X9_beastTurns_77 at h
  refine dk_istore_n (i := 2) (L' := [some (dk_r G 4 60), some (.int x1), some (.int y0), none]) C dX9_beastTurns_77 (n := 78) rfl rfl (dk_nc_of rfl) (Nat.le_of_ble_eq_true rfl) rfl ?_
  refine dk_iload_n (i := 2) C dX9_beastTurns_78 (n := 79) rfl rfl rfl ?_
  refine dk_if_ne (t := 132) C dX9_beastTurns_79 (n := 82) rfl (by decide) (fun c20 => ?_) (fun c20 => ?_)
  · have h := h.1 c20
    refine dk_aload_n (i := 0) C dX9_beastTurns_132 (n := 133) rfl rfl rfl ?_
    refine dk_iload_n (i := 1) C dX9_beastTurns_133 (n := 134) rfl rfl rfl ?_
    refine dk_aload_n (i := 0) C dX9_beastTurns_134 (n := 135) rfl rfl rfl ?_
    refine dk_iload_n (i := 1) C dX9_beastTurns_135 (n := 136) rfl rfl rfl ?_
    refine dk_iload_n (i := 2) C dX9_beastTurns_136 (n := 137) rfl rfl rfl ?_
    refine dk_callVi C [.int x1, dk_r G 4 60] (cc_X9_chosen C.D hmi h) yy_X9_chosen dk_wm_X9_241 dk_sh60 (hmi 60 (by decide) (by decide)) dX9_beastTurns_137 (fun r9 s8 h => ?_) rfl rfl ⟨Nat.le_of_ble_eq_true rfl, Nat.le_of_ble_eq_true rfl⟩ rfl (Nat.le_of_ble_eq_true rfl) rfl (n := 140) rfl
    refine dk_callVv C [] (cc_X9_goes C.D hmi h) yy_X9_goes dk_wm_X9_245 dk_sh60 (hmi 60 (by decide) (by decide)) dX9_beastTurns_140 (fun s10 h => ?_) rfl rfl ⟨Nat.le_of_ble_eq_true rfl, Nat.le_of_ble_eq_true rfl⟩ rfl (Nat.le_of_ble_eq_true rfl) rfl (n := 143) rfl
    refine dk_sub (L0 := [some (dk_r G 4 60), some (.int x1), none, none]) ⟨rfl, ⟨rfl, trivial⟩⟩ ?_
    exact ww_X9_beastTurns_143 C hr hlk hmi  x1 s10 h
  · have h := h.2 c20
    refine dk_aload_n (i := 0) C dX9_beastTurns_82 (n := 83) rfl rfl rfl ?_
    refine dk_aload_n (i := 0) C dX9_beastTurns_83 (n := 84) rfl rfl rfl ?_
    refine gf_X9_65 C (hmi 60 (by decide) (by decide)) dX9_beastTurns_84 (n := 87) rfl ?_
    refine dk_iload_n (i := 1) C dX9_beastTurns_87 (n := 88) rfl rfl rfl ?_
    refine dk_iald C dk_sh76 h.1 (hmi 76 (by decide) (by decide)) dX9_beastTurns_88 (n := 89) rfl ?_
    have h := h.2
    refine dk_aload_n (i := 0) C dX9_beastTurns_89 (n := 90) rfl rfl rfl ?_
    refine gf_X9_65 C (hmi 60 (by decide) (by decide)) dX9_beastTurns_90 (n := 93) rfl ?_
    refine dk_iconst (v := 0) C dX9_beastTurns_93 (n := 94) rfl (by decide) ?_
    refine dk_iald C dk_sh76 h.1 (hmi 76 (by decide) (by decide)) dX9_beastTurns_94 (n := 95) rfl ?_
    have h := h.2
    refine dk_callVi C [] (cc_X9_isBeside C.D hmi h) yy_X9_isBeside dk_wm_X9_235 dk_sh60 (hmi 60 (by decide) (by decide)) dX9_beastTurns_95 (fun r12 s11 h => ?_) rfl rfl ⟨Nat.le_of_ble_eq_true rfl, Nat.le_of_ble_eq_true rfl⟩ rfl (Nat.le_of_ble_eq_true rfl) rfl (n := 98) rfl
    refine dk_if_eq (t := 132) C dX9_beastTurns_98 (n := 101) rfl (by decide) (fun c19 => ?_) (fun c19 => ?_)
    · have h := h.1 c19
      refine dk_aload_n (i := 0) C dX9_beastTurns_132 (n := 133) rfl rfl rfl ?_
      refine dk_iload_n (i := 1) C dX9_beastTurns_133 (n := 134) rfl rfl rfl ?_
      refine dk_aload_n (i := 0) C dX9_beastTurns_134 (n := 135) rfl rfl rfl ?_
      refine dk_iload_n (i := 1) C dX9_beastTurns_135 (n := 136) rfl rfl rfl ?_
      refine dk_iload_n (i := 2) C dX9_beastTurns_136 (n := 137) rfl rfl rfl ?_
      refine dk_callVi C [.int x1, dk_r G 4 60] (cc_X9_chosen C.D hmi h) yy_X9_chosen dk_wm_X9_241 dk_sh60 (hmi 60 (by decide) (by decide)) dX9_beastTurns_137 (fun r14 s13 h => ?_) rfl rfl ⟨Nat.le_of_ble_eq_true rfl, Nat.le_of_ble_eq_true rfl⟩ rfl (Nat.le_of_ble_eq_true rfl) rfl (n := 140) rfl
      refine dk_callVv C [] (cc_X9_goes C.D hmi h) yy_X9_goes dk_wm_X9_245 dk_sh60 (hmi 60 (by decide) (by decide)) dX9_beastTurns_140 (fun s15 h => ?_) rfl rfl ⟨Nat.le_of_ble_eq_true rfl, Nat.le_of_ble_eq_true rfl⟩ rfl (Nat.le_of_ble_eq_true rfl) rfl (n := 143) rfl
      refine dk_sub (L0 := [some (dk_r G 4 60), some (.int x1), none, none]) ⟨rfl, ⟨rfl, trivial⟩⟩ ?_
      exact ww_X9_beastTurns_143 C hr hlk hmi  x1 s15 h
    · have h := h.2 c19
      refine dk_aload_n (i := 0) C dX9_beastTurns_101 (n := 102) rfl rfl rfl ?_
      refine gf_X9_68 C (hmi 60 (by decide) (by decide)) dX9_beastTurns_102 (n := 105) rfl ?_
      refine dk_iconst (v := 0) C dX9_beastTurns_105 (n := 106) rfl (by decide) ?_
      refine dk_dup2 C dX9_beastTurns_106 (n := 107) rfl rfl rfl ?_
      refine dk_iald C dk_sh77 h.1 (hmi 77 (by decide) (by decide)) dX9_beastTurns_107 (n := 108) rfl ?_
      have h := h.2
      refine dk_aload_n (i := 0) C dX9_beastTurns_108 (n := 109) rfl rfl rfl ?_
      refine gf_X9_44 C (hmi 60 (by decide) (by decide)) dX9_beastTurns_109 (n := 112) rfl ?_
      refine dk_iload_n (i := 1) C dX9_beastTurns_112 (n := 113) rfl rfl rfl ?_
      refine dk_iald C dk_sh69 h.1 (hmi 69 (by decide) (by decide)) dX9_beastTurns_113 (n := 114) rfl ?_
      have h := h.2
      refine dk_isub C dX9_beastTurns_114 (n := 115) rfl ?_
      refine dk_iast C dk_sh77 h.1 (hmi 77 (by decide) (by decide)) dX9_beastTurns_115 (n := 116) rfl ?_
      refine dk_nameS (fun s16 es16 => ?_)
      have h := h.2 s16 es16
      refine dk_aload_n (i := 0) C dX9_beastTurns_116 (n := 117) rfl rfl rfl ?_
      refine dk_aload_n (i := 0) C dX9_beastTurns_117 (n := 118) rfl rfl rfl ?_
      refine gf_X9_65 C (hmi 60 (by decide) (by decide)) dX9_beastTurns_118 (n := 121) rfl ?_
      refine dk_iconst (v := 0) C dX9_beastTurns_121 (n := 122) rfl (by decide) ?_
      refine dk_iald C dk_sh76 h.1 (hmi 76 (by decide) (by decide)) dX9_beastTurns_122 (n := 123) rfl ?_
      have h := h.2
      refine dk_bipush (v := 6) C dX9_beastTurns_123 (n := 125) rfl (by decide) ?_
      refine dk_callVi C [] (cc_X9_sounds C.D hmi h) yy_X9_sounds dk_wm_X9_238 dk_sh60 (hmi 60 (by decide) (by decide)) dX9_beastTurns_125 (fun r18 s17 h => ?_) rfl rfl ⟨Nat.le_of_ble_eq_true rfl, Nat.le_of_ble_eq_true rfl⟩ rfl (Nat.le_of_ble_eq_true rfl) rfl (n := 128) rfl
      refine dk_istore_n (i := 3) (L' := [some (dk_r G 4 60), some (.int x1), some (.int y0), some (.int r18)]) C dX9_beastTurns_128 (n := 129) rfl rfl (dk_nc_of rfl) (Nat.le_of_ble_eq_true rfl) rfl ?_
      refine dk_goto (t := 143) C dX9_beastTurns_129 (by decide) ?_
      refine dk_sub (L0 := [some (dk_r G 4 60), some (.int x1), none, none]) ⟨rfl, ⟨rfl, trivial⟩⟩ ?_
      exact ww_X9_beastTurns_143 C hr hlk hmi  x1 s17 h
set_option maxRecDepth 20000 in
set_option maxHeartbeats 4000000 in
theorem ww_X9_beastTurns_31 {G : dk_G} {P : Program} {l : Launch} {e : Env} {S0 : State} {m : MethodId} {args : Array Value} {bel : List Frame} {meth : Method} {c : Code}  (C : dk_C G P (dk_rm 6) S0 m args c 0 0 cX9_beastTurns 4 RX9) (hr : meth.sig.returnType = none) (hlk : meth.locks = false) (hmi : dk_MI G) {K : dk_S → Prop}  : ∀ (x1 : Int32) (s : dk_S), wf_X9_beastTurns_31 K x1 s → dk_W G P l e (dk_rm 6) S0 m args bel meth c 0 0 (MQ bel (dk_Qc G (dk_kv K)) args S0 0 0 (dk_A G)) 31 [some (dk_r G 4 60), some (.int x1), none, none] [] s := by
  intro x1 s h
  unfold wf_X9_beastTurns_31 at h
  refine dk_aload_n (i := 0) C dX9_beastTurns_31 (n := 32) rfl rfl rfl ?_
  refine gf_X9_80 C (hmi 60 (by decide) (by decide)) dX9_beastTurns_32 (n := 35) rfl ?_
  refine dk_iload_n (i := 1) C dX9_beastTurns_35 (n := 36) rfl rfl rfl ?_
  refine dk_iald C dk_sh81 h.1 (hmi 81 (by decide) (by decide)) dX9_beastTurns_36 (n := 37) rfl ?_
  have h := h.2
  refine dk_iconst (v := (-1)) C dX9_beastTurns_37 (n := 38) rfl (by decide) ?_
  refine dk_icmp_ne (t := 42) C dX9_beastTurns_38 (n := 41) rfl (by decide) (fun c7 => ?_) (fun c7 => ?_)
  · have h := h.1 c7
    refine dk_aload_n (i := 0) C dX9_beastTurns_42 (n := 43) rfl rfl rfl ?_
    refine dk_aload_n (i := 0) C dX9_beastTurns_43 (n := 44) rfl rfl rfl ?_
    refine gf_X9_80 C (hmi 60 (by decide) (by decide)) dX9_beastTurns_44 (n := 47) rfl ?_
    refine dk_iload_n (i := 1) C dX9_beastTurns_47 (n := 48) rfl rfl rfl ?_
    refine dk_iald C dk_sh81 h.1 (hmi 81 (by decide) (by decide)) dX9_beastTurns_48 (n := 49) rfl ?_
    have h := h.2
    refine dk_iconst (v := 1) C dX9_beastTurns_49 (n := 50) rfl (by decide) ?_
    refine dk_ldc (v := 100000) C dX9_beastTurns_50 (n := 52) rfl dk_wk_X9_189 ?_
    refine dk_callVv C [] (cc_X9_findsSteps C.D hmi h) yy_X9_findsSteps dk_wm_X9_196 dk_sh60 (hmi 60 (by decide) (by decide)) dX9_beastTurns_52 (fun s5 h => ?_) rfl rfl ⟨Nat.le_of_ble_eq_true rfl, Nat.le_of_ble_eq_true rfl⟩ rfl (Nat.le_of_ble_eq_true rfl) rfl (n := 55) rfl
    refine dk_iconst (v := 3) C dX9_beastTurns_55 (n := 56) rfl (by decide) ?_
    refine dk_aload_n (i := 0) C dX9_beastTurns_56 (n := 57) rfl rfl rfl ?_
    refine gf_X9_68 C (hmi 60 (by decide) (by decide)) dX9_beastTurns_57 (n := 60) rfl ?_
    refine dk_iload_n (i := 1) C dX9_beastTurns_60 (n := 61) rfl rfl rfl ?_
    refine dk_iald C dk_sh77 h.1 (hmi 77 (by decide) (by decide)) dX9_beastTurns_61 (n := 62) rfl ?_
    have h := h.2
    refine dk_imul C dX9_beastTurns_62 (n := 63) rfl ?_
    refine dk_aload_n (i := 0) C dX9_beastTurns_63 (n := 64) rfl rfl rfl ?_
    refine gf_X9_47 C (hmi 60 (by decide) (by decide)) dX9_beastTurns_64 (n := 67) rfl ?_
    refine dk_iload_n (i := 1) C dX9_beastTurns_67 (n := 68) rfl rfl rfl ?_
    refine dk_iald C dk_sh70 h.1 (hmi 70 (by decide) (by decide)) dX9_beastTurns_68 (n := 69) rfl ?_
    have h := h.2
    refine dk_icmp_ge (t := 76) C dX9_beastTurns_69 (n := 72) rfl (by decide) (fun c6 => ?_) (fun c6 => ?_)
    · have h := h.1 c6
      refine dk_iconst (v := 0) C dX9_beastTurns_76 (n := 77) rfl (by decide) ?_
      refine dk_sub (L0 := [some (dk_r G 4 60), some (.int x1), none, none]) ⟨rfl, ⟨rfl, trivial⟩⟩ ?_
      exact ww_X9_beastTurns_77 C hr hlk hmi  x1 0 s5 h
    · have h := h.2 c6
      refine dk_iconst (v := 1) C dX9_beastTurns_72 (n := 73) rfl (by decide) ?_
      refine dk_goto (t := 77) C dX9_beastTurns_73 (by decide) ?_
      refine dk_sub (L0 := [some (dk_r G 4 60), some (.int x1), none, none]) ⟨rfl, ⟨rfl, trivial⟩⟩ ?_
      exact ww_X9_beastTurns_77 C hr hlk hmi  x1 1 s5 h
  · have h := h.2 c7
    exact dk_vret C hr hlk dX9_beastTurns_41 ⟨rfl, h⟩
set_option maxRecDepth 20000 in
set_option maxHeartbeats 4000000 in
theorem cc_X9_beastTurns {G : dk_G} {l : Launch} {a1 : Int32} (hD : dk_D G) (hmi : dk_MI G) {s : dk_S} {K : dk_S → Prop} (h : wf_X9_beastTurns a1 s K) : dk_M G l 6 yX9_beastTurns cX9_beastTurns 4 none [dk_r G 4 60, .int a1] s (dk_kv K) := by
  refine dk_of hD (by decide) [some (dk_r G 4 60), some (.int a1), none, none] (fun q hq => hq) rfl (Nat.le_of_ble_eq_true rfl) (fun P e S0 m args bel meth c C hr hlk => ?_)
  unfold wf_X9_beastTurns at h
  refine dk_aload_n (i := 0) C dX9_beastTurns_0 (n := 1) rfl rfl rfl ?_
  refine dk_aload_n (i := 0) C dX9_beastTurns_1 (n := 2) rfl rfl rfl ?_
  refine gf_X9_65 C (hmi 60 (by decide) (by decide)) dX9_beastTurns_2 (n := 5) rfl ?_
  refine dk_iload_n (i := 1) C dX9_beastTurns_5 (n := 6) rfl rfl rfl ?_
  refine dk_iald C dk_sh76 h.1 (hmi 76 (by decide) (by decide)) dX9_beastTurns_6 (n := 7) rfl ?_
  have h := h.2
  refine dk_aload_n (i := 0) C dX9_beastTurns_7 (n := 8) rfl rfl rfl ?_
  refine gf_X9_65 C (hmi 60 (by decide) (by decide)) dX9_beastTurns_8 (n := 11) rfl ?_
  refine dk_iconst (v := 0) C dX9_beastTurns_11 (n := 12) rfl (by decide) ?_
  refine dk_iald C dk_sh76 h.1 (hmi 76 (by decide) (by decide)) dX9_beastTurns_12 (n := 13) rfl ?_
  have h := h.2
  refine dk_callVi C [] (cc_X9_sees C.D hmi h) yy_X9_sees dk_wm_X9_180 dk_sh60 (hmi 60 (by decide) (by decide)) dX9_beastTurns_13 (fun r2 s1 h => ?_) rfl rfl ⟨Nat.le_of_ble_eq_true rfl, Nat.le_of_ble_eq_true rfl⟩ rfl (Nat.le_of_ble_eq_true rfl) rfl (n := 16) rfl
  refine dk_if_eq (t := 31) C dX9_beastTurns_16 (n := 19) rfl (by decide) (fun c4 => ?_) (fun c4 => ?_)
  · have h := h.1 c4
    refine dk_sub (L0 := [some (dk_r G 4 60), some (.int a1), none, none]) ⟨rfl, ⟨rfl, trivial⟩⟩ ?_
    exact ww_X9_beastTurns_31 C hr hlk hmi  a1 s1 h
  · have h := h.2 c4
    refine dk_aload_n (i := 0) C dX9_beastTurns_19 (n := 20) rfl rfl rfl ?_
    refine gf_X9_80 C (hmi 60 (by decide) (by decide)) dX9_beastTurns_20 (n := 23) rfl ?_
    refine dk_iload_n (i := 1) C dX9_beastTurns_23 (n := 24) rfl rfl rfl ?_
    refine dk_aload_n (i := 0) C dX9_beastTurns_24 (n := 25) rfl rfl rfl ?_
    refine gf_X9_65 C (hmi 60 (by decide) (by decide)) dX9_beastTurns_25 (n := 28) rfl ?_
    refine dk_iconst (v := 0) C dX9_beastTurns_28 (n := 29) rfl (by decide) ?_
    refine dk_iald C dk_sh76 h.1 (hmi 76 (by decide) (by decide)) dX9_beastTurns_29 (n := 30) rfl ?_
    have h := h.2
    refine dk_iast C dk_sh81 h.1 (hmi 81 (by decide) (by decide)) dX9_beastTurns_30 (n := 31) rfl ?_
    refine dk_nameS (fun s3 es3 => ?_)
    have h := h.2 s3 es3
    refine dk_sub (L0 := [some (dk_r G 4 60), some (.int a1), none, none]) ⟨rfl, ⟨rfl, trivial⟩⟩ ?_
    exact ww_X9_beastTurns_31 C hr hlk hmi  a1 s3 h
/-! X9_goesToHero -/
set_option maxRecDepth 20000 in
set_option maxHeartbeats 4000000 in
theorem ww_X9_goesToHero_0 {G : dk_G} {P : Program} {l : Launch} {e : Env} {S0 : State} {m : MethodId} {args : Array Value} {bel : List Frame} {meth : Method} {c : Code}  (C : dk_C G P (dk_rm 7) S0 m args c 0 0 cX9_goesToHero 3 RX9) (hr : meth.sig.returnType = none) (hlk : meth.locks = false) (hmi : dk_MI G) {K : dk_S → Prop}  : ∀ (n : Nat)  (s : dk_S), wf_X9_goesToHero_0 K n  s → dk_W G P l e (dk_rm 7) S0 m args bel meth c 0 0 (MQ bel (dk_Qc G (dk_kv K)) args S0 0 0 (dk_A G)) 0 [some (dk_r G 4 60), none, none] [] s := by
  intro n
  induction n with
  | zero => intro s h; exact False.elim h
  | succ n hB =>
    intro s h
    unfold wf_X9_goesToHero_0 at h
    refine dk_aload_n (i := 0) C dX9_goesToHero_0 (n := 1) rfl rfl rfl ?_
    refine dk_callVi C [] (cc_X9_isOn C.D hmi h) yy_X9_isOn dk_wm_X9_145 dk_sh60 (hmi 60 (by decide) (by decide)) dX9_goesToHero_1 (fun r3 s2 h => ?_) rfl rfl ⟨Nat.le_of_ble_eq_true rfl, Nat.le_of_ble_eq_true rfl⟩ rfl (Nat.le_of_ble_eq_true rfl) rfl (n := 4) rfl
    refine dk_if_eq (t := 53) C dX9_goesToHero_4 (n := 7) rfl (by decide) (fun c13 => ?_) (fun c13 => ?_)
    · have h := h.1 c13
      exact dk_vret C hr hlk dX9_goesToHero_53 ⟨rfl, h⟩
    · have h := h.2 c13
      refine dk_aload_n (i := 0) C dX9_goesToHero_7 (n := 8) rfl rfl rfl ?_
      refine dk_callVi C [] (cc_X9_nextTurn C.D hmi h) yy_X9_nextTurn dk_wm_X9_212 dk_sh60 (hmi 60 (by decide) (by decide)) dX9_goesToHero_8 (fun r5 s4 h => ?_) rfl rfl ⟨Nat.le_of_ble_eq_true rfl, Nat.le_of_ble_eq_true rfl⟩ rfl (Nat.le_of_ble_eq_true rfl) rfl (n := 11) rfl
      refine dk_istore_n (i := 1) (L' := [some (dk_r G 4 60), some (.int r5), none]) C dX9_goesToHero_11 (n := 12) rfl rfl (dk_nc_of rfl) (Nat.le_of_ble_eq_true rfl) rfl ?_
      refine dk_iload_n (i := 1) C dX9_goesToHero_12 (n := 13) rfl rfl rfl ?_
      refine dk_if_ne (t := 17) C dX9_goesToHero_13 (n := 16) rfl (by decide) (fun c12 => ?_) (fun c12 => ?_)
      · have h := h.1 c12
        refine dk_iload_n (i := 1) C dX9_goesToHero_17 (n := 18) rfl rfl rfl ?_
        refine dk_iconst (v := (-1)) C dX9_goesToHero_18 (n := 19) rfl (by decide) ?_
        refine dk_icmp_ne (t := 29) C dX9_goesToHero_19 (n := 22) rfl (by decide) (fun c11 => ?_) (fun c11 => ?_)
        · have h := h.1 c11
          refine dk_aload_n (i := 0) C dX9_goesToHero_29 (n := 30) rfl rfl rfl ?_
          refine gf_X9_71 C (hmi 60 (by decide) (by decide)) dX9_goesToHero_30 (n := 33) rfl ?_
          refine dk_iload_n (i := 1) C dX9_goesToHero_33 (n := 34) rfl rfl rfl ?_
          refine dk_dup2 C dX9_goesToHero_34 (n := 35) rfl rfl rfl ?_
          refine dk_iald C dk_sh78 h.1 (hmi 78 (by decide) (by decide)) dX9_goesToHero_35 (n := 36) rfl ?_
          have h := h.2
          refine dk_bipush (v := 12) C dX9_goesToHero_36 (n := 38) rfl (by decide) ?_
          refine dk_isub C dX9_goesToHero_38 (n := 39) rfl ?_
          refine dk_iast C dk_sh78 h.1 (hmi 78 (by decide) (by decide)) dX9_goesToHero_39 (n := 40) rfl ?_
          refine dk_nameS (fun s6 es6 => ?_)
          have h := h.2 s6 es6
          refine dk_aload_n (i := 0) C dX9_goesToHero_40 (n := 41) rfl rfl rfl ?_
          refine dk_iload_n (i := 1) C dX9_goesToHero_41 (n := 42) rfl rfl rfl ?_
          refine dk_callVv C [] (cc_X9_beastTurns C.D hmi h) yy_X9_beastTurns dk_wm_X9_219 dk_sh60 (hmi 60 (by decide) (by decide)) dX9_goesToHero_42 (fun s7 h => ?_) rfl rfl ⟨Nat.le_of_ble_eq_true rfl, Nat.le_of_ble_eq_true rfl⟩ rfl (Nat.le_of_ble_eq_true rfl) rfl (n := 45) rfl
          refine dk_aload_n (i := 0) C dX9_goesToHero_45 (n := 46) rfl rfl rfl ?_
          refine dk_callVi C [] (cc_X9_isWorldOver C.D hmi h) yy_X9_isWorldOver dk_wm_X9_223 dk_sh60 (hmi 60 (by decide) (by decide)) dX9_goesToHero_46 (fun r9 s8 h => ?_) rfl rfl ⟨Nat.le_of_ble_eq_true rfl, Nat.le_of_ble_eq_true rfl⟩ rfl (Nat.le_of_ble_eq_true rfl) rfl (n := 49) rfl
          refine dk_istore_n (i := 2) (L' := [some (dk_r G 4 60), some (.int r5), some (.int r9)]) C dX9_goesToHero_49 (n := 50) rfl rfl (dk_nc_of rfl) (Nat.le_of_ble_eq_true rfl) rfl ?_
          refine dk_goto (t := 0) C dX9_goesToHero_50 (by decide) ?_
          refine dk_sub (L0 := [some (dk_r G 4 60), none, none]) ⟨rfl, trivial⟩ ?_
          exact hB  s8 h
        · have h := h.2 c11
          refine dk_aload_n (i := 0) C dX9_goesToHero_22 (n := 23) rfl rfl rfl ?_
          refine dk_callVv C [] (cc_X9_ticks C.D hmi h) yy_X9_ticks dk_wm_X9_216 dk_sh60 (hmi 60 (by decide) (by decide)) dX9_goesToHero_23 (fun s10 h => ?_) rfl rfl ⟨Nat.le_of_ble_eq_true rfl, Nat.le_of_ble_eq_true rfl⟩ rfl (Nat.le_of_ble_eq_true rfl) rfl (n := 26) rfl
          refine dk_goto (t := 0) C dX9_goesToHero_26 (by decide) ?_
          refine dk_sub (L0 := [some (dk_r G 4 60), none, none]) ⟨rfl, trivial⟩ ?_
          exact hB  s10 h
      · have h := h.2 c12
        exact dk_vret C hr hlk dX9_goesToHero_16 ⟨rfl, h⟩
set_option maxRecDepth 20000 in
set_option maxHeartbeats 4000000 in
theorem cc_X9_goesToHero {G : dk_G} {l : Launch}  (hD : dk_D G) (hmi : dk_MI G) {s : dk_S} {K : dk_S → Prop} (h : wf_X9_goesToHero s K) : dk_M G l 7 yX9_goesToHero cX9_goesToHero 3 none [dk_r G 4 60] s (dk_kv K) := by
  refine dk_of hD (by decide) [some (dk_r G 4 60), none, none] (fun q hq => hq) rfl (Nat.le_of_ble_eq_true rfl) (fun P e S0 m args bel meth c C hr hlk => ?_)
  unfold wf_X9_goesToHero at h
  obtain ⟨nn1, h⟩ := h
  refine dk_sub (L0 := [some (dk_r G 4 60), none, none]) ⟨rfl, trivial⟩ ?_
  refine ww_X9_goesToHero_0 C hr hlk hmi  nn1 s h
/-! X9_ends -/
set_option maxRecDepth 20000 in
set_option maxHeartbeats 4000000 in
theorem cc_X9_ends {G : dk_G} {l : Launch}  (hD : dk_D G) (hmi : dk_MI G) {s : dk_S} {K : dk_S → Prop} (h : wf_X9_ends s K) : dk_M G l 8 yX9_ends cX9_ends 1 none [dk_r G 4 60] s (dk_kv K) := by
  refine dk_of hD (by decide) [some (dk_r G 4 60)] (fun q hq => hq) rfl (Nat.le_of_ble_eq_true rfl) (fun P e S0 m args bel meth c C hr hlk => ?_)
  unfold wf_X9_ends at h
  refine dk_aload_n (i := 0) C dX9_ends_0 (n := 1) rfl rfl rfl ?_
  refine gf_X9_71 C (hmi 60 (by decide) (by decide)) dX9_ends_1 (n := 4) rfl ?_
  refine dk_iconst (v := 0) C dX9_ends_4 (n := 5) rfl (by decide) ?_
  refine dk_dup2 C dX9_ends_5 (n := 6) rfl rfl rfl ?_
  refine dk_iald C dk_sh78 h.1 (hmi 78 (by decide) (by decide)) dX9_ends_6 (n := 7) rfl ?_
  have h := h.2
  refine dk_bipush (v := 12) C dX9_ends_7 (n := 9) rfl (by decide) ?_
  refine dk_isub C dX9_ends_9 (n := 10) rfl ?_
  refine dk_iast C dk_sh78 h.1 (hmi 78 (by decide) (by decide)) dX9_ends_10 (n := 11) rfl ?_
  refine dk_nameS (fun s1 es1 => ?_)
  have h := h.2 s1 es1
  refine dk_aload_n (i := 0) C dX9_ends_11 (n := 12) rfl rfl rfl ?_
  refine dk_callVi C [] (cc_X9_isWorldOver C.D hmi h) yy_X9_isWorldOver dk_wm_X9_223 dk_sh60 (hmi 60 (by decide) (by decide)) dX9_ends_12 (fun r3 s2 h => ?_) rfl rfl ⟨Nat.le_of_ble_eq_true rfl, Nat.le_of_ble_eq_true rfl⟩ rfl (Nat.le_of_ble_eq_true rfl) rfl (n := 15) rfl
  refine dk_if_ne (t := 22) C dX9_ends_15 (n := 18) rfl (by decide) (fun c5 => ?_) (fun c5 => ?_)
  · have h := h.1 c5
    exact dk_vret C hr hlk dX9_ends_22 ⟨rfl, h⟩
  · have h := h.2 c5
    refine dk_aload_n (i := 0) C dX9_ends_18 (n := 19) rfl rfl rfl ?_
    refine dk_callVv C [] (cc_X9_goesToHero C.D hmi h) yy_X9_goesToHero dk_wm_X9_226 dk_sh60 (hmi 60 (by decide) (by decide)) dX9_ends_19 (fun s4 h => ?_) rfl rfl ⟨Nat.le_of_ble_eq_true rfl, Nat.le_of_ble_eq_true rfl⟩ rfl (Nat.le_of_ble_eq_true rfl) rfl (n := 22) rfl
    exact dk_vret C hr hlk dX9_ends_22 ⟨rfl, h⟩
/-! X9_isSetWell -/
set_option maxRecDepth 20000 in
set_option maxHeartbeats 4000000 in
theorem ww_X9_isSetWell_41 {G : dk_G} {P : Program} {l : Launch} {e : Env} {S0 : State} {m : MethodId} {args : Array Value} {bel : List Frame} {meth : Method} {c : Code}  (C : dk_C G P (dk_rm 2) S0 m args c 0 0 cX9_isSetWell 4 RX9) (hr : meth.sig.returnType = (some .boolean)) (hlk : meth.locks = false) (hmi : dk_MI G) {K : Int32 → dk_S → Prop} {E77 : Int32 → Int32 → dk_S → Prop} (hE77 : ∀ (x1 : Int32) (x2 : Int32) (s : dk_S), E77 x1 x2 s → dk_W G P l e (dk_rm 2) S0 m args bel meth c 0 0 (MQ bel (dk_Qc G (dk_ki K)) args S0 0 0 (dk_A G)) 77 [some (dk_r G 4 60), some (.int x1), some (.int x2), none] [] s) : ∀ (n : Nat) (x1 : Int32) (x2 : Int32) (x3 : Int32) (s : dk_S), wf_X9_isSetWell_41 K E77 n x1 x2 x3 s → dk_W G P l e (dk_rm 2) S0 m args bel meth c 0 0 (MQ bel (dk_Qc G (dk_ki K)) args S0 0 0 (dk_A G)) 41 [some (dk_r G 4 60), some (.int x1), some (.int x2), some (.int x3)] [] s := by
  intro n
  induction n with
  | zero => intro x1 x2 x3 s h; exact False.elim h
  | succ n hB =>
    intro x1 x2 x3 s h
    unfold wf_X9_isSetWell_41 at h
    refine dk_iload_n (i := 3) C dX9_isSetWell_41 (n := 42) rfl rfl rfl ?_
    refine dk_iload_n (i := 2) C dX9_isSetWell_42 (n := 43) rfl rfl rfl ?_
    refine dk_icmp_ge (t := 77) C dX9_isSetWell_43 (n := 46) rfl (by decide) (fun c27 => ?_) (fun c27 => ?_)
    · have h := h.1 c27
      refine dk_sub (L0 := [some (dk_r G 4 60), some (.int x1), some (.int x2), none]) ⟨rfl, ⟨rfl, ⟨rfl, trivial⟩⟩⟩ ?_
      exact hE77 x1 x2 s h
    · have h := h.2 c27
      refine dk_iload_n (i := 1) C dX9_isSetWell_46 (n := 47) rfl rfl rfl ?_
      refine dk_if_eq (t := 69) C dX9_isSetWell_47 (n := 50) rfl (by decide) (fun c26 => ?_) (fun c26 => ?_)
      · have h := h.1 c26
        refine dk_iconst (v := 0) C dX9_isSetWell_69 (n := 70) rfl (by decide) ?_
        refine dk_istore_n (i := 1) (L' := [some (dk_r G 4 60), some (.int 0), some (.int x2), some (.int x3)]) C dX9_isSetWell_70 (n := 71) rfl rfl (dk_nc_of rfl) (Nat.le_of_ble_eq_true rfl) rfl ?_
        obtain ⟨v22, ev22⟩ : ∃ y : Int32, y = x3 + 1 := ⟨_, rfl⟩
        have h := h v22 ev22
        refine dk_iinc (i := 3) (v := v22) (L' := [some (dk_r G 4 60), some (.int 0), some (.int x2), some (.int v22)]) C dX9_isSetWell_71 (n := 74) rfl rfl (by rw [ev22]; rfl) (dk_nc_of rfl) (Nat.le_of_ble_eq_true rfl) rfl ?_
        refine dk_goto (t := 41) C dX9_isSetWell_74 (by decide) ?_
        refine dk_sub (L0 := [some (dk_r G 4 60), some (.int 0), some (.int x2), some (.int v22)]) ⟨rfl, ⟨rfl, ⟨rfl, ⟨rfl, trivial⟩⟩⟩⟩ ?_
        exact hB 0 x2 v22 s h
      · have h := h.2 c26
        refine dk_aload_n (i := 0) C dX9_isSetWell_50 (n := 51) rfl rfl rfl ?_
        refine gf_X9_38 C (hmi 60 (by decide) (by decide)) dX9_isSetWell_51 (n := 54) rfl ?_
        refine dk_iload_n (i := 3) C dX9_isSetWell_54 (n := 55) rfl rfl rfl ?_
        refine dk_iald C dk_sh67 h.1 (hmi 67 (by decide) (by decide)) dX9_isSetWell_55 (n := 56) rfl ?_
        have h := h.2
        refine dk_aload_n (i := 0) C dX9_isSetWell_56 (n := 57) rfl rfl rfl ?_
        refine gf_X9_38 C (hmi 60 (by decide) (by decide)) dX9_isSetWell_57 (n := 60) rfl ?_
        refine dk_iload_n (i := 2) C dX9_isSetWell_60 (n := 61) rfl rfl rfl ?_
        refine dk_iald C dk_sh67 h.1 (hmi 67 (by decide) (by decide)) dX9_isSetWell_61 (n := 62) rfl ?_
        have h := h.2
        refine dk_icmp_eq (t := 69) C dX9_isSetWell_62 (n := 65) rfl (by decide) (fun c25 => ?_) (fun c25 => ?_)
        · have h := h.1 c25
          refine dk_iconst (v := 0) C dX9_isSetWell_69 (n := 70) rfl (by decide) ?_
          refine dk_istore_n (i := 1) (L' := [some (dk_r G 4 60), some (.int 0), some (.int x2), some (.int x3)]) C dX9_isSetWell_70 (n := 71) rfl rfl (dk_nc_of rfl) (Nat.le_of_ble_eq_true rfl) rfl ?_
          obtain ⟨v23, ev23⟩ : ∃ y : Int32, y = x3 + 1 := ⟨_, rfl⟩
          have h := h v23 ev23
          refine dk_iinc (i := 3) (v := v23) (L' := [some (dk_r G 4 60), some (.int 0), some (.int x2), some (.int v23)]) C dX9_isSetWell_71 (n := 74) rfl rfl (by rw [ev23]; rfl) (dk_nc_of rfl) (Nat.le_of_ble_eq_true rfl) rfl ?_
          refine dk_goto (t := 41) C dX9_isSetWell_74 (by decide) ?_
          refine dk_sub (L0 := [some (dk_r G 4 60), some (.int 0), some (.int x2), some (.int v23)]) ⟨rfl, ⟨rfl, ⟨rfl, ⟨rfl, trivial⟩⟩⟩⟩ ?_
          exact hB 0 x2 v23 s h
        · have h := h.2 c25
          refine dk_iconst (v := 1) C dX9_isSetWell_65 (n := 66) rfl (by decide) ?_
          refine dk_goto (t := 70) C dX9_isSetWell_66 (by decide) ?_
          refine dk_istore_n (i := 1) (L' := [some (dk_r G 4 60), some (.int 1), some (.int x2), some (.int x3)]) C dX9_isSetWell_70 (n := 71) rfl rfl (dk_nc_of rfl) (Nat.le_of_ble_eq_true rfl) rfl ?_
          obtain ⟨v24, ev24⟩ : ∃ y : Int32, y = x3 + 1 := ⟨_, rfl⟩
          have h := h v24 ev24
          refine dk_iinc (i := 3) (v := v24) (L' := [some (dk_r G 4 60), some (.int 1), some (.int x2), some (.int v24)]) C dX9_isSetWell_71 (n := 74) rfl rfl (by rw [ev24]; rfl) (dk_nc_of rfl) (Nat.le_of_ble_eq_true rfl) rfl ?_
          refine dk_goto (t := 41) C dX9_isSetWell_74 (by decide) ?_
          refine dk_sub (L0 := [some (dk_r G 4 60), some (.int 1), some (.int x2), some (.int v24)]) ⟨rfl, ⟨rfl, ⟨rfl, ⟨rfl, trivial⟩⟩⟩⟩ ?_
          exact hB 1 x2 v24 s h
set_option maxRecDepth 20000 in
set_option maxHeartbeats 4000000 in
theorem ww_X9_isSetWell_4 {G : dk_G} {P : Program} {l : Launch} {e : Env} {S0 : State} {m : MethodId} {args : Array Value} {bel : List Frame} {meth : Method} {c : Code}  (C : dk_C G P (dk_rm 2) S0 m args c 0 0 cX9_isSetWell 4 RX9) (hr : meth.sig.returnType = (some .boolean)) (hlk : meth.locks = false) (hmi : dk_MI G) {K : Int32 → dk_S → Prop}  : ∀ (n : Nat) (x1 : Int32) (x2 : Int32) (s : dk_S), wf_X9_isSetWell_4 K n x1 x2 s → dk_W G P l e (dk_rm 2) S0 m args bel meth c 0 0 (MQ bel (dk_Qc G (dk_ki K)) args S0 0 0 (dk_A G)) 4 [some (dk_r G 4 60), some (.int x1), some (.int x2), none] [] s := by
  intro n
  induction n with
  | zero => intro x1 x2 s h; exact False.elim h
  | succ n hB =>
    intro x1 x2 s h
    unfold wf_X9_isSetWell_4 at h
    refine dk_iload_n (i := 2) C dX9_isSetWell_4 (n := 5) rfl rfl rfl ?_
    refine dk_aload_n (i := 0) C dX9_isSetWell_5 (n := 6) rfl rfl rfl ?_
    refine gf_X9_34 C (hmi 60 (by decide) (by decide)) dX9_isSetWell_6 (n := 9) rfl ?_
    refine dk_icmp_ge (t := 83) C dX9_isSetWell_9 (n := 12) rfl (by decide) (fun c21 => ?_) (fun c21 => ?_)
    · have h := h.1 c21
      refine dk_iload_n (i := 1) C dX9_isSetWell_83 (n := 84) rfl rfl rfl ?_
      exact dk_iret C hr hlk h.1 dX9_isSetWell_84 ⟨_, rfl, h.2⟩
    · have h := h.2 c21
      refine dk_iload_n (i := 1) C dX9_isSetWell_12 (n := 13) rfl rfl rfl ?_
      refine dk_if_eq (t := 37) C dX9_isSetWell_13 (n := 16) rfl (by decide) (fun c20 => ?_) (fun c20 => ?_)
      · have h := h.1 c20
        refine dk_iconst (v := 0) C dX9_isSetWell_37 (n := 38) rfl (by decide) ?_
        refine dk_istore_n (i := 1) (L' := [some (dk_r G 4 60), some (.int 0), some (.int x2), none]) C dX9_isSetWell_38 (n := 39) rfl rfl (dk_nc_of rfl) (Nat.le_of_ble_eq_true rfl) rfl ?_
        refine dk_iconst (v := 0) C dX9_isSetWell_39 (n := 40) rfl (by decide) ?_
        refine dk_istore_n (i := 3) (L' := [some (dk_r G 4 60), some (.int 0), some (.int x2), some (.int 0)]) C dX9_isSetWell_40 (n := 41) rfl rfl (dk_nc_of rfl) (Nat.le_of_ble_eq_true rfl) rfl ?_
        obtain ⟨nn6, h⟩ := h
        refine dk_sub (L0 := [some (dk_r G 4 60), some (.int 0), some (.int x2), some (.int 0)]) ⟨rfl, ⟨rfl, ⟨rfl, ⟨rfl, trivial⟩⟩⟩⟩ ?_
        refine ww_X9_isSetWell_41 C hr hlk hmi (fun w2 w3 s4 h => ?_) nn6 0 x2 0 s h
        · obtain ⟨v5, ev5⟩ : ∃ y : Int32, y = w3 + 1 := ⟨_, rfl⟩
          have h := h v5 ev5
          refine dk_iinc (i := 2) (v := v5) (L' := [some (dk_r G 4 60), some (.int w2), some (.int v5), none]) C dX9_isSetWell_77 (n := 80) rfl rfl (by rw [ev5]; rfl) (dk_nc_of rfl) (Nat.le_of_ble_eq_true rfl) rfl ?_
          refine dk_goto (t := 4) C dX9_isSetWell_80 (by decide) ?_
          refine dk_sub (L0 := [some (dk_r G 4 60), some (.int w2), some (.int v5), none]) ⟨rfl, ⟨rfl, ⟨rfl, trivial⟩⟩⟩ ?_
          exact hB w2 v5 s4 h
      · have h := h.2 c20
        refine dk_aload_n (i := 0) C dX9_isSetWell_16 (n := 17) rfl rfl rfl ?_
        refine gf_X9_13 C (hmi 60 (by decide) (by decide)) dX9_isSetWell_17 (n := 20) rfl ?_
        refine dk_aload_n (i := 0) C dX9_isSetWell_20 (n := 21) rfl rfl rfl ?_
        refine gf_X9_38 C (hmi 60 (by decide) (by decide)) dX9_isSetWell_21 (n := 24) rfl ?_
        refine dk_iload_n (i := 2) C dX9_isSetWell_24 (n := 25) rfl rfl rfl ?_
        refine dk_iald C dk_sh67 h.1 (hmi 67 (by decide) (by decide)) dX9_isSetWell_25 (n := 26) rfl ?_
        have h := h.2
        refine dk_cald C dk_sh61 h.1 (hmi 61 (by decide) (by decide)) dX9_isSetWell_26 (n := 27) rfl ?_
        have h := h.2
        refine dk_callSi C [] (cc_X9_isFreeKind C.D  h) yy_X9_isFreeKind dk_wm_X9_129 dX9_isSetWell_27 (fun r8 s7 h => ?_) rfl ⟨Nat.le_of_ble_eq_true rfl, Nat.le_of_ble_eq_true rfl⟩ rfl (Nat.le_of_ble_eq_true rfl) rfl (n := 30) rfl
        refine dk_if_eq (t := 37) C dX9_isSetWell_30 (n := 33) rfl (by decide) (fun c19 => ?_) (fun c19 => ?_)
        · have h := h.1 c19
          refine dk_iconst (v := 0) C dX9_isSetWell_37 (n := 38) rfl (by decide) ?_
          refine dk_istore_n (i := 1) (L' := [some (dk_r G 4 60), some (.int 0), some (.int x2), none]) C dX9_isSetWell_38 (n := 39) rfl rfl (dk_nc_of rfl) (Nat.le_of_ble_eq_true rfl) rfl ?_
          refine dk_iconst (v := 0) C dX9_isSetWell_39 (n := 40) rfl (by decide) ?_
          refine dk_istore_n (i := 3) (L' := [some (dk_r G 4 60), some (.int 0), some (.int x2), some (.int 0)]) C dX9_isSetWell_40 (n := 41) rfl rfl (dk_nc_of rfl) (Nat.le_of_ble_eq_true rfl) rfl ?_
          obtain ⟨nn13, h⟩ := h
          refine dk_sub (L0 := [some (dk_r G 4 60), some (.int 0), some (.int x2), some (.int 0)]) ⟨rfl, ⟨rfl, ⟨rfl, ⟨rfl, trivial⟩⟩⟩⟩ ?_
          refine ww_X9_isSetWell_41 C hr hlk hmi (fun w9 w10 s11 h => ?_) nn13 0 x2 0 s7 h
          · obtain ⟨v12, ev12⟩ : ∃ y : Int32, y = w10 + 1 := ⟨_, rfl⟩
            have h := h v12 ev12
            refine dk_iinc (i := 2) (v := v12) (L' := [some (dk_r G 4 60), some (.int w9), some (.int v12), none]) C dX9_isSetWell_77 (n := 80) rfl rfl (by rw [ev12]; rfl) (dk_nc_of rfl) (Nat.le_of_ble_eq_true rfl) rfl ?_
            refine dk_goto (t := 4) C dX9_isSetWell_80 (by decide) ?_
            refine dk_sub (L0 := [some (dk_r G 4 60), some (.int w9), some (.int v12), none]) ⟨rfl, ⟨rfl, ⟨rfl, trivial⟩⟩⟩ ?_
            exact hB w9 v12 s11 h
        · have h := h.2 c19
          refine dk_iconst (v := 1) C dX9_isSetWell_33 (n := 34) rfl (by decide) ?_
          refine dk_goto (t := 38) C dX9_isSetWell_34 (by decide) ?_
          refine dk_istore_n (i := 1) (L' := [some (dk_r G 4 60), some (.int 1), some (.int x2), none]) C dX9_isSetWell_38 (n := 39) rfl rfl (dk_nc_of rfl) (Nat.le_of_ble_eq_true rfl) rfl ?_
          refine dk_iconst (v := 0) C dX9_isSetWell_39 (n := 40) rfl (by decide) ?_
          refine dk_istore_n (i := 3) (L' := [some (dk_r G 4 60), some (.int 1), some (.int x2), some (.int 0)]) C dX9_isSetWell_40 (n := 41) rfl rfl (dk_nc_of rfl) (Nat.le_of_ble_eq_true rfl) rfl ?_
          obtain ⟨nn18, h⟩ := h
          refine dk_sub (L0 := [some (dk_r G 4 60), some (.int 1), some (.int x2), some (.int 0)]) ⟨rfl, ⟨rfl, ⟨rfl, ⟨rfl, trivial⟩⟩⟩⟩ ?_
          refine ww_X9_isSetWell_41 C hr hlk hmi (fun w14 w15 s16 h => ?_) nn18 1 x2 0 s7 h
          · obtain ⟨v17, ev17⟩ : ∃ y : Int32, y = w15 + 1 := ⟨_, rfl⟩
            have h := h v17 ev17
            refine dk_iinc (i := 2) (v := v17) (L' := [some (dk_r G 4 60), some (.int w14), some (.int v17), none]) C dX9_isSetWell_77 (n := 80) rfl rfl (by rw [ev17]; rfl) (dk_nc_of rfl) (Nat.le_of_ble_eq_true rfl) rfl ?_
            refine dk_goto (t := 4) C dX9_isSetWell_80 (by decide) ?_
            refine dk_sub (L0 := [some (dk_r G 4 60), some (.int w14), some (.int v17), none]) ⟨rfl, ⟨rfl, ⟨rfl, trivial⟩⟩⟩ ?_
            exact hB w14 v17 s16 h
set_option maxRecDepth 20000 in
set_option maxHeartbeats 4000000 in
theorem cc_X9_isSetWell {G : dk_G} {l : Launch}  (hD : dk_D G) (hmi : dk_MI G) {s : dk_S} {K : Int32 → dk_S → Prop} (h : wf_X9_isSetWell s K) : dk_M G l 2 yX9_isSetWell cX9_isSetWell 4 (some .boolean) [dk_r G 4 60] s (dk_ki K) := by
  refine dk_of hD (by decide) [some (dk_r G 4 60), none, none, none] (fun q hq => hq) rfl (Nat.le_of_ble_eq_true rfl) (fun P e S0 m args bel meth c C hr hlk => ?_)
  unfold wf_X9_isSetWell at h
  refine dk_iconst (v := 1) C dX9_isSetWell_0 (n := 1) rfl (by decide) ?_
  refine dk_istore_n (i := 1) (L' := [some (dk_r G 4 60), some (.int 1), none, none]) C dX9_isSetWell_1 (n := 2) rfl rfl (dk_nc_of rfl) (Nat.le_of_ble_eq_true rfl) rfl ?_
  refine dk_iconst (v := 0) C dX9_isSetWell_2 (n := 3) rfl (by decide) ?_
  refine dk_istore_n (i := 2) (L' := [some (dk_r G 4 60), some (.int 1), some (.int 0), none]) C dX9_isSetWell_3 (n := 4) rfl rfl (dk_nc_of rfl) (Nat.le_of_ble_eq_true rfl) rfl ?_
  obtain ⟨nn1, h⟩ := h
  refine dk_sub (L0 := [some (dk_r G 4 60), some (.int 1), some (.int 0), none]) ⟨rfl, ⟨rfl, ⟨rfl, trivial⟩⟩⟩ ?_
  refine ww_X9_isSetWell_4 C hr hlk hmi  nn1 1 0 s h
/-! X9_begin -/
set_option maxRecDepth 20000 in
set_option maxHeartbeats 4000000 in
theorem ww_X9_begin_82 {G : dk_G} {P : Program} {l : Launch} {e : Env} {S0 : State} {m : MethodId} {args : Array Value} {bel : List Frame} {meth : Method} {c : Code}  (C : dk_C G P (dk_rm 8) S0 m args c 0 0 cX9_begin 4 RX9) (hr : meth.sig.returnType = (some .int)) (hlk : meth.locks = false) (hmi : dk_MI G) {K : Int32 → dk_S → Prop}  : ∀ (n : Nat) (x2 : Int32) (x3 : Int32) (s : dk_S), wf_X9_begin_82 K n x2 x3 s → dk_W G P l e (dk_rm 8) S0 m args bel meth c 0 0 (MQ bel (dk_Qc G (dk_ki K)) args S0 0 0 (dk_A G)) 82 [some (dk_r G 4 60), none, some (.int x2), some (.int x3)] [] s := by
  intro n
  induction n with
  | zero => intro x2 x3 s h; exact False.elim h
  | succ n hB =>
    intro x2 x3 s h
    unfold wf_X9_begin_82 at h
    refine dk_iload_n (i := 3) C dX9_begin_82 (n := 83) rfl rfl rfl ?_
    refine dk_aload_n (i := 0) C dX9_begin_83 (n := 84) rfl rfl rfl ?_
    refine gf_X9_162 C (hmi 60 (by decide) (by decide)) dX9_begin_84 (n := 87) rfl ?_
    refine dk_icmp_ge (t := 138) C dX9_begin_87 (n := 90) rfl (by decide) (fun c31 => ?_) (fun c31 => ?_)
    · have h := h.1 c31
      refine dk_aload_n (i := 0) C dX9_begin_138 (n := 139) rfl rfl rfl ?_
      refine dk_callVv C [] (cc_X9_goesToHero C.D hmi h) yy_X9_goesToHero dk_wm_X9_226 dk_sh60 (hmi 60 (by decide) (by decide)) dX9_begin_139 (fun s21 h => ?_) rfl rfl ⟨Nat.le_of_ble_eq_true rfl, Nat.le_of_ble_eq_true rfl⟩ rfl (Nat.le_of_ble_eq_true rfl) rfl (n := 142) rfl
      refine dk_aload_n (i := 0) C dX9_begin_142 (n := 143) rfl rfl rfl ?_
      refine gf_X9_133 C (hmi 60 (by decide) (by decide)) dX9_begin_143 (n := 146) rfl ?_
      exact dk_iret C hr hlk rfl dX9_begin_146 ⟨_, rfl, h⟩
    · have h := h.2 c31
      refine dk_iload_n (i := 2) C dX9_begin_90 (n := 91) rfl rfl rfl ?_
      refine dk_if_eq (t := 138) C dX9_begin_91 (n := 94) rfl (by decide) (fun c30 => ?_) (fun c30 => ?_)
      · have h := h.1 c30
        refine dk_aload_n (i := 0) C dX9_begin_138 (n := 139) rfl rfl rfl ?_
        refine dk_callVv C [] (cc_X9_goesToHero C.D hmi h) yy_X9_goesToHero dk_wm_X9_226 dk_sh60 (hmi 60 (by decide) (by decide)) dX9_begin_139 (fun s22 h => ?_) rfl rfl ⟨Nat.le_of_ble_eq_true rfl, Nat.le_of_ble_eq_true rfl⟩ rfl (Nat.le_of_ble_eq_true rfl) rfl (n := 142) rfl
        refine dk_aload_n (i := 0) C dX9_begin_142 (n := 143) rfl rfl rfl ?_
        refine gf_X9_133 C (hmi 60 (by decide) (by decide)) dX9_begin_143 (n := 146) rfl ?_
        exact dk_iret C hr hlk rfl dX9_begin_146 ⟨_, rfl, h⟩
      · have h := h.2 c30
        refine dk_aload_n (i := 0) C dX9_begin_94 (n := 95) rfl rfl rfl ?_
        refine gf_X9_92 C (hmi 60 (by decide) (by decide)) dX9_begin_95 (n := 98) rfl ?_
        refine dk_iload_n (i := 3) C dX9_begin_98 (n := 99) rfl rfl rfl ?_
        refine dk_zald C dk_sh84 h.1 (hmi 84 (by decide) (by decide)) dX9_begin_99 (n := 100) rfl ?_
        have h := h.2
        refine dk_if_eq (t := 132) C dX9_begin_100 (n := 103) rfl (by decide) (fun c29 => ?_) (fun c29 => ?_)
        · have h := h.1 c29
          obtain ⟨v23, ev23⟩ : ∃ y : Int32, y = x3 + 1 := ⟨_, rfl⟩
          have h := h v23 ev23
          refine dk_iinc (i := 3) (v := v23) (L' := [some (dk_r G 4 60), none, some (.int x2), some (.int v23)]) C dX9_begin_132 (n := 135) rfl rfl (by rw [ev23]; rfl) (dk_nc_of rfl) (Nat.le_of_ble_eq_true rfl) rfl ?_
          refine dk_goto (t := 82) C dX9_begin_135 (by decide) ?_
          refine dk_sub (L0 := [some (dk_r G 4 60), none, some (.int x2), some (.int v23)]) ⟨rfl, ⟨rfl, ⟨rfl, trivial⟩⟩⟩ ?_
          exact hB x2 v23 s h
        · have h := h.2 c29
          refine dk_aload_n (i := 0) C dX9_begin_103 (n := 104) rfl rfl rfl ?_
          refine gf_X9_83 C (hmi 60 (by decide) (by decide)) dX9_begin_104 (n := 107) rfl ?_
          refine dk_iload_n (i := 3) C dX9_begin_107 (n := 108) rfl rfl rfl ?_
          refine dk_aload_n (i := 0) C dX9_begin_108 (n := 109) rfl rfl rfl ?_
          refine gf_X9_95 C (hmi 60 (by decide) (by decide)) dX9_begin_109 (n := 112) rfl ?_
          refine dk_iload_n (i := 3) C dX9_begin_112 (n := 113) rfl rfl rfl ?_
          refine dk_iald C dk_sh85 h.1 (hmi 85 (by decide) (by decide)) dX9_begin_113 (n := 114) rfl ?_
          have h := h.2
          refine dk_iconst (v := (-1)) C dX9_begin_114 (n := 115) rfl (by decide) ?_
          refine dk_icmp_ne (t := 125) C dX9_begin_115 (n := 118) rfl (by decide) (fun c28 => ?_) (fun c28 => ?_)
          · have h := h.1 c28
            refine dk_aload_n (i := 0) C dX9_begin_125 (n := 126) rfl rfl rfl ?_
            refine gf_X9_95 C (hmi 60 (by decide) (by decide)) dX9_begin_126 (n := 129) rfl ?_
            refine dk_iload_n (i := 3) C dX9_begin_129 (n := 130) rfl rfl rfl ?_
            refine dk_iald C dk_sh85 h.1 (hmi 85 (by decide) (by decide)) dX9_begin_130 (n := 131) rfl ?_
            have h := h.2
            refine dk_iast C dk_sh82 h.1 (hmi 82 (by decide) (by decide)) dX9_begin_131 (n := 132) rfl ?_
            refine dk_nameS (fun s24 es24 => ?_)
            have h := h.2 s24 es24
            obtain ⟨v25, ev25⟩ : ∃ y : Int32, y = x3 + 1 := ⟨_, rfl⟩
            have h := h v25 ev25
            refine dk_iinc (i := 3) (v := v25) (L' := [some (dk_r G 4 60), none, some (.int x2), some (.int v25)]) C dX9_begin_132 (n := 135) rfl rfl (by rw [ev25]; rfl) (dk_nc_of rfl) (Nat.le_of_ble_eq_true rfl) rfl ?_
            refine dk_goto (t := 82) C dX9_begin_135 (by decide) ?_
            refine dk_sub (L0 := [some (dk_r G 4 60), none, some (.int x2), some (.int v25)]) ⟨rfl, ⟨rfl, ⟨rfl, trivial⟩⟩⟩ ?_
            exact hB x2 v25 s24 h
          · have h := h.2 c28
            refine dk_aload_n (i := 0) C dX9_begin_118 (n := 119) rfl rfl rfl ?_
            refine gf_X9_89 C (hmi 60 (by decide) (by decide)) dX9_begin_119 (n := 122) rfl ?_
            refine dk_goto (t := 131) C dX9_begin_122 (by decide) ?_
            refine dk_iast C dk_sh82 h.1 (hmi 82 (by decide) (by decide)) dX9_begin_131 (n := 132) rfl ?_
            refine dk_nameS (fun s26 es26 => ?_)
            have h := h.2 s26 es26
            obtain ⟨v27, ev27⟩ : ∃ y : Int32, y = x3 + 1 := ⟨_, rfl⟩
            have h := h v27 ev27
            refine dk_iinc (i := 3) (v := v27) (L' := [some (dk_r G 4 60), none, some (.int x2), some (.int v27)]) C dX9_begin_132 (n := 135) rfl rfl (by rw [ev27]; rfl) (dk_nc_of rfl) (Nat.le_of_ble_eq_true rfl) rfl ?_
            refine dk_goto (t := 82) C dX9_begin_135 (by decide) ?_
            refine dk_sub (L0 := [some (dk_r G 4 60), none, some (.int x2), some (.int v27)]) ⟨rfl, ⟨rfl, ⟨rfl, trivial⟩⟩⟩ ?_
            exact hB x2 v27 s26 h
set_option maxRecDepth 20000 in
set_option maxHeartbeats 4000000 in
theorem ww_X9_begin_28 {G : dk_G} {P : Program} {l : Launch} {e : Env} {S0 : State} {m : MethodId} {args : Array Value} {bel : List Frame} {meth : Method} {c : Code}  (C : dk_C G P (dk_rm 8) S0 m args c 0 0 cX9_begin 4 RX9) (hr : meth.sig.returnType = (some .int)) (hlk : meth.locks = false) (hmi : dk_MI G) {K : Int32 → dk_S → Prop}  : ∀ (x1 : Int32) (y0 : Int32) (s : dk_S), wf_X9_begin_28 K x1 y0 s → dk_W G P l e (dk_rm 8) S0 m args bel meth c 0 0 (MQ bel (dk_Qc G (dk_ki K)) args S0 0 0 (dk_A G)) 28 [some (dk_r G 4 60), some (.int x1), none, none] [.int y0, dk_r G 4 60] s := by
  intro x1 y0 s h
  unfold wf_X9_begin_28 at h
  refine dk_callVi C [] (cc_X9_goesOn C.D hmi h) yy_X9_goesOn dk_wm_X9_149 dk_sh60 (hmi 60 (by decide) (by decide)) dX9_begin_28 (fun r9 s8 h => ?_) rfl rfl ⟨Nat.le_of_ble_eq_true rfl, Nat.le_of_ble_eq_true rfl⟩ rfl (Nat.le_of_ble_eq_true rfl) rfl (n := 31) rfl
  refine dk_if_ne (t := 36) C dX9_begin_31 (n := 34) rfl (by decide) (fun c20 => ?_) (fun c20 => ?_)
  · have h := h.1 c20
    refine dk_aload_n (i := 0) C dX9_begin_36 (n := 37) rfl rfl rfl ?_
    refine dk_callVv C [] (cc_X9_becomesAsTold C.D hmi h) yy_X9_becomesAsTold dk_wm_X9_104 dk_sh60 (hmi 60 (by decide) (by decide)) dX9_begin_37 (fun s10 h => ?_) rfl rfl ⟨Nat.le_of_ble_eq_true rfl, Nat.le_of_ble_eq_true rfl⟩ rfl (Nat.le_of_ble_eq_true rfl) rfl (n := 40) rfl
    refine dk_aload_n (i := 0) C dX9_begin_40 (n := 41) rfl rfl rfl ?_
    refine dk_iload_n (i := 1) C dX9_begin_41 (n := 42) rfl rfl rfl ?_
    refine pf_X9_252 C rfl rfl (hmi 60 (by decide) (by decide)) dX9_begin_42 (n := 45) rfl ?_
    refine dk_nameS (fun s11 es11 => ?_)
    have h := h s11 es11
    refine dk_aload_n (i := 0) C dX9_begin_45 (n := 46) rfl rfl rfl ?_
    refine dk_bipush (v := 111) C dX9_begin_46 (n := 48) rfl (by decide) ?_
    refine pf_X9_7 C (by decide) (by decide) (hmi 60 (by decide) (by decide)) dX9_begin_48 (n := 51) rfl ?_
    refine dk_nameS (fun s12 es12 => ?_)
    have h := h s12 es12
    refine dk_aload_n (i := 0) C dX9_begin_51 (n := 52) rfl rfl rfl ?_
    refine gf_X9_89 C (hmi 60 (by decide) (by decide)) dX9_begin_52 (n := 55) rfl ?_
    refine dk_iconst (v := (-1)) C dX9_begin_55 (n := 56) rfl (by decide) ?_
    refine dk_icmp_eq (t := 78) C dX9_begin_56 (n := 59) rfl (by decide) (fun c19 => ?_) (fun c19 => ?_)
    · have h := h.1 c19
      refine dk_iconst (v := 0) C dX9_begin_78 (n := 79) rfl (by decide) ?_
      refine dk_istore_n (i := 2) (L' := [some (dk_r G 4 60), some (.int x1), some (.int 0), none]) C dX9_begin_79 (n := 80) rfl rfl (dk_nc_of rfl) (Nat.le_of_ble_eq_true rfl) rfl ?_
      refine dk_iconst (v := 0) C dX9_begin_80 (n := 81) rfl (by decide) ?_
      refine dk_istore_n (i := 3) (L' := [some (dk_r G 4 60), some (.int x1), some (.int 0), some (.int 0)]) C dX9_begin_81 (n := 82) rfl rfl (dk_nc_of rfl) (Nat.le_of_ble_eq_true rfl) rfl ?_
      obtain ⟨nn13, h⟩ := h
      refine dk_sub (L0 := [some (dk_r G 4 60), none, some (.int 0), some (.int 0)]) ⟨rfl, ⟨rfl, ⟨rfl, trivial⟩⟩⟩ ?_
      refine ww_X9_begin_82 C hr hlk hmi  nn13 0 0 s12 h
    · have h := h.2 c19
      refine dk_aload_n (i := 0) C dX9_begin_59 (n := 60) rfl rfl rfl ?_
      refine gf_X9_13 C (hmi 60 (by decide) (by decide)) dX9_begin_60 (n := 63) rfl ?_
      refine dk_aload_n (i := 0) C dX9_begin_63 (n := 64) rfl rfl rfl ?_
      refine gf_X9_89 C (hmi 60 (by decide) (by decide)) dX9_begin_64 (n := 67) rfl ?_
      refine dk_cald C dk_sh61 h.1 (hmi 61 (by decide) (by decide)) dX9_begin_67 (n := 68) rfl ?_
      have h := h.2
      refine dk_callSi C [] (cc_X9_isFreeKind C.D  h) yy_X9_isFreeKind dk_wm_X9_129 dX9_begin_68 (fun r15 s14 h => ?_) rfl ⟨Nat.le_of_ble_eq_true rfl, Nat.le_of_ble_eq_true rfl⟩ rfl (Nat.le_of_ble_eq_true rfl) rfl (n := 71) rfl
      refine dk_if_eq (t := 78) C dX9_begin_71 (n := 74) rfl (by decide) (fun c18 => ?_) (fun c18 => ?_)
      · have h := h.1 c18
        refine dk_iconst (v := 0) C dX9_begin_78 (n := 79) rfl (by decide) ?_
        refine dk_istore_n (i := 2) (L' := [some (dk_r G 4 60), some (.int x1), some (.int 0), none]) C dX9_begin_79 (n := 80) rfl rfl (dk_nc_of rfl) (Nat.le_of_ble_eq_true rfl) rfl ?_
        refine dk_iconst (v := 0) C dX9_begin_80 (n := 81) rfl (by decide) ?_
        refine dk_istore_n (i := 3) (L' := [some (dk_r G 4 60), some (.int x1), some (.int 0), some (.int 0)]) C dX9_begin_81 (n := 82) rfl rfl (dk_nc_of rfl) (Nat.le_of_ble_eq_true rfl) rfl ?_
        obtain ⟨nn16, h⟩ := h
        refine dk_sub (L0 := [some (dk_r G 4 60), none, some (.int 0), some (.int 0)]) ⟨rfl, ⟨rfl, ⟨rfl, trivial⟩⟩⟩ ?_
        refine ww_X9_begin_82 C hr hlk hmi  nn16 0 0 s14 h
      · have h := h.2 c18
        refine dk_iconst (v := 1) C dX9_begin_74 (n := 75) rfl (by decide) ?_
        refine dk_goto (t := 79) C dX9_begin_75 (by decide) ?_
        refine dk_istore_n (i := 2) (L' := [some (dk_r G 4 60), some (.int x1), some (.int 1), none]) C dX9_begin_79 (n := 80) rfl rfl (dk_nc_of rfl) (Nat.le_of_ble_eq_true rfl) rfl ?_
        refine dk_iconst (v := 0) C dX9_begin_80 (n := 81) rfl (by decide) ?_
        refine dk_istore_n (i := 3) (L' := [some (dk_r G 4 60), some (.int x1), some (.int 1), some (.int 0)]) C dX9_begin_81 (n := 82) rfl rfl (dk_nc_of rfl) (Nat.le_of_ble_eq_true rfl) rfl ?_
        obtain ⟨nn17, h⟩ := h
        refine dk_sub (L0 := [some (dk_r G 4 60), none, some (.int 1), some (.int 0)]) ⟨rfl, ⟨rfl, ⟨rfl, trivial⟩⟩⟩ ?_
        refine ww_X9_begin_82 C hr hlk hmi  nn17 1 0 s14 h
  · have h := h.2 c20
    refine dk_iconst (v := 0) C dX9_begin_34 (n := 35) rfl (by decide) ?_
    exact dk_iret C hr hlk rfl dX9_begin_35 ⟨_, rfl, h⟩
set_option maxRecDepth 20000 in
set_option maxHeartbeats 4000000 in
theorem cc_X9_begin {G : dk_G} {l : Launch} {a1 : Int32} (hD : dk_D G) (hmi : dk_MI G) {s : dk_S} {K : Int32 → dk_S → Prop} (h : wf_X9_begin a1 s K) : dk_M G l 8 yX9_begin cX9_begin 4 (some .int) [dk_r G 4 60, .int a1] s (dk_ki K) := by
  refine dk_of hD (by decide) [some (dk_r G 4 60), some (.int a1), none, none] (fun q hq => hq) rfl (Nat.le_of_ble_eq_true rfl) (fun P e S0 m args bel meth c C hr hlk => ?_)
  unfold wf_X9_begin at h
  refine dk_aload_n (i := 0) C dX9_begin_0 (n := 1) rfl rfl rfl ?_
  refine dk_iload_n (i := 1) C dX9_begin_1 (n := 2) rfl rfl rfl ?_
  refine dk_if_ge (t := 9) C dX9_begin_2 (n := 5) rfl (by decide) (fun c7 => ?_) (fun c7 => ?_)
  · have h := h.1 c7
    refine dk_aload_n (i := 0) C dX9_begin_9 (n := 10) rfl rfl rfl ?_
    refine dk_callVi C [dk_r G 4 60] (cc_X9_isOn C.D hmi h) yy_X9_isOn dk_wm_X9_145 dk_sh60 (hmi 60 (by decide) (by decide)) dX9_begin_10 (fun r2 s1 h => ?_) rfl rfl ⟨Nat.le_of_ble_eq_true rfl, Nat.le_of_ble_eq_true rfl⟩ rfl (Nat.le_of_ble_eq_true rfl) rfl (n := 13) rfl
    refine dk_if_ne (t := 23) C dX9_begin_13 (n := 16) rfl (by decide) (fun c6 => ?_) (fun c6 => ?_)
    · have h := h.1 c6
      refine dk_iconst (v := 2) C dX9_begin_23 (n := 24) rfl (by decide) ?_
      refine dk_goto (t := 28) C dX9_begin_24 (by decide) ?_
      refine dk_sub (L0 := [some (dk_r G 4 60), some (.int a1), none, none]) ⟨rfl, ⟨rfl, trivial⟩⟩ ?_
      exact ww_X9_begin_28 C hr hlk hmi  a1 2 s1 h
    · have h := h.2 c6
      refine dk_aload_n (i := 0) C dX9_begin_16 (n := 17) rfl rfl rfl ?_
      refine dk_callVi C [dk_r G 4 60] (cc_X9_isSetWell C.D hmi h) yy_X9_isSetWell dk_wm_X9_249 dk_sh60 (hmi 60 (by decide) (by decide)) dX9_begin_17 (fun r4 s3 h => ?_) rfl rfl ⟨Nat.le_of_ble_eq_true rfl, Nat.le_of_ble_eq_true rfl⟩ rfl (Nat.le_of_ble_eq_true rfl) rfl (n := 20) rfl
      refine dk_if_ne (t := 27) C dX9_begin_20 (n := 23) rfl (by decide) (fun c5 => ?_) (fun c5 => ?_)
      · have h := h.1 c5
        refine dk_iconst (v := 0) C dX9_begin_27 (n := 28) rfl (by decide) ?_
        refine dk_sub (L0 := [some (dk_r G 4 60), some (.int a1), none, none]) ⟨rfl, ⟨rfl, trivial⟩⟩ ?_
        exact ww_X9_begin_28 C hr hlk hmi  a1 0 s3 h
      · have h := h.2 c5
        refine dk_iconst (v := 2) C dX9_begin_23 (n := 24) rfl (by decide) ?_
        refine dk_goto (t := 28) C dX9_begin_24 (by decide) ?_
        refine dk_sub (L0 := [some (dk_r G 4 60), some (.int a1), none, none]) ⟨rfl, ⟨rfl, trivial⟩⟩ ?_
        exact ww_X9_begin_28 C hr hlk hmi  a1 2 s3 h
  · have h := h.2 c7
    refine dk_iconst (v := 1) C dX9_begin_5 (n := 6) rfl (by decide) ?_
    refine dk_goto (t := 28) C dX9_begin_6 (by decide) ?_
    refine dk_sub (L0 := [some (dk_r G 4 60), some (.int a1), none, none]) ⟨rfl, ⟨rfl, trivial⟩⟩ ?_
    exact ww_X9_begin_28 C hr hlk hmi  a1 1 s h
/-! X9_leave -/
set_option maxRecDepth 20000 in
set_option maxHeartbeats 4000000 in
theorem ww_X9_leave_13 {G : dk_G} {P : Program} {l : Launch} {e : Env} {S0 : State} {m : MethodId} {args : Array Value} {bel : List Frame} {meth : Method} {c : Code}  (C : dk_C G P (dk_rm 2) S0 m args c 0 0 cX9_leave 1 RX9) (hr : meth.sig.returnType = (some .int)) (hlk : meth.locks = false) (hmi : dk_MI G) {K : Int32 → dk_S → Prop}  : ∀ (y0 : Int32) (s : dk_S), wf_X9_leave_13 K y0 s → dk_W G P l e (dk_rm 2) S0 m args bel meth c 0 0 (MQ bel (dk_Qc G (dk_ki K)) args S0 0 0 (dk_A G)) 13 [some (dk_r G 4 60)] [.int y0, dk_r G 4 60] s := by
  intro y0 s h
  unfold wf_X9_leave_13 at h
  refine dk_callVi C [] (cc_X9_goesOn C.D hmi h) yy_X9_goesOn dk_wm_X9_149 dk_sh60 (hmi 60 (by decide) (by decide)) dX9_leave_13 (fun r5 s4 h => ?_) rfl rfl ⟨Nat.le_of_ble_eq_true rfl, Nat.le_of_ble_eq_true rfl⟩ rfl (Nat.le_of_ble_eq_true rfl) rfl (n := 16) rfl
  refine dk_if_ne (t := 21) C dX9_leave_16 (n := 19) rfl (by decide) (fun c7 => ?_) (fun c7 => ?_)
  · have h := h.1 c7
    refine dk_aload_n (i := 0) C dX9_leave_21 (n := 22) rfl rfl rfl ?_
    refine dk_bipush (v := 108) C dX9_leave_22 (n := 24) rfl (by decide) ?_
    refine pf_X9_7 C (by decide) (by decide) (hmi 60 (by decide) (by decide)) dX9_leave_24 (n := 27) rfl ?_
    refine dk_nameS (fun s6 es6 => ?_)
    have h := h s6 es6
    refine dk_aload_n (i := 0) C dX9_leave_27 (n := 28) rfl rfl rfl ?_
    refine gf_X9_133 C (hmi 60 (by decide) (by decide)) dX9_leave_28 (n := 31) rfl ?_
    exact dk_iret C hr hlk rfl dX9_leave_31 ⟨_, rfl, h⟩
  · have h := h.2 c7
    refine dk_iconst (v := 0) C dX9_leave_19 (n := 20) rfl (by decide) ?_
    exact dk_iret C hr hlk rfl dX9_leave_20 ⟨_, rfl, h⟩
set_option maxRecDepth 20000 in
set_option maxHeartbeats 4000000 in
theorem cc_X9_leave {G : dk_G} {l : Launch}  (hD : dk_D G) (hmi : dk_MI G) {s : dk_S} {K : Int32 → dk_S → Prop} (h : wf_X9_leave s K) : dk_M G l 2 yX9_leave cX9_leave 1 (some .int) [dk_r G 4 60] s (dk_ki K) := by
  refine dk_of hD (by decide) [some (dk_r G 4 60)] (fun q hq => hq) rfl (Nat.le_of_ble_eq_true rfl) (fun P e S0 m args bel meth c C hr hlk => ?_)
  unfold wf_X9_leave at h
  refine dk_aload_n (i := 0) C dX9_leave_0 (n := 1) rfl rfl rfl ?_
  refine dk_aload_n (i := 0) C dX9_leave_1 (n := 2) rfl rfl rfl ?_
  refine dk_callVi C [dk_r G 4 60] (cc_X9_isOn C.D hmi h) yy_X9_isOn dk_wm_X9_145 dk_sh60 (hmi 60 (by decide) (by decide)) dX9_leave_2 (fun r2 s1 h => ?_) rfl rfl ⟨Nat.le_of_ble_eq_true rfl, Nat.le_of_ble_eq_true rfl⟩ rfl (Nat.le_of_ble_eq_true rfl) rfl (n := 5) rfl
  refine dk_if_eq (t := 12) C dX9_leave_5 (n := 8) rfl (by decide) (fun c3 => ?_) (fun c3 => ?_)
  · have h := h.1 c3
    refine dk_iconst (v := 1) C dX9_leave_12 (n := 13) rfl (by decide) ?_
    refine dk_sub (L0 := [some (dk_r G 4 60)]) ⟨rfl, trivial⟩ ?_
    exact ww_X9_leave_13 C hr hlk hmi  1 s1 h
  · have h := h.2 c3
    refine dk_iconst (v := 0) C dX9_leave_8 (n := 9) rfl (by decide) ?_
    refine dk_goto (t := 13) C dX9_leave_9 (by decide) ?_
    refine dk_sub (L0 := [some (dk_r G 4 60)]) ⟨rfl, trivial⟩ ?_
    exact ww_X9_leave_13 C hr hlk hmi  0 s1 h
/-! X9_strikes -/
set_option maxRecDepth 20000 in
set_option maxHeartbeats 4000000 in
theorem ww_X9_strikes_60 {G : dk_G} {P : Program} {l : Launch} {e : Env} {S0 : State} {m : MethodId} {args : Array Value} {bel : List Frame} {meth : Method} {c : Code}  (C : dk_C G P (dk_rm 6) S0 m args c 0 0 cX9_strikes 5 RX9) (hr : meth.sig.returnType = none) (hlk : meth.locks = false) (hmi : dk_MI G) {K : dk_S → Prop}  : ∀ (x1 : Int32) (s : dk_S), wf_X9_strikes_60 K x1 s → dk_W G P l e (dk_rm 6) S0 m args bel meth c 0 0 (MQ bel (dk_Qc G (dk_kv K)) args S0 0 0 (dk_A G)) 60 [some (dk_r G 4 60), some (.int x1), none, none, none] [] s := by
  intro x1 s h
  unfold wf_X9_strikes_60 at h
  refine dk_aload_n (i := 0) C dX9_strikes_60 (n := 61) rfl rfl rfl ?_
  refine dk_aload_n (i := 0) C dX9_strikes_61 (n := 62) rfl rfl rfl ?_
  refine gf_X9_65 C (hmi 60 (by decide) (by decide)) dX9_strikes_62 (n := 65) rfl ?_
  refine dk_iload_n (i := 1) C dX9_strikes_65 (n := 66) rfl rfl rfl ?_
  refine dk_iald C dk_sh76 h.1 (hmi 76 (by decide) (by decide)) dX9_strikes_66 (n := 67) rfl ?_
  have h := h.2
  refine dk_bipush (v := 6) C dX9_strikes_67 (n := 69) rfl (by decide) ?_
  refine dk_callVi C [] (cc_X9_sounds C.D hmi h) yy_X9_sounds dk_wm_X9_238 dk_sh60 (hmi 60 (by decide) (by decide)) dX9_strikes_69 (fun r10 s9 h => ?_) rfl rfl ⟨Nat.le_of_ble_eq_true rfl, Nat.le_of_ble_eq_true rfl⟩ rfl (Nat.le_of_ble_eq_true rfl) rfl (n := 72) rfl
  refine dk_istore (i := 4) (L' := [some (dk_r G 4 60), some (.int x1), none, none, some (.int r10)]) C dX9_strikes_72 (n := 74) rfl (dk_nc_of rfl) (Nat.le_of_ble_eq_true rfl) rfl ?_
  exact dk_vret C hr hlk dX9_strikes_74 ⟨rfl, h⟩
set_option maxRecDepth 20000 in
set_option maxHeartbeats 4000000 in
theorem ww_X9_strikes_22 {G : dk_G} {P : Program} {l : Launch} {e : Env} {S0 : State} {m : MethodId} {args : Array Value} {bel : List Frame} {meth : Method} {c : Code}  (C : dk_C G P (dk_rm 6) S0 m args c 0 0 cX9_strikes 5 RX9) (hr : meth.sig.returnType = none) (hlk : meth.locks = false) (hmi : dk_MI G) {K : dk_S → Prop}  : ∀ (x1 : Int32) (x2 : Int32) (y0 : Int32) (s : dk_S), wf_X9_strikes_22 K x1 x2 y0 s → dk_W G P l e (dk_rm 6) S0 m args bel meth c 0 0 (MQ bel (dk_Qc G (dk_kv K)) args S0 0 0 (dk_A G)) 22 [some (dk_r G 4 60), some (.int x1), some (.int x2), none, none] [.int y0] s := by
  intro x1 x2 y0 s h
  unfold wf_X9_strikes_22 at h
  refine dk_istore_n (i := 3) (L' := [some (dk_r G 4 60), some (.int x1), some (.int x2), some (.int y0), none]) C dX9_strikes_22 (n := 23) rfl rfl (dk_nc_of rfl) (Nat.le_of_ble_eq_true rfl) rfl ?_
  refine dk_aload_n (i := 0) C dX9_strikes_23 (n := 24) rfl rfl rfl ?_
  refine gf_X9_68 C (hmi 60 (by decide) (by decide)) dX9_strikes_24 (n := 27) rfl ?_
  refine dk_iload_n (i := 1) C dX9_strikes_27 (n := 28) rfl rfl rfl ?_
  refine dk_dup2 C dX9_strikes_28 (n := 29) rfl rfl rfl ?_
  refine dk_iald C dk_sh77 h.1 (hmi 77 (by decide) (by decide)) dX9_strikes_29 (n := 30) rfl ?_
  have h := h.2
  refine dk_iload_n (i := 2) C dX9_strikes_30 (n := 31) rfl rfl rfl ?_
  refine dk_isub C dX9_strikes_31 (n := 32) rfl ?_
  refine dk_iast C dk_sh77 h.1 (hmi 77 (by decide) (by decide)) dX9_strikes_32 (n := 33) rfl ?_
  refine dk_nameS (fun s2 es2 => ?_)
  have h := h.2 s2 es2
  refine dk_aload_n (i := 0) C dX9_strikes_33 (n := 34) rfl rfl rfl ?_
  refine dk_iload_n (i := 1) C dX9_strikes_34 (n := 35) rfl rfl rfl ?_
  refine dk_callVi C [] (cc_X9_lives C.D hmi h) yy_X9_lives dk_wm_X9_200 dk_sh60 (hmi 60 (by decide) (by decide)) dX9_strikes_35 (fun r4 s3 h => ?_) rfl rfl ⟨Nat.le_of_ble_eq_true rfl, Nat.le_of_ble_eq_true rfl⟩ rfl (Nat.le_of_ble_eq_true rfl) rfl (n := 38) rfl
  refine dk_if_ne (t := 60) C dX9_strikes_38 (n := 41) rfl (by decide) (fun c8 => ?_) (fun c8 => ?_)
  · have h := h.1 c8
    refine dk_sub (L0 := [some (dk_r G 4 60), some (.int x1), none, none, none]) ⟨rfl, ⟨rfl, trivial⟩⟩ ?_
    exact ww_X9_strikes_60 C hr hlk hmi  x1 s3 h
  · have h := h.2 c8
    refine dk_aload_n (i := 0) C dX9_strikes_41 (n := 42) rfl rfl rfl ?_
    refine dk_dup C dX9_strikes_42 (n := 43) rfl rfl ?_
    refine gf_X9_139 C (hmi 60 (by decide) (by decide)) dX9_strikes_43 (n := 46) rfl ?_
    refine dk_iload_n (i := 3) C dX9_strikes_46 (n := 47) rfl rfl rfl ?_
    refine dk_if_eq (t := 55) C dX9_strikes_47 (n := 50) rfl (by decide) (fun c7 => ?_) (fun c7 => ?_)
    · have h := h.1 c7
      refine dk_iconst (v := 1) C dX9_strikes_55 (n := 56) rfl (by decide) ?_
      refine dk_iadd C dX9_strikes_56 (n := 57) rfl ?_
      refine pf_X9_139 C rfl rfl (hmi 60 (by decide) (by decide)) dX9_strikes_57 (n := 60) rfl ?_
      refine dk_nameS (fun s5 es5 => ?_)
      have h := h s5 es5
      refine dk_sub (L0 := [some (dk_r G 4 60), some (.int x1), none, none, none]) ⟨rfl, ⟨rfl, trivial⟩⟩ ?_
      exact ww_X9_strikes_60 C hr hlk hmi  x1 s5 h
    · have h := h.2 c7
      refine dk_bipush (v := (-2)) C dX9_strikes_50 (n := 52) rfl (by decide) ?_
      refine dk_goto (t := 56) C dX9_strikes_52 (by decide) ?_
      refine dk_iadd C dX9_strikes_56 (n := 57) rfl ?_
      refine pf_X9_139 C rfl rfl (hmi 60 (by decide) (by decide)) dX9_strikes_57 (n := 60) rfl ?_
      refine dk_nameS (fun s6 es6 => ?_)
      have h := h s6 es6
      refine dk_sub (L0 := [some (dk_r G 4 60), some (.int x1), none, none, none]) ⟨rfl, ⟨rfl, trivial⟩⟩ ?_
      exact ww_X9_strikes_60 C hr hlk hmi  x1 s6 h
set_option maxRecDepth 20000 in
set_option maxHeartbeats 4000000 in
theorem cc_X9_strikes {G : dk_G} {l : Launch} {a1 : Int32} {a2 : Int32} (hD : dk_D G) (hmi : dk_MI G) {s : dk_S} {K : dk_S → Prop} (h : wf_X9_strikes a1 a2 s K) : dk_M G l 6 yX9_strikes cX9_strikes 5 none [dk_r G 4 60, .int a1, .int a2] s (dk_kv K) := by
  refine dk_of hD (by decide) [some (dk_r G 4 60), some (.int a1), some (.int a2), none, none] (fun q hq => hq) rfl (Nat.le_of_ble_eq_true rfl) (fun P e S0 m args bel meth c C hr hlk => ?_)
  unfold wf_X9_strikes at h
  refine dk_iconst (v := 3) C dX9_strikes_0 (n := 1) rfl (by decide) ?_
  refine dk_aload_n (i := 0) C dX9_strikes_1 (n := 2) rfl rfl rfl ?_
  refine gf_X9_68 C (hmi 60 (by decide) (by decide)) dX9_strikes_2 (n := 5) rfl ?_
  refine dk_iload_n (i := 1) C dX9_strikes_5 (n := 6) rfl rfl rfl ?_
  refine dk_iald C dk_sh77 h.1 (hmi 77 (by decide) (by decide)) dX9_strikes_6 (n := 7) rfl ?_
  have h := h.2
  refine dk_imul C dX9_strikes_7 (n := 8) rfl ?_
  refine dk_aload_n (i := 0) C dX9_strikes_8 (n := 9) rfl rfl rfl ?_
  refine gf_X9_47 C (hmi 60 (by decide) (by decide)) dX9_strikes_9 (n := 12) rfl ?_
  refine dk_iload_n (i := 1) C dX9_strikes_12 (n := 13) rfl rfl rfl ?_
  refine dk_iald C dk_sh70 h.1 (hmi 70 (by decide) (by decide)) dX9_strikes_13 (n := 14) rfl ?_
  have h := h.2
  refine dk_icmp_ge (t := 21) C dX9_strikes_14 (n := 17) rfl (by decide) (fun c1 => ?_) (fun c1 => ?_)
  · have h := h.1 c1
    refine dk_iconst (v := 0) C dX9_strikes_21 (n := 22) rfl (by decide) ?_
    refine dk_sub (L0 := [some (dk_r G 4 60), some (.int a1), some (.int a2), none, none]) ⟨rfl, ⟨rfl, ⟨rfl, trivial⟩⟩⟩ ?_
    exact ww_X9_strikes_22 C hr hlk hmi  a1 a2 0 s h
  · have h := h.2 c1
    refine dk_iconst (v := 1) C dX9_strikes_17 (n := 18) rfl (by decide) ?_
    refine dk_goto (t := 22) C dX9_strikes_18 (by decide) ?_
    refine dk_sub (L0 := [some (dk_r G 4 60), some (.int a1), some (.int a2), none, none]) ⟨rfl, ⟨rfl, ⟨rfl, trivial⟩⟩⟩ ?_
    exact ww_X9_strikes_22 C hr hlk hmi  a1 a2 1 s h
/-! X9_works -/
set_option maxRecDepth 20000 in
set_option maxHeartbeats 4000000 in
theorem cc_X9_works {G : dk_G} {l : Launch} {a1 : Int32} {a2 : Int32} (hD : dk_D G) (hmi : dk_MI G) {s : dk_S} {K : dk_S → Prop} (h : wf_X9_works a1 a2 s K) : dk_M G l 1 yX9_works cX9_works 4 none [dk_r G 4 60, .int a1, .int a2] s (dk_kv K) := by
  refine dk_of hD (by decide) [some (dk_r G 4 60), some (.int a1), some (.int a2), none] (fun q hq => hq) rfl (Nat.le_of_ble_eq_true rfl) (fun P e S0 m args bel meth c C hr hlk => ?_)
  unfold wf_X9_works at h
  refine dk_aload_n (i := 0) C dX9_works_0 (n := 1) rfl rfl rfl ?_
  refine gf_X9_28 C (hmi 60 (by decide) (by decide)) dX9_works_1 (n := 4) rfl ?_
  refine dk_iload_n (i := 1) C dX9_works_4 (n := 5) rfl rfl rfl ?_
  refine dk_iald C dk_sh65 h.1 (hmi 65 (by decide) (by decide)) dX9_works_5 (n := 6) rfl ?_
  have h := h.2
  refine dk_name (fun v1 ev1 => ?_)
  have h := h v1 ev1
  refine dk_istore_n (i := 3) (L' := [some (dk_r G 4 60), some (.int a1), some (.int a2), some (.int v1)]) C dX9_works_6 (n := 7) rfl rfl (dk_nc_of rfl) (Nat.le_of_ble_eq_true rfl) rfl ?_
  refine dk_aload_n (i := 0) C dX9_works_7 (n := 8) rfl rfl rfl ?_
  refine gf_X9_25 C (hmi 60 (by decide) (by decide)) dX9_works_8 (n := 11) rfl ?_
  refine dk_iload_n (i := 1) C dX9_works_11 (n := 12) rfl rfl rfl ?_
  refine dk_cald C dk_sh64 h.1 (hmi 64 (by decide) (by decide)) dX9_works_12 (n := 13) rfl ?_
  have h := h.2
  refine dk_bipush (v := 104) C dX9_works_13 (n := 15) rfl (by decide) ?_
  refine dk_icmp_ne (t := 61) C dX9_works_15 (n := 18) rfl (by decide) (fun c13 => ?_) (fun c13 => ?_)
  · have h := h.1 c13
    refine dk_aload_n (i := 0) C dX9_works_61 (n := 62) rfl rfl rfl ?_
    refine gf_X9_25 C (hmi 60 (by decide) (by decide)) dX9_works_62 (n := 65) rfl ?_
    refine dk_iload_n (i := 1) C dX9_works_65 (n := 66) rfl rfl rfl ?_
    refine dk_cald C dk_sh64 h.1 (hmi 64 (by decide) (by decide)) dX9_works_66 (n := 67) rfl ?_
    have h := h.2
    refine dk_bipush (v := 100) C dX9_works_67 (n := 69) rfl (by decide) ?_
    refine dk_icmp_ne (t := 85) C dX9_works_69 (n := 72) rfl (by decide) (fun c9 => ?_) (fun c9 => ?_)
    · have h := h.1 c9
      refine dk_aload_n (i := 0) C dX9_works_85 (n := 86) rfl rfl rfl ?_
      refine gf_X9_25 C (hmi 60 (by decide) (by decide)) dX9_works_86 (n := 89) rfl ?_
      refine dk_iload_n (i := 1) C dX9_works_89 (n := 90) rfl rfl rfl ?_
      refine dk_cald C dk_sh64 h.1 (hmi 64 (by decide) (by decide)) dX9_works_90 (n := 91) rfl ?_
      have h := h.2
      refine dk_bipush (v := 115) C dX9_works_91 (n := 93) rfl (by decide) ?_
      refine dk_icmp_ne (t := 114) C dX9_works_93 (n := 96) rfl (by decide) (fun c7 => ?_) (fun c7 => ?_)
      · have h := h.1 c7
        refine dk_aload_n (i := 0) C dX9_works_114 (n := 115) rfl rfl rfl ?_
        refine gf_X9_25 C (hmi 60 (by decide) (by decide)) dX9_works_115 (n := 118) rfl ?_
        refine dk_iload_n (i := 1) C dX9_works_118 (n := 119) rfl rfl rfl ?_
        refine dk_cald C dk_sh64 h.1 (hmi 64 (by decide) (by decide)) dX9_works_119 (n := 120) rfl ?_
        have h := h.2
        refine dk_bipush (v := 98) C dX9_works_120 (n := 122) rfl (by decide) ?_
        refine dk_icmp_ne (t := 134) C dX9_works_122 (n := 125) rfl (by decide) (fun c4 => ?_) (fun c4 => ?_)
        · have h := h.1 c4
          exact dk_vret C hr hlk dX9_works_134 ⟨rfl, h⟩
        · have h := h.2 c4
          refine dk_iload_n (i := 2) C dX9_works_125 (n := 126) rfl rfl rfl ?_
          refine dk_if_ne (t := 134) C dX9_works_126 (n := 129) rfl (by decide) (fun c3 => ?_) (fun c3 => ?_)
          · have h := h.1 c3
            exact dk_vret C hr hlk dX9_works_134 ⟨rfl, h⟩
          · have h := h.2 c3
            refine dk_aload_n (i := 0) C dX9_works_129 (n := 130) rfl rfl rfl ?_
            refine dk_iload_n (i := 3) C dX9_works_130 (n := 131) rfl rfl rfl ?_
            refine pf_X9_136 C rfl rfl (hmi 60 (by decide) (by decide)) dX9_works_131 (n := 134) rfl ?_
            refine dk_nameS (fun s2 es2 => ?_)
            have h := h s2 es2
            exact dk_vret C hr hlk dX9_works_134 ⟨rfl, h⟩
      · have h := h.2 c7
        refine dk_aload_n (i := 0) C dX9_works_96 (n := 97) rfl rfl rfl ?_
        refine gf_X9_74 C (hmi 60 (by decide) (by decide)) dX9_works_97 (n := 100) rfl ?_
        refine dk_iload_n (i := 2) C dX9_works_100 (n := 101) rfl rfl rfl ?_
        refine dk_iload_n (i := 3) C dX9_works_101 (n := 102) rfl rfl rfl ?_
        refine dk_iast C dk_sh79 h.1 (hmi 79 (by decide) (by decide)) dX9_works_102 (n := 103) rfl ?_
        refine dk_nameS (fun s5 es5 => ?_)
        have h := h.2 s5 es5
        refine dk_aload_n (i := 0) C dX9_works_103 (n := 104) rfl rfl rfl ?_
        refine gf_X9_77 C (hmi 60 (by decide) (by decide)) dX9_works_104 (n := 107) rfl ?_
        refine dk_iload_n (i := 2) C dX9_works_107 (n := 108) rfl rfl rfl ?_
        refine dk_bipush (v := 12) C dX9_works_108 (n := 110) rfl (by decide) ?_
        refine dk_iast C dk_sh80 h.1 (hmi 80 (by decide) (by decide)) dX9_works_110 (n := 111) rfl ?_
        refine dk_nameS (fun s6 es6 => ?_)
        have h := h.2 s6 es6
        refine dk_goto (t := 134) C dX9_works_111 (by decide) ?_
        exact dk_vret C hr hlk dX9_works_134 ⟨rfl, h⟩
    · have h := h.2 c9
      refine dk_aload_n (i := 0) C dX9_works_72 (n := 73) rfl rfl rfl ?_
      refine gf_X9_68 C (hmi 60 (by decide) (by decide)) dX9_works_73 (n := 76) rfl ?_
      refine dk_iload_n (i := 2) C dX9_works_76 (n := 77) rfl rfl rfl ?_
      refine dk_dup2 C dX9_works_77 (n := 78) rfl rfl rfl ?_
      refine dk_iald C dk_sh77 h.1 (hmi 77 (by decide) (by decide)) dX9_works_78 (n := 79) rfl ?_
      have h := h.2
      refine dk_iload_n (i := 3) C dX9_works_79 (n := 80) rfl rfl rfl ?_
      refine dk_isub C dX9_works_80 (n := 81) rfl ?_
      refine dk_iast C dk_sh77 h.1 (hmi 77 (by decide) (by decide)) dX9_works_81 (n := 82) rfl ?_
      refine dk_nameS (fun s8 es8 => ?_)
      have h := h.2 s8 es8
      refine dk_goto (t := 134) C dX9_works_82 (by decide) ?_
      exact dk_vret C hr hlk dX9_works_134 ⟨rfl, h⟩
  · have h := h.2 c13
    refine dk_aload_n (i := 0) C dX9_works_18 (n := 19) rfl rfl rfl ?_
    refine gf_X9_68 C (hmi 60 (by decide) (by decide)) dX9_works_19 (n := 22) rfl ?_
    refine dk_iload_n (i := 2) C dX9_works_22 (n := 23) rfl rfl rfl ?_
    refine dk_aload_n (i := 0) C dX9_works_23 (n := 24) rfl rfl rfl ?_
    refine gf_X9_68 C (hmi 60 (by decide) (by decide)) dX9_works_24 (n := 27) rfl ?_
    refine dk_iload_n (i := 2) C dX9_works_27 (n := 28) rfl rfl rfl ?_
    refine dk_iald C dk_sh77 h.1 (hmi 77 (by decide) (by decide)) dX9_works_28 (n := 29) rfl ?_
    have h := h.2
    refine dk_iload_n (i := 3) C dX9_works_29 (n := 30) rfl rfl rfl ?_
    refine dk_iadd C dX9_works_30 (n := 31) rfl ?_
    refine dk_aload_n (i := 0) C dX9_works_31 (n := 32) rfl rfl rfl ?_
    refine gf_X9_47 C (hmi 60 (by decide) (by decide)) dX9_works_32 (n := 35) rfl ?_
    refine dk_iload_n (i := 2) C dX9_works_35 (n := 36) rfl rfl rfl ?_
    refine dk_iald C dk_sh70 h.1 (hmi 70 (by decide) (by decide)) dX9_works_36 (n := 37) rfl ?_
    have h := h.2
    refine dk_icmp_le (t := 49) C dX9_works_37 (n := 40) rfl (by decide) (fun c12 => ?_) (fun c12 => ?_)
    · have h := h.1 c12
      refine dk_aload_n (i := 0) C dX9_works_49 (n := 50) rfl rfl rfl ?_
      refine gf_X9_68 C (hmi 60 (by decide) (by decide)) dX9_works_50 (n := 53) rfl ?_
      refine dk_iload_n (i := 2) C dX9_works_53 (n := 54) rfl rfl rfl ?_
      refine dk_iald C dk_sh77 h.1 (hmi 77 (by decide) (by decide)) dX9_works_54 (n := 55) rfl ?_
      have h := h.2
      refine dk_iload_n (i := 3) C dX9_works_55 (n := 56) rfl rfl rfl ?_
      refine dk_iadd C dX9_works_56 (n := 57) rfl ?_
      refine dk_iast C dk_sh77 h.1 (hmi 77 (by decide) (by decide)) dX9_works_57 (n := 58) rfl ?_
      refine dk_nameS (fun s10 es10 => ?_)
      have h := h.2 s10 es10
      refine dk_goto (t := 134) C dX9_works_58 (by decide) ?_
      exact dk_vret C hr hlk dX9_works_134 ⟨rfl, h⟩
    · have h := h.2 c12
      refine dk_aload_n (i := 0) C dX9_works_40 (n := 41) rfl rfl rfl ?_
      refine gf_X9_47 C (hmi 60 (by decide) (by decide)) dX9_works_41 (n := 44) rfl ?_
      refine dk_iload_n (i := 2) C dX9_works_44 (n := 45) rfl rfl rfl ?_
      refine dk_iald C dk_sh70 h.1 (hmi 70 (by decide) (by decide)) dX9_works_45 (n := 46) rfl ?_
      have h := h.2
      refine dk_goto (t := 57) C dX9_works_46 (by decide) ?_
      refine dk_iast C dk_sh77 h.1 (hmi 77 (by decide) (by decide)) dX9_works_57 (n := 58) rfl ?_
      refine dk_nameS (fun s11 es11 => ?_)
      have h := h.2 s11 es11
      refine dk_goto (t := 134) C dX9_works_58 (by decide) ?_
      exact dk_vret C hr hlk dX9_works_134 ⟨rfl, h⟩
