/-! X7_waitForHero -/
set_option maxRecDepth 20000 in
set_option maxHeartbeats 4000000 in
theorem ww_X7_waitForHero_2 {G : dk_G} {P : Program} {l : Launch} {e : Env} {S0 : State} {m : MethodId} {args : Array Value} {bel : List Frame} {meth : Method} {c : Code} {p0 : Nat} (C : dk_C G P (dk_rm 6) S0 m args c 0 0 cX7_waitForHero 3 RX7) (hr : meth.sig.returnType = none) (hlk : meth.locks = false) (hp0 : dk_WI G p0) {K : dk_S → Prop}  : ∀ (n : Nat) (x1 : Int32) (s : dk_S), wf_X7_waitForHero_2 p0 K n x1 s → dk_W G P l e (dk_rm 6) S0 m args bel meth c 0 0 (MQ bel (dk_Qc G (dk_kv K)) args S0 0 0 (dk_A G)) 2 [some (dk_r G p0 0), some (.int x1), none] [] s := by
  intro n
  induction n with
  | zero => intro x1 s h; exact False.elim h
  | succ n hB =>
    intro x1 s h
    unfold wf_X7_waitForHero_2 at h
    refine dk_iload_n (i := 1) C dX7_waitForHero_2 (n := 3) rfl rfl rfl ?_
    refine dk_ldc (v := 1000000) C dX7_waitForHero_3 (n := 5) rfl dk_wk_X7_118 ?_
    refine dk_icmp_ge (t := 90) C dX7_waitForHero_5 (n := 8) rfl (by decide) (fun c16 => ?_) (fun c16 => ?_)
    · have h := h.1 c16
      exact dk_vret C hr hlk dX7_waitForHero_90 ⟨rfl, h⟩
    · have h := h.2 c16
      refine dk_aload_n (i := 0) C dX7_waitForHero_8 (n := 9) rfl rfl rfl ?_
      refine gf_X7_28 C (hp0 0 (by decide)) dX7_waitForHero_9 (n := 12) rfl ?_
      refine dk_iconst (v := 0) C dX7_waitForHero_12 (n := 13) rfl (by decide) ?_
      refine dk_callVi C [] (cc_X2_lives C.D hp0 h) yy_X2_lives dk_wm_X7_204 dk_sh13 (hp0 13 (by decide)) dX7_waitForHero_13 (fun r3 s2 h => ?_) rfl rfl ⟨Nat.le_of_ble_eq_true rfl, Nat.le_of_ble_eq_true rfl⟩ rfl (Nat.le_of_ble_eq_true rfl) rfl (n := 16) rfl
      refine dk_if_eq (t := 90) C dX7_waitForHero_16 (n := 19) rfl (by decide) (fun c15 => ?_) (fun c15 => ?_)
      · have h := h.1 c15
        exact dk_vret C hr hlk dX7_waitForHero_90 ⟨rfl, h⟩
      · have h := h.2 c15
        refine dk_aload_n (i := 0) C dX7_waitForHero_19 (n := 20) rfl rfl rfl ?_
        refine gf_X7_28 C (hp0 0 (by decide)) dX7_waitForHero_20 (n := 23) rfl ?_
        refine dk_callVi C [] (cc_X2_nextToAct C.D hp0 h) yy_X2_nextToAct dk_wm_X7_257 dk_sh13 (hp0 13 (by decide)) dX7_waitForHero_23 (fun r5 s4 h => ?_) rfl rfl ⟨Nat.le_of_ble_eq_true rfl, Nat.le_of_ble_eq_true rfl⟩ rfl (Nat.le_of_ble_eq_true rfl) rfl (n := 26) rfl
        refine dk_istore_n (i := 2) (L' := [some (dk_r G p0 0), some (.int x1), some (.int r5)]) C dX7_waitForHero_26 (n := 27) rfl rfl (dk_nc_of rfl) (Nat.le_of_ble_eq_true rfl) rfl ?_
        refine dk_iload_n (i := 2) C dX7_waitForHero_27 (n := 28) rfl rfl rfl ?_
        refine dk_if_ne (t := 32) C dX7_waitForHero_28 (n := 31) rfl (by decide) (fun c14 => ?_) (fun c14 => ?_)
        · have h := h.1 c14
          refine dk_iload_n (i := 2) C dX7_waitForHero_32 (n := 33) rfl rfl rfl ?_
          refine dk_iconst (v := (-1)) C dX7_waitForHero_33 (n := 34) rfl (by decide) ?_
          refine dk_icmp_ne (t := 71) C dX7_waitForHero_34 (n := 37) rfl (by decide) (fun c13 => ?_) (fun c13 => ?_)
          · have h := h.1 c13
            refine dk_aload_n (i := 0) C dX7_waitForHero_71 (n := 72) rfl rfl rfl ?_
            refine gf_X7_28 C (hp0 0 (by decide)) dX7_waitForHero_72 (n := 75) rfl ?_
            refine dk_iload_n (i := 2) C dX7_waitForHero_75 (n := 76) rfl rfl rfl ?_
            refine dk_callVv C [] (cc_X2_spendTurn C.D hp0 h) yy_X2_spendTurn dk_wm_X7_166 dk_sh13 (hp0 13 (by decide)) dX7_waitForHero_76 (fun s6 h => ?_) rfl rfl ⟨Nat.le_of_ble_eq_true rfl, Nat.le_of_ble_eq_true rfl⟩ rfl (Nat.le_of_ble_eq_true rfl) rfl (n := 79) rfl
            refine dk_aload_n (i := 0) C dX7_waitForHero_79 (n := 80) rfl rfl rfl ?_
            refine dk_iload_n (i := 2) C dX7_waitForHero_80 (n := 81) rfl rfl rfl ?_
            refine dk_callVv C [] (cc_X7_moveBeast C.D hp0 h) yy_X7_moveBeast dk_wm_X7_268 dk_sh0 (hp0 0 (by decide)) dX7_waitForHero_81 (fun s7 h => ?_) rfl rfl ⟨Nat.le_of_ble_eq_true rfl, Nat.le_of_ble_eq_true rfl⟩ rfl (Nat.le_of_ble_eq_true rfl) rfl (n := 84) rfl
            obtain ⟨v8, ev8⟩ : ∃ y : Int32, y = x1 + 1 := ⟨_, rfl⟩
            have h := h v8 ev8
            refine dk_iinc (i := 1) (v := v8) (L' := [some (dk_r G p0 0), some (.int v8), some (.int r5)]) C dX7_waitForHero_84 (n := 87) rfl rfl (by rw [ev8]; rfl) (dk_nc_of rfl) (Nat.le_of_ble_eq_true rfl) rfl ?_
            refine dk_goto (t := 2) C dX7_waitForHero_87 (by decide) ?_
            refine dk_sub (L0 := [some (dk_r G p0 0), some (.int v8), none]) ⟨rfl, ⟨rfl, trivial⟩⟩ ?_
            exact hB v8 s7 h
          · have h := h.2 c13
            refine dk_aload_n (i := 0) C dX7_waitForHero_37 (n := 38) rfl rfl rfl ?_
            refine gf_X7_28 C (hp0 0 (by decide)) dX7_waitForHero_38 (n := 41) rfl ?_
            refine dk_callVv C [] (cc_X2_gainEnergy C.D hp0 h) yy_X2_gainEnergy dk_wm_X7_260 dk_sh13 (hp0 13 (by decide)) dX7_waitForHero_41 (fun s9 h => ?_) rfl rfl ⟨Nat.le_of_ble_eq_true rfl, Nat.le_of_ble_eq_true rfl⟩ rfl (Nat.le_of_ble_eq_true rfl) rfl (n := 44) rfl
            refine dk_aload_n (i := 0) C dX7_waitForHero_44 (n := 45) rfl rfl rfl ?_
            refine dk_iconst (v := 0) C dX7_waitForHero_45 (n := 46) rfl (by decide) ?_
            refine dk_aload_n (i := 0) C dX7_waitForHero_46 (n := 47) rfl rfl rfl ?_
            refine gf_X7_56 C (hp0 0 (by decide)) dX7_waitForHero_47 (n := 50) rfl ?_
            refine dk_iconst (v := 1) C dX7_waitForHero_50 (n := 51) rfl (by decide) ?_
            refine dk_isub C dX7_waitForHero_51 (n := 52) rfl ?_
            refine dk_mmax C dk_wm_X7_263 dk_wm_max_s dk_wm_i dk_wm_max_c (Nat.le_of_ble_eq_true rfl) (Nat.le_of_ble_eq_true rfl) rfl dX7_waitForHero_52 (n := 55) rfl ?_
            refine pf_X7_56 C rfl rfl (hp0 0 (by decide)) dX7_waitForHero_55 (n := 58) rfl ?_
            refine dk_nameS (fun s10 es10 => ?_)
            have h := h s10 es10
            refine dk_aload_n (i := 0) C dX7_waitForHero_58 (n := 59) rfl rfl rfl ?_
            refine dk_dup C dX7_waitForHero_59 (n := 60) rfl rfl ?_
            refine gf_X7_46 C (hp0 0 (by decide)) dX7_waitForHero_60 (n := 63) rfl ?_
            refine dk_iconst (v := 1) C dX7_waitForHero_63 (n := 64) rfl (by decide) ?_
            refine dk_iadd C dX7_waitForHero_64 (n := 65) rfl ?_
            refine pf_X7_46 C rfl rfl (hp0 0 (by decide)) dX7_waitForHero_65 (n := 68) rfl ?_
            refine dk_nameS (fun s11 es11 => ?_)
            have h := h s11 es11
            refine dk_goto (t := 84) C dX7_waitForHero_68 (by decide) ?_
            obtain ⟨v12, ev12⟩ : ∃ y : Int32, y = x1 + 1 := ⟨_, rfl⟩
            have h := h v12 ev12
            refine dk_iinc (i := 1) (v := v12) (L' := [some (dk_r G p0 0), some (.int v12), some (.int r5)]) C dX7_waitForHero_84 (n := 87) rfl rfl (by rw [ev12]; rfl) (dk_nc_of rfl) (Nat.le_of_ble_eq_true rfl) rfl ?_
            refine dk_goto (t := 2) C dX7_waitForHero_87 (by decide) ?_
            refine dk_sub (L0 := [some (dk_r G p0 0), some (.int v12), none]) ⟨rfl, ⟨rfl, trivial⟩⟩ ?_
            exact hB v12 s11 h
        · have h := h.2 c14
          exact dk_vret C hr hlk dX7_waitForHero_31 ⟨rfl, h⟩
set_option maxRecDepth 20000 in
set_option maxHeartbeats 4000000 in
theorem cc_X7_waitForHero {G : dk_G} {l : Launch} {p0 : Nat} (hD : dk_D G) (hp0 : dk_WI G p0) {s : dk_S} {K : dk_S → Prop} (h : wf_X7_waitForHero p0 s K) : dk_M G l 6 yX7_waitForHero cX7_waitForHero 3 none [dk_r G p0 0] s (dk_kv K) := by
  refine dk_of hD (by decide) [some (dk_r G p0 0), none, none] (fun q hq => hq) rfl (Nat.le_of_ble_eq_true rfl) (fun P e S0 m args bel meth c C hr hlk => ?_)
  unfold wf_X7_waitForHero at h
  refine dk_iconst (v := 0) C dX7_waitForHero_0 (n := 1) rfl (by decide) ?_
  refine dk_istore_n (i := 1) (L' := [some (dk_r G p0 0), some (.int 0), none]) C dX7_waitForHero_1 (n := 2) rfl rfl (dk_nc_of rfl) (Nat.le_of_ble_eq_true rfl) rfl ?_
  obtain ⟨nn1, h⟩ := h
  refine dk_sub (L0 := [some (dk_r G p0 0), some (.int 0), none]) ⟨rfl, ⟨rfl, trivial⟩⟩ ?_
  refine ww_X7_waitForHero_2 C hr hlk hp0  nn1 0 s h
/-! X8_state -/
set_option maxRecDepth 20000 in
set_option maxHeartbeats 4000000 in
theorem cc_X8_state {G : dk_G} {l : Launch}  (hD : dk_D G) (hri : dk_RI G) {s : dk_S} {K : Int32 → dk_S → Prop} (h : wf_X8_state s K) : dk_M G l 1 yX8_state cX8_state 1 (some .char) [dk_r G 0 40] s (dk_ki K) := by
  refine dk_of hD (by decide) [some (dk_r G 0 40)] (fun q hq => hq) rfl (Nat.le_of_ble_eq_true rfl) (fun P e S0 m args bel meth c C hr hlk => ?_)
  unfold wf_X8_state at h
  refine dk_aload_n (i := 0) C dX8_state_0 (n := 1) rfl rfl rfl ?_
  refine gf_X8_36 C (hri.1 40 (by decide) (by decide)) dX8_state_1 (n := 4) rfl ?_
  exact dk_iret C hr hlk h.1 dX8_state_4 ⟨_, rfl, h.2⟩
/-! X8_tick -/
set_option maxRecDepth 20000 in
set_option maxHeartbeats 4000000 in
theorem cc_X8_tick {G : dk_G} {l : Launch}  (hD : dk_D G) (hri : dk_RI G) {s : dk_S} {K : Int32 → dk_S → Prop} (h : wf_X8_tick s K) : dk_M G l 2 yX8_tick cX8_tick 1 (some .int) [dk_r G 0 40] s (dk_ki K) := by
  refine dk_of hD (by decide) [some (dk_r G 0 40)] (fun q hq => hq) rfl (Nat.le_of_ble_eq_true rfl) (fun P e S0 m args bel meth c C hr hlk => ?_)
  unfold wf_X8_tick at h
  refine dk_aload_n (i := 0) C dX8_tick_0 (n := 1) rfl rfl rfl ?_
  refine dk_callV (st' := []) C (cc_X8_shown C.D hri (s := s)) yy_X8_shown dk_wm_X8_227 rfl ⟨Nat.le_of_ble_eq_true rfl, Nat.le_of_ble_eq_true rfl⟩ dk_sh40 rfl (hri.1 40 (by decide) (by decide)) rfl (Nat.le_of_ble_eq_true rfl) rfl dX8_tick_1 (n := 4) rfl (fun v9 s9 h9 => ?_)
  rcases h9 with ⟨c1, e8, e9⟩ | ⟨c1, e8, e9⟩
  · have h := h.1 c1
    rw [e8, e9]
    show dk_W _ _ _ _ _ _ _ _ _ _ _ _ _ _ 4 _ [dk_r G 1 0] s
    refine gf_X8_175 C (hri.2.1 0 (by decide)) dX8_tick_4 (n := 7) rfl ?_
    exact dk_iret C hr hlk rfl dX8_tick_7 ⟨_, rfl, h⟩
  · have h := h.2 c1
    rw [e8, e9]
    show dk_W _ _ _ _ _ _ _ _ _ _ _ _ _ _ 4 _ [dk_r G 2 0] s
    refine gf_X8_175 C (hri.2.2.1 0 (by decide)) dX8_tick_4 (n := 7) rfl ?_
    exact dk_iret C hr hlk rfl dX8_tick_7 ⟨_, rfl, h⟩
/-! X8_make -/
set_option maxRecDepth 20000 in
set_option maxHeartbeats 4000000 in
theorem cc_X8_make {G : dk_G} {l : Launch} {p1 : Nat} {a2 : Int32} (hD : dk_D G) (hri : dk_RI G) (hp1 : dk_WI G p1) {s : dk_S} {K : dk_S → Prop} (h : wf_X8_make p1 a2 s K) : dk_M G l 5 yX8_make cX8_make 3 none [dk_r G 0 40, dk_r G p1 0, .int a2] s (dk_kv K) := by
  refine dk_of hD (by decide) [some (dk_r G 0 40), some (dk_r G p1 0), some (.int a2)] (fun q hq => hq) rfl (Nat.le_of_ble_eq_true rfl) (fun P e S0 m args bel meth c C hr hlk => ?_)
  unfold wf_X8_make at h
  refine dk_aload_n (i := 1) C dX8_make_0 (n := 1) rfl rfl rfl ?_
  refine dk_aload_n (i := 0) C dX8_make_1 (n := 2) rfl rfl rfl ?_
  refine gf_X8_12 C (hri.1 40 (by decide) (by decide)) dX8_make_2 (n := 5) rfl ?_
  refine dk_callVv C [] (cc_X7_copy C.D hp1 hri.2.1 h) yy_X7_copy dk_wm_X8_269 dk_sh0 (hp1 0 (by decide)) dX8_make_5 (fun s1 h => ?_) rfl rfl ⟨Nat.le_of_ble_eq_true rfl, Nat.le_of_ble_eq_true rfl⟩ rfl (Nat.le_of_ble_eq_true rfl) rfl (n := 8) rfl
  refine dk_aload_n (i := 1) C dX8_make_8 (n := 9) rfl rfl rfl ?_
  refine dk_iload_n (i := 2) C dX8_make_9 (n := 10) rfl rfl rfl ?_
  refine dk_bipush (v := 6) C dX8_make_10 (n := 12) rfl (by decide) ?_
  refine dk_irem C dX8_make_12 (n := 13) rfl (by decide) ?_
  refine pf_X8_273 C rfl rfl (hp1 0 (by decide)) dX8_make_13 (n := 16) rfl ?_
  refine dk_nameS (fun s2 es2 => ?_)
  have h := h s2 es2
  refine dk_aload_n (i := 0) C dX8_make_16 (n := 17) rfl rfl rfl ?_
  refine gf_X8_32 C (hri.1 40 (by decide) (by decide)) dX8_make_17 (n := 20) rfl ?_
  refine dk_aload_n (i := 1) C dX8_make_20 (n := 21) rfl rfl rfl ?_
  refine dk_callVv C [] (cc_X0_layIn C.D hri hp1 h) yy_X0_layIn dk_wm_X8_276 dk_sh45 (hri.1 45 (by decide) (by decide)) dX8_make_21 (fun s3 h => ?_) rfl rfl ⟨Nat.le_of_ble_eq_true rfl, Nat.le_of_ble_eq_true rfl⟩ rfl (Nat.le_of_ble_eq_true rfl) rfl (n := 24) rfl
  exact dk_vret C hr hlk dX8_make_24 ⟨rfl, h⟩
/-! X8_settle -/
set_option maxRecDepth 20000 in
set_option maxHeartbeats 4000000 in
theorem cc_X8_settle {G : dk_G} {l : Launch}  (hD : dk_D G) (hri : dk_RI G) {s : dk_S} {K : dk_S → Prop} (h : wf_X8_settle s K) : dk_M G l 5 yX8_settle cX8_settle 1 none [dk_r G 0 40] s (dk_kv K) := by
  refine dk_of hD (by decide) [some (dk_r G 0 40)] (fun q hq => hq) rfl (Nat.le_of_ble_eq_true rfl) (fun P e S0 m args bel meth c C hr hlk => ?_)
  unfold wf_X8_settle at h
  refine dk_aload_n (i := 0) C dX8_settle_0 (n := 1) rfl rfl rfl ?_
  refine gf_X8_16 C (hri.1 40 (by decide) (by decide)) dX8_settle_1 (n := 4) rfl ?_
  refine gf_X8_111 C (hri.2.2.1 0 (by decide)) dX8_settle_4 (n := 7) rfl ?_
  refine dk_iconst (v := 0) C dX8_settle_7 (n := 8) rfl (by decide) ?_
  refine dk_callVi C [] (cc_X2_lives C.D hri.2.2.1 h) yy_X2_lives dk_wm_X8_284 dk_sh13 (hri.2.2.1 13 (by decide)) dX8_settle_8 (fun r2 s1 h => ?_) rfl rfl ⟨Nat.le_of_ble_eq_true rfl, Nat.le_of_ble_eq_true rfl⟩ rfl (Nat.le_of_ble_eq_true rfl) rfl (n := 11) rfl
  refine dk_if_ne (t := 38) C dX8_settle_11 (n := 14) rfl (by decide) (fun c6 => ?_) (fun c6 => ?_)
  · have h := h.1 c6
    exact dk_vret C hr hlk dX8_settle_38 ⟨rfl, h⟩
  · have h := h.2 c6
    refine dk_aload_n (i := 0) C dX8_settle_14 (n := 15) rfl rfl rfl ?_
    refine gf_X8_32 C (hri.1 40 (by decide) (by decide)) dX8_settle_15 (n := 18) rfl ?_
    refine dk_aload_n (i := 0) C dX8_settle_18 (n := 19) rfl rfl rfl ?_
    refine gf_X8_16 C (hri.1 40 (by decide) (by decide)) dX8_settle_19 (n := 22) rfl ?_
    refine dk_callVv C [] (cc_X0_note C.D hri hri.2.2.1 h) yy_X0_note dk_wm_X8_287 dk_sh45 (hri.1 45 (by decide) (by decide)) dX8_settle_22 (fun s3 h => ?_) rfl rfl ⟨Nat.le_of_ble_eq_true rfl, Nat.le_of_ble_eq_true rfl⟩ rfl (Nat.le_of_ble_eq_true rfl) rfl (n := 25) rfl
    refine dk_aload_n (i := 0) C dX8_settle_25 (n := 26) rfl rfl rfl ?_
    refine gf_X8_16 C (hri.1 40 (by decide) (by decide)) dX8_settle_26 (n := 29) rfl ?_
    refine dk_callVv C [] (cc_X7_layHands C.D hri.2.2.1 h) yy_X7_layHands dk_wm_X8_290 dk_sh0 (hri.2.2.1 0 (by decide)) dX8_settle_29 (fun s4 h => ?_) rfl rfl ⟨Nat.le_of_ble_eq_true rfl, Nat.le_of_ble_eq_true rfl⟩ rfl (Nat.le_of_ble_eq_true rfl) rfl (n := 32) rfl
    refine dk_aload_n (i := 0) C dX8_settle_32 (n := 33) rfl rfl rfl ?_
    refine dk_bipush (v := 100) C dX8_settle_33 (n := 35) rfl (by decide) ?_
    refine pf_X8_36 C (by decide) (by decide) (hri.1 40 (by decide) (by decide)) dX8_settle_35 (n := 38) rfl ?_
    refine dk_nameS (fun s5 es5 => ?_)
    have h := h s5 es5
    exact dk_vret C hr hlk dX8_settle_38 ⟨rfl, h⟩
/-! X8_act -/
set_option maxRecDepth 20000 in
set_option maxHeartbeats 4000000 in
theorem cc_X8_act {G : dk_G} {l : Launch} {a1 : Int32} {a2 : Int32} {a3 : Int32} (hD : dk_D G) (hri : dk_RI G) {s : dk_S} {K : Int32 → dk_S → Prop} (h : wf_X8_act a1 a2 a3 s K) : dk_M G l 7 yX8_act cX8_act 5 (some .int) [dk_r G 0 40, .int a1, .int a2, .int a3] s (dk_ki K) := by
  refine dk_of hD (by decide) [some (dk_r G 0 40), some (.int a1), some (.int a2), some (.int a3), none] (fun q hq => hq) rfl (Nat.le_of_ble_eq_true rfl) (fun P e S0 m args bel meth c C hr hlk => ?_)
  unfold wf_X8_act at h
  refine dk_aload_n (i := 0) C dX8_act_0 (n := 1) rfl rfl rfl ?_
  refine gf_X8_16 C (hri.1 40 (by decide) (by decide)) dX8_act_1 (n := 4) rfl ?_
  refine dk_iload_n (i := 1) C dX8_act_4 (n := 5) rfl rfl rfl ?_
  refine dk_iload_n (i := 2) C dX8_act_5 (n := 6) rfl rfl rfl ?_
  refine dk_iload_n (i := 3) C dX8_act_6 (n := 7) rfl rfl rfl ?_
  refine dk_callVi C [] (cc_X7_perform C.D hri.2.2.1 h) yy_X7_perform dk_wm_X8_279 dk_sh0 (hri.2.2.1 0 (by decide)) dX8_act_7 (fun r2 s1 h => ?_) rfl rfl ⟨Nat.le_of_ble_eq_true rfl, Nat.le_of_ble_eq_true rfl⟩ rfl (Nat.le_of_ble_eq_true rfl) rfl (n := 10) rfl
  refine dk_istore (i := 4) (L' := [some (dk_r G 0 40), some (.int a1), some (.int a2), some (.int a3), some (.int r2)]) C dX8_act_10 (n := 12) rfl (dk_nc_of rfl) (Nat.le_of_ble_eq_true rfl) rfl ?_
  refine dk_iload C dX8_act_12 (n := 14) rfl (i := 4) rfl ?_
  refine dk_ldc (v := (-1000000)) C dX8_act_14 (n := 16) rfl dk_wk_X8_188 ?_
  refine dk_icmp_eq (t := 40) C dX8_act_16 (n := 19) rfl (by decide) (fun c6 => ?_) (fun c6 => ?_)
  · have h := h.1 c6
    refine dk_iload C dX8_act_40 (n := 42) rfl (i := 4) rfl ?_
    exact dk_iret C hr hlk rfl dX8_act_42 ⟨_, rfl, h⟩
  · have h := h.2 c6
    refine dk_aload_n (i := 0) C dX8_act_19 (n := 20) rfl rfl rfl ?_
    refine gf_X8_25 C (hri.1 40 (by decide) (by decide)) dX8_act_20 (n := 23) rfl ?_
    refine dk_iload_n (i := 1) C dX8_act_23 (n := 24) rfl rfl rfl ?_
    refine dk_iload_n (i := 2) C dX8_act_24 (n := 25) rfl rfl rfl ?_
    refine dk_iload_n (i := 3) C dX8_act_25 (n := 26) rfl rfl rfl ?_
    refine dk_callVv C [] (cc_X5_add C.D hri h) yy_X5_add dk_wm_X8_282 dk_sh41 (hri.1 41 (by decide) (by decide)) dX8_act_26 (fun s3 h => ?_) rfl rfl ⟨Nat.le_of_ble_eq_true rfl, Nat.le_of_ble_eq_true rfl⟩ rfl (Nat.le_of_ble_eq_true rfl) rfl (n := 29) rfl
    refine dk_aload_n (i := 0) C dX8_act_29 (n := 30) rfl rfl rfl ?_
    refine gf_X8_16 C (hri.1 40 (by decide) (by decide)) dX8_act_30 (n := 33) rfl ?_
    refine dk_callVv C [] (cc_X7_waitForHero C.D hri.2.2.1 h) yy_X7_waitForHero dk_wm_X8_169 dk_sh0 (hri.2.2.1 0 (by decide)) dX8_act_33 (fun s4 h => ?_) rfl rfl ⟨Nat.le_of_ble_eq_true rfl, Nat.le_of_ble_eq_true rfl⟩ rfl (Nat.le_of_ble_eq_true rfl) rfl (n := 36) rfl
    refine dk_aload_n (i := 0) C dX8_act_36 (n := 37) rfl rfl rfl ?_
    refine dk_callVv C [] (cc_X8_settle C.D hri h) yy_X8_settle dk_wm_X8_172 dk_sh40 (hri.1 40 (by decide) (by decide)) dX8_act_37 (fun s5 h => ?_) rfl rfl ⟨Nat.le_of_ble_eq_true rfl, Nat.le_of_ble_eq_true rfl⟩ rfl (Nat.le_of_ble_eq_true rfl) rfl (n := 40) rfl
    refine dk_iload C dX8_act_40 (n := 42) rfl (i := 4) rfl ?_
    exact dk_iret C hr hlk rfl dX8_act_42 ⟨_, rfl, h⟩
/-! X8_redo -/
set_option maxRecDepth 20000 in
set_option maxHeartbeats 4000000 in
theorem ww_X8_redo_7 {G : dk_G} {P : Program} {l : Launch} {e : Env} {S0 : State} {m : MethodId} {args : Array Value} {bel : List Frame} {meth : Method} {c : Code}  (C : dk_C G P (dk_rm 7) S0 m args c 0 0 cX8_redo 1 RX8) (hr : meth.sig.returnType = none) (hlk : meth.locks = false) (hri : dk_RI G) {K : dk_S → Prop} {E91 : dk_S → Prop} (hE91 : ∀ (s : dk_S), E91 s → dk_W G P l e (dk_rm 7) S0 m args bel meth c 0 0 (MQ bel (dk_Qc G (dk_kv K)) args S0 0 0 (dk_A G)) 91 [some (dk_r G 0 40)] [] s) : ∀ (n : Nat)  (s : dk_S), wf_X8_redo_7 K E91 n  s → dk_W G P l e (dk_rm 7) S0 m args bel meth c 0 0 (MQ bel (dk_Qc G (dk_kv K)) args S0 0 0 (dk_A G)) 7 [some (dk_r G 0 40)] [] s := by
  intro n
  induction n with
  | zero => intro s h; exact False.elim h
  | succ n hB =>
    intro s h
    unfold wf_X8_redo_7 at h
    refine dk_aload_n (i := 0) C dX8_redo_7 (n := 8) rfl rfl rfl ?_
    refine gf_X8_40 C (hri.1 40 (by decide) (by decide)) dX8_redo_8 (n := 11) rfl ?_
    refine dk_aload_n (i := 0) C dX8_redo_11 (n := 12) rfl rfl rfl ?_
    refine gf_X8_25 C (hri.1 40 (by decide) (by decide)) dX8_redo_12 (n := 15) rfl ?_
    refine gf_X8_168 C (hri.1 41 (by decide) (by decide)) dX8_redo_15 (n := 18) rfl ?_
    refine dk_icmp_ge (t := 91) C dX8_redo_18 (n := 21) rfl (by decide) (fun c18 => ?_) (fun c18 => ?_)
    · have h := h.1 c18
      refine dk_sub (L0 := [some (dk_r G 0 40)]) ⟨rfl, trivial⟩ ?_
      exact hE91  s h
    · have h := h.2 c18
      refine dk_aload_n (i := 0) C dX8_redo_21 (n := 22) rfl rfl rfl ?_
      refine gf_X8_19 C (hri.1 40 (by decide) (by decide)) dX8_redo_22 (n := 25) rfl ?_
      refine dk_aload_n (i := 0) C dX8_redo_25 (n := 26) rfl rfl rfl ?_
      refine gf_X8_25 C (hri.1 40 (by decide) (by decide)) dX8_redo_26 (n := 29) rfl ?_
      refine gf_X8_293 C (hri.1 41 (by decide) (by decide)) dX8_redo_29 (n := 32) rfl ?_
      refine dk_aload_n (i := 0) C dX8_redo_32 (n := 33) rfl rfl rfl ?_
      refine gf_X8_40 C (hri.1 40 (by decide) (by decide)) dX8_redo_33 (n := 36) rfl ?_
      refine dk_callSi C [dk_r G 3 0] (cc_X8_at C.D dk_sh42 (hri.1 42 (by decide) (by decide)) h) yy_X8_at dk_wm_X8_94 dX8_redo_36 (fun r9 s8 h => ?_) rfl ⟨Nat.le_of_ble_eq_true rfl, Nat.le_of_ble_eq_true rfl⟩ rfl (Nat.le_of_ble_eq_true rfl) rfl (n := 39) rfl
      refine dk_aload_n (i := 0) C dX8_redo_39 (n := 40) rfl rfl rfl ?_
      refine gf_X8_25 C (hri.1 40 (by decide) (by decide)) dX8_redo_40 (n := 43) rfl ?_
      refine gf_X8_296 C (hri.1 41 (by decide) (by decide)) dX8_redo_43 (n := 46) rfl ?_
      refine dk_aload_n (i := 0) C dX8_redo_46 (n := 47) rfl rfl rfl ?_
      refine gf_X8_40 C (hri.1 40 (by decide) (by decide)) dX8_redo_47 (n := 50) rfl ?_
      refine dk_callSi C [.int r9, dk_r G 3 0] (cc_X8_at C.D dk_sh43 (hri.1 43 (by decide) (by decide)) h) yy_X8_at dk_wm_X8_94 dX8_redo_50 (fun r11 s10 h => ?_) rfl ⟨Nat.le_of_ble_eq_true rfl, Nat.le_of_ble_eq_true rfl⟩ rfl (Nat.le_of_ble_eq_true rfl) rfl (n := 53) rfl
      refine dk_aload_n (i := 0) C dX8_redo_53 (n := 54) rfl rfl rfl ?_
      refine gf_X8_25 C (hri.1 40 (by decide) (by decide)) dX8_redo_54 (n := 57) rfl ?_
      refine gf_X8_299 C (hri.1 41 (by decide) (by decide)) dX8_redo_57 (n := 60) rfl ?_
      refine dk_aload_n (i := 0) C dX8_redo_60 (n := 61) rfl rfl rfl ?_
      refine gf_X8_40 C (hri.1 40 (by decide) (by decide)) dX8_redo_61 (n := 64) rfl ?_
      refine dk_callSi C [.int r11, .int r9, dk_r G 3 0] (cc_X8_at C.D dk_sh44 (hri.1 44 (by decide) (by decide)) h) yy_X8_at dk_wm_X8_94 dX8_redo_64 (fun r13 s12 h => ?_) rfl ⟨Nat.le_of_ble_eq_true rfl, Nat.le_of_ble_eq_true rfl⟩ rfl (Nat.le_of_ble_eq_true rfl) rfl (n := 67) rfl
      refine dk_callVi C [] (cc_X7_perform C.D hri.2.2.2 h) yy_X7_perform dk_wm_X8_279 dk_sh0 (hri.2.2.2 0 (by decide)) dX8_redo_67 (fun r15 s14 h => ?_) rfl rfl ⟨Nat.le_of_ble_eq_true rfl, Nat.le_of_ble_eq_true rfl⟩ rfl (Nat.le_of_ble_eq_true rfl) rfl (n := 70) rfl
      refine dk_pop C dX8_redo_70 (n := 71) rfl rfl ?_
      refine dk_aload_n (i := 0) C dX8_redo_71 (n := 72) rfl rfl rfl ?_
      refine gf_X8_19 C (hri.1 40 (by decide) (by decide)) dX8_redo_72 (n := 75) rfl ?_
      refine dk_callVv C [] (cc_X7_waitForHero C.D hri.2.2.2 h) yy_X7_waitForHero dk_wm_X8_169 dk_sh0 (hri.2.2.2 0 (by decide)) dX8_redo_75 (fun s16 h => ?_) rfl rfl ⟨Nat.le_of_ble_eq_true rfl, Nat.le_of_ble_eq_true rfl⟩ rfl (Nat.le_of_ble_eq_true rfl) rfl (n := 78) rfl
      refine dk_aload_n (i := 0) C dX8_redo_78 (n := 79) rfl rfl rfl ?_
      refine dk_dup C dX8_redo_79 (n := 80) rfl rfl ?_
      refine gf_X8_40 C (hri.1 40 (by decide) (by decide)) dX8_redo_80 (n := 83) rfl ?_
      refine dk_iconst (v := 1) C dX8_redo_83 (n := 84) rfl (by decide) ?_
      refine dk_iadd C dX8_redo_84 (n := 85) rfl ?_
      refine pf_X8_40 C rfl rfl (hri.1 40 (by decide) (by decide)) dX8_redo_85 (n := 88) rfl ?_
      refine dk_nameS (fun s17 es17 => ?_)
      have h := h s17 es17
      refine dk_goto (t := 7) C dX8_redo_88 (by decide) ?_
      refine dk_sub (L0 := [some (dk_r G 0 40)]) ⟨rfl, trivial⟩ ?_
      exact hB  s17 h
set_option maxRecDepth 20000 in
set_option maxHeartbeats 4000000 in
theorem cc_X8_redo {G : dk_G} {l : Launch}  (hD : dk_D G) (hri : dk_RI G) {s : dk_S} {K : dk_S → Prop} (h : wf_X8_redo s K) : dk_M G l 7 yX8_redo cX8_redo 1 none [dk_r G 0 40] s (dk_kv K) := by
  refine dk_of hD (by decide) [some (dk_r G 0 40)] (fun q hq => hq) rfl (Nat.le_of_ble_eq_true rfl) (fun P e S0 m args bel meth c C hr hlk => ?_)
  unfold wf_X8_redo at h
  refine dk_aload_n (i := 0) C dX8_redo_0 (n := 1) rfl rfl rfl ?_
  refine gf_X8_19 C (hri.1 40 (by decide) (by decide)) dX8_redo_1 (n := 4) rfl ?_
  refine dk_callVv C [] (cc_X7_waitForHero C.D hri.2.2.2 h) yy_X7_waitForHero dk_wm_X8_169 dk_sh0 (hri.2.2.2 0 (by decide)) dX8_redo_4 (fun s1 h => ?_) rfl rfl ⟨Nat.le_of_ble_eq_true rfl, Nat.le_of_ble_eq_true rfl⟩ rfl (Nat.le_of_ble_eq_true rfl) rfl (n := 7) rfl
  obtain ⟨nn7, h⟩ := h
  refine dk_sub (L0 := [some (dk_r G 0 40)]) ⟨rfl, trivial⟩ ?_
  refine ww_X8_redo_7 C hr hlk hri (fun s2 h => ?_) nn7 s1 h
  · refine dk_aload_n (i := 0) C dX8_redo_91 (n := 92) rfl rfl rfl ?_
    refine gf_X8_19 C (hri.1 40 (by decide) (by decide)) dX8_redo_92 (n := 95) rfl ?_
    refine gf_X8_111 C (hri.2.2.2 0 (by decide)) dX8_redo_95 (n := 98) rfl ?_
    refine dk_iconst (v := 0) C dX8_redo_98 (n := 99) rfl (by decide) ?_
    refine dk_callVi C [] (cc_X2_lives C.D hri.2.2.2 h) yy_X2_lives dk_wm_X8_284 dk_sh13 (hri.2.2.2 13 (by decide)) dX8_redo_99 (fun r4 s3 h => ?_) rfl rfl ⟨Nat.le_of_ble_eq_true rfl, Nat.le_of_ble_eq_true rfl⟩ rfl (Nat.le_of_ble_eq_true rfl) rfl (n := 102) rfl
    refine dk_if_ne (t := 112) C dX8_redo_102 (n := 105) rfl (by decide) (fun c6 => ?_) (fun c6 => ?_)
    · have h := h.1 c6
      exact dk_vret C hr hlk dX8_redo_112 ⟨rfl, h⟩
    · have h := h.2 c6
      refine dk_aload_n (i := 0) C dX8_redo_105 (n := 106) rfl rfl rfl ?_
      refine gf_X8_19 C (hri.1 40 (by decide) (by decide)) dX8_redo_106 (n := 109) rfl ?_
      refine dk_callVv C [] (cc_X7_layHands C.D hri.2.2.2 h) yy_X7_layHands dk_wm_X8_290 dk_sh0 (hri.2.2.2 0 (by decide)) dX8_redo_109 (fun s5 h => ?_) rfl rfl ⟨Nat.le_of_ble_eq_true rfl, Nat.le_of_ble_eq_true rfl⟩ rfl (Nat.le_of_ble_eq_true rfl) rfl (n := 112) rfl
      exact dk_vret C hr hlk dX8_redo_112 ⟨rfl, h⟩
/-! X8_shownPlace -/
set_option maxRecDepth 20000 in
set_option maxHeartbeats 4000000 in
theorem cc_X8_shownPlace {G : dk_G} {l : Launch} {a0 : Int32} (hD : dk_D G)  {s : dk_S} {K : Int32 → dk_S → Prop} (h : wf_X8_shownPlace a0 s K) : dk_M G l 1 yX8_shownPlace cX8_shownPlace 1 (some .int) [.int a0] s (dk_ki K) := by
  refine dk_of hD (by decide) [some (.int a0)] (fun q hq => hq) rfl (Nat.le_of_ble_eq_true rfl) (fun P e S0 m args bel meth c C hr hlk => ?_)
  unfold wf_X8_shownPlace at h
  refine dk_bipush (v := 100) C dX8_shownPlace_0 (n := 2) rfl (by decide) ?_
  refine dk_iload_n (i := 0) C dX8_shownPlace_2 (n := 3) rfl rfl rfl ?_
  refine dk_bipush (v := 12) C dX8_shownPlace_3 (n := 5) rfl (by decide) ?_
  refine dk_idiv C dX8_shownPlace_5 (n := 6) rfl (by decide) ?_
  refine dk_imul C dX8_shownPlace_6 (n := 7) rfl ?_
  refine dk_iload_n (i := 0) C dX8_shownPlace_7 (n := 8) rfl rfl rfl ?_
  refine dk_bipush (v := 12) C dX8_shownPlace_8 (n := 10) rfl (by decide) ?_
  refine dk_irem C dX8_shownPlace_10 (n := 11) rfl (by decide) ?_
  refine dk_iadd C dX8_shownPlace_11 (n := 12) rfl ?_
  exact dk_iret C hr hlk rfl dX8_shownPlace_12 ⟨_, rfl, h⟩
