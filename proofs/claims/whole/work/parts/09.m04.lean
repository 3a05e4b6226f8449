/-! X8_act -/
def wf_X8_act (a1 : Int32) (a2 : Int32) (a3 : Int32) (s : dk_S) (K : Int32 → dk_S → Prop) : Prop :=
  wf_X7_perform 2 a1 a2 a3 s (fun r2 s1 => ((r2 = (-1000000) → K r2 s1) ∧ (¬ r2 = (-1000000) → wf_X5_add a1 a2 a3 s1 (fun s3 => wf_X7_waitForHero 2 s3 (fun s4 => wf_X8_settle s4 (fun s5 => K r2 s5))))))
set_option maxRecDepth 20000 in
set_option maxHeartbeats 4000000 in
theorem cc_X8_act {G : dk_G} {l : Launch} {a1 : Int32} {a2 : Int32} {a3 : Int32} (hD : dk_D G) (hri : dk_RI G) {s : dk_S} {K : Int32 → dk_S → Prop} (h : wf_X8_act a1 a2 a3 s K) : dk_M G l 7 yX8_act cX8_act 5 (some .int) [dk_r G 0 40, .int a1, .int a2, .int a3] s (dk_ki K) := by
  refine dk_of hD (by decide) [some (dk_r G 0 40), some (.int a1), some (.int a2), some (.int a3), none] (fun q hq => hq) rfl (Nat.le_of_ble_eq_true rfl) (fun P e S0 m args bel meth c C hr hlk => ?_)
  unfold wf_X8_act at h
  refine dk_aload_n (i := 0) C dX8_act_0 (n := 1) rfl rfl rfl ?_
  refine gf_X8_16 C (hri.1 40 (by decide) (by decide)) dX8_act_1 (n := 4) rfl ?_
  refine dk_iload_n (i := 1) C dX8_act_4 (n := 5) rfl rfl rfl ?_
  refine dk_iload_n (i := 2) C dX8_act_5 (n := 6) rfl rfl rfl ?_
  refine dk_iload_n (i := 3) C dX8_act_6 (n := 7) rfl rfl rfl ?_
  refine dk_callVi C [] (cc_X7_perform C.D hri.2.2.1 h) yy_X7_perform dk_wm_X8_279 dk_sh0 (hri.2.2.1 0 (by decide)) dX8_act_7 (fun r2 s1 h => ?_) rfl rfl ⟨Nat.le_of_ble_eq_true rfl, Nat.le_of_ble_eq_true rfl⟩ rfl (Nat.le_of_ble_eq_true rfl) rfl (n := 10) rfl
  refine dk_istore (i := 4) (L' := [some (dk_r G 0 40), some (.int a1), some (.int a2), some (.int a3), some (.int r2)]) C dX8_act_10 (n := 12) rfl (dk_nc_of rfl) (Nat.le_of_ble_eq_true rfl) rfl ?_
  refine dk_iload C dX8_act_12 (n := 14) rfl (i := 4) rfl ?_
  refine dk_ldc (v := (-1000000)) C dX8_act_14 (n := 16) rfl dk_wk_X8_188 ?_
  refine dk_icmp_eq (t := 40) C dX8_act_16 (n := 19) rfl (by decide) (fun c6 => ?_) (fun c6 => ?_)
  · have h := h.1 c6
    refine dk_iload C dX8_act_40 (n := 42) rfl (i := 4) rfl ?_
    exact dk_iret C hr hlk rfl dX8_act_42 ⟨_, rfl, h⟩
  · have h := h.2 c6
    refine dk_aload_n (i := 0) C dX8_act_19 (n := 20) rfl rfl rfl ?_
    refine gf_X8_25 C (hri.1 40 (by decide) (by decide)) dX8_act_20 (n := 23) rfl ?_
    refine dk_iload_n (i := 1) C dX8_act_23 (n := 24) rfl rfl rfl ?_
    refine dk_iload_n (i := 2) C dX8_act_24 (n := 25) rfl rfl rfl ?_
    refine dk_iload_n (i := 3) C dX8_act_25 (n := 26) rfl rfl rfl ?_
    refine dk_callVv C [] (cc_X5_add C.D hri h) yy_X5_add dk_wm_X8_282 dk_sh41 (hri.1 41 (by decide) (by decide)) dX8_act_26 (fun s3 h => ?_) rfl rfl ⟨Nat.le_of_ble_eq_true rfl, Nat.le_of_ble_eq_true rfl⟩ rfl (Nat.le_of_ble_eq_true rfl) rfl (n := 29) rfl
    refine dk_aload_n (i := 0) C dX8_act_29 (n := 30) rfl rfl rfl ?_
    refine gf_X8_16 C (hri.1 40 (by decide) (by decide)) dX8_act_30 (n := 33) rfl ?_
    refine dk_callVv C [] (cc_X7_waitForHero C.D hri.2.2.1 h) yy_X7_waitForHero dk_wm_X8_169 dk_sh0 (hri.2.2.1 0 (by decide)) dX8_act_33 (fun s4 h => ?_) rfl rfl ⟨Nat.le_of_ble_eq_true rfl, Nat.le_of_ble_eq_true rfl⟩ rfl (Nat.le_of_ble_eq_true rfl) rfl (n := 36) rfl
    refine dk_aload_n (i := 0) C dX8_act_36 (n := 37) rfl rfl rfl ?_
    refine dk_callVv C [] (cc_X8_settle C.D hri h) yy_X8_settle dk_wm_X8_172 dk_sh40 (hri.1 40 (by decide) (by decide)) dX8_act_37 (fun s5 h => ?_) rfl rfl ⟨Nat.le_of_ble_eq_true rfl, Nat.le_of_ble_eq_true rfl⟩ rfl (Nat.le_of_ble_eq_true rfl) rfl (n := 40) rfl
    refine dk_iload C dX8_act_40 (n := 42) rfl (i := 4) rfl ?_
    exact dk_iret C hr hlk rfl dX8_act_42 ⟨_, rfl, h⟩
/-! X8_redo -/
def wf_X8_redo_7  (K : dk_S → Prop) (E91 : dk_S → Prop) : Nat → dk_S → Prop
  | 0, _ => False
  | n + 1, s => (((s 0 41 3) ≤ (s 0 40 6) → E91 s) ∧ (¬ (s 0 41 3) ≤ (s 0 40 6) → wf_X8_at 0 42 512 (s 0 40 6) s (fun r9 s8 => wf_X8_at 0 43 512 (s8 0 40 6) s8 (fun r11 s10 => wf_X8_at 0 44 512 (s10 0 40 6) s10 (fun r13 s12 => wf_X7_perform 3 r9 r11 r13 s12 (fun r15 s14 => wf_X7_waitForHero 3 s14 (fun s16 => ∀ s17 : dk_S, s17 = dk_row s16 0 40 (upd (s16 0 40) 6 ((s16 0 40 6) + 1)) → wf_X8_redo_7 K E91 n s17)))))))
def wf_X8_redo  (s : dk_S) (K : dk_S → Prop) : Prop :=
  wf_X7_waitForHero 3 s (fun s1 => ∃ nn7 : Nat, wf_X8_redo_7 K (fun (s2 : dk_S) => wf_X2_lives 3 0 s2 (fun r4 s3 => ((¬ r4 = 0 → K s3) ∧ (r4 = 0 → wf_X7_layHands 3 s3 (fun s5 => K s5))))) nn7 s1)
set_option maxRecDepth 20000 in
set_option maxHeartbeats 4000000 in
theorem ww_X8_redo_7 {G : dk_G} {P : Program} {l : Launch} {e : Env} {S0 : State} {m : MethodId} {args : Array Value} {bel : List Frame} {meth : Method} {c : Code}  (C : dk_C G P (dk_rm 7) S0 m args c 0 0 cX8_redo 1 RX8) (hr : meth.sig.returnType = none) (hlk : meth.locks = false) (hri : dk_RI G) {K : dk_S → Prop} {E91 : dk_S → Prop} (hE91 : ∀ (s : dk_S), E91 s → dk_W G P l e (dk_rm 7) S0 m args bel meth c 0 0 (MQ bel (dk_Qc G (dk_kv K)) args S0 0 0 (dk_A G)) 91 [some (dk_r G 0 40)] [] s) : ∀ (n : Nat)  (s : dk_S), wf_X8_redo_7 K E91 n  s → dk_W G P l e (dk_rm 7) S0 m args bel meth c 0 0 (MQ bel (dk_Qc G (dk_kv K)) args S0 0 0 (dk_A G)) 7 [some (dk_r G 0 40)] [] s := by
  intro n
  induction n with
  | zero => intro s h; exact False.elim h
  | succ n hB =>
    intro s h
    unfold wf_X8_redo_7 at h
    refine dk_aload_n (i := 0) C dX8_redo_7 (n := 8) rfl rfl rfl ?_
    refine gf_X8_40 C (hri.1 40 (by decide) (by decide)) dX8_redo_8 (n := 11) rfl ?_
    refine dk_aload_n (i := 0) C dX8_redo_11 (n := 12) rfl rfl rfl ?_
    refine gf_X8_25 C (hri.1 40 (by decide) (by decide)) dX8_redo_12 (n := 15) rfl ?_
    refine gf_X8_168 C (hri.1 41 (by decide) (by decide)) dX8_redo_15 (n := 18) rfl ?_
    refine dk_icmp_ge (t := 91) C dX8_redo_18 (n := 21) rfl (by decide) (fun c18 => ?_) (fun c18 => ?_)
    · have h := h.1 c18
      refine dk_sub (L0 := [some (dk_r G 0 40)]) ⟨rfl, trivial⟩ ?_
      exact hE91  s h
    · have h := h.2 c18
      refine dk_aload_n (i := 0) C dX8_redo_21 (n := 22) rfl rfl rfl ?_
      refine gf_X8_19 C (hri.1 40 (by decide) (by decide)) dX8_redo_22 (n := 25) rfl ?_
      refine dk_aload_n (i := 0) C dX8_redo_25 (n := 26) rfl rfl rfl ?_
      refine gf_X8_25 C (hri.1 40 (by decide) (by decide)) dX8_redo_26 (n := 29) rfl ?_
      refine gf_X8_293 C (hri.1 41 (by decide) (by decide)) dX8_redo_29 (n := 32) rfl ?_
      refine dk_aload_n (i := 0) C dX8_redo_32 (n := 33) rfl rfl rfl ?_
      refine gf_X8_40 C (hri.1 40 (by decide) (by decide)) dX8_redo_33 (n := 36) rfl ?_
      refine dk_callSi C [dk_r G 3 0] (cc_X8_at C.D dk_sh42 (hri.1 42 (by decide) (by decide)) h) yy_X8_at dk_wm_X8_94 dX8_redo_36 (fun r9 s8 h => ?_) rfl ⟨Nat.le_of_ble_eq_true rfl, Nat.le_of_ble_eq_true rfl⟩ rfl (Nat.le_of_ble_eq_true rfl) rfl (n := 39) rfl
      refine dk_aload_n (i := 0) C dX8_redo_39 (n := 40) rfl rfl rfl ?_
      refine gf_X8_25 C (hri.1 40 (by decide) (by decide)) dX8_redo_40 (n := 43) rfl ?_
      refine gf_X8_296 C (hri.1 41 (by decide) (by decide)) dX8_redo_43 (n := 46) rfl ?_
      refine dk_aload_n (i := 0) C dX8_redo_46 (n := 47) rfl rfl rfl ?_
      refine gf_X8_40 C (hri.1 40 (by decide) (by decide)) dX8_redo_47 (n := 50) rfl ?_
      refine dk_callSi C [.int r9, dk_r G 3 0] (cc_X8_at C.D dk_sh43 (hri.1 43 (by decide) (by decide)) h) yy_X8_at dk_wm_X8_94 dX8_redo_50 (fun r11 s10 h => ?_) rfl ⟨Nat.le_of_ble_eq_true rfl, Nat.le_of_ble_eq_true rfl⟩ rfl (Nat.le_of_ble_eq_true rfl) rfl (n := 53) rfl
      refine dk_aload_n (i := 0) C dX8_redo_53 (n := 54) rfl rfl rfl ?_
      refine gf_X8_25 C (hri.1 40 (by decide) (by decide)) dX8_redo_54 (n := 57) rfl ?_
      refine gf_X8_299 C (hri.1 41 (by decide) (by decide)) dX8_redo_57 (n := 60) rfl ?_
      refine dk_aload_n (i := 0) C dX8_redo_60 (n := 61) rfl rfl rfl ?_
      refine gf_X8_40 C (hri.1 40 (by decide) (by decide)) dX8_redo_61 (n := 64) rfl ?_
      refine dk_callSi C [.int r11, .int r9, dk_r G 3 0] (cc_X8_at C.D dk_sh44 (hri.1 44 (by decide) (by decide)) h) yy_X8_at dk_wm_X8_94 dX8_redo_64 (fun r13 s12 h => ?_) rfl ⟨Nat.le_of_ble_eq_true rfl, Nat.le_of_ble_eq_true rfl⟩ rfl (Nat.le_of_ble_eq_true rfl) rfl (n := 67) rfl
      refine dk_callVi C [] (cc_X7_perform C.D hri.2.2.2 h) yy_X7_perform dk_wm_X8_279 dk_sh0 (hri.2.2.2 0 (by decide)) dX8_redo_67 (fun r15 s14 h => ?_) rfl rfl ⟨Nat.le_of_ble_eq_true rfl, Nat.le_of_ble_eq_true rfl⟩ rfl (Nat.le_of_ble_eq_true rfl) rfl (n := 70) rfl
      refine dk_pop C dX8_redo_70 (n := 71) rfl rfl ?_
      refine dk_aload_n (i := 0) C dX8_redo_71 (n := 72) rfl rfl rfl ?_
      refine gf_X8_19 C (hri.1 40 (by decide) (by decide)) dX8_redo_72 (n := 75) rfl ?_
      refine dk_callVv C [] (cc_X7_waitForHero C.D hri.2.2.2 h) yy_X7_waitForHero dk_wm_X8_169 dk_sh0 (hri.2.2.2 0 (by decide)) dX8_redo_75 (fun s16 h => ?_) rfl rfl ⟨Nat.le_of_ble_eq_true rfl, Nat.le_of_ble_eq_true rfl⟩ rfl (Nat.le_of_ble_eq_true rfl) rfl (n := 78) rfl
      refine dk_aload_n (i := 0) C dX8_redo_78 (n := 79) rfl rfl rfl ?_
      refine dk_dup C dX8_redo_79 (n := 80) rfl rfl ?_
      refine gf_X8_40 C (hri.1 40 (by decide) (by decide)) dX8_redo_80 (n := 83) rfl ?_
      refine dk_iconst (v := 1) C dX8_redo_83 (n := 84) rfl (by decide) ?_
      refine dk_iadd C dX8_redo_84 (n := 85) rfl ?_
      refine pf_X8_40 C rfl rfl (hri.1 40 (by decide) (by decide)) dX8_redo_85 (n := 88) rfl ?_
      refine dk_nameS (fun s17 es17 => ?_)
      have h := h s17 es17
      refine dk_goto (t := 7) C dX8_redo_88 (by decide) ?_
      refine dk_sub (L0 := [some (dk_r G 0 40)]) ⟨rfl, trivial⟩ ?_
      exact hB  s17 h
set_option maxRecDepth 20000 in
set_option maxHeartbeats 4000000 in
theorem cc_X8_redo {G : dk_G} {l : Launch}  (hD : dk_D G) (hri : dk_RI G) {s : dk_S} {K : dk_S → Prop} (h : wf_X8_redo s K) : dk_M G l 7 yX8_redo cX8_redo 1 none [dk_r G 0 40] s (dk_kv K) := by
  refine dk_of hD (by decide) [some (dk_r G 0 40)] (fun q hq => hq) rfl (Nat.le_of_ble_eq_true rfl) (fun P e S0 m args bel meth c C hr hlk => ?_)
  unfold wf_X8_redo at h
  refine dk_aload_n (i := 0) C dX8_redo_0 (n := 1) rfl rfl rfl ?_
  refine gf_X8_19 C (hri.1 40 (by decide) (by decide)) dX8_redo_1 (n := 4) rfl ?_
  refine dk_callVv C [] (cc_X7_waitForHero C.D hri.2.2.2 h) yy_X7_waitForHero dk_wm_X8_169 dk_sh0 (hri.2.2.2 0 (by decide)) dX8_redo_4 (fun s1 h => ?_) rfl rfl ⟨Nat.le_of_ble_eq_true rfl, Nat.le_of_ble_eq_true rfl⟩ rfl (Nat.le_of_ble_eq_true rfl) rfl (n := 7) rfl
  obtain ⟨nn7, h⟩ := h
  refine dk_sub (L0 := [some (dk_r G 0 40)]) ⟨rfl, trivial⟩ ?_
  refine ww_X8_redo_7 C hr hlk hri (fun s2 h => ?_) nn7 s1 h
  · refine dk_aload_n (i := 0) C dX8_redo_91 (n := 92) rfl rfl rfl ?_
    refine gf_X8_19 C (hri.1 40 (by decide) (by decide)) dX8_redo_92 (n := 95) rfl ?_
    refine gf_X8_111 C (hri.2.2.2 0 (by decide)) dX8_redo_95 (n := 98) rfl ?_
    refine dk_iconst (v := 0) C dX8_redo_98 (n := 99) rfl (by decide) ?_
    refine dk_callVi C [] (cc_X2_lives C.D hri.2.2.2 h) yy_X2_lives dk_wm_X8_284 dk_sh13 (hri.2.2.2 13 (by decide)) dX8_redo_99 (fun r4 s3 h => ?_) rfl rfl ⟨Nat.le_of_ble_eq_true rfl, Nat.le_of_ble_eq_true rfl⟩ rfl (Nat.le_of_ble_eq_true rfl) rfl (n := 102) rfl
    refine dk_if_ne (t := 112) C dX8_redo_102 (n := 105) rfl (by decide) (fun c6 => ?_) (fun c6 => ?_)
    · have h := h.1 c6
      exact dk_vret C hr hlk dX8_redo_112 ⟨rfl, h⟩
    · have h := h.2 c6
      refine dk_aload_n (i := 0) C dX8_redo_105 (n := 106) rfl rfl rfl ?_
      refine gf_X8_19 C (hri.1 40 (by decide) (by decide)) dX8_redo_106 (n := 109) rfl ?_
      refine dk_callVv C [] (cc_X7_layHands C.D hri.2.2.2 h) yy_X7_layHands dk_wm_X8_290 dk_sh0 (hri.2.2.2 0 (by decide)) dX8_redo_109 (fun s5 h => ?_) rfl rfl ⟨Nat.le_of_ble_eq_true rfl, Nat.le_of_ble_eq_true rfl⟩ rfl (Nat.le_of_ble_eq_true rfl) rfl (n := 112) rfl
      exact dk_vret C hr hlk dX8_redo_112 ⟨rfl, h⟩
/-! X8_shownPlace -/
def wf_X8_shownPlace (a0 : Int32) (s : dk_S) (K : Int32 → dk_S → Prop) : Prop :=
  K ((100 * (a0 / 12)) + (a0 - a0 / 12 * 12)) s
set_option maxRecDepth 20000 in
set_option maxHeartbeats 4000000 in
theorem cc_X8_shownPlace {G : dk_G} {l : Launch} {a0 : Int32} (hD : dk_D G)  {s : dk_S} {K : Int32 → dk_S → Prop} (h : wf_X8_shownPlace a0 s K) : dk_M G l 1 yX8_shownPlace cX8_shownPlace 1 (some .int) [.int a0] s (dk_ki K) := by
  refine dk_of hD (by decide) [some (.int a0)] (fun q hq => hq) rfl (Nat.le_of_ble_eq_true rfl) (fun P e S0 m args bel meth c C hr hlk => ?_)
  unfold wf_X8_shownPlace at h
  refine dk_bipush (v := 100) C dX8_shownPlace_0 (n := 2) rfl (by decide) ?_
  refine dk_iload_n (i := 0) C dX8_shownPlace_2 (n := 3) rfl rfl rfl ?_
  refine dk_bipush (v := 12) C dX8_shownPlace_3 (n := 5) rfl (by decide) ?_
  refine dk_idiv C dX8_shownPlace_5 (n := 6) rfl (by decide) ?_
  refine dk_imul C dX8_shownPlace_6 (n := 7) rfl ?_
  refine dk_iload_n (i := 0) C dX8_shownPlace_7 (n := 8) rfl rfl rfl ?_
  refine dk_bipush (v := 12) C dX8_shownPlace_8 (n := 10) rfl (by decide) ?_
  refine dk_irem C dX8_shownPlace_10 (n := 11) rfl (by decide) ?_
  refine dk_iadd C dX8_shownPlace_11 (n := 12) rfl ?_
  exact dk_iret C hr hlk rfl dX8_shownPlace_12 ⟨_, rfl, h⟩
/-! X9_thrown -/
def wf_X9_thrown  (s : dk_S) (K : Int32 → dk_S → Prop) : Prop :=
  K (s 4 60 0) s
set_option maxRecDepth 20000 in
set_option maxHeartbeats 4000000 in
theorem cc_X9_thrown {G : dk_G} {l : Launch}  (hD : dk_D G) (hmi : dk_MI G) {s : dk_S} {K : Int32 → dk_S → Prop} (h : wf_X9_thrown s K) : dk_M G l 1 yX9_thrown cX9_thrown 1 (some .int) [dk_r G 4 60] s (dk_ki K) := by
  refine dk_of hD (by decide) [some (dk_r G 4 60)] (fun q hq => hq) rfl (Nat.le_of_ble_eq_true rfl) (fun P e S0 m args bel meth c C hr hlk => ?_)
  unfold wf_X9_thrown at h
  refine dk_aload_n (i := 0) C dX9_thrown_0 (n := 1) rfl rfl rfl ?_
  refine gf_X9_107 C (hmi 60 (by decide) (by decide)) dX9_thrown_1 (n := 4) rfl ?_
  exact dk_iret C hr hlk rfl dX9_thrown_4 ⟨_, rfl, h⟩
/-! X9_in -/
def wf_X9_in (a0 : Int32) (a1 : Int32) (a2 : Int32) (s : dk_S) (K : Int32 → dk_S → Prop) : Prop :=
  ((a0 < a1 → K 0 s) ∧ (¬ a0 < a1 → ((a2 < a0 → K 0 s) ∧ (¬ a2 < a0 → K 1 s))))
set_option maxRecDepth 20000 in
set_option maxHeartbeats 4000000 in
theorem cc_X9_in {G : dk_G} {l : Launch} {a0 : Int32} {a1 : Int32} {a2 : Int32} (hD : dk_D G)  {s : dk_S} {K : Int32 → dk_S → Prop} (h : wf_X9_in a0 a1 a2 s K) : dk_M G l 1 yX9_in cX9_in 3 (some .boolean) [.int a0, .int a1, .int a2] s (dk_ki K) := by
  refine dk_of hD (by decide) [some (.int a0), some (.int a1), some (.int a2)] (fun q hq => hq) rfl (Nat.le_of_ble_eq_true rfl) (fun P e S0 m args bel meth c C hr hlk => ?_)
  unfold wf_X9_in at h
  refine dk_iload_n (i := 0) C dX9_in_0 (n := 1) rfl rfl rfl ?_
  refine dk_iload_n (i := 1) C dX9_in_1 (n := 2) rfl rfl rfl ?_
  refine dk_icmp_lt (t := 14) C dX9_in_2 (n := 5) rfl (by decide) (fun c2 => ?_) (fun c2 => ?_)
  · have h := h.1 c2
    refine dk_iconst (v := 0) C dX9_in_14 (n := 15) rfl (by decide) ?_
    exact dk_iret C hr hlk dk_nz0 dX9_in_15 ⟨_, rfl, h⟩
  · have h := h.2 c2
    refine dk_iload_n (i := 0) C dX9_in_5 (n := 6) rfl rfl rfl ?_
    refine dk_iload_n (i := 2) C dX9_in_6 (n := 7) rfl rfl rfl ?_
    refine dk_icmp_gt (t := 14) C dX9_in_7 (n := 10) rfl (by decide) (fun c1 => ?_) (fun c1 => ?_)
    · have h := h.1 c1
      refine dk_iconst (v := 0) C dX9_in_14 (n := 15) rfl (by decide) ?_
      exact dk_iret C hr hlk dk_nz0 dX9_in_15 ⟨_, rfl, h⟩
    · have h := h.2 c1
      refine dk_iconst (v := 1) C dX9_in_10 (n := 11) rfl (by decide) ?_
      refine dk_goto (t := 15) C dX9_in_11 (by decide) ?_
      exact dk_iret C hr hlk dk_nz1 dX9_in_15 ⟨_, rfl, h⟩
/-! X9_goesOn -/
def wf_X9_goesOn (a1 : Int32) (s : dk_S) (K : Int32 → dk_S → Prop) : Prop :=
  ∀ s1 : dk_S, s1 = dk_row s 4 60 (upd (s 4 60) 0 a1) → ((¬ a1 = 0 → K 0 s1) ∧ (a1 = 0 → K 1 s1))
set_option maxRecDepth 20000 in
set_option maxHeartbeats 4000000 in
theorem cc_X9_goesOn {G : dk_G} {l : Launch} {a1 : Int32} (hD : dk_D G) (hmi : dk_MI G) {s : dk_S} {K : Int32 → dk_S → Prop} (h : wf_X9_goesOn a1 s K) : dk_M G l 1 yX9_goesOn cX9_goesOn 2 (some .boolean) [dk_r G 4 60, .int a1] s (dk_ki K) := by
  refine dk_of hD (by decide) [some (dk_r G 4 60), some (.int a1)] (fun q hq => hq) rfl (Nat.le_of_ble_eq_true rfl) (fun P e S0 m args bel meth c C hr hlk => ?_)
  unfold wf_X9_goesOn at h
  refine dk_aload_n (i := 0) C dX9_goesOn_0 (n := 1) rfl rfl rfl ?_
  refine dk_iload_n (i := 1) C dX9_goesOn_1 (n := 2) rfl rfl rfl ?_
  refine pf_X9_107 C rfl rfl (hmi 60 (by decide) (by decide)) dX9_goesOn_2 (n := 5) rfl ?_
  refine dk_nameS (fun s1 es1 => ?_)
  have h := h s1 es1
  refine dk_iload_n (i := 1) C dX9_goesOn_5 (n := 6) rfl rfl rfl ?_
  refine dk_if_ne (t := 13) C dX9_goesOn_6 (n := 9) rfl (by decide) (fun c2 => ?_) (fun c2 => ?_)
  · have h := h.1 c2
    refine dk_iconst (v := 0) C dX9_goesOn_13 (n := 14) rfl (by decide) ?_
    exact dk_iret C hr hlk dk_nz0 dX9_goesOn_14 ⟨_, rfl, h⟩
  · have h := h.2 c2
    refine dk_iconst (v := 1) C dX9_goesOn_9 (n := 10) rfl (by decide) ?_
    refine dk_goto (t := 14) C dX9_goesOn_10 (by decide) ?_
    exact dk_iret C hr hlk dk_nz1 dX9_goesOn_14 ⟨_, rfl, h⟩
/-! X9_isPlace -/
def wf_X9_isPlace (a0 : Int32) (a1 : Int32) (s : dk_S) (K : Int32 → dk_S → Prop) : Prop :=
  wf_X9_in a0 0 11 s (fun r2 s1 => ((r2 = 0 → K 0 s1) ∧ (¬ r2 = 0 → wf_X9_in a1 0 11 s1 (fun r4 s3 => ((r4 = 0 → K 0 s3) ∧ (¬ r4 = 0 → K 1 s3))))))
set_option maxRecDepth 20000 in
set_option maxHeartbeats 4000000 in
theorem cc_X9_isPlace {G : dk_G} {l : Launch} {a0 : Int32} {a1 : Int32} (hD : dk_D G)  {s : dk_S} {K : Int32 → dk_S → Prop} (h : wf_X9_isPlace a0 a1 s K) : dk_M G l 2 yX9_isPlace cX9_isPlace 2 (some .boolean) [.int a0, .int a1] s (dk_ki K) := by
  refine dk_of hD (by decide) [some (.int a0), some (.int a1)] (fun q hq => hq) rfl (Nat.le_of_ble_eq_true rfl) (fun P e S0 m args bel meth c C hr hlk => ?_)
  unfold wf_X9_isPlace at h
  refine dk_iload_n (i := 0) C dX9_isPlace_0 (n := 1) rfl rfl rfl ?_
  refine dk_iconst (v := 0) C dX9_isPlace_1 (n := 2) rfl (by decide) ?_
  refine dk_bipush (v := 11) C dX9_isPlace_2 (n := 4) rfl (by decide) ?_
  refine dk_callSi C [] (cc_X9_in C.D  h) yy_X9_in dk_wm_X9_110 dX9_isPlace_4 (fun r2 s1 h => ?_) rfl ⟨Nat.le_of_ble_eq_true rfl, Nat.le_of_ble_eq_true rfl⟩ rfl (Nat.le_of_ble_eq_true rfl) rfl (n := 7) rfl
  refine dk_if_eq (t := 24) C dX9_isPlace_7 (n := 10) rfl (by decide) (fun c6 => ?_) (fun c6 => ?_)
  · have h := h.1 c6
    refine dk_iconst (v := 0) C dX9_isPlace_24 (n := 25) rfl (by decide) ?_
    exact dk_iret C hr hlk dk_nz0 dX9_isPlace_25 ⟨_, rfl, h⟩
  · have h := h.2 c6
    refine dk_iload_n (i := 1) C dX9_isPlace_10 (n := 11) rfl rfl rfl ?_
    refine dk_iconst (v := 0) C dX9_isPlace_11 (n := 12) rfl (by decide) ?_
    refine dk_bipush (v := 11) C dX9_isPlace_12 (n := 14) rfl (by decide) ?_
    refine dk_callSi C [] (cc_X9_in C.D  h) yy_X9_in dk_wm_X9_110 dX9_isPlace_14 (fun r4 s3 h => ?_) rfl ⟨Nat.le_of_ble_eq_true rfl, Nat.le_of_ble_eq_true rfl⟩ rfl (Nat.le_of_ble_eq_true rfl) rfl (n := 17) rfl
    refine dk_if_eq (t := 24) C dX9_isPlace_17 (n := 20) rfl (by decide) (fun c5 => ?_) (fun c5 => ?_)
    · have h := h.1 c5
      refine dk_iconst (v := 0) C dX9_isPlace_24 (n := 25) rfl (by decide) ?_
      exact dk_iret C hr hlk dk_nz0 dX9_isPlace_25 ⟨_, rfl, h⟩
    · have h := h.2 c5
      refine dk_iconst (v := 1) C dX9_isPlace_20 (n := 21) rfl (by decide) ?_
      refine dk_goto (t := 25) C dX9_isPlace_21 (by decide) ?_
      exact dk_iret C hr hlk dk_nz1 dX9_isPlace_25 ⟨_, rfl, h⟩
/-! X9_at -/
def wf_X9_at (a0 : Int32) (a1 : Int32) (s : dk_S) (K : Int32 → dk_S → Prop) : Prop :=
  K ((12 * a1) + a0) s
set_option maxRecDepth 20000 in
set_option maxHeartbeats 4000000 in
theorem cc_X9_at {G : dk_G} {l : Launch} {a0 : Int32} {a1 : Int32} (hD : dk_D G)  {s : dk_S} {K : Int32 → dk_S → Prop} (h : wf_X9_at a0 a1 s K) : dk_M G l 1 yX9_at cX9_at 2 (some .int) [.int a0, .int a1] s (dk_ki K) := by
  refine dk_of hD (by decide) [some (.int a0), some (.int a1)] (fun q hq => hq) rfl (Nat.le_of_ble_eq_true rfl) (fun P e S0 m args bel meth c C hr hlk => ?_)
  unfold wf_X9_at at h
  refine dk_bipush (v := 12) C dX9_at_0 (n := 2) rfl (by decide) ?_
  refine dk_iload_n (i := 1) C dX9_at_2 (n := 3) rfl rfl rfl ?_
  refine dk_imul C dX9_at_3 (n := 4) rfl ?_
  refine dk_iload_n (i := 0) C dX9_at_4 (n := 5) rfl rfl rfl ?_
  refine dk_iadd C dX9_at_5 (n := 6) rfl ?_
  exact dk_iret C hr hlk rfl dX9_at_6 ⟨_, rfl, h⟩
/-! X9_xOf -/
def wf_X9_xOf (a0 : Int32) (s : dk_S) (K : Int32 → dk_S → Prop) : Prop :=
  K (a0 - a0 / 12 * 12) s
set_option maxRecDepth 20000 in
set_option maxHeartbeats 4000000 in
theorem cc_X9_xOf {G : dk_G} {l : Launch} {a0 : Int32} (hD : dk_D G)  {s : dk_S} {K : Int32 → dk_S → Prop} (h : wf_X9_xOf a0 s K) : dk_M G l 1 yX9_xOf cX9_xOf 1 (some .int) [.int a0] s (dk_ki K) := by
  refine dk_of hD (by decide) [some (.int a0)] (fun q hq => hq) rfl (Nat.le_of_ble_eq_true rfl) (fun P e S0 m args bel meth c C hr hlk => ?_)
  unfold wf_X9_xOf at h
  refine dk_iload_n (i := 0) C dX9_xOf_0 (n := 1) rfl rfl rfl ?_
  refine dk_bipush (v := 12) C dX9_xOf_1 (n := 3) rfl (by decide) ?_
  refine dk_irem C dX9_xOf_3 (n := 4) rfl (by decide) ?_
  exact dk_iret C hr hlk rfl dX9_xOf_4 ⟨_, rfl, h⟩
/-! X9_yOf -/
def wf_X9_yOf (a0 : Int32) (s : dk_S) (K : Int32 → dk_S → Prop) : Prop :=
  K (a0 / 12) s
set_option maxRecDepth 20000 in
set_option maxHeartbeats 4000000 in
theorem cc_X9_yOf {G : dk_G} {l : Launch} {a0 : Int32} (hD : dk_D G)  {s : dk_S} {K : Int32 → dk_S → Prop} (h : wf_X9_yOf a0 s K) : dk_M G l 1 yX9_yOf cX9_yOf 1 (some .int) [.int a0] s (dk_ki K) := by
  refine dk_of hD (by decide) [some (.int a0)] (fun q hq => hq) rfl (Nat.le_of_ble_eq_true rfl) (fun P e S0 m args bel meth c C hr hlk => ?_)
  unfold wf_X9_yOf at h
  refine dk_iload_n (i := 0) C dX9_yOf_0 (n := 1) rfl rfl rfl ?_
  refine dk_bipush (v := 12) C dX9_yOf_1 (n := 3) rfl (by decide) ?_
  refine dk_idiv C dX9_yOf_3 (n := 4) rfl (by decide) ?_
  exact dk_iret C hr hlk rfl dX9_yOf_4 ⟨_, rfl, h⟩
/-! X9_told -/
def wf_X9_told (a0 : Int32) (s : dk_S) (K : Int32 → dk_S → Prop) : Prop :=
  wf_X9_xOf a0 s (fun r2 s1 => wf_X9_yOf a0 s1 (fun r4 s3 => K ((100 * r2) + r4) s3))
set_option maxRecDepth 20000 in
set_option maxHeartbeats 4000000 in
theorem cc_X9_told {G : dk_G} {l : Launch} {a0 : Int32} (hD : dk_D G)  {s : dk_S} {K : Int32 → dk_S → Prop} (h : wf_X9_told a0 s K) : dk_M G l 2 yX9_told cX9_told 1 (some .int) [.int a0] s (dk_ki K) := by
  refine dk_of hD (by decide) [some (.int a0)] (fun q hq => hq) rfl (Nat.le_of_ble_eq_true rfl) (fun P e S0 m args bel meth c C hr hlk => ?_)
  unfold wf_X9_told at h
  refine dk_bipush (v := 100) C dX9_told_0 (n := 2) rfl (by decide) ?_
  refine dk_iload_n (i := 0) C dX9_told_2 (n := 3) rfl rfl rfl ?_
  refine dk_callSi C [.int 100] (cc_X9_xOf C.D  h) yy_X9_xOf dk_wm_X9_114 dX9_told_3 (fun r2 s1 h => ?_) rfl ⟨Nat.le_of_ble_eq_true rfl, Nat.le_of_ble_eq_true rfl⟩ rfl (Nat.le_of_ble_eq_true rfl) rfl (n := 6) rfl
  refine dk_imul C dX9_told_6 (n := 7) rfl ?_
  refine dk_iload_n (i := 0) C dX9_told_7 (n := 8) rfl rfl rfl ?_
  refine dk_callSi C [.int (100 * r2)] (cc_X9_yOf C.D  h) yy_X9_yOf dk_wm_X9_118 dX9_told_8 (fun r4 s3 h => ?_) rfl ⟨Nat.le_of_ble_eq_true rfl, Nat.le_of_ble_eq_true rfl⟩ rfl (Nat.le_of_ble_eq_true rfl) rfl (n := 11) rfl
  refine dk_iadd C dX9_told_11 (n := 12) rfl ?_
  exact dk_iret C hr hlk rfl dX9_told_12 ⟨_, rfl, h⟩
/-! X9_far -/
def wf_X9_far (a0 : Int32) (s : dk_S) (K : Int32 → dk_S → Prop) : Prop :=
  ((0 ≤ a0 → K a0 s) ∧ (¬ 0 ≤ a0 → K (-a0) s))
set_option maxRecDepth 20000 in
set_option maxHeartbeats 4000000 in
theorem cc_X9_far {G : dk_G} {l : Launch} {a0 : Int32} (hD : dk_D G)  {s : dk_S} {K : Int32 → dk_S → Prop} (h : wf_X9_far a0 s K) : dk_M G l 1 yX9_far cX9_far 1 (some .int) [.int a0] s (dk_ki K) := by
  refine dk_of hD (by decide) [some (.int a0)] (fun q hq => hq) rfl (Nat.le_of_ble_eq_true rfl) (fun P e S0 m args bel meth c C hr hlk => ?_)
  unfold wf_X9_far at h
  refine dk_iload_n (i := 0) C dX9_far_0 (n := 1) rfl rfl rfl ?_
  refine dk_if_ge (t := 9) C dX9_far_1 (n := 4) rfl (by decide) (fun c1 => ?_) (fun c1 => ?_)
  · have h := h.1 c1
    refine dk_iload_n (i := 0) C dX9_far_9 (n := 10) rfl rfl rfl ?_
    exact dk_iret C hr hlk rfl dX9_far_10 ⟨_, rfl, h⟩
  · have h := h.2 c1
    refine dk_iload_n (i := 0) C dX9_far_4 (n := 5) rfl rfl rfl ?_
    refine dk_ineg C dX9_far_5 (n := 6) rfl ?_
    refine dk_goto (t := 10) C dX9_far_6 (by decide) ?_
    exact dk_iret C hr hlk rfl dX9_far_10 ⟨_, rfl, h⟩
/-! X9_isOn -/
def wf_X9_isOn  (s : dk_S) (K : Int32 → dk_S → Prop) : Prop :=
  ((¬ (s 4 60 1) = 111 → K 0 s) ∧ ((s 4 60 1) = 111 → K 1 s))
set_option maxRecDepth 20000 in
set_option maxHeartbeats 4000000 in
theorem cc_X9_isOn {G : dk_G} {l : Launch}  (hD : dk_D G) (hmi : dk_MI G) {s : dk_S} {K : Int32 → dk_S → Prop} (h : wf_X9_isOn s K) : dk_M G l 1 yX9_isOn cX9_isOn 1 (some .boolean) [dk_r G 4 60] s (dk_ki K) := by
  refine dk_of hD (by decide) [some (dk_r G 4 60)] (fun q hq => hq) rfl (Nat.le_of_ble_eq_true rfl) (fun P e S0 m args bel meth c C hr hlk => ?_)
  unfold wf_X9_isOn at h
  refine dk_aload_n (i := 0) C dX9_isOn_0 (n := 1) rfl rfl rfl ?_
  refine gf_X9_7 C (hmi 60 (by decide) (by decide)) dX9_isOn_1 (n := 4) rfl ?_
  refine dk_bipush (v := 111) C dX9_isOn_4 (n := 6) rfl (by decide) ?_
  refine dk_icmp_ne (t := 13) C dX9_isOn_6 (n := 9) rfl (by decide) (fun c1 => ?_) (fun c1 => ?_)
  · have h := h.1 c1
    refine dk_iconst (v := 0) C dX9_isOn_13 (n := 14) rfl (by decide) ?_
    exact dk_iret C hr hlk dk_nz0 dX9_isOn_14 ⟨_, rfl, h⟩
  · have h := h.2 c1
    refine dk_iconst (v := 1) C dX9_isOn_9 (n := 10) rfl (by decide) ?_
    refine dk_goto (t := 14) C dX9_isOn_10 (by decide) ?_
    exact dk_iret C hr hlk dk_nz1 dX9_isOn_14 ⟨_, rfl, h⟩
/-! X9_beside -/
def wf_X9_beside_47  (K : Int32 → dk_S → Prop) (x2 : Int32) (y0 : Int32) (y1 : Int32) (s : dk_S) : Prop :=
  ∀ v10 : Int32, v10 = y1 + y0 → wf_X9_isPlace x2 v10 s (fun r12 s11 => ((r12 = 0 → K (-1) s11) ∧ (¬ r12 = 0 → wf_X9_at x2 v10 s11 (fun r14 s13 => K r14 s13))))
def wf_X9_beside_23  (K : Int32 → dk_S → Prop) (x0 : Int32) (x1 : Int32) (y0 : Int32) (y1 : Int32) (s : dk_S) : Prop :=
  ∀ v5 : Int32, v5 = y1 + y0 → wf_X9_yOf x0 s (fun r7 s6 => ((¬ x1 = 2 → ((¬ x1 = 0 → wf_X9_beside_47 K v5 0 r7 s6) ∧ (x1 = 0 → wf_X9_beside_47 K v5 (-1) r7 s6))) ∧ (x1 = 2 → wf_X9_beside_47 K v5 1 r7 s6)))
def wf_X9_beside (a0 : Int32) (a1 : Int32) (s : dk_S) (K : Int32 → dk_S → Prop) : Prop :=
  wf_X9_xOf a0 s (fun r2 s1 => ((¬ a1 = 1 → ((¬ a1 = 3 → wf_X9_beside_23 K a0 a1 0 r2 s1) ∧ (a1 = 3 → wf_X9_beside_23 K a0 a1 (-1) r2 s1))) ∧ (a1 = 1 → wf_X9_beside_23 K a0 a1 1 r2 s1)))
set_option maxRecDepth 20000 in
set_option maxHeartbeats 4000000 in
theorem ww_X9_beside_47 {G : dk_G} {P : Program} {l : Launch} {e : Env} {S0 : State} {m : MethodId} {args : Array Value} {bel : List Frame} {meth : Method} {c : Code}  (C : dk_C G P (dk_rm 3) S0 m args c 0 0 cX9_beside 4 RX9) (hr : meth.sig.returnType = (some .int)) (hlk : meth.locks = false)  {K : Int32 → dk_S → Prop}  : ∀ (x2 : Int32) (y0 : Int32) (y1 : Int32) (s : dk_S), wf_X9_beside_47 K x2 y0 y1 s → dk_W G P l e (dk_rm 3) S0 m args bel meth c 0 0 (MQ bel (dk_Qc G (dk_ki K)) args S0 0 0 (dk_A G)) 47 [none, none, some (.int x2), none] [.int y0, .int y1] s := by
  intro x2 y0 y1 s h
  unfold wf_X9_beside_47 at h
  refine dk_iadd C dX9_beside_47 (n := 48) rfl ?_
  refine dk_name (fun v10 ev10 => ?_)
  have h := h v10 ev10
  refine dk_istore_n (i := 3) (L' := [none, none, some (.int x2), some (.int v10)]) C dX9_beside_48 (n := 49) rfl rfl (dk_nc_of rfl) (Nat.le_of_ble_eq_true rfl) rfl ?_
  refine dk_iload_n (i := 2) C dX9_beside_49 (n := 50) rfl rfl rfl ?_
  refine dk_iload_n (i := 3) C dX9_beside_50 (n := 51) rfl rfl rfl ?_
  refine dk_callSi C [] (cc_X9_isPlace C.D  h) yy_X9_isPlace dk_wm_X9_121 dX9_beside_51 (fun r12 s11 h => ?_) rfl ⟨Nat.le_of_ble_eq_true rfl, Nat.le_of_ble_eq_true rfl⟩ rfl (Nat.le_of_ble_eq_true rfl) rfl (n := 54) rfl
  refine dk_if_eq (t := 65) C dX9_beside_54 (n := 57) rfl (by decide) (fun c15 => ?_) (fun c15 => ?_)
  · have h := h.1 c15
    refine dk_iconst (v := (-1)) C dX9_beside_65 (n := 66) rfl (by decide) ?_
    exact dk_iret C hr hlk rfl dX9_beside_66 ⟨_, rfl, h⟩
  · have h := h.2 c15
    refine dk_iload_n (i := 2) C dX9_beside_57 (n := 58) rfl rfl rfl ?_
    refine dk_iload_n (i := 3) C dX9_beside_58 (n := 59) rfl rfl rfl ?_
    refine dk_callSi C [] (cc_X9_at C.D  h) yy_X9_at dk_wm_X9_125 dX9_beside_59 (fun r14 s13 h => ?_) rfl ⟨Nat.le_of_ble_eq_true rfl, Nat.le_of_ble_eq_true rfl⟩ rfl (Nat.le_of_ble_eq_true rfl) rfl (n := 62) rfl
    refine dk_goto (t := 66) C dX9_beside_62 (by decide) ?_
    exact dk_iret C hr hlk rfl dX9_beside_66 ⟨_, rfl, h⟩
set_option maxRecDepth 20000 in
set_option maxHeartbeats 4000000 in
theorem ww_X9_beside_23 {G : dk_G} {P : Program} {l : Launch} {e : Env} {S0 : State} {m : MethodId} {args : Array Value} {bel : List Frame} {meth : Method} {c : Code}  (C : dk_C G P (dk_rm 3) S0 m args c 0 0 cX9_beside 4 RX9) (hr : meth.sig.returnType = (some .int)) (hlk : meth.locks = false)  {K : Int32 → dk_S → Prop}  : ∀ (x0 : Int32) (x1 : Int32) (y0 : Int32) (y1 : Int32) (s : dk_S), wf_X9_beside_23 K x0 x1 y0 y1 s → dk_W G P l e (dk_rm 3) S0 m args bel meth c 0 0 (MQ bel (dk_Qc G (dk_ki K)) args S0 0 0 (dk_A G)) 23 [some (.int x0), some (.int x1), none, none] [.int y0, .int y1] s := by
  intro x0 x1 y0 y1 s h
  unfold wf_X9_beside_23 at h
  refine dk_iadd C dX9_beside_23 (n := 24) rfl ?_
  refine dk_name (fun v5 ev5 => ?_)
  have h := h v5 ev5
  refine dk_istore_n (i := 2) (L' := [some (.int x0), some (.int x1), some (.int v5), none]) C dX9_beside_24 (n := 25) rfl rfl (dk_nc_of rfl) (Nat.le_of_ble_eq_true rfl) rfl ?_
  refine dk_iload_n (i := 0) C dX9_beside_25 (n := 26) rfl rfl rfl ?_
  refine dk_callSi C [] (cc_X9_yOf C.D  h) yy_X9_yOf dk_wm_X9_118 dX9_beside_26 (fun r7 s6 h => ?_) rfl ⟨Nat.le_of_ble_eq_true rfl, Nat.le_of_ble_eq_true rfl⟩ rfl (Nat.le_of_ble_eq_true rfl) rfl (n := 29) rfl
  refine dk_iload_n (i := 1) C dX9_beside_29 (n := 30) rfl rfl rfl ?_
  refine dk_iconst (v := 2) C dX9_beside_30 (n := 31) rfl (by decide) ?_
  refine dk_icmp_ne (t := 38) C dX9_beside_31 (n := 34) rfl (by decide) (fun c9 => ?_) (fun c9 => ?_)
  · have h := h.1 c9
    refine dk_iload_n (i := 1) C dX9_beside_38 (n := 39) rfl rfl rfl ?_
    refine dk_if_ne (t := 46) C dX9_beside_39 (n := 42) rfl (by decide) (fun c8 => ?_) (fun c8 => ?_)
    · have h := h.1 c8
      refine dk_iconst (v := 0) C dX9_beside_46 (n := 47) rfl (by decide) ?_
      refine dk_sub (L0 := [none, none, some (.int v5), none]) ⟨rfl, trivial⟩ ?_
      exact ww_X9_beside_47 C hr hlk  v5 0 r7 s6 h
    · have h := h.2 c8
      refine dk_iconst (v := (-1)) C dX9_beside_42 (n := 43) rfl (by decide) ?_
      refine dk_goto (t := 47) C dX9_beside_43 (by decide) ?_
      refine dk_sub (L0 := [none, none, some (.int v5), none]) ⟨rfl, trivial⟩ ?_
      exact ww_X9_beside_47 C hr hlk  v5 (-1) r7 s6 h
  · have h := h.2 c9
    refine dk_iconst (v := 1) C dX9_beside_34 (n := 35) rfl (by decide) ?_
    refine dk_goto (t := 47) C dX9_beside_35 (by decide) ?_
    refine dk_sub (L0 := [none, none, some (.int v5), none]) ⟨rfl, trivial⟩ ?_
    exact ww_X9_beside_47 C hr hlk  v5 1 r7 s6 h
set_option maxRecDepth 20000 in
set_option maxHeartbeats 4000000 in
theorem cc_X9_beside {G : dk_G} {l : Launch} {a0 : Int32} {a1 : Int32} (hD : dk_D G)  {s : dk_S} {K : Int32 → dk_S → Prop} (h : wf_X9_beside a0 a1 s K) : dk_M G l 3 yX9_beside cX9_beside 4 (some .int) [.int a0, .int a1] s (dk_ki K) := by
  refine dk_of hD (by decide) [some (.int a0), some (.int a1), none, none] (fun q hq => hq) rfl (Nat.le_of_ble_eq_true rfl) (fun P e S0 m args bel meth c C hr hlk => ?_)
  unfold wf_X9_beside at h
  refine dk_iload_n (i := 0) C dX9_beside_0 (n := 1) rfl rfl rfl ?_
  refine dk_callSi C [] (cc_X9_xOf C.D  h) yy_X9_xOf dk_wm_X9_114 dX9_beside_1 (fun r2 s1 h => ?_) rfl ⟨Nat.le_of_ble_eq_true rfl, Nat.le_of_ble_eq_true rfl⟩ rfl (Nat.le_of_ble_eq_true rfl) rfl (n := 4) rfl
  refine dk_iload_n (i := 1) C dX9_beside_4 (n := 5) rfl rfl rfl ?_
  refine dk_iconst (v := 1) C dX9_beside_5 (n := 6) rfl (by decide) ?_
  refine dk_icmp_ne (t := 13) C dX9_beside_6 (n := 9) rfl (by decide) (fun c4 => ?_) (fun c4 => ?_)
  · have h := h.1 c4
    refine dk_iload_n (i := 1) C dX9_beside_13 (n := 14) rfl rfl rfl ?_
    refine dk_iconst (v := 3) C dX9_beside_14 (n := 15) rfl (by decide) ?_
    refine dk_icmp_ne (t := 22) C dX9_beside_15 (n := 18) rfl (by decide) (fun c3 => ?_) (fun c3 => ?_)
    · have h := h.1 c3
      refine dk_iconst (v := 0) C dX9_beside_22 (n := 23) rfl (by decide) ?_
      refine dk_sub (L0 := [some (.int a0), some (.int a1), none, none]) ⟨rfl, ⟨rfl, trivial⟩⟩ ?_
      exact ww_X9_beside_23 C hr hlk  a0 a1 0 r2 s1 h
    · have h := h.2 c3
      refine dk_iconst (v := (-1)) C dX9_beside_18 (n := 19) rfl (by decide) ?_
      refine dk_goto (t := 23) C dX9_beside_19 (by decide) ?_
      refine dk_sub (L0 := [some (.int a0), some (.int a1), none, none]) ⟨rfl, ⟨rfl, trivial⟩⟩ ?_
      exact ww_X9_beside_23 C hr hlk  a0 a1 (-1) r2 s1 h
  · have h := h.2 c4
    refine dk_iconst (v := 1) C dX9_beside_9 (n := 10) rfl (by decide) ?_
    refine dk_goto (t := 23) C dX9_beside_10 (by decide) ?_
    refine dk_sub (L0 := [some (.int a0), some (.int a1), none, none]) ⟨rfl, ⟨rfl, trivial⟩⟩ ?_
    exact ww_X9_beside_23 C hr hlk  a0 a1 1 r2 s1 h
/-! X9_isFreeKind -/
def wf_X9_isFreeKind (a0 : Int32) (s : dk_S) (K : Int32 → dk_S → Prop) : Prop :=
  ((a0 = 46 → K 1 s) ∧ (¬ a0 = 46 → ((a0 = 126 → K 1 s) ∧ (¬ a0 = 126 → ((¬ a0 = 47 → K 0 s) ∧ (a0 = 47 → K 1 s))))))
set_option maxRecDepth 20000 in
set_option maxHeartbeats 4000000 in
theorem cc_X9_isFreeKind {G : dk_G} {l : Launch} {a0 : Int32} (hD : dk_D G)  {s : dk_S} {K : Int32 → dk_S → Prop} (h : wf_X9_isFreeKind a0 s K) : dk_M G l 1 yX9_isFreeKind cX9_isFreeKind 1 (some .boolean) [.int a0] s (dk_ki K) := by
  refine dk_of hD (by decide) [some (.int a0)] (fun q hq => hq) rfl (Nat.le_of_ble_eq_true rfl) (fun P e S0 m args bel meth c C hr hlk => ?_)
  unfold wf_X9_isFreeKind at h
  refine dk_iload_n (i := 0) C dX9_isFreeKind_0 (n := 1) rfl rfl rfl ?_
  refine dk_bipush (v := 46) C dX9_isFreeKind_1 (n := 3) rfl (by decide) ?_
  refine dk_icmp_eq (t := 18) C dX9_isFreeKind_3 (n := 6) rfl (by decide) (fun c3 => ?_) (fun c3 => ?_)
  · have h := h.1 c3
    refine dk_iconst (v := 1) C dX9_isFreeKind_18 (n := 19) rfl (by decide) ?_
    refine dk_goto (t := 23) C dX9_isFreeKind_19 (by decide) ?_
    exact dk_iret C hr hlk dk_nz1 dX9_isFreeKind_23 ⟨_, rfl, h⟩
  · have h := h.2 c3
    refine dk_iload_n (i := 0) C dX9_isFreeKind_6 (n := 7) rfl rfl rfl ?_
    refine dk_bipush (v := 126) C dX9_isFreeKind_7 (n := 9) rfl (by decide) ?_
    refine dk_icmp_eq (t := 18) C dX9_isFreeKind_9 (n := 12) rfl (by decide) (fun c2 => ?_) (fun c2 => ?_)
    · have h := h.1 c2
      refine dk_iconst (v := 1) C dX9_isFreeKind_18 (n := 19) rfl (by decide) ?_
      refine dk_goto (t := 23) C dX9_isFreeKind_19 (by decide) ?_
      exact dk_iret C hr hlk dk_nz1 dX9_isFreeKind_23 ⟨_, rfl, h⟩
    · have h := h.2 c2
      refine dk_iload_n (i := 0) C dX9_isFreeKind_12 (n := 13) rfl rfl rfl ?_
      refine dk_bipush (v := 47) C dX9_isFreeKind_13 (n := 15) rfl (by decide) ?_
      refine dk_icmp_ne (t := 22) C dX9_isFreeKind_15 (n := 18) rfl (by decide) (fun c1 => ?_) (fun c1 => ?_)
      · have h := h.1 c1
        refine dk_iconst (v := 0) C dX9_isFreeKind_22 (n := 23) rfl (by decide) ?_
        exact dk_iret C hr hlk dk_nz0 dX9_isFreeKind_23 ⟨_, rfl, h⟩
      · have h := h.2 c1
        refine dk_iconst (v := 1) C dX9_isFreeKind_18 (n := 19) rfl (by decide) ?_
        refine dk_goto (t := 23) C dX9_isFreeKind_19 (by decide) ?_
        exact dk_iret C hr hlk dk_nz1 dX9_isFreeKind_23 ⟨_, rfl, h⟩
/-! X9_isFree -/
def wf_X9_isFree (a1 : Int32) (s : dk_S) (K : Int32 → dk_S → Prop) : Prop :=
  ((a1 = (-1) → K 0 s) ∧ (¬ a1 = (-1) → (vp_in a1 144 ∧ wf_X9_isFreeKind (s 4 75 a1.toNatClampNeg) s (fun r2 s1 => ((r2 = 0 → K 0 s1) ∧ (¬ r2 = 0 → K 1 s1))))))
set_option maxRecDepth 20000 in
set_option maxHeartbeats 4000000 in
theorem cc_X9_isFree {G : dk_G} {l : Launch} {a1 : Int32} (hD : dk_D G) (hmi : dk_MI G) {s : dk_S} {K : Int32 → dk_S → Prop} (h : wf_X9_isFree a1 s K) : dk_M G l 2 yX9_isFree cX9_isFree 2 (some .boolean) [dk_r G 4 60, .int a1] s (dk_ki K) := by
  refine dk_of hD (by decide) [some (dk_r G 4 60), some (.int a1)] (fun q hq => hq) rfl (Nat.le_of_ble_eq_true rfl) (fun P e S0 m args bel meth c C hr hlk => ?_)
  unfold wf_X9_isFree at h
  refine dk_iload_n (i := 1) C dX9_isFree_0 (n := 1) rfl rfl rfl ?_
  refine dk_iconst (v := (-1)) C dX9_isFree_1 (n := 2) rfl (by decide) ?_
  refine dk_icmp_eq (t := 21) C dX9_isFree_2 (n := 5) rfl (by decide) (fun c4 => ?_) (fun c4 => ?_)
  · have h := h.1 c4
    refine dk_iconst (v := 0) C dX9_isFree_21 (n := 22) rfl (by decide) ?_
    exact dk_iret C hr hlk dk_nz0 dX9_isFree_22 ⟨_, rfl, h⟩
  · have h := h.2 c4
    refine dk_aload_n (i := 0) C dX9_isFree_5 (n := 6) rfl rfl rfl ?_
    refine gf_X9_62 C (hmi 60 (by decide) (by decide)) dX9_isFree_6 (n := 9) rfl ?_
    refine dk_iload_n (i := 1) C dX9_isFree_9 (n := 10) rfl rfl rfl ?_
    refine dk_cald C dk_sh75 h.1 (hmi 75 (by decide) (by decide)) dX9_isFree_10 (n := 11) rfl ?_
    have h := h.2
    refine dk_callSi C [] (cc_X9_isFreeKind C.D  h) yy_X9_isFreeKind dk_wm_X9_129 dX9_isFree_11 (fun r2 s1 h => ?_) rfl ⟨Nat.le_of_ble_eq_true rfl, Nat.le_of_ble_eq_true rfl⟩ rfl (Nat.le_of_ble_eq_true rfl) rfl (n := 14) rfl
    refine dk_if_eq (t := 21) C dX9_isFree_14 (n := 17) rfl (by decide) (fun c3 => ?_) (fun c3 => ?_)
    · have h := h.1 c3
      refine dk_iconst (v := 0) C dX9_isFree_21 (n := 22) rfl (by decide) ?_
      exact dk_iret C hr hlk dk_nz0 dX9_isFree_22 ⟨_, rfl, h⟩
    · have h := h.2 c3
      refine dk_iconst (v := 1) C dX9_isFree_17 (n := 18) rfl (by decide) ?_
      refine dk_goto (t := 22) C dX9_isFree_18 (by decide) ?_
      exact dk_iret C hr hlk dk_nz1 dX9_isFree_22 ⟨_, rfl, h⟩
/-! X9_becomesAsTold -/
def wf_X9_becomesAsTold_119  (K : dk_S → Prop) (E138 : dk_S → Prop) : Nat → Int32 → dk_S → Prop
  | 0, _, _ => False
  | n + 1, x1, s => ((8 ≤ x1 → E138 s) ∧ (¬ 8 ≤ x1 → (vp_in x1 8 ∧ (∀ s12 : dk_S, s12 = dk_row s 4 83 (upd (s 4 83) x1.toNatClampNeg (vp_nar .boolean 0)) → ∀ v13 : Int32, v13 = x1 + 1 → wf_X9_becomesAsTold_119 K E138 n v13 s12))))
def wf_X9_becomesAsTold_93  (K : dk_S → Prop) (E117 : dk_S → Prop) : Nat → Int32 → dk_S → Prop
  | 0, _, _ => False
  | n + 1, x1, s => ((24 ≤ x1 → E117 s) ∧ (¬ 24 ≤ x1 → (vp_in x1 24 ∧ (vp_in x1 24 ∧ (∀ s15 : dk_S, s15 = dk_row s 4 82 (upd (s 4 82) x1.toNatClampNeg (s 4 72 x1.toNatClampNeg)) → ∀ v16 : Int32, v16 = x1 + 1 → wf_X9_becomesAsTold_93 K E117 n v16 s15)))))
def wf_X9_becomesAsTold_34  (K : dk_S → Prop) (E91 : dk_S → Prop) : Nat → Int32 → dk_S → Prop
  | 0, _, _ => False
  | n + 1, x1, s => ((8 ≤ x1 → E91 s) ∧ (¬ 8 ≤ x1 → (vp_in x1 8 ∧ (vp_in x1 8 ∧ (∀ s18 : dk_S, s18 = dk_row s 4 76 (upd (s 4 76) x1.toNatClampNeg (s 4 67 x1.toNatClampNeg)) → (vp_in x1 8 ∧ (vp_in x1 8 ∧ (∀ s19 : dk_S, s19 = dk_row s18 4 77 (upd (s18 4 77) x1.toNatClampNeg (s18 4 70 x1.toNatClampNeg)) → (vp_in x1 8 ∧ (∀ s20 : dk_S, s20 = dk_row s19 4 78 (upd (s19 4 78) x1.toNatClampNeg 0) → (vp_in x1 8 ∧ (∀ s21 : dk_S, s21 = dk_row s20 4 80 (upd (s20 4 80) x1.toNatClampNeg 0) → (vp_in x1 8 ∧ (∀ s22 : dk_S, s22 = dk_row s21 4 81 (upd (s21 4 81) x1.toNatClampNeg (-1)) → ∀ v23 : Int32, v23 = x1 + 1 → wf_X9_becomesAsTold_34 K E91 n v23 s22))))))))))))))
def wf_X9_becomesAsTold_7  (K : dk_S → Prop) (E32 : dk_S → Prop) : Nat → Int32 → dk_S → Prop
  | 0, _, _ => False
  | n + 1, x1, s => ((144 ≤ x1 → E32 s) ∧ (¬ 144 ≤ x1 → (vp_in x1 144 ∧ (vp_in x1 144 ∧ (∀ s25 : dk_S, s25 = dk_row s 4 75 (upd (s 4 75) x1.toNatClampNeg (vp_nar .char (s 4 61 x1.toNatClampNeg))) → ∀ v26 : Int32, v26 = x1 + 1 → wf_X9_becomesAsTold_7 K E32 n v26 s25)))))
def wf_X9_becomesAsTold  (s : dk_S) (K : dk_S → Prop) : Prop :=
  ∀ s1 : dk_S, s1 = dk_row s 4 60 (upd (s 4 60) 2 0) → ∃ nn11 : Nat, wf_X9_becomesAsTold_7 K (fun (s2 : dk_S) => ∃ nn10 : Nat, wf_X9_becomesAsTold_34 K (fun (s3 : dk_S) => ∃ nn9 : Nat, wf_X9_becomesAsTold_93 K (fun (s4 : dk_S) => ∃ nn8 : Nat, wf_X9_becomesAsTold_119 K (fun (s5 : dk_S) => ∀ s6 : dk_S, s6 = dk_row s5 4 60 (upd (s5 4 60) 30 0) → ∀ s7 : dk_S, s7 = dk_row s6 4 60 (upd (s6 4 60) 31 0) → K s7) nn8 0 s4) nn9 0 s3) nn10 0 s2) nn11 0 s1
set_option maxRecDepth 20000 in
set_option maxHeartbeats 4000000 in
theorem ww_X9_becomesAsTold_119 {G : dk_G} {P : Program} {l : Launch} {e : Env} {S0 : State} {m : MethodId} {args : Array Value} {bel : List Frame} {meth : Method} {c : Code}  (C : dk_C G P (dk_rm 1) S0 m args c 0 0 cX9_becomesAsTold 2 RX9) (hr : meth.sig.returnType = none) (hlk : meth.locks = false) (hmi : dk_MI G) {K : dk_S → Prop} {E138 : dk_S → Prop} (hE138 : ∀ (s : dk_S), E138 s → dk_W G P l e (dk_rm 1) S0 m args bel meth c 0 0 (MQ bel (dk_Qc G (dk_kv K)) args S0 0 0 (dk_A G)) 138 [some (dk_r G 4 60), none] [] s) : ∀ (n : Nat) (x1 : Int32) (s : dk_S), wf_X9_becomesAsTold_119 K E138 n x1 s → dk_W G P l e (dk_rm 1) S0 m args bel meth c 0 0 (MQ bel (dk_Qc G (dk_kv K)) args S0 0 0 (dk_A G)) 119 [some (dk_r G 4 60), some (.int x1)] [] s := by
  intro n
  induction n with
  | zero => intro x1 s h; exact False.elim h
  | succ n hB =>
    intro x1 s h
    unfold wf_X9_becomesAsTold_119 at h
    refine dk_iload_n (i := 1) C dX9_becomesAsTold_119 (n := 120) rfl rfl rfl ?_
    refine dk_bipush (v := 8) C dX9_becomesAsTold_120 (n := 122) rfl (by decide) ?_
    refine dk_icmp_ge (t := 138) C dX9_becomesAsTold_122 (n := 125) rfl (by decide) (fun c14 => ?_) (fun c14 => ?_)
    · have h := h.1 c14
      refine dk_sub (L0 := [some (dk_r G 4 60), none]) ⟨rfl, trivial⟩ ?_
      exact hE138  s h
    · have h := h.2 c14
      refine dk_aload_n (i := 0) C dX9_becomesAsTold_125 (n := 126) rfl rfl rfl ?_
      refine gf_X9_86 C (hmi 60 (by decide) (by decide)) dX9_becomesAsTold_126 (n := 129) rfl ?_
      refine dk_iload_n (i := 1) C dX9_becomesAsTold_129 (n := 130) rfl rfl rfl ?_
      refine dk_iconst (v := 0) C dX9_becomesAsTold_130 (n := 131) rfl (by decide) ?_
      refine dk_zast C dk_sh83 h.1 (hmi 83 (by decide) (by decide)) dX9_becomesAsTold_131 (n := 132) rfl ?_
      refine dk_nameS (fun s12 es12 => ?_)
      have h := h.2 s12 es12
      obtain ⟨v13, ev13⟩ : ∃ y : Int32, y = x1 + 1 := ⟨_, rfl⟩
      have h := h v13 ev13
      refine dk_iinc (i := 1) (v := v13) (L' := [some (dk_r G 4 60), some (.int v13)]) C dX9_becomesAsTold_132 (n := 135) rfl rfl (by rw [ev13]; rfl) (dk_nc_of rfl) (Nat.le_of_ble_eq_true rfl) rfl ?_
      refine dk_goto (t := 119) C dX9_becomesAsTold_135 (by decide) ?_
      refine dk_sub (L0 := [some (dk_r G 4 60), some (.int v13)]) ⟨rfl, ⟨rfl, trivial⟩⟩ ?_
      exact hB v13 s12 h
set_option maxRecDepth 20000 in
set_option maxHeartbeats 4000000 in
theorem ww_X9_becomesAsTold_93 {G : dk_G} {P : Program} {l : Launch} {e : Env} {S0 : State} {m : MethodId} {args : Array Value} {bel : List Frame} {meth : Method} {c : Code}  (C : dk_C G P (dk_rm 1) S0 m args c 0 0 cX9_becomesAsTold 2 RX9) (hr : meth.sig.returnType = none) (hlk : meth.locks = false) (hmi : dk_MI G) {K : dk_S → Prop} {E117 : dk_S → Prop} (hE117 : ∀ (s : dk_S), E117 s → dk_W G P l e (dk_rm 1) S0 m args bel meth c 0 0 (MQ bel (dk_Qc G (dk_kv K)) args S0 0 0 (dk_A G)) 117 [some (dk_r G 4 60), none] [] s) : ∀ (n : Nat) (x1 : Int32) (s : dk_S), wf_X9_becomesAsTold_93 K E117 n x1 s → dk_W G P l e (dk_rm 1) S0 m args bel meth c 0 0 (MQ bel (dk_Qc G (dk_kv K)) args S0 0 0 (dk_A G)) 93 [some (dk_r G 4 60), some (.int x1)] [] s := by
  intro n
  induction n with
  | zero => intro x1 s h; exact False.elim h
  | succ n hB =>
    intro x1 s h
    unfold wf_X9_becomesAsTold_93 at h
    refine dk_iload_n (i := 1) C dX9_becomesAsTold_93 (n := 94) rfl rfl rfl ?_
    refine dk_bipush (v := 24) C dX9_becomesAsTold_94 (n := 96) rfl (by decide) ?_
    refine dk_icmp_ge (t := 117) C dX9_becomesAsTold_96 (n := 99) rfl (by decide) (fun c17 => ?_) (fun c17 => ?_)
    · have h := h.1 c17
      refine dk_sub (L0 := [some (dk_r G 4 60), none]) ⟨rfl, trivial⟩ ?_
      exact hE117  s h
    · have h := h.2 c17
      refine dk_aload_n (i := 0) C dX9_becomesAsTold_99 (n := 100) rfl rfl rfl ?_
      refine gf_X9_83 C (hmi 60 (by decide) (by decide)) dX9_becomesAsTold_100 (n := 103) rfl ?_
      refine dk_iload_n (i := 1) C dX9_becomesAsTold_103 (n := 104) rfl rfl rfl ?_
      refine dk_aload_n (i := 0) C dX9_becomesAsTold_104 (n := 105) rfl rfl rfl ?_
      refine gf_X9_53 C (hmi 60 (by decide) (by decide)) dX9_becomesAsTold_105 (n := 108) rfl ?_
      refine dk_iload_n (i := 1) C dX9_becomesAsTold_108 (n := 109) rfl rfl rfl ?_
      refine dk_iald C dk_sh72 h.1 (hmi 72 (by decide) (by decide)) dX9_becomesAsTold_109 (n := 110) rfl ?_
      have h := h.2
      refine dk_iast C dk_sh82 h.1 (hmi 82 (by decide) (by decide)) dX9_becomesAsTold_110 (n := 111) rfl ?_
      refine dk_nameS (fun s15 es15 => ?_)
      have h := h.2 s15 es15
      obtain ⟨v16, ev16⟩ : ∃ y : Int32, y = x1 + 1 := ⟨_, rfl⟩
      have h := h v16 ev16
      refine dk_iinc (i := 1) (v := v16) (L' := [some (dk_r G 4 60), some (.int v16)]) C dX9_becomesAsTold_111 (n := 114) rfl rfl (by rw [ev16]; rfl) (dk_nc_of rfl) (Nat.le_of_ble_eq_true rfl) rfl ?_
      refine dk_goto (t := 93) C dX9_becomesAsTold_114 (by decide) ?_
      refine dk_sub (L0 := [some (dk_r G 4 60), some (.int v16)]) ⟨rfl, ⟨rfl, trivial⟩⟩ ?_
      exact hB v16 s15 h
set_option maxRecDepth 20000 in
set_option maxHeartbeats 4000000 in
theorem ww_X9_becomesAsTold_34 {G : dk_G} {P : Program} {l : Launch} {e : Env} {S0 : State} {m : MethodId} {args : Array Value} {bel : List Frame} {meth : Method} {c : Code}  (C : dk_C G P (dk_rm 1) S0 m args c 0 0 cX9_becomesAsTold 2 RX9) (hr : meth.sig.returnType = none) (hlk : meth.locks = false) (hmi : dk_MI G) {K : dk_S → Prop} {E91 : dk_S → Prop} (hE91 : ∀ (s : dk_S), E91 s → dk_W G P l e (dk_rm 1) S0 m args bel meth c 0 0 (MQ bel (dk_Qc G (dk_kv K)) args S0 0 0 (dk_A G)) 91 [some (dk_r G 4 60), none] [] s) : ∀ (n : Nat) (x1 : Int32) (s : dk_S), wf_X9_becomesAsTold_34 K E91 n x1 s → dk_W G P l e (dk_rm 1) S0 m args bel meth c 0 0 (MQ bel (dk_Qc G (dk_kv K)) args S0 0 0 (dk_A G)) 34 [some (dk_r G 4 60), some (.int x1)] [] s := by
  intro n
  induction n with
  | zero => intro x1 s h; exact False.elim h
  | succ n hB =>
    intro x1 s h
    unfold wf_X9_becomesAsTold_34 at h
    refine dk_iload_n (i := 1) C dX9_becomesAsTold_34 (n := 35) rfl rfl rfl ?_
    refine dk_bipush (v := 8) C dX9_becomesAsTold_35 (n := 37) rfl (by decide) ?_
    refine dk_icmp_ge (t := 91) C dX9_becomesAsTold_37 (n := 40) rfl (by decide) (fun c24 => ?_) (fun c24 => ?_)
    · have h := h.1 c24
      refine dk_sub (L0 := [some (dk_r G 4 60), none]) ⟨rfl, trivial⟩ ?_
      exact hE91  s h
    · have h := h.2 c24
      refine dk_aload_n (i := 0) C dX9_becomesAsTold_40 (n := 41) rfl rfl rfl ?_
      refine gf_X9_65 C (hmi 60 (by decide) (by decide)) dX9_becomesAsTold_41 (n := 44) rfl ?_
      refine dk_iload_n (i := 1) C dX9_becomesAsTold_44 (n := 45) rfl rfl rfl ?_
      refine dk_aload_n (i := 0) C dX9_becomesAsTold_45 (n := 46) rfl rfl rfl ?_
      refine gf_X9_38 C (hmi 60 (by decide) (by decide)) dX9_becomesAsTold_46 (n := 49) rfl ?_
      refine dk_iload_n (i := 1) C dX9_becomesAsTold_49 (n := 50) rfl rfl rfl ?_
      refine dk_iald C dk_sh67 h.1 (hmi 67 (by decide) (by decide)) dX9_becomesAsTold_50 (n := 51) rfl ?_
      have h := h.2
      refine dk_iast C dk_sh76 h.1 (hmi 76 (by decide) (by decide)) dX9_becomesAsTold_51 (n := 52) rfl ?_
      refine dk_nameS (fun s18 es18 => ?_)
      have h := h.2 s18 es18
      refine dk_aload_n (i := 0) C dX9_becomesAsTold_52 (n := 53) rfl rfl rfl ?_
      refine gf_X9_68 C (hmi 60 (by decide) (by decide)) dX9_becomesAsTold_53 (n := 56) rfl ?_
      refine dk_iload_n (i := 1) C dX9_becomesAsTold_56 (n := 57) rfl rfl rfl ?_
      refine dk_aload_n (i := 0) C dX9_becomesAsTold_57 (n := 58) rfl rfl rfl ?_
      refine gf_X9_47 C (hmi 60 (by decide) (by decide)) dX9_becomesAsTold_58 (n := 61) rfl ?_
      refine dk_iload_n (i := 1) C dX9_becomesAsTold_61 (n := 62) rfl rfl rfl ?_
      refine dk_iald C dk_sh70 h.1 (hmi 70 (by decide) (by decide)) dX9_becomesAsTold_62 (n := 63) rfl ?_
      have h := h.2
      refine dk_iast C dk_sh77 h.1 (hmi 77 (by decide) (by decide)) dX9_becomesAsTold_63 (n := 64) rfl ?_
      refine dk_nameS (fun s19 es19 => ?_)
      have h := h.2 s19 es19
      refine dk_aload_n (i := 0) C dX9_becomesAsTold_64 (n := 65) rfl rfl rfl ?_
      refine gf_X9_71 C (hmi 60 (by decide) (by decide)) dX9_becomesAsTold_65 (n := 68) rfl ?_
      refine dk_iload_n (i := 1) C dX9_becomesAsTold_68 (n := 69) rfl rfl rfl ?_
      refine dk_iconst (v := 0) C dX9_becomesAsTold_69 (n := 70) rfl (by decide) ?_
      refine dk_iast C dk_sh78 h.1 (hmi 78 (by decide) (by decide)) dX9_becomesAsTold_70 (n := 71) rfl ?_
      refine dk_nameS (fun s20 es20 => ?_)
      have h := h.2 s20 es20
      refine dk_aload_n (i := 0) C dX9_becomesAsTold_71 (n := 72) rfl rfl rfl ?_
      refine gf_X9_77 C (hmi 60 (by decide) (by decide)) dX9_becomesAsTold_72 (n := 75) rfl ?_
      refine dk_iload_n (i := 1) C dX9_becomesAsTold_75 (n := 76) rfl rfl rfl ?_
      refine dk_iconst (v := 0) C dX9_becomesAsTold_76 (n := 77) rfl (by decide) ?_
      refine dk_iast C dk_sh80 h.1 (hmi 80 (by decide) (by decide)) dX9_becomesAsTold_77 (n := 78) rfl ?_
      refine dk_nameS (fun s21 es21 => ?_)
      have h := h.2 s21 es21
      refine dk_aload_n (i := 0) C dX9_becomesAsTold_78 (n := 79) rfl rfl rfl ?_
      refine gf_X9_80 C (hmi 60 (by decide) (by decide)) dX9_becomesAsTold_79 (n := 82) rfl ?_
      refine dk_iload_n (i := 1) C dX9_becomesAsTold_82 (n := 83) rfl rfl rfl ?_
      refine dk_iconst (v := (-1)) C dX9_becomesAsTold_83 (n := 84) rfl (by decide) ?_
      refine dk_iast C dk_sh81 h.1 (hmi 81 (by decide) (by decide)) dX9_becomesAsTold_84 (n := 85) rfl ?_
      refine dk_nameS (fun s22 es22 => ?_)
      have h := h.2 s22 es22
      obtain ⟨v23, ev23⟩ : ∃ y : Int32, y = x1 + 1 := ⟨_, rfl⟩
      have h := h v23 ev23
      refine dk_iinc (i := 1) (v := v23) (L' := [some (dk_r G 4 60), some (.int v23)]) C dX9_becomesAsTold_85 (n := 88) rfl rfl (by rw [ev23]; rfl) (dk_nc_of rfl) (Nat.le_of_ble_eq_true rfl) rfl ?_
      refine dk_goto (t := 34) C dX9_becomesAsTold_88 (by decide) ?_
      refine dk_sub (L0 := [some (dk_r G 4 60), some (.int v23)]) ⟨rfl, ⟨rfl, trivial⟩⟩ ?_
      exact hB v23 s22 h
set_option maxRecDepth 20000 in
set_option maxHeartbeats 4000000 in
theorem ww_X9_becomesAsTold_7 {G : dk_G} {P : Program} {l : Launch} {e : Env} {S0 : State} {m : MethodId} {args : Array Value} {bel : List Frame} {meth : Method} {c : Code}  (C : dk_C G P (dk_rm 1) S0 m args c 0 0 cX9_becomesAsTold 2 RX9) (hr : meth.sig.returnType = none) (hlk : meth.locks = false) (hmi : dk_MI G) {K : dk_S → Prop} {E32 : dk_S → Prop} (hE32 : ∀ (s : dk_S), E32 s → dk_W G P l e (dk_rm 1) S0 m args bel meth c 0 0 (MQ bel (dk_Qc G (dk_kv K)) args S0 0 0 (dk_A G)) 32 [some (dk_r G 4 60), none] [] s) : ∀ (n : Nat) (x1 : Int32) (s : dk_S), wf_X9_becomesAsTold_7 K E32 n x1 s → dk_W G P l e (dk_rm 1) S0 m args bel meth c 0 0 (MQ bel (dk_Qc G (dk_kv K)) args S0 0 0 (dk_A G)) 7 [some (dk_r G 4 60), some (.int x1)] [] s := by
  intro n
  induction n with
  | zero => intro x1 s h; exact False.elim h
  | succ n hB =>
    intro x1 s h
    unfold wf_X9_becomesAsTold_7 at h
    refine dk_iload_n (i := 1) C dX9_becomesAsTold_7 (n := 8) rfl rfl rfl ?_
    refine dk_sipush (v := 144) C dX9_becomesAsTold_8 (n := 11) rfl (by decide) ?_
    refine dk_icmp_ge (t := 32) C dX9_becomesAsTold_11 (n := 14) rfl (by decide) (fun c27 => ?_) (fun c27 => ?_)
    · have h := h.1 c27
      refine dk_sub (L0 := [some (dk_r G 4 60), none]) ⟨rfl, trivial⟩ ?_
      exact hE32  s h
    · have h := h.2 c27
      refine dk_aload_n (i := 0) C dX9_becomesAsTold_14 (n := 15) rfl rfl rfl ?_
      refine gf_X9_62 C (hmi 60 (by decide) (by decide)) dX9_becomesAsTold_15 (n := 18) rfl ?_
      refine dk_iload_n (i := 1) C dX9_becomesAsTold_18 (n := 19) rfl rfl rfl ?_
      refine dk_aload_n (i := 0) C dX9_becomesAsTold_19 (n := 20) rfl rfl rfl ?_
      refine gf_X9_13 C (hmi 60 (by decide) (by decide)) dX9_becomesAsTold_20 (n := 23) rfl ?_
      refine dk_iload_n (i := 1) C dX9_becomesAsTold_23 (n := 24) rfl rfl rfl ?_
      refine dk_cald C dk_sh61 h.1 (hmi 61 (by decide) (by decide)) dX9_becomesAsTold_24 (n := 25) rfl ?_
      have h := h.2
      refine dk_cast C dk_sh75 h.1 (hmi 75 (by decide) (by decide)) dX9_becomesAsTold_25 (n := 26) rfl ?_
      refine dk_nameS (fun s25 es25 => ?_)
      have h := h.2 s25 es25
      obtain ⟨v26, ev26⟩ : ∃ y : Int32, y = x1 + 1 := ⟨_, rfl⟩
      have h := h v26 ev26
      refine dk_iinc (i := 1) (v := v26) (L' := [some (dk_r G 4 60), some (.int v26)]) C dX9_becomesAsTold_26 (n := 29) rfl rfl (by rw [ev26]; rfl) (dk_nc_of rfl) (Nat.le_of_ble_eq_true rfl) rfl ?_
      refine dk_goto (t := 7) C dX9_becomesAsTold_29 (by decide) ?_
      refine dk_sub (L0 := [some (dk_r G 4 60), some (.int v26)]) ⟨rfl, ⟨rfl, trivial⟩⟩ ?_
      exact hB v26 s25 h
set_option maxRecDepth 20000 in
set_option maxHeartbeats 4000000 in
theorem cc_X9_becomesAsTold {G : dk_G} {l : Launch}  (hD : dk_D G) (hmi : dk_MI G) {s : dk_S} {K : dk_S → Prop} (h : wf_X9_becomesAsTold s K) : dk_M G l 1 yX9_becomesAsTold cX9_becomesAsTold 2 none [dk_r G 4 60] s (dk_kv K) := by
  refine dk_of hD (by decide) [some (dk_r G 4 60), none] (fun q hq => hq) rfl (Nat.le_of_ble_eq_true rfl) (fun P e S0 m args bel meth c C hr hlk => ?_)
  unfold wf_X9_becomesAsTold at h
  refine dk_aload_n (i := 0) C dX9_becomesAsTold_0 (n := 1) rfl rfl rfl ?_
  refine dk_iconst (v := 0) C dX9_becomesAsTold_1 (n := 2) rfl (by decide) ?_
  refine pf_X9_133 C rfl rfl (hmi 60 (by decide) (by decide)) dX9_becomesAsTold_2 (n := 5) rfl ?_
  refine dk_nameS (fun s1 es1 => ?_)
  have h := h s1 es1
  refine dk_iconst (v := 0) C dX9_becomesAsTold_5 (n := 6) rfl (by decide) ?_
  refine dk_istore_n (i := 1) (L' := [some (dk_r G 4 60), some (.int 0)]) C dX9_becomesAsTold_6 (n := 7) rfl rfl (dk_nc_of rfl) (Nat.le_of_ble_eq_true rfl) rfl ?_
  obtain ⟨nn11, h⟩ := h
  refine dk_sub (L0 := [some (dk_r G 4 60), some (.int 0)]) ⟨rfl, ⟨rfl, trivial⟩⟩ ?_
  refine ww_X9_becomesAsTold_7 C hr hlk hmi (fun s2 h => ?_) nn11 0 s1 h
  · refine dk_iconst (v := 0) C dX9_becomesAsTold_32 (n := 33) rfl (by decide) ?_
    refine dk_istore_n (i := 1) (L' := [some (dk_r G 4 60), some (.int 0)]) C dX9_becomesAsTold_33 (n := 34) rfl rfl (dk_nc_of rfl) (Nat.le_of_ble_eq_true rfl) rfl ?_
    obtain ⟨nn10, h⟩ := h
    refine dk_sub (L0 := [some (dk_r G 4 60), some (.int 0)]) ⟨rfl, ⟨rfl, trivial⟩⟩ ?_
    refine ww_X9_becomesAsTold_34 C hr hlk hmi (fun s3 h => ?_) nn10 0 s2 h
    · refine dk_iconst (v := 0) C dX9_becomesAsTold_91 (n := 92) rfl (by decide) ?_
      refine dk_istore_n (i := 1) (L' := [some (dk_r G 4 60), some (.int 0)]) C dX9_becomesAsTold_92 (n := 93) rfl rfl (dk_nc_of rfl) (Nat.le_of_ble_eq_true rfl) rfl ?_
      obtain ⟨nn9, h⟩ := h
      refine dk_sub (L0 := [some (dk_r G 4 60), some (.int 0)]) ⟨rfl, ⟨rfl, trivial⟩⟩ ?_
      refine ww_X9_becomesAsTold_93 C hr hlk hmi (fun s4 h => ?_) nn9 0 s3 h
      · refine dk_iconst (v := 0) C dX9_becomesAsTold_117 (n := 118) rfl (by decide) ?_
        refine dk_istore_n (i := 1) (L' := [some (dk_r G 4 60), some (.int 0)]) C dX9_becomesAsTold_118 (n := 119) rfl rfl (dk_nc_of rfl) (Nat.le_of_ble_eq_true rfl) rfl ?_
        obtain ⟨nn8, h⟩ := h
        refine dk_sub (L0 := [some (dk_r G 4 60), some (.int 0)]) ⟨rfl, ⟨rfl, trivial⟩⟩ ?_
        refine ww_X9_becomesAsTold_119 C hr hlk hmi (fun s5 h => ?_) nn8 0 s4 h
        · refine dk_aload_n (i := 0) C dX9_becomesAsTold_138 (n := 139) rfl rfl rfl ?_
          refine dk_iconst (v := 0) C dX9_becomesAsTold_139 (n := 140) rfl (by decide) ?_
          refine pf_X9_136 C rfl rfl (hmi 60 (by decide) (by decide)) dX9_becomesAsTold_140 (n := 143) rfl ?_
          refine dk_nameS (fun s6 es6 => ?_)
          have h := h s6 es6
          refine dk_aload_n (i := 0) C dX9_becomesAsTold_143 (n := 144) rfl rfl rfl ?_
          refine dk_iconst (v := 0) C dX9_becomesAsTold_144 (n := 145) rfl (by decide) ?_
          refine pf_X9_139 C rfl rfl (hmi 60 (by decide) (by decide)) dX9_becomesAsTold_145 (n := 148) rfl ?_
          refine dk_nameS (fun s7 es7 => ?_)
          have h := h s7 es7
          exact dk_vret C hr hlk dX9_becomesAsTold_148 ⟨rfl, h⟩
/-! X9_tells -/
def wf_X9_tells  (s : dk_S) (K : dk_S → Prop) : Prop :=
  ∀ s1 : dk_S, s1 = dk_row s 4 60 (upd (s 4 60) 1 110) → wf_X9_becomesAsTold s1 (fun s2 => K s2)
set_option maxRecDepth 20000 in
set_option maxHeartbeats 4000000 in
theorem cc_X9_tells {G : dk_G} {l : Launch}  (hD : dk_D G) (hmi : dk_MI G) {s : dk_S} {K : dk_S → Prop} (h : wf_X9_tells s K) : dk_M G l 2 yX9_tells cX9_tells 1 none [dk_r G 4 60] s (dk_kv K) := by
  refine dk_of hD (by decide) [some (dk_r G 4 60)] (fun q hq => hq) rfl (Nat.le_of_ble_eq_true rfl) (fun P e S0 m args bel meth c C hr hlk => ?_)
  unfold wf_X9_tells at h
  refine dk_aload_n (i := 0) C dX9_tells_0 (n := 1) rfl rfl rfl ?_
  refine dk_bipush (v := 110) C dX9_tells_1 (n := 3) rfl (by decide) ?_
  refine pf_X9_7 C (by decide) (by decide) (hmi 60 (by decide) (by decide)) dX9_tells_3 (n := 6) rfl ?_
  refine dk_nameS (fun s1 es1 => ?_)
  have h := h s1 es1
  refine dk_aload_n (i := 0) C dX9_tells_6 (n := 7) rfl rfl rfl ?_
  refine dk_callVv C [] (cc_X9_becomesAsTold C.D hmi h) yy_X9_becomesAsTold dk_wm_X9_104 dk_sh60 (hmi 60 (by decide) (by decide)) dX9_tells_7 (fun s2 h => ?_) rfl rfl ⟨Nat.le_of_ble_eq_true rfl, Nat.le_of_ble_eq_true rfl⟩ rfl (Nat.le_of_ble_eq_true rfl) rfl (n := 10) rfl
  exact dk_vret C hr hlk dX9_tells_10 ⟨rfl, h⟩
/-! X9_isCell -/
def wf_X9_isCell_48  (K : Int32 → dk_S → Prop)  (s : dk_S) : Prop :=
  K 1 s
def wf_X9_isCell (a0 : Int32) (s : dk_S) (K : Int32 → dk_S → Prop) : Prop :=
  ((a0 = 35 → wf_X9_isCell_48 K s) ∧ (¬ a0 = 35 → ((a0 = 46 → wf_X9_isCell_48 K s) ∧ (¬ a0 = 46 → ((a0 = 126 → wf_X9_isCell_48 K s) ∧ (¬ a0 = 126 → ((a0 = 43 → wf_X9_isCell_48 K s) ∧ (¬ a0 = 43 → ((a0 = 47 → wf_X9_isCell_48 K s) ∧ (¬ a0 = 47 → ((a0 = 48 → wf_X9_isCell_48 K s) ∧ (¬ a0 = 48 → ((a0 = 49 → wf_X9_isCell_48 K s) ∧ (¬ a0 = 49 → ((¬ a0 = 50 → K 0 s) ∧ (a0 = 50 → wf_X9_isCell_48 K s))))))))))))))))
set_option maxRecDepth 20000 in
set_option maxHeartbeats 4000000 in
theorem ww_X9_isCell_48 {G : dk_G} {P : Program} {l : Launch} {e : Env} {S0 : State} {m : MethodId} {args : Array Value} {bel : List Frame} {meth : Method} {c : Code}  (C : dk_C G P (dk_rm 1) S0 m args c 0 0 cX9_isCell 1 RX9) (hr : meth.sig.returnType = (some .boolean)) (hlk : meth.locks = false)  {K : Int32 → dk_S → Prop}  : ∀  (s : dk_S), wf_X9_isCell_48 K s → dk_W G P l e (dk_rm 1) S0 m args bel meth c 0 0 (MQ bel (dk_Qc G (dk_ki K)) args S0 0 0 (dk_A G)) 48 [none] [] s := by
  intro s h
  unfold wf_X9_isCell_48 at h
  refine dk_iconst (v := 1) C dX9_isCell_48 (n := 49) rfl (by decide) ?_
  refine dk_goto (t := 53) C dX9_isCell_49 (by decide) ?_
  exact dk_iret C hr hlk dk_nz1 dX9_isCell_53 ⟨_, rfl, h⟩
set_option maxRecDepth 20000 in
set_option maxHeartbeats 4000000 in
theorem cc_X9_isCell {G : dk_G} {l : Launch} {a0 : Int32} (hD : dk_D G)  {s : dk_S} {K : Int32 → dk_S → Prop} (h : wf_X9_isCell a0 s K) : dk_M G l 1 yX9_isCell cX9_isCell 1 (some .boolean) [.int a0] s (dk_ki K) := by
  refine dk_of hD (by decide) [some (.int a0)] (fun q hq => hq) rfl (Nat.le_of_ble_eq_true rfl) (fun P e S0 m args bel meth c C hr hlk => ?_)
  unfold wf_X9_isCell at h
  refine dk_iload_n (i := 0) C dX9_isCell_0 (n := 1) rfl rfl rfl ?_
  refine dk_bipush (v := 35) C dX9_isCell_1 (n := 3) rfl (by decide) ?_
  refine dk_icmp_eq (t := 48) C dX9_isCell_3 (n := 6) rfl (by decide) (fun c8 => ?_) (fun c8 => ?_)
  · have h := h.1 c8
    refine dk_sub (L0 := [none]) trivial ?_
    exact ww_X9_isCell_48 C hr hlk   s h
  · have h := h.2 c8
    refine dk_iload_n (i := 0) C dX9_isCell_6 (n := 7) rfl rfl rfl ?_
    refine dk_bipush (v := 46) C dX9_isCell_7 (n := 9) rfl (by decide) ?_
    refine dk_icmp_eq (t := 48) C dX9_isCell_9 (n := 12) rfl (by decide) (fun c7 => ?_) (fun c7 => ?_)
    · have h := h.1 c7
      refine dk_sub (L0 := [none]) trivial ?_
      exact ww_X9_isCell_48 C hr hlk   s h
    · have h := h.2 c7
      refine dk_iload_n (i := 0) C dX9_isCell_12 (n := 13) rfl rfl rfl ?_
      refine dk_bipush (v := 126) C dX9_isCell_13 (n := 15) rfl (by decide) ?_
      refine dk_icmp_eq (t := 48) C dX9_isCell_15 (n := 18) rfl (by decide) (fun c6 => ?_) (fun c6 => ?_)
      · have h := h.1 c6
        refine dk_sub (L0 := [none]) trivial ?_
        exact ww_X9_isCell_48 C hr hlk   s h
      · have h := h.2 c6
        refine dk_iload_n (i := 0) C dX9_isCell_18 (n := 19) rfl rfl rfl ?_
        refine dk_bipush (v := 43) C dX9_isCell_19 (n := 21) rfl (by decide) ?_
        refine dk_icmp_eq (t := 48) C dX9_isCell_21 (n := 24) rfl (by decide) (fun c5 => ?_) (fun c5 => ?_)
        · have h := h.1 c5
          refine dk_sub (L0 := [none]) trivial ?_
          exact ww_X9_isCell_48 C hr hlk   s h
        · have h := h.2 c5
          refine dk_iload_n (i := 0) C dX9_isCell_24 (n := 25) rfl rfl rfl ?_
          refine dk_bipush (v := 47) C dX9_isCell_25 (n := 27) rfl (by decide) ?_
          refine dk_icmp_eq (t := 48) C dX9_isCell_27 (n := 30) rfl (by decide) (fun c4 => ?_) (fun c4 => ?_)
          · have h := h.1 c4
            refine dk_sub (L0 := [none]) trivial ?_
            exact ww_X9_isCell_48 C hr hlk   s h
          · have h := h.2 c4
            refine dk_iload_n (i := 0) C dX9_isCell_30 (n := 31) rfl rfl rfl ?_
            refine dk_bipush (v := 48) C dX9_isCell_31 (n := 33) rfl (by decide) ?_
            refine dk_icmp_eq (t := 48) C dX9_isCell_33 (n := 36) rfl (by decide) (fun c3 => ?_) (fun c3 => ?_)
            · have h := h.1 c3
              refine dk_sub (L0 := [none]) trivial ?_
              exact ww_X9_isCell_48 C hr hlk   s h
            · have h := h.2 c3
              refine dk_iload_n (i := 0) C dX9_isCell_36 (n := 37) rfl rfl rfl ?_
              refine dk_bipush (v := 49) C dX9_isCell_37 (n := 39) rfl (by decide) ?_
              refine dk_icmp_eq (t := 48) C dX9_isCell_39 (n := 42) rfl (by decide) (fun c2 => ?_) (fun c2 => ?_)
              · have h := h.1 c2
                refine dk_sub (L0 := [none]) trivial ?_
                exact ww_X9_isCell_48 C hr hlk   s h
              · have h := h.2 c2
                refine dk_iload_n (i := 0) C dX9_isCell_42 (n := 43) rfl rfl rfl ?_
                refine dk_bipush (v := 50) C dX9_isCell_43 (n := 45) rfl (by decide) ?_
                refine dk_icmp_ne (t := 52) C dX9_isCell_45 (n := 48) rfl (by decide) (fun c1 => ?_) (fun c1 => ?_)
                · have h := h.1 c1
                  refine dk_iconst (v := 0) C dX9_isCell_52 (n := 53) rfl (by decide) ?_
                  exact dk_iret C hr hlk dk_nz0 dX9_isCell_53 ⟨_, rfl, h⟩
                · have h := h.2 c1
                  refine dk_sub (L0 := [none]) trivial ?_
                  exact ww_X9_isCell_48 C hr hlk   s h
/-! X9_dig -/
def wf_X9_dig_36  (K : Int32 → dk_S → Prop) (x1 : Int32) (x2 : Int32) (x3 : Int32) (y0 : Int32) (s : dk_S) : Prop :=
  wf_X9_goesOn y0 s (fun r11 s10 => ((¬ r11 = 0 → wf_X9_at x1 x2 s10 (fun r13 s12 => (vp_in r13 144 ∧ ∀ v14 : Int32, v14 = s12 4 61 r13.toNatClampNeg → wf_X9_at x1 x2 s12 (fun r16 s15 => (vp_in r16 144 ∧ (∀ s17 : dk_S, s17 = dk_row s15 4 61 (upd (s15 4 61) r16.toNatClampNeg (vp_nar .char x3)) → wf_X9_tells s17 (fun s18 => (narrow .char (.int v14) = .int v14 ∧ K v14 s18)))))))) ∧ (r11 = 0 → K 0 s10)))
def wf_X9_dig (a1 : Int32) (a2 : Int32) (a3 : Int32) (s : dk_S) (K : Int32 → dk_S → Prop) : Prop :=
  wf_X9_isPlace a1 a2 s (fun r2 s1 => ((¬ r2 = 0 → wf_X9_isCell a3 s1 (fun r4 s3 => ((¬ r4 = 0 → wf_X9_isOn s3 (fun r6 s5 => ((r6 = 0 → wf_X9_dig_36 K a1 a2 a3 0 s5) ∧ (¬ r6 = 0 → wf_X9_dig_36 K a1 a2 a3 3 s5)))) ∧ (r4 = 0 → wf_X9_dig_36 K a1 a2 a3 2 s3)))) ∧ (r2 = 0 → wf_X9_dig_36 K a1 a2 a3 1 s1)))
set_option maxRecDepth 20000 in
set_option maxHeartbeats 4000000 in
theorem ww_X9_dig_36 {G : dk_G} {P : Program} {l : Launch} {e : Env} {S0 : State} {m : MethodId} {args : Array Value} {bel : List Frame} {meth : Method} {c : Code}  (C : dk_C G P (dk_rm 3) S0 m args c 0 0 cX9_dig 5 RX9) (hr : meth.sig.returnType = (some .char)) (hlk : meth.locks = false) (hmi : dk_MI G) {K : Int32 → dk_S → Prop}  : ∀ (x1 : Int32) (x2 : Int32) (x3 : Int32) (y0 : Int32) (s : dk_S), wf_X9_dig_36 K x1 x2 x3 y0 s → dk_W G P l e (dk_rm 3) S0 m args bel meth c 0 0 (MQ bel (dk_Qc G (dk_ki K)) args S0 0 0 (dk_A G)) 36 [some (dk_r G 4 60), some (.int x1), some (.int x2), some (.int x3), none] [.int y0, dk_r G 4 60] s := by
  intro x1 x2 x3 y0 s h
  unfold wf_X9_dig_36 at h
  refine dk_callVi C [] (cc_X9_goesOn C.D hmi h) yy_X9_goesOn dk_wm_X9_149 dk_sh60 (hmi 60 (by decide) (by decide)) dX9_dig_36 (fun r11 s10 h => ?_) rfl rfl ⟨Nat.le_of_ble_eq_true rfl, Nat.le_of_ble_eq_true rfl⟩ rfl (Nat.le_of_ble_eq_true rfl) rfl (n := 39) rfl
  refine dk_if_ne (t := 44) C dX9_dig_39 (n := 42) rfl (by decide) (fun c19 => ?_) (fun c19 => ?_)
  · have h := h.1 c19
    refine dk_aload_n (i := 0) C dX9_dig_44 (n := 45) rfl rfl rfl ?_
    refine gf_X9_13 C (hmi 60 (by decide) (by decide)) dX9_dig_45 (n := 48) rfl ?_
    refine dk_iload_n (i := 1) C dX9_dig_48 (n := 49) rfl rfl rfl ?_
    refine dk_iload_n (i := 2) C dX9_dig_49 (n := 50) rfl rfl rfl ?_
    refine dk_callSi C [dk_r G 4 61] (cc_X9_at C.D  h) yy_X9_at dk_wm_X9_125 dX9_dig_50 (fun r13 s12 h => ?_) rfl ⟨Nat.le_of_ble_eq_true rfl, Nat.le_of_ble_eq_true rfl⟩ rfl (Nat.le_of_ble_eq_true rfl) rfl (n := 53) rfl
    refine dk_cald C dk_sh61 h.1 (hmi 61 (by decide) (by decide)) dX9_dig_53 (n := 54) rfl ?_
    have h := h.2
    refine dk_name (fun v14 ev14 => ?_)
    have h := h v14 ev14
    refine dk_istore (i := 4) (L' := [some (dk_r G 4 60), some (.int x1), some (.int x2), some (.int x3), some (.int v14)]) C dX9_dig_54 (n := 56) rfl (dk_nc_of rfl) (Nat.le_of_ble_eq_true rfl) rfl ?_
    refine dk_aload_n (i := 0) C dX9_dig_56 (n := 57) rfl rfl rfl ?_
    refine gf_X9_13 C (hmi 60 (by decide) (by decide)) dX9_dig_57 (n := 60) rfl ?_
    refine dk_iload_n (i := 1) C dX9_dig_60 (n := 61) rfl rfl rfl ?_
    refine dk_iload_n (i := 2) C dX9_dig_61 (n := 62) rfl rfl rfl ?_
    refine dk_callSi C [dk_r G 4 61] (cc_X9_at C.D  h) yy_X9_at dk_wm_X9_125 dX9_dig_62 (fun r16 s15 h => ?_) rfl ⟨Nat.le_of_ble_eq_true rfl, Nat.le_of_ble_eq_true rfl⟩ rfl (Nat.le_of_ble_eq_true rfl) rfl (n := 65) rfl
    refine dk_iload_n (i := 3) C dX9_dig_65 (n := 66) rfl rfl rfl ?_
    refine dk_cast C dk_sh61 h.1 (hmi 61 (by decide) (by decide)) dX9_dig_66 (n := 67) rfl ?_
    refine dk_nameS (fun s17 es17 => ?_)
    have h := h.2 s17 es17
    refine dk_aload_n (i := 0) C dX9_dig_67 (n := 68) rfl rfl rfl ?_
    refine dk_callVv C [] (cc_X9_tells C.D hmi h) yy_X9_tells dk_wm_X9_153 dk_sh60 (hmi 60 (by decide) (by decide)) dX9_dig_68 (fun s18 h => ?_) rfl rfl ⟨Nat.le_of_ble_eq_true rfl, Nat.le_of_ble_eq_true rfl⟩ rfl (Nat.le_of_ble_eq_true rfl) rfl (n := 71) rfl
    refine dk_iload C dX9_dig_71 (n := 73) rfl (i := 4) rfl ?_
    exact dk_iret C hr hlk h.1 dX9_dig_73 ⟨_, rfl, h.2⟩
  · have h := h.2 c19
    refine dk_iconst (v := 0) C dX9_dig_42 (n := 43) rfl (by decide) ?_
    exact dk_iret C hr hlk (by decide) dX9_dig_43 ⟨_, rfl, h⟩
set_option maxRecDepth 20000 in
set_option maxHeartbeats 4000000 in
theorem cc_X9_dig {G : dk_G} {l : Launch} {a1 : Int32} {a2 : Int32} {a3 : Int32} (hD : dk_D G) (hmi : dk_MI G) {s : dk_S} {K : Int32 → dk_S → Prop} (h : wf_X9_dig a1 a2 a3 s K) : dk_M G l 3 yX9_dig cX9_dig 5 (some .char) [dk_r G 4 60, .int a1, .int a2, .int a3] s (dk_ki K) := by
  refine dk_of hD (by decide) [some (dk_r G 4 60), some (.int a1), some (.int a2), some (.int a3), none] (fun q hq => hq) rfl (Nat.le_of_ble_eq_true rfl) (fun P e S0 m args bel meth c C hr hlk => ?_)
  unfold wf_X9_dig at h
  refine dk_aload_n (i := 0) C dX9_dig_0 (n := 1) rfl rfl rfl ?_
  refine dk_iload_n (i := 1) C dX9_dig_1 (n := 2) rfl rfl rfl ?_
  refine dk_iload_n (i := 2) C dX9_dig_2 (n := 3) rfl rfl rfl ?_
  refine dk_callSi C [dk_r G 4 60] (cc_X9_isPlace C.D  h) yy_X9_isPlace dk_wm_X9_121 dX9_dig_3 (fun r2 s1 h => ?_) rfl ⟨Nat.le_of_ble_eq_true rfl, Nat.le_of_ble_eq_true rfl⟩ rfl (Nat.le_of_ble_eq_true rfl) rfl (n := 6) rfl
  refine dk_if_ne (t := 13) C dX9_dig_6 (n := 9) rfl (by decide) (fun c9 => ?_) (fun c9 => ?_)
  · have h := h.1 c9
    refine dk_iload_n (i := 3) C dX9_dig_13 (n := 14) rfl rfl rfl ?_
    refine dk_callSi C [dk_r G 4 60] (cc_X9_isCell C.D  h) yy_X9_isCell dk_wm_X9_142 dX9_dig_14 (fun r4 s3 h => ?_) rfl ⟨Nat.le_of_ble_eq_true rfl, Nat.le_of_ble_eq_true rfl⟩ rfl (Nat.le_of_ble_eq_true rfl) rfl (n := 17) rfl
    refine dk_if_ne (t := 24) C dX9_dig_17 (n := 20) rfl (by decide) (fun c8 => ?_) (fun c8 => ?_)
    · have h := h.1 c8
      refine dk_aload_n (i := 0) C dX9_dig_24 (n := 25) rfl rfl rfl ?_
      refine dk_callVi C [dk_r G 4 60] (cc_X9_isOn C.D hmi h) yy_X9_isOn dk_wm_X9_145 dk_sh60 (hmi 60 (by decide) (by decide)) dX9_dig_25 (fun r6 s5 h => ?_) rfl rfl ⟨Nat.le_of_ble_eq_true rfl, Nat.le_of_ble_eq_true rfl⟩ rfl (Nat.le_of_ble_eq_true rfl) rfl (n := 28) rfl
      refine dk_if_eq (t := 35) C dX9_dig_28 (n := 31) rfl (by decide) (fun c7 => ?_) (fun c7 => ?_)
      · have h := h.1 c7
        refine dk_iconst (v := 0) C dX9_dig_35 (n := 36) rfl (by decide) ?_
        refine dk_sub (L0 := [some (dk_r G 4 60), some (.int a1), some (.int a2), some (.int a3), none]) ⟨rfl, ⟨rfl, ⟨rfl, ⟨rfl, trivial⟩⟩⟩⟩ ?_
        exact ww_X9_dig_36 C hr hlk hmi  a1 a2 a3 0 s5 h
      · have h := h.2 c7
        refine dk_iconst (v := 3) C dX9_dig_31 (n := 32) rfl (by decide) ?_
        refine dk_goto (t := 36) C dX9_dig_32 (by decide) ?_
        refine dk_sub (L0 := [some (dk_r G 4 60), some (.int a1), some (.int a2), some (.int a3), none]) ⟨rfl, ⟨rfl, ⟨rfl, ⟨rfl, trivial⟩⟩⟩⟩ ?_
        exact ww_X9_dig_36 C hr hlk hmi  a1 a2 a3 3 s5 h
    · have h := h.2 c8
      refine dk_iconst (v := 2) C dX9_dig_20 (n := 21) rfl (by decide) ?_
      refine dk_goto (t := 36) C dX9_dig_21 (by decide) ?_
      refine dk_sub (L0 := [some (dk_r G 4 60), some (.int a1), some (.int a2), some (.int a3), none]) ⟨rfl, ⟨rfl, ⟨rfl, ⟨rfl, trivial⟩⟩⟩⟩ ?_
      exact ww_X9_dig_36 C hr hlk hmi  a1 a2 a3 2 s3 h
  · have h := h.2 c9
    refine dk_iconst (v := 1) C dX9_dig_9 (n := 10) rfl (by decide) ?_
    refine dk_goto (t := 36) C dX9_dig_10 (by decide) ?_
    refine dk_sub (L0 := [some (dk_r G 4 60), some (.int a1), some (.int a2), some (.int a3), none]) ⟨rfl, ⟨rfl, ⟨rfl, ⟨rfl, trivial⟩⟩⟩⟩ ?_
    exact ww_X9_dig_36 C hr hlk hmi  a1 a2 a3 1 s1 h
/-! X9_setKind -/
def wf_X9_setKind_37  (K : Int32 → dk_S → Prop) (x1 : Int32) (x2 : Int32) (x3 : Int32) (y0 : Int32) (s : dk_S) : Prop :=
  wf_X9_goesOn y0 s (fun r11 s10 => ((¬ r11 = 0 → (vp_in x1 8 ∧ ∀ v12 : Int32, v12 = s10 4 62 x1.toNatClampNeg → (vp_in x1 8 ∧ (∀ s13 : dk_S, s13 = dk_row s10 4 62 (upd (s10 4 62) x1.toNatClampNeg x2) → (vp_in x1 8 ∧ (∀ s14 : dk_S, s14 = dk_row s13 4 63 (upd (s13 4 63) x1.toNatClampNeg (vp_nar .boolean x3)) → wf_X9_tells s14 (fun s15 => K v12 s15))))))) ∧ (r11 = 0 → K 0 s10)))
def wf_X9_setKind (a1 : Int32) (a2 : Int32) (a3 : Int32) (s : dk_S) (K : Int32 → dk_S → Prop) : Prop :=
  wf_X9_in a1 0 7 s (fun r2 s1 => ((r2 = 0 → wf_X9_setKind_37 K a1 a2 a3 1 s1) ∧ (¬ r2 = 0 → wf_X9_in a2 0 9 s1 (fun r4 s3 => ((¬ r4 = 0 → wf_X9_isOn s3 (fun r6 s5 => ((r6 = 0 → wf_X9_setKind_37 K a1 a2 a3 0 s5) ∧ (¬ r6 = 0 → wf_X9_setKind_37 K a1 a2 a3 2 s5)))) ∧ (r4 = 0 → wf_X9_setKind_37 K a1 a2 a3 1 s3))))))
set_option maxRecDepth 20000 in
set_option maxHeartbeats 4000000 in
theorem ww_X9_setKind_37 {G : dk_G} {P : Program} {l : Launch} {e : Env} {S0 : State} {m : MethodId} {args : Array Value} {bel : List Frame} {meth : Method} {c : Code}  (C : dk_C G P (dk_rm 3) S0 m args c 0 0 cX9_setKind 5 RX9) (hr : meth.sig.returnType = (some .int)) (hlk : meth.locks = false) (hmi : dk_MI G) {K : Int32 → dk_S → Prop}  : ∀ (x1 : Int32) (x2 : Int32) (x3 : Int32) (y0 : Int32) (s : dk_S), wf_X9_setKind_37 K x1 x2 x3 y0 s → dk_W G P l e (dk_rm 3) S0 m args bel meth c 0 0 (MQ bel (dk_Qc G (dk_ki K)) args S0 0 0 (dk_A G)) 37 [some (dk_r G 4 60), some (.int x1), some (.int x2), some (.int x3), none] [.int y0, dk_r G 4 60] s := by
  intro x1 x2 x3 y0 s h
  unfold wf_X9_setKind_37 at h
  refine dk_callVi C [] (cc_X9_goesOn C.D hmi h) yy_X9_goesOn dk_wm_X9_149 dk_sh60 (hmi 60 (by decide) (by decide)) dX9_setKind_37 (fun r11 s10 h => ?_) rfl rfl ⟨Nat.le_of_ble_eq_true rfl, Nat.le_of_ble_eq_true rfl⟩ rfl (Nat.le_of_ble_eq_true rfl) rfl (n := 40) rfl
  refine dk_if_ne (t := 45) C dX9_setKind_40 (n := 43) rfl (by decide) (fun c16 => ?_) (fun c16 => ?_)
  · have h := h.1 c16
    refine dk_aload_n (i := 0) C dX9_setKind_45 (n := 46) rfl rfl rfl ?_
    refine gf_X9_17 C (hmi 60 (by decide) (by decide)) dX9_setKind_46 (n := 49) rfl ?_
    refine dk_iload_n (i := 1) C dX9_setKind_49 (n := 50) rfl rfl rfl ?_
    refine dk_iald C dk_sh62 h.1 (hmi 62 (by decide) (by decide)) dX9_setKind_50 (n := 51) rfl ?_
    have h := h.2
    refine dk_name (fun v12 ev12 => ?_)
    have h := h v12 ev12
    refine dk_istore (i := 4) (L' := [some (dk_r G 4 60), some (.int x1), some (.int x2), some (.int x3), some (.int v12)]) C dX9_setKind_51 (n := 53) rfl (dk_nc_of rfl) (Nat.le_of_ble_eq_true rfl) rfl ?_
    refine dk_aload_n (i := 0) C dX9_setKind_53 (n := 54) rfl rfl rfl ?_
    refine gf_X9_17 C (hmi 60 (by decide) (by decide)) dX9_setKind_54 (n := 57) rfl ?_
    refine dk_iload_n (i := 1) C dX9_setKind_57 (n := 58) rfl rfl rfl ?_
    refine dk_iload_n (i := 2) C dX9_setKind_58 (n := 59) rfl rfl rfl ?_
    refine dk_iast C dk_sh62 h.1 (hmi 62 (by decide) (by decide)) dX9_setKind_59 (n := 60) rfl ?_
    refine dk_nameS (fun s13 es13 => ?_)
    have h := h.2 s13 es13
    refine dk_aload_n (i := 0) C dX9_setKind_60 (n := 61) rfl rfl rfl ?_
    refine gf_X9_21 C (hmi 60 (by decide) (by decide)) dX9_setKind_61 (n := 64) rfl ?_
    refine dk_iload_n (i := 1) C dX9_setKind_64 (n := 65) rfl rfl rfl ?_
    refine dk_iload_n (i := 3) C dX9_setKind_65 (n := 66) rfl rfl rfl ?_
    refine dk_zast C dk_sh63 h.1 (hmi 63 (by decide) (by decide)) dX9_setKind_66 (n := 67) rfl ?_
    refine dk_nameS (fun s14 es14 => ?_)
    have h := h.2 s14 es14
    refine dk_aload_n (i := 0) C dX9_setKind_67 (n := 68) rfl rfl rfl ?_
    refine dk_callVv C [] (cc_X9_tells C.D hmi h) yy_X9_tells dk_wm_X9_153 dk_sh60 (hmi 60 (by decide) (by decide)) dX9_setKind_68 (fun s15 h => ?_) rfl rfl ⟨Nat.le_of_ble_eq_true rfl, Nat.le_of_ble_eq_true rfl⟩ rfl (Nat.le_of_ble_eq_true rfl) rfl (n := 71) rfl
    refine dk_iload C dX9_setKind_71 (n := 73) rfl (i := 4) rfl ?_
    exact dk_iret C hr hlk rfl dX9_setKind_73 ⟨_, rfl, h⟩
  · have h := h.2 c16
    refine dk_iconst (v := 0) C dX9_setKind_43 (n := 44) rfl (by decide) ?_
    exact dk_iret C hr hlk rfl dX9_setKind_44 ⟨_, rfl, h⟩
set_option maxRecDepth 20000 in
set_option maxHeartbeats 4000000 in
theorem cc_X9_setKind {G : dk_G} {l : Launch} {a1 : Int32} {a2 : Int32} {a3 : Int32} (hD : dk_D G) (hmi : dk_MI G) {s : dk_S} {K : Int32 → dk_S → Prop} (h : wf_X9_setKind a1 a2 a3 s K) : dk_M G l 3 yX9_setKind cX9_setKind 5 (some .int) [dk_r G 4 60, .int a1, .int a2, .int a3] s (dk_ki K) := by
  refine dk_of hD (by decide) [some (dk_r G 4 60), some (.int a1), some (.int a2), some (.int a3), none] (fun q hq => hq) rfl (Nat.le_of_ble_eq_true rfl) (fun P e S0 m args bel meth c C hr hlk => ?_)
  unfold wf_X9_setKind at h
  refine dk_aload_n (i := 0) C dX9_setKind_0 (n := 1) rfl rfl rfl ?_
  refine dk_iload_n (i := 1) C dX9_setKind_1 (n := 2) rfl rfl rfl ?_
  refine dk_iconst (v := 0) C dX9_setKind_2 (n := 3) rfl (by decide) ?_
  refine dk_bipush (v := 7) C dX9_setKind_3 (n := 5) rfl (by decide) ?_
  refine dk_callSi C [dk_r G 4 60] (cc_X9_in C.D  h) yy_X9_in dk_wm_X9_110 dX9_setKind_5 (fun r2 s1 h => ?_) rfl ⟨Nat.le_of_ble_eq_true rfl, Nat.le_of_ble_eq_true rfl⟩ rfl (Nat.le_of_ble_eq_true rfl) rfl (n := 8) rfl
  refine dk_if_eq (t := 21) C dX9_setKind_8 (n := 11) rfl (by decide) (fun c9 => ?_) (fun c9 => ?_)
  · have h := h.1 c9
    refine dk_iconst (v := 1) C dX9_setKind_21 (n := 22) rfl (by decide) ?_
    refine dk_goto (t := 37) C dX9_setKind_22 (by decide) ?_
    refine dk_sub (L0 := [some (dk_r G 4 60), some (.int a1), some (.int a2), some (.int a3), none]) ⟨rfl, ⟨rfl, ⟨rfl, ⟨rfl, trivial⟩⟩⟩⟩ ?_
    exact ww_X9_setKind_37 C hr hlk hmi  a1 a2 a3 1 s1 h
  · have h := h.2 c9
    refine dk_iload_n (i := 2) C dX9_setKind_11 (n := 12) rfl rfl rfl ?_
    refine dk_iconst (v := 0) C dX9_setKind_12 (n := 13) rfl (by decide) ?_
    refine dk_bipush (v := 9) C dX9_setKind_13 (n := 15) rfl (by decide) ?_
    refine dk_callSi C [dk_r G 4 60] (cc_X9_in C.D  h) yy_X9_in dk_wm_X9_110 dX9_setKind_15 (fun r4 s3 h => ?_) rfl ⟨Nat.le_of_ble_eq_true rfl, Nat.le_of_ble_eq_true rfl⟩ rfl (Nat.le_of_ble_eq_true rfl) rfl (n := 18) rfl
    refine dk_if_ne (t := 25) C dX9_setKind_18 (n := 21) rfl (by decide) (fun c8 => ?_) (fun c8 => ?_)
    · have h := h.1 c8
      refine dk_aload_n (i := 0) C dX9_setKind_25 (n := 26) rfl rfl rfl ?_
      refine dk_callVi C [dk_r G 4 60] (cc_X9_isOn C.D hmi h) yy_X9_isOn dk_wm_X9_145 dk_sh60 (hmi 60 (by decide) (by decide)) dX9_setKind_26 (fun r6 s5 h => ?_) rfl rfl ⟨Nat.le_of_ble_eq_true rfl, Nat.le_of_ble_eq_true rfl⟩ rfl (Nat.le_of_ble_eq_true rfl) rfl (n := 29) rfl
      refine dk_if_eq (t := 36) C dX9_setKind_29 (n := 32) rfl (by decide) (fun c7 => ?_) (fun c7 => ?_)
      · have h := h.1 c7
        refine dk_iconst (v := 0) C dX9_setKind_36 (n := 37) rfl (by decide) ?_
        refine dk_sub (L0 := [some (dk_r G 4 60), some (.int a1), some (.int a2), some (.int a3), none]) ⟨rfl, ⟨rfl, ⟨rfl, ⟨rfl, trivial⟩⟩⟩⟩ ?_
        exact ww_X9_setKind_37 C hr hlk hmi  a1 a2 a3 0 s5 h
      · have h := h.2 c7
        refine dk_iconst (v := 2) C dX9_setKind_32 (n := 33) rfl (by decide) ?_
        refine dk_goto (t := 37) C dX9_setKind_33 (by decide) ?_
        refine dk_sub (L0 := [some (dk_r G 4 60), some (.int a1), some (.int a2), some (.int a3), none]) ⟨rfl, ⟨rfl, ⟨rfl, ⟨rfl, trivial⟩⟩⟩⟩ ?_
        exact ww_X9_setKind_37 C hr hlk hmi  a1 a2 a3 2 s5 h
    · have h := h.2 c8
      refine dk_iconst (v := 1) C dX9_setKind_21 (n := 22) rfl (by decide) ?_
      refine dk_goto (t := 37) C dX9_setKind_22 (by decide) ?_
      refine dk_sub (L0 := [some (dk_r G 4 60), some (.int a1), some (.int a2), some (.int a3), none]) ⟨rfl, ⟨rfl, ⟨rfl, ⟨rfl, trivial⟩⟩⟩⟩ ?_
      exact ww_X9_setKind_37 C hr hlk hmi  a1 a2 a3 1 s3 h
/-! X9_isEffect -/
def wf_X9_isEffect_30  (K : Int32 → dk_S → Prop)  (s : dk_S) : Prop :=
  K 1 s
def wf_X9_isEffect (a0 : Int32) (s : dk_S) (K : Int32 → dk_S → Prop) : Prop :=
  ((a0 = 104 → wf_X9_isEffect_30 K s) ∧ (¬ a0 = 104 → ((a0 = 100 → wf_X9_isEffect_30 K s) ∧ (¬ a0 = 100 → ((a0 = 115 → wf_X9_isEffect_30 K s) ∧ (¬ a0 = 115 → ((a0 = 98 → wf_X9_isEffect_30 K s) ∧ (¬ a0 = 98 → ((¬ a0 = 102 → K 0 s) ∧ (a0 = 102 → wf_X9_isEffect_30 K s))))))))))
set_option maxRecDepth 20000 in
set_option maxHeartbeats 4000000 in
theorem ww_X9_isEffect_30 {G : dk_G} {P : Program} {l : Launch} {e : Env} {S0 : State} {m : MethodId} {args : Array Value} {bel : List Frame} {meth : Method} {c : Code}  (C : dk_C G P (dk_rm 1) S0 m args c 0 0 cX9_isEffect 1 RX9) (hr : meth.sig.returnType = (some .boolean)) (hlk : meth.locks = false)  {K : Int32 → dk_S → Prop}  : ∀  (s : dk_S), wf_X9_isEffect_30 K s → dk_W G P l e (dk_rm 1) S0 m args bel meth c 0 0 (MQ bel (dk_Qc G (dk_ki K)) args S0 0 0 (dk_A G)) 30 [none] [] s := by
  intro s h
  unfold wf_X9_isEffect_30 at h
  refine dk_iconst (v := 1) C dX9_isEffect_30 (n := 31) rfl (by decide) ?_
  refine dk_goto (t := 35) C dX9_isEffect_31 (by decide) ?_
  exact dk_iret C hr hlk dk_nz1 dX9_isEffect_35 ⟨_, rfl, h⟩
set_option maxRecDepth 20000 in
set_option maxHeartbeats 4000000 in
theorem cc_X9_isEffect {G : dk_G} {l : Launch} {a0 : Int32} (hD : dk_D G)  {s : dk_S} {K : Int32 → dk_S → Prop} (h : wf_X9_isEffect a0 s K) : dk_M G l 1 yX9_isEffect cX9_isEffect 1 (some .boolean) [.int a0] s (dk_ki K) := by
  refine dk_of hD (by decide) [some (.int a0)] (fun q hq => hq) rfl (Nat.le_of_ble_eq_true rfl) (fun P e S0 m args bel meth c C hr hlk => ?_)
  unfold wf_X9_isEffect at h
  refine dk_iload_n (i := 0) C dX9_isEffect_0 (n := 1) rfl rfl rfl ?_
  refine dk_bipush (v := 104) C dX9_isEffect_1 (n := 3) rfl (by decide) ?_
  refine dk_icmp_eq (t := 30) C dX9_isEffect_3 (n := 6) rfl (by decide) (fun c5 => ?_) (fun c5 => ?_)
  · have h := h.1 c5
    refine dk_sub (L0 := [none]) trivial ?_
    exact ww_X9_isEffect_30 C hr hlk   s h
  · have h := h.2 c5
    refine dk_iload_n (i := 0) C dX9_isEffect_6 (n := 7) rfl rfl rfl ?_
    refine dk_bipush (v := 100) C dX9_isEffect_7 (n := 9) rfl (by decide) ?_
    refine dk_icmp_eq (t := 30) C dX9_isEffect_9 (n := 12) rfl (by decide) (fun c4 => ?_) (fun c4 => ?_)
    · have h := h.1 c4
      refine dk_sub (L0 := [none]) trivial ?_
      exact ww_X9_isEffect_30 C hr hlk   s h
    · have h := h.2 c4
      refine dk_iload_n (i := 0) C dX9_isEffect_12 (n := 13) rfl rfl rfl ?_
      refine dk_bipush (v := 115) C dX9_isEffect_13 (n := 15) rfl (by decide) ?_
      refine dk_icmp_eq (t := 30) C dX9_isEffect_15 (n := 18) rfl (by decide) (fun c3 => ?_) (fun c3 => ?_)
      · have h := h.1 c3
        refine dk_sub (L0 := [none]) trivial ?_
        exact ww_X9_isEffect_30 C hr hlk   s h
      · have h := h.2 c3
        refine dk_iload_n (i := 0) C dX9_isEffect_18 (n := 19) rfl rfl rfl ?_
        refine dk_bipush (v := 98) C dX9_isEffect_19 (n := 21) rfl (by decide) ?_
        refine dk_icmp_eq (t := 30) C dX9_isEffect_21 (n := 24) rfl (by decide) (fun c2 => ?_) (fun c2 => ?_)
        · have h := h.1 c2
          refine dk_sub (L0 := [none]) trivial ?_
          exact ww_X9_isEffect_30 C hr hlk   s h
        · have h := h.2 c2
          refine dk_iload_n (i := 0) C dX9_isEffect_24 (n := 25) rfl rfl rfl ?_
          refine dk_bipush (v := 102) C dX9_isEffect_25 (n := 27) rfl (by decide) ?_
          refine dk_icmp_ne (t := 34) C dX9_isEffect_27 (n := 30) rfl (by decide) (fun c1 => ?_) (fun c1 => ?_)
          · have h := h.1 c1
            refine dk_iconst (v := 0) C dX9_isEffect_34 (n := 35) rfl (by decide) ?_
            exact dk_iret C hr hlk dk_nz0 dX9_isEffect_35 ⟨_, rfl, h⟩
          · have h := h.2 c1
            refine dk_sub (L0 := [none]) trivial ?_
            exact ww_X9_isEffect_30 C hr hlk   s h
/-! X9_isPotion -/
def wf_X9_isPotion (a0 : Int32) (s : dk_S) (K : Int32 → dk_S → Prop) : Prop :=
  wf_X9_in a0 3 5 s (fun r2 s1 => (narrow .boolean (.int r2) = .int r2 ∧ K r2 s1))
set_option maxRecDepth 20000 in
set_option maxHeartbeats 4000000 in
theorem cc_X9_isPotion {G : dk_G} {l : Launch} {a0 : Int32} (hD : dk_D G)  {s : dk_S} {K : Int32 → dk_S → Prop} (h : wf_X9_isPotion a0 s K) : dk_M G l 2 yX9_isPotion cX9_isPotion 1 (some .boolean) [.int a0] s (dk_ki K) := by
  refine dk_of hD (by decide) [some (.int a0)] (fun q hq => hq) rfl (Nat.le_of_ble_eq_true rfl) (fun P e S0 m args bel meth c C hr hlk => ?_)
  unfold wf_X9_isPotion at h
  refine dk_iload_n (i := 0) C dX9_isPotion_0 (n := 1) rfl rfl rfl ?_
  refine dk_iconst (v := 3) C dX9_isPotion_1 (n := 2) rfl (by decide) ?_
  refine dk_iconst (v := 5) C dX9_isPotion_2 (n := 3) rfl (by decide) ?_
  refine dk_callSi C [] (cc_X9_in C.D  h) yy_X9_in dk_wm_X9_110 dX9_isPotion_3 (fun r2 s1 h => ?_) rfl ⟨Nat.le_of_ble_eq_true rfl, Nat.le_of_ble_eq_true rfl⟩ rfl (Nat.le_of_ble_eq_true rfl) rfl (n := 6) rfl
  exact dk_iret C hr hlk h.1 dX9_isPotion_6 ⟨_, rfl, h.2⟩
/-! X9_setEffect -/
def wf_X9_setEffect_63  (K : Int32 → dk_S → Prop) (x1 : Int32) (x2 : Int32) (x3 : Int32) (x4 : Int32) (y0 : Int32) (s : dk_S) : Prop :=
  wf_X9_goesOn y0 s (fun r18 s17 => ((¬ r18 = 0 → (vp_in x1 8 ∧ ∀ v19 : Int32, v19 = s17 4 64 x1.toNatClampNeg → (vp_in x1 8 ∧ (∀ s20 : dk_S, s20 = dk_row s17 4 64 (upd (s17 4 64) x1.toNatClampNeg (vp_nar .char x2)) → (vp_in x1 8 ∧ (∀ s21 : dk_S, s21 = dk_row s20 4 65 (upd (s20 4 65) x1.toNatClampNeg x3) → (vp_in x1 8 ∧ (∀ s22 : dk_S, s22 = dk_row s21 4 66 (upd (s21 4 66) x1.toNatClampNeg x4) → wf_X9_tells s22 (fun s23 => (narrow .char (.int v19) = .int v19 ∧ K v19 s23)))))))))) ∧ (r18 = 0 → K 0 s17)))
def wf_X9_setEffect_39  (K : Int32 → dk_S → Prop) (x1 : Int32) (x2 : Int32) (x3 : Int32) (x4 : Int32) (y0 : Int32) (s : dk_S) : Prop :=
  ((¬ y0 = 0 → wf_X9_isOn s (fun r14 s13 => ((r14 = 0 → wf_X9_setEffect_63 K x1 x2 x3 x4 0 s13) ∧ (¬ r14 = 0 → wf_X9_setEffect_63 K x1 x2 x3 x4 2 s13)))) ∧ (y0 = 0 → wf_X9_setEffect_63 K x1 x2 x3 x4 1 s))
def wf_X9_setEffect (a1 : Int32) (a2 : Int32) (a3 : Int32) (a4 : Int32) (s : dk_S) (K : Int32 → dk_S → Prop) : Prop :=
  wf_X9_isPotion a1 s (fun r2 s1 => ((r2 = 0 → wf_X9_setEffect_39 K a1 a2 a3 a4 0 s1) ∧ (¬ r2 = 0 → wf_X9_isEffect a2 s1 (fun r4 s3 => ((r4 = 0 → wf_X9_setEffect_39 K a1 a2 a3 a4 0 s3) ∧ (¬ r4 = 0 → wf_X9_in a3 1 20 s3 (fun r6 s5 => ((r6 = 0 → wf_X9_setEffect_39 K a1 a2 a3 a4 0 s5) ∧ (¬ r6 = 0 → wf_X9_in a4 0 3 s5 (fun r8 s7 => ((r8 = 0 → wf_X9_setEffect_39 K a1 a2 a3 a4 0 s7) ∧ (¬ r8 = 0 → wf_X9_setEffect_39 K a1 a2 a3 a4 1 s7))))))))))))
set_option maxRecDepth 20000 in
set_option maxHeartbeats 4000000 in
theorem ww_X9_setEffect_63 {G : dk_G} {P : Program} {l : Launch} {e : Env} {S0 : State} {m : MethodId} {args : Array Value} {bel : List Frame} {meth : Method} {c : Code}  (C : dk_C G P (dk_rm 3) S0 m args c 0 0 cX9_setEffect 7 RX9) (hr : meth.sig.returnType = (some .char)) (hlk : meth.locks = false) (hmi : dk_MI G) {K : Int32 → dk_S → Prop}  : ∀ (x1 : Int32) (x2 : Int32) (x3 : Int32) (x4 : Int32) (y0 : Int32) (s : dk_S), wf_X9_setEffect_63 K x1 x2 x3 x4 y0 s → dk_W G P l e (dk_rm 3) S0 m args bel meth c 0 0 (MQ bel (dk_Qc G (dk_ki K)) args S0 0 0 (dk_A G)) 63 [some (dk_r G 4 60), some (.int x1), some (.int x2), some (.int x3), some (.int x4), none, none] [.int y0, dk_r G 4 60] s := by
  intro x1 x2 x3 x4 y0 s h
  unfold wf_X9_setEffect_63 at h
  refine dk_callVi C [] (cc_X9_goesOn C.D hmi h) yy_X9_goesOn dk_wm_X9_149 dk_sh60 (hmi 60 (by decide) (by decide)) dX9_setEffect_63 (fun r18 s17 h => ?_) rfl rfl ⟨Nat.le_of_ble_eq_true rfl, Nat.le_of_ble_eq_true rfl⟩ rfl (Nat.le_of_ble_eq_true rfl) rfl (n := 66) rfl
  refine dk_if_ne (t := 71) C dX9_setEffect_66 (n := 69) rfl (by decide) (fun c24 => ?_) (fun c24 => ?_)
  · have h := h.1 c24
    refine dk_aload_n (i := 0) C dX9_setEffect_71 (n := 72) rfl rfl rfl ?_
    refine gf_X9_25 C (hmi 60 (by decide) (by decide)) dX9_setEffect_72 (n := 75) rfl ?_
    refine dk_iload_n (i := 1) C dX9_setEffect_75 (n := 76) rfl rfl rfl ?_
    refine dk_cald C dk_sh64 h.1 (hmi 64 (by decide) (by decide)) dX9_setEffect_76 (n := 77) rfl ?_
    have h := h.2
    refine dk_name (fun v19 ev19 => ?_)
    have h := h v19 ev19
    refine dk_istore (i := 6) (L' := [some (dk_r G 4 60), some (.int x1), some (.int x2), some (.int x3), some (.int x4), none, some (.int v19)]) C dX9_setEffect_77 (n := 79) rfl (dk_nc_of rfl) (Nat.le_of_ble_eq_true rfl) rfl ?_
    refine dk_aload_n (i := 0) C dX9_setEffect_79 (n := 80) rfl rfl rfl ?_
    refine gf_X9_25 C (hmi 60 (by decide) (by decide)) dX9_setEffect_80 (n := 83) rfl ?_
    refine dk_iload_n (i := 1) C dX9_setEffect_83 (n := 84) rfl rfl rfl ?_
    refine dk_iload_n (i := 2) C dX9_setEffect_84 (n := 85) rfl rfl rfl ?_
    refine dk_cast C dk_sh64 h.1 (hmi 64 (by decide) (by decide)) dX9_setEffect_85 (n := 86) rfl ?_
    refine dk_nameS (fun s20 es20 => ?_)
    have h := h.2 s20 es20
    refine dk_aload_n (i := 0) C dX9_setEffect_86 (n := 87) rfl rfl rfl ?_
    refine gf_X9_28 C (hmi 60 (by decide) (by decide)) dX9_setEffect_87 (n := 90) rfl ?_
    refine dk_iload_n (i := 1) C dX9_setEffect_90 (n := 91) rfl rfl rfl ?_
    refine dk_iload_n (i := 3) C dX9_setEffect_91 (n := 92) rfl rfl rfl ?_
    refine dk_iast C dk_sh65 h.1 (hmi 65 (by decide) (by decide)) dX9_setEffect_92 (n := 93) rfl ?_
    refine dk_nameS (fun s21 es21 => ?_)
    have h := h.2 s21 es21
    refine dk_aload_n (i := 0) C dX9_setEffect_93 (n := 94) rfl rfl rfl ?_
    refine gf_X9_31 C (hmi 60 (by decide) (by decide)) dX9_setEffect_94 (n := 97) rfl ?_
    refine dk_iload_n (i := 1) C dX9_setEffect_97 (n := 98) rfl rfl rfl ?_
    refine dk_iload C dX9_setEffect_98 (n := 100) rfl (i := 4) rfl ?_
    refine dk_iast C dk_sh66 h.1 (hmi 66 (by decide) (by decide)) dX9_setEffect_100 (n := 101) rfl ?_
    refine dk_nameS (fun s22 es22 => ?_)
    have h := h.2 s22 es22
    refine dk_aload_n (i := 0) C dX9_setEffect_101 (n := 102) rfl rfl rfl ?_
    refine dk_callVv C [] (cc_X9_tells C.D hmi h) yy_X9_tells dk_wm_X9_153 dk_sh60 (hmi 60 (by decide) (by decide)) dX9_setEffect_102 (fun s23 h => ?_) rfl rfl ⟨Nat.le_of_ble_eq_true rfl, Nat.le_of_ble_eq_true rfl⟩ rfl (Nat.le_of_ble_eq_true rfl) rfl (n := 105) rfl
    refine dk_iload C dX9_setEffect_105 (n := 107) rfl (i := 6) rfl ?_
    exact dk_iret C hr hlk h.1 dX9_setEffect_107 ⟨_, rfl, h.2⟩
  · have h := h.2 c24
    refine dk_iconst (v := 0) C dX9_setEffect_69 (n := 70) rfl (by decide) ?_
    exact dk_iret C hr hlk (by decide) dX9_setEffect_70 ⟨_, rfl, h⟩
set_option maxRecDepth 20000 in
set_option maxHeartbeats 4000000 in
theorem ww_X9_setEffect_39 {G : dk_G} {P : Program} {l : Launch} {e : Env} {S0 : State} {m : MethodId} {args : Array Value} {bel : List Frame} {meth : Method} {c : Code}  (C : dk_C G P (dk_rm 3) S0 m args c 0 0 cX9_setEffect 7 RX9) (hr : meth.sig.returnType = (some .char)) (hlk : meth.locks = false) (hmi : dk_MI G) {K : Int32 → dk_S → Prop}  : ∀ (x1 : Int32) (x2 : Int32) (x3 : Int32) (x4 : Int32) (y0 : Int32) (s : dk_S), wf_X9_setEffect_39 K x1 x2 x3 x4 y0 s → dk_W G P l e (dk_rm 3) S0 m args bel meth c 0 0 (MQ bel (dk_Qc G (dk_ki K)) args S0 0 0 (dk_A G)) 39 [some (dk_r G 4 60), some (.int x1), some (.int x2), some (.int x3), some (.int x4), none, none] [.int y0] s := by
  intro x1 x2 x3 x4 y0 s h
  unfold wf_X9_setEffect_39 at h
  refine dk_istore (i := 5) (L' := [some (dk_r G 4 60), some (.int x1), some (.int x2), some (.int x3), some (.int x4), some (.int y0), none]) C dX9_setEffect_39 (n := 41) rfl (dk_nc_of rfl) (Nat.le_of_ble_eq_true rfl) rfl ?_
  refine dk_aload_n (i := 0) C dX9_setEffect_41 (n := 42) rfl rfl rfl ?_
  refine dk_iload C dX9_setEffect_42 (n := 44) rfl (i := 5) rfl ?_
  refine dk_if_ne (t := 51) C dX9_setEffect_44 (n := 47) rfl (by decide) (fun c16 => ?_) (fun c16 => ?_)
  · have h := h.1 c16
    refine dk_aload_n (i := 0) C dX9_setEffect_51 (n := 52) rfl rfl rfl ?_
    refine dk_callVi C [dk_r G 4 60] (cc_X9_isOn C.D hmi h) yy_X9_isOn dk_wm_X9_145 dk_sh60 (hmi 60 (by decide) (by decide)) dX9_setEffect_52 (fun r14 s13 h => ?_) rfl rfl ⟨Nat.le_of_ble_eq_true rfl, Nat.le_of_ble_eq_true rfl⟩ rfl (Nat.le_of_ble_eq_true rfl) rfl (n := 55) rfl
    refine dk_if_eq (t := 62) C dX9_setEffect_55 (n := 58) rfl (by decide) (fun c15 => ?_) (fun c15 => ?_)
    · have h := h.1 c15
      refine dk_iconst (v := 0) C dX9_setEffect_62 (n := 63) rfl (by decide) ?_
      refine dk_sub (L0 := [some (dk_r G 4 60), some (.int x1), some (.int x2), some (.int x3), some (.int x4), none, none]) ⟨rfl, ⟨rfl, ⟨rfl, ⟨rfl, ⟨rfl, trivial⟩⟩⟩⟩⟩ ?_
      exact ww_X9_setEffect_63 C hr hlk hmi  x1 x2 x3 x4 0 s13 h
    · have h := h.2 c15
      refine dk_iconst (v := 2) C dX9_setEffect_58 (n := 59) rfl (by decide) ?_
      refine dk_goto (t := 63) C dX9_setEffect_59 (by decide) ?_
      refine dk_sub (L0 := [some (dk_r G 4 60), some (.int x1), some (.int x2), some (.int x3), some (.int x4), none, none]) ⟨rfl, ⟨rfl, ⟨rfl, ⟨rfl, ⟨rfl, trivial⟩⟩⟩⟩⟩ ?_
      exact ww_X9_setEffect_63 C hr hlk hmi  x1 x2 x3 x4 2 s13 h
  · have h := h.2 c16
    refine dk_iconst (v := 1) C dX9_setEffect_47 (n := 48) rfl (by decide) ?_
    refine dk_goto (t := 63) C dX9_setEffect_48 (by decide) ?_
    refine dk_sub (L0 := [some (dk_r G 4 60), some (.int x1), some (.int x2), some (.int x3), some (.int x4), none, none]) ⟨rfl, ⟨rfl, ⟨rfl, ⟨rfl, ⟨rfl, trivial⟩⟩⟩⟩⟩ ?_
    exact ww_X9_setEffect_63 C hr hlk hmi  x1 x2 x3 x4 1 s h
set_option maxRecDepth 20000 in
set_option maxHeartbeats 4000000 in
theorem cc_X9_setEffect {G : dk_G} {l : Launch} {a1 : Int32} {a2 : Int32} {a3 : Int32} {a4 : Int32} (hD : dk_D G) (hmi : dk_MI G) {s : dk_S} {K : Int32 → dk_S → Prop} (h : wf_X9_setEffect a1 a2 a3 a4 s K) : dk_M G l 3 yX9_setEffect cX9_setEffect 7 (some .char) [dk_r G 4 60, .int a1, .int a2, .int a3, .int a4] s (dk_ki K) := by
  refine dk_of hD (by decide) [some (dk_r G 4 60), some (.int a1), some (.int a2), some (.int a3), some (.int a4), none, none] (fun q hq => hq) rfl (Nat.le_of_ble_eq_true rfl) (fun P e S0 m args bel meth c C hr hlk => ?_)
  unfold wf_X9_setEffect at h
  refine dk_iload_n (i := 1) C dX9_setEffect_0 (n := 1) rfl rfl rfl ?_
  refine dk_callSi C [] (cc_X9_isPotion C.D  h) yy_X9_isPotion dk_wm_X9_156 dX9_setEffect_1 (fun r2 s1 h => ?_) rfl ⟨Nat.le_of_ble_eq_true rfl, Nat.le_of_ble_eq_true rfl⟩ rfl (Nat.le_of_ble_eq_true rfl) rfl (n := 4) rfl
  refine dk_if_eq (t := 38) C dX9_setEffect_4 (n := 7) rfl (by decide) (fun c12 => ?_) (fun c12 => ?_)
  · have h := h.1 c12
    refine dk_iconst (v := 0) C dX9_setEffect_38 (n := 39) rfl (by decide) ?_
    refine dk_sub (L0 := [some (dk_r G 4 60), some (.int a1), some (.int a2), some (.int a3), some (.int a4), none, none]) ⟨rfl, ⟨rfl, ⟨rfl, ⟨rfl, ⟨rfl, trivial⟩⟩⟩⟩⟩ ?_
    exact ww_X9_setEffect_39 C hr hlk hmi  a1 a2 a3 a4 0 s1 h
  · have h := h.2 c12
    refine dk_iload_n (i := 2) C dX9_setEffect_7 (n := 8) rfl rfl rfl ?_
    refine dk_callSi C [] (cc_X9_isEffect C.D  h) yy_X9_isEffect dk_wm_X9_159 dX9_setEffect_8 (fun r4 s3 h => ?_) rfl ⟨Nat.le_of_ble_eq_true rfl, Nat.le_of_ble_eq_true rfl⟩ rfl (Nat.le_of_ble_eq_true rfl) rfl (n := 11) rfl
    refine dk_if_eq (t := 38) C dX9_setEffect_11 (n := 14) rfl (by decide) (fun c11 => ?_) (fun c11 => ?_)
    · have h := h.1 c11
      refine dk_iconst (v := 0) C dX9_setEffect_38 (n := 39) rfl (by decide) ?_
      refine dk_sub (L0 := [some (dk_r G 4 60), some (.int a1), some (.int a2), some (.int a3), some (.int a4), none, none]) ⟨rfl, ⟨rfl, ⟨rfl, ⟨rfl, ⟨rfl, trivial⟩⟩⟩⟩⟩ ?_
      exact ww_X9_setEffect_39 C hr hlk hmi  a1 a2 a3 a4 0 s3 h
    · have h := h.2 c11
      refine dk_iload_n (i := 3) C dX9_setEffect_14 (n := 15) rfl rfl rfl ?_
      refine dk_iconst (v := 1) C dX9_setEffect_15 (n := 16) rfl (by decide) ?_
      refine dk_bipush (v := 20) C dX9_setEffect_16 (n := 18) rfl (by decide) ?_
      refine dk_callSi C [] (cc_X9_in C.D  h) yy_X9_in dk_wm_X9_110 dX9_setEffect_18 (fun r6 s5 h => ?_) rfl ⟨Nat.le_of_ble_eq_true rfl, Nat.le_of_ble_eq_true rfl⟩ rfl (Nat.le_of_ble_eq_true rfl) rfl (n := 21) rfl
      refine dk_if_eq (t := 38) C dX9_setEffect_21 (n := 24) rfl (by decide) (fun c10 => ?_) (fun c10 => ?_)
      · have h := h.1 c10
        refine dk_iconst (v := 0) C dX9_setEffect_38 (n := 39) rfl (by decide) ?_
        refine dk_sub (L0 := [some (dk_r G 4 60), some (.int a1), some (.int a2), some (.int a3), some (.int a4), none, none]) ⟨rfl, ⟨rfl, ⟨rfl, ⟨rfl, ⟨rfl, trivial⟩⟩⟩⟩⟩ ?_
        exact ww_X9_setEffect_39 C hr hlk hmi  a1 a2 a3 a4 0 s5 h
      · have h := h.2 c10
        refine dk_iload C dX9_setEffect_24 (n := 26) rfl (i := 4) rfl ?_
        refine dk_iconst (v := 0) C dX9_setEffect_26 (n := 27) rfl (by decide) ?_
        refine dk_iconst (v := 3) C dX9_setEffect_27 (n := 28) rfl (by decide) ?_
        refine dk_callSi C [] (cc_X9_in C.D  h) yy_X9_in dk_wm_X9_110 dX9_setEffect_28 (fun r8 s7 h => ?_) rfl ⟨Nat.le_of_ble_eq_true rfl, Nat.le_of_ble_eq_true rfl⟩ rfl (Nat.le_of_ble_eq_true rfl) rfl (n := 31) rfl
        refine dk_if_eq (t := 38) C dX9_setEffect_31 (n := 34) rfl (by decide) (fun c9 => ?_) (fun c9 => ?_)
        · have h := h.1 c9
          refine dk_iconst (v := 0) C dX9_setEffect_38 (n := 39) rfl (by decide) ?_
          refine dk_sub (L0 := [some (dk_r G 4 60), some (.int a1), some (.int a2), some (.int a3), some (.int a4), none, none]) ⟨rfl, ⟨rfl, ⟨rfl, ⟨rfl, ⟨rfl, trivial⟩⟩⟩⟩⟩ ?_
          exact ww_X9_setEffect_39 C hr hlk hmi  a1 a2 a3 a4 0 s7 h
        · have h := h.2 c9
          refine dk_iconst (v := 1) C dX9_setEffect_34 (n := 35) rfl (by decide) ?_
          refine dk_goto (t := 39) C dX9_setEffect_35 (by decide) ?_
          refine dk_sub (L0 := [some (dk_r G 4 60), some (.int a1), some (.int a2), some (.int a3), some (.int a4), none, none]) ⟨rfl, ⟨rfl, ⟨rfl, ⟨rfl, ⟨rfl, trivial⟩⟩⟩⟩⟩ ?_
          exact ww_X9_setEffect_39 C hr hlk hmi  a1 a2 a3 a4 1 s7 h
/-! X9_setHero -/
def wf_X9_setHero_50  (K : Int32 → dk_S → Prop) (x1 : Int32) (x2 : Int32) (x3 : Int32) (x4 : Int32) (y0 : Int32) (s : dk_S) : Prop :=
  wf_X9_goesOn y0 s (fun r14 s13 => ((¬ r14 = 0 → (vp_in 0 8 ∧ ∀ v15 : Int32, v15 = s13 4 70 0.toNatClampNeg → wf_X9_at x1 x2 s13 (fun r17 s16 => (vp_in 0 8 ∧ (∀ s18 : dk_S, s18 = dk_row s16 4 67 (upd (s16 4 67) 0.toNatClampNeg r17) → (vp_in 0 8 ∧ (∀ s19 : dk_S, s19 = dk_row s18 4 68 (upd (s18 4 68) 0.toNatClampNeg x3) → (vp_in 0 8 ∧ (∀ s20 : dk_S, s20 = dk_row s19 4 70 (upd (s19 4 70) 0.toNatClampNeg x4) → wf_X9_tells s20 (fun s21 => K v15 s21)))))))))) ∧ (r14 = 0 → K 0 s13)))
def wf_X9_setHero (a1 : Int32) (a2 : Int32) (a3 : Int32) (a4 : Int32) (s : dk_S) (K : Int32 → dk_S → Prop) : Prop :=
  wf_X9_isPlace a1 a2 s (fun r2 s1 => ((¬ r2 = 0 → wf_X9_in a3 1 24 s1 (fun r4 s3 => ((r4 = 0 → wf_X9_setHero_50 K a1 a2 a3 a4 2 s3) ∧ (¬ r4 = 0 → wf_X9_in a4 1 99 s3 (fun r6 s5 => ((¬ r6 = 0 → wf_X9_isOn s5 (fun r8 s7 => ((r8 = 0 → wf_X9_setHero_50 K a1 a2 a3 a4 0 s7) ∧ (¬ r8 = 0 → wf_X9_setHero_50 K a1 a2 a3 a4 3 s7)))) ∧ (r6 = 0 → wf_X9_setHero_50 K a1 a2 a3 a4 2 s5))))))) ∧ (r2 = 0 → wf_X9_setHero_50 K a1 a2 a3 a4 1 s1)))
set_option maxRecDepth 20000 in
set_option maxHeartbeats 4000000 in
theorem ww_X9_setHero_50 {G : dk_G} {P : Program} {l : Launch} {e : Env} {S0 : State} {m : MethodId} {args : Array Value} {bel : List Frame} {meth : Method} {c : Code}  (C : dk_C G P (dk_rm 3) S0 m args c 0 0 cX9_setHero 6 RX9) (hr : meth.sig.returnType = (some .int)) (hlk : meth.locks = false) (hmi : dk_MI G) {K : Int32 → dk_S → Prop}  : ∀ (x1 : Int32) (x2 : Int32) (x3 : Int32) (x4 : Int32) (y0 : Int32) (s : dk_S), wf_X9_setHero_50 K x1 x2 x3 x4 y0 s → dk_W G P l e (dk_rm 3) S0 m args bel meth c 0 0 (MQ bel (dk_Qc G (dk_ki K)) args S0 0 0 (dk_A G)) 50 [some (dk_r G 4 60), some (.int x1), some (.int x2), some (.int x3), some (.int x4), none] [.int y0, dk_r G 4 60] s := by
  intro x1 x2 x3 x4 y0 s h
  unfold wf_X9_setHero_50 at h
  refine dk_callVi C [] (cc_X9_goesOn C.D hmi h) yy_X9_goesOn dk_wm_X9_149 dk_sh60 (hmi 60 (by decide) (by decide)) dX9_setHero_50 (fun r14 s13 h => ?_) rfl rfl ⟨Nat.le_of_ble_eq_true rfl, Nat.le_of_ble_eq_true rfl⟩ rfl (Nat.le_of_ble_eq_true rfl) rfl (n := 53) rfl
  refine dk_if_ne (t := 58) C dX9_setHero_53 (n := 56) rfl (by decide) (fun c22 => ?_) (fun c22 => ?_)
  · have h := h.1 c22
    refine dk_aload_n (i := 0) C dX9_setHero_58 (n := 59) rfl rfl rfl ?_
    refine gf_X9_47 C (hmi 60 (by decide) (by decide)) dX9_setHero_59 (n := 62) rfl ?_
    refine dk_iconst (v := 0) C dX9_setHero_62 (n := 63) rfl (by decide) ?_
    refine dk_iald C dk_sh70 h.1 (hmi 70 (by decide) (by decide)) dX9_setHero_63 (n := 64) rfl ?_
    have h := h.2
    refine dk_name (fun v15 ev15 => ?_)
    have h := h v15 ev15
    refine dk_istore (i := 5) (L' := [some (dk_r G 4 60), some (.int x1), some (.int x2), some (.int x3), some (.int x4), some (.int v15)]) C dX9_setHero_64 (n := 66) rfl (dk_nc_of rfl) (Nat.le_of_ble_eq_true rfl) rfl ?_
    refine dk_aload_n (i := 0) C dX9_setHero_66 (n := 67) rfl rfl rfl ?_
    refine gf_X9_38 C (hmi 60 (by decide) (by decide)) dX9_setHero_67 (n := 70) rfl ?_
    refine dk_iconst (v := 0) C dX9_setHero_70 (n := 71) rfl (by decide) ?_
    refine dk_iload_n (i := 1) C dX9_setHero_71 (n := 72) rfl rfl rfl ?_
    refine dk_iload_n (i := 2) C dX9_setHero_72 (n := 73) rfl rfl rfl ?_
    refine dk_callSi C [.int 0, dk_r G 4 67] (cc_X9_at C.D  h) yy_X9_at dk_wm_X9_125 dX9_setHero_73 (fun r17 s16 h => ?_) rfl ⟨Nat.le_of_ble_eq_true rfl, Nat.le_of_ble_eq_true rfl⟩ rfl (Nat.le_of_ble_eq_true rfl) rfl (n := 76) rfl
    refine dk_iast C dk_sh67 h.1 (hmi 67 (by decide) (by decide)) dX9_setHero_76 (n := 77) rfl ?_
    refine dk_nameS (fun s18 es18 => ?_)
    have h := h.2 s18 es18
    refine dk_aload_n (i := 0) C dX9_setHero_77 (n := 78) rfl rfl rfl ?_
    refine gf_X9_41 C (hmi 60 (by decide) (by decide)) dX9_setHero_78 (n := 81) rfl ?_
    refine dk_iconst (v := 0) C dX9_setHero_81 (n := 82) rfl (by decide) ?_
    refine dk_iload_n (i := 3) C dX9_setHero_82 (n := 83) rfl rfl rfl ?_
    refine dk_iast C dk_sh68 h.1 (hmi 68 (by decide) (by decide)) dX9_setHero_83 (n := 84) rfl ?_
    refine dk_nameS (fun s19 es19 => ?_)
    have h := h.2 s19 es19
    refine dk_aload_n (i := 0) C dX9_setHero_84 (n := 85) rfl rfl rfl ?_
    refine gf_X9_47 C (hmi 60 (by decide) (by decide)) dX9_setHero_85 (n := 88) rfl ?_
    refine dk_iconst (v := 0) C dX9_setHero_88 (n := 89) rfl (by decide) ?_
    refine dk_iload C dX9_setHero_89 (n := 91) rfl (i := 4) rfl ?_
    refine dk_iast C dk_sh70 h.1 (hmi 70 (by decide) (by decide)) dX9_setHero_91 (n := 92) rfl ?_
    refine dk_nameS (fun s20 es20 => ?_)
    have h := h.2 s20 es20
    refine dk_aload_n (i := 0) C dX9_setHero_92 (n := 93) rfl rfl rfl ?_
    refine dk_callVv C [] (cc_X9_tells C.D hmi h) yy_X9_tells dk_wm_X9_153 dk_sh60 (hmi 60 (by decide) (by decide)) dX9_setHero_93 (fun s21 h => ?_) rfl rfl ⟨Nat.le_of_ble_eq_true rfl, Nat.le_of_ble_eq_true rfl⟩ rfl (Nat.le_of_ble_eq_true rfl) rfl (n := 96) rfl
    refine dk_iload C dX9_setHero_96 (n := 98) rfl (i := 5) rfl ?_
    exact dk_iret C hr hlk rfl dX9_setHero_98 ⟨_, rfl, h⟩
  · have h := h.2 c22
    refine dk_iconst (v := 0) C dX9_setHero_56 (n := 57) rfl (by decide) ?_
    exact dk_iret C hr hlk rfl dX9_setHero_57 ⟨_, rfl, h⟩
set_option maxRecDepth 20000 in
set_option maxHeartbeats 4000000 in
theorem cc_X9_setHero {G : dk_G} {l : Launch} {a1 : Int32} {a2 : Int32} {a3 : Int32} {a4 : Int32} (hD : dk_D G) (hmi : dk_MI G) {s : dk_S} {K : Int32 → dk_S → Prop} (h : wf_X9_setHero a1 a2 a3 a4 s K) : dk_M G l 3 yX9_setHero cX9_setHero 6 (some .int) [dk_r G 4 60, .int a1, .int a2, .int a3, .int a4] s (dk_ki K) := by
  refine dk_of hD (by decide) [some (dk_r G 4 60), some (.int a1), some (.int a2), some (.int a3), some (.int a4), none] (fun q hq => hq) rfl (Nat.le_of_ble_eq_true rfl) (fun P e S0 m args bel meth c C hr hlk => ?_)
  unfold wf_X9_setHero at h
  refine dk_aload_n (i := 0) C dX9_setHero_0 (n := 1) rfl rfl rfl ?_
  refine dk_iload_n (i := 1) C dX9_setHero_1 (n := 2) rfl rfl rfl ?_
  refine dk_iload_n (i := 2) C dX9_setHero_2 (n := 3) rfl rfl rfl ?_
  refine dk_callSi C [dk_r G 4 60] (cc_X9_isPlace C.D  h) yy_X9_isPlace dk_wm_X9_121 dX9_setHero_3 (fun r2 s1 h => ?_) rfl ⟨Nat.le_of_ble_eq_true rfl, Nat.le_of_ble_eq_true rfl⟩ rfl (Nat.le_of_ble_eq_true rfl) rfl (n := 6) rfl
  refine dk_if_ne (t := 13) C dX9_setHero_6 (n := 9) rfl (by decide) (fun c12 => ?_) (fun c12 => ?_)
  · have h := h.1 c12
    refine dk_iload_n (i := 3) C dX9_setHero_13 (n := 14) rfl rfl rfl ?_
    refine dk_iconst (v := 1) C dX9_setHero_14 (n := 15) rfl (by decide) ?_
    refine dk_bipush (v := 24) C dX9_setHero_15 (n := 17) rfl (by decide) ?_
    refine dk_callSi C [dk_r G 4 60] (cc_X9_in C.D  h) yy_X9_in dk_wm_X9_110 dX9_setHero_17 (fun r4 s3 h => ?_) rfl ⟨Nat.le_of_ble_eq_true rfl, Nat.le_of_ble_eq_true rfl⟩ rfl (Nat.le_of_ble_eq_true rfl) rfl (n := 20) rfl
    refine dk_if_eq (t := 34) C dX9_setHero_20 (n := 23) rfl (by decide) (fun c11 => ?_) (fun c11 => ?_)
    · have h := h.1 c11
      refine dk_iconst (v := 2) C dX9_setHero_34 (n := 35) rfl (by decide) ?_
      refine dk_goto (t := 50) C dX9_setHero_35 (by decide) ?_
      refine dk_sub (L0 := [some (dk_r G 4 60), some (.int a1), some (.int a2), some (.int a3), some (.int a4), none]) ⟨rfl, ⟨rfl, ⟨rfl, ⟨rfl, ⟨rfl, trivial⟩⟩⟩⟩⟩ ?_
      exact ww_X9_setHero_50 C hr hlk hmi  a1 a2 a3 a4 2 s3 h
    · have h := h.2 c11
      refine dk_iload C dX9_setHero_23 (n := 25) rfl (i := 4) rfl ?_
      refine dk_iconst (v := 1) C dX9_setHero_25 (n := 26) rfl (by decide) ?_
      refine dk_bipush (v := 99) C dX9_setHero_26 (n := 28) rfl (by decide) ?_
      refine dk_callSi C [dk_r G 4 60] (cc_X9_in C.D  h) yy_X9_in dk_wm_X9_110 dX9_setHero_28 (fun r6 s5 h => ?_) rfl ⟨Nat.le_of_ble_eq_true rfl, Nat.le_of_ble_eq_true rfl⟩ rfl (Nat.le_of_ble_eq_true rfl) rfl (n := 31) rfl
      refine dk_if_ne (t := 38) C dX9_setHero_31 (n := 34) rfl (by decide) (fun c10 => ?_) (fun c10 => ?_)
      · have h := h.1 c10
        refine dk_aload_n (i := 0) C dX9_setHero_38 (n := 39) rfl rfl rfl ?_
        refine dk_callVi C [dk_r G 4 60] (cc_X9_isOn C.D hmi h) yy_X9_isOn dk_wm_X9_145 dk_sh60 (hmi 60 (by decide) (by decide)) dX9_setHero_39 (fun r8 s7 h => ?_) rfl rfl ⟨Nat.le_of_ble_eq_true rfl, Nat.le_of_ble_eq_true rfl⟩ rfl (Nat.le_of_ble_eq_true rfl) rfl (n := 42) rfl
        refine dk_if_eq (t := 49) C dX9_setHero_42 (n := 45) rfl (by decide) (fun c9 => ?_) (fun c9 => ?_)
        · have h := h.1 c9
          refine dk_iconst (v := 0) C dX9_setHero_49 (n := 50) rfl (by decide) ?_
          refine dk_sub (L0 := [some (dk_r G 4 60), some (.int a1), some (.int a2), some (.int a3), some (.int a4), none]) ⟨rfl, ⟨rfl, ⟨rfl, ⟨rfl, ⟨rfl, trivial⟩⟩⟩⟩⟩ ?_
          exact ww_X9_setHero_50 C hr hlk hmi  a1 a2 a3 a4 0 s7 h
        · have h := h.2 c9
          refine dk_iconst (v := 3) C dX9_setHero_45 (n := 46) rfl (by decide) ?_
          refine dk_goto (t := 50) C dX9_setHero_46 (by decide) ?_
          refine dk_sub (L0 := [some (dk_r G 4 60), some (.int a1), some (.int a2), some (.int a3), some (.int a4), none]) ⟨rfl, ⟨rfl, ⟨rfl, ⟨rfl, ⟨rfl, trivial⟩⟩⟩⟩⟩ ?_
          exact ww_X9_setHero_50 C hr hlk hmi  a1 a2 a3 a4 3 s7 h
      · have h := h.2 c10
        refine dk_iconst (v := 2) C dX9_setHero_34 (n := 35) rfl (by decide) ?_
        refine dk_goto (t := 50) C dX9_setHero_35 (by decide) ?_
        refine dk_sub (L0 := [some (dk_r G 4 60), some (.int a1), some (.int a2), some (.int a3), some (.int a4), none]) ⟨rfl, ⟨rfl, ⟨rfl, ⟨rfl, ⟨rfl, trivial⟩⟩⟩⟩⟩ ?_
        exact ww_X9_setHero_50 C hr hlk hmi  a1 a2 a3 a4 2 s5 h
  · have h := h.2 c12
    refine dk_iconst (v := 1) C dX9_setHero_9 (n := 10) rfl (by decide) ?_
    refine dk_goto (t := 50) C dX9_setHero_10 (by decide) ?_
    refine dk_sub (L0 := [some (dk_r G 4 60), some (.int a1), some (.int a2), some (.int a3), some (.int a4), none]) ⟨rfl, ⟨rfl, ⟨rfl, ⟨rfl, ⟨rfl, trivial⟩⟩⟩⟩⟩ ?_
    exact ww_X9_setHero_50 C hr hlk hmi  a1 a2 a3 a4 1 s1 h
/-! X9_addBeast -/
def wf_X9_addBeast_82  (K : Int32 → dk_S → Prop) (x1 : Int32) (x2 : Int32) (x3 : Int32) (x4 : Int32) (x5 : Int32) (y0 : Int32) (s : dk_S) : Prop :=
  wf_X9_goesOn y0 s (fun r19 s18 => ((¬ r19 = 0 → wf_X9_at x1 x2 s18 (fun r21 s20 => (vp_in (s18 4 60 10) 8 ∧ (∀ s22 : dk_S, s22 = dk_row s20 4 67 (upd (s20 4 67) (s18 4 60 10).toNatClampNeg r21) → (vp_in (s22 4 60 10) 8 ∧ (∀ s23 : dk_S, s23 = dk_row s22 4 68 (upd (s22 4 68) (s22 4 60 10).toNatClampNeg x3) → (vp_in (s23 4 60 10) 8 ∧ (∀ s24 : dk_S, s24 = dk_row s23 4 69 (upd (s23 4 69) (s23 4 60 10).toNatClampNeg x4) → (vp_in (s24 4 60 10) 8 ∧ (∀ s25 : dk_S, s25 = dk_row s24 4 70 (upd (s24 4 70) (s24 4 60 10).toNatClampNeg x5) → ∀ s26 : dk_S, s26 = dk_row s25 4 60 (upd (s25 4 60) 10 ((s25 4 60 10) + 1)) → wf_X9_tells s26 (fun s27 => K ((s27 4 60 10) - 1) s27))))))))))) ∧ (r19 = 0 → K 0 s18)))
def wf_X9_addBeast_37  (K : Int32 → dk_S → Prop) (x1 : Int32) (x2 : Int32) (x3 : Int32) (x4 : Int32) (x5 : Int32) (y0 : Int32) (s : dk_S) : Prop :=
  wf_X9_isPlace x1 x2 s (fun r11 s10 => ((¬ r11 = 0 → ((¬ y0 = 0 → wf_X9_isOn s10 (fun r13 s12 => ((¬ r13 = 0 → wf_X9_addBeast_82 K x1 x2 x3 x4 x5 3 s12) ∧ (r13 = 0 → ((¬ (s12 4 60 10) = 8 → wf_X9_addBeast_82 K x1 x2 x3 x4 x5 0 s12) ∧ ((s12 4 60 10) = 8 → wf_X9_addBeast_82 K x1 x2 x3 x4 x5 3 s12)))))) ∧ (y0 = 0 → wf_X9_addBeast_82 K x1 x2 x3 x4 x5 2 s10))) ∧ (r11 = 0 → wf_X9_addBeast_82 K x1 x2 x3 x4 x5 1 s10)))
def wf_X9_addBeast (a1 : Int32) (a2 : Int32) (a3 : Int32) (a4 : Int32) (a5 : Int32) (s : dk_S) (K : Int32 → dk_S → Prop) : Prop :=
  wf_X9_in a3 1 24 s (fun r2 s1 => ((r2 = 0 → wf_X9_addBeast_37 K a1 a2 a3 a4 a5 0 s1) ∧ (¬ r2 = 0 → wf_X9_in a4 0 9 s1 (fun r4 s3 => ((r4 = 0 → wf_X9_addBeast_37 K a1 a2 a3 a4 a5 0 s3) ∧ (¬ r4 = 0 → wf_X9_in a5 1 30 s3 (fun r6 s5 => ((r6 = 0 → wf_X9_addBeast_37 K a1 a2 a3 a4 a5 0 s5) ∧ (¬ r6 = 0 → wf_X9_addBeast_37 K a1 a2 a3 a4 a5 1 s5)))))))))
set_option maxRecDepth 20000 in
set_option maxHeartbeats 4000000 in
theorem ww_X9_addBeast_82 {G : dk_G} {P : Program} {l : Launch} {e : Env} {S0 : State} {m : MethodId} {args : Array Value} {bel : List Frame} {meth : Method} {c : Code}  (C : dk_C G P (dk_rm 3) S0 m args c 0 0 cX9_addBeast 7 RX9) (hr : meth.sig.returnType = (some .int)) (hlk : meth.locks = false) (hmi : dk_MI G) {K : Int32 → dk_S → Prop}  : ∀ (x1 : Int32) (x2 : Int32) (x3 : Int32) (x4 : Int32) (x5 : Int32) (y0 : Int32) (s : dk_S), wf_X9_addBeast_82 K x1 x2 x3 x4 x5 y0 s → dk_W G P l e (dk_rm 3) S0 m args bel meth c 0 0 (MQ bel (dk_Qc G (dk_ki K)) args S0 0 0 (dk_A G)) 82 [some (dk_r G 4 60), some (.int x1), some (.int x2), some (.int x3), some (.int x4), some (.int x5), none] [.int y0, dk_r G 4 60] s := by
  intro x1 x2 x3 x4 x5 y0 s h
  unfold wf_X9_addBeast_82 at h
  refine dk_callVi C [] (cc_X9_goesOn C.D hmi h) yy_X9_goesOn dk_wm_X9_149 dk_sh60 (hmi 60 (by decide) (by decide)) dX9_addBeast_82 (fun r19 s18 h => ?_) rfl rfl ⟨Nat.le_of_ble_eq_true rfl, Nat.le_of_ble_eq_true rfl⟩ rfl (Nat.le_of_ble_eq_true rfl) rfl (n := 85) rfl
  refine dk_if_ne (t := 90) C dX9_addBeast_85 (n := 88) rfl (by decide) (fun c28 => ?_) (fun c28 => ?_)
  · have h := h.1 c28
    refine dk_aload_n (i := 0) C dX9_addBeast_90 (n := 91) rfl rfl rfl ?_
    refine gf_X9_38 C (hmi 60 (by decide) (by decide)) dX9_addBeast_91 (n := 94) rfl ?_
    refine dk_aload_n (i := 0) C dX9_addBeast_94 (n := 95) rfl rfl rfl ?_
    refine gf_X9_34 C (hmi 60 (by decide) (by decide)) dX9_addBeast_95 (n := 98) rfl ?_
    refine dk_iload_n (i := 1) C dX9_addBeast_98 (n := 99) rfl rfl rfl ?_
    refine dk_iload_n (i := 2) C dX9_addBeast_99 (n := 100) rfl rfl rfl ?_
    refine dk_callSi C [.int (s18 4 60 10), dk_r G 4 67] (cc_X9_at C.D  h) yy_X9_at dk_wm_X9_125 dX9_addBeast_100 (fun r21 s20 h => ?_) rfl ⟨Nat.le_of_ble_eq_true rfl, Nat.le_of_ble_eq_true rfl⟩ rfl (Nat.le_of_ble_eq_true rfl) rfl (n := 103) rfl
    refine dk_iast C dk_sh67 h.1 (hmi 67 (by decide) (by decide)) dX9_addBeast_103 (n := 104) rfl ?_
    refine dk_nameS (fun s22 es22 => ?_)
    have h := h.2 s22 es22
    refine dk_aload_n (i := 0) C dX9_addBeast_104 (n := 105) rfl rfl rfl ?_
    refine gf_X9_41 C (hmi 60 (by decide) (by decide)) dX9_addBeast_105 (n := 108) rfl ?_
    refine dk_aload_n (i := 0) C dX9_addBeast_108 (n := 109) rfl rfl rfl ?_
    refine gf_X9_34 C (hmi 60 (by decide) (by decide)) dX9_addBeast_109 (n := 112) rfl ?_
    refine dk_iload_n (i := 3) C dX9_addBeast_112 (n := 113) rfl rfl rfl ?_
    refine dk_iast C dk_sh68 h.1 (hmi 68 (by decide) (by decide)) dX9_addBeast_113 (n := 114) rfl ?_
    refine dk_nameS (fun s23 es23 => ?_)
    have h := h.2 s23 es23
    refine dk_aload_n (i := 0) C dX9_addBeast_114 (n := 115) rfl rfl rfl ?_
    refine gf_X9_44 C (hmi 60 (by decide) (by decide)) dX9_addBeast_115 (n := 118) rfl ?_
    refine dk_aload_n (i := 0) C dX9_addBeast_118 (n := 119) rfl rfl rfl ?_
    refine gf_X9_34 C (hmi 60 (by decide) (by decide)) dX9_addBeast_119 (n := 122) rfl ?_
    refine dk_iload C dX9_addBeast_122 (n := 124) rfl (i := 4) rfl ?_
    refine dk_iast C dk_sh69 h.1 (hmi 69 (by decide) (by decide)) dX9_addBeast_124 (n := 125) rfl ?_
    refine dk_nameS (fun s24 es24 => ?_)
    have h := h.2 s24 es24
    refine dk_aload_n (i := 0) C dX9_addBeast_125 (n := 126) rfl rfl rfl ?_
    refine gf_X9_47 C (hmi 60 (by decide) (by decide)) dX9_addBeast_126 (n := 129) rfl ?_
    refine dk_aload_n (i := 0) C dX9_addBeast_129 (n := 130) rfl rfl rfl ?_
    refine gf_X9_34 C (hmi 60 (by decide) (by decide)) dX9_addBeast_130 (n := 133) rfl ?_
    refine dk_iload C dX9_addBeast_133 (n := 135) rfl (i := 5) rfl ?_
    refine dk_iast C dk_sh70 h.1 (hmi 70 (by decide) (by decide)) dX9_addBeast_135 (n := 136) rfl ?_
    refine dk_nameS (fun s25 es25 => ?_)
    have h := h.2 s25 es25
    refine dk_aload_n (i := 0) C dX9_addBeast_136 (n := 137) rfl rfl rfl ?_
    refine dk_dup C dX9_addBeast_137 (n := 138) rfl rfl ?_
    refine gf_X9_34 C (hmi 60 (by decide) (by decide)) dX9_addBeast_138 (n := 141) rfl ?_
    refine dk_iconst (v := 1) C dX9_addBeast_141 (n := 142) rfl (by decide) ?_
    refine dk_iadd C dX9_addBeast_142 (n := 143) rfl ?_
    refine pf_X9_34 C rfl rfl (hmi 60 (by decide) (by decide)) dX9_addBeast_143 (n := 146) rfl ?_
    refine dk_nameS (fun s26 es26 => ?_)
    have h := h s26 es26
    refine dk_aload_n (i := 0) C dX9_addBeast_146 (n := 147) rfl rfl rfl ?_
    refine dk_callVv C [] (cc_X9_tells C.D hmi h) yy_X9_tells dk_wm_X9_153 dk_sh60 (hmi 60 (by decide) (by decide)) dX9_addBeast_147 (fun s27 h => ?_) rfl rfl ⟨Nat.le_of_ble_eq_true rfl, Nat.le_of_ble_eq_true rfl⟩ rfl (Nat.le_of_ble_eq_true rfl) rfl (n := 150) rfl
    refine dk_aload_n (i := 0) C dX9_addBeast_150 (n := 151) rfl rfl rfl ?_
    refine gf_X9_34 C (hmi 60 (by decide) (by decide)) dX9_addBeast_151 (n := 154) rfl ?_
    refine dk_iconst (v := 1) C dX9_addBeast_154 (n := 155) rfl (by decide) ?_
    refine dk_isub C dX9_addBeast_155 (n := 156) rfl ?_
    exact dk_iret C hr hlk rfl dX9_addBeast_156 ⟨_, rfl, h⟩
  · have h := h.2 c28
    refine dk_iconst (v := 0) C dX9_addBeast_88 (n := 89) rfl (by decide) ?_
    exact dk_iret C hr hlk rfl dX9_addBeast_89 ⟨_, rfl, h⟩
set_option maxRecDepth 20000 in
set_option maxHeartbeats 4000000 in
theorem ww_X9_addBeast_37 {G : dk_G} {P : Program} {l : Launch} {e : Env} {S0 : State} {m : MethodId} {args : Array Value} {bel : List Frame} {meth : Method} {c : Code}  (C : dk_C G P (dk_rm 3) S0 m args c 0 0 cX9_addBeast 7 RX9) (hr : meth.sig.returnType = (some .int)) (hlk : meth.locks = false) (hmi : dk_MI G) {K : Int32 → dk_S → Prop}  : ∀ (x1 : Int32) (x2 : Int32) (x3 : Int32) (x4 : Int32) (x5 : Int32) (y0 : Int32) (s : dk_S), wf_X9_addBeast_37 K x1 x2 x3 x4 x5 y0 s → dk_W G P l e (dk_rm 3) S0 m args bel meth c 0 0 (MQ bel (dk_Qc G (dk_ki K)) args S0 0 0 (dk_A G)) 37 [some (dk_r G 4 60), some (.int x1), some (.int x2), some (.int x3), some (.int x4), some (.int x5), none] [.int y0] s := by
  intro x1 x2 x3 x4 x5 y0 s h
  unfold wf_X9_addBeast_37 at h
  refine dk_istore (i := 6) (L' := [some (dk_r G 4 60), some (.int x1), some (.int x2), some (.int x3), some (.int x4), some (.int x5), some (.int y0)]) C dX9_addBeast_37 (n := 39) rfl (dk_nc_of rfl) (Nat.le_of_ble_eq_true rfl) rfl ?_
  refine dk_aload_n (i := 0) C dX9_addBeast_39 (n := 40) rfl rfl rfl ?_
  refine dk_iload_n (i := 1) C dX9_addBeast_40 (n := 41) rfl rfl rfl ?_
  refine dk_iload_n (i := 2) C dX9_addBeast_41 (n := 42) rfl rfl rfl ?_
  refine dk_callSi C [dk_r G 4 60] (cc_X9_isPlace C.D  h) yy_X9_isPlace dk_wm_X9_121 dX9_addBeast_42 (fun r11 s10 h => ?_) rfl ⟨Nat.le_of_ble_eq_true rfl, Nat.le_of_ble_eq_true rfl⟩ rfl (Nat.le_of_ble_eq_true rfl) rfl (n := 45) rfl
  refine dk_if_ne (t := 52) C dX9_addBeast_45 (n := 48) rfl (by decide) (fun c17 => ?_) (fun c17 => ?_)
  · have h := h.1 c17
    refine dk_iload C dX9_addBeast_52 (n := 54) rfl (i := 6) rfl ?_
    refine dk_if_ne (t := 61) C dX9_addBeast_54 (n := 57) rfl (by decide) (fun c16 => ?_) (fun c16 => ?_)
    · have h := h.1 c16
      refine dk_aload_n (i := 0) C dX9_addBeast_61 (n := 62) rfl rfl rfl ?_
      refine dk_callVi C [dk_r G 4 60] (cc_X9_isOn C.D hmi h) yy_X9_isOn dk_wm_X9_145 dk_sh60 (hmi 60 (by decide) (by decide)) dX9_addBeast_62 (fun r13 s12 h => ?_) rfl rfl ⟨Nat.le_of_ble_eq_true rfl, Nat.le_of_ble_eq_true rfl⟩ rfl (Nat.le_of_ble_eq_true rfl) rfl (n := 65) rfl
      refine dk_if_ne (t := 77) C dX9_addBeast_65 (n := 68) rfl (by decide) (fun c15 => ?_) (fun c15 => ?_)
      · have h := h.1 c15
        refine dk_iconst (v := 3) C dX9_addBeast_77 (n := 78) rfl (by decide) ?_
        refine dk_goto (t := 82) C dX9_addBeast_78 (by decide) ?_
        refine dk_sub (L0 := [some (dk_r G 4 60), some (.int x1), some (.int x2), some (.int x3), some (.int x4), some (.int x5), none]) ⟨rfl, ⟨rfl, ⟨rfl, ⟨rfl, ⟨rfl, ⟨rfl, trivial⟩⟩⟩⟩⟩⟩ ?_
        exact ww_X9_addBeast_82 C hr hlk hmi  x1 x2 x3 x4 x5 3 s12 h
      · have h := h.2 c15
        refine dk_aload_n (i := 0) C dX9_addBeast_68 (n := 69) rfl rfl rfl ?_
        refine gf_X9_34 C (hmi 60 (by decide) (by decide)) dX9_addBeast_69 (n := 72) rfl ?_
        refine dk_bipush (v := 8) C dX9_addBeast_72 (n := 74) rfl (by decide) ?_
        refine dk_icmp_ne (t := 81) C dX9_addBeast_74 (n := 77) rfl (by decide) (fun c14 => ?_) (fun c14 => ?_)
        · have h := h.1 c14
          refine dk_iconst (v := 0) C dX9_addBeast_81 (n := 82) rfl (by decide) ?_
          refine dk_sub (L0 := [some (dk_r G 4 60), some (.int x1), some (.int x2), some (.int x3), some (.int x4), some (.int x5), none]) ⟨rfl, ⟨rfl, ⟨rfl, ⟨rfl, ⟨rfl, ⟨rfl, trivial⟩⟩⟩⟩⟩⟩ ?_
          exact ww_X9_addBeast_82 C hr hlk hmi  x1 x2 x3 x4 x5 0 s12 h
        · have h := h.2 c14
          refine dk_iconst (v := 3) C dX9_addBeast_77 (n := 78) rfl (by decide) ?_
          refine dk_goto (t := 82) C dX9_addBeast_78 (by decide) ?_
          refine dk_sub (L0 := [some (dk_r G 4 60), some (.int x1), some (.int x2), some (.int x3), some (.int x4), some (.int x5), none]) ⟨rfl, ⟨rfl, ⟨rfl, ⟨rfl, ⟨rfl, ⟨rfl, trivial⟩⟩⟩⟩⟩⟩ ?_
          exact ww_X9_addBeast_82 C hr hlk hmi  x1 x2 x3 x4 x5 3 s12 h
    · have h := h.2 c16
      refine dk_iconst (v := 2) C dX9_addBeast_57 (n := 58) rfl (by decide) ?_
      refine dk_goto (t := 82) C dX9_addBeast_58 (by decide) ?_
      refine dk_sub (L0 := [some (dk_r G 4 60), some (.int x1), some (.int x2), some (.int x3), some (.int x4), some (.int x5), none]) ⟨rfl, ⟨rfl, ⟨rfl, ⟨rfl, ⟨rfl, ⟨rfl, trivial⟩⟩⟩⟩⟩⟩ ?_
      exact ww_X9_addBeast_82 C hr hlk hmi  x1 x2 x3 x4 x5 2 s10 h
  · have h := h.2 c17
    refine dk_iconst (v := 1) C dX9_addBeast_48 (n := 49) rfl (by decide) ?_
    refine dk_goto (t := 82) C dX9_addBeast_49 (by decide) ?_
    refine dk_sub (L0 := [some (dk_r G 4 60), some (.int x1), some (.int x2), some (.int x3), some (.int x4), some (.int x5), none]) ⟨rfl, ⟨rfl, ⟨rfl, ⟨rfl, ⟨rfl, ⟨rfl, trivial⟩⟩⟩⟩⟩⟩ ?_
    exact ww_X9_addBeast_82 C hr hlk hmi  x1 x2 x3 x4 x5 1 s10 h
set_option maxRecDepth 20000 in
set_option maxHeartbeats 4000000 in
theorem cc_X9_addBeast {G : dk_G} {l : Launch} {a1 : Int32} {a2 : Int32} {a3 : Int32} {a4 : Int32} {a5 : Int32} (hD : dk_D G) (hmi : dk_MI G) {s : dk_S} {K : Int32 → dk_S → Prop} (h : wf_X9_addBeast a1 a2 a3 a4 a5 s K) : dk_M G l 3 yX9_addBeast cX9_addBeast 7 (some .int) [dk_r G 4 60, .int a1, .int a2, .int a3, .int a4, .int a5] s (dk_ki K) := by
  refine dk_of hD (by decide) [some (dk_r G 4 60), some (.int a1), some (.int a2), some (.int a3), some (.int a4), some (.int a5), none] (fun q hq => hq) rfl (Nat.le_of_ble_eq_true rfl) (fun P e S0 m args bel meth c C hr hlk => ?_)
  unfold wf_X9_addBeast at h
  refine dk_iload_n (i := 3) C dX9_addBeast_0 (n := 1) rfl rfl rfl ?_
  refine dk_iconst (v := 1) C dX9_addBeast_1 (n := 2) rfl (by decide) ?_
  refine dk_bipush (v := 24) C dX9_addBeast_2 (n := 4) rfl (by decide) ?_
  refine dk_callSi C [] (cc_X9_in C.D  h) yy_X9_in dk_wm_X9_110 dX9_addBeast_4 (fun r2 s1 h => ?_) rfl ⟨Nat.le_of_ble_eq_true rfl, Nat.le_of_ble_eq_true rfl⟩ rfl (Nat.le_of_ble_eq_true rfl) rfl (n := 7) rfl
  refine dk_if_eq (t := 36) C dX9_addBeast_7 (n := 10) rfl (by decide) (fun c9 => ?_) (fun c9 => ?_)
  · have h := h.1 c9
    refine dk_iconst (v := 0) C dX9_addBeast_36 (n := 37) rfl (by decide) ?_
    refine dk_sub (L0 := [some (dk_r G 4 60), some (.int a1), some (.int a2), some (.int a3), some (.int a4), some (.int a5), none]) ⟨rfl, ⟨rfl, ⟨rfl, ⟨rfl, ⟨rfl, ⟨rfl, trivial⟩⟩⟩⟩⟩⟩ ?_
    exact ww_X9_addBeast_37 C hr hlk hmi  a1 a2 a3 a4 a5 0 s1 h
  · have h := h.2 c9
    refine dk_iload C dX9_addBeast_10 (n := 12) rfl (i := 4) rfl ?_
    refine dk_iconst (v := 0) C dX9_addBeast_12 (n := 13) rfl (by decide) ?_
    refine dk_bipush (v := 9) C dX9_addBeast_13 (n := 15) rfl (by decide) ?_
    refine dk_callSi C [] (cc_X9_in C.D  h) yy_X9_in dk_wm_X9_110 dX9_addBeast_15 (fun r4 s3 h => ?_) rfl ⟨Nat.le_of_ble_eq_true rfl, Nat.le_of_ble_eq_true rfl⟩ rfl (Nat.le_of_ble_eq_true rfl) rfl (n := 18) rfl
    refine dk_if_eq (t := 36) C dX9_addBeast_18 (n := 21) rfl (by decide) (fun c8 => ?_) (fun c8 => ?_)
    · have h := h.1 c8
      refine dk_iconst (v := 0) C dX9_addBeast_36 (n := 37) rfl (by decide) ?_
      refine dk_sub (L0 := [some (dk_r G 4 60), some (.int a1), some (.int a2), some (.int a3), some (.int a4), some (.int a5), none]) ⟨rfl, ⟨rfl, ⟨rfl, ⟨rfl, ⟨rfl, ⟨rfl, trivial⟩⟩⟩⟩⟩⟩ ?_
      exact ww_X9_addBeast_37 C hr hlk hmi  a1 a2 a3 a4 a5 0 s3 h
    · have h := h.2 c8
      refine dk_iload C dX9_addBeast_21 (n := 23) rfl (i := 5) rfl ?_
      refine dk_iconst (v := 1) C dX9_addBeast_23 (n := 24) rfl (by decide) ?_
      refine dk_bipush (v := 30) C dX9_addBeast_24 (n := 26) rfl (by decide) ?_
      refine dk_callSi C [] (cc_X9_in C.D  h) yy_X9_in dk_wm_X9_110 dX9_addBeast_26 (fun r6 s5 h => ?_) rfl ⟨Nat.le_of_ble_eq_true rfl, Nat.le_of_ble_eq_true rfl⟩ rfl (Nat.le_of_ble_eq_true rfl) rfl (n := 29) rfl
      refine dk_if_eq (t := 36) C dX9_addBeast_29 (n := 32) rfl (by decide) (fun c7 => ?_) (fun c7 => ?_)
      · have h := h.1 c7
        refine dk_iconst (v := 0) C dX9_addBeast_36 (n := 37) rfl (by decide) ?_
        refine dk_sub (L0 := [some (dk_r G 4 60), some (.int a1), some (.int a2), some (.int a3), some (.int a4), some (.int a5), none]) ⟨rfl, ⟨rfl, ⟨rfl, ⟨rfl, ⟨rfl, ⟨rfl, trivial⟩⟩⟩⟩⟩⟩ ?_
        exact ww_X9_addBeast_37 C hr hlk hmi  a1 a2 a3 a4 a5 0 s5 h
      · have h := h.2 c7
        refine dk_iconst (v := 1) C dX9_addBeast_32 (n := 33) rfl (by decide) ?_
        refine dk_goto (t := 37) C dX9_addBeast_33 (by decide) ?_
        refine dk_sub (L0 := [some (dk_r G 4 60), some (.int a1), some (.int a2), some (.int a3), some (.int a4), some (.int a5), none]) ⟨rfl, ⟨rfl, ⟨rfl, ⟨rfl, ⟨rfl, ⟨rfl, trivial⟩⟩⟩⟩⟩⟩ ?_
        exact ww_X9_addBeast_37 C hr hlk hmi  a1 a2 a3 a4 a5 1 s5 h
