/-! dig, setEffect -/
theorem dk_wc_X8_dig : Cond.code yX8_dig cX8_dig 5 (some .char) ∈ dk_ws := dk_w 381 (by decide +kernel) (by decide +kernel)
theorem dk_wt_X8_dig : Cond.instanceMethod yX8_dig ∈ dk_ws := dk_w 379 (by decide +kernel) (by decide +kernel)
theorem dk_ws_X8_dig : Cond.selects RX8 yX8_dig yX8_dig ∈ dk_ws := dk_w 380 (by decide +kernel) (by decide +kernel)
theorem yy_X8_dig : dk_YV yX8_dig cX8_dig 5 (some .char) 3 := ⟨dk_wt_X8_dig, dk_ws_X8_dig, dk_wn_RX8, dk_wc_X8_dig, ⟨by decide, by decide, by decide⟩⟩
theorem dk_wm_X8_76 : Cond.methodLink RX8 76 yX1_change ∈ dk_ws := dk_w 559 (by decide +kernel) (by decide +kernel)
theorem dk_wc_X8_setEffect : Cond.code yX8_setEffect cX8_setEffect 6 (some .char) ∈ dk_ws := dk_w 581 (by decide +kernel) (by decide +kernel)
theorem dk_wt_X8_setEffect : Cond.instanceMethod yX8_setEffect ∈ dk_ws := dk_w 579 (by decide +kernel) (by decide +kernel)
theorem dk_ws_X8_setEffect : Cond.selects RX8 yX8_setEffect yX8_setEffect ∈ dk_ws := dk_w 580 (by decide +kernel) (by decide +kernel)
theorem yy_X8_setEffect : dk_YV yX8_setEffect cX8_setEffect 6 (some .char) 4 := ⟨dk_wt_X8_setEffect, dk_ws_X8_setEffect, dk_wn_RX8, dk_wc_X8_setEffect, ⟨by decide, by decide, by decide⟩⟩
theorem dk_wm_X8_104 : Cond.methodLink RX8 104 yX3_effectOf ∈ dk_ws := dk_w 583 (by decide +kernel) (by decide +kernel)
theorem dk_wm_X8_107 : Cond.methodLink RX8 107 yX3_tellEffect ∈ dk_ws := dk_w 588 (by decide +kernel) (by decide +kernel)
def wf_X8_dig (a1 : Int32) (a2 : Int32) (a3 : Int32) (s : dk_S) (K : Int32 → dk_S → Prop) (X : String → dk_S → Prop) : Prop :=
  wf_X8_checkPlace a1 a2 s (fun s1 => (∀ r2 : Int32, (r2 < 0 ↔ ¬ a3 ∈ dk_txB.getD 0 []) → ((0 ≤ r2 → wf_X8_checkNoWorld s1 (fun s5 => wf_X8_spot a1 a2 s5 (fun r7 s6 => wf_X1_signAt 1 r7 s6 (fun r9 s8 => wf_X8_spot a1 a2 s8 (fun r11 s10 => wf_X1_change 1 r11 a3 s10 (fun s12 => ∀ s13 : dk_S, s13 = dk_row s12 0 40 (upd (s12 0 40) 5 110) → (narrow .char (.int r9) = .int r9 ∧ K r9 s13)))))) X) ∧ (¬ 0 ≤ r2 → X "java/lang/IllegalArgumentException" s1)))) X
def wf_X8_setEffect (a1 : Int32) (a2 : Int32) (a3 : Int32) (a4 : Int32) (s : dk_S) (K : Int32 → dk_S → Prop) (X : String → dk_S → Prop) : Prop :=
  wf_X8_checkRange a1 3 5 s (fun s1 => (∀ r2 : Int32, (r2 < 0 ↔ ¬ a2 ∈ dk_txB.getD 1 []) → ((0 ≤ r2 → wf_X8_checkRange a3 1 20 s1 (fun s5 => wf_X8_checkRange a4 0 3 s5 (fun s6 => wf_X8_checkNoWorld s6 (fun s7 => wf_X3_effectOf 1 a1 s7 (fun r9 s8 => wf_X3_tellEffect 1 a1 a2 a3 a4 s8 (fun s10 => ∀ s11 : dk_S, s11 = dk_row s10 0 40 (upd (s10 0 40) 5 110) → (narrow .char (.int r9) = .int r9 ∧ K r9 s11)))) X) X) X) ∧ (¬ 0 ≤ r2 → X "java/lang/IllegalArgumentException" s1)))) X
/-! X8_dig -/
set_option maxRecDepth 20000 in
set_option maxHeartbeats 4000000 in
theorem cc_X8_dig {G : dk_G} {l : Launch} {a1 : Int32} {a2 : Int32} {a3 : Int32} (hD : dk_D G) (hl : l.stackTraces = false) (hri : dk_RI G) {s : dk_S} {K : Int32 → dk_S → Prop} {X : String → dk_S → Prop} (h : wf_X8_dig a1 a2 a3 s K X) : dk_MX G l 7 yX8_dig cX8_dig 5 (some .char) [dk_r G 0 40, .int a1, .int a2, .int a3] s (dk_ki K) X := by
  refine dk_xof hD (by decide) [some (dk_r G 0 40), some (.int a1), some (.int a2), some (.int a3), none] (fun q hq => hq) rfl (Nat.le_of_ble_eq_true rfl) (fun P e S0 m args bel meth c C ht hr hlk => ?_)
  unfold wf_X8_dig at h
  refine dk_iload_n (i := 1) C dX8_dig_0 (n := 1) rfl rfl rfl ?_
  refine dk_iload_n (i := 2) C dX8_dig_1 (n := 2) rfl rfl rfl ?_
  refine dk_xcallSv C ht hlk [] (cc_X8_checkPlace C.D hl  h) yy_X8_checkPlace dk_wm_X8_44 dX8_dig_2 (fun s1 h => ?_) rfl ⟨Nat.le_of_ble_eq_true rfl, Nat.le_of_ble_eq_true rfl⟩ ⟨Nat.le_of_ble_eq_true rfl, Nat.le_of_ble_eq_true rfl⟩ rfl (Nat.le_of_ble_eq_true rfl) rfl (n := 5) rfl
  refine dk_sldc C C.2.2.2.2.2.1.2.2.1 dX8_dig_5 (n := 7) rfl ?_
  refine dk_iload_n (i := 3) C dX8_dig_7 (n := 8) rfl rfl rfl ?_
  refine dk_callK C [] (cc_J0_indexOf (K := fun r σ => (r < 0 ↔ ¬ a3 ∈ dk_txB.getD 0 []) ∧ σ = s1) C.D (by decide) (fun r g => ⟨g, rfl⟩)) (by decide) rfl yy_J0_indexOf_0f7a4 dk_wm_X8_50 dX8_dig_8 (fun r2 s3 g4 => ?_) rfl ⟨Nat.le_of_ble_eq_true rfl, Nat.le_of_ble_eq_true rfl⟩ rfl (Nat.le_of_ble_eq_true rfl) rfl (n := 11) rfl
  have h := h r2 g4.1
  rw [g4.2]
  refine dk_if_ge (t := 22) C dX8_dig_11 (n := 14) rfl (by decide) (fun c14 => ?_) (fun c14 => ?_)
  · have h := h.1 c14
    refine dk_aload_n (i := 0) C dX8_dig_22 (n := 23) rfl rfl rfl ?_
    refine dk_xcallVv C ht hlk [] (cc_X8_checkNoWorld C.D hl hri h) yy_X8_checkNoWorld dk_wm_X8_59 dk_sh40 (hri.1 40 (by decide) (by decide)) dX8_dig_23 (fun s5 h => ?_) rfl rfl ⟨Nat.le_of_ble_eq_true rfl, Nat.le_of_ble_eq_true rfl⟩ ⟨Nat.le_of_ble_eq_true rfl, Nat.le_of_ble_eq_true rfl⟩ rfl (Nat.le_of_ble_eq_true rfl) rfl (n := 26) rfl
    refine dk_aload_n (i := 0) C dX8_dig_26 (n := 27) rfl rfl rfl ?_
    refine gf_X8_12 C (hri.1 40 (by decide) (by decide)) dX8_dig_27 (n := 30) rfl ?_
    refine gf_X8_62 C (hri.2.1 0 (by decide)) dX8_dig_30 (n := 33) rfl ?_
    refine dk_iload_n (i := 1) C dX8_dig_33 (n := 34) rfl rfl rfl ?_
    refine dk_iload_n (i := 2) C dX8_dig_34 (n := 35) rfl rfl rfl ?_
    refine dk_callSi C [dk_r G 1 1] (cc_X8_spot C.D  h) yy_X8_spot dk_wm_X8_66 dX8_dig_35 (fun r7 s6 h => ?_) rfl ⟨Nat.le_of_ble_eq_true rfl, Nat.le_of_ble_eq_true rfl⟩ rfl (Nat.le_of_ble_eq_true rfl) rfl (n := 38) rfl
    refine dk_callVi C [] (cc_X1_signAt C.D hri.2.1 h) yy_X1_signAt dk_wm_X8_70 dk_sh1 (hri.2.1 1 (by decide)) dX8_dig_38 (fun r9 s8 h => ?_) rfl rfl ⟨Nat.le_of_ble_eq_true rfl, Nat.le_of_ble_eq_true rfl⟩ rfl (Nat.le_of_ble_eq_true rfl) rfl (n := 41) rfl
    refine dk_istore (i := 4) (L' := [some (dk_r G 0 40), some (.int a1), some (.int a2), some (.int a3), some (.int r9)]) C dX8_dig_41 (n := 43) rfl (dk_nc_of rfl) (Nat.le_of_ble_eq_true rfl) rfl ?_
    refine dk_aload_n (i := 0) C dX8_dig_43 (n := 44) rfl rfl rfl ?_
    refine gf_X8_12 C (hri.1 40 (by decide) (by decide)) dX8_dig_44 (n := 47) rfl ?_
    refine gf_X8_62 C (hri.2.1 0 (by decide)) dX8_dig_47 (n := 50) rfl ?_
    refine dk_iload_n (i := 1) C dX8_dig_50 (n := 51) rfl rfl rfl ?_
    refine dk_iload_n (i := 2) C dX8_dig_51 (n := 52) rfl rfl rfl ?_
    refine dk_callSi C [dk_r G 1 1] (cc_X8_spot C.D  h) yy_X8_spot dk_wm_X8_66 dX8_dig_52 (fun r11 s10 h => ?_) rfl ⟨Nat.le_of_ble_eq_true rfl, Nat.le_of_ble_eq_true rfl⟩ rfl (Nat.le_of_ble_eq_true rfl) rfl (n := 55) rfl
    refine dk_iload_n (i := 3) C dX8_dig_55 (n := 56) rfl rfl rfl ?_
    refine dk_callVv C [] (cc_X1_change C.D hri.2.1 h) yy_X1_change dk_wm_X8_76 dk_sh1 (hri.2.1 1 (by decide)) dX8_dig_56 (fun s12 h => ?_) rfl rfl ⟨Nat.le_of_ble_eq_true rfl, Nat.le_of_ble_eq_true rfl⟩ rfl (Nat.le_of_ble_eq_true rfl) rfl (n := 59) rfl
    refine dk_aload_n (i := 0) C dX8_dig_59 (n := 60) rfl rfl rfl ?_
    refine dk_bipush (v := 110) C dX8_dig_60 (n := 62) rfl (by decide) ?_
    refine pf_X8_36 C (by decide) (by decide) (hri.1 40 (by decide) (by decide)) dX8_dig_62 (n := 65) rfl ?_
    refine dk_nameS (fun s13 es13 => ?_)
    have h := h s13 es13
    refine dk_iload C dX8_dig_65 (n := 67) rfl (i := 4) rfl ?_
    refine dk_xret ?_
    exact dk_iret C hr hlk h.1 dX8_dig_67 ⟨_, rfl, h.2⟩
  · have h := h.2 c14
    exact dk_xthrow C ht hlk hl dk_THIA dX8_dig_14 dX8_dig_17 dX8_dig_18 dX8_dig_21 ⟨Nat.le_of_ble_eq_true rfl, Nat.le_of_ble_eq_true rfl⟩ ⟨Nat.le_of_ble_eq_true rfl, Nat.le_of_ble_eq_true rfl⟩ (Nat.le_of_ble_eq_true rfl) rfl h
/-! X8_setEffect -/
set_option maxRecDepth 20000 in
set_option maxHeartbeats 4000000 in
theorem cc_X8_setEffect {G : dk_G} {l : Launch} {a1 : Int32} {a2 : Int32} {a3 : Int32} {a4 : Int32} (hD : dk_D G) (hl : l.stackTraces = false) (hri : dk_RI G) {s : dk_S} {K : Int32 → dk_S → Prop} {X : String → dk_S → Prop} (h : wf_X8_setEffect a1 a2 a3 a4 s K X) : dk_MX G l 7 yX8_setEffect cX8_setEffect 6 (some .char) [dk_r G 0 40, .int a1, .int a2, .int a3, .int a4] s (dk_ki K) X := by
  refine dk_xof hD (by decide) [some (dk_r G 0 40), some (.int a1), some (.int a2), some (.int a3), some (.int a4), none] (fun q hq => hq) rfl (Nat.le_of_ble_eq_true rfl) (fun P e S0 m args bel meth c C ht hr hlk => ?_)
  unfold wf_X8_setEffect at h
  refine dk_iload_n (i := 1) C dX8_setEffect_0 (n := 1) rfl rfl rfl ?_
  refine dk_iconst (v := 3) C dX8_setEffect_1 (n := 2) rfl (by decide) ?_
  refine dk_iconst (v := 5) C dX8_setEffect_2 (n := 3) rfl (by decide) ?_
  refine dk_xcallSv C ht hlk [] (cc_X8_checkRange C.D hl  h) yy_X8_checkRange dk_wm_X8_80 dX8_setEffect_3 (fun s1 h => ?_) rfl ⟨Nat.le_of_ble_eq_true rfl, Nat.le_of_ble_eq_true rfl⟩ ⟨Nat.le_of_ble_eq_true rfl, Nat.le_of_ble_eq_true rfl⟩ rfl (Nat.le_of_ble_eq_true rfl) rfl (n := 6) rfl
  refine dk_sldc C C.2.2.2.2.2.1.2.2.2.1 dX8_setEffect_6 (n := 8) rfl ?_
  refine dk_iload_n (i := 2) C dX8_setEffect_8 (n := 9) rfl rfl rfl ?_
  refine dk_callK C [] (cc_J0_indexOf (K := fun r σ => (r < 0 ↔ ¬ a2 ∈ dk_txB.getD 1 []) ∧ σ = s1) C.D (by decide) (fun r g => ⟨g, rfl⟩)) (by decide) rfl yy_J0_indexOf_0f7a4 dk_wm_X8_50 dX8_setEffect_9 (fun r2 s3 g4 => ?_) rfl ⟨Nat.le_of_ble_eq_true rfl, Nat.le_of_ble_eq_true rfl⟩ rfl (Nat.le_of_ble_eq_true rfl) rfl (n := 12) rfl
  have h := h r2 g4.1
  rw [g4.2]
  refine dk_if_ge (t := 23) C dX8_setEffect_12 (n := 15) rfl (by decide) (fun c12 => ?_) (fun c12 => ?_)
  · have h := h.1 c12
    refine dk_iload_n (i := 3) C dX8_setEffect_23 (n := 24) rfl rfl rfl ?_
    refine dk_iconst (v := 1) C dX8_setEffect_24 (n := 25) rfl (by decide) ?_
    refine dk_bipush (v := 20) C dX8_setEffect_25 (n := 27) rfl (by decide) ?_
    refine dk_xcallSv C ht hlk [] (cc_X8_checkRange C.D hl  h) yy_X8_checkRange dk_wm_X8_80 dX8_setEffect_27 (fun s5 h => ?_) rfl ⟨Nat.le_of_ble_eq_true rfl, Nat.le_of_ble_eq_true rfl⟩ ⟨Nat.le_of_ble_eq_true rfl, Nat.le_of_ble_eq_true rfl⟩ rfl (Nat.le_of_ble_eq_true rfl) rfl (n := 30) rfl
    refine dk_iload C dX8_setEffect_30 (n := 32) rfl (i := 4) rfl ?_
    refine dk_iconst (v := 0) C dX8_setEffect_32 (n := 33) rfl (by decide) ?_
    refine dk_iconst (v := 3) C dX8_setEffect_33 (n := 34) rfl (by decide) ?_
    refine dk_xcallSv C ht hlk [] (cc_X8_checkRange C.D hl  h) yy_X8_checkRange dk_wm_X8_80 dX8_setEffect_34 (fun s6 h => ?_) rfl ⟨Nat.le_of_ble_eq_true rfl, Nat.le_of_ble_eq_true rfl⟩ ⟨Nat.le_of_ble_eq_true rfl, Nat.le_of_ble_eq_true rfl⟩ rfl (Nat.le_of_ble_eq_true rfl) rfl (n := 37) rfl
    refine dk_aload_n (i := 0) C dX8_setEffect_37 (n := 38) rfl rfl rfl ?_
    refine dk_xcallVv C ht hlk [] (cc_X8_checkNoWorld C.D hl hri h) yy_X8_checkNoWorld dk_wm_X8_59 dk_sh40 (hri.1 40 (by decide) (by decide)) dX8_setEffect_38 (fun s7 h => ?_) rfl rfl ⟨Nat.le_of_ble_eq_true rfl, Nat.le_of_ble_eq_true rfl⟩ ⟨Nat.le_of_ble_eq_true rfl, Nat.le_of_ble_eq_true rfl⟩ rfl (Nat.le_of_ble_eq_true rfl) rfl (n := 41) rfl
    refine dk_aload_n (i := 0) C dX8_setEffect_41 (n := 42) rfl rfl rfl ?_
    refine gf_X8_12 C (hri.1 40 (by decide) (by decide)) dX8_setEffect_42 (n := 45) rfl ?_
    refine gf_X8_84 C (hri.2.1 0 (by decide)) dX8_setEffect_45 (n := 48) rfl ?_
    refine dk_iload_n (i := 1) C dX8_setEffect_48 (n := 49) rfl rfl rfl ?_
    refine dk_callVi C [] (cc_X3_effectOf C.D hri.2.1 h) yy_X3_effectOf dk_wm_X8_104 dk_sh7 (hri.2.1 7 (by decide)) dX8_setEffect_49 (fun r9 s8 h => ?_) rfl rfl ⟨Nat.le_of_ble_eq_true rfl, Nat.le_of_ble_eq_true rfl⟩ rfl (Nat.le_of_ble_eq_true rfl) rfl (n := 52) rfl
    refine dk_istore (i := 5) (L' := [some (dk_r G 0 40), some (.int a1), some (.int a2), some (.int a3), some (.int a4), some (.int r9)]) C dX8_setEffect_52 (n := 54) rfl (dk_nc_of rfl) (Nat.le_of_ble_eq_true rfl) rfl ?_
    refine dk_aload_n (i := 0) C dX8_setEffect_54 (n := 55) rfl rfl rfl ?_
    refine gf_X8_12 C (hri.1 40 (by decide) (by decide)) dX8_setEffect_55 (n := 58) rfl ?_
    refine gf_X8_84 C (hri.2.1 0 (by decide)) dX8_setEffect_58 (n := 61) rfl ?_
    refine dk_iload_n (i := 1) C dX8_setEffect_61 (n := 62) rfl rfl rfl ?_
    refine dk_iload_n (i := 2) C dX8_setEffect_62 (n := 63) rfl rfl rfl ?_
    refine dk_iload_n (i := 3) C dX8_setEffect_63 (n := 64) rfl rfl rfl ?_
    refine dk_iload C dX8_setEffect_64 (n := 66) rfl (i := 4) rfl ?_
    refine dk_callVv C [] (cc_X3_tellEffect C.D hri.2.1 h) yy_X3_tellEffect dk_wm_X8_107 dk_sh7 (hri.2.1 7 (by decide)) dX8_setEffect_66 (fun s10 h => ?_) rfl rfl ⟨Nat.le_of_ble_eq_true rfl, Nat.le_of_ble_eq_true rfl⟩ rfl (Nat.le_of_ble_eq_true rfl) rfl (n := 69) rfl
    refine dk_aload_n (i := 0) C dX8_setEffect_69 (n := 70) rfl rfl rfl ?_
    refine dk_bipush (v := 110) C dX8_setEffect_70 (n := 72) rfl (by decide) ?_
    refine pf_X8_36 C (by decide) (by decide) (hri.1 40 (by decide) (by decide)) dX8_setEffect_72 (n := 75) rfl ?_
    refine dk_nameS (fun s11 es11 => ?_)
    have h := h s11 es11
    refine dk_iload C dX8_setEffect_75 (n := 77) rfl (i := 5) rfl ?_
    refine dk_xret ?_
    exact dk_iret C hr hlk h.1 dX8_setEffect_77 ⟨_, rfl, h.2⟩
  · have h := h.2 c12
    exact dk_xthrow C ht hlk hl dk_THIA dX8_setEffect_15 dX8_setEffect_18 dX8_setEffect_19 dX8_setEffect_22 ⟨Nat.le_of_ble_eq_true rfl, Nat.le_of_ble_eq_true rfl⟩ ⟨Nat.le_of_ble_eq_true rfl, Nat.le_of_ble_eq_true rfl⟩ (Nat.le_of_ble_eq_true rfl) rfl h
