/-! the wrappers -/
/-! L_addBeast -/
set_option maxRecDepth 20000 in
set_option maxHeartbeats 4000000 in
theorem cw_L_addBeast {G : dk_G} {O : dl_T} {l : Launch} {a1 : Int32} {a2 : Int32} {a3 : Int32} {a4 : Int32} {a5 : Int32} (hD : dk_D G) (hl : l.stackTraces = false) (hri : dk_RI G) (hg : dl_G G O) {σ : dk_S} {fO : Nat → Int64} {fD : Nat → UInt64} {K : Int32 → dk_S → Prop} {X : String → dk_S → Prop} (hX : ∀ E σ', X E σ' → ∃ r, (E, r) ∈ ([(eIO, 1), (eIA, 2), (eIS, 3)] : List (String × Int32))) (h : wf_X8_addBeast a1 a2 a3 a4 a5 σ K X) : dw_M G O l yL_addBeast cL_addBeast 8 [(0, 16, 19, 13), (0, 16, 23, 15), (0, 16, 27, 17)] [dk_r G 0 40, .int a1, .int a2, .int a3, .int a4, .int a5, .ref O.2.1] σ fO fD (dw_P K X Int32.toInt64 [(eIO, 1), (eIA, 2), (eIS, 3)] fD) := by
  refine dw_of hD hg (by decide) [some (dk_r G 0 40), some (.int a1), some (.int a2), some (.int a3), some (.int a4), some (.int a5), some (.ref O.2.1), none] (fun q hq => hq) rfl (Nat.le_of_ble_eq_true rfl) (fun p e s m args below meth c C ht hrt hlk => ?_)
  refine dw_aload (i := 6) C dL_addBeast_0 (n := 2) rfl rfl ?_
  refine dw_iconst (v := 0) C dL_addBeast_2 (n := 3) rfl (by decide) ?_
  refine dw_aload_n (i := 0) C dL_addBeast_3 (n := 4) rfl rfl rfl ?_
  refine dw_iload_n (i := 1) C dL_addBeast_4 (n := 5) rfl rfl rfl ?_
  refine dw_iload_n (i := 2) C dL_addBeast_5 (n := 6) rfl rfl rfl ?_
  refine dw_iload_n (i := 3) C dL_addBeast_6 (n := 7) rfl rfl rfl ?_
  refine dw_iload (i := 4) C dL_addBeast_7 (n := 9) rfl rfl ?_
  refine dw_iload (i := 5) C dL_addBeast_9 (n := 11) rfl rfl ?_
  refine dw_callX C [.int 0, .ref O.2.1] (cc_X8_addBeast hD hl hri h) yy_X8_addBeast dk_wm_L_31 rfl (by decide) (by decide) dk_sh40 rfl (hri.1 40 (by decide) (by decide)) rfl (Nat.le_of_ble_eq_true rfl) rfl dL_addBeast_11 (n := 14) rfl (fun E σ' hx => ?_) (fun v σ' hv => ?_)
  · obtain ⟨r0, hr0⟩ := hX E σ' hx
    simp only [List.mem_cons, Prod.mk.injEq, List.not_mem_nil, or_false] at hr0
    rcases hr0 with ⟨rfl, rfl⟩ | ⟨rfl, rfl⟩ | ⟨rfl, rfl⟩
    · refine dw_catch C [] ⟨0, 16, 19, 13⟩ [⟨0, 16, 23, 15⟩, ⟨0, 16, 27, 17⟩] (by rw [ht]; rfl) (fun _ h => absurd h List.not_mem_nil) (by decide) (by decide) dk_wk_L_13 dk_wx_eIO (n := 19) rfl (fun q => ?_)
      refine dw_astore (i := 7) (L' := [some (dk_r G 0 40), some (.int a1), some (.int a2), some (.int a3), some (.int a4), some (.int a5), some (.ref O.2.1), some (.ref q)]) C dL_addBeast_19 (n := 21) rfl (dk_nc_of rfl) (Nat.le_of_ble_eq_true rfl) rfl ?_
      refine dw_iconst (v := 1) C dL_addBeast_21 (n := 22) rfl (by decide) ?_
      exact dw_iret C (by decide) (by decide) hrt hlk dL_addBeast_22 ⟨rfl, Or.inr ⟨_, by simp, hx⟩⟩
    · refine dw_catch C [⟨0, 16, 19, 13⟩] ⟨0, 16, 23, 15⟩ [⟨0, 16, 27, 17⟩] (by rw [ht]; rfl) (List.forall_mem_cons.mpr ⟨⟨by decide, eIO, dk_wk_L_13, by decide +kernel⟩, fun _ h => absurd h List.not_mem_nil⟩) (by decide) (by decide) dk_wk_L_15 dk_wx_eIA (n := 23) rfl (fun q => ?_)
      refine dw_astore (i := 7) (L' := [some (dk_r G 0 40), some (.int a1), some (.int a2), some (.int a3), some (.int a4), some (.int a5), some (.ref O.2.1), some (.ref q)]) C dL_addBeast_23 (n := 25) rfl (dk_nc_of rfl) (Nat.le_of_ble_eq_true rfl) rfl ?_
      refine dw_iconst (v := 2) C dL_addBeast_25 (n := 26) rfl (by decide) ?_
      exact dw_iret C (by decide) (by decide) hrt hlk dL_addBeast_26 ⟨rfl, Or.inr ⟨_, by simp, hx⟩⟩
    · refine dw_catch C [⟨0, 16, 19, 13⟩, ⟨0, 16, 23, 15⟩] ⟨0, 16, 27, 17⟩ [] (by rw [ht]; rfl) (List.forall_mem_cons.mpr ⟨⟨by decide, eIO, dk_wk_L_13, by decide +kernel⟩, List.forall_mem_cons.mpr ⟨⟨by decide, eIA, dk_wk_L_15, by decide +kernel⟩, fun _ h => absurd h List.not_mem_nil⟩⟩) (by decide) (by decide) dk_wk_L_17 dk_wx_eIS (n := 27) rfl (fun q => ?_)
      refine dw_astore (i := 7) (L' := [some (dk_r G 0 40), some (.int a1), some (.int a2), some (.int a3), some (.int a4), some (.int a5), some (.ref O.2.1), some (.ref q)]) C dL_addBeast_27 (n := 29) rfl (dk_nc_of rfl) (Nat.le_of_ble_eq_true rfl) rfl ?_
      refine dw_iconst (v := 3) C dL_addBeast_29 (n := 30) rfl (by decide) ?_
      exact dw_iret C (by decide) (by decide) hrt hlk dL_addBeast_30 ⟨rfl, Or.inr ⟨_, by simp, hx⟩⟩
  · obtain ⟨r, rfl, hr⟩ := hv
    refine dw_i2l C dL_addBeast_14 (n := 15) rfl ?_
    refine dw_last C dL_addBeast_15 (n := 16) rfl ?_
    refine dw_goto (t := 31) C dL_addBeast_16 (by decide) ?_
    refine dw_iconst (v := 0) C dL_addBeast_31 (n := 32) rfl (by decide) ?_
    exact dw_iret C (by decide) (by decide) hrt hlk dL_addBeast_32 ⟨rfl, Or.inl ⟨r, rfl, hr, rfl⟩⟩
/-! L_addLamp -/
set_option maxRecDepth 20000 in
set_option maxHeartbeats 4000000 in
theorem cw_L_addLamp {G : dk_G} {O : dl_T} {l : Launch} {a1 : Int32} {a2 : Int32} {a3 : Int32} (hD : dk_D G) (hl : l.stackTraces = false) (hri : dk_RI G) (hg : dl_G G O) {σ : dk_S} {fO : Nat → Int64} {fD : Nat → UInt64} {K : Int32 → dk_S → Prop} {X : String → dk_S → Prop} (hX : ∀ E σ', X E σ' → ∃ r, (E, r) ∈ ([(eIO, 1), (eIA, 2), (eIS, 3)] : List (String × Int32))) (h : wf_X8_addLamp a1 a2 a3 σ K X) : dw_M G O l yL_addLamp cL_addLamp 6 [(0, 12, 15, 13), (0, 12, 19, 15), (0, 12, 23, 17)] [dk_r G 0 40, .int a1, .int a2, .int a3, .ref O.2.1] σ fO fD (dw_P K X Int32.toInt64 [(eIO, 1), (eIA, 2), (eIS, 3)] fD) := by
  refine dw_of hD hg (by decide) [some (dk_r G 0 40), some (.int a1), some (.int a2), some (.int a3), some (.ref O.2.1), none] (fun q hq => hq) rfl (Nat.le_of_ble_eq_true rfl) (fun p e s m args below meth c C ht hrt hlk => ?_)
  refine dw_aload (i := 4) C dL_addLamp_0 (n := 2) rfl rfl ?_
  refine dw_iconst (v := 0) C dL_addLamp_2 (n := 3) rfl (by decide) ?_
  refine dw_aload_n (i := 0) C dL_addLamp_3 (n := 4) rfl rfl rfl ?_
  refine dw_iload_n (i := 1) C dL_addLamp_4 (n := 5) rfl rfl rfl ?_
  refine dw_iload_n (i := 2) C dL_addLamp_5 (n := 6) rfl rfl rfl ?_
  refine dw_iload_n (i := 3) C dL_addLamp_6 (n := 7) rfl rfl rfl ?_
  refine dw_callX C [.int 0, .ref O.2.1] (cc_X8_addLamp hD hl hri h) yy_X8_addLamp dk_wm_L_40 rfl (by decide) (by decide) dk_sh40 rfl (hri.1 40 (by decide) (by decide)) rfl (Nat.le_of_ble_eq_true rfl) rfl dL_addLamp_7 (n := 10) rfl (fun E σ' hx => ?_) (fun v σ' hv => ?_)
  · obtain ⟨r0, hr0⟩ := hX E σ' hx
    simp only [List.mem_cons, Prod.mk.injEq, List.not_mem_nil, or_false] at hr0
    rcases hr0 with ⟨rfl, rfl⟩ | ⟨rfl, rfl⟩ | ⟨rfl, rfl⟩
    · refine dw_catch C [] ⟨0, 12, 15, 13⟩ [⟨0, 12, 19, 15⟩, ⟨0, 12, 23, 17⟩] (by rw [ht]; rfl) (fun _ h => absurd h List.not_mem_nil) (by decide) (by decide) dk_wk_L_13 dk_wx_eIO (n := 15) rfl (fun q => ?_)
      refine dw_astore (i := 5) (L' := [some (dk_r G 0 40), some (.int a1), some (.int a2), some (.int a3), some (.ref O.2.1), some (.ref q)]) C dL_addLamp_15 (n := 17) rfl (dk_nc_of rfl) (Nat.le_of_ble_eq_true rfl) rfl ?_
      refine dw_iconst (v := 1) C dL_addLamp_17 (n := 18) rfl (by decide) ?_
      exact dw_iret C (by decide) (by decide) hrt hlk dL_addLamp_18 ⟨rfl, Or.inr ⟨_, by simp, hx⟩⟩
    · refine dw_catch C [⟨0, 12, 15, 13⟩] ⟨0, 12, 19, 15⟩ [⟨0, 12, 23, 17⟩] (by rw [ht]; rfl) (List.forall_mem_cons.mpr ⟨⟨by decide, eIO, dk_wk_L_13, by decide +kernel⟩, fun _ h => absurd h List.not_mem_nil⟩) (by decide) (by decide) dk_wk_L_15 dk_wx_eIA (n := 19) rfl (fun q => ?_)
      refine dw_astore (i := 5) (L' := [some (dk_r G 0 40), some (.int a1), some (.int a2), some (.int a3), some (.ref O.2.1), some (.ref q)]) C dL_addLamp_19 (n := 21) rfl (dk_nc_of rfl) (Nat.le_of_ble_eq_true rfl) rfl ?_
      refine dw_iconst (v := 2) C dL_addLamp_21 (n := 22) rfl (by decide) ?_
      exact dw_iret C (by decide) (by decide) hrt hlk dL_addLamp_22 ⟨rfl, Or.inr ⟨_, by simp, hx⟩⟩
    · refine dw_catch C [⟨0, 12, 15, 13⟩, ⟨0, 12, 19, 15⟩] ⟨0, 12, 23, 17⟩ [] (by rw [ht]; rfl) (List.forall_mem_cons.mpr ⟨⟨by decide, eIO, dk_wk_L_13, by decide +kernel⟩, List.forall_mem_cons.mpr ⟨⟨by decide, eIA, dk_wk_L_15, by decide +kernel⟩, fun _ h => absurd h List.not_mem_nil⟩⟩) (by decide) (by decide) dk_wk_L_17 dk_wx_eIS (n := 23) rfl (fun q => ?_)
      refine dw_astore (i := 5) (L' := [some (dk_r G 0 40), some (.int a1), some (.int a2), some (.int a3), some (.ref O.2.1), some (.ref q)]) C dL_addLamp_23 (n := 25) rfl (dk_nc_of rfl) (Nat.le_of_ble_eq_true rfl) rfl ?_
      refine dw_iconst (v := 3) C dL_addLamp_25 (n := 26) rfl (by decide) ?_
      exact dw_iret C (by decide) (by decide) hrt hlk dL_addLamp_26 ⟨rfl, Or.inr ⟨_, by simp, hx⟩⟩
  · obtain ⟨r, rfl, hr⟩ := hv
    refine dw_i2l C dL_addLamp_10 (n := 11) rfl ?_
    refine dw_last C dL_addLamp_11 (n := 12) rfl ?_
    refine dw_goto (t := 27) C dL_addLamp_12 (by decide) ?_
    refine dw_iconst (v := 0) C dL_addLamp_27 (n := 28) rfl (by decide) ?_
    exact dw_iret C (by decide) (by decide) hrt hlk dL_addLamp_28 ⟨rfl, Or.inl ⟨r, rfl, hr, rfl⟩⟩
/-! L_addThing -/
set_option maxRecDepth 20000 in
set_option maxHeartbeats 4000000 in
theorem cw_L_addThing {G : dk_G} {O : dl_T} {l : Launch} {a1 : Int32} {a2 : Int32} {a3 : Int32} {a4 : Int32} (hD : dk_D G) (hl : l.stackTraces = false) (hri : dk_RI G) (hg : dl_G G O) {σ : dk_S} {fO : Nat → Int64} {fD : Nat → UInt64} {K : Int32 → dk_S → Prop} {X : String → dk_S → Prop} (hX : ∀ E σ', X E σ' → ∃ r, (E, r) ∈ ([(eIA, 1), (eIO, 2), (eUO, 3), (eIS, 4)] : List (String × Int32))) (h : wf_X8_addThing a1 a2 a3 a4 σ K X) : dw_M G O l yL_addThing cL_addThing 7 [(0, 14, 17, 15), (0, 14, 21, 13), (0, 14, 25, 38), (0, 14, 29, 17)] [dk_r G 0 40, .int a1, .int a2, .int a3, .int a4, .ref O.2.1] σ fO fD (dw_P K X Int32.toInt64 [(eIA, 1), (eIO, 2), (eUO, 3), (eIS, 4)] fD) := by
  refine dw_of hD hg (by decide) [some (dk_r G 0 40), some (.int a1), some (.int a2), some (.int a3), some (.int a4), some (.ref O.2.1), none] (fun q hq => hq) rfl (Nat.le_of_ble_eq_true rfl) (fun p e s m args below meth c C ht hrt hlk => ?_)
  refine dw_aload (i := 5) C dL_addThing_0 (n := 2) rfl rfl ?_
  refine dw_iconst (v := 0) C dL_addThing_2 (n := 3) rfl (by decide) ?_
  refine dw_aload_n (i := 0) C dL_addThing_3 (n := 4) rfl rfl rfl ?_
  refine dw_iload_n (i := 1) C dL_addThing_4 (n := 5) rfl rfl rfl ?_
  refine dw_iload_n (i := 2) C dL_addThing_5 (n := 6) rfl rfl rfl ?_
  refine dw_iload_n (i := 3) C dL_addThing_6 (n := 7) rfl rfl rfl ?_
  refine dw_iload (i := 4) C dL_addThing_7 (n := 9) rfl rfl ?_
  refine dw_callX C [.int 0, .ref O.2.1] (cc_X8_addThing hD hl hri h) yy_X8_addThing dk_wm_L_35 rfl (by decide) (by decide) dk_sh40 rfl (hri.1 40 (by decide) (by decide)) rfl (Nat.le_of_ble_eq_true rfl) rfl dL_addThing_9 (n := 12) rfl (fun E σ' hx => ?_) (fun v σ' hv => ?_)
  · obtain ⟨r0, hr0⟩ := hX E σ' hx
    simp only [List.mem_cons, Prod.mk.injEq, List.not_mem_nil, or_false] at hr0
    rcases hr0 with ⟨rfl, rfl⟩ | ⟨rfl, rfl⟩ | ⟨rfl, rfl⟩ | ⟨rfl, rfl⟩
    · refine dw_catch C [] ⟨0, 14, 17, 15⟩ [⟨0, 14, 21, 13⟩, ⟨0, 14, 25, 38⟩, ⟨0, 14, 29, 17⟩] (by rw [ht]; rfl) (fun _ h => absurd h List.not_mem_nil) (by decide) (by decide) dk_wk_L_15 dk_wx_eIA (n := 17) rfl (fun q => ?_)
      refine dw_astore (i := 6) (L' := [some (dk_r G 0 40), some (.int a1), some (.int a2), some (.int a3), some (.int a4), some (.ref O.2.1), some (.ref q)]) C dL_addThing_17 (n := 19) rfl (dk_nc_of rfl) (Nat.le_of_ble_eq_true rfl) rfl ?_
      refine dw_iconst (v := 1) C dL_addThing_19 (n := 20) rfl (by decide) ?_
      exact dw_iret C (by decide) (by decide) hrt hlk dL_addThing_20 ⟨rfl, Or.inr ⟨_, by simp, hx⟩⟩
    · refine dw_catch C [⟨0, 14, 17, 15⟩] ⟨0, 14, 21, 13⟩ [⟨0, 14, 25, 38⟩, ⟨0, 14, 29, 17⟩] (by rw [ht]; rfl) (List.forall_mem_cons.mpr ⟨⟨by decide, eIA, dk_wk_L_15, by decide +kernel⟩, fun _ h => absurd h List.not_mem_nil⟩) (by decide) (by decide) dk_wk_L_13 dk_wx_eIO (n := 21) rfl (fun q => ?_)
      refine dw_astore (i := 6) (L' := [some (dk_r G 0 40), some (.int a1), some (.int a2), some (.int a3), some (.int a4), some (.ref O.2.1), some (.ref q)]) C dL_addThing_21 (n := 23) rfl (dk_nc_of rfl) (Nat.le_of_ble_eq_true rfl) rfl ?_
      refine dw_iconst (v := 2) C dL_addThing_23 (n := 24) rfl (by decide) ?_
      exact dw_iret C (by decide) (by decide) hrt hlk dL_addThing_24 ⟨rfl, Or.inr ⟨_, by simp, hx⟩⟩
    · refine dw_catch C [⟨0, 14, 17, 15⟩, ⟨0, 14, 21, 13⟩] ⟨0, 14, 25, 38⟩ [⟨0, 14, 29, 17⟩] (by rw [ht]; rfl) (List.forall_mem_cons.mpr ⟨⟨by decide, eIA, dk_wk_L_15, by decide +kernel⟩, List.forall_mem_cons.mpr ⟨⟨by decide, eIO, dk_wk_L_13, by decide +kernel⟩, fun _ h => absurd h List.not_mem_nil⟩⟩) (by decide) (by decide) dk_wk_L_38 dk_wx_eUO (n := 25) rfl (fun q => ?_)
      refine dw_astore (i := 6) (L' := [some (dk_r G 0 40), some (.int a1), some (.int a2), some (.int a3), some (.int a4), some (.ref O.2.1), some (.ref q)]) C dL_addThing_25 (n := 27) rfl (dk_nc_of rfl) (Nat.le_of_ble_eq_true rfl) rfl ?_
      refine dw_iconst (v := 3) C dL_addThing_27 (n := 28) rfl (by decide) ?_
      exact dw_iret C (by decide) (by decide) hrt hlk dL_addThing_28 ⟨rfl, Or.inr ⟨_, by simp, hx⟩⟩
    · refine dw_catch C [⟨0, 14, 17, 15⟩, ⟨0, 14, 21, 13⟩, ⟨0, 14, 25, 38⟩] ⟨0, 14, 29, 17⟩ [] (by rw [ht]; rfl) (List.forall_mem_cons.mpr ⟨⟨by decide, eIA, dk_wk_L_15, by decide +kernel⟩, List.forall_mem_cons.mpr ⟨⟨by decide, eIO, dk_wk_L_13, by decide +kernel⟩, List.forall_mem_cons.mpr ⟨⟨by decide, eUO, dk_wk_L_38, by decide +kernel⟩, fun _ h => absurd h List.not_mem_nil⟩⟩⟩) (by decide) (by decide) dk_wk_L_17 dk_wx_eIS (n := 29) rfl (fun q => ?_)
      refine dw_astore (i := 6) (L' := [some (dk_r G 0 40), some (.int a1), some (.int a2), some (.int a3), some (.int a4), some (.ref O.2.1), some (.ref q)]) C dL_addThing_29 (n := 31) rfl (dk_nc_of rfl) (Nat.le_of_ble_eq_true rfl) rfl ?_
      refine dw_iconst (v := 4) C dL_addThing_31 (n := 32) rfl (by decide) ?_
      exact dw_iret C (by decide) (by decide) hrt hlk dL_addThing_32 ⟨rfl, Or.inr ⟨_, by simp, hx⟩⟩
  · obtain ⟨r, rfl, hr⟩ := hv
    refine dw_i2l C dL_addThing_12 (n := 13) rfl ?_
    refine dw_last C dL_addThing_13 (n := 14) rfl ?_
    refine dw_goto (t := 33) C dL_addThing_14 (by decide) ?_
    refine dw_iconst (v := 0) C dL_addThing_33 (n := 34) rfl (by decide) ?_
    exact dw_iret C (by decide) (by decide) hrt hlk dL_addThing_34 ⟨rfl, Or.inl ⟨r, rfl, hr, rfl⟩⟩
/-! L_aimOf -/
set_option maxRecDepth 20000 in
set_option maxHeartbeats 4000000 in
theorem cw_L_aimOf {G : dk_G} {O : dl_T} {l : Launch} {a1 : Int32} (hD : dk_D G) (hl : l.stackTraces = false) (hri : dk_RI G) (hg : dl_G G O) {σ : dk_S} {fO : Nat → Int64} {fD : Nat → UInt64} {K : Int32 → dk_S → Prop} {X : String → dk_S → Prop} (hX : ∀ E σ', X E σ' → ∃ r, (E, r) ∈ ([(eIO, 1), (eNS, 2)] : List (String × Int32))) (h : wf_X8_aimOf a1 σ K X) : dw_M G O l yL_aimOf cL_aimOf 4 [(0, 9, 12, 13), (0, 9, 15, 62)] [dk_r G 0 40, .int a1, .ref O.2.1] σ fO fD (dw_P K X Int32.toInt64 [(eIO, 1), (eNS, 2)] fD) := by
  refine dw_of hD hg (by decide) [some (dk_r G 0 40), some (.int a1), some (.ref O.2.1), none] (fun q hq => hq) rfl (Nat.le_of_ble_eq_true rfl) (fun p e s m args below meth c C ht hrt hlk => ?_)
  refine dw_aload_n (i := 2) C dL_aimOf_0 (n := 1) rfl rfl rfl ?_
  refine dw_iconst (v := 0) C dL_aimOf_1 (n := 2) rfl (by decide) ?_
  refine dw_aload_n (i := 0) C dL_aimOf_2 (n := 3) rfl rfl rfl ?_
  refine dw_iload_n (i := 1) C dL_aimOf_3 (n := 4) rfl rfl rfl ?_
  refine dw_callX C [.int 0, .ref O.2.1] (cc_X8_aimOf hD hl hri h) yy_X8_aimOf dk_wm_L_101 rfl (by decide) (by decide) dk_sh40 rfl (hri.1 40 (by decide) (by decide)) rfl (Nat.le_of_ble_eq_true rfl) rfl dL_aimOf_4 (n := 7) rfl (fun E σ' hx => ?_) (fun v σ' hv => ?_)
  · obtain ⟨r0, hr0⟩ := hX E σ' hx
    simp only [List.mem_cons, Prod.mk.injEq, List.not_mem_nil, or_false] at hr0
    rcases hr0 with ⟨rfl, rfl⟩ | ⟨rfl, rfl⟩
    · refine dw_catch C [] ⟨0, 9, 12, 13⟩ [⟨0, 9, 15, 62⟩] (by rw [ht]; rfl) (fun _ h => absurd h List.not_mem_nil) (by decide) (by decide) dk_wk_L_13 dk_wx_eIO (n := 12) rfl (fun q => ?_)
      refine dw_astore_n (i := 3) (L' := [some (dk_r G 0 40), some (.int a1), some (.ref O.2.1), some (.ref q)]) C dL_aimOf_12 (n := 13) rfl rfl (dk_nc_of rfl) (Nat.le_of_ble_eq_true rfl) rfl ?_
      refine dw_iconst (v := 1) C dL_aimOf_13 (n := 14) rfl (by decide) ?_
      exact dw_iret C (by decide) (by decide) hrt hlk dL_aimOf_14 ⟨rfl, Or.inr ⟨_, by simp, hx⟩⟩
    · refine dw_catch C [⟨0, 9, 12, 13⟩] ⟨0, 9, 15, 62⟩ [] (by rw [ht]; rfl) (List.forall_mem_cons.mpr ⟨⟨by decide, eIO, dk_wk_L_13, by decide +kernel⟩, fun _ h => absurd h List.not_mem_nil⟩) (by decide) (by decide) dk_wk_L_62 dk_wx_eNS (n := 15) rfl (fun q => ?_)
      refine dw_astore_n (i := 3) (L' := [some (dk_r G 0 40), some (.int a1), some (.ref O.2.1), some (.ref q)]) C dL_aimOf_15 (n := 16) rfl rfl (dk_nc_of rfl) (Nat.le_of_ble_eq_true rfl) rfl ?_
      refine dw_iconst (v := 2) C dL_aimOf_16 (n := 17) rfl (by decide) ?_
      exact dw_iret C (by decide) (by decide) hrt hlk dL_aimOf_17 ⟨rfl, Or.inr ⟨_, by simp, hx⟩⟩
  · obtain ⟨r, rfl, hr⟩ := hv
    refine dw_i2l C dL_aimOf_7 (n := 8) rfl ?_
    refine dw_last C dL_aimOf_8 (n := 9) rfl ?_
    refine dw_goto (t := 18) C dL_aimOf_9 (by decide) ?_
    refine dw_iconst (v := 0) C dL_aimOf_18 (n := 19) rfl (by decide) ?_
    exact dw_iret C (by decide) (by decide) hrt hlk dL_aimOf_19 ⟨rfl, Or.inl ⟨r, rfl, hr, rfl⟩⟩
/-! L_begin -/
set_option maxRecDepth 20000 in
set_option maxHeartbeats 4000000 in
theorem cw_L_begin {G : dk_G} {O : dl_T} {l : Launch} {a1 : Int32} (hD : dk_D G) (hl : l.stackTraces = false) (hri : dk_RI G) (hg : dl_G G O) {σ : dk_S} {fO : Nat → Int64} {fD : Nat → UInt64} {K : Int32 → dk_S → Prop} {X : String → dk_S → Prop} (hX : ∀ E σ', X E σ' → ∃ r, (E, r) ∈ ([(eIA, 1), (eIS, 2)] : List (String × Int32))) (h : wf_X8_begin a1 σ K X) : dw_M G O l yL_begin cL_begin 4 [(0, 9, 12, 15), (0, 9, 15, 17)] [dk_r G 0 40, .int a1, .ref O.2.1] σ fO fD (dw_P K X Int32.toInt64 [(eIA, 1), (eIS, 2)] fD) := by
  refine dw_of hD hg (by decide) [some (dk_r G 0 40), some (.int a1), some (.ref O.2.1), none] (fun q hq => hq) rfl (Nat.le_of_ble_eq_true rfl) (fun p e s m args below meth c C ht hrt hlk => ?_)
  refine dw_aload_n (i := 2) C dL_begin_0 (n := 1) rfl rfl rfl ?_
  refine dw_iconst (v := 0) C dL_begin_1 (n := 2) rfl (by decide) ?_
  refine dw_aload_n (i := 0) C dL_begin_2 (n := 3) rfl rfl rfl ?_
  refine dw_iload_n (i := 1) C dL_begin_3 (n := 4) rfl rfl rfl ?_
  refine dw_callX C [.int 0, .ref O.2.1] (cc_X8_begin hD hl hri h) yy_X8_begin dk_wm_L_44 rfl (by decide) (by decide) dk_sh40 rfl (hri.1 40 (by decide) (by decide)) rfl (Nat.le_of_ble_eq_true rfl) rfl dL_begin_4 (n := 7) rfl (fun E σ' hx => ?_) (fun v σ' hv => ?_)
  · obtain ⟨r0, hr0⟩ := hX E σ' hx
    simp only [List.mem_cons, Prod.mk.injEq, List.not_mem_nil, or_false] at hr0
    rcases hr0 with ⟨rfl, rfl⟩ | ⟨rfl, rfl⟩
    · refine dw_catch C [] ⟨0, 9, 12, 15⟩ [⟨0, 9, 15, 17⟩] (by rw [ht]; rfl) (fun _ h => absurd h List.not_mem_nil) (by decide) (by decide) dk_wk_L_15 dk_wx_eIA (n := 12) rfl (fun q => ?_)
      refine dw_astore_n (i := 3) (L' := [some (dk_r G 0 40), some (.int a1), some (.ref O.2.1), some (.ref q)]) C dL_begin_12 (n := 13) rfl rfl (dk_nc_of rfl) (Nat.le_of_ble_eq_true rfl) rfl ?_
      refine dw_iconst (v := 1) C dL_begin_13 (n := 14) rfl (by decide) ?_
      exact dw_iret C (by decide) (by decide) hrt hlk dL_begin_14 ⟨rfl, Or.inr ⟨_, by simp, hx⟩⟩
    · refine dw_catch C [⟨0, 9, 12, 15⟩] ⟨0, 9, 15, 17⟩ [] (by rw [ht]; rfl) (List.forall_mem_cons.mpr ⟨⟨by decide, eIA, dk_wk_L_15, by decide +kernel⟩, fun _ h => absurd h List.not_mem_nil⟩) (by decide) (by decide) dk_wk_L_17 dk_wx_eIS (n := 15) rfl (fun q => ?_)
      refine dw_astore_n (i := 3) (L' := [some (dk_r G 0 40), some (.int a1), some (.ref O.2.1), some (.ref q)]) C dL_begin_15 (n := 16) rfl rfl (dk_nc_of rfl) (Nat.le_of_ble_eq_true rfl) rfl ?_
      refine dw_iconst (v := 2) C dL_begin_16 (n := 17) rfl (by decide) ?_
      exact dw_iret C (by decide) (by decide) hrt hlk dL_begin_17 ⟨rfl, Or.inr ⟨_, by simp, hx⟩⟩
  · obtain ⟨r, rfl, hr⟩ := hv
    refine dw_i2l C dL_begin_7 (n := 8) rfl ?_
    refine dw_last C dL_begin_8 (n := 9) rfl ?_
    refine dw_goto (t := 18) C dL_begin_9 (by decide) ?_
    refine dw_iconst (v := 0) C dL_begin_18 (n := 19) rfl (by decide) ?_
    exact dw_iret C (by decide) (by decide) hrt hlk dL_begin_19 ⟨rfl, Or.inl ⟨r, rfl, hr, rfl⟩⟩
/-! L_cell -/
set_option maxRecDepth 20000 in
set_option maxHeartbeats 4000000 in
theorem cw_L_cell {G : dk_G} {O : dl_T} {l : Launch} {a1 : Int32} {a2 : Int32} (hD : dk_D G) (hl : l.stackTraces = false) (hri : dk_RI G) (hg : dl_G G O) {σ : dk_S} {fO : Nat → Int64} {fD : Nat → UInt64} {K : Int32 → dk_S → Prop} {X : String → dk_S → Prop} (hX : ∀ E σ', X E σ' → ∃ r, (E, r) ∈ ([(eIO, 1)] : List (String × Int32))) (h : wf_X8_cell a1 a2 σ K X) : dw_M G O l yL_cell cL_cell 5 [(0, 10, 13, 13)] [dk_r G 0 40, .int a1, .int a2, .ref O.2.1] σ fO fD (dw_P K X Int32.toInt64 [(eIO, 1)] fD) := by
  refine dw_of hD hg (by decide) [some (dk_r G 0 40), some (.int a1), some (.int a2), some (.ref O.2.1), none] (fun q hq => hq) rfl (Nat.le_of_ble_eq_true rfl) (fun p e s m args below meth c C ht hrt hlk => ?_)
  refine dw_aload_n (i := 3) C dL_cell_0 (n := 1) rfl rfl rfl ?_
  refine dw_iconst (v := 0) C dL_cell_1 (n := 2) rfl (by decide) ?_
  refine dw_aload_n (i := 0) C dL_cell_2 (n := 3) rfl rfl rfl ?_
  refine dw_iload_n (i := 1) C dL_cell_3 (n := 4) rfl rfl rfl ?_
  refine dw_iload_n (i := 2) C dL_cell_4 (n := 5) rfl rfl rfl ?_
  refine dw_callX C [.int 0, .ref O.2.1] (cc_X8_cell hD hl hri h) yy_X8_cell dk_wm_L_83 rfl (by decide) (by decide) dk_sh40 rfl (hri.1 40 (by decide) (by decide)) rfl (Nat.le_of_ble_eq_true rfl) rfl dL_cell_5 (n := 8) rfl (fun E σ' hx => ?_) (fun v σ' hv => ?_)
  · obtain ⟨r0, hr0⟩ := hX E σ' hx
    simp only [List.mem_cons, Prod.mk.injEq, List.not_mem_nil, or_false] at hr0
    rcases hr0 with ⟨rfl, rfl⟩
    · refine dw_catch C [] ⟨0, 10, 13, 13⟩ [] (by rw [ht]; rfl) (fun _ h => absurd h List.not_mem_nil) (by decide) (by decide) dk_wk_L_13 dk_wx_eIO (n := 13) rfl (fun q => ?_)
      refine dw_astore (i := 4) (L' := [some (dk_r G 0 40), some (.int a1), some (.int a2), some (.ref O.2.1), some (.ref q)]) C dL_cell_13 (n := 15) rfl (dk_nc_of rfl) (Nat.le_of_ble_eq_true rfl) rfl ?_
      refine dw_iconst (v := 1) C dL_cell_15 (n := 16) rfl (by decide) ?_
      exact dw_iret C (by decide) (by decide) hrt hlk dL_cell_16 ⟨rfl, Or.inr ⟨_, by simp, hx⟩⟩
  · obtain ⟨r, rfl, hr⟩ := hv
    refine dw_i2l C dL_cell_8 (n := 9) rfl ?_
    refine dw_last C dL_cell_9 (n := 10) rfl ?_
    refine dw_goto (t := 17) C dL_cell_10 (by decide) ?_
    refine dw_iconst (v := 0) C dL_cell_17 (n := 18) rfl (by decide) ?_
    exact dw_iret C (by decide) (by decide) hrt hlk dL_cell_18 ⟨rfl, Or.inl ⟨r, rfl, hr, rfl⟩⟩
/-! L_dig -/
set_option maxRecDepth 20000 in
set_option maxHeartbeats 4000000 in
theorem cw_L_dig {G : dk_G} {O : dl_T} {l : Launch} {a1 : Int32} {a2 : Int32} {a3 : Int32} (hD : dk_D G) (hl : l.stackTraces = false) (hri : dk_RI G) (hg : dl_G G O) {σ : dk_S} {fO : Nat → Int64} {fD : Nat → UInt64} {K : Int32 → dk_S → Prop} {X : String → dk_S → Prop} (hX : ∀ E σ', X E σ' → ∃ r, (E, r) ∈ ([(eIO, 1), (eIA, 2), (eIS, 3)] : List (String × Int32))) (h : wf_X8_dig a1 a2 a3 σ K X) : dw_M G O l yL_dig cL_dig 6 [(0, 12, 15, 13), (0, 12, 19, 15), (0, 12, 23, 17)] [dk_r G 0 40, .int a1, .int a2, .int a3, .ref O.2.1] σ fO fD (dw_P K X Int32.toInt64 [(eIO, 1), (eIA, 2), (eIS, 3)] fD) := by
  refine dw_of hD hg (by decide) [some (dk_r G 0 40), some (.int a1), some (.int a2), some (.int a3), some (.ref O.2.1), none] (fun q hq => hq) rfl (Nat.le_of_ble_eq_true rfl) (fun p e s m args below meth c C ht hrt hlk => ?_)
  refine dw_aload (i := 4) C dL_dig_0 (n := 2) rfl rfl ?_
  refine dw_iconst (v := 0) C dL_dig_2 (n := 3) rfl (by decide) ?_
  refine dw_aload_n (i := 0) C dL_dig_3 (n := 4) rfl rfl rfl ?_
  refine dw_iload_n (i := 1) C dL_dig_4 (n := 5) rfl rfl rfl ?_
  refine dw_iload_n (i := 2) C dL_dig_5 (n := 6) rfl rfl rfl ?_
  refine dw_iload_n (i := 3) C dL_dig_6 (n := 7) rfl rfl rfl ?_
  refine dw_callX C [.int 0, .ref O.2.1] (cc_X8_dig hD hl hri h) yy_X8_dig dk_wm_L_7 rfl (by decide) (by decide) dk_sh40 rfl (hri.1 40 (by decide) (by decide)) rfl (Nat.le_of_ble_eq_true rfl) rfl dL_dig_7 (n := 10) rfl (fun E σ' hx => ?_) (fun v σ' hv => ?_)
  · obtain ⟨r0, hr0⟩ := hX E σ' hx
    simp only [List.mem_cons, Prod.mk.injEq, List.not_mem_nil, or_false] at hr0
    rcases hr0 with ⟨rfl, rfl⟩ | ⟨rfl, rfl⟩ | ⟨rfl, rfl⟩
    · refine dw_catch C [] ⟨0, 12, 15, 13⟩ [⟨0, 12, 19, 15⟩, ⟨0, 12, 23, 17⟩] (by rw [ht]; rfl) (fun _ h => absurd h List.not_mem_nil) (by decide) (by decide) dk_wk_L_13 dk_wx_eIO (n := 15) rfl (fun q => ?_)
      refine dw_astore (i := 5) (L' := [some (dk_r G 0 40), some (.int a1), some (.int a2), some (.int a3), some (.ref O.2.1), some (.ref q)]) C dL_dig_15 (n := 17) rfl (dk_nc_of rfl) (Nat.le_of_ble_eq_true rfl) rfl ?_
      refine dw_iconst (v := 1) C dL_dig_17 (n := 18) rfl (by decide) ?_
      exact dw_iret C (by decide) (by decide) hrt hlk dL_dig_18 ⟨rfl, Or.inr ⟨_, by simp, hx⟩⟩
    · refine dw_catch C [⟨0, 12, 15, 13⟩] ⟨0, 12, 19, 15⟩ [⟨0, 12, 23, 17⟩] (by rw [ht]; rfl) (List.forall_mem_cons.mpr ⟨⟨by decide, eIO, dk_wk_L_13, by decide +kernel⟩, fun _ h => absurd h List.not_mem_nil⟩) (by decide) (by decide) dk_wk_L_15 dk_wx_eIA (n := 19) rfl (fun q => ?_)
      refine dw_astore (i := 5) (L' := [some (dk_r G 0 40), some (.int a1), some (.int a2), some (.int a3), some (.ref O.2.1), some (.ref q)]) C dL_dig_19 (n := 21) rfl (dk_nc_of rfl) (Nat.le_of_ble_eq_true rfl) rfl ?_
      refine dw_iconst (v := 2) C dL_dig_21 (n := 22) rfl (by decide) ?_
      exact dw_iret C (by decide) (by decide) hrt hlk dL_dig_22 ⟨rfl, Or.inr ⟨_, by simp, hx⟩⟩
    · refine dw_catch C [⟨0, 12, 15, 13⟩, ⟨0, 12, 19, 15⟩] ⟨0, 12, 23, 17⟩ [] (by rw [ht]; rfl) (List.forall_mem_cons.mpr ⟨⟨by decide, eIO, dk_wk_L_13, by decide +kernel⟩, List.forall_mem_cons.mpr ⟨⟨by decide, eIA, dk_wk_L_15, by decide +kernel⟩, fun _ h => absurd h List.not_mem_nil⟩⟩) (by decide) (by decide) dk_wk_L_17 dk_wx_eIS (n := 23) rfl (fun q => ?_)
      refine dw_astore (i := 5) (L' := [some (dk_r G 0 40), some (.int a1), some (.int a2), some (.int a3), some (.ref O.2.1), some (.ref q)]) C dL_dig_23 (n := 25) rfl (dk_nc_of rfl) (Nat.le_of_ble_eq_true rfl) rfl ?_
      refine dw_iconst (v := 3) C dL_dig_25 (n := 26) rfl (by decide) ?_
      exact dw_iret C (by decide) (by decide) hrt hlk dL_dig_26 ⟨rfl, Or.inr ⟨_, by simp, hx⟩⟩
  · obtain ⟨r, rfl, hr⟩ := hv
    refine dw_i2l C dL_dig_10 (n := 11) rfl ?_
    refine dw_last C dL_dig_11 (n := 12) rfl ?_
    refine dw_goto (t := 27) C dL_dig_12 (by decide) ?_
    refine dw_iconst (v := 0) C dL_dig_27 (n := 28) rfl (by decide) ?_
    exact dw_iret C (by decide) (by decide) hrt hlk dL_dig_28 ⟨rfl, Or.inl ⟨r, rfl, hr, rfl⟩⟩
/-! L_drink -/
set_option maxRecDepth 20000 in
set_option maxHeartbeats 4000000 in
theorem cw_L_drink {G : dk_G} {O : dl_T} {l : Launch} {a1 : Int32} (hD : dk_D G) (hl : l.stackTraces = false) (hri : dk_RI G) (hg : dl_G G O) {σ : dk_S} {fO : Nat → Int64} {fD : Nat → UInt64} {K : Int32 → dk_S → Prop} {X : String → dk_S → Prop} (hX : ∀ E σ', X E σ' → ∃ r, (E, r) ∈ ([(eIO, 1), (eIS, 2), (eNS, 3), (eUO, 4)] : List (String × Int32))) (h : wf_X8_drink a1 σ K X) : dw_M G O l yL_drink cL_drink 4 [(0, 9, 12, 13), (0, 9, 15, 17), (0, 9, 18, 62), (0, 9, 21, 38)] [dk_r G 0 40, .int a1, .ref O.2.1] σ fO fD (dw_P K X Int32.toInt64 [(eIO, 1), (eIS, 2), (eNS, 3), (eUO, 4)] fD) := by
  refine dw_of hD hg (by decide) [some (dk_r G 0 40), some (.int a1), some (.ref O.2.1), none] (fun q hq => hq) rfl (Nat.le_of_ble_eq_true rfl) (fun p e s m args below meth c C ht hrt hlk => ?_)
  refine dw_aload_n (i := 2) C dL_drink_0 (n := 1) rfl rfl rfl ?_
  refine dw_iconst (v := 0) C dL_drink_1 (n := 2) rfl (by decide) ?_
  refine dw_aload_n (i := 0) C dL_drink_2 (n := 3) rfl rfl rfl ?_
  refine dw_iload_n (i := 1) C dL_drink_3 (n := 4) rfl rfl rfl ?_
  refine dw_callX C [.int 0, .ref O.2.1] (cc_X8_drink hD hl hri h) yy_X8_drink dk_wm_L_71 rfl (by decide) (by decide) dk_sh40 rfl (hri.1 40 (by decide) (by decide)) rfl (Nat.le_of_ble_eq_true rfl) rfl dL_drink_4 (n := 7) rfl (fun E σ' hx => ?_) (fun v σ' hv => ?_)
  · obtain ⟨r0, hr0⟩ := hX E σ' hx
    simp only [List.mem_cons, Prod.mk.injEq, List.not_mem_nil, or_false] at hr0
    rcases hr0 with ⟨rfl, rfl⟩ | ⟨rfl, rfl⟩ | ⟨rfl, rfl⟩ | ⟨rfl, rfl⟩
    · refine dw_catch C [] ⟨0, 9, 12, 13⟩ [⟨0, 9, 15, 17⟩, ⟨0, 9, 18, 62⟩, ⟨0, 9, 21, 38⟩] (by rw [ht]; rfl) (fun _ h => absurd h List.not_mem_nil) (by decide) (by decide) dk_wk_L_13 dk_wx_eIO (n := 12) rfl (fun q => ?_)
      refine dw_astore_n (i := 3) (L' := [some (dk_r G 0 40), some (.int a1), some (.ref O.2.1), some (.ref q)]) C dL_drink_12 (n := 13) rfl rfl (dk_nc_of rfl) (Nat.le_of_ble_eq_true rfl) rfl ?_
      refine dw_iconst (v := 1) C dL_drink_13 (n := 14) rfl (by decide) ?_
      exact dw_iret C (by decide) (by decide) hrt hlk dL_drink_14 ⟨rfl, Or.inr ⟨_, by simp, hx⟩⟩
    · refine dw_catch C [⟨0, 9, 12, 13⟩] ⟨0, 9, 15, 17⟩ [⟨0, 9, 18, 62⟩, ⟨0, 9, 21, 38⟩] (by rw [ht]; rfl) (List.forall_mem_cons.mpr ⟨⟨by decide, eIO, dk_wk_L_13, by decide +kernel⟩, fun _ h => absurd h List.not_mem_nil⟩) (by decide) (by decide) dk_wk_L_17 dk_wx_eIS (n := 15) rfl (fun q => ?_)
      refine dw_astore_n (i := 3) (L' := [some (dk_r G 0 40), some (.int a1), some (.ref O.2.1), some (.ref q)]) C dL_drink_15 (n := 16) rfl rfl (dk_nc_of rfl) (Nat.le_of_ble_eq_true rfl) rfl ?_
      refine dw_iconst (v := 2) C dL_drink_16 (n := 17) rfl (by decide) ?_
      exact dw_iret C (by decide) (by decide) hrt hlk dL_drink_17 ⟨rfl, Or.inr ⟨_, by simp, hx⟩⟩
    · refine dw_catch C [⟨0, 9, 12, 13⟩, ⟨0, 9, 15, 17⟩] ⟨0, 9, 18, 62⟩ [⟨0, 9, 21, 38⟩] (by rw [ht]; rfl) (List.forall_mem_cons.mpr ⟨⟨by decide, eIO, dk_wk_L_13, by decide +kernel⟩, List.forall_mem_cons.mpr ⟨⟨by decide, eIS, dk_wk_L_17, by decide +kernel⟩, fun _ h => absurd h List.not_mem_nil⟩⟩) (by decide) (by decide) dk_wk_L_62 dk_wx_eNS (n := 18) rfl (fun q => ?_)
      refine dw_astore_n (i := 3) (L' := [some (dk_r G 0 40), some (.int a1), some (.ref O.2.1), some (.ref q)]) C dL_drink_18 (n := 19) rfl rfl (dk_nc_of rfl) (Nat.le_of_ble_eq_true rfl) rfl ?_
      refine dw_iconst (v := 3) C dL_drink_19 (n := 20) rfl (by decide) ?_
      exact dw_iret C (by decide) (by decide) hrt hlk dL_drink_20 ⟨rfl, Or.inr ⟨_, by simp, hx⟩⟩
    · refine dw_catch C [⟨0, 9, 12, 13⟩, ⟨0, 9, 15, 17⟩, ⟨0, 9, 18, 62⟩] ⟨0, 9, 21, 38⟩ [] (by rw [ht]; rfl) (List.forall_mem_cons.mpr ⟨⟨by decide, eIO, dk_wk_L_13, by decide +kernel⟩, List.forall_mem_cons.mpr ⟨⟨by decide, eIS, dk_wk_L_17, by decide +kernel⟩, List.forall_mem_cons.mpr ⟨⟨by decide, eNS, dk_wk_L_62, by decide +kernel⟩, fun _ h => absurd h List.not_mem_nil⟩⟩⟩) (by decide) (by decide) dk_wk_L_38 dk_wx_eUO (n := 21) rfl (fun q => ?_)
      refine dw_astore_n (i := 3) (L' := [some (dk_r G 0 40), some (.int a1), some (.ref O.2.1), some (.ref q)]) C dL_drink_21 (n := 22) rfl rfl (dk_nc_of rfl) (Nat.le_of_ble_eq_true rfl) rfl ?_
      refine dw_iconst (v := 4) C dL_drink_22 (n := 23) rfl (by decide) ?_
      exact dw_iret C (by decide) (by decide) hrt hlk dL_drink_23 ⟨rfl, Or.inr ⟨_, by simp, hx⟩⟩
  · obtain ⟨r, rfl, hr⟩ := hv
    refine dw_i2l C dL_drink_7 (n := 8) rfl ?_
    refine dw_last C dL_drink_8 (n := 9) rfl ?_
    refine dw_goto (t := 24) C dL_drink_9 (by decide) ?_
    refine dw_iconst (v := 0) C dL_drink_24 (n := 25) rfl (by decide) ?_
    exact dw_iret C (by decide) (by decide) hrt hlk dL_drink_25 ⟨rfl, Or.inl ⟨r, rfl, hr, rfl⟩⟩
/-! L_drop -/
set_option maxRecDepth 20000 in
set_option maxHeartbeats 4000000 in
theorem cw_L_drop {G : dk_G} {O : dl_T} {l : Launch} {a1 : Int32} (hD : dk_D G) (hl : l.stackTraces = false) (hri : dk_RI G) (hg : dl_G G O) {σ : dk_S} {fO : Nat → Int64} {fD : Nat → UInt64} {K : Int32 → dk_S → Prop} {X : String → dk_S → Prop} (hX : ∀ E σ', X E σ' → ∃ r, (E, r) ∈ ([(eIO, 1), (eIS, 2), (eNS, 3)] : List (String × Int32))) (h : wf_X8_drop a1 σ K X) : dw_M G O l yL_drop cL_drop 4 [(0, 9, 12, 13), (0, 9, 15, 17), (0, 9, 18, 62)] [dk_r G 0 40, .int a1, .ref O.2.1] σ fO fD (dw_P K X Int32.toInt64 [(eIO, 1), (eIS, 2), (eNS, 3)] fD) := by
  refine dw_of hD hg (by decide) [some (dk_r G 0 40), some (.int a1), some (.ref O.2.1), none] (fun q hq => hq) rfl (Nat.le_of_ble_eq_true rfl) (fun p e s m args below meth c C ht hrt hlk => ?_)
  refine dw_aload_n (i := 2) C dL_drop_0 (n := 1) rfl rfl rfl ?_
  refine dw_iconst (v := 0) C dL_drop_1 (n := 2) rfl (by decide) ?_
  refine dw_aload_n (i := 0) C dL_drop_2 (n := 3) rfl rfl rfl ?_
  refine dw_iload_n (i := 1) C dL_drop_3 (n := 4) rfl rfl rfl ?_
  refine dw_callX C [.int 0, .ref O.2.1] (cc_X8_drop hD hl hri h) yy_X8_drop dk_wm_L_64 rfl (by decide) (by decide) dk_sh40 rfl (hri.1 40 (by decide) (by decide)) rfl (Nat.le_of_ble_eq_true rfl) rfl dL_drop_4 (n := 7) rfl (fun E σ' hx => ?_) (fun v σ' hv => ?_)
  · obtain ⟨r0, hr0⟩ := hX E σ' hx
    simp only [List.mem_cons, Prod.mk.injEq, List.not_mem_nil, or_false] at hr0
    rcases hr0 with ⟨rfl, rfl⟩ | ⟨rfl, rfl⟩ | ⟨rfl, rfl⟩
    · refine dw_catch C [] ⟨0, 9, 12, 13⟩ [⟨0, 9, 15, 17⟩, ⟨0, 9, 18, 62⟩] (by rw [ht]; rfl) (fun _ h => absurd h List.not_mem_nil) (by decide) (by decide) dk_wk_L_13 dk_wx_eIO (n := 12) rfl (fun q => ?_)
      refine dw_astore_n (i := 3) (L' := [some (dk_r G 0 40), some (.int a1), some (.ref O.2.1), some (.ref q)]) C dL_drop_12 (n := 13) rfl rfl (dk_nc_of rfl) (Nat.le_of_ble_eq_true rfl) rfl ?_
      refine dw_iconst (v := 1) C dL_drop_13 (n := 14) rfl (by decide) ?_
      exact dw_iret C (by decide) (by decide) hrt hlk dL_drop_14 ⟨rfl, Or.inr ⟨_, by simp, hx⟩⟩
    · refine dw_catch C [⟨0, 9, 12, 13⟩] ⟨0, 9, 15, 17⟩ [⟨0, 9, 18, 62⟩] (by rw [ht]; rfl) (List.forall_mem_cons.mpr ⟨⟨by decide, eIO, dk_wk_L_13, by decide +kernel⟩, fun _ h => absurd h List.not_mem_nil⟩) (by decide) (by decide) dk_wk_L_17 dk_wx_eIS (n := 15) rfl (fun q => ?_)
      refine dw_astore_n (i := 3) (L' := [some (dk_r G 0 40), some (.int a1), some (.ref O.2.1), some (.ref q)]) C dL_drop_15 (n := 16) rfl rfl (dk_nc_of rfl) (Nat.le_of_ble_eq_true rfl) rfl ?_
      refine dw_iconst (v := 2) C dL_drop_16 (n := 17) rfl (by decide) ?_
      exact dw_iret C (by decide) (by decide) hrt hlk dL_drop_17 ⟨rfl, Or.inr ⟨_, by simp, hx⟩⟩
    · refine dw_catch C [⟨0, 9, 12, 13⟩, ⟨0, 9, 15, 17⟩] ⟨0, 9, 18, 62⟩ [] (by rw [ht]; rfl) (List.forall_mem_cons.mpr ⟨⟨by decide, eIO, dk_wk_L_13, by decide +kernel⟩, List.forall_mem_cons.mpr ⟨⟨by decide, eIS, dk_wk_L_17, by decide +kernel⟩, fun _ h => absurd h List.not_mem_nil⟩⟩) (by decide) (by decide) dk_wk_L_62 dk_wx_eNS (n := 18) rfl (fun q => ?_)
      refine dw_astore_n (i := 3) (L' := [some (dk_r G 0 40), some (.int a1), some (.ref O.2.1), some (.ref q)]) C dL_drop_18 (n := 19) rfl rfl (dk_nc_of rfl) (Nat.le_of_ble_eq_true rfl) rfl ?_
      refine dw_iconst (v := 3) C dL_drop_19 (n := 20) rfl (by decide) ?_
      exact dw_iret C (by decide) (by decide) hrt hlk dL_drop_20 ⟨rfl, Or.inr ⟨_, by simp, hx⟩⟩
  · obtain ⟨r, rfl, hr⟩ := hv
    refine dw_i2l C dL_drop_7 (n := 8) rfl ?_
    refine dw_last C dL_drop_8 (n := 9) rfl ?_
    refine dw_goto (t := 21) C dL_drop_9 (by decide) ?_
    refine dw_iconst (v := 0) C dL_drop_21 (n := 22) rfl (by decide) ?_
    exact dw_iret C (by decide) (by decide) hrt hlk dL_drop_22 ⟨rfl, Or.inl ⟨r, rfl, hr, rfl⟩⟩
/-! L_go -/
set_option maxRecDepth 20000 in
set_option maxHeartbeats 4000000 in
theorem cw_L_go {G : dk_G} {O : dl_T} {l : Launch} {a1 : Int32} (hD : dk_D G) (hl : l.stackTraces = false) (hri : dk_RI G) (hg : dl_G G O) {σ : dk_S} {fO : Nat → Int64} {fD : Nat → UInt64} {K : Int32 → dk_S → Prop} {X : String → dk_S → Prop} (hX : ∀ E σ', X E σ' → ∃ r, (E, r) ∈ ([(eIA, 1), (eIS, 2)] : List (String × Int32))) (h : wf_X8_go a1 σ K X) : dw_M G O l yL_go cL_go 4 [(0, 9, 12, 15), (0, 9, 15, 17)] [dk_r G 0 40, .int a1, .ref O.2.1] σ fO fD (dw_P K X Int32.toInt64 [(eIA, 1), (eIS, 2)] fD) := by
  refine dw_of hD hg (by decide) [some (dk_r G 0 40), some (.int a1), some (.ref O.2.1), none] (fun q hq => hq) rfl (Nat.le_of_ble_eq_true rfl) (fun p e s m args below meth c C ht hrt hlk => ?_)
  refine dw_aload_n (i := 2) C dL_go_0 (n := 1) rfl rfl rfl ?_
  refine dw_iconst (v := 0) C dL_go_1 (n := 2) rfl (by decide) ?_
  refine dw_aload_n (i := 0) C dL_go_2 (n := 3) rfl rfl rfl ?_
  refine dw_iload_n (i := 1) C dL_go_3 (n := 4) rfl rfl rfl ?_
  refine dw_callX C [.int 0, .ref O.2.1] (cc_X8_go hD hl hri h) yy_X8_go dk_wm_L_52 rfl (by decide) (by decide) dk_sh40 rfl (hri.1 40 (by decide) (by decide)) rfl (Nat.le_of_ble_eq_true rfl) rfl dL_go_4 (n := 7) rfl (fun E σ' hx => ?_) (fun v σ' hv => ?_)
  · obtain ⟨r0, hr0⟩ := hX E σ' hx
    simp only [List.mem_cons, Prod.mk.injEq, List.not_mem_nil, or_false] at hr0
    rcases hr0 with ⟨rfl, rfl⟩ | ⟨rfl, rfl⟩
    · refine dw_catch C [] ⟨0, 9, 12, 15⟩ [⟨0, 9, 15, 17⟩] (by rw [ht]; rfl) (fun _ h => absurd h List.not_mem_nil) (by decide) (by decide) dk_wk_L_15 dk_wx_eIA (n := 12) rfl (fun q => ?_)
      refine dw_astore_n (i := 3) (L' := [some (dk_r G 0 40), some (.int a1), some (.ref O.2.1), some (.ref q)]) C dL_go_12 (n := 13) rfl rfl (dk_nc_of rfl) (Nat.le_of_ble_eq_true rfl) rfl ?_
      refine dw_iconst (v := 1) C dL_go_13 (n := 14) rfl (by decide) ?_
      exact dw_iret C (by decide) (by decide) hrt hlk dL_go_14 ⟨rfl, Or.inr ⟨_, by simp, hx⟩⟩
    · refine dw_catch C [⟨0, 9, 12, 15⟩] ⟨0, 9, 15, 17⟩ [] (by rw [ht]; rfl) (List.forall_mem_cons.mpr ⟨⟨by decide, eIA, dk_wk_L_15, by decide +kernel⟩, fun _ h => absurd h List.not_mem_nil⟩) (by decide) (by decide) dk_wk_L_17 dk_wx_eIS (n := 15) rfl (fun q => ?_)
      refine dw_astore_n (i := 3) (L' := [some (dk_r G 0 40), some (.int a1), some (.ref O.2.1), some (.ref q)]) C dL_go_15 (n := 16) rfl rfl (dk_nc_of rfl) (Nat.le_of_ble_eq_true rfl) rfl ?_
      refine dw_iconst (v := 2) C dL_go_16 (n := 17) rfl (by decide) ?_
      exact dw_iret C (by decide) (by decide) hrt hlk dL_go_17 ⟨rfl, Or.inr ⟨_, by simp, hx⟩⟩
  · obtain ⟨r, rfl, hr⟩ := hv
    refine dw_i2l C dL_go_7 (n := 8) rfl ?_
    refine dw_last C dL_go_8 (n := 9) rfl ?_
    refine dw_goto (t := 18) C dL_go_9 (by decide) ?_
    refine dw_iconst (v := 0) C dL_go_18 (n := 19) rfl (by decide) ?_
    exact dw_iret C (by decide) (by decide) hrt hlk dL_go_19 ⟨rfl, Or.inl ⟨r, rfl, hr, rfl⟩⟩
/-! L_healthOf -/
set_option maxRecDepth 20000 in
set_option maxHeartbeats 4000000 in
theorem cw_L_healthOf {G : dk_G} {O : dl_T} {l : Launch} {a1 : Int32} (hD : dk_D G) (hl : l.stackTraces = false) (hri : dk_RI G) (hg : dl_G G O) {σ : dk_S} {fO : Nat → Int64} {fD : Nat → UInt64} {K : Int32 → dk_S → Prop} {X : String → dk_S → Prop} (hX : ∀ E σ', X E σ' → ∃ r, (E, r) ∈ ([(eIO, 1)] : List (String × Int32))) (h : wf_X8_healthOf a1 σ K X) : dw_M G O l yL_healthOf cL_healthOf 4 [(0, 9, 12, 13)] [dk_r G 0 40, .int a1, .ref O.2.1] σ fO fD (dw_P K X Int32.toInt64 [(eIO, 1)] fD) := by
  refine dw_of hD hg (by decide) [some (dk_r G 0 40), some (.int a1), some (.ref O.2.1), none] (fun q hq => hq) rfl (Nat.le_of_ble_eq_true rfl) (fun p e s m args below meth c C ht hrt hlk => ?_)
  refine dw_aload_n (i := 2) C dL_healthOf_0 (n := 1) rfl rfl rfl ?_
  refine dw_iconst (v := 0) C dL_healthOf_1 (n := 2) rfl (by decide) ?_
  refine dw_aload_n (i := 0) C dL_healthOf_2 (n := 3) rfl rfl rfl ?_
  refine dw_iload_n (i := 1) C dL_healthOf_3 (n := 4) rfl rfl rfl ?_
  refine dw_callX C [.int 0, .ref O.2.1] (cc_X8_healthOf hD hl hri h) yy_X8_healthOf dk_wm_L_98 rfl (by decide) (by decide) dk_sh40 rfl (hri.1 40 (by decide) (by decide)) rfl (Nat.le_of_ble_eq_true rfl) rfl dL_healthOf_4 (n := 7) rfl (fun E σ' hx => ?_) (fun v σ' hv => ?_)
  · obtain ⟨r0, hr0⟩ := hX E σ' hx
    simp only [List.mem_cons, Prod.mk.injEq, List.not_mem_nil, or_false] at hr0
    rcases hr0 with ⟨rfl, rfl⟩
    · refine dw_catch C [] ⟨0, 9, 12, 13⟩ [] (by rw [ht]; rfl) (fun _ h => absurd h List.not_mem_nil) (by decide) (by decide) dk_wk_L_13 dk_wx_eIO (n := 12) rfl (fun q => ?_)
      refine dw_astore_n (i := 3) (L' := [some (dk_r G 0 40), some (.int a1), some (.ref O.2.1), some (.ref q)]) C dL_healthOf_12 (n := 13) rfl rfl (dk_nc_of rfl) (Nat.le_of_ble_eq_true rfl) rfl ?_
      refine dw_iconst (v := 1) C dL_healthOf_13 (n := 14) rfl (by decide) ?_
      exact dw_iret C (by decide) (by decide) hrt hlk dL_healthOf_14 ⟨rfl, Or.inr ⟨_, by simp, hx⟩⟩
  · obtain ⟨r, rfl, hr⟩ := hv
    refine dw_i2l C dL_healthOf_7 (n := 8) rfl ?_
    refine dw_last C dL_healthOf_8 (n := 9) rfl ?_
    refine dw_goto (t := 15) C dL_healthOf_9 (by decide) ?_
    refine dw_iconst (v := 0) C dL_healthOf_15 (n := 16) rfl (by decide) ?_
    exact dw_iret C (by decide) (by decide) hrt hlk dL_healthOf_16 ⟨rfl, Or.inl ⟨r, rfl, hr, rfl⟩⟩
/-! L_heroSees -/
set_option maxRecDepth 20000 in
set_option maxHeartbeats 4000000 in
theorem cw_L_heroSees {G : dk_G} {O : dl_T} {l : Launch} {a1 : Int32} {a2 : Int32} (hD : dk_D G) (hl : l.stackTraces = false) (hri : dk_RI G) (hg : dl_G G O) {σ : dk_S} {fO : Nat → Int64} {fD : Nat → UInt64} {K : Int32 → dk_S → Prop} {X : String → dk_S → Prop} (hX : ∀ E σ', X E σ' → ∃ r, (E, r) ∈ ([(eIO, 1), (eIS, 2)] : List (String × Int32))) (h : wf_X8_heroSees a1 a2 σ K X) : dw_M G O l yL_heroSees cL_heroSees 5 [(0, 17, 20, 13), (0, 17, 24, 17)] [dk_r G 0 40, .int a1, .int a2, .ref O.2.1] σ fO fD (dw_P K X dl_bl [(eIO, 1), (eIS, 2)] fD) := by
  refine dw_of hD hg (by decide) [some (dk_r G 0 40), some (.int a1), some (.int a2), some (.ref O.2.1), none] (fun q hq => hq) rfl (Nat.le_of_ble_eq_true rfl) (fun p e s m args below meth c C ht hrt hlk => ?_)
  refine dw_aload_n (i := 3) C dL_heroSees_0 (n := 1) rfl rfl rfl ?_
  refine dw_iconst (v := 0) C dL_heroSees_1 (n := 2) rfl (by decide) ?_
  refine dw_aload_n (i := 0) C dL_heroSees_2 (n := 3) rfl rfl rfl ?_
  refine dw_iload_n (i := 1) C dL_heroSees_3 (n := 4) rfl rfl rfl ?_
  refine dw_iload_n (i := 2) C dL_heroSees_4 (n := 5) rfl rfl rfl ?_
  refine dw_callX C [.int 0, .ref O.2.1] (cc_X8_heroSees hD hl hri h) yy_X8_heroSees dk_wm_L_91 rfl (by decide) (by decide) dk_sh40 rfl (hri.1 40 (by decide) (by decide)) rfl (Nat.le_of_ble_eq_true rfl) rfl dL_heroSees_5 (n := 8) rfl (fun E σ' hx => ?_) (fun v σ' hv => ?_)
  · obtain ⟨r0, hr0⟩ := hX E σ' hx
    simp only [List.mem_cons, Prod.mk.injEq, List.not_mem_nil, or_false] at hr0
    rcases hr0 with ⟨rfl, rfl⟩ | ⟨rfl, rfl⟩
    · refine dw_catch C [] ⟨0, 17, 20, 13⟩ [⟨0, 17, 24, 17⟩] (by rw [ht]; rfl) (fun _ h => absurd h List.not_mem_nil) (by decide) (by decide) dk_wk_L_13 dk_wx_eIO (n := 20) rfl (fun q => ?_)
      refine dw_astore (i := 4) (L' := [some (dk_r G 0 40), some (.int a1), some (.int a2), some (.ref O.2.1), some (.ref q)]) C dL_heroSees_20 (n := 22) rfl (dk_nc_of rfl) (Nat.le_of_ble_eq_true rfl) rfl ?_
      refine dw_iconst (v := 1) C dL_heroSees_22 (n := 23) rfl (by decide) ?_
      exact dw_iret C (by decide) (by decide) hrt hlk dL_heroSees_23 ⟨rfl, Or.inr ⟨_, by simp, hx⟩⟩
    · refine dw_catch C [⟨0, 17, 20, 13⟩] ⟨0, 17, 24, 17⟩ [] (by rw [ht]; rfl) (List.forall_mem_cons.mpr ⟨⟨by decide, eIO, dk_wk_L_13, by decide +kernel⟩, fun _ h => absurd h List.not_mem_nil⟩) (by decide) (by decide) dk_wk_L_17 dk_wx_eIS (n := 24) rfl (fun q => ?_)
      refine dw_astore (i := 4) (L' := [some (dk_r G 0 40), some (.int a1), some (.int a2), some (.ref O.2.1), some (.ref q)]) C dL_heroSees_24 (n := 26) rfl (dk_nc_of rfl) (Nat.le_of_ble_eq_true rfl) rfl ?_
      refine dw_iconst (v := 2) C dL_heroSees_26 (n := 27) rfl (by decide) ?_
      exact dw_iret C (by decide) (by decide) hrt hlk dL_heroSees_27 ⟨rfl, Or.inr ⟨_, by simp, hx⟩⟩
  · obtain ⟨r, rfl, hr⟩ := hv
    refine dw_boolL C dL_heroSees_8 dL_heroSees_11 dL_heroSees_12 dL_heroSees_15 (n := 16) (by decide) (by decide) rfl ?_
    refine dw_last C dL_heroSees_16 (n := 17) rfl ?_
    refine dw_goto (t := 28) C dL_heroSees_17 (by decide) ?_
    refine dw_iconst (v := 0) C dL_heroSees_28 (n := 29) rfl (by decide) ?_
    exact dw_iret C (by decide) (by decide) hrt hlk dL_heroSees_29 ⟨rfl, Or.inl ⟨r, rfl, hr, rfl⟩⟩
/-! L_hurl -/
set_option maxRecDepth 20000 in
set_option maxHeartbeats 4000000 in
theorem cw_L_hurl {G : dk_G} {O : dl_T} {l : Launch} {a1 : Int32} {a2 : Int32} (hD : dk_D G) (hl : l.stackTraces = false) (hri : dk_RI G) (hg : dl_G G O) {σ : dk_S} {fO : Nat → Int64} {fD : Nat → UInt64} {K : Int32 → dk_S → Prop} {X : String → dk_S → Prop} (hX : ∀ E σ', X E σ' → ∃ r, (E, r) ∈ ([(eIO, 1), (eIA, 2), (eIS, 3), (eNS, 4)] : List (String × Int32))) (h : wf_X8_hurl a1 a2 σ K X) : dw_M G O l yL_hurl cL_hurl 5 [(0, 10, 13, 13), (0, 10, 17, 15), (0, 10, 21, 17), (0, 10, 25, 62)] [dk_r G 0 40, .int a1, .int a2, .ref O.2.1] σ fO fD (dw_P K X Int32.toInt64 [(eIO, 1), (eIA, 2), (eIS, 3), (eNS, 4)] fD) := by
  refine dw_of hD hg (by decide) [some (dk_r G 0 40), some (.int a1), some (.int a2), some (.ref O.2.1), none] (fun q hq => hq) rfl (Nat.le_of_ble_eq_true rfl) (fun p e s m args below meth c C ht hrt hlk => ?_)
  refine dw_aload_n (i := 3) C dL_hurl_0 (n := 1) rfl rfl rfl ?_
  refine dw_iconst (v := 0) C dL_hurl_1 (n := 2) rfl (by decide) ?_
  refine dw_aload_n (i := 0) C dL_hurl_2 (n := 3) rfl rfl rfl ?_
  refine dw_iload_n (i := 1) C dL_hurl_3 (n := 4) rfl rfl rfl ?_
  refine dw_iload_n (i := 2) C dL_hurl_4 (n := 5) rfl rfl rfl ?_
  refine dw_callX C [.int 0, .ref O.2.1] (cc_X8_hurl hD hl hri h) yy_X8_hurl dk_wm_L_74 rfl (by decide) (by decide) dk_sh40 rfl (hri.1 40 (by decide) (by decide)) rfl (Nat.le_of_ble_eq_true rfl) rfl dL_hurl_5 (n := 8) rfl (fun E σ' hx => ?_) (fun v σ' hv => ?_)
  · obtain ⟨r0, hr0⟩ := hX E σ' hx
    simp only [List.mem_cons, Prod.mk.injEq, List.not_mem_nil, or_false] at hr0
    rcases hr0 with ⟨rfl, rfl⟩ | ⟨rfl, rfl⟩ | ⟨rfl, rfl⟩ | ⟨rfl, rfl⟩
    · refine dw_catch C [] ⟨0, 10, 13, 13⟩ [⟨0, 10, 17, 15⟩, ⟨0, 10, 21, 17⟩, ⟨0, 10, 25, 62⟩] (by rw [ht]; rfl) (fun _ h => absurd h List.not_mem_nil) (by decide) (by decide) dk_wk_L_13 dk_wx_eIO (n := 13) rfl (fun q => ?_)
      refine dw_astore (i := 4) (L' := [some (dk_r G 0 40), some (.int a1), some (.int a2), some (.ref O.2.1), some (.ref q)]) C dL_hurl_13 (n := 15) rfl (dk_nc_of rfl) (Nat.le_of_ble_eq_true rfl) rfl ?_
      refine dw_iconst (v := 1) C dL_hurl_15 (n := 16) rfl (by decide) ?_
      exact dw_iret C (by decide) (by decide) hrt hlk dL_hurl_16 ⟨rfl, Or.inr ⟨_, by simp, hx⟩⟩
    · refine dw_catch C [⟨0, 10, 13, 13⟩] ⟨0, 10, 17, 15⟩ [⟨0, 10, 21, 17⟩, ⟨0, 10, 25, 62⟩] (by rw [ht]; rfl) (List.forall_mem_cons.mpr ⟨⟨by decide, eIO, dk_wk_L_13, by decide +kernel⟩, fun _ h => absurd h List.not_mem_nil⟩) (by decide) (by decide) dk_wk_L_15 dk_wx_eIA (n := 17) rfl (fun q => ?_)
      refine dw_astore (i := 4) (L' := [some (dk_r G 0 40), some (.int a1), some (.int a2), some (.ref O.2.1), some (.ref q)]) C dL_hurl_17 (n := 19) rfl (dk_nc_of rfl) (Nat.le_of_ble_eq_true rfl) rfl ?_
      refine dw_iconst (v := 2) C dL_hurl_19 (n := 20) rfl (by decide) ?_
      exact dw_iret C (by decide) (by decide) hrt hlk dL_hurl_20 ⟨rfl, Or.inr ⟨_, by simp, hx⟩⟩
    · refine dw_catch C [⟨0, 10, 13, 13⟩, ⟨0, 10, 17, 15⟩] ⟨0, 10, 21, 17⟩ [⟨0, 10, 25, 62⟩] (by rw [ht]; rfl) (List.forall_mem_cons.mpr ⟨⟨by decide, eIO, dk_wk_L_13, by decide +kernel⟩, List.forall_mem_cons.mpr ⟨⟨by decide, eIA, dk_wk_L_15, by decide +kernel⟩, fun _ h => absurd h List.not_mem_nil⟩⟩) (by decide) (by decide) dk_wk_L_17 dk_wx_eIS (n := 21) rfl (fun q => ?_)
      refine dw_astore (i := 4) (L' := [some (dk_r G 0 40), some (.int a1), some (.int a2), some (.ref O.2.1), some (.ref q)]) C dL_hurl_21 (n := 23) rfl (dk_nc_of rfl) (Nat.le_of_ble_eq_true rfl) rfl ?_
      refine dw_iconst (v := 3) C dL_hurl_23 (n := 24) rfl (by decide) ?_
      exact dw_iret C (by decide) (by decide) hrt hlk dL_hurl_24 ⟨rfl, Or.inr ⟨_, by simp, hx⟩⟩
    · refine dw_catch C [⟨0, 10, 13, 13⟩, ⟨0, 10, 17, 15⟩, ⟨0, 10, 21, 17⟩] ⟨0, 10, 25, 62⟩ [] (by rw [ht]; rfl) (List.forall_mem_cons.mpr ⟨⟨by decide, eIO, dk_wk_L_13, by decide +kernel⟩, List.forall_mem_cons.mpr ⟨⟨by decide, eIA, dk_wk_L_15, by decide +kernel⟩, List.forall_mem_cons.mpr ⟨⟨by decide, eIS, dk_wk_L_17, by decide +kernel⟩, fun _ h => absurd h List.not_mem_nil⟩⟩⟩) (by decide) (by decide) dk_wk_L_62 dk_wx_eNS (n := 25) rfl (fun q => ?_)
      refine dw_astore (i := 4) (L' := [some (dk_r G 0 40), some (.int a1), some (.int a2), some (.ref O.2.1), some (.ref q)]) C dL_hurl_25 (n := 27) rfl (dk_nc_of rfl) (Nat.le_of_ble_eq_true rfl) rfl ?_
      refine dw_iconst (v := 4) C dL_hurl_27 (n := 28) rfl (by decide) ?_
      exact dw_iret C (by decide) (by decide) hrt hlk dL_hurl_28 ⟨rfl, Or.inr ⟨_, by simp, hx⟩⟩
  · obtain ⟨r, rfl, hr⟩ := hv
    refine dw_i2l C dL_hurl_8 (n := 9) rfl ?_
    refine dw_last C dL_hurl_9 (n := 10) rfl ?_
    refine dw_goto (t := 29) C dL_hurl_10 (by decide) ?_
    refine dw_iconst (v := 0) C dL_hurl_29 (n := 30) rfl (by decide) ?_
    exact dw_iret C (by decide) (by decide) hrt hlk dL_hurl_30 ⟨rfl, Or.inl ⟨r, rfl, hr, rfl⟩⟩
/-! L_isReachable -/
set_option maxRecDepth 20000 in
set_option maxHeartbeats 4000000 in
theorem cw_L_isReachable {G : dk_G} {O : dl_T} {l : Launch} {a1 : Int32} {a2 : Int32} (hD : dk_D G) (hl : l.stackTraces = false) (hri : dk_RI G) (hg : dl_G G O) {σ : dk_S} {fO : Nat → Int64} {fD : Nat → UInt64} {K : Int32 → dk_S → Prop} {X : String → dk_S → Prop} (hX : ∀ E σ', X E σ' → ∃ r, (E, r) ∈ ([(eIO, 1), (eIS, 2)] : List (String × Int32))) (h : wf_X8_isReachable a1 a2 σ K X) : dw_M G O l yL_isReachable cL_isReachable 5 [(0, 17, 20, 13), (0, 17, 24, 17)] [dk_r G 0 40, .int a1, .int a2, .ref O.2.1] σ fO fD (dw_P K X dl_bl [(eIO, 1), (eIS, 2)] fD) := by
  refine dw_of hD hg (by decide) [some (dk_r G 0 40), some (.int a1), some (.int a2), some (.ref O.2.1), none] (fun q hq => hq) rfl (Nat.le_of_ble_eq_true rfl) (fun p e s m args below meth c C ht hrt hlk => ?_)
  refine dw_aload_n (i := 3) C dL_isReachable_0 (n := 1) rfl rfl rfl ?_
  refine dw_iconst (v := 0) C dL_isReachable_1 (n := 2) rfl (by decide) ?_
  refine dw_aload_n (i := 0) C dL_isReachable_2 (n := 3) rfl rfl rfl ?_
  refine dw_iload_n (i := 1) C dL_isReachable_3 (n := 4) rfl rfl rfl ?_
  refine dw_iload_n (i := 2) C dL_isReachable_4 (n := 5) rfl rfl rfl ?_
  refine dw_callX C [.int 0, .ref O.2.1] (cc_X8_isReachable hD hl hri h) yy_X8_isReachable dk_wm_L_113 rfl (by decide) (by decide) dk_sh40 rfl (hri.1 40 (by decide) (by decide)) rfl (Nat.le_of_ble_eq_true rfl) rfl dL_isReachable_5 (n := 8) rfl (fun E σ' hx => ?_) (fun v σ' hv => ?_)
  · obtain ⟨r0, hr0⟩ := hX E σ' hx
    simp only [List.mem_cons, Prod.mk.injEq, List.not_mem_nil, or_false] at hr0
    rcases hr0 with ⟨rfl, rfl⟩ | ⟨rfl, rfl⟩
    · refine dw_catch C [] ⟨0, 17, 20, 13⟩ [⟨0, 17, 24, 17⟩] (by rw [ht]; rfl) (fun _ h => absurd h List.not_mem_nil) (by decide) (by decide) dk_wk_L_13 dk_wx_eIO (n := 20) rfl (fun q => ?_)
      refine dw_astore (i := 4) (L' := [some (dk_r G 0 40), some (.int a1), some (.int a2), some (.ref O.2.1), some (.ref q)]) C dL_isReachable_20 (n := 22) rfl (dk_nc_of rfl) (Nat.le_of_ble_eq_true rfl) rfl ?_
      refine dw_iconst (v := 1) C dL_isReachable_22 (n := 23) rfl (by decide) ?_
      exact dw_iret C (by decide) (by decide) hrt hlk dL_isReachable_23 ⟨rfl, Or.inr ⟨_, by simp, hx⟩⟩
    · refine dw_catch C [⟨0, 17, 20, 13⟩] ⟨0, 17, 24, 17⟩ [] (by rw [ht]; rfl) (List.forall_mem_cons.mpr ⟨⟨by decide, eIO, dk_wk_L_13, by decide +kernel⟩, fun _ h => absurd h List.not_mem_nil⟩) (by decide) (by decide) dk_wk_L_17 dk_wx_eIS (n := 24) rfl (fun q => ?_)
      refine dw_astore (i := 4) (L' := [some (dk_r G 0 40), some (.int a1), some (.int a2), some (.ref O.2.1), some (.ref q)]) C dL_isReachable_24 (n := 26) rfl (dk_nc_of rfl) (Nat.le_of_ble_eq_true rfl) rfl ?_
      refine dw_iconst (v := 2) C dL_isReachable_26 (n := 27) rfl (by decide) ?_
      exact dw_iret C (by decide) (by decide) hrt hlk dL_isReachable_27 ⟨rfl, Or.inr ⟨_, by simp, hx⟩⟩
  · obtain ⟨r, rfl, hr⟩ := hv
    refine dw_boolL C dL_isReachable_8 dL_isReachable_11 dL_isReachable_12 dL_isReachable_15 (n := 16) (by decide) (by decide) rfl ?_
    refine dw_last C dL_isReachable_16 (n := 17) rfl ?_
    refine dw_goto (t := 28) C dL_isReachable_17 (by decide) ?_
    refine dw_iconst (v := 0) C dL_isReachable_28 (n := 29) rfl (by decide) ?_
    exact dw_iret C (by decide) (by decide) hrt hlk dL_isReachable_29 ⟨rfl, Or.inl ⟨r, rfl, hr, rfl⟩⟩
/-! L_isSame -/
set_option maxRecDepth 20000 in
set_option maxHeartbeats 4000000 in
theorem cw_L_isSame {G : dk_G} {O : dl_T} {l : Launch} (hD : dk_D G) (hl : l.stackTraces = false) (hri : dk_RI G) (hg : dl_G G O) {σ : dk_S} {fO : Nat → Int64} {fD : Nat → UInt64} {K : Int32 → dk_S → Prop} {X : String → dk_S → Prop} (hX : ∀ E σ', X E σ' → ∃ r, (E, r) ∈ ([(eIS, 1)] : List (String × Int32))) (h : wf_X8_isSame σ K X) : dw_M G O l yL_isSame cL_isSame 3 [(0, 15, 18, 17)] [dk_r G 0 40, .ref O.2.1] σ fO fD (dw_P K X dl_bl [(eIS, 1)] fD) := by
  refine dw_of hD hg (by decide) [some (dk_r G 0 40), some (.ref O.2.1), none] (fun q hq => hq) rfl (Nat.le_of_ble_eq_true rfl) (fun p e s m args below meth c C ht hrt hlk => ?_)
  refine dw_aload_n (i := 1) C dL_isSame_0 (n := 1) rfl rfl rfl ?_
  refine dw_iconst (v := 0) C dL_isSame_1 (n := 2) rfl (by decide) ?_
  refine dw_aload_n (i := 0) C dL_isSame_2 (n := 3) rfl rfl rfl ?_
  refine dw_callX C [.int 0, .ref O.2.1] (cc_X8_isSame hD hl hri h) yy_X8_isSame dk_wm_L_116 rfl (by decide) (by decide) dk_sh40 rfl (hri.1 40 (by decide) (by decide)) rfl (Nat.le_of_ble_eq_true rfl) rfl dL_isSame_3 (n := 6) rfl (fun E σ' hx => ?_) (fun v σ' hv => ?_)
  · obtain ⟨r0, hr0⟩ := hX E σ' hx
    simp only [List.mem_cons, Prod.mk.injEq, List.not_mem_nil, or_false] at hr0
    rcases hr0 with ⟨rfl, rfl⟩
    · refine dw_catch C [] ⟨0, 15, 18, 17⟩ [] (by rw [ht]; rfl) (fun _ h => absurd h List.not_mem_nil) (by decide) (by decide) dk_wk_L_17 dk_wx_eIS (n := 18) rfl (fun q => ?_)
      refine dw_astore_n (i := 2) (L' := [some (dk_r G 0 40), some (.ref O.2.1), some (.ref q)]) C dL_isSame_18 (n := 19) rfl rfl (dk_nc_of rfl) (Nat.le_of_ble_eq_true rfl) rfl ?_
      refine dw_iconst (v := 1) C dL_isSame_19 (n := 20) rfl (by decide) ?_
      exact dw_iret C (by decide) (by decide) hrt hlk dL_isSame_20 ⟨rfl, Or.inr ⟨_, by simp, hx⟩⟩
  · obtain ⟨r, rfl, hr⟩ := hv
    refine dw_boolL C dL_isSame_6 dL_isSame_9 dL_isSame_10 dL_isSame_13 (n := 14) (by decide) (by decide) rfl ?_
    refine dw_last C dL_isSame_14 (n := 15) rfl ?_
    refine dw_goto (t := 21) C dL_isSame_15 (by decide) ?_
    refine dw_iconst (v := 0) C dL_isSame_21 (n := 22) rfl (by decide) ?_
    exact dw_iret C (by decide) (by decide) hrt hlk dL_isSame_22 ⟨rfl, Or.inl ⟨r, rfl, hr, rfl⟩⟩
/-! L_leave -/
set_option maxRecDepth 20000 in
set_option maxHeartbeats 4000000 in
theorem cw_L_leave {G : dk_G} {O : dl_T} {l : Launch} (hD : dk_D G) (hl : l.stackTraces = false) (hri : dk_RI G) (hg : dl_G G O) {σ : dk_S} {fO : Nat → Int64} {fD : Nat → UInt64} {K : Int32 → dk_S → Prop} {X : String → dk_S → Prop} (hX : ∀ E σ', X E σ' → ∃ r, (E, r) ∈ ([(eIS, 1)] : List (String × Int32))) (h : wf_X8_leave σ K X) : dw_M G O l yL_leave cL_leave 3 [(0, 8, 11, 17)] [dk_r G 0 40, .ref O.2.1] σ fO fD (dw_P K X Int32.toInt64 [(eIS, 1)] fD) := by
  refine dw_of hD hg (by decide) [some (dk_r G 0 40), some (.ref O.2.1), none] (fun q hq => hq) rfl (Nat.le_of_ble_eq_true rfl) (fun p e s m args below meth c C ht hrt hlk => ?_)
  refine dw_aload_n (i := 1) C dL_leave_0 (n := 1) rfl rfl rfl ?_
  refine dw_iconst (v := 0) C dL_leave_1 (n := 2) rfl (by decide) ?_
  refine dw_aload_n (i := 0) C dL_leave_2 (n := 3) rfl rfl rfl ?_
  refine dw_callX C [.int 0, .ref O.2.1] (cc_X8_leave hD hl hri h) yy_X8_leave dk_wm_L_48 rfl (by decide) (by decide) dk_sh40 rfl (hri.1 40 (by decide) (by decide)) rfl (Nat.le_of_ble_eq_true rfl) rfl dL_leave_3 (n := 6) rfl (fun E σ' hx => ?_) (fun v σ' hv => ?_)
  · obtain ⟨r0, hr0⟩ := hX E σ' hx
    simp only [List.mem_cons, Prod.mk.injEq, List.not_mem_nil, or_false] at hr0
    rcases hr0 with ⟨rfl, rfl⟩
    · refine dw_catch C [] ⟨0, 8, 11, 17⟩ [] (by rw [ht]; rfl) (fun _ h => absurd h List.not_mem_nil) (by decide) (by decide) dk_wk_L_17 dk_wx_eIS (n := 11) rfl (fun q => ?_)
      refine dw_astore_n (i := 2) (L' := [some (dk_r G 0 40), some (.ref O.2.1), some (.ref q)]) C dL_leave_11 (n := 12) rfl rfl (dk_nc_of rfl) (Nat.le_of_ble_eq_true rfl) rfl ?_
      refine dw_iconst (v := 1) C dL_leave_12 (n := 13) rfl (by decide) ?_
      exact dw_iret C (by decide) (by decide) hrt hlk dL_leave_13 ⟨rfl, Or.inr ⟨_, by simp, hx⟩⟩
  · obtain ⟨r, rfl, hr⟩ := hv
    refine dw_i2l C dL_leave_6 (n := 7) rfl ?_
    refine dw_last C dL_leave_7 (n := 8) rfl ?_
    refine dw_goto (t := 14) C dL_leave_8 (by decide) ?_
    refine dw_iconst (v := 0) C dL_leave_14 (n := 15) rfl (by decide) ?_
    exact dw_iret C (by decide) (by decide) hrt hlk dL_leave_15 ⟨rfl, Or.inl ⟨r, rfl, hr, rfl⟩⟩
/-! L_livingShare -/
set_option maxRecDepth 20000 in
set_option maxHeartbeats 4000000 in
theorem cw_L_livingShare {G : dk_G} {O : dl_T} {l : Launch} (hD : dk_D G) (hl : l.stackTraces = false) (hri : dk_RI G) (hg : dl_G G O) {σ : dk_S} {fO : Nat → Int64} {fD : Nat → UInt64} {K : UInt32 → dk_S → Prop} {X : String → dk_S → Prop} (hX : ∀ E σ', X E σ' → ∃ r, (E, r) ∈ ([(eAR, 1)] : List (String × Int32))) (hN : ∀ r σ', K r σ' → vf_n64 (FP.f2d r)) (h : wf_X8_livingShare σ K X) : dw_M G O l yL_livingShare cL_livingShare 3 [(0, 8, 11, 124)] [dk_r G 0 40, .ref O.2.2.1] σ fO fD (dw_PF K X FP.f2d [(eAR, 1)] fO) := by
  refine dw_of hD hg (by decide) [some (dk_r G 0 40), some (.ref O.2.2.1), none] (fun q hq => hq) rfl (Nat.le_of_ble_eq_true rfl) (fun p e s m args below meth c C ht hrt hlk => ?_)
  refine dw_aload_n (i := 1) C dL_livingShare_0 (n := 1) rfl rfl rfl ?_
  refine dw_iconst (v := 0) C dL_livingShare_1 (n := 2) rfl (by decide) ?_
  refine dw_aload_n (i := 0) C dL_livingShare_2 (n := 3) rfl rfl rfl ?_
  refine dw_callX C [.int 0, .ref O.2.2.1] (cc_X8_livingShare hD hl hri h) yy_X8_livingShare dk_wm_L_120 rfl (by decide) (by decide) dk_sh40 rfl (hri.1 40 (by decide) (by decide)) rfl (Nat.le_of_ble_eq_true rfl) rfl dL_livingShare_3 (n := 6) rfl (fun E σ' hx => ?_) (fun v σ' hv => ?_)
  · obtain ⟨r0, hr0⟩ := hX E σ' hx
    simp only [List.mem_cons, Prod.mk.injEq, List.not_mem_nil, or_false] at hr0
    rcases hr0 with ⟨rfl, rfl⟩
    · refine dw_catch C [] ⟨0, 8, 11, 124⟩ [] (by rw [ht]; rfl) (fun _ h => absurd h List.not_mem_nil) (by decide) (by decide) dk_wk_L_124 dk_wx_eAR (n := 11) rfl (fun q => ?_)
      refine dw_astore_n (i := 2) (L' := [some (dk_r G 0 40), some (.ref O.2.2.1), some (.ref q)]) C dL_livingShare_11 (n := 12) rfl rfl (dk_nc_of rfl) (Nat.le_of_ble_eq_true rfl) rfl ?_
      refine dw_iconst (v := 1) C dL_livingShare_12 (n := 13) rfl (by decide) ?_
      exact dw_iret C (by decide) (by decide) hrt hlk dL_livingShare_13 ⟨rfl, Or.inr ⟨_, by simp, hx⟩⟩
  · obtain ⟨r, rfl, hr⟩ := hv
    refine dw_f2d C dL_livingShare_6 (hN r σ' hr) (n := 7) rfl ?_
    refine dw_dast C dL_livingShare_7 (n := 8) rfl ?_
    refine dw_goto (t := 14) C dL_livingShare_8 (by decide) ?_
    refine dw_iconst (v := 0) C dL_livingShare_14 (n := 15) rfl (by decide) ?_
    exact dw_iret C (by decide) (by decide) hrt hlk dL_livingShare_15 ⟨rfl, Or.inl ⟨r, rfl, hr, rfl⟩⟩
/-! L_meanHealth -/
set_option maxRecDepth 20000 in
set_option maxHeartbeats 4000000 in
theorem cw_L_meanHealth {G : dk_G} {O : dl_T} {l : Launch} (hD : dk_D G) (hl : l.stackTraces = false) (hri : dk_RI G) (hg : dl_G G O) {σ : dk_S} {fO : Nat → Int64} {fD : Nat → UInt64} {K : UInt64 → dk_S → Prop} {X : String → dk_S → Prop} (hX : ∀ E σ', X E σ' → ∃ r, (E, r) ∈ ([(eAR, 1)] : List (String × Int32))) (h : wf_X8_meanHealth σ K X) : dw_M G O l yL_meanHealth cL_meanHealth 3 [(0, 7, 10, 124)] [dk_r G 0 40, .ref O.2.2.1] σ fO fD (dw_PF K X (fun r => r) [(eAR, 1)] fO) := by
  refine dw_of hD hg (by decide) [some (dk_r G 0 40), some (.ref O.2.2.1), none] (fun q hq => hq) rfl (Nat.le_of_ble_eq_true rfl) (fun p e s m args below meth c C ht hrt hlk => ?_)
  refine dw_aload_n (i := 1) C dL_meanHealth_0 (n := 1) rfl rfl rfl ?_
  refine dw_iconst (v := 0) C dL_meanHealth_1 (n := 2) rfl (by decide) ?_
  refine dw_aload_n (i := 0) C dL_meanHealth_2 (n := 3) rfl rfl rfl ?_
  refine dw_callX C [.int 0, .ref O.2.2.1] (cc_X8_meanHealth hD hl hri h) yy_X8_meanHealth dk_wm_L_126 rfl (by decide) (by decide) dk_sh40 rfl (hri.1 40 (by decide) (by decide)) rfl (Nat.le_of_ble_eq_true rfl) rfl dL_meanHealth_3 (n := 6) rfl (fun E σ' hx => ?_) (fun v σ' hv => ?_)
  · obtain ⟨r0, hr0⟩ := hX E σ' hx
    simp only [List.mem_cons, Prod.mk.injEq, List.not_mem_nil, or_false] at hr0
    rcases hr0 with ⟨rfl, rfl⟩
    · refine dw_catch C [] ⟨0, 7, 10, 124⟩ [] (by rw [ht]; rfl) (fun _ h => absurd h List.not_mem_nil) (by decide) (by decide) dk_wk_L_124 dk_wx_eAR (n := 10) rfl (fun q => ?_)
      refine dw_astore_n (i := 2) (L' := [some (dk_r G 0 40), some (.ref O.2.2.1), some (.ref q)]) C dL_meanHealth_10 (n := 11) rfl rfl (dk_nc_of rfl) (Nat.le_of_ble_eq_true rfl) rfl ?_
      refine dw_iconst (v := 1) C dL_meanHealth_11 (n := 12) rfl (by decide) ?_
      exact dw_iret C (by decide) (by decide) hrt hlk dL_meanHealth_12 ⟨rfl, Or.inr ⟨_, by simp, hx⟩⟩
  · obtain ⟨r, rfl, hr⟩ := hv
    refine dw_dast C dL_meanHealth_6 (n := 7) rfl ?_
    refine dw_goto (t := 13) C dL_meanHealth_7 (by decide) ?_
    refine dw_iconst (v := 0) C dL_meanHealth_13 (n := 14) rfl (by decide) ?_
    exact dw_iret C (by decide) (by decide) hrt hlk dL_meanHealth_14 ⟨rfl, Or.inl ⟨r, rfl, hr, rfl⟩⟩
/-! L_nameOf -/
set_option maxRecDepth 20000 in
set_option maxHeartbeats 4000000 in
theorem cw_L_nameOf {G : dk_G} {O : dl_T} {l : Launch} {a1 : Int32} (hD : dk_D G) (hl : l.stackTraces = false) (hri : dk_RI G) (hg : dl_G G O) {σ : dk_S} {fO : Nat → Int64} {fD : Nat → UInt64} {K : Int32 → dk_S → Prop} {X : String → dk_S → Prop} (hX : ∀ E σ', X E σ' → ∃ r, (E, r) ∈ ([(eIO, 1), (eIS, 2)] : List (String × Int32))) (h : wf_X8_nameOf a1 σ K X) : dw_M G O l yL_nameOf cL_nameOf 4 [(0, 9, 12, 13), (0, 9, 15, 17)] [dk_r G 0 40, .int a1, .ref O.2.1] σ fO fD (dw_P K X Int32.toInt64 [(eIO, 1), (eIS, 2)] fD) := by
  refine dw_of hD hg (by decide) [some (dk_r G 0 40), some (.int a1), some (.ref O.2.1), none] (fun q hq => hq) rfl (Nat.le_of_ble_eq_true rfl) (fun p e s m args below meth c C ht hrt hlk => ?_)
  refine dw_aload_n (i := 2) C dL_nameOf_0 (n := 1) rfl rfl rfl ?_
  refine dw_iconst (v := 0) C dL_nameOf_1 (n := 2) rfl (by decide) ?_
  refine dw_aload_n (i := 0) C dL_nameOf_2 (n := 3) rfl rfl rfl ?_
  refine dw_iload_n (i := 1) C dL_nameOf_3 (n := 4) rfl rfl rfl ?_
  refine dw_callX C [.int 0, .ref O.2.1] (cc_X8_nameOf hD hl hri h) yy_X8_nameOf dk_wm_L_110 rfl (by decide) (by decide) dk_sh40 rfl (hri.1 40 (by decide) (by decide)) rfl (Nat.le_of_ble_eq_true rfl) rfl dL_nameOf_4 (n := 7) rfl (fun E σ' hx => ?_) (fun v σ' hv => ?_)
  · obtain ⟨r0, hr0⟩ := hX E σ' hx
    simp only [List.mem_cons, Prod.mk.injEq, List.not_mem_nil, or_false] at hr0
    rcases hr0 with ⟨rfl, rfl⟩ | ⟨rfl, rfl⟩
    · refine dw_catch C [] ⟨0, 9, 12, 13⟩ [⟨0, 9, 15, 17⟩] (by rw [ht]; rfl) (fun _ h => absurd h List.not_mem_nil) (by decide) (by decide) dk_wk_L_13 dk_wx_eIO (n := 12) rfl (fun q => ?_)
      refine dw_astore_n (i := 3) (L' := [some (dk_r G 0 40), some (.int a1), some (.ref O.2.1), some (.ref q)]) C dL_nameOf_12 (n := 13) rfl rfl (dk_nc_of rfl) (Nat.le_of_ble_eq_true rfl) rfl ?_
      refine dw_iconst (v := 1) C dL_nameOf_13 (n := 14) rfl (by decide) ?_
      exact dw_iret C (by decide) (by decide) hrt hlk dL_nameOf_14 ⟨rfl, Or.inr ⟨_, by simp, hx⟩⟩
    · refine dw_catch C [⟨0, 9, 12, 13⟩] ⟨0, 9, 15, 17⟩ [] (by rw [ht]; rfl) (List.forall_mem_cons.mpr ⟨⟨by decide, eIO, dk_wk_L_13, by decide +kernel⟩, fun _ h => absurd h List.not_mem_nil⟩) (by decide) (by decide) dk_wk_L_17 dk_wx_eIS (n := 15) rfl (fun q => ?_)
      refine dw_astore_n (i := 3) (L' := [some (dk_r G 0 40), some (.int a1), some (.ref O.2.1), some (.ref q)]) C dL_nameOf_15 (n := 16) rfl rfl (dk_nc_of rfl) (Nat.le_of_ble_eq_true rfl) rfl ?_
      refine dw_iconst (v := 2) C dL_nameOf_16 (n := 17) rfl (by decide) ?_
      exact dw_iret C (by decide) (by decide) hrt hlk dL_nameOf_17 ⟨rfl, Or.inr ⟨_, by simp, hx⟩⟩
  · obtain ⟨r, rfl, hr⟩ := hv
    refine dw_i2l C dL_nameOf_7 (n := 8) rfl ?_
    refine dw_last C dL_nameOf_8 (n := 9) rfl ?_
    refine dw_goto (t := 18) C dL_nameOf_9 (by decide) ?_
    refine dw_iconst (v := 0) C dL_nameOf_18 (n := 19) rfl (by decide) ?_
    exact dw_iret C (by decide) (by decide) hrt hlk dL_nameOf_19 ⟨rfl, Or.inl ⟨r, rfl, hr, rfl⟩⟩
/-! L_pack -/
set_option maxRecDepth 20000 in
set_option maxHeartbeats 4000000 in
theorem cw_L_pack {G : dk_G} {O : dl_T} {l : Launch} {a1 : Int32} {a2 : Int32} (hD : dk_D G) (hl : l.stackTraces = false) (hri : dk_RI G) (hg : dl_G G O) {σ : dk_S} {fO : Nat → Int64} {fD : Nat → UInt64} {K : Int32 → dk_S → Prop} {X : String → dk_S → Prop} (hX : ∀ E σ', X E σ' → ∃ r, (E, r) ∈ ([(eIO, 1), (eIS, 2), (eNS, 3), (eUO, 4)] : List (String × Int32))) (h : wf_X8_pack a1 a2 σ K X) : dw_M G O l yL_pack cL_pack 5 [(0, 10, 13, 13), (0, 10, 17, 17), (0, 10, 21, 62), (0, 10, 25, 38)] [dk_r G 0 40, .int a1, .int a2, .ref O.2.1] σ fO fD (dw_P K X Int32.toInt64 [(eIO, 1), (eIS, 2), (eNS, 3), (eUO, 4)] fD) := by
  refine dw_of hD hg (by decide) [some (dk_r G 0 40), some (.int a1), some (.int a2), some (.ref O.2.1), none] (fun q hq => hq) rfl (Nat.le_of_ble_eq_true rfl) (fun p e s m args below meth c C ht hrt hlk => ?_)
  refine dw_aload_n (i := 3) C dL_pack_0 (n := 1) rfl rfl rfl ?_
  refine dw_iconst (v := 0) C dL_pack_1 (n := 2) rfl (by decide) ?_
  refine dw_aload_n (i := 0) C dL_pack_2 (n := 3) rfl rfl rfl ?_
  refine dw_iload_n (i := 1) C dL_pack_3 (n := 4) rfl rfl rfl ?_
  refine dw_iload_n (i := 2) C dL_pack_4 (n := 5) rfl rfl rfl ?_
  refine dw_callX C [.int 0, .ref O.2.1] (cc_X8_pack hD hl hri h) yy_X8_pack dk_wm_L_67 rfl (by decide) (by decide) dk_sh40 rfl (hri.1 40 (by decide) (by decide)) rfl (Nat.le_of_ble_eq_true rfl) rfl dL_pack_5 (n := 8) rfl (fun E σ' hx => ?_) (fun v σ' hv => ?_)
  · obtain ⟨r0, hr0⟩ := hX E σ' hx
    simp only [List.mem_cons, Prod.mk.injEq, List.not_mem_nil, or_false] at hr0
    rcases hr0 with ⟨rfl, rfl⟩ | ⟨rfl, rfl⟩ | ⟨rfl, rfl⟩ | ⟨rfl, rfl⟩
    · refine dw_catch C [] ⟨0, 10, 13, 13⟩ [⟨0, 10, 17, 17⟩, ⟨0, 10, 21, 62⟩, ⟨0, 10, 25, 38⟩] (by rw [ht]; rfl) (fun _ h => absurd h List.not_mem_nil) (by decide) (by decide) dk_wk_L_13 dk_wx_eIO (n := 13) rfl (fun q => ?_)
      refine dw_astore (i := 4) (L' := [some (dk_r G 0 40), some (.int a1), some (.int a2), some (.ref O.2.1), some (.ref q)]) C dL_pack_13 (n := 15) rfl (dk_nc_of rfl) (Nat.le_of_ble_eq_true rfl) rfl ?_
      refine dw_iconst (v := 1) C dL_pack_15 (n := 16) rfl (by decide) ?_
      exact dw_iret C (by decide) (by decide) hrt hlk dL_pack_16 ⟨rfl, Or.inr ⟨_, by simp, hx⟩⟩
    · refine dw_catch C [⟨0, 10, 13, 13⟩] ⟨0, 10, 17, 17⟩ [⟨0, 10, 21, 62⟩, ⟨0, 10, 25, 38⟩] (by rw [ht]; rfl) (List.forall_mem_cons.mpr ⟨⟨by decide, eIO, dk_wk_L_13, by decide +kernel⟩, fun _ h => absurd h List.not_mem_nil⟩) (by decide) (by decide) dk_wk_L_17 dk_wx_eIS (n := 17) rfl (fun q => ?_)
      refine dw_astore (i := 4) (L' := [some (dk_r G 0 40), some (.int a1), some (.int a2), some (.ref O.2.1), some (.ref q)]) C dL_pack_17 (n := 19) rfl (dk_nc_of rfl) (Nat.le_of_ble_eq_true rfl) rfl ?_
      refine dw_iconst (v := 2) C dL_pack_19 (n := 20) rfl (by decide) ?_
      exact dw_iret C (by decide) (by decide) hrt hlk dL_pack_20 ⟨rfl, Or.inr ⟨_, by simp, hx⟩⟩
    · refine dw_catch C [⟨0, 10, 13, 13⟩, ⟨0, 10, 17, 17⟩] ⟨0, 10, 21, 62⟩ [⟨0, 10, 25, 38⟩] (by rw [ht]; rfl) (List.forall_mem_cons.mpr ⟨⟨by decide, eIO, dk_wk_L_13, by decide +kernel⟩, List.forall_mem_cons.mpr ⟨⟨by decide, eIS, dk_wk_L_17, by decide +kernel⟩, fun _ h => absurd h List.not_mem_nil⟩⟩) (by decide) (by decide) dk_wk_L_62 dk_wx_eNS (n := 21) rfl (fun q => ?_)
      refine dw_astore (i := 4) (L' := [some (dk_r G 0 40), some (.int a1), some (.int a2), some (.ref O.2.1), some (.ref q)]) C dL_pack_21 (n := 23) rfl (dk_nc_of rfl) (Nat.le_of_ble_eq_true rfl) rfl ?_
      refine dw_iconst (v := 3) C dL_pack_23 (n := 24) rfl (by decide) ?_
      exact dw_iret C (by decide) (by decide) hrt hlk dL_pack_24 ⟨rfl, Or.inr ⟨_, by simp, hx⟩⟩
    · refine dw_catch C [⟨0, 10, 13, 13⟩, ⟨0, 10, 17, 17⟩, ⟨0, 10, 21, 62⟩] ⟨0, 10, 25, 38⟩ [] (by rw [ht]; rfl) (List.forall_mem_cons.mpr ⟨⟨by decide, eIO, dk_wk_L_13, by decide +kernel⟩, List.forall_mem_cons.mpr ⟨⟨by decide, eIS, dk_wk_L_17, by decide +kernel⟩, List.forall_mem_cons.mpr ⟨⟨by decide, eNS, dk_wk_L_62, by decide +kernel⟩, fun _ h => absurd h List.not_mem_nil⟩⟩⟩) (by decide) (by decide) dk_wk_L_38 dk_wx_eUO (n := 25) rfl (fun q => ?_)
      refine dw_astore (i := 4) (L' := [some (dk_r G 0 40), some (.int a1), some (.int a2), some (.ref O.2.1), some (.ref q)]) C dL_pack_25 (n := 27) rfl (dk_nc_of rfl) (Nat.le_of_ble_eq_true rfl) rfl ?_
      refine dw_iconst (v := 4) C dL_pack_27 (n := 28) rfl (by decide) ?_
      exact dw_iret C (by decide) (by decide) hrt hlk dL_pack_28 ⟨rfl, Or.inr ⟨_, by simp, hx⟩⟩
  · obtain ⟨r, rfl, hr⟩ := hv
    refine dw_i2l C dL_pack_8 (n := 9) rfl ?_
    refine dw_last C dL_pack_9 (n := 10) rfl ?_
    refine dw_goto (t := 29) C dL_pack_10 (by decide) ?_
    refine dw_iconst (v := 0) C dL_pack_29 (n := 30) rfl (by decide) ?_
    exact dw_iret C (by decide) (by decide) hrt hlk dL_pack_30 ⟨rfl, Or.inl ⟨r, rfl, hr, rfl⟩⟩
/-! L_placeOf -/
set_option maxRecDepth 20000 in
set_option maxHeartbeats 4000000 in
theorem cw_L_placeOf {G : dk_G} {O : dl_T} {l : Launch} {a1 : Int32} (hD : dk_D G) (hl : l.stackTraces = false) (hri : dk_RI G) (hg : dl_G G O) {σ : dk_S} {fO : Nat → Int64} {fD : Nat → UInt64} {K : Int32 → dk_S → Prop} {X : String → dk_S → Prop} (hX : ∀ E σ', X E σ' → ∃ r, (E, r) ∈ ([(eIO, 1)] : List (String × Int32))) (h : wf_X8_placeOf a1 σ K X) : dw_M G O l yL_placeOf cL_placeOf 4 [(0, 9, 12, 13)] [dk_r G 0 40, .int a1, .ref O.2.1] σ fO fD (dw_P K X Int32.toInt64 [(eIO, 1)] fD) := by
  refine dw_of hD hg (by decide) [some (dk_r G 0 40), some (.int a1), some (.ref O.2.1), none] (fun q hq => hq) rfl (Nat.le_of_ble_eq_true rfl) (fun p e s m args below meth c C ht hrt hlk => ?_)
  refine dw_aload_n (i := 2) C dL_placeOf_0 (n := 1) rfl rfl rfl ?_
  refine dw_iconst (v := 0) C dL_placeOf_1 (n := 2) rfl (by decide) ?_
  refine dw_aload_n (i := 0) C dL_placeOf_2 (n := 3) rfl rfl rfl ?_
  refine dw_iload_n (i := 1) C dL_placeOf_3 (n := 4) rfl rfl rfl ?_
  refine dw_callX C [.int 0, .ref O.2.1] (cc_X8_placeOf hD hl hri h) yy_X8_placeOf dk_wm_L_95 rfl (by decide) (by decide) dk_sh40 rfl (hri.1 40 (by decide) (by decide)) rfl (Nat.le_of_ble_eq_true rfl) rfl dL_placeOf_4 (n := 7) rfl (fun E σ' hx => ?_) (fun v σ' hv => ?_)
  · obtain ⟨r0, hr0⟩ := hX E σ' hx
    simp only [List.mem_cons, Prod.mk.injEq, List.not_mem_nil, or_false] at hr0
    rcases hr0 with ⟨rfl, rfl⟩
    · refine dw_catch C [] ⟨0, 9, 12, 13⟩ [] (by rw [ht]; rfl) (fun _ h => absurd h List.not_mem_nil) (by decide) (by decide) dk_wk_L_13 dk_wx_eIO (n := 12) rfl (fun q => ?_)
      refine dw_astore_n (i := 3) (L' := [some (dk_r G 0 40), some (.int a1), some (.ref O.2.1), some (.ref q)]) C dL_placeOf_12 (n := 13) rfl rfl (dk_nc_of rfl) (Nat.le_of_ble_eq_true rfl) rfl ?_
      refine dw_iconst (v := 1) C dL_placeOf_13 (n := 14) rfl (by decide) ?_
      exact dw_iret C (by decide) (by decide) hrt hlk dL_placeOf_14 ⟨rfl, Or.inr ⟨_, by simp, hx⟩⟩
  · obtain ⟨r, rfl, hr⟩ := hv
    refine dw_i2l C dL_placeOf_7 (n := 8) rfl ?_
    refine dw_last C dL_placeOf_8 (n := 9) rfl ?_
    refine dw_goto (t := 15) C dL_placeOf_9 (by decide) ?_
    refine dw_iconst (v := 0) C dL_placeOf_15 (n := 16) rfl (by decide) ?_
    exact dw_iret C (by decide) (by decide) hrt hlk dL_placeOf_16 ⟨rfl, Or.inl ⟨r, rfl, hr, rfl⟩⟩
/-! L_pray -/
set_option maxRecDepth 20000 in
set_option maxHeartbeats 4000000 in
theorem cw_L_pray {G : dk_G} {O : dl_T} {l : Launch} (hD : dk_D G) (hl : l.stackTraces = false) (hri : dk_RI G) (hg : dl_G G O) {σ : dk_S} {fO : Nat → Int64} {fD : Nat → UInt64} {K : Int32 → dk_S → Prop} {X : String → dk_S → Prop} (hX : ∀ E σ', X E σ' → ∃ r, (E, r) ∈ ([(eIS, 1)] : List (String × Int32))) (h : wf_X8_pray σ K X) : dw_M G O l yL_pray cL_pray 3 [(0, 8, 11, 17)] [dk_r G 0 40, .ref O.2.1] σ fO fD (dw_P K X Int32.toInt64 [(eIS, 1)] fD) := by
  refine dw_of hD hg (by decide) [some (dk_r G 0 40), some (.ref O.2.1), none] (fun q hq => hq) rfl (Nat.le_of_ble_eq_true rfl) (fun p e s m args below meth c C ht hrt hlk => ?_)
  refine dw_aload_n (i := 1) C dL_pray_0 (n := 1) rfl rfl rfl ?_
  refine dw_iconst (v := 0) C dL_pray_1 (n := 2) rfl (by decide) ?_
  refine dw_aload_n (i := 0) C dL_pray_2 (n := 3) rfl rfl rfl ?_
  refine dw_callX C [.int 0, .ref O.2.1] (cc_X8_pray hD hl hri h) yy_X8_pray dk_wm_L_80 rfl (by decide) (by decide) dk_sh40 rfl (hri.1 40 (by decide) (by decide)) rfl (Nat.le_of_ble_eq_true rfl) rfl dL_pray_3 (n := 6) rfl (fun E σ' hx => ?_) (fun v σ' hv => ?_)
  · obtain ⟨r0, hr0⟩ := hX E σ' hx
    simp only [List.mem_cons, Prod.mk.injEq, List.not_mem_nil, or_false] at hr0
    rcases hr0 with ⟨rfl, rfl⟩
    · refine dw_catch C [] ⟨0, 8, 11, 17⟩ [] (by rw [ht]; rfl) (fun _ h => absurd h List.not_mem_nil) (by decide) (by decide) dk_wk_L_17 dk_wx_eIS (n := 11) rfl (fun q => ?_)
      refine dw_astore_n (i := 2) (L' := [some (dk_r G 0 40), some (.ref O.2.1), some (.ref q)]) C dL_pray_11 (n := 12) rfl rfl (dk_nc_of rfl) (Nat.le_of_ble_eq_true rfl) rfl ?_
      refine dw_iconst (v := 1) C dL_pray_12 (n := 13) rfl (by decide) ?_
      exact dw_iret C (by decide) (by decide) hrt hlk dL_pray_13 ⟨rfl, Or.inr ⟨_, by simp, hx⟩⟩
  · obtain ⟨r, rfl, hr⟩ := hv
    refine dw_i2l C dL_pray_6 (n := 7) rfl ?_
    refine dw_last C dL_pray_7 (n := 8) rfl ?_
    refine dw_goto (t := 14) C dL_pray_8 (by decide) ?_
    refine dw_iconst (v := 0) C dL_pray_14 (n := 15) rfl (by decide) ?_
    exact dw_iret C (by decide) (by decide) hrt hlk dL_pray_15 ⟨rfl, Or.inl ⟨r, rfl, hr, rfl⟩⟩
/-! L_rest -/
set_option maxRecDepth 20000 in
set_option maxHeartbeats 4000000 in
theorem cw_L_rest {G : dk_G} {O : dl_T} {l : Launch} (hD : dk_D G) (hl : l.stackTraces = false) (hri : dk_RI G) (hg : dl_G G O) {σ : dk_S} {fO : Nat → Int64} {fD : Nat → UInt64} {K : Int32 → dk_S → Prop} {X : String → dk_S → Prop} (hX : ∀ E σ', X E σ' → ∃ r, (E, r) ∈ ([(eIS, 1)] : List (String × Int32))) (h : wf_X8_rest σ K X) : dw_M G O l yL_rest cL_rest 3 [(0, 8, 11, 17)] [dk_r G 0 40, .ref O.2.1] σ fO fD (dw_P K X Int32.toInt64 [(eIS, 1)] fD) := by
  refine dw_of hD hg (by decide) [some (dk_r G 0 40), some (.ref O.2.1), none] (fun q hq => hq) rfl (Nat.le_of_ble_eq_true rfl) (fun p e s m args below meth c C ht hrt hlk => ?_)
  refine dw_aload_n (i := 1) C dL_rest_0 (n := 1) rfl rfl rfl ?_
  refine dw_iconst (v := 0) C dL_rest_1 (n := 2) rfl (by decide) ?_
  refine dw_aload_n (i := 0) C dL_rest_2 (n := 3) rfl rfl rfl ?_
  refine dw_callX C [.int 0, .ref O.2.1] (cc_X8_rest hD hl hri h) yy_X8_rest dk_wm_L_56 rfl (by decide) (by decide) dk_sh40 rfl (hri.1 40 (by decide) (by decide)) rfl (Nat.le_of_ble_eq_true rfl) rfl dL_rest_3 (n := 6) rfl (fun E σ' hx => ?_) (fun v σ' hv => ?_)
  · obtain ⟨r0, hr0⟩ := hX E σ' hx
    simp only [List.mem_cons, Prod.mk.injEq, List.not_mem_nil, or_false] at hr0
    rcases hr0 with ⟨rfl, rfl⟩
    · refine dw_catch C [] ⟨0, 8, 11, 17⟩ [] (by rw [ht]; rfl) (fun _ h => absurd h List.not_mem_nil) (by decide) (by decide) dk_wk_L_17 dk_wx_eIS (n := 11) rfl (fun q => ?_)
      refine dw_astore_n (i := 2) (L' := [some (dk_r G 0 40), some (.ref O.2.1), some (.ref q)]) C dL_rest_11 (n := 12) rfl rfl (dk_nc_of rfl) (Nat.le_of_ble_eq_true rfl) rfl ?_
      refine dw_iconst (v := 1) C dL_rest_12 (n := 13) rfl (by decide) ?_
      exact dw_iret C (by decide) (by decide) hrt hlk dL_rest_13 ⟨rfl, Or.inr ⟨_, by simp, hx⟩⟩
  · obtain ⟨r, rfl, hr⟩ := hv
    refine dw_i2l C dL_rest_6 (n := 7) rfl ?_
    refine dw_last C dL_rest_7 (n := 8) rfl ?_
    refine dw_goto (t := 14) C dL_rest_8 (by decide) ?_
    refine dw_iconst (v := 0) C dL_rest_14 (n := 15) rfl (by decide) ?_
    exact dw_iret C (by decide) (by decide) hrt hlk dL_rest_15 ⟨rfl, Or.inl ⟨r, rfl, hr, rfl⟩⟩
/-! L_see -/
set_option maxRecDepth 20000 in
set_option maxHeartbeats 4000000 in
theorem cw_L_see {G : dk_G} {O : dl_T} {l : Launch} {a1 : Int32} {a2 : Int32} {a3 : Int32} {a4 : Int32} (hD : dk_D G) (hl : l.stackTraces = false) (hri : dk_RI G) (hg : dl_G G O) {σ : dk_S} {fO : Nat → Int64} {fD : Nat → UInt64} {K : Int32 → dk_S → Prop} {X : String → dk_S → Prop} (hX : ∀ E σ', X E σ' → ∃ r, (E, r) ∈ ([(eIO, 1)] : List (String × Int32))) (h : wf_X8_see a1 a2 a3 a4 σ K X) : dw_M G O l yL_see cL_see 7 [(0, 21, 24, 13)] [dk_r G 0 40, .int a1, .int a2, .int a3, .int a4, .ref O.2.1] σ fO fD (dw_P K X dl_bl [(eIO, 1)] fD) := by
  refine dw_of hD hg (by decide) [some (dk_r G 0 40), some (.int a1), some (.int a2), some (.int a3), some (.int a4), some (.ref O.2.1), none] (fun q hq => hq) rfl (Nat.le_of_ble_eq_true rfl) (fun p e s m args below meth c C ht hrt hlk => ?_)
  refine dw_aload (i := 5) C dL_see_0 (n := 2) rfl rfl ?_
  refine dw_iconst (v := 0) C dL_see_2 (n := 3) rfl (by decide) ?_
  refine dw_aload_n (i := 0) C dL_see_3 (n := 4) rfl rfl rfl ?_
  refine dw_iload_n (i := 1) C dL_see_4 (n := 5) rfl rfl rfl ?_
  refine dw_iload_n (i := 2) C dL_see_5 (n := 6) rfl rfl rfl ?_
  refine dw_iload_n (i := 3) C dL_see_6 (n := 7) rfl rfl rfl ?_
  refine dw_iload (i := 4) C dL_see_7 (n := 9) rfl rfl ?_
  refine dw_callX C [.int 0, .ref O.2.1] (cc_X8_see hD hl hri h) yy_X8_see dk_wm_L_87 rfl (by decide) (by decide) dk_sh40 rfl (hri.1 40 (by decide) (by decide)) rfl (Nat.le_of_ble_eq_true rfl) rfl dL_see_9 (n := 12) rfl (fun E σ' hx => ?_) (fun v σ' hv => ?_)
  · obtain ⟨r0, hr0⟩ := hX E σ' hx
    simp only [List.mem_cons, Prod.mk.injEq, List.not_mem_nil, or_false] at hr0
    rcases hr0 with ⟨rfl, rfl⟩
    · refine dw_catch C [] ⟨0, 21, 24, 13⟩ [] (by rw [ht]; rfl) (fun _ h => absurd h List.not_mem_nil) (by decide) (by decide) dk_wk_L_13 dk_wx_eIO (n := 24) rfl (fun q => ?_)
      refine dw_astore (i := 6) (L' := [some (dk_r G 0 40), some (.int a1), some (.int a2), some (.int a3), some (.int a4), some (.ref O.2.1), some (.ref q)]) C dL_see_24 (n := 26) rfl (dk_nc_of rfl) (Nat.le_of_ble_eq_true rfl) rfl ?_
      refine dw_iconst (v := 1) C dL_see_26 (n := 27) rfl (by decide) ?_
      exact dw_iret C (by decide) (by decide) hrt hlk dL_see_27 ⟨rfl, Or.inr ⟨_, by simp, hx⟩⟩
  · obtain ⟨r, rfl, hr⟩ := hv
    refine dw_boolL C dL_see_12 dL_see_15 dL_see_16 dL_see_19 (n := 20) (by decide) (by decide) rfl ?_
    refine dw_last C dL_see_20 (n := 21) rfl ?_
    refine dw_goto (t := 28) C dL_see_21 (by decide) ?_
    refine dw_iconst (v := 0) C dL_see_28 (n := 29) rfl (by decide) ?_
    exact dw_iret C (by decide) (by decide) hrt hlk dL_see_29 ⟨rfl, Or.inl ⟨r, rfl, hr, rfl⟩⟩
/-! L_setEffect -/
set_option maxRecDepth 20000 in
set_option maxHeartbeats 4000000 in
theorem cw_L_setEffect {G : dk_G} {O : dl_T} {l : Launch} {a1 : Int32} {a2 : Int32} {a3 : Int32} {a4 : Int32} (hD : dk_D G) (hl : l.stackTraces = false) (hri : dk_RI G) (hg : dl_G G O) {σ : dk_S} {fO : Nat → Int64} {fD : Nat → UInt64} {K : Int32 → dk_S → Prop} {X : String → dk_S → Prop} (hX : ∀ E σ', X E σ' → ∃ r, (E, r) ∈ ([(eIA, 1), (eIS, 2)] : List (String × Int32))) (h : wf_X8_setEffect a1 a2 a3 a4 σ K X) : dw_M G O l yL_setEffect cL_setEffect 7 [(0, 14, 17, 15), (0, 14, 21, 17)] [dk_r G 0 40, .int a1, .int a2, .int a3, .int a4, .ref O.2.1] σ fO fD (dw_P K X Int32.toInt64 [(eIA, 1), (eIS, 2)] fD) := by
  refine dw_of hD hg (by decide) [some (dk_r G 0 40), some (.int a1), some (.int a2), some (.int a3), some (.int a4), some (.ref O.2.1), none] (fun q hq => hq) rfl (Nat.le_of_ble_eq_true rfl) (fun p e s m args below meth c C ht hrt hlk => ?_)
  refine dw_aload (i := 5) C dL_setEffect_0 (n := 2) rfl rfl ?_
  refine dw_iconst (v := 0) C dL_setEffect_2 (n := 3) rfl (by decide) ?_
  refine dw_aload_n (i := 0) C dL_setEffect_3 (n := 4) rfl rfl rfl ?_
  refine dw_iload_n (i := 1) C dL_setEffect_4 (n := 5) rfl rfl rfl ?_
  refine dw_iload_n (i := 2) C dL_setEffect_5 (n := 6) rfl rfl rfl ?_
  refine dw_iload_n (i := 3) C dL_setEffect_6 (n := 7) rfl rfl rfl ?_
  refine dw_iload (i := 4) C dL_setEffect_7 (n := 9) rfl rfl ?_
  refine dw_callX C [.int 0, .ref O.2.1] (cc_X8_setEffect hD hl hri h) yy_X8_setEffect dk_wm_L_23 rfl (by decide) (by decide) dk_sh40 rfl (hri.1 40 (by decide) (by decide)) rfl (Nat.le_of_ble_eq_true rfl) rfl dL_setEffect_9 (n := 12) rfl (fun E σ' hx => ?_) (fun v σ' hv => ?_)
  · obtain ⟨r0, hr0⟩ := hX E σ' hx
    simp only [List.mem_cons, Prod.mk.injEq, List.not_mem_nil, or_false] at hr0
    rcases hr0 with ⟨rfl, rfl⟩ | ⟨rfl, rfl⟩
    · refine dw_catch C [] ⟨0, 14, 17, 15⟩ [⟨0, 14, 21, 17⟩] (by rw [ht]; rfl) (fun _ h => absurd h List.not_mem_nil) (by decide) (by decide) dk_wk_L_15 dk_wx_eIA (n := 17) rfl (fun q => ?_)
      refine dw_astore (i := 6) (L' := [some (dk_r G 0 40), some (.int a1), some (.int a2), some (.int a3), some (.int a4), some (.ref O.2.1), some (.ref q)]) C dL_setEffect_17 (n := 19) rfl (dk_nc_of rfl) (Nat.le_of_ble_eq_true rfl) rfl ?_
      refine dw_iconst (v := 1) C dL_setEffect_19 (n := 20) rfl (by decide) ?_
      exact dw_iret C (by decide) (by decide) hrt hlk dL_setEffect_20 ⟨rfl, Or.inr ⟨_, by simp, hx⟩⟩
    · refine dw_catch C [⟨0, 14, 17, 15⟩] ⟨0, 14, 21, 17⟩ [] (by rw [ht]; rfl) (List.forall_mem_cons.mpr ⟨⟨by decide, eIA, dk_wk_L_15, by decide +kernel⟩, fun _ h => absurd h List.not_mem_nil⟩) (by decide) (by decide) dk_wk_L_17 dk_wx_eIS (n := 21) rfl (fun q => ?_)
      refine dw_astore (i := 6) (L' := [some (dk_r G 0 40), some (.int a1), some (.int a2), some (.int a3), some (.int a4), some (.ref O.2.1), some (.ref q)]) C dL_setEffect_21 (n := 23) rfl (dk_nc_of rfl) (Nat.le_of_ble_eq_true rfl) rfl ?_
      refine dw_iconst (v := 2) C dL_setEffect_23 (n := 24) rfl (by decide) ?_
      exact dw_iret C (by decide) (by decide) hrt hlk dL_setEffect_24 ⟨rfl, Or.inr ⟨_, by simp, hx⟩⟩
  · obtain ⟨r, rfl, hr⟩ := hv
    refine dw_i2l C dL_setEffect_12 (n := 13) rfl ?_
    refine dw_last C dL_setEffect_13 (n := 14) rfl ?_
    refine dw_goto (t := 25) C dL_setEffect_14 (by decide) ?_
    refine dw_iconst (v := 0) C dL_setEffect_25 (n := 26) rfl (by decide) ?_
    exact dw_iret C (by decide) (by decide) hrt hlk dL_setEffect_26 ⟨rfl, Or.inl ⟨r, rfl, hr, rfl⟩⟩
/-! L_setHero -/
set_option maxRecDepth 20000 in
set_option maxHeartbeats 4000000 in
theorem cw_L_setHero {G : dk_G} {O : dl_T} {l : Launch} {a1 : Int32} {a2 : Int32} {a3 : Int32} {a4 : Int32} (hD : dk_D G) (hl : l.stackTraces = false) (hri : dk_RI G) (hg : dl_G G O) {σ : dk_S} {fO : Nat → Int64} {fD : Nat → UInt64} {K : Int32 → dk_S → Prop} {X : String → dk_S → Prop} (hX : ∀ E σ', X E σ' → ∃ r, (E, r) ∈ ([(eIO, 1), (eIA, 2), (eIS, 3)] : List (String × Int32))) (h : wf_X8_setHero a1 a2 a3 a4 σ K X) : dw_M G O l yL_setHero cL_setHero 7 [(0, 14, 17, 13), (0, 14, 21, 15), (0, 14, 25, 17)] [dk_r G 0 40, .int a1, .int a2, .int a3, .int a4, .ref O.2.1] σ fO fD (dw_P K X Int32.toInt64 [(eIO, 1), (eIA, 2), (eIS, 3)] fD) := by
  refine dw_of hD hg (by decide) [some (dk_r G 0 40), some (.int a1), some (.int a2), some (.int a3), some (.int a4), some (.ref O.2.1), none] (fun q hq => hq) rfl (Nat.le_of_ble_eq_true rfl) (fun p e s m args below meth c C ht hrt hlk => ?_)
  refine dw_aload (i := 5) C dL_setHero_0 (n := 2) rfl rfl ?_
  refine dw_iconst (v := 0) C dL_setHero_2 (n := 3) rfl (by decide) ?_
  refine dw_aload_n (i := 0) C dL_setHero_3 (n := 4) rfl rfl rfl ?_
  refine dw_iload_n (i := 1) C dL_setHero_4 (n := 5) rfl rfl rfl ?_
  refine dw_iload_n (i := 2) C dL_setHero_5 (n := 6) rfl rfl rfl ?_
  refine dw_iload_n (i := 3) C dL_setHero_6 (n := 7) rfl rfl rfl ?_
  refine dw_iload (i := 4) C dL_setHero_7 (n := 9) rfl rfl ?_
  refine dw_callX C [.int 0, .ref O.2.1] (cc_X8_setHero hD hl hri h) yy_X8_setHero dk_wm_L_27 rfl (by decide) (by decide) dk_sh40 rfl (hri.1 40 (by decide) (by decide)) rfl (Nat.le_of_ble_eq_true rfl) rfl dL_setHero_9 (n := 12) rfl (fun E σ' hx => ?_) (fun v σ' hv => ?_)
  · obtain ⟨r0, hr0⟩ := hX E σ' hx
    simp only [List.mem_cons, Prod.mk.injEq, List.not_mem_nil, or_false] at hr0
    rcases hr0 with ⟨rfl, rfl⟩ | ⟨rfl, rfl⟩ | ⟨rfl, rfl⟩
    · refine dw_catch C [] ⟨0, 14, 17, 13⟩ [⟨0, 14, 21, 15⟩, ⟨0, 14, 25, 17⟩] (by rw [ht]; rfl) (fun _ h => absurd h List.not_mem_nil) (by decide) (by decide) dk_wk_L_13 dk_wx_eIO (n := 17) rfl (fun q => ?_)
      refine dw_astore (i := 6) (L' := [some (dk_r G 0 40), some (.int a1), some (.int a2), some (.int a3), some (.int a4), some (.ref O.2.1), some (.ref q)]) C dL_setHero_17 (n := 19) rfl (dk_nc_of rfl) (Nat.le_of_ble_eq_true rfl) rfl ?_
      refine dw_iconst (v := 1) C dL_setHero_19 (n := 20) rfl (by decide) ?_
      exact dw_iret C (by decide) (by decide) hrt hlk dL_setHero_20 ⟨rfl, Or.inr ⟨_, by simp, hx⟩⟩
    · refine dw_catch C [⟨0, 14, 17, 13⟩] ⟨0, 14, 21, 15⟩ [⟨0, 14, 25, 17⟩] (by rw [ht]; rfl) (List.forall_mem_cons.mpr ⟨⟨by decide, eIO, dk_wk_L_13, by decide +kernel⟩, fun _ h => absurd h List.not_mem_nil⟩) (by decide) (by decide) dk_wk_L_15 dk_wx_eIA (n := 21) rfl (fun q => ?_)
      refine dw_astore (i := 6) (L' := [some (dk_r G 0 40), some (.int a1), some (.int a2), some (.int a3), some (.int a4), some (.ref O.2.1), some (.ref q)]) C dL_setHero_21 (n := 23) rfl (dk_nc_of rfl) (Nat.le_of_ble_eq_true rfl) rfl ?_
      refine dw_iconst (v := 2) C dL_setHero_23 (n := 24) rfl (by decide) ?_
      exact dw_iret C (by decide) (by decide) hrt hlk dL_setHero_24 ⟨rfl, Or.inr ⟨_, by simp, hx⟩⟩
    · refine dw_catch C [⟨0, 14, 17, 13⟩, ⟨0, 14, 21, 15⟩] ⟨0, 14, 25, 17⟩ [] (by rw [ht]; rfl) (List.forall_mem_cons.mpr ⟨⟨by decide, eIO, dk_wk_L_13, by decide +kernel⟩, List.forall_mem_cons.mpr ⟨⟨by decide, eIA, dk_wk_L_15, by decide +kernel⟩, fun _ h => absurd h List.not_mem_nil⟩⟩) (by decide) (by decide) dk_wk_L_17 dk_wx_eIS (n := 25) rfl (fun q => ?_)
      refine dw_astore (i := 6) (L' := [some (dk_r G 0 40), some (.int a1), some (.int a2), some (.int a3), some (.int a4), some (.ref O.2.1), some (.ref q)]) C dL_setHero_25 (n := 27) rfl (dk_nc_of rfl) (Nat.le_of_ble_eq_true rfl) rfl ?_
      refine dw_iconst (v := 3) C dL_setHero_27 (n := 28) rfl (by decide) ?_
      exact dw_iret C (by decide) (by decide) hrt hlk dL_setHero_28 ⟨rfl, Or.inr ⟨_, by simp, hx⟩⟩
  · obtain ⟨r, rfl, hr⟩ := hv
    refine dw_i2l C dL_setHero_12 (n := 13) rfl ?_
    refine dw_last C dL_setHero_13 (n := 14) rfl ?_
    refine dw_goto (t := 29) C dL_setHero_14 (by decide) ?_
    refine dw_iconst (v := 0) C dL_setHero_29 (n := 30) rfl (by decide) ?_
    exact dw_iret C (by decide) (by decide) hrt hlk dL_setHero_30 ⟨rfl, Or.inl ⟨r, rfl, hr, rfl⟩⟩
/-! L_setKind -/
set_option maxRecDepth 20000 in
set_option maxHeartbeats 4000000 in
theorem cw_L_setKind {G : dk_G} {O : dl_T} {l : Launch} {a1 : Int32} {a2 : Int32} {a3 : Int32} (hD : dk_D G) (hl : l.stackTraces = false) (hri : dk_RI G) (hg : dl_G G O) {σ : dk_S} {fO : Nat → Int64} {fD : Nat → UInt64} {K : Int32 → dk_S → Prop} {X : String → dk_S → Prop} (hX : ∀ E σ', X E σ' → ∃ r, (E, r) ∈ ([(eIA, 1), (eIS, 2)] : List (String × Int32))) (h : wf_X8_setKind a1 a2 a3 σ K X) : dw_M G O l yL_setKind cL_setKind 6 [(0, 12, 15, 15), (0, 12, 19, 17)] [dk_r G 0 40, .int a1, .int a2, .int a3, .ref O.2.1] σ fO fD (dw_P K X Int32.toInt64 [(eIA, 1), (eIS, 2)] fD) := by
  refine dw_of hD hg (by decide) [some (dk_r G 0 40), some (.int a1), some (.int a2), some (.int a3), some (.ref O.2.1), none] (fun q hq => hq) rfl (Nat.le_of_ble_eq_true rfl) (fun p e s m args below meth c C ht hrt hlk => ?_)
  refine dw_aload (i := 4) C dL_setKind_0 (n := 2) rfl rfl ?_
  refine dw_iconst (v := 0) C dL_setKind_2 (n := 3) rfl (by decide) ?_
  refine dw_aload_n (i := 0) C dL_setKind_3 (n := 4) rfl rfl rfl ?_
  refine dw_iload_n (i := 1) C dL_setKind_4 (n := 5) rfl rfl rfl ?_
  refine dw_iload_n (i := 2) C dL_setKind_5 (n := 6) rfl rfl rfl ?_
  refine dw_iload_n (i := 3) C dL_setKind_6 (n := 7) rfl rfl rfl ?_
  refine dw_callX C [.int 0, .ref O.2.1] (cc_X8_setKind hD hl hri h) yy_X8_setKind dk_wm_L_19 rfl (by decide) (by decide) dk_sh40 rfl (hri.1 40 (by decide) (by decide)) rfl (Nat.le_of_ble_eq_true rfl) rfl dL_setKind_7 (n := 10) rfl (fun E σ' hx => ?_) (fun v σ' hv => ?_)
  · obtain ⟨r0, hr0⟩ := hX E σ' hx
    simp only [List.mem_cons, Prod.mk.injEq, List.not_mem_nil, or_false] at hr0
    rcases hr0 with ⟨rfl, rfl⟩ | ⟨rfl, rfl⟩
    · refine dw_catch C [] ⟨0, 12, 15, 15⟩ [⟨0, 12, 19, 17⟩] (by rw [ht]; rfl) (fun _ h => absurd h List.not_mem_nil) (by decide) (by decide) dk_wk_L_15 dk_wx_eIA (n := 15) rfl (fun q => ?_)
      refine dw_astore (i := 5) (L' := [some (dk_r G 0 40), some (.int a1), some (.int a2), some (.int a3), some (.ref O.2.1), some (.ref q)]) C dL_setKind_15 (n := 17) rfl (dk_nc_of rfl) (Nat.le_of_ble_eq_true rfl) rfl ?_
      refine dw_iconst (v := 1) C dL_setKind_17 (n := 18) rfl (by decide) ?_
      exact dw_iret C (by decide) (by decide) hrt hlk dL_setKind_18 ⟨rfl, Or.inr ⟨_, by simp, hx⟩⟩
    · refine dw_catch C [⟨0, 12, 15, 15⟩] ⟨0, 12, 19, 17⟩ [] (by rw [ht]; rfl) (List.forall_mem_cons.mpr ⟨⟨by decide, eIA, dk_wk_L_15, by decide +kernel⟩, fun _ h => absurd h List.not_mem_nil⟩) (by decide) (by decide) dk_wk_L_17 dk_wx_eIS (n := 19) rfl (fun q => ?_)
      refine dw_astore (i := 5) (L' := [some (dk_r G 0 40), some (.int a1), some (.int a2), some (.int a3), some (.ref O.2.1), some (.ref q)]) C dL_setKind_19 (n := 21) rfl (dk_nc_of rfl) (Nat.le_of_ble_eq_true rfl) rfl ?_
      refine dw_iconst (v := 2) C dL_setKind_21 (n := 22) rfl (by decide) ?_
      exact dw_iret C (by decide) (by decide) hrt hlk dL_setKind_22 ⟨rfl, Or.inr ⟨_, by simp, hx⟩⟩
  · obtain ⟨r, rfl, hr⟩ := hv
    refine dw_i2l C dL_setKind_10 (n := 11) rfl ?_
    refine dw_last C dL_setKind_11 (n := 12) rfl ?_
    refine dw_goto (t := 23) C dL_setKind_12 (by decide) ?_
    refine dw_iconst (v := 0) C dL_setKind_23 (n := 24) rfl (by decide) ?_
    exact dw_iret C (by decide) (by decide) hrt hlk dL_setKind_24 ⟨rfl, Or.inl ⟨r, rfl, hr, rfl⟩⟩
/-! L_shout -/
set_option maxRecDepth 20000 in
set_option maxHeartbeats 4000000 in
theorem cw_L_shout {G : dk_G} {O : dl_T} {l : Launch} {a1 : Int32} (hD : dk_D G) (hl : l.stackTraces = false) (hri : dk_RI G) (hg : dl_G G O) {σ : dk_S} {fO : Nat → Int64} {fD : Nat → UInt64} {K : Int32 → dk_S → Prop} {X : String → dk_S → Prop} (hX : ∀ E σ', X E σ' → ∃ r, (E, r) ∈ ([(eIA, 1), (eIS, 2)] : List (String × Int32))) (h : wf_X8_shout a1 σ K X) : dw_M G O l yL_shout cL_shout 4 [(0, 9, 12, 15), (0, 9, 15, 17)] [dk_r G 0 40, .int a1, .ref O.2.1] σ fO fD (dw_P K X Int32.toInt64 [(eIA, 1), (eIS, 2)] fD) := by
  refine dw_of hD hg (by decide) [some (dk_r G 0 40), some (.int a1), some (.ref O.2.1), none] (fun q hq => hq) rfl (Nat.le_of_ble_eq_true rfl) (fun p e s m args below meth c C ht hrt hlk => ?_)
  refine dw_aload_n (i := 2) C dL_shout_0 (n := 1) rfl rfl rfl ?_
  refine dw_iconst (v := 0) C dL_shout_1 (n := 2) rfl (by decide) ?_
  refine dw_aload_n (i := 0) C dL_shout_2 (n := 3) rfl rfl rfl ?_
  refine dw_iload_n (i := 1) C dL_shout_3 (n := 4) rfl rfl rfl ?_
  refine dw_callX C [.int 0, .ref O.2.1] (cc_X8_shout hD hl hri h) yy_X8_shout dk_wm_L_77 rfl (by decide) (by decide) dk_sh40 rfl (hri.1 40 (by decide) (by decide)) rfl (Nat.le_of_ble_eq_true rfl) rfl dL_shout_4 (n := 7) rfl (fun E σ' hx => ?_) (fun v σ' hv => ?_)
  · obtain ⟨r0, hr0⟩ := hX E σ' hx
    simp only [List.mem_cons, Prod.mk.injEq, List.not_mem_nil, or_false] at hr0
    rcases hr0 with ⟨rfl, rfl⟩ | ⟨rfl, rfl⟩
    · refine dw_catch C [] ⟨0, 9, 12, 15⟩ [⟨0, 9, 15, 17⟩] (by rw [ht]; rfl) (fun _ h => absurd h List.not_mem_nil) (by decide) (by decide) dk_wk_L_15 dk_wx_eIA (n := 12) rfl (fun q => ?_)
      refine dw_astore_n (i := 3) (L' := [some (dk_r G 0 40), some (.int a1), some (.ref O.2.1), some (.ref q)]) C dL_shout_12 (n := 13) rfl rfl (dk_nc_of rfl) (Nat.le_of_ble_eq_true rfl) rfl ?_
      refine dw_iconst (v := 1) C dL_shout_13 (n := 14) rfl (by decide) ?_
      exact dw_iret C (by decide) (by decide) hrt hlk dL_shout_14 ⟨rfl, Or.inr ⟨_, by simp, hx⟩⟩
    · refine dw_catch C [⟨0, 9, 12, 15⟩] ⟨0, 9, 15, 17⟩ [] (by rw [ht]; rfl) (List.forall_mem_cons.mpr ⟨⟨by decide, eIA, dk_wk_L_15, by decide +kernel⟩, fun _ h => absurd h List.not_mem_nil⟩) (by decide) (by decide) dk_wk_L_17 dk_wx_eIS (n := 15) rfl (fun q => ?_)
      refine dw_astore_n (i := 3) (L' := [some (dk_r G 0 40), some (.int a1), some (.ref O.2.1), some (.ref q)]) C dL_shout_15 (n := 16) rfl rfl (dk_nc_of rfl) (Nat.le_of_ble_eq_true rfl) rfl ?_
      refine dw_iconst (v := 2) C dL_shout_16 (n := 17) rfl (by decide) ?_
      exact dw_iret C (by decide) (by decide) hrt hlk dL_shout_17 ⟨rfl, Or.inr ⟨_, by simp, hx⟩⟩
  · obtain ⟨r, rfl, hr⟩ := hv
    refine dw_i2l C dL_shout_7 (n := 8) rfl ?_
    refine dw_last C dL_shout_8 (n := 9) rfl ?_
    refine dw_goto (t := 18) C dL_shout_9 (by decide) ?_
    refine dw_iconst (v := 0) C dL_shout_18 (n := 19) rfl (by decide) ?_
    exact dw_iret C (by decide) (by decide) hrt hlk dL_shout_19 ⟨rfl, Or.inl ⟨r, rfl, hr, rfl⟩⟩
/-! L_take -/
set_option maxRecDepth 20000 in
set_option maxHeartbeats 4000000 in
theorem cw_L_take {G : dk_G} {O : dl_T} {l : Launch} {a1 : Int32} (hD : dk_D G) (hl : l.stackTraces = false) (hri : dk_RI G) (hg : dl_G G O) {σ : dk_S} {fO : Nat → Int64} {fD : Nat → UInt64} {K : Int32 → dk_S → Prop} {X : String → dk_S → Prop} (hX : ∀ E σ', X E σ' → ∃ r, (E, r) ∈ ([(eIO, 1), (eIS, 2), (eNS, 3), (eUO, 4)] : List (String × Int32))) (h : wf_X8_take a1 σ K X) : dw_M G O l yL_take cL_take 4 [(0, 9, 12, 13), (0, 9, 15, 17), (0, 9, 18, 62), (0, 9, 21, 38)] [dk_r G 0 40, .int a1, .ref O.2.1] σ fO fD (dw_P K X Int32.toInt64 [(eIO, 1), (eIS, 2), (eNS, 3), (eUO, 4)] fD) := by
  refine dw_of hD hg (by decide) [some (dk_r G 0 40), some (.int a1), some (.ref O.2.1), none] (fun q hq => hq) rfl (Nat.le_of_ble_eq_true rfl) (fun p e s m args below meth c C ht hrt hlk => ?_)
  refine dw_aload_n (i := 2) C dL_take_0 (n := 1) rfl rfl rfl ?_
  refine dw_iconst (v := 0) C dL_take_1 (n := 2) rfl (by decide) ?_
  refine dw_aload_n (i := 0) C dL_take_2 (n := 3) rfl rfl rfl ?_
  refine dw_iload_n (i := 1) C dL_take_3 (n := 4) rfl rfl rfl ?_
  refine dw_callX C [.int 0, .ref O.2.1] (cc_X8_take hD hl hri h) yy_X8_take dk_wm_L_59 rfl (by decide) (by decide) dk_sh40 rfl (hri.1 40 (by decide) (by decide)) rfl (Nat.le_of_ble_eq_true rfl) rfl dL_take_4 (n := 7) rfl (fun E σ' hx => ?_) (fun v σ' hv => ?_)
  · obtain ⟨r0, hr0⟩ := hX E σ' hx
    simp only [List.mem_cons, Prod.mk.injEq, List.not_mem_nil, or_false] at hr0
    rcases hr0 with ⟨rfl, rfl⟩ | ⟨rfl, rfl⟩ | ⟨rfl, rfl⟩ | ⟨rfl, rfl⟩
    · refine dw_catch C [] ⟨0, 9, 12, 13⟩ [⟨0, 9, 15, 17⟩, ⟨0, 9, 18, 62⟩, ⟨0, 9, 21, 38⟩] (by rw [ht]; rfl) (fun _ h => absurd h List.not_mem_nil) (by decide) (by decide) dk_wk_L_13 dk_wx_eIO (n := 12) rfl (fun q => ?_)
      refine dw_astore_n (i := 3) (L' := [some (dk_r G 0 40), some (.int a1), some (.ref O.2.1), some (.ref q)]) C dL_take_12 (n := 13) rfl rfl (dk_nc_of rfl) (Nat.le_of_ble_eq_true rfl) rfl ?_
      refine dw_iconst (v := 1) C dL_take_13 (n := 14) rfl (by decide) ?_
      exact dw_iret C (by decide) (by decide) hrt hlk dL_take_14 ⟨rfl, Or.inr ⟨_, by simp, hx⟩⟩
    · refine dw_catch C [⟨0, 9, 12, 13⟩] ⟨0, 9, 15, 17⟩ [⟨0, 9, 18, 62⟩, ⟨0, 9, 21, 38⟩] (by rw [ht]; rfl) (List.forall_mem_cons.mpr ⟨⟨by decide, eIO, dk_wk_L_13, by decide +kernel⟩, fun _ h => absurd h List.not_mem_nil⟩) (by decide) (by decide) dk_wk_L_17 dk_wx_eIS (n := 15) rfl (fun q => ?_)
      refine dw_astore_n (i := 3) (L' := [some (dk_r G 0 40), some (.int a1), some (.ref O.2.1), some (.ref q)]) C dL_take_15 (n := 16) rfl rfl (dk_nc_of rfl) (Nat.le_of_ble_eq_true rfl) rfl ?_
      refine dw_iconst (v := 2) C dL_take_16 (n := 17) rfl (by decide) ?_
      exact dw_iret C (by decide) (by decide) hrt hlk dL_take_17 ⟨rfl, Or.inr ⟨_, by simp, hx⟩⟩
    · refine dw_catch C [⟨0, 9, 12, 13⟩, ⟨0, 9, 15, 17⟩] ⟨0, 9, 18, 62⟩ [⟨0, 9, 21, 38⟩] (by rw [ht]; rfl) (List.forall_mem_cons.mpr ⟨⟨by decide, eIO, dk_wk_L_13, by decide +kernel⟩, List.forall_mem_cons.mpr ⟨⟨by decide, eIS, dk_wk_L_17, by decide +kernel⟩, fun _ h => absurd h List.not_mem_nil⟩⟩) (by decide) (by decide) dk_wk_L_62 dk_wx_eNS (n := 18) rfl (fun q => ?_)
      refine dw_astore_n (i := 3) (L' := [some (dk_r G 0 40), some (.int a1), some (.ref O.2.1), some (.ref q)]) C dL_take_18 (n := 19) rfl rfl (dk_nc_of rfl) (Nat.le_of_ble_eq_true rfl) rfl ?_
      refine dw_iconst (v := 3) C dL_take_19 (n := 20) rfl (by decide) ?_
      exact dw_iret C (by decide) (by decide) hrt hlk dL_take_20 ⟨rfl, Or.inr ⟨_, by simp, hx⟩⟩
    · refine dw_catch C [⟨0, 9, 12, 13⟩, ⟨0, 9, 15, 17⟩, ⟨0, 9, 18, 62⟩] ⟨0, 9, 21, 38⟩ [] (by rw [ht]; rfl) (List.forall_mem_cons.mpr ⟨⟨by decide, eIO, dk_wk_L_13, by decide +kernel⟩, List.forall_mem_cons.mpr ⟨⟨by decide, eIS, dk_wk_L_17, by decide +kernel⟩, List.forall_mem_cons.mpr ⟨⟨by decide, eNS, dk_wk_L_62, by decide +kernel⟩, fun _ h => absurd h List.not_mem_nil⟩⟩⟩) (by decide) (by decide) dk_wk_L_38 dk_wx_eUO (n := 21) rfl (fun q => ?_)
      refine dw_astore_n (i := 3) (L' := [some (dk_r G 0 40), some (.int a1), some (.ref O.2.1), some (.ref q)]) C dL_take_21 (n := 22) rfl rfl (dk_nc_of rfl) (Nat.le_of_ble_eq_true rfl) rfl ?_
      refine dw_iconst (v := 4) C dL_take_22 (n := 23) rfl (by decide) ?_
      exact dw_iret C (by decide) (by decide) hrt hlk dL_take_23 ⟨rfl, Or.inr ⟨_, by simp, hx⟩⟩
  · obtain ⟨r, rfl, hr⟩ := hv
    refine dw_i2l C dL_take_7 (n := 8) rfl ?_
    refine dw_last C dL_take_8 (n := 9) rfl ?_
    refine dw_goto (t := 24) C dL_take_9 (by decide) ?_
    refine dw_iconst (v := 0) C dL_take_24 (n := 25) rfl (by decide) ?_
    exact dw_iret C (by decide) (by decide) hrt hlk dL_take_25 ⟨rfl, Or.inl ⟨r, rfl, hr, rfl⟩⟩
/-! L_weightOf -/
set_option maxRecDepth 20000 in
set_option maxHeartbeats 4000000 in
theorem cw_L_weightOf {G : dk_G} {O : dl_T} {l : Launch} {a1 : Int32} (hD : dk_D G) (hl : l.stackTraces = false) (hri : dk_RI G) (hg : dl_G G O) {σ : dk_S} {fO : Nat → Int64} {fD : Nat → UInt64} {K : Int32 → dk_S → Prop} {X : String → dk_S → Prop} (hX : ∀ E σ', X E σ' → ∃ r, (E, r) ∈ ([(eIO, 1)] : List (String × Int32))) (h : wf_X8_weightOf a1 σ K X) : dw_M G O l yL_weightOf cL_weightOf 4 [(0, 9, 12, 13)] [dk_r G 0 40, .int a1, .ref O.2.1] σ fO fD (dw_P K X Int32.toInt64 [(eIO, 1)] fD) := by
  refine dw_of hD hg (by decide) [some (dk_r G 0 40), some (.int a1), some (.ref O.2.1), none] (fun q hq => hq) rfl (Nat.le_of_ble_eq_true rfl) (fun p e s m args below meth c C ht hrt hlk => ?_)
  refine dw_aload_n (i := 2) C dL_weightOf_0 (n := 1) rfl rfl rfl ?_
  refine dw_iconst (v := 0) C dL_weightOf_1 (n := 2) rfl (by decide) ?_
  refine dw_aload_n (i := 0) C dL_weightOf_2 (n := 3) rfl rfl rfl ?_
  refine dw_iload_n (i := 1) C dL_weightOf_3 (n := 4) rfl rfl rfl ?_
  refine dw_callX C [.int 0, .ref O.2.1] (cc_X8_weightOf hD hl hri h) yy_X8_weightOf dk_wm_L_107 rfl (by decide) (by decide) dk_sh40 rfl (hri.1 40 (by decide) (by decide)) rfl (Nat.le_of_ble_eq_true rfl) rfl dL_weightOf_4 (n := 7) rfl (fun E σ' hx => ?_) (fun v σ' hv => ?_)
  · obtain ⟨r0, hr0⟩ := hX E σ' hx
    simp only [List.mem_cons, Prod.mk.injEq, List.not_mem_nil, or_false] at hr0
    rcases hr0 with ⟨rfl, rfl⟩
    · refine dw_catch C [] ⟨0, 9, 12, 13⟩ [] (by rw [ht]; rfl) (fun _ h => absurd h List.not_mem_nil) (by decide) (by decide) dk_wk_L_13 dk_wx_eIO (n := 12) rfl (fun q => ?_)
      refine dw_astore_n (i := 3) (L' := [some (dk_r G 0 40), some (.int a1), some (.ref O.2.1), some (.ref q)]) C dL_weightOf_12 (n := 13) rfl rfl (dk_nc_of rfl) (Nat.le_of_ble_eq_true rfl) rfl ?_
      refine dw_iconst (v := 1) C dL_weightOf_13 (n := 14) rfl (by decide) ?_
      exact dw_iret C (by decide) (by decide) hrt hlk dL_weightOf_14 ⟨rfl, Or.inr ⟨_, by simp, hx⟩⟩
  · obtain ⟨r, rfl, hr⟩ := hv
    refine dw_i2l C dL_weightOf_7 (n := 8) rfl ?_
    refine dw_last C dL_weightOf_8 (n := 9) rfl ?_
    refine dw_goto (t := 15) C dL_weightOf_9 (by decide) ?_
    refine dw_iconst (v := 0) C dL_weightOf_15 (n := 16) rfl (by decide) ?_
    exact dw_iret C (by decide) (by decide) hrt hlk dL_weightOf_16 ⟨rfl, Or.inl ⟨r, rfl, hr, rfl⟩⟩
/-! L_whereIs -/
set_option maxRecDepth 20000 in
set_option maxHeartbeats 4000000 in
theorem cw_L_whereIs {G : dk_G} {O : dl_T} {l : Launch} {a1 : Int32} (hD : dk_D G) (hl : l.stackTraces = false) (hri : dk_RI G) (hg : dl_G G O) {σ : dk_S} {fO : Nat → Int64} {fD : Nat → UInt64} {K : Int32 → dk_S → Prop} {X : String → dk_S → Prop} (hX : ∀ E σ', X E σ' → ∃ r, (E, r) ∈ ([(eIO, 1)] : List (String × Int32))) (h : wf_X8_whereIs a1 σ K X) : dw_M G O l yL_whereIs cL_whereIs 4 [(0, 9, 12, 13)] [dk_r G 0 40, .int a1, .ref O.2.1] σ fO fD (dw_P K X Int32.toInt64 [(eIO, 1)] fD) := by
  refine dw_of hD hg (by decide) [some (dk_r G 0 40), some (.int a1), some (.ref O.2.1), none] (fun q hq => hq) rfl (Nat.le_of_ble_eq_true rfl) (fun p e s m args below meth c C ht hrt hlk => ?_)
  refine dw_aload_n (i := 2) C dL_whereIs_0 (n := 1) rfl rfl rfl ?_
  refine dw_iconst (v := 0) C dL_whereIs_1 (n := 2) rfl (by decide) ?_
  refine dw_aload_n (i := 0) C dL_whereIs_2 (n := 3) rfl rfl rfl ?_
  refine dw_iload_n (i := 1) C dL_whereIs_3 (n := 4) rfl rfl rfl ?_
  refine dw_callX C [.int 0, .ref O.2.1] (cc_X8_whereIs hD hl hri h) yy_X8_whereIs dk_wm_L_104 rfl (by decide) (by decide) dk_sh40 rfl (hri.1 40 (by decide) (by decide)) rfl (Nat.le_of_ble_eq_true rfl) rfl dL_whereIs_4 (n := 7) rfl (fun E σ' hx => ?_) (fun v σ' hv => ?_)
  · obtain ⟨r0, hr0⟩ := hX E σ' hx
    simp only [List.mem_cons, Prod.mk.injEq, List.not_mem_nil, or_false] at hr0
    rcases hr0 with ⟨rfl, rfl⟩
    · refine dw_catch C [] ⟨0, 9, 12, 13⟩ [] (by rw [ht]; rfl) (fun _ h => absurd h List.not_mem_nil) (by decide) (by decide) dk_wk_L_13 dk_wx_eIO (n := 12) rfl (fun q => ?_)
      refine dw_astore_n (i := 3) (L' := [some (dk_r G 0 40), some (.int a1), some (.ref O.2.1), some (.ref q)]) C dL_whereIs_12 (n := 13) rfl rfl (dk_nc_of rfl) (Nat.le_of_ble_eq_true rfl) rfl ?_
      refine dw_iconst (v := 1) C dL_whereIs_13 (n := 14) rfl (by decide) ?_
      exact dw_iret C (by decide) (by decide) hrt hlk dL_whereIs_14 ⟨rfl, Or.inr ⟨_, by simp, hx⟩⟩
  · obtain ⟨r, rfl, hr⟩ := hv
    refine dw_i2l C dL_whereIs_7 (n := 8) rfl ?_
    refine dw_last C dL_whereIs_8 (n := 9) rfl ?_
    refine dw_goto (t := 15) C dL_whereIs_9 (by decide) ?_
    refine dw_iconst (v := 0) C dL_whereIs_15 (n := 16) rfl (by decide) ?_
    exact dw_iret C (by decide) (by decide) hrt hlk dL_whereIs_16 ⟨rfl, Or.inl ⟨r, rfl, hr, rfl⟩⟩
