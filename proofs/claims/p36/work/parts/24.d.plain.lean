/-! constructors without loops -/
set_option maxRecDepth 20000 in
set_option maxHeartbeats 4000000 in
theorem cn_X6_init {G : dk_G} {l : Launch} {p : Nat} (hb : dn_H G p 23 3) : dn_M G l 2 yX6_init cX6_init 1 (dk_ad G p 23) 6 [.null, .null, .int 0] 2 48 (fun es => es = dn_es G p 23 3 (fun _ _ => 0)) := by
  refine dn_ofM (by decide) rfl [some (.ref (dk_ad G p 23))] (fun q hq => hq) rfl (Nat.le_of_ble_eq_true rfl) (fun P e s m args below meth c C => ?_)
  refine dn_aload_n (i := 0) C dX6_init_0 (n := 1) rfl rfl rfl ?_
  refine dn_obj C dk_wo_X6_3 dk_woi dk_woc rfl (by decide) dX6_init_1 (n := 4) rfl ?_
  refine dn_aload_n (i := 0) C dX6_init_4 (n := 5) rfl rfl rfl ?_
  refine dn_bipush (v := 24) C dX6_init_5 (n := 7) rfl (by decide) ?_
  refine dn_newa C 0 (N := 24) (a := dk_ad G p 24) (ty := .int) rfl rfl rfl dk_wa_int (by decide) rfl (by decide) ⟨by decide, by decide⟩ dX6_init_7 (n := 9) rfl rfl (hb 24 (by decide) (by decide)) ?_
  refine dn_eq (es' := [.inr (6, [.null, .null, .int 0]), .inl (dk_cA G 0, 24, .inl (fun _ => 0))]) rfl ?_
  refine dn_putF C 0 rfl rfl rfl (by decide) dk_ui6 tyX6 tyX6_ok nmX6 dk_wf_X6_9 rfl rfl (tyX6_ok 0 (by decide)) rfl rfl (Nat.le_of_ble_eq_true rfl) dX6_init_9 (n := 12) rfl ?_
  refine dn_eq (es' := [.inr (6, [.ref (dk_ad G p 24), .null, .int 0]), .inl (dk_cA G 0, 24, .inl (fun _ => 0))]) rfl ?_
  refine dn_aload_n (i := 0) C dX6_init_12 (n := 13) rfl rfl rfl ?_
  refine dn_bipush (v := 24) C dX6_init_13 (n := 15) rfl (by decide) ?_
  refine dn_newa C 0 (N := 24) (a := dk_ad G p 25) (ty := .int) rfl rfl rfl dk_wa_int (by decide) rfl (by decide) ⟨by decide, by decide⟩ dX6_init_15 (n := 17) rfl rfl (hb 25 (by decide) (by decide)) ?_
  refine dn_eq (es' := [.inr (6, [.ref (dk_ad G p 24), .null, .int 0]), .inl (dk_cA G 0, 24, .inl (fun _ => 0)), .inl (dk_cA G 0, 24, .inl (fun _ => 0))]) rfl ?_
  refine dn_putF C 0 rfl rfl rfl (by decide) dk_ui6 tyX6 tyX6_ok nmX6 dk_wf_X6_15 rfl rfl (tyX6_ok 1 (by decide)) rfl rfl (Nat.le_of_ble_eq_true rfl) dX6_init_17 (n := 20) rfl ?_
  refine dn_eq (es' := [.inr (6, [.ref (dk_ad G p 24), .ref (dk_ad G p 25), .int 0]), .inl (dk_cA G 0, 24, .inl (fun _ => 0)), .inl (dk_cA G 0, 24, .inl (fun _ => 0))]) rfl ?_
  refine dn_aload_n (i := 0) C dX6_init_20 (n := 21) rfl rfl rfl ?_
  refine dn_iconst (v := 0) C dX6_init_21 (n := 22) rfl (by decide) ?_
  refine dn_put C 0 rfl rfl rfl (by decide) dk_ui6 tyX6 tyX6_ok nmX6 dk_wf_X6_18 rfl (tyX6_ok 2 (by decide)) rfl rfl (Nat.le_of_ble_eq_true rfl) dX6_init_22 (n := 25) rfl ?_
  refine dn_eq (es' := [.inr (6, [.ref (dk_ad G p 24), .ref (dk_ad G p 25), .int 0]), .inl (dk_cA G 0, 24, .inl (fun _ => 0)), .inl (dk_cA G 0, 24, .inl (fun _ => 0))]) rfl ?_
  exact dn_ret C rfl (Nat.le_refl _) (Nat.le_refl _) dX6_init_25 rfl
set_option maxRecDepth 20000 in
set_option maxHeartbeats 4000000 in
theorem cn_X4_init {G : dk_G} {l : Launch} {p : Nat} (hb : dn_H G p 26 3) : dn_M G l 2 yX4_init cX4_init 1 (dk_ad G p 26) 4 [.null, .null, .int 0] 2 8 (fun es => es = dn_es G p 26 3 (fun _ _ => 0)) := by
  refine dn_ofM (by decide) rfl [some (.ref (dk_ad G p 26))] (fun q hq => hq) rfl (Nat.le_of_ble_eq_true rfl) (fun P e s m args below meth c C => ?_)
  refine dn_aload_n (i := 0) C dX4_init_0 (n := 1) rfl rfl rfl ?_
  refine dn_obj C dk_wo_X4_3 dk_woi dk_woc rfl (by decide) dX4_init_1 (n := 4) rfl ?_
  refine dn_aload_n (i := 0) C dX4_init_4 (n := 5) rfl rfl rfl ?_
  refine dn_iconst (v := 4) C dX4_init_5 (n := 6) rfl (by decide) ?_
  refine dn_newa C 0 (N := 4) (a := dk_ad G p 27) (ty := .int) rfl rfl rfl dk_wa_int (by decide) rfl (by decide) ⟨by decide, by decide⟩ dX4_init_6 (n := 8) rfl rfl (hb 27 (by decide) (by decide)) ?_
  refine dn_eq (es' := [.inr (4, [.null, .null, .int 0]), .inl (dk_cA G 0, 4, .inl (fun _ => 0))]) rfl ?_
  refine dn_putF C 0 rfl rfl rfl (by decide) dk_ui4 tyX4 tyX4_ok nmX4 dk_wf_X4_9 rfl rfl (tyX4_ok 0 (by decide)) rfl rfl (Nat.le_of_ble_eq_true rfl) dX4_init_8 (n := 11) rfl ?_
  refine dn_eq (es' := [.inr (4, [.ref (dk_ad G p 27), .null, .int 0]), .inl (dk_cA G 0, 4, .inl (fun _ => 0))]) rfl ?_
  refine dn_aload_n (i := 0) C dX4_init_11 (n := 12) rfl rfl rfl ?_
  refine dn_iconst (v := 4) C dX4_init_12 (n := 13) rfl (by decide) ?_
  refine dn_newa C 0 (N := 4) (a := dk_ad G p 28) (ty := .int) rfl rfl rfl dk_wa_int (by decide) rfl (by decide) ⟨by decide, by decide⟩ dX4_init_13 (n := 15) rfl rfl (hb 28 (by decide) (by decide)) ?_
  refine dn_eq (es' := [.inr (4, [.ref (dk_ad G p 27), .null, .int 0]), .inl (dk_cA G 0, 4, .inl (fun _ => 0)), .inl (dk_cA G 0, 4, .inl (fun _ => 0))]) rfl ?_
  refine dn_putF C 0 rfl rfl rfl (by decide) dk_ui4 tyX4 tyX4_ok nmX4 dk_wf_X4_15 rfl rfl (tyX4_ok 1 (by decide)) rfl rfl (Nat.le_of_ble_eq_true rfl) dX4_init_15 (n := 18) rfl ?_
  refine dn_eq (es' := [.inr (4, [.ref (dk_ad G p 27), .ref (dk_ad G p 28), .int 0]), .inl (dk_cA G 0, 4, .inl (fun _ => 0)), .inl (dk_cA G 0, 4, .inl (fun _ => 0))]) rfl ?_
  refine dn_aload_n (i := 0) C dX4_init_18 (n := 19) rfl rfl rfl ?_
  refine dn_iconst (v := 0) C dX4_init_19 (n := 20) rfl (by decide) ?_
  refine dn_put C 0 rfl rfl rfl (by decide) dk_ui4 tyX4 tyX4_ok nmX4 dk_wf_X4_18 rfl (tyX4_ok 2 (by decide)) rfl rfl (Nat.le_of_ble_eq_true rfl) dX4_init_20 (n := 23) rfl ?_
  refine dn_eq (es' := [.inr (4, [.ref (dk_ad G p 27), .ref (dk_ad G p 28), .int 0]), .inl (dk_cA G 0, 4, .inl (fun _ => 0)), .inl (dk_cA G 0, 4, .inl (fun _ => 0))]) rfl ?_
  exact dn_ret C rfl (Nat.le_refl _) (Nat.le_refl _) dX4_init_23 rfl
set_option maxRecDepth 20000 in
set_option maxHeartbeats 4000000 in
theorem cn_X5_init {G : dk_G} {l : Launch} (hb : dn_H G 0 41 4) : dn_M G l 2 yX5_init cX5_init 1 (dk_ad G 0 41) 5 [.null, .null, .null, .int 0] 3 1536 (fun es => es = dn_es G 0 41 4 (fun _ _ => 0)) := by
  refine dn_ofM (by decide) rfl [some (.ref (dk_ad G 0 41))] (fun q hq => hq) rfl (Nat.le_of_ble_eq_true rfl) (fun P e s m args below meth c C => ?_)
  refine dn_aload_n (i := 0) C dX5_init_0 (n := 1) rfl rfl rfl ?_
  refine dn_obj C dk_wo_X5_3 dk_woi dk_woc rfl (by decide) dX5_init_1 (n := 4) rfl ?_
  refine dn_aload_n (i := 0) C dX5_init_4 (n := 5) rfl rfl rfl ?_
  refine dn_sipush (v := 512) C dX5_init_5 (n := 8) rfl (by decide) ?_
  refine dn_newa C 0 (N := 512) (a := dk_ad G 0 42) (ty := .int) rfl rfl rfl dk_wa_int (by decide) rfl (by decide) ⟨by decide, by decide⟩ dX5_init_8 (n := 10) rfl rfl (hb 42 (by decide) (by decide)) ?_
  refine dn_eq (es' := [.inr (5, [.null, .null, .null, .int 0]), .inl (dk_cA G 0, 512, .inl (fun _ => 0))]) rfl ?_
  refine dn_putF C 0 rfl rfl rfl (by decide) dk_ui5 tyX5 tyX5_ok nmX5 dk_wf_X5_9 rfl rfl (tyX5_ok 0 (by decide)) rfl rfl (Nat.le_of_ble_eq_true rfl) dX5_init_10 (n := 13) rfl ?_
  refine dn_eq (es' := [.inr (5, [.ref (dk_ad G 0 42), .null, .null, .int 0]), .inl (dk_cA G 0, 512, .inl (fun _ => 0))]) rfl ?_
  refine dn_aload_n (i := 0) C dX5_init_13 (n := 14) rfl rfl rfl ?_
  refine dn_sipush (v := 512) C dX5_init_14 (n := 17) rfl (by decide) ?_
  refine dn_newa C 0 (N := 512) (a := dk_ad G 0 43) (ty := .int) rfl rfl rfl dk_wa_int (by decide) rfl (by decide) ⟨by decide, by decide⟩ dX5_init_17 (n := 19) rfl rfl (hb 43 (by decide) (by decide)) ?_
  refine dn_eq (es' := [.inr (5, [.ref (dk_ad G 0 42), .null, .null, .int 0]), .inl (dk_cA G 0, 512, .inl (fun _ => 0)), .inl (dk_cA G 0, 512, .inl (fun _ => 0))]) rfl ?_
  refine dn_putF C 0 rfl rfl rfl (by decide) dk_ui5 tyX5 tyX5_ok nmX5 dk_wf_X5_15 rfl rfl (tyX5_ok 1 (by decide)) rfl rfl (Nat.le_of_ble_eq_true rfl) dX5_init_19 (n := 22) rfl ?_
  refine dn_eq (es' := [.inr (5, [.ref (dk_ad G 0 42), .ref (dk_ad G 0 43), .null, .int 0]), .inl (dk_cA G 0, 512, .inl (fun _ => 0)), .inl (dk_cA G 0, 512, .inl (fun _ => 0))]) rfl ?_
  refine dn_aload_n (i := 0) C dX5_init_22 (n := 23) rfl rfl rfl ?_
  refine dn_sipush (v := 512) C dX5_init_23 (n := 26) rfl (by decide) ?_
  refine dn_newa C 0 (N := 512) (a := dk_ad G 0 44) (ty := .int) rfl rfl rfl dk_wa_int (by decide) rfl (by decide) ⟨by decide, by decide⟩ dX5_init_26 (n := 28) rfl rfl (hb 44 (by decide) (by decide)) ?_
  refine dn_eq (es' := [.inr (5, [.ref (dk_ad G 0 42), .ref (dk_ad G 0 43), .null, .int 0]), .inl (dk_cA G 0, 512, .inl (fun _ => 0)), .inl (dk_cA G 0, 512, .inl (fun _ => 0)), .inl (dk_cA G 0, 512, .inl (fun _ => 0))]) rfl ?_
  refine dn_putF C 0 rfl rfl rfl (by decide) dk_ui5 tyX5 tyX5_ok nmX5 dk_wf_X5_18 rfl rfl (tyX5_ok 2 (by decide)) rfl rfl (Nat.le_of_ble_eq_true rfl) dX5_init_28 (n := 31) rfl ?_
  refine dn_eq (es' := [.inr (5, [.ref (dk_ad G 0 42), .ref (dk_ad G 0 43), .ref (dk_ad G 0 44), .int 0]), .inl (dk_cA G 0, 512, .inl (fun _ => 0)), .inl (dk_cA G 0, 512, .inl (fun _ => 0)), .inl (dk_cA G 0, 512, .inl (fun _ => 0))]) rfl ?_
  refine dn_aload_n (i := 0) C dX5_init_31 (n := 32) rfl rfl rfl ?_
  refine dn_iconst (v := 0) C dX5_init_32 (n := 33) rfl (by decide) ?_
  refine dn_put C 0 rfl rfl rfl (by decide) dk_ui5 tyX5 tyX5_ok nmX5 dk_wf_X5_21 rfl (tyX5_ok 3 (by decide)) rfl rfl (Nat.le_of_ble_eq_true rfl) dX5_init_33 (n := 36) rfl ?_
  refine dn_eq (es' := [.inr (5, [.ref (dk_ad G 0 42), .ref (dk_ad G 0 43), .ref (dk_ad G 0 44), .int 0]), .inl (dk_cA G 0, 512, .inl (fun _ => 0)), .inl (dk_cA G 0, 512, .inl (fun _ => 0)), .inl (dk_cA G 0, 512, .inl (fun _ => 0))]) rfl ?_
  exact dn_ret C rfl (Nat.le_refl _) (Nat.le_refl _) dX5_init_36 rfl
set_option maxRecDepth 20000 in
set_option maxHeartbeats 4000000 in
theorem cn_X0_init {G : dk_G} {l : Launch} (hb : dn_H G 0 45 2) : dn_M G l 2 yX0_init cX0_init 1 (dk_ad G 0 45) 0 [.null, .int 0] 1 24 (fun es => es = dn_es G 0 45 2 (fun q _ => if q = 45 then -1 else 0)) := by
  refine dn_ofM (by decide) rfl [some (.ref (dk_ad G 0 45))] (fun q hq => hq) rfl (Nat.le_of_ble_eq_true rfl) (fun P e s m args below meth c C => ?_)
  refine dn_aload_n (i := 0) C dX0_init_0 (n := 1) rfl rfl rfl ?_
  refine dn_obj C dk_wo_X0_3 dk_woi dk_woc rfl (by decide) dX0_init_1 (n := 4) rfl ?_
  refine dn_aload_n (i := 0) C dX0_init_4 (n := 5) rfl rfl rfl ?_
  refine dn_bipush (v := 24) C dX0_init_5 (n := 7) rfl (by decide) ?_
  refine dn_newa C 0 (N := 24) (a := dk_ad G 0 46) (ty := .int) rfl rfl rfl dk_wa_int (by decide) rfl (by decide) ⟨by decide, by decide⟩ dX0_init_7 (n := 9) rfl rfl (hb 46 (by decide) (by decide)) ?_
  refine dn_eq (es' := [.inr (0, [.null, .int 0]), .inl (dk_cA G 0, 24, .inl (fun _ => 0))]) rfl ?_
  refine dn_putF C 0 rfl rfl rfl (by decide) dk_ui0 tyX0 tyX0_ok nmX0 dk_wf_X0_9 rfl rfl (tyX0_ok 0 (by decide)) rfl rfl (Nat.le_of_ble_eq_true rfl) dX0_init_9 (n := 12) rfl ?_
  refine dn_eq (es' := [.inr (0, [.ref (dk_ad G 0 46), .int 0]), .inl (dk_cA G 0, 24, .inl (fun _ => 0))]) rfl ?_
  refine dn_aload_n (i := 0) C dX0_init_12 (n := 13) rfl rfl rfl ?_
  refine dn_iconst (v := (-1)) C dX0_init_13 (n := 14) rfl (by decide) ?_
  refine dn_put C 0 rfl rfl rfl (by decide) dk_ui0 tyX0 tyX0_ok nmX0 dk_wf_X0_15 rfl (tyX0_ok 1 (by decide)) rfl rfl (Nat.le_of_ble_eq_true rfl) dX0_init_14 (n := 17) rfl ?_
  refine dn_eq (es' := [.inr (0, [.ref (dk_ad G 0 46), .int (-1)]), .inl (dk_cA G 0, 24, .inl (fun _ => 0))]) rfl ?_
  exact dn_ret C rfl (Nat.le_refl _) (Nat.le_refl _) dX0_init_17 rfl
