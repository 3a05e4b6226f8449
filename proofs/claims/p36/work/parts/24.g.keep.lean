/-! DelveKeep() -/
set_option maxRecDepth 20000 in
set_option maxHeartbeats 4000000 in
theorem cn_X8_init {G : dk_G} {l : Launch} (h1 : dk_ad G 1 0 = dk_ad G 0 40 + 1) (h2 : dk_ad G 2 0 = dk_ad G 0 40 + 30) (h3 : dk_ad G 3 0 = dk_ad G 0 40 + 59) (h4 : dk_ad G 0 41 = dk_ad G 0 40 + 88) (h5 : dk_ad G 0 45 = dk_ad G 0 40 + 92) (hb1 : dn_H G 1 0 29) (hb2 : dn_H G 2 0 29) (hb3 : dn_H G 3 0 29) (hb4 : dn_H G 0 41 4) (hb5 : dn_H G 0 45 2) : dn_M G l 6 yX8_init cX8_init 1 (dk_ad G 0 40) 8 [.null, .null, .null, .null, .null, .int 0, .int 0] 93 5205 (fun es => ∃ f1 f2 f3, (dn_F 0 29 f1 ∧ dn_F 0 29 f2 ∧ dn_F 0 29 f3) ∧ es = ((((([.inr (8, [.ref (dk_ad G 1 0), .ref (dk_ad G 2 0), .ref (dk_ad G 3 0), .ref (dk_ad G 0 41), .ref (dk_ad G 0 45), .int 110, .int 0])] ++ dn_es G 1 0 29 f1) ++ dn_es G 2 0 29 f2) ++ dn_es G 3 0 29 f3) ++ dn_es G 0 41 4 (fun _ _ => 0)) ++ dn_es G 0 45 2 (fun q _ => if q = 45 then -1 else 0))) := by
  refine dn_ofM (by decide) rfl [some (.ref (dk_ad G 0 40))] (fun q hq => hq) rfl (Nat.le_of_ble_eq_true rfl) (fun P e s m args below meth c C => ?_)
  refine dn_aload_n (i := 0) C dX8_init_0 (n := 1) rfl rfl rfl ?_
  refine dn_obj C dk_wo_X8_3 dk_woi dk_woc rfl (by decide) dX8_init_1 (n := 4) rfl ?_
  refine dn_aload_n (i := 0) C dX8_init_4 (n := 5) rfl rfl rfl ?_
  refine dn_new (ci := 7) (a := dk_ad G 1 0) (fs := [.null, .null, .null, .null, .null, .int 0, .int 0, .int 0, .int 0, .int 0]) C dk_ui7 tyX7 tyX7_ok dk_wkl_X8_9 dk_win_RX7 dk_wn_RX7 rfl (fun j hj => ?_) ⟨by decide, by decide⟩ dX8_init_5 (n := 8) rfl (by simp [dn_es_len]) (h1) ?_
  · rcases (show j = 0 ∨ j = 1 ∨ j = 2 ∨ j = 3 ∨ j = 4 ∨ j = 5 ∨ j = 6 ∨ j = 7 ∨ j = 8 ∨ j = 9 by omega) with rfl | rfl | rfl | rfl | rfl | rfl | rfl | rfl | rfl | rfl <;> rfl
  refine dn_dup C dX8_init_8 (n := 9) rfl ?_
  refine dn_callN (a := dk_ad G 1 0) (es0 := [.inr (8, [.null, .null, .null, .null, .null, .int 0, .int 0])]) C rfl (cn_X7_init hb1) rfl dk_wn_RX7 dk_wc_X7_init dk_wm_X8_11 dk_wt_X7_init ⟨by decide, by decide, by decide⟩ ⟨by decide, by decide⟩ ⟨by decide, by decide⟩ (Nat.le_of_ble_eq_true rfl) rfl dX8_init_9 (n := 12) rfl (by simp [dn_es_len]) (h1) (fun es1 he1 hl1 => ?_)
  obtain ⟨f1, hf1, rfl⟩ := he1
  clear hl1
  refine dn_putF C 0 rfl rfl rfl (by decide) dk_ui8 tyX8 tyX8_ok nmX8 dk_wf_X8_12 rfl rfl (tyX8_ok 0 (by decide)) rfl rfl (Nat.le_of_ble_eq_true rfl) dX8_init_12 (n := 15) rfl ?_
  refine dn_eq (es' := ([.inr (8, [.ref (dk_ad G 1 0), .null, .null, .null, .null, .int 0, .int 0])] ++ dn_es G 1 0 29 f1)) rfl ?_
  refine dn_aload_n (i := 0) C dX8_init_15 (n := 16) rfl rfl rfl ?_
  refine dn_new (ci := 7) (a := dk_ad G 2 0) (fs := [.null, .null, .null, .null, .null, .int 0, .int 0, .int 0, .int 0, .int 0]) C dk_ui7 tyX7 tyX7_ok dk_wkl_X8_9 dk_win_RX7 dk_wn_RX7 rfl (fun j hj => ?_) ⟨by decide, by decide⟩ dX8_init_16 (n := 19) rfl (by simp [dn_es_len]) (h2) ?_
  · rcases (show j = 0 ∨ j = 1 ∨ j = 2 ∨ j = 3 ∨ j = 4 ∨ j = 5 ∨ j = 6 ∨ j = 7 ∨ j = 8 ∨ j = 9 by omega) with rfl | rfl | rfl | rfl | rfl | rfl | rfl | rfl | rfl | rfl <;> rfl
  refine dn_dup C dX8_init_19 (n := 20) rfl ?_
  refine dn_callN (a := dk_ad G 2 0) (es0 := ([.inr (8, [.ref (dk_ad G 1 0), .null, .null, .null, .null, .int 0, .int 0])] ++ dn_es G 1 0 29 f1)) C rfl (cn_X7_init hb2) rfl dk_wn_RX7 dk_wc_X7_init dk_wm_X8_11 dk_wt_X7_init ⟨by decide, by decide, by decide⟩ ⟨by decide, by decide⟩ ⟨by decide, by decide⟩ (Nat.le_of_ble_eq_true rfl) rfl dX8_init_20 (n := 23) rfl (by simp [dn_es_len]) (h2) (fun es1 he1 hl1 => ?_)
  obtain ⟨f2, hf2, rfl⟩ := he1
  clear hl1
  refine dn_putF C 0 rfl rfl rfl (by decide) dk_ui8 tyX8 tyX8_ok nmX8 dk_wf_X8_16 rfl rfl (tyX8_ok 1 (by decide)) rfl rfl (Nat.le_of_ble_eq_true rfl) dX8_init_23 (n := 26) rfl ?_
  refine dn_eq (es' := (([.inr (8, [.ref (dk_ad G 1 0), .ref (dk_ad G 2 0), .null, .null, .null, .int 0, .int 0])] ++ dn_es G 1 0 29 f1) ++ dn_es G 2 0 29 f2)) rfl ?_
  refine dn_aload_n (i := 0) C dX8_init_26 (n := 27) rfl rfl rfl ?_
  refine dn_new (ci := 7) (a := dk_ad G 3 0) (fs := [.null, .null, .null, .null, .null, .int 0, .int 0, .int 0, .int 0, .int 0]) C dk_ui7 tyX7 tyX7_ok dk_wkl_X8_9 dk_win_RX7 dk_wn_RX7 rfl (fun j hj => ?_) ⟨by decide, by decide⟩ dX8_init_27 (n := 30) rfl (by simp [dn_es_len]) (h3) ?_
  · rcases (show j = 0 ∨ j = 1 ∨ j = 2 ∨ j = 3 ∨ j = 4 ∨ j = 5 ∨ j = 6 ∨ j = 7 ∨ j = 8 ∨ j = 9 by omega) with rfl | rfl | rfl | rfl | rfl | rfl | rfl | rfl | rfl | rfl <;> rfl
  refine dn_dup C dX8_init_30 (n := 31) rfl ?_
  refine dn_callN (a := dk_ad G 3 0) (es0 := (([.inr (8, [.ref (dk_ad G 1 0), .ref (dk_ad G 2 0), .null, .null, .null, .int 0, .int 0])] ++ dn_es G 1 0 29 f1) ++ dn_es G 2 0 29 f2)) C rfl (cn_X7_init hb3) rfl dk_wn_RX7 dk_wc_X7_init dk_wm_X8_11 dk_wt_X7_init ⟨by decide, by decide, by decide⟩ ⟨by decide, by decide⟩ ⟨by decide, by decide⟩ (Nat.le_of_ble_eq_true rfl) rfl dX8_init_31 (n := 34) rfl (by simp [dn_es_len]) (h3) (fun es1 he1 hl1 => ?_)
  obtain ⟨f3, hf3, rfl⟩ := he1
  clear hl1
  refine dn_putF C 0 rfl rfl rfl (by decide) dk_ui8 tyX8 tyX8_ok nmX8 dk_wf_X8_19 rfl rfl (tyX8_ok 2 (by decide)) rfl rfl (Nat.le_of_ble_eq_true rfl) dX8_init_34 (n := 37) rfl ?_
  refine dn_eq (es' := ((([.inr (8, [.ref (dk_ad G 1 0), .ref (dk_ad G 2 0), .ref (dk_ad G 3 0), .null, .null, .int 0, .int 0])] ++ dn_es G 1 0 29 f1) ++ dn_es G 2 0 29 f2) ++ dn_es G 3 0 29 f3)) rfl ?_
  refine dn_aload_n (i := 0) C dX8_init_37 (n := 38) rfl rfl rfl ?_
  refine dn_new (ci := 5) (a := dk_ad G 0 41) (fs := [.null, .null, .null, .int 0]) C dk_ui5 tyX5 tyX5_ok dk_wkl_X8_22 dk_win_RX5 dk_wn_RX5 rfl (fun j hj => ?_) ⟨by decide, by decide⟩ dX8_init_38 (n := 41) rfl (by simp [dn_es_len]) (h4) ?_
  · rcases (show j = 0 ∨ j = 1 ∨ j = 2 ∨ j = 3 by omega) with rfl | rfl | rfl | rfl <;> rfl
  refine dn_dup C dX8_init_41 (n := 42) rfl ?_
  refine dn_callN (a := dk_ad G 0 41) (es0 := ((([.inr (8, [.ref (dk_ad G 1 0), .ref (dk_ad G 2 0), .ref (dk_ad G 3 0), .null, .null, .int 0, .int 0])] ++ dn_es G 1 0 29 f1) ++ dn_es G 2 0 29 f2) ++ dn_es G 3 0 29 f3)) C rfl (cn_X5_init hb4) rfl dk_wn_RX5 dk_wc_X5_init dk_wm_X8_24 dk_wt_X5_init ⟨by decide, by decide, by decide⟩ ⟨by decide, by decide⟩ ⟨by decide, by decide⟩ (Nat.le_of_ble_eq_true rfl) rfl dX8_init_42 (n := 45) rfl (by simp [dn_es_len]) (h4) (fun es1 he1 hl1 => ?_)
  subst he1
  clear hl1
  refine dn_putF C 0 rfl rfl rfl (by decide) dk_ui8 tyX8 tyX8_ok nmX8 dk_wf_X8_25 rfl rfl (tyX8_ok 3 (by decide)) rfl rfl (Nat.le_of_ble_eq_true rfl) dX8_init_45 (n := 48) rfl ?_
  refine dn_eq (es' := (((([.inr (8, [.ref (dk_ad G 1 0), .ref (dk_ad G 2 0), .ref (dk_ad G 3 0), .ref (dk_ad G 0 41), .null, .int 0, .int 0])] ++ dn_es G 1 0 29 f1) ++ dn_es G 2 0 29 f2) ++ dn_es G 3 0 29 f3) ++ dn_es G 0 41 4 (fun _ _ => 0))) rfl ?_
  refine dn_aload_n (i := 0) C dX8_init_48 (n := 49) rfl rfl rfl ?_
  refine dn_new (ci := 0) (a := dk_ad G 0 45) (fs := [.null, .int 0]) C dk_ui0 tyX0 tyX0_ok dk_wkl_X8_29 dk_win_RX0 dk_wn_RX0 rfl (fun j hj => ?_) ⟨by decide, by decide⟩ dX8_init_49 (n := 52) rfl (by simp [dn_es_len]) (h5) ?_
  · rcases (show j = 0 ∨ j = 1 by omega) with rfl | rfl <;> rfl
  refine dn_dup C dX8_init_52 (n := 53) rfl ?_
  refine dn_callN (a := dk_ad G 0 45) (es0 := (((([.inr (8, [.ref (dk_ad G 1 0), .ref (dk_ad G 2 0), .ref (dk_ad G 3 0), .ref (dk_ad G 0 41), .null, .int 0, .int 0])] ++ dn_es G 1 0 29 f1) ++ dn_es G 2 0 29 f2) ++ dn_es G 3 0 29 f3) ++ dn_es G 0 41 4 (fun _ _ => 0))) C rfl (cn_X0_init hb5) rfl dk_wn_RX0 dk_wc_X0_init dk_wm_X8_31 dk_wt_X0_init ⟨by decide, by decide, by decide⟩ ⟨by decide, by decide⟩ ⟨by decide, by decide⟩ (Nat.le_of_ble_eq_true rfl) rfl dX8_init_53 (n := 56) rfl (by simp [dn_es_len]) (h5) (fun es1 he1 hl1 => ?_)
  subst he1
  clear hl1
  refine dn_putF C 0 rfl rfl rfl (by decide) dk_ui8 tyX8 tyX8_ok nmX8 dk_wf_X8_32 rfl rfl (tyX8_ok 4 (by decide)) rfl rfl (Nat.le_of_ble_eq_true rfl) dX8_init_56 (n := 59) rfl ?_
  refine dn_eq (es' := ((((([.inr (8, [.ref (dk_ad G 1 0), .ref (dk_ad G 2 0), .ref (dk_ad G 3 0), .ref (dk_ad G 0 41), .ref (dk_ad G 0 45), .int 0, .int 0])] ++ dn_es G 1 0 29 f1) ++ dn_es G 2 0 29 f2) ++ dn_es G 3 0 29 f3) ++ dn_es G 0 41 4 (fun _ _ => 0)) ++ dn_es G 0 45 2 (fun q _ => if q = 45 then -1 else 0))) rfl ?_
  refine dn_aload_n (i := 0) C dX8_init_59 (n := 60) rfl rfl rfl ?_
  refine dn_bipush (v := 110) C dX8_init_60 (n := 62) rfl (by decide) ?_
  refine dn_put C 0 rfl rfl rfl (by decide) dk_ui8 tyX8 tyX8_ok nmX8 dk_wf_X8_36 rfl (tyX8_ok 5 (by decide)) rfl rfl (Nat.le_of_ble_eq_true rfl) dX8_init_62 (n := 65) rfl ?_
  refine dn_eq (es' := ((((([.inr (8, [.ref (dk_ad G 1 0), .ref (dk_ad G 2 0), .ref (dk_ad G 3 0), .ref (dk_ad G 0 41), .ref (dk_ad G 0 45), .int 110, .int 0])] ++ dn_es G 1 0 29 f1) ++ dn_es G 2 0 29 f2) ++ dn_es G 3 0 29 f3) ++ dn_es G 0 41 4 (fun _ _ => 0)) ++ dn_es G 0 45 2 (fun q _ => if q = 45 then -1 else 0))) rfl ?_
  refine dn_aload_n (i := 0) C dX8_init_65 (n := 66) rfl rfl rfl ?_
  refine dn_iconst (v := 0) C dX8_init_66 (n := 67) rfl (by decide) ?_
  refine dn_put C 0 rfl rfl rfl (by decide) dk_ui8 tyX8 tyX8_ok nmX8 dk_wf_X8_40 rfl (tyX8_ok 6 (by decide)) rfl rfl (Nat.le_of_ble_eq_true rfl) dX8_init_67 (n := 70) rfl ?_
  refine dn_eq (es' := ((((([.inr (8, [.ref (dk_ad G 1 0), .ref (dk_ad G 2 0), .ref (dk_ad G 3 0), .ref (dk_ad G 0 41), .ref (dk_ad G 0 45), .int 110, .int 0])] ++ dn_es G 1 0 29 f1) ++ dn_es G 2 0 29 f2) ++ dn_es G 3 0 29 f3) ++ dn_es G 0 41 4 (fun _ _ => 0)) ++ dn_es G 0 45 2 (fun q _ => if q = 45 then -1 else 0))) rfl ?_
  exact dn_ret C (by simp [dn_es_len]) (Nat.le_refl _) (Nat.le_refl _) dX8_init_70 ⟨f1, f2, f3, ⟨hf1, hf2, hf3⟩, rfl⟩
