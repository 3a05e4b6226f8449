/-! World() -/
set_option maxRecDepth 20000 in
set_option maxHeartbeats 4000000 in
theorem cn_X7_init {G : dk_G} {l : Launch} {p : Nat} (hb : dn_H G p 0 29) : dn_M G l 5 yX7_init cX7_init 1 (dk_ad G p 0) 7 [.null, .null, .null, .null, .null, .int 0, .int 0, .int 0, .int 0, .int 0] 28 1203 (dn_Po G p 0 29 (dn_F 0 29)) := by
  refine dn_ofM (by decide) rfl [some (.ref (dk_ad G p 0))] (fun q hq => hq) rfl (Nat.le_of_ble_eq_true rfl) (fun P e s m args below meth c C => ?_)
  refine dn_aload_n (i := 0) C dX7_init_0 (n := 1) rfl rfl rfl ?_
  refine dn_obj C dk_wo_X7_3 dk_woi dk_woc rfl (by decide) dX7_init_1 (n := 4) rfl ?_
  refine dn_aload_n (i := 0) C dX7_init_4 (n := 5) rfl rfl rfl ?_
  refine dn_new (ci := 1) (a := dk_ad G p 1) (fs := [.null, .null, .null, .null, .null, .int 0]) C dk_ui1 tyX1 tyX1_ok dk_wkl_X7_9 dk_win_RX1 dk_wn_RX1 rfl (fun j hj => ?_) ⟨by decide, by decide⟩ dX7_init_5 (n := 8) rfl (by simp [dn_es_len]) (hb 1 (by decide) (by decide)) ?_
  · rcases (show j = 0 ∨ j = 1 ∨ j = 2 ∨ j = 3 ∨ j = 4 ∨ j = 5 by omega) with rfl | rfl | rfl | rfl | rfl | rfl <;> rfl
  refine dn_dup C dX7_init_8 (n := 9) rfl ?_
  refine dn_call (a := dk_ad G p 1) (es0 := [.inr (7, [.null, .null, .null, .null, .null, .int 0, .int 0, .int 0, .int 0, .int 0])]) C rfl (cn_X1_init (hb.sub (by decide) (by decide) (by decide))) rfl dk_wn_RX1 dk_wc_X1_init dk_wm_X7_11 dk_wt_X1_init ⟨by decide, by decide, by decide⟩ ⟨by decide, by decide⟩ ⟨by decide, by decide⟩ (Nat.le_of_ble_eq_true rfl) rfl dX7_init_9 (n := 12) rfl (by simp [dn_es_len]) (hb 1 (by decide) (by decide)) (fun es1 he1 hl1 => ?_)
  obtain ⟨f1, hf1, rfl⟩ := he1
  clear hl1
  refine dn_putF C 0 rfl rfl rfl (by decide) dk_ui7 tyX7 tyX7_ok nmX7 dk_wf_X7_12 rfl rfl (tyX7_ok 0 (by decide)) rfl rfl (Nat.le_of_ble_eq_true rfl) dX7_init_12 (n := 15) rfl ?_
  refine dn_eq (es' := ([.inr (7, [.ref (dk_ad G p 1), .null, .null, .null, .null, .int 0, .int 0, .int 0, .int 0, .int 0])] ++ dn_es G p 1 6 f1)) rfl ?_
  refine dn_aload_n (i := 0) C dX7_init_15 (n := 16) rfl rfl rfl ?_
  refine dn_new (ci := 3) (a := dk_ad G p 7) (fs := [.null, .null, .null, .null, .null]) C dk_ui3 tyX3 tyX3_ok dk_wkl_X7_18 dk_win_RX3 dk_wn_RX3 rfl (fun j hj => ?_) ⟨by decide, by decide⟩ dX7_init_16 (n := 19) rfl (by simp [dn_es_len]) (hb 7 (by decide) (by decide)) ?_
  · rcases (show j = 0 ∨ j = 1 ∨ j = 2 ∨ j = 3 ∨ j = 4 by omega) with rfl | rfl | rfl | rfl | rfl <;> rfl
  refine dn_dup C dX7_init_19 (n := 20) rfl ?_
  refine dn_call (a := dk_ad G p 7) (es0 := ([.inr (7, [.ref (dk_ad G p 1), .null, .null, .null, .null, .int 0, .int 0, .int 0, .int 0, .int 0])] ++ dn_es G p 1 6 f1)) C rfl (cn_X3_init (hb.sub (by decide) (by decide) (by decide))) rfl dk_wn_RX3 dk_wc_X3_init dk_wm_X7_20 dk_wt_X3_init ⟨by decide, by decide, by decide⟩ ⟨by decide, by decide⟩ ⟨by decide, by decide⟩ (Nat.le_of_ble_eq_true rfl) rfl dX7_init_20 (n := 23) rfl (by simp [dn_es_len]) (hb 7 (by decide) (by decide)) (fun es1 he1 hl1 => ?_)
  obtain ⟨f2, hf2, rfl⟩ := he1
  clear hl1
  refine dn_putF C 0 rfl rfl rfl (by decide) dk_ui7 tyX7 tyX7_ok nmX7 dk_wf_X7_21 rfl rfl (tyX7_ok 1 (by decide)) rfl rfl (Nat.le_of_ble_eq_true rfl) dX7_init_23 (n := 26) rfl ?_
  refine dn_eq (es' := (([.inr (7, [.ref (dk_ad G p 1), .ref (dk_ad G p 7), .null, .null, .null, .int 0, .int 0, .int 0, .int 0, .int 0])] ++ dn_es G p 1 6 f1) ++ dn_es G p 7 6 f2)) rfl ?_
  refine dn_aload_n (i := 0) C dX7_init_26 (n := 27) rfl rfl rfl ?_
  refine dn_new (ci := 2) (a := dk_ad G p 13) (fs := [.null, .null, .null, .null, .null, .null, .null, .null, .null, .int 0]) C dk_ui2 tyX2 tyX2_ok dk_wkl_X7_25 dk_win_RX2 dk_wn_RX2 rfl (fun j hj => ?_) ⟨by decide, by decide⟩ dX7_init_27 (n := 30) rfl (by simp [dn_es_len]) (hb 13 (by decide) (by decide)) ?_
  · rcases (show j = 0 ∨ j = 1 ∨ j = 2 ∨ j = 3 ∨ j = 4 ∨ j = 5 ∨ j = 6 ∨ j = 7 ∨ j = 8 ∨ j = 9 by omega) with rfl | rfl | rfl | rfl | rfl | rfl | rfl | rfl | rfl | rfl <;> rfl
  refine dn_dup C dX7_init_30 (n := 31) rfl ?_
  refine dn_call (a := dk_ad G p 13) (es0 := (([.inr (7, [.ref (dk_ad G p 1), .ref (dk_ad G p 7), .null, .null, .null, .int 0, .int 0, .int 0, .int 0, .int 0])] ++ dn_es G p 1 6 f1) ++ dn_es G p 7 6 f2)) C rfl (cn_X2_init (hb.sub (by decide) (by decide) (by decide))) rfl dk_wn_RX2 dk_wc_X2_init dk_wm_X7_27 dk_wt_X2_init ⟨by decide, by decide, by decide⟩ ⟨by decide, by decide⟩ ⟨by decide, by decide⟩ (Nat.le_of_ble_eq_true rfl) rfl dX7_init_31 (n := 34) rfl (by simp [dn_es_len]) (hb 13 (by decide) (by decide)) (fun es1 he1 hl1 => ?_)
  obtain ⟨f3, hf3, rfl⟩ := he1
  clear hl1
  refine dn_putF C 0 rfl rfl rfl (by decide) dk_ui7 tyX7 tyX7_ok nmX7 dk_wf_X7_28 rfl rfl (tyX7_ok 2 (by decide)) rfl rfl (Nat.le_of_ble_eq_true rfl) dX7_init_34 (n := 37) rfl ?_
  refine dn_eq (es' := ((([.inr (7, [.ref (dk_ad G p 1), .ref (dk_ad G p 7), .ref (dk_ad G p 13), .null, .null, .int 0, .int 0, .int 0, .int 0, .int 0])] ++ dn_es G p 1 6 f1) ++ dn_es G p 7 6 f2) ++ dn_es G p 13 10 f3)) rfl ?_
  refine dn_aload_n (i := 0) C dX7_init_37 (n := 38) rfl rfl rfl ?_
  refine dn_new (ci := 6) (a := dk_ad G p 23) (fs := [.null, .null, .int 0]) C dk_ui6 tyX6 tyX6_ok dk_wkl_X7_32 dk_win_RX6 dk_wn_RX6 rfl (fun j hj => ?_) ⟨by decide, by decide⟩ dX7_init_38 (n := 41) rfl (by simp [dn_es_len]) (hb 23 (by decide) (by decide)) ?_
  · rcases (show j = 0 ∨ j = 1 ∨ j = 2 by omega) with rfl | rfl | rfl <;> rfl
  refine dn_dup C dX7_init_41 (n := 42) rfl ?_
  refine dn_callN (a := dk_ad G p 23) (es0 := ((([.inr (7, [.ref (dk_ad G p 1), .ref (dk_ad G p 7), .ref (dk_ad G p 13), .null, .null, .int 0, .int 0, .int 0, .int 0, .int 0])] ++ dn_es G p 1 6 f1) ++ dn_es G p 7 6 f2) ++ dn_es G p 13 10 f3)) C rfl (cn_X6_init (hb.sub (by decide) (by decide) (by decide))) rfl dk_wn_RX6 dk_wc_X6_init dk_wm_X7_34 dk_wt_X6_init ⟨by decide, by decide, by decide⟩ ⟨by decide, by decide⟩ ⟨by decide, by decide⟩ (Nat.le_of_ble_eq_true rfl) rfl dX7_init_42 (n := 45) rfl (by simp [dn_es_len]) (hb 23 (by decide) (by decide)) (fun es1 he1 hl1 => ?_)
  subst he1
  clear hl1
  refine dn_putF C 0 rfl rfl rfl (by decide) dk_ui7 tyX7 tyX7_ok nmX7 dk_wf_X7_35 rfl rfl (tyX7_ok 3 (by decide)) rfl rfl (Nat.le_of_ble_eq_true rfl) dX7_init_45 (n := 48) rfl ?_
  refine dn_eq (es' := (((([.inr (7, [.ref (dk_ad G p 1), .ref (dk_ad G p 7), .ref (dk_ad G p 13), .ref (dk_ad G p 23), .null, .int 0, .int 0, .int 0, .int 0, .int 0])] ++ dn_es G p 1 6 f1) ++ dn_es G p 7 6 f2) ++ dn_es G p 13 10 f3) ++ dn_es G p 23 3 (fun _ _ => 0))) rfl ?_
  refine dn_aload_n (i := 0) C dX7_init_48 (n := 49) rfl rfl rfl ?_
  refine dn_new (ci := 4) (a := dk_ad G p 26) (fs := [.null, .null, .int 0]) C dk_ui4 tyX4 tyX4_ok dk_wkl_X7_39 dk_win_RX4 dk_wn_RX4 rfl (fun j hj => ?_) ⟨by decide, by decide⟩ dX7_init_49 (n := 52) rfl (by simp [dn_es_len]) (hb 26 (by decide) (by decide)) ?_
  · rcases (show j = 0 ∨ j = 1 ∨ j = 2 by omega) with rfl | rfl | rfl <;> rfl
  refine dn_dup C dX7_init_52 (n := 53) rfl ?_
  refine dn_callN (a := dk_ad G p 26) (es0 := (((([.inr (7, [.ref (dk_ad G p 1), .ref (dk_ad G p 7), .ref (dk_ad G p 13), .ref (dk_ad G p 23), .null, .int 0, .int 0, .int 0, .int 0, .int 0])] ++ dn_es G p 1 6 f1) ++ dn_es G p 7 6 f2) ++ dn_es G p 13 10 f3) ++ dn_es G p 23 3 (fun _ _ => 0))) C rfl (cn_X4_init (hb.sub (by decide) (by decide) (by decide))) rfl dk_wn_RX4 dk_wc_X4_init dk_wm_X7_41 dk_wt_X4_init ⟨by decide, by decide, by decide⟩ ⟨by decide, by decide⟩ ⟨by decide, by decide⟩ (Nat.le_of_ble_eq_true rfl) rfl dX7_init_53 (n := 56) rfl (by simp [dn_es_len]) (hb 26 (by decide) (by decide)) (fun es1 he1 hl1 => ?_)
  subst he1
  clear hl1
  refine dn_putF C 0 rfl rfl rfl (by decide) dk_ui7 tyX7 tyX7_ok nmX7 dk_wf_X7_42 rfl rfl (tyX7_ok 4 (by decide)) rfl rfl (Nat.le_of_ble_eq_true rfl) dX7_init_56 (n := 59) rfl ?_
  refine dn_eq (es' := ((((([.inr (7, [.ref (dk_ad G p 1), .ref (dk_ad G p 7), .ref (dk_ad G p 13), .ref (dk_ad G p 23), .ref (dk_ad G p 26), .int 0, .int 0, .int 0, .int 0, .int 0])] ++ dn_es G p 1 6 f1) ++ dn_es G p 7 6 f2) ++ dn_es G p 13 10 f3) ++ dn_es G p 23 3 (fun _ _ => 0)) ++ dn_es G p 26 3 (fun _ _ => 0))) rfl ?_
  refine dn_aload_n (i := 0) C dX7_init_59 (n := 60) rfl rfl rfl ?_
  refine dn_iconst (v := 0) C dX7_init_60 (n := 61) rfl (by decide) ?_
  refine dn_put C 0 rfl rfl rfl (by decide) dk_ui7 tyX7 tyX7_ok nmX7 dk_wf_X7_46 rfl (tyX7_ok 5 (by decide)) rfl rfl (Nat.le_of_ble_eq_true rfl) dX7_init_61 (n := 64) rfl ?_
  refine dn_eq (es' := ((((([.inr (7, [.ref (dk_ad G p 1), .ref (dk_ad G p 7), .ref (dk_ad G p 13), .ref (dk_ad G p 23), .ref (dk_ad G p 26), .int 0, .int 0, .int 0, .int 0, .int 0])] ++ dn_es G p 1 6 f1) ++ dn_es G p 7 6 f2) ++ dn_es G p 13 10 f3) ++ dn_es G p 23 3 (fun _ _ => 0)) ++ dn_es G p 26 3 (fun _ _ => 0))) rfl ?_
  refine dn_aload_n (i := 0) C dX7_init_64 (n := 65) rfl rfl rfl ?_
  refine dn_iconst (v := 0) C dX7_init_65 (n := 66) rfl (by decide) ?_
  refine dn_put C 0 rfl rfl rfl (by decide) dk_ui7 tyX7 tyX7_ok nmX7 dk_wf_X7_50 rfl (tyX7_ok 6 (by decide)) rfl rfl (Nat.le_of_ble_eq_true rfl) dX7_init_66 (n := 69) rfl ?_
  refine dn_eq (es' := ((((([.inr (7, [.ref (dk_ad G p 1), .ref (dk_ad G p 7), .ref (dk_ad G p 13), .ref (dk_ad G p 23), .ref (dk_ad G p 26), .int 0, .int 0, .int 0, .int 0, .int 0])] ++ dn_es G p 1 6 f1) ++ dn_es G p 7 6 f2) ++ dn_es G p 13 10 f3) ++ dn_es G p 23 3 (fun _ _ => 0)) ++ dn_es G p 26 3 (fun _ _ => 0))) rfl ?_
  refine dn_aload_n (i := 0) C dX7_init_69 (n := 70) rfl rfl rfl ?_
  refine dn_iconst (v := 0) C dX7_init_70 (n := 71) rfl (by decide) ?_
  refine dn_put C 0 rfl rfl rfl (by decide) dk_ui7 tyX7 tyX7_ok nmX7 dk_wf_X7_53 rfl (tyX7_ok 7 (by decide)) rfl rfl (Nat.le_of_ble_eq_true rfl) dX7_init_71 (n := 74) rfl ?_
  refine dn_eq (es' := ((((([.inr (7, [.ref (dk_ad G p 1), .ref (dk_ad G p 7), .ref (dk_ad G p 13), .ref (dk_ad G p 23), .ref (dk_ad G p 26), .int 0, .int 0, .int 0, .int 0, .int 0])] ++ dn_es G p 1 6 f1) ++ dn_es G p 7 6 f2) ++ dn_es G p 13 10 f3) ++ dn_es G p 23 3 (fun _ _ => 0)) ++ dn_es G p 26 3 (fun _ _ => 0))) rfl ?_
  refine dn_aload_n (i := 0) C dX7_init_74 (n := 75) rfl rfl rfl ?_
  refine dn_iconst (v := 0) C dX7_init_75 (n := 76) rfl (by decide) ?_
  refine dn_put C 0 rfl rfl rfl (by decide) dk_ui7 tyX7 tyX7_ok nmX7 dk_wf_X7_56 rfl (tyX7_ok 8 (by decide)) rfl rfl (Nat.le_of_ble_eq_true rfl) dX7_init_76 (n := 79) rfl ?_
  refine dn_eq (es' := ((((([.inr (7, [.ref (dk_ad G p 1), .ref (dk_ad G p 7), .ref (dk_ad G p 13), .ref (dk_ad G p 23), .ref (dk_ad G p 26), .int 0, .int 0, .int 0, .int 0, .int 0])] ++ dn_es G p 1 6 f1) ++ dn_es G p 7 6 f2) ++ dn_es G p 13 10 f3) ++ dn_es G p 23 3 (fun _ _ => 0)) ++ dn_es G p 26 3 (fun _ _ => 0))) rfl ?_
  refine dn_aload_n (i := 0) C dX7_init_79 (n := 80) rfl rfl rfl ?_
  refine dn_iconst (v := 0) C dX7_init_80 (n := 81) rfl (by decide) ?_
  refine dn_put C 0 rfl rfl rfl (by decide) dk_ui7 tyX7 tyX7_ok nmX7 dk_wf_X7_59 rfl (tyX7_ok 9 (by decide)) rfl rfl (Nat.le_of_ble_eq_true rfl) dX7_init_81 (n := 84) rfl ?_
  refine dn_eq (es' := ((((([.inr (7, [.ref (dk_ad G p 1), .ref (dk_ad G p 7), .ref (dk_ad G p 13), .ref (dk_ad G p 23), .ref (dk_ad G p 26), .int 0, .int 0, .int 0, .int 0, .int 0])] ++ dn_es G p 1 6 f1) ++ dn_es G p 7 6 f2) ++ dn_es G p 13 10 f3) ++ dn_es G p 23 3 (fun _ _ => 0)) ++ dn_es G p 26 3 (fun _ _ => 0))) rfl ?_
  refine dn_ret C (by simp [dn_es_len]) (Nat.le_refl _) (Nat.le_refl _) dX7_init_84 ?_
  obtain ⟨f, hf⟩ : ∃ f : dq_W, f = fun q => if q = 0 then (fun _ => 0) else if q < 7 then f1 q else if q < 13 then f2 q else if q < 23 then f3 q else (fun _ => 0) := ⟨_, rfl⟩
  have g0 : f 0 = fun _ => 0 := by rw [hf]; rfl
  have g1 : ∀ q, 1 ≤ q → q < 1 + 6 → f1 q = f q := fun q h1 h2 => by rw [hf]; show f1 q = if q = 0 then _ else _; rw [if_neg (by omega), if_pos (by omega)]
  have g2 : ∀ q, 7 ≤ q → q < 7 + 6 → f2 q = f q := fun q h1 h2 => by rw [hf]; show f2 q = if q = 0 then _ else _; rw [if_neg (by omega), if_neg (by omega), if_pos (by omega)]
  have g3 : ∀ q, 13 ≤ q → q < 13 + 10 → f3 q = f q := fun q h1 h2 => by rw [hf]; show f3 q = if q = 0 then _ else _; rw [if_neg (by omega), if_neg (by omega), if_neg (by omega), if_pos (by omega)]
  have g4 : ∀ q, 23 ≤ q → (fun _ => 0) = f q := fun q h1 => by rw [hf]; show _ = if q = 0 then _ else _; rw [if_neg (by omega), if_neg (by omega), if_neg (by omega), if_neg (by omega)]
  refine ⟨f, ⟨fun q k h1 h2 h3 h4 => ?_, fun _ _ => ?_⟩, ?_⟩
  · by_cases q1 : q = 0
    · subst q1; rw [g0]; rfl
    · by_cases q2 : q < 7
      · rw [← g1 q (by omega) (by omega)]; exact hf1.1 q k (by omega) (by omega) h3 h4
      · by_cases q3 : q < 13
        · rw [← g2 q (by omega) (by omega)]; exact hf2.1 q k (by omega) (by omega) h3 h4
        · by_cases q4 : q < 23
          · rw [← g3 q (by omega) (by omega)]; exact hf3.1 q k (by omega) (by omega) h3 h4
          · rw [← g4 q (by omega)]
            show (0 : Int32) = dn_T0 q k
            unfold dn_T0
            rw [if_neg (by omega), if_neg (by omega), if_neg (by omega), if_neg (by omega), if_neg (by omega), if_neg (by omega), if_neg (by omega), if_neg (by omega), if_neg (by omega), if_neg (by omega)]
  · rw [← g1 1 (by decide) (by decide)]; exact hf1.2 (by decide) (by decide)
  · have e1 : dn_es G p 0 7 f = dn_es G p 0 1 f ++ dn_es G p 1 6 f := dn_es_app (n := 1) (m := 6)
    have e2 : dn_es G p 0 13 f = dn_es G p 0 7 f ++ dn_es G p 7 6 f := dn_es_app (n := 7) (m := 6)
    have e3 : dn_es G p 0 23 f = dn_es G p 0 13 f ++ dn_es G p 13 10 f := dn_es_app (n := 13) (m := 10)
    have e4 : dn_es G p 0 26 f = dn_es G p 0 23 f ++ dn_es G p 23 3 f := dn_es_app (n := 23) (m := 3)
    have e5 : dn_es G p 0 29 f = dn_es G p 0 26 f ++ dn_es G p 26 3 f := dn_es_app (n := 26) (m := 3)
    rw [e5, e4, e3, e2, e1, ← dn_es_c g1, ← dn_es_c g2, ← dn_es_c g3, ← dn_es_c (f := fun _ _ => 0) (a := 23) (n := 3) (fun q h1 _ => g4 q h1), ← dn_es_c (f := fun _ _ => 0) (a := 26) (n := 3) (fun q h1 _ => g4 q (by omega))]
    have e0 : dn_es G p 0 1 f = [dk_ce G (dk_shp 0) p (f 0)] := rfl
    rw [e0, g0]
    rfl
