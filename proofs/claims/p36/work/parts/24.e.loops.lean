/-! constructors with loops: Cave, Kinds, Creatures -/
theorem dn_wput {p q N i : Nat} {v : Int32} {s : dk_S} {K : dk_S → Prop} (hi : i < N) (hN : N < 2 ^ 31) (k : K (dk_row s p q (upd (s p q) i v))) : wf_X8_put p q N (nI i) v s K := by
  unfold wf_X8_put
  refine ⟨fun h => absurd h (nI_pos (by omega)), fun _ => ⟨fun h => absurd h ?_, fun _ => ⟨vp_in_nI hi hN, fun s1 e1 => ?_⟩⟩⟩
  · rw [Int32.not_le]
    exact nI_lt hi hN
  · subst e1
    rw [nI_clamp (by omega)]
    exact k
abbrev dn_G1 (G : dk_G) (p : Nat) : dk_G := dn_GC G (dk_ad G p 1) (dn_dom p 1 6)
abbrev dn_G3 (G : dk_G) (p : Nat) : dk_G := dn_GC G (dk_ad G p 7) (dn_dom p 7 6)
abbrev dn_G2 (G : dk_G) (p : Nat) : dk_G := dn_GC G (dk_ad G p 13) (dn_dom p 13 10)
theorem dn_row_same {s : dk_S} {p q k : Nat} {v : Int32} : dk_row s p q (upd (s p q) k v) p q k = v := by simp [dk_row, upd]
theorem dn_row_k {s : dk_S} {p q k j : Nat} {v : Int32} (h : j ≠ k) : dk_row s p q (upd (s p q) k v) p q j = s p q j := by simp [dk_row, upd, h]
theorem dn_row_q {s : dk_S} {p q q' k : Nat} {v : Int32} (h : q' ≠ q) : dk_row s p q (upd (s p q) k v) p q' = s p q' := by simp [dk_row, h]
set_option maxRecDepth 20000 in
set_option maxHeartbeats 4000000 in
theorem cn_loop1 {G : dk_G} {P : Program} {l : Launch} {e : Env} {s : State} {m : MethodId} {args : Array Value} {below : List Frame} {meth : Method} {c : Code} {p : Nat} (hb : dn_H G p 1 6) (C : dn_C G (dk_ad G p 1) P s m args meth c cX1_init 2 RX1) : ∀ (n i : Nat) (σ : dk_S), i + n = 144 → (∀ k, k < i → σ p 2 k = 35) → σ p 1 5 = -1 →
    dk_W (dn_G1 G p) P l e (dn_rm 4 5 1008) s m args below meth c 5 1008 (MQ below (dn_Q G (dk_ad G p 1) 5 (dn_Po G p 1 6 (dn_F 1 6))) args s 5 1008 (dn_A (dk_ad G p 1))) 56 [some (dk_r (dn_G1 G p) p 1), some (.int (nI i))] [] σ := by
  have K : dk_C (dn_G1 G p) P (dn_rm 4 5 1008) s m args c 5 1008 cX1_init 2 RX1 := dn_toC C (dn_DC hb) (Nat.le_refl _) (Nat.le_refl _)
  have M : ∀ q, 1 ≤ q → q < 7 → (p, q) ∈ dk_dom (dn_G1 G p) := fun q h1 h2 => dn_dom_mem h1 h2
  intro n
  induction n with
  | zero =>
    intro i σ hi h2 h1
    refine dk_iload_n (i := 1) K dX1_init_56 (n := 57) rfl rfl rfl ?_
    refine dk_aload_n (i := 0) K dX1_init_57 (n := 58) rfl rfl rfl ?_
    refine gf_X1_9 K (M 1 (by decide) (by decide)) dX1_init_58 (n := 61) rfl ?_
    refine dk_alen (v := 144) K dk_sh2 rfl rfl (M 2 (by decide) (by decide)) dX1_init_61 (n := 62) rfl ?_
    refine dk_icmp_ge (t := 79) K dX1_init_62 (n := 65) rfl (by decide) (fun _ => ?_) (fun hc => absurd ?_ hc)
    · refine dn_retK C hb (Nat.le_refl _) (Nat.le_refl _) dX1_init_79 ⟨σ p, ⟨fun q k g1 g2 g3 g4 => ?_, fun _ _ => h1⟩, rfl⟩
      by_cases hq : q = 2
      · subst hq
        exact h2 k (by rw [show dq_hi 2 = 144 from rfl] at g4; omega)
      · exfalso
        have : q = 1 ∨ q = 3 ∨ q = 4 ∨ q = 5 ∨ q = 6 := by omega
        rcases this with rfl | rfl | rfl | rfl | rfl <;> exact absurd g4 (Nat.not_lt_zero _)
    · rw [show i = 144 by omega]; decide
  | succ n ih =>
    intro i σ hi h2 h1
    refine dk_iload_n (i := 1) K dX1_init_56 (n := 57) rfl rfl rfl ?_
    refine dk_aload_n (i := 0) K dX1_init_57 (n := 58) rfl rfl rfl ?_
    refine gf_X1_9 K (M 1 (by decide) (by decide)) dX1_init_58 (n := 61) rfl ?_
    refine dk_alen (v := 144) K dk_sh2 rfl rfl (M 2 (by decide) (by decide)) dX1_init_61 (n := 62) rfl ?_
    refine dk_icmp_ge (t := 79) K dX1_init_62 (n := 65) rfl (by decide) (fun hc => absurd hc ?_) (fun _ => ?_)
    · rw [Int32.not_le]; exact nI_lt (b := 144) (by omega) (by decide)
    · refine dk_aload_n (i := 0) K dX1_init_65 (n := 66) rfl rfl rfl ?_
      refine gf_X1_9 K (M 1 (by decide) (by decide)) dX1_init_66 (n := 69) rfl ?_
      refine dk_iload_n (i := 1) K dX1_init_69 (n := 70) rfl rfl rfl ?_
      refine dk_bipush (v := 35) K dX1_init_70 (n := 72) rfl (by decide) ?_
      refine dk_cast K dk_sh2 (vp_in_nI (by omega) (by decide)) (M 2 (by decide) (by decide)) dX1_init_72 (n := 73) rfl ?_
      rw [nI_clamp (by omega), show vp_nar .char 35 = 35 from by decide]
      refine dk_iinc (i := 1) (v := nI (i + 1)) (L' := [some (dk_r (dn_G1 G p) p 1), some (.int (nI (i + 1)))]) K dX1_init_73 (n := 76) rfl rfl (nI_1 i) (dk_nc_of rfl) (Nat.le_of_ble_eq_true rfl) rfl ?_
      refine dk_goto (t := 56) K dX1_init_76 (by decide) ?_
      refine ih (i + 1) _ (by omega) (fun k hk => ?_) (by rw [dn_row_q (by decide)]; exact h1)
      by_cases hki : k = i
      · subst hki; exact dn_row_same
      · rw [dn_row_k hki]; exact h2 k (by omega)

set_option maxRecDepth 20000 in
set_option maxHeartbeats 4000000 in
theorem cn_X1_init {G : dk_G} {l : Launch} {p : Nat} (hb : dn_H G p 1 6) : dn_M G l 4 yX1_init cX1_init 2 (dk_ad G p 1) 1 [.null, .null, .null, .null, .null, .int 0] 5 1008 (dn_Po G p 1 6 (dn_F 1 6)) := by
  refine dn_ofM (by decide) rfl [some (.ref (dk_ad G p 1)), none] (fun q hq => hq) rfl (Nat.le_of_ble_eq_true rfl) (fun P e s m args below meth c C => ?_)
  refine dn_aload_n (i := 0) C dX1_init_0 (n := 1) rfl rfl rfl ?_
  refine dn_obj C dk_wo_X1_3 dk_woi dk_woc rfl (by decide) dX1_init_1 (n := 4) rfl ?_
  refine dn_aload_n (i := 0) C dX1_init_4 (n := 5) rfl rfl rfl ?_
  refine dn_sipush (v := 144) C dX1_init_5 (n := 8) rfl (by decide) ?_
  refine dn_newa C 1 (N := 144) (a := dk_ad G p 2) (ty := .char) rfl rfl rfl dk_wa_char (by decide) rfl (by decide) ⟨by decide, by decide⟩ dX1_init_8 (n := 10) rfl rfl (hb 2 (by decide) (by decide)) ?_
  refine dn_eq (es' := [.inr (1, [.null, .null, .null, .null, .null, .int 0]), .inl (dk_cA G 1, 144, .inl (fun _ => 0))]) rfl ?_
  refine dn_putF C 0 rfl rfl rfl (by decide) dk_ui1 tyX1 tyX1_ok nmX1 dk_wf_X1_9 rfl rfl (tyX1_ok 0 (by decide)) rfl rfl (Nat.le_of_ble_eq_true rfl) dX1_init_10 (n := 13) rfl ?_
  refine dn_eq (es' := [.inr (1, [.ref (dk_ad G p 2), .null, .null, .null, .null, .int 0]), .inl (dk_cA G 1, 144, .inl (fun _ => 0))]) rfl ?_
  refine dn_aload_n (i := 0) C dX1_init_13 (n := 14) rfl rfl rfl ?_
  refine dn_sipush (v := 432) C dX1_init_14 (n := 17) rfl (by decide) ?_
  refine dn_newa C 0 (N := 432) (a := dk_ad G p 3) (ty := .int) rfl rfl rfl dk_wa_int (by decide) rfl (by decide) ⟨by decide, by decide⟩ dX1_init_17 (n := 19) rfl rfl (hb 3 (by decide) (by decide)) ?_
  refine dn_eq (es' := [.inr (1, [.ref (dk_ad G p 2), .null, .null, .null, .null, .int 0]), .inl (dk_cA G 1, 144, .inl (fun _ => 0)), .inl (dk_cA G 0, 432, .inl (fun _ => 0))]) rfl ?_
  refine dn_putF C 0 rfl rfl rfl (by decide) dk_ui1 tyX1 tyX1_ok nmX1 dk_wf_X1_15 rfl rfl (tyX1_ok 1 (by decide)) rfl rfl (Nat.le_of_ble_eq_true rfl) dX1_init_19 (n := 22) rfl ?_
  refine dn_eq (es' := [.inr (1, [.ref (dk_ad G p 2), .ref (dk_ad G p 3), .null, .null, .null, .int 0]), .inl (dk_cA G 1, 144, .inl (fun _ => 0)), .inl (dk_cA G 0, 432, .inl (fun _ => 0))]) rfl ?_
  refine dn_aload_n (i := 0) C dX1_init_22 (n := 23) rfl rfl rfl ?_
  refine dn_sipush (v := 144) C dX1_init_23 (n := 26) rfl (by decide) ?_
  refine dn_newa C 0 (N := 144) (a := dk_ad G p 4) (ty := .int) rfl rfl rfl dk_wa_int (by decide) rfl (by decide) ⟨by decide, by decide⟩ dX1_init_26 (n := 28) rfl rfl (hb 4 (by decide) (by decide)) ?_
  refine dn_eq (es' := [.inr (1, [.ref (dk_ad G p 2), .ref (dk_ad G p 3), .null, .null, .null, .int 0]), .inl (dk_cA G 1, 144, .inl (fun _ => 0)), .inl (dk_cA G 0, 432, .inl (fun _ => 0)), .inl (dk_cA G 0, 144, .inl (fun _ => 0))]) rfl ?_
  refine dn_putF C 0 rfl rfl rfl (by decide) dk_ui1 tyX1 tyX1_ok nmX1 dk_wf_X1_19 rfl rfl (tyX1_ok 2 (by decide)) rfl rfl (Nat.le_of_ble_eq_true rfl) dX1_init_28 (n := 31) rfl ?_
  refine dn_eq (es' := [.inr (1, [.ref (dk_ad G p 2), .ref (dk_ad G p 3), .ref (dk_ad G p 4), .null, .null, .int 0]), .inl (dk_cA G 1, 144, .inl (fun _ => 0)), .inl (dk_cA G 0, 432, .inl (fun _ => 0)), .inl (dk_cA G 0, 144, .inl (fun _ => 0))]) rfl ?_
  refine dn_aload_n (i := 0) C dX1_init_31 (n := 32) rfl rfl rfl ?_
  refine dn_sipush (v := 144) C dX1_init_32 (n := 35) rfl (by decide) ?_
  refine dn_newa C 0 (N := 144) (a := dk_ad G p 5) (ty := .int) rfl rfl rfl dk_wa_int (by decide) rfl (by decide) ⟨by decide, by decide⟩ dX1_init_35 (n := 37) rfl rfl (hb 5 (by decide) (by decide)) ?_
  refine dn_eq (es' := [.inr (1, [.ref (dk_ad G p 2), .ref (dk_ad G p 3), .ref (dk_ad G p 4), .null, .null, .int 0]), .inl (dk_cA G 1, 144, .inl (fun _ => 0)), .inl (dk_cA G 0, 432, .inl (fun _ => 0)), .inl (dk_cA G 0, 144, .inl (fun _ => 0)), .inl (dk_cA G 0, 144, .inl (fun _ => 0))]) rfl ?_
  refine dn_putF C 0 rfl rfl rfl (by decide) dk_ui1 tyX1 tyX1_ok nmX1 dk_wf_X1_22 rfl rfl (tyX1_ok 3 (by decide)) rfl rfl (Nat.le_of_ble_eq_true rfl) dX1_init_37 (n := 40) rfl ?_
  refine dn_eq (es' := [.inr (1, [.ref (dk_ad G p 2), .ref (dk_ad G p 3), .ref (dk_ad G p 4), .ref (dk_ad G p 5), .null, .int 0]), .inl (dk_cA G 1, 144, .inl (fun _ => 0)), .inl (dk_cA G 0, 432, .inl (fun _ => 0)), .inl (dk_cA G 0, 144, .inl (fun _ => 0)), .inl (dk_cA G 0, 144, .inl (fun _ => 0))]) rfl ?_
  refine dn_aload_n (i := 0) C dX1_init_40 (n := 41) rfl rfl rfl ?_
  refine dn_sipush (v := 144) C dX1_init_41 (n := 44) rfl (by decide) ?_
  refine dn_newa C 0 (N := 144) (a := dk_ad G p 6) (ty := .int) rfl rfl rfl dk_wa_int (by decide) rfl (by decide) ⟨by decide, by decide⟩ dX1_init_44 (n := 46) rfl rfl (hb 6 (by decide) (by decide)) ?_
  refine dn_eq (es' := [.inr (1, [.ref (dk_ad G p 2), .ref (dk_ad G p 3), .ref (dk_ad G p 4), .ref (dk_ad G p 5), .null, .int 0]), .inl (dk_cA G 1, 144, .inl (fun _ => 0)), .inl (dk_cA G 0, 432, .inl (fun _ => 0)), .inl (dk_cA G 0, 144, .inl (fun _ => 0)), .inl (dk_cA G 0, 144, .inl (fun _ => 0)), .inl (dk_cA G 0, 144, .inl (fun _ => 0))]) rfl ?_
  refine dn_putF C 0 rfl rfl rfl (by decide) dk_ui1 tyX1 tyX1_ok nmX1 dk_wf_X1_25 rfl rfl (tyX1_ok 4 (by decide)) rfl rfl (Nat.le_of_ble_eq_true rfl) dX1_init_46 (n := 49) rfl ?_
  refine dn_eq (es' := [.inr (1, [.ref (dk_ad G p 2), .ref (dk_ad G p 3), .ref (dk_ad G p 4), .ref (dk_ad G p 5), .ref (dk_ad G p 6), .int 0]), .inl (dk_cA G 1, 144, .inl (fun _ => 0)), .inl (dk_cA G 0, 432, .inl (fun _ => 0)), .inl (dk_cA G 0, 144, .inl (fun _ => 0)), .inl (dk_cA G 0, 144, .inl (fun _ => 0)), .inl (dk_cA G 0, 144, .inl (fun _ => 0))]) rfl ?_
  refine dn_aload_n (i := 0) C dX1_init_49 (n := 50) rfl rfl rfl ?_
  refine dn_iconst (v := (-1)) C dX1_init_50 (n := 51) rfl (by decide) ?_
  refine dn_put C 0 rfl rfl rfl (by decide) dk_ui1 tyX1 tyX1_ok nmX1 dk_wf_X1_28 rfl (tyX1_ok 5 (by decide)) rfl rfl (Nat.le_of_ble_eq_true rfl) dX1_init_51 (n := 54) rfl ?_
  refine dn_eq (es' := [.inr (1, [.ref (dk_ad G p 2), .ref (dk_ad G p 3), .ref (dk_ad G p 4), .ref (dk_ad G p 5), .ref (dk_ad G p 6), .int (-1)]), .inl (dk_cA G 1, 144, .inl (fun _ => 0)), .inl (dk_cA G 0, 432, .inl (fun _ => 0)), .inl (dk_cA G 0, 144, .inl (fun _ => 0)), .inl (dk_cA G 0, 144, .inl (fun _ => 0)), .inl (dk_cA G 0, 144, .inl (fun _ => 0))]) rfl ?_
  refine dn_rows (f := fun q _ => if q = 1 then -1 else 0) (σ := fun _ q _ => if q = 1 then -1 else 0) hb rfl (fun _ _ _ => rfl) ?_
  have K : dk_C (dn_G1 G p) P (dn_rm 4 5 1008) s m args c 5 1008 cX1_init 2 RX1 := dn_toC C (dn_DC hb) (Nat.le_refl _) (Nat.le_refl _)
  refine dk_iconst (v := 0) K dX1_init_54 (n := 55) rfl (by decide) ?_
  refine dk_istore_n (i := 1) (L' := [some (dk_r (dn_G1 G p) p 1), some (.int 0)]) K dX1_init_55 (n := 56) rfl rfl (dk_nc_of rfl) (Nat.le_of_ble_eq_true rfl) rfl ?_
  exact cn_loop1 hb C 144 0 _ rfl (fun k hk => absurd hk (Nat.not_lt_zero _)) rfl

set_option maxRecDepth 20000 in
set_option maxHeartbeats 4000000 in
theorem cn_loop3 {G : dk_G} {P : Program} {l : Launch} {e : Env} {s : State} {m : MethodId} {args : Array Value} {below : List Frame} {meth : Method} {c : Code} {p : Nat} (hb : dn_H G p 7 6) (C : dn_C G (dk_ad G p 7) P s m args meth c cX3_init 2 RX3) : ∀ (n i : Nat) (σ : dk_S), i + n = 8 → (∀ k, k < i → σ p 8 k = 1 ∧ σ p 10 k = 104 ∧ σ p 11 k = 1) → (∀ k, σ p 9 k = 0 ∧ σ p 12 k = 0) →
    dk_W (dn_G3 G p) P l e (dn_rm 4 5 40) s m args below meth c 5 40 (MQ below (dn_Q G (dk_ad G p 7) 5 (dn_Po G p 7 6 (dn_F 7 6))) args s 5 40 (dn_A (dk_ad G p 7))) 46 [some (dk_r (dn_G3 G p) p 7), some (.int (nI i))] [] σ := by
  have K : dk_C (dn_G3 G p) P (dn_rm 4 5 40) s m args c 5 40 cX3_init 2 RX3 := dn_toC C (dn_DC hb) (Nat.le_refl _) (Nat.le_refl _)
  have M : ∀ q, 7 ≤ q → q < 13 → (p, q) ∈ dk_dom (dn_G3 G p) := fun q h1 h2 => dn_dom_mem h1 h2
  intro n
  induction n with
  | zero =>
    intro i σ hi h1 h2
    refine dk_iload_n (i := 1) K dX3_init_46 (n := 47) rfl rfl rfl ?_
    refine dk_bipush (v := 8) K dX3_init_47 (n := 49) rfl (by decide) ?_
    refine dk_icmp_ge (t := 86) K dX3_init_49 (n := 52) rfl (by decide) (fun _ => ?_) (fun hc => absurd ?_ hc)
    · refine dn_retK C hb (Nat.le_refl _) (Nat.le_refl _) dX3_init_86 ⟨σ p, ⟨fun q k g1 g2 g3 g4 => ?_, fun g _ => absurd g (by decide)⟩, rfl⟩
      have : q = 7 ∨ q = 8 ∨ q = 9 ∨ q = 10 ∨ q = 11 ∨ q = 12 := by omega
      rcases this with rfl | rfl | rfl | rfl | rfl | rfl
      · exact absurd g4 (Nat.not_lt_zero _)
      · exact (h1 k (by rw [show dq_hi 8 = 8 from rfl] at g4; omega)).1
      · exact (h2 k).1
      · exact (h1 k (by rw [show dq_hi 10 = 8 from rfl] at g4; omega)).2.1
      · exact (h1 k (by rw [show dq_hi 11 = 8 from rfl] at g4; omega)).2.2
      · exact (h2 k).2
    · rw [show i = 8 by omega]; decide
  | succ n ih =>
    intro i σ hi h1 h2
    refine dk_iload_n (i := 1) K dX3_init_46 (n := 47) rfl rfl rfl ?_
    refine dk_bipush (v := 8) K dX3_init_47 (n := 49) rfl (by decide) ?_
    refine dk_icmp_ge (t := 86) K dX3_init_49 (n := 52) rfl (by decide) (fun hc => absurd hc ?_) (fun _ => ?_)
    · rw [Int32.not_le]; exact nI_lt (b := 8) (by omega) (by decide)
    · refine dk_aload_n (i := 0) K dX3_init_52 (n := 53) rfl rfl rfl ?_
      refine gf_X3_9 K (M 7 (by decide) (by decide)) dX3_init_53 (n := 56) rfl ?_
      refine dk_iload_n (i := 1) K dX3_init_56 (n := 57) rfl rfl rfl ?_
      refine dk_iconst (v := 1) K dX3_init_57 (n := 58) rfl (by decide) ?_
      refine dk_callNv K [] (cc_X8_put K.D dk_sh8 (M 8 (by decide) (by decide)) (dn_wput (i := i) (K := fun u => u = dk_row σ p 8 (upd (σ p 8) i 1)) (by omega) (by decide) rfl)) yy_X8_put dk_wm_X3_27 dX3_init_58 (fun s1 e1 => ?_) rfl ⟨Nat.le_of_ble_eq_true rfl, Nat.le_of_ble_eq_true rfl⟩ rfl (Nat.le_of_ble_eq_true rfl) rfl (n := 61) rfl
      refine dk_aload_n (i := 0) K dX3_init_61 (n := 62) rfl rfl rfl ?_
      refine gf_X3_18 K (M 7 (by decide) (by decide)) dX3_init_62 (n := 65) rfl ?_
      refine dk_iload_n (i := 1) K dX3_init_65 (n := 66) rfl rfl rfl ?_
      refine dk_bipush (v := 104) K dX3_init_66 (n := 68) rfl (by decide) ?_
      refine dk_callNv K [] (cc_X8_put K.D dk_sh10 (M 10 (by decide) (by decide)) (dn_wput (i := i) (K := fun u => u = dk_row s1 p 10 (upd (s1 p 10) i 104)) (by omega) (by decide) rfl)) yy_X8_put dk_wm_X3_27 dX3_init_68 (fun s2 e2 => ?_) rfl ⟨Nat.le_of_ble_eq_true rfl, Nat.le_of_ble_eq_true rfl⟩ rfl (Nat.le_of_ble_eq_true rfl) rfl (n := 71) rfl
      refine dk_aload_n (i := 0) K dX3_init_71 (n := 72) rfl rfl rfl ?_
      refine gf_X3_21 K (M 7 (by decide) (by decide)) dX3_init_72 (n := 75) rfl ?_
      refine dk_iload_n (i := 1) K dX3_init_75 (n := 76) rfl rfl rfl ?_
      refine dk_iconst (v := 1) K dX3_init_76 (n := 77) rfl (by decide) ?_
      refine dk_callNv K [] (cc_X8_put K.D dk_sh11 (M 11 (by decide) (by decide)) (dn_wput (i := i) (K := fun u => u = dk_row s2 p 11 (upd (s2 p 11) i 1)) (by omega) (by decide) rfl)) yy_X8_put dk_wm_X3_27 dX3_init_77 (fun s3 e3 => ?_) rfl ⟨Nat.le_of_ble_eq_true rfl, Nat.le_of_ble_eq_true rfl⟩ rfl (Nat.le_of_ble_eq_true rfl) rfl (n := 80) rfl
      refine dk_iinc (i := 1) (v := nI (i + 1)) (L' := [some (dk_r (dn_G3 G p) p 7), some (.int (nI (i + 1)))]) K dX3_init_80 (n := 83) rfl rfl (nI_1 i) (dk_nc_of rfl) (Nat.le_of_ble_eq_true rfl) rfl ?_
      refine dk_goto (t := 46) K dX3_init_83 (by decide) ?_
      refine ih (i + 1) _ (by omega) (fun k hk => ?_) (fun k => ?_)
      · subst e3
        rw [dn_row_q (q := 11) (q' := 8) (by decide), dn_row_q (q := 11) (q' := 10) (by decide)]
        subst e2
        rw [dn_row_q (q := 10) (q' := 8) (by decide)]
        by_cases hki : k = i
        · subst hki
          rw [dn_row_same, dn_row_same, e1, dn_row_same]; exact ⟨rfl, rfl, rfl⟩
        · rw [dn_row_k (q := 11) hki, dn_row_k (q := 10) hki, dn_row_q (q := 10) (q' := 11) (by decide), e1, dn_row_k hki, dn_row_q (by decide), dn_row_q (by decide)]
          exact h1 k (by omega)
      · rw [e3, dn_row_q (by decide), dn_row_q (by decide), e2, dn_row_q (by decide), dn_row_q (by decide), e1, dn_row_q (by decide), dn_row_q (by decide)]
        exact h2 k

set_option maxRecDepth 20000 in
set_option maxHeartbeats 4000000 in
theorem cn_X3_init {G : dk_G} {l : Launch} {p : Nat} (hb : dn_H G p 7 6) : dn_M G l 4 yX3_init cX3_init 2 (dk_ad G p 7) 3 [.null, .null, .null, .null, .null] 5 40 (dn_Po G p 7 6 (dn_F 7 6)) := by
  refine dn_ofM (by decide) rfl [some (.ref (dk_ad G p 7)), none] (fun q hq => hq) rfl (Nat.le_of_ble_eq_true rfl) (fun P e s m args below meth c C => ?_)
  refine dn_aload_n (i := 0) C dX3_init_0 (n := 1) rfl rfl rfl ?_
  refine dn_obj C dk_wo_X3_3 dk_woi dk_woc rfl (by decide) dX3_init_1 (n := 4) rfl ?_
  refine dn_aload_n (i := 0) C dX3_init_4 (n := 5) rfl rfl rfl ?_
  refine dn_bipush (v := 8) C dX3_init_5 (n := 7) rfl (by decide) ?_
  refine dn_newa C 0 (N := 8) (a := dk_ad G p 8) (ty := .int) rfl rfl rfl dk_wa_int (by decide) rfl (by decide) ⟨by decide, by decide⟩ dX3_init_7 (n := 9) rfl rfl (hb 8 (by decide) (by decide)) ?_
  refine dn_eq (es' := [.inr (3, [.null, .null, .null, .null, .null]), .inl (dk_cA G 0, 8, .inl (fun _ => 0))]) rfl ?_
  refine dn_putF C 0 rfl rfl rfl (by decide) dk_ui3 tyX3 tyX3_ok nmX3 dk_wf_X3_9 rfl rfl (tyX3_ok 0 (by decide)) rfl rfl (Nat.le_of_ble_eq_true rfl) dX3_init_9 (n := 12) rfl ?_
  refine dn_eq (es' := [.inr (3, [.ref (dk_ad G p 8), .null, .null, .null, .null]), .inl (dk_cA G 0, 8, .inl (fun _ => 0))]) rfl ?_
  refine dn_aload_n (i := 0) C dX3_init_12 (n := 13) rfl rfl rfl ?_
  refine dn_bipush (v := 8) C dX3_init_13 (n := 15) rfl (by decide) ?_
  refine dn_newa C 0 (N := 8) (a := dk_ad G p 9) (ty := .int) rfl rfl rfl dk_wa_int (by decide) rfl (by decide) ⟨by decide, by decide⟩ dX3_init_15 (n := 17) rfl rfl (hb 9 (by decide) (by decide)) ?_
  refine dn_eq (es' := [.inr (3, [.ref (dk_ad G p 8), .null, .null, .null, .null]), .inl (dk_cA G 0, 8, .inl (fun _ => 0)), .inl (dk_cA G 0, 8, .inl (fun _ => 0))]) rfl ?_
  refine dn_putF C 0 rfl rfl rfl (by decide) dk_ui3 tyX3 tyX3_ok nmX3 dk_wf_X3_15 rfl rfl (tyX3_ok 1 (by decide)) rfl rfl (Nat.le_of_ble_eq_true rfl) dX3_init_17 (n := 20) rfl ?_
  refine dn_eq (es' := [.inr (3, [.ref (dk_ad G p 8), .ref (dk_ad G p 9), .null, .null, .null]), .inl (dk_cA G 0, 8, .inl (fun _ => 0)), .inl (dk_cA G 0, 8, .inl (fun _ => 0))]) rfl ?_
  refine dn_aload_n (i := 0) C dX3_init_20 (n := 21) rfl rfl rfl ?_
  refine dn_bipush (v := 8) C dX3_init_21 (n := 23) rfl (by decide) ?_
  refine dn_newa C 0 (N := 8) (a := dk_ad G p 10) (ty := .int) rfl rfl rfl dk_wa_int (by decide) rfl (by decide) ⟨by decide, by decide⟩ dX3_init_23 (n := 25) rfl rfl (hb 10 (by decide) (by decide)) ?_
  refine dn_eq (es' := [.inr (3, [.ref (dk_ad G p 8), .ref (dk_ad G p 9), .null, .null, .null]), .inl (dk_cA G 0, 8, .inl (fun _ => 0)), .inl (dk_cA G 0, 8, .inl (fun _ => 0)), .inl (dk_cA G 0, 8, .inl (fun _ => 0))]) rfl ?_
  refine dn_putF C 0 rfl rfl rfl (by decide) dk_ui3 tyX3 tyX3_ok nmX3 dk_wf_X3_18 rfl rfl (tyX3_ok 2 (by decide)) rfl rfl (Nat.le_of_ble_eq_true rfl) dX3_init_25 (n := 28) rfl ?_
  refine dn_eq (es' := [.inr (3, [.ref (dk_ad G p 8), .ref (dk_ad G p 9), .ref (dk_ad G p 10), .null, .null]), .inl (dk_cA G 0, 8, .inl (fun _ => 0)), .inl (dk_cA G 0, 8, .inl (fun _ => 0)), .inl (dk_cA G 0, 8, .inl (fun _ => 0))]) rfl ?_
  refine dn_aload_n (i := 0) C dX3_init_28 (n := 29) rfl rfl rfl ?_
  refine dn_bipush (v := 8) C dX3_init_29 (n := 31) rfl (by decide) ?_
  refine dn_newa C 0 (N := 8) (a := dk_ad G p 11) (ty := .int) rfl rfl rfl dk_wa_int (by decide) rfl (by decide) ⟨by decide, by decide⟩ dX3_init_31 (n := 33) rfl rfl (hb 11 (by decide) (by decide)) ?_
  refine dn_eq (es' := [.inr (3, [.ref (dk_ad G p 8), .ref (dk_ad G p 9), .ref (dk_ad G p 10), .null, .null]), .inl (dk_cA G 0, 8, .inl (fun _ => 0)), .inl (dk_cA G 0, 8, .inl (fun _ => 0)), .inl (dk_cA G 0, 8, .inl (fun _ => 0)), .inl (dk_cA G 0, 8, .inl (fun _ => 0))]) rfl ?_
  refine dn_putF C 0 rfl rfl rfl (by decide) dk_ui3 tyX3 tyX3_ok nmX3 dk_wf_X3_21 rfl rfl (tyX3_ok 3 (by decide)) rfl rfl (Nat.le_of_ble_eq_true rfl) dX3_init_33 (n := 36) rfl ?_
  refine dn_eq (es' := [.inr (3, [.ref (dk_ad G p 8), .ref (dk_ad G p 9), .ref (dk_ad G p 10), .ref (dk_ad G p 11), .null]), .inl (dk_cA G 0, 8, .inl (fun _ => 0)), .inl (dk_cA G 0, 8, .inl (fun _ => 0)), .inl (dk_cA G 0, 8, .inl (fun _ => 0)), .inl (dk_cA G 0, 8, .inl (fun _ => 0))]) rfl ?_
  refine dn_aload_n (i := 0) C dX3_init_36 (n := 37) rfl rfl rfl ?_
  refine dn_bipush (v := 8) C dX3_init_37 (n := 39) rfl (by decide) ?_
  refine dn_newa C 0 (N := 8) (a := dk_ad G p 12) (ty := .int) rfl rfl rfl dk_wa_int (by decide) rfl (by decide) ⟨by decide, by decide⟩ dX3_init_39 (n := 41) rfl rfl (hb 12 (by decide) (by decide)) ?_
  refine dn_eq (es' := [.inr (3, [.ref (dk_ad G p 8), .ref (dk_ad G p 9), .ref (dk_ad G p 10), .ref (dk_ad G p 11), .null]), .inl (dk_cA G 0, 8, .inl (fun _ => 0)), .inl (dk_cA G 0, 8, .inl (fun _ => 0)), .inl (dk_cA G 0, 8, .inl (fun _ => 0)), .inl (dk_cA G 0, 8, .inl (fun _ => 0)), .inl (dk_cA G 0, 8, .inl (fun _ => 0))]) rfl ?_
  refine dn_putF C 0 rfl rfl rfl (by decide) dk_ui3 tyX3 tyX3_ok nmX3 dk_wf_X3_24 rfl rfl (tyX3_ok 4 (by decide)) rfl rfl (Nat.le_of_ble_eq_true rfl) dX3_init_41 (n := 44) rfl ?_
  refine dn_eq (es' := [.inr (3, [.ref (dk_ad G p 8), .ref (dk_ad G p 9), .ref (dk_ad G p 10), .ref (dk_ad G p 11), .ref (dk_ad G p 12)]), .inl (dk_cA G 0, 8, .inl (fun _ => 0)), .inl (dk_cA G 0, 8, .inl (fun _ => 0)), .inl (dk_cA G 0, 8, .inl (fun _ => 0)), .inl (dk_cA G 0, 8, .inl (fun _ => 0)), .inl (dk_cA G 0, 8, .inl (fun _ => 0))]) rfl ?_
  refine dn_rows (f := fun _ _ => 0) (σ := fun _ _ _ => 0) hb rfl (fun _ _ _ => rfl) ?_
  have K : dk_C (dn_G3 G p) P (dn_rm 4 5 40) s m args c 5 40 cX3_init 2 RX3 := dn_toC C (dn_DC hb) (Nat.le_refl _) (Nat.le_refl _)
  refine dk_iconst (v := 0) K dX3_init_44 (n := 45) rfl (by decide) ?_
  refine dk_istore_n (i := 1) (L' := [some (dk_r (dn_G3 G p) p 7), some (.int 0)]) K dX3_init_45 (n := 46) rfl rfl (dk_nc_of rfl) (Nat.le_of_ble_eq_true rfl) rfl ?_
  exact cn_loop3 hb C 8 0 _ rfl (fun k hk => absurd hk (Nat.not_lt_zero _)) (fun _ => ⟨rfl, rfl⟩)

set_option maxRecDepth 20000 in
set_option maxHeartbeats 4000000 in
theorem cn_loop2 {G : dk_G} {P : Program} {l : Launch} {e : Env} {s : State} {m : MethodId} {args : Array Value} {below : List Frame} {meth : Method} {c : Code} {p : Nat} (hb : dn_H G p 13 10) (C : dn_C G (dk_ad G p 13) P s m args meth c cX2_init 2 RX2) : ∀ (n i : Nat) (σ : dk_S), i + n = 8 → (∀ k, k < i → σ p 22 k = -1) → σ p 13 9 = 1 → (∀ q k, 13 < q → q < 22 → σ p q k = 0) →
    dk_W (dn_G2 G p) P l e (dn_rm 4 9 72) s m args below meth c 9 72 (MQ below (dn_Q G (dk_ad G p 13) 9 (dn_Po G p 13 10 (dn_F 13 10))) args s 9 72 (dn_A (dk_ad G p 13))) 83 [some (dk_r (dn_G2 G p) p 13), some (.int (nI i))] [] σ := by
  have K : dk_C (dn_G2 G p) P (dn_rm 4 9 72) s m args c 9 72 cX2_init 2 RX2 := dn_toC C (dn_DC hb) (Nat.le_refl _) (Nat.le_refl _)
  have M : ∀ q, 13 ≤ q → q < 23 → (p, q) ∈ dk_dom (dn_G2 G p) := fun q h1 h2 => dn_dom_mem h1 h2
  intro n
  induction n with
  | zero =>
    intro i σ hi h1 h2 h3
    refine dk_iload_n (i := 1) K dX2_init_83 (n := 84) rfl rfl rfl ?_
    refine dk_bipush (v := 8) K dX2_init_84 (n := 86) rfl (by decide) ?_
    refine dk_icmp_ge (t := 104) K dX2_init_86 (n := 89) rfl (by decide) (fun _ => ?_) (fun hc => absurd ?_ hc)
    · refine dk_aload_n (i := 0) K dX2_init_104 (n := 105) rfl rfl rfl ?_
      refine gf_X2_15 K (M 13 (by decide) (by decide)) dX2_init_105 (n := 108) rfl ?_
      refine dk_iconst (v := 0) K dX2_init_108 (n := 109) rfl (by decide) ?_
      refine dk_bipush (v := 12) K dX2_init_109 (n := 111) rfl (by decide) ?_
      refine dk_callNv K [] (cc_X8_put K.D dk_sh15 (M 15 (by decide) (by decide)) (dn_wput (i := 0) (K := fun u => u = dk_row σ p 15 (upd (σ p 15) 0 12)) (by omega) (by decide) rfl)) yy_X8_put dk_wm_X2_43 dX2_init_111 (fun s1 e1 => ?_) rfl ⟨Nat.le_of_ble_eq_true rfl, Nat.le_of_ble_eq_true rfl⟩ rfl (Nat.le_of_ble_eq_true rfl) rfl (n := 114) rfl
      refine dk_aload_n (i := 0) K dX2_init_114 (n := 115) rfl rfl rfl ?_
      refine gf_X2_21 K (M 13 (by decide) (by decide)) dX2_init_115 (n := 118) rfl ?_
      refine dk_iconst (v := 0) K dX2_init_118 (n := 119) rfl (by decide) ?_
      refine dk_bipush (v := 30) K dX2_init_119 (n := 121) rfl (by decide) ?_
      refine dk_callNv K [] (cc_X8_put K.D dk_sh17 (M 17 (by decide) (by decide)) (dn_wput (i := 0) (K := fun u => u = dk_row s1 p 17 (upd (s1 p 17) 0 30)) (by omega) (by decide) rfl)) yy_X8_put dk_wm_X2_43 dX2_init_121 (fun s2 e2 => ?_) rfl ⟨Nat.le_of_ble_eq_true rfl, Nat.le_of_ble_eq_true rfl⟩ rfl (Nat.le_of_ble_eq_true rfl) rfl (n := 124) rfl
      refine dk_aload_n (i := 0) K dX2_init_124 (n := 125) rfl rfl rfl ?_
      refine gf_X2_24 K (M 13 (by decide) (by decide)) dX2_init_125 (n := 128) rfl ?_
      refine dk_iconst (v := 0) K dX2_init_128 (n := 129) rfl (by decide) ?_
      refine dk_bipush (v := 30) K dX2_init_129 (n := 131) rfl (by decide) ?_
      refine dk_callNv K [] (cc_X8_put K.D dk_sh18 (M 18 (by decide) (by decide)) (dn_wput (i := 0) (K := fun u => u = dk_row s2 p 18 (upd (s2 p 18) 0 30)) (by omega) (by decide) rfl)) yy_X8_put dk_wm_X2_43 dX2_init_131 (fun s3 e3 => ?_) rfl ⟨Nat.le_of_ble_eq_true rfl, Nat.le_of_ble_eq_true rfl⟩ rfl (Nat.le_of_ble_eq_true rfl) rfl (n := 134) rfl
      refine dn_retK C hb (Nat.le_refl _) (Nat.le_refl _) dX2_init_134 ⟨s3 p, ⟨fun q k g1 g2 g3 g4 => ?_, fun g _ => absurd g (by decide)⟩, rfl⟩
      have hz : ∀ q, q ≠ 15 → q ≠ 17 → q ≠ 18 → s3 p q = σ p q := fun q n15 n17 n18 => by
        rw [e3, dn_row_q n18, e2, dn_row_q n17, e1, dn_row_q n15]
      have : q = 13 ∨ q = 14 ∨ q = 15 ∨ q = 16 ∨ q = 17 ∨ q = 18 ∨ q = 19 ∨ q = 20 ∨ q = 21 ∨ q = 22 := by omega
      rcases this with rfl | rfl | rfl | rfl | rfl | rfl | rfl | rfl | rfl | rfl
      · rw [hz 13 (by decide) (by decide) (by decide)]
        have hk : k = 9 := by
          rw [show dq_hi 13 = 10 from rfl] at g4
          rw [show dq_lo 13 = 9 from rfl] at g3
          omega
        rw [hk]; exact h2
      · rw [hz 14 (by decide) (by decide) (by decide)]; exact h3 14 k (by decide) (by decide)
      · show s3 p 15 k = if k = 0 then 12 else 0
        rw [e3, dn_row_q (by decide), e2, dn_row_q (by decide), e1]
        by_cases hk : k = 0
        · rw [if_pos hk, hk, dn_row_same]
        · rw [if_neg hk, dn_row_k hk]; exact h3 15 k (by decide) (by decide)
      · rw [hz 16 (by decide) (by decide) (by decide)]; exact h3 16 k (by decide) (by decide)
      · show s3 p 17 k = if k = 0 then 30 else 0
        rw [e3, dn_row_q (by decide), e2]
        by_cases hk : k = 0
        · rw [if_pos hk, hk, dn_row_same]
        · rw [if_neg hk, dn_row_k hk, e1, dn_row_q (by decide)]; exact h3 17 k (by decide) (by decide)
      · show s3 p 18 k = if k = 0 then 30 else 0
        rw [e3]
        by_cases hk : k = 0
        · rw [if_pos hk, hk, dn_row_same]
        · rw [if_neg hk, dn_row_k hk, e2, dn_row_q (by decide), e1, dn_row_q (by decide)]; exact h3 18 k (by decide) (by decide)
      · rw [hz 19 (by decide) (by decide) (by decide)]; exact h3 19 k (by decide) (by decide)
      · rw [hz 20 (by decide) (by decide) (by decide)]; exact h3 20 k (by decide) (by decide)
      · rw [hz 21 (by decide) (by decide) (by decide)]; exact h3 21 k (by decide) (by decide)
      · rw [hz 22 (by decide) (by decide) (by decide)]
        exact h1 k (by rw [show dq_hi 22 = 8 from rfl] at g4; omega)
    · rw [show i = 8 by omega]; decide
  | succ n ih =>
    intro i σ hi h1 h2 h3
    refine dk_iload_n (i := 1) K dX2_init_83 (n := 84) rfl rfl rfl ?_
    refine dk_bipush (v := 8) K dX2_init_84 (n := 86) rfl (by decide) ?_
    refine dk_icmp_ge (t := 104) K dX2_init_86 (n := 89) rfl (by decide) (fun hc => absurd hc ?_) (fun _ => ?_)
    · rw [Int32.not_le]; exact nI_lt (b := 8) (by omega) (by decide)
    · refine dk_aload_n (i := 0) K dX2_init_89 (n := 90) rfl rfl rfl ?_
      refine gf_X2_36 K (M 13 (by decide) (by decide)) dX2_init_90 (n := 93) rfl ?_
      refine dk_iload_n (i := 1) K dX2_init_93 (n := 94) rfl rfl rfl ?_
      refine dk_iconst (v := -1) K dX2_init_94 (n := 95) rfl (by decide) ?_
      refine dk_callNv K [] (cc_X8_put K.D dk_sh22 (M 22 (by decide) (by decide)) (dn_wput (i := i) (K := fun u => u = dk_row σ p 22 (upd (σ p 22) i (-1))) (by omega) (by decide) rfl)) yy_X8_put dk_wm_X2_43 dX2_init_95 (fun s1 e1 => ?_) rfl ⟨Nat.le_of_ble_eq_true rfl, Nat.le_of_ble_eq_true rfl⟩ rfl (Nat.le_of_ble_eq_true rfl) rfl (n := 98) rfl
      refine dk_iinc (i := 1) (v := nI (i + 1)) (L' := [some (dk_r (dn_G2 G p) p 13), some (.int (nI (i + 1)))]) K dX2_init_98 (n := 101) rfl rfl (nI_1 i) (dk_nc_of rfl) (Nat.le_of_ble_eq_true rfl) rfl ?_
      refine dk_goto (t := 83) K dX2_init_101 (by decide) ?_
      refine ih (i + 1) _ (by omega) (fun k hk => ?_) (by rw [e1, dn_row_q (by decide)]; exact h2) (fun q k g1 g2 => by rw [e1, dn_row_q (by omega)]; exact h3 q k g1 g2)
      rw [e1]
      by_cases hki : k = i
      · subst hki; exact dn_row_same
      · rw [dn_row_k hki]; exact h1 k (by omega)

set_option maxRecDepth 20000 in
set_option maxHeartbeats 4000000 in
theorem cn_X2_init {G : dk_G} {l : Launch} {p : Nat} (hb : dn_H G p 13 10) : dn_M G l 4 yX2_init cX2_init 2 (dk_ad G p 13) 2 [.null, .null, .null, .null, .null, .null, .null, .null, .null, .int 0] 9 72 (dn_Po G p 13 10 (dn_F 13 10)) := by
  refine dn_ofM (by decide) rfl [some (.ref (dk_ad G p 13)), none] (fun q hq => hq) rfl (Nat.le_of_ble_eq_true rfl) (fun P e s m args below meth c C => ?_)
  refine dn_aload_n (i := 0) C dX2_init_0 (n := 1) rfl rfl rfl ?_
  refine dn_obj C dk_wo_X2_3 dk_woi dk_woc rfl (by decide) dX2_init_1 (n := 4) rfl ?_
  refine dn_aload_n (i := 0) C dX2_init_4 (n := 5) rfl rfl rfl ?_
  refine dn_bipush (v := 8) C dX2_init_5 (n := 7) rfl (by decide) ?_
  refine dn_newa C 0 (N := 8) (a := dk_ad G p 14) (ty := .int) rfl rfl rfl dk_wa_int (by decide) rfl (by decide) ⟨by decide, by decide⟩ dX2_init_7 (n := 9) rfl rfl (hb 14 (by decide) (by decide)) ?_
  refine dn_eq (es' := [.inr (2, [.null, .null, .null, .null, .null, .null, .null, .null, .null, .int 0]), .inl (dk_cA G 0, 8, .inl (fun _ => 0))]) rfl ?_
  refine dn_putF C 0 rfl rfl rfl (by decide) dk_ui2 tyX2 tyX2_ok nmX2 dk_wf_X2_9 rfl rfl (tyX2_ok 0 (by decide)) rfl rfl (Nat.le_of_ble_eq_true rfl) dX2_init_9 (n := 12) rfl ?_
  refine dn_eq (es' := [.inr (2, [.ref (dk_ad G p 14), .null, .null, .null, .null, .null, .null, .null, .null, .int 0]), .inl (dk_cA G 0, 8, .inl (fun _ => 0))]) rfl ?_
  refine dn_aload_n (i := 0) C dX2_init_12 (n := 13) rfl rfl rfl ?_
  refine dn_bipush (v := 8) C dX2_init_13 (n := 15) rfl (by decide) ?_
  refine dn_newa C 0 (N := 8) (a := dk_ad G p 15) (ty := .int) rfl rfl rfl dk_wa_int (by decide) rfl (by decide) ⟨by decide, by decide⟩ dX2_init_15 (n := 17) rfl rfl (hb 15 (by decide) (by decide)) ?_
  refine dn_eq (es' := [.inr (2, [.ref (dk_ad G p 14), .null, .null, .null, .null, .null, .null, .null, .null, .int 0]), .inl (dk_cA G 0, 8, .inl (fun _ => 0)), .inl (dk_cA G 0, 8, .inl (fun _ => 0))]) rfl ?_
  refine dn_putF C 0 rfl rfl rfl (by decide) dk_ui2 tyX2 tyX2_ok nmX2 dk_wf_X2_15 rfl rfl (tyX2_ok 1 (by decide)) rfl rfl (Nat.le_of_ble_eq_true rfl) dX2_init_17 (n := 20) rfl ?_
  refine dn_eq (es' := [.inr (2, [.ref (dk_ad G p 14), .ref (dk_ad G p 15), .null, .null, .null, .null, .null, .null, .null, .int 0]), .inl (dk_cA G 0, 8, .inl (fun _ => 0)), .inl (dk_cA G 0, 8, .inl (fun _ => 0))]) rfl ?_
  refine dn_aload_n (i := 0) C dX2_init_20 (n := 21) rfl rfl rfl ?_
  refine dn_bipush (v := 8) C dX2_init_21 (n := 23) rfl (by decide) ?_
  refine dn_newa C 0 (N := 8) (a := dk_ad G p 16) (ty := .int) rfl rfl rfl dk_wa_int (by decide) rfl (by decide) ⟨by decide, by decide⟩ dX2_init_23 (n := 25) rfl rfl (hb 16 (by decide) (by decide)) ?_
  refine dn_eq (es' := [.inr (2, [.ref (dk_ad G p 14), .ref (dk_ad G p 15), .null, .null, .null, .null, .null, .null, .null, .int 0]), .inl (dk_cA G 0, 8, .inl (fun _ => 0)), .inl (dk_cA G 0, 8, .inl (fun _ => 0)), .inl (dk_cA G 0, 8, .inl (fun _ => 0))]) rfl ?_
  refine dn_putF C 0 rfl rfl rfl (by decide) dk_ui2 tyX2 tyX2_ok nmX2 dk_wf_X2_18 rfl rfl (tyX2_ok 2 (by decide)) rfl rfl (Nat.le_of_ble_eq_true rfl) dX2_init_25 (n := 28) rfl ?_
  refine dn_eq (es' := [.inr (2, [.ref (dk_ad G p 14), .ref (dk_ad G p 15), .ref (dk_ad G p 16), .null, .null, .null, .null, .null, .null, .int 0]), .inl (dk_cA G 0, 8, .inl (fun _ => 0)), .inl (dk_cA G 0, 8, .inl (fun _ => 0)), .inl (dk_cA G 0, 8, .inl (fun _ => 0))]) rfl ?_
  refine dn_aload_n (i := 0) C dX2_init_28 (n := 29) rfl rfl rfl ?_
  refine dn_bipush (v := 8) C dX2_init_29 (n := 31) rfl (by decide) ?_
  refine dn_newa C 0 (N := 8) (a := dk_ad G p 17) (ty := .int) rfl rfl rfl dk_wa_int (by decide) rfl (by decide) ⟨by decide, by decide⟩ dX2_init_31 (n := 33) rfl rfl (hb 17 (by decide) (by decide)) ?_
  refine dn_eq (es' := [.inr (2, [.ref (dk_ad G p 14), .ref (dk_ad G p 15), .ref (dk_ad G p 16), .null, .null, .null, .null, .null, .null, .int 0]), .inl (dk_cA G 0, 8, .inl (fun _ => 0)), .inl (dk_cA G 0, 8, .inl (fun _ => 0)), .inl (dk_cA G 0, 8, .inl (fun _ => 0)), .inl (dk_cA G 0, 8, .inl (fun _ => 0))]) rfl ?_
  refine dn_putF C 0 rfl rfl rfl (by decide) dk_ui2 tyX2 tyX2_ok nmX2 dk_wf_X2_21 rfl rfl (tyX2_ok 3 (by decide)) rfl rfl (Nat.le_of_ble_eq_true rfl) dX2_init_33 (n := 36) rfl ?_
  refine dn_eq (es' := [.inr (2, [.ref (dk_ad G p 14), .ref (dk_ad G p 15), .ref (dk_ad G p 16), .ref (dk_ad G p 17), .null, .null, .null, .null, .null, .int 0]), .inl (dk_cA G 0, 8, .inl (fun _ => 0)), .inl (dk_cA G 0, 8, .inl (fun _ => 0)), .inl (dk_cA G 0, 8, .inl (fun _ => 0)), .inl (dk_cA G 0, 8, .inl (fun _ => 0))]) rfl ?_
  refine dn_aload_n (i := 0) C dX2_init_36 (n := 37) rfl rfl rfl ?_
  refine dn_bipush (v := 8) C dX2_init_37 (n := 39) rfl (by decide) ?_
  refine dn_newa C 0 (N := 8) (a := dk_ad G p 18) (ty := .int) rfl rfl rfl dk_wa_int (by decide) rfl (by decide) ⟨by decide, by decide⟩ dX2_init_39 (n := 41) rfl rfl (hb 18 (by decide) (by decide)) ?_
  refine dn_eq (es' := [.inr (2, [.ref (dk_ad G p 14), .ref (dk_ad G p 15), .ref (dk_ad G p 16), .ref (dk_ad G p 17), .null, .null, .null, .null, .null, .int 0]), .inl (dk_cA G 0, 8, .inl (fun _ => 0)), .inl (dk_cA G 0, 8, .inl (fun _ => 0)), .inl (dk_cA G 0, 8, .inl (fun _ => 0)), .inl (dk_cA G 0, 8, .inl (fun _ => 0)), .inl (dk_cA G 0, 8, .inl (fun _ => 0))]) rfl ?_
  refine dn_putF C 0 rfl rfl rfl (by decide) dk_ui2 tyX2 tyX2_ok nmX2 dk_wf_X2_24 rfl rfl (tyX2_ok 4 (by decide)) rfl rfl (Nat.le_of_ble_eq_true rfl) dX2_init_41 (n := 44) rfl ?_
  refine dn_eq (es' := [.inr (2, [.ref (dk_ad G p 14), .ref (dk_ad G p 15), .ref (dk_ad G p 16), .ref (dk_ad G p 17), .ref (dk_ad G p 18), .null, .null, .null, .null, .int 0]), .inl (dk_cA G 0, 8, .inl (fun _ => 0)), .inl (dk_cA G 0, 8, .inl (fun _ => 0)), .inl (dk_cA G 0, 8, .inl (fun _ => 0)), .inl (dk_cA G 0, 8, .inl (fun _ => 0)), .inl (dk_cA G 0, 8, .inl (fun _ => 0))]) rfl ?_
  refine dn_aload_n (i := 0) C dX2_init_44 (n := 45) rfl rfl rfl ?_
  refine dn_bipush (v := 8) C dX2_init_45 (n := 47) rfl (by decide) ?_
  refine dn_newa C 0 (N := 8) (a := dk_ad G p 19) (ty := .int) rfl rfl rfl dk_wa_int (by decide) rfl (by decide) ⟨by decide, by decide⟩ dX2_init_47 (n := 49) rfl rfl (hb 19 (by decide) (by decide)) ?_
  refine dn_eq (es' := [.inr (2, [.ref (dk_ad G p 14), .ref (dk_ad G p 15), .ref (dk_ad G p 16), .ref (dk_ad G p 17), .ref (dk_ad G p 18), .null, .null, .null, .null, .int 0]), .inl (dk_cA G 0, 8, .inl (fun _ => 0)), .inl (dk_cA G 0, 8, .inl (fun _ => 0)), .inl (dk_cA G 0, 8, .inl (fun _ => 0)), .inl (dk_cA G 0, 8, .inl (fun _ => 0)), .inl (dk_cA G 0, 8, .inl (fun _ => 0)), .inl (dk_cA G 0, 8, .inl (fun _ => 0))]) rfl ?_
  refine dn_putF C 0 rfl rfl rfl (by decide) dk_ui2 tyX2 tyX2_ok nmX2 dk_wf_X2_27 rfl rfl (tyX2_ok 5 (by decide)) rfl rfl (Nat.le_of_ble_eq_true rfl) dX2_init_49 (n := 52) rfl ?_
  refine dn_eq (es' := [.inr (2, [.ref (dk_ad G p 14), .ref (dk_ad G p 15), .ref (dk_ad G p 16), .ref (dk_ad G p 17), .ref (dk_ad G p 18), .ref (dk_ad G p 19), .null, .null, .null, .int 0]), .inl (dk_cA G 0, 8, .inl (fun _ => 0)), .inl (dk_cA G 0, 8, .inl (fun _ => 0)), .inl (dk_cA G 0, 8, .inl (fun _ => 0)), .inl (dk_cA G 0, 8, .inl (fun _ => 0)), .inl (dk_cA G 0, 8, .inl (fun _ => 0)), .inl (dk_cA G 0, 8, .inl (fun _ => 0))]) rfl ?_
  refine dn_aload_n (i := 0) C dX2_init_52 (n := 53) rfl rfl rfl ?_
  refine dn_bipush (v := 8) C dX2_init_53 (n := 55) rfl (by decide) ?_
  refine dn_newa C 0 (N := 8) (a := dk_ad G p 20) (ty := .int) rfl rfl rfl dk_wa_int (by decide) rfl (by decide) ⟨by decide, by decide⟩ dX2_init_55 (n := 57) rfl rfl (hb 20 (by decide) (by decide)) ?_
  refine dn_eq (es' := [.inr (2, [.ref (dk_ad G p 14), .ref (dk_ad G p 15), .ref (dk_ad G p 16), .ref (dk_ad G p 17), .ref (dk_ad G p 18), .ref (dk_ad G p 19), .null, .null, .null, .int 0]), .inl (dk_cA G 0, 8, .inl (fun _ => 0)), .inl (dk_cA G 0, 8, .inl (fun _ => 0)), .inl (dk_cA G 0, 8, .inl (fun _ => 0)), .inl (dk_cA G 0, 8, .inl (fun _ => 0)), .inl (dk_cA G 0, 8, .inl (fun _ => 0)), .inl (dk_cA G 0, 8, .inl (fun _ => 0)), .inl (dk_cA G 0, 8, .inl (fun _ => 0))]) rfl ?_
  refine dn_putF C 0 rfl rfl rfl (by decide) dk_ui2 tyX2 tyX2_ok nmX2 dk_wf_X2_30 rfl rfl (tyX2_ok 6 (by decide)) rfl rfl (Nat.le_of_ble_eq_true rfl) dX2_init_57 (n := 60) rfl ?_
  refine dn_eq (es' := [.inr (2, [.ref (dk_ad G p 14), .ref (dk_ad G p 15), .ref (dk_ad G p 16), .ref (dk_ad G p 17), .ref (dk_ad G p 18), .ref (dk_ad G p 19), .ref (dk_ad G p 20), .null, .null, .int 0]), .inl (dk_cA G 0, 8, .inl (fun _ => 0)), .inl (dk_cA G 0, 8, .inl (fun _ => 0)), .inl (dk_cA G 0, 8, .inl (fun _ => 0)), .inl (dk_cA G 0, 8, .inl (fun _ => 0)), .inl (dk_cA G 0, 8, .inl (fun _ => 0)), .inl (dk_cA G 0, 8, .inl (fun _ => 0)), .inl (dk_cA G 0, 8, .inl (fun _ => 0))]) rfl ?_
  refine dn_aload_n (i := 0) C dX2_init_60 (n := 61) rfl rfl rfl ?_
  refine dn_bipush (v := 8) C dX2_init_61 (n := 63) rfl (by decide) ?_
  refine dn_newa C 0 (N := 8) (a := dk_ad G p 21) (ty := .int) rfl rfl rfl dk_wa_int (by decide) rfl (by decide) ⟨by decide, by decide⟩ dX2_init_63 (n := 65) rfl rfl (hb 21 (by decide) (by decide)) ?_
  refine dn_eq (es' := [.inr (2, [.ref (dk_ad G p 14), .ref (dk_ad G p 15), .ref (dk_ad G p 16), .ref (dk_ad G p 17), .ref (dk_ad G p 18), .ref (dk_ad G p 19), .ref (dk_ad G p 20), .null, .null, .int 0]), .inl (dk_cA G 0, 8, .inl (fun _ => 0)), .inl (dk_cA G 0, 8, .inl (fun _ => 0)), .inl (dk_cA G 0, 8, .inl (fun _ => 0)), .inl (dk_cA G 0, 8, .inl (fun _ => 0)), .inl (dk_cA G 0, 8, .inl (fun _ => 0)), .inl (dk_cA G 0, 8, .inl (fun _ => 0)), .inl (dk_cA G 0, 8, .inl (fun _ => 0)), .inl (dk_cA G 0, 8, .inl (fun _ => 0))]) rfl ?_
  refine dn_putF C 0 rfl rfl rfl (by decide) dk_ui2 tyX2 tyX2_ok nmX2 dk_wf_X2_33 rfl rfl (tyX2_ok 7 (by decide)) rfl rfl (Nat.le_of_ble_eq_true rfl) dX2_init_65 (n := 68) rfl ?_
  refine dn_eq (es' := [.inr (2, [.ref (dk_ad G p 14), .ref (dk_ad G p 15), .ref (dk_ad G p 16), .ref (dk_ad G p 17), .ref (dk_ad G p 18), .ref (dk_ad G p 19), .ref (dk_ad G p 20), .ref (dk_ad G p 21), .null, .int 0]), .inl (dk_cA G 0, 8, .inl (fun _ => 0)), .inl (dk_cA G 0, 8, .inl (fun _ => 0)), .inl (dk_cA G 0, 8, .inl (fun _ => 0)), .inl (dk_cA G 0, 8, .inl (fun _ => 0)), .inl (dk_cA G 0, 8, .inl (fun _ => 0)), .inl (dk_cA G 0, 8, .inl (fun _ => 0)), .inl (dk_cA G 0, 8, .inl (fun _ => 0)), .inl (dk_cA G 0, 8, .inl (fun _ => 0))]) rfl ?_
  refine dn_aload_n (i := 0) C dX2_init_68 (n := 69) rfl rfl rfl ?_
  refine dn_bipush (v := 8) C dX2_init_69 (n := 71) rfl (by decide) ?_
  refine dn_newa C 0 (N := 8) (a := dk_ad G p 22) (ty := .int) rfl rfl rfl dk_wa_int (by decide) rfl (by decide) ⟨by decide, by decide⟩ dX2_init_71 (n := 73) rfl rfl (hb 22 (by decide) (by decide)) ?_
  refine dn_eq (es' := [.inr (2, [.ref (dk_ad G p 14), .ref (dk_ad G p 15), .ref (dk_ad G p 16), .ref (dk_ad G p 17), .ref (dk_ad G p 18), .ref (dk_ad G p 19), .ref (dk_ad G p 20), .ref (dk_ad G p 21), .null, .int 0]), .inl (dk_cA G 0, 8, .inl (fun _ => 0)), .inl (dk_cA G 0, 8, .inl (fun _ => 0)), .inl (dk_cA G 0, 8, .inl (fun _ => 0)), .inl (dk_cA G 0, 8, .inl (fun _ => 0)), .inl (dk_cA G 0, 8, .inl (fun _ => 0)), .inl (dk_cA G 0, 8, .inl (fun _ => 0)), .inl (dk_cA G 0, 8, .inl (fun _ => 0)), .inl (dk_cA G 0, 8, .inl (fun _ => 0)), .inl (dk_cA G 0, 8, .inl (fun _ => 0))]) rfl ?_
  refine dn_putF C 0 rfl rfl rfl (by decide) dk_ui2 tyX2 tyX2_ok nmX2 dk_wf_X2_36 rfl rfl (tyX2_ok 8 (by decide)) rfl rfl (Nat.le_of_ble_eq_true rfl) dX2_init_73 (n := 76) rfl ?_
  refine dn_eq (es' := [.inr (2, [.ref (dk_ad G p 14), .ref (dk_ad G p 15), .ref (dk_ad G p 16), .ref (dk_ad G p 17), .ref (dk_ad G p 18), .ref (dk_ad G p 19), .ref (dk_ad G p 20), .ref (dk_ad G p 21), .ref (dk_ad G p 22), .int 0]), .inl (dk_cA G 0, 8, .inl (fun _ => 0)), .inl (dk_cA G 0, 8, .inl (fun _ => 0)), .inl (dk_cA G 0, 8, .inl (fun _ => 0)), .inl (dk_cA G 0, 8, .inl (fun _ => 0)), .inl (dk_cA G 0, 8, .inl (fun _ => 0)), .inl (dk_cA G 0, 8, .inl (fun _ => 0)), .inl (dk_cA G 0, 8, .inl (fun _ => 0)), .inl (dk_cA G 0, 8, .inl (fun _ => 0)), .inl (dk_cA G 0, 8, .inl (fun _ => 0))]) rfl ?_
  refine dn_aload_n (i := 0) C dX2_init_76 (n := 77) rfl rfl rfl ?_
  refine dn_iconst (v := 1) C dX2_init_77 (n := 78) rfl (by decide) ?_
  refine dn_put C 0 rfl rfl rfl (by decide) dk_ui2 tyX2 tyX2_ok nmX2 dk_wf_X2_39 rfl (tyX2_ok 9 (by decide)) rfl rfl (Nat.le_of_ble_eq_true rfl) dX2_init_78 (n := 81) rfl ?_
  refine dn_eq (es' := [.inr (2, [.ref (dk_ad G p 14), .ref (dk_ad G p 15), .ref (dk_ad G p 16), .ref (dk_ad G p 17), .ref (dk_ad G p 18), .ref (dk_ad G p 19), .ref (dk_ad G p 20), .ref (dk_ad G p 21), .ref (dk_ad G p 22), .int 1]), .inl (dk_cA G 0, 8, .inl (fun _ => 0)), .inl (dk_cA G 0, 8, .inl (fun _ => 0)), .inl (dk_cA G 0, 8, .inl (fun _ => 0)), .inl (dk_cA G 0, 8, .inl (fun _ => 0)), .inl (dk_cA G 0, 8, .inl (fun _ => 0)), .inl (dk_cA G 0, 8, .inl (fun _ => 0)), .inl (dk_cA G 0, 8, .inl (fun _ => 0)), .inl (dk_cA G 0, 8, .inl (fun _ => 0)), .inl (dk_cA G 0, 8, .inl (fun _ => 0))]) rfl ?_
  refine dn_rows (f := fun q _ => if q = 13 then 1 else 0) (σ := fun _ q _ => if q = 13 then 1 else 0) hb rfl (fun _ _ _ => rfl) ?_
  have K : dk_C (dn_G2 G p) P (dn_rm 4 9 72) s m args c 9 72 cX2_init 2 RX2 := dn_toC C (dn_DC hb) (Nat.le_refl _) (Nat.le_refl _)
  refine dk_iconst (v := 0) K dX2_init_81 (n := 82) rfl (by decide) ?_
  refine dk_istore_n (i := 1) (L' := [some (dk_r (dn_G2 G p) p 13), some (.int 0)]) K dX2_init_82 (n := 83) rfl rfl (dk_nc_of rfl) (Nat.le_of_ble_eq_true rfl) rfl ?_
  exact cn_loop2 hb C 8 0 _ rfl (fun k hk => absurd hk (Nat.not_lt_zero _)) rfl (fun q k g1 _ => if_neg (by omega))

