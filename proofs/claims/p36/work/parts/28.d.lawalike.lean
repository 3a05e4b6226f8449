/-! areAlike: two keeps that are known alike -/
section LAA
variable {G1 G2 : dk_G} {b0 : Nat} {p : Program} {l : Launch} {e : Env} {s : State} {m : MethodId} {args : Array Value} {below : List Frame} {meth : Method} {c : Code} {Q : State → Prop} {σ1 σ2 : dk_S}
variable {nn mm r1 r2 b : Nat} {zs zp : Int32} {T W0 A1 A2 : dq_W} {D : Nat → Nat × Nat × Nat} {B : Nat → Int32}

theorem cc_L_areAlike_86 (C1 : lz_C G1 (l2_F G1 G2) b0 p s m args c cL_areAlike 5 RL) (C2 : lz_C G2 (l2_F G1 G2) b0 p s m args c cL_areAlike 5 RL) (hG : l2_G G1 G2) (hl : l.stackTraces = false) (hr : meth.sig.returnType = some .boolean) (hlk : meth.locks = false) (P : dq_P nn 9 1 mm mm zs T W0 D B zp) (K1 : dq_Kf nn 9 mm r1 zs T W0 A1 D B zp σ1) (K2 : dq_Kf nn 9 mm r2 zs T W0 A2 D B zp σ2) : ∀ d i : Nat, i + d = 9 → lz_W G1 (l2_F G1 G2) b0 p l e (lz_rm 9 1 6) s m args below meth c 0 0 (MQ below (l2_Q G1 G2 (fun v τ1 τ2 => v = some (.int 1) ∧ τ1 = σ1 ∧ τ2 = σ2)) args s 1 6 (l2_F G1 G2)) 86 [some (dk_r G1 0 40), some (dk_r G2 0 40), some (.int (nI b)), some (.int 1), some (.int (nI i))] [] σ1 (dk_wsl G2 σ2) := by
  intro d
  induction d with
  | zero =>
    intro i hi
    have hi : i = 9 := by omega
    subst hi
    refine lz_iload C1 dL_areAlike_86 (n := 88) rfl (i := 4) rfl ?_
    refine lz_bipush (v := 9) C1 dL_areAlike_88 (n := 90) rfl (by decide) ?_
    refine lz_icmp_ge (t := 124) C1 dL_areAlike_90 (n := 93) rfl (by decide) (fun _ => ?_) (fun g => absurd (show (9 : Int32) ≤ nI 9 from by decide) g)
    refine lz_iload_n (i := 3) C1 dL_areAlike_124 (n := 125) rfl rfl rfl ?_
    exact l2_iret C1 (Nat.le_of_ble_eq_true rfl) (Nat.le_of_ble_eq_true rfl) hr hlk dk_nz1 dL_areAlike_125 ⟨rfl, rfl, rfl⟩
  | succ d ih =>
    intro i hi
    have hj : i < 9 := by omega
    refine lz_iload C1 dL_areAlike_86 (n := 88) rfl (i := 4) rfl ?_
    refine lz_bipush (v := 9) C1 dL_areAlike_88 (n := 90) rfl (by decide) ?_
    refine lz_icmp_ge (t := 124) C1 dL_areAlike_90 (n := 93) rfl (by decide) (fun g => absurd g (nI_ge (b := 9) hj (by omega))) (fun _ => ?_)
    refine lz_iload_n (i := 3) C1 dL_areAlike_93 (n := 94) rfl rfl rfl ?_
    refine lz_if_eq (t := 116) C1 dL_areAlike_94 (n := 97) rfl (by decide) (fun g => absurd g (show ¬ (1 : Int32) = 0 from by decide)) (fun _ => ?_)
    refine lz_aload_n (i := 0) C1 dL_areAlike_97 (n := 98) rfl rfl rfl ?_
    refine lz_iload C1 dL_areAlike_98 (n := 100) rfl (i := 4) rfl ?_
    refine lz_qWhere C1 (hG.2.1 _) hG.2.2.2.2.1 hl hj P K1 dk_wm_L_105 ⟨(Nat.le_of_ble_eq_true rfl), (Nat.le_of_ble_eq_true rfl)⟩ ⟨(Nat.le_of_ble_eq_true rfl), (Nat.le_of_ble_eq_true rfl)⟩ (Nat.le_of_ble_eq_true rfl) rfl dL_areAlike_100 (n := 103) rfl ?_
    refine lz_aload_n (i := 1) C1 dL_areAlike_103 (n := 104) rfl rfl rfl ?_
    refine lz_iload C1 dL_areAlike_104 (n := 106) rfl (i := 4) rfl ?_
    refine lz_swap hG (lz_qWhere C2 (hG.2.2.1 _) hG.2.2.2.2.2 hl hj P K2 dk_wm_L_105 ⟨(Nat.le_of_ble_eq_true rfl), (Nat.le_of_ble_eq_true rfl)⟩ ⟨(Nat.le_of_ble_eq_true rfl), (Nat.le_of_ble_eq_true rfl)⟩ (Nat.le_of_ble_eq_true rfl) rfl dL_areAlike_106 (n := 109) rfl (lz_paws hG ?_))
    refine lz_icmp_ne (t := 116) C1 dL_areAlike_109 (n := 112) rfl (by decide) (fun g => absurd g (fun q => q rfl)) (fun _ => ?_)
    refine lz_iconst (v := 1) C1 dL_areAlike_112 (n := 113) rfl (by decide) ?_
    refine lz_goto (t := 117) C1 dL_areAlike_113 (by decide) ?_
    refine lz_istore_n (i := 3) (L' := [some (dk_r G1 0 40), some (dk_r G2 0 40), some (.int (nI b)), some (.int 1), some (.int (nI i))]) C1 dL_areAlike_117 (n := 118) rfl rfl (dk_nc_of rfl) (Nat.le_of_ble_eq_true rfl) rfl ?_
    refine lz_iinc (i := 4) (v := (nI (i + 1))) (L' := [some (dk_r G1 0 40), some (dk_r G2 0 40), some (.int (nI b)), some (.int 1), some (.int (nI (i + 1)))]) C1 dL_areAlike_118 (n := 121) rfl rfl (nI_1 i) (dk_nc_of rfl) (Nat.le_of_ble_eq_true rfl) rfl ?_
    refine lz_goto (t := 86) C1 dL_areAlike_121 (by decide) ?_
    exact ih (i + 1) (by omega)
theorem cc_L_areAlike_31 (C1 : lz_C G1 (l2_F G1 G2) b0 p s m args c cL_areAlike 5 RL) (C2 : lz_C G2 (l2_F G1 G2) b0 p s m args c cL_areAlike 5 RL) (hG : l2_G G1 G2) (hl : l.stackTraces = false) (hr : meth.sig.returnType = some .boolean) (hlk : meth.locks = false) (hb : nn = b + 1) (P : dq_P nn 9 1 mm mm zs T W0 D B zp) (K1 : dq_Kf nn 9 mm r1 zs T W0 A1 D B zp σ1) (K2 : dq_Kf nn 9 mm r2 zs T W0 A2 D B zp σ2) : ∀ d i : Nat, i + d = b + 1 → lz_W G1 (l2_F G1 G2) b0 p l e (lz_rm 9 1 6) s m args below meth c 0 0 (MQ below (l2_Q G1 G2 (fun v τ1 τ2 => v = some (.int 1) ∧ τ1 = σ1 ∧ τ2 = σ2)) args s 1 6 (l2_F G1 G2)) 31 [some (dk_r G1 0 40), some (dk_r G2 0 40), some (.int (nI b)), some (.int 1), some (.int (nI i))] [] σ1 (dk_wsl G2 σ2) := by
  have n8 := P.1.1.h8
  intro d
  induction d with
  | zero =>
    intro i hi
    refine lz_iload C1 dL_areAlike_31 (n := 33) rfl (i := 4) rfl ?_
    refine lz_iload_n (i := 2) C1 dL_areAlike_33 (n := 34) rfl rfl rfl ?_
    refine lz_icmp_gt (t := 83) C1 dL_areAlike_34 (n := 37) rfl (by decide) (fun _ => ?_) (fun g => absurd (nI_lt (by omega) (by omega)) g)
    refine lz_iconst (v := 0) C1 dL_areAlike_83 (n := 84) rfl (by decide) ?_
    refine lz_istore (i := 4) (L' := [some (dk_r G1 0 40), some (dk_r G2 0 40), some (.int (nI b)), some (.int 1), some (.int 0)]) C1 dL_areAlike_84 (n := 86) rfl (dk_nc_of rfl) (Nat.le_of_ble_eq_true rfl) rfl ?_
    exact cc_L_areAlike_86 C1 C2 hG hl hr hlk P K1 K2 9 0 (by omega)
  | succ d ih =>
    intro i hi
    have hj : i < nn := by omega
    refine lz_iload C1 dL_areAlike_31 (n := 33) rfl (i := 4) rfl ?_
    refine lz_iload_n (i := 2) C1 dL_areAlike_33 (n := 34) rfl rfl rfl ?_
    refine lz_icmp_gt (t := 83) C1 dL_areAlike_34 (n := 37) rfl (by decide) (fun g => absurd g (nI_nlt (by omega) (by omega))) (fun _ => ?_)
    refine lz_iload_n (i := 3) C1 dL_areAlike_37 (n := 38) rfl rfl rfl ?_
    refine lz_if_eq (t := 75) C1 dL_areAlike_38 (n := 41) rfl (by decide) (fun g => absurd g (show ¬ (1 : Int32) = 0 from by decide)) (fun _ => ?_)
    refine lz_aload_n (i := 0) C1 dL_areAlike_41 (n := 42) rfl rfl rfl ?_
    refine lz_iload C1 dL_areAlike_42 (n := 44) rfl (i := 4) rfl ?_
    refine lz_qPlace C1 (hG.2.1 _) hG.2.2.2.2.1 hl hj P K1 dk_wm_L_96 ⟨(Nat.le_of_ble_eq_true rfl), (Nat.le_of_ble_eq_true rfl)⟩ ⟨(Nat.le_of_ble_eq_true rfl), (Nat.le_of_ble_eq_true rfl)⟩ (Nat.le_of_ble_eq_true rfl) rfl dL_areAlike_44 (n := 47) rfl ?_
    refine lz_aload_n (i := 1) C1 dL_areAlike_47 (n := 48) rfl rfl rfl ?_
    refine lz_iload C1 dL_areAlike_48 (n := 50) rfl (i := 4) rfl ?_
    refine lz_swap hG (lz_qPlace C2 (hG.2.2.1 _) hG.2.2.2.2.2 hl hj P K2 dk_wm_L_96 ⟨(Nat.le_of_ble_eq_true rfl), (Nat.le_of_ble_eq_true rfl)⟩ ⟨(Nat.le_of_ble_eq_true rfl), (Nat.le_of_ble_eq_true rfl)⟩ (Nat.le_of_ble_eq_true rfl) rfl dL_areAlike_50 (n := 53) rfl (lz_paws hG ?_))
    refine lz_icmp_ne (t := 75) C1 dL_areAlike_53 (n := 56) rfl (by decide) (fun g => absurd g (fun q => q rfl)) (fun _ => ?_)
    refine lz_aload_n (i := 0) C1 dL_areAlike_56 (n := 57) rfl rfl rfl ?_
    refine lz_iload C1 dL_areAlike_57 (n := 59) rfl (i := 4) rfl ?_
    refine lz_qHealth C1 (hG.2.1 _) hG.2.2.2.2.1 hl hj P K1 dk_wm_L_102 ⟨(Nat.le_of_ble_eq_true rfl), (Nat.le_of_ble_eq_true rfl)⟩ ⟨(Nat.le_of_ble_eq_true rfl), (Nat.le_of_ble_eq_true rfl)⟩ (Nat.le_of_ble_eq_true rfl) rfl dL_areAlike_59 (n := 62) rfl ?_
    refine lz_aload_n (i := 1) C1 dL_areAlike_62 (n := 63) rfl rfl rfl ?_
    refine lz_iload C1 dL_areAlike_63 (n := 65) rfl (i := 4) rfl ?_
    refine lz_swap hG (lz_qHealth C2 (hG.2.2.1 _) hG.2.2.2.2.2 hl hj P K2 dk_wm_L_102 ⟨(Nat.le_of_ble_eq_true rfl), (Nat.le_of_ble_eq_true rfl)⟩ ⟨(Nat.le_of_ble_eq_true rfl), (Nat.le_of_ble_eq_true rfl)⟩ (Nat.le_of_ble_eq_true rfl) rfl dL_areAlike_65 (n := 68) rfl (lz_paws hG ?_))
    refine lz_icmp_ne (t := 75) C1 dL_areAlike_68 (n := 71) rfl (by decide) (fun g => absurd g (fun q => q rfl)) (fun _ => ?_)
    refine lz_iconst (v := 1) C1 dL_areAlike_71 (n := 72) rfl (by decide) ?_
    refine lz_goto (t := 76) C1 dL_areAlike_72 (by decide) ?_
    refine lz_istore_n (i := 3) (L' := [some (dk_r G1 0 40), some (dk_r G2 0 40), some (.int (nI b)), some (.int 1), some (.int (nI i))]) C1 dL_areAlike_76 (n := 77) rfl rfl (dk_nc_of rfl) (Nat.le_of_ble_eq_true rfl) rfl ?_
    refine lz_iinc (i := 4) (v := (nI (i + 1))) (L' := [some (dk_r G1 0 40), some (dk_r G2 0 40), some (.int (nI b)), some (.int 1), some (.int (nI (i + 1)))]) C1 dL_areAlike_77 (n := 80) rfl rfl (nI_1 i) (dk_nc_of rfl) (Nat.le_of_ble_eq_true rfl) rfl ?_
    refine lz_goto (t := 31) C1 dL_areAlike_80 (by decide) ?_
    exact ih (i + 1) (by omega)
end LAA
theorem cc_L_areAlike {G1 G2 : dk_G} {l : Launch} {σ1 σ2 : dk_S} {nn mm r1 r2 b : Nat} {zs zp : Int32} {T W0 A1 A2 : dq_W} {D : Nat → Nat × Nat × Nat} {B : Nat → Int32} (hG : l2_G G1 G2) (hl : l.stackTraces = false) (hb : nn = b + 1) (P : dq_P nn 9 1 mm mm zs T W0 D B zp) (K1 : dq_Kf nn 9 mm r1 zs T W0 A1 D B zp σ1) (K2 : dq_Kf nn 9 mm r2 zs T W0 A2 D B zp σ2) : l2_M G1 G2 l 9 1 6 yL_areAlike cL_areAlike 5 (some .boolean) [dk_r G1 0 40, dk_r G2 0 40, .int (nI b)] σ1 σ2 (fun v τ1 τ2 => v = some (.int 1) ∧ τ1 = σ1 ∧ τ2 = σ2) := by
  refine l2_of hG (by decide) [some (dk_r G1 0 40), some (dk_r G2 0 40), some (.int (nI b)), none, none] (fun q hq => hq) rfl (Nat.le_of_ble_eq_true rfl) (fun p e s m args bel meth c C1 C2 hr hlk => ?_)
  refine lz_aload_n (i := 0) C1 dL_areAlike_0 (n := 1) rfl rfl rfl ?_
  refine lz_qState C1 (hG.2.1 _) hG.2.2.2.2.1 P K1 dk_wm_L_111 ⟨(Nat.le_of_ble_eq_true rfl), (Nat.le_of_ble_eq_true rfl)⟩ ⟨(Nat.le_of_ble_eq_true rfl), (Nat.le_of_ble_eq_true rfl)⟩ (Nat.le_of_ble_eq_true rfl) rfl dL_areAlike_1 (n := 4) rfl ?_
  refine lz_aload_n (i := 1) C1 dL_areAlike_4 (n := 5) rfl rfl rfl ?_
  refine lz_swap hG (lz_qState C2 (hG.2.2.1 _) hG.2.2.2.2.2 P K2 dk_wm_L_111 ⟨(Nat.le_of_ble_eq_true rfl), (Nat.le_of_ble_eq_true rfl)⟩ ⟨(Nat.le_of_ble_eq_true rfl), (Nat.le_of_ble_eq_true rfl)⟩ (Nat.le_of_ble_eq_true rfl) rfl dL_areAlike_5 (n := 8) rfl (lz_paws hG ?_))
  refine lz_icmp_ne (t := 26) C1 dL_areAlike_8 (n := 11) rfl (by decide) (fun g => absurd g (fun q => q rfl)) (fun _ => ?_)
  refine lz_aload_n (i := 0) C1 dL_areAlike_11 (n := 12) rfl rfl rfl ?_
  refine lz_qTick C1 (hG.2.1 _) hG.2.2.2.2.1 K1 dk_wm_L_115 ⟨(Nat.le_of_ble_eq_true rfl), (Nat.le_of_ble_eq_true rfl)⟩ ⟨(Nat.le_of_ble_eq_true rfl), (Nat.le_of_ble_eq_true rfl)⟩ (Nat.le_of_ble_eq_true rfl) rfl dL_areAlike_12 (n := 15) rfl ?_
  refine lz_aload_n (i := 1) C1 dL_areAlike_15 (n := 16) rfl rfl rfl ?_
  refine lz_swap hG (lz_qTick C2 (hG.2.2.1 _) hG.2.2.2.2.2 K2 dk_wm_L_115 ⟨(Nat.le_of_ble_eq_true rfl), (Nat.le_of_ble_eq_true rfl)⟩ ⟨(Nat.le_of_ble_eq_true rfl), (Nat.le_of_ble_eq_true rfl)⟩ (Nat.le_of_ble_eq_true rfl) rfl dL_areAlike_16 (n := 19) rfl (lz_paws hG ?_))
  refine lz_icmp_ne (t := 26) C1 dL_areAlike_19 (n := 22) rfl (by decide) (fun g => absurd g (fun q => q rfl)) (fun _ => ?_)
  refine lz_iconst (v := 1) C1 dL_areAlike_22 (n := 23) rfl (by decide) ?_
  refine lz_goto (t := 27) C1 dL_areAlike_23 (by decide) ?_
  refine lz_istore_n (i := 3) (L' := [some (dk_r G1 0 40), some (dk_r G2 0 40), some (.int (nI b)), some (.int 1), none]) C1 dL_areAlike_27 (n := 28) rfl rfl (dk_nc_of rfl) (Nat.le_of_ble_eq_true rfl) rfl ?_
  refine lz_iconst (v := 0) C1 dL_areAlike_28 (n := 29) rfl (by decide) ?_
  refine lz_istore (i := 4) (L' := [some (dk_r G1 0 40), some (dk_r G2 0 40), some (.int (nI b)), some (.int 1), some (.int (nI 0))]) C1 dL_areAlike_29 (n := 31) rfl (dk_nc_of rfl) (Nat.le_of_ble_eq_true rfl) rfl ?_
  exact cc_L_areAlike_31 C1 C2 hG hl hr hlk hb P K1 K2 (b + 1) 0 (by omega)
