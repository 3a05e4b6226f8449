/-! plays: two keeps that are known alike, over the same acts -/
def l2_pK (G1 G2 : dk_G) (nn : Nat) (T W0 : dq_W) : Option Value → dk_S → dk_S → Prop := fun v τ1 τ2 => v = some (.int 1) ∧ ∃ (mm r1 r2 : Nat) (zs zp : Int32) (D : Nat → Nat × Nat × Nat) (B : Nat → Int32) (A1 A2 : dq_W), lq nn mm zs T W0 D B zp ∧ (zs = 111 ∨ zs = 100) ∧ dq_Kf nn 9 mm r1 zs T W0 A1 D B zp τ1 ∧ dq_Kf nn 9 mm r2 zs T W0 A2 D B zp τ2
section LPP
variable {G1 G2 : dk_G} {b0 : Nat} {p : Program} {l : Launch} {e : Env} {s : State} {m : MethodId} {args : Array Value} {below : List Frame} {meth : Method} {c : Code}
variable {nn b f : Nat} {T W0 : dq_W}
theorem cc_L_plays_165 (C1 : lz_C G1 (l2_F G1 G2) b0 p s m args c cL_plays 10 RL) (C2 : lz_C G2 (l2_F G1 G2) b0 p s m args c cL_plays 10 RL) (hG : l2_G G1 G2) (hl : l.stackTraces = false) (hr : meth.sig.returnType = some .boolean) (hlk : meth.locks = false) {cells slots mm r1 r2 : Nat} {zs zp : Int32} {D : Nat → Nat × Nat × Nat} {B : Nat → Int32} {A1 A2 : dq_W} {σ1 σ2 : dk_S} (h : lq nn mm zs T W0 D B zp) (hz : zs = 111 ∨ zs = 100) (K1 : dq_Kf nn 9 mm r1 zs T W0 A1 D B zp σ1) (K2 : dq_Kf nn 9 mm r2 zs T W0 A2 D B zp σ2) (hc : cells ≤ 72) (hs : slots ≤ 432) : lz_W G1 (l2_F G1 G2) b0 p l e (lz_rm 10 73 438) s m args below meth c cells slots (MQ below (l2_Q G1 G2 (l2_pK G1 G2 nn T W0)) args s 73 438 (l2_F G1 G2)) 165 [some (dk_r G1 0 40), some (dk_r G2 0 40), some (.ref (dk_tL G1)), some (.int (nI f)), some (.int (nI b)), some (.int 1), none, none, none, none] [] σ1 (dk_wsl G2 σ2) := by
  refine lz_iload C1 dL_plays_165 (n := 167) rfl (i := 5) rfl ?_
  refine lz_if_eq (t := 181) C1 dL_plays_167 (n := 170) rfl (by decide) (fun g => absurd g (show ¬ (1 : Int32) = 0 from by decide)) (fun _ => ?_)
  refine lz_aload_n (i := 0) C1 dL_plays_170 (n := 171) rfl rfl rfl ?_
  refine lz_qSame C1 (hG.2.1 _) hG.2.2.2.2.1 hl h.2.1 h.1 K1 dk_wm_L_134 ⟨(Nat.le_of_ble_eq_true rfl), (Nat.le_of_ble_eq_true rfl)⟩ ⟨by show _ ≤ 73; omega, by show _ ≤ 438; omega⟩ (Nat.le_of_ble_eq_true rfl) rfl dL_plays_171 (n := 174) rfl (fun σ3 r3 A3 K3 => ?_)
  refine lz_if_eq (t := 181) C1 dL_plays_174 (n := 177) rfl (by decide) (fun g => absurd g (show ¬ (1 : Int32) = 0 from by decide)) (fun _ => ?_)
  refine lz_iconst (v := 1) C1 dL_plays_177 (n := 178) rfl (by decide) ?_
  refine lz_goto (t := 182) C1 dL_plays_178 (by decide) ?_
  exact l2_iret C1 (by omega) (by omega) hr hlk dk_nz1 dL_plays_182 ⟨rfl, mm, r3, r2, zs, zp, D, B, A3, A2, h, hz, K3, K2⟩
theorem cc_L_plays_6 (C1 : lz_C G1 (l2_F G1 G2) b0 p s m args c cL_plays 10 RL) (C2 : lz_C G2 (l2_F G1 G2) b0 p s m args c cL_plays 10 RL) (hG : l2_G G1 G2) (hl : l.stackTraces = false) (hr : meth.sig.returnType = some .boolean) (hlk : meth.locks = false) (hN : dk_tN G1 ≤ 260) (hb : nn = b + 1) (hf : f ≤ 100) : ∀ (d k : Nat), k + d = 24 → ∀ (cells slots mm r1 r2 : Nat) (zs zp : Int32) (D : Nat → Nat × Nat × Nat) (B : Nat → Int32) (A1 A2 : dq_W) (σ1 σ2 : dk_S) (h : lq nn mm zs T W0 D B zp) (hz : zs = 111 ∨ zs = 100) (K1 : dq_Kf nn 9 mm r1 zs T W0 A1 D B zp σ1) (K2 : dq_Kf nn 9 mm r2 zs T W0 A2 D B zp σ2) (hm : mm ≤ k) (hc : cells + 3 * d ≤ 72) (hs : slots + 18 * d ≤ 432), lz_W G1 (l2_F G1 G2) b0 p l e (lz_rm 10 73 438) s m args below meth c cells slots (MQ below (l2_Q G1 G2 (l2_pK G1 G2 nn T W0)) args s 73 438 (l2_F G1 G2)) 6 [some (dk_r G1 0 40), some (dk_r G2 0 40), some (.ref (dk_tL G1)), some (.int (nI f)), some (.int (nI b)), some (.int 1), some (.int (nI k)), none, none, none] [] σ1 (dk_wsl G2 σ2) := by
  intro d
  induction d with
  | zero =>
    intro k hk cells slots mm r1 r2 zs zp D B A1 A2 σ1 σ2 h hz K1 K2 hm hc hs
    have hk : k = 24 := by omega
    subst hk
    refine lz_iload C1 dL_plays_6 (n := 8) rfl (i := 6) rfl ?_
    refine lz_bipush (v := 24) C1 dL_plays_8 (n := 10) rfl (by decide) ?_
    refine lz_icmp_ge (t := 165) C1 dL_plays_10 (n := 13) rfl (by decide) (fun _ => ?_) (fun g => absurd (show (24 : Int32) ≤ nI 24 from by decide) g)
    refine lz_sub (L0 := [some (dk_r G1 0 40), some (dk_r G2 0 40), some (.ref (dk_tL G1)), some (.int (nI f)), some (.int (nI b)), some (.int 1), none, none, none, none]) ⟨rfl, ⟨rfl, ⟨rfl, ⟨rfl, ⟨rfl, ⟨rfl, trivial⟩⟩⟩⟩⟩⟩ ?_
    exact cc_L_plays_165 C1 C2 hG hl hr hlk h hz K1 K2 (by omega) (by omega)
  | succ d ih =>
    intro k hk cells slots mm r1 r2 zs zp D B A1 A2 σ1 σ2 h hz K1 K2 hm hc hs
    have n8 := h.1.1.1.h8
    refine lz_iload C1 dL_plays_6 (n := 8) rfl (i := 6) rfl ?_
    refine lz_bipush (v := 24) C1 dL_plays_8 (n := 10) rfl (by decide) ?_
    refine lz_icmp_ge (t := 165) C1 dL_plays_10 (n := 13) rfl (by decide) (fun g => absurd g (nI_ge (b := 24) (by omega) (by omega))) (fun _ => ?_)
    refine lz_iload C1 dL_plays_13 (n := 15) rfl (i := 5) rfl ?_
    refine lz_if_eq (t := 165) C1 dL_plays_15 (n := 18) rfl (by decide) (fun g => absurd g (show ¬ (1 : Int32) = 0 from by decide)) (fun _ => ?_)
    refine lz_aload_n (i := 0) C1 dL_plays_18 (n := 19) rfl rfl rfl ?_
    refine lz_qState C1 (hG.2.1 _) hG.2.2.2.2.1 h.1 K1 dk_wm_L_111 ⟨(Nat.le_of_ble_eq_true rfl), (Nat.le_of_ble_eq_true rfl)⟩ ⟨by show _ ≤ 73; omega, by show _ ≤ 438; omega⟩ (Nat.le_of_ble_eq_true rfl) rfl dL_plays_19 (n := 22) rfl ?_
    rcases hz with rfl | rfl
    · obtain ⟨x, m1, st1, D1, B1, sp1, h1, hm1, ⟨τ, τ1, t1, t2, t3, t4, t5⟩, ho, act⟩ := lq_act (dl_cl G1 (nI (f + k))) h (by omega)
      have hfk : nI f + nI k = nI (f + k) := by rw [dq_iN, dq_iN, dq_iN, dq_iadd]; rfl
      obtain ⟨v, hv⟩ : ∃ v, v = dl_cl G1 (nI (f + k)) := ⟨_, rfl⟩
      rw [← hv] at act
      refine lz_bipush (v := 111) C1 dL_plays_22 (n := 24) rfl (by decide) ?_
      refine lz_icmp_ne (t := 165) C1 dL_plays_24 (n := 27) rfl (by decide) (fun g => absurd g (fun q => q rfl)) (fun _ => ?_)
      refine lz_aload_n (i := 0) C1 dL_plays_27 (n := 28) rfl rfl rfl ?_
      refine lz_qTick C1 (hG.2.1 _) hG.2.2.2.2.1 K1 dk_wm_L_115 ⟨(Nat.le_of_ble_eq_true rfl), (Nat.le_of_ble_eq_true rfl)⟩ ⟨by show _ ≤ 73; omega, by show _ ≤ 438; omega⟩ (Nat.le_of_ble_eq_true rfl) rfl dL_plays_28 (n := 31) rfl ?_
      rw [t3]
      refine lz_istore (i := 7) (L' := [some (dk_r G1 0 40), some (dk_r G2 0 40), some (.ref (dk_tL G1)), some (.int (nI f)), some (.int (nI b)), some (.int 1), some (.int (nI k)), some (.int (nI τ)), none, none]) C1 dL_plays_31 (n := 33) rfl (dk_nc_of rfl) (Nat.le_of_ble_eq_true rfl) rfl ?_
      refine lz_aload_n (i := 2) C1 dL_plays_33 (n := 34) rfl rfl rfl ?_
      refine lz_iload_n (i := 3) C1 dL_plays_34 (n := 35) rfl rfl rfl ?_
      refine lz_iload C1 dL_plays_35 (n := 37) rfl (i := 6) rfl ?_
      refine lz_iadd C1 dL_plays_37 (n := 38) rfl ?_
      rw [hfk]
      refine lz_cell C1 (hG.2.1 _) hN dk_wm_L_9 (nI_pos (by omega)) ⟨(Nat.le_of_ble_eq_true rfl), (Nat.le_of_ble_eq_true rfl)⟩ ⟨by show _ ≤ 73; omega, by show _ ≤ 438; omega⟩ (Nat.le_of_ble_eq_true rfl) rfl dL_plays_38 (n := 41) rfl ?_
      rw [← hv]
      refine lz_istore (i := 8) (L' := [some (dk_r G1 0 40), some (dk_r G2 0 40), some (.ref (dk_tL G1)), some (.int (nI f)), some (.int (nI b)), some (.int 1), some (.int (nI k)), some (.int (nI τ)), some (.int v), none]) C1 dL_plays_41 (n := 43) rfl (dk_nc_of rfl) (Nat.le_of_ble_eq_true rfl) rfl ?_
      refine lz_aload_n (i := 0) C1 dL_plays_43 (n := 44) rfl rfl rfl ?_
      refine lz_iload C1 dL_plays_44 (n := 46) rfl (i := 8) rfl ?_
      refine lz_callSH C1 (hG.2.1 _) [] (cc_L_act (K := (fun y u => x = y ∧ ∃ r A, dq_Kf nn 9 m1 r st1 T W0 A D1 B1 sp1 u)) hG.2.2.2.1.1 hl hG.2.2.2.2.1 (act _ _ _ _ K1 (fun r A u hu => ⟨rfl, r, A, hu⟩))) yh_L_act dk_wm_L_118 rfl ⟨(Nat.le_of_ble_eq_true rfl), (Nat.le_of_ble_eq_true rfl)⟩ ⟨by show _ ≤ 73; omega, by show _ ≤ 438; omega⟩ rfl (Nat.le_of_ble_eq_true rfl) rfl dL_plays_46 (n := 49) rfl (fun y1 τ5 hw1 => ?_)
      obtain ⟨_, rfl, rfl, q1, Q1, N1⟩ := hw1
      refine lz_istore (i := 9) (L' := [some (dk_r G1 0 40), some (dk_r G2 0 40), some (.ref (dk_tL G1)), some (.int (nI f)), some (.int (nI b)), some (.int 1), some (.int (nI k)), some (.int (nI τ)), some (.int v), some (.int x)]) C1 dL_plays_49 (n := 51) rfl (dk_nc_of rfl) (Nat.le_of_ble_eq_true rfl) rfl ?_
      refine lz_aload_n (i := 1) C1 dL_plays_51 (n := 52) rfl rfl rfl ?_
      refine lz_iload C1 dL_plays_52 (n := 54) rfl (i := 8) rfl ?_
      refine lz_swap hG (lz_callSH C2 (hG.2.2.1 _) [] (cc_L_act (K := (fun y u => x = y ∧ ∃ r A, dq_Kf nn 9 m1 r st1 T W0 A D1 B1 sp1 u)) hG.2.2.2.1.2 hl hG.2.2.2.2.2 (act _ _ _ _ K2 (fun r A u hu => ⟨rfl, r, A, hu⟩))) yh_L_act dk_wm_L_118 rfl ⟨(Nat.le_of_ble_eq_true rfl), (Nat.le_of_ble_eq_true rfl)⟩ ⟨by show _ ≤ 73; omega, by show _ ≤ 438; omega⟩ rfl (Nat.le_of_ble_eq_true rfl) rfl dL_plays_54 (n := 57) rfl (fun y2 τ6 hw2 => ?_))
      obtain ⟨_, rfl, rfl, q2, Q2, N2⟩ := hw2
      refine lz_paws hG ?_
      refine lz_iload C1 dL_plays_57 (n := 59) rfl (i := 9) rfl ?_
      refine lz_icmp_ne (t := 101) C1 dL_plays_59 (n := 62) rfl (by decide) (fun g => absurd g (fun q => q rfl)) (fun _ => ?_)
      refine lz_aload_n (i := 0) C1 dL_plays_62 (n := 63) rfl rfl rfl ?_
      refine lz_aload_n (i := 1) C1 dL_plays_63 (n := 64) rfl rfl rfl ?_
      refine lz_iload C1 dL_plays_64 (n := 66) rfl (i := 4) rfl ?_
      refine l2_callS C1 C2 [] (cc_L_areAlike hG hl hb h1.1 N1 N2) yy_L_areAlike dk_wm_L_122 rfl ⟨(Nat.le_of_ble_eq_true rfl), (Nat.le_of_ble_eq_true rfl)⟩ ⟨by show _ ≤ 73; omega, by show _ ≤ 438; omega⟩ rfl (Nat.le_of_ble_eq_true rfl) rfl dL_plays_66 (n := 69) rfl (fun w3 τ7 τ8 hw3 => ?_)
      obtain ⟨rfl, rfl, rfl⟩ := hw3
      refine lz_if_eq (t := 101) C1 dL_plays_69 (n := 72) rfl (by decide) (fun g => absurd g (show ¬ (1 : Int32) = 0 from by decide)) (fun _ => ?_)
      refine lz_aload_n (i := 0) C1 dL_plays_72 (n := 73) rfl rfl rfl ?_
      refine lz_qTick C1 (hG.2.1 _) hG.2.2.2.2.1 N1 dk_wm_L_115 ⟨(Nat.le_of_ble_eq_true rfl), (Nat.le_of_ble_eq_true rfl)⟩ ⟨by show _ ≤ 73; omega, by show _ ≤ 438; omega⟩ (Nat.le_of_ble_eq_true rfl) rfl dL_plays_73 (n := 76) rfl ?_
      rw [t4]
      refine lz_iload C1 dL_plays_76 (n := 78) rfl (i := 7) rfl ?_
      refine lz_icmp_lt (t := 101) C1 dL_plays_78 (n := 81) rfl (by decide) (fun g => absurd g (nI_nlt t1 (by omega))) (fun _ => ?_)
      refine lz_aload_n (i := 0) C1 dL_plays_81 (n := 82) rfl rfl rfl ?_
      refine lz_iload C1 dL_plays_82 (n := 84) rfl (i := 4) rfl ?_
      refine lz_qApart C1 (hG.2.1 _) hG.2.2.2.2.1 hl hb h1 N1 dk_wm_L_126 ⟨(Nat.le_of_ble_eq_true rfl), (Nat.le_of_ble_eq_true rfl)⟩ ⟨by show _ ≤ 73; omega, by show _ ≤ 438; omega⟩ (Nat.le_of_ble_eq_true rfl) rfl dL_plays_84 (n := 87) rfl ?_
      refine lz_if_eq (t := 101) C1 dL_plays_87 (n := 90) rfl (by decide) (fun g => absurd g (show ¬ (1 : Int32) = 0 from by decide)) (fun _ => ?_)
      refine lz_aload_n (i := 0) C1 dL_plays_90 (n := 91) rfl rfl rfl ?_
      refine lz_qThings C1 (hG.2.1 _) hG.2.2.2.2.1 hl h1 N1 dk_wm_L_130 ⟨(Nat.le_of_ble_eq_true rfl), (Nat.le_of_ble_eq_true rfl)⟩ ⟨by show _ ≤ 73; omega, by show _ ≤ 438; omega⟩ (Nat.le_of_ble_eq_true rfl) rfl dL_plays_91 (n := 94) rfl ?_
      refine lz_if_eq (t := 101) C1 dL_plays_94 (n := 97) rfl (by decide) (fun g => absurd g (show ¬ (1 : Int32) = 0 from by decide)) (fun _ => ?_)
      refine lz_iconst (v := 1) C1 dL_plays_97 (n := 98) rfl (by decide) ?_
      refine lz_goto (t := 102) C1 dL_plays_98 (by decide) ?_
      refine lz_istore (i := 5) (L' := [some (dk_r G1 0 40), some (dk_r G2 0 40), some (.ref (dk_tL G1)), some (.int (nI f)), some (.int (nI b)), some (.int 1), some (.int (nI k)), some (.int (nI τ)), some (.int v), some (.int x)]) C1 dL_plays_102 (n := 104) rfl (dk_nc_of rfl) (Nat.le_of_ble_eq_true rfl) rfl ?_
      refine lz_iload C1 dL_plays_104 (n := 106) rfl (i := 5) rfl ?_
      refine lz_if_eq (t := 156) C1 dL_plays_106 (n := 109) rfl (by decide) (fun g => absurd g (show ¬ (1 : Int32) = 0 from by decide)) (fun _ => ?_)
      have last : lz_W G1 (l2_F G1 G2) b0 p l e (lz_rm 10 73 438) s m args below meth c (cells + 1 + 1 + 1) (slots + 6 + 6 + 6) (MQ below (l2_Q G1 G2 (l2_pK G1 G2 nn T W0)) args s 73 438 (l2_F G1 G2)) 152 [some (dk_r G1 0 40), some (dk_r G2 0 40), some (.ref (dk_tL G1)), some (.int (nI f)), some (.int (nI b)), some (.int 1), some (.int (nI k)), some (.int (nI τ)), some (.int v), some (.int x)] [] τ7 (dk_wsl G2 τ8) := by
        refine lz_iconst (v := 1) C1 dL_plays_152 (n := 153) rfl (by decide) ?_
        refine lz_goto (t := 157) C1 dL_plays_153 (by decide) ?_
        refine lz_istore (i := 5) (L' := [some (dk_r G1 0 40), some (dk_r G2 0 40), some (.ref (dk_tL G1)), some (.int (nI f)), some (.int (nI b)), some (.int 1), some (.int (nI k)), some (.int (nI τ)), some (.int v), some (.int x)]) C1 dL_plays_157 (n := 159) rfl (dk_nc_of rfl) (Nat.le_of_ble_eq_true rfl) rfl ?_
        refine lz_iinc (i := 6) (v := (nI (k + 1))) (L' := [some (dk_r G1 0 40), some (dk_r G2 0 40), some (.ref (dk_tL G1)), some (.int (nI f)), some (.int (nI b)), some (.int 1), some (.int (nI (k + 1))), some (.int (nI τ)), some (.int v), some (.int x)]) C1 dL_plays_159 (n := 162) rfl rfl (nI_1 k) (dk_nc_of rfl) (Nat.le_of_ble_eq_true rfl) rfl ?_
        refine lz_goto (t := 6) C1 dL_plays_162 (by decide) ?_
        refine lz_sub (L0 := [some (dk_r G1 0 40), some (dk_r G2 0 40), some (.ref (dk_tL G1)), some (.int (nI f)), some (.int (nI b)), some (.int 1), some (.int (nI (k + 1))), none, none, none]) ⟨rfl, ⟨rfl, ⟨rfl, ⟨rfl, ⟨rfl, ⟨rfl, ⟨rfl, trivial⟩⟩⟩⟩⟩⟩⟩ ?_
        exact ih (k + 1) (by omega) _ _ m1 q1 q2 st1 sp1 D1 B1 Q1 Q2 τ7 τ8 h1 (ho.imp id (fun g => g.1)) N1 N2 (by omega) (by omega) (by omega)
      have tail : lz_W G1 (l2_F G1 G2) b0 p l e (lz_rm 10 73 438) s m args below meth c (cells + 1 + 1 + 1) (slots + 6 + 6 + 6) (MQ below (l2_Q G1 G2 (l2_pK G1 G2 nn T W0)) args s 73 438 (l2_F G1 G2)) 126 [some (dk_r G1 0 40), some (dk_r G2 0 40), some (.ref (dk_tL G1)), some (.int (nI f)), some (.int (nI b)), some (.int 1), some (.int (nI k)), some (.int (nI τ)), some (.int v), some (.int x)] [] τ7 (dk_wsl G2 τ8) := by
        refine lz_aload_n (i := 0) C1 dL_plays_126 (n := 127) rfl rfl rfl ?_
        refine lz_qState C1 (hG.2.1 _) hG.2.2.2.2.1 h1.1 N1 dk_wm_L_111 ⟨(Nat.le_of_ble_eq_true rfl), (Nat.le_of_ble_eq_true rfl)⟩ ⟨by show _ ≤ 73; omega, by show _ ≤ 438; omega⟩ (Nat.le_of_ble_eq_true rfl) rfl dL_plays_127 (n := 130) rfl ?_
        rcases ho with rfl | ⟨rfl, hh⟩
        · refine lz_bipush (v := 111) C1 dL_plays_130 (n := 132) rfl (by decide) ?_
          refine lz_icmp_eq (t := 152) C1 dL_plays_132 (n := 135) rfl (by decide) (fun _ => ?_) (fun g => absurd rfl g)
          exact last
        · refine lz_bipush (v := 111) C1 dL_plays_130 (n := 132) rfl (by decide) ?_
          refine lz_icmp_eq (t := 152) C1 dL_plays_132 (n := 135) rfl (by decide) (fun g => absurd g (show ¬ (100 : Int32) = 111 from by decide)) (fun _ => ?_)
          refine lz_aload_n (i := 0) C1 dL_plays_135 (n := 136) rfl rfl rfl ?_
          refine lz_qState C1 (hG.2.1 _) hG.2.2.2.2.1 h1.1 N1 dk_wm_L_111 ⟨(Nat.le_of_ble_eq_true rfl), (Nat.le_of_ble_eq_true rfl)⟩ ⟨by show _ ≤ 73; omega, by show _ ≤ 438; omega⟩ (Nat.le_of_ble_eq_true rfl) rfl dL_plays_136 (n := 139) rfl ?_
          refine lz_bipush (v := 100) C1 dL_plays_139 (n := 141) rfl (by decide) ?_
          refine lz_icmp_ne (t := 156) C1 dL_plays_141 (n := 144) rfl (by decide) (fun g => absurd g (fun q => q rfl)) (fun _ => ?_)
          refine lz_aload_n (i := 0) C1 dL_plays_144 (n := 145) rfl rfl rfl ?_
          refine lz_iconst (v := 0) C1 dL_plays_145 (n := 146) rfl (by decide) ?_
          refine lz_qHealth C1 (hG.2.1 _) hG.2.2.2.2.1 (j := 0) hl (by omega) h1.1 N1 dk_wm_L_102 ⟨(Nat.le_of_ble_eq_true rfl), (Nat.le_of_ble_eq_true rfl)⟩ ⟨by show _ ≤ 73; omega, by show _ ≤ 438; omega⟩ (Nat.le_of_ble_eq_true rfl) rfl dL_plays_146 (n := 149) rfl ?_
          refine lz_if_gt (t := 156) C1 dL_plays_149 (n := 152) rfl (by decide) (fun g => absurd g (mr_lt_le.2 hh)) (fun _ => ?_)
          exact last
      by_cases hx : (-1001 : Int32) < x
      · refine lz_iload C1 dL_plays_109 (n := 111) rfl (i := 9) rfl ?_
        refine lz_sipush (v := (-1001)) C1 dL_plays_111 (n := 114) rfl (by decide) ?_
        refine lz_icmp_gt (t := 126) C1 dL_plays_114 (n := 117) rfl (by decide) (fun _ => ?_) (fun g => absurd hx g)
        exact tail
      · refine lz_iload C1 dL_plays_109 (n := 111) rfl (i := 9) rfl ?_
        refine lz_sipush (v := (-1001)) C1 dL_plays_111 (n := 114) rfl (by decide) ?_
        refine lz_icmp_gt (t := 126) C1 dL_plays_114 (n := 117) rfl (by decide) (fun g => absurd g hx) (fun _ => ?_)
        refine lz_aload_n (i := 0) C1 dL_plays_117 (n := 118) rfl rfl rfl ?_
        refine lz_qTick C1 (hG.2.1 _) hG.2.2.2.2.1 N1 dk_wm_L_115 ⟨(Nat.le_of_ble_eq_true rfl), (Nat.le_of_ble_eq_true rfl)⟩ ⟨by show _ ≤ 73; omega, by show _ ≤ 438; omega⟩ (Nat.le_of_ble_eq_true rfl) rfl dL_plays_118 (n := 121) rfl ?_
        rw [t4]
        refine lz_iload C1 dL_plays_121 (n := 123) rfl (i := 7) rfl ?_
        refine lz_icmp_ne (t := 156) C1 dL_plays_123 (n := 126) rfl (by decide) (fun g => absurd g (fun q => q (by rw [t5.resolve_left hx]))) (fun _ => ?_)
        exact tail
    · refine lz_bipush (v := 111) C1 dL_plays_22 (n := 24) rfl (by decide) ?_
      refine lz_icmp_ne (t := 165) C1 dL_plays_24 (n := 27) rfl (by decide) (fun _ => ?_) (fun g => absurd g (show ¬ (100 : Int32) = 111 from by decide))
      refine lz_sub (L0 := [some (dk_r G1 0 40), some (dk_r G2 0 40), some (.ref (dk_tL G1)), some (.int (nI f)), some (.int (nI b)), some (.int 1), none, none, none, none]) ⟨rfl, ⟨rfl, ⟨rfl, ⟨rfl, ⟨rfl, ⟨rfl, trivial⟩⟩⟩⟩⟩⟩ ?_
      exact cc_L_plays_165 C1 C2 hG hl hr hlk h (Or.inr rfl) K1 K2 (by omega) (by omega)
end LPP
theorem cc_L_plays {G1 G2 : dk_G} {l : Launch} {σ1 σ2 : dk_S} {nn r1 r2 b f : Nat} {zs zp : Int32} {T W0 A1 A2 : dq_W} {D : Nat → Nat × Nat × Nat} {B : Nat → Int32} (hG : l2_G G1 G2) (hl : l.stackTraces = false) (hN : dk_tN G1 ≤ 260) (hb : nn = b + 1) (hf : f ≤ 100) (h : lq nn 0 zs T W0 D B zp) (hz : zs = 111 ∨ zs = 100) (K1 : dq_Kf nn 9 0 r1 zs T W0 A1 D B zp σ1) (K2 : dq_Kf nn 9 0 r2 zs T W0 A2 D B zp σ2) : l2_M G1 G2 l 10 73 438 yL_plays cL_plays 10 (some .boolean) [dk_r G1 0 40, dk_r G2 0 40, .ref (dk_tL G1), .int (nI f), .int (nI b)] σ1 σ2 (l2_pK G1 G2 nn T W0) := by
  refine l2_of hG (by decide) [some (dk_r G1 0 40), some (dk_r G2 0 40), some (.ref (dk_tL G1)), some (.int (nI f)), some (.int (nI b)), none, none, none, none, none] (fun q hq => hq) rfl (Nat.le_of_ble_eq_true rfl) (fun p e s m args bel meth c C1 C2 hr hlk => ?_)
  refine lz_iconst (v := 1) C1 dL_plays_0 (n := 1) rfl (by decide) ?_
  refine lz_istore (i := 5) (L' := [some (dk_r G1 0 40), some (dk_r G2 0 40), some (.ref (dk_tL G1)), some (.int (nI f)), some (.int (nI b)), some (.int 1), none, none, none, none]) C1 dL_plays_1 (n := 3) rfl (dk_nc_of rfl) (Nat.le_of_ble_eq_true rfl) rfl ?_
  refine lz_iconst (v := 0) C1 dL_plays_3 (n := 4) rfl (by decide) ?_
  refine lz_istore (i := 6) (L' := [some (dk_r G1 0 40), some (dk_r G2 0 40), some (.ref (dk_tL G1)), some (.int (nI f)), some (.int (nI b)), some (.int 1), some (.int 0), none, none, none]) C1 dL_plays_4 (n := 6) rfl (dk_nc_of rfl) (Nat.le_of_ble_eq_true rfl) rfl ?_
  exact cc_L_plays_6 C1 C2 hG hl hr hlk hN hb hf 24 0 (by omega) 0 0 0 r1 r2 zs zp D B A1 A2 σ1 σ2 h hz K1 K2 (by omega) (by omega) (by omega)
