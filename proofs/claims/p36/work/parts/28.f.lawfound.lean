/-! isFound: one keep, and an array of where things were -/
section LFF
variable {G : dk_G} {F : Nat → Prop} {b0 : Nat} {p : Program} {l : Launch} {e : Env} {R : Room} {s : State} {m : MethodId} {args : Array Value} {below : List Frame} {meth : Method} {c : Code} {cells slots : Nat} {Q : State → Prop} {σ : dk_S}
variable {nn mm r q0 x1 : Nat} {zs zp x2 x4 x5 x6 x7 : Int32} {T W0 A : dq_W} {D : Nat → Nat × Nat × Nat} {B : Nat → Int32} {f : Nat → Int32}
theorem lz_O1 {N : Nat} (hq : ¬ dk_A G q0) : lz_O G [(q0, .inl (dk_cA G 0, N, .inl f))] := fun k q h => by
  have hk : k = 0 := by
    have := (List.getElem?_eq_some_iff.mp h).1
    simp only [List.length_cons, List.length_nil] at this
    omega
  subst hk
  cases h
  exact hq
theorem cc_L_isFound_15 (C : lz_C G F b0 p s m args c cL_isFound 10 RL) (hq : ¬ dk_A G q0) (hF : F q0) (hri : dk_RI G) (hl : l.stackTraces = false) (hR : 9 ≤ R.frames ∧ 346 ≤ R.locals) (hRc : cells + 1 ≤ R.cells ∧ slots + 6 ≤ R.slots) (P : dq_P nn 9 1 mm mm zs T W0 D B zp) (Kf : dq_Kf nn 9 mm r zs T W0 A D B zp σ) (next : ∀ f, lz_W G F b0 p l e R s m args below meth c cells slots Q 38 [some (dk_r G 0 40), some (.ref x1), some (.int x2), some (.ref q0), some (.int x4), some (.int (nI 9)), none, none, none, none] [] σ [(q0, .inl (dk_cA G 0, 9, .inl f))]) : ∀ d i : Nat, i + d = 9 → ∀ f, lz_W G F b0 p l e R s m args below meth c cells slots Q 15 [some (dk_r G 0 40), some (.ref x1), some (.int x2), some (.ref q0), some (.int x4), some (.int (nI i)), none, none, none, none] [] σ [(q0, .inl (dk_cA G 0, 9, .inl f))] := by
  intro d
  induction d with
  | zero =>
    intro i hi f
    have hi : i = 9 := by omega
    subst hi
    refine lz_iload C dL_isFound_15 (n := 17) rfl (i := 5) rfl ?_
    refine lz_bipush (v := 9) C dL_isFound_17 (n := 19) rfl (by decide) ?_
    refine lz_icmp_ge (t := 38) C dL_isFound_19 (n := 22) rfl (by decide) (fun _ => ?_) (fun g => absurd (show (9 : Int32) ≤ nI 9 from by decide) g)
    exact next f
  | succ d ih =>
    intro i hi f
    have hj : i < 9 := by omega
    refine lz_iload C dL_isFound_15 (n := 17) rfl (i := 5) rfl ?_
    refine lz_bipush (v := 9) C dL_isFound_17 (n := 19) rfl (by decide) ?_
    refine lz_icmp_ge (t := 38) C dL_isFound_19 (n := 22) rfl (by decide) (fun g => absurd g (nI_ge (b := 9) hj (by omega))) (fun _ => ?_)
    refine lz_aload_n (i := 3) C dL_isFound_22 (n := 23) rfl rfl rfl ?_
    refine lz_iload C dL_isFound_23 (n := 25) rfl (i := 5) rfl ?_
    refine lz_aload_n (i := 0) C dL_isFound_25 (n := 26) rfl rfl rfl ?_
    refine lz_iload C dL_isFound_26 (n := 28) rfl (i := 5) rfl ?_
    refine lz_qWhere C (lz_O1 hq) hri hl hj P Kf dk_wm_L_105 hR hRc (Nat.le_of_ble_eq_true rfl) rfl dL_isFound_28 (n := 31) rfl ?_
    refine lz_iastE C hq hF (vp_in_nI hj (by omega)) dL_isFound_31 (n := 32) rfl (fun f1 => ?_)
    refine lz_iinc (i := 5) (v := (nI (i + 1))) (L' := [some (dk_r G 0 40), some (.ref x1), some (.int x2), some (.ref q0), some (.int x4), some (.int (nI (i + 1))), none, none, none, none]) C dL_isFound_32 (n := 35) rfl rfl (nI_1 i) (dk_nc_of rfl) (Nat.le_of_ble_eq_true rfl) rfl ?_
    refine lz_goto (t := 15) C dL_isFound_35 (by decide) ?_
    exact ih (i + 1) (by omega) f1
theorem cc_L_isFound_99 (C : lz_C G F b0 p s m args c cL_isFound 10 RL) (hq : ¬ dk_A G q0) (hF : F q0) (hri : dk_RI G) (hl : l.stackTraces = false) (hR : 9 ≤ R.frames ∧ 346 ≤ R.locals) (hRc : cells + 1 ≤ R.cells ∧ slots + 6 ≤ R.slots) (P : dq_P nn 9 1 mm mm zs T W0 D B zp) (Kf : dq_Kf nn 9 mm r zs T W0 A D B zp σ) (next : ∀ y, y ≤ 9 → lz_W G F b0 p l e R s m args below meth c cells slots Q 135 [some (dk_r G 0 40), some (.ref x1), some (.int x2), some (.ref q0), some (.int x4), some (.int x5), some (.int x6), some (.int x7), some (.int (nI y)), some (.int (nI 9))] [] σ [(q0, .inl (dk_cA G 0, 9, .inl f))]) : ∀ d i : Nat, i + d = 9 → ∀ y, y ≤ i → lz_W G F b0 p l e R s m args below meth c cells slots Q 99 [some (dk_r G 0 40), some (.ref x1), some (.int x2), some (.ref q0), some (.int x4), some (.int x5), some (.int x6), some (.int x7), some (.int (nI y)), some (.int (nI i))] [] σ [(q0, .inl (dk_cA G 0, 9, .inl f))] := by
  intro d
  induction d with
  | zero =>
    intro i hi y hy
    have hi : i = 9 := by omega
    subst hi
    refine lz_iload C dL_isFound_99 (n := 101) rfl (i := 9) rfl ?_
    refine lz_bipush (v := 9) C dL_isFound_101 (n := 103) rfl (by decide) ?_
    refine lz_icmp_ge (t := 135) C dL_isFound_103 (n := 106) rfl (by decide) (fun _ => ?_) (fun g => absurd (show (9 : Int32) ≤ nI 9 from by decide) g)
    exact next y hy
  | succ d ih =>
    intro i hi y hy
    have hj : i < 9 := by omega
    refine lz_iload C dL_isFound_99 (n := 101) rfl (i := 9) rfl ?_
    refine lz_bipush (v := 9) C dL_isFound_101 (n := 103) rfl (by decide) ?_
    refine lz_icmp_ge (t := 135) C dL_isFound_103 (n := 106) rfl (by decide) (fun g => absurd g (nI_ge (b := 9) hj (by omega))) (fun _ => ?_)
    refine lz_iload C dL_isFound_106 (n := 108) rfl (i := 8) rfl ?_
    refine lz_aload_n (i := 0) C dL_isFound_108 (n := 109) rfl rfl rfl ?_
    refine lz_iload C dL_isFound_109 (n := 111) rfl (i := 9) rfl ?_
    refine lz_qWhere C (lz_O1 hq) hri hl hj P Kf dk_wm_L_105 hR hRc (Nat.le_of_ble_eq_true rfl) rfl dL_isFound_111 (n := 114) rfl ?_
    refine lz_aload_n (i := 3) C dL_isFound_114 (n := 115) rfl rfl rfl ?_
    refine lz_iload C dL_isFound_115 (n := 117) rfl (i := 9) rfl ?_
    refine lz_ialdE C (vp_in_nI hj (by omega)) dL_isFound_117 (n := 118) rfl (fun z => ?_)
    refine lz_icmp_ne (t := 125) C dL_isFound_118 (n := 121) rfl (by decide) (fun _ => ?_) (fun _ => ?_)
    · refine lz_iconst (v := 0) C dL_isFound_125 (n := 126) rfl (by decide) ?_
      refine lz_iadd C dL_isFound_126 (n := 127) rfl ?_
      rw [Int32.add_zero]
      refine lz_istore (i := 8) (L' := [some (dk_r G 0 40), some (.ref x1), some (.int x2), some (.ref q0), some (.int x4), some (.int x5), some (.int x6), some (.int x7), some (.int (nI y)), some (.int (nI i))]) C dL_isFound_127 (n := 129) rfl (dk_nc_of rfl) (Nat.le_of_ble_eq_true rfl) rfl ?_
      refine lz_iinc (i := 9) (v := (nI (i + 1))) (L' := [some (dk_r G 0 40), some (.ref x1), some (.int x2), some (.ref q0), some (.int x4), some (.int x5), some (.int x6), some (.int x7), some (.int (nI y)), some (.int (nI (i + 1)))]) C dL_isFound_129 (n := 132) rfl rfl (nI_1 i) (dk_nc_of rfl) (Nat.le_of_ble_eq_true rfl) rfl ?_
      refine lz_goto (t := 99) C dL_isFound_132 (by decide) ?_
      exact ih (i + 1) (by omega) y (by omega)
    · refine lz_iconst (v := 1) C dL_isFound_121 (n := 122) rfl (by decide) ?_
      refine lz_goto (t := 126) C dL_isFound_122 (by decide) ?_
      refine lz_iadd C dL_isFound_126 (n := 127) rfl ?_
      rw [nI_1]
      refine lz_istore (i := 8) (L' := [some (dk_r G 0 40), some (.ref x1), some (.int x2), some (.ref q0), some (.int x4), some (.int x5), some (.int x6), some (.int x7), some (.int (nI (y + 1))), some (.int (nI i))]) C dL_isFound_127 (n := 129) rfl (dk_nc_of rfl) (Nat.le_of_ble_eq_true rfl) rfl ?_
      refine lz_iinc (i := 9) (v := (nI (i + 1))) (L' := [some (dk_r G 0 40), some (.ref x1), some (.int x2), some (.ref q0), some (.int x4), some (.int x5), some (.int x6), some (.int x7), some (.int (nI (y + 1))), some (.int (nI (i + 1)))]) C dL_isFound_129 (n := 132) rfl rfl (nI_1 i) (dk_nc_of rfl) (Nat.le_of_ble_eq_true rfl) rfl ?_
      refine lz_goto (t := 99) C dL_isFound_132 (by decide) ?_
      exact ih (i + 1) (by omega) (y + 1) (by omega)
theorem cc_L_isFound_4 (C : lz_C G F b0 p s m args c cL_isFound 10 RL) (hq : ¬ dk_A G q0) (hF : F q0) (hri : dk_RI G) (hl : l.stackTraces = false) (hR : 9 ≤ R.frames ∧ 346 ≤ R.locals) (hRc : cells + 1 + 1 ≤ R.cells ∧ slots + 6 + 6 ≤ R.slots) (h : lq nn mm zs T W0 D B zp) (Kf : dq_Kf nn 9 mm r zs T W0 A D B zp σ) {zs1 zp1 : Int32} {W1 : dq_W} {B1 : Nat → Int32} {τ : Nat} (h1 : lq nn 0 zs1 T W1 dp_D0 B1 zp1) (hz1 : zs1 = 111 ∨ zs1 = 100) (t1 : 1 ≤ τ) (t2 : τ ≤ 4000) (bg : ∀ r A s K X, dq_Kf nn 9 mm r zs T W0 A D B zp s → (∀ r' A' v, dq_Kf nn 9 0 r' zs1 T W1 A' dp_D0 B1 zp1 v → K (nI τ) v) → wf_X8_begin (nI 7) s K X)
    (fin : ∀ (σ' : dk_S) (r' : Nat) (A' : dq_W) (L : List (Option Value)) (f : Nat → Int32), dq_Kf nn 9 0 r' zs1 T W1 A' dp_D0 B1 zp1 σ' → lz_W G F b0 p l e R s m args below meth c (cells + 1) (slots + 6) Q 178 L [.int 1] σ' [(q0, .inl (dk_cA G 0, 9, .inl f))]) : lz_W G F b0 p l e R s m args below meth c cells slots Q 4 [some (dk_r G 0 40), some (.ref x1), some (.int x2), none, none, none, none, none, none, none] [.ref q0] σ [(q0, .inl (dk_cA G 0, 9, .inl f))] := by
  have h8 := h.1.1.1.h1
  have hc := ((dp_Is h.1).pl 0 (by decide)).1
  have hf := lq_F h
  obtain ⟨e1, e2⟩ := dl_sp_d hc
  refine lz_astore_n (i := 3) (L' := [some (dk_r G 0 40), some (.ref x1), some (.int x2), some (.ref q0), none, none, none, none, none, none]) C dL_isFound_4 (n := 5) rfl rfl (dk_nc_of rfl) (Nat.le_of_ble_eq_true rfl) rfl ?_
  refine lz_aload_n (i := 0) C dL_isFound_5 (n := 6) rfl rfl rfl ?_
  refine lz_iconst (v := 0) C dL_isFound_6 (n := 7) rfl (by decide) ?_
  refine lz_qPlace C (lz_O1 hq) hri hl (j := 0) (by omega) h.1 Kf dk_wm_L_96 hR ⟨by omega, by omega⟩ (Nat.le_of_ble_eq_true rfl) rfl dL_isFound_7 (n := 10) rfl ?_
  refine lz_istore (i := 4) (L' := [some (dk_r G 0 40), some (.ref x1), some (.int x2), some (.ref q0), some (.int (dq_sp (dq_pl (dq_shw nn 9 mm zs T W0 D) 0))), none, none, none, none, none]) C dL_isFound_10 (n := 12) rfl (dk_nc_of rfl) (Nat.le_of_ble_eq_true rfl) rfl ?_
  refine lz_iconst (v := 0) C dL_isFound_12 (n := 13) rfl (by decide) ?_
  refine lz_istore (i := 5) (L' := [some (dk_r G 0 40), some (.ref x1), some (.int x2), some (.ref q0), some (.int (dq_sp (dq_pl (dq_shw nn 9 mm zs T W0 D) 0))), some (.int (nI 0)), none, none, none, none]) C dL_isFound_13 (n := 15) rfl (dk_nc_of rfl) (Nat.le_of_ble_eq_true rfl) rfl ?_
  refine cc_L_isFound_15 C hq hF hri hl hR ⟨by omega, by omega⟩ h.1 Kf (fun f1 => ?_) 9 0 (by omega) f
  refine lz_aload_n (i := 0) C dL_isFound_38 (n := 39) rfl rfl rfl ?_
  refine lz_iload C dL_isFound_39 (n := 41) rfl (i := 4) rfl ?_
  refine lz_bipush (v := 100) C dL_isFound_41 (n := 43) rfl (by decide) ?_
  refine lz_idiv C dL_isFound_43 (n := 44) rfl (by decide) ?_
  refine lz_iload C dL_isFound_44 (n := 46) rfl (i := 4) rfl ?_
  refine lz_bipush (v := 100) C dL_isFound_46 (n := 48) rfl (by decide) ?_
  refine lz_irem C dL_isFound_48 (n := 49) rfl (by decide) ?_
  rw [e2, e1]
  refine lz_qCell C (lz_O1 hq) hri hl (by omega) (by omega) h.1 Kf dk_wm_L_99 hR ⟨by omega, by omega⟩ (Nat.le_of_ble_eq_true rfl) rfl dL_isFound_49 (n := 52) rfl ?_
  rw [show 12 * (dq_pl (dq_shw nn 9 mm zs T W0 D) 0 / 12) + dq_pl (dq_shw nn 9 mm zs T W0 D) 0 % 12 = dq_pl (dq_shw nn 9 mm zs T W0 D) 0 by omega]
  generalize (dq_shw nn 9 mm zs T W0 D 2 (dq_pl (dq_shw nn 9 mm zs T W0 D) 0)) = its at hf
  refine lz_istore (i := 5) (L' := [some (dk_r G 0 40), some (.ref x1), some (.int x2), some (.ref q0), some (.int (dq_sp (dq_pl (dq_shw nn 9 mm zs T W0 D) 0))), some (.int its), none, none, none, none]) C dL_isFound_52 (n := 54) rfl (dk_nc_of rfl) (Nat.le_of_ble_eq_true rfl) rfl ?_
  refine lz_aload_n (i := 0) C dL_isFound_54 (n := 55) rfl rfl rfl ?_
  refine lz_bipush (v := 7) C dL_isFound_55 (n := 57) rfl (by decide) ?_
  refine lz_callSH C (lz_O1 hq) [] (cc_L_begin (K := (fun y u => nI τ = y ∧ ∃ r A, dq_Kf nn 9 0 r zs1 T W1 A dp_D0 B1 zp1 u)) (v := 7) C.2.2.2.2.2.2.2.2.1 hl hri (bg _ _ _ _ _ Kf (fun r A u hu => ⟨rfl, r, A, hu⟩))) yh_L_begin dk_wm_L_138 rfl ⟨by omega, by omega⟩ ⟨by omega, by omega⟩ rfl (Nat.le_of_ble_eq_true rfl) rfl dL_isFound_57 (n := 60) rfl (fun y1 σ1 hw => ?_)
  obtain ⟨_, rfl, rfl, r1, A1, K1⟩ := hw
  refine lz_istore (i := 6) (L' := [some (dk_r G 0 40), some (.ref x1), some (.int x2), some (.ref q0), some (.int (dq_sp (dq_pl (dq_shw nn 9 mm zs T W0 D) 0))), some (.int its), some (.int (nI τ)), none, none, none]) C dL_isFound_60 (n := 62) rfl (dk_nc_of rfl) (Nat.le_of_ble_eq_true rfl) rfl ?_
  refine lz_iload C dL_isFound_62 (n := 64) rfl (i := 6) rfl ?_
  refine lz_iconst (v := 1) C dL_isFound_64 (n := 65) rfl (by decide) ?_
  refine lz_icmp_lt (t := 90) C dL_isFound_65 (n := 68) rfl (by decide) (fun g => absurd g (nI_nlt (a := τ) (b := 1) t1 (by omega))) (fun _ => ?_)
  refine lz_aload_n (i := 0) C dL_isFound_68 (n := 69) rfl rfl rfl ?_
  refine lz_qState C (lz_O1 hq) hri h1.1 K1 dk_wm_L_111 hR ⟨by omega, by omega⟩ (Nat.le_of_ble_eq_true rfl) rfl dL_isFound_69 (n := 72) rfl ?_
  have last : lz_W G F b0 p l e R s m args below meth c (cells + 1) (slots + 6) Q 86 [some (dk_r G 0 40), some (.ref x1), some (.int x2), some (.ref q0), some (.int (dq_sp (dq_pl (dq_shw nn 9 mm zs T W0 D) 0))), some (.int its), some (.int (nI τ)), none, none, none] [] σ1 [(q0, .inl (dk_cA G 0, 9, .inl f1))] := by
    refine lz_iconst (v := 1) C dL_isFound_86 (n := 87) rfl (by decide) ?_
    refine lz_goto (t := 91) C dL_isFound_87 (by decide) ?_
    refine lz_istore (i := 7) (L' := [some (dk_r G 0 40), some (.ref x1), some (.int x2), some (.ref q0), some (.int (dq_sp (dq_pl (dq_shw nn 9 mm zs T W0 D) 0))), some (.int its), some (.int (nI τ)), some (.int 1), none, none]) C dL_isFound_91 (n := 93) rfl (dk_nc_of rfl) (Nat.le_of_ble_eq_true rfl) rfl ?_
    refine lz_iconst (v := 0) C dL_isFound_93 (n := 94) rfl (by decide) ?_
    refine lz_istore (i := 8) (L' := [some (dk_r G 0 40), some (.ref x1), some (.int x2), some (.ref q0), some (.int (dq_sp (dq_pl (dq_shw nn 9 mm zs T W0 D) 0))), some (.int its), some (.int (nI τ)), some (.int 1), some (.int (nI 0)), none]) C dL_isFound_94 (n := 96) rfl (dk_nc_of rfl) (Nat.le_of_ble_eq_true rfl) rfl ?_
    refine lz_iconst (v := 0) C dL_isFound_96 (n := 97) rfl (by decide) ?_
    refine lz_istore (i := 9) (L' := [some (dk_r G 0 40), some (.ref x1), some (.int x2), some (.ref q0), some (.int (dq_sp (dq_pl (dq_shw nn 9 mm zs T W0 D) 0))), some (.int its), some (.int (nI τ)), some (.int 1), some (.int (nI 0)), some (.int (nI 0))]) C dL_isFound_97 (n := 99) rfl (dk_nc_of rfl) (Nat.le_of_ble_eq_true rfl) rfl ?_
    refine cc_L_isFound_99 C hq hF hri hl hR ⟨by omega, by omega⟩ h1.1 K1 (fun y hy => ?_) 9 0 (by omega) 0 (by omega)
    refine lz_iload C dL_isFound_135 (n := 137) rfl (i := 7) rfl ?_
    refine lz_if_eq (t := 177) C dL_isFound_137 (n := 140) rfl (by decide) (fun g => absurd g (show ¬ (1 : Int32) = 0 from by decide)) (fun _ => ?_)
    refine lz_iload C dL_isFound_140 (n := 142) rfl (i := 8) rfl ?_
    refine lz_if_lt (t := 177) C dL_isFound_142 (n := 145) rfl (by decide) (fun g => absurd g (nI_pos (by omega))) (fun _ => ?_)
    refine lz_aload_n (i := 0) C dL_isFound_145 (n := 146) rfl rfl rfl ?_
    refine lz_qThings C (lz_O1 hq) hri hl h1 K1 dk_wm_L_130 hR ⟨by omega, by omega⟩ (Nat.le_of_ble_eq_true rfl) rfl dL_isFound_146 (n := 149) rfl ?_
    refine lz_if_eq (t := 177) C dL_isFound_149 (n := 152) rfl (by decide) (fun g => absurd g (show ¬ (1 : Int32) = 0 from by decide)) (fun _ => ?_)
    have yes : lz_W G F b0 p l e R s m args below meth c (cells + 1) (slots + 6) Q 173 [some (dk_r G 0 40), some (.ref x1), some (.int x2), some (.ref q0), some (.int (dq_sp (dq_pl (dq_shw nn 9 mm zs T W0 D) 0))), some (.int its), some (.int (nI τ)), some (.int 1), some (.int (nI y)), some (.int (nI 9))] [] σ1 [(q0, .inl (dk_cA G 0, 9, .inl f1))] := by
      refine lz_iconst (v := 1) C dL_isFound_173 (n := 174) rfl (by decide) ?_
      refine lz_goto (t := 178) C dL_isFound_174 (by decide) ?_
      exact fin σ1 r1 A1 _ f1 K1
    rcases hf with g | g | g
    · subst g
      refine lz_iload C dL_isFound_152 (n := 154) rfl (i := 5) rfl ?_
      refine lz_bipush (v := 46) C dL_isFound_154 (n := 156) rfl (by decide) ?_
      refine lz_icmp_eq (t := 173) C dL_isFound_156 (n := 159) rfl (by decide) (fun _ => ?_) (fun g => absurd rfl g)
      exact yes
    · subst g
      refine lz_iload C dL_isFound_152 (n := 154) rfl (i := 5) rfl ?_
      refine lz_bipush (v := 46) C dL_isFound_154 (n := 156) rfl (by decide) ?_
      refine lz_icmp_eq (t := 173) C dL_isFound_156 (n := 159) rfl (by decide) (fun g => absurd g (show ¬ (126 : Int32) = 46 from by decide)) (fun _ => ?_)
      refine lz_iload C dL_isFound_159 (n := 161) rfl (i := 5) rfl ?_
      refine lz_bipush (v := 126) C dL_isFound_161 (n := 163) rfl (by decide) ?_
      refine lz_icmp_eq (t := 173) C dL_isFound_163 (n := 166) rfl (by decide) (fun _ => ?_) (fun g => absurd rfl g)
      exact yes
    · subst g
      refine lz_iload C dL_isFound_152 (n := 154) rfl (i := 5) rfl ?_
      refine lz_bipush (v := 46) C dL_isFound_154 (n := 156) rfl (by decide) ?_
      refine lz_icmp_eq (t := 173) C dL_isFound_156 (n := 159) rfl (by decide) (fun g => absurd g (show ¬ (47 : Int32) = 46 from by decide)) (fun _ => ?_)
      refine lz_iload C dL_isFound_159 (n := 161) rfl (i := 5) rfl ?_
      refine lz_bipush (v := 126) C dL_isFound_161 (n := 163) rfl (by decide) ?_
      refine lz_icmp_eq (t := 173) C dL_isFound_163 (n := 166) rfl (by decide) (fun g => absurd g (show ¬ (47 : Int32) = 126 from by decide)) (fun _ => ?_)
      refine lz_iload C dL_isFound_166 (n := 168) rfl (i := 5) rfl ?_
      refine lz_bipush (v := 47) C dL_isFound_168 (n := 170) rfl (by decide) ?_
      refine lz_icmp_ne (t := 177) C dL_isFound_170 (n := 173) rfl (by decide) (fun g => absurd g (fun q => q rfl)) (fun _ => ?_)
      exact yes
  rcases hz1 with rfl | rfl
  · refine lz_bipush (v := 111) C dL_isFound_72 (n := 74) rfl (by decide) ?_
    refine lz_icmp_eq (t := 86) C dL_isFound_74 (n := 77) rfl (by decide) (fun _ => ?_) (fun g => absurd rfl g)
    exact last
  · refine lz_bipush (v := 111) C dL_isFound_72 (n := 74) rfl (by decide) ?_
    refine lz_icmp_eq (t := 86) C dL_isFound_74 (n := 77) rfl (by decide) (fun g => absurd g (show ¬ (100 : Int32) = 111 from by decide)) (fun _ => ?_)
    refine lz_aload_n (i := 0) C dL_isFound_77 (n := 78) rfl rfl rfl ?_
    refine lz_qState C (lz_O1 hq) hri h1.1 K1 dk_wm_L_111 hR ⟨by omega, by omega⟩ (Nat.le_of_ble_eq_true rfl) rfl dL_isFound_78 (n := 81) rfl ?_
    refine lz_bipush (v := 100) C dL_isFound_81 (n := 83) rfl (by decide) ?_
    refine lz_icmp_ne (t := 90) C dL_isFound_83 (n := 86) rfl (by decide) (fun g => absurd g (fun q => q rfl)) (fun _ => ?_)
    exact last
end LFF
theorem cc_L_isFound {G : dk_G} {l : Launch} {σ : dk_S} {nn mm r x1 : Nat} {zs zp x2 : Int32} {T W0 A : dq_W} {D : Nat → Nat × Nat × Nat} {B : Nat → Int32} (hD : dk_D G) (hl : l.stackTraces = false) (hri : dk_RI G) (h : lq nn mm zs T W0 D B zp) (Kf : dq_Kf nn 9 mm r zs T W0 A D B zp σ) {zs1 zp1 : Int32} {W1 : dq_W} {B1 : Nat → Int32} {τ : Nat} (h1 : lq nn 0 zs1 T W1 dp_D0 B1 zp1) (hz1 : zs1 = 111 ∨ zs1 = 100) (t1 : 1 ≤ τ) (t2 : τ ≤ 4000) (bg : ∀ r A s K X, dq_Kf nn 9 mm r zs T W0 A D B zp s → (∀ r' A' v, dq_Kf nn 9 0 r' zs1 T W1 A' dp_D0 B1 zp1 v → K (nI τ) v) → wf_X8_begin (nI 7) s K X) : lz_MC G l 9 3 21 yL_isFound cL_isFound 10 (some .boolean) [dk_r G 0 40, .ref x1, .int x2] σ (fun v τ1 => v = some (.int 1) ∧ ∃ r A, dq_Kf nn 9 0 r zs1 T W1 A dp_D0 B1 zp1 τ1) := by
  refine lz_ofC hD (by decide) [some (dk_r G 0 40), some (.ref x1), some (.int x2), none, none, none, none, none, none, none] (fun q hq => hq) rfl (Nat.le_of_ble_eq_true rfl) (fun p e s m args bel meth c C hr hlk => ?_)
  refine lz_bipush (v := 9) C dL_isFound_0 (n := 2) rfl (by decide) ?_
  refine lz_newa (atype := .int) (ty := .int) C 0 (N := 9) rfl rfl rfl C.2.2.2.2.2.2.1 dk_wa_int (by decide) rfl (by decide) ⟨(Nat.le_of_ble_eq_true rfl), (Nat.le_of_ble_eq_true rfl)⟩ dL_isFound_2 (n := 4) rfl (fun C2 => ?_)
  refine cc_L_isFound_4 (G := dk_GA G fun q => dk_A G q ∧ q ≠ s.heap.size) C2 (fun z => z.2 rfl) (C.2.2.2.2.2.2.1 _ (Nat.le_refl _)) hri hl ⟨(Nat.le_of_ble_eq_true rfl), (Nat.le_of_ble_eq_true rfl)⟩ ⟨(Nat.le_of_ble_eq_true rfl), (Nat.le_of_ble_eq_true rfl)⟩ h Kf h1 hz1 t1 t2 bg (fun σ1 r1 A1 L f1 K1 => ?_)
  exact lz_iret C2 C.2.2.2.2.2.2.2.2.2 (Nat.le_of_ble_eq_true rfl) (Nat.le_of_ble_eq_true rfl) hr hlk dk_nz1 dL_isFound_178 ⟨rfl, dk_GA_wsl.symm, rfl⟩ ⟨rfl, r1, A1, K1⟩
