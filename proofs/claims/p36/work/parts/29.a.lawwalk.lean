/-! the law *itself*, from behind its two keeps -/
theorem dl_cl_e {G1 G2 : dk_G} (h : G2.2.2.2.2.2 = G1.2.2.2.2.2) : dl_cl G2 = dl_cl G1 := by
  funext a
  unfold dl_cl dk_tN dk_tX
  rw [h]
theorem dl_T1_e {G1 G2 : dk_G} (h : dl_cl G2 = dl_cl G1) {T : dq_W} : ∀ i, dl_T1 G2 T i = dl_T1 G1 T i
  | 0 => rfl
  | i + 1 => by
    unfold dl_T1 dl_z
    rw [dl_T1_e h i, h]
theorem dl_T2_e {G1 G2 : dk_G} (h : dl_cl G2 = dl_cl G1) {T : dq_W} : ∀ i, dl_T2 G2 T i = dl_T2 G1 T i
  | 0 => rfl
  | i + 1 => by
    unfold dl_T2 dl_v2
    rw [dl_T2_e h i, h]
theorem dl_T4_e {G1 G2 : dk_G} (h : dl_cl G2 = dl_cl G1) {T : dq_W} : ∀ i, dl_T4 G2 T i = dl_T4 G1 T i
  | 0 => rfl
  | i + 1 => by
    unfold dl_T4 dl_v4
    rw [dl_T4_e h i, h]
theorem dl_T5_e {G1 G2 : dk_G} (h : dl_cl G2 = dl_cl G1) {T : dq_W} : ∀ i, dl_T5 G2 T i = dl_T5 G1 T i
  | 0 => rfl
  | i + 1 => by
    unfold dl_T5 dl_kd dl_pv dl_v5
    rw [dl_T5_e h i, h]
theorem dl_T6_e {G1 G2 : dk_G} (h : dl_cl G2 = dl_cl G1) {T : dq_W} : dl_T6 G2 T = dl_T6 G1 T := by
  unfold dl_T6 dl_T3 dl_nb
  rw [dl_T1_e h, dl_T2_e h, dl_T4_e h, dl_T5_e h, h]
theorem dl_T3_25 {G : dk_G} {T : dq_W} : dl_T3 G T 25 = T 25 := by
  have e1 : ∀ i, dl_T1 G T i 25 = T 25 := fun i => by
    induction i with
    | zero => rfl
    | succ i ih => exact (dq_set_r (by decide)).trans ih
  have e2 : ∀ i (T : dq_W), dl_T2 G T i 25 = T 25 := fun i T => by
    induction i with
    | zero => rfl
    | succ i ih =>
      have ek : ∀ (d : Nat) (y z : Int32) (w : dq_W), ax_kind d y z w 25 = w 25 := fun d y z w => (dq_set_r (by decide)).trans (dq_set_r (by decide))
      have ee : ∀ (d : Nat) (y z x : Int32) (w : dq_W), ax_effect d y z x w 25 = w 25 := fun d y z x w => (dq_set_r (by decide)).trans ((dq_set_r (by decide)).trans (dq_set_r (by decide)))
      unfold dl_T2
      by_cases g : 3 ≤ i ∧ i < 6
      · rw [if_pos g, ee, ek]; exact ih
      · rw [if_neg g, ek]; exact ih
  unfold dl_T3
  rw [(ax_tell_at (b := 0) (q := 25)).2.2.2.2 (by decide), e2, e1]
theorem dl_T4_25 {G : dk_G} {T : dq_W} : ∀ i, dl_T4 G T i 25 = T 25
  | 0 => rfl
  | i + 1 => by
    have e : ∀ (b : Nat) (p x y z : Int32) (w : dq_W), ax_beast b p x y z w 25 = w 25 := fun b p x y z w => (dq_set_r (by decide)).trans ((ax_tell_at (b := b) (q := 25)).2.2.2.2 (by decide))
    unfold dl_T4
    rw [e]; exact dl_T4_25 i
theorem dl_T6_NC {G : dk_G} {T : dq_W} (h : dl_NC T) : dl_NC (dl_T6 G T) := by
  have h4 : dl_NC (dl_T4 G (dl_T3 G T) (dl_nb G)) := fun i hi => by rw [dl_T4_25, dl_T3_25]; exact h i hi
  have h5 := dl_T5_NC (G := G) h4 9 (Nat.le_refl _)
  intro i hi
  have el : ∀ (k : Nat) (p x : Int32) (w : dq_W), ax_lamp k p x w 25 = w 25 := fun k p x w => (dq_set_r (by decide)).trans ((dq_set_r (by decide)).trans (dq_set_r (by decide)))
  unfold dl_T6
  rw [el]; exact h5 i hi
section LLW
variable {G1 G2 : dk_G} {F : Nat → Prop} {b0 : Nat} {p : Program} {l : Launch} {e : Env} {R : Room} {s : State} {m : MethodId} {args : Array Value} {below : List Frame} {meth : Method} {c : Code} {Q : State → Prop}
variable {cells slots nn mm r1 r2 b : Nat} {zs zp x4 x5 : Int32} {T W0 A1 A2 : dq_W} {D : Nat → Nat × Nat × Nat} {B : Nat → Int32} {σ1 σ2 : dk_S}
theorem cc_L_law_151 (C1 : lz_C G1 F b0 p s m args c cL_law 7 RL) (C2 : lz_C G2 F b0 p s m args c cL_law 7 RL) (hG : l2_G G1 G2) (hl : l.stackTraces = false) (hN : dk_tN G1 ≤ 260) (hR : R.frames = 13 ∧ R.locals = 478 ∧ R.cells = 600086 ∧ R.slots = 7301442) (hb : nn = b + 1) (fw : dq_fw T nn) (nc : dl_NC T) (hz : zs = 100) (h : lq nn mm zs T W0 D B zp) (K1 : dq_Kf nn 9 mm r1 zs T W0 A1 D B zp σ1) (K2 : dq_Kf nn 9 mm r2 zs T W0 A2 D B zp σ2) (hc : cells ≤ 1500) (hs : slots ≤ 150000) (fin : ∀ (pc : Nat) (L : List (Option Value)) (cells slots : Nat) (τ1 τ2 : dk_S), decode cL_law pc = .ok (.ireturn, 1) → cells ≤ 2000 → slots ≤ 200000 → lz_W G1 F b0 p l e R s m args below meth c cells slots Q pc L [.int 1] τ1 (dk_wsl G2 τ2)) : lz_W G1 F b0 p l e R s m args below meth c cells slots Q 151 [some (.ref (dk_tL G1)), some (dk_r G1 0 40), some (dk_r G2 0 40), some (.int (nI b)), some (.int x4), some (.int x5), some (.int 1)] [] σ1 (dk_wsl G2 σ2) := by
  obtain ⟨hR1, hR2, hR3, hR4⟩ := hR
  rcases lq_begin (j := 7) (by decide) nc h.1 (by rw [hz]; decide) with ⟨nf, _⟩ | ⟨_, z1, W1, B1, p1, τ, h1, hz1, t1, t2, t3, bg⟩
  · exact absurd fw nf
  refine lz_aload_n (i := 2) C1 dL_law_151 (n := 152) rfl rfl rfl ?_
  refine lz_bipush (v := 7) C1 dL_law_152 (n := 154) rfl (by decide) ?_
  refine lz_swap hG (lz_callSH C2 (hG.2.2.1 _) [] (cc_L_begin (K := (fun y u => nI τ = y ∧ ∃ r A, dq_Kf nn 9 0 r z1 T W1 A dp_D0 B1 p1 u)) (v := 7) hG.2.2.2.1.2 hl hG.2.2.2.2.2 (bg _ _ _ _ _ K2 (fun r A u hu => ⟨rfl, r, A, hu⟩))) yh_L_begin dk_wm_L_138 rfl ⟨by omega, by omega⟩ ⟨by omega, by omega⟩ rfl (Nat.le_of_ble_eq_true rfl) rfl dL_law_154 (n := 157) rfl (fun y1 τ1 hw1 => ?_))
  obtain ⟨_, rfl, rfl, q2, Q2, N2⟩ := hw1
  refine lz_paws hG ?_
  refine lz_iconst (v := 1) C1 dL_law_157 (n := 158) rfl (by decide) ?_
  refine lz_icmp_lt (t := 204) C1 dL_law_158 (n := 161) rfl (by decide) (fun g => absurd g (nI_nlt (a := τ) (b := 1) t1 (by omega))) (fun _ => ?_)
  refine lz_aload_n (i := 1) C1 dL_law_161 (n := 162) rfl rfl rfl ?_
  refine lz_aload_n (i := 0) C1 dL_law_162 (n := 163) rfl rfl rfl ?_
  refine lz_iload_n (i := 3) C1 dL_law_163 (n := 164) rfl rfl rfl ?_
  refine lz_callSC C1 (hG.2.1 _) [] (cc_L_isFound hG.2.2.2.1.1 hl hG.2.2.2.2.1 h K1 h1 hz1 t1 t2 bg) yy_L_isFound dk_wm_L_153 rfl ⟨by omega, by omega⟩ ⟨by omega, by omega⟩ rfl (Nat.le_of_ble_eq_true rfl) rfl dL_law_164 (n := 167) rfl (fun y2 τ2 hw2 => ?_)
  obtain ⟨rfl, q1, Q1, N1⟩ := hw2
  refine lz_if_eq (t := 204) C1 dL_law_167 (n := 170) rfl (by decide) (fun g => absurd g (show ¬ (1 : Int32) = 0 from by decide)) (fun _ => ?_)
  refine lz_aload_n (i := 1) C1 dL_law_170 (n := 171) rfl rfl rfl ?_
  refine lz_aload_n (i := 2) C1 dL_law_171 (n := 172) rfl rfl rfl ?_
  refine lz_iload_n (i := 3) C1 dL_law_172 (n := 173) rfl rfl rfl ?_
  refine l2_callS C1 C2 [] (cc_L_areAlike hG hl hb h1.1 N1 N2) yy_L_areAlike dk_wm_L_122 rfl ⟨by omega, by omega⟩ ⟨by omega, by omega⟩ rfl (Nat.le_of_ble_eq_true rfl) rfl dL_law_173 (n := 176) rfl (fun y3 τ3 τ4 hw3 => ?_)
  obtain ⟨rfl, rfl, rfl⟩ := hw3
  refine lz_if_eq (t := 204) C1 dL_law_176 (n := 179) rfl (by decide) (fun g => absurd g (show ¬ (1 : Int32) = 0 from by decide)) (fun _ => ?_)
  refine lz_aload_n (i := 1) C1 dL_law_179 (n := 180) rfl rfl rfl ?_
  refine lz_qState C1 (hG.2.1 _) hG.2.2.2.2.1 h1.1 N1 dk_wm_L_111 ⟨by omega, by omega⟩ ⟨by omega, by omega⟩ (Nat.le_of_ble_eq_true rfl) rfl dL_law_180 (n := 183) rfl ?_
  rcases hz1 with rfl | rfl
  · refine lz_bipush (v := 111) C1 dL_law_183 (n := 185) rfl (by decide) ?_
    refine lz_icmp_ne (t := 200) C1 dL_law_185 (n := 188) rfl (by decide) (fun g => absurd g (fun q => q rfl)) (fun _ => ?_)
    refine lz_aload_n (i := 1) C1 dL_law_188 (n := 189) rfl rfl rfl ?_
    refine lz_aload_n (i := 2) C1 dL_law_189 (n := 190) rfl rfl rfl ?_
    refine lz_aload_n (i := 0) C1 dL_law_190 (n := 191) rfl rfl rfl ?_
    refine lz_bipush (v := 59) C1 dL_law_191 (n := 193) rfl (by decide) ?_
    refine lz_iload_n (i := 3) C1 dL_law_193 (n := 194) rfl rfl rfl ?_
    refine l2_callS C1 C2 [] (cc_L_plays (f := 59) hG hl hN hb (by decide) h1 (Or.inl rfl) N1 N2) yy_L_plays dk_wm_L_149 rfl ⟨by omega, by omega⟩ ⟨by omega, by omega⟩ rfl (Nat.le_of_ble_eq_true rfl) rfl dL_law_194 (n := 197) rfl (fun y4 τ5 τ6 hw4 => ?_)
    obtain ⟨rfl, _⟩ := hw4
    refine lz_if_eq (t := 204) C1 dL_law_197 (n := 200) rfl (by decide) (fun g => absurd g (show ¬ (1 : Int32) = 0 from by decide)) (fun _ => ?_)
    refine lz_iconst (v := 1) C1 dL_law_200 (n := 201) rfl (by decide) ?_
    refine lz_goto (t := 205) C1 dL_law_201 (by decide) ?_
    exact fin 205 _ _ _ _ _ dL_law_205 (by omega) (by omega)
  · refine lz_bipush (v := 111) C1 dL_law_183 (n := 185) rfl (by decide) ?_
    refine lz_icmp_ne (t := 200) C1 dL_law_185 (n := 188) rfl (by decide) (fun _ => ?_) (fun g => absurd g (show ¬ (100 : Int32) = 111 from by decide))
    refine lz_iconst (v := 1) C1 dL_law_200 (n := 201) rfl (by decide) ?_
    refine lz_goto (t := 205) C1 dL_law_201 (by decide) ?_
    exact fin 205 _ _ _ _ _ dL_law_205 (by omega) (by omega)
theorem cc_L_law_100 (C1 : lz_C G1 F b0 p s m args c cL_law 7 RL) (C2 : lz_C G2 F b0 p s m args c cL_law 7 RL) (hG : l2_G G1 G2) (hl : l.stackTraces = false) (hN : dk_tN G1 ≤ 260) (hR : R.frames = 13 ∧ R.locals = 478 ∧ R.cells = 600086 ∧ R.slots = 7301442) (hb : nn = b + 1) (fw : dq_fw T nn) (nc : dl_NC T) (h : lq nn 0 zs T W0 D B zp) (hz : zs = 111 ∨ zs = 100) (K1 : dq_Kf nn 9 0 r1 zs T W0 A1 D B zp σ1) (K2 : dq_Kf nn 9 0 r2 zs T W0 A2 D B zp σ2) (hc : cells ≤ 1200) (hs : slots ≤ 120000) (fin : ∀ (pc : Nat) (L : List (Option Value)) (cells slots : Nat) (τ1 τ2 : dk_S), decode cL_law pc = .ok (.ireturn, 1) → cells ≤ 2000 → slots ≤ 200000 → lz_W G1 F b0 p l e R s m args below meth c cells slots Q pc L [.int 1] τ1 (dk_wsl G2 τ2)) : lz_W G1 F b0 p l e R s m args below meth c cells slots Q 100 [some (.ref (dk_tL G1)), some (dk_r G1 0 40), some (dk_r G2 0 40), some (.int (nI b)), some (.int x4), some (.int x5), none] [] σ1 (dk_wsl G2 σ2) := by
  obtain ⟨hR1, hR2, hR3, hR4⟩ := hR
  refine lz_aload_n (i := 1) C1 dL_law_100 (n := 101) rfl rfl rfl ?_
  refine lz_iload_n (i := 3) C1 dL_law_101 (n := 102) rfl rfl rfl ?_
  refine lz_qApart C1 (hG.2.1 _) hG.2.2.2.2.1 hl hb h K1 dk_wm_L_126 ⟨by omega, by omega⟩ ⟨by omega, by omega⟩ (Nat.le_of_ble_eq_true rfl) rfl dL_law_102 (n := 105) rfl ?_
  refine lz_if_eq (t := 131) C1 dL_law_105 (n := 108) rfl (by decide) (fun g => absurd g (show ¬ (1 : Int32) = 0 from by decide)) (fun _ => ?_)
  refine lz_aload_n (i := 1) C1 dL_law_108 (n := 109) rfl rfl rfl ?_
  refine lz_qThings C1 (hG.2.1 _) hG.2.2.2.2.1 hl h K1 dk_wm_L_130 ⟨by omega, by omega⟩ ⟨by omega, by omega⟩ (Nat.le_of_ble_eq_true rfl) rfl dL_law_109 (n := 112) rfl ?_
  refine lz_if_eq (t := 131) C1 dL_law_112 (n := 115) rfl (by decide) (fun g => absurd g (show ¬ (1 : Int32) = 0 from by decide)) (fun _ => ?_)
  refine lz_aload_n (i := 1) C1 dL_law_115 (n := 116) rfl rfl rfl ?_
  refine lz_aload_n (i := 2) C1 dL_law_116 (n := 117) rfl rfl rfl ?_
  refine lz_aload_n (i := 0) C1 dL_law_117 (n := 118) rfl rfl rfl ?_
  refine lz_bipush (v := 35) C1 dL_law_118 (n := 120) rfl (by decide) ?_
  refine lz_iload_n (i := 3) C1 dL_law_120 (n := 121) rfl rfl rfl ?_
  refine l2_callS C1 C2 [] (cc_L_plays (f := 35) hG hl hN hb (by decide) h hz K1 K2) yy_L_plays dk_wm_L_149 rfl ⟨by omega, by omega⟩ ⟨by omega, by omega⟩ rfl (Nat.le_of_ble_eq_true rfl) rfl dL_law_121 (n := 124) rfl (fun y1 τ5 τ6 hw1 => ?_)
  obtain ⟨rfl, m3, q1, q2, z3, p3, D3, B3, Q1, Q2, h3, hz3, N1, N2⟩ := hw1
  refine lz_if_eq (t := 131) C1 dL_law_124 (n := 127) rfl (by decide) (fun g => absurd g (show ¬ (1 : Int32) = 0 from by decide)) (fun _ => ?_)
  refine lz_iconst (v := 1) C1 dL_law_127 (n := 128) rfl (by decide) ?_
  refine lz_goto (t := 132) C1 dL_law_128 (by decide) ?_
  refine lz_istore (i := 6) (L' := [some (.ref (dk_tL G1)), some (dk_r G1 0 40), some (dk_r G2 0 40), some (.int (nI b)), some (.int x4), some (.int x5), some (.int 1)]) C1 dL_law_132 (n := 134) rfl (dk_nc_of rfl) (Nat.le_of_ble_eq_true rfl) rfl ?_
  refine lz_iload C1 dL_law_134 (n := 136) rfl (i := 6) rfl ?_
  refine lz_if_eq (t := 148) C1 dL_law_136 (n := 139) rfl (by decide) (fun g => absurd g (show ¬ (1 : Int32) = 0 from by decide)) (fun _ => ?_)
  refine lz_aload_n (i := 1) C1 dL_law_139 (n := 140) rfl rfl rfl ?_
  refine lz_qState C1 (hG.2.1 _) hG.2.2.2.2.1 h3.1 N1 dk_wm_L_111 ⟨by omega, by omega⟩ ⟨by omega, by omega⟩ (Nat.le_of_ble_eq_true rfl) rfl dL_law_140 (n := 143) rfl ?_
  rcases hz3 with rfl | rfl
  · refine lz_bipush (v := 100) C1 dL_law_143 (n := 145) rfl (by decide) ?_
    refine lz_icmp_eq (t := 151) C1 dL_law_145 (n := 148) rfl (by decide) (fun g => absurd g (show ¬ (111 : Int32) = 100 from by decide)) (fun _ => ?_)
    refine lz_iload C1 dL_law_148 (n := 150) rfl (i := 6) rfl ?_
    exact fin 150 _ _ _ _ _ dL_law_150 (by omega) (by omega)
  · refine lz_bipush (v := 100) C1 dL_law_143 (n := 145) rfl (by decide) ?_
    refine lz_icmp_eq (t := 151) C1 dL_law_145 (n := 148) rfl (by decide) (fun _ => ?_) (fun g => absurd rfl g)
    exact cc_L_law_151 C1 C2 hG hl hN ⟨hR1, hR2, hR3, hR4⟩ hb fw nc rfl h3 N1 N2 (by omega) (by omega) fin
theorem cc_L_law_16 (C1 : lz_C G1 F b0 p s m args c cL_law 7 RL) (C2 : lz_C G2 F b0 p s m args c cL_law 7 RL) (hG : l2_G G1 G2) (hl : l.stackTraces = false) (hN : dk_tN G1 ≤ 260) (hR : R.frames = 13 ∧ R.locals = 478 ∧ R.cells = 600086 ∧ R.slots = 7301442) (hT : dq_TW 1 0 0 T) (nc : dl_NC T) (S1 : dp_S T σ1) (S2 : dp_S T σ2) (hc : cells ≤ 1000) (hs : slots ≤ 100000) (fin : ∀ (pc : Nat) (L : List (Option Value)) (cells slots : Nat) (τ1 τ2 : dk_S), decode cL_law pc = .ok (.ireturn, 1) → cells ≤ 2000 → slots ≤ 200000 → lz_W G1 F b0 p l e R s m args below meth c cells slots Q pc L [.int 1] τ1 (dk_wsl G2 τ2)) : lz_W G1 F b0 p l e R s m args below meth c cells slots Q 16 [some (.ref (dk_tL G1)), some (dk_r G1 0 40), some (dk_r G2 0 40), none, none, none, none] [] σ1 (dk_wsl G2 σ2) := by
  obtain ⟨hR1, hR2, hR3, hR4⟩ := hR
  have e3 := hG.1.2.2
  have eT := dl_T6_e (T := T) (dl_cl_e e3)
  have eL : dk_tL G2 = dk_tL G1 := by unfold dk_tL; rw [e3]
  have eN : dk_tN G2 = dk_tN G1 := by unfold dk_tN; rw [e3]
  have TW := dl_T6_W (G := G1) hT
  have NC := dl_T6_NC (G := G1) nc
  obtain ⟨n3, en⟩ := dl_nb_3 (G := G1)
  obtain ⟨j1, j2⟩ := dl_lo_c (dl_cl G1 34) (N := 1000) (by decide) (by decide)
  have j2 : dl_lo (dl_cl G1 34) 1000 = nI (dl_lo (dl_cl G1 34) 1000).toNatClampNeg := j2
  have j1 : (dl_lo (dl_cl G1 34) 1000).toNatClampNeg < 1000 := j1
  generalize (dl_lo (dl_cl G1 34) 1000).toNatClampNeg = j at j1 j2
  refine lz_aload_n (i := 1) C1 dL_law_16 (n := 17) rfl rfl rfl ?_
  refine lz_aload_n (i := 0) C1 dL_law_17 (n := 18) rfl rfl rfl ?_
  refine lz_callSX C1 (hG.2.1 _) [] (cc_L_tells (K := fun u => dp_S (dl_T6 G1 T) u) (X := fun _ _ => False) hG.2.2.2.1.1 hl hG.2.2.2.2.1 hN (dl_tells hT S1 (fun u Su => Su))) yy_L_tells dk_wm_L_141 rfl ⟨by omega, by omega⟩ ⟨by omega, by omega⟩ rfl (Nat.le_of_ble_eq_true rfl) rfl dL_law_18 (n := 21) rfl (fun y1 τ1 hw1 => ?_)
  obtain ⟨rfl, U1⟩ := hw1
  refine lz_aload_n (i := 2) C1 dL_law_21 (n := 22) rfl rfl rfl ?_
  refine lz_aload_n (i := 0) C1 dL_law_22 (n := 23) rfl rfl rfl ?_
  rw [← eL]
  refine lz_swap hG (lz_callSX C2 (hG.2.2.1 _) [] (cc_L_tells (K := fun u => dp_S (dl_T6 G1 T) u) (X := fun _ _ => False) hG.2.2.2.1.2 hl hG.2.2.2.2.2 (by rw [eN]; exact hN) (dl_tells hT S2 (fun u Su => eT ▸ Su))) yy_L_tells dk_wm_L_141 rfl ⟨by omega, by omega⟩ ⟨by omega, by omega⟩ rfl (Nat.le_of_ble_eq_true rfl) rfl dL_law_23 (n := 26) rfl (fun y2 τ2 hw2 => ?_))
  obtain ⟨rfl, U2⟩ := hw2
  refine lz_paws hG ?_
  rw [eL]
  refine lz_aload_n (i := 0) C1 dL_law_26 (n := 27) rfl rfl rfl ?_
  refine lz_callS C1 (hG.2.1 _) [] (cc_L_beasts (K := fun x u => x = nI (dl_nb G1) ∧ u = τ1) hG.2.2.2.1.1 hN ⟨by decide, en, rfl⟩) yy_L_beasts dk_wm_L_145 rfl ⟨by omega, by omega⟩ ⟨by omega, by omega⟩ rfl (Nat.le_of_ble_eq_true rfl) rfl dL_law_27 (n := 30) rfl (fun y3 τ3 hw3 => ?_)
  obtain ⟨_, rfl, rfl, rfl⟩ := hw3
  refine lz_istore_n (i := 3) (L' := [some (.ref (dk_tL G1)), some (dk_r G1 0 40), some (dk_r G2 0 40), some (.int (nI (dl_nb G1))), none, none, none]) C1 dL_law_30 (n := 31) rfl rfl (dk_nc_of rfl) (Nat.le_of_ble_eq_true rfl) rfl ?_
  refine lz_aload_n (i := 0) C1 dL_law_31 (n := 32) rfl rfl rfl ?_
  refine lz_bipush (v := 34) C1 dL_law_32 (n := 34) rfl (by decide) ?_
  refine lz_cell C1 (hG.2.1 _) hN dk_wm_L_9 (by decide) ⟨by omega, by omega⟩ ⟨by omega, by omega⟩ (Nat.le_of_ble_eq_true rfl) rfl dL_law_34 (n := 37) rfl ?_
  refine lz_sipush (v := 1000) C1 dL_law_37 (n := 40) rfl (by decide) ?_
  refine lz_low C1 (hG.2.1 _) dk_wm_L_17 (by decide) ⟨by omega, by omega⟩ ⟨by omega, by omega⟩ (Nat.le_of_ble_eq_true rfl) rfl dL_law_40 (n := 43) rfl ?_
  rw [j2]
  refine lz_istore (i := 4) (L' := [some (.ref (dk_tL G1)), some (dk_r G1 0 40), some (dk_r G2 0 40), some (.int (nI (dl_nb G1))), some (.int (nI j)), none, none]) C1 dL_law_43 (n := 45) rfl (dk_nc_of rfl) (Nat.le_of_ble_eq_true rfl) rfl ?_
  have P : dq_P (dl_nb G1 + 1) 9 1 0 0 110 (dl_T6 G1 T) (dl_T6 G1 T) dp_D0 (fun _ => -2) (-1) := ⟨TW, ⟨⟨fun _ => 0, fun _ _ => Or.inl rfl⟩, Or.inl rfl⟩, Or.inl rfl, fun g => absurd rfl g⟩
  have K1 : dq_Kf (dl_nb G1 + 1) 9 0 0 110 (dl_T6 G1 T) (dl_T6 G1 T) (dl_T6 G1 T) dp_D0 (fun _ => -2) (-1) τ3 := ⟨U1.1, U1.2.1, ⟨U1.2.2, Or.inl rfl⟩, fun g => absurd rfl g⟩
  have K2 : dq_Kf (dl_nb G1 + 1) 9 0 0 110 (dl_T6 G1 T) (dl_T6 G1 T) (dl_T6 G1 T) dp_D0 (fun _ => -2) (-1) τ2 := ⟨U2.1, U2.2.1, ⟨U2.2.2, Or.inl rfl⟩, fun g => absurd rfl g⟩
  rcases lq_begin j1 NC P (by decide) with ⟨nf, bg⟩ | ⟨fw, z1, W1, B1, p1, τ, h1, hz1, t1, t2, t3, bg⟩
  · have es : dq_shw (dl_nb G1 + 1) 9 0 110 (dl_T6 G1 T) (dl_T6 G1 T) dp_D0 = dl_T6 G1 T := dq_if_t rfl
    have hs0 : dq_shw (dl_nb G1 + 1) 9 0 110 (dl_T6 G1 T) (dl_T6 G1 T) dp_D0 0 5 = 0 := by rw [es]; exact TW.2.1.1.1
    have JW : ∀ x, x < 9 → dj_R 0 9 (dq_wt (dq_shw (dl_nb G1 + 1) 9 0 110 (dl_T6 G1 T) (dl_T6 G1 T) dp_D0) x) := fun x hx => by rw [es]; exact TW.2.2.2.2.2.2.1 _ (TW.1.kd x (by omega)).1
    have CW : dp_CW 9 (dq_shw (dl_nb G1 + 1) 9 0 110 (dl_T6 G1 T) (dl_T6 G1 T) dp_D0) := by rw [es]; exact dp_CW.none NC TW.1.tp (by decide)
    refine lz_aload_n (i := 1) C1 dL_law_45 (n := 46) rfl rfl rfl ?_
    refine lz_iload C1 dL_law_46 (n := 48) rfl (i := 4) rfl ?_
    refine lz_callSH C1 (hG.2.1 _) [] (cc_L_begin (K := (fun y u => (-1 : Int32) = y ∧ dq_Kf (dl_nb G1 + 1) 9 0 0 110 (dl_T6 G1 T) (dl_T6 G1 T) (dl_T6 G1 T) dp_D0 (fun _ => -2) (-1) u)) hG.2.2.2.1.1 hl hG.2.2.2.2.1 (bg _ _ _ _ K1 ⟨rfl, K1⟩)) yh_L_begin dk_wm_L_138 rfl ⟨by omega, by omega⟩ ⟨by omega, by omega⟩ rfl (Nat.le_of_ble_eq_true rfl) rfl dL_law_48 (n := 51) rfl (fun y5 τ5 hw5 => ?_)
    obtain ⟨_, rfl, rfl, M1⟩ := hw5
    refine lz_istore (i := 5) (L' := [some (.ref (dk_tL G1)), some (dk_r G1 0 40), some (dk_r G2 0 40), some (.int (nI (dl_nb G1))), some (.int (nI j)), some (.int (-1)), none]) C1 dL_law_51 (n := 53) rfl (dk_nc_of rfl) (Nat.le_of_ble_eq_true rfl) rfl ?_
    refine lz_aload_n (i := 2) C1 dL_law_53 (n := 54) rfl rfl rfl ?_
    refine lz_iload C1 dL_law_54 (n := 56) rfl (i := 4) rfl ?_
    refine lz_swap hG (lz_callSH C2 (hG.2.2.1 _) [] (cc_L_begin (K := (fun y u => (-1 : Int32) = y ∧ dq_Kf (dl_nb G1 + 1) 9 0 0 110 (dl_T6 G1 T) (dl_T6 G1 T) (dl_T6 G1 T) dp_D0 (fun _ => -2) (-1) u)) hG.2.2.2.1.2 hl hG.2.2.2.2.2 (bg _ _ _ _ K2 ⟨rfl, K2⟩)) yh_L_begin dk_wm_L_138 rfl ⟨by omega, by omega⟩ ⟨by omega, by omega⟩ rfl (Nat.le_of_ble_eq_true rfl) rfl dL_law_56 (n := 59) rfl (fun y6 τ6 hw6 => ?_))
    obtain ⟨_, rfl, rfl, M2⟩ := hw6
    refine lz_paws hG ?_
    refine lz_iload C1 dL_law_59 (n := 61) rfl (i := 5) rfl ?_
    refine lz_icmp_eq (t := 66) C1 dL_law_61 (n := 64) rfl (by decide) (fun _ => ?_) (fun g => absurd rfl g)
    refine lz_iload C1 dL_law_66 (n := 68) rfl (i := 5) rfl ?_
    refine lz_if_ge (t := 100) C1 dL_law_68 (n := 71) rfl (by decide) (fun g => absurd g (show ¬ (0 : Int32) ≤ -1 from by decide)) (fun _ => ?_)
    refine lz_aload_n (i := 1) C1 dL_law_71 (n := 72) rfl rfl rfl ?_
    refine lz_qState C1 (hG.2.1 _) hG.2.2.2.2.1 P M1 dk_wm_L_111 ⟨by omega, by omega⟩ ⟨by omega, by omega⟩ (Nat.le_of_ble_eq_true rfl) rfl dL_law_72 (n := 75) rfl ?_
    refine lz_bipush (v := 110) C1 dL_law_75 (n := 77) rfl (by decide) ?_
    refine lz_icmp_ne (t := 98) C1 dL_law_77 (n := 80) rfl (by decide) (fun g => absurd g (fun q => q rfl)) (fun _ => ?_)
    refine lz_aload_n (i := 1) C1 dL_law_80 (n := 81) rfl rfl rfl ?_
    refine lz_qTick C1 (hG.2.1 _) hG.2.2.2.2.1 M1 dk_wm_L_115 ⟨by omega, by omega⟩ ⟨by omega, by omega⟩ (Nat.le_of_ble_eq_true rfl) rfl dL_law_81 (n := 84) rfl ?_
    rw [hs0]
    refine lz_if_ne (t := 98) C1 dL_law_84 (n := 87) rfl (by decide) (fun g => absurd g (fun q => q rfl)) (fun _ => ?_)
    refine lz_aload_n (i := 1) C1 dL_law_87 (n := 88) rfl rfl rfl ?_
    refine lz_qThings0 C1 (hG.2.1 _) hG.2.2.2.2.1 hl P JW CW M1 dk_wm_L_130 ⟨by omega, by omega⟩ ⟨by omega, by omega⟩ (Nat.le_of_ble_eq_true rfl) rfl dL_law_88 (n := 91) rfl ?_
    refine lz_if_eq (t := 98) C1 dL_law_91 (n := 94) rfl (by decide) (fun g => absurd g (show ¬ (1 : Int32) = 0 from by decide)) (fun _ => ?_)
    refine lz_iconst (v := 1) C1 dL_law_94 (n := 95) rfl (by decide) ?_
    refine lz_goto (t := 99) C1 dL_law_95 (by decide) ?_
    exact fin 99 _ _ _ _ _ dL_law_99 (by omega) (by omega)
  · refine lz_aload_n (i := 1) C1 dL_law_45 (n := 46) rfl rfl rfl ?_
    refine lz_iload C1 dL_law_46 (n := 48) rfl (i := 4) rfl ?_
    refine lz_callSH C1 (hG.2.1 _) [] (cc_L_begin (K := (fun y u => nI τ = y ∧ ∃ r A, dq_Kf (dl_nb G1 + 1) 9 0 r z1 (dl_T6 G1 T) W1 A dp_D0 B1 p1 u)) hG.2.2.2.1.1 hl hG.2.2.2.2.1 (bg _ _ _ _ _ K1 (fun r A u hu => ⟨rfl, r, A, hu⟩))) yh_L_begin dk_wm_L_138 rfl ⟨by omega, by omega⟩ ⟨by omega, by omega⟩ rfl (Nat.le_of_ble_eq_true rfl) rfl dL_law_48 (n := 51) rfl (fun y5 τ5 hw5 => ?_)
    obtain ⟨_, rfl, rfl, q1, Q1, M1⟩ := hw5
    refine lz_istore (i := 5) (L' := [some (.ref (dk_tL G1)), some (dk_r G1 0 40), some (dk_r G2 0 40), some (.int (nI (dl_nb G1))), some (.int (nI j)), some (.int (nI τ)), none]) C1 dL_law_51 (n := 53) rfl (dk_nc_of rfl) (Nat.le_of_ble_eq_true rfl) rfl ?_
    refine lz_aload_n (i := 2) C1 dL_law_53 (n := 54) rfl rfl rfl ?_
    refine lz_iload C1 dL_law_54 (n := 56) rfl (i := 4) rfl ?_
    refine lz_swap hG (lz_callSH C2 (hG.2.2.1 _) [] (cc_L_begin (K := (fun y u => nI τ = y ∧ ∃ r A, dq_Kf (dl_nb G1 + 1) 9 0 r z1 (dl_T6 G1 T) W1 A dp_D0 B1 p1 u)) hG.2.2.2.1.2 hl hG.2.2.2.2.2 (bg _ _ _ _ _ K2 (fun r A u hu => ⟨rfl, r, A, hu⟩))) yh_L_begin dk_wm_L_138 rfl ⟨by omega, by omega⟩ ⟨by omega, by omega⟩ rfl (Nat.le_of_ble_eq_true rfl) rfl dL_law_56 (n := 59) rfl (fun y6 τ6 hw6 => ?_))
    obtain ⟨_, rfl, rfl, q2, Q2, M2⟩ := hw6
    refine lz_paws hG ?_
    refine lz_iload C1 dL_law_59 (n := 61) rfl (i := 5) rfl ?_
    refine lz_icmp_eq (t := 66) C1 dL_law_61 (n := 64) rfl (by decide) (fun _ => ?_) (fun g => absurd rfl g)
    refine lz_iload C1 dL_law_66 (n := 68) rfl (i := 5) rfl ?_
    refine lz_if_ge (t := 100) C1 dL_law_68 (n := 71) rfl (by decide) (fun _ => ?_) (fun g => absurd (mr_lt_le.1 (nI_pos (by omega))) g)
    exact cc_L_law_100 C1 C2 hG hl hN ⟨hR1, hR2, hR3, hR4⟩ rfl fw NC h1 hz1 M1 M2 (by omega) (by omega) fin
end LLW
