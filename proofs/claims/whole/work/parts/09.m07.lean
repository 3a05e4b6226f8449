/-! X9_goes -/
def wf_X9_goes (a1 : Int32) (a2 : Int32) (s : dk_S) (K : dk_S → Prop) : Prop :=
  ((¬ a2 = (-1) → (vp_in a2 144 ∧ ((¬ (s 4 75 a2.toNatClampNeg) = 43 → (vp_in a1 8 ∧ (∀ s1 : dk_S, s1 = dk_row s 4 76 (upd (s 4 76) a1.toNatClampNeg a2) → K s1))) ∧ ((s 4 75 a2.toNatClampNeg) = 43 → (vp_in a2 144 ∧ (∀ s2 : dk_S, s2 = dk_row s 4 75 (upd (s 4 75) a2.toNatClampNeg (vp_nar .char 47)) → K s2)))))) ∧ (a2 = (-1) → K s))
set_option maxRecDepth 20000 in
set_option maxHeartbeats 4000000 in
theorem cc_X9_goes {G : dk_G} {l : Launch} {a1 : Int32} {a2 : Int32} (hD : dk_D G) (hmi : dk_MI G) {s : dk_S} {K : dk_S → Prop} (h : wf_X9_goes a1 a2 s K) : dk_M G l 1 yX9_goes cX9_goes 3 none [dk_r G 4 60, .int a1, .int a2] s (dk_kv K) := by
  refine dk_of hD (by decide) [some (dk_r G 4 60), some (.int a1), some (.int a2)] (fun q hq => hq) rfl (Nat.le_of_ble_eq_true rfl) (fun P e S0 m args bel meth c C hr hlk => ?_)
  unfold wf_X9_goes at h
  refine dk_iload_n (i := 2) C dX9_goes_0 (n := 1) rfl rfl rfl ?_
  refine dk_iconst (v := (-1)) C dX9_goes_1 (n := 2) rfl (by decide) ?_
  refine dk_icmp_ne (t := 6) C dX9_goes_2 (n := 5) rfl (by decide) (fun c4 => ?_) (fun c4 => ?_)
  · have h := h.1 c4
    refine dk_aload_n (i := 0) C dX9_goes_6 (n := 7) rfl rfl rfl ?_
    refine gf_X9_62 C (hmi 60 (by decide) (by decide)) dX9_goes_7 (n := 10) rfl ?_
    refine dk_iload_n (i := 2) C dX9_goes_10 (n := 11) rfl rfl rfl ?_
    refine dk_cald C dk_sh75 h.1 (hmi 75 (by decide) (by decide)) dX9_goes_11 (n := 12) rfl ?_
    have h := h.2
    refine dk_bipush (v := 43) C dX9_goes_12 (n := 14) rfl (by decide) ?_
    refine dk_icmp_ne (t := 28) C dX9_goes_14 (n := 17) rfl (by decide) (fun c3 => ?_) (fun c3 => ?_)
    · have h := h.1 c3
      refine dk_aload_n (i := 0) C dX9_goes_28 (n := 29) rfl rfl rfl ?_
      refine gf_X9_65 C (hmi 60 (by decide) (by decide)) dX9_goes_29 (n := 32) rfl ?_
      refine dk_iload_n (i := 1) C dX9_goes_32 (n := 33) rfl rfl rfl ?_
      refine dk_iload_n (i := 2) C dX9_goes_33 (n := 34) rfl rfl rfl ?_
      refine dk_iast C dk_sh76 h.1 (hmi 76 (by decide) (by decide)) dX9_goes_34 (n := 35) rfl ?_
      refine dk_nameS (fun s1 es1 => ?_)
      have h := h.2 s1 es1
      exact dk_vret C hr hlk dX9_goes_35 ⟨rfl, h⟩
    · have h := h.2 c3
      refine dk_aload_n (i := 0) C dX9_goes_17 (n := 18) rfl rfl rfl ?_
      refine gf_X9_62 C (hmi 60 (by decide) (by decide)) dX9_goes_18 (n := 21) rfl ?_
      refine dk_iload_n (i := 2) C dX9_goes_21 (n := 22) rfl rfl rfl ?_
      refine dk_bipush (v := 47) C dX9_goes_22 (n := 24) rfl (by decide) ?_
      refine dk_cast C dk_sh75 h.1 (hmi 75 (by decide) (by decide)) dX9_goes_24 (n := 25) rfl ?_
      refine dk_nameS (fun s2 es2 => ?_)
      have h := h.2 s2 es2
      refine dk_goto (t := 35) C dX9_goes_25 (by decide) ?_
      exact dk_vret C hr hlk dX9_goes_35 ⟨rfl, h⟩
  · have h := h.2 c4
    exact dk_vret C hr hlk dX9_goes_5 ⟨rfl, h⟩
/-! X9_beastTurns -/
def wf_X9_beastTurns_143  (K : dk_S → Prop) (x1 : Int32) (s : dk_S) : Prop :=
  (vp_in x1 8 ∧ (vp_in x1 8 ∧ ((¬ (s 4 76 x1.toNatClampNeg) = (s 4 81 x1.toNatClampNeg) → K s) ∧ ((s 4 76 x1.toNatClampNeg) = (s 4 81 x1.toNatClampNeg) → (vp_in x1 8 ∧ (vp_in 0 8 ∧ wf_X9_sees (s 4 76 x1.toNatClampNeg) (s 4 76 0.toNatClampNeg) s (fun r22 s21 => ((¬ r22 = 0 → K s21) ∧ (r22 = 0 → (vp_in x1 8 ∧ (∀ s23 : dk_S, s23 = dk_row s21 4 81 (upd (s21 4 81) x1.toNatClampNeg (-1)) → K s23)))))))))))
def wf_X9_beastTurns_77  (K : dk_S → Prop) (x1 : Int32) (y0 : Int32) (s : dk_S) : Prop :=
  ((¬ y0 = 0 → wf_X9_chosen x1 y0 s (fun r9 s8 => wf_X9_goes x1 r9 s8 (fun s10 => wf_X9_beastTurns_143 K x1 s10))) ∧ (y0 = 0 → (vp_in x1 8 ∧ (vp_in 0 8 ∧ wf_X9_isBeside (s 4 76 x1.toNatClampNeg) (s 4 76 0.toNatClampNeg) s (fun r12 s11 => ((r12 = 0 → wf_X9_chosen x1 y0 s11 (fun r14 s13 => wf_X9_goes x1 r14 s13 (fun s15 => wf_X9_beastTurns_143 K x1 s15))) ∧ (¬ r12 = 0 → (vp_in 0 8 ∧ (vp_in x1 8 ∧ (vp_in 0 8 ∧ (∀ s16 : dk_S, s16 = dk_row s11 4 77 (upd (s11 4 77) 0.toNatClampNeg ((s11 4 77 0.toNatClampNeg) - (s11 4 69 x1.toNatClampNeg))) → (vp_in 0 8 ∧ wf_X9_sounds (s16 4 76 0.toNatClampNeg) 6 s16 (fun r18 s17 => wf_X9_beastTurns_143 K x1 s17)))))))))))))
def wf_X9_beastTurns_31  (K : dk_S → Prop) (x1 : Int32) (s : dk_S) : Prop :=
  (vp_in x1 8 ∧ ((¬ (s 4 81 x1.toNatClampNeg) = (-1) → (vp_in x1 8 ∧ wf_X9_findsSteps (s 4 81 x1.toNatClampNeg) 1 100000 s (fun s5 => (vp_in x1 8 ∧ (vp_in x1 8 ∧ (((s5 4 70 x1.toNatClampNeg) ≤ (3 * (s5 4 77 x1.toNatClampNeg)) → wf_X9_beastTurns_77 K x1 0 s5) ∧ (¬ (s5 4 70 x1.toNatClampNeg) ≤ (3 * (s5 4 77 x1.toNatClampNeg)) → wf_X9_beastTurns_77 K x1 1 s5))))))) ∧ ((s 4 81 x1.toNatClampNeg) = (-1) → K s)))
def wf_X9_beastTurns (a1 : Int32) (s : dk_S) (K : dk_S → Prop) : Prop :=
  (vp_in a1 8 ∧ (vp_in 0 8 ∧ wf_X9_sees (s 4 76 a1.toNatClampNeg) (s 4 76 0.toNatClampNeg) s (fun r2 s1 => ((r2 = 0 → wf_X9_beastTurns_31 K a1 s1) ∧ (¬ r2 = 0 → (vp_in 0 8 ∧ (vp_in a1 8 ∧ (∀ s3 : dk_S, s3 = dk_row s1 4 81 (upd (s1 4 81) a1.toNatClampNeg (s1 4 76 0.toNatClampNeg)) → wf_X9_beastTurns_31 K a1 s3))))))))
set_option maxRecDepth 20000 in
set_option maxHeartbeats 4000000 in
theorem ww_X9_beastTurns_143 {G : dk_G} {P : Program} {l : Launch} {e : Env} {S0 : State} {m : MethodId} {args : Array Value} {bel : List Frame} {meth : Method} {c : Code}  (C : dk_C G P (dk_rm 6) S0 m args c 0 0 cX9_beastTurns 4 RX9) (hr : meth.sig.returnType = none) (hlk : meth.locks = false) (hmi : dk_MI G) {K : dk_S → Prop}  : ∀ (x1 : Int32) (s : dk_S), wf_X9_beastTurns_143 K x1 s → dk_W G P l e (dk_rm 6) S0 m args bel meth c 0 0 (MQ bel (dk_Qc G (dk_kv K)) args S0 0 0 (dk_A G)) 143 [some (dk_r G 4 60), some (.int x1), none, none] [] s := by
  intro x1 s h
  unfold wf_X9_beastTurns_143 at h
  refine dk_aload_n (i := 0) C dX9_beastTurns_143 (n := 144) rfl rfl rfl ?_
  refine gf_X9_65 C (hmi 60 (by decide) (by decide)) dX9_beastTurns_144 (n := 147) rfl ?_
  refine dk_iload_n (i := 1) C dX9_beastTurns_147 (n := 148) rfl rfl rfl ?_
  refine dk_iald C dk_sh76 h.1 (hmi 76 (by decide) (by decide)) dX9_beastTurns_148 (n := 149) rfl ?_
  have h := h.2
  refine dk_aload_n (i := 0) C dX9_beastTurns_149 (n := 150) rfl rfl rfl ?_
  refine gf_X9_80 C (hmi 60 (by decide) (by decide)) dX9_beastTurns_150 (n := 153) rfl ?_
  refine dk_iload_n (i := 1) C dX9_beastTurns_153 (n := 154) rfl rfl rfl ?_
  refine dk_iald C dk_sh81 h.1 (hmi 81 (by decide) (by decide)) dX9_beastTurns_154 (n := 155) rfl ?_
  have h := h.2
  refine dk_icmp_ne (t := 184) C dX9_beastTurns_155 (n := 158) rfl (by decide) (fun c25 => ?_) (fun c25 => ?_)
  · have h := h.1 c25
    exact dk_vret C hr hlk dX9_beastTurns_184 ⟨rfl, h⟩
  · have h := h.2 c25
    refine dk_aload_n (i := 0) C dX9_beastTurns_158 (n := 159) rfl rfl rfl ?_
    refine dk_aload_n (i := 0) C dX9_beastTurns_159 (n := 160) rfl rfl rfl ?_
    refine gf_X9_65 C (hmi 60 (by decide) (by decide)) dX9_beastTurns_160 (n := 163) rfl ?_
    refine dk_iload_n (i := 1) C dX9_beastTurns_163 (n := 164) rfl rfl rfl ?_
    refine dk_iald C dk_sh76 h.1 (hmi 76 (by decide) (by decide)) dX9_beastTurns_164 (n := 165) rfl ?_
    have h := h.2
    refine dk_aload_n (i := 0) C dX9_beastTurns_165 (n := 166) rfl rfl rfl ?_
    refine gf_X9_65 C (hmi 60 (by decide) (by decide)) dX9_beastTurns_166 (n := 169) rfl ?_
    refine dk_iconst (v := 0) C dX9_beastTurns_169 (n := 170) rfl (by decide) ?_
    refine dk_iald C dk_sh76 h.1 (hmi 76 (by decide) (by decide)) dX9_beastTurns_170 (n := 171) rfl ?_
    have h := h.2
    refine dk_callVi C [] (cc_X9_sees C.D hmi h) yy_X9_sees dk_wm_X9_180 dk_sh60 (hmi 60 (by decide) (by decide)) dX9_beastTurns_171 (fun r22 s21 h => ?_) rfl rfl ⟨Nat.le_of_ble_eq_true rfl, Nat.le_of_ble_eq_true rfl⟩ rfl (Nat.le_of_ble_eq_true rfl) rfl (n := 174) rfl
    refine dk_if_ne (t := 184) C dX9_beastTurns_174 (n := 177) rfl (by decide) (fun c24 => ?_) (fun c24 => ?_)
    · have h := h.1 c24
      exact dk_vret C hr hlk dX9_beastTurns_184 ⟨rfl, h⟩
    · have h := h.2 c24
      refine dk_aload_n (i := 0) C dX9_beastTurns_177 (n := 178) rfl rfl rfl ?_
      refine gf_X9_80 C (hmi 60 (by decide) (by decide)) dX9_beastTurns_178 (n := 181) rfl ?_
      refine dk_iload_n (i := 1) C dX9_beastTurns_181 (n := 182) rfl rfl rfl ?_
      refine dk_iconst (v := (-1)) C dX9_beastTurns_182 (n := 183) rfl (by decide) ?_
      refine dk_iast C dk_sh81 h.1 (hmi 81 (by decide) (by decide)) dX9_beastTurns_183 (n := 184) rfl ?_
      refine dk_nameS (fun s23 es23 => ?_)
      have h := h.2 s23 es23
      exact dk_vret C hr hlk dX9_beastTurns_184 ⟨rfl, h⟩
set_option maxRecDepth 20000 in
set_option maxHeartbeats 4000000 in
theorem ww_X9_beastTurns_77 {G : dk_G} {P : Program} {l : Launch} {e : Env} {S0 : State} {m : MethodId} {args : Array Value} {bel : List Frame} {meth : Method} {c : Code}  (C : dk_C G P (dk_rm 6) S0 m args c 0 0 cX9_beastTurns 4 RX9) (hr : meth.sig.returnType = none) (hlk : meth.locks = false) (hmi : dk_MI G) {K : dk_S → Prop}  : ∀ (x1 : Int32) (y0 : Int32) (s : dk_S), wf_X9_beastTurns_77 K x1 y0 s → dk_W G P l e (dk_rm 6) S0 m args bel meth c 0 0 (MQ bel (dk_Qc G (dk_kv K)) args S0 0 0 (dk_A G)) 77 [some (dk_r G 4 60), some (.int x1), none, none] [.int y0] s := by
  intro x1 y0 s h
  unfold wf_X9_beastTurns_77 at h
  refine dk_istore_n (i := 2) (L' := [some (dk_r G 4 60), some (.int x1), some (.int y0), none]) C dX9_beastTurns_77 (n := 78) rfl rfl (dk_nc_of rfl) (Nat.le_of_ble_eq_true rfl) rfl ?_
  refine dk_iload_n (i := 2) C dX9_beastTurns_78 (n := 79) rfl rfl rfl ?_
  refine dk_if_ne (t := 132) C dX9_beastTurns_79 (n := 82) rfl (by decide) (fun c20 => ?_) (fun c20 => ?_)
  · have h := h.1 c20
    refine dk_aload_n (i := 0) C dX9_beastTurns_132 (n := 133) rfl rfl rfl ?_
    refine dk_iload_n (i := 1) C dX9_beastTurns_133 (n := 134) rfl rfl rfl ?_
    refine dk_aload_n (i := 0) C dX9_beastTurns_134 (n := 135) rfl rfl rfl ?_
    refine dk_iload_n (i := 1) C dX9_beastTurns_135 (n := 136) rfl rfl rfl ?_
    refine dk_iload_n (i := 2) C dX9_beastTurns_136 (n := 137) rfl rfl rfl ?_
    refine dk_callVi C [.int x1, dk_r G 4 60] (cc_X9_chosen C.D hmi h) yy_X9_chosen dk_wm_X9_241 dk_sh60 (hmi 60 (by decide) (by decide)) dX9_beastTurns_137 (fun r9 s8 h => ?_) rfl rfl ⟨Nat.le_of_ble_eq_true rfl, Nat.le_of_ble_eq_true rfl⟩ rfl (Nat.le_of_ble_eq_true rfl) rfl (n := 140) rfl
    refine dk_callVv C [] (cc_X9_goes C.D hmi h) yy_X9_goes dk_wm_X9_245 dk_sh60 (hmi 60 (by decide) (by decide)) dX9_beastTurns_140 (fun s10 h => ?_) rfl rfl ⟨Nat.le_of_ble_eq_true rfl, Nat.le_of_ble_eq_true rfl⟩ rfl (Nat.le_of_ble_eq_true rfl) rfl (n := 143) rfl
    refine dk_sub (L0 := [some (dk_r G 4 60), some (.int x1), none, none]) ⟨rfl, ⟨rfl, trivial⟩⟩ ?_
    exact ww_X9_beastTurns_143 C hr hlk hmi  x1 s10 h
  · have h := h.2 c20
    refine dk_aload_n (i := 0) C dX9_beastTurns_82 (n := 83) rfl rfl rfl ?_
    refine dk_aload_n (i := 0) C dX9_beastTurns_83 (n := 84) rfl rfl rfl ?_
    refine gf_X9_65 C (hmi 60 (by decide) (by decide)) dX9_beastTurns_84 (n := 87) rfl ?_
    refine dk_iload_n (i := 1) C dX9_beastTurns_87 (n := 88) rfl rfl rfl ?_
    refine dk_iald C dk_sh76 h.1 (hmi 76 (by decide) (by decide)) dX9_beastTurns_88 (n := 89) rfl ?_
    have h := h.2
    refine dk_aload_n (i := 0) C dX9_beastTurns_89 (n := 90) rfl rfl rfl ?_
    refine gf_X9_65 C (hmi 60 (by decide) (by decide)) dX9_beastTurns_90 (n := 93) rfl ?_
    refine dk_iconst (v := 0) C dX9_beastTurns_93 (n := 94) rfl (by decide) ?_
    refine dk_iald C dk_sh76 h.1 (hmi 76 (by decide) (by decide)) dX9_beastTurns_94 (n := 95) rfl ?_
    have h := h.2
    refine dk_callVi C [] (cc_X9_isBeside C.D hmi h) yy_X9_isBeside dk_wm_X9_235 dk_sh60 (hmi 60 (by decide) (by decide)) dX9_beastTurns_95 (fun r12 s11 h => ?_) rfl rfl ⟨Nat.le_of_ble_eq_true rfl, Nat.le_of_ble_eq_true rfl⟩ rfl (Nat.le_of_ble_eq_true rfl) rfl (n := 98) rfl
    refine dk_if_eq (t := 132) C dX9_beastTurns_98 (n := 101) rfl (by decide) (fun c19 => ?_) (fun c19 => ?_)
    · have h := h.1 c19
      refine dk_aload_n (i := 0) C dX9_beastTurns_132 (n := 133) rfl rfl rfl ?_
      refine dk_iload_n (i := 1) C dX9_beastTurns_133 (n := 134) rfl rfl rfl ?_
      refine dk_aload_n (i := 0) C dX9_beastTurns_134 (n := 135) rfl rfl rfl ?_
      refine dk_iload_n (i := 1) C dX9_beastTurns_135 (n := 136) rfl rfl rfl ?_
      refine dk_iload_n (i := 2) C dX9_beastTurns_136 (n := 137) rfl rfl rfl ?_
      refine dk_callVi C [.int x1, dk_r G 4 60] (cc_X9_chosen C.D hmi h) yy_X9_chosen dk_wm_X9_241 dk_sh60 (hmi 60 (by decide) (by decide)) dX9_beastTurns_137 (fun r14 s13 h => ?_) rfl rfl ⟨Nat.le_of_ble_eq_true rfl, Nat.le_of_ble_eq_true rfl⟩ rfl (Nat.le_of_ble_eq_true rfl) rfl (n := 140) rfl
      refine dk_callVv C [] (cc_X9_goes C.D hmi h) yy_X9_goes dk_wm_X9_245 dk_sh60 (hmi 60 (by decide) (by decide)) dX9_beastTurns_140 (fun s15 h => ?_) rfl rfl ⟨Nat.le_of_ble_eq_true rfl, Nat.le_of_ble_eq_true rfl⟩ rfl (Nat.le_of_ble_eq_true rfl) rfl (n := 143) rfl
      refine dk_sub (L0 := [some (dk_r G 4 60), some (.int x1), none, none]) ⟨rfl, ⟨rfl, trivial⟩⟩ ?_
      exact ww_X9_beastTurns_143 C hr hlk hmi  x1 s15 h
    · have h := h.2 c19
      refine dk_aload_n (i := 0) C dX9_beastTurns_101 (n := 102) rfl rfl rfl ?_
      refine gf_X9_68 C (hmi 60 (by decide) (by decide)) dX9_beastTurns_102 (n := 105) rfl ?_
      refine dk_iconst (v := 0) C dX9_beastTurns_105 (n := 106) rfl (by decide) ?_
      refine dk_dup2 C dX9_beastTurns_106 (n := 107) rfl rfl rfl ?_
      refine dk_iald C dk_sh77 h.1 (hmi 77 (by decide) (by decide)) dX9_beastTurns_107 (n := 108) rfl ?_
      have h := h.2
      refine dk_aload_n (i := 0) C dX9_beastTurns_108 (n := 109) rfl rfl rfl ?_
      refine gf_X9_44 C (hmi 60 (by decide) (by decide)) dX9_beastTurns_109 (n := 112) rfl ?_
      refine dk_iload_n (i := 1) C dX9_beastTurns_112 (n := 113) rfl rfl rfl ?_
      refine dk_iald C dk_sh69 h.1 (hmi 69 (by decide) (by decide)) dX9_beastTurns_113 (n := 114) rfl ?_
      have h := h.2
      refine dk_isub C dX9_beastTurns_114 (n := 115) rfl ?_
      refine dk_iast C dk_sh77 h.1 (hmi 77 (by decide) (by decide)) dX9_beastTurns_115 (n := 116) rfl ?_
      refine dk_nameS (fun s16 es16 => ?_)
      have h := h.2 s16 es16
      refine dk_aload_n (i := 0) C dX9_beastTurns_116 (n := 117) rfl rfl rfl ?_
      refine dk_aload_n (i := 0) C dX9_beastTurns_117 (n := 118) rfl rfl rfl ?_
      refine gf_X9_65 C (hmi 60 (by decide) (by decide)) dX9_beastTurns_118 (n := 121) rfl ?_
      refine dk_iconst (v := 0) C dX9_beastTurns_121 (n := 122) rfl (by decide) ?_
      refine dk_iald C dk_sh76 h.1 (hmi 76 (by decide) (by decide)) dX9_beastTurns_122 (n := 123) rfl ?_
      have h := h.2
      refine dk_bipush (v := 6) C dX9_beastTurns_123 (n := 125) rfl (by decide) ?_
      refine dk_callVi C [] (cc_X9_sounds C.D hmi h) yy_X9_sounds dk_wm_X9_238 dk_sh60 (hmi 60 (by decide) (by decide)) dX9_beastTurns_125 (fun r18 s17 h => ?_) rfl rfl ⟨Nat.le_of_ble_eq_true rfl, Nat.le_of_ble_eq_true rfl⟩ rfl (Nat.le_of_ble_eq_true rfl) rfl (n := 128) rfl
      refine dk_istore_n (i := 3) (L' := [some (dk_r G 4 60), some (.int x1), some (.int y0), some (.int r18)]) C dX9_beastTurns_128 (n := 129) rfl rfl (dk_nc_of rfl) (Nat.le_of_ble_eq_true rfl) rfl ?_
      refine dk_goto (t := 143) C dX9_beastTurns_129 (by decide) ?_
      refine dk_sub (L0 := [some (dk_r G 4 60), some (.int x1), none, none]) ⟨rfl, ⟨rfl, trivial⟩⟩ ?_
      exact ww_X9_beastTurns_143 C hr hlk hmi  x1 s17 h
set_option maxRecDepth 20000 in
set_option maxHeartbeats 4000000 in
theorem ww_X9_beastTurns_31 {G : dk_G} {P : Program} {l : Launch} {e : Env} {S0 : State} {m : MethodId} {args : Array Value} {bel : List Frame} {meth : Method} {c : Code}  (C : dk_C G P (dk_rm 6) S0 m args c 0 0 cX9_beastTurns 4 RX9) (hr : meth.sig.returnType = none) (hlk : meth.locks = false) (hmi : dk_MI G) {K : dk_S → Prop}  : ∀ (x1 : Int32) (s : dk_S), wf_X9_beastTurns_31 K x1 s → dk_W G P l e (dk_rm 6) S0 m args bel meth c 0 0 (MQ bel (dk_Qc G (dk_kv K)) args S0 0 0 (dk_A G)) 31 [some (dk_r G 4 60), some (.int x1), none, none] [] s := by
  intro x1 s h
  unfold wf_X9_beastTurns_31 at h
  refine dk_aload_n (i := 0) C dX9_beastTurns_31 (n := 32) rfl rfl rfl ?_
  refine gf_X9_80 C (hmi 60 (by decide) (by decide)) dX9_beastTurns_32 (n := 35) rfl ?_
  refine dk_iload_n (i := 1) C dX9_beastTurns_35 (n := 36) rfl rfl rfl ?_
  refine dk_iald C dk_sh81 h.1 (hmi 81 (by decide) (by decide)) dX9_beastTurns_36 (n := 37) rfl ?_
  have h := h.2
  refine dk_iconst (v := (-1)) C dX9_beastTurns_37 (n := 38) rfl (by decide) ?_
  refine dk_icmp_ne (t := 42) C dX9_beastTurns_38 (n := 41) rfl (by decide) (fun c7 => ?_) (fun c7 => ?_)
  · have h := h.1 c7
    refine dk_aload_n (i := 0) C dX9_beastTurns_42 (n := 43) rfl rfl rfl ?_
    refine dk_aload_n (i := 0) C dX9_beastTurns_43 (n := 44) rfl rfl rfl ?_
    refine gf_X9_80 C (hmi 60 (by decide) (by decide)) dX9_beastTurns_44 (n := 47) rfl ?_
    refine dk_iload_n (i := 1) C dX9_beastTurns_47 (n := 48) rfl rfl rfl ?_
    refine dk_iald C dk_sh81 h.1 (hmi 81 (by decide) (by decide)) dX9_beastTurns_48 (n := 49) rfl ?_
    have h := h.2
    refine dk_iconst (v := 1) C dX9_beastTurns_49 (n := 50) rfl (by decide) ?_
    refine dk_ldc (v := 100000) C dX9_beastTurns_50 (n := 52) rfl dk_wk_X9_189 ?_
    refine dk_callVv C [] (cc_X9_findsSteps C.D hmi h) yy_X9_findsSteps dk_wm_X9_196 dk_sh60 (hmi 60 (by decide) (by decide)) dX9_beastTurns_52 (fun s5 h => ?_) rfl rfl ⟨Nat.le_of_ble_eq_true rfl, Nat.le_of_ble_eq_true rfl⟩ rfl (Nat.le_of_ble_eq_true rfl) rfl (n := 55) rfl
    refine dk_iconst (v := 3) C dX9_beastTurns_55 (n := 56) rfl (by decide) ?_
    refine dk_aload_n (i := 0) C dX9_beastTurns_56 (n := 57) rfl rfl rfl ?_
    refine gf_X9_68 C (hmi 60 (by decide) (by decide)) dX9_beastTurns_57 (n := 60) rfl ?_
    refine dk_iload_n (i := 1) C dX9_beastTurns_60 (n := 61) rfl rfl rfl ?_
    refine dk_iald C dk_sh77 h.1 (hmi 77 (by decide) (by decide)) dX9_beastTurns_61 (n := 62) rfl ?_
    have h := h.2
    refine dk_imul C dX9_beastTurns_62 (n := 63) rfl ?_
    refine dk_aload_n (i := 0) C dX9_beastTurns_63 (n := 64) rfl rfl rfl ?_
    refine gf_X9_47 C (hmi 60 (by decide) (by decide)) dX9_beastTurns_64 (n := 67) rfl ?_
    refine dk_iload_n (i := 1) C dX9_beastTurns_67 (n := 68) rfl rfl rfl ?_
    refine dk_iald C dk_sh70 h.1 (hmi 70 (by decide) (by decide)) dX9_beastTurns_68 (n := 69) rfl ?_
    have h := h.2
    refine dk_icmp_ge (t := 76) C dX9_beastTurns_69 (n := 72) rfl (by decide) (fun c6 => ?_) (fun c6 => ?_)
    · have h := h.1 c6
      refine dk_iconst (v := 0) C dX9_beastTurns_76 (n := 77) rfl (by decide) ?_
      refine dk_sub (L0 := [some (dk_r G 4 60), some (.int x1), none, none]) ⟨rfl, ⟨rfl, trivial⟩⟩ ?_
      exact ww_X9_beastTurns_77 C hr hlk hmi  x1 0 s5 h
    · have h := h.2 c6
      refine dk_iconst (v := 1) C dX9_beastTurns_72 (n := 73) rfl (by decide) ?_
      refine dk_goto (t := 77) C dX9_beastTurns_73 (by decide) ?_
      refine dk_sub (L0 := [some (dk_r G 4 60), some (.int x1), none, none]) ⟨rfl, ⟨rfl, trivial⟩⟩ ?_
      exact ww_X9_beastTurns_77 C hr hlk hmi  x1 1 s5 h
  · have h := h.2 c7
    exact dk_vret C hr hlk dX9_beastTurns_41 ⟨rfl, h⟩
set_option maxRecDepth 20000 in
set_option maxHeartbeats 4000000 in
theorem cc_X9_beastTurns {G : dk_G} {l : Launch} {a1 : Int32} (hD : dk_D G) (hmi : dk_MI G) {s : dk_S} {K : dk_S → Prop} (h : wf_X9_beastTurns a1 s K) : dk_M G l 6 yX9_beastTurns cX9_beastTurns 4 none [dk_r G 4 60, .int a1] s (dk_kv K) := by
  refine dk_of hD (by decide) [some (dk_r G 4 60), some (.int a1), none, none] (fun q hq => hq) rfl (Nat.le_of_ble_eq_true rfl) (fun P e S0 m args bel meth c C hr hlk => ?_)
  unfold wf_X9_beastTurns at h
  refine dk_aload_n (i := 0) C dX9_beastTurns_0 (n := 1) rfl rfl rfl ?_
  refine dk_aload_n (i := 0) C dX9_beastTurns_1 (n := 2) rfl rfl rfl ?_
  refine gf_X9_65 C (hmi 60 (by decide) (by decide)) dX9_beastTurns_2 (n := 5) rfl ?_
  refine dk_iload_n (i := 1) C dX9_beastTurns_5 (n := 6) rfl rfl rfl ?_
  refine dk_iald C dk_sh76 h.1 (hmi 76 (by decide) (by decide)) dX9_beastTurns_6 (n := 7) rfl ?_
  have h := h.2
  refine dk_aload_n (i := 0) C dX9_beastTurns_7 (n := 8) rfl rfl rfl ?_
  refine gf_X9_65 C (hmi 60 (by decide) (by decide)) dX9_beastTurns_8 (n := 11) rfl ?_
  refine dk_iconst (v := 0) C dX9_beastTurns_11 (n := 12) rfl (by decide) ?_
  refine dk_iald C dk_sh76 h.1 (hmi 76 (by decide) (by decide)) dX9_beastTurns_12 (n := 13) rfl ?_
  have h := h.2
  refine dk_callVi C [] (cc_X9_sees C.D hmi h) yy_X9_sees dk_wm_X9_180 dk_sh60 (hmi 60 (by decide) (by decide)) dX9_beastTurns_13 (fun r2 s1 h => ?_) rfl rfl ⟨Nat.le_of_ble_eq_true rfl, Nat.le_of_ble_eq_true rfl⟩ rfl (Nat.le_of_ble_eq_true rfl) rfl (n := 16) rfl
  refine dk_if_eq (t := 31) C dX9_beastTurns_16 (n := 19) rfl (by decide) (fun c4 => ?_) (fun c4 => ?_)
  · have h := h.1 c4
    refine dk_sub (L0 := [some (dk_r G 4 60), some (.int a1), none, none]) ⟨rfl, ⟨rfl, trivial⟩⟩ ?_
    exact ww_X9_beastTurns_31 C hr hlk hmi  a1 s1 h
  · have h := h.2 c4
    refine dk_aload_n (i := 0) C dX9_beastTurns_19 (n := 20) rfl rfl rfl ?_
    refine gf_X9_80 C (hmi 60 (by decide) (by decide)) dX9_beastTurns_20 (n := 23) rfl ?_
    refine dk_iload_n (i := 1) C dX9_beastTurns_23 (n := 24) rfl rfl rfl ?_
    refine dk_aload_n (i := 0) C dX9_beastTurns_24 (n := 25) rfl rfl rfl ?_
    refine gf_X9_65 C (hmi 60 (by decide) (by decide)) dX9_beastTurns_25 (n := 28) rfl ?_
    refine dk_iconst (v := 0) C dX9_beastTurns_28 (n := 29) rfl (by decide) ?_
    refine dk_iald C dk_sh76 h.1 (hmi 76 (by decide) (by decide)) dX9_beastTurns_29 (n := 30) rfl ?_
    have h := h.2
    refine dk_iast C dk_sh81 h.1 (hmi 81 (by decide) (by decide)) dX9_beastTurns_30 (n := 31) rfl ?_
    refine dk_nameS (fun s3 es3 => ?_)
    have h := h.2 s3 es3
    refine dk_sub (L0 := [some (dk_r G 4 60), some (.int a1), none, none]) ⟨rfl, ⟨rfl, trivial⟩⟩ ?_
    exact ww_X9_beastTurns_31 C hr hlk hmi  a1 s3 h
/-! X9_goesToHero -/
def wf_X9_goesToHero_0  (K : dk_S → Prop) : Nat → dk_S → Prop
  | 0, _ => False
  | n + 1, s => wf_X9_isOn s (fun r3 s2 => ((r3 = 0 → K s2) ∧ (¬ r3 = 0 → wf_X9_nextTurn s2 (fun r5 s4 => ((¬ r5 = 0 → ((¬ r5 = (-1) → (vp_in r5 8 ∧ (vp_in r5 8 ∧ (∀ s6 : dk_S, s6 = dk_row s4 4 78 (upd (s4 4 78) r5.toNatClampNeg ((s4 4 78 r5.toNatClampNeg) - 12)) → wf_X9_beastTurns r5 s6 (fun s7 => wf_X9_isWorldOver s7 (fun r9 s8 => wf_X9_goesToHero_0 K n s8)))))) ∧ (r5 = (-1) → wf_X9_ticks s4 (fun s10 => wf_X9_goesToHero_0 K n s10)))) ∧ (r5 = 0 → K s4))))))
def wf_X9_goesToHero  (s : dk_S) (K : dk_S → Prop) : Prop :=
  ∃ nn1 : Nat, wf_X9_goesToHero_0 K nn1 s
set_option maxRecDepth 20000 in
set_option maxHeartbeats 4000000 in
theorem ww_X9_goesToHero_0 {G : dk_G} {P : Program} {l : Launch} {e : Env} {S0 : State} {m : MethodId} {args : Array Value} {bel : List Frame} {meth : Method} {c : Code}  (C : dk_C G P (dk_rm 7) S0 m args c 0 0 cX9_goesToHero 3 RX9) (hr : meth.sig.returnType = none) (hlk : meth.locks = false) (hmi : dk_MI G) {K : dk_S → Prop}  : ∀ (n : Nat)  (s : dk_S), wf_X9_goesToHero_0 K n  s → dk_W G P l e (dk_rm 7) S0 m args bel meth c 0 0 (MQ bel (dk_Qc G (dk_kv K)) args S0 0 0 (dk_A G)) 0 [some (dk_r G 4 60), none, none] [] s := by
  intro n
  induction n with
  | zero => intro s h; exact False.elim h
  | succ n hB =>
    intro s h
    unfold wf_X9_goesToHero_0 at h
    refine dk_aload_n (i := 0) C dX9_goesToHero_0 (n := 1) rfl rfl rfl ?_
    refine dk_callVi C [] (cc_X9_isOn C.D hmi h) yy_X9_isOn dk_wm_X9_145 dk_sh60 (hmi 60 (by decide) (by decide)) dX9_goesToHero_1 (fun r3 s2 h => ?_) rfl rfl ⟨Nat.le_of_ble_eq_true rfl, Nat.le_of_ble_eq_true rfl⟩ rfl (Nat.le_of_ble_eq_true rfl) rfl (n := 4) rfl
    refine dk_if_eq (t := 53) C dX9_goesToHero_4 (n := 7) rfl (by decide) (fun c13 => ?_) (fun c13 => ?_)
    · have h := h.1 c13
      exact dk_vret C hr hlk dX9_goesToHero_53 ⟨rfl, h⟩
    · have h := h.2 c13
      refine dk_aload_n (i := 0) C dX9_goesToHero_7 (n := 8) rfl rfl rfl ?_
      refine dk_callVi C [] (cc_X9_nextTurn C.D hmi h) yy_X9_nextTurn dk_wm_X9_212 dk_sh60 (hmi 60 (by decide) (by decide)) dX9_goesToHero_8 (fun r5 s4 h => ?_) rfl rfl ⟨Nat.le_of_ble_eq_true rfl, Nat.le_of_ble_eq_true rfl⟩ rfl (Nat.le_of_ble_eq_true rfl) rfl (n := 11) rfl
      refine dk_istore_n (i := 1) (L' := [some (dk_r G 4 60), some (.int r5), none]) C dX9_goesToHero_11 (n := 12) rfl rfl (dk_nc_of rfl) (Nat.le_of_ble_eq_true rfl) rfl ?_
      refine dk_iload_n (i := 1) C dX9_goesToHero_12 (n := 13) rfl rfl rfl ?_
      refine dk_if_ne (t := 17) C dX9_goesToHero_13 (n := 16) rfl (by decide) (fun c12 => ?_) (fun c12 => ?_)
      · have h := h.1 c12
        refine dk_iload_n (i := 1) C dX9_goesToHero_17 (n := 18) rfl rfl rfl ?_
        refine dk_iconst (v := (-1)) C dX9_goesToHero_18 (n := 19) rfl (by decide) ?_
        refine dk_icmp_ne (t := 29) C dX9_goesToHero_19 (n := 22) rfl (by decide) (fun c11 => ?_) (fun c11 => ?_)
        · have h := h.1 c11
          refine dk_aload_n (i := 0) C dX9_goesToHero_29 (n := 30) rfl rfl rfl ?_
          refine gf_X9_71 C (hmi 60 (by decide) (by decide)) dX9_goesToHero_30 (n := 33) rfl ?_
          refine dk_iload_n (i := 1) C dX9_goesToHero_33 (n := 34) rfl rfl rfl ?_
          refine dk_dup2 C dX9_goesToHero_34 (n := 35) rfl rfl rfl ?_
          refine dk_iald C dk_sh78 h.1 (hmi 78 (by decide) (by decide)) dX9_goesToHero_35 (n := 36) rfl ?_
          have h := h.2
          refine dk_bipush (v := 12) C dX9_goesToHero_36 (n := 38) rfl (by decide) ?_
          refine dk_isub C dX9_goesToHero_38 (n := 39) rfl ?_
          refine dk_iast C dk_sh78 h.1 (hmi 78 (by decide) (by decide)) dX9_goesToHero_39 (n := 40) rfl ?_
          refine dk_nameS (fun s6 es6 => ?_)
          have h := h.2 s6 es6
          refine dk_aload_n (i := 0) C dX9_goesToHero_40 (n := 41) rfl rfl rfl ?_
          refine dk_iload_n (i := 1) C dX9_goesToHero_41 (n := 42) rfl rfl rfl ?_
          refine dk_callVv C [] (cc_X9_beastTurns C.D hmi h) yy_X9_beastTurns dk_wm_X9_219 dk_sh60 (hmi 60 (by decide) (by decide)) dX9_goesToHero_42 (fun s7 h => ?_) rfl rfl ⟨Nat.le_of_ble_eq_true rfl, Nat.le_of_ble_eq_true rfl⟩ rfl (Nat.le_of_ble_eq_true rfl) rfl (n := 45) rfl
          refine dk_aload_n (i := 0) C dX9_goesToHero_45 (n := 46) rfl rfl rfl ?_
          refine dk_callVi C [] (cc_X9_isWorldOver C.D hmi h) yy_X9_isWorldOver dk_wm_X9_223 dk_sh60 (hmi 60 (by decide) (by decide)) dX9_goesToHero_46 (fun r9 s8 h => ?_) rfl rfl ⟨Nat.le_of_ble_eq_true rfl, Nat.le_of_ble_eq_true rfl⟩ rfl (Nat.le_of_ble_eq_true rfl) rfl (n := 49) rfl
          refine dk_istore_n (i := 2) (L' := [some (dk_r G 4 60), some (.int r5), some (.int r9)]) C dX9_goesToHero_49 (n := 50) rfl rfl (dk_nc_of rfl) (Nat.le_of_ble_eq_true rfl) rfl ?_
          refine dk_goto (t := 0) C dX9_goesToHero_50 (by decide) ?_
          refine dk_sub (L0 := [some (dk_r G 4 60), none, none]) ⟨rfl, trivial⟩ ?_
          exact hB  s8 h
        · have h := h.2 c11
          refine dk_aload_n (i := 0) C dX9_goesToHero_22 (n := 23) rfl rfl rfl ?_
          refine dk_callVv C [] (cc_X9_ticks C.D hmi h) yy_X9_ticks dk_wm_X9_216 dk_sh60 (hmi 60 (by decide) (by decide)) dX9_goesToHero_23 (fun s10 h => ?_) rfl rfl ⟨Nat.le_of_ble_eq_true rfl, Nat.le_of_ble_eq_true rfl⟩ rfl (Nat.le_of_ble_eq_true rfl) rfl (n := 26) rfl
          refine dk_goto (t := 0) C dX9_goesToHero_26 (by decide) ?_
          refine dk_sub (L0 := [some (dk_r G 4 60), none, none]) ⟨rfl, trivial⟩ ?_
          exact hB  s10 h
      · have h := h.2 c12
        exact dk_vret C hr hlk dX9_goesToHero_16 ⟨rfl, h⟩
set_option maxRecDepth 20000 in
set_option maxHeartbeats 4000000 in
theorem cc_X9_goesToHero {G : dk_G} {l : Launch}  (hD : dk_D G) (hmi : dk_MI G) {s : dk_S} {K : dk_S → Prop} (h : wf_X9_goesToHero s K) : dk_M G l 7 yX9_goesToHero cX9_goesToHero 3 none [dk_r G 4 60] s (dk_kv K) := by
  refine dk_of hD (by decide) [some (dk_r G 4 60), none, none] (fun q hq => hq) rfl (Nat.le_of_ble_eq_true rfl) (fun P e S0 m args bel meth c C hr hlk => ?_)
  unfold wf_X9_goesToHero at h
  obtain ⟨nn1, h⟩ := h
  refine dk_sub (L0 := [some (dk_r G 4 60), none, none]) ⟨rfl, trivial⟩ ?_
  refine ww_X9_goesToHero_0 C hr hlk hmi  nn1 s h
/-! X9_ends -/
def wf_X9_ends  (s : dk_S) (K : dk_S → Prop) : Prop :=
  (vp_in 0 8 ∧ (vp_in 0 8 ∧ (∀ s1 : dk_S, s1 = dk_row s 4 78 (upd (s 4 78) 0.toNatClampNeg ((s 4 78 0.toNatClampNeg) - 12)) → wf_X9_isWorldOver s1 (fun r3 s2 => ((¬ r3 = 0 → K s2) ∧ (r3 = 0 → wf_X9_goesToHero s2 (fun s4 => K s4)))))))
set_option maxRecDepth 20000 in
set_option maxHeartbeats 4000000 in
theorem cc_X9_ends {G : dk_G} {l : Launch}  (hD : dk_D G) (hmi : dk_MI G) {s : dk_S} {K : dk_S → Prop} (h : wf_X9_ends s K) : dk_M G l 8 yX9_ends cX9_ends 1 none [dk_r G 4 60] s (dk_kv K) := by
  refine dk_of hD (by decide) [some (dk_r G 4 60)] (fun q hq => hq) rfl (Nat.le_of_ble_eq_true rfl) (fun P e S0 m args bel meth c C hr hlk => ?_)
  unfold wf_X9_ends at h
  refine dk_aload_n (i := 0) C dX9_ends_0 (n := 1) rfl rfl rfl ?_
  refine gf_X9_71 C (hmi 60 (by decide) (by decide)) dX9_ends_1 (n := 4) rfl ?_
  refine dk_iconst (v := 0) C dX9_ends_4 (n := 5) rfl (by decide) ?_
  refine dk_dup2 C dX9_ends_5 (n := 6) rfl rfl rfl ?_
  refine dk_iald C dk_sh78 h.1 (hmi 78 (by decide) (by decide)) dX9_ends_6 (n := 7) rfl ?_
  have h := h.2
  refine dk_bipush (v := 12) C dX9_ends_7 (n := 9) rfl (by decide) ?_
  refine dk_isub C dX9_ends_9 (n := 10) rfl ?_
  refine dk_iast C dk_sh78 h.1 (hmi 78 (by decide) (by decide)) dX9_ends_10 (n := 11) rfl ?_
  refine dk_nameS (fun s1 es1 => ?_)
  have h := h.2 s1 es1
  refine dk_aload_n (i := 0) C dX9_ends_11 (n := 12) rfl rfl rfl ?_
  refine dk_callVi C [] (cc_X9_isWorldOver C.D hmi h) yy_X9_isWorldOver dk_wm_X9_223 dk_sh60 (hmi 60 (by decide) (by decide)) dX9_ends_12 (fun r3 s2 h => ?_) rfl rfl ⟨Nat.le_of_ble_eq_true rfl, Nat.le_of_ble_eq_true rfl⟩ rfl (Nat.le_of_ble_eq_true rfl) rfl (n := 15) rfl
  refine dk_if_ne (t := 22) C dX9_ends_15 (n := 18) rfl (by decide) (fun c5 => ?_) (fun c5 => ?_)
  · have h := h.1 c5
    exact dk_vret C hr hlk dX9_ends_22 ⟨rfl, h⟩
  · have h := h.2 c5
    refine dk_aload_n (i := 0) C dX9_ends_18 (n := 19) rfl rfl rfl ?_
    refine dk_callVv C [] (cc_X9_goesToHero C.D hmi h) yy_X9_goesToHero dk_wm_X9_226 dk_sh60 (hmi 60 (by decide) (by decide)) dX9_ends_19 (fun s4 h => ?_) rfl rfl ⟨Nat.le_of_ble_eq_true rfl, Nat.le_of_ble_eq_true rfl⟩ rfl (Nat.le_of_ble_eq_true rfl) rfl (n := 22) rfl
    exact dk_vret C hr hlk dX9_ends_22 ⟨rfl, h⟩
/-! X9_isSetWell -/
def wf_X9_isSetWell_41  (K : Int32 → dk_S → Prop) (E77 : Int32 → Int32 → dk_S → Prop) : Nat → Int32 → Int32 → Int32 → dk_S → Prop
  | 0, _, _, _, _ => False
  | n + 1, x1, x2, x3, s => ((x2 ≤ x3 → E77 x1 x2 s) ∧ (¬ x2 ≤ x3 → ((x1 = 0 → ∀ v22 : Int32, v22 = x3 + 1 → wf_X9_isSetWell_41 K E77 n 0 x2 v22 s) ∧ (¬ x1 = 0 → (vp_in x3 8 ∧ (vp_in x2 8 ∧ (((s 4 67 x3.toNatClampNeg) = (s 4 67 x2.toNatClampNeg) → ∀ v23 : Int32, v23 = x3 + 1 → wf_X9_isSetWell_41 K E77 n 0 x2 v23 s) ∧ (¬ (s 4 67 x3.toNatClampNeg) = (s 4 67 x2.toNatClampNeg) → ∀ v24 : Int32, v24 = x3 + 1 → wf_X9_isSetWell_41 K E77 n 1 x2 v24 s))))))))
def wf_X9_isSetWell_4  (K : Int32 → dk_S → Prop) : Nat → Int32 → Int32 → dk_S → Prop
  | 0, _, _, _ => False
  | n + 1, x1, x2, s => (((s 4 60 10) ≤ x2 → (narrow .boolean (.int x1) = .int x1 ∧ K x1 s)) ∧ (¬ (s 4 60 10) ≤ x2 → ((x1 = 0 → ∃ nn6 : Nat, wf_X9_isSetWell_41 K (fun (w2 : Int32) (w3 : Int32) (s4 : dk_S) => ∀ v5 : Int32, v5 = w3 + 1 → wf_X9_isSetWell_4 K n w2 v5 s4) nn6 0 x2 0 s) ∧ (¬ x1 = 0 → (vp_in x2 8 ∧ (vp_in (s 4 67 x2.toNatClampNeg) 144 ∧ wf_X9_isFreeKind (s 4 61 (s 4 67 x2.toNatClampNeg).toNatClampNeg) s (fun r8 s7 => ((r8 = 0 → ∃ nn13 : Nat, wf_X9_isSetWell_41 K (fun (w9 : Int32) (w10 : Int32) (s11 : dk_S) => ∀ v12 : Int32, v12 = w10 + 1 → wf_X9_isSetWell_4 K n w9 v12 s11) nn13 0 x2 0 s7) ∧ (¬ r8 = 0 → ∃ nn18 : Nat, wf_X9_isSetWell_41 K (fun (w14 : Int32) (w15 : Int32) (s16 : dk_S) => ∀ v17 : Int32, v17 = w15 + 1 → wf_X9_isSetWell_4 K n w14 v17 s16) nn18 1 x2 0 s7)))))))))
def wf_X9_isSetWell  (s : dk_S) (K : Int32 → dk_S → Prop) : Prop :=
  ∃ nn1 : Nat, wf_X9_isSetWell_4 K nn1 1 0 s
set_option maxRecDepth 20000 in
set_option maxHeartbeats 4000000 in
theorem ww_X9_isSetWell_41 {G : dk_G} {P : Program} {l : Launch} {e : Env} {S0 : State} {m : MethodId} {args : Array Value} {bel : List Frame} {meth : Method} {c : Code}  (C : dk_C G P (dk_rm 2) S0 m args c 0 0 cX9_isSetWell 4 RX9) (hr : meth.sig.returnType = (some .boolean)) (hlk : meth.locks = false) (hmi : dk_MI G) {K : Int32 → dk_S → Prop} {E77 : Int32 → Int32 → dk_S → Prop} (hE77 : ∀ (x1 : Int32) (x2 : Int32) (s : dk_S), E77 x1 x2 s → dk_W G P l e (dk_rm 2) S0 m args bel meth c 0 0 (MQ bel (dk_Qc G (dk_ki K)) args S0 0 0 (dk_A G)) 77 [some (dk_r G 4 60), some (.int x1), some (.int x2), none] [] s) : ∀ (n : Nat) (x1 : Int32) (x2 : Int32) (x3 : Int32) (s : dk_S), wf_X9_isSetWell_41 K E77 n x1 x2 x3 s → dk_W G P l e (dk_rm 2) S0 m args bel meth c 0 0 (MQ bel (dk_Qc G (dk_ki K)) args S0 0 0 (dk_A G)) 41 [some (dk_r G 4 60), some (.int x1), some (.int x2), some (.int x3)] [] s := by
  intro n
  induction n with
  | zero => intro x1 x2 x3 s h; exact False.elim h
  | succ n hB =>
    intro x1 x2 x3 s h
    unfold wf_X9_isSetWell_41 at h
    refine dk_iload_n (i := 3) C dX9_isSetWell_41 (n := 42) rfl rfl rfl ?_
    refine dk_iload_n (i := 2) C dX9_isSetWell_42 (n := 43) rfl rfl rfl ?_
    refine dk_icmp_ge (t := 77) C dX9_isSetWell_43 (n := 46) rfl (by decide) (fun c27 => ?_) (fun c27 => ?_)
    · have h := h.1 c27
      refine dk_sub (L0 := [some (dk_r G 4 60), some (.int x1), some (.int x2), none]) ⟨rfl, ⟨rfl, ⟨rfl, trivial⟩⟩⟩ ?_
      exact hE77 x1 x2 s h
    · have h := h.2 c27
      refine dk_iload_n (i := 1) C dX9_isSetWell_46 (n := 47) rfl rfl rfl ?_
      refine dk_if_eq (t := 69) C dX9_isSetWell_47 (n := 50) rfl (by decide) (fun c26 => ?_) (fun c26 => ?_)
      · have h := h.1 c26
        refine dk_iconst (v := 0) C dX9_isSetWell_69 (n := 70) rfl (by decide) ?_
        refine dk_istore_n (i := 1) (L' := [some (dk_r G 4 60), some (.int 0), some (.int x2), some (.int x3)]) C dX9_isSetWell_70 (n := 71) rfl rfl (dk_nc_of rfl) (Nat.le_of_ble_eq_true rfl) rfl ?_
        obtain ⟨v22, ev22⟩ : ∃ y : Int32, y = x3 + 1 := ⟨_, rfl⟩
        have h := h v22 ev22
        refine dk_iinc (i := 3) (v := v22) (L' := [some (dk_r G 4 60), some (.int 0), some (.int x2), some (.int v22)]) C dX9_isSetWell_71 (n := 74) rfl rfl (by rw [ev22]; rfl) (dk_nc_of rfl) (Nat.le_of_ble_eq_true rfl) rfl ?_
        refine dk_goto (t := 41) C dX9_isSetWell_74 (by decide) ?_
        refine dk_sub (L0 := [some (dk_r G 4 60), some (.int 0), some (.int x2), some (.int v22)]) ⟨rfl, ⟨rfl, ⟨rfl, ⟨rfl, trivial⟩⟩⟩⟩ ?_
        exact hB 0 x2 v22 s h
      · have h := h.2 c26
        refine dk_aload_n (i := 0) C dX9_isSetWell_50 (n := 51) rfl rfl rfl ?_
        refine gf_X9_38 C (hmi 60 (by decide) (by decide)) dX9_isSetWell_51 (n := 54) rfl ?_
        refine dk_iload_n (i := 3) C dX9_isSetWell_54 (n := 55) rfl rfl rfl ?_
        refine dk_iald C dk_sh67 h.1 (hmi 67 (by decide) (by decide)) dX9_isSetWell_55 (n := 56) rfl ?_
        have h := h.2
        refine dk_aload_n (i := 0) C dX9_isSetWell_56 (n := 57) rfl rfl rfl ?_
        refine gf_X9_38 C (hmi 60 (by decide) (by decide)) dX9_isSetWell_57 (n := 60) rfl ?_
        refine dk_iload_n (i := 2) C dX9_isSetWell_60 (n := 61) rfl rfl rfl ?_
        refine dk_iald C dk_sh67 h.1 (hmi 67 (by decide) (by decide)) dX9_isSetWell_61 (n := 62) rfl ?_
        have h := h.2
        refine dk_icmp_eq (t := 69) C dX9_isSetWell_62 (n := 65) rfl (by decide) (fun c25 => ?_) (fun c25 => ?_)
        · have h := h.1 c25
          refine dk_iconst (v := 0) C dX9_isSetWell_69 (n := 70) rfl (by decide) ?_
          refine dk_istore_n (i := 1) (L' := [some (dk_r G 4 60), some (.int 0), some (.int x2), some (.int x3)]) C dX9_isSetWell_70 (n := 71) rfl rfl (dk_nc_of rfl) (Nat.le_of_ble_eq_true rfl) rfl ?_
          obtain ⟨v23, ev23⟩ : ∃ y : Int32, y = x3 + 1 := ⟨_, rfl⟩
          have h := h v23 ev23
          refine dk_iinc (i := 3) (v := v23) (L' := [some (dk_r G 4 60), some (.int 0), some (.int x2), some (.int v23)]) C dX9_isSetWell_71 (n := 74) rfl rfl (by rw [ev23]; rfl) (dk_nc_of rfl) (Nat.le_of_ble_eq_true rfl) rfl ?_
          refine dk_goto (t := 41) C dX9_isSetWell_74 (by decide) ?_
          refine dk_sub (L0 := [some (dk_r G 4 60), some (.int 0), some (.int x2), some (.int v23)]) ⟨rfl, ⟨rfl, ⟨rfl, ⟨rfl, trivial⟩⟩⟩⟩ ?_
          exact hB 0 x2 v23 s h
        · have h := h.2 c25
          refine dk_iconst (v := 1) C dX9_isSetWell_65 (n := 66) rfl (by decide) ?_
          refine dk_goto (t := 70) C dX9_isSetWell_66 (by decide) ?_
          refine dk_istore_n (i := 1) (L' := [some (dk_r G 4 60), some (.int 1), some (.int x2), some (.int x3)]) C dX9_isSetWell_70 (n := 71) rfl rfl (dk_nc_of rfl) (Nat.le_of_ble_eq_true rfl) rfl ?_
          obtain ⟨v24, ev24⟩ : ∃ y : Int32, y = x3 + 1 := ⟨_, rfl⟩
          have h := h v24 ev24
          refine dk_iinc (i := 3) (v := v24) (L' := [some (dk_r G 4 60), some (.int 1), some (.int x2), some (.int v24)]) C dX9_isSetWell_71 (n := 74) rfl rfl (by rw [ev24]; rfl) (dk_nc_of rfl) (Nat.le_of_ble_eq_true rfl) rfl ?_
          refine dk_goto (t := 41) C dX9_isSetWell_74 (by decide) ?_
          refine dk_sub (L0 := [some (dk_r G 4 60), some (.int 1), some (.int x2), some (.int v24)]) ⟨rfl, ⟨rfl, ⟨rfl, ⟨rfl, trivial⟩⟩⟩⟩ ?_
          exact hB 1 x2 v24 s h
set_option maxRecDepth 20000 in
set_option maxHeartbeats 4000000 in
theorem ww_X9_isSetWell_4 {G : dk_G} {P : Program} {l : Launch} {e : Env} {S0 : State} {m : MethodId} {args : Array Value} {bel : List Frame} {meth : Method} {c : Code}  (C : dk_C G P (dk_rm 2) S0 m args c 0 0 cX9_isSetWell 4 RX9) (hr : meth.sig.returnType = (some .boolean)) (hlk : meth.locks = false) (hmi : dk_MI G) {K : Int32 → dk_S → Prop}  : ∀ (n : Nat) (x1 : Int32) (x2 : Int32) (s : dk_S), wf_X9_isSetWell_4 K n x1 x2 s → dk_W G P l e (dk_rm 2) S0 m args bel meth c 0 0 (MQ bel (dk_Qc G (dk_ki K)) args S0 0 0 (dk_A G)) 4 [some (dk_r G 4 60), some (.int x1), some (.int x2), none] [] s := by
  intro n
  induction n with
  | zero => intro x1 x2 s h; exact False.elim h
  | succ n hB =>
    intro x1 x2 s h
    unfold wf_X9_isSetWell_4 at h
    refine dk_iload_n (i := 2) C dX9_isSetWell_4 (n := 5) rfl rfl rfl ?_
    refine dk_aload_n (i := 0) C dX9_isSetWell_5 (n := 6) rfl rfl rfl ?_
    refine gf_X9_34 C (hmi 60 (by decide) (by decide)) dX9_isSetWell_6 (n := 9) rfl ?_
    refine dk_icmp_ge (t := 83) C dX9_isSetWell_9 (n := 12) rfl (by decide) (fun c21 => ?_) (fun c21 => ?_)
    · have h := h.1 c21
      refine dk_iload_n (i := 1) C dX9_isSetWell_83 (n := 84) rfl rfl rfl ?_
      exact dk_iret C hr hlk h.1 dX9_isSetWell_84 ⟨_, rfl, h.2⟩
    · have h := h.2 c21
      refine dk_iload_n (i := 1) C dX9_isSetWell_12 (n := 13) rfl rfl rfl ?_
      refine dk_if_eq (t := 37) C dX9_isSetWell_13 (n := 16) rfl (by decide) (fun c20 => ?_) (fun c20 => ?_)
      · have h := h.1 c20
        refine dk_iconst (v := 0) C dX9_isSetWell_37 (n := 38) rfl (by decide) ?_
        refine dk_istore_n (i := 1) (L' := [some (dk_r G 4 60), some (.int 0), some (.int x2), none]) C dX9_isSetWell_38 (n := 39) rfl rfl (dk_nc_of rfl) (Nat.le_of_ble_eq_true rfl) rfl ?_
        refine dk_iconst (v := 0) C dX9_isSetWell_39 (n := 40) rfl (by decide) ?_
        refine dk_istore_n (i := 3) (L' := [some (dk_r G 4 60), some (.int 0), some (.int x2), some (.int 0)]) C dX9_isSetWell_40 (n := 41) rfl rfl (dk_nc_of rfl) (Nat.le_of_ble_eq_true rfl) rfl ?_
        obtain ⟨nn6, h⟩ := h
        refine dk_sub (L0 := [some (dk_r G 4 60), some (.int 0), some (.int x2), some (.int 0)]) ⟨rfl, ⟨rfl, ⟨rfl, ⟨rfl, trivial⟩⟩⟩⟩ ?_
        refine ww_X9_isSetWell_41 C hr hlk hmi (fun w2 w3 s4 h => ?_) nn6 0 x2 0 s h
        · obtain ⟨v5, ev5⟩ : ∃ y : Int32, y = w3 + 1 := ⟨_, rfl⟩
          have h := h v5 ev5
          refine dk_iinc (i := 2) (v := v5) (L' := [some (dk_r G 4 60), some (.int w2), some (.int v5), none]) C dX9_isSetWell_77 (n := 80) rfl rfl (by rw [ev5]; rfl) (dk_nc_of rfl) (Nat.le_of_ble_eq_true rfl) rfl ?_
          refine dk_goto (t := 4) C dX9_isSetWell_80 (by decide) ?_
          refine dk_sub (L0 := [some (dk_r G 4 60), some (.int w2), some (.int v5), none]) ⟨rfl, ⟨rfl, ⟨rfl, trivial⟩⟩⟩ ?_
          exact hB w2 v5 s4 h
      · have h := h.2 c20
        refine dk_aload_n (i := 0) C dX9_isSetWell_16 (n := 17) rfl rfl rfl ?_
        refine gf_X9_13 C (hmi 60 (by decide) (by decide)) dX9_isSetWell_17 (n := 20) rfl ?_
        refine dk_aload_n (i := 0) C dX9_isSetWell_20 (n := 21) rfl rfl rfl ?_
        refine gf_X9_38 C (hmi 60 (by decide) (by decide)) dX9_isSetWell_21 (n := 24) rfl ?_
        refine dk_iload_n (i := 2) C dX9_isSetWell_24 (n := 25) rfl rfl rfl ?_
        refine dk_iald C dk_sh67 h.1 (hmi 67 (by decide) (by decide)) dX9_isSetWell_25 (n := 26) rfl ?_
        have h := h.2
        refine dk_cald C dk_sh61 h.1 (hmi 61 (by decide) (by decide)) dX9_isSetWell_26 (n := 27) rfl ?_
        have h := h.2
        refine dk_callSi C [] (cc_X9_isFreeKind C.D  h) yy_X9_isFreeKind dk_wm_X9_129 dX9_isSetWell_27 (fun r8 s7 h => ?_) rfl ⟨Nat.le_of_ble_eq_true rfl, Nat.le_of_ble_eq_true rfl⟩ rfl (Nat.le_of_ble_eq_true rfl) rfl (n := 30) rfl
        refine dk_if_eq (t := 37) C dX9_isSetWell_30 (n := 33) rfl (by decide) (fun c19 => ?_) (fun c19 => ?_)
        · have h := h.1 c19
          refine dk_iconst (v := 0) C dX9_isSetWell_37 (n := 38) rfl (by decide) ?_
          refine dk_istore_n (i := 1) (L' := [some (dk_r G 4 60), some (.int 0), some (.int x2), none]) C dX9_isSetWell_38 (n := 39) rfl rfl (dk_nc_of rfl) (Nat.le_of_ble_eq_true rfl) rfl ?_
          refine dk_iconst (v := 0) C dX9_isSetWell_39 (n := 40) rfl (by decide) ?_
          refine dk_istore_n (i := 3) (L' := [some (dk_r G 4 60), some (.int 0), some (.int x2), some (.int 0)]) C dX9_isSetWell_40 (n := 41) rfl rfl (dk_nc_of rfl) (Nat.le_of_ble_eq_true rfl) rfl ?_
          obtain ⟨nn13, h⟩ := h
          refine dk_sub (L0 := [some (dk_r G 4 60), some (.int 0), some (.int x2), some (.int 0)]) ⟨rfl, ⟨rfl, ⟨rfl, ⟨rfl, trivial⟩⟩⟩⟩ ?_
          refine ww_X9_isSetWell_41 C hr hlk hmi (fun w9 w10 s11 h => ?_) nn13 0 x2 0 s7 h
          · obtain ⟨v12, ev12⟩ : ∃ y : Int32, y = w10 + 1 := ⟨_, rfl⟩
            have h := h v12 ev12
            refine dk_iinc (i := 2) (v := v12) (L' := [some (dk_r G 4 60), some (.int w9), some (.int v12), none]) C dX9_isSetWell_77 (n := 80) rfl rfl (by rw [ev12]; rfl) (dk_nc_of rfl) (Nat.le_of_ble_eq_true rfl) rfl ?_
            refine dk_goto (t := 4) C dX9_isSetWell_80 (by decide) ?_
            refine dk_sub (L0 := [some (dk_r G 4 60), some (.int w9), some (.int v12), none]) ⟨rfl, ⟨rfl, ⟨rfl, trivial⟩⟩⟩ ?_
            exact hB w9 v12 s11 h
        · have h := h.2 c19
          refine dk_iconst (v := 1) C dX9_isSetWell_33 (n := 34) rfl (by decide) ?_
          refine dk_goto (t := 38) C dX9_isSetWell_34 (by decide) ?_
          refine dk_istore_n (i := 1) (L' := [some (dk_r G 4 60), some (.int 1), some (.int x2), none]) C dX9_isSetWell_38 (n := 39) rfl rfl (dk_nc_of rfl) (Nat.le_of_ble_eq_true rfl) rfl ?_
          refine dk_iconst (v := 0) C dX9_isSetWell_39 (n := 40) rfl (by decide) ?_
          refine dk_istore_n (i := 3) (L' := [some (dk_r G 4 60), some (.int 1), some (.int x2), some (.int 0)]) C dX9_isSetWell_40 (n := 41) rfl rfl (dk_nc_of rfl) (Nat.le_of_ble_eq_true rfl) rfl ?_
          obtain ⟨nn18, h⟩ := h
          refine dk_sub (L0 := [some (dk_r G 4 60), some (.int 1), some (.int x2), some (.int 0)]) ⟨rfl, ⟨rfl, ⟨rfl, ⟨rfl, trivial⟩⟩⟩⟩ ?_
          refine ww_X9_isSetWell_41 C hr hlk hmi (fun w14 w15 s16 h => ?_) nn18 1 x2 0 s7 h
          · obtain ⟨v17, ev17⟩ : ∃ y : Int32, y = w15 + 1 := ⟨_, rfl⟩
            have h := h v17 ev17
            refine dk_iinc (i := 2) (v := v17) (L' := [some (dk_r G 4 60), some (.int w14), some (.int v17), none]) C dX9_isSetWell_77 (n := 80) rfl rfl (by rw [ev17]; rfl) (dk_nc_of rfl) (Nat.le_of_ble_eq_true rfl) rfl ?_
            refine dk_goto (t := 4) C dX9_isSetWell_80 (by decide) ?_
            refine dk_sub (L0 := [some (dk_r G 4 60), some (.int w14), some (.int v17), none]) ⟨rfl, ⟨rfl, ⟨rfl, trivial⟩⟩⟩ ?_
            exact hB w14 v17 s16 h
set_option maxRecDepth 20000 in
set_option maxHeartbeats 4000000 in
theorem cc_X9_isSetWell {G : dk_G} {l : Launch}  (hD : dk_D G) (hmi : dk_MI G) {s : dk_S} {K : Int32 → dk_S → Prop} (h : wf_X9_isSetWell s K) : dk_M G l 2 yX9_isSetWell cX9_isSetWell 4 (some .boolean) [dk_r G 4 60] s (dk_ki K) := by
  refine dk_of hD (by decide) [some (dk_r G 4 60), none, none, none] (fun q hq => hq) rfl (Nat.le_of_ble_eq_true rfl) (fun P e S0 m args bel meth c C hr hlk => ?_)
  unfold wf_X9_isSetWell at h
  refine dk_iconst (v := 1) C dX9_isSetWell_0 (n := 1) rfl (by decide) ?_
  refine dk_istore_n (i := 1) (L' := [some (dk_r G 4 60), some (.int 1), none, none]) C dX9_isSetWell_1 (n := 2) rfl rfl (dk_nc_of rfl) (Nat.le_of_ble_eq_true rfl) rfl ?_
  refine dk_iconst (v := 0) C dX9_isSetWell_2 (n := 3) rfl (by decide) ?_
  refine dk_istore_n (i := 2) (L' := [some (dk_r G 4 60), some (.int 1), some (.int 0), none]) C dX9_isSetWell_3 (n := 4) rfl rfl (dk_nc_of rfl) (Nat.le_of_ble_eq_true rfl) rfl ?_
  obtain ⟨nn1, h⟩ := h
  refine dk_sub (L0 := [some (dk_r G 4 60), some (.int 1), some (.int 0), none]) ⟨rfl, ⟨rfl, ⟨rfl, trivial⟩⟩⟩ ?_
  refine ww_X9_isSetWell_4 C hr hlk hmi  nn1 1 0 s h
/-! X9_begin -/
def wf_X9_begin_82  (K : Int32 → dk_S → Prop) : Nat → Int32 → Int32 → dk_S → Prop
  | 0, _, _, _ => False
  | n + 1, x2, x3, s => (((s 4 60 15) ≤ x3 → wf_X9_goesToHero s (fun s21 => K (s21 4 60 2) s21)) ∧ (¬ (s 4 60 15) ≤ x3 → ((x2 = 0 → wf_X9_goesToHero s (fun s22 => K (s22 4 60 2) s22)) ∧ (¬ x2 = 0 → (vp_in x3 24 ∧ (((s 4 84 x3.toNatClampNeg) = 0 → ∀ v23 : Int32, v23 = x3 + 1 → wf_X9_begin_82 K n x2 v23 s) ∧ (¬ (s 4 84 x3.toNatClampNeg) = 0 → (vp_in x3 24 ∧ ((¬ (s 4 85 x3.toNatClampNeg) = (-1) → (vp_in x3 24 ∧ (vp_in x3 24 ∧ (∀ s24 : dk_S, s24 = dk_row s 4 82 (upd (s 4 82) x3.toNatClampNeg (s 4 85 x3.toNatClampNeg)) → ∀ v25 : Int32, v25 = x3 + 1 → wf_X9_begin_82 K n x2 v25 s24)))) ∧ ((s 4 85 x3.toNatClampNeg) = (-1) → (vp_in x3 24 ∧ (∀ s26 : dk_S, s26 = dk_row s 4 82 (upd (s 4 82) x3.toNatClampNeg (s 4 60 32)) → ∀ v27 : Int32, v27 = x3 + 1 → wf_X9_begin_82 K n x2 v27 s26))))))))))))
def wf_X9_begin_28  (K : Int32 → dk_S → Prop) (x1 : Int32) (y0 : Int32) (s : dk_S) : Prop :=
  wf_X9_goesOn y0 s (fun r9 s8 => ((¬ r9 = 0 → wf_X9_becomesAsTold s8 (fun s10 => ∀ s11 : dk_S, s11 = dk_row s10 4 60 (upd (s10 4 60) 3 x1) → ∀ s12 : dk_S, s12 = dk_row s11 4 60 (upd (s11 4 60) 1 111) → (((s12 4 60 32) = (-1) → ∃ nn13 : Nat, wf_X9_begin_82 K nn13 0 0 s12) ∧ (¬ (s12 4 60 32) = (-1) → (vp_in (s12 4 60 32) 144 ∧ wf_X9_isFreeKind (s12 4 61 (s12 4 60 32).toNatClampNeg) s12 (fun r15 s14 => ((r15 = 0 → ∃ nn16 : Nat, wf_X9_begin_82 K nn16 0 0 s14) ∧ (¬ r15 = 0 → ∃ nn17 : Nat, wf_X9_begin_82 K nn17 1 0 s14)))))))) ∧ (r9 = 0 → K 0 s8)))
def wf_X9_begin (a1 : Int32) (s : dk_S) (K : Int32 → dk_S → Prop) : Prop :=
  ((0 ≤ a1 → wf_X9_isOn s (fun r2 s1 => ((¬ r2 = 0 → wf_X9_begin_28 K a1 2 s1) ∧ (r2 = 0 → wf_X9_isSetWell s1 (fun r4 s3 => ((¬ r4 = 0 → wf_X9_begin_28 K a1 0 s3) ∧ (r4 = 0 → wf_X9_begin_28 K a1 2 s3))))))) ∧ (¬ 0 ≤ a1 → wf_X9_begin_28 K a1 1 s))
set_option maxRecDepth 20000 in
set_option maxHeartbeats 4000000 in
theorem ww_X9_begin_82 {G : dk_G} {P : Program} {l : Launch} {e : Env} {S0 : State} {m : MethodId} {args : Array Value} {bel : List Frame} {meth : Method} {c : Code}  (C : dk_C G P (dk_rm 8) S0 m args c 0 0 cX9_begin 4 RX9) (hr : meth.sig.returnType = (some .int)) (hlk : meth.locks = false) (hmi : dk_MI G) {K : Int32 → dk_S → Prop}  : ∀ (n : Nat) (x2 : Int32) (x3 : Int32) (s : dk_S), wf_X9_begin_82 K n x2 x3 s → dk_W G P l e (dk_rm 8) S0 m args bel meth c 0 0 (MQ bel (dk_Qc G (dk_ki K)) args S0 0 0 (dk_A G)) 82 [some (dk_r G 4 60), none, some (.int x2), some (.int x3)] [] s := by
  intro n
  induction n with
  | zero => intro x2 x3 s h; exact False.elim h
  | succ n hB =>
    intro x2 x3 s h
    unfold wf_X9_begin_82 at h
    refine dk_iload_n (i := 3) C dX9_begin_82 (n := 83) rfl rfl rfl ?_
    refine dk_aload_n (i := 0) C dX9_begin_83 (n := 84) rfl rfl rfl ?_
    refine gf_X9_162 C (hmi 60 (by decide) (by decide)) dX9_begin_84 (n := 87) rfl ?_
    refine dk_icmp_ge (t := 138) C dX9_begin_87 (n := 90) rfl (by decide) (fun c31 => ?_) (fun c31 => ?_)
    · have h := h.1 c31
      refine dk_aload_n (i := 0) C dX9_begin_138 (n := 139) rfl rfl rfl ?_
      refine dk_callVv C [] (cc_X9_goesToHero C.D hmi h) yy_X9_goesToHero dk_wm_X9_226 dk_sh60 (hmi 60 (by decide) (by decide)) dX9_begin_139 (fun s21 h => ?_) rfl rfl ⟨Nat.le_of_ble_eq_true rfl, Nat.le_of_ble_eq_true rfl⟩ rfl (Nat.le_of_ble_eq_true rfl) rfl (n := 142) rfl
      refine dk_aload_n (i := 0) C dX9_begin_142 (n := 143) rfl rfl rfl ?_
      refine gf_X9_133 C (hmi 60 (by decide) (by decide)) dX9_begin_143 (n := 146) rfl ?_
      exact dk_iret C hr hlk rfl dX9_begin_146 ⟨_, rfl, h⟩
    · have h := h.2 c31
      refine dk_iload_n (i := 2) C dX9_begin_90 (n := 91) rfl rfl rfl ?_
      refine dk_if_eq (t := 138) C dX9_begin_91 (n := 94) rfl (by decide) (fun c30 => ?_) (fun c30 => ?_)
      · have h := h.1 c30
        refine dk_aload_n (i := 0) C dX9_begin_138 (n := 139) rfl rfl rfl ?_
        refine dk_callVv C [] (cc_X9_goesToHero C.D hmi h) yy_X9_goesToHero dk_wm_X9_226 dk_sh60 (hmi 60 (by decide) (by decide)) dX9_begin_139 (fun s22 h => ?_) rfl rfl ⟨Nat.le_of_ble_eq_true rfl, Nat.le_of_ble_eq_true rfl⟩ rfl (Nat.le_of_ble_eq_true rfl) rfl (n := 142) rfl
        refine dk_aload_n (i := 0) C dX9_begin_142 (n := 143) rfl rfl rfl ?_
        refine gf_X9_133 C (hmi 60 (by decide) (by decide)) dX9_begin_143 (n := 146) rfl ?_
        exact dk_iret C hr hlk rfl dX9_begin_146 ⟨_, rfl, h⟩
      · have h := h.2 c30
        refine dk_aload_n (i := 0) C dX9_begin_94 (n := 95) rfl rfl rfl ?_
        refine gf_X9_92 C (hmi 60 (by decide) (by decide)) dX9_begin_95 (n := 98) rfl ?_
        refine dk_iload_n (i := 3) C dX9_begin_98 (n := 99) rfl rfl rfl ?_
        refine dk_zald C dk_sh84 h.1 (hmi 84 (by decide) (by decide)) dX9_begin_99 (n := 100) rfl ?_
        have h := h.2
        refine dk_if_eq (t := 132) C dX9_begin_100 (n := 103) rfl (by decide) (fun c29 => ?_) (fun c29 => ?_)
        · have h := h.1 c29
          obtain ⟨v23, ev23⟩ : ∃ y : Int32, y = x3 + 1 := ⟨_, rfl⟩
          have h := h v23 ev23
          refine dk_iinc (i := 3) (v := v23) (L' := [some (dk_r G 4 60), none, some (.int x2), some (.int v23)]) C dX9_begin_132 (n := 135) rfl rfl (by rw [ev23]; rfl) (dk_nc_of rfl) (Nat.le_of_ble_eq_true rfl) rfl ?_
          refine dk_goto (t := 82) C dX9_begin_135 (by decide) ?_
          refine dk_sub (L0 := [some (dk_r G 4 60), none, some (.int x2), some (.int v23)]) ⟨rfl, ⟨rfl, ⟨rfl, trivial⟩⟩⟩ ?_
          exact hB x2 v23 s h
        · have h := h.2 c29
          refine dk_aload_n (i := 0) C dX9_begin_103 (n := 104) rfl rfl rfl ?_
          refine gf_X9_83 C (hmi 60 (by decide) (by decide)) dX9_begin_104 (n := 107) rfl ?_
          refine dk_iload_n (i := 3) C dX9_begin_107 (n := 108) rfl rfl rfl ?_
          refine dk_aload_n (i := 0) C dX9_begin_108 (n := 109) rfl rfl rfl ?_
          refine gf_X9_95 C (hmi 60 (by decide) (by decide)) dX9_begin_109 (n := 112) rfl ?_
          refine dk_iload_n (i := 3) C dX9_begin_112 (n := 113) rfl rfl rfl ?_
          refine dk_iald C dk_sh85 h.1 (hmi 85 (by decide) (by decide)) dX9_begin_113 (n := 114) rfl ?_
          have h := h.2
          refine dk_iconst (v := (-1)) C dX9_begin_114 (n := 115) rfl (by decide) ?_
          refine dk_icmp_ne (t := 125) C dX9_begin_115 (n := 118) rfl (by decide) (fun c28 => ?_) (fun c28 => ?_)
          · have h := h.1 c28
            refine dk_aload_n (i := 0) C dX9_begin_125 (n := 126) rfl rfl rfl ?_
            refine gf_X9_95 C (hmi 60 (by decide) (by decide)) dX9_begin_126 (n := 129) rfl ?_
            refine dk_iload_n (i := 3) C dX9_begin_129 (n := 130) rfl rfl rfl ?_
            refine dk_iald C dk_sh85 h.1 (hmi 85 (by decide) (by decide)) dX9_begin_130 (n := 131) rfl ?_
            have h := h.2
            refine dk_iast C dk_sh82 h.1 (hmi 82 (by decide) (by decide)) dX9_begin_131 (n := 132) rfl ?_
            refine dk_nameS (fun s24 es24 => ?_)
            have h := h.2 s24 es24
            obtain ⟨v25, ev25⟩ : ∃ y : Int32, y = x3 + 1 := ⟨_, rfl⟩
            have h := h v25 ev25
            refine dk_iinc (i := 3) (v := v25) (L' := [some (dk_r G 4 60), none, some (.int x2), some (.int v25)]) C dX9_begin_132 (n := 135) rfl rfl (by rw [ev25]; rfl) (dk_nc_of rfl) (Nat.le_of_ble_eq_true rfl) rfl ?_
            refine dk_goto (t := 82) C dX9_begin_135 (by decide) ?_
            refine dk_sub (L0 := [some (dk_r G 4 60), none, some (.int x2), some (.int v25)]) ⟨rfl, ⟨rfl, ⟨rfl, trivial⟩⟩⟩ ?_
            exact hB x2 v25 s24 h
          · have h := h.2 c28
            refine dk_aload_n (i := 0) C dX9_begin_118 (n := 119) rfl rfl rfl ?_
            refine gf_X9_89 C (hmi 60 (by decide) (by decide)) dX9_begin_119 (n := 122) rfl ?_
            refine dk_goto (t := 131) C dX9_begin_122 (by decide) ?_
            refine dk_iast C dk_sh82 h.1 (hmi 82 (by decide) (by decide)) dX9_begin_131 (n := 132) rfl ?_
            refine dk_nameS (fun s26 es26 => ?_)
            have h := h.2 s26 es26
            obtain ⟨v27, ev27⟩ : ∃ y : Int32, y = x3 + 1 := ⟨_, rfl⟩
            have h := h v27 ev27
            refine dk_iinc (i := 3) (v := v27) (L' := [some (dk_r G 4 60), none, some (.int x2), some (.int v27)]) C dX9_begin_132 (n := 135) rfl rfl (by rw [ev27]; rfl) (dk_nc_of rfl) (Nat.le_of_ble_eq_true rfl) rfl ?_
            refine dk_goto (t := 82) C dX9_begin_135 (by decide) ?_
            refine dk_sub (L0 := [some (dk_r G 4 60), none, some (.int x2), some (.int v27)]) ⟨rfl, ⟨rfl, ⟨rfl, trivial⟩⟩⟩ ?_
            exact hB x2 v27 s26 h
set_option maxRecDepth 20000 in
set_option maxHeartbeats 4000000 in
theorem ww_X9_begin_28 {G : dk_G} {P : Program} {l : Launch} {e : Env} {S0 : State} {m : MethodId} {args : Array Value} {bel : List Frame} {meth : Method} {c : Code}  (C : dk_C G P (dk_rm 8) S0 m args c 0 0 cX9_begin 4 RX9) (hr : meth.sig.returnType = (some .int)) (hlk : meth.locks = false) (hmi : dk_MI G) {K : Int32 → dk_S → Prop}  : ∀ (x1 : Int32) (y0 : Int32) (s : dk_S), wf_X9_begin_28 K x1 y0 s → dk_W G P l e (dk_rm 8) S0 m args bel meth c 0 0 (MQ bel (dk_Qc G (dk_ki K)) args S0 0 0 (dk_A G)) 28 [some (dk_r G 4 60), some (.int x1), none, none] [.int y0, dk_r G 4 60] s := by
  intro x1 y0 s h
  unfold wf_X9_begin_28 at h
  refine dk_callVi C [] (cc_X9_goesOn C.D hmi h) yy_X9_goesOn dk_wm_X9_149 dk_sh60 (hmi 60 (by decide) (by decide)) dX9_begin_28 (fun r9 s8 h => ?_) rfl rfl ⟨Nat.le_of_ble_eq_true rfl, Nat.le_of_ble_eq_true rfl⟩ rfl (Nat.le_of_ble_eq_true rfl) rfl (n := 31) rfl
  refine dk_if_ne (t := 36) C dX9_begin_31 (n := 34) rfl (by decide) (fun c20 => ?_) (fun c20 => ?_)
  · have h := h.1 c20
    refine dk_aload_n (i := 0) C dX9_begin_36 (n := 37) rfl rfl rfl ?_
    refine dk_callVv C [] (cc_X9_becomesAsTold C.D hmi h) yy_X9_becomesAsTold dk_wm_X9_104 dk_sh60 (hmi 60 (by decide) (by decide)) dX9_begin_37 (fun s10 h => ?_) rfl rfl ⟨Nat.le_of_ble_eq_true rfl, Nat.le_of_ble_eq_true rfl⟩ rfl (Nat.le_of_ble_eq_true rfl) rfl (n := 40) rfl
    refine dk_aload_n (i := 0) C dX9_begin_40 (n := 41) rfl rfl rfl ?_
    refine dk_iload_n (i := 1) C dX9_begin_41 (n := 42) rfl rfl rfl ?_
    refine pf_X9_252 C rfl rfl (hmi 60 (by decide) (by decide)) dX9_begin_42 (n := 45) rfl ?_
    refine dk_nameS (fun s11 es11 => ?_)
    have h := h s11 es11
    refine dk_aload_n (i := 0) C dX9_begin_45 (n := 46) rfl rfl rfl ?_
    refine dk_bipush (v := 111) C dX9_begin_46 (n := 48) rfl (by decide) ?_
    refine pf_X9_7 C (by decide) (by decide) (hmi 60 (by decide) (by decide)) dX9_begin_48 (n := 51) rfl ?_
    refine dk_nameS (fun s12 es12 => ?_)
    have h := h s12 es12
    refine dk_aload_n (i := 0) C dX9_begin_51 (n := 52) rfl rfl rfl ?_
    refine gf_X9_89 C (hmi 60 (by decide) (by decide)) dX9_begin_52 (n := 55) rfl ?_
    refine dk_iconst (v := (-1)) C dX9_begin_55 (n := 56) rfl (by decide) ?_
    refine dk_icmp_eq (t := 78) C dX9_begin_56 (n := 59) rfl (by decide) (fun c19 => ?_) (fun c19 => ?_)
    · have h := h.1 c19
      refine dk_iconst (v := 0) C dX9_begin_78 (n := 79) rfl (by decide) ?_
      refine dk_istore_n (i := 2) (L' := [some (dk_r G 4 60), some (.int x1), some (.int 0), none]) C dX9_begin_79 (n := 80) rfl rfl (dk_nc_of rfl) (Nat.le_of_ble_eq_true rfl) rfl ?_
      refine dk_iconst (v := 0) C dX9_begin_80 (n := 81) rfl (by decide) ?_
      refine dk_istore_n (i := 3) (L' := [some (dk_r G 4 60), some (.int x1), some (.int 0), some (.int 0)]) C dX9_begin_81 (n := 82) rfl rfl (dk_nc_of rfl) (Nat.le_of_ble_eq_true rfl) rfl ?_
      obtain ⟨nn13, h⟩ := h
      refine dk_sub (L0 := [some (dk_r G 4 60), none, some (.int 0), some (.int 0)]) ⟨rfl, ⟨rfl, ⟨rfl, trivial⟩⟩⟩ ?_
      refine ww_X9_begin_82 C hr hlk hmi  nn13 0 0 s12 h
    · have h := h.2 c19
      refine dk_aload_n (i := 0) C dX9_begin_59 (n := 60) rfl rfl rfl ?_
      refine gf_X9_13 C (hmi 60 (by decide) (by decide)) dX9_begin_60 (n := 63) rfl ?_
      refine dk_aload_n (i := 0) C dX9_begin_63 (n := 64) rfl rfl rfl ?_
      refine gf_X9_89 C (hmi 60 (by decide) (by decide)) dX9_begin_64 (n := 67) rfl ?_
      refine dk_cald C dk_sh61 h.1 (hmi 61 (by decide) (by decide)) dX9_begin_67 (n := 68) rfl ?_
      have h := h.2
      refine dk_callSi C [] (cc_X9_isFreeKind C.D  h) yy_X9_isFreeKind dk_wm_X9_129 dX9_begin_68 (fun r15 s14 h => ?_) rfl ⟨Nat.le_of_ble_eq_true rfl, Nat.le_of_ble_eq_true rfl⟩ rfl (Nat.le_of_ble_eq_true rfl) rfl (n := 71) rfl
      refine dk_if_eq (t := 78) C dX9_begin_71 (n := 74) rfl (by decide) (fun c18 => ?_) (fun c18 => ?_)
      · have h := h.1 c18
        refine dk_iconst (v := 0) C dX9_begin_78 (n := 79) rfl (by decide) ?_
        refine dk_istore_n (i := 2) (L' := [some (dk_r G 4 60), some (.int x1), some (.int 0), none]) C dX9_begin_79 (n := 80) rfl rfl (dk_nc_of rfl) (Nat.le_of_ble_eq_true rfl) rfl ?_
        refine dk_iconst (v := 0) C dX9_begin_80 (n := 81) rfl (by decide) ?_
        refine dk_istore_n (i := 3) (L' := [some (dk_r G 4 60), some (.int x1), some (.int 0), some (.int 0)]) C dX9_begin_81 (n := 82) rfl rfl (dk_nc_of rfl) (Nat.le_of_ble_eq_true rfl) rfl ?_
        obtain ⟨nn16, h⟩ := h
        refine dk_sub (L0 := [some (dk_r G 4 60), none, some (.int 0), some (.int 0)]) ⟨rfl, ⟨rfl, ⟨rfl, trivial⟩⟩⟩ ?_
        refine ww_X9_begin_82 C hr hlk hmi  nn16 0 0 s14 h
      · have h := h.2 c18
        refine dk_iconst (v := 1) C dX9_begin_74 (n := 75) rfl (by decide) ?_
        refine dk_goto (t := 79) C dX9_begin_75 (by decide) ?_
        refine dk_istore_n (i := 2) (L' := [some (dk_r G 4 60), some (.int x1), some (.int 1), none]) C dX9_begin_79 (n := 80) rfl rfl (dk_nc_of rfl) (Nat.le_of_ble_eq_true rfl) rfl ?_
        refine dk_iconst (v := 0) C dX9_begin_80 (n := 81) rfl (by decide) ?_
        refine dk_istore_n (i := 3) (L' := [some (dk_r G 4 60), some (.int x1), some (.int 1), some (.int 0)]) C dX9_begin_81 (n := 82) rfl rfl (dk_nc_of rfl) (Nat.le_of_ble_eq_true rfl) rfl ?_
        obtain ⟨nn17, h⟩ := h
        refine dk_sub (L0 := [some (dk_r G 4 60), none, some (.int 1), some (.int 0)]) ⟨rfl, ⟨rfl, ⟨rfl, trivial⟩⟩⟩ ?_
        refine ww_X9_begin_82 C hr hlk hmi  nn17 1 0 s14 h
  · have h := h.2 c20
    refine dk_iconst (v := 0) C dX9_begin_34 (n := 35) rfl (by decide) ?_
    exact dk_iret C hr hlk rfl dX9_begin_35 ⟨_, rfl, h⟩
set_option maxRecDepth 20000 in
set_option maxHeartbeats 4000000 in
theorem cc_X9_begin {G : dk_G} {l : Launch} {a1 : Int32} (hD : dk_D G) (hmi : dk_MI G) {s : dk_S} {K : Int32 → dk_S → Prop} (h : wf_X9_begin a1 s K) : dk_M G l 8 yX9_begin cX9_begin 4 (some .int) [dk_r G 4 60, .int a1] s (dk_ki K) := by
  refine dk_of hD (by decide) [some (dk_r G 4 60), some (.int a1), none, none] (fun q hq => hq) rfl (Nat.le_of_ble_eq_true rfl) (fun P e S0 m args bel meth c C hr hlk => ?_)
  unfold wf_X9_begin at h
  refine dk_aload_n (i := 0) C dX9_begin_0 (n := 1) rfl rfl rfl ?_
  refine dk_iload_n (i := 1) C dX9_begin_1 (n := 2) rfl rfl rfl ?_
  refine dk_if_ge (t := 9) C dX9_begin_2 (n := 5) rfl (by decide) (fun c7 => ?_) (fun c7 => ?_)
  · have h := h.1 c7
    refine dk_aload_n (i := 0) C dX9_begin_9 (n := 10) rfl rfl rfl ?_
    refine dk_callVi C [dk_r G 4 60] (cc_X9_isOn C.D hmi h) yy_X9_isOn dk_wm_X9_145 dk_sh60 (hmi 60 (by decide) (by decide)) dX9_begin_10 (fun r2 s1 h => ?_) rfl rfl ⟨Nat.le_of_ble_eq_true rfl, Nat.le_of_ble_eq_true rfl⟩ rfl (Nat.le_of_ble_eq_true rfl) rfl (n := 13) rfl
    refine dk_if_ne (t := 23) C dX9_begin_13 (n := 16) rfl (by decide) (fun c6 => ?_) (fun c6 => ?_)
    · have h := h.1 c6
      refine dk_iconst (v := 2) C dX9_begin_23 (n := 24) rfl (by decide) ?_
      refine dk_goto (t := 28) C dX9_begin_24 (by decide) ?_
      refine dk_sub (L0 := [some (dk_r G 4 60), some (.int a1), none, none]) ⟨rfl, ⟨rfl, trivial⟩⟩ ?_
      exact ww_X9_begin_28 C hr hlk hmi  a1 2 s1 h
    · have h := h.2 c6
      refine dk_aload_n (i := 0) C dX9_begin_16 (n := 17) rfl rfl rfl ?_
      refine dk_callVi C [dk_r G 4 60] (cc_X9_isSetWell C.D hmi h) yy_X9_isSetWell dk_wm_X9_249 dk_sh60 (hmi 60 (by decide) (by decide)) dX9_begin_17 (fun r4 s3 h => ?_) rfl rfl ⟨Nat.le_of_ble_eq_true rfl, Nat.le_of_ble_eq_true rfl⟩ rfl (Nat.le_of_ble_eq_true rfl) rfl (n := 20) rfl
      refine dk_if_ne (t := 27) C dX9_begin_20 (n := 23) rfl (by decide) (fun c5 => ?_) (fun c5 => ?_)
      · have h := h.1 c5
        refine dk_iconst (v := 0) C dX9_begin_27 (n := 28) rfl (by decide) ?_
        refine dk_sub (L0 := [some (dk_r G 4 60), some (.int a1), none, none]) ⟨rfl, ⟨rfl, trivial⟩⟩ ?_
        exact ww_X9_begin_28 C hr hlk hmi  a1 0 s3 h
      · have h := h.2 c5
        refine dk_iconst (v := 2) C dX9_begin_23 (n := 24) rfl (by decide) ?_
        refine dk_goto (t := 28) C dX9_begin_24 (by decide) ?_
        refine dk_sub (L0 := [some (dk_r G 4 60), some (.int a1), none, none]) ⟨rfl, ⟨rfl, trivial⟩⟩ ?_
        exact ww_X9_begin_28 C hr hlk hmi  a1 2 s3 h
  · have h := h.2 c7
    refine dk_iconst (v := 1) C dX9_begin_5 (n := 6) rfl (by decide) ?_
    refine dk_goto (t := 28) C dX9_begin_6 (by decide) ?_
    refine dk_sub (L0 := [some (dk_r G 4 60), some (.int a1), none, none]) ⟨rfl, ⟨rfl, trivial⟩⟩ ?_
    exact ww_X9_begin_28 C hr hlk hmi  a1 1 s h
/-! X9_leave -/
def wf_X9_leave_13  (K : Int32 → dk_S → Prop) (y0 : Int32) (s : dk_S) : Prop :=
  wf_X9_goesOn y0 s (fun r5 s4 => ((¬ r5 = 0 → ∀ s6 : dk_S, s6 = dk_row s4 4 60 (upd (s4 4 60) 1 108) → K (s6 4 60 2) s6) ∧ (r5 = 0 → K 0 s4)))
def wf_X9_leave  (s : dk_S) (K : Int32 → dk_S → Prop) : Prop :=
  wf_X9_isOn s (fun r2 s1 => ((r2 = 0 → wf_X9_leave_13 K 1 s1) ∧ (¬ r2 = 0 → wf_X9_leave_13 K 0 s1)))
set_option maxRecDepth 20000 in
set_option maxHeartbeats 4000000 in
theorem ww_X9_leave_13 {G : dk_G} {P : Program} {l : Launch} {e : Env} {S0 : State} {m : MethodId} {args : Array Value} {bel : List Frame} {meth : Method} {c : Code}  (C : dk_C G P (dk_rm 2) S0 m args c 0 0 cX9_leave 1 RX9) (hr : meth.sig.returnType = (some .int)) (hlk : meth.locks = false) (hmi : dk_MI G) {K : Int32 → dk_S → Prop}  : ∀ (y0 : Int32) (s : dk_S), wf_X9_leave_13 K y0 s → dk_W G P l e (dk_rm 2) S0 m args bel meth c 0 0 (MQ bel (dk_Qc G (dk_ki K)) args S0 0 0 (dk_A G)) 13 [some (dk_r G 4 60)] [.int y0, dk_r G 4 60] s := by
  intro y0 s h
  unfold wf_X9_leave_13 at h
  refine dk_callVi C [] (cc_X9_goesOn C.D hmi h) yy_X9_goesOn dk_wm_X9_149 dk_sh60 (hmi 60 (by decide) (by decide)) dX9_leave_13 (fun r5 s4 h => ?_) rfl rfl ⟨Nat.le_of_ble_eq_true rfl, Nat.le_of_ble_eq_true rfl⟩ rfl (Nat.le_of_ble_eq_true rfl) rfl (n := 16) rfl
  refine dk_if_ne (t := 21) C dX9_leave_16 (n := 19) rfl (by decide) (fun c7 => ?_) (fun c7 => ?_)
  · have h := h.1 c7
    refine dk_aload_n (i := 0) C dX9_leave_21 (n := 22) rfl rfl rfl ?_
    refine dk_bipush (v := 108) C dX9_leave_22 (n := 24) rfl (by decide) ?_
    refine pf_X9_7 C (by decide) (by decide) (hmi 60 (by decide) (by decide)) dX9_leave_24 (n := 27) rfl ?_
    refine dk_nameS (fun s6 es6 => ?_)
    have h := h s6 es6
    refine dk_aload_n (i := 0) C dX9_leave_27 (n := 28) rfl rfl rfl ?_
    refine gf_X9_133 C (hmi 60 (by decide) (by decide)) dX9_leave_28 (n := 31) rfl ?_
    exact dk_iret C hr hlk rfl dX9_leave_31 ⟨_, rfl, h⟩
  · have h := h.2 c7
    refine dk_iconst (v := 0) C dX9_leave_19 (n := 20) rfl (by decide) ?_
    exact dk_iret C hr hlk rfl dX9_leave_20 ⟨_, rfl, h⟩
set_option maxRecDepth 20000 in
set_option maxHeartbeats 4000000 in
theorem cc_X9_leave {G : dk_G} {l : Launch}  (hD : dk_D G) (hmi : dk_MI G) {s : dk_S} {K : Int32 → dk_S → Prop} (h : wf_X9_leave s K) : dk_M G l 2 yX9_leave cX9_leave 1 (some .int) [dk_r G 4 60] s (dk_ki K) := by
  refine dk_of hD (by decide) [some (dk_r G 4 60)] (fun q hq => hq) rfl (Nat.le_of_ble_eq_true rfl) (fun P e S0 m args bel meth c C hr hlk => ?_)
  unfold wf_X9_leave at h
  refine dk_aload_n (i := 0) C dX9_leave_0 (n := 1) rfl rfl rfl ?_
  refine dk_aload_n (i := 0) C dX9_leave_1 (n := 2) rfl rfl rfl ?_
  refine dk_callVi C [dk_r G 4 60] (cc_X9_isOn C.D hmi h) yy_X9_isOn dk_wm_X9_145 dk_sh60 (hmi 60 (by decide) (by decide)) dX9_leave_2 (fun r2 s1 h => ?_) rfl rfl ⟨Nat.le_of_ble_eq_true rfl, Nat.le_of_ble_eq_true rfl⟩ rfl (Nat.le_of_ble_eq_true rfl) rfl (n := 5) rfl
  refine dk_if_eq (t := 12) C dX9_leave_5 (n := 8) rfl (by decide) (fun c3 => ?_) (fun c3 => ?_)
  · have h := h.1 c3
    refine dk_iconst (v := 1) C dX9_leave_12 (n := 13) rfl (by decide) ?_
    refine dk_sub (L0 := [some (dk_r G 4 60)]) ⟨rfl, trivial⟩ ?_
    exact ww_X9_leave_13 C hr hlk hmi  1 s1 h
  · have h := h.2 c3
    refine dk_iconst (v := 0) C dX9_leave_8 (n := 9) rfl (by decide) ?_
    refine dk_goto (t := 13) C dX9_leave_9 (by decide) ?_
    refine dk_sub (L0 := [some (dk_r G 4 60)]) ⟨rfl, trivial⟩ ?_
    exact ww_X9_leave_13 C hr hlk hmi  0 s1 h
/-! X9_strikes -/
def wf_X9_strikes_60  (K : dk_S → Prop) (x1 : Int32) (s : dk_S) : Prop :=
  (vp_in x1 8 ∧ wf_X9_sounds (s 4 76 x1.toNatClampNeg) 6 s (fun r10 s9 => K s9))
def wf_X9_strikes_22  (K : dk_S → Prop) (x1 : Int32) (x2 : Int32) (y0 : Int32) (s : dk_S) : Prop :=
  (vp_in x1 8 ∧ (vp_in x1 8 ∧ (∀ s2 : dk_S, s2 = dk_row s 4 77 (upd (s 4 77) x1.toNatClampNeg ((s 4 77 x1.toNatClampNeg) - x2)) → wf_X9_lives x1 s2 (fun r4 s3 => ((¬ r4 = 0 → wf_X9_strikes_60 K x1 s3) ∧ (r4 = 0 → ((y0 = 0 → ∀ s5 : dk_S, s5 = dk_row s3 4 60 (upd (s3 4 60) 31 ((s3 4 60 31) + 1)) → wf_X9_strikes_60 K x1 s5) ∧ (¬ y0 = 0 → ∀ s6 : dk_S, s6 = dk_row s3 4 60 (upd (s3 4 60) 31 ((s3 4 60 31) + (-2))) → wf_X9_strikes_60 K x1 s6))))))))
def wf_X9_strikes (a1 : Int32) (a2 : Int32) (s : dk_S) (K : dk_S → Prop) : Prop :=
  (vp_in a1 8 ∧ (vp_in a1 8 ∧ (((s 4 70 a1.toNatClampNeg) ≤ (3 * (s 4 77 a1.toNatClampNeg)) → wf_X9_strikes_22 K a1 a2 0 s) ∧ (¬ (s 4 70 a1.toNatClampNeg) ≤ (3 * (s 4 77 a1.toNatClampNeg)) → wf_X9_strikes_22 K a1 a2 1 s))))
set_option maxRecDepth 20000 in
set_option maxHeartbeats 4000000 in
theorem ww_X9_strikes_60 {G : dk_G} {P : Program} {l : Launch} {e : Env} {S0 : State} {m : MethodId} {args : Array Value} {bel : List Frame} {meth : Method} {c : Code}  (C : dk_C G P (dk_rm 6) S0 m args c 0 0 cX9_strikes 5 RX9) (hr : meth.sig.returnType = none) (hlk : meth.locks = false) (hmi : dk_MI G) {K : dk_S → Prop}  : ∀ (x1 : Int32) (s : dk_S), wf_X9_strikes_60 K x1 s → dk_W G P l e (dk_rm 6) S0 m args bel meth c 0 0 (MQ bel (dk_Qc G (dk_kv K)) args S0 0 0 (dk_A G)) 60 [some (dk_r G 4 60), some (.int x1), none, none, none] [] s := by
  intro x1 s h
  unfold wf_X9_strikes_60 at h
  refine dk_aload_n (i := 0) C dX9_strikes_60 (n := 61) rfl rfl rfl ?_
  refine dk_aload_n (i := 0) C dX9_strikes_61 (n := 62) rfl rfl rfl ?_
  refine gf_X9_65 C (hmi 60 (by decide) (by decide)) dX9_strikes_62 (n := 65) rfl ?_
  refine dk_iload_n (i := 1) C dX9_strikes_65 (n := 66) rfl rfl rfl ?_
  refine dk_iald C dk_sh76 h.1 (hmi 76 (by decide) (by decide)) dX9_strikes_66 (n := 67) rfl ?_
  have h := h.2
  refine dk_bipush (v := 6) C dX9_strikes_67 (n := 69) rfl (by decide) ?_
  refine dk_callVi C [] (cc_X9_sounds C.D hmi h) yy_X9_sounds dk_wm_X9_238 dk_sh60 (hmi 60 (by decide) (by decide)) dX9_strikes_69 (fun r10 s9 h => ?_) rfl rfl ⟨Nat.le_of_ble_eq_true rfl, Nat.le_of_ble_eq_true rfl⟩ rfl (Nat.le_of_ble_eq_true rfl) rfl (n := 72) rfl
  refine dk_istore (i := 4) (L' := [some (dk_r G 4 60), some (.int x1), none, none, some (.int r10)]) C dX9_strikes_72 (n := 74) rfl (dk_nc_of rfl) (Nat.le_of_ble_eq_true rfl) rfl ?_
  exact dk_vret C hr hlk dX9_strikes_74 ⟨rfl, h⟩
set_option maxRecDepth 20000 in
set_option maxHeartbeats 4000000 in
theorem ww_X9_strikes_22 {G : dk_G} {P : Program} {l : Launch} {e : Env} {S0 : State} {m : MethodId} {args : Array Value} {bel : List Frame} {meth : Method} {c : Code}  (C : dk_C G P (dk_rm 6) S0 m args c 0 0 cX9_strikes 5 RX9) (hr : meth.sig.returnType = none) (hlk : meth.locks = false) (hmi : dk_MI G) {K : dk_S → Prop}  : ∀ (x1 : Int32) (x2 : Int32) (y0 : Int32) (s : dk_S), wf_X9_strikes_22 K x1 x2 y0 s → dk_W G P l e (dk_rm 6) S0 m args bel meth c 0 0 (MQ bel (dk_Qc G (dk_kv K)) args S0 0 0 (dk_A G)) 22 [some (dk_r G 4 60), some (.int x1), some (.int x2), none, none] [.int y0] s := by
  intro x1 x2 y0 s h
  unfold wf_X9_strikes_22 at h
  refine dk_istore_n (i := 3) (L' := [some (dk_r G 4 60), some (.int x1), some (.int x2), some (.int y0), none]) C dX9_strikes_22 (n := 23) rfl rfl (dk_nc_of rfl) (Nat.le_of_ble_eq_true rfl) rfl ?_
  refine dk_aload_n (i := 0) C dX9_strikes_23 (n := 24) rfl rfl rfl ?_
  refine gf_X9_68 C (hmi 60 (by decide) (by decide)) dX9_strikes_24 (n := 27) rfl ?_
  refine dk_iload_n (i := 1) C dX9_strikes_27 (n := 28) rfl rfl rfl ?_
  refine dk_dup2 C dX9_strikes_28 (n := 29) rfl rfl rfl ?_
  refine dk_iald C dk_sh77 h.1 (hmi 77 (by decide) (by decide)) dX9_strikes_29 (n := 30) rfl ?_
  have h := h.2
  refine dk_iload_n (i := 2) C dX9_strikes_30 (n := 31) rfl rfl rfl ?_
  refine dk_isub C dX9_strikes_31 (n := 32) rfl ?_
  refine dk_iast C dk_sh77 h.1 (hmi 77 (by decide) (by decide)) dX9_strikes_32 (n := 33) rfl ?_
  refine dk_nameS (fun s2 es2 => ?_)
  have h := h.2 s2 es2
  refine dk_aload_n (i := 0) C dX9_strikes_33 (n := 34) rfl rfl rfl ?_
  refine dk_iload_n (i := 1) C dX9_strikes_34 (n := 35) rfl rfl rfl ?_
  refine dk_callVi C [] (cc_X9_lives C.D hmi h) yy_X9_lives dk_wm_X9_200 dk_sh60 (hmi 60 (by decide) (by decide)) dX9_strikes_35 (fun r4 s3 h => ?_) rfl rfl ⟨Nat.le_of_ble_eq_true rfl, Nat.le_of_ble_eq_true rfl⟩ rfl (Nat.le_of_ble_eq_true rfl) rfl (n := 38) rfl
  refine dk_if_ne (t := 60) C dX9_strikes_38 (n := 41) rfl (by decide) (fun c8 => ?_) (fun c8 => ?_)
  · have h := h.1 c8
    refine dk_sub (L0 := [some (dk_r G 4 60), some (.int x1), none, none, none]) ⟨rfl, ⟨rfl, trivial⟩⟩ ?_
    exact ww_X9_strikes_60 C hr hlk hmi  x1 s3 h
  · have h := h.2 c8
    refine dk_aload_n (i := 0) C dX9_strikes_41 (n := 42) rfl rfl rfl ?_
    refine dk_dup C dX9_strikes_42 (n := 43) rfl rfl ?_
    refine gf_X9_139 C (hmi 60 (by decide) (by decide)) dX9_strikes_43 (n := 46) rfl ?_
    refine dk_iload_n (i := 3) C dX9_strikes_46 (n := 47) rfl rfl rfl ?_
    refine dk_if_eq (t := 55) C dX9_strikes_47 (n := 50) rfl (by decide) (fun c7 => ?_) (fun c7 => ?_)
    · have h := h.1 c7
      refine dk_iconst (v := 1) C dX9_strikes_55 (n := 56) rfl (by decide) ?_
      refine dk_iadd C dX9_strikes_56 (n := 57) rfl ?_
      refine pf_X9_139 C rfl rfl (hmi 60 (by decide) (by decide)) dX9_strikes_57 (n := 60) rfl ?_
      refine dk_nameS (fun s5 es5 => ?_)
      have h := h s5 es5
      refine dk_sub (L0 := [some (dk_r G 4 60), some (.int x1), none, none, none]) ⟨rfl, ⟨rfl, trivial⟩⟩ ?_
      exact ww_X9_strikes_60 C hr hlk hmi  x1 s5 h
    · have h := h.2 c7
      refine dk_bipush (v := (-2)) C dX9_strikes_50 (n := 52) rfl (by decide) ?_
      refine dk_goto (t := 56) C dX9_strikes_52 (by decide) ?_
      refine dk_iadd C dX9_strikes_56 (n := 57) rfl ?_
      refine pf_X9_139 C rfl rfl (hmi 60 (by decide) (by decide)) dX9_strikes_57 (n := 60) rfl ?_
      refine dk_nameS (fun s6 es6 => ?_)
      have h := h s6 es6
      refine dk_sub (L0 := [some (dk_r G 4 60), some (.int x1), none, none, none]) ⟨rfl, ⟨rfl, trivial⟩⟩ ?_
      exact ww_X9_strikes_60 C hr hlk hmi  x1 s6 h
set_option maxRecDepth 20000 in
set_option maxHeartbeats 4000000 in
theorem cc_X9_strikes {G : dk_G} {l : Launch} {a1 : Int32} {a2 : Int32} (hD : dk_D G) (hmi : dk_MI G) {s : dk_S} {K : dk_S → Prop} (h : wf_X9_strikes a1 a2 s K) : dk_M G l 6 yX9_strikes cX9_strikes 5 none [dk_r G 4 60, .int a1, .int a2] s (dk_kv K) := by
  refine dk_of hD (by decide) [some (dk_r G 4 60), some (.int a1), some (.int a2), none, none] (fun q hq => hq) rfl (Nat.le_of_ble_eq_true rfl) (fun P e S0 m args bel meth c C hr hlk => ?_)
  unfold wf_X9_strikes at h
  refine dk_iconst (v := 3) C dX9_strikes_0 (n := 1) rfl (by decide) ?_
  refine dk_aload_n (i := 0) C dX9_strikes_1 (n := 2) rfl rfl rfl ?_
  refine gf_X9_68 C (hmi 60 (by decide) (by decide)) dX9_strikes_2 (n := 5) rfl ?_
  refine dk_iload_n (i := 1) C dX9_strikes_5 (n := 6) rfl rfl rfl ?_
  refine dk_iald C dk_sh77 h.1 (hmi 77 (by decide) (by decide)) dX9_strikes_6 (n := 7) rfl ?_
  have h := h.2
  refine dk_imul C dX9_strikes_7 (n := 8) rfl ?_
  refine dk_aload_n (i := 0) C dX9_strikes_8 (n := 9) rfl rfl rfl ?_
  refine gf_X9_47 C (hmi 60 (by decide) (by decide)) dX9_strikes_9 (n := 12) rfl ?_
  refine dk_iload_n (i := 1) C dX9_strikes_12 (n := 13) rfl rfl rfl ?_
  refine dk_iald C dk_sh70 h.1 (hmi 70 (by decide) (by decide)) dX9_strikes_13 (n := 14) rfl ?_
  have h := h.2
  refine dk_icmp_ge (t := 21) C dX9_strikes_14 (n := 17) rfl (by decide) (fun c1 => ?_) (fun c1 => ?_)
  · have h := h.1 c1
    refine dk_iconst (v := 0) C dX9_strikes_21 (n := 22) rfl (by decide) ?_
    refine dk_sub (L0 := [some (dk_r G 4 60), some (.int a1), some (.int a2), none, none]) ⟨rfl, ⟨rfl, ⟨rfl, trivial⟩⟩⟩ ?_
    exact ww_X9_strikes_22 C hr hlk hmi  a1 a2 0 s h
  · have h := h.2 c1
    refine dk_iconst (v := 1) C dX9_strikes_17 (n := 18) rfl (by decide) ?_
    refine dk_goto (t := 22) C dX9_strikes_18 (by decide) ?_
    refine dk_sub (L0 := [some (dk_r G 4 60), some (.int a1), some (.int a2), none, none]) ⟨rfl, ⟨rfl, ⟨rfl, trivial⟩⟩⟩ ?_
    exact ww_X9_strikes_22 C hr hlk hmi  a1 a2 1 s h
/-! X9_works -/
def wf_X9_works (a1 : Int32) (a2 : Int32) (s : dk_S) (K : dk_S → Prop) : Prop :=
  (vp_in a1 8 ∧ ∀ v1 : Int32, v1 = s 4 65 a1.toNatClampNeg → (vp_in a1 8 ∧ ((¬ (s 4 64 a1.toNatClampNeg) = 104 → (vp_in a1 8 ∧ ((¬ (s 4 64 a1.toNatClampNeg) = 100 → (vp_in a1 8 ∧ ((¬ (s 4 64 a1.toNatClampNeg) = 115 → (vp_in a1 8 ∧ ((¬ (s 4 64 a1.toNatClampNeg) = 98 → K s) ∧ ((s 4 64 a1.toNatClampNeg) = 98 → ((¬ a2 = 0 → K s) ∧ (a2 = 0 → ∀ s2 : dk_S, s2 = dk_row s 4 60 (upd (s 4 60) 30 v1) → K s2)))))) ∧ ((s 4 64 a1.toNatClampNeg) = 115 → (vp_in a2 8 ∧ (∀ s5 : dk_S, s5 = dk_row s 4 79 (upd (s 4 79) a2.toNatClampNeg v1) → (vp_in a2 8 ∧ (∀ s6 : dk_S, s6 = dk_row s5 4 80 (upd (s5 4 80) a2.toNatClampNeg 12) → K s6)))))))) ∧ ((s 4 64 a1.toNatClampNeg) = 100 → (vp_in a2 8 ∧ (vp_in a2 8 ∧ (∀ s8 : dk_S, s8 = dk_row s 4 77 (upd (s 4 77) a2.toNatClampNeg ((s 4 77 a2.toNatClampNeg) - v1)) → K s8))))))) ∧ ((s 4 64 a1.toNatClampNeg) = 104 → (vp_in a2 8 ∧ (vp_in a2 8 ∧ ((((s 4 77 a2.toNatClampNeg) + v1) ≤ (s 4 70 a2.toNatClampNeg) → (vp_in a2 8 ∧ (vp_in a2 8 ∧ (∀ s10 : dk_S, s10 = dk_row s 4 77 (upd (s 4 77) a2.toNatClampNeg ((s 4 77 a2.toNatClampNeg) + v1)) → K s10)))) ∧ (¬ ((s 4 77 a2.toNatClampNeg) + v1) ≤ (s 4 70 a2.toNatClampNeg) → (vp_in a2 8 ∧ (vp_in a2 8 ∧ (∀ s11 : dk_S, s11 = dk_row s 4 77 (upd (s 4 77) a2.toNatClampNeg (s 4 70 a2.toNatClampNeg)) → K s11)))))))))))
set_option maxRecDepth 20000 in
set_option maxHeartbeats 4000000 in
theorem cc_X9_works {G : dk_G} {l : Launch} {a1 : Int32} {a2 : Int32} (hD : dk_D G) (hmi : dk_MI G) {s : dk_S} {K : dk_S → Prop} (h : wf_X9_works a1 a2 s K) : dk_M G l 1 yX9_works cX9_works 4 none [dk_r G 4 60, .int a1, .int a2] s (dk_kv K) := by
  refine dk_of hD (by decide) [some (dk_r G 4 60), some (.int a1), some (.int a2), none] (fun q hq => hq) rfl (Nat.le_of_ble_eq_true rfl) (fun P e S0 m args bel meth c C hr hlk => ?_)
  unfold wf_X9_works at h
  refine dk_aload_n (i := 0) C dX9_works_0 (n := 1) rfl rfl rfl ?_
  refine gf_X9_28 C (hmi 60 (by decide) (by decide)) dX9_works_1 (n := 4) rfl ?_
  refine dk_iload_n (i := 1) C dX9_works_4 (n := 5) rfl rfl rfl ?_
  refine dk_iald C dk_sh65 h.1 (hmi 65 (by decide) (by decide)) dX9_works_5 (n := 6) rfl ?_
  have h := h.2
  refine dk_name (fun v1 ev1 => ?_)
  have h := h v1 ev1
  refine dk_istore_n (i := 3) (L' := [some (dk_r G 4 60), some (.int a1), some (.int a2), some (.int v1)]) C dX9_works_6 (n := 7) rfl rfl (dk_nc_of rfl) (Nat.le_of_ble_eq_true rfl) rfl ?_
  refine dk_aload_n (i := 0) C dX9_works_7 (n := 8) rfl rfl rfl ?_
  refine gf_X9_25 C (hmi 60 (by decide) (by decide)) dX9_works_8 (n := 11) rfl ?_
  refine dk_iload_n (i := 1) C dX9_works_11 (n := 12) rfl rfl rfl ?_
  refine dk_cald C dk_sh64 h.1 (hmi 64 (by decide) (by decide)) dX9_works_12 (n := 13) rfl ?_
  have h := h.2
  refine dk_bipush (v := 104) C dX9_works_13 (n := 15) rfl (by decide) ?_
  refine dk_icmp_ne (t := 61) C dX9_works_15 (n := 18) rfl (by decide) (fun c13 => ?_) (fun c13 => ?_)
  · have h := h.1 c13
    refine dk_aload_n (i := 0) C dX9_works_61 (n := 62) rfl rfl rfl ?_
    refine gf_X9_25 C (hmi 60 (by decide) (by decide)) dX9_works_62 (n := 65) rfl ?_
    refine dk_iload_n (i := 1) C dX9_works_65 (n := 66) rfl rfl rfl ?_
    refine dk_cald C dk_sh64 h.1 (hmi 64 (by decide) (by decide)) dX9_works_66 (n := 67) rfl ?_
    have h := h.2
    refine dk_bipush (v := 100) C dX9_works_67 (n := 69) rfl (by decide) ?_
    refine dk_icmp_ne (t := 85) C dX9_works_69 (n := 72) rfl (by decide) (fun c9 => ?_) (fun c9 => ?_)
    · have h := h.1 c9
      refine dk_aload_n (i := 0) C dX9_works_85 (n := 86) rfl rfl rfl ?_
      refine gf_X9_25 C (hmi 60 (by decide) (by decide)) dX9_works_86 (n := 89) rfl ?_
      refine dk_iload_n (i := 1) C dX9_works_89 (n := 90) rfl rfl rfl ?_
      refine dk_cald C dk_sh64 h.1 (hmi 64 (by decide) (by decide)) dX9_works_90 (n := 91) rfl ?_
      have h := h.2
      refine dk_bipush (v := 115) C dX9_works_91 (n := 93) rfl (by decide) ?_
      refine dk_icmp_ne (t := 114) C dX9_works_93 (n := 96) rfl (by decide) (fun c7 => ?_) (fun c7 => ?_)
      · have h := h.1 c7
        refine dk_aload_n (i := 0) C dX9_works_114 (n := 115) rfl rfl rfl ?_
        refine gf_X9_25 C (hmi 60 (by decide) (by decide)) dX9_works_115 (n := 118) rfl ?_
        refine dk_iload_n (i := 1) C dX9_works_118 (n := 119) rfl rfl rfl ?_
        refine dk_cald C dk_sh64 h.1 (hmi 64 (by decide) (by decide)) dX9_works_119 (n := 120) rfl ?_
        have h := h.2
        refine dk_bipush (v := 98) C dX9_works_120 (n := 122) rfl (by decide) ?_
        refine dk_icmp_ne (t := 134) C dX9_works_122 (n := 125) rfl (by decide) (fun c4 => ?_) (fun c4 => ?_)
        · have h := h.1 c4
          exact dk_vret C hr hlk dX9_works_134 ⟨rfl, h⟩
        · have h := h.2 c4
          refine dk_iload_n (i := 2) C dX9_works_125 (n := 126) rfl rfl rfl ?_
          refine dk_if_ne (t := 134) C dX9_works_126 (n := 129) rfl (by decide) (fun c3 => ?_) (fun c3 => ?_)
          · have h := h.1 c3
            exact dk_vret C hr hlk dX9_works_134 ⟨rfl, h⟩
          · have h := h.2 c3
            refine dk_aload_n (i := 0) C dX9_works_129 (n := 130) rfl rfl rfl ?_
            refine dk_iload_n (i := 3) C dX9_works_130 (n := 131) rfl rfl rfl ?_
            refine pf_X9_136 C rfl rfl (hmi 60 (by decide) (by decide)) dX9_works_131 (n := 134) rfl ?_
            refine dk_nameS (fun s2 es2 => ?_)
            have h := h s2 es2
            exact dk_vret C hr hlk dX9_works_134 ⟨rfl, h⟩
      · have h := h.2 c7
        refine dk_aload_n (i := 0) C dX9_works_96 (n := 97) rfl rfl rfl ?_
        refine gf_X9_74 C (hmi 60 (by decide) (by decide)) dX9_works_97 (n := 100) rfl ?_
        refine dk_iload_n (i := 2) C dX9_works_100 (n := 101) rfl rfl rfl ?_
        refine dk_iload_n (i := 3) C dX9_works_101 (n := 102) rfl rfl rfl ?_
        refine dk_iast C dk_sh79 h.1 (hmi 79 (by decide) (by decide)) dX9_works_102 (n := 103) rfl ?_
        refine dk_nameS (fun s5 es5 => ?_)
        have h := h.2 s5 es5
        refine dk_aload_n (i := 0) C dX9_works_103 (n := 104) rfl rfl rfl ?_
        refine gf_X9_77 C (hmi 60 (by decide) (by decide)) dX9_works_104 (n := 107) rfl ?_
        refine dk_iload_n (i := 2) C dX9_works_107 (n := 108) rfl rfl rfl ?_
        refine dk_bipush (v := 12) C dX9_works_108 (n := 110) rfl (by decide) ?_
        refine dk_iast C dk_sh80 h.1 (hmi 80 (by decide) (by decide)) dX9_works_110 (n := 111) rfl ?_
        refine dk_nameS (fun s6 es6 => ?_)
        have h := h.2 s6 es6
        refine dk_goto (t := 134) C dX9_works_111 (by decide) ?_
        exact dk_vret C hr hlk dX9_works_134 ⟨rfl, h⟩
    · have h := h.2 c9
      refine dk_aload_n (i := 0) C dX9_works_72 (n := 73) rfl rfl rfl ?_
      refine gf_X9_68 C (hmi 60 (by decide) (by decide)) dX9_works_73 (n := 76) rfl ?_
      refine dk_iload_n (i := 2) C dX9_works_76 (n := 77) rfl rfl rfl ?_
      refine dk_dup2 C dX9_works_77 (n := 78) rfl rfl rfl ?_
      refine dk_iald C dk_sh77 h.1 (hmi 77 (by decide) (by decide)) dX9_works_78 (n := 79) rfl ?_
      have h := h.2
      refine dk_iload_n (i := 3) C dX9_works_79 (n := 80) rfl rfl rfl ?_
      refine dk_isub C dX9_works_80 (n := 81) rfl ?_
      refine dk_iast C dk_sh77 h.1 (hmi 77 (by decide) (by decide)) dX9_works_81 (n := 82) rfl ?_
      refine dk_nameS (fun s8 es8 => ?_)
      have h := h.2 s8 es8
      refine dk_goto (t := 134) C dX9_works_82 (by decide) ?_
      exact dk_vret C hr hlk dX9_works_134 ⟨rfl, h⟩
  · have h := h.2 c13
    refine dk_aload_n (i := 0) C dX9_works_18 (n := 19) rfl rfl rfl ?_
    refine gf_X9_68 C (hmi 60 (by decide) (by decide)) dX9_works_19 (n := 22) rfl ?_
    refine dk_iload_n (i := 2) C dX9_works_22 (n := 23) rfl rfl rfl ?_
    refine dk_aload_n (i := 0) C dX9_works_23 (n := 24) rfl rfl rfl ?_
    refine gf_X9_68 C (hmi 60 (by decide) (by decide)) dX9_works_24 (n := 27) rfl ?_
    refine dk_iload_n (i := 2) C dX9_works_27 (n := 28) rfl rfl rfl ?_
    refine dk_iald C dk_sh77 h.1 (hmi 77 (by decide) (by decide)) dX9_works_28 (n := 29) rfl ?_
    have h := h.2
    refine dk_iload_n (i := 3) C dX9_works_29 (n := 30) rfl rfl rfl ?_
    refine dk_iadd C dX9_works_30 (n := 31) rfl ?_
    refine dk_aload_n (i := 0) C dX9_works_31 (n := 32) rfl rfl rfl ?_
    refine gf_X9_47 C (hmi 60 (by decide) (by decide)) dX9_works_32 (n := 35) rfl ?_
    refine dk_iload_n (i := 2) C dX9_works_35 (n := 36) rfl rfl rfl ?_
    refine dk_iald C dk_sh70 h.1 (hmi 70 (by decide) (by decide)) dX9_works_36 (n := 37) rfl ?_
    have h := h.2
    refine dk_icmp_le (t := 49) C dX9_works_37 (n := 40) rfl (by decide) (fun c12 => ?_) (fun c12 => ?_)
    · have h := h.1 c12
      refine dk_aload_n (i := 0) C dX9_works_49 (n := 50) rfl rfl rfl ?_
      refine gf_X9_68 C (hmi 60 (by decide) (by decide)) dX9_works_50 (n := 53) rfl ?_
      refine dk_iload_n (i := 2) C dX9_works_53 (n := 54) rfl rfl rfl ?_
      refine dk_iald C dk_sh77 h.1 (hmi 77 (by decide) (by decide)) dX9_works_54 (n := 55) rfl ?_
      have h := h.2
      refine dk_iload_n (i := 3) C dX9_works_55 (n := 56) rfl rfl rfl ?_
      refine dk_iadd C dX9_works_56 (n := 57) rfl ?_
      refine dk_iast C dk_sh77 h.1 (hmi 77 (by decide) (by decide)) dX9_works_57 (n := 58) rfl ?_
      refine dk_nameS (fun s10 es10 => ?_)
      have h := h.2 s10 es10
      refine dk_goto (t := 134) C dX9_works_58 (by decide) ?_
      exact dk_vret C hr hlk dX9_works_134 ⟨rfl, h⟩
    · have h := h.2 c12
      refine dk_aload_n (i := 0) C dX9_works_40 (n := 41) rfl rfl rfl ?_
      refine gf_X9_47 C (hmi 60 (by decide) (by decide)) dX9_works_41 (n := 44) rfl ?_
      refine dk_iload_n (i := 2) C dX9_works_44 (n := 45) rfl rfl rfl ?_
      refine dk_iald C dk_sh70 h.1 (hmi 70 (by decide) (by decide)) dX9_works_45 (n := 46) rfl ?_
      have h := h.2
      refine dk_goto (t := 57) C dX9_works_46 (by decide) ?_
      refine dk_iast C dk_sh77 h.1 (hmi 77 (by decide) (by decide)) dX9_works_57 (n := 58) rfl ?_
      refine dk_nameS (fun s11 es11 => ?_)
      have h := h.2 s11 es11
      refine dk_goto (t := 134) C dX9_works_58 (by decide) ?_
      exact dk_vret C hr hlk dX9_works_134 ⟨rfl, h⟩
/-! X9_burns -/
def wf_X9_burns_65  (K : dk_S → Prop) (E117 : Int32 → Int32 → Int32 → dk_S → Prop) : Nat → Int32 → Int32 → Int32 → Int32 → dk_S → Prop
  | 0, _, _, _, _, _ => False
  | n + 1, x1, x2, x3, x5, s => (((s 4 60 15) ≤ x5 → E117 x1 x2 x3 s) ∧ (¬ (s 4 60 15) ≤ x5 → (vp_in x5 24 ∧ ((¬ (s 4 82 x5.toNatClampNeg) = ((-3) - x3) → (vp_in x5 24 ∧ (vp_in x5 24 ∧ (∀ s17 : dk_S, s17 = dk_row s 4 82 (upd (s 4 82) x5.toNatClampNeg (s 4 82 x5.toNatClampNeg)) → ∀ v18 : Int32, v18 = x5 + 1 → wf_X9_burns_65 K E117 n x1 x2 x3 v18 s17)))) ∧ ((s 4 82 x5.toNatClampNeg) = ((-3) - x3) → (vp_in x3 24 ∧ (vp_in x5 24 ∧ (∀ s19 : dk_S, s19 = dk_row s 4 82 (upd (s 4 82) x5.toNatClampNeg (s 4 82 x3.toNatClampNeg)) → ∀ v20 : Int32, v20 = x5 + 1 → wf_X9_burns_65 K E117 n x1 x2 x3 v20 s19))))))))
def wf_X9_burns_52  (K : dk_S → Prop) (B : Int32 → Int32 → Int32 → dk_S → Prop) (x1 : Int32) (x2 : Int32) (x3 : Int32) (y0 : Int32) (s : dk_S) : Prop :=
  ((¬ y0 = 0 → ∃ nn14 : Nat, wf_X9_burns_65 K (fun (w8 : Int32) (w9 : Int32) (w10 : Int32) (s11 : dk_S) => (vp_in w10 24 ∧ (∀ s12 : dk_S, s12 = dk_row s11 4 82 (upd (s11 4 82) w10.toNatClampNeg (-2)) → ∀ v13 : Int32, v13 = w10 + 1 → B w8 w9 v13 s12))) nn14 x1 x2 x3 0 s) ∧ (y0 = 0 → ∀ v15 : Int32, v15 = x3 + 1 → B x1 x2 v15 s))
def wf_X9_burns_2  (K : dk_S → Prop) : Nat → Int32 → Int32 → Int32 → dk_S → Prop
  | 0, _, _, _, _ => False
  | n + 1, x1, x2, x3, s => (((s 4 60 15) ≤ x3 → K s) ∧ (¬ (s 4 60 15) ≤ x3 → (vp_in x3 24 ∧ (((s 4 82 x3.toNatClampNeg) < 0 → wf_X9_burns_52 K (wf_X9_burns_2 K n) x1 x2 x3 0 s) ∧ (¬ (s 4 82 x3.toNatClampNeg) < 0 → (vp_in x3 24 ∧ (vp_in (s 4 71 x3.toNatClampNeg) 8 ∧ (((s 4 63 (s 4 71 x3.toNatClampNeg).toNatClampNeg) = 0 → wf_X9_burns_52 K (wf_X9_burns_2 K n) x1 x2 x3 0 s) ∧ (¬ (s 4 63 (s 4 71 x3.toNatClampNeg).toNatClampNeg) = 0 → (vp_in x3 24 ∧ wf_X9_around (s 4 82 x3.toNatClampNeg) x1 s (fun r3 s2 => ((x2 < r3 → wf_X9_burns_52 K (wf_X9_burns_2 K n) x1 x2 x3 0 s2) ∧ (¬ x2 < r3 → wf_X9_burns_52 K (wf_X9_burns_2 K n) x1 x2 x3 1 s2)))))))))))))
def wf_X9_burns (a1 : Int32) (a2 : Int32) (s : dk_S) (K : dk_S → Prop) : Prop :=
  ∃ nn1 : Nat, wf_X9_burns_2 K nn1 a1 a2 0 s
set_option maxRecDepth 20000 in
set_option maxHeartbeats 4000000 in
theorem ww_X9_burns_65 {G : dk_G} {P : Program} {l : Launch} {e : Env} {S0 : State} {m : MethodId} {args : Array Value} {bel : List Frame} {meth : Method} {c : Code}  (C : dk_C G P (dk_rm 3) S0 m args c 0 0 cX9_burns 6 RX9) (hr : meth.sig.returnType = none) (hlk : meth.locks = false) (hmi : dk_MI G) {K : dk_S → Prop} {E117 : Int32 → Int32 → Int32 → dk_S → Prop} (hE117 : ∀ (x1 : Int32) (x2 : Int32) (x3 : Int32) (s : dk_S), E117 x1 x2 x3 s → dk_W G P l e (dk_rm 3) S0 m args bel meth c 0 0 (MQ bel (dk_Qc G (dk_kv K)) args S0 0 0 (dk_A G)) 117 [some (dk_r G 4 60), some (.int x1), some (.int x2), some (.int x3), none, none] [] s) : ∀ (n : Nat) (x1 : Int32) (x2 : Int32) (x3 : Int32) (x5 : Int32) (s : dk_S), wf_X9_burns_65 K E117 n x1 x2 x3 x5 s → dk_W G P l e (dk_rm 3) S0 m args bel meth c 0 0 (MQ bel (dk_Qc G (dk_kv K)) args S0 0 0 (dk_A G)) 65 [some (dk_r G 4 60), some (.int x1), some (.int x2), some (.int x3), none, some (.int x5)] [] s := by
  intro n
  induction n with
  | zero => intro x1 x2 x3 x5 s h; exact False.elim h
  | succ n hB =>
    intro x1 x2 x3 x5 s h
    unfold wf_X9_burns_65 at h
    refine dk_iload C dX9_burns_65 (n := 67) rfl (i := 5) rfl ?_
    refine dk_aload_n (i := 0) C dX9_burns_67 (n := 68) rfl rfl rfl ?_
    refine gf_X9_162 C (hmi 60 (by decide) (by decide)) dX9_burns_68 (n := 71) rfl ?_
    refine dk_icmp_ge (t := 117) C dX9_burns_71 (n := 74) rfl (by decide) (fun c22 => ?_) (fun c22 => ?_)
    · have h := h.1 c22
      refine dk_sub (L0 := [some (dk_r G 4 60), some (.int x1), some (.int x2), some (.int x3), none, none]) ⟨rfl, ⟨rfl, ⟨rfl, ⟨rfl, trivial⟩⟩⟩⟩ ?_
      exact hE117 x1 x2 x3 s h
    · have h := h.2 c22
      refine dk_aload_n (i := 0) C dX9_burns_74 (n := 75) rfl rfl rfl ?_
      refine gf_X9_83 C (hmi 60 (by decide) (by decide)) dX9_burns_75 (n := 78) rfl ?_
      refine dk_iload C dX9_burns_78 (n := 80) rfl (i := 5) rfl ?_
      refine dk_aload_n (i := 0) C dX9_burns_80 (n := 81) rfl rfl rfl ?_
      refine gf_X9_83 C (hmi 60 (by decide) (by decide)) dX9_burns_81 (n := 84) rfl ?_
      refine dk_iload C dX9_burns_84 (n := 86) rfl (i := 5) rfl ?_
      refine dk_iald C dk_sh82 h.1 (hmi 82 (by decide) (by decide)) dX9_burns_86 (n := 87) rfl ?_
      have h := h.2
      refine dk_bipush (v := (-3)) C dX9_burns_87 (n := 89) rfl (by decide) ?_
      refine dk_iload_n (i := 3) C dX9_burns_89 (n := 90) rfl rfl rfl ?_
      refine dk_isub C dX9_burns_90 (n := 91) rfl ?_
      refine dk_icmp_ne (t := 103) C dX9_burns_91 (n := 94) rfl (by decide) (fun c21 => ?_) (fun c21 => ?_)
      · have h := h.1 c21
        refine dk_aload_n (i := 0) C dX9_burns_103 (n := 104) rfl rfl rfl ?_
        refine gf_X9_83 C (hmi 60 (by decide) (by decide)) dX9_burns_104 (n := 107) rfl ?_
        refine dk_iload C dX9_burns_107 (n := 109) rfl (i := 5) rfl ?_
        refine dk_iald C dk_sh82 h.1 (hmi 82 (by decide) (by decide)) dX9_burns_109 (n := 110) rfl ?_
        have h := h.2
        refine dk_iast C dk_sh82 h.1 (hmi 82 (by decide) (by decide)) dX9_burns_110 (n := 111) rfl ?_
        refine dk_nameS (fun s17 es17 => ?_)
        have h := h.2 s17 es17
        obtain ⟨v18, ev18⟩ : ∃ y : Int32, y = x5 + 1 := ⟨_, rfl⟩
        have h := h v18 ev18
        refine dk_iinc (i := 5) (v := v18) (L' := [some (dk_r G 4 60), some (.int x1), some (.int x2), some (.int x3), none, some (.int v18)]) C dX9_burns_111 (n := 114) rfl rfl (by rw [ev18]; rfl) (dk_nc_of rfl) (Nat.le_of_ble_eq_true rfl) rfl ?_
        refine dk_goto (t := 65) C dX9_burns_114 (by decide) ?_
        refine dk_sub (L0 := [some (dk_r G 4 60), some (.int x1), some (.int x2), some (.int x3), none, some (.int v18)]) ⟨rfl, ⟨rfl, ⟨rfl, ⟨rfl, ⟨rfl, trivial⟩⟩⟩⟩⟩ ?_
        exact hB x1 x2 x3 v18 s17 h
      · have h := h.2 c21
        refine dk_aload_n (i := 0) C dX9_burns_94 (n := 95) rfl rfl rfl ?_
        refine gf_X9_83 C (hmi 60 (by decide) (by decide)) dX9_burns_95 (n := 98) rfl ?_
        refine dk_iload_n (i := 3) C dX9_burns_98 (n := 99) rfl rfl rfl ?_
        refine dk_iald C dk_sh82 h.1 (hmi 82 (by decide) (by decide)) dX9_burns_99 (n := 100) rfl ?_
        have h := h.2
        refine dk_goto (t := 110) C dX9_burns_100 (by decide) ?_
        refine dk_iast C dk_sh82 h.1 (hmi 82 (by decide) (by decide)) dX9_burns_110 (n := 111) rfl ?_
        refine dk_nameS (fun s19 es19 => ?_)
        have h := h.2 s19 es19
        obtain ⟨v20, ev20⟩ : ∃ y : Int32, y = x5 + 1 := ⟨_, rfl⟩
        have h := h v20 ev20
        refine dk_iinc (i := 5) (v := v20) (L' := [some (dk_r G 4 60), some (.int x1), some (.int x2), some (.int x3), none, some (.int v20)]) C dX9_burns_111 (n := 114) rfl rfl (by rw [ev20]; rfl) (dk_nc_of rfl) (Nat.le_of_ble_eq_true rfl) rfl ?_
        refine dk_goto (t := 65) C dX9_burns_114 (by decide) ?_
        refine dk_sub (L0 := [some (dk_r G 4 60), some (.int x1), some (.int x2), some (.int x3), none, some (.int v20)]) ⟨rfl, ⟨rfl, ⟨rfl, ⟨rfl, ⟨rfl, trivial⟩⟩⟩⟩⟩ ?_
        exact hB x1 x2 x3 v20 s19 h
set_option maxRecDepth 20000 in
set_option maxHeartbeats 4000000 in
theorem ww_X9_burns_52 {G : dk_G} {P : Program} {l : Launch} {e : Env} {S0 : State} {m : MethodId} {args : Array Value} {bel : List Frame} {meth : Method} {c : Code}  (C : dk_C G P (dk_rm 3) S0 m args c 0 0 cX9_burns 6 RX9) (hr : meth.sig.returnType = none) (hlk : meth.locks = false) (hmi : dk_MI G) {K : dk_S → Prop} {B : Int32 → Int32 → Int32 → dk_S → Prop} (hB : ∀ (x1 : Int32) (x2 : Int32) (x3 : Int32) (s : dk_S), B x1 x2 x3 s → dk_W G P l e (dk_rm 3) S0 m args bel meth c 0 0 (MQ bel (dk_Qc G (dk_kv K)) args S0 0 0 (dk_A G)) 2 [some (dk_r G 4 60), some (.int x1), some (.int x2), some (.int x3), none, none] [] s)  : ∀ (x1 : Int32) (x2 : Int32) (x3 : Int32) (y0 : Int32) (s : dk_S), wf_X9_burns_52 K B x1 x2 x3 y0 s → dk_W G P l e (dk_rm 3) S0 m args bel meth c 0 0 (MQ bel (dk_Qc G (dk_kv K)) args S0 0 0 (dk_A G)) 52 [some (dk_r G 4 60), some (.int x1), some (.int x2), some (.int x3), none, none] [.int y0] s := by
  intro x1 x2 x3 y0 s h
  unfold wf_X9_burns_52 at h
  refine dk_istore (i := 4) (L' := [some (dk_r G 4 60), some (.int x1), some (.int x2), some (.int x3), some (.int y0), none]) C dX9_burns_52 (n := 54) rfl (dk_nc_of rfl) (Nat.le_of_ble_eq_true rfl) rfl ?_
  refine dk_iload C dX9_burns_54 (n := 56) rfl (i := 4) rfl ?_
  refine dk_if_ne (t := 62) C dX9_burns_56 (n := 59) rfl (by decide) (fun c16 => ?_) (fun c16 => ?_)
  · have h := h.1 c16
    refine dk_iconst (v := 0) C dX9_burns_62 (n := 63) rfl (by decide) ?_
    refine dk_istore (i := 5) (L' := [some (dk_r G 4 60), some (.int x1), some (.int x2), some (.int x3), some (.int y0), some (.int 0)]) C dX9_burns_63 (n := 65) rfl (dk_nc_of rfl) (Nat.le_of_ble_eq_true rfl) rfl ?_
    obtain ⟨nn14, h⟩ := h
    refine dk_sub (L0 := [some (dk_r G 4 60), some (.int x1), some (.int x2), some (.int x3), none, some (.int 0)]) ⟨rfl, ⟨rfl, ⟨rfl, ⟨rfl, ⟨rfl, trivial⟩⟩⟩⟩⟩ ?_
    refine ww_X9_burns_65 C hr hlk hmi (fun w8 w9 w10 s11 h => ?_) nn14 x1 x2 x3 0 s h
    · refine dk_aload_n (i := 0) C dX9_burns_117 (n := 118) rfl rfl rfl ?_
      refine gf_X9_83 C (hmi 60 (by decide) (by decide)) dX9_burns_118 (n := 121) rfl ?_
      refine dk_iload_n (i := 3) C dX9_burns_121 (n := 122) rfl rfl rfl ?_
      refine dk_bipush (v := (-2)) C dX9_burns_122 (n := 124) rfl (by decide) ?_
      refine dk_iast C dk_sh82 h.1 (hmi 82 (by decide) (by decide)) dX9_burns_124 (n := 125) rfl ?_
      refine dk_nameS (fun s12 es12 => ?_)
      have h := h.2 s12 es12
      obtain ⟨v13, ev13⟩ : ∃ y : Int32, y = w10 + 1 := ⟨_, rfl⟩
      have h := h v13 ev13
      refine dk_iinc (i := 3) (v := v13) (L' := [some (dk_r G 4 60), some (.int w8), some (.int w9), some (.int v13), none, none]) C dX9_burns_125 (n := 128) rfl rfl (by rw [ev13]; rfl) (dk_nc_of rfl) (Nat.le_of_ble_eq_true rfl) rfl ?_
      refine dk_goto (t := 2) C dX9_burns_128 (by decide) ?_
      refine dk_sub (L0 := [some (dk_r G 4 60), some (.int w8), some (.int w9), some (.int v13), none, none]) ⟨rfl, ⟨rfl, ⟨rfl, ⟨rfl, trivial⟩⟩⟩⟩ ?_
      exact hB w8 w9 v13 s12 h
  · have h := h.2 c16
    refine dk_goto (t := 125) C dX9_burns_59 (by decide) ?_
    obtain ⟨v15, ev15⟩ : ∃ y : Int32, y = x3 + 1 := ⟨_, rfl⟩
    have h := h v15 ev15
    refine dk_iinc (i := 3) (v := v15) (L' := [some (dk_r G 4 60), some (.int x1), some (.int x2), some (.int v15), some (.int y0), none]) C dX9_burns_125 (n := 128) rfl rfl (by rw [ev15]; rfl) (dk_nc_of rfl) (Nat.le_of_ble_eq_true rfl) rfl ?_
    refine dk_goto (t := 2) C dX9_burns_128 (by decide) ?_
    refine dk_sub (L0 := [some (dk_r G 4 60), some (.int x1), some (.int x2), some (.int v15), none, none]) ⟨rfl, ⟨rfl, ⟨rfl, ⟨rfl, trivial⟩⟩⟩⟩ ?_
    exact hB x1 x2 v15 s h
set_option maxRecDepth 20000 in
set_option maxHeartbeats 4000000 in
theorem ww_X9_burns_2 {G : dk_G} {P : Program} {l : Launch} {e : Env} {S0 : State} {m : MethodId} {args : Array Value} {bel : List Frame} {meth : Method} {c : Code}  (C : dk_C G P (dk_rm 3) S0 m args c 0 0 cX9_burns 6 RX9) (hr : meth.sig.returnType = none) (hlk : meth.locks = false) (hmi : dk_MI G) {K : dk_S → Prop}  : ∀ (n : Nat) (x1 : Int32) (x2 : Int32) (x3 : Int32) (s : dk_S), wf_X9_burns_2 K n x1 x2 x3 s → dk_W G P l e (dk_rm 3) S0 m args bel meth c 0 0 (MQ bel (dk_Qc G (dk_kv K)) args S0 0 0 (dk_A G)) 2 [some (dk_r G 4 60), some (.int x1), some (.int x2), some (.int x3), none, none] [] s := by
  intro n
  induction n with
  | zero => intro x1 x2 x3 s h; exact False.elim h
  | succ n hB =>
    intro x1 x2 x3 s h
    unfold wf_X9_burns_2 at h
    refine dk_iload_n (i := 3) C dX9_burns_2 (n := 3) rfl rfl rfl ?_
    refine dk_aload_n (i := 0) C dX9_burns_3 (n := 4) rfl rfl rfl ?_
    refine gf_X9_162 C (hmi 60 (by decide) (by decide)) dX9_burns_4 (n := 7) rfl ?_
    refine dk_icmp_ge (t := 131) C dX9_burns_7 (n := 10) rfl (by decide) (fun c7 => ?_) (fun c7 => ?_)
    · have h := h.1 c7
      exact dk_vret C hr hlk dX9_burns_131 ⟨rfl, h⟩
    · have h := h.2 c7
      refine dk_aload_n (i := 0) C dX9_burns_10 (n := 11) rfl rfl rfl ?_
      refine gf_X9_83 C (hmi 60 (by decide) (by decide)) dX9_burns_11 (n := 14) rfl ?_
      refine dk_iload_n (i := 3) C dX9_burns_14 (n := 15) rfl rfl rfl ?_
      refine dk_iald C dk_sh82 h.1 (hmi 82 (by decide) (by decide)) dX9_burns_15 (n := 16) rfl ?_
      have h := h.2
      refine dk_if_lt (t := 51) C dX9_burns_16 (n := 19) rfl (by decide) (fun c6 => ?_) (fun c6 => ?_)
      · have h := h.1 c6
        refine dk_iconst (v := 0) C dX9_burns_51 (n := 52) rfl (by decide) ?_
        refine dk_sub (L0 := [some (dk_r G 4 60), some (.int x1), some (.int x2), some (.int x3), none, none]) ⟨rfl, ⟨rfl, ⟨rfl, ⟨rfl, trivial⟩⟩⟩⟩ ?_
        exact ww_X9_burns_52 C hr hlk hmi hB x1 x2 x3 0 s h
      · have h := h.2 c6
        refine dk_aload_n (i := 0) C dX9_burns_19 (n := 20) rfl rfl rfl ?_
        refine gf_X9_21 C (hmi 60 (by decide) (by decide)) dX9_burns_20 (n := 23) rfl ?_
        refine dk_aload_n (i := 0) C dX9_burns_23 (n := 24) rfl rfl rfl ?_
        refine gf_X9_50 C (hmi 60 (by decide) (by decide)) dX9_burns_24 (n := 27) rfl ?_
        refine dk_iload_n (i := 3) C dX9_burns_27 (n := 28) rfl rfl rfl ?_
        refine dk_iald C dk_sh71 h.1 (hmi 71 (by decide) (by decide)) dX9_burns_28 (n := 29) rfl ?_
        have h := h.2
        refine dk_zald C dk_sh63 h.1 (hmi 63 (by decide) (by decide)) dX9_burns_29 (n := 30) rfl ?_
        have h := h.2
        refine dk_if_eq (t := 51) C dX9_burns_30 (n := 33) rfl (by decide) (fun c5 => ?_) (fun c5 => ?_)
        · have h := h.1 c5
          refine dk_iconst (v := 0) C dX9_burns_51 (n := 52) rfl (by decide) ?_
          refine dk_sub (L0 := [some (dk_r G 4 60), some (.int x1), some (.int x2), some (.int x3), none, none]) ⟨rfl, ⟨rfl, ⟨rfl, ⟨rfl, trivial⟩⟩⟩⟩ ?_
          exact ww_X9_burns_52 C hr hlk hmi hB x1 x2 x3 0 s h
        · have h := h.2 c5
          refine dk_aload_n (i := 0) C dX9_burns_33 (n := 34) rfl rfl rfl ?_
          refine gf_X9_83 C (hmi 60 (by decide) (by decide)) dX9_burns_34 (n := 37) rfl ?_
          refine dk_iload_n (i := 3) C dX9_burns_37 (n := 38) rfl rfl rfl ?_
          refine dk_iald C dk_sh82 h.1 (hmi 82 (by decide) (by decide)) dX9_burns_38 (n := 39) rfl ?_
          have h := h.2
          refine dk_iload_n (i := 1) C dX9_burns_39 (n := 40) rfl rfl rfl ?_
          refine dk_callSi C [] (cc_X9_around C.D  h) yy_X9_around dk_wm_X9_183 dX9_burns_40 (fun r3 s2 h => ?_) rfl ⟨Nat.le_of_ble_eq_true rfl, Nat.le_of_ble_eq_true rfl⟩ rfl (Nat.le_of_ble_eq_true rfl) rfl (n := 43) rfl
          refine dk_iload_n (i := 2) C dX9_burns_43 (n := 44) rfl rfl rfl ?_
          refine dk_icmp_gt (t := 51) C dX9_burns_44 (n := 47) rfl (by decide) (fun c4 => ?_) (fun c4 => ?_)
          · have h := h.1 c4
            refine dk_iconst (v := 0) C dX9_burns_51 (n := 52) rfl (by decide) ?_
            refine dk_sub (L0 := [some (dk_r G 4 60), some (.int x1), some (.int x2), some (.int x3), none, none]) ⟨rfl, ⟨rfl, ⟨rfl, ⟨rfl, trivial⟩⟩⟩⟩ ?_
            exact ww_X9_burns_52 C hr hlk hmi hB x1 x2 x3 0 s2 h
          · have h := h.2 c4
            refine dk_iconst (v := 1) C dX9_burns_47 (n := 48) rfl (by decide) ?_
            refine dk_goto (t := 52) C dX9_burns_48 (by decide) ?_
            refine dk_sub (L0 := [some (dk_r G 4 60), some (.int x1), some (.int x2), some (.int x3), none, none]) ⟨rfl, ⟨rfl, ⟨rfl, ⟨rfl, trivial⟩⟩⟩⟩ ?_
            exact ww_X9_burns_52 C hr hlk hmi hB x1 x2 x3 1 s2 h
set_option maxRecDepth 20000 in
set_option maxHeartbeats 4000000 in
theorem cc_X9_burns {G : dk_G} {l : Launch} {a1 : Int32} {a2 : Int32} (hD : dk_D G) (hmi : dk_MI G) {s : dk_S} {K : dk_S → Prop} (h : wf_X9_burns a1 a2 s K) : dk_M G l 3 yX9_burns cX9_burns 6 none [dk_r G 4 60, .int a1, .int a2] s (dk_kv K) := by
  refine dk_of hD (by decide) [some (dk_r G 4 60), some (.int a1), some (.int a2), none, none, none] (fun q hq => hq) rfl (Nat.le_of_ble_eq_true rfl) (fun P e S0 m args bel meth c C hr hlk => ?_)
  unfold wf_X9_burns at h
  refine dk_iconst (v := 0) C dX9_burns_0 (n := 1) rfl (by decide) ?_
  refine dk_istore_n (i := 3) (L' := [some (dk_r G 4 60), some (.int a1), some (.int a2), some (.int 0), none, none]) C dX9_burns_1 (n := 2) rfl rfl (dk_nc_of rfl) (Nat.le_of_ble_eq_true rfl) rfl ?_
  obtain ⟨nn1, h⟩ := h
  refine dk_sub (L0 := [some (dk_r G 4 60), some (.int a1), some (.int a2), some (.int 0), none, none]) ⟨rfl, ⟨rfl, ⟨rfl, ⟨rfl, trivial⟩⟩⟩⟩ ?_
  refine ww_X9_burns_2 C hr hlk hmi  nn1 a1 a2 0 s h
/-! X9_breaks -/
def wf_X9_breaks_25  (K : dk_S → Prop) (E76 : Int32 → Int32 → dk_S → Prop) : Nat → Int32 → Int32 → Int32 → dk_S → Prop
  | 0, _, _, _, _ => False
  | n + 1, x2, x3, x4, s => (((s 4 60 10) ≤ x4 → E76 x2 x3 s) ∧ (¬ (s 4 60 10) ≤ x4 → wf_X9_lives x4 s (fun r15 s14 => ((r15 = 0 → ∀ v16 : Int32, v16 = x4 + 1 → wf_X9_breaks_25 K E76 n x2 x3 v16 s14) ∧ (¬ r15 = 0 → (vp_in x4 8 ∧ wf_X9_around (s14 4 76 x4.toNatClampNeg) x2 s14 (fun r18 s17 => (vp_in x3 8 ∧ (((s17 4 66 x3.toNatClampNeg) < r18 → ∀ v19 : Int32, v19 = x4 + 1 → wf_X9_breaks_25 K E76 n x2 x3 v19 s17) ∧ (¬ (s17 4 66 x3.toNatClampNeg) < r18 → wf_X9_works x3 x4 s17 (fun s20 => ∀ v21 : Int32, v21 = x4 + 1 → wf_X9_breaks_25 K E76 n x2 x3 v21 s20)))))))))))
def wf_X9_breaks (a1 : Int32) (a2 : Int32) (s : dk_S) (K : dk_S → Prop) : Prop :=
  (vp_in a1 24 ∧ ∀ v1 : Int32, v1 = s 4 71 a1.toNatClampNeg → (vp_in a1 24 ∧ (∀ s2 : dk_S, s2 = dk_row s 4 82 (upd (s 4 82) a1.toNatClampNeg (-2)) → (vp_in v1 8 ∧ (∀ s3 : dk_S, s3 = dk_row s2 4 83 (upd (s2 4 83) v1.toNatClampNeg (vp_nar .boolean 1)) → ∃ nn13 : Nat, wf_X9_breaks_25 K (fun (w4 : Int32) (w5 : Int32) (s6 : dk_S) => (vp_in w5 8 ∧ ((¬ (s6 4 64 w5.toNatClampNeg) = 102 → wf_X9_sounds w4 6 s6 (fun r8 s7 => K s7)) ∧ ((s6 4 64 w5.toNatClampNeg) = 102 → (vp_in w5 8 ∧ wf_X9_burns w4 (s6 4 66 w5.toNatClampNeg) s6 (fun s9 => wf_X9_sounds w4 6 s9 (fun r11 s10 => K s10))))))) nn13 a2 v1 0 s3)))))
set_option maxRecDepth 20000 in
set_option maxHeartbeats 4000000 in
theorem ww_X9_breaks_25 {G : dk_G} {P : Program} {l : Launch} {e : Env} {S0 : State} {m : MethodId} {args : Array Value} {bel : List Frame} {meth : Method} {c : Code}  (C : dk_C G P (dk_rm 6) S0 m args c 0 0 cX9_breaks 5 RX9) (hr : meth.sig.returnType = none) (hlk : meth.locks = false) (hmi : dk_MI G) {K : dk_S → Prop} {E76 : Int32 → Int32 → dk_S → Prop} (hE76 : ∀ (x2 : Int32) (x3 : Int32) (s : dk_S), E76 x2 x3 s → dk_W G P l e (dk_rm 6) S0 m args bel meth c 0 0 (MQ bel (dk_Qc G (dk_kv K)) args S0 0 0 (dk_A G)) 76 [some (dk_r G 4 60), none, some (.int x2), some (.int x3), none] [] s) : ∀ (n : Nat) (x2 : Int32) (x3 : Int32) (x4 : Int32) (s : dk_S), wf_X9_breaks_25 K E76 n x2 x3 x4 s → dk_W G P l e (dk_rm 6) S0 m args bel meth c 0 0 (MQ bel (dk_Qc G (dk_kv K)) args S0 0 0 (dk_A G)) 25 [some (dk_r G 4 60), none, some (.int x2), some (.int x3), some (.int x4)] [] s := by
  intro n
  induction n with
  | zero => intro x2 x3 x4 s h; exact False.elim h
  | succ n hB =>
    intro x2 x3 x4 s h
    unfold wf_X9_breaks_25 at h
    refine dk_iload C dX9_breaks_25 (n := 27) rfl (i := 4) rfl ?_
    refine dk_aload_n (i := 0) C dX9_breaks_27 (n := 28) rfl rfl rfl ?_
    refine gf_X9_34 C (hmi 60 (by decide) (by decide)) dX9_breaks_28 (n := 31) rfl ?_
    refine dk_icmp_ge (t := 76) C dX9_breaks_31 (n := 34) rfl (by decide) (fun c24 => ?_) (fun c24 => ?_)
    · have h := h.1 c24
      refine dk_sub (L0 := [some (dk_r G 4 60), none, some (.int x2), some (.int x3), none]) ⟨rfl, ⟨rfl, ⟨rfl, trivial⟩⟩⟩ ?_
      exact hE76 x2 x3 s h
    · have h := h.2 c24
      refine dk_aload_n (i := 0) C dX9_breaks_34 (n := 35) rfl rfl rfl ?_
      refine dk_iload C dX9_breaks_35 (n := 37) rfl (i := 4) rfl ?_
      refine dk_callVi C [] (cc_X9_lives C.D hmi h) yy_X9_lives dk_wm_X9_200 dk_sh60 (hmi 60 (by decide) (by decide)) dX9_breaks_37 (fun r15 s14 h => ?_) rfl rfl ⟨Nat.le_of_ble_eq_true rfl, Nat.le_of_ble_eq_true rfl⟩ rfl (Nat.le_of_ble_eq_true rfl) rfl (n := 40) rfl
      refine dk_if_eq (t := 70) C dX9_breaks_40 (n := 43) rfl (by decide) (fun c23 => ?_) (fun c23 => ?_)
      · have h := h.1 c23
        obtain ⟨v16, ev16⟩ : ∃ y : Int32, y = x4 + 1 := ⟨_, rfl⟩
        have h := h v16 ev16
        refine dk_iinc (i := 4) (v := v16) (L' := [some (dk_r G 4 60), none, some (.int x2), some (.int x3), some (.int v16)]) C dX9_breaks_70 (n := 73) rfl rfl (by rw [ev16]; rfl) (dk_nc_of rfl) (Nat.le_of_ble_eq_true rfl) rfl ?_
        refine dk_goto (t := 25) C dX9_breaks_73 (by decide) ?_
        refine dk_sub (L0 := [some (dk_r G 4 60), none, some (.int x2), some (.int x3), some (.int v16)]) ⟨rfl, ⟨rfl, ⟨rfl, ⟨rfl, trivial⟩⟩⟩⟩ ?_
        exact hB x2 x3 v16 s14 h
      · have h := h.2 c23
        refine dk_aload_n (i := 0) C dX9_breaks_43 (n := 44) rfl rfl rfl ?_
        refine gf_X9_65 C (hmi 60 (by decide) (by decide)) dX9_breaks_44 (n := 47) rfl ?_
        refine dk_iload C dX9_breaks_47 (n := 49) rfl (i := 4) rfl ?_
        refine dk_iald C dk_sh76 h.1 (hmi 76 (by decide) (by decide)) dX9_breaks_49 (n := 50) rfl ?_
        have h := h.2
        refine dk_iload_n (i := 2) C dX9_breaks_50 (n := 51) rfl rfl rfl ?_
        refine dk_callSi C [] (cc_X9_around C.D  h) yy_X9_around dk_wm_X9_183 dX9_breaks_51 (fun r18 s17 h => ?_) rfl ⟨Nat.le_of_ble_eq_true rfl, Nat.le_of_ble_eq_true rfl⟩ rfl (Nat.le_of_ble_eq_true rfl) rfl (n := 54) rfl
        refine dk_aload_n (i := 0) C dX9_breaks_54 (n := 55) rfl rfl rfl ?_
        refine gf_X9_31 C (hmi 60 (by decide) (by decide)) dX9_breaks_55 (n := 58) rfl ?_
        refine dk_iload_n (i := 3) C dX9_breaks_58 (n := 59) rfl rfl rfl ?_
        refine dk_iald C dk_sh66 h.1 (hmi 66 (by decide) (by decide)) dX9_breaks_59 (n := 60) rfl ?_
        have h := h.2
        refine dk_icmp_gt (t := 70) C dX9_breaks_60 (n := 63) rfl (by decide) (fun c22 => ?_) (fun c22 => ?_)
        · have h := h.1 c22
          obtain ⟨v19, ev19⟩ : ∃ y : Int32, y = x4 + 1 := ⟨_, rfl⟩
          have h := h v19 ev19
          refine dk_iinc (i := 4) (v := v19) (L' := [some (dk_r G 4 60), none, some (.int x2), some (.int x3), some (.int v19)]) C dX9_breaks_70 (n := 73) rfl rfl (by rw [ev19]; rfl) (dk_nc_of rfl) (Nat.le_of_ble_eq_true rfl) rfl ?_
          refine dk_goto (t := 25) C dX9_breaks_73 (by decide) ?_
          refine dk_sub (L0 := [some (dk_r G 4 60), none, some (.int x2), some (.int x3), some (.int v19)]) ⟨rfl, ⟨rfl, ⟨rfl, ⟨rfl, trivial⟩⟩⟩⟩ ?_
          exact hB x2 x3 v19 s17 h
        · have h := h.2 c22
          refine dk_aload_n (i := 0) C dX9_breaks_63 (n := 64) rfl rfl rfl ?_
          refine dk_iload_n (i := 3) C dX9_breaks_64 (n := 65) rfl rfl rfl ?_
          refine dk_iload C dX9_breaks_65 (n := 67) rfl (i := 4) rfl ?_
          refine dk_callVv C [] (cc_X9_works C.D hmi h) yy_X9_works dk_wm_X9_255 dk_sh60 (hmi 60 (by decide) (by decide)) dX9_breaks_67 (fun s20 h => ?_) rfl rfl ⟨Nat.le_of_ble_eq_true rfl, Nat.le_of_ble_eq_true rfl⟩ rfl (Nat.le_of_ble_eq_true rfl) rfl (n := 70) rfl
          obtain ⟨v21, ev21⟩ : ∃ y : Int32, y = x4 + 1 := ⟨_, rfl⟩
          have h := h v21 ev21
          refine dk_iinc (i := 4) (v := v21) (L' := [some (dk_r G 4 60), none, some (.int x2), some (.int x3), some (.int v21)]) C dX9_breaks_70 (n := 73) rfl rfl (by rw [ev21]; rfl) (dk_nc_of rfl) (Nat.le_of_ble_eq_true rfl) rfl ?_
          refine dk_goto (t := 25) C dX9_breaks_73 (by decide) ?_
          refine dk_sub (L0 := [some (dk_r G 4 60), none, some (.int x2), some (.int x3), some (.int v21)]) ⟨rfl, ⟨rfl, ⟨rfl, ⟨rfl, trivial⟩⟩⟩⟩ ?_
          exact hB x2 x3 v21 s20 h
set_option maxRecDepth 20000 in
set_option maxHeartbeats 4000000 in
theorem cc_X9_breaks {G : dk_G} {l : Launch} {a1 : Int32} {a2 : Int32} (hD : dk_D G) (hmi : dk_MI G) {s : dk_S} {K : dk_S → Prop} (h : wf_X9_breaks a1 a2 s K) : dk_M G l 6 yX9_breaks cX9_breaks 5 none [dk_r G 4 60, .int a1, .int a2] s (dk_kv K) := by
  refine dk_of hD (by decide) [some (dk_r G 4 60), some (.int a1), some (.int a2), none, none] (fun q hq => hq) rfl (Nat.le_of_ble_eq_true rfl) (fun P e S0 m args bel meth c C hr hlk => ?_)
  unfold wf_X9_breaks at h
  refine dk_aload_n (i := 0) C dX9_breaks_0 (n := 1) rfl rfl rfl ?_
  refine gf_X9_50 C (hmi 60 (by decide) (by decide)) dX9_breaks_1 (n := 4) rfl ?_
  refine dk_iload_n (i := 1) C dX9_breaks_4 (n := 5) rfl rfl rfl ?_
  refine dk_iald C dk_sh71 h.1 (hmi 71 (by decide) (by decide)) dX9_breaks_5 (n := 6) rfl ?_
  have h := h.2
  refine dk_name (fun v1 ev1 => ?_)
  have h := h v1 ev1
  refine dk_istore_n (i := 3) (L' := [some (dk_r G 4 60), some (.int a1), some (.int a2), some (.int v1), none]) C dX9_breaks_6 (n := 7) rfl rfl (dk_nc_of rfl) (Nat.le_of_ble_eq_true rfl) rfl ?_
  refine dk_aload_n (i := 0) C dX9_breaks_7 (n := 8) rfl rfl rfl ?_
  refine gf_X9_83 C (hmi 60 (by decide) (by decide)) dX9_breaks_8 (n := 11) rfl ?_
  refine dk_iload_n (i := 1) C dX9_breaks_11 (n := 12) rfl rfl rfl ?_
  refine dk_bipush (v := (-2)) C dX9_breaks_12 (n := 14) rfl (by decide) ?_
  refine dk_iast C dk_sh82 h.1 (hmi 82 (by decide) (by decide)) dX9_breaks_14 (n := 15) rfl ?_
  refine dk_nameS (fun s2 es2 => ?_)
  have h := h.2 s2 es2
  refine dk_aload_n (i := 0) C dX9_breaks_15 (n := 16) rfl rfl rfl ?_
  refine gf_X9_86 C (hmi 60 (by decide) (by decide)) dX9_breaks_16 (n := 19) rfl ?_
  refine dk_iload_n (i := 3) C dX9_breaks_19 (n := 20) rfl rfl rfl ?_
  refine dk_iconst (v := 1) C dX9_breaks_20 (n := 21) rfl (by decide) ?_
  refine dk_zast C dk_sh83 h.1 (hmi 83 (by decide) (by decide)) dX9_breaks_21 (n := 22) rfl ?_
  refine dk_nameS (fun s3 es3 => ?_)
  have h := h.2 s3 es3
  refine dk_iconst (v := 0) C dX9_breaks_22 (n := 23) rfl (by decide) ?_
  refine dk_istore (i := 4) (L' := [some (dk_r G 4 60), some (.int a1), some (.int a2), some (.int v1), some (.int 0)]) C dX9_breaks_23 (n := 25) rfl (dk_nc_of rfl) (Nat.le_of_ble_eq_true rfl) rfl ?_
  obtain ⟨nn13, h⟩ := h
  refine dk_sub (L0 := [some (dk_r G 4 60), none, some (.int a2), some (.int v1), some (.int 0)]) ⟨rfl, ⟨rfl, ⟨rfl, ⟨rfl, trivial⟩⟩⟩⟩ ?_
  refine ww_X9_breaks_25 C hr hlk hmi (fun w4 w5 s6 h => ?_) nn13 a2 v1 0 s3 h
  · refine dk_aload_n (i := 0) C dX9_breaks_76 (n := 77) rfl rfl rfl ?_
    refine gf_X9_25 C (hmi 60 (by decide) (by decide)) dX9_breaks_77 (n := 80) rfl ?_
    refine dk_iload_n (i := 3) C dX9_breaks_80 (n := 81) rfl rfl rfl ?_
    refine dk_cald C dk_sh64 h.1 (hmi 64 (by decide) (by decide)) dX9_breaks_81 (n := 82) rfl ?_
    have h := h.2
    refine dk_bipush (v := 102) C dX9_breaks_82 (n := 84) rfl (by decide) ?_
    refine dk_icmp_ne (t := 98) C dX9_breaks_84 (n := 87) rfl (by decide) (fun c12 => ?_) (fun c12 => ?_)
    · have h := h.1 c12
      refine dk_aload_n (i := 0) C dX9_breaks_98 (n := 99) rfl rfl rfl ?_
      refine dk_iload_n (i := 2) C dX9_breaks_99 (n := 100) rfl rfl rfl ?_
      refine dk_bipush (v := 6) C dX9_breaks_100 (n := 102) rfl (by decide) ?_
      refine dk_callVi C [] (cc_X9_sounds C.D hmi h) yy_X9_sounds dk_wm_X9_238 dk_sh60 (hmi 60 (by decide) (by decide)) dX9_breaks_102 (fun r8 s7 h => ?_) rfl rfl ⟨Nat.le_of_ble_eq_true rfl, Nat.le_of_ble_eq_true rfl⟩ rfl (Nat.le_of_ble_eq_true rfl) rfl (n := 105) rfl
      refine dk_istore (i := 4) (L' := [some (dk_r G 4 60), none, some (.int w4), some (.int w5), some (.int r8)]) C dX9_breaks_105 (n := 107) rfl (dk_nc_of rfl) (Nat.le_of_ble_eq_true rfl) rfl ?_
      exact dk_vret C hr hlk dX9_breaks_107 ⟨rfl, h⟩
    · have h := h.2 c12
      refine dk_aload_n (i := 0) C dX9_breaks_87 (n := 88) rfl rfl rfl ?_
      refine dk_iload_n (i := 2) C dX9_breaks_88 (n := 89) rfl rfl rfl ?_
      refine dk_aload_n (i := 0) C dX9_breaks_89 (n := 90) rfl rfl rfl ?_
      refine gf_X9_31 C (hmi 60 (by decide) (by decide)) dX9_breaks_90 (n := 93) rfl ?_
      refine dk_iload_n (i := 3) C dX9_breaks_93 (n := 94) rfl rfl rfl ?_
      refine dk_iald C dk_sh66 h.1 (hmi 66 (by decide) (by decide)) dX9_breaks_94 (n := 95) rfl ?_
      have h := h.2
      refine dk_callVv C [] (cc_X9_burns C.D hmi h) yy_X9_burns dk_wm_X9_258 dk_sh60 (hmi 60 (by decide) (by decide)) dX9_breaks_95 (fun s9 h => ?_) rfl rfl ⟨Nat.le_of_ble_eq_true rfl, Nat.le_of_ble_eq_true rfl⟩ rfl (Nat.le_of_ble_eq_true rfl) rfl (n := 98) rfl
      refine dk_aload_n (i := 0) C dX9_breaks_98 (n := 99) rfl rfl rfl ?_
      refine dk_iload_n (i := 2) C dX9_breaks_99 (n := 100) rfl rfl rfl ?_
      refine dk_bipush (v := 6) C dX9_breaks_100 (n := 102) rfl (by decide) ?_
      refine dk_callVi C [] (cc_X9_sounds C.D hmi h) yy_X9_sounds dk_wm_X9_238 dk_sh60 (hmi 60 (by decide) (by decide)) dX9_breaks_102 (fun r11 s10 h => ?_) rfl rfl ⟨Nat.le_of_ble_eq_true rfl, Nat.le_of_ble_eq_true rfl⟩ rfl (Nat.le_of_ble_eq_true rfl) rfl (n := 105) rfl
      refine dk_istore (i := 4) (L' := [some (dk_r G 4 60), none, some (.int w4), some (.int w5), some (.int r11)]) C dX9_breaks_105 (n := 107) rfl (dk_nc_of rfl) (Nat.le_of_ble_eq_true rfl) rfl ?_
      exact dk_vret C hr hlk dX9_breaks_107 ⟨rfl, h⟩
/-! X9_hasKeyFor -/
def wf_X9_hasKeyFor (a1 : Int32) (s : dk_S) (K : Int32 → dk_S → Prop) : Prop :=
  wf_X9_in a1 48 50 s (fun r2 s1 => ((r2 = 0 → K 0 s1) ∧ (¬ r2 = 0 → wf_X9_carriesAnywhere (a1 - 48) s1 (fun r4 s3 => ((r4 = 0 → K 0 s3) ∧ (¬ r4 = 0 → K 1 s3))))))
set_option maxRecDepth 20000 in
set_option maxHeartbeats 4000000 in
theorem cc_X9_hasKeyFor {G : dk_G} {l : Launch} {a1 : Int32} (hD : dk_D G) (hmi : dk_MI G) {s : dk_S} {K : Int32 → dk_S → Prop} (h : wf_X9_hasKeyFor a1 s K) : dk_M G l 3 yX9_hasKeyFor cX9_hasKeyFor 2 (some .boolean) [dk_r G 4 60, .int a1] s (dk_ki K) := by
  refine dk_of hD (by decide) [some (dk_r G 4 60), some (.int a1)] (fun q hq => hq) rfl (Nat.le_of_ble_eq_true rfl) (fun P e S0 m args bel meth c C hr hlk => ?_)
  unfold wf_X9_hasKeyFor at h
  refine dk_iload_n (i := 1) C dX9_hasKeyFor_0 (n := 1) rfl rfl rfl ?_
  refine dk_bipush (v := 48) C dX9_hasKeyFor_1 (n := 3) rfl (by decide) ?_
  refine dk_bipush (v := 50) C dX9_hasKeyFor_3 (n := 5) rfl (by decide) ?_
  refine dk_callSi C [] (cc_X9_in C.D  h) yy_X9_in dk_wm_X9_110 dX9_hasKeyFor_5 (fun r2 s1 h => ?_) rfl ⟨Nat.le_of_ble_eq_true rfl, Nat.le_of_ble_eq_true rfl⟩ rfl (Nat.le_of_ble_eq_true rfl) rfl (n := 8) rfl
  refine dk_if_eq (t := 26) C dX9_hasKeyFor_8 (n := 11) rfl (by decide) (fun c6 => ?_) (fun c6 => ?_)
  · have h := h.1 c6
    refine dk_iconst (v := 0) C dX9_hasKeyFor_26 (n := 27) rfl (by decide) ?_
    exact dk_iret C hr hlk dk_nz0 dX9_hasKeyFor_27 ⟨_, rfl, h⟩
  · have h := h.2 c6
    refine dk_aload_n (i := 0) C dX9_hasKeyFor_11 (n := 12) rfl rfl rfl ?_
    refine dk_iload_n (i := 1) C dX9_hasKeyFor_12 (n := 13) rfl rfl rfl ?_
    refine dk_bipush (v := 48) C dX9_hasKeyFor_13 (n := 15) rfl (by decide) ?_
    refine dk_isub C dX9_hasKeyFor_15 (n := 16) rfl ?_
    refine dk_callVi C [] (cc_X9_carriesAnywhere C.D hmi h) yy_X9_carriesAnywhere dk_wm_X9_261 dk_sh60 (hmi 60 (by decide) (by decide)) dX9_hasKeyFor_16 (fun r4 s3 h => ?_) rfl rfl ⟨Nat.le_of_ble_eq_true rfl, Nat.le_of_ble_eq_true rfl⟩ rfl (Nat.le_of_ble_eq_true rfl) rfl (n := 19) rfl
    refine dk_if_eq (t := 26) C dX9_hasKeyFor_19 (n := 22) rfl (by decide) (fun c5 => ?_) (fun c5 => ?_)
    · have h := h.1 c5
      refine dk_iconst (v := 0) C dX9_hasKeyFor_26 (n := 27) rfl (by decide) ?_
      exact dk_iret C hr hlk dk_nz0 dX9_hasKeyFor_27 ⟨_, rfl, h⟩
    · have h := h.2 c5
      refine dk_iconst (v := 1) C dX9_hasKeyFor_22 (n := 23) rfl (by decide) ?_
      refine dk_goto (t := 27) C dX9_hasKeyFor_23 (by decide) ?_
      exact dk_iret C hr hlk dk_nz1 dX9_hasKeyFor_27 ⟨_, rfl, h⟩
/-! X9_go -/
def wf_X9_go_159  (K : Int32 → dk_S → Prop) (x4 : Int32) (s : dk_S) : Prop :=
  ((x4 = 98 → (narrow .char (.int x4) = .int x4 ∧ K x4 s)) ∧ (¬ x4 = 98 → wf_X9_ends s (fun s31 => (narrow .char (.int x4) = .int x4 ∧ K x4 s31))))
def wf_X9_go_140  (K : Int32 → dk_S → Prop) (x2 : Int32) (x4 : Int32) (s : dk_S) : Prop :=
  wf_X9_isFree x2 s (fun r27 s26 => ((r27 = 0 → wf_X9_go_159 K x4 s26) ∧ (¬ r27 = 0 → (vp_in 0 8 ∧ (∀ s28 : dk_S, s28 = dk_row s26 4 76 (upd (s26 4 76) 0.toNatClampNeg x2) → wf_X9_go_159 K 109 s28)))))
def wf_X9_go_125  (K : Int32 → dk_S → Prop) (x2 : Int32) (s : dk_S) : Prop :=
  (vp_in x2 144 ∧ (∀ s30 : dk_S, s30 = dk_row s 4 75 (upd (s 4 75) x2.toNatClampNeg (vp_nar .char 47)) → wf_X9_go_159 K 111 s30))
def wf_X9_go_59  (K : Int32 → dk_S → Prop) (x2 : Int32) (y0 : Int32) (s : dk_S) : Prop :=
  ((y0 = (-1) → ((x2 = (-1) → wf_X9_go_140 K x2 98 s) ∧ (¬ x2 = (-1) → (vp_in x2 144 ∧ (((s 4 75 x2.toNatClampNeg) = 43 → wf_X9_go_125 K x2 s) ∧ (¬ (s 4 75 x2.toNatClampNeg) = 43 → (vp_in x2 144 ∧ wf_X9_hasKeyFor (s 4 75 x2.toNatClampNeg) s (fun r16 s15 => ((r16 = 0 → wf_X9_go_140 K x2 98 s15) ∧ (¬ r16 = 0 → wf_X9_go_125 K x2 s15)))))))))) ∧ (¬ y0 = (-1) → wf_X9_carries 7 s (fun r21 s20 => ((r21 = 0 → wf_X9_strikes y0 3 s20 (fun s22 => wf_X9_go_159 K 97 s22)) ∧ (¬ r21 = 0 → wf_X9_strikes y0 7 s20 (fun s23 => wf_X9_go_159 K 97 s23))))))
def wf_X9_go_26  (K : Int32 → dk_S → Prop) (x1 : Int32) (y0 : Int32) (s : dk_S) : Prop :=
  wf_X9_goesOn y0 s (fun r8 s7 => ((¬ r8 = 0 → (vp_in 0 8 ∧ wf_X9_beside (s7 4 76 0.toNatClampNeg) x1 s7 (fun r10 s9 => ((¬ r10 = (-1) → wf_X9_livingAt r10 s9 (fun r12 s11 => wf_X9_go_59 K r10 r12 s11)) ∧ (r10 = (-1) → wf_X9_go_59 K r10 (-1) s9))))) ∧ (r8 = 0 → K 0 s7)))
def wf_X9_go (a1 : Int32) (s : dk_S) (K : Int32 → dk_S → Prop) : Prop :=
  wf_X9_in a1 0 3 s (fun r2 s1 => ((¬ r2 = 0 → wf_X9_isOn s1 (fun r4 s3 => ((¬ r4 = 0 → wf_X9_go_26 K a1 0 s3) ∧ (r4 = 0 → wf_X9_go_26 K a1 2 s3)))) ∧ (r2 = 0 → wf_X9_go_26 K a1 1 s1)))
set_option maxRecDepth 20000 in
set_option maxHeartbeats 4000000 in
theorem ww_X9_go_159 {G : dk_G} {P : Program} {l : Launch} {e : Env} {S0 : State} {m : MethodId} {args : Array Value} {bel : List Frame} {meth : Method} {c : Code}  (C : dk_C G P (dk_rm 9) S0 m args c 0 0 cX9_go 5 RX9) (hr : meth.sig.returnType = (some .char)) (hlk : meth.locks = false) (hmi : dk_MI G) {K : Int32 → dk_S → Prop}  : ∀ (x4 : Int32) (s : dk_S), wf_X9_go_159 K x4 s → dk_W G P l e (dk_rm 9) S0 m args bel meth c 0 0 (MQ bel (dk_Qc G (dk_ki K)) args S0 0 0 (dk_A G)) 159 [some (dk_r G 4 60), none, none, none, some (.int x4)] [] s := by
  intro x4 s h
  unfold wf_X9_go_159 at h
  refine dk_iload C dX9_go_159 (n := 161) rfl (i := 4) rfl ?_
  refine dk_bipush (v := 98) C dX9_go_161 (n := 163) rfl (by decide) ?_
  refine dk_icmp_eq (t := 170) C dX9_go_163 (n := 166) rfl (by decide) (fun c32 => ?_) (fun c32 => ?_)
  · have h := h.1 c32
    refine dk_iload C dX9_go_170 (n := 172) rfl (i := 4) rfl ?_
    exact dk_iret C hr hlk h.1 dX9_go_172 ⟨_, rfl, h.2⟩
  · have h := h.2 c32
    refine dk_aload_n (i := 0) C dX9_go_166 (n := 167) rfl rfl rfl ?_
    refine dk_callVv C [] (cc_X9_ends C.D hmi h) yy_X9_ends dk_wm_X9_273 dk_sh60 (hmi 60 (by decide) (by decide)) dX9_go_167 (fun s31 h => ?_) rfl rfl ⟨Nat.le_of_ble_eq_true rfl, Nat.le_of_ble_eq_true rfl⟩ rfl (Nat.le_of_ble_eq_true rfl) rfl (n := 170) rfl
    refine dk_iload C dX9_go_170 (n := 172) rfl (i := 4) rfl ?_
    exact dk_iret C hr hlk h.1 dX9_go_172 ⟨_, rfl, h.2⟩
set_option maxRecDepth 20000 in
set_option maxHeartbeats 4000000 in
theorem ww_X9_go_140 {G : dk_G} {P : Program} {l : Launch} {e : Env} {S0 : State} {m : MethodId} {args : Array Value} {bel : List Frame} {meth : Method} {c : Code}  (C : dk_C G P (dk_rm 9) S0 m args c 0 0 cX9_go 5 RX9) (hr : meth.sig.returnType = (some .char)) (hlk : meth.locks = false) (hmi : dk_MI G) {K : Int32 → dk_S → Prop}  : ∀ (x2 : Int32) (x4 : Int32) (s : dk_S), wf_X9_go_140 K x2 x4 s → dk_W G P l e (dk_rm 9) S0 m args bel meth c 0 0 (MQ bel (dk_Qc G (dk_ki K)) args S0 0 0 (dk_A G)) 140 [some (dk_r G 4 60), none, some (.int x2), none, some (.int x4)] [] s := by
  intro x2 x4 s h
  unfold wf_X9_go_140 at h
  refine dk_aload_n (i := 0) C dX9_go_140 (n := 141) rfl rfl rfl ?_
  refine dk_iload_n (i := 2) C dX9_go_141 (n := 142) rfl rfl rfl ?_
  refine dk_callVi C [] (cc_X9_isFree C.D hmi h) yy_X9_isFree dk_wm_X9_174 dk_sh60 (hmi 60 (by decide) (by decide)) dX9_go_142 (fun r27 s26 h => ?_) rfl rfl ⟨Nat.le_of_ble_eq_true rfl, Nat.le_of_ble_eq_true rfl⟩ rfl (Nat.le_of_ble_eq_true rfl) rfl (n := 145) rfl
  refine dk_if_eq (t := 159) C dX9_go_145 (n := 148) rfl (by decide) (fun c29 => ?_) (fun c29 => ?_)
  · have h := h.1 c29
    refine dk_sub (L0 := [some (dk_r G 4 60), none, none, none, some (.int x4)]) ⟨rfl, ⟨rfl, trivial⟩⟩ ?_
    exact ww_X9_go_159 C hr hlk hmi  x4 s26 h
  · have h := h.2 c29
    refine dk_aload_n (i := 0) C dX9_go_148 (n := 149) rfl rfl rfl ?_
    refine gf_X9_65 C (hmi 60 (by decide) (by decide)) dX9_go_149 (n := 152) rfl ?_
    refine dk_iconst (v := 0) C dX9_go_152 (n := 153) rfl (by decide) ?_
    refine dk_iload_n (i := 2) C dX9_go_153 (n := 154) rfl rfl rfl ?_
    refine dk_iast C dk_sh76 h.1 (hmi 76 (by decide) (by decide)) dX9_go_154 (n := 155) rfl ?_
    refine dk_nameS (fun s28 es28 => ?_)
    have h := h.2 s28 es28
    refine dk_bipush (v := 109) C dX9_go_155 (n := 157) rfl (by decide) ?_
    refine dk_istore (i := 4) (L' := [some (dk_r G 4 60), none, some (.int x2), none, some (.int 109)]) C dX9_go_157 (n := 159) rfl (dk_nc_of rfl) (Nat.le_of_ble_eq_true rfl) rfl ?_
    refine dk_sub (L0 := [some (dk_r G 4 60), none, none, none, some (.int 109)]) ⟨rfl, ⟨rfl, trivial⟩⟩ ?_
    exact ww_X9_go_159 C hr hlk hmi  109 s28 h
set_option maxRecDepth 20000 in
set_option maxHeartbeats 4000000 in
theorem ww_X9_go_125 {G : dk_G} {P : Program} {l : Launch} {e : Env} {S0 : State} {m : MethodId} {args : Array Value} {bel : List Frame} {meth : Method} {c : Code}  (C : dk_C G P (dk_rm 9) S0 m args c 0 0 cX9_go 5 RX9) (hr : meth.sig.returnType = (some .char)) (hlk : meth.locks = false) (hmi : dk_MI G) {K : Int32 → dk_S → Prop}  : ∀ (x2 : Int32) (s : dk_S), wf_X9_go_125 K x2 s → dk_W G P l e (dk_rm 9) S0 m args bel meth c 0 0 (MQ bel (dk_Qc G (dk_ki K)) args S0 0 0 (dk_A G)) 125 [some (dk_r G 4 60), none, some (.int x2), none, none] [] s := by
  intro x2 s h
  unfold wf_X9_go_125 at h
  refine dk_aload_n (i := 0) C dX9_go_125 (n := 126) rfl rfl rfl ?_
  refine gf_X9_62 C (hmi 60 (by decide) (by decide)) dX9_go_126 (n := 129) rfl ?_
  refine dk_iload_n (i := 2) C dX9_go_129 (n := 130) rfl rfl rfl ?_
  refine dk_bipush (v := 47) C dX9_go_130 (n := 132) rfl (by decide) ?_
  refine dk_cast C dk_sh75 h.1 (hmi 75 (by decide) (by decide)) dX9_go_132 (n := 133) rfl ?_
  refine dk_nameS (fun s30 es30 => ?_)
  have h := h.2 s30 es30
  refine dk_bipush (v := 111) C dX9_go_133 (n := 135) rfl (by decide) ?_
  refine dk_istore (i := 4) (L' := [some (dk_r G 4 60), none, some (.int x2), none, some (.int 111)]) C dX9_go_135 (n := 137) rfl (dk_nc_of rfl) (Nat.le_of_ble_eq_true rfl) rfl ?_
  refine dk_goto (t := 159) C dX9_go_137 (by decide) ?_
  refine dk_sub (L0 := [some (dk_r G 4 60), none, none, none, some (.int 111)]) ⟨rfl, ⟨rfl, trivial⟩⟩ ?_
  exact ww_X9_go_159 C hr hlk hmi  111 s30 h
set_option maxRecDepth 20000 in
set_option maxHeartbeats 4000000 in
theorem ww_X9_go_59 {G : dk_G} {P : Program} {l : Launch} {e : Env} {S0 : State} {m : MethodId} {args : Array Value} {bel : List Frame} {meth : Method} {c : Code}  (C : dk_C G P (dk_rm 9) S0 m args c 0 0 cX9_go 5 RX9) (hr : meth.sig.returnType = (some .char)) (hlk : meth.locks = false) (hmi : dk_MI G) {K : Int32 → dk_S → Prop}  : ∀ (x2 : Int32) (y0 : Int32) (s : dk_S), wf_X9_go_59 K x2 y0 s → dk_W G P l e (dk_rm 9) S0 m args bel meth c 0 0 (MQ bel (dk_Qc G (dk_ki K)) args S0 0 0 (dk_A G)) 59 [some (dk_r G 4 60), none, some (.int x2), none, none] [.int y0] s := by
  intro x2 y0 s h
  unfold wf_X9_go_59 at h
  refine dk_istore_n (i := 3) (L' := [some (dk_r G 4 60), none, some (.int x2), some (.int y0), none]) C dX9_go_59 (n := 60) rfl rfl (dk_nc_of rfl) (Nat.le_of_ble_eq_true rfl) rfl ?_
  refine dk_bipush (v := 98) C dX9_go_60 (n := 62) rfl (by decide) ?_
  refine dk_istore (i := 4) (L' := [some (dk_r G 4 60), none, some (.int x2), some (.int y0), some (.int 98)]) C dX9_go_62 (n := 64) rfl (dk_nc_of rfl) (Nat.le_of_ble_eq_true rfl) rfl ?_
  refine dk_iload_n (i := 3) C dX9_go_64 (n := 65) rfl rfl rfl ?_
  refine dk_iconst (v := (-1)) C dX9_go_65 (n := 66) rfl (by decide) ?_
  refine dk_icmp_eq (t := 96) C dX9_go_66 (n := 69) rfl (by decide) (fun c25 => ?_) (fun c25 => ?_)
  · have h := h.1 c25
    refine dk_iload_n (i := 2) C dX9_go_96 (n := 97) rfl rfl rfl ?_
    refine dk_iconst (v := (-1)) C dX9_go_97 (n := 98) rfl (by decide) ?_
    refine dk_icmp_eq (t := 140) C dX9_go_98 (n := 101) rfl (by decide) (fun c19 => ?_) (fun c19 => ?_)
    · have h := h.1 c19
      refine dk_sub (L0 := [some (dk_r G 4 60), none, some (.int x2), none, some (.int 98)]) ⟨rfl, ⟨rfl, ⟨rfl, trivial⟩⟩⟩ ?_
      exact ww_X9_go_140 C hr hlk hmi  x2 98 s h
    · have h := h.2 c19
      refine dk_aload_n (i := 0) C dX9_go_101 (n := 102) rfl rfl rfl ?_
      refine gf_X9_62 C (hmi 60 (by decide) (by decide)) dX9_go_102 (n := 105) rfl ?_
      refine dk_iload_n (i := 2) C dX9_go_105 (n := 106) rfl rfl rfl ?_
      refine dk_cald C dk_sh75 h.1 (hmi 75 (by decide) (by decide)) dX9_go_106 (n := 107) rfl ?_
      have h := h.2
      refine dk_bipush (v := 43) C dX9_go_107 (n := 109) rfl (by decide) ?_
      refine dk_icmp_eq (t := 125) C dX9_go_109 (n := 112) rfl (by decide) (fun c18 => ?_) (fun c18 => ?_)
      · have h := h.1 c18
        refine dk_sub (L0 := [some (dk_r G 4 60), none, some (.int x2), none, none]) ⟨rfl, ⟨rfl, trivial⟩⟩ ?_
        exact ww_X9_go_125 C hr hlk hmi  x2 s h
      · have h := h.2 c18
        refine dk_aload_n (i := 0) C dX9_go_112 (n := 113) rfl rfl rfl ?_
        refine dk_aload_n (i := 0) C dX9_go_113 (n := 114) rfl rfl rfl ?_
        refine gf_X9_62 C (hmi 60 (by decide) (by decide)) dX9_go_114 (n := 117) rfl ?_
        refine dk_iload_n (i := 2) C dX9_go_117 (n := 118) rfl rfl rfl ?_
        refine dk_cald C dk_sh75 h.1 (hmi 75 (by decide) (by decide)) dX9_go_118 (n := 119) rfl ?_
        have h := h.2
        refine dk_callVi C [] (cc_X9_hasKeyFor C.D hmi h) yy_X9_hasKeyFor dk_wm_X9_270 dk_sh60 (hmi 60 (by decide) (by decide)) dX9_go_119 (fun r16 s15 h => ?_) rfl rfl ⟨Nat.le_of_ble_eq_true rfl, Nat.le_of_ble_eq_true rfl⟩ rfl (Nat.le_of_ble_eq_true rfl) rfl (n := 122) rfl
        refine dk_if_eq (t := 140) C dX9_go_122 (n := 125) rfl (by decide) (fun c17 => ?_) (fun c17 => ?_)
        · have h := h.1 c17
          refine dk_sub (L0 := [some (dk_r G 4 60), none, some (.int x2), none, some (.int 98)]) ⟨rfl, ⟨rfl, ⟨rfl, trivial⟩⟩⟩ ?_
          exact ww_X9_go_140 C hr hlk hmi  x2 98 s15 h
        · have h := h.2 c17
          refine dk_sub (L0 := [some (dk_r G 4 60), none, some (.int x2), none, none]) ⟨rfl, ⟨rfl, trivial⟩⟩ ?_
          exact ww_X9_go_125 C hr hlk hmi  x2 s15 h
  · have h := h.2 c25
    refine dk_aload_n (i := 0) C dX9_go_69 (n := 70) rfl rfl rfl ?_
    refine dk_iload_n (i := 3) C dX9_go_70 (n := 71) rfl rfl rfl ?_
    refine dk_aload_n (i := 0) C dX9_go_71 (n := 72) rfl rfl rfl ?_
    refine dk_bipush (v := 7) C dX9_go_72 (n := 74) rfl (by decide) ?_
    refine dk_callVi C [.int y0, dk_r G 4 60] (cc_X9_carries C.D hmi h) yy_X9_carries dk_wm_X9_264 dk_sh60 (hmi 60 (by decide) (by decide)) dX9_go_74 (fun r21 s20 h => ?_) rfl rfl ⟨Nat.le_of_ble_eq_true rfl, Nat.le_of_ble_eq_true rfl⟩ rfl (Nat.le_of_ble_eq_true rfl) rfl (n := 77) rfl
    refine dk_if_eq (t := 85) C dX9_go_77 (n := 80) rfl (by decide) (fun c24 => ?_) (fun c24 => ?_)
    · have h := h.1 c24
      refine dk_iconst (v := 3) C dX9_go_85 (n := 86) rfl (by decide) ?_
      refine dk_callVv C [] (cc_X9_strikes C.D hmi h) yy_X9_strikes dk_wm_X9_267 dk_sh60 (hmi 60 (by decide) (by decide)) dX9_go_86 (fun s22 h => ?_) rfl rfl ⟨Nat.le_of_ble_eq_true rfl, Nat.le_of_ble_eq_true rfl⟩ rfl (Nat.le_of_ble_eq_true rfl) rfl (n := 89) rfl
      refine dk_bipush (v := 97) C dX9_go_89 (n := 91) rfl (by decide) ?_
      refine dk_istore (i := 4) (L' := [some (dk_r G 4 60), none, some (.int x2), some (.int y0), some (.int 97)]) C dX9_go_91 (n := 93) rfl (dk_nc_of rfl) (Nat.le_of_ble_eq_true rfl) rfl ?_
      refine dk_goto (t := 159) C dX9_go_93 (by decide) ?_
      refine dk_sub (L0 := [some (dk_r G 4 60), none, none, none, some (.int 97)]) ⟨rfl, ⟨rfl, trivial⟩⟩ ?_
      exact ww_X9_go_159 C hr hlk hmi  97 s22 h
    · have h := h.2 c24
      refine dk_bipush (v := 7) C dX9_go_80 (n := 82) rfl (by decide) ?_
      refine dk_goto (t := 86) C dX9_go_82 (by decide) ?_
      refine dk_callVv C [] (cc_X9_strikes C.D hmi h) yy_X9_strikes dk_wm_X9_267 dk_sh60 (hmi 60 (by decide) (by decide)) dX9_go_86 (fun s23 h => ?_) rfl rfl ⟨Nat.le_of_ble_eq_true rfl, Nat.le_of_ble_eq_true rfl⟩ rfl (Nat.le_of_ble_eq_true rfl) rfl (n := 89) rfl
      refine dk_bipush (v := 97) C dX9_go_89 (n := 91) rfl (by decide) ?_
      refine dk_istore (i := 4) (L' := [some (dk_r G 4 60), none, some (.int x2), some (.int y0), some (.int 97)]) C dX9_go_91 (n := 93) rfl (dk_nc_of rfl) (Nat.le_of_ble_eq_true rfl) rfl ?_
      refine dk_goto (t := 159) C dX9_go_93 (by decide) ?_
      refine dk_sub (L0 := [some (dk_r G 4 60), none, none, none, some (.int 97)]) ⟨rfl, ⟨rfl, trivial⟩⟩ ?_
      exact ww_X9_go_159 C hr hlk hmi  97 s23 h
set_option maxRecDepth 20000 in
set_option maxHeartbeats 4000000 in
theorem ww_X9_go_26 {G : dk_G} {P : Program} {l : Launch} {e : Env} {S0 : State} {m : MethodId} {args : Array Value} {bel : List Frame} {meth : Method} {c : Code}  (C : dk_C G P (dk_rm 9) S0 m args c 0 0 cX9_go 5 RX9) (hr : meth.sig.returnType = (some .char)) (hlk : meth.locks = false) (hmi : dk_MI G) {K : Int32 → dk_S → Prop}  : ∀ (x1 : Int32) (y0 : Int32) (s : dk_S), wf_X9_go_26 K x1 y0 s → dk_W G P l e (dk_rm 9) S0 m args bel meth c 0 0 (MQ bel (dk_Qc G (dk_ki K)) args S0 0 0 (dk_A G)) 26 [some (dk_r G 4 60), some (.int x1), none, none, none] [.int y0, dk_r G 4 60] s := by
  intro x1 y0 s h
  unfold wf_X9_go_26 at h
  refine dk_callVi C [] (cc_X9_goesOn C.D hmi h) yy_X9_goesOn dk_wm_X9_149 dk_sh60 (hmi 60 (by decide) (by decide)) dX9_go_26 (fun r8 s7 h => ?_) rfl rfl ⟨Nat.le_of_ble_eq_true rfl, Nat.le_of_ble_eq_true rfl⟩ rfl (Nat.le_of_ble_eq_true rfl) rfl (n := 29) rfl
  refine dk_if_ne (t := 34) C dX9_go_29 (n := 32) rfl (by decide) (fun c14 => ?_) (fun c14 => ?_)
  · have h := h.1 c14
    refine dk_aload_n (i := 0) C dX9_go_34 (n := 35) rfl rfl rfl ?_
    refine gf_X9_65 C (hmi 60 (by decide) (by decide)) dX9_go_35 (n := 38) rfl ?_
    refine dk_iconst (v := 0) C dX9_go_38 (n := 39) rfl (by decide) ?_
    refine dk_iald C dk_sh76 h.1 (hmi 76 (by decide) (by decide)) dX9_go_39 (n := 40) rfl ?_
    have h := h.2
    refine dk_iload_n (i := 1) C dX9_go_40 (n := 41) rfl rfl rfl ?_
    refine dk_callSi C [] (cc_X9_beside C.D  h) yy_X9_beside dk_wm_X9_193 dX9_go_41 (fun r10 s9 h => ?_) rfl ⟨Nat.le_of_ble_eq_true rfl, Nat.le_of_ble_eq_true rfl⟩ rfl (Nat.le_of_ble_eq_true rfl) rfl (n := 44) rfl
    refine dk_istore_n (i := 2) (L' := [some (dk_r G 4 60), some (.int x1), some (.int r10), none, none]) C dX9_go_44 (n := 45) rfl rfl (dk_nc_of rfl) (Nat.le_of_ble_eq_true rfl) rfl ?_
    refine dk_iload_n (i := 2) C dX9_go_45 (n := 46) rfl rfl rfl ?_
    refine dk_iconst (v := (-1)) C dX9_go_46 (n := 47) rfl (by decide) ?_
    refine dk_icmp_ne (t := 54) C dX9_go_47 (n := 50) rfl (by decide) (fun c13 => ?_) (fun c13 => ?_)
    · have h := h.1 c13
      refine dk_aload_n (i := 0) C dX9_go_54 (n := 55) rfl rfl rfl ?_
      refine dk_iload_n (i := 2) C dX9_go_55 (n := 56) rfl rfl rfl ?_
      refine dk_callVi C [] (cc_X9_livingAt C.D hmi h) yy_X9_livingAt dk_wm_X9_229 dk_sh60 (hmi 60 (by decide) (by decide)) dX9_go_56 (fun r12 s11 h => ?_) rfl rfl ⟨Nat.le_of_ble_eq_true rfl, Nat.le_of_ble_eq_true rfl⟩ rfl (Nat.le_of_ble_eq_true rfl) rfl (n := 59) rfl
      refine dk_sub (L0 := [some (dk_r G 4 60), none, some (.int r10), none, none]) ⟨rfl, ⟨rfl, trivial⟩⟩ ?_
      exact ww_X9_go_59 C hr hlk hmi  r10 r12 s11 h
    · have h := h.2 c13
      refine dk_iconst (v := (-1)) C dX9_go_50 (n := 51) rfl (by decide) ?_
      refine dk_goto (t := 59) C dX9_go_51 (by decide) ?_
      refine dk_sub (L0 := [some (dk_r G 4 60), none, some (.int r10), none, none]) ⟨rfl, ⟨rfl, trivial⟩⟩ ?_
      exact ww_X9_go_59 C hr hlk hmi  r10 (-1) s9 h
  · have h := h.2 c14
    refine dk_iconst (v := 0) C dX9_go_32 (n := 33) rfl (by decide) ?_
    exact dk_iret C hr hlk (by decide) dX9_go_33 ⟨_, rfl, h⟩
set_option maxRecDepth 20000 in
set_option maxHeartbeats 4000000 in
theorem cc_X9_go {G : dk_G} {l : Launch} {a1 : Int32} (hD : dk_D G) (hmi : dk_MI G) {s : dk_S} {K : Int32 → dk_S → Prop} (h : wf_X9_go a1 s K) : dk_M G l 9 yX9_go cX9_go 5 (some .char) [dk_r G 4 60, .int a1] s (dk_ki K) := by
  refine dk_of hD (by decide) [some (dk_r G 4 60), some (.int a1), none, none, none] (fun q hq => hq) rfl (Nat.le_of_ble_eq_true rfl) (fun P e S0 m args bel meth c C hr hlk => ?_)
  unfold wf_X9_go at h
  refine dk_aload_n (i := 0) C dX9_go_0 (n := 1) rfl rfl rfl ?_
  refine dk_iload_n (i := 1) C dX9_go_1 (n := 2) rfl rfl rfl ?_
  refine dk_iconst (v := 0) C dX9_go_2 (n := 3) rfl (by decide) ?_
  refine dk_iconst (v := 3) C dX9_go_3 (n := 4) rfl (by decide) ?_
  refine dk_callSi C [dk_r G 4 60] (cc_X9_in C.D  h) yy_X9_in dk_wm_X9_110 dX9_go_4 (fun r2 s1 h => ?_) rfl ⟨Nat.le_of_ble_eq_true rfl, Nat.le_of_ble_eq_true rfl⟩ rfl (Nat.le_of_ble_eq_true rfl) rfl (n := 7) rfl
  refine dk_if_ne (t := 14) C dX9_go_7 (n := 10) rfl (by decide) (fun c6 => ?_) (fun c6 => ?_)
  · have h := h.1 c6
    refine dk_aload_n (i := 0) C dX9_go_14 (n := 15) rfl rfl rfl ?_
    refine dk_callVi C [dk_r G 4 60] (cc_X9_isOn C.D hmi h) yy_X9_isOn dk_wm_X9_145 dk_sh60 (hmi 60 (by decide) (by decide)) dX9_go_15 (fun r4 s3 h => ?_) rfl rfl ⟨Nat.le_of_ble_eq_true rfl, Nat.le_of_ble_eq_true rfl⟩ rfl (Nat.le_of_ble_eq_true rfl) rfl (n := 18) rfl
    refine dk_if_ne (t := 25) C dX9_go_18 (n := 21) rfl (by decide) (fun c5 => ?_) (fun c5 => ?_)
    · have h := h.1 c5
      refine dk_iconst (v := 0) C dX9_go_25 (n := 26) rfl (by decide) ?_
      refine dk_sub (L0 := [some (dk_r G 4 60), some (.int a1), none, none, none]) ⟨rfl, ⟨rfl, trivial⟩⟩ ?_
      exact ww_X9_go_26 C hr hlk hmi  a1 0 s3 h
    · have h := h.2 c5
      refine dk_iconst (v := 2) C dX9_go_21 (n := 22) rfl (by decide) ?_
      refine dk_goto (t := 26) C dX9_go_22 (by decide) ?_
      refine dk_sub (L0 := [some (dk_r G 4 60), some (.int a1), none, none, none]) ⟨rfl, ⟨rfl, trivial⟩⟩ ?_
      exact ww_X9_go_26 C hr hlk hmi  a1 2 s3 h
  · have h := h.2 c6
    refine dk_iconst (v := 1) C dX9_go_10 (n := 11) rfl (by decide) ?_
    refine dk_goto (t := 26) C dX9_go_11 (by decide) ?_
    refine dk_sub (L0 := [some (dk_r G 4 60), some (.int a1), none, none, none]) ⟨rfl, ⟨rfl, trivial⟩⟩ ?_
    exact ww_X9_go_26 C hr hlk hmi  a1 1 s1 h
