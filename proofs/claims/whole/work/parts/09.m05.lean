/-! X9_isThing -/
def wf_X9_isThing (a1 : Int32) (s : dk_S) (K : Int32 → dk_S → Prop) : Prop :=
  wf_X9_in a1 0 ((s 4 60 15) - 1) s (fun r2 s1 => (narrow .boolean (.int r2) = .int r2 ∧ K r2 s1))
set_option maxRecDepth 20000 in
set_option maxHeartbeats 4000000 in
theorem cc_X9_isThing {G : dk_G} {l : Launch} {a1 : Int32} (hD : dk_D G) (hmi : dk_MI G) {s : dk_S} {K : Int32 → dk_S → Prop} (h : wf_X9_isThing a1 s K) : dk_M G l 2 yX9_isThing cX9_isThing 2 (some .boolean) [dk_r G 4 60, .int a1] s (dk_ki K) := by
  refine dk_of hD (by decide) [some (dk_r G 4 60), some (.int a1)] (fun q hq => hq) rfl (Nat.le_of_ble_eq_true rfl) (fun P e S0 m args bel meth c C hr hlk => ?_)
  unfold wf_X9_isThing at h
  refine dk_iload_n (i := 1) C dX9_isThing_0 (n := 1) rfl rfl rfl ?_
  refine dk_iconst (v := 0) C dX9_isThing_1 (n := 2) rfl (by decide) ?_
  refine dk_aload_n (i := 0) C dX9_isThing_2 (n := 3) rfl rfl rfl ?_
  refine gf_X9_162 C (hmi 60 (by decide) (by decide)) dX9_isThing_3 (n := 6) rfl ?_
  refine dk_iconst (v := 1) C dX9_isThing_6 (n := 7) rfl (by decide) ?_
  refine dk_isub C dX9_isThing_7 (n := 8) rfl ?_
  refine dk_callSi C [] (cc_X9_in C.D  h) yy_X9_in dk_wm_X9_110 dX9_isThing_8 (fun r2 s1 h => ?_) rfl ⟨Nat.le_of_ble_eq_true rfl, Nat.le_of_ble_eq_true rfl⟩ rfl (Nat.le_of_ble_eq_true rfl) rfl (n := 11) rfl
  exact dk_iret C hr hlk h.1 dX9_isThing_11 ⟨_, rfl, h.2⟩
/-! X9_addThing -/
def wf_X9_addThing_146  (K : Int32 → dk_S → Prop) (y0 : Int32) (y1 : Int32) (s : dk_S) : Prop :=
  (vp_in y1 24 ∧ (∀ s25 : dk_S, s25 = dk_row s 4 72 (upd (s 4 72) y1.toNatClampNeg y0) → ∀ s26 : dk_S, s26 = dk_row s25 4 60 (upd (s25 4 60) 15 ((s25 4 60 15) + 1)) → wf_X9_tells s26 (fun s27 => K ((s27 4 60 15) - 1) s27)))
def wf_X9_addThing_96  (K : Int32 → dk_S → Prop) (x1 : Int32) (x2 : Int32) (x3 : Int32) (x4 : Int32) (y0 : Int32) (s : dk_S) : Prop :=
  wf_X9_goesOn y0 s (fun r19 s18 => ((¬ r19 = 0 → (vp_in (s18 4 60 15) 24 ∧ (∀ s20 : dk_S, s20 = dk_row s18 4 71 (upd (s18 4 71) (s18 4 60 15).toNatClampNeg x1) → ((¬ x4 = (-1) → wf_X9_addThing_146 K ((-3) - x4) (s20 4 60 15) s20) ∧ (x4 = (-1) → wf_X9_at x2 x3 s20 (fun r22 s21 => wf_X9_addThing_146 K r22 (s20 4 60 15) s21)))))) ∧ (r19 = 0 → K 0 s18)))
def wf_X9_addThing_75  (K : Int32 → dk_S → Prop) (x1 : Int32) (x2 : Int32) (x3 : Int32) (x4 : Int32) (s : dk_S) : Prop :=
  wf_X9_isOn s (fun r15 s14 => ((¬ r15 = 0 → wf_X9_addThing_96 K x1 x2 x3 x4 4 s14) ∧ (r15 = 0 → ((¬ (s14 4 60 15) = 24 → wf_X9_addThing_96 K x1 x2 x3 x4 0 s14) ∧ ((s14 4 60 15) = 24 → wf_X9_addThing_96 K x1 x2 x3 x4 4 s14)))))
def wf_X9_addThing_28  (K : Int32 → dk_S → Prop) (x1 : Int32) (x2 : Int32) (x3 : Int32) (x4 : Int32) (y0 : Int32) (s : dk_S) : Prop :=
  wf_X9_in x1 0 7 s (fun r9 s8 => ((¬ r9 = 0 → ((¬ y0 = 0 → ((x4 = (-1) → wf_X9_addThing_75 K x1 x2 x3 x4 s8) ∧ (¬ x4 = (-1) → (vp_in x4 24 ∧ (((s8 4 71 x4.toNatClampNeg) = 6 → wf_X9_addThing_75 K x1 x2 x3 x4 s8) ∧ (¬ (s8 4 71 x4.toNatClampNeg) = 6 → wf_X9_addThing_96 K x1 x2 x3 x4 3 s8)))))) ∧ (y0 = 0 → wf_X9_addThing_96 K x1 x2 x3 x4 2 s8))) ∧ (r9 = 0 → wf_X9_addThing_96 K x1 x2 x3 x4 1 s8)))
def wf_X9_addThing (a1 : Int32) (a2 : Int32) (a3 : Int32) (a4 : Int32) (s : dk_S) (K : Int32 → dk_S → Prop) : Prop :=
  wf_X9_isPlace a2 a3 s (fun r2 s1 => ((r2 = 0 → wf_X9_addThing_28 K a1 a2 a3 a4 0 s1) ∧ (¬ r2 = 0 → ((a4 = (-1) → wf_X9_addThing_28 K a1 a2 a3 a4 1 s1) ∧ (¬ a4 = (-1) → wf_X9_isThing a4 s1 (fun r4 s3 => ((r4 = 0 → wf_X9_addThing_28 K a1 a2 a3 a4 0 s3) ∧ (¬ r4 = 0 → wf_X9_addThing_28 K a1 a2 a3 a4 1 s3))))))))
set_option maxRecDepth 20000 in
set_option maxHeartbeats 4000000 in
theorem ww_X9_addThing_146 {G : dk_G} {P : Program} {l : Launch} {e : Env} {S0 : State} {m : MethodId} {args : Array Value} {bel : List Frame} {meth : Method} {c : Code}  (C : dk_C G P (dk_rm 3) S0 m args c 0 0 cX9_addThing 7 RX9) (hr : meth.sig.returnType = (some .int)) (hlk : meth.locks = false) (hmi : dk_MI G) {K : Int32 → dk_S → Prop}  : ∀ (y0 : Int32) (y1 : Int32) (s : dk_S), wf_X9_addThing_146 K y0 y1 s → dk_W G P l e (dk_rm 3) S0 m args bel meth c 0 0 (MQ bel (dk_Qc G (dk_ki K)) args S0 0 0 (dk_A G)) 146 [some (dk_r G 4 60), none, none, none, none, none, none] [.int y0, .int y1, dk_r G 4 72] s := by
  intro y0 y1 s h
  unfold wf_X9_addThing_146 at h
  refine dk_iast C dk_sh72 h.1 (hmi 72 (by decide) (by decide)) dX9_addThing_146 (n := 147) rfl ?_
  refine dk_nameS (fun s25 es25 => ?_)
  have h := h.2 s25 es25
  refine dk_aload_n (i := 0) C dX9_addThing_147 (n := 148) rfl rfl rfl ?_
  refine dk_dup C dX9_addThing_148 (n := 149) rfl rfl ?_
  refine gf_X9_162 C (hmi 60 (by decide) (by decide)) dX9_addThing_149 (n := 152) rfl ?_
  refine dk_iconst (v := 1) C dX9_addThing_152 (n := 153) rfl (by decide) ?_
  refine dk_iadd C dX9_addThing_153 (n := 154) rfl ?_
  refine pf_X9_162 C rfl rfl (hmi 60 (by decide) (by decide)) dX9_addThing_154 (n := 157) rfl ?_
  refine dk_nameS (fun s26 es26 => ?_)
  have h := h s26 es26
  refine dk_aload_n (i := 0) C dX9_addThing_157 (n := 158) rfl rfl rfl ?_
  refine dk_callVv C [] (cc_X9_tells C.D hmi h) yy_X9_tells dk_wm_X9_153 dk_sh60 (hmi 60 (by decide) (by decide)) dX9_addThing_158 (fun s27 h => ?_) rfl rfl ⟨Nat.le_of_ble_eq_true rfl, Nat.le_of_ble_eq_true rfl⟩ rfl (Nat.le_of_ble_eq_true rfl) rfl (n := 161) rfl
  refine dk_aload_n (i := 0) C dX9_addThing_161 (n := 162) rfl rfl rfl ?_
  refine gf_X9_162 C (hmi 60 (by decide) (by decide)) dX9_addThing_162 (n := 165) rfl ?_
  refine dk_iconst (v := 1) C dX9_addThing_165 (n := 166) rfl (by decide) ?_
  refine dk_isub C dX9_addThing_166 (n := 167) rfl ?_
  exact dk_iret C hr hlk rfl dX9_addThing_167 ⟨_, rfl, h⟩
set_option maxRecDepth 20000 in
set_option maxHeartbeats 4000000 in
theorem ww_X9_addThing_96 {G : dk_G} {P : Program} {l : Launch} {e : Env} {S0 : State} {m : MethodId} {args : Array Value} {bel : List Frame} {meth : Method} {c : Code}  (C : dk_C G P (dk_rm 3) S0 m args c 0 0 cX9_addThing 7 RX9) (hr : meth.sig.returnType = (some .int)) (hlk : meth.locks = false) (hmi : dk_MI G) {K : Int32 → dk_S → Prop}  : ∀ (x1 : Int32) (x2 : Int32) (x3 : Int32) (x4 : Int32) (y0 : Int32) (s : dk_S), wf_X9_addThing_96 K x1 x2 x3 x4 y0 s → dk_W G P l e (dk_rm 3) S0 m args bel meth c 0 0 (MQ bel (dk_Qc G (dk_ki K)) args S0 0 0 (dk_A G)) 96 [some (dk_r G 4 60), some (.int x1), some (.int x2), some (.int x3), some (.int x4), none, none] [.int y0] s := by
  intro x1 x2 x3 x4 y0 s h
  unfold wf_X9_addThing_96 at h
  refine dk_istore (i := 6) (L' := [some (dk_r G 4 60), some (.int x1), some (.int x2), some (.int x3), some (.int x4), none, some (.int y0)]) C dX9_addThing_96 (n := 98) rfl (dk_nc_of rfl) (Nat.le_of_ble_eq_true rfl) rfl ?_
  refine dk_aload_n (i := 0) C dX9_addThing_98 (n := 99) rfl rfl rfl ?_
  refine dk_iload C dX9_addThing_99 (n := 101) rfl (i := 6) rfl ?_
  refine dk_callVi C [] (cc_X9_goesOn C.D hmi h) yy_X9_goesOn dk_wm_X9_149 dk_sh60 (hmi 60 (by decide) (by decide)) dX9_addThing_101 (fun r19 s18 h => ?_) rfl rfl ⟨Nat.le_of_ble_eq_true rfl, Nat.le_of_ble_eq_true rfl⟩ rfl (Nat.le_of_ble_eq_true rfl) rfl (n := 104) rfl
  refine dk_if_ne (t := 109) C dX9_addThing_104 (n := 107) rfl (by decide) (fun c24 => ?_) (fun c24 => ?_)
  · have h := h.1 c24
    refine dk_aload_n (i := 0) C dX9_addThing_109 (n := 110) rfl rfl rfl ?_
    refine gf_X9_50 C (hmi 60 (by decide) (by decide)) dX9_addThing_110 (n := 113) rfl ?_
    refine dk_aload_n (i := 0) C dX9_addThing_113 (n := 114) rfl rfl rfl ?_
    refine gf_X9_162 C (hmi 60 (by decide) (by decide)) dX9_addThing_114 (n := 117) rfl ?_
    refine dk_iload_n (i := 1) C dX9_addThing_117 (n := 118) rfl rfl rfl ?_
    refine dk_iast C dk_sh71 h.1 (hmi 71 (by decide) (by decide)) dX9_addThing_118 (n := 119) rfl ?_
    refine dk_nameS (fun s20 es20 => ?_)
    have h := h.2 s20 es20
    refine dk_aload_n (i := 0) C dX9_addThing_119 (n := 120) rfl rfl rfl ?_
    refine gf_X9_53 C (hmi 60 (by decide) (by decide)) dX9_addThing_120 (n := 123) rfl ?_
    refine dk_aload_n (i := 0) C dX9_addThing_123 (n := 124) rfl rfl rfl ?_
    refine gf_X9_162 C (hmi 60 (by decide) (by decide)) dX9_addThing_124 (n := 127) rfl ?_
    refine dk_iload C dX9_addThing_127 (n := 129) rfl (i := 4) rfl ?_
    refine dk_iconst (v := (-1)) C dX9_addThing_129 (n := 130) rfl (by decide) ?_
    refine dk_icmp_ne (t := 141) C dX9_addThing_130 (n := 133) rfl (by decide) (fun c23 => ?_) (fun c23 => ?_)
    · have h := h.1 c23
      refine dk_bipush (v := (-3)) C dX9_addThing_141 (n := 143) rfl (by decide) ?_
      refine dk_iload C dX9_addThing_143 (n := 145) rfl (i := 4) rfl ?_
      refine dk_isub C dX9_addThing_145 (n := 146) rfl ?_
      refine dk_sub (L0 := [some (dk_r G 4 60), none, none, none, none, none, none]) ⟨rfl, trivial⟩ ?_
      exact ww_X9_addThing_146 C hr hlk hmi  ((-3) - x4) (s20 4 60 15) s20 h
    · have h := h.2 c23
      refine dk_iload_n (i := 2) C dX9_addThing_133 (n := 134) rfl rfl rfl ?_
      refine dk_iload_n (i := 3) C dX9_addThing_134 (n := 135) rfl rfl rfl ?_
      refine dk_callSi C [.int (s20 4 60 15), dk_r G 4 72] (cc_X9_at C.D  h) yy_X9_at dk_wm_X9_125 dX9_addThing_135 (fun r22 s21 h => ?_) rfl ⟨Nat.le_of_ble_eq_true rfl, Nat.le_of_ble_eq_true rfl⟩ rfl (Nat.le_of_ble_eq_true rfl) rfl (n := 138) rfl
      refine dk_goto (t := 146) C dX9_addThing_138 (by decide) ?_
      refine dk_sub (L0 := [some (dk_r G 4 60), none, none, none, none, none, none]) ⟨rfl, trivial⟩ ?_
      exact ww_X9_addThing_146 C hr hlk hmi  r22 (s20 4 60 15) s21 h
  · have h := h.2 c24
    refine dk_iconst (v := 0) C dX9_addThing_107 (n := 108) rfl (by decide) ?_
    exact dk_iret C hr hlk rfl dX9_addThing_108 ⟨_, rfl, h⟩
set_option maxRecDepth 20000 in
set_option maxHeartbeats 4000000 in
theorem ww_X9_addThing_75 {G : dk_G} {P : Program} {l : Launch} {e : Env} {S0 : State} {m : MethodId} {args : Array Value} {bel : List Frame} {meth : Method} {c : Code}  (C : dk_C G P (dk_rm 3) S0 m args c 0 0 cX9_addThing 7 RX9) (hr : meth.sig.returnType = (some .int)) (hlk : meth.locks = false) (hmi : dk_MI G) {K : Int32 → dk_S → Prop}  : ∀ (x1 : Int32) (x2 : Int32) (x3 : Int32) (x4 : Int32) (s : dk_S), wf_X9_addThing_75 K x1 x2 x3 x4 s → dk_W G P l e (dk_rm 3) S0 m args bel meth c 0 0 (MQ bel (dk_Qc G (dk_ki K)) args S0 0 0 (dk_A G)) 75 [some (dk_r G 4 60), some (.int x1), some (.int x2), some (.int x3), some (.int x4), none, none] [] s := by
  intro x1 x2 x3 x4 s h
  unfold wf_X9_addThing_75 at h
  refine dk_aload_n (i := 0) C dX9_addThing_75 (n := 76) rfl rfl rfl ?_
  refine dk_callVi C [] (cc_X9_isOn C.D hmi h) yy_X9_isOn dk_wm_X9_145 dk_sh60 (hmi 60 (by decide) (by decide)) dX9_addThing_76 (fun r15 s14 h => ?_) rfl rfl ⟨Nat.le_of_ble_eq_true rfl, Nat.le_of_ble_eq_true rfl⟩ rfl (Nat.le_of_ble_eq_true rfl) rfl (n := 79) rfl
  refine dk_if_ne (t := 91) C dX9_addThing_79 (n := 82) rfl (by decide) (fun c17 => ?_) (fun c17 => ?_)
  · have h := h.1 c17
    refine dk_iconst (v := 4) C dX9_addThing_91 (n := 92) rfl (by decide) ?_
    refine dk_goto (t := 96) C dX9_addThing_92 (by decide) ?_
    refine dk_sub (L0 := [some (dk_r G 4 60), some (.int x1), some (.int x2), some (.int x3), some (.int x4), none, none]) ⟨rfl, ⟨rfl, ⟨rfl, ⟨rfl, ⟨rfl, trivial⟩⟩⟩⟩⟩ ?_
    exact ww_X9_addThing_96 C hr hlk hmi  x1 x2 x3 x4 4 s14 h
  · have h := h.2 c17
    refine dk_aload_n (i := 0) C dX9_addThing_82 (n := 83) rfl rfl rfl ?_
    refine gf_X9_162 C (hmi 60 (by decide) (by decide)) dX9_addThing_83 (n := 86) rfl ?_
    refine dk_bipush (v := 24) C dX9_addThing_86 (n := 88) rfl (by decide) ?_
    refine dk_icmp_ne (t := 95) C dX9_addThing_88 (n := 91) rfl (by decide) (fun c16 => ?_) (fun c16 => ?_)
    · have h := h.1 c16
      refine dk_iconst (v := 0) C dX9_addThing_95 (n := 96) rfl (by decide) ?_
      refine dk_sub (L0 := [some (dk_r G 4 60), some (.int x1), some (.int x2), some (.int x3), some (.int x4), none, none]) ⟨rfl, ⟨rfl, ⟨rfl, ⟨rfl, ⟨rfl, trivial⟩⟩⟩⟩⟩ ?_
      exact ww_X9_addThing_96 C hr hlk hmi  x1 x2 x3 x4 0 s14 h
    · have h := h.2 c16
      refine dk_iconst (v := 4) C dX9_addThing_91 (n := 92) rfl (by decide) ?_
      refine dk_goto (t := 96) C dX9_addThing_92 (by decide) ?_
      refine dk_sub (L0 := [some (dk_r G 4 60), some (.int x1), some (.int x2), some (.int x3), some (.int x4), none, none]) ⟨rfl, ⟨rfl, ⟨rfl, ⟨rfl, ⟨rfl, trivial⟩⟩⟩⟩⟩ ?_
      exact ww_X9_addThing_96 C hr hlk hmi  x1 x2 x3 x4 4 s14 h
set_option maxRecDepth 20000 in
set_option maxHeartbeats 4000000 in
theorem ww_X9_addThing_28 {G : dk_G} {P : Program} {l : Launch} {e : Env} {S0 : State} {m : MethodId} {args : Array Value} {bel : List Frame} {meth : Method} {c : Code}  (C : dk_C G P (dk_rm 3) S0 m args c 0 0 cX9_addThing 7 RX9) (hr : meth.sig.returnType = (some .int)) (hlk : meth.locks = false) (hmi : dk_MI G) {K : Int32 → dk_S → Prop}  : ∀ (x1 : Int32) (x2 : Int32) (x3 : Int32) (x4 : Int32) (y0 : Int32) (s : dk_S), wf_X9_addThing_28 K x1 x2 x3 x4 y0 s → dk_W G P l e (dk_rm 3) S0 m args bel meth c 0 0 (MQ bel (dk_Qc G (dk_ki K)) args S0 0 0 (dk_A G)) 28 [some (dk_r G 4 60), some (.int x1), some (.int x2), some (.int x3), some (.int x4), none, none] [.int y0] s := by
  intro x1 x2 x3 x4 y0 s h
  unfold wf_X9_addThing_28 at h
  refine dk_istore (i := 5) (L' := [some (dk_r G 4 60), some (.int x1), some (.int x2), some (.int x3), some (.int x4), some (.int y0), none]) C dX9_addThing_28 (n := 30) rfl (dk_nc_of rfl) (Nat.le_of_ble_eq_true rfl) rfl ?_
  refine dk_iload_n (i := 1) C dX9_addThing_30 (n := 31) rfl rfl rfl ?_
  refine dk_iconst (v := 0) C dX9_addThing_31 (n := 32) rfl (by decide) ?_
  refine dk_bipush (v := 7) C dX9_addThing_32 (n := 34) rfl (by decide) ?_
  refine dk_callSi C [] (cc_X9_in C.D  h) yy_X9_in dk_wm_X9_110 dX9_addThing_34 (fun r9 s8 h => ?_) rfl ⟨Nat.le_of_ble_eq_true rfl, Nat.le_of_ble_eq_true rfl⟩ rfl (Nat.le_of_ble_eq_true rfl) rfl (n := 37) rfl
  refine dk_if_ne (t := 44) C dX9_addThing_37 (n := 40) rfl (by decide) (fun c13 => ?_) (fun c13 => ?_)
  · have h := h.1 c13
    refine dk_iload C dX9_addThing_44 (n := 46) rfl (i := 5) rfl ?_
    refine dk_if_ne (t := 53) C dX9_addThing_46 (n := 49) rfl (by decide) (fun c12 => ?_) (fun c12 => ?_)
    · have h := h.1 c12
      refine dk_iload C dX9_addThing_53 (n := 55) rfl (i := 4) rfl ?_
      refine dk_iconst (v := (-1)) C dX9_addThing_55 (n := 56) rfl (by decide) ?_
      refine dk_icmp_eq (t := 75) C dX9_addThing_56 (n := 59) rfl (by decide) (fun c11 => ?_) (fun c11 => ?_)
      · have h := h.1 c11
        refine dk_sub (L0 := [some (dk_r G 4 60), some (.int x1), some (.int x2), some (.int x3), some (.int x4), none, none]) ⟨rfl, ⟨rfl, ⟨rfl, ⟨rfl, ⟨rfl, trivial⟩⟩⟩⟩⟩ ?_
        exact ww_X9_addThing_75 C hr hlk hmi  x1 x2 x3 x4 s8 h
      · have h := h.2 c11
        refine dk_aload_n (i := 0) C dX9_addThing_59 (n := 60) rfl rfl rfl ?_
        refine gf_X9_50 C (hmi 60 (by decide) (by decide)) dX9_addThing_60 (n := 63) rfl ?_
        refine dk_iload C dX9_addThing_63 (n := 65) rfl (i := 4) rfl ?_
        refine dk_iald C dk_sh71 h.1 (hmi 71 (by decide) (by decide)) dX9_addThing_65 (n := 66) rfl ?_
        have h := h.2
        refine dk_bipush (v := 6) C dX9_addThing_66 (n := 68) rfl (by decide) ?_
        refine dk_icmp_eq (t := 75) C dX9_addThing_68 (n := 71) rfl (by decide) (fun c10 => ?_) (fun c10 => ?_)
        · have h := h.1 c10
          refine dk_sub (L0 := [some (dk_r G 4 60), some (.int x1), some (.int x2), some (.int x3), some (.int x4), none, none]) ⟨rfl, ⟨rfl, ⟨rfl, ⟨rfl, ⟨rfl, trivial⟩⟩⟩⟩⟩ ?_
          exact ww_X9_addThing_75 C hr hlk hmi  x1 x2 x3 x4 s8 h
        · have h := h.2 c10
          refine dk_iconst (v := 3) C dX9_addThing_71 (n := 72) rfl (by decide) ?_
          refine dk_goto (t := 96) C dX9_addThing_72 (by decide) ?_
          refine dk_sub (L0 := [some (dk_r G 4 60), some (.int x1), some (.int x2), some (.int x3), some (.int x4), none, none]) ⟨rfl, ⟨rfl, ⟨rfl, ⟨rfl, ⟨rfl, trivial⟩⟩⟩⟩⟩ ?_
          exact ww_X9_addThing_96 C hr hlk hmi  x1 x2 x3 x4 3 s8 h
    · have h := h.2 c12
      refine dk_iconst (v := 2) C dX9_addThing_49 (n := 50) rfl (by decide) ?_
      refine dk_goto (t := 96) C dX9_addThing_50 (by decide) ?_
      refine dk_sub (L0 := [some (dk_r G 4 60), some (.int x1), some (.int x2), some (.int x3), some (.int x4), none, none]) ⟨rfl, ⟨rfl, ⟨rfl, ⟨rfl, ⟨rfl, trivial⟩⟩⟩⟩⟩ ?_
      exact ww_X9_addThing_96 C hr hlk hmi  x1 x2 x3 x4 2 s8 h
  · have h := h.2 c13
    refine dk_iconst (v := 1) C dX9_addThing_40 (n := 41) rfl (by decide) ?_
    refine dk_goto (t := 96) C dX9_addThing_41 (by decide) ?_
    refine dk_sub (L0 := [some (dk_r G 4 60), some (.int x1), some (.int x2), some (.int x3), some (.int x4), none, none]) ⟨rfl, ⟨rfl, ⟨rfl, ⟨rfl, ⟨rfl, trivial⟩⟩⟩⟩⟩ ?_
    exact ww_X9_addThing_96 C hr hlk hmi  x1 x2 x3 x4 1 s8 h
set_option maxRecDepth 20000 in
set_option maxHeartbeats 4000000 in
theorem cc_X9_addThing {G : dk_G} {l : Launch} {a1 : Int32} {a2 : Int32} {a3 : Int32} {a4 : Int32} (hD : dk_D G) (hmi : dk_MI G) {s : dk_S} {K : Int32 → dk_S → Prop} (h : wf_X9_addThing a1 a2 a3 a4 s K) : dk_M G l 3 yX9_addThing cX9_addThing 7 (some .int) [dk_r G 4 60, .int a1, .int a2, .int a3, .int a4] s (dk_ki K) := by
  refine dk_of hD (by decide) [some (dk_r G 4 60), some (.int a1), some (.int a2), some (.int a3), some (.int a4), none, none] (fun q hq => hq) rfl (Nat.le_of_ble_eq_true rfl) (fun P e S0 m args bel meth c C hr hlk => ?_)
  unfold wf_X9_addThing at h
  refine dk_iload_n (i := 2) C dX9_addThing_0 (n := 1) rfl rfl rfl ?_
  refine dk_iload_n (i := 3) C dX9_addThing_1 (n := 2) rfl rfl rfl ?_
  refine dk_callSi C [] (cc_X9_isPlace C.D  h) yy_X9_isPlace dk_wm_X9_121 dX9_addThing_2 (fun r2 s1 h => ?_) rfl ⟨Nat.le_of_ble_eq_true rfl, Nat.le_of_ble_eq_true rfl⟩ rfl (Nat.le_of_ble_eq_true rfl) rfl (n := 5) rfl
  refine dk_if_eq (t := 27) C dX9_addThing_5 (n := 8) rfl (by decide) (fun c7 => ?_) (fun c7 => ?_)
  · have h := h.1 c7
    refine dk_iconst (v := 0) C dX9_addThing_27 (n := 28) rfl (by decide) ?_
    refine dk_sub (L0 := [some (dk_r G 4 60), some (.int a1), some (.int a2), some (.int a3), some (.int a4), none, none]) ⟨rfl, ⟨rfl, ⟨rfl, ⟨rfl, ⟨rfl, trivial⟩⟩⟩⟩⟩ ?_
    exact ww_X9_addThing_28 C hr hlk hmi  a1 a2 a3 a4 0 s1 h
  · have h := h.2 c7
    refine dk_iload C dX9_addThing_8 (n := 10) rfl (i := 4) rfl ?_
    refine dk_iconst (v := (-1)) C dX9_addThing_10 (n := 11) rfl (by decide) ?_
    refine dk_icmp_eq (t := 23) C dX9_addThing_11 (n := 14) rfl (by decide) (fun c6 => ?_) (fun c6 => ?_)
    · have h := h.1 c6
      refine dk_iconst (v := 1) C dX9_addThing_23 (n := 24) rfl (by decide) ?_
      refine dk_goto (t := 28) C dX9_addThing_24 (by decide) ?_
      refine dk_sub (L0 := [some (dk_r G 4 60), some (.int a1), some (.int a2), some (.int a3), some (.int a4), none, none]) ⟨rfl, ⟨rfl, ⟨rfl, ⟨rfl, ⟨rfl, trivial⟩⟩⟩⟩⟩ ?_
      exact ww_X9_addThing_28 C hr hlk hmi  a1 a2 a3 a4 1 s1 h
    · have h := h.2 c6
      refine dk_aload_n (i := 0) C dX9_addThing_14 (n := 15) rfl rfl rfl ?_
      refine dk_iload C dX9_addThing_15 (n := 17) rfl (i := 4) rfl ?_
      refine dk_callVi C [] (cc_X9_isThing C.D hmi h) yy_X9_isThing dk_wm_X9_165 dk_sh60 (hmi 60 (by decide) (by decide)) dX9_addThing_17 (fun r4 s3 h => ?_) rfl rfl ⟨Nat.le_of_ble_eq_true rfl, Nat.le_of_ble_eq_true rfl⟩ rfl (Nat.le_of_ble_eq_true rfl) rfl (n := 20) rfl
      refine dk_if_eq (t := 27) C dX9_addThing_20 (n := 23) rfl (by decide) (fun c5 => ?_) (fun c5 => ?_)
      · have h := h.1 c5
        refine dk_iconst (v := 0) C dX9_addThing_27 (n := 28) rfl (by decide) ?_
        refine dk_sub (L0 := [some (dk_r G 4 60), some (.int a1), some (.int a2), some (.int a3), some (.int a4), none, none]) ⟨rfl, ⟨rfl, ⟨rfl, ⟨rfl, ⟨rfl, trivial⟩⟩⟩⟩⟩ ?_
        exact ww_X9_addThing_28 C hr hlk hmi  a1 a2 a3 a4 0 s3 h
      · have h := h.2 c5
        refine dk_iconst (v := 1) C dX9_addThing_23 (n := 24) rfl (by decide) ?_
        refine dk_goto (t := 28) C dX9_addThing_24 (by decide) ?_
        refine dk_sub (L0 := [some (dk_r G 4 60), some (.int a1), some (.int a2), some (.int a3), some (.int a4), none, none]) ⟨rfl, ⟨rfl, ⟨rfl, ⟨rfl, ⟨rfl, trivial⟩⟩⟩⟩⟩ ?_
        exact ww_X9_addThing_28 C hr hlk hmi  a1 a2 a3 a4 1 s3 h
/-! X9_addLamp -/
def wf_X9_addLamp_47  (K : Int32 → dk_S → Prop) (x1 : Int32) (x2 : Int32) (x3 : Int32) (y0 : Int32) (s : dk_S) : Prop :=
  wf_X9_goesOn y0 s (fun r12 s11 => ((¬ r12 = 0 → wf_X9_at x1 x2 s11 (fun r14 s13 => (vp_in (s11 4 60 18) 4 ∧ (∀ s15 : dk_S, s15 = dk_row s13 4 73 (upd (s13 4 73) (s11 4 60 18).toNatClampNeg r14) → (vp_in (s15 4 60 18) 4 ∧ (∀ s16 : dk_S, s16 = dk_row s15 4 74 (upd (s15 4 74) (s15 4 60 18).toNatClampNeg x3) → ∀ s17 : dk_S, s17 = dk_row s16 4 60 (upd (s16 4 60) 18 ((s16 4 60 18) + 1)) → wf_X9_tells s17 (fun s18 => K (s18 4 60 18) s18))))))) ∧ (r12 = 0 → K 0 s11)))
def wf_X9_addLamp (a1 : Int32) (a2 : Int32) (a3 : Int32) (s : dk_S) (K : Int32 → dk_S → Prop) : Prop :=
  wf_X9_isPlace a1 a2 s (fun r2 s1 => ((¬ r2 = 0 → wf_X9_in a3 0 9 s1 (fun r4 s3 => ((¬ r4 = 0 → wf_X9_isOn s3 (fun r6 s5 => ((¬ r6 = 0 → wf_X9_addLamp_47 K a1 a2 a3 3 s5) ∧ (r6 = 0 → ((¬ (s5 4 60 18) = 4 → wf_X9_addLamp_47 K a1 a2 a3 0 s5) ∧ ((s5 4 60 18) = 4 → wf_X9_addLamp_47 K a1 a2 a3 3 s5)))))) ∧ (r4 = 0 → wf_X9_addLamp_47 K a1 a2 a3 2 s3)))) ∧ (r2 = 0 → wf_X9_addLamp_47 K a1 a2 a3 1 s1)))
set_option maxRecDepth 20000 in
set_option maxHeartbeats 4000000 in
theorem ww_X9_addLamp_47 {G : dk_G} {P : Program} {l : Launch} {e : Env} {S0 : State} {m : MethodId} {args : Array Value} {bel : List Frame} {meth : Method} {c : Code}  (C : dk_C G P (dk_rm 3) S0 m args c 0 0 cX9_addLamp 4 RX9) (hr : meth.sig.returnType = (some .int)) (hlk : meth.locks = false) (hmi : dk_MI G) {K : Int32 → dk_S → Prop}  : ∀ (x1 : Int32) (x2 : Int32) (x3 : Int32) (y0 : Int32) (s : dk_S), wf_X9_addLamp_47 K x1 x2 x3 y0 s → dk_W G P l e (dk_rm 3) S0 m args bel meth c 0 0 (MQ bel (dk_Qc G (dk_ki K)) args S0 0 0 (dk_A G)) 47 [some (dk_r G 4 60), some (.int x1), some (.int x2), some (.int x3)] [.int y0, dk_r G 4 60] s := by
  intro x1 x2 x3 y0 s h
  unfold wf_X9_addLamp_47 at h
  refine dk_callVi C [] (cc_X9_goesOn C.D hmi h) yy_X9_goesOn dk_wm_X9_149 dk_sh60 (hmi 60 (by decide) (by decide)) dX9_addLamp_47 (fun r12 s11 h => ?_) rfl rfl ⟨Nat.le_of_ble_eq_true rfl, Nat.le_of_ble_eq_true rfl⟩ rfl (Nat.le_of_ble_eq_true rfl) rfl (n := 50) rfl
  refine dk_if_ne (t := 55) C dX9_addLamp_50 (n := 53) rfl (by decide) (fun c19 => ?_) (fun c19 => ?_)
  · have h := h.1 c19
    refine dk_aload_n (i := 0) C dX9_addLamp_55 (n := 56) rfl rfl rfl ?_
    refine gf_X9_56 C (hmi 60 (by decide) (by decide)) dX9_addLamp_56 (n := 59) rfl ?_
    refine dk_aload_n (i := 0) C dX9_addLamp_59 (n := 60) rfl rfl rfl ?_
    refine gf_X9_168 C (hmi 60 (by decide) (by decide)) dX9_addLamp_60 (n := 63) rfl ?_
    refine dk_iload_n (i := 1) C dX9_addLamp_63 (n := 64) rfl rfl rfl ?_
    refine dk_iload_n (i := 2) C dX9_addLamp_64 (n := 65) rfl rfl rfl ?_
    refine dk_callSi C [.int (s11 4 60 18), dk_r G 4 73] (cc_X9_at C.D  h) yy_X9_at dk_wm_X9_125 dX9_addLamp_65 (fun r14 s13 h => ?_) rfl ⟨Nat.le_of_ble_eq_true rfl, Nat.le_of_ble_eq_true rfl⟩ rfl (Nat.le_of_ble_eq_true rfl) rfl (n := 68) rfl
    refine dk_iast C dk_sh73 h.1 (hmi 73 (by decide) (by decide)) dX9_addLamp_68 (n := 69) rfl ?_
    refine dk_nameS (fun s15 es15 => ?_)
    have h := h.2 s15 es15
    refine dk_aload_n (i := 0) C dX9_addLamp_69 (n := 70) rfl rfl rfl ?_
    refine gf_X9_59 C (hmi 60 (by decide) (by decide)) dX9_addLamp_70 (n := 73) rfl ?_
    refine dk_aload_n (i := 0) C dX9_addLamp_73 (n := 74) rfl rfl rfl ?_
    refine gf_X9_168 C (hmi 60 (by decide) (by decide)) dX9_addLamp_74 (n := 77) rfl ?_
    refine dk_iload_n (i := 3) C dX9_addLamp_77 (n := 78) rfl rfl rfl ?_
    refine dk_iast C dk_sh74 h.1 (hmi 74 (by decide) (by decide)) dX9_addLamp_78 (n := 79) rfl ?_
    refine dk_nameS (fun s16 es16 => ?_)
    have h := h.2 s16 es16
    refine dk_aload_n (i := 0) C dX9_addLamp_79 (n := 80) rfl rfl rfl ?_
    refine dk_dup C dX9_addLamp_80 (n := 81) rfl rfl ?_
    refine gf_X9_168 C (hmi 60 (by decide) (by decide)) dX9_addLamp_81 (n := 84) rfl ?_
    refine dk_iconst (v := 1) C dX9_addLamp_84 (n := 85) rfl (by decide) ?_
    refine dk_iadd C dX9_addLamp_85 (n := 86) rfl ?_
    refine pf_X9_168 C rfl rfl (hmi 60 (by decide) (by decide)) dX9_addLamp_86 (n := 89) rfl ?_
    refine dk_nameS (fun s17 es17 => ?_)
    have h := h s17 es17
    refine dk_aload_n (i := 0) C dX9_addLamp_89 (n := 90) rfl rfl rfl ?_
    refine dk_callVv C [] (cc_X9_tells C.D hmi h) yy_X9_tells dk_wm_X9_153 dk_sh60 (hmi 60 (by decide) (by decide)) dX9_addLamp_90 (fun s18 h => ?_) rfl rfl ⟨Nat.le_of_ble_eq_true rfl, Nat.le_of_ble_eq_true rfl⟩ rfl (Nat.le_of_ble_eq_true rfl) rfl (n := 93) rfl
    refine dk_aload_n (i := 0) C dX9_addLamp_93 (n := 94) rfl rfl rfl ?_
    refine gf_X9_168 C (hmi 60 (by decide) (by decide)) dX9_addLamp_94 (n := 97) rfl ?_
    exact dk_iret C hr hlk rfl dX9_addLamp_97 ⟨_, rfl, h⟩
  · have h := h.2 c19
    refine dk_iconst (v := 0) C dX9_addLamp_53 (n := 54) rfl (by decide) ?_
    exact dk_iret C hr hlk rfl dX9_addLamp_54 ⟨_, rfl, h⟩
set_option maxRecDepth 20000 in
set_option maxHeartbeats 4000000 in
theorem cc_X9_addLamp {G : dk_G} {l : Launch} {a1 : Int32} {a2 : Int32} {a3 : Int32} (hD : dk_D G) (hmi : dk_MI G) {s : dk_S} {K : Int32 → dk_S → Prop} (h : wf_X9_addLamp a1 a2 a3 s K) : dk_M G l 3 yX9_addLamp cX9_addLamp 4 (some .int) [dk_r G 4 60, .int a1, .int a2, .int a3] s (dk_ki K) := by
  refine dk_of hD (by decide) [some (dk_r G 4 60), some (.int a1), some (.int a2), some (.int a3)] (fun q hq => hq) rfl (Nat.le_of_ble_eq_true rfl) (fun P e S0 m args bel meth c C hr hlk => ?_)
  unfold wf_X9_addLamp at h
  refine dk_aload_n (i := 0) C dX9_addLamp_0 (n := 1) rfl rfl rfl ?_
  refine dk_iload_n (i := 1) C dX9_addLamp_1 (n := 2) rfl rfl rfl ?_
  refine dk_iload_n (i := 2) C dX9_addLamp_2 (n := 3) rfl rfl rfl ?_
  refine dk_callSi C [dk_r G 4 60] (cc_X9_isPlace C.D  h) yy_X9_isPlace dk_wm_X9_121 dX9_addLamp_3 (fun r2 s1 h => ?_) rfl ⟨Nat.le_of_ble_eq_true rfl, Nat.le_of_ble_eq_true rfl⟩ rfl (Nat.le_of_ble_eq_true rfl) rfl (n := 6) rfl
  refine dk_if_ne (t := 13) C dX9_addLamp_6 (n := 9) rfl (by decide) (fun c10 => ?_) (fun c10 => ?_)
  · have h := h.1 c10
    refine dk_iload_n (i := 3) C dX9_addLamp_13 (n := 14) rfl rfl rfl ?_
    refine dk_iconst (v := 0) C dX9_addLamp_14 (n := 15) rfl (by decide) ?_
    refine dk_bipush (v := 9) C dX9_addLamp_15 (n := 17) rfl (by decide) ?_
    refine dk_callSi C [dk_r G 4 60] (cc_X9_in C.D  h) yy_X9_in dk_wm_X9_110 dX9_addLamp_17 (fun r4 s3 h => ?_) rfl ⟨Nat.le_of_ble_eq_true rfl, Nat.le_of_ble_eq_true rfl⟩ rfl (Nat.le_of_ble_eq_true rfl) rfl (n := 20) rfl
    refine dk_if_ne (t := 27) C dX9_addLamp_20 (n := 23) rfl (by decide) (fun c9 => ?_) (fun c9 => ?_)
    · have h := h.1 c9
      refine dk_aload_n (i := 0) C dX9_addLamp_27 (n := 28) rfl rfl rfl ?_
      refine dk_callVi C [dk_r G 4 60] (cc_X9_isOn C.D hmi h) yy_X9_isOn dk_wm_X9_145 dk_sh60 (hmi 60 (by decide) (by decide)) dX9_addLamp_28 (fun r6 s5 h => ?_) rfl rfl ⟨Nat.le_of_ble_eq_true rfl, Nat.le_of_ble_eq_true rfl⟩ rfl (Nat.le_of_ble_eq_true rfl) rfl (n := 31) rfl
      refine dk_if_ne (t := 42) C dX9_addLamp_31 (n := 34) rfl (by decide) (fun c8 => ?_) (fun c8 => ?_)
      · have h := h.1 c8
        refine dk_iconst (v := 3) C dX9_addLamp_42 (n := 43) rfl (by decide) ?_
        refine dk_goto (t := 47) C dX9_addLamp_43 (by decide) ?_
        refine dk_sub (L0 := [some (dk_r G 4 60), some (.int a1), some (.int a2), some (.int a3)]) ⟨rfl, ⟨rfl, ⟨rfl, ⟨rfl, trivial⟩⟩⟩⟩ ?_
        exact ww_X9_addLamp_47 C hr hlk hmi  a1 a2 a3 3 s5 h
      · have h := h.2 c8
        refine dk_aload_n (i := 0) C dX9_addLamp_34 (n := 35) rfl rfl rfl ?_
        refine gf_X9_168 C (hmi 60 (by decide) (by decide)) dX9_addLamp_35 (n := 38) rfl ?_
        refine dk_iconst (v := 4) C dX9_addLamp_38 (n := 39) rfl (by decide) ?_
        refine dk_icmp_ne (t := 46) C dX9_addLamp_39 (n := 42) rfl (by decide) (fun c7 => ?_) (fun c7 => ?_)
        · have h := h.1 c7
          refine dk_iconst (v := 0) C dX9_addLamp_46 (n := 47) rfl (by decide) ?_
          refine dk_sub (L0 := [some (dk_r G 4 60), some (.int a1), some (.int a2), some (.int a3)]) ⟨rfl, ⟨rfl, ⟨rfl, ⟨rfl, trivial⟩⟩⟩⟩ ?_
          exact ww_X9_addLamp_47 C hr hlk hmi  a1 a2 a3 0 s5 h
        · have h := h.2 c7
          refine dk_iconst (v := 3) C dX9_addLamp_42 (n := 43) rfl (by decide) ?_
          refine dk_goto (t := 47) C dX9_addLamp_43 (by decide) ?_
          refine dk_sub (L0 := [some (dk_r G 4 60), some (.int a1), some (.int a2), some (.int a3)]) ⟨rfl, ⟨rfl, ⟨rfl, ⟨rfl, trivial⟩⟩⟩⟩ ?_
          exact ww_X9_addLamp_47 C hr hlk hmi  a1 a2 a3 3 s5 h
    · have h := h.2 c9
      refine dk_iconst (v := 2) C dX9_addLamp_23 (n := 24) rfl (by decide) ?_
      refine dk_goto (t := 47) C dX9_addLamp_24 (by decide) ?_
      refine dk_sub (L0 := [some (dk_r G 4 60), some (.int a1), some (.int a2), some (.int a3)]) ⟨rfl, ⟨rfl, ⟨rfl, ⟨rfl, trivial⟩⟩⟩⟩ ?_
      exact ww_X9_addLamp_47 C hr hlk hmi  a1 a2 a3 2 s3 h
  · have h := h.2 c10
    refine dk_iconst (v := 1) C dX9_addLamp_9 (n := 10) rfl (by decide) ?_
    refine dk_goto (t := 47) C dX9_addLamp_10 (by decide) ?_
    refine dk_sub (L0 := [some (dk_r G 4 60), some (.int a1), some (.int a2), some (.int a3)]) ⟨rfl, ⟨rfl, ⟨rfl, ⟨rfl, trivial⟩⟩⟩⟩ ?_
    exact ww_X9_addLamp_47 C hr hlk hmi  a1 a2 a3 1 s1 h
/-! X9_crosses -/
def wf_X9_crosses_282  (K : Int32 → dk_S → Prop) (x15 : Int32) (y0 : Int32) (s : dk_S) : Prop :=
  ((y0 ≤ x15 → K 0 s) ∧ (¬ y0 ≤ x15 → K 1 s))
def wf_X9_crosses_256  (K : Int32 → dk_S → Prop) (x7 : Int32) (x8 : Int32) (x16 : Int32) (y0 : Int32) (s : dk_S) : Prop :=
  ((x16 ≤ ((2 * x7) * x8) → wf_X9_crosses_282 K y0 x16 s) ∧ (¬ x16 ≤ ((2 * x7) * x8) → wf_X9_crosses_282 K y0 ((2 * x7) * x8) s))
def wf_X9_crosses_227  (K : Int32 → dk_S → Prop) (x7 : Int32) (x8 : Int32) (x12 : Int32) (x14 : Int32) (y0 : Int32) (s : dk_S) : Prop :=
  ((x14 ≤ x12 → ((0 ≤ y0 → wf_X9_crosses_256 K x7 x8 x14 y0 s) ∧ (¬ 0 ≤ y0 → wf_X9_crosses_256 K x7 x8 x14 0 s))) ∧ (¬ x14 ≤ x12 → ((0 ≤ y0 → wf_X9_crosses_256 K x7 x8 x12 y0 s) ∧ (¬ 0 ≤ y0 → wf_X9_crosses_256 K x7 x8 x12 0 s))))
def wf_X9_crosses_211  (K : Int32 → dk_S → Prop) (x7 : Int32) (x8 : Int32) (x11 : Int32) (x12 : Int32) (x13 : Int32) (y0 : Int32) (s : dk_S) : Prop :=
  ((x11 ≤ x13 → wf_X9_crosses_227 K x7 x8 x12 y0 x13 s) ∧ (¬ x11 ≤ x13 → wf_X9_crosses_227 K x7 x8 x12 y0 x11 s))
def wf_X9_crosses_185  (K : Int32 → dk_S → Prop) (x4 : Int32) (x7 : Int32) (x8 : Int32) (x10 : Int32) (x11 : Int32) (x12 : Int32) (y0 : Int32) (s : dk_S) : Prop :=
  ((¬ x4 = 0 → wf_X9_crosses_211 K x7 x8 x11 x12 y0 (((2 * x10) + 1) * x7) s) ∧ (x4 = 0 → wf_X9_crosses_211 K x7 x8 x11 x12 y0 ((2 * x7) * x8) s))
def wf_X9_crosses_165  (K : Int32 → dk_S → Prop) (x4 : Int32) (x7 : Int32) (x8 : Int32) (x10 : Int32) (x11 : Int32) (y0 : Int32) (s : dk_S) : Prop :=
  ((¬ x4 = 0 → wf_X9_crosses_185 K x4 x7 x8 x10 x11 y0 (((2 * x10) - 1) * x7) s) ∧ (x4 = 0 → wf_X9_crosses_185 K x4 x7 x8 x10 x11 y0 0 s))
def wf_X9_crosses_140  (K : Int32 → dk_S → Prop) (x3 : Int32) (x4 : Int32) (x7 : Int32) (x8 : Int32) (x9 : Int32) (x10 : Int32) (y0 : Int32) (s : dk_S) : Prop :=
  ((¬ x3 = 0 → wf_X9_crosses_165 K x4 x7 x8 x10 y0 (((2 * x9) + 1) * x8) s) ∧ (x3 = 0 → wf_X9_crosses_165 K x4 x7 x8 x10 y0 ((2 * x7) * x8) s))
def wf_X9_crosses_121  (K : Int32 → dk_S → Prop) (x3 : Int32) (x4 : Int32) (x7 : Int32) (x8 : Int32) (x9 : Int32) (y0 : Int32) (s : dk_S) : Prop :=
  ((¬ x3 = 0 → wf_X9_crosses_140 K x3 x4 x7 x8 x9 y0 (((2 * x9) - 1) * x8) s) ∧ (x3 = 0 → wf_X9_crosses_140 K x3 x4 x7 x8 x9 y0 0 s))
def wf_X9_crosses_106  (K : Int32 → dk_S → Prop) (x3 : Int32) (x4 : Int32) (x6 : Int32) (x7 : Int32) (x8 : Int32) (y0 : Int32) (s : dk_S) : Prop :=
  ((0 ≤ x4 → wf_X9_crosses_121 K x3 x4 x7 x8 y0 x6 s) ∧ (¬ 0 ≤ x4 → wf_X9_crosses_121 K x3 x4 x7 x8 y0 (-x6) s))
def wf_X9_crosses_92  (K : Int32 → dk_S → Prop) (x3 : Int32) (x4 : Int32) (x5 : Int32) (x6 : Int32) (x7 : Int32) (y0 : Int32) (s : dk_S) : Prop :=
  ((0 ≤ x3 → wf_X9_crosses_106 K x3 x4 x6 x7 y0 x5 s) ∧ (¬ 0 ≤ x3 → wf_X9_crosses_106 K x3 x4 x6 x7 y0 (-x5) s))
def wf_X9_crosses_76  (K : Int32 → dk_S → Prop) (x3 : Int32) (x4 : Int32) (x5 : Int32) (x6 : Int32) (y0 : Int32) (s : dk_S) : Prop :=
  ((¬ x4 = 0 → wf_X9_far x4 s (fun r32 s31 => wf_X9_crosses_92 K x3 x4 x5 x6 y0 r32 s31)) ∧ (x4 = 0 → wf_X9_crosses_92 K x3 x4 x5 x6 y0 1 s))
def wf_X9_crosses_52  (K : Int32 → dk_S → Prop) (x3 : Int32) (x4 : Int32) (x5 : Int32) (x6 : Int32) (s : dk_S) : Prop :=
  ((¬ x4 = 0 → ((¬ x3 = 0 → wf_X9_far x3 s (fun r24 s23 => wf_X9_crosses_76 K x3 x4 x5 x6 r24 s23)) ∧ (x3 = 0 → wf_X9_crosses_76 K x3 x4 x5 x6 1 s))) ∧ (x4 = 0 → ((x6 = 0 → ((¬ x3 = 0 → wf_X9_far x3 s (fun r27 s26 => wf_X9_crosses_76 K x3 x4 x5 x6 r27 s26)) ∧ (x3 = 0 → wf_X9_crosses_76 K x3 x4 x5 x6 1 s))) ∧ (¬ x6 = 0 → K 0 s))))
def wf_X9_crosses (a0 : Int32) (a1 : Int32) (a2 : Int32) (s : dk_S) (K : Int32 → dk_S → Prop) : Prop :=
  wf_X9_xOf a1 s (fun r2 s1 => wf_X9_xOf a0 s1 (fun r4 s3 => ∀ v5 : Int32, v5 = r2 - r4 → wf_X9_yOf a1 s3 (fun r7 s6 => wf_X9_yOf a0 s6 (fun r9 s8 => ∀ v10 : Int32, v10 = r7 - r9 → wf_X9_xOf a2 s8 (fun r12 s11 => wf_X9_xOf a0 s11 (fun r14 s13 => ∀ v15 : Int32, v15 = r12 - r14 → wf_X9_yOf a2 s13 (fun r17 s16 => wf_X9_yOf a0 s16 (fun r19 s18 => ∀ v20 : Int32, v20 = r17 - r19 → ((¬ v5 = 0 → wf_X9_crosses_52 K v5 v10 v15 v20 s18) ∧ (v5 = 0 → ((¬ v15 = 0 → K 0 s18) ∧ (v15 = 0 → wf_X9_crosses_52 K v5 v10 v15 v20 s18))))))))))))
set_option maxRecDepth 20000 in
set_option maxHeartbeats 4000000 in
theorem ww_X9_crosses_282 {G : dk_G} {P : Program} {l : Launch} {e : Env} {S0 : State} {m : MethodId} {args : Array Value} {bel : List Frame} {meth : Method} {c : Code}  (C : dk_C G P (dk_rm 2) S0 m args c 0 0 cX9_crosses 17 RX9) (hr : meth.sig.returnType = (some .boolean)) (hlk : meth.locks = false)  {K : Int32 → dk_S → Prop}  : ∀ (x15 : Int32) (y0 : Int32) (s : dk_S), wf_X9_crosses_282 K x15 y0 s → dk_W G P l e (dk_rm 2) S0 m args bel meth c 0 0 (MQ bel (dk_Qc G (dk_ki K)) args S0 0 0 (dk_A G)) 282 [none, none, none, none, none, none, none, none, none, none, none, none, none, none, none, some (.int x15), none] [.int y0] s := by
  intro x15 y0 s h
  unfold wf_X9_crosses_282 at h
  refine dk_istore (i := 16) (L' := [none, none, none, none, none, none, none, none, none, none, none, none, none, none, none, some (.int x15), some (.int y0)]) C dX9_crosses_282 (n := 284) rfl (dk_nc_of rfl) (Nat.le_of_ble_eq_true rfl) rfl ?_
  refine dk_iload C dX9_crosses_284 (n := 286) rfl (i := 15) rfl ?_
  refine dk_iload C dX9_crosses_286 (n := 288) rfl (i := 16) rfl ?_
  refine dk_icmp_ge (t := 295) C dX9_crosses_288 (n := 291) rfl (by decide) (fun c45 => ?_) (fun c45 => ?_)
  · have h := h.1 c45
    refine dk_iconst (v := 0) C dX9_crosses_295 (n := 296) rfl (by decide) ?_
    exact dk_iret C hr hlk dk_nz0 dX9_crosses_296 ⟨_, rfl, h⟩
  · have h := h.2 c45
    refine dk_iconst (v := 1) C dX9_crosses_291 (n := 292) rfl (by decide) ?_
    refine dk_goto (t := 296) C dX9_crosses_292 (by decide) ?_
    exact dk_iret C hr hlk dk_nz1 dX9_crosses_296 ⟨_, rfl, h⟩
set_option maxRecDepth 20000 in
set_option maxHeartbeats 4000000 in
theorem ww_X9_crosses_256 {G : dk_G} {P : Program} {l : Launch} {e : Env} {S0 : State} {m : MethodId} {args : Array Value} {bel : List Frame} {meth : Method} {c : Code}  (C : dk_C G P (dk_rm 2) S0 m args c 0 0 cX9_crosses 17 RX9) (hr : meth.sig.returnType = (some .boolean)) (hlk : meth.locks = false)  {K : Int32 → dk_S → Prop}  : ∀ (x7 : Int32) (x8 : Int32) (x16 : Int32) (y0 : Int32) (s : dk_S), wf_X9_crosses_256 K x7 x8 x16 y0 s → dk_W G P l e (dk_rm 2) S0 m args bel meth c 0 0 (MQ bel (dk_Qc G (dk_ki K)) args S0 0 0 (dk_A G)) 256 [none, none, none, none, none, none, none, some (.int x7), some (.int x8), none, none, none, none, none, none, none, some (.int x16)] [.int y0] s := by
  intro x7 x8 x16 y0 s h
  unfold wf_X9_crosses_256 at h
  refine dk_istore (i := 15) (L' := [none, none, none, none, none, none, none, some (.int x7), some (.int x8), none, none, none, none, none, none, some (.int y0), some (.int x16)]) C dX9_crosses_256 (n := 258) rfl (dk_nc_of rfl) (Nat.le_of_ble_eq_true rfl) rfl ?_
  refine dk_iload C dX9_crosses_258 (n := 260) rfl (i := 16) rfl ?_
  refine dk_iconst (v := 2) C dX9_crosses_260 (n := 261) rfl (by decide) ?_
  refine dk_iload C dX9_crosses_261 (n := 263) rfl (i := 7) rfl ?_
  refine dk_imul C dX9_crosses_263 (n := 264) rfl ?_
  refine dk_iload C dX9_crosses_264 (n := 266) rfl (i := 8) rfl ?_
  refine dk_imul C dX9_crosses_266 (n := 267) rfl ?_
  refine dk_icmp_le (t := 280) C dX9_crosses_267 (n := 270) rfl (by decide) (fun c44 => ?_) (fun c44 => ?_)
  · have h := h.1 c44
    refine dk_iload C dX9_crosses_280 (n := 282) rfl (i := 16) rfl ?_
    refine dk_sub (L0 := [none, none, none, none, none, none, none, none, none, none, none, none, none, none, none, some (.int y0), none]) ⟨rfl, trivial⟩ ?_
    exact ww_X9_crosses_282 C hr hlk  y0 x16 s h
  · have h := h.2 c44
    refine dk_iconst (v := 2) C dX9_crosses_270 (n := 271) rfl (by decide) ?_
    refine dk_iload C dX9_crosses_271 (n := 273) rfl (i := 7) rfl ?_
    refine dk_imul C dX9_crosses_273 (n := 274) rfl ?_
    refine dk_iload C dX9_crosses_274 (n := 276) rfl (i := 8) rfl ?_
    refine dk_imul C dX9_crosses_276 (n := 277) rfl ?_
    refine dk_goto (t := 282) C dX9_crosses_277 (by decide) ?_
    refine dk_sub (L0 := [none, none, none, none, none, none, none, none, none, none, none, none, none, none, none, some (.int y0), none]) ⟨rfl, trivial⟩ ?_
    exact ww_X9_crosses_282 C hr hlk  y0 ((2 * x7) * x8) s h
set_option maxRecDepth 20000 in
set_option maxHeartbeats 4000000 in
theorem ww_X9_crosses_227 {G : dk_G} {P : Program} {l : Launch} {e : Env} {S0 : State} {m : MethodId} {args : Array Value} {bel : List Frame} {meth : Method} {c : Code}  (C : dk_C G P (dk_rm 2) S0 m args c 0 0 cX9_crosses 17 RX9) (hr : meth.sig.returnType = (some .boolean)) (hlk : meth.locks = false)  {K : Int32 → dk_S → Prop}  : ∀ (x7 : Int32) (x8 : Int32) (x12 : Int32) (x14 : Int32) (y0 : Int32) (s : dk_S), wf_X9_crosses_227 K x7 x8 x12 x14 y0 s → dk_W G P l e (dk_rm 2) S0 m args bel meth c 0 0 (MQ bel (dk_Qc G (dk_ki K)) args S0 0 0 (dk_A G)) 227 [none, none, none, none, none, none, none, some (.int x7), some (.int x8), none, none, none, some (.int x12), none, some (.int x14), none, none] [.int y0] s := by
  intro x7 x8 x12 x14 y0 s h
  unfold wf_X9_crosses_227 at h
  refine dk_istore (i := 15) (L' := [none, none, none, none, none, none, none, some (.int x7), some (.int x8), none, none, none, some (.int x12), none, some (.int x14), some (.int y0), none]) C dX9_crosses_227 (n := 229) rfl (dk_nc_of rfl) (Nat.le_of_ble_eq_true rfl) rfl ?_
  refine dk_iload C dX9_crosses_229 (n := 231) rfl (i := 12) rfl ?_
  refine dk_iload C dX9_crosses_231 (n := 233) rfl (i := 14) rfl ?_
  refine dk_icmp_ge (t := 241) C dX9_crosses_233 (n := 236) rfl (by decide) (fun c43 => ?_) (fun c43 => ?_)
  · have h := h.1 c43
    refine dk_iload C dX9_crosses_241 (n := 243) rfl (i := 14) rfl ?_
    refine dk_istore (i := 16) (L' := [none, none, none, none, none, none, none, some (.int x7), some (.int x8), none, none, none, some (.int x12), none, some (.int x14), some (.int y0), some (.int x14)]) C dX9_crosses_243 (n := 245) rfl (dk_nc_of rfl) (Nat.le_of_ble_eq_true rfl) rfl ?_
    refine dk_iload C dX9_crosses_245 (n := 247) rfl (i := 15) rfl ?_
    refine dk_if_ge (t := 254) C dX9_crosses_247 (n := 250) rfl (by decide) (fun c41 => ?_) (fun c41 => ?_)
    · have h := h.1 c41
      refine dk_iload C dX9_crosses_254 (n := 256) rfl (i := 15) rfl ?_
      refine dk_sub (L0 := [none, none, none, none, none, none, none, some (.int x7), some (.int x8), none, none, none, none, none, none, none, some (.int x14)]) ⟨rfl, ⟨rfl, ⟨rfl, trivial⟩⟩⟩ ?_
      exact ww_X9_crosses_256 C hr hlk  x7 x8 x14 y0 s h
    · have h := h.2 c41
      refine dk_iconst (v := 0) C dX9_crosses_250 (n := 251) rfl (by decide) ?_
      refine dk_goto (t := 256) C dX9_crosses_251 (by decide) ?_
      refine dk_sub (L0 := [none, none, none, none, none, none, none, some (.int x7), some (.int x8), none, none, none, none, none, none, none, some (.int x14)]) ⟨rfl, ⟨rfl, ⟨rfl, trivial⟩⟩⟩ ?_
      exact ww_X9_crosses_256 C hr hlk  x7 x8 x14 0 s h
  · have h := h.2 c43
    refine dk_iload C dX9_crosses_236 (n := 238) rfl (i := 12) rfl ?_
    refine dk_goto (t := 243) C dX9_crosses_238 (by decide) ?_
    refine dk_istore (i := 16) (L' := [none, none, none, none, none, none, none, some (.int x7), some (.int x8), none, none, none, some (.int x12), none, some (.int x14), some (.int y0), some (.int x12)]) C dX9_crosses_243 (n := 245) rfl (dk_nc_of rfl) (Nat.le_of_ble_eq_true rfl) rfl ?_
    refine dk_iload C dX9_crosses_245 (n := 247) rfl (i := 15) rfl ?_
    refine dk_if_ge (t := 254) C dX9_crosses_247 (n := 250) rfl (by decide) (fun c42 => ?_) (fun c42 => ?_)
    · have h := h.1 c42
      refine dk_iload C dX9_crosses_254 (n := 256) rfl (i := 15) rfl ?_
      refine dk_sub (L0 := [none, none, none, none, none, none, none, some (.int x7), some (.int x8), none, none, none, none, none, none, none, some (.int x12)]) ⟨rfl, ⟨rfl, ⟨rfl, trivial⟩⟩⟩ ?_
      exact ww_X9_crosses_256 C hr hlk  x7 x8 x12 y0 s h
    · have h := h.2 c42
      refine dk_iconst (v := 0) C dX9_crosses_250 (n := 251) rfl (by decide) ?_
      refine dk_goto (t := 256) C dX9_crosses_251 (by decide) ?_
      refine dk_sub (L0 := [none, none, none, none, none, none, none, some (.int x7), some (.int x8), none, none, none, none, none, none, none, some (.int x12)]) ⟨rfl, ⟨rfl, ⟨rfl, trivial⟩⟩⟩ ?_
      exact ww_X9_crosses_256 C hr hlk  x7 x8 x12 0 s h
set_option maxRecDepth 20000 in
set_option maxHeartbeats 4000000 in
theorem ww_X9_crosses_211 {G : dk_G} {P : Program} {l : Launch} {e : Env} {S0 : State} {m : MethodId} {args : Array Value} {bel : List Frame} {meth : Method} {c : Code}  (C : dk_C G P (dk_rm 2) S0 m args c 0 0 cX9_crosses 17 RX9) (hr : meth.sig.returnType = (some .boolean)) (hlk : meth.locks = false)  {K : Int32 → dk_S → Prop}  : ∀ (x7 : Int32) (x8 : Int32) (x11 : Int32) (x12 : Int32) (x13 : Int32) (y0 : Int32) (s : dk_S), wf_X9_crosses_211 K x7 x8 x11 x12 x13 y0 s → dk_W G P l e (dk_rm 2) S0 m args bel meth c 0 0 (MQ bel (dk_Qc G (dk_ki K)) args S0 0 0 (dk_A G)) 211 [none, none, none, none, none, none, none, some (.int x7), some (.int x8), none, none, some (.int x11), some (.int x12), some (.int x13), none, none, none] [.int y0] s := by
  intro x7 x8 x11 x12 x13 y0 s h
  unfold wf_X9_crosses_211 at h
  refine dk_istore (i := 14) (L' := [none, none, none, none, none, none, none, some (.int x7), some (.int x8), none, none, some (.int x11), some (.int x12), some (.int x13), some (.int y0), none, none]) C dX9_crosses_211 (n := 213) rfl (dk_nc_of rfl) (Nat.le_of_ble_eq_true rfl) rfl ?_
  refine dk_iload C dX9_crosses_213 (n := 215) rfl (i := 11) rfl ?_
  refine dk_iload C dX9_crosses_215 (n := 217) rfl (i := 13) rfl ?_
  refine dk_icmp_le (t := 225) C dX9_crosses_217 (n := 220) rfl (by decide) (fun c40 => ?_) (fun c40 => ?_)
  · have h := h.1 c40
    refine dk_iload C dX9_crosses_225 (n := 227) rfl (i := 13) rfl ?_
    refine dk_sub (L0 := [none, none, none, none, none, none, none, some (.int x7), some (.int x8), none, none, none, some (.int x12), none, some (.int y0), none, none]) ⟨rfl, ⟨rfl, ⟨rfl, ⟨rfl, trivial⟩⟩⟩⟩ ?_
    exact ww_X9_crosses_227 C hr hlk  x7 x8 x12 y0 x13 s h
  · have h := h.2 c40
    refine dk_iload C dX9_crosses_220 (n := 222) rfl (i := 11) rfl ?_
    refine dk_goto (t := 227) C dX9_crosses_222 (by decide) ?_
    refine dk_sub (L0 := [none, none, none, none, none, none, none, some (.int x7), some (.int x8), none, none, none, some (.int x12), none, some (.int y0), none, none]) ⟨rfl, ⟨rfl, ⟨rfl, ⟨rfl, trivial⟩⟩⟩⟩ ?_
    exact ww_X9_crosses_227 C hr hlk  x7 x8 x12 y0 x11 s h
set_option maxRecDepth 20000 in
set_option maxHeartbeats 4000000 in
theorem ww_X9_crosses_185 {G : dk_G} {P : Program} {l : Launch} {e : Env} {S0 : State} {m : MethodId} {args : Array Value} {bel : List Frame} {meth : Method} {c : Code}  (C : dk_C G P (dk_rm 2) S0 m args c 0 0 cX9_crosses 17 RX9) (hr : meth.sig.returnType = (some .boolean)) (hlk : meth.locks = false)  {K : Int32 → dk_S → Prop}  : ∀ (x4 : Int32) (x7 : Int32) (x8 : Int32) (x10 : Int32) (x11 : Int32) (x12 : Int32) (y0 : Int32) (s : dk_S), wf_X9_crosses_185 K x4 x7 x8 x10 x11 x12 y0 s → dk_W G P l e (dk_rm 2) S0 m args bel meth c 0 0 (MQ bel (dk_Qc G (dk_ki K)) args S0 0 0 (dk_A G)) 185 [none, none, none, none, some (.int x4), none, none, some (.int x7), some (.int x8), none, some (.int x10), some (.int x11), some (.int x12), none, none, none, none] [.int y0] s := by
  intro x4 x7 x8 x10 x11 x12 y0 s h
  unfold wf_X9_crosses_185 at h
  refine dk_istore (i := 13) (L' := [none, none, none, none, some (.int x4), none, none, some (.int x7), some (.int x8), none, some (.int x10), some (.int x11), some (.int x12), some (.int y0), none, none, none]) C dX9_crosses_185 (n := 187) rfl (dk_nc_of rfl) (Nat.le_of_ble_eq_true rfl) rfl ?_
  refine dk_iload C dX9_crosses_187 (n := 189) rfl (i := 4) rfl ?_
  refine dk_if_ne (t := 202) C dX9_crosses_189 (n := 192) rfl (by decide) (fun c39 => ?_) (fun c39 => ?_)
  · have h := h.1 c39
    refine dk_iconst (v := 2) C dX9_crosses_202 (n := 203) rfl (by decide) ?_
    refine dk_iload C dX9_crosses_203 (n := 205) rfl (i := 10) rfl ?_
    refine dk_imul C dX9_crosses_205 (n := 206) rfl ?_
    refine dk_iconst (v := 1) C dX9_crosses_206 (n := 207) rfl (by decide) ?_
    refine dk_iadd C dX9_crosses_207 (n := 208) rfl ?_
    refine dk_iload C dX9_crosses_208 (n := 210) rfl (i := 7) rfl ?_
    refine dk_imul C dX9_crosses_210 (n := 211) rfl ?_
    refine dk_sub (L0 := [none, none, none, none, none, none, none, some (.int x7), some (.int x8), none, none, some (.int x11), some (.int x12), some (.int y0), none, none, none]) ⟨rfl, ⟨rfl, ⟨rfl, ⟨rfl, ⟨rfl, trivial⟩⟩⟩⟩⟩ ?_
    exact ww_X9_crosses_211 C hr hlk  x7 x8 x11 x12 y0 (((2 * x10) + 1) * x7) s h
  · have h := h.2 c39
    refine dk_iconst (v := 2) C dX9_crosses_192 (n := 193) rfl (by decide) ?_
    refine dk_iload C dX9_crosses_193 (n := 195) rfl (i := 7) rfl ?_
    refine dk_imul C dX9_crosses_195 (n := 196) rfl ?_
    refine dk_iload C dX9_crosses_196 (n := 198) rfl (i := 8) rfl ?_
    refine dk_imul C dX9_crosses_198 (n := 199) rfl ?_
    refine dk_goto (t := 211) C dX9_crosses_199 (by decide) ?_
    refine dk_sub (L0 := [none, none, none, none, none, none, none, some (.int x7), some (.int x8), none, none, some (.int x11), some (.int x12), some (.int y0), none, none, none]) ⟨rfl, ⟨rfl, ⟨rfl, ⟨rfl, ⟨rfl, trivial⟩⟩⟩⟩⟩ ?_
    exact ww_X9_crosses_211 C hr hlk  x7 x8 x11 x12 y0 ((2 * x7) * x8) s h
set_option maxRecDepth 20000 in
set_option maxHeartbeats 4000000 in
theorem ww_X9_crosses_165 {G : dk_G} {P : Program} {l : Launch} {e : Env} {S0 : State} {m : MethodId} {args : Array Value} {bel : List Frame} {meth : Method} {c : Code}  (C : dk_C G P (dk_rm 2) S0 m args c 0 0 cX9_crosses 17 RX9) (hr : meth.sig.returnType = (some .boolean)) (hlk : meth.locks = false)  {K : Int32 → dk_S → Prop}  : ∀ (x4 : Int32) (x7 : Int32) (x8 : Int32) (x10 : Int32) (x11 : Int32) (y0 : Int32) (s : dk_S), wf_X9_crosses_165 K x4 x7 x8 x10 x11 y0 s → dk_W G P l e (dk_rm 2) S0 m args bel meth c 0 0 (MQ bel (dk_Qc G (dk_ki K)) args S0 0 0 (dk_A G)) 165 [none, none, none, none, some (.int x4), none, none, some (.int x7), some (.int x8), none, some (.int x10), some (.int x11), none, none, none, none, none] [.int y0] s := by
  intro x4 x7 x8 x10 x11 y0 s h
  unfold wf_X9_crosses_165 at h
  refine dk_istore (i := 12) (L' := [none, none, none, none, some (.int x4), none, none, some (.int x7), some (.int x8), none, some (.int x10), some (.int x11), some (.int y0), none, none, none, none]) C dX9_crosses_165 (n := 167) rfl (dk_nc_of rfl) (Nat.le_of_ble_eq_true rfl) rfl ?_
  refine dk_iload C dX9_crosses_167 (n := 169) rfl (i := 4) rfl ?_
  refine dk_if_ne (t := 176) C dX9_crosses_169 (n := 172) rfl (by decide) (fun c38 => ?_) (fun c38 => ?_)
  · have h := h.1 c38
    refine dk_iconst (v := 2) C dX9_crosses_176 (n := 177) rfl (by decide) ?_
    refine dk_iload C dX9_crosses_177 (n := 179) rfl (i := 10) rfl ?_
    refine dk_imul C dX9_crosses_179 (n := 180) rfl ?_
    refine dk_iconst (v := 1) C dX9_crosses_180 (n := 181) rfl (by decide) ?_
    refine dk_isub C dX9_crosses_181 (n := 182) rfl ?_
    refine dk_iload C dX9_crosses_182 (n := 184) rfl (i := 7) rfl ?_
    refine dk_imul C dX9_crosses_184 (n := 185) rfl ?_
    refine dk_sub (L0 := [none, none, none, none, some (.int x4), none, none, some (.int x7), some (.int x8), none, some (.int x10), some (.int x11), some (.int y0), none, none, none, none]) ⟨rfl, ⟨rfl, ⟨rfl, ⟨rfl, ⟨rfl, ⟨rfl, trivial⟩⟩⟩⟩⟩⟩ ?_
    exact ww_X9_crosses_185 C hr hlk  x4 x7 x8 x10 x11 y0 (((2 * x10) - 1) * x7) s h
  · have h := h.2 c38
    refine dk_iconst (v := 0) C dX9_crosses_172 (n := 173) rfl (by decide) ?_
    refine dk_goto (t := 185) C dX9_crosses_173 (by decide) ?_
    refine dk_sub (L0 := [none, none, none, none, some (.int x4), none, none, some (.int x7), some (.int x8), none, some (.int x10), some (.int x11), some (.int y0), none, none, none, none]) ⟨rfl, ⟨rfl, ⟨rfl, ⟨rfl, ⟨rfl, ⟨rfl, trivial⟩⟩⟩⟩⟩⟩ ?_
    exact ww_X9_crosses_185 C hr hlk  x4 x7 x8 x10 x11 y0 0 s h
set_option maxRecDepth 20000 in
set_option maxHeartbeats 4000000 in
theorem ww_X9_crosses_140 {G : dk_G} {P : Program} {l : Launch} {e : Env} {S0 : State} {m : MethodId} {args : Array Value} {bel : List Frame} {meth : Method} {c : Code}  (C : dk_C G P (dk_rm 2) S0 m args c 0 0 cX9_crosses 17 RX9) (hr : meth.sig.returnType = (some .boolean)) (hlk : meth.locks = false)  {K : Int32 → dk_S → Prop}  : ∀ (x3 : Int32) (x4 : Int32) (x7 : Int32) (x8 : Int32) (x9 : Int32) (x10 : Int32) (y0 : Int32) (s : dk_S), wf_X9_crosses_140 K x3 x4 x7 x8 x9 x10 y0 s → dk_W G P l e (dk_rm 2) S0 m args bel meth c 0 0 (MQ bel (dk_Qc G (dk_ki K)) args S0 0 0 (dk_A G)) 140 [none, none, none, some (.int x3), some (.int x4), none, none, some (.int x7), some (.int x8), some (.int x9), some (.int x10), none, none, none, none, none, none] [.int y0] s := by
  intro x3 x4 x7 x8 x9 x10 y0 s h
  unfold wf_X9_crosses_140 at h
  refine dk_istore (i := 11) (L' := [none, none, none, some (.int x3), some (.int x4), none, none, some (.int x7), some (.int x8), some (.int x9), some (.int x10), some (.int y0), none, none, none, none, none]) C dX9_crosses_140 (n := 142) rfl (dk_nc_of rfl) (Nat.le_of_ble_eq_true rfl) rfl ?_
  refine dk_iload_n (i := 3) C dX9_crosses_142 (n := 143) rfl rfl rfl ?_
  refine dk_if_ne (t := 156) C dX9_crosses_143 (n := 146) rfl (by decide) (fun c37 => ?_) (fun c37 => ?_)
  · have h := h.1 c37
    refine dk_iconst (v := 2) C dX9_crosses_156 (n := 157) rfl (by decide) ?_
    refine dk_iload C dX9_crosses_157 (n := 159) rfl (i := 9) rfl ?_
    refine dk_imul C dX9_crosses_159 (n := 160) rfl ?_
    refine dk_iconst (v := 1) C dX9_crosses_160 (n := 161) rfl (by decide) ?_
    refine dk_iadd C dX9_crosses_161 (n := 162) rfl ?_
    refine dk_iload C dX9_crosses_162 (n := 164) rfl (i := 8) rfl ?_
    refine dk_imul C dX9_crosses_164 (n := 165) rfl ?_
    refine dk_sub (L0 := [none, none, none, none, some (.int x4), none, none, some (.int x7), some (.int x8), none, some (.int x10), some (.int y0), none, none, none, none, none]) ⟨rfl, ⟨rfl, ⟨rfl, ⟨rfl, ⟨rfl, trivial⟩⟩⟩⟩⟩ ?_
    exact ww_X9_crosses_165 C hr hlk  x4 x7 x8 x10 y0 (((2 * x9) + 1) * x8) s h
  · have h := h.2 c37
    refine dk_iconst (v := 2) C dX9_crosses_146 (n := 147) rfl (by decide) ?_
    refine dk_iload C dX9_crosses_147 (n := 149) rfl (i := 7) rfl ?_
    refine dk_imul C dX9_crosses_149 (n := 150) rfl ?_
    refine dk_iload C dX9_crosses_150 (n := 152) rfl (i := 8) rfl ?_
    refine dk_imul C dX9_crosses_152 (n := 153) rfl ?_
    refine dk_goto (t := 165) C dX9_crosses_153 (by decide) ?_
    refine dk_sub (L0 := [none, none, none, none, some (.int x4), none, none, some (.int x7), some (.int x8), none, some (.int x10), some (.int y0), none, none, none, none, none]) ⟨rfl, ⟨rfl, ⟨rfl, ⟨rfl, ⟨rfl, trivial⟩⟩⟩⟩⟩ ?_
    exact ww_X9_crosses_165 C hr hlk  x4 x7 x8 x10 y0 ((2 * x7) * x8) s h
set_option maxRecDepth 20000 in
set_option maxHeartbeats 4000000 in
theorem ww_X9_crosses_121 {G : dk_G} {P : Program} {l : Launch} {e : Env} {S0 : State} {m : MethodId} {args : Array Value} {bel : List Frame} {meth : Method} {c : Code}  (C : dk_C G P (dk_rm 2) S0 m args c 0 0 cX9_crosses 17 RX9) (hr : meth.sig.returnType = (some .boolean)) (hlk : meth.locks = false)  {K : Int32 → dk_S → Prop}  : ∀ (x3 : Int32) (x4 : Int32) (x7 : Int32) (x8 : Int32) (x9 : Int32) (y0 : Int32) (s : dk_S), wf_X9_crosses_121 K x3 x4 x7 x8 x9 y0 s → dk_W G P l e (dk_rm 2) S0 m args bel meth c 0 0 (MQ bel (dk_Qc G (dk_ki K)) args S0 0 0 (dk_A G)) 121 [none, none, none, some (.int x3), some (.int x4), none, none, some (.int x7), some (.int x8), some (.int x9), none, none, none, none, none, none, none] [.int y0] s := by
  intro x3 x4 x7 x8 x9 y0 s h
  unfold wf_X9_crosses_121 at h
  refine dk_istore (i := 10) (L' := [none, none, none, some (.int x3), some (.int x4), none, none, some (.int x7), some (.int x8), some (.int x9), some (.int y0), none, none, none, none, none, none]) C dX9_crosses_121 (n := 123) rfl (dk_nc_of rfl) (Nat.le_of_ble_eq_true rfl) rfl ?_
  refine dk_iload_n (i := 3) C dX9_crosses_123 (n := 124) rfl rfl rfl ?_
  refine dk_if_ne (t := 131) C dX9_crosses_124 (n := 127) rfl (by decide) (fun c36 => ?_) (fun c36 => ?_)
  · have h := h.1 c36
    refine dk_iconst (v := 2) C dX9_crosses_131 (n := 132) rfl (by decide) ?_
    refine dk_iload C dX9_crosses_132 (n := 134) rfl (i := 9) rfl ?_
    refine dk_imul C dX9_crosses_134 (n := 135) rfl ?_
    refine dk_iconst (v := 1) C dX9_crosses_135 (n := 136) rfl (by decide) ?_
    refine dk_isub C dX9_crosses_136 (n := 137) rfl ?_
    refine dk_iload C dX9_crosses_137 (n := 139) rfl (i := 8) rfl ?_
    refine dk_imul C dX9_crosses_139 (n := 140) rfl ?_
    refine dk_sub (L0 := [none, none, none, some (.int x3), some (.int x4), none, none, some (.int x7), some (.int x8), some (.int x9), some (.int y0), none, none, none, none, none, none]) ⟨rfl, ⟨rfl, ⟨rfl, ⟨rfl, ⟨rfl, ⟨rfl, trivial⟩⟩⟩⟩⟩⟩ ?_
    exact ww_X9_crosses_140 C hr hlk  x3 x4 x7 x8 x9 y0 (((2 * x9) - 1) * x8) s h
  · have h := h.2 c36
    refine dk_iconst (v := 0) C dX9_crosses_127 (n := 128) rfl (by decide) ?_
    refine dk_goto (t := 140) C dX9_crosses_128 (by decide) ?_
    refine dk_sub (L0 := [none, none, none, some (.int x3), some (.int x4), none, none, some (.int x7), some (.int x8), some (.int x9), some (.int y0), none, none, none, none, none, none]) ⟨rfl, ⟨rfl, ⟨rfl, ⟨rfl, ⟨rfl, ⟨rfl, trivial⟩⟩⟩⟩⟩⟩ ?_
    exact ww_X9_crosses_140 C hr hlk  x3 x4 x7 x8 x9 y0 0 s h
set_option maxRecDepth 20000 in
set_option maxHeartbeats 4000000 in
theorem ww_X9_crosses_106 {G : dk_G} {P : Program} {l : Launch} {e : Env} {S0 : State} {m : MethodId} {args : Array Value} {bel : List Frame} {meth : Method} {c : Code}  (C : dk_C G P (dk_rm 2) S0 m args c 0 0 cX9_crosses 17 RX9) (hr : meth.sig.returnType = (some .boolean)) (hlk : meth.locks = false)  {K : Int32 → dk_S → Prop}  : ∀ (x3 : Int32) (x4 : Int32) (x6 : Int32) (x7 : Int32) (x8 : Int32) (y0 : Int32) (s : dk_S), wf_X9_crosses_106 K x3 x4 x6 x7 x8 y0 s → dk_W G P l e (dk_rm 2) S0 m args bel meth c 0 0 (MQ bel (dk_Qc G (dk_ki K)) args S0 0 0 (dk_A G)) 106 [none, none, none, some (.int x3), some (.int x4), none, some (.int x6), some (.int x7), some (.int x8), none, none, none, none, none, none, none, none] [.int y0] s := by
  intro x3 x4 x6 x7 x8 y0 s h
  unfold wf_X9_crosses_106 at h
  refine dk_istore (i := 9) (L' := [none, none, none, some (.int x3), some (.int x4), none, some (.int x6), some (.int x7), some (.int x8), some (.int y0), none, none, none, none, none, none, none]) C dX9_crosses_106 (n := 108) rfl (dk_nc_of rfl) (Nat.le_of_ble_eq_true rfl) rfl ?_
  refine dk_iload C dX9_crosses_108 (n := 110) rfl (i := 4) rfl ?_
  refine dk_if_ge (t := 119) C dX9_crosses_110 (n := 113) rfl (by decide) (fun c35 => ?_) (fun c35 => ?_)
  · have h := h.1 c35
    refine dk_iload C dX9_crosses_119 (n := 121) rfl (i := 6) rfl ?_
    refine dk_sub (L0 := [none, none, none, some (.int x3), some (.int x4), none, none, some (.int x7), some (.int x8), some (.int y0), none, none, none, none, none, none, none]) ⟨rfl, ⟨rfl, ⟨rfl, ⟨rfl, ⟨rfl, trivial⟩⟩⟩⟩⟩ ?_
    exact ww_X9_crosses_121 C hr hlk  x3 x4 x7 x8 y0 x6 s h
  · have h := h.2 c35
    refine dk_iload C dX9_crosses_113 (n := 115) rfl (i := 6) rfl ?_
    refine dk_ineg C dX9_crosses_115 (n := 116) rfl ?_
    refine dk_goto (t := 121) C dX9_crosses_116 (by decide) ?_
    refine dk_sub (L0 := [none, none, none, some (.int x3), some (.int x4), none, none, some (.int x7), some (.int x8), some (.int y0), none, none, none, none, none, none, none]) ⟨rfl, ⟨rfl, ⟨rfl, ⟨rfl, ⟨rfl, trivial⟩⟩⟩⟩⟩ ?_
    exact ww_X9_crosses_121 C hr hlk  x3 x4 x7 x8 y0 (-x6) s h
set_option maxRecDepth 20000 in
set_option maxHeartbeats 4000000 in
theorem ww_X9_crosses_92 {G : dk_G} {P : Program} {l : Launch} {e : Env} {S0 : State} {m : MethodId} {args : Array Value} {bel : List Frame} {meth : Method} {c : Code}  (C : dk_C G P (dk_rm 2) S0 m args c 0 0 cX9_crosses 17 RX9) (hr : meth.sig.returnType = (some .boolean)) (hlk : meth.locks = false)  {K : Int32 → dk_S → Prop}  : ∀ (x3 : Int32) (x4 : Int32) (x5 : Int32) (x6 : Int32) (x7 : Int32) (y0 : Int32) (s : dk_S), wf_X9_crosses_92 K x3 x4 x5 x6 x7 y0 s → dk_W G P l e (dk_rm 2) S0 m args bel meth c 0 0 (MQ bel (dk_Qc G (dk_ki K)) args S0 0 0 (dk_A G)) 92 [none, none, none, some (.int x3), some (.int x4), some (.int x5), some (.int x6), some (.int x7), none, none, none, none, none, none, none, none, none] [.int y0] s := by
  intro x3 x4 x5 x6 x7 y0 s h
  unfold wf_X9_crosses_92 at h
  refine dk_istore (i := 8) (L' := [none, none, none, some (.int x3), some (.int x4), some (.int x5), some (.int x6), some (.int x7), some (.int y0), none, none, none, none, none, none, none, none]) C dX9_crosses_92 (n := 94) rfl (dk_nc_of rfl) (Nat.le_of_ble_eq_true rfl) rfl ?_
  refine dk_iload_n (i := 3) C dX9_crosses_94 (n := 95) rfl rfl rfl ?_
  refine dk_if_ge (t := 104) C dX9_crosses_95 (n := 98) rfl (by decide) (fun c34 => ?_) (fun c34 => ?_)
  · have h := h.1 c34
    refine dk_iload C dX9_crosses_104 (n := 106) rfl (i := 5) rfl ?_
    refine dk_sub (L0 := [none, none, none, some (.int x3), some (.int x4), none, some (.int x6), some (.int x7), some (.int y0), none, none, none, none, none, none, none, none]) ⟨rfl, ⟨rfl, ⟨rfl, ⟨rfl, ⟨rfl, trivial⟩⟩⟩⟩⟩ ?_
    exact ww_X9_crosses_106 C hr hlk  x3 x4 x6 x7 y0 x5 s h
  · have h := h.2 c34
    refine dk_iload C dX9_crosses_98 (n := 100) rfl (i := 5) rfl ?_
    refine dk_ineg C dX9_crosses_100 (n := 101) rfl ?_
    refine dk_goto (t := 106) C dX9_crosses_101 (by decide) ?_
    refine dk_sub (L0 := [none, none, none, some (.int x3), some (.int x4), none, some (.int x6), some (.int x7), some (.int y0), none, none, none, none, none, none, none, none]) ⟨rfl, ⟨rfl, ⟨rfl, ⟨rfl, ⟨rfl, trivial⟩⟩⟩⟩⟩ ?_
    exact ww_X9_crosses_106 C hr hlk  x3 x4 x6 x7 y0 (-x5) s h
set_option maxRecDepth 20000 in
set_option maxHeartbeats 4000000 in
theorem ww_X9_crosses_76 {G : dk_G} {P : Program} {l : Launch} {e : Env} {S0 : State} {m : MethodId} {args : Array Value} {bel : List Frame} {meth : Method} {c : Code}  (C : dk_C G P (dk_rm 2) S0 m args c 0 0 cX9_crosses 17 RX9) (hr : meth.sig.returnType = (some .boolean)) (hlk : meth.locks = false)  {K : Int32 → dk_S → Prop}  : ∀ (x3 : Int32) (x4 : Int32) (x5 : Int32) (x6 : Int32) (y0 : Int32) (s : dk_S), wf_X9_crosses_76 K x3 x4 x5 x6 y0 s → dk_W G P l e (dk_rm 2) S0 m args bel meth c 0 0 (MQ bel (dk_Qc G (dk_ki K)) args S0 0 0 (dk_A G)) 76 [none, none, none, some (.int x3), some (.int x4), some (.int x5), some (.int x6), none, none, none, none, none, none, none, none, none, none] [.int y0] s := by
  intro x3 x4 x5 x6 y0 s h
  unfold wf_X9_crosses_76 at h
  refine dk_istore (i := 7) (L' := [none, none, none, some (.int x3), some (.int x4), some (.int x5), some (.int x6), some (.int y0), none, none, none, none, none, none, none, none, none]) C dX9_crosses_76 (n := 78) rfl (dk_nc_of rfl) (Nat.le_of_ble_eq_true rfl) rfl ?_
  refine dk_iload C dX9_crosses_78 (n := 80) rfl (i := 4) rfl ?_
  refine dk_if_ne (t := 87) C dX9_crosses_80 (n := 83) rfl (by decide) (fun c33 => ?_) (fun c33 => ?_)
  · have h := h.1 c33
    refine dk_iload C dX9_crosses_87 (n := 89) rfl (i := 4) rfl ?_
    refine dk_callSi C [] (cc_X9_far C.D  h) yy_X9_far dk_wm_X9_171 dX9_crosses_89 (fun r32 s31 h => ?_) rfl ⟨Nat.le_of_ble_eq_true rfl, Nat.le_of_ble_eq_true rfl⟩ rfl (Nat.le_of_ble_eq_true rfl) rfl (n := 92) rfl
    refine dk_sub (L0 := [none, none, none, some (.int x3), some (.int x4), some (.int x5), some (.int x6), some (.int y0), none, none, none, none, none, none, none, none, none]) ⟨rfl, ⟨rfl, ⟨rfl, ⟨rfl, ⟨rfl, trivial⟩⟩⟩⟩⟩ ?_
    exact ww_X9_crosses_92 C hr hlk  x3 x4 x5 x6 y0 r32 s31 h
  · have h := h.2 c33
    refine dk_iconst (v := 1) C dX9_crosses_83 (n := 84) rfl (by decide) ?_
    refine dk_goto (t := 92) C dX9_crosses_84 (by decide) ?_
    refine dk_sub (L0 := [none, none, none, some (.int x3), some (.int x4), some (.int x5), some (.int x6), some (.int y0), none, none, none, none, none, none, none, none, none]) ⟨rfl, ⟨rfl, ⟨rfl, ⟨rfl, ⟨rfl, trivial⟩⟩⟩⟩⟩ ?_
    exact ww_X9_crosses_92 C hr hlk  x3 x4 x5 x6 y0 1 s h
set_option maxRecDepth 20000 in
set_option maxHeartbeats 4000000 in
theorem ww_X9_crosses_52 {G : dk_G} {P : Program} {l : Launch} {e : Env} {S0 : State} {m : MethodId} {args : Array Value} {bel : List Frame} {meth : Method} {c : Code}  (C : dk_C G P (dk_rm 2) S0 m args c 0 0 cX9_crosses 17 RX9) (hr : meth.sig.returnType = (some .boolean)) (hlk : meth.locks = false)  {K : Int32 → dk_S → Prop}  : ∀ (x3 : Int32) (x4 : Int32) (x5 : Int32) (x6 : Int32) (s : dk_S), wf_X9_crosses_52 K x3 x4 x5 x6 s → dk_W G P l e (dk_rm 2) S0 m args bel meth c 0 0 (MQ bel (dk_Qc G (dk_ki K)) args S0 0 0 (dk_A G)) 52 [none, none, none, some (.int x3), some (.int x4), some (.int x5), some (.int x6), none, none, none, none, none, none, none, none, none, none] [] s := by
  intro x3 x4 x5 x6 s h
  unfold wf_X9_crosses_52 at h
  refine dk_iload C dX9_crosses_52 (n := 54) rfl (i := 4) rfl ?_
  refine dk_if_ne (t := 64) C dX9_crosses_54 (n := 57) rfl (by decide) (fun c30 => ?_) (fun c30 => ?_)
  · have h := h.1 c30
    refine dk_iload_n (i := 3) C dX9_crosses_64 (n := 65) rfl rfl rfl ?_
    refine dk_if_ne (t := 72) C dX9_crosses_65 (n := 68) rfl (by decide) (fun c25 => ?_) (fun c25 => ?_)
    · have h := h.1 c25
      refine dk_iload_n (i := 3) C dX9_crosses_72 (n := 73) rfl rfl rfl ?_
      refine dk_callSi C [] (cc_X9_far C.D  h) yy_X9_far dk_wm_X9_171 dX9_crosses_73 (fun r24 s23 h => ?_) rfl ⟨Nat.le_of_ble_eq_true rfl, Nat.le_of_ble_eq_true rfl⟩ rfl (Nat.le_of_ble_eq_true rfl) rfl (n := 76) rfl
      refine dk_sub (L0 := [none, none, none, some (.int x3), some (.int x4), some (.int x5), some (.int x6), none, none, none, none, none, none, none, none, none, none]) ⟨rfl, ⟨rfl, ⟨rfl, ⟨rfl, trivial⟩⟩⟩⟩ ?_
      exact ww_X9_crosses_76 C hr hlk  x3 x4 x5 x6 r24 s23 h
    · have h := h.2 c25
      refine dk_iconst (v := 1) C dX9_crosses_68 (n := 69) rfl (by decide) ?_
      refine dk_goto (t := 76) C dX9_crosses_69 (by decide) ?_
      refine dk_sub (L0 := [none, none, none, some (.int x3), some (.int x4), some (.int x5), some (.int x6), none, none, none, none, none, none, none, none, none, none]) ⟨rfl, ⟨rfl, ⟨rfl, ⟨rfl, trivial⟩⟩⟩⟩ ?_
      exact ww_X9_crosses_76 C hr hlk  x3 x4 x5 x6 1 s h
  · have h := h.2 c30
    refine dk_iload C dX9_crosses_57 (n := 59) rfl (i := 6) rfl ?_
    refine dk_if_eq (t := 64) C dX9_crosses_59 (n := 62) rfl (by decide) (fun c29 => ?_) (fun c29 => ?_)
    · have h := h.1 c29
      refine dk_iload_n (i := 3) C dX9_crosses_64 (n := 65) rfl rfl rfl ?_
      refine dk_if_ne (t := 72) C dX9_crosses_65 (n := 68) rfl (by decide) (fun c28 => ?_) (fun c28 => ?_)
      · have h := h.1 c28
        refine dk_iload_n (i := 3) C dX9_crosses_72 (n := 73) rfl rfl rfl ?_
        refine dk_callSi C [] (cc_X9_far C.D  h) yy_X9_far dk_wm_X9_171 dX9_crosses_73 (fun r27 s26 h => ?_) rfl ⟨Nat.le_of_ble_eq_true rfl, Nat.le_of_ble_eq_true rfl⟩ rfl (Nat.le_of_ble_eq_true rfl) rfl (n := 76) rfl
        refine dk_sub (L0 := [none, none, none, some (.int x3), some (.int x4), some (.int x5), some (.int x6), none, none, none, none, none, none, none, none, none, none]) ⟨rfl, ⟨rfl, ⟨rfl, ⟨rfl, trivial⟩⟩⟩⟩ ?_
        exact ww_X9_crosses_76 C hr hlk  x3 x4 x5 x6 r27 s26 h
      · have h := h.2 c28
        refine dk_iconst (v := 1) C dX9_crosses_68 (n := 69) rfl (by decide) ?_
        refine dk_goto (t := 76) C dX9_crosses_69 (by decide) ?_
        refine dk_sub (L0 := [none, none, none, some (.int x3), some (.int x4), some (.int x5), some (.int x6), none, none, none, none, none, none, none, none, none, none]) ⟨rfl, ⟨rfl, ⟨rfl, ⟨rfl, trivial⟩⟩⟩⟩ ?_
        exact ww_X9_crosses_76 C hr hlk  x3 x4 x5 x6 1 s h
    · have h := h.2 c29
      refine dk_iconst (v := 0) C dX9_crosses_62 (n := 63) rfl (by decide) ?_
      exact dk_iret C hr hlk dk_nz0 dX9_crosses_63 ⟨_, rfl, h⟩
set_option maxRecDepth 20000 in
set_option maxHeartbeats 4000000 in
theorem cc_X9_crosses {G : dk_G} {l : Launch} {a0 : Int32} {a1 : Int32} {a2 : Int32} (hD : dk_D G)  {s : dk_S} {K : Int32 → dk_S → Prop} (h : wf_X9_crosses a0 a1 a2 s K) : dk_M G l 2 yX9_crosses cX9_crosses 17 (some .boolean) [.int a0, .int a1, .int a2] s (dk_ki K) := by
  refine dk_of hD (by decide) [some (.int a0), some (.int a1), some (.int a2), none, none, none, none, none, none, none, none, none, none, none, none, none, none] (fun q hq => hq) rfl (Nat.le_of_ble_eq_true rfl) (fun P e S0 m args bel meth c C hr hlk => ?_)
  unfold wf_X9_crosses at h
  refine dk_iload_n (i := 1) C dX9_crosses_0 (n := 1) rfl rfl rfl ?_
  refine dk_callSi C [] (cc_X9_xOf C.D  h) yy_X9_xOf dk_wm_X9_114 dX9_crosses_1 (fun r2 s1 h => ?_) rfl ⟨Nat.le_of_ble_eq_true rfl, Nat.le_of_ble_eq_true rfl⟩ rfl (Nat.le_of_ble_eq_true rfl) rfl (n := 4) rfl
  refine dk_iload_n (i := 0) C dX9_crosses_4 (n := 5) rfl rfl rfl ?_
  refine dk_callSi C [.int r2] (cc_X9_xOf C.D  h) yy_X9_xOf dk_wm_X9_114 dX9_crosses_5 (fun r4 s3 h => ?_) rfl ⟨Nat.le_of_ble_eq_true rfl, Nat.le_of_ble_eq_true rfl⟩ rfl (Nat.le_of_ble_eq_true rfl) rfl (n := 8) rfl
  refine dk_isub C dX9_crosses_8 (n := 9) rfl ?_
  refine dk_name (fun v5 ev5 => ?_)
  have h := h v5 ev5
  refine dk_istore_n (i := 3) (L' := [some (.int a0), some (.int a1), some (.int a2), some (.int v5), none, none, none, none, none, none, none, none, none, none, none, none, none]) C dX9_crosses_9 (n := 10) rfl rfl (dk_nc_of rfl) (Nat.le_of_ble_eq_true rfl) rfl ?_
  refine dk_iload_n (i := 1) C dX9_crosses_10 (n := 11) rfl rfl rfl ?_
  refine dk_callSi C [] (cc_X9_yOf C.D  h) yy_X9_yOf dk_wm_X9_118 dX9_crosses_11 (fun r7 s6 h => ?_) rfl ⟨Nat.le_of_ble_eq_true rfl, Nat.le_of_ble_eq_true rfl⟩ rfl (Nat.le_of_ble_eq_true rfl) rfl (n := 14) rfl
  refine dk_iload_n (i := 0) C dX9_crosses_14 (n := 15) rfl rfl rfl ?_
  refine dk_callSi C [.int r7] (cc_X9_yOf C.D  h) yy_X9_yOf dk_wm_X9_118 dX9_crosses_15 (fun r9 s8 h => ?_) rfl ⟨Nat.le_of_ble_eq_true rfl, Nat.le_of_ble_eq_true rfl⟩ rfl (Nat.le_of_ble_eq_true rfl) rfl (n := 18) rfl
  refine dk_isub C dX9_crosses_18 (n := 19) rfl ?_
  refine dk_name (fun v10 ev10 => ?_)
  have h := h v10 ev10
  refine dk_istore (i := 4) (L' := [some (.int a0), some (.int a1), some (.int a2), some (.int v5), some (.int v10), none, none, none, none, none, none, none, none, none, none, none, none]) C dX9_crosses_19 (n := 21) rfl (dk_nc_of rfl) (Nat.le_of_ble_eq_true rfl) rfl ?_
  refine dk_iload_n (i := 2) C dX9_crosses_21 (n := 22) rfl rfl rfl ?_
  refine dk_callSi C [] (cc_X9_xOf C.D  h) yy_X9_xOf dk_wm_X9_114 dX9_crosses_22 (fun r12 s11 h => ?_) rfl ⟨Nat.le_of_ble_eq_true rfl, Nat.le_of_ble_eq_true rfl⟩ rfl (Nat.le_of_ble_eq_true rfl) rfl (n := 25) rfl
  refine dk_iload_n (i := 0) C dX9_crosses_25 (n := 26) rfl rfl rfl ?_
  refine dk_callSi C [.int r12] (cc_X9_xOf C.D  h) yy_X9_xOf dk_wm_X9_114 dX9_crosses_26 (fun r14 s13 h => ?_) rfl ⟨Nat.le_of_ble_eq_true rfl, Nat.le_of_ble_eq_true rfl⟩ rfl (Nat.le_of_ble_eq_true rfl) rfl (n := 29) rfl
  refine dk_isub C dX9_crosses_29 (n := 30) rfl ?_
  refine dk_name (fun v15 ev15 => ?_)
  have h := h v15 ev15
  refine dk_istore (i := 5) (L' := [some (.int a0), some (.int a1), some (.int a2), some (.int v5), some (.int v10), some (.int v15), none, none, none, none, none, none, none, none, none, none, none]) C dX9_crosses_30 (n := 32) rfl (dk_nc_of rfl) (Nat.le_of_ble_eq_true rfl) rfl ?_
  refine dk_iload_n (i := 2) C dX9_crosses_32 (n := 33) rfl rfl rfl ?_
  refine dk_callSi C [] (cc_X9_yOf C.D  h) yy_X9_yOf dk_wm_X9_118 dX9_crosses_33 (fun r17 s16 h => ?_) rfl ⟨Nat.le_of_ble_eq_true rfl, Nat.le_of_ble_eq_true rfl⟩ rfl (Nat.le_of_ble_eq_true rfl) rfl (n := 36) rfl
  refine dk_iload_n (i := 0) C dX9_crosses_36 (n := 37) rfl rfl rfl ?_
  refine dk_callSi C [.int r17] (cc_X9_yOf C.D  h) yy_X9_yOf dk_wm_X9_118 dX9_crosses_37 (fun r19 s18 h => ?_) rfl ⟨Nat.le_of_ble_eq_true rfl, Nat.le_of_ble_eq_true rfl⟩ rfl (Nat.le_of_ble_eq_true rfl) rfl (n := 40) rfl
  refine dk_isub C dX9_crosses_40 (n := 41) rfl ?_
  refine dk_name (fun v20 ev20 => ?_)
  have h := h v20 ev20
  refine dk_istore (i := 6) (L' := [some (.int a0), some (.int a1), some (.int a2), some (.int v5), some (.int v10), some (.int v15), some (.int v20), none, none, none, none, none, none, none, none, none, none]) C dX9_crosses_41 (n := 43) rfl (dk_nc_of rfl) (Nat.le_of_ble_eq_true rfl) rfl ?_
  refine dk_iload_n (i := 3) C dX9_crosses_43 (n := 44) rfl rfl rfl ?_
  refine dk_if_ne (t := 52) C dX9_crosses_44 (n := 47) rfl (by decide) (fun c22 => ?_) (fun c22 => ?_)
  · have h := h.1 c22
    refine dk_sub (L0 := [none, none, none, some (.int v5), some (.int v10), some (.int v15), some (.int v20), none, none, none, none, none, none, none, none, none, none]) ⟨rfl, ⟨rfl, ⟨rfl, ⟨rfl, trivial⟩⟩⟩⟩ ?_
    exact ww_X9_crosses_52 C hr hlk  v5 v10 v15 v20 s18 h
  · have h := h.2 c22
    refine dk_iload C dX9_crosses_47 (n := 49) rfl (i := 5) rfl ?_
    refine dk_if_ne (t := 62) C dX9_crosses_49 (n := 52) rfl (by decide) (fun c21 => ?_) (fun c21 => ?_)
    · have h := h.1 c21
      refine dk_iconst (v := 0) C dX9_crosses_62 (n := 63) rfl (by decide) ?_
      exact dk_iret C hr hlk dk_nz0 dX9_crosses_63 ⟨_, rfl, h⟩
    · have h := h.2 c21
      refine dk_sub (L0 := [none, none, none, some (.int v5), some (.int v10), some (.int v15), some (.int v20), none, none, none, none, none, none, none, none, none, none]) ⟨rfl, ⟨rfl, ⟨rfl, ⟨rfl, trivial⟩⟩⟩⟩ ?_
      exact ww_X9_crosses_52 C hr hlk  v5 v10 v15 v20 s18 h
/-! X9_sees -/
def wf_X9_sees_48  (K : Int32 → dk_S → Prop) (B : Int32 → Int32 → Int32 → Int32 → dk_S → Prop) (x1 : Int32) (x2 : Int32) (x4 : Int32) (s : dk_S) : Prop :=
  ∀ v13 : Int32, v13 = x4 + 1 → B x1 x2 1 v13 s
def wf_X9_sees_5  (K : Int32 → dk_S → Prop) : Nat → Int32 → Int32 → Int32 → Int32 → dk_S → Prop
  | 0, _, _, _, _, _ => False
  | n + 1, x1, x2, x3, x4, s => ((144 ≤ x4 → (narrow .boolean (.int x3) = .int x3 ∧ K x3 s)) ∧ (¬ 144 ≤ x4 → ((x3 = 0 → (narrow .boolean (.int x3) = .int x3 ∧ K x3 s)) ∧ (¬ x3 = 0 → ((x4 = x1 → wf_X9_sees_48 K (wf_X9_sees_5 K n) x1 x2 x4 s) ∧ (¬ x4 = x1 → ((x4 = x2 → wf_X9_sees_48 K (wf_X9_sees_5 K n) x1 x2 x4 s) ∧ (¬ x4 = x2 → wf_X9_isFree x4 s (fun r3 s2 => ((¬ r3 = 0 → wf_X9_sees_48 K (wf_X9_sees_5 K n) x1 x2 x4 s2) ∧ (r3 = 0 → wf_X9_crosses x1 x2 x4 s2 (fun r5 s4 => ((¬ r5 = 0 → ∀ v6 : Int32, v6 = x4 + 1 → wf_X9_sees_5 K n x1 x2 0 v6 s4) ∧ (r5 = 0 → wf_X9_sees_48 K (wf_X9_sees_5 K n) x1 x2 x4 s4))))))))))))))
def wf_X9_sees (a1 : Int32) (a2 : Int32) (s : dk_S) (K : Int32 → dk_S → Prop) : Prop :=
  ∃ nn1 : Nat, wf_X9_sees_5 K nn1 a1 a2 1 0 s
set_option maxRecDepth 20000 in
set_option maxHeartbeats 4000000 in
theorem ww_X9_sees_48 {G : dk_G} {P : Program} {l : Launch} {e : Env} {S0 : State} {m : MethodId} {args : Array Value} {bel : List Frame} {meth : Method} {c : Code}  (C : dk_C G P (dk_rm 3) S0 m args c 0 0 cX9_sees 5 RX9) (hr : meth.sig.returnType = (some .boolean)) (hlk : meth.locks = false) (hmi : dk_MI G) {K : Int32 → dk_S → Prop} {B : Int32 → Int32 → Int32 → Int32 → dk_S → Prop} (hB : ∀ (x1 : Int32) (x2 : Int32) (x3 : Int32) (x4 : Int32) (s : dk_S), B x1 x2 x3 x4 s → dk_W G P l e (dk_rm 3) S0 m args bel meth c 0 0 (MQ bel (dk_Qc G (dk_ki K)) args S0 0 0 (dk_A G)) 5 [some (dk_r G 4 60), some (.int x1), some (.int x2), some (.int x3), some (.int x4)] [] s)  : ∀ (x1 : Int32) (x2 : Int32) (x4 : Int32) (s : dk_S), wf_X9_sees_48 K B x1 x2 x4 s → dk_W G P l e (dk_rm 3) S0 m args bel meth c 0 0 (MQ bel (dk_Qc G (dk_ki K)) args S0 0 0 (dk_A G)) 48 [some (dk_r G 4 60), some (.int x1), some (.int x2), none, some (.int x4)] [] s := by
  intro x1 x2 x4 s h
  unfold wf_X9_sees_48 at h
  refine dk_iconst (v := 1) C dX9_sees_48 (n := 49) rfl (by decide) ?_
  refine dk_goto (t := 53) C dX9_sees_49 (by decide) ?_
  refine dk_istore_n (i := 3) (L' := [some (dk_r G 4 60), some (.int x1), some (.int x2), some (.int 1), some (.int x4)]) C dX9_sees_53 (n := 54) rfl rfl (dk_nc_of rfl) (Nat.le_of_ble_eq_true rfl) rfl ?_
  obtain ⟨v13, ev13⟩ : ∃ y : Int32, y = x4 + 1 := ⟨_, rfl⟩
  have h := h v13 ev13
  refine dk_iinc (i := 4) (v := v13) (L' := [some (dk_r G 4 60), some (.int x1), some (.int x2), some (.int 1), some (.int v13)]) C dX9_sees_54 (n := 57) rfl rfl (by rw [ev13]; rfl) (dk_nc_of rfl) (Nat.le_of_ble_eq_true rfl) rfl ?_
  refine dk_goto (t := 5) C dX9_sees_57 (by decide) ?_
  refine dk_sub (L0 := [some (dk_r G 4 60), some (.int x1), some (.int x2), some (.int 1), some (.int v13)]) ⟨rfl, ⟨rfl, ⟨rfl, ⟨rfl, ⟨rfl, trivial⟩⟩⟩⟩⟩ ?_
  exact hB x1 x2 1 v13 s h
set_option maxRecDepth 20000 in
set_option maxHeartbeats 4000000 in
theorem ww_X9_sees_5 {G : dk_G} {P : Program} {l : Launch} {e : Env} {S0 : State} {m : MethodId} {args : Array Value} {bel : List Frame} {meth : Method} {c : Code}  (C : dk_C G P (dk_rm 3) S0 m args c 0 0 cX9_sees 5 RX9) (hr : meth.sig.returnType = (some .boolean)) (hlk : meth.locks = false) (hmi : dk_MI G) {K : Int32 → dk_S → Prop}  : ∀ (n : Nat) (x1 : Int32) (x2 : Int32) (x3 : Int32) (x4 : Int32) (s : dk_S), wf_X9_sees_5 K n x1 x2 x3 x4 s → dk_W G P l e (dk_rm 3) S0 m args bel meth c 0 0 (MQ bel (dk_Qc G (dk_ki K)) args S0 0 0 (dk_A G)) 5 [some (dk_r G 4 60), some (.int x1), some (.int x2), some (.int x3), some (.int x4)] [] s := by
  intro n
  induction n with
  | zero => intro x1 x2 x3 x4 s h; exact False.elim h
  | succ n hB =>
    intro x1 x2 x3 x4 s h
    unfold wf_X9_sees_5 at h
    refine dk_iload C dX9_sees_5 (n := 7) rfl (i := 4) rfl ?_
    refine dk_sipush (v := 144) C dX9_sees_7 (n := 10) rfl (by decide) ?_
    refine dk_icmp_ge (t := 60) C dX9_sees_10 (n := 13) rfl (by decide) (fun c12 => ?_) (fun c12 => ?_)
    · have h := h.1 c12
      refine dk_iload_n (i := 3) C dX9_sees_60 (n := 61) rfl rfl rfl ?_
      exact dk_iret C hr hlk h.1 dX9_sees_61 ⟨_, rfl, h.2⟩
    · have h := h.2 c12
      refine dk_iload_n (i := 3) C dX9_sees_13 (n := 14) rfl rfl rfl ?_
      refine dk_if_eq (t := 60) C dX9_sees_14 (n := 17) rfl (by decide) (fun c11 => ?_) (fun c11 => ?_)
      · have h := h.1 c11
        refine dk_iload_n (i := 3) C dX9_sees_60 (n := 61) rfl rfl rfl ?_
        exact dk_iret C hr hlk h.1 dX9_sees_61 ⟨_, rfl, h.2⟩
      · have h := h.2 c11
        refine dk_iload C dX9_sees_17 (n := 19) rfl (i := 4) rfl ?_
        refine dk_iload_n (i := 1) C dX9_sees_19 (n := 20) rfl rfl rfl ?_
        refine dk_icmp_eq (t := 48) C dX9_sees_20 (n := 23) rfl (by decide) (fun c10 => ?_) (fun c10 => ?_)
        · have h := h.1 c10
          refine dk_sub (L0 := [some (dk_r G 4 60), some (.int x1), some (.int x2), none, some (.int x4)]) ⟨rfl, ⟨rfl, ⟨rfl, ⟨rfl, trivial⟩⟩⟩⟩ ?_
          exact ww_X9_sees_48 C hr hlk hmi hB x1 x2 x4 s h
        · have h := h.2 c10
          refine dk_iload C dX9_sees_23 (n := 25) rfl (i := 4) rfl ?_
          refine dk_iload_n (i := 2) C dX9_sees_25 (n := 26) rfl rfl rfl ?_
          refine dk_icmp_eq (t := 48) C dX9_sees_26 (n := 29) rfl (by decide) (fun c9 => ?_) (fun c9 => ?_)
          · have h := h.1 c9
            refine dk_sub (L0 := [some (dk_r G 4 60), some (.int x1), some (.int x2), none, some (.int x4)]) ⟨rfl, ⟨rfl, ⟨rfl, ⟨rfl, trivial⟩⟩⟩⟩ ?_
            exact ww_X9_sees_48 C hr hlk hmi hB x1 x2 x4 s h
          · have h := h.2 c9
            refine dk_aload_n (i := 0) C dX9_sees_29 (n := 30) rfl rfl rfl ?_
            refine dk_iload C dX9_sees_30 (n := 32) rfl (i := 4) rfl ?_
            refine dk_callVi C [] (cc_X9_isFree C.D hmi h) yy_X9_isFree dk_wm_X9_174 dk_sh60 (hmi 60 (by decide) (by decide)) dX9_sees_32 (fun r3 s2 h => ?_) rfl rfl ⟨Nat.le_of_ble_eq_true rfl, Nat.le_of_ble_eq_true rfl⟩ rfl (Nat.le_of_ble_eq_true rfl) rfl (n := 35) rfl
            refine dk_if_ne (t := 48) C dX9_sees_35 (n := 38) rfl (by decide) (fun c8 => ?_) (fun c8 => ?_)
            · have h := h.1 c8
              refine dk_sub (L0 := [some (dk_r G 4 60), some (.int x1), some (.int x2), none, some (.int x4)]) ⟨rfl, ⟨rfl, ⟨rfl, ⟨rfl, trivial⟩⟩⟩⟩ ?_
              exact ww_X9_sees_48 C hr hlk hmi hB x1 x2 x4 s2 h
            · have h := h.2 c8
              refine dk_iload_n (i := 1) C dX9_sees_38 (n := 39) rfl rfl rfl ?_
              refine dk_iload_n (i := 2) C dX9_sees_39 (n := 40) rfl rfl rfl ?_
              refine dk_iload C dX9_sees_40 (n := 42) rfl (i := 4) rfl ?_
              refine dk_callSi C [] (cc_X9_crosses C.D  h) yy_X9_crosses dk_wm_X9_177 dX9_sees_42 (fun r5 s4 h => ?_) rfl ⟨Nat.le_of_ble_eq_true rfl, Nat.le_of_ble_eq_true rfl⟩ rfl (Nat.le_of_ble_eq_true rfl) rfl (n := 45) rfl
              refine dk_if_ne (t := 52) C dX9_sees_45 (n := 48) rfl (by decide) (fun c7 => ?_) (fun c7 => ?_)
              · have h := h.1 c7
                refine dk_iconst (v := 0) C dX9_sees_52 (n := 53) rfl (by decide) ?_
                refine dk_istore_n (i := 3) (L' := [some (dk_r G 4 60), some (.int x1), some (.int x2), some (.int 0), some (.int x4)]) C dX9_sees_53 (n := 54) rfl rfl (dk_nc_of rfl) (Nat.le_of_ble_eq_true rfl) rfl ?_
                obtain ⟨v6, ev6⟩ : ∃ y : Int32, y = x4 + 1 := ⟨_, rfl⟩
                have h := h v6 ev6
                refine dk_iinc (i := 4) (v := v6) (L' := [some (dk_r G 4 60), some (.int x1), some (.int x2), some (.int 0), some (.int v6)]) C dX9_sees_54 (n := 57) rfl rfl (by rw [ev6]; rfl) (dk_nc_of rfl) (Nat.le_of_ble_eq_true rfl) rfl ?_
                refine dk_goto (t := 5) C dX9_sees_57 (by decide) ?_
                refine dk_sub (L0 := [some (dk_r G 4 60), some (.int x1), some (.int x2), some (.int 0), some (.int v6)]) ⟨rfl, ⟨rfl, ⟨rfl, ⟨rfl, ⟨rfl, trivial⟩⟩⟩⟩⟩ ?_
                exact hB x1 x2 0 v6 s4 h
              · have h := h.2 c7
                refine dk_sub (L0 := [some (dk_r G 4 60), some (.int x1), some (.int x2), none, some (.int x4)]) ⟨rfl, ⟨rfl, ⟨rfl, ⟨rfl, trivial⟩⟩⟩⟩ ?_
                exact ww_X9_sees_48 C hr hlk hmi hB x1 x2 x4 s4 h
set_option maxRecDepth 20000 in
set_option maxHeartbeats 4000000 in
theorem cc_X9_sees {G : dk_G} {l : Launch} {a1 : Int32} {a2 : Int32} (hD : dk_D G) (hmi : dk_MI G) {s : dk_S} {K : Int32 → dk_S → Prop} (h : wf_X9_sees a1 a2 s K) : dk_M G l 3 yX9_sees cX9_sees 5 (some .boolean) [dk_r G 4 60, .int a1, .int a2] s (dk_ki K) := by
  refine dk_of hD (by decide) [some (dk_r G 4 60), some (.int a1), some (.int a2), none, none] (fun q hq => hq) rfl (Nat.le_of_ble_eq_true rfl) (fun P e S0 m args bel meth c C hr hlk => ?_)
  unfold wf_X9_sees at h
  refine dk_iconst (v := 1) C dX9_sees_0 (n := 1) rfl (by decide) ?_
  refine dk_istore_n (i := 3) (L' := [some (dk_r G 4 60), some (.int a1), some (.int a2), some (.int 1), none]) C dX9_sees_1 (n := 2) rfl rfl (dk_nc_of rfl) (Nat.le_of_ble_eq_true rfl) rfl ?_
  refine dk_iconst (v := 0) C dX9_sees_2 (n := 3) rfl (by decide) ?_
  refine dk_istore (i := 4) (L' := [some (dk_r G 4 60), some (.int a1), some (.int a2), some (.int 1), some (.int 0)]) C dX9_sees_3 (n := 5) rfl (dk_nc_of rfl) (Nat.le_of_ble_eq_true rfl) rfl ?_
  obtain ⟨nn1, h⟩ := h
  refine dk_sub (L0 := [some (dk_r G 4 60), some (.int a1), some (.int a2), some (.int 1), some (.int 0)]) ⟨rfl, ⟨rfl, ⟨rfl, ⟨rfl, ⟨rfl, trivial⟩⟩⟩⟩⟩ ?_
  refine ww_X9_sees_5 C hr hlk hmi  nn1 a1 a2 1 0 s h
/-! X9_isLit -/
def wf_X9_isLit_4  (K : Int32 → dk_S → Prop) : Nat → Int32 → Int32 → Int32 → dk_S → Prop
  | 0, _, _, _, _ => False
  | n + 1, x1, x2, x3, s => (((s 4 60 18) ≤ x3 → (narrow .boolean (.int x2) = .int x2 ∧ K x2 s)) ∧ (¬ (s 4 60 18) ≤ x3 → ((¬ x2 = 0 → (narrow .boolean (.int x2) = .int x2 ∧ K x2 s)) ∧ (x2 = 0 → wf_X9_xOf x1 s (fun r3 s2 => (vp_in x3 4 ∧ wf_X9_xOf (s2 4 73 x3.toNatClampNeg) s2 (fun r5 s4 => ∀ v6 : Int32, v6 = r3 - r5 → wf_X9_yOf x1 s4 (fun r8 s7 => (vp_in x3 4 ∧ wf_X9_yOf (s7 4 73 x3.toNatClampNeg) s7 (fun r10 s9 => ∀ v11 : Int32, v11 = r8 - r10 → (vp_in x3 4 ∧ (vp_in x3 4 ∧ ((((s9 4 74 x3.toNatClampNeg) * (s9 4 74 x3.toNatClampNeg)) < ((v6 * v6) + (v11 * v11)) → ∀ v12 : Int32, v12 = x3 + 1 → wf_X9_isLit_4 K n x1 0 v12 s9) ∧ (¬ ((s9 4 74 x3.toNatClampNeg) * (s9 4 74 x3.toNatClampNeg)) < ((v6 * v6) + (v11 * v11)) → (vp_in x3 4 ∧ wf_X9_sees (s9 4 73 x3.toNatClampNeg) x1 s9 (fun r14 s13 => ((r14 = 0 → ∀ v15 : Int32, v15 = x3 + 1 → wf_X9_isLit_4 K n x1 0 v15 s13) ∧ (¬ r14 = 0 → ∀ v16 : Int32, v16 = x3 + 1 → wf_X9_isLit_4 K n x1 1 v16 s13))))))))))))))))))
def wf_X9_isLit (a1 : Int32) (s : dk_S) (K : Int32 → dk_S → Prop) : Prop :=
  ∃ nn1 : Nat, wf_X9_isLit_4 K nn1 a1 0 0 s
set_option maxRecDepth 20000 in
set_option maxHeartbeats 4000000 in
theorem ww_X9_isLit_4 {G : dk_G} {P : Program} {l : Launch} {e : Env} {S0 : State} {m : MethodId} {args : Array Value} {bel : List Frame} {meth : Method} {c : Code}  (C : dk_C G P (dk_rm 4) S0 m args c 0 0 cX9_isLit 6 RX9) (hr : meth.sig.returnType = (some .boolean)) (hlk : meth.locks = false) (hmi : dk_MI G) {K : Int32 → dk_S → Prop}  : ∀ (n : Nat) (x1 : Int32) (x2 : Int32) (x3 : Int32) (s : dk_S), wf_X9_isLit_4 K n x1 x2 x3 s → dk_W G P l e (dk_rm 4) S0 m args bel meth c 0 0 (MQ bel (dk_Qc G (dk_ki K)) args S0 0 0 (dk_A G)) 4 [some (dk_r G 4 60), some (.int x1), some (.int x2), some (.int x3), none, none] [] s := by
  intro n
  induction n with
  | zero => intro x1 x2 x3 s h; exact False.elim h
  | succ n hB =>
    intro x1 x2 x3 s h
    unfold wf_X9_isLit_4 at h
    refine dk_iload_n (i := 3) C dX9_isLit_4 (n := 5) rfl rfl rfl ?_
    refine dk_aload_n (i := 0) C dX9_isLit_5 (n := 6) rfl rfl rfl ?_
    refine gf_X9_168 C (hmi 60 (by decide) (by decide)) dX9_isLit_6 (n := 9) rfl ?_
    refine dk_icmp_ge (t := 101) C dX9_isLit_9 (n := 12) rfl (by decide) (fun c20 => ?_) (fun c20 => ?_)
    · have h := h.1 c20
      refine dk_iload_n (i := 2) C dX9_isLit_101 (n := 102) rfl rfl rfl ?_
      exact dk_iret C hr hlk h.1 dX9_isLit_102 ⟨_, rfl, h.2⟩
    · have h := h.2 c20
      refine dk_iload_n (i := 2) C dX9_isLit_12 (n := 13) rfl rfl rfl ?_
      refine dk_if_ne (t := 101) C dX9_isLit_13 (n := 16) rfl (by decide) (fun c19 => ?_) (fun c19 => ?_)
      · have h := h.1 c19
        refine dk_iload_n (i := 2) C dX9_isLit_101 (n := 102) rfl rfl rfl ?_
        exact dk_iret C hr hlk h.1 dX9_isLit_102 ⟨_, rfl, h.2⟩
      · have h := h.2 c19
        refine dk_iload_n (i := 1) C dX9_isLit_16 (n := 17) rfl rfl rfl ?_
        refine dk_callSi C [] (cc_X9_xOf C.D  h) yy_X9_xOf dk_wm_X9_114 dX9_isLit_17 (fun r3 s2 h => ?_) rfl ⟨Nat.le_of_ble_eq_true rfl, Nat.le_of_ble_eq_true rfl⟩ rfl (Nat.le_of_ble_eq_true rfl) rfl (n := 20) rfl
        refine dk_aload_n (i := 0) C dX9_isLit_20 (n := 21) rfl rfl rfl ?_
        refine gf_X9_56 C (hmi 60 (by decide) (by decide)) dX9_isLit_21 (n := 24) rfl ?_
        refine dk_iload_n (i := 3) C dX9_isLit_24 (n := 25) rfl rfl rfl ?_
        refine dk_iald C dk_sh73 h.1 (hmi 73 (by decide) (by decide)) dX9_isLit_25 (n := 26) rfl ?_
        have h := h.2
        refine dk_callSi C [.int r3] (cc_X9_xOf C.D  h) yy_X9_xOf dk_wm_X9_114 dX9_isLit_26 (fun r5 s4 h => ?_) rfl ⟨Nat.le_of_ble_eq_true rfl, Nat.le_of_ble_eq_true rfl⟩ rfl (Nat.le_of_ble_eq_true rfl) rfl (n := 29) rfl
        refine dk_isub C dX9_isLit_29 (n := 30) rfl ?_
        refine dk_name (fun v6 ev6 => ?_)
        have h := h v6 ev6
        refine dk_istore (i := 4) (L' := [some (dk_r G 4 60), some (.int x1), some (.int x2), some (.int x3), some (.int v6), none]) C dX9_isLit_30 (n := 32) rfl (dk_nc_of rfl) (Nat.le_of_ble_eq_true rfl) rfl ?_
        refine dk_iload_n (i := 1) C dX9_isLit_32 (n := 33) rfl rfl rfl ?_
        refine dk_callSi C [] (cc_X9_yOf C.D  h) yy_X9_yOf dk_wm_X9_118 dX9_isLit_33 (fun r8 s7 h => ?_) rfl ⟨Nat.le_of_ble_eq_true rfl, Nat.le_of_ble_eq_true rfl⟩ rfl (Nat.le_of_ble_eq_true rfl) rfl (n := 36) rfl
        refine dk_aload_n (i := 0) C dX9_isLit_36 (n := 37) rfl rfl rfl ?_
        refine gf_X9_56 C (hmi 60 (by decide) (by decide)) dX9_isLit_37 (n := 40) rfl ?_
        refine dk_iload_n (i := 3) C dX9_isLit_40 (n := 41) rfl rfl rfl ?_
        refine dk_iald C dk_sh73 h.1 (hmi 73 (by decide) (by decide)) dX9_isLit_41 (n := 42) rfl ?_
        have h := h.2
        refine dk_callSi C [.int r8] (cc_X9_yOf C.D  h) yy_X9_yOf dk_wm_X9_118 dX9_isLit_42 (fun r10 s9 h => ?_) rfl ⟨Nat.le_of_ble_eq_true rfl, Nat.le_of_ble_eq_true rfl⟩ rfl (Nat.le_of_ble_eq_true rfl) rfl (n := 45) rfl
        refine dk_isub C dX9_isLit_45 (n := 46) rfl ?_
        refine dk_name (fun v11 ev11 => ?_)
        have h := h v11 ev11
        refine dk_istore (i := 5) (L' := [some (dk_r G 4 60), some (.int x1), some (.int x2), some (.int x3), some (.int v6), some (.int v11)]) C dX9_isLit_46 (n := 48) rfl (dk_nc_of rfl) (Nat.le_of_ble_eq_true rfl) rfl ?_
        refine dk_iload C dX9_isLit_48 (n := 50) rfl (i := 4) rfl ?_
        refine dk_iload C dX9_isLit_50 (n := 52) rfl (i := 4) rfl ?_
        refine dk_imul C dX9_isLit_52 (n := 53) rfl ?_
        refine dk_iload C dX9_isLit_53 (n := 55) rfl (i := 5) rfl ?_
        refine dk_iload C dX9_isLit_55 (n := 57) rfl (i := 5) rfl ?_
        refine dk_imul C dX9_isLit_57 (n := 58) rfl ?_
        refine dk_iadd C dX9_isLit_58 (n := 59) rfl ?_
        refine dk_aload_n (i := 0) C dX9_isLit_59 (n := 60) rfl rfl rfl ?_
        refine gf_X9_59 C (hmi 60 (by decide) (by decide)) dX9_isLit_60 (n := 63) rfl ?_
        refine dk_iload_n (i := 3) C dX9_isLit_63 (n := 64) rfl rfl rfl ?_
        refine dk_iald C dk_sh74 h.1 (hmi 74 (by decide) (by decide)) dX9_isLit_64 (n := 65) rfl ?_
        have h := h.2
        refine dk_aload_n (i := 0) C dX9_isLit_65 (n := 66) rfl rfl rfl ?_
        refine gf_X9_59 C (hmi 60 (by decide) (by decide)) dX9_isLit_66 (n := 69) rfl ?_
        refine dk_iload_n (i := 3) C dX9_isLit_69 (n := 70) rfl rfl rfl ?_
        refine dk_iald C dk_sh74 h.1 (hmi 74 (by decide) (by decide)) dX9_isLit_70 (n := 71) rfl ?_
        have h := h.2
        refine dk_imul C dX9_isLit_71 (n := 72) rfl ?_
        refine dk_icmp_gt (t := 93) C dX9_isLit_72 (n := 75) rfl (by decide) (fun c18 => ?_) (fun c18 => ?_)
        · have h := h.1 c18
          refine dk_iconst (v := 0) C dX9_isLit_93 (n := 94) rfl (by decide) ?_
          refine dk_istore_n (i := 2) (L' := [some (dk_r G 4 60), some (.int x1), some (.int 0), some (.int x3), some (.int v6), some (.int v11)]) C dX9_isLit_94 (n := 95) rfl rfl (dk_nc_of rfl) (Nat.le_of_ble_eq_true rfl) rfl ?_
          obtain ⟨v12, ev12⟩ : ∃ y : Int32, y = x3 + 1 := ⟨_, rfl⟩
          have h := h v12 ev12
          refine dk_iinc (i := 3) (v := v12) (L' := [some (dk_r G 4 60), some (.int x1), some (.int 0), some (.int v12), some (.int v6), some (.int v11)]) C dX9_isLit_95 (n := 98) rfl rfl (by rw [ev12]; rfl) (dk_nc_of rfl) (Nat.le_of_ble_eq_true rfl) rfl ?_
          refine dk_goto (t := 4) C dX9_isLit_98 (by decide) ?_
          refine dk_sub (L0 := [some (dk_r G 4 60), some (.int x1), some (.int 0), some (.int v12), none, none]) ⟨rfl, ⟨rfl, ⟨rfl, ⟨rfl, trivial⟩⟩⟩⟩ ?_
          exact hB x1 0 v12 s9 h
        · have h := h.2 c18
          refine dk_aload_n (i := 0) C dX9_isLit_75 (n := 76) rfl rfl rfl ?_
          refine dk_aload_n (i := 0) C dX9_isLit_76 (n := 77) rfl rfl rfl ?_
          refine gf_X9_56 C (hmi 60 (by decide) (by decide)) dX9_isLit_77 (n := 80) rfl ?_
          refine dk_iload_n (i := 3) C dX9_isLit_80 (n := 81) rfl rfl rfl ?_
          refine dk_iald C dk_sh73 h.1 (hmi 73 (by decide) (by decide)) dX9_isLit_81 (n := 82) rfl ?_
          have h := h.2
          refine dk_iload_n (i := 1) C dX9_isLit_82 (n := 83) rfl rfl rfl ?_
          refine dk_callVi C [] (cc_X9_sees C.D hmi h) yy_X9_sees dk_wm_X9_180 dk_sh60 (hmi 60 (by decide) (by decide)) dX9_isLit_83 (fun r14 s13 h => ?_) rfl rfl ⟨Nat.le_of_ble_eq_true rfl, Nat.le_of_ble_eq_true rfl⟩ rfl (Nat.le_of_ble_eq_true rfl) rfl (n := 86) rfl
          refine dk_if_eq (t := 93) C dX9_isLit_86 (n := 89) rfl (by decide) (fun c17 => ?_) (fun c17 => ?_)
          · have h := h.1 c17
            refine dk_iconst (v := 0) C dX9_isLit_93 (n := 94) rfl (by decide) ?_
            refine dk_istore_n (i := 2) (L' := [some (dk_r G 4 60), some (.int x1), some (.int 0), some (.int x3), some (.int v6), some (.int v11)]) C dX9_isLit_94 (n := 95) rfl rfl (dk_nc_of rfl) (Nat.le_of_ble_eq_true rfl) rfl ?_
            obtain ⟨v15, ev15⟩ : ∃ y : Int32, y = x3 + 1 := ⟨_, rfl⟩
            have h := h v15 ev15
            refine dk_iinc (i := 3) (v := v15) (L' := [some (dk_r G 4 60), some (.int x1), some (.int 0), some (.int v15), some (.int v6), some (.int v11)]) C dX9_isLit_95 (n := 98) rfl rfl (by rw [ev15]; rfl) (dk_nc_of rfl) (Nat.le_of_ble_eq_true rfl) rfl ?_
            refine dk_goto (t := 4) C dX9_isLit_98 (by decide) ?_
            refine dk_sub (L0 := [some (dk_r G 4 60), some (.int x1), some (.int 0), some (.int v15), none, none]) ⟨rfl, ⟨rfl, ⟨rfl, ⟨rfl, trivial⟩⟩⟩⟩ ?_
            exact hB x1 0 v15 s13 h
          · have h := h.2 c17
            refine dk_iconst (v := 1) C dX9_isLit_89 (n := 90) rfl (by decide) ?_
            refine dk_goto (t := 94) C dX9_isLit_90 (by decide) ?_
            refine dk_istore_n (i := 2) (L' := [some (dk_r G 4 60), some (.int x1), some (.int 1), some (.int x3), some (.int v6), some (.int v11)]) C dX9_isLit_94 (n := 95) rfl rfl (dk_nc_of rfl) (Nat.le_of_ble_eq_true rfl) rfl ?_
            obtain ⟨v16, ev16⟩ : ∃ y : Int32, y = x3 + 1 := ⟨_, rfl⟩
            have h := h v16 ev16
            refine dk_iinc (i := 3) (v := v16) (L' := [some (dk_r G 4 60), some (.int x1), some (.int 1), some (.int v16), some (.int v6), some (.int v11)]) C dX9_isLit_95 (n := 98) rfl rfl (by rw [ev16]; rfl) (dk_nc_of rfl) (Nat.le_of_ble_eq_true rfl) rfl ?_
            refine dk_goto (t := 4) C dX9_isLit_98 (by decide) ?_
            refine dk_sub (L0 := [some (dk_r G 4 60), some (.int x1), some (.int 1), some (.int v16), none, none]) ⟨rfl, ⟨rfl, ⟨rfl, ⟨rfl, trivial⟩⟩⟩⟩ ?_
            exact hB x1 1 v16 s13 h
set_option maxRecDepth 20000 in
set_option maxHeartbeats 4000000 in
theorem cc_X9_isLit {G : dk_G} {l : Launch} {a1 : Int32} (hD : dk_D G) (hmi : dk_MI G) {s : dk_S} {K : Int32 → dk_S → Prop} (h : wf_X9_isLit a1 s K) : dk_M G l 4 yX9_isLit cX9_isLit 6 (some .boolean) [dk_r G 4 60, .int a1] s (dk_ki K) := by
  refine dk_of hD (by decide) [some (dk_r G 4 60), some (.int a1), none, none, none, none] (fun q hq => hq) rfl (Nat.le_of_ble_eq_true rfl) (fun P e S0 m args bel meth c C hr hlk => ?_)
  unfold wf_X9_isLit at h
  refine dk_iconst (v := 0) C dX9_isLit_0 (n := 1) rfl (by decide) ?_
  refine dk_istore_n (i := 2) (L' := [some (dk_r G 4 60), some (.int a1), some (.int 0), none, none, none]) C dX9_isLit_1 (n := 2) rfl rfl (dk_nc_of rfl) (Nat.le_of_ble_eq_true rfl) rfl ?_
  refine dk_iconst (v := 0) C dX9_isLit_2 (n := 3) rfl (by decide) ?_
  refine dk_istore_n (i := 3) (L' := [some (dk_r G 4 60), some (.int a1), some (.int 0), some (.int 0), none, none]) C dX9_isLit_3 (n := 4) rfl rfl (dk_nc_of rfl) (Nat.le_of_ble_eq_true rfl) rfl ?_
  obtain ⟨nn1, h⟩ := h
  refine dk_sub (L0 := [some (dk_r G 4 60), some (.int a1), some (.int 0), some (.int 0), none, none]) ⟨rfl, ⟨rfl, ⟨rfl, ⟨rfl, trivial⟩⟩⟩⟩ ?_
  refine ww_X9_isLit_4 C hr hlk hmi  nn1 a1 0 0 s h
/-! X9_around -/
def wf_X9_around (a0 : Int32) (a1 : Int32) (s : dk_S) (K : Int32 → dk_S → Prop) : Prop :=
  wf_X9_xOf a0 s (fun r2 s1 => wf_X9_xOf a1 s1 (fun r4 s3 => wf_X9_far (r2 - r4) s3 (fun r6 s5 => wf_X9_yOf a0 s5 (fun r8 s7 => wf_X9_yOf a1 s7 (fun r10 s9 => wf_X9_far (r8 - r10) s9 (fun r12 s11 => ((r6 ≤ r12 → K r12 s11) ∧ (¬ r6 ≤ r12 → K r6 s11))))))))
set_option maxRecDepth 20000 in
set_option maxHeartbeats 4000000 in
theorem cc_X9_around {G : dk_G} {l : Launch} {a0 : Int32} {a1 : Int32} (hD : dk_D G)  {s : dk_S} {K : Int32 → dk_S → Prop} (h : wf_X9_around a0 a1 s K) : dk_M G l 2 yX9_around cX9_around 4 (some .int) [.int a0, .int a1] s (dk_ki K) := by
  refine dk_of hD (by decide) [some (.int a0), some (.int a1), none, none] (fun q hq => hq) rfl (Nat.le_of_ble_eq_true rfl) (fun P e S0 m args bel meth c C hr hlk => ?_)
  unfold wf_X9_around at h
  refine dk_iload_n (i := 0) C dX9_around_0 (n := 1) rfl rfl rfl ?_
  refine dk_callSi C [] (cc_X9_xOf C.D  h) yy_X9_xOf dk_wm_X9_114 dX9_around_1 (fun r2 s1 h => ?_) rfl ⟨Nat.le_of_ble_eq_true rfl, Nat.le_of_ble_eq_true rfl⟩ rfl (Nat.le_of_ble_eq_true rfl) rfl (n := 4) rfl
  refine dk_iload_n (i := 1) C dX9_around_4 (n := 5) rfl rfl rfl ?_
  refine dk_callSi C [.int r2] (cc_X9_xOf C.D  h) yy_X9_xOf dk_wm_X9_114 dX9_around_5 (fun r4 s3 h => ?_) rfl ⟨Nat.le_of_ble_eq_true rfl, Nat.le_of_ble_eq_true rfl⟩ rfl (Nat.le_of_ble_eq_true rfl) rfl (n := 8) rfl
  refine dk_isub C dX9_around_8 (n := 9) rfl ?_
  refine dk_callSi C [] (cc_X9_far C.D  h) yy_X9_far dk_wm_X9_171 dX9_around_9 (fun r6 s5 h => ?_) rfl ⟨Nat.le_of_ble_eq_true rfl, Nat.le_of_ble_eq_true rfl⟩ rfl (Nat.le_of_ble_eq_true rfl) rfl (n := 12) rfl
  refine dk_istore_n (i := 2) (L' := [some (.int a0), some (.int a1), some (.int r6), none]) C dX9_around_12 (n := 13) rfl rfl (dk_nc_of rfl) (Nat.le_of_ble_eq_true rfl) rfl ?_
  refine dk_iload_n (i := 0) C dX9_around_13 (n := 14) rfl rfl rfl ?_
  refine dk_callSi C [] (cc_X9_yOf C.D  h) yy_X9_yOf dk_wm_X9_118 dX9_around_14 (fun r8 s7 h => ?_) rfl ⟨Nat.le_of_ble_eq_true rfl, Nat.le_of_ble_eq_true rfl⟩ rfl (Nat.le_of_ble_eq_true rfl) rfl (n := 17) rfl
  refine dk_iload_n (i := 1) C dX9_around_17 (n := 18) rfl rfl rfl ?_
  refine dk_callSi C [.int r8] (cc_X9_yOf C.D  h) yy_X9_yOf dk_wm_X9_118 dX9_around_18 (fun r10 s9 h => ?_) rfl ⟨Nat.le_of_ble_eq_true rfl, Nat.le_of_ble_eq_true rfl⟩ rfl (Nat.le_of_ble_eq_true rfl) rfl (n := 21) rfl
  refine dk_isub C dX9_around_21 (n := 22) rfl ?_
  refine dk_callSi C [] (cc_X9_far C.D  h) yy_X9_far dk_wm_X9_171 dX9_around_22 (fun r12 s11 h => ?_) rfl ⟨Nat.le_of_ble_eq_true rfl, Nat.le_of_ble_eq_true rfl⟩ rfl (Nat.le_of_ble_eq_true rfl) rfl (n := 25) rfl
  refine dk_istore_n (i := 3) (L' := [some (.int a0), some (.int a1), some (.int r6), some (.int r12)]) C dX9_around_25 (n := 26) rfl rfl (dk_nc_of rfl) (Nat.le_of_ble_eq_true rfl) rfl ?_
  refine dk_iload_n (i := 2) C dX9_around_26 (n := 27) rfl rfl rfl ?_
  refine dk_iload_n (i := 3) C dX9_around_27 (n := 28) rfl rfl rfl ?_
  refine dk_icmp_le (t := 35) C dX9_around_28 (n := 31) rfl (by decide) (fun c13 => ?_) (fun c13 => ?_)
  · have h := h.1 c13
    refine dk_iload_n (i := 3) C dX9_around_35 (n := 36) rfl rfl rfl ?_
    exact dk_iret C hr hlk rfl dX9_around_36 ⟨_, rfl, h⟩
  · have h := h.2 c13
    refine dk_iload_n (i := 2) C dX9_around_31 (n := 32) rfl rfl rfl ?_
    refine dk_goto (t := 36) C dX9_around_32 (by decide) ?_
    exact dk_iret C hr hlk rfl dX9_around_36 ⟨_, rfl, h⟩
/-! X9_heroSeesCell -/
def wf_X9_heroSeesCell (a1 : Int32) (s : dk_S) (K : Int32 → dk_S → Prop) : Prop :=
  (((s 4 60 30) ≤ 0 → (vp_in 0 8 ∧ wf_X9_sees (s 4 76 0.toNatClampNeg) a1 s (fun r2 s1 => ((r2 = 0 → K 0 s1) ∧ (¬ r2 = 0 → (vp_in 0 8 ∧ wf_X9_around (s1 4 76 0.toNatClampNeg) a1 s1 (fun r4 s3 => ((r4 ≤ 1 → K 1 s3) ∧ (¬ r4 ≤ 1 → wf_X9_isLit a1 s3 (fun r6 s5 => ((r6 = 0 → K 0 s5) ∧ (¬ r6 = 0 → K 1 s5)))))))))))) ∧ (¬ (s 4 60 30) ≤ 0 → (vp_in 0 8 ∧ ((¬ a1 = (s 4 76 0.toNatClampNeg) → K 0 s) ∧ (a1 = (s 4 76 0.toNatClampNeg) → K 1 s)))))
set_option maxRecDepth 20000 in
set_option maxHeartbeats 4000000 in
theorem cc_X9_heroSeesCell {G : dk_G} {l : Launch} {a1 : Int32} (hD : dk_D G) (hmi : dk_MI G) {s : dk_S} {K : Int32 → dk_S → Prop} (h : wf_X9_heroSeesCell a1 s K) : dk_M G l 5 yX9_heroSeesCell cX9_heroSeesCell 2 (some .boolean) [dk_r G 4 60, .int a1] s (dk_ki K) := by
  refine dk_of hD (by decide) [some (dk_r G 4 60), some (.int a1)] (fun q hq => hq) rfl (Nat.le_of_ble_eq_true rfl) (fun P e S0 m args bel meth c C hr hlk => ?_)
  unfold wf_X9_heroSeesCell at h
  refine dk_aload_n (i := 0) C dX9_heroSeesCell_0 (n := 1) rfl rfl rfl ?_
  refine gf_X9_136 C (hmi 60 (by decide) (by decide)) dX9_heroSeesCell_1 (n := 4) rfl ?_
  refine dk_if_le (t := 23) C dX9_heroSeesCell_4 (n := 7) rfl (by decide) (fun c11 => ?_) (fun c11 => ?_)
  · have h := h.1 c11
    refine dk_aload_n (i := 0) C dX9_heroSeesCell_23 (n := 24) rfl rfl rfl ?_
    refine dk_aload_n (i := 0) C dX9_heroSeesCell_24 (n := 25) rfl rfl rfl ?_
    refine gf_X9_65 C (hmi 60 (by decide) (by decide)) dX9_heroSeesCell_25 (n := 28) rfl ?_
    refine dk_iconst (v := 0) C dX9_heroSeesCell_28 (n := 29) rfl (by decide) ?_
    refine dk_iald C dk_sh76 h.1 (hmi 76 (by decide) (by decide)) dX9_heroSeesCell_29 (n := 30) rfl ?_
    have h := h.2
    refine dk_iload_n (i := 1) C dX9_heroSeesCell_30 (n := 31) rfl rfl rfl ?_
    refine dk_callVi C [] (cc_X9_sees C.D hmi h) yy_X9_sees dk_wm_X9_180 dk_sh60 (hmi 60 (by decide) (by decide)) dX9_heroSeesCell_31 (fun r2 s1 h => ?_) rfl rfl ⟨Nat.le_of_ble_eq_true rfl, Nat.le_of_ble_eq_true rfl⟩ rfl (Nat.le_of_ble_eq_true rfl) rfl (n := 34) rfl
    refine dk_if_eq (t := 63) C dX9_heroSeesCell_34 (n := 37) rfl (by decide) (fun c9 => ?_) (fun c9 => ?_)
    · have h := h.1 c9
      refine dk_iconst (v := 0) C dX9_heroSeesCell_63 (n := 64) rfl (by decide) ?_
      exact dk_iret C hr hlk dk_nz0 dX9_heroSeesCell_64 ⟨_, rfl, h⟩
    · have h := h.2 c9
      refine dk_aload_n (i := 0) C dX9_heroSeesCell_37 (n := 38) rfl rfl rfl ?_
      refine gf_X9_65 C (hmi 60 (by decide) (by decide)) dX9_heroSeesCell_38 (n := 41) rfl ?_
      refine dk_iconst (v := 0) C dX9_heroSeesCell_41 (n := 42) rfl (by decide) ?_
      refine dk_iald C dk_sh76 h.1 (hmi 76 (by decide) (by decide)) dX9_heroSeesCell_42 (n := 43) rfl ?_
      have h := h.2
      refine dk_iload_n (i := 1) C dX9_heroSeesCell_43 (n := 44) rfl rfl rfl ?_
      refine dk_callSi C [] (cc_X9_around C.D  h) yy_X9_around dk_wm_X9_183 dX9_heroSeesCell_44 (fun r4 s3 h => ?_) rfl ⟨Nat.le_of_ble_eq_true rfl, Nat.le_of_ble_eq_true rfl⟩ rfl (Nat.le_of_ble_eq_true rfl) rfl (n := 47) rfl
      refine dk_iconst (v := 1) C dX9_heroSeesCell_47 (n := 48) rfl (by decide) ?_
      refine dk_icmp_le (t := 59) C dX9_heroSeesCell_48 (n := 51) rfl (by decide) (fun c8 => ?_) (fun c8 => ?_)
      · have h := h.1 c8
        refine dk_iconst (v := 1) C dX9_heroSeesCell_59 (n := 60) rfl (by decide) ?_
        refine dk_goto (t := 64) C dX9_heroSeesCell_60 (by decide) ?_
        exact dk_iret C hr hlk dk_nz1 dX9_heroSeesCell_64 ⟨_, rfl, h⟩
      · have h := h.2 c8
        refine dk_aload_n (i := 0) C dX9_heroSeesCell_51 (n := 52) rfl rfl rfl ?_
        refine dk_iload_n (i := 1) C dX9_heroSeesCell_52 (n := 53) rfl rfl rfl ?_
        refine dk_callVi C [] (cc_X9_isLit C.D hmi h) yy_X9_isLit dk_wm_X9_186 dk_sh60 (hmi 60 (by decide) (by decide)) dX9_heroSeesCell_53 (fun r6 s5 h => ?_) rfl rfl ⟨Nat.le_of_ble_eq_true rfl, Nat.le_of_ble_eq_true rfl⟩ rfl (Nat.le_of_ble_eq_true rfl) rfl (n := 56) rfl
        refine dk_if_eq (t := 63) C dX9_heroSeesCell_56 (n := 59) rfl (by decide) (fun c7 => ?_) (fun c7 => ?_)
        · have h := h.1 c7
          refine dk_iconst (v := 0) C dX9_heroSeesCell_63 (n := 64) rfl (by decide) ?_
          exact dk_iret C hr hlk dk_nz0 dX9_heroSeesCell_64 ⟨_, rfl, h⟩
        · have h := h.2 c7
          refine dk_iconst (v := 1) C dX9_heroSeesCell_59 (n := 60) rfl (by decide) ?_
          refine dk_goto (t := 64) C dX9_heroSeesCell_60 (by decide) ?_
          exact dk_iret C hr hlk dk_nz1 dX9_heroSeesCell_64 ⟨_, rfl, h⟩
  · have h := h.2 c11
    refine dk_iload_n (i := 1) C dX9_heroSeesCell_7 (n := 8) rfl rfl rfl ?_
    refine dk_aload_n (i := 0) C dX9_heroSeesCell_8 (n := 9) rfl rfl rfl ?_
    refine gf_X9_65 C (hmi 60 (by decide) (by decide)) dX9_heroSeesCell_9 (n := 12) rfl ?_
    refine dk_iconst (v := 0) C dX9_heroSeesCell_12 (n := 13) rfl (by decide) ?_
    refine dk_iald C dk_sh76 h.1 (hmi 76 (by decide) (by decide)) dX9_heroSeesCell_13 (n := 14) rfl ?_
    have h := h.2
    refine dk_icmp_ne (t := 21) C dX9_heroSeesCell_14 (n := 17) rfl (by decide) (fun c10 => ?_) (fun c10 => ?_)
    · have h := h.1 c10
      refine dk_iconst (v := 0) C dX9_heroSeesCell_21 (n := 22) rfl (by decide) ?_
      exact dk_iret C hr hlk dk_nz0 dX9_heroSeesCell_22 ⟨_, rfl, h⟩
    · have h := h.2 c10
      refine dk_iconst (v := 1) C dX9_heroSeesCell_17 (n := 18) rfl (by decide) ?_
      refine dk_goto (t := 22) C dX9_heroSeesCell_18 (by decide) ?_
      exact dk_iret C hr hlk dk_nz1 dX9_heroSeesCell_22 ⟨_, rfl, h⟩
/-! X9_isDoor -/
def wf_X9_isDoor (a0 : Int32) (s : dk_S) (K : Int32 → dk_S → Prop) : Prop :=
  ((a0 = 43 → K 1 s) ∧ (¬ a0 = 43 → wf_X9_in a0 48 50 s (fun r2 s1 => ((r2 = 0 → K 0 s1) ∧ (¬ r2 = 0 → K 1 s1)))))
set_option maxRecDepth 20000 in
set_option maxHeartbeats 4000000 in
theorem cc_X9_isDoor {G : dk_G} {l : Launch} {a0 : Int32} (hD : dk_D G)  {s : dk_S} {K : Int32 → dk_S → Prop} (h : wf_X9_isDoor a0 s K) : dk_M G l 2 yX9_isDoor cX9_isDoor 1 (some .boolean) [.int a0] s (dk_ki K) := by
  refine dk_of hD (by decide) [some (.int a0)] (fun q hq => hq) rfl (Nat.le_of_ble_eq_true rfl) (fun P e S0 m args bel meth c C hr hlk => ?_)
  unfold wf_X9_isDoor at h
  refine dk_iload_n (i := 0) C dX9_isDoor_0 (n := 1) rfl rfl rfl ?_
  refine dk_bipush (v := 43) C dX9_isDoor_1 (n := 3) rfl (by decide) ?_
  refine dk_icmp_eq (t := 17) C dX9_isDoor_3 (n := 6) rfl (by decide) (fun c4 => ?_) (fun c4 => ?_)
  · have h := h.1 c4
    refine dk_iconst (v := 1) C dX9_isDoor_17 (n := 18) rfl (by decide) ?_
    refine dk_goto (t := 22) C dX9_isDoor_18 (by decide) ?_
    exact dk_iret C hr hlk dk_nz1 dX9_isDoor_22 ⟨_, rfl, h⟩
  · have h := h.2 c4
    refine dk_iload_n (i := 0) C dX9_isDoor_6 (n := 7) rfl rfl rfl ?_
    refine dk_bipush (v := 48) C dX9_isDoor_7 (n := 9) rfl (by decide) ?_
    refine dk_bipush (v := 50) C dX9_isDoor_9 (n := 11) rfl (by decide) ?_
    refine dk_callSi C [] (cc_X9_in C.D  h) yy_X9_in dk_wm_X9_110 dX9_isDoor_11 (fun r2 s1 h => ?_) rfl ⟨Nat.le_of_ble_eq_true rfl, Nat.le_of_ble_eq_true rfl⟩ rfl (Nat.le_of_ble_eq_true rfl) rfl (n := 14) rfl
    refine dk_if_eq (t := 21) C dX9_isDoor_14 (n := 17) rfl (by decide) (fun c3 => ?_) (fun c3 => ?_)
    · have h := h.1 c3
      refine dk_iconst (v := 0) C dX9_isDoor_21 (n := 22) rfl (by decide) ?_
      exact dk_iret C hr hlk dk_nz0 dX9_isDoor_22 ⟨_, rfl, h⟩
    · have h := h.2 c3
      refine dk_iconst (v := 1) C dX9_isDoor_17 (n := 18) rfl (by decide) ?_
      refine dk_goto (t := 22) C dX9_isDoor_18 (by decide) ?_
      exact dk_iret C hr hlk dk_nz1 dX9_isDoor_22 ⟨_, rfl, h⟩
/-! X9_findsSteps -/
def wf_X9_findsSteps_206  (K : dk_S → Prop) (B : Int32 → Int32 → Int32 → Int32 → Int32 → Int32 → dk_S → Prop) (E230 : Int32 → Int32 → Int32 → Int32 → dk_S → Prop) (x2 : Int32) (x3 : Int32) (x4 : Int32) (x5 : Int32) (x6 : Int32) (x7 : Int32) (x9 : Int32) (y0 : Int32) (y1 : Int32) (s : dk_S) : Prop :=
  (vp_in y1 144 ∧ (∀ s40 : dk_S, s40 = dk_row s 4 86 (upd (s 4 86) y1.toNatClampNeg y0) → ((¬ x4 = 0 → ∀ v41 : Int32, v41 = x7 + 1 → B x2 x3 1 x5 x6 v41 s40) ∧ (x4 = 0 → ((x9 = 0 → ∀ v42 : Int32, v42 = x7 + 1 → B x2 x3 0 x5 x6 v42 s40) ∧ (¬ x9 = 0 → ∀ v43 : Int32, v43 = x7 + 1 → B x2 x3 1 x5 x6 v43 s40))))))
def wf_X9_findsSteps_173  (K : dk_S → Prop) (B : Int32 → Int32 → Int32 → Int32 → Int32 → Int32 → dk_S → Prop) (E230 : Int32 → Int32 → Int32 → Int32 → dk_S → Prop) (x2 : Int32) (x3 : Int32) (x4 : Int32) (x5 : Int32) (x6 : Int32) (x7 : Int32) (x8 : Int32) (y0 : Int32) (s : dk_S) : Prop :=
  ((y0 = 0 → (vp_in x5 144 ∧ wf_X9_findsSteps_206 K B E230 x2 x3 x4 x5 x6 x7 y0 (s 4 86 x5.toNatClampNeg) x5 s)) ∧ (¬ y0 = 0 → (vp_in x8 144 ∧ wf_X9_findsSteps_206 K B E230 x2 x3 x4 x5 x6 x7 y0 ((s 4 86 x8.toNatClampNeg) + x6) x5 s)))
def wf_X9_findsSteps_108  (K : dk_S → Prop) (E230 : Int32 → Int32 → Int32 → Int32 → dk_S → Prop) : Nat → Int32 → Int32 → Int32 → Int32 → Int32 → Int32 → dk_S → Prop
  | 0, _, _, _, _, _, _, _ => False
  | n + 1, x2, x3, x4, x5, x6, x7, s => ((4 ≤ x7 → E230 x2 x3 x4 x5 s) ∧ (¬ 4 ≤ x7 → wf_X9_beside x5 x7 s (fun r33 s32 => ((r33 = (-1) → wf_X9_findsSteps_173 K (wf_X9_findsSteps_108 K E230 n) E230 x2 x3 x4 x5 x6 x7 r33 0 s32) ∧ (¬ r33 = (-1) → (vp_in r33 144 ∧ ((100000 ≤ (s32 4 86 r33.toNatClampNeg) → wf_X9_findsSteps_173 K (wf_X9_findsSteps_108 K E230 n) E230 x2 x3 x4 x5 x6 x7 r33 0 s32) ∧ (¬ 100000 ≤ (s32 4 86 r33.toNatClampNeg) → ((100000 ≤ x6 → wf_X9_findsSteps_173 K (wf_X9_findsSteps_108 K E230 n) E230 x2 x3 x4 x5 x6 x7 r33 0 s32) ∧ (¬ 100000 ≤ x6 → (vp_in r33 144 ∧ (vp_in x5 144 ∧ (((s32 4 86 x5.toNatClampNeg) ≤ ((s32 4 86 r33.toNatClampNeg) + x6) → wf_X9_findsSteps_173 K (wf_X9_findsSteps_108 K E230 n) E230 x2 x3 x4 x5 x6 x7 r33 0 s32) ∧ (¬ (s32 4 86 x5.toNatClampNeg) ≤ ((s32 4 86 r33.toNatClampNeg) + x6) → wf_X9_findsSteps_173 K (wf_X9_findsSteps_108 K E230 n) E230 x2 x3 x4 x5 x6 x7 r33 1 s32))))))))))))))
def wf_X9_findsSteps_103  (K : dk_S → Prop) (B : Int32 → Int32 → Int32 → Int32 → dk_S → Prop) (E236 : Int32 → Int32 → Int32 → dk_S → Prop) (x2 : Int32) (x3 : Int32) (x4 : Int32) (x5 : Int32) (y0 : Int32) (s : dk_S) : Prop :=
  ∃ nn31 : Nat, wf_X9_findsSteps_108 K (fun (w25 : Int32) (w26 : Int32) (w27 : Int32) (w28 : Int32) (s29 : dk_S) => ∀ v30 : Int32, v30 = w28 + 1 → B w25 w26 w27 v30 s29) nn31 x2 x3 x4 x5 y0 0 s
def wf_X9_findsSteps_47  (K : dk_S → Prop) (E236 : Int32 → Int32 → Int32 → dk_S → Prop) : Nat → Int32 → Int32 → Int32 → Int32 → dk_S → Prop
  | 0, _, _, _, _, _ => False
  | n + 1, x2, x3, x4, x5, s => ((144 ≤ x5 → E236 x2 x3 x4 s) ∧ (¬ 144 ≤ x5 → wf_X9_isFree x5 s (fun r18 s17 => ((r18 = 0 → (vp_in x5 144 ∧ ((¬ (s17 4 75 x5.toNatClampNeg) = 43 → (vp_in x5 144 ∧ wf_X9_isDoor (s17 4 75 x5.toNatClampNeg) s17 (fun r20 s19 => ((r20 = 0 → wf_X9_findsSteps_103 K (wf_X9_findsSteps_47 K E236 n) E236 x2 x3 x4 x5 100000 s19) ∧ (¬ r20 = 0 → wf_X9_findsSteps_103 K (wf_X9_findsSteps_47 K E236 n) E236 x2 x3 x4 x5 x3 s19))))) ∧ ((s17 4 75 x5.toNatClampNeg) = 43 → wf_X9_findsSteps_103 K (wf_X9_findsSteps_47 K E236 n) E236 x2 x3 x4 x5 x2 s17)))) ∧ (¬ r18 = 0 → wf_X9_findsSteps_103 K (wf_X9_findsSteps_47 K E236 n) E236 x2 x3 x4 x5 1 s17)))))
def wf_X9_findsSteps_36  (K : dk_S → Prop) : Nat → Int32 → Int32 → Int32 → dk_S → Prop
  | 0, _, _, _, _ => False
  | n + 1, x2, x3, x4, s => ((x4 = 0 → K s) ∧ (¬ x4 = 0 → ∃ nn12 : Nat, wf_X9_findsSteps_47 K (fun (w8 : Int32) (w9 : Int32) (w10 : Int32) (s11 : dk_S) => wf_X9_findsSteps_36 K n w8 w9 w10 s11) nn12 x2 x3 0 0 s))
def wf_X9_findsSteps_3  (K : dk_S → Prop) (E26 : Int32 → Int32 → Int32 → dk_S → Prop) : Nat → Int32 → Int32 → Int32 → Int32 → dk_S → Prop
  | 0, _, _, _, _, _ => False
  | n + 1, x1, x2, x3, x4, s => ((144 ≤ x4 → E26 x1 x2 x3 s) ∧ (¬ 144 ≤ x4 → (vp_in x4 144 ∧ (∀ s14 : dk_S, s14 = dk_row s 4 86 (upd (s 4 86) x4.toNatClampNeg 100000) → ∀ v15 : Int32, v15 = x4 + 1 → wf_X9_findsSteps_3 K E26 n x1 x2 x3 v15 s14))))
def wf_X9_findsSteps (a1 : Int32) (a2 : Int32) (a3 : Int32) (s : dk_S) (K : dk_S → Prop) : Prop :=
  ∃ nn7 : Nat, wf_X9_findsSteps_3 K (fun (w1 : Int32) (w2 : Int32) (w3 : Int32) (s4 : dk_S) => (vp_in w1 144 ∧ (∀ s5 : dk_S, s5 = dk_row s4 4 86 (upd (s4 4 86) w1.toNatClampNeg 0) → ∃ nn6 : Nat, wf_X9_findsSteps_36 K nn6 w2 w3 1 s5))) nn7 a1 a2 a3 0 s
set_option maxRecDepth 20000 in
set_option maxHeartbeats 4000000 in
theorem ww_X9_findsSteps_206 {G : dk_G} {P : Program} {l : Launch} {e : Env} {S0 : State} {m : MethodId} {args : Array Value} {bel : List Frame} {meth : Method} {c : Code}  (C : dk_C G P (dk_rm 4) S0 m args c 0 0 cX9_findsSteps 10 RX9) (hr : meth.sig.returnType = none) (hlk : meth.locks = false) (hmi : dk_MI G) {K : dk_S → Prop} {B : Int32 → Int32 → Int32 → Int32 → Int32 → Int32 → dk_S → Prop} {E230 : Int32 → Int32 → Int32 → Int32 → dk_S → Prop} (hB : ∀ (x2 : Int32) (x3 : Int32) (x4 : Int32) (x5 : Int32) (x6 : Int32) (x7 : Int32) (s : dk_S), B x2 x3 x4 x5 x6 x7 s → dk_W G P l e (dk_rm 4) S0 m args bel meth c 0 0 (MQ bel (dk_Qc G (dk_kv K)) args S0 0 0 (dk_A G)) 108 [some (dk_r G 4 60), none, some (.int x2), some (.int x3), some (.int x4), some (.int x5), some (.int x6), some (.int x7), none, none] [] s) (hE230 : ∀ (x2 : Int32) (x3 : Int32) (x4 : Int32) (x5 : Int32) (s : dk_S), E230 x2 x3 x4 x5 s → dk_W G P l e (dk_rm 4) S0 m args bel meth c 0 0 (MQ bel (dk_Qc G (dk_kv K)) args S0 0 0 (dk_A G)) 230 [some (dk_r G 4 60), none, some (.int x2), some (.int x3), some (.int x4), some (.int x5), none, none, none, none] [] s) : ∀ (x2 : Int32) (x3 : Int32) (x4 : Int32) (x5 : Int32) (x6 : Int32) (x7 : Int32) (x9 : Int32) (y0 : Int32) (y1 : Int32) (s : dk_S), wf_X9_findsSteps_206 K B E230 x2 x3 x4 x5 x6 x7 x9 y0 y1 s → dk_W G P l e (dk_rm 4) S0 m args bel meth c 0 0 (MQ bel (dk_Qc G (dk_kv K)) args S0 0 0 (dk_A G)) 206 [some (dk_r G 4 60), none, some (.int x2), some (.int x3), some (.int x4), some (.int x5), some (.int x6), some (.int x7), none, some (.int x9)] [.int y0, .int y1, dk_r G 4 86] s := by
  intro x2 x3 x4 x5 x6 x7 x9 y0 y1 s h
  unfold wf_X9_findsSteps_206 at h
  refine dk_iast C dk_sh86 h.1 (hmi 86 (by decide) (by decide)) dX9_findsSteps_206 (n := 207) rfl ?_
  refine dk_nameS (fun s40 es40 => ?_)
  have h := h.2 s40 es40
  refine dk_iload C dX9_findsSteps_207 (n := 209) rfl (i := 4) rfl ?_
  refine dk_if_ne (t := 217) C dX9_findsSteps_209 (n := 212) rfl (by decide) (fun c45 => ?_) (fun c45 => ?_)
  · have h := h.1 c45
    refine dk_iconst (v := 1) C dX9_findsSteps_217 (n := 218) rfl (by decide) ?_
    refine dk_goto (t := 222) C dX9_findsSteps_218 (by decide) ?_
    refine dk_istore (i := 4) (L' := [some (dk_r G 4 60), none, some (.int x2), some (.int x3), some (.int 1), some (.int x5), some (.int x6), some (.int x7), none, some (.int x9)]) C dX9_findsSteps_222 (n := 224) rfl (dk_nc_of rfl) (Nat.le_of_ble_eq_true rfl) rfl ?_
    obtain ⟨v41, ev41⟩ : ∃ y : Int32, y = x7 + 1 := ⟨_, rfl⟩
    have h := h v41 ev41
    refine dk_iinc (i := 7) (v := v41) (L' := [some (dk_r G 4 60), none, some (.int x2), some (.int x3), some (.int 1), some (.int x5), some (.int x6), some (.int v41), none, some (.int x9)]) C dX9_findsSteps_224 (n := 227) rfl rfl (by rw [ev41]; rfl) (dk_nc_of rfl) (Nat.le_of_ble_eq_true rfl) rfl ?_
    refine dk_goto (t := 108) C dX9_findsSteps_227 (by decide) ?_
    refine dk_sub (L0 := [some (dk_r G 4 60), none, some (.int x2), some (.int x3), some (.int 1), some (.int x5), some (.int x6), some (.int v41), none, none]) ⟨rfl, ⟨rfl, ⟨rfl, ⟨rfl, ⟨rfl, ⟨rfl, ⟨rfl, trivial⟩⟩⟩⟩⟩⟩⟩ ?_
    exact hB x2 x3 1 x5 x6 v41 s40 h
  · have h := h.2 c45
    refine dk_iload C dX9_findsSteps_212 (n := 214) rfl (i := 9) rfl ?_
    refine dk_if_eq (t := 221) C dX9_findsSteps_214 (n := 217) rfl (by decide) (fun c44 => ?_) (fun c44 => ?_)
    · have h := h.1 c44
      refine dk_iconst (v := 0) C dX9_findsSteps_221 (n := 222) rfl (by decide) ?_
      refine dk_istore (i := 4) (L' := [some (dk_r G 4 60), none, some (.int x2), some (.int x3), some (.int 0), some (.int x5), some (.int x6), some (.int x7), none, some (.int x9)]) C dX9_findsSteps_222 (n := 224) rfl (dk_nc_of rfl) (Nat.le_of_ble_eq_true rfl) rfl ?_
      obtain ⟨v42, ev42⟩ : ∃ y : Int32, y = x7 + 1 := ⟨_, rfl⟩
      have h := h v42 ev42
      refine dk_iinc (i := 7) (v := v42) (L' := [some (dk_r G 4 60), none, some (.int x2), some (.int x3), some (.int 0), some (.int x5), some (.int x6), some (.int v42), none, some (.int x9)]) C dX9_findsSteps_224 (n := 227) rfl rfl (by rw [ev42]; rfl) (dk_nc_of rfl) (Nat.le_of_ble_eq_true rfl) rfl ?_
      refine dk_goto (t := 108) C dX9_findsSteps_227 (by decide) ?_
      refine dk_sub (L0 := [some (dk_r G 4 60), none, some (.int x2), some (.int x3), some (.int 0), some (.int x5), some (.int x6), some (.int v42), none, none]) ⟨rfl, ⟨rfl, ⟨rfl, ⟨rfl, ⟨rfl, ⟨rfl, ⟨rfl, trivial⟩⟩⟩⟩⟩⟩⟩ ?_
      exact hB x2 x3 0 x5 x6 v42 s40 h
    · have h := h.2 c44
      refine dk_iconst (v := 1) C dX9_findsSteps_217 (n := 218) rfl (by decide) ?_
      refine dk_goto (t := 222) C dX9_findsSteps_218 (by decide) ?_
      refine dk_istore (i := 4) (L' := [some (dk_r G 4 60), none, some (.int x2), some (.int x3), some (.int 1), some (.int x5), some (.int x6), some (.int x7), none, some (.int x9)]) C dX9_findsSteps_222 (n := 224) rfl (dk_nc_of rfl) (Nat.le_of_ble_eq_true rfl) rfl ?_
      obtain ⟨v43, ev43⟩ : ∃ y : Int32, y = x7 + 1 := ⟨_, rfl⟩
      have h := h v43 ev43
      refine dk_iinc (i := 7) (v := v43) (L' := [some (dk_r G 4 60), none, some (.int x2), some (.int x3), some (.int 1), some (.int x5), some (.int x6), some (.int v43), none, some (.int x9)]) C dX9_findsSteps_224 (n := 227) rfl rfl (by rw [ev43]; rfl) (dk_nc_of rfl) (Nat.le_of_ble_eq_true rfl) rfl ?_
      refine dk_goto (t := 108) C dX9_findsSteps_227 (by decide) ?_
      refine dk_sub (L0 := [some (dk_r G 4 60), none, some (.int x2), some (.int x3), some (.int 1), some (.int x5), some (.int x6), some (.int v43), none, none]) ⟨rfl, ⟨rfl, ⟨rfl, ⟨rfl, ⟨rfl, ⟨rfl, ⟨rfl, trivial⟩⟩⟩⟩⟩⟩⟩ ?_
      exact hB x2 x3 1 x5 x6 v43 s40 h
set_option maxRecDepth 20000 in
set_option maxHeartbeats 4000000 in
theorem ww_X9_findsSteps_173 {G : dk_G} {P : Program} {l : Launch} {e : Env} {S0 : State} {m : MethodId} {args : Array Value} {bel : List Frame} {meth : Method} {c : Code}  (C : dk_C G P (dk_rm 4) S0 m args c 0 0 cX9_findsSteps 10 RX9) (hr : meth.sig.returnType = none) (hlk : meth.locks = false) (hmi : dk_MI G) {K : dk_S → Prop} {B : Int32 → Int32 → Int32 → Int32 → Int32 → Int32 → dk_S → Prop} {E230 : Int32 → Int32 → Int32 → Int32 → dk_S → Prop} (hB : ∀ (x2 : Int32) (x3 : Int32) (x4 : Int32) (x5 : Int32) (x6 : Int32) (x7 : Int32) (s : dk_S), B x2 x3 x4 x5 x6 x7 s → dk_W G P l e (dk_rm 4) S0 m args bel meth c 0 0 (MQ bel (dk_Qc G (dk_kv K)) args S0 0 0 (dk_A G)) 108 [some (dk_r G 4 60), none, some (.int x2), some (.int x3), some (.int x4), some (.int x5), some (.int x6), some (.int x7), none, none] [] s) (hE230 : ∀ (x2 : Int32) (x3 : Int32) (x4 : Int32) (x5 : Int32) (s : dk_S), E230 x2 x3 x4 x5 s → dk_W G P l e (dk_rm 4) S0 m args bel meth c 0 0 (MQ bel (dk_Qc G (dk_kv K)) args S0 0 0 (dk_A G)) 230 [some (dk_r G 4 60), none, some (.int x2), some (.int x3), some (.int x4), some (.int x5), none, none, none, none] [] s) : ∀ (x2 : Int32) (x3 : Int32) (x4 : Int32) (x5 : Int32) (x6 : Int32) (x7 : Int32) (x8 : Int32) (y0 : Int32) (s : dk_S), wf_X9_findsSteps_173 K B E230 x2 x3 x4 x5 x6 x7 x8 y0 s → dk_W G P l e (dk_rm 4) S0 m args bel meth c 0 0 (MQ bel (dk_Qc G (dk_kv K)) args S0 0 0 (dk_A G)) 173 [some (dk_r G 4 60), none, some (.int x2), some (.int x3), some (.int x4), some (.int x5), some (.int x6), some (.int x7), some (.int x8), none] [.int y0] s := by
  intro x2 x3 x4 x5 x6 x7 x8 y0 s h
  unfold wf_X9_findsSteps_173 at h
  refine dk_istore (i := 9) (L' := [some (dk_r G 4 60), none, some (.int x2), some (.int x3), some (.int x4), some (.int x5), some (.int x6), some (.int x7), some (.int x8), some (.int y0)]) C dX9_findsSteps_173 (n := 175) rfl (dk_nc_of rfl) (Nat.le_of_ble_eq_true rfl) rfl ?_
  refine dk_aload_n (i := 0) C dX9_findsSteps_175 (n := 176) rfl rfl rfl ?_
  refine gf_X9_98 C (hmi 60 (by decide) (by decide)) dX9_findsSteps_176 (n := 179) rfl ?_
  refine dk_iload C dX9_findsSteps_179 (n := 181) rfl (i := 5) rfl ?_
  refine dk_iload C dX9_findsSteps_181 (n := 183) rfl (i := 9) rfl ?_
  refine dk_if_eq (t := 199) C dX9_findsSteps_183 (n := 186) rfl (by decide) (fun c39 => ?_) (fun c39 => ?_)
  · have h := h.1 c39
    refine dk_aload_n (i := 0) C dX9_findsSteps_199 (n := 200) rfl rfl rfl ?_
    refine gf_X9_98 C (hmi 60 (by decide) (by decide)) dX9_findsSteps_200 (n := 203) rfl ?_
    refine dk_iload C dX9_findsSteps_203 (n := 205) rfl (i := 5) rfl ?_
    refine dk_iald C dk_sh86 h.1 (hmi 86 (by decide) (by decide)) dX9_findsSteps_205 (n := 206) rfl ?_
    have h := h.2
    refine dk_sub (L0 := [some (dk_r G 4 60), none, some (.int x2), some (.int x3), some (.int x4), some (.int x5), some (.int x6), some (.int x7), none, some (.int y0)]) ⟨rfl, ⟨rfl, ⟨rfl, ⟨rfl, ⟨rfl, ⟨rfl, ⟨rfl, ⟨rfl, trivial⟩⟩⟩⟩⟩⟩⟩⟩ ?_
    exact ww_X9_findsSteps_206 C hr hlk hmi hB hE230 x2 x3 x4 x5 x6 x7 y0 (s 4 86 x5.toNatClampNeg) x5 s h
  · have h := h.2 c39
    refine dk_aload_n (i := 0) C dX9_findsSteps_186 (n := 187) rfl rfl rfl ?_
    refine gf_X9_98 C (hmi 60 (by decide) (by decide)) dX9_findsSteps_187 (n := 190) rfl ?_
    refine dk_iload C dX9_findsSteps_190 (n := 192) rfl (i := 8) rfl ?_
    refine dk_iald C dk_sh86 h.1 (hmi 86 (by decide) (by decide)) dX9_findsSteps_192 (n := 193) rfl ?_
    have h := h.2
    refine dk_iload C dX9_findsSteps_193 (n := 195) rfl (i := 6) rfl ?_
    refine dk_iadd C dX9_findsSteps_195 (n := 196) rfl ?_
    refine dk_goto (t := 206) C dX9_findsSteps_196 (by decide) ?_
    refine dk_sub (L0 := [some (dk_r G 4 60), none, some (.int x2), some (.int x3), some (.int x4), some (.int x5), some (.int x6), some (.int x7), none, some (.int y0)]) ⟨rfl, ⟨rfl, ⟨rfl, ⟨rfl, ⟨rfl, ⟨rfl, ⟨rfl, ⟨rfl, trivial⟩⟩⟩⟩⟩⟩⟩⟩ ?_
    exact ww_X9_findsSteps_206 C hr hlk hmi hB hE230 x2 x3 x4 x5 x6 x7 y0 ((s 4 86 x8.toNatClampNeg) + x6) x5 s h
set_option maxRecDepth 20000 in
set_option maxHeartbeats 4000000 in
theorem ww_X9_findsSteps_108 {G : dk_G} {P : Program} {l : Launch} {e : Env} {S0 : State} {m : MethodId} {args : Array Value} {bel : List Frame} {meth : Method} {c : Code}  (C : dk_C G P (dk_rm 4) S0 m args c 0 0 cX9_findsSteps 10 RX9) (hr : meth.sig.returnType = none) (hlk : meth.locks = false) (hmi : dk_MI G) {K : dk_S → Prop} {E230 : Int32 → Int32 → Int32 → Int32 → dk_S → Prop} (hE230 : ∀ (x2 : Int32) (x3 : Int32) (x4 : Int32) (x5 : Int32) (s : dk_S), E230 x2 x3 x4 x5 s → dk_W G P l e (dk_rm 4) S0 m args bel meth c 0 0 (MQ bel (dk_Qc G (dk_kv K)) args S0 0 0 (dk_A G)) 230 [some (dk_r G 4 60), none, some (.int x2), some (.int x3), some (.int x4), some (.int x5), none, none, none, none] [] s) : ∀ (n : Nat) (x2 : Int32) (x3 : Int32) (x4 : Int32) (x5 : Int32) (x6 : Int32) (x7 : Int32) (s : dk_S), wf_X9_findsSteps_108 K E230 n x2 x3 x4 x5 x6 x7 s → dk_W G P l e (dk_rm 4) S0 m args bel meth c 0 0 (MQ bel (dk_Qc G (dk_kv K)) args S0 0 0 (dk_A G)) 108 [some (dk_r G 4 60), none, some (.int x2), some (.int x3), some (.int x4), some (.int x5), some (.int x6), some (.int x7), none, none] [] s := by
  intro n
  induction n with
  | zero => intro x2 x3 x4 x5 x6 x7 s h; exact False.elim h
  | succ n hB =>
    intro x2 x3 x4 x5 x6 x7 s h
    unfold wf_X9_findsSteps_108 at h
    refine dk_iload C dX9_findsSteps_108 (n := 110) rfl (i := 7) rfl ?_
    refine dk_iconst (v := 4) C dX9_findsSteps_110 (n := 111) rfl (by decide) ?_
    refine dk_icmp_ge (t := 230) C dX9_findsSteps_111 (n := 114) rfl (by decide) (fun c38 => ?_) (fun c38 => ?_)
    · have h := h.1 c38
      refine dk_sub (L0 := [some (dk_r G 4 60), none, some (.int x2), some (.int x3), some (.int x4), some (.int x5), none, none, none, none]) ⟨rfl, ⟨rfl, ⟨rfl, ⟨rfl, ⟨rfl, trivial⟩⟩⟩⟩⟩ ?_
      exact hE230 x2 x3 x4 x5 s h
    · have h := h.2 c38
      refine dk_iload C dX9_findsSteps_114 (n := 116) rfl (i := 5) rfl ?_
      refine dk_iload C dX9_findsSteps_116 (n := 118) rfl (i := 7) rfl ?_
      refine dk_callSi C [] (cc_X9_beside C.D  h) yy_X9_beside dk_wm_X9_193 dX9_findsSteps_118 (fun r33 s32 h => ?_) rfl ⟨Nat.le_of_ble_eq_true rfl, Nat.le_of_ble_eq_true rfl⟩ rfl (Nat.le_of_ble_eq_true rfl) rfl (n := 121) rfl
      refine dk_istore (i := 8) (L' := [some (dk_r G 4 60), none, some (.int x2), some (.int x3), some (.int x4), some (.int x5), some (.int x6), some (.int x7), some (.int r33), none]) C dX9_findsSteps_121 (n := 123) rfl (dk_nc_of rfl) (Nat.le_of_ble_eq_true rfl) rfl ?_
      refine dk_iload C dX9_findsSteps_123 (n := 125) rfl (i := 8) rfl ?_
      refine dk_iconst (v := (-1)) C dX9_findsSteps_125 (n := 126) rfl (by decide) ?_
      refine dk_icmp_eq (t := 172) C dX9_findsSteps_126 (n := 129) rfl (by decide) (fun c37 => ?_) (fun c37 => ?_)
      · have h := h.1 c37
        refine dk_iconst (v := 0) C dX9_findsSteps_172 (n := 173) rfl (by decide) ?_
        refine dk_sub (L0 := [some (dk_r G 4 60), none, some (.int x2), some (.int x3), some (.int x4), some (.int x5), some (.int x6), some (.int x7), some (.int r33), none]) ⟨rfl, ⟨rfl, ⟨rfl, ⟨rfl, ⟨rfl, ⟨rfl, ⟨rfl, ⟨rfl, trivial⟩⟩⟩⟩⟩⟩⟩⟩ ?_
        exact ww_X9_findsSteps_173 C hr hlk hmi hB hE230 x2 x3 x4 x5 x6 x7 r33 0 s32 h
      · have h := h.2 c37
        refine dk_aload_n (i := 0) C dX9_findsSteps_129 (n := 130) rfl rfl rfl ?_
        refine gf_X9_98 C (hmi 60 (by decide) (by decide)) dX9_findsSteps_130 (n := 133) rfl ?_
        refine dk_iload C dX9_findsSteps_133 (n := 135) rfl (i := 8) rfl ?_
        refine dk_iald C dk_sh86 h.1 (hmi 86 (by decide) (by decide)) dX9_findsSteps_135 (n := 136) rfl ?_
        have h := h.2
        refine dk_ldc (v := 100000) C dX9_findsSteps_136 (n := 138) rfl dk_wk_X9_189 ?_
        refine dk_icmp_ge (t := 172) C dX9_findsSteps_138 (n := 141) rfl (by decide) (fun c36 => ?_) (fun c36 => ?_)
        · have h := h.1 c36
          refine dk_iconst (v := 0) C dX9_findsSteps_172 (n := 173) rfl (by decide) ?_
          refine dk_sub (L0 := [some (dk_r G 4 60), none, some (.int x2), some (.int x3), some (.int x4), some (.int x5), some (.int x6), some (.int x7), some (.int r33), none]) ⟨rfl, ⟨rfl, ⟨rfl, ⟨rfl, ⟨rfl, ⟨rfl, ⟨rfl, ⟨rfl, trivial⟩⟩⟩⟩⟩⟩⟩⟩ ?_
          exact ww_X9_findsSteps_173 C hr hlk hmi hB hE230 x2 x3 x4 x5 x6 x7 r33 0 s32 h
        · have h := h.2 c36
          refine dk_iload C dX9_findsSteps_141 (n := 143) rfl (i := 6) rfl ?_
          refine dk_ldc (v := 100000) C dX9_findsSteps_143 (n := 145) rfl dk_wk_X9_189 ?_
          refine dk_icmp_ge (t := 172) C dX9_findsSteps_145 (n := 148) rfl (by decide) (fun c35 => ?_) (fun c35 => ?_)
          · have h := h.1 c35
            refine dk_iconst (v := 0) C dX9_findsSteps_172 (n := 173) rfl (by decide) ?_
            refine dk_sub (L0 := [some (dk_r G 4 60), none, some (.int x2), some (.int x3), some (.int x4), some (.int x5), some (.int x6), some (.int x7), some (.int r33), none]) ⟨rfl, ⟨rfl, ⟨rfl, ⟨rfl, ⟨rfl, ⟨rfl, ⟨rfl, ⟨rfl, trivial⟩⟩⟩⟩⟩⟩⟩⟩ ?_
            exact ww_X9_findsSteps_173 C hr hlk hmi hB hE230 x2 x3 x4 x5 x6 x7 r33 0 s32 h
          · have h := h.2 c35
            refine dk_aload_n (i := 0) C dX9_findsSteps_148 (n := 149) rfl rfl rfl ?_
            refine gf_X9_98 C (hmi 60 (by decide) (by decide)) dX9_findsSteps_149 (n := 152) rfl ?_
            refine dk_iload C dX9_findsSteps_152 (n := 154) rfl (i := 8) rfl ?_
            refine dk_iald C dk_sh86 h.1 (hmi 86 (by decide) (by decide)) dX9_findsSteps_154 (n := 155) rfl ?_
            have h := h.2
            refine dk_iload C dX9_findsSteps_155 (n := 157) rfl (i := 6) rfl ?_
            refine dk_iadd C dX9_findsSteps_157 (n := 158) rfl ?_
            refine dk_aload_n (i := 0) C dX9_findsSteps_158 (n := 159) rfl rfl rfl ?_
            refine gf_X9_98 C (hmi 60 (by decide) (by decide)) dX9_findsSteps_159 (n := 162) rfl ?_
            refine dk_iload C dX9_findsSteps_162 (n := 164) rfl (i := 5) rfl ?_
            refine dk_iald C dk_sh86 h.1 (hmi 86 (by decide) (by decide)) dX9_findsSteps_164 (n := 165) rfl ?_
            have h := h.2
            refine dk_icmp_ge (t := 172) C dX9_findsSteps_165 (n := 168) rfl (by decide) (fun c34 => ?_) (fun c34 => ?_)
            · have h := h.1 c34
              refine dk_iconst (v := 0) C dX9_findsSteps_172 (n := 173) rfl (by decide) ?_
              refine dk_sub (L0 := [some (dk_r G 4 60), none, some (.int x2), some (.int x3), some (.int x4), some (.int x5), some (.int x6), some (.int x7), some (.int r33), none]) ⟨rfl, ⟨rfl, ⟨rfl, ⟨rfl, ⟨rfl, ⟨rfl, ⟨rfl, ⟨rfl, trivial⟩⟩⟩⟩⟩⟩⟩⟩ ?_
              exact ww_X9_findsSteps_173 C hr hlk hmi hB hE230 x2 x3 x4 x5 x6 x7 r33 0 s32 h
            · have h := h.2 c34
              refine dk_iconst (v := 1) C dX9_findsSteps_168 (n := 169) rfl (by decide) ?_
              refine dk_goto (t := 173) C dX9_findsSteps_169 (by decide) ?_
              refine dk_sub (L0 := [some (dk_r G 4 60), none, some (.int x2), some (.int x3), some (.int x4), some (.int x5), some (.int x6), some (.int x7), some (.int r33), none]) ⟨rfl, ⟨rfl, ⟨rfl, ⟨rfl, ⟨rfl, ⟨rfl, ⟨rfl, ⟨rfl, trivial⟩⟩⟩⟩⟩⟩⟩⟩ ?_
              exact ww_X9_findsSteps_173 C hr hlk hmi hB hE230 x2 x3 x4 x5 x6 x7 r33 1 s32 h
set_option maxRecDepth 20000 in
set_option maxHeartbeats 4000000 in
theorem ww_X9_findsSteps_103 {G : dk_G} {P : Program} {l : Launch} {e : Env} {S0 : State} {m : MethodId} {args : Array Value} {bel : List Frame} {meth : Method} {c : Code}  (C : dk_C G P (dk_rm 4) S0 m args c 0 0 cX9_findsSteps 10 RX9) (hr : meth.sig.returnType = none) (hlk : meth.locks = false) (hmi : dk_MI G) {K : dk_S → Prop} {B : Int32 → Int32 → Int32 → Int32 → dk_S → Prop} {E236 : Int32 → Int32 → Int32 → dk_S → Prop} (hB : ∀ (x2 : Int32) (x3 : Int32) (x4 : Int32) (x5 : Int32) (s : dk_S), B x2 x3 x4 x5 s → dk_W G P l e (dk_rm 4) S0 m args bel meth c 0 0 (MQ bel (dk_Qc G (dk_kv K)) args S0 0 0 (dk_A G)) 47 [some (dk_r G 4 60), none, some (.int x2), some (.int x3), some (.int x4), some (.int x5), none, none, none, none] [] s) (hE236 : ∀ (x2 : Int32) (x3 : Int32) (x4 : Int32) (s : dk_S), E236 x2 x3 x4 s → dk_W G P l e (dk_rm 4) S0 m args bel meth c 0 0 (MQ bel (dk_Qc G (dk_kv K)) args S0 0 0 (dk_A G)) 236 [some (dk_r G 4 60), none, some (.int x2), some (.int x3), some (.int x4), none, none, none, none, none] [] s) : ∀ (x2 : Int32) (x3 : Int32) (x4 : Int32) (x5 : Int32) (y0 : Int32) (s : dk_S), wf_X9_findsSteps_103 K B E236 x2 x3 x4 x5 y0 s → dk_W G P l e (dk_rm 4) S0 m args bel meth c 0 0 (MQ bel (dk_Qc G (dk_kv K)) args S0 0 0 (dk_A G)) 103 [some (dk_r G 4 60), none, some (.int x2), some (.int x3), some (.int x4), some (.int x5), none, none, none, none] [.int y0] s := by
  intro x2 x3 x4 x5 y0 s h
  unfold wf_X9_findsSteps_103 at h
  refine dk_istore (i := 6) (L' := [some (dk_r G 4 60), none, some (.int x2), some (.int x3), some (.int x4), some (.int x5), some (.int y0), none, none, none]) C dX9_findsSteps_103 (n := 105) rfl (dk_nc_of rfl) (Nat.le_of_ble_eq_true rfl) rfl ?_
  refine dk_iconst (v := 0) C dX9_findsSteps_105 (n := 106) rfl (by decide) ?_
  refine dk_istore (i := 7) (L' := [some (dk_r G 4 60), none, some (.int x2), some (.int x3), some (.int x4), some (.int x5), some (.int y0), some (.int 0), none, none]) C dX9_findsSteps_106 (n := 108) rfl (dk_nc_of rfl) (Nat.le_of_ble_eq_true rfl) rfl ?_
  obtain ⟨nn31, h⟩ := h
  refine dk_sub (L0 := [some (dk_r G 4 60), none, some (.int x2), some (.int x3), some (.int x4), some (.int x5), some (.int y0), some (.int 0), none, none]) ⟨rfl, ⟨rfl, ⟨rfl, ⟨rfl, ⟨rfl, ⟨rfl, ⟨rfl, trivial⟩⟩⟩⟩⟩⟩⟩ ?_
  refine ww_X9_findsSteps_108 C hr hlk hmi (fun w25 w26 w27 w28 s29 h => ?_) nn31 x2 x3 x4 x5 y0 0 s h
  · obtain ⟨v30, ev30⟩ : ∃ y : Int32, y = w28 + 1 := ⟨_, rfl⟩
    have h := h v30 ev30
    refine dk_iinc (i := 5) (v := v30) (L' := [some (dk_r G 4 60), none, some (.int w25), some (.int w26), some (.int w27), some (.int v30), none, none, none, none]) C dX9_findsSteps_230 (n := 233) rfl rfl (by rw [ev30]; rfl) (dk_nc_of rfl) (Nat.le_of_ble_eq_true rfl) rfl ?_
    refine dk_goto (t := 47) C dX9_findsSteps_233 (by decide) ?_
    refine dk_sub (L0 := [some (dk_r G 4 60), none, some (.int w25), some (.int w26), some (.int w27), some (.int v30), none, none, none, none]) ⟨rfl, ⟨rfl, ⟨rfl, ⟨rfl, ⟨rfl, trivial⟩⟩⟩⟩⟩ ?_
    exact hB w25 w26 w27 v30 s29 h
set_option maxRecDepth 20000 in
set_option maxHeartbeats 4000000 in
theorem ww_X9_findsSteps_47 {G : dk_G} {P : Program} {l : Launch} {e : Env} {S0 : State} {m : MethodId} {args : Array Value} {bel : List Frame} {meth : Method} {c : Code}  (C : dk_C G P (dk_rm 4) S0 m args c 0 0 cX9_findsSteps 10 RX9) (hr : meth.sig.returnType = none) (hlk : meth.locks = false) (hmi : dk_MI G) {K : dk_S → Prop} {E236 : Int32 → Int32 → Int32 → dk_S → Prop} (hE236 : ∀ (x2 : Int32) (x3 : Int32) (x4 : Int32) (s : dk_S), E236 x2 x3 x4 s → dk_W G P l e (dk_rm 4) S0 m args bel meth c 0 0 (MQ bel (dk_Qc G (dk_kv K)) args S0 0 0 (dk_A G)) 236 [some (dk_r G 4 60), none, some (.int x2), some (.int x3), some (.int x4), none, none, none, none, none] [] s) : ∀ (n : Nat) (x2 : Int32) (x3 : Int32) (x4 : Int32) (x5 : Int32) (s : dk_S), wf_X9_findsSteps_47 K E236 n x2 x3 x4 x5 s → dk_W G P l e (dk_rm 4) S0 m args bel meth c 0 0 (MQ bel (dk_Qc G (dk_kv K)) args S0 0 0 (dk_A G)) 47 [some (dk_r G 4 60), none, some (.int x2), some (.int x3), some (.int x4), some (.int x5), none, none, none, none] [] s := by
  intro n
  induction n with
  | zero => intro x2 x3 x4 x5 s h; exact False.elim h
  | succ n hB =>
    intro x2 x3 x4 x5 s h
    unfold wf_X9_findsSteps_47 at h
    refine dk_iload C dX9_findsSteps_47 (n := 49) rfl (i := 5) rfl ?_
    refine dk_sipush (v := 144) C dX9_findsSteps_49 (n := 52) rfl (by decide) ?_
    refine dk_icmp_ge (t := 236) C dX9_findsSteps_52 (n := 55) rfl (by decide) (fun c24 => ?_) (fun c24 => ?_)
    · have h := h.1 c24
      refine dk_sub (L0 := [some (dk_r G 4 60), none, some (.int x2), some (.int x3), some (.int x4), none, none, none, none, none]) ⟨rfl, ⟨rfl, ⟨rfl, ⟨rfl, trivial⟩⟩⟩⟩ ?_
      exact hE236 x2 x3 x4 s h
    · have h := h.2 c24
      refine dk_aload_n (i := 0) C dX9_findsSteps_55 (n := 56) rfl rfl rfl ?_
      refine dk_iload C dX9_findsSteps_56 (n := 58) rfl (i := 5) rfl ?_
      refine dk_callVi C [] (cc_X9_isFree C.D hmi h) yy_X9_isFree dk_wm_X9_174 dk_sh60 (hmi 60 (by decide) (by decide)) dX9_findsSteps_58 (fun r18 s17 h => ?_) rfl rfl ⟨Nat.le_of_ble_eq_true rfl, Nat.le_of_ble_eq_true rfl⟩ rfl (Nat.le_of_ble_eq_true rfl) rfl (n := 61) rfl
      refine dk_if_eq (t := 68) C dX9_findsSteps_61 (n := 64) rfl (by decide) (fun c23 => ?_) (fun c23 => ?_)
      · have h := h.1 c23
        refine dk_aload_n (i := 0) C dX9_findsSteps_68 (n := 69) rfl rfl rfl ?_
        refine gf_X9_62 C (hmi 60 (by decide) (by decide)) dX9_findsSteps_69 (n := 72) rfl ?_
        refine dk_iload C dX9_findsSteps_72 (n := 74) rfl (i := 5) rfl ?_
        refine dk_cald C dk_sh75 h.1 (hmi 75 (by decide) (by decide)) dX9_findsSteps_74 (n := 75) rfl ?_
        have h := h.2
        refine dk_bipush (v := 43) C dX9_findsSteps_75 (n := 77) rfl (by decide) ?_
        refine dk_icmp_ne (t := 84) C dX9_findsSteps_77 (n := 80) rfl (by decide) (fun c22 => ?_) (fun c22 => ?_)
        · have h := h.1 c22
          refine dk_aload_n (i := 0) C dX9_findsSteps_84 (n := 85) rfl rfl rfl ?_
          refine gf_X9_62 C (hmi 60 (by decide) (by decide)) dX9_findsSteps_85 (n := 88) rfl ?_
          refine dk_iload C dX9_findsSteps_88 (n := 90) rfl (i := 5) rfl ?_
          refine dk_cald C dk_sh75 h.1 (hmi 75 (by decide) (by decide)) dX9_findsSteps_90 (n := 91) rfl ?_
          have h := h.2
          refine dk_callSi C [] (cc_X9_isDoor C.D  h) yy_X9_isDoor dk_wm_X9_190 dX9_findsSteps_91 (fun r20 s19 h => ?_) rfl ⟨Nat.le_of_ble_eq_true rfl, Nat.le_of_ble_eq_true rfl⟩ rfl (Nat.le_of_ble_eq_true rfl) rfl (n := 94) rfl
          refine dk_if_eq (t := 101) C dX9_findsSteps_94 (n := 97) rfl (by decide) (fun c21 => ?_) (fun c21 => ?_)
          · have h := h.1 c21
            refine dk_ldc (v := 100000) C dX9_findsSteps_101 (n := 103) rfl dk_wk_X9_189 ?_
            refine dk_sub (L0 := [some (dk_r G 4 60), none, some (.int x2), some (.int x3), some (.int x4), some (.int x5), none, none, none, none]) ⟨rfl, ⟨rfl, ⟨rfl, ⟨rfl, ⟨rfl, trivial⟩⟩⟩⟩⟩ ?_
            exact ww_X9_findsSteps_103 C hr hlk hmi hB hE236 x2 x3 x4 x5 100000 s19 h
          · have h := h.2 c21
            refine dk_iload_n (i := 3) C dX9_findsSteps_97 (n := 98) rfl rfl rfl ?_
            refine dk_goto (t := 103) C dX9_findsSteps_98 (by decide) ?_
            refine dk_sub (L0 := [some (dk_r G 4 60), none, some (.int x2), some (.int x3), some (.int x4), some (.int x5), none, none, none, none]) ⟨rfl, ⟨rfl, ⟨rfl, ⟨rfl, ⟨rfl, trivial⟩⟩⟩⟩⟩ ?_
            exact ww_X9_findsSteps_103 C hr hlk hmi hB hE236 x2 x3 x4 x5 x3 s19 h
        · have h := h.2 c22
          refine dk_iload_n (i := 2) C dX9_findsSteps_80 (n := 81) rfl rfl rfl ?_
          refine dk_goto (t := 103) C dX9_findsSteps_81 (by decide) ?_
          refine dk_sub (L0 := [some (dk_r G 4 60), none, some (.int x2), some (.int x3), some (.int x4), some (.int x5), none, none, none, none]) ⟨rfl, ⟨rfl, ⟨rfl, ⟨rfl, ⟨rfl, trivial⟩⟩⟩⟩⟩ ?_
          exact ww_X9_findsSteps_103 C hr hlk hmi hB hE236 x2 x3 x4 x5 x2 s17 h
      · have h := h.2 c23
        refine dk_iconst (v := 1) C dX9_findsSteps_64 (n := 65) rfl (by decide) ?_
        refine dk_goto (t := 103) C dX9_findsSteps_65 (by decide) ?_
        refine dk_sub (L0 := [some (dk_r G 4 60), none, some (.int x2), some (.int x3), some (.int x4), some (.int x5), none, none, none, none]) ⟨rfl, ⟨rfl, ⟨rfl, ⟨rfl, ⟨rfl, trivial⟩⟩⟩⟩⟩ ?_
        exact ww_X9_findsSteps_103 C hr hlk hmi hB hE236 x2 x3 x4 x5 1 s17 h
set_option maxRecDepth 20000 in
set_option maxHeartbeats 4000000 in
theorem ww_X9_findsSteps_36 {G : dk_G} {P : Program} {l : Launch} {e : Env} {S0 : State} {m : MethodId} {args : Array Value} {bel : List Frame} {meth : Method} {c : Code}  (C : dk_C G P (dk_rm 4) S0 m args c 0 0 cX9_findsSteps 10 RX9) (hr : meth.sig.returnType = none) (hlk : meth.locks = false) (hmi : dk_MI G) {K : dk_S → Prop}  : ∀ (n : Nat) (x2 : Int32) (x3 : Int32) (x4 : Int32) (s : dk_S), wf_X9_findsSteps_36 K n x2 x3 x4 s → dk_W G P l e (dk_rm 4) S0 m args bel meth c 0 0 (MQ bel (dk_Qc G (dk_kv K)) args S0 0 0 (dk_A G)) 36 [some (dk_r G 4 60), none, some (.int x2), some (.int x3), some (.int x4), none, none, none, none, none] [] s := by
  intro n
  induction n with
  | zero => intro x2 x3 x4 s h; exact False.elim h
  | succ n hB =>
    intro x2 x3 x4 s h
    unfold wf_X9_findsSteps_36 at h
    refine dk_iload C dX9_findsSteps_36 (n := 38) rfl (i := 4) rfl ?_
    refine dk_if_eq (t := 239) C dX9_findsSteps_38 (n := 41) rfl (by decide) (fun c13 => ?_) (fun c13 => ?_)
    · have h := h.1 c13
      exact dk_vret C hr hlk dX9_findsSteps_239 ⟨rfl, h⟩
    · have h := h.2 c13
      refine dk_iconst (v := 0) C dX9_findsSteps_41 (n := 42) rfl (by decide) ?_
      refine dk_istore (i := 4) (L' := [some (dk_r G 4 60), none, some (.int x2), some (.int x3), some (.int 0), none, none, none, none, none]) C dX9_findsSteps_42 (n := 44) rfl (dk_nc_of rfl) (Nat.le_of_ble_eq_true rfl) rfl ?_
      refine dk_iconst (v := 0) C dX9_findsSteps_44 (n := 45) rfl (by decide) ?_
      refine dk_istore (i := 5) (L' := [some (dk_r G 4 60), none, some (.int x2), some (.int x3), some (.int 0), some (.int 0), none, none, none, none]) C dX9_findsSteps_45 (n := 47) rfl (dk_nc_of rfl) (Nat.le_of_ble_eq_true rfl) rfl ?_
      obtain ⟨nn12, h⟩ := h
      refine dk_sub (L0 := [some (dk_r G 4 60), none, some (.int x2), some (.int x3), some (.int 0), some (.int 0), none, none, none, none]) ⟨rfl, ⟨rfl, ⟨rfl, ⟨rfl, ⟨rfl, trivial⟩⟩⟩⟩⟩ ?_
      refine ww_X9_findsSteps_47 C hr hlk hmi (fun w8 w9 w10 s11 h => ?_) nn12 x2 x3 0 0 s h
      · refine dk_goto (t := 36) C dX9_findsSteps_236 (by decide) ?_
        refine dk_sub (L0 := [some (dk_r G 4 60), none, some (.int w8), some (.int w9), some (.int w10), none, none, none, none, none]) ⟨rfl, ⟨rfl, ⟨rfl, ⟨rfl, trivial⟩⟩⟩⟩ ?_
        exact hB w8 w9 w10 s11 h
set_option maxRecDepth 20000 in
set_option maxHeartbeats 4000000 in
theorem ww_X9_findsSteps_3 {G : dk_G} {P : Program} {l : Launch} {e : Env} {S0 : State} {m : MethodId} {args : Array Value} {bel : List Frame} {meth : Method} {c : Code}  (C : dk_C G P (dk_rm 4) S0 m args c 0 0 cX9_findsSteps 10 RX9) (hr : meth.sig.returnType = none) (hlk : meth.locks = false) (hmi : dk_MI G) {K : dk_S → Prop} {E26 : Int32 → Int32 → Int32 → dk_S → Prop} (hE26 : ∀ (x1 : Int32) (x2 : Int32) (x3 : Int32) (s : dk_S), E26 x1 x2 x3 s → dk_W G P l e (dk_rm 4) S0 m args bel meth c 0 0 (MQ bel (dk_Qc G (dk_kv K)) args S0 0 0 (dk_A G)) 26 [some (dk_r G 4 60), some (.int x1), some (.int x2), some (.int x3), none, none, none, none, none, none] [] s) : ∀ (n : Nat) (x1 : Int32) (x2 : Int32) (x3 : Int32) (x4 : Int32) (s : dk_S), wf_X9_findsSteps_3 K E26 n x1 x2 x3 x4 s → dk_W G P l e (dk_rm 4) S0 m args bel meth c 0 0 (MQ bel (dk_Qc G (dk_kv K)) args S0 0 0 (dk_A G)) 3 [some (dk_r G 4 60), some (.int x1), some (.int x2), some (.int x3), some (.int x4), none, none, none, none, none] [] s := by
  intro n
  induction n with
  | zero => intro x1 x2 x3 x4 s h; exact False.elim h
  | succ n hB =>
    intro x1 x2 x3 x4 s h
    unfold wf_X9_findsSteps_3 at h
    refine dk_iload C dX9_findsSteps_3 (n := 5) rfl (i := 4) rfl ?_
    refine dk_sipush (v := 144) C dX9_findsSteps_5 (n := 8) rfl (by decide) ?_
    refine dk_icmp_ge (t := 26) C dX9_findsSteps_8 (n := 11) rfl (by decide) (fun c16 => ?_) (fun c16 => ?_)
    · have h := h.1 c16
      refine dk_sub (L0 := [some (dk_r G 4 60), some (.int x1), some (.int x2), some (.int x3), none, none, none, none, none, none]) ⟨rfl, ⟨rfl, ⟨rfl, ⟨rfl, trivial⟩⟩⟩⟩ ?_
      exact hE26 x1 x2 x3 s h
    · have h := h.2 c16
      refine dk_aload_n (i := 0) C dX9_findsSteps_11 (n := 12) rfl rfl rfl ?_
      refine gf_X9_98 C (hmi 60 (by decide) (by decide)) dX9_findsSteps_12 (n := 15) rfl ?_
      refine dk_iload C dX9_findsSteps_15 (n := 17) rfl (i := 4) rfl ?_
      refine dk_ldc (v := 100000) C dX9_findsSteps_17 (n := 19) rfl dk_wk_X9_189 ?_
      refine dk_iast C dk_sh86 h.1 (hmi 86 (by decide) (by decide)) dX9_findsSteps_19 (n := 20) rfl ?_
      refine dk_nameS (fun s14 es14 => ?_)
      have h := h.2 s14 es14
      obtain ⟨v15, ev15⟩ : ∃ y : Int32, y = x4 + 1 := ⟨_, rfl⟩
      have h := h v15 ev15
      refine dk_iinc (i := 4) (v := v15) (L' := [some (dk_r G 4 60), some (.int x1), some (.int x2), some (.int x3), some (.int v15), none, none, none, none, none]) C dX9_findsSteps_20 (n := 23) rfl rfl (by rw [ev15]; rfl) (dk_nc_of rfl) (Nat.le_of_ble_eq_true rfl) rfl ?_
      refine dk_goto (t := 3) C dX9_findsSteps_23 (by decide) ?_
      refine dk_sub (L0 := [some (dk_r G 4 60), some (.int x1), some (.int x2), some (.int x3), some (.int v15), none, none, none, none, none]) ⟨rfl, ⟨rfl, ⟨rfl, ⟨rfl, ⟨rfl, trivial⟩⟩⟩⟩⟩ ?_
      exact hB x1 x2 x3 v15 s14 h
set_option maxRecDepth 20000 in
set_option maxHeartbeats 4000000 in
theorem cc_X9_findsSteps {G : dk_G} {l : Launch} {a1 : Int32} {a2 : Int32} {a3 : Int32} (hD : dk_D G) (hmi : dk_MI G) {s : dk_S} {K : dk_S → Prop} (h : wf_X9_findsSteps a1 a2 a3 s K) : dk_M G l 4 yX9_findsSteps cX9_findsSteps 10 none [dk_r G 4 60, .int a1, .int a2, .int a3] s (dk_kv K) := by
  refine dk_of hD (by decide) [some (dk_r G 4 60), some (.int a1), some (.int a2), some (.int a3), none, none, none, none, none, none] (fun q hq => hq) rfl (Nat.le_of_ble_eq_true rfl) (fun P e S0 m args bel meth c C hr hlk => ?_)
  unfold wf_X9_findsSteps at h
  refine dk_iconst (v := 0) C dX9_findsSteps_0 (n := 1) rfl (by decide) ?_
  refine dk_istore (i := 4) (L' := [some (dk_r G 4 60), some (.int a1), some (.int a2), some (.int a3), some (.int 0), none, none, none, none, none]) C dX9_findsSteps_1 (n := 3) rfl (dk_nc_of rfl) (Nat.le_of_ble_eq_true rfl) rfl ?_
  obtain ⟨nn7, h⟩ := h
  refine dk_sub (L0 := [some (dk_r G 4 60), some (.int a1), some (.int a2), some (.int a3), some (.int 0), none, none, none, none, none]) ⟨rfl, ⟨rfl, ⟨rfl, ⟨rfl, ⟨rfl, trivial⟩⟩⟩⟩⟩ ?_
  refine ww_X9_findsSteps_3 C hr hlk hmi (fun w1 w2 w3 s4 h => ?_) nn7 a1 a2 a3 0 s h
  · refine dk_aload_n (i := 0) C dX9_findsSteps_26 (n := 27) rfl rfl rfl ?_
    refine gf_X9_98 C (hmi 60 (by decide) (by decide)) dX9_findsSteps_27 (n := 30) rfl ?_
    refine dk_iload_n (i := 1) C dX9_findsSteps_30 (n := 31) rfl rfl rfl ?_
    refine dk_iconst (v := 0) C dX9_findsSteps_31 (n := 32) rfl (by decide) ?_
    refine dk_iast C dk_sh86 h.1 (hmi 86 (by decide) (by decide)) dX9_findsSteps_32 (n := 33) rfl ?_
    refine dk_nameS (fun s5 es5 => ?_)
    have h := h.2 s5 es5
    refine dk_iconst (v := 1) C dX9_findsSteps_33 (n := 34) rfl (by decide) ?_
    refine dk_istore (i := 4) (L' := [some (dk_r G 4 60), some (.int w1), some (.int w2), some (.int w3), some (.int 1), none, none, none, none, none]) C dX9_findsSteps_34 (n := 36) rfl (dk_nc_of rfl) (Nat.le_of_ble_eq_true rfl) rfl ?_
    obtain ⟨nn6, h⟩ := h
    refine dk_sub (L0 := [some (dk_r G 4 60), none, some (.int w2), some (.int w3), some (.int 1), none, none, none, none, none]) ⟨rfl, ⟨rfl, ⟨rfl, ⟨rfl, trivial⟩⟩⟩⟩ ?_
    refine ww_X9_findsSteps_36 C hr hlk hmi  nn6 w2 w3 1 s5 h
