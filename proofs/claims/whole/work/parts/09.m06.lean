/-! X9_lives -/
def wf_X9_lives (a1 : Int32) (s : dk_S) (K : Int32 → dk_S → Prop) : Prop :=
  (vp_in a1 8 ∧ (((s 4 77 a1.toNatClampNeg) ≤ 0 → K 0 s) ∧ (¬ (s 4 77 a1.toNatClampNeg) ≤ 0 → K 1 s)))
set_option maxRecDepth 20000 in
set_option maxHeartbeats 4000000 in
theorem cc_X9_lives {G : dk_G} {l : Launch} {a1 : Int32} (hD : dk_D G) (hmi : dk_MI G) {s : dk_S} {K : Int32 → dk_S → Prop} (h : wf_X9_lives a1 s K) : dk_M G l 1 yX9_lives cX9_lives 2 (some .boolean) [dk_r G 4 60, .int a1] s (dk_ki K) := by
  refine dk_of hD (by decide) [some (dk_r G 4 60), some (.int a1)] (fun q hq => hq) rfl (Nat.le_of_ble_eq_true rfl) (fun P e S0 m args bel meth c C hr hlk => ?_)
  unfold wf_X9_lives at h
  refine dk_aload_n (i := 0) C dX9_lives_0 (n := 1) rfl rfl rfl ?_
  refine gf_X9_68 C (hmi 60 (by decide) (by decide)) dX9_lives_1 (n := 4) rfl ?_
  refine dk_iload_n (i := 1) C dX9_lives_4 (n := 5) rfl rfl rfl ?_
  refine dk_iald C dk_sh77 h.1 (hmi 77 (by decide) (by decide)) dX9_lives_5 (n := 6) rfl ?_
  have h := h.2
  refine dk_if_le (t := 13) C dX9_lives_6 (n := 9) rfl (by decide) (fun c1 => ?_) (fun c1 => ?_)
  · have h := h.1 c1
    refine dk_iconst (v := 0) C dX9_lives_13 (n := 14) rfl (by decide) ?_
    exact dk_iret C hr hlk dk_nz0 dX9_lives_14 ⟨_, rfl, h⟩
  · have h := h.2 c1
    refine dk_iconst (v := 1) C dX9_lives_9 (n := 10) rfl (by decide) ?_
    refine dk_goto (t := 14) C dX9_lives_10 (by decide) ?_
    exact dk_iret C hr hlk dk_nz1 dX9_lives_14 ⟨_, rfl, h⟩
/-! X9_sounds -/
def wf_X9_sounds_12  (K : Int32 → dk_S → Prop) : Nat → Int32 → Int32 → Int32 → Int32 → dk_S → Prop
  | 0, _, _, _, _, _ => False
  | n + 1, x1, x2, x3, x4, s => (((s 4 60 10) ≤ x4 → K x3 s) ∧ (¬ (s 4 60 10) ≤ x4 → wf_X9_lives x4 s (fun r4 s3 => ((r4 = 0 → ∀ v5 : Int32, v5 = x4 + 1 → wf_X9_sounds_12 K n x1 x2 x3 v5 s3) ∧ (¬ r4 = 0 → (vp_in x4 8 ∧ (vp_in (s3 4 76 x4.toNatClampNeg) 144 ∧ ((x2 < (s3 4 86 (s3 4 76 x4.toNatClampNeg).toNatClampNeg) → ∀ v6 : Int32, v6 = x4 + 1 → wf_X9_sounds_12 K n x1 x2 x3 v6 s3) ∧ (¬ x2 < (s3 4 86 (s3 4 76 x4.toNatClampNeg).toNatClampNeg) → (vp_in x4 8 ∧ (∀ s7 : dk_S, s7 = dk_row s3 4 81 (upd (s3 4 81) x4.toNatClampNeg x1) → ∀ v8 : Int32, v8 = x3 + 1 → ∀ v9 : Int32, v9 = x4 + 1 → wf_X9_sounds_12 K n x1 x2 v8 v9 s7)))))))))))
def wf_X9_sounds (a1 : Int32) (a2 : Int32) (s : dk_S) (K : Int32 → dk_S → Prop) : Prop :=
  wf_X9_findsSteps a1 3 3 s (fun s1 => ∃ nn2 : Nat, wf_X9_sounds_12 K nn2 a1 a2 0 1 s1)
set_option maxRecDepth 20000 in
set_option maxHeartbeats 4000000 in
theorem ww_X9_sounds_12 {G : dk_G} {P : Program} {l : Launch} {e : Env} {S0 : State} {m : MethodId} {args : Array Value} {bel : List Frame} {meth : Method} {c : Code}  (C : dk_C G P (dk_rm 5) S0 m args c 0 0 cX9_sounds 5 RX9) (hr : meth.sig.returnType = (some .int)) (hlk : meth.locks = false) (hmi : dk_MI G) {K : Int32 → dk_S → Prop}  : ∀ (n : Nat) (x1 : Int32) (x2 : Int32) (x3 : Int32) (x4 : Int32) (s : dk_S), wf_X9_sounds_12 K n x1 x2 x3 x4 s → dk_W G P l e (dk_rm 5) S0 m args bel meth c 0 0 (MQ bel (dk_Qc G (dk_ki K)) args S0 0 0 (dk_A G)) 12 [some (dk_r G 4 60), some (.int x1), some (.int x2), some (.int x3), some (.int x4)] [] s := by
  intro n
  induction n with
  | zero => intro x1 x2 x3 x4 s h; exact False.elim h
  | succ n hB =>
    intro x1 x2 x3 x4 s h
    unfold wf_X9_sounds_12 at h
    refine dk_iload C dX9_sounds_12 (n := 14) rfl (i := 4) rfl ?_
    refine dk_aload_n (i := 0) C dX9_sounds_14 (n := 15) rfl rfl rfl ?_
    refine gf_X9_34 C (hmi 60 (by decide) (by decide)) dX9_sounds_15 (n := 18) rfl ?_
    refine dk_icmp_ge (t := 63) C dX9_sounds_18 (n := 21) rfl (by decide) (fun c12 => ?_) (fun c12 => ?_)
    · have h := h.1 c12
      refine dk_iload_n (i := 3) C dX9_sounds_63 (n := 64) rfl rfl rfl ?_
      exact dk_iret C hr hlk rfl dX9_sounds_64 ⟨_, rfl, h⟩
    · have h := h.2 c12
      refine dk_aload_n (i := 0) C dX9_sounds_21 (n := 22) rfl rfl rfl ?_
      refine dk_iload C dX9_sounds_22 (n := 24) rfl (i := 4) rfl ?_
      refine dk_callVi C [] (cc_X9_lives C.D hmi h) yy_X9_lives dk_wm_X9_200 dk_sh60 (hmi 60 (by decide) (by decide)) dX9_sounds_24 (fun r4 s3 h => ?_) rfl rfl ⟨Nat.le_of_ble_eq_true rfl, Nat.le_of_ble_eq_true rfl⟩ rfl (Nat.le_of_ble_eq_true rfl) rfl (n := 27) rfl
      refine dk_if_eq (t := 57) C dX9_sounds_27 (n := 30) rfl (by decide) (fun c11 => ?_) (fun c11 => ?_)
      · have h := h.1 c11
        obtain ⟨v5, ev5⟩ : ∃ y : Int32, y = x4 + 1 := ⟨_, rfl⟩
        have h := h v5 ev5
        refine dk_iinc (i := 4) (v := v5) (L' := [some (dk_r G 4 60), some (.int x1), some (.int x2), some (.int x3), some (.int v5)]) C dX9_sounds_57 (n := 60) rfl rfl (by rw [ev5]; rfl) (dk_nc_of rfl) (Nat.le_of_ble_eq_true rfl) rfl ?_
        refine dk_goto (t := 12) C dX9_sounds_60 (by decide) ?_
        refine dk_sub (L0 := [some (dk_r G 4 60), some (.int x1), some (.int x2), some (.int x3), some (.int v5)]) ⟨rfl, ⟨rfl, ⟨rfl, ⟨rfl, ⟨rfl, trivial⟩⟩⟩⟩⟩ ?_
        exact hB x1 x2 x3 v5 s3 h
      · have h := h.2 c11
        refine dk_aload_n (i := 0) C dX9_sounds_30 (n := 31) rfl rfl rfl ?_
        refine gf_X9_98 C (hmi 60 (by decide) (by decide)) dX9_sounds_31 (n := 34) rfl ?_
        refine dk_aload_n (i := 0) C dX9_sounds_34 (n := 35) rfl rfl rfl ?_
        refine gf_X9_65 C (hmi 60 (by decide) (by decide)) dX9_sounds_35 (n := 38) rfl ?_
        refine dk_iload C dX9_sounds_38 (n := 40) rfl (i := 4) rfl ?_
        refine dk_iald C dk_sh76 h.1 (hmi 76 (by decide) (by decide)) dX9_sounds_40 (n := 41) rfl ?_
        have h := h.2
        refine dk_iald C dk_sh86 h.1 (hmi 86 (by decide) (by decide)) dX9_sounds_41 (n := 42) rfl ?_
        have h := h.2
        refine dk_iload_n (i := 2) C dX9_sounds_42 (n := 43) rfl rfl rfl ?_
        refine dk_icmp_gt (t := 57) C dX9_sounds_43 (n := 46) rfl (by decide) (fun c10 => ?_) (fun c10 => ?_)
        · have h := h.1 c10
          obtain ⟨v6, ev6⟩ : ∃ y : Int32, y = x4 + 1 := ⟨_, rfl⟩
          have h := h v6 ev6
          refine dk_iinc (i := 4) (v := v6) (L' := [some (dk_r G 4 60), some (.int x1), some (.int x2), some (.int x3), some (.int v6)]) C dX9_sounds_57 (n := 60) rfl rfl (by rw [ev6]; rfl) (dk_nc_of rfl) (Nat.le_of_ble_eq_true rfl) rfl ?_
          refine dk_goto (t := 12) C dX9_sounds_60 (by decide) ?_
          refine dk_sub (L0 := [some (dk_r G 4 60), some (.int x1), some (.int x2), some (.int x3), some (.int v6)]) ⟨rfl, ⟨rfl, ⟨rfl, ⟨rfl, ⟨rfl, trivial⟩⟩⟩⟩⟩ ?_
          exact hB x1 x2 x3 v6 s3 h
        · have h := h.2 c10
          refine dk_aload_n (i := 0) C dX9_sounds_46 (n := 47) rfl rfl rfl ?_
          refine gf_X9_80 C (hmi 60 (by decide) (by decide)) dX9_sounds_47 (n := 50) rfl ?_
          refine dk_iload C dX9_sounds_50 (n := 52) rfl (i := 4) rfl ?_
          refine dk_iload_n (i := 1) C dX9_sounds_52 (n := 53) rfl rfl rfl ?_
          refine dk_iast C dk_sh81 h.1 (hmi 81 (by decide) (by decide)) dX9_sounds_53 (n := 54) rfl ?_
          refine dk_nameS (fun s7 es7 => ?_)
          have h := h.2 s7 es7
          obtain ⟨v8, ev8⟩ : ∃ y : Int32, y = x3 + 1 := ⟨_, rfl⟩
          have h := h v8 ev8
          refine dk_iinc (i := 3) (v := v8) (L' := [some (dk_r G 4 60), some (.int x1), some (.int x2), some (.int v8), some (.int x4)]) C dX9_sounds_54 (n := 57) rfl rfl (by rw [ev8]; rfl) (dk_nc_of rfl) (Nat.le_of_ble_eq_true rfl) rfl ?_
          obtain ⟨v9, ev9⟩ : ∃ y : Int32, y = x4 + 1 := ⟨_, rfl⟩
          have h := h v9 ev9
          refine dk_iinc (i := 4) (v := v9) (L' := [some (dk_r G 4 60), some (.int x1), some (.int x2), some (.int v8), some (.int v9)]) C dX9_sounds_57 (n := 60) rfl rfl (by rw [ev9]; rfl) (dk_nc_of rfl) (Nat.le_of_ble_eq_true rfl) rfl ?_
          refine dk_goto (t := 12) C dX9_sounds_60 (by decide) ?_
          refine dk_sub (L0 := [some (dk_r G 4 60), some (.int x1), some (.int x2), some (.int v8), some (.int v9)]) ⟨rfl, ⟨rfl, ⟨rfl, ⟨rfl, ⟨rfl, trivial⟩⟩⟩⟩⟩ ?_
          exact hB x1 x2 v8 v9 s7 h
set_option maxRecDepth 20000 in
set_option maxHeartbeats 4000000 in
theorem cc_X9_sounds {G : dk_G} {l : Launch} {a1 : Int32} {a2 : Int32} (hD : dk_D G) (hmi : dk_MI G) {s : dk_S} {K : Int32 → dk_S → Prop} (h : wf_X9_sounds a1 a2 s K) : dk_M G l 5 yX9_sounds cX9_sounds 5 (some .int) [dk_r G 4 60, .int a1, .int a2] s (dk_ki K) := by
  refine dk_of hD (by decide) [some (dk_r G 4 60), some (.int a1), some (.int a2), none, none] (fun q hq => hq) rfl (Nat.le_of_ble_eq_true rfl) (fun P e S0 m args bel meth c C hr hlk => ?_)
  unfold wf_X9_sounds at h
  refine dk_aload_n (i := 0) C dX9_sounds_0 (n := 1) rfl rfl rfl ?_
  refine dk_iload_n (i := 1) C dX9_sounds_1 (n := 2) rfl rfl rfl ?_
  refine dk_iconst (v := 3) C dX9_sounds_2 (n := 3) rfl (by decide) ?_
  refine dk_iconst (v := 3) C dX9_sounds_3 (n := 4) rfl (by decide) ?_
  refine dk_callVv C [] (cc_X9_findsSteps C.D hmi h) yy_X9_findsSteps dk_wm_X9_196 dk_sh60 (hmi 60 (by decide) (by decide)) dX9_sounds_4 (fun s1 h => ?_) rfl rfl ⟨Nat.le_of_ble_eq_true rfl, Nat.le_of_ble_eq_true rfl⟩ rfl (Nat.le_of_ble_eq_true rfl) rfl (n := 7) rfl
  refine dk_iconst (v := 0) C dX9_sounds_7 (n := 8) rfl (by decide) ?_
  refine dk_istore_n (i := 3) (L' := [some (dk_r G 4 60), some (.int a1), some (.int a2), some (.int 0), none]) C dX9_sounds_8 (n := 9) rfl rfl (dk_nc_of rfl) (Nat.le_of_ble_eq_true rfl) rfl ?_
  refine dk_iconst (v := 1) C dX9_sounds_9 (n := 10) rfl (by decide) ?_
  refine dk_istore (i := 4) (L' := [some (dk_r G 4 60), some (.int a1), some (.int a2), some (.int 0), some (.int 1)]) C dX9_sounds_10 (n := 12) rfl (dk_nc_of rfl) (Nat.le_of_ble_eq_true rfl) rfl ?_
  obtain ⟨nn2, h⟩ := h
  refine dk_sub (L0 := [some (dk_r G 4 60), some (.int a1), some (.int a2), some (.int 0), some (.int 1)]) ⟨rfl, ⟨rfl, ⟨rfl, ⟨rfl, ⟨rfl, trivial⟩⟩⟩⟩⟩ ?_
  refine ww_X9_sounds_12 C hr hlk hmi  nn2 a1 a2 0 1 s1 h
/-! X9_isBag -/
def wf_X9_isBag (a1 : Int32) (s : dk_S) (K : Int32 → dk_S → Prop) : Prop :=
  (vp_in a1 24 ∧ ((¬ (s 4 71 a1.toNatClampNeg) = 6 → K 0 s) ∧ ((s 4 71 a1.toNatClampNeg) = 6 → K 1 s)))
set_option maxRecDepth 20000 in
set_option maxHeartbeats 4000000 in
theorem cc_X9_isBag {G : dk_G} {l : Launch} {a1 : Int32} (hD : dk_D G) (hmi : dk_MI G) {s : dk_S} {K : Int32 → dk_S → Prop} (h : wf_X9_isBag a1 s K) : dk_M G l 1 yX9_isBag cX9_isBag 2 (some .boolean) [dk_r G 4 60, .int a1] s (dk_ki K) := by
  refine dk_of hD (by decide) [some (dk_r G 4 60), some (.int a1)] (fun q hq => hq) rfl (Nat.le_of_ble_eq_true rfl) (fun P e S0 m args bel meth c C hr hlk => ?_)
  unfold wf_X9_isBag at h
  refine dk_aload_n (i := 0) C dX9_isBag_0 (n := 1) rfl rfl rfl ?_
  refine gf_X9_50 C (hmi 60 (by decide) (by decide)) dX9_isBag_1 (n := 4) rfl ?_
  refine dk_iload_n (i := 1) C dX9_isBag_4 (n := 5) rfl rfl rfl ?_
  refine dk_iald C dk_sh71 h.1 (hmi 71 (by decide) (by decide)) dX9_isBag_5 (n := 6) rfl ?_
  have h := h.2
  refine dk_bipush (v := 6) C dX9_isBag_6 (n := 8) rfl (by decide) ?_
  refine dk_icmp_ne (t := 15) C dX9_isBag_8 (n := 11) rfl (by decide) (fun c1 => ?_) (fun c1 => ?_)
  · have h := h.1 c1
    refine dk_iconst (v := 0) C dX9_isBag_15 (n := 16) rfl (by decide) ?_
    exact dk_iret C hr hlk dk_nz0 dX9_isBag_16 ⟨_, rfl, h⟩
  · have h := h.2 c1
    refine dk_iconst (v := 1) C dX9_isBag_11 (n := 12) rfl (by decide) ?_
    refine dk_goto (t := 16) C dX9_isBag_12 (by decide) ?_
    exact dk_iret C hr hlk dk_nz1 dX9_isBag_16 ⟨_, rfl, h⟩
/-! X9_isWithin -/
def wf_X9_isWithin_7  (K : Int32 → dk_S → Prop) (E34 : Int32 → dk_S → Prop) : Nat → Int32 → Int32 → dk_S → Prop
  | 0, _, _, _ => False
  | n + 1, x2, x3, s => (((-3) < x3 → E34 x3 s) ∧ (¬ (-3) < x3 → ((((-3) - x3) = x2 → E34 x3 s) ∧ (¬ ((-3) - x3) = x2 → (vp_in ((-3) - x3) 24 ∧ ∀ v6 : Int32, v6 = s 4 82 ((-3) - x3).toNatClampNeg → wf_X9_isWithin_7 K E34 n x2 v6 s)))))
def wf_X9_isWithin (a1 : Int32) (a2 : Int32) (s : dk_S) (K : Int32 → dk_S → Prop) : Prop :=
  (vp_in a1 24 ∧ ∀ v1 : Int32, v1 = s 4 82 a1.toNatClampNeg → ∃ nn5 : Nat, wf_X9_isWithin_7 K (fun (w2 : Int32) (s3 : dk_S) => (((-3) < w2 → K 0 s3) ∧ (¬ (-3) < w2 → K 1 s3))) nn5 a2 v1 s)
set_option maxRecDepth 20000 in
set_option maxHeartbeats 4000000 in
theorem ww_X9_isWithin_7 {G : dk_G} {P : Program} {l : Launch} {e : Env} {S0 : State} {m : MethodId} {args : Array Value} {bel : List Frame} {meth : Method} {c : Code}  (C : dk_C G P (dk_rm 1) S0 m args c 0 0 cX9_isWithin 4 RX9) (hr : meth.sig.returnType = (some .boolean)) (hlk : meth.locks = false) (hmi : dk_MI G) {K : Int32 → dk_S → Prop} {E34 : Int32 → dk_S → Prop} (hE34 : ∀ (x3 : Int32) (s : dk_S), E34 x3 s → dk_W G P l e (dk_rm 1) S0 m args bel meth c 0 0 (MQ bel (dk_Qc G (dk_ki K)) args S0 0 0 (dk_A G)) 34 [none, none, none, some (.int x3)] [] s) : ∀ (n : Nat) (x2 : Int32) (x3 : Int32) (s : dk_S), wf_X9_isWithin_7 K E34 n x2 x3 s → dk_W G P l e (dk_rm 1) S0 m args bel meth c 0 0 (MQ bel (dk_Qc G (dk_ki K)) args S0 0 0 (dk_A G)) 7 [some (dk_r G 4 60), none, some (.int x2), some (.int x3)] [] s := by
  intro n
  induction n with
  | zero => intro x2 x3 s h; exact False.elim h
  | succ n hB =>
    intro x2 x3 s h
    unfold wf_X9_isWithin_7 at h
    refine dk_iload_n (i := 3) C dX9_isWithin_7 (n := 8) rfl rfl rfl ?_
    refine dk_bipush (v := (-3)) C dX9_isWithin_8 (n := 10) rfl (by decide) ?_
    refine dk_icmp_gt (t := 34) C dX9_isWithin_10 (n := 13) rfl (by decide) (fun c8 => ?_) (fun c8 => ?_)
    · have h := h.1 c8
      refine dk_sub (L0 := [none, none, none, some (.int x3)]) ⟨rfl, trivial⟩ ?_
      exact hE34 x3 s h
    · have h := h.2 c8
      refine dk_bipush (v := (-3)) C dX9_isWithin_13 (n := 15) rfl (by decide) ?_
      refine dk_iload_n (i := 3) C dX9_isWithin_15 (n := 16) rfl rfl rfl ?_
      refine dk_isub C dX9_isWithin_16 (n := 17) rfl ?_
      refine dk_iload_n (i := 2) C dX9_isWithin_17 (n := 18) rfl rfl rfl ?_
      refine dk_icmp_eq (t := 34) C dX9_isWithin_18 (n := 21) rfl (by decide) (fun c7 => ?_) (fun c7 => ?_)
      · have h := h.1 c7
        refine dk_sub (L0 := [none, none, none, some (.int x3)]) ⟨rfl, trivial⟩ ?_
        exact hE34 x3 s h
      · have h := h.2 c7
        refine dk_aload_n (i := 0) C dX9_isWithin_21 (n := 22) rfl rfl rfl ?_
        refine gf_X9_83 C (hmi 60 (by decide) (by decide)) dX9_isWithin_22 (n := 25) rfl ?_
        refine dk_bipush (v := (-3)) C dX9_isWithin_25 (n := 27) rfl (by decide) ?_
        refine dk_iload_n (i := 3) C dX9_isWithin_27 (n := 28) rfl rfl rfl ?_
        refine dk_isub C dX9_isWithin_28 (n := 29) rfl ?_
        refine dk_iald C dk_sh82 h.1 (hmi 82 (by decide) (by decide)) dX9_isWithin_29 (n := 30) rfl ?_
        have h := h.2
        refine dk_name (fun v6 ev6 => ?_)
        have h := h v6 ev6
        refine dk_istore_n (i := 3) (L' := [some (dk_r G 4 60), none, some (.int x2), some (.int v6)]) C dX9_isWithin_30 (n := 31) rfl rfl (dk_nc_of rfl) (Nat.le_of_ble_eq_true rfl) rfl ?_
        refine dk_goto (t := 7) C dX9_isWithin_31 (by decide) ?_
        refine dk_sub (L0 := [some (dk_r G 4 60), none, some (.int x2), some (.int v6)]) ⟨rfl, ⟨rfl, ⟨rfl, trivial⟩⟩⟩ ?_
        exact hB x2 v6 s h
set_option maxRecDepth 20000 in
set_option maxHeartbeats 4000000 in
theorem cc_X9_isWithin {G : dk_G} {l : Launch} {a1 : Int32} {a2 : Int32} (hD : dk_D G) (hmi : dk_MI G) {s : dk_S} {K : Int32 → dk_S → Prop} (h : wf_X9_isWithin a1 a2 s K) : dk_M G l 1 yX9_isWithin cX9_isWithin 4 (some .boolean) [dk_r G 4 60, .int a1, .int a2] s (dk_ki K) := by
  refine dk_of hD (by decide) [some (dk_r G 4 60), some (.int a1), some (.int a2), none] (fun q hq => hq) rfl (Nat.le_of_ble_eq_true rfl) (fun P e S0 m args bel meth c C hr hlk => ?_)
  unfold wf_X9_isWithin at h
  refine dk_aload_n (i := 0) C dX9_isWithin_0 (n := 1) rfl rfl rfl ?_
  refine gf_X9_83 C (hmi 60 (by decide) (by decide)) dX9_isWithin_1 (n := 4) rfl ?_
  refine dk_iload_n (i := 1) C dX9_isWithin_4 (n := 5) rfl rfl rfl ?_
  refine dk_iald C dk_sh82 h.1 (hmi 82 (by decide) (by decide)) dX9_isWithin_5 (n := 6) rfl ?_
  have h := h.2
  refine dk_name (fun v1 ev1 => ?_)
  have h := h v1 ev1
  refine dk_istore_n (i := 3) (L' := [some (dk_r G 4 60), some (.int a1), some (.int a2), some (.int v1)]) C dX9_isWithin_6 (n := 7) rfl rfl (dk_nc_of rfl) (Nat.le_of_ble_eq_true rfl) rfl ?_
  obtain ⟨nn5, h⟩ := h
  refine dk_sub (L0 := [some (dk_r G 4 60), none, some (.int a2), some (.int v1)]) ⟨rfl, ⟨rfl, ⟨rfl, trivial⟩⟩⟩ ?_
  refine ww_X9_isWithin_7 C hr hlk hmi (fun w2 s3 h => ?_) nn5 a2 v1 s h
  · refine dk_iload_n (i := 3) C dX9_isWithin_34 (n := 35) rfl rfl rfl ?_
    refine dk_bipush (v := (-3)) C dX9_isWithin_35 (n := 37) rfl (by decide) ?_
    refine dk_icmp_gt (t := 44) C dX9_isWithin_37 (n := 40) rfl (by decide) (fun c4 => ?_) (fun c4 => ?_)
    · have h := h.1 c4
      refine dk_iconst (v := 0) C dX9_isWithin_44 (n := 45) rfl (by decide) ?_
      exact dk_iret C hr hlk dk_nz0 dX9_isWithin_45 ⟨_, rfl, h⟩
    · have h := h.2 c4
      refine dk_iconst (v := 1) C dX9_isWithin_40 (n := 41) rfl (by decide) ?_
      refine dk_goto (t := 45) C dX9_isWithin_41 (by decide) ?_
      exact dk_iret C hr hlk dk_nz1 dX9_isWithin_45 ⟨_, rfl, h⟩
/-! X9_outermost -/
def wf_X9_outermost_7  (K : Int32 → dk_S → Prop) : Nat → Int32 → dk_S → Prop
  | 0, _, _ => False
  | n + 1, x2, s => (((-3) < x2 → K x2 s) ∧ (¬ (-3) < x2 → (vp_in ((-3) - x2) 24 ∧ ∀ v3 : Int32, v3 = s 4 82 ((-3) - x2).toNatClampNeg → wf_X9_outermost_7 K n v3 s)))
def wf_X9_outermost (a1 : Int32) (s : dk_S) (K : Int32 → dk_S → Prop) : Prop :=
  (vp_in a1 24 ∧ ∀ v1 : Int32, v1 = s 4 82 a1.toNatClampNeg → ∃ nn2 : Nat, wf_X9_outermost_7 K nn2 v1 s)
set_option maxRecDepth 20000 in
set_option maxHeartbeats 4000000 in
theorem ww_X9_outermost_7 {G : dk_G} {P : Program} {l : Launch} {e : Env} {S0 : State} {m : MethodId} {args : Array Value} {bel : List Frame} {meth : Method} {c : Code}  (C : dk_C G P (dk_rm 1) S0 m args c 0 0 cX9_outermost 3 RX9) (hr : meth.sig.returnType = (some .int)) (hlk : meth.locks = false) (hmi : dk_MI G) {K : Int32 → dk_S → Prop}  : ∀ (n : Nat) (x2 : Int32) (s : dk_S), wf_X9_outermost_7 K n x2 s → dk_W G P l e (dk_rm 1) S0 m args bel meth c 0 0 (MQ bel (dk_Qc G (dk_ki K)) args S0 0 0 (dk_A G)) 7 [some (dk_r G 4 60), none, some (.int x2)] [] s := by
  intro n
  induction n with
  | zero => intro x2 s h; exact False.elim h
  | succ n hB =>
    intro x2 s h
    unfold wf_X9_outermost_7 at h
    refine dk_iload_n (i := 2) C dX9_outermost_7 (n := 8) rfl rfl rfl ?_
    refine dk_bipush (v := (-3)) C dX9_outermost_8 (n := 10) rfl (by decide) ?_
    refine dk_icmp_gt (t := 26) C dX9_outermost_10 (n := 13) rfl (by decide) (fun c4 => ?_) (fun c4 => ?_)
    · have h := h.1 c4
      refine dk_iload_n (i := 2) C dX9_outermost_26 (n := 27) rfl rfl rfl ?_
      exact dk_iret C hr hlk rfl dX9_outermost_27 ⟨_, rfl, h⟩
    · have h := h.2 c4
      refine dk_aload_n (i := 0) C dX9_outermost_13 (n := 14) rfl rfl rfl ?_
      refine gf_X9_83 C (hmi 60 (by decide) (by decide)) dX9_outermost_14 (n := 17) rfl ?_
      refine dk_bipush (v := (-3)) C dX9_outermost_17 (n := 19) rfl (by decide) ?_
      refine dk_iload_n (i := 2) C dX9_outermost_19 (n := 20) rfl rfl rfl ?_
      refine dk_isub C dX9_outermost_20 (n := 21) rfl ?_
      refine dk_iald C dk_sh82 h.1 (hmi 82 (by decide) (by decide)) dX9_outermost_21 (n := 22) rfl ?_
      have h := h.2
      refine dk_name (fun v3 ev3 => ?_)
      have h := h v3 ev3
      refine dk_istore_n (i := 2) (L' := [some (dk_r G 4 60), none, some (.int v3)]) C dX9_outermost_22 (n := 23) rfl rfl (dk_nc_of rfl) (Nat.le_of_ble_eq_true rfl) rfl ?_
      refine dk_goto (t := 7) C dX9_outermost_23 (by decide) ?_
      refine dk_sub (L0 := [some (dk_r G 4 60), none, some (.int v3)]) ⟨rfl, ⟨rfl, trivial⟩⟩ ?_
      exact hB v3 s h
set_option maxRecDepth 20000 in
set_option maxHeartbeats 4000000 in
theorem cc_X9_outermost {G : dk_G} {l : Launch} {a1 : Int32} (hD : dk_D G) (hmi : dk_MI G) {s : dk_S} {K : Int32 → dk_S → Prop} (h : wf_X9_outermost a1 s K) : dk_M G l 1 yX9_outermost cX9_outermost 3 (some .int) [dk_r G 4 60, .int a1] s (dk_ki K) := by
  refine dk_of hD (by decide) [some (dk_r G 4 60), some (.int a1), none] (fun q hq => hq) rfl (Nat.le_of_ble_eq_true rfl) (fun P e S0 m args bel meth c C hr hlk => ?_)
  unfold wf_X9_outermost at h
  refine dk_aload_n (i := 0) C dX9_outermost_0 (n := 1) rfl rfl rfl ?_
  refine gf_X9_83 C (hmi 60 (by decide) (by decide)) dX9_outermost_1 (n := 4) rfl ?_
  refine dk_iload_n (i := 1) C dX9_outermost_4 (n := 5) rfl rfl rfl ?_
  refine dk_iald C dk_sh82 h.1 (hmi 82 (by decide) (by decide)) dX9_outermost_5 (n := 6) rfl ?_
  have h := h.2
  refine dk_name (fun v1 ev1 => ?_)
  have h := h v1 ev1
  refine dk_istore_n (i := 2) (L' := [some (dk_r G 4 60), some (.int a1), some (.int v1)]) C dX9_outermost_6 (n := 7) rfl rfl (dk_nc_of rfl) (Nat.le_of_ble_eq_true rfl) rfl ?_
  obtain ⟨nn2, h⟩ := h
  refine dk_sub (L0 := [some (dk_r G 4 60), none, some (.int v1)]) ⟨rfl, ⟨rfl, trivial⟩⟩ ?_
  refine ww_X9_outermost_7 C hr hlk hmi  nn2 v1 s h
/-! X9_wholeWeight -/
def wf_X9_wholeWeight_14  (K : Int32 → dk_S → Prop) : Nat → Int32 → Int32 → Int32 → dk_S → Prop
  | 0, _, _, _, _ => False
  | n + 1, x1, x2, x3, s => (((s 4 60 15) ≤ x3 → K x2 s) ∧ (¬ (s 4 60 15) ≤ x3 → ((x3 = x1 → ∀ v3 : Int32, v3 = x2 + 0 → ∀ v4 : Int32, v4 = x3 + 1 → wf_X9_wholeWeight_14 K n x1 v3 v4 s) ∧ (¬ x3 = x1 → wf_X9_isWithin x3 x1 s (fun r6 s5 => ((r6 = 0 → ∀ v7 : Int32, v7 = x2 + 0 → ∀ v8 : Int32, v8 = x3 + 1 → wf_X9_wholeWeight_14 K n x1 v7 v8 s5) ∧ (¬ r6 = 0 → (vp_in x3 24 ∧ (vp_in (s5 4 71 x3.toNatClampNeg) 8 ∧ ∀ v9 : Int32, v9 = x2 + (s5 4 62 (s5 4 71 x3.toNatClampNeg).toNatClampNeg) → ∀ v10 : Int32, v10 = x3 + 1 → wf_X9_wholeWeight_14 K n x1 v9 v10 s5)))))))))
def wf_X9_wholeWeight (a1 : Int32) (s : dk_S) (K : Int32 → dk_S → Prop) : Prop :=
  (vp_in a1 24 ∧ (vp_in (s 4 71 a1.toNatClampNeg) 8 ∧ ∀ v1 : Int32, v1 = s 4 62 (s 4 71 a1.toNatClampNeg).toNatClampNeg → ∃ nn2 : Nat, wf_X9_wholeWeight_14 K nn2 a1 v1 0 s))
set_option maxRecDepth 20000 in
set_option maxHeartbeats 4000000 in
theorem ww_X9_wholeWeight_14 {G : dk_G} {P : Program} {l : Launch} {e : Env} {S0 : State} {m : MethodId} {args : Array Value} {bel : List Frame} {meth : Method} {c : Code}  (C : dk_C G P (dk_rm 2) S0 m args c 0 0 cX9_wholeWeight 4 RX9) (hr : meth.sig.returnType = (some .int)) (hlk : meth.locks = false) (hmi : dk_MI G) {K : Int32 → dk_S → Prop}  : ∀ (n : Nat) (x1 : Int32) (x2 : Int32) (x3 : Int32) (s : dk_S), wf_X9_wholeWeight_14 K n x1 x2 x3 s → dk_W G P l e (dk_rm 2) S0 m args bel meth c 0 0 (MQ bel (dk_Qc G (dk_ki K)) args S0 0 0 (dk_A G)) 14 [some (dk_r G 4 60), some (.int x1), some (.int x2), some (.int x3)] [] s := by
  intro n
  induction n with
  | zero => intro x1 x2 x3 s h; exact False.elim h
  | succ n hB =>
    intro x1 x2 x3 s h
    unfold wf_X9_wholeWeight_14 at h
    refine dk_iload_n (i := 3) C dX9_wholeWeight_14 (n := 15) rfl rfl rfl ?_
    refine dk_aload_n (i := 0) C dX9_wholeWeight_15 (n := 16) rfl rfl rfl ?_
    refine gf_X9_162 C (hmi 60 (by decide) (by decide)) dX9_wholeWeight_16 (n := 19) rfl ?_
    refine dk_icmp_ge (t := 60) C dX9_wholeWeight_19 (n := 22) rfl (by decide) (fun c13 => ?_) (fun c13 => ?_)
    · have h := h.1 c13
      refine dk_iload_n (i := 2) C dX9_wholeWeight_60 (n := 61) rfl rfl rfl ?_
      exact dk_iret C hr hlk rfl dX9_wholeWeight_61 ⟨_, rfl, h⟩
    · have h := h.2 c13
      refine dk_iload_n (i := 2) C dX9_wholeWeight_22 (n := 23) rfl rfl rfl ?_
      refine dk_iload_n (i := 3) C dX9_wholeWeight_23 (n := 24) rfl rfl rfl ?_
      refine dk_iload_n (i := 1) C dX9_wholeWeight_24 (n := 25) rfl rfl rfl ?_
      refine dk_icmp_eq (t := 51) C dX9_wholeWeight_25 (n := 28) rfl (by decide) (fun c12 => ?_) (fun c12 => ?_)
      · have h := h.1 c12
        refine dk_iconst (v := 0) C dX9_wholeWeight_51 (n := 52) rfl (by decide) ?_
        refine dk_iadd C dX9_wholeWeight_52 (n := 53) rfl ?_
        refine dk_name (fun v3 ev3 => ?_)
        have h := h v3 ev3
        refine dk_istore_n (i := 2) (L' := [some (dk_r G 4 60), some (.int x1), some (.int v3), some (.int x3)]) C dX9_wholeWeight_53 (n := 54) rfl rfl (dk_nc_of rfl) (Nat.le_of_ble_eq_true rfl) rfl ?_
        obtain ⟨v4, ev4⟩ : ∃ y : Int32, y = x3 + 1 := ⟨_, rfl⟩
        have h := h v4 ev4
        refine dk_iinc (i := 3) (v := v4) (L' := [some (dk_r G 4 60), some (.int x1), some (.int v3), some (.int v4)]) C dX9_wholeWeight_54 (n := 57) rfl rfl (by rw [ev4]; rfl) (dk_nc_of rfl) (Nat.le_of_ble_eq_true rfl) rfl ?_
        refine dk_goto (t := 14) C dX9_wholeWeight_57 (by decide) ?_
        refine dk_sub (L0 := [some (dk_r G 4 60), some (.int x1), some (.int v3), some (.int v4)]) ⟨rfl, ⟨rfl, ⟨rfl, ⟨rfl, trivial⟩⟩⟩⟩ ?_
        exact hB x1 v3 v4 s h
      · have h := h.2 c12
        refine dk_aload_n (i := 0) C dX9_wholeWeight_28 (n := 29) rfl rfl rfl ?_
        refine dk_iload_n (i := 3) C dX9_wholeWeight_29 (n := 30) rfl rfl rfl ?_
        refine dk_iload_n (i := 1) C dX9_wholeWeight_30 (n := 31) rfl rfl rfl ?_
        refine dk_callVi C [.int x2] (cc_X9_isWithin C.D hmi h) yy_X9_isWithin dk_wm_X9_203 dk_sh60 (hmi 60 (by decide) (by decide)) dX9_wholeWeight_31 (fun r6 s5 h => ?_) rfl rfl ⟨Nat.le_of_ble_eq_true rfl, Nat.le_of_ble_eq_true rfl⟩ rfl (Nat.le_of_ble_eq_true rfl) rfl (n := 34) rfl
        refine dk_if_eq (t := 51) C dX9_wholeWeight_34 (n := 37) rfl (by decide) (fun c11 => ?_) (fun c11 => ?_)
        · have h := h.1 c11
          refine dk_iconst (v := 0) C dX9_wholeWeight_51 (n := 52) rfl (by decide) ?_
          refine dk_iadd C dX9_wholeWeight_52 (n := 53) rfl ?_
          refine dk_name (fun v7 ev7 => ?_)
          have h := h v7 ev7
          refine dk_istore_n (i := 2) (L' := [some (dk_r G 4 60), some (.int x1), some (.int v7), some (.int x3)]) C dX9_wholeWeight_53 (n := 54) rfl rfl (dk_nc_of rfl) (Nat.le_of_ble_eq_true rfl) rfl ?_
          obtain ⟨v8, ev8⟩ : ∃ y : Int32, y = x3 + 1 := ⟨_, rfl⟩
          have h := h v8 ev8
          refine dk_iinc (i := 3) (v := v8) (L' := [some (dk_r G 4 60), some (.int x1), some (.int v7), some (.int v8)]) C dX9_wholeWeight_54 (n := 57) rfl rfl (by rw [ev8]; rfl) (dk_nc_of rfl) (Nat.le_of_ble_eq_true rfl) rfl ?_
          refine dk_goto (t := 14) C dX9_wholeWeight_57 (by decide) ?_
          refine dk_sub (L0 := [some (dk_r G 4 60), some (.int x1), some (.int v7), some (.int v8)]) ⟨rfl, ⟨rfl, ⟨rfl, ⟨rfl, trivial⟩⟩⟩⟩ ?_
          exact hB x1 v7 v8 s5 h
        · have h := h.2 c11
          refine dk_aload_n (i := 0) C dX9_wholeWeight_37 (n := 38) rfl rfl rfl ?_
          refine gf_X9_17 C (hmi 60 (by decide) (by decide)) dX9_wholeWeight_38 (n := 41) rfl ?_
          refine dk_aload_n (i := 0) C dX9_wholeWeight_41 (n := 42) rfl rfl rfl ?_
          refine gf_X9_50 C (hmi 60 (by decide) (by decide)) dX9_wholeWeight_42 (n := 45) rfl ?_
          refine dk_iload_n (i := 3) C dX9_wholeWeight_45 (n := 46) rfl rfl rfl ?_
          refine dk_iald C dk_sh71 h.1 (hmi 71 (by decide) (by decide)) dX9_wholeWeight_46 (n := 47) rfl ?_
          have h := h.2
          refine dk_iald C dk_sh62 h.1 (hmi 62 (by decide) (by decide)) dX9_wholeWeight_47 (n := 48) rfl ?_
          have h := h.2
          refine dk_goto (t := 52) C dX9_wholeWeight_48 (by decide) ?_
          refine dk_iadd C dX9_wholeWeight_52 (n := 53) rfl ?_
          refine dk_name (fun v9 ev9 => ?_)
          have h := h v9 ev9
          refine dk_istore_n (i := 2) (L' := [some (dk_r G 4 60), some (.int x1), some (.int v9), some (.int x3)]) C dX9_wholeWeight_53 (n := 54) rfl rfl (dk_nc_of rfl) (Nat.le_of_ble_eq_true rfl) rfl ?_
          obtain ⟨v10, ev10⟩ : ∃ y : Int32, y = x3 + 1 := ⟨_, rfl⟩
          have h := h v10 ev10
          refine dk_iinc (i := 3) (v := v10) (L' := [some (dk_r G 4 60), some (.int x1), some (.int v9), some (.int v10)]) C dX9_wholeWeight_54 (n := 57) rfl rfl (by rw [ev10]; rfl) (dk_nc_of rfl) (Nat.le_of_ble_eq_true rfl) rfl ?_
          refine dk_goto (t := 14) C dX9_wholeWeight_57 (by decide) ?_
          refine dk_sub (L0 := [some (dk_r G 4 60), some (.int x1), some (.int v9), some (.int v10)]) ⟨rfl, ⟨rfl, ⟨rfl, ⟨rfl, trivial⟩⟩⟩⟩ ?_
          exact hB x1 v9 v10 s5 h
set_option maxRecDepth 20000 in
set_option maxHeartbeats 4000000 in
theorem cc_X9_wholeWeight {G : dk_G} {l : Launch} {a1 : Int32} (hD : dk_D G) (hmi : dk_MI G) {s : dk_S} {K : Int32 → dk_S → Prop} (h : wf_X9_wholeWeight a1 s K) : dk_M G l 2 yX9_wholeWeight cX9_wholeWeight 4 (some .int) [dk_r G 4 60, .int a1] s (dk_ki K) := by
  refine dk_of hD (by decide) [some (dk_r G 4 60), some (.int a1), none, none] (fun q hq => hq) rfl (Nat.le_of_ble_eq_true rfl) (fun P e S0 m args bel meth c C hr hlk => ?_)
  unfold wf_X9_wholeWeight at h
  refine dk_aload_n (i := 0) C dX9_wholeWeight_0 (n := 1) rfl rfl rfl ?_
  refine gf_X9_17 C (hmi 60 (by decide) (by decide)) dX9_wholeWeight_1 (n := 4) rfl ?_
  refine dk_aload_n (i := 0) C dX9_wholeWeight_4 (n := 5) rfl rfl rfl ?_
  refine gf_X9_50 C (hmi 60 (by decide) (by decide)) dX9_wholeWeight_5 (n := 8) rfl ?_
  refine dk_iload_n (i := 1) C dX9_wholeWeight_8 (n := 9) rfl rfl rfl ?_
  refine dk_iald C dk_sh71 h.1 (hmi 71 (by decide) (by decide)) dX9_wholeWeight_9 (n := 10) rfl ?_
  have h := h.2
  refine dk_iald C dk_sh62 h.1 (hmi 62 (by decide) (by decide)) dX9_wholeWeight_10 (n := 11) rfl ?_
  have h := h.2
  refine dk_name (fun v1 ev1 => ?_)
  have h := h v1 ev1
  refine dk_istore_n (i := 2) (L' := [some (dk_r G 4 60), some (.int a1), some (.int v1), none]) C dX9_wholeWeight_11 (n := 12) rfl rfl (dk_nc_of rfl) (Nat.le_of_ble_eq_true rfl) rfl ?_
  refine dk_iconst (v := 0) C dX9_wholeWeight_12 (n := 13) rfl (by decide) ?_
  refine dk_istore_n (i := 3) (L' := [some (dk_r G 4 60), some (.int a1), some (.int v1), some (.int 0)]) C dX9_wholeWeight_13 (n := 14) rfl rfl (dk_nc_of rfl) (Nat.le_of_ble_eq_true rfl) rfl ?_
  obtain ⟨nn2, h⟩ := h
  refine dk_sub (L0 := [some (dk_r G 4 60), some (.int a1), some (.int v1), some (.int 0)]) ⟨rfl, ⟨rfl, ⟨rfl, ⟨rfl, trivial⟩⟩⟩⟩ ?_
  refine ww_X9_wholeWeight_14 C hr hlk hmi  nn2 a1 v1 0 s h
/-! X9_carriedWeight -/
def wf_X9_carriedWeight_4  (K : Int32 → dk_S → Prop) : Nat → Int32 → Int32 → dk_S → Prop
  | 0, _, _, _ => False
  | n + 1, x1, x2, s => (((s 4 60 15) ≤ x2 → K x1 s) ∧ (¬ (s 4 60 15) ≤ x2 → wf_X9_outermost x2 s (fun r3 s2 => ((¬ r3 = (-1) → ∀ v4 : Int32, v4 = x1 + 0 → ∀ v5 : Int32, v5 = x2 + 1 → wf_X9_carriedWeight_4 K n v4 v5 s2) ∧ (r3 = (-1) → (vp_in x2 24 ∧ (vp_in (s2 4 71 x2.toNatClampNeg) 8 ∧ ∀ v6 : Int32, v6 = x1 + (s2 4 62 (s2 4 71 x2.toNatClampNeg).toNatClampNeg) → ∀ v7 : Int32, v7 = x2 + 1 → wf_X9_carriedWeight_4 K n v6 v7 s2)))))))
def wf_X9_carriedWeight  (s : dk_S) (K : Int32 → dk_S → Prop) : Prop :=
  ∃ nn1 : Nat, wf_X9_carriedWeight_4 K nn1 0 0 s
set_option maxRecDepth 20000 in
set_option maxHeartbeats 4000000 in
theorem ww_X9_carriedWeight_4 {G : dk_G} {P : Program} {l : Launch} {e : Env} {S0 : State} {m : MethodId} {args : Array Value} {bel : List Frame} {meth : Method} {c : Code}  (C : dk_C G P (dk_rm 2) S0 m args c 0 0 cX9_carriedWeight 3 RX9) (hr : meth.sig.returnType = (some .int)) (hlk : meth.locks = false) (hmi : dk_MI G) {K : Int32 → dk_S → Prop}  : ∀ (n : Nat) (x1 : Int32) (x2 : Int32) (s : dk_S), wf_X9_carriedWeight_4 K n x1 x2 s → dk_W G P l e (dk_rm 2) S0 m args bel meth c 0 0 (MQ bel (dk_Qc G (dk_ki K)) args S0 0 0 (dk_A G)) 4 [some (dk_r G 4 60), some (.int x1), some (.int x2)] [] s := by
  intro n
  induction n with
  | zero => intro x1 x2 s h; exact False.elim h
  | succ n hB =>
    intro x1 x2 s h
    unfold wf_X9_carriedWeight_4 at h
    refine dk_iload_n (i := 2) C dX9_carriedWeight_4 (n := 5) rfl rfl rfl ?_
    refine dk_aload_n (i := 0) C dX9_carriedWeight_5 (n := 6) rfl rfl rfl ?_
    refine gf_X9_162 C (hmi 60 (by decide) (by decide)) dX9_carriedWeight_6 (n := 9) rfl ?_
    refine dk_icmp_ge (t := 45) C dX9_carriedWeight_9 (n := 12) rfl (by decide) (fun c9 => ?_) (fun c9 => ?_)
    · have h := h.1 c9
      refine dk_iload_n (i := 1) C dX9_carriedWeight_45 (n := 46) rfl rfl rfl ?_
      exact dk_iret C hr hlk rfl dX9_carriedWeight_46 ⟨_, rfl, h⟩
    · have h := h.2 c9
      refine dk_iload_n (i := 1) C dX9_carriedWeight_12 (n := 13) rfl rfl rfl ?_
      refine dk_aload_n (i := 0) C dX9_carriedWeight_13 (n := 14) rfl rfl rfl ?_
      refine dk_iload_n (i := 2) C dX9_carriedWeight_14 (n := 15) rfl rfl rfl ?_
      refine dk_callVi C [.int x1] (cc_X9_outermost C.D hmi h) yy_X9_outermost dk_wm_X9_206 dk_sh60 (hmi 60 (by decide) (by decide)) dX9_carriedWeight_15 (fun r3 s2 h => ?_) rfl rfl ⟨Nat.le_of_ble_eq_true rfl, Nat.le_of_ble_eq_true rfl⟩ rfl (Nat.le_of_ble_eq_true rfl) rfl (n := 18) rfl
      refine dk_iconst (v := (-1)) C dX9_carriedWeight_18 (n := 19) rfl (by decide) ?_
      refine dk_icmp_ne (t := 36) C dX9_carriedWeight_19 (n := 22) rfl (by decide) (fun c8 => ?_) (fun c8 => ?_)
      · have h := h.1 c8
        refine dk_iconst (v := 0) C dX9_carriedWeight_36 (n := 37) rfl (by decide) ?_
        refine dk_iadd C dX9_carriedWeight_37 (n := 38) rfl ?_
        refine dk_name (fun v4 ev4 => ?_)
        have h := h v4 ev4
        refine dk_istore_n (i := 1) (L' := [some (dk_r G 4 60), some (.int v4), some (.int x2)]) C dX9_carriedWeight_38 (n := 39) rfl rfl (dk_nc_of rfl) (Nat.le_of_ble_eq_true rfl) rfl ?_
        obtain ⟨v5, ev5⟩ : ∃ y : Int32, y = x2 + 1 := ⟨_, rfl⟩
        have h := h v5 ev5
        refine dk_iinc (i := 2) (v := v5) (L' := [some (dk_r G 4 60), some (.int v4), some (.int v5)]) C dX9_carriedWeight_39 (n := 42) rfl rfl (by rw [ev5]; rfl) (dk_nc_of rfl) (Nat.le_of_ble_eq_true rfl) rfl ?_
        refine dk_goto (t := 4) C dX9_carriedWeight_42 (by decide) ?_
        refine dk_sub (L0 := [some (dk_r G 4 60), some (.int v4), some (.int v5)]) ⟨rfl, ⟨rfl, ⟨rfl, trivial⟩⟩⟩ ?_
        exact hB v4 v5 s2 h
      · have h := h.2 c8
        refine dk_aload_n (i := 0) C dX9_carriedWeight_22 (n := 23) rfl rfl rfl ?_
        refine gf_X9_17 C (hmi 60 (by decide) (by decide)) dX9_carriedWeight_23 (n := 26) rfl ?_
        refine dk_aload_n (i := 0) C dX9_carriedWeight_26 (n := 27) rfl rfl rfl ?_
        refine gf_X9_50 C (hmi 60 (by decide) (by decide)) dX9_carriedWeight_27 (n := 30) rfl ?_
        refine dk_iload_n (i := 2) C dX9_carriedWeight_30 (n := 31) rfl rfl rfl ?_
        refine dk_iald C dk_sh71 h.1 (hmi 71 (by decide) (by decide)) dX9_carriedWeight_31 (n := 32) rfl ?_
        have h := h.2
        refine dk_iald C dk_sh62 h.1 (hmi 62 (by decide) (by decide)) dX9_carriedWeight_32 (n := 33) rfl ?_
        have h := h.2
        refine dk_goto (t := 37) C dX9_carriedWeight_33 (by decide) ?_
        refine dk_iadd C dX9_carriedWeight_37 (n := 38) rfl ?_
        refine dk_name (fun v6 ev6 => ?_)
        have h := h v6 ev6
        refine dk_istore_n (i := 1) (L' := [some (dk_r G 4 60), some (.int v6), some (.int x2)]) C dX9_carriedWeight_38 (n := 39) rfl rfl (dk_nc_of rfl) (Nat.le_of_ble_eq_true rfl) rfl ?_
        obtain ⟨v7, ev7⟩ : ∃ y : Int32, y = x2 + 1 := ⟨_, rfl⟩
        have h := h v7 ev7
        refine dk_iinc (i := 2) (v := v7) (L' := [some (dk_r G 4 60), some (.int v6), some (.int v7)]) C dX9_carriedWeight_39 (n := 42) rfl rfl (by rw [ev7]; rfl) (dk_nc_of rfl) (Nat.le_of_ble_eq_true rfl) rfl ?_
        refine dk_goto (t := 4) C dX9_carriedWeight_42 (by decide) ?_
        refine dk_sub (L0 := [some (dk_r G 4 60), some (.int v6), some (.int v7)]) ⟨rfl, ⟨rfl, ⟨rfl, trivial⟩⟩⟩ ?_
        exact hB v6 v7 s2 h
set_option maxRecDepth 20000 in
set_option maxHeartbeats 4000000 in
theorem cc_X9_carriedWeight {G : dk_G} {l : Launch}  (hD : dk_D G) (hmi : dk_MI G) {s : dk_S} {K : Int32 → dk_S → Prop} (h : wf_X9_carriedWeight s K) : dk_M G l 2 yX9_carriedWeight cX9_carriedWeight 3 (some .int) [dk_r G 4 60] s (dk_ki K) := by
  refine dk_of hD (by decide) [some (dk_r G 4 60), none, none] (fun q hq => hq) rfl (Nat.le_of_ble_eq_true rfl) (fun P e S0 m args bel meth c C hr hlk => ?_)
  unfold wf_X9_carriedWeight at h
  refine dk_iconst (v := 0) C dX9_carriedWeight_0 (n := 1) rfl (by decide) ?_
  refine dk_istore_n (i := 1) (L' := [some (dk_r G 4 60), some (.int 0), none]) C dX9_carriedWeight_1 (n := 2) rfl rfl (dk_nc_of rfl) (Nat.le_of_ble_eq_true rfl) rfl ?_
  refine dk_iconst (v := 0) C dX9_carriedWeight_2 (n := 3) rfl (by decide) ?_
  refine dk_istore_n (i := 2) (L' := [some (dk_r G 4 60), some (.int 0), some (.int 0)]) C dX9_carriedWeight_3 (n := 4) rfl rfl (dk_nc_of rfl) (Nat.le_of_ble_eq_true rfl) rfl ?_
  obtain ⟨nn1, h⟩ := h
  refine dk_sub (L0 := [some (dk_r G 4 60), some (.int 0), some (.int 0)]) ⟨rfl, ⟨rfl, ⟨rfl, trivial⟩⟩⟩ ?_
  refine ww_X9_carriedWeight_4 C hr hlk hmi  nn1 0 0 s h
/-! X9_carries -/
def wf_X9_carries_4  (K : Int32 → dk_S → Prop) : Nat → Int32 → Int32 → Int32 → dk_S → Prop
  | 0, _, _, _, _ => False
  | n + 1, x1, x2, x3, s => (((s 4 60 15) ≤ x3 → (narrow .boolean (.int x2) = .int x2 ∧ K x2 s)) ∧ (¬ (s 4 60 15) ≤ x3 → ((¬ x2 = 0 → ∀ v2 : Int32, v2 = x3 + 1 → wf_X9_carries_4 K n x1 1 v2 s) ∧ (x2 = 0 → (vp_in x3 24 ∧ ((¬ (s 4 71 x3.toNatClampNeg) = x1 → ∀ v3 : Int32, v3 = x3 + 1 → wf_X9_carries_4 K n x1 0 v3 s) ∧ ((s 4 71 x3.toNatClampNeg) = x1 → (vp_in x3 24 ∧ ((¬ (s 4 82 x3.toNatClampNeg) = (-1) → ∀ v4 : Int32, v4 = x3 + 1 → wf_X9_carries_4 K n x1 0 v4 s) ∧ ((s 4 82 x3.toNatClampNeg) = (-1) → ∀ v5 : Int32, v5 = x3 + 1 → wf_X9_carries_4 K n x1 1 v5 s))))))))))
def wf_X9_carries (a1 : Int32) (s : dk_S) (K : Int32 → dk_S → Prop) : Prop :=
  ∃ nn1 : Nat, wf_X9_carries_4 K nn1 a1 0 0 s
set_option maxRecDepth 20000 in
set_option maxHeartbeats 4000000 in
theorem ww_X9_carries_4 {G : dk_G} {P : Program} {l : Launch} {e : Env} {S0 : State} {m : MethodId} {args : Array Value} {bel : List Frame} {meth : Method} {c : Code}  (C : dk_C G P (dk_rm 1) S0 m args c 0 0 cX9_carries 4 RX9) (hr : meth.sig.returnType = (some .boolean)) (hlk : meth.locks = false) (hmi : dk_MI G) {K : Int32 → dk_S → Prop}  : ∀ (n : Nat) (x1 : Int32) (x2 : Int32) (x3 : Int32) (s : dk_S), wf_X9_carries_4 K n x1 x2 x3 s → dk_W G P l e (dk_rm 1) S0 m args bel meth c 0 0 (MQ bel (dk_Qc G (dk_ki K)) args S0 0 0 (dk_A G)) 4 [some (dk_r G 4 60), some (.int x1), some (.int x2), some (.int x3)] [] s := by
  intro n
  induction n with
  | zero => intro x1 x2 x3 s h; exact False.elim h
  | succ n hB =>
    intro x1 x2 x3 s h
    unfold wf_X9_carries_4 at h
    refine dk_iload_n (i := 3) C dX9_carries_4 (n := 5) rfl rfl rfl ?_
    refine dk_aload_n (i := 0) C dX9_carries_5 (n := 6) rfl rfl rfl ?_
    refine gf_X9_162 C (hmi 60 (by decide) (by decide)) dX9_carries_6 (n := 9) rfl ?_
    refine dk_icmp_ge (t := 48) C dX9_carries_9 (n := 12) rfl (by decide) (fun c9 => ?_) (fun c9 => ?_)
    · have h := h.1 c9
      refine dk_iload_n (i := 2) C dX9_carries_48 (n := 49) rfl rfl rfl ?_
      exact dk_iret C hr hlk h.1 dX9_carries_49 ⟨_, rfl, h.2⟩
    · have h := h.2 c9
      refine dk_iload_n (i := 2) C dX9_carries_12 (n := 13) rfl rfl rfl ?_
      refine dk_if_ne (t := 36) C dX9_carries_13 (n := 16) rfl (by decide) (fun c8 => ?_) (fun c8 => ?_)
      · have h := h.1 c8
        refine dk_iconst (v := 1) C dX9_carries_36 (n := 37) rfl (by decide) ?_
        refine dk_goto (t := 41) C dX9_carries_37 (by decide) ?_
        refine dk_istore_n (i := 2) (L' := [some (dk_r G 4 60), some (.int x1), some (.int 1), some (.int x3)]) C dX9_carries_41 (n := 42) rfl rfl (dk_nc_of rfl) (Nat.le_of_ble_eq_true rfl) rfl ?_
        obtain ⟨v2, ev2⟩ : ∃ y : Int32, y = x3 + 1 := ⟨_, rfl⟩
        have h := h v2 ev2
        refine dk_iinc (i := 3) (v := v2) (L' := [some (dk_r G 4 60), some (.int x1), some (.int 1), some (.int v2)]) C dX9_carries_42 (n := 45) rfl rfl (by rw [ev2]; rfl) (dk_nc_of rfl) (Nat.le_of_ble_eq_true rfl) rfl ?_
        refine dk_goto (t := 4) C dX9_carries_45 (by decide) ?_
        refine dk_sub (L0 := [some (dk_r G 4 60), some (.int x1), some (.int 1), some (.int v2)]) ⟨rfl, ⟨rfl, ⟨rfl, ⟨rfl, trivial⟩⟩⟩⟩ ?_
        exact hB x1 1 v2 s h
      · have h := h.2 c8
        refine dk_aload_n (i := 0) C dX9_carries_16 (n := 17) rfl rfl rfl ?_
        refine gf_X9_50 C (hmi 60 (by decide) (by decide)) dX9_carries_17 (n := 20) rfl ?_
        refine dk_iload_n (i := 3) C dX9_carries_20 (n := 21) rfl rfl rfl ?_
        refine dk_iald C dk_sh71 h.1 (hmi 71 (by decide) (by decide)) dX9_carries_21 (n := 22) rfl ?_
        have h := h.2
        refine dk_iload_n (i := 1) C dX9_carries_22 (n := 23) rfl rfl rfl ?_
        refine dk_icmp_ne (t := 40) C dX9_carries_23 (n := 26) rfl (by decide) (fun c7 => ?_) (fun c7 => ?_)
        · have h := h.1 c7
          refine dk_iconst (v := 0) C dX9_carries_40 (n := 41) rfl (by decide) ?_
          refine dk_istore_n (i := 2) (L' := [some (dk_r G 4 60), some (.int x1), some (.int 0), some (.int x3)]) C dX9_carries_41 (n := 42) rfl rfl (dk_nc_of rfl) (Nat.le_of_ble_eq_true rfl) rfl ?_
          obtain ⟨v3, ev3⟩ : ∃ y : Int32, y = x3 + 1 := ⟨_, rfl⟩
          have h := h v3 ev3
          refine dk_iinc (i := 3) (v := v3) (L' := [some (dk_r G 4 60), some (.int x1), some (.int 0), some (.int v3)]) C dX9_carries_42 (n := 45) rfl rfl (by rw [ev3]; rfl) (dk_nc_of rfl) (Nat.le_of_ble_eq_true rfl) rfl ?_
          refine dk_goto (t := 4) C dX9_carries_45 (by decide) ?_
          refine dk_sub (L0 := [some (dk_r G 4 60), some (.int x1), some (.int 0), some (.int v3)]) ⟨rfl, ⟨rfl, ⟨rfl, ⟨rfl, trivial⟩⟩⟩⟩ ?_
          exact hB x1 0 v3 s h
        · have h := h.2 c7
          refine dk_aload_n (i := 0) C dX9_carries_26 (n := 27) rfl rfl rfl ?_
          refine gf_X9_83 C (hmi 60 (by decide) (by decide)) dX9_carries_27 (n := 30) rfl ?_
          refine dk_iload_n (i := 3) C dX9_carries_30 (n := 31) rfl rfl rfl ?_
          refine dk_iald C dk_sh82 h.1 (hmi 82 (by decide) (by decide)) dX9_carries_31 (n := 32) rfl ?_
          have h := h.2
          refine dk_iconst (v := (-1)) C dX9_carries_32 (n := 33) rfl (by decide) ?_
          refine dk_icmp_ne (t := 40) C dX9_carries_33 (n := 36) rfl (by decide) (fun c6 => ?_) (fun c6 => ?_)
          · have h := h.1 c6
            refine dk_iconst (v := 0) C dX9_carries_40 (n := 41) rfl (by decide) ?_
            refine dk_istore_n (i := 2) (L' := [some (dk_r G 4 60), some (.int x1), some (.int 0), some (.int x3)]) C dX9_carries_41 (n := 42) rfl rfl (dk_nc_of rfl) (Nat.le_of_ble_eq_true rfl) rfl ?_
            obtain ⟨v4, ev4⟩ : ∃ y : Int32, y = x3 + 1 := ⟨_, rfl⟩
            have h := h v4 ev4
            refine dk_iinc (i := 3) (v := v4) (L' := [some (dk_r G 4 60), some (.int x1), some (.int 0), some (.int v4)]) C dX9_carries_42 (n := 45) rfl rfl (by rw [ev4]; rfl) (dk_nc_of rfl) (Nat.le_of_ble_eq_true rfl) rfl ?_
            refine dk_goto (t := 4) C dX9_carries_45 (by decide) ?_
            refine dk_sub (L0 := [some (dk_r G 4 60), some (.int x1), some (.int 0), some (.int v4)]) ⟨rfl, ⟨rfl, ⟨rfl, ⟨rfl, trivial⟩⟩⟩⟩ ?_
            exact hB x1 0 v4 s h
          · have h := h.2 c6
            refine dk_iconst (v := 1) C dX9_carries_36 (n := 37) rfl (by decide) ?_
            refine dk_goto (t := 41) C dX9_carries_37 (by decide) ?_
            refine dk_istore_n (i := 2) (L' := [some (dk_r G 4 60), some (.int x1), some (.int 1), some (.int x3)]) C dX9_carries_41 (n := 42) rfl rfl (dk_nc_of rfl) (Nat.le_of_ble_eq_true rfl) rfl ?_
            obtain ⟨v5, ev5⟩ : ∃ y : Int32, y = x3 + 1 := ⟨_, rfl⟩
            have h := h v5 ev5
            refine dk_iinc (i := 3) (v := v5) (L' := [some (dk_r G 4 60), some (.int x1), some (.int 1), some (.int v5)]) C dX9_carries_42 (n := 45) rfl rfl (by rw [ev5]; rfl) (dk_nc_of rfl) (Nat.le_of_ble_eq_true rfl) rfl ?_
            refine dk_goto (t := 4) C dX9_carries_45 (by decide) ?_
            refine dk_sub (L0 := [some (dk_r G 4 60), some (.int x1), some (.int 1), some (.int v5)]) ⟨rfl, ⟨rfl, ⟨rfl, ⟨rfl, trivial⟩⟩⟩⟩ ?_
            exact hB x1 1 v5 s h
set_option maxRecDepth 20000 in
set_option maxHeartbeats 4000000 in
theorem cc_X9_carries {G : dk_G} {l : Launch} {a1 : Int32} (hD : dk_D G) (hmi : dk_MI G) {s : dk_S} {K : Int32 → dk_S → Prop} (h : wf_X9_carries a1 s K) : dk_M G l 1 yX9_carries cX9_carries 4 (some .boolean) [dk_r G 4 60, .int a1] s (dk_ki K) := by
  refine dk_of hD (by decide) [some (dk_r G 4 60), some (.int a1), none, none] (fun q hq => hq) rfl (Nat.le_of_ble_eq_true rfl) (fun P e S0 m args bel meth c C hr hlk => ?_)
  unfold wf_X9_carries at h
  refine dk_iconst (v := 0) C dX9_carries_0 (n := 1) rfl (by decide) ?_
  refine dk_istore_n (i := 2) (L' := [some (dk_r G 4 60), some (.int a1), some (.int 0), none]) C dX9_carries_1 (n := 2) rfl rfl (dk_nc_of rfl) (Nat.le_of_ble_eq_true rfl) rfl ?_
  refine dk_iconst (v := 0) C dX9_carries_2 (n := 3) rfl (by decide) ?_
  refine dk_istore_n (i := 3) (L' := [some (dk_r G 4 60), some (.int a1), some (.int 0), some (.int 0)]) C dX9_carries_3 (n := 4) rfl rfl (dk_nc_of rfl) (Nat.le_of_ble_eq_true rfl) rfl ?_
  obtain ⟨nn1, h⟩ := h
  refine dk_sub (L0 := [some (dk_r G 4 60), some (.int a1), some (.int 0), some (.int 0)]) ⟨rfl, ⟨rfl, ⟨rfl, ⟨rfl, trivial⟩⟩⟩⟩ ?_
  refine ww_X9_carries_4 C hr hlk hmi  nn1 a1 0 0 s h
/-! X9_carriesAnywhere -/
def wf_X9_carriesAnywhere_4  (K : Int32 → dk_S → Prop) : Nat → Int32 → Int32 → Int32 → dk_S → Prop
  | 0, _, _, _, _ => False
  | n + 1, x1, x2, x3, s => (((s 4 60 15) ≤ x3 → (narrow .boolean (.int x2) = .int x2 ∧ K x2 s)) ∧ (¬ (s 4 60 15) ≤ x3 → ((¬ x2 = 0 → ∀ v2 : Int32, v2 = x3 + 1 → wf_X9_carriesAnywhere_4 K n x1 1 v2 s) ∧ (x2 = 0 → (vp_in x3 24 ∧ ((¬ (s 4 71 x3.toNatClampNeg) = x1 → ∀ v3 : Int32, v3 = x3 + 1 → wf_X9_carriesAnywhere_4 K n x1 0 v3 s) ∧ ((s 4 71 x3.toNatClampNeg) = x1 → wf_X9_outermost x3 s (fun r5 s4 => ((¬ r5 = (-1) → ∀ v6 : Int32, v6 = x3 + 1 → wf_X9_carriesAnywhere_4 K n x1 0 v6 s4) ∧ (r5 = (-1) → ∀ v7 : Int32, v7 = x3 + 1 → wf_X9_carriesAnywhere_4 K n x1 1 v7 s4))))))))))
def wf_X9_carriesAnywhere (a1 : Int32) (s : dk_S) (K : Int32 → dk_S → Prop) : Prop :=
  ∃ nn1 : Nat, wf_X9_carriesAnywhere_4 K nn1 a1 0 0 s
set_option maxRecDepth 20000 in
set_option maxHeartbeats 4000000 in
theorem ww_X9_carriesAnywhere_4 {G : dk_G} {P : Program} {l : Launch} {e : Env} {S0 : State} {m : MethodId} {args : Array Value} {bel : List Frame} {meth : Method} {c : Code}  (C : dk_C G P (dk_rm 2) S0 m args c 0 0 cX9_carriesAnywhere 4 RX9) (hr : meth.sig.returnType = (some .boolean)) (hlk : meth.locks = false) (hmi : dk_MI G) {K : Int32 → dk_S → Prop}  : ∀ (n : Nat) (x1 : Int32) (x2 : Int32) (x3 : Int32) (s : dk_S), wf_X9_carriesAnywhere_4 K n x1 x2 x3 s → dk_W G P l e (dk_rm 2) S0 m args bel meth c 0 0 (MQ bel (dk_Qc G (dk_ki K)) args S0 0 0 (dk_A G)) 4 [some (dk_r G 4 60), some (.int x1), some (.int x2), some (.int x3)] [] s := by
  intro n
  induction n with
  | zero => intro x1 x2 x3 s h; exact False.elim h
  | succ n hB =>
    intro x1 x2 x3 s h
    unfold wf_X9_carriesAnywhere_4 at h
    refine dk_iload_n (i := 3) C dX9_carriesAnywhere_4 (n := 5) rfl rfl rfl ?_
    refine dk_aload_n (i := 0) C dX9_carriesAnywhere_5 (n := 6) rfl rfl rfl ?_
    refine gf_X9_162 C (hmi 60 (by decide) (by decide)) dX9_carriesAnywhere_6 (n := 9) rfl ?_
    refine dk_icmp_ge (t := 47) C dX9_carriesAnywhere_9 (n := 12) rfl (by decide) (fun c11 => ?_) (fun c11 => ?_)
    · have h := h.1 c11
      refine dk_iload_n (i := 2) C dX9_carriesAnywhere_47 (n := 48) rfl rfl rfl ?_
      exact dk_iret C hr hlk h.1 dX9_carriesAnywhere_48 ⟨_, rfl, h.2⟩
    · have h := h.2 c11
      refine dk_iload_n (i := 2) C dX9_carriesAnywhere_12 (n := 13) rfl rfl rfl ?_
      refine dk_if_ne (t := 35) C dX9_carriesAnywhere_13 (n := 16) rfl (by decide) (fun c10 => ?_) (fun c10 => ?_)
      · have h := h.1 c10
        refine dk_iconst (v := 1) C dX9_carriesAnywhere_35 (n := 36) rfl (by decide) ?_
        refine dk_goto (t := 40) C dX9_carriesAnywhere_36 (by decide) ?_
        refine dk_istore_n (i := 2) (L' := [some (dk_r G 4 60), some (.int x1), some (.int 1), some (.int x3)]) C dX9_carriesAnywhere_40 (n := 41) rfl rfl (dk_nc_of rfl) (Nat.le_of_ble_eq_true rfl) rfl ?_
        obtain ⟨v2, ev2⟩ : ∃ y : Int32, y = x3 + 1 := ⟨_, rfl⟩
        have h := h v2 ev2
        refine dk_iinc (i := 3) (v := v2) (L' := [some (dk_r G 4 60), some (.int x1), some (.int 1), some (.int v2)]) C dX9_carriesAnywhere_41 (n := 44) rfl rfl (by rw [ev2]; rfl) (dk_nc_of rfl) (Nat.le_of_ble_eq_true rfl) rfl ?_
        refine dk_goto (t := 4) C dX9_carriesAnywhere_44 (by decide) ?_
        refine dk_sub (L0 := [some (dk_r G 4 60), some (.int x1), some (.int 1), some (.int v2)]) ⟨rfl, ⟨rfl, ⟨rfl, ⟨rfl, trivial⟩⟩⟩⟩ ?_
        exact hB x1 1 v2 s h
      · have h := h.2 c10
        refine dk_aload_n (i := 0) C dX9_carriesAnywhere_16 (n := 17) rfl rfl rfl ?_
        refine gf_X9_50 C (hmi 60 (by decide) (by decide)) dX9_carriesAnywhere_17 (n := 20) rfl ?_
        refine dk_iload_n (i := 3) C dX9_carriesAnywhere_20 (n := 21) rfl rfl rfl ?_
        refine dk_iald C dk_sh71 h.1 (hmi 71 (by decide) (by decide)) dX9_carriesAnywhere_21 (n := 22) rfl ?_
        have h := h.2
        refine dk_iload_n (i := 1) C dX9_carriesAnywhere_22 (n := 23) rfl rfl rfl ?_
        refine dk_icmp_ne (t := 39) C dX9_carriesAnywhere_23 (n := 26) rfl (by decide) (fun c9 => ?_) (fun c9 => ?_)
        · have h := h.1 c9
          refine dk_iconst (v := 0) C dX9_carriesAnywhere_39 (n := 40) rfl (by decide) ?_
          refine dk_istore_n (i := 2) (L' := [some (dk_r G 4 60), some (.int x1), some (.int 0), some (.int x3)]) C dX9_carriesAnywhere_40 (n := 41) rfl rfl (dk_nc_of rfl) (Nat.le_of_ble_eq_true rfl) rfl ?_
          obtain ⟨v3, ev3⟩ : ∃ y : Int32, y = x3 + 1 := ⟨_, rfl⟩
          have h := h v3 ev3
          refine dk_iinc (i := 3) (v := v3) (L' := [some (dk_r G 4 60), some (.int x1), some (.int 0), some (.int v3)]) C dX9_carriesAnywhere_41 (n := 44) rfl rfl (by rw [ev3]; rfl) (dk_nc_of rfl) (Nat.le_of_ble_eq_true rfl) rfl ?_
          refine dk_goto (t := 4) C dX9_carriesAnywhere_44 (by decide) ?_
          refine dk_sub (L0 := [some (dk_r G 4 60), some (.int x1), some (.int 0), some (.int v3)]) ⟨rfl, ⟨rfl, ⟨rfl, ⟨rfl, trivial⟩⟩⟩⟩ ?_
          exact hB x1 0 v3 s h
        · have h := h.2 c9
          refine dk_aload_n (i := 0) C dX9_carriesAnywhere_26 (n := 27) rfl rfl rfl ?_
          refine dk_iload_n (i := 3) C dX9_carriesAnywhere_27 (n := 28) rfl rfl rfl ?_
          refine dk_callVi C [] (cc_X9_outermost C.D hmi h) yy_X9_outermost dk_wm_X9_206 dk_sh60 (hmi 60 (by decide) (by decide)) dX9_carriesAnywhere_28 (fun r5 s4 h => ?_) rfl rfl ⟨Nat.le_of_ble_eq_true rfl, Nat.le_of_ble_eq_true rfl⟩ rfl (Nat.le_of_ble_eq_true rfl) rfl (n := 31) rfl
          refine dk_iconst (v := (-1)) C dX9_carriesAnywhere_31 (n := 32) rfl (by decide) ?_
          refine dk_icmp_ne (t := 39) C dX9_carriesAnywhere_32 (n := 35) rfl (by decide) (fun c8 => ?_) (fun c8 => ?_)
          · have h := h.1 c8
            refine dk_iconst (v := 0) C dX9_carriesAnywhere_39 (n := 40) rfl (by decide) ?_
            refine dk_istore_n (i := 2) (L' := [some (dk_r G 4 60), some (.int x1), some (.int 0), some (.int x3)]) C dX9_carriesAnywhere_40 (n := 41) rfl rfl (dk_nc_of rfl) (Nat.le_of_ble_eq_true rfl) rfl ?_
            obtain ⟨v6, ev6⟩ : ∃ y : Int32, y = x3 + 1 := ⟨_, rfl⟩
            have h := h v6 ev6
            refine dk_iinc (i := 3) (v := v6) (L' := [some (dk_r G 4 60), some (.int x1), some (.int 0), some (.int v6)]) C dX9_carriesAnywhere_41 (n := 44) rfl rfl (by rw [ev6]; rfl) (dk_nc_of rfl) (Nat.le_of_ble_eq_true rfl) rfl ?_
            refine dk_goto (t := 4) C dX9_carriesAnywhere_44 (by decide) ?_
            refine dk_sub (L0 := [some (dk_r G 4 60), some (.int x1), some (.int 0), some (.int v6)]) ⟨rfl, ⟨rfl, ⟨rfl, ⟨rfl, trivial⟩⟩⟩⟩ ?_
            exact hB x1 0 v6 s4 h
          · have h := h.2 c8
            refine dk_iconst (v := 1) C dX9_carriesAnywhere_35 (n := 36) rfl (by decide) ?_
            refine dk_goto (t := 40) C dX9_carriesAnywhere_36 (by decide) ?_
            refine dk_istore_n (i := 2) (L' := [some (dk_r G 4 60), some (.int x1), some (.int 1), some (.int x3)]) C dX9_carriesAnywhere_40 (n := 41) rfl rfl (dk_nc_of rfl) (Nat.le_of_ble_eq_true rfl) rfl ?_
            obtain ⟨v7, ev7⟩ : ∃ y : Int32, y = x3 + 1 := ⟨_, rfl⟩
            have h := h v7 ev7
            refine dk_iinc (i := 3) (v := v7) (L' := [some (dk_r G 4 60), some (.int x1), some (.int 1), some (.int v7)]) C dX9_carriesAnywhere_41 (n := 44) rfl rfl (by rw [ev7]; rfl) (dk_nc_of rfl) (Nat.le_of_ble_eq_true rfl) rfl ?_
            refine dk_goto (t := 4) C dX9_carriesAnywhere_44 (by decide) ?_
            refine dk_sub (L0 := [some (dk_r G 4 60), some (.int x1), some (.int 1), some (.int v7)]) ⟨rfl, ⟨rfl, ⟨rfl, ⟨rfl, trivial⟩⟩⟩⟩ ?_
            exact hB x1 1 v7 s4 h
set_option maxRecDepth 20000 in
set_option maxHeartbeats 4000000 in
theorem cc_X9_carriesAnywhere {G : dk_G} {l : Launch} {a1 : Int32} (hD : dk_D G) (hmi : dk_MI G) {s : dk_S} {K : Int32 → dk_S → Prop} (h : wf_X9_carriesAnywhere a1 s K) : dk_M G l 2 yX9_carriesAnywhere cX9_carriesAnywhere 4 (some .boolean) [dk_r G 4 60, .int a1] s (dk_ki K) := by
  refine dk_of hD (by decide) [some (dk_r G 4 60), some (.int a1), none, none] (fun q hq => hq) rfl (Nat.le_of_ble_eq_true rfl) (fun P e S0 m args bel meth c C hr hlk => ?_)
  unfold wf_X9_carriesAnywhere at h
  refine dk_iconst (v := 0) C dX9_carriesAnywhere_0 (n := 1) rfl (by decide) ?_
  refine dk_istore_n (i := 2) (L' := [some (dk_r G 4 60), some (.int a1), some (.int 0), none]) C dX9_carriesAnywhere_1 (n := 2) rfl rfl (dk_nc_of rfl) (Nat.le_of_ble_eq_true rfl) rfl ?_
  refine dk_iconst (v := 0) C dX9_carriesAnywhere_2 (n := 3) rfl (by decide) ?_
  refine dk_istore_n (i := 3) (L' := [some (dk_r G 4 60), some (.int a1), some (.int 0), some (.int 0)]) C dX9_carriesAnywhere_3 (n := 4) rfl rfl (dk_nc_of rfl) (Nat.le_of_ble_eq_true rfl) rfl ?_
  obtain ⟨nn1, h⟩ := h
  refine dk_sub (L0 := [some (dk_r G 4 60), some (.int a1), some (.int 0), some (.int 0)]) ⟨rfl, ⟨rfl, ⟨rfl, ⟨rfl, trivial⟩⟩⟩⟩ ?_
  refine ww_X9_carriesAnywhere_4 C hr hlk hmi  nn1 a1 0 0 s h
/-! X9_speedOf -/
def wf_X9_speedOf (a1 : Int32) (s : dk_S) (K : Int32 → dk_S → Prop) : Prop :=
  (vp_in a1 8 ∧ (((s 4 80 a1.toNatClampNeg) ≤ 0 → (vp_in a1 8 ∧ K (s 4 68 a1.toNatClampNeg) s)) ∧ (¬ (s 4 80 a1.toNatClampNeg) ≤ 0 → (vp_in a1 8 ∧ K (s 4 79 a1.toNatClampNeg) s))))
set_option maxRecDepth 20000 in
set_option maxHeartbeats 4000000 in
theorem cc_X9_speedOf {G : dk_G} {l : Launch} {a1 : Int32} (hD : dk_D G) (hmi : dk_MI G) {s : dk_S} {K : Int32 → dk_S → Prop} (h : wf_X9_speedOf a1 s K) : dk_M G l 1 yX9_speedOf cX9_speedOf 2 (some .int) [dk_r G 4 60, .int a1] s (dk_ki K) := by
  refine dk_of hD (by decide) [some (dk_r G 4 60), some (.int a1)] (fun q hq => hq) rfl (Nat.le_of_ble_eq_true rfl) (fun P e S0 m args bel meth c C hr hlk => ?_)
  unfold wf_X9_speedOf at h
  refine dk_aload_n (i := 0) C dX9_speedOf_0 (n := 1) rfl rfl rfl ?_
  refine gf_X9_77 C (hmi 60 (by decide) (by decide)) dX9_speedOf_1 (n := 4) rfl ?_
  refine dk_iload_n (i := 1) C dX9_speedOf_4 (n := 5) rfl rfl rfl ?_
  refine dk_iald C dk_sh80 h.1 (hmi 80 (by decide) (by decide)) dX9_speedOf_5 (n := 6) rfl ?_
  have h := h.2
  refine dk_if_le (t := 18) C dX9_speedOf_6 (n := 9) rfl (by decide) (fun c1 => ?_) (fun c1 => ?_)
  · have h := h.1 c1
    refine dk_aload_n (i := 0) C dX9_speedOf_18 (n := 19) rfl rfl rfl ?_
    refine gf_X9_41 C (hmi 60 (by decide) (by decide)) dX9_speedOf_19 (n := 22) rfl ?_
    refine dk_iload_n (i := 1) C dX9_speedOf_22 (n := 23) rfl rfl rfl ?_
    refine dk_iald C dk_sh68 h.1 (hmi 68 (by decide) (by decide)) dX9_speedOf_23 (n := 24) rfl ?_
    have h := h.2
    exact dk_iret C hr hlk rfl dX9_speedOf_24 ⟨_, rfl, h⟩
  · have h := h.2 c1
    refine dk_aload_n (i := 0) C dX9_speedOf_9 (n := 10) rfl rfl rfl ?_
    refine gf_X9_74 C (hmi 60 (by decide) (by decide)) dX9_speedOf_10 (n := 13) rfl ?_
    refine dk_iload_n (i := 1) C dX9_speedOf_13 (n := 14) rfl rfl rfl ?_
    refine dk_iald C dk_sh79 h.1 (hmi 79 (by decide) (by decide)) dX9_speedOf_14 (n := 15) rfl ?_
    have h := h.2
    refine dk_goto (t := 24) C dX9_speedOf_15 (by decide) ?_
    exact dk_iret C hr hlk rfl dX9_speedOf_24 ⟨_, rfl, h⟩
/-! X9_isWorldOver -/
def wf_X9_isWorldOver_61  (K : Int32 → dk_S → Prop) (E106 : dk_S → Prop) : Nat → Int32 → dk_S → Prop
  | 0, _, _ => False
  | n + 1, x1, s => (((s 4 60 15) ≤ x1 → E106 s) ∧ (¬ (s 4 60 15) ≤ x1 → (vp_in x1 24 ∧ ((¬ (s 4 82 x1.toNatClampNeg) = (-1) → (vp_in x1 24 ∧ (vp_in x1 24 ∧ (∀ s8 : dk_S, s8 = dk_row s 4 82 (upd (s 4 82) x1.toNatClampNeg (s 4 82 x1.toNatClampNeg)) → ∀ v9 : Int32, v9 = x1 + 1 → wf_X9_isWorldOver_61 K E106 n v9 s8)))) ∧ ((s 4 82 x1.toNatClampNeg) = (-1) → (vp_in 0 8 ∧ (vp_in x1 24 ∧ (∀ s10 : dk_S, s10 = dk_row s 4 82 (upd (s 4 82) x1.toNatClampNeg (s 4 76 0.toNatClampNeg)) → ∀ v11 : Int32, v11 = x1 + 1 → wf_X9_isWorldOver_61 K E106 n v11 s10))))))))
def wf_X9_isWorldOver_40  (K : Int32 → dk_S → Prop) (B : Int32 → dk_S → Prop) (E59 : dk_S → Prop) (x1 : Int32) (y0 : Int32) (y1 : Int32) (s : dk_S) : Prop :=
  (vp_in y1 24 ∧ (∀ s18 : dk_S, s18 = dk_row s 4 84 (upd (s 4 84) y1.toNatClampNeg (vp_nar .boolean y0)) → (vp_in x1 24 ∧ (vp_in x1 24 ∧ (∀ s19 : dk_S, s19 = dk_row s18 4 85 (upd (s18 4 85) x1.toNatClampNeg (s18 4 82 x1.toNatClampNeg)) → ∀ v20 : Int32, v20 = x1 + 1 → B v20 s19)))))
def wf_X9_isWorldOver_13  (K : Int32 → dk_S → Prop) (E59 : dk_S → Prop) : Nat → Int32 → dk_S → Prop
  | 0, _, _ => False
  | n + 1, x1, s => (((s 4 60 15) ≤ x1 → E59 s) ∧ (¬ (s 4 60 15) ≤ x1 → wf_X9_outermost x1 s (fun r15 s14 => ((¬ r15 = (-1) → wf_X9_isWorldOver_40 K (wf_X9_isWorldOver_13 K E59 n) E59 x1 0 x1 s14) ∧ (r15 = (-1) → wf_X9_isWorldOver_40 K (wf_X9_isWorldOver_13 K E59 n) E59 x1 1 x1 s14)))))
def wf_X9_isWorldOver  (s : dk_S) (K : Int32 → dk_S → Prop) : Prop :=
  (vp_in 0 8 ∧ (((s 4 77 0.toNatClampNeg) ≤ 0 → ∃ nn6 : Nat, wf_X9_isWorldOver_13 K (fun (s1 : dk_S) => ∃ nn5 : Nat, wf_X9_isWorldOver_61 K (fun (s2 : dk_S) => (vp_in 0 8 ∧ ∀ s3 : dk_S, s3 = dk_row s2 4 60 (upd (s2 4 60) 32 (s2 4 76 0.toNatClampNeg)) → ∀ s4 : dk_S, s4 = dk_row s3 4 60 (upd (s3 4 60) 1 100) → K 1 s4)) nn5 0 s1) nn6 0 s) ∧ (¬ (s 4 77 0.toNatClampNeg) ≤ 0 → K 0 s)))
set_option maxRecDepth 20000 in
set_option maxHeartbeats 4000000 in
theorem ww_X9_isWorldOver_61 {G : dk_G} {P : Program} {l : Launch} {e : Env} {S0 : State} {m : MethodId} {args : Array Value} {bel : List Frame} {meth : Method} {c : Code}  (C : dk_C G P (dk_rm 2) S0 m args c 0 0 cX9_isWorldOver 2 RX9) (hr : meth.sig.returnType = (some .boolean)) (hlk : meth.locks = false) (hmi : dk_MI G) {K : Int32 → dk_S → Prop} {E106 : dk_S → Prop} (hE106 : ∀ (s : dk_S), E106 s → dk_W G P l e (dk_rm 2) S0 m args bel meth c 0 0 (MQ bel (dk_Qc G (dk_ki K)) args S0 0 0 (dk_A G)) 106 [some (dk_r G 4 60), none] [] s) : ∀ (n : Nat) (x1 : Int32) (s : dk_S), wf_X9_isWorldOver_61 K E106 n x1 s → dk_W G P l e (dk_rm 2) S0 m args bel meth c 0 0 (MQ bel (dk_Qc G (dk_ki K)) args S0 0 0 (dk_A G)) 61 [some (dk_r G 4 60), some (.int x1)] [] s := by
  intro n
  induction n with
  | zero => intro x1 s h; exact False.elim h
  | succ n hB =>
    intro x1 s h
    unfold wf_X9_isWorldOver_61 at h
    refine dk_iload_n (i := 1) C dX9_isWorldOver_61 (n := 62) rfl rfl rfl ?_
    refine dk_aload_n (i := 0) C dX9_isWorldOver_62 (n := 63) rfl rfl rfl ?_
    refine gf_X9_162 C (hmi 60 (by decide) (by decide)) dX9_isWorldOver_63 (n := 66) rfl ?_
    refine dk_icmp_ge (t := 106) C dX9_isWorldOver_66 (n := 69) rfl (by decide) (fun c13 => ?_) (fun c13 => ?_)
    · have h := h.1 c13
      refine dk_sub (L0 := [some (dk_r G 4 60), none]) ⟨rfl, trivial⟩ ?_
      exact hE106  s h
    · have h := h.2 c13
      refine dk_aload_n (i := 0) C dX9_isWorldOver_69 (n := 70) rfl rfl rfl ?_
      refine gf_X9_83 C (hmi 60 (by decide) (by decide)) dX9_isWorldOver_70 (n := 73) rfl ?_
      refine dk_iload_n (i := 1) C dX9_isWorldOver_73 (n := 74) rfl rfl rfl ?_
      refine dk_aload_n (i := 0) C dX9_isWorldOver_74 (n := 75) rfl rfl rfl ?_
      refine gf_X9_83 C (hmi 60 (by decide) (by decide)) dX9_isWorldOver_75 (n := 78) rfl ?_
      refine dk_iload_n (i := 1) C dX9_isWorldOver_78 (n := 79) rfl rfl rfl ?_
      refine dk_iald C dk_sh82 h.1 (hmi 82 (by decide) (by decide)) dX9_isWorldOver_79 (n := 80) rfl ?_
      have h := h.2
      refine dk_iconst (v := (-1)) C dX9_isWorldOver_80 (n := 81) rfl (by decide) ?_
      refine dk_icmp_ne (t := 93) C dX9_isWorldOver_81 (n := 84) rfl (by decide) (fun c12 => ?_) (fun c12 => ?_)
      · have h := h.1 c12
        refine dk_aload_n (i := 0) C dX9_isWorldOver_93 (n := 94) rfl rfl rfl ?_
        refine gf_X9_83 C (hmi 60 (by decide) (by decide)) dX9_isWorldOver_94 (n := 97) rfl ?_
        refine dk_iload_n (i := 1) C dX9_isWorldOver_97 (n := 98) rfl rfl rfl ?_
        refine dk_iald C dk_sh82 h.1 (hmi 82 (by decide) (by decide)) dX9_isWorldOver_98 (n := 99) rfl ?_
        have h := h.2
        refine dk_iast C dk_sh82 h.1 (hmi 82 (by decide) (by decide)) dX9_isWorldOver_99 (n := 100) rfl ?_
        refine dk_nameS (fun s8 es8 => ?_)
        have h := h.2 s8 es8
        obtain ⟨v9, ev9⟩ : ∃ y : Int32, y = x1 + 1 := ⟨_, rfl⟩
        have h := h v9 ev9
        refine dk_iinc (i := 1) (v := v9) (L' := [some (dk_r G 4 60), some (.int v9)]) C dX9_isWorldOver_100 (n := 103) rfl rfl (by rw [ev9]; rfl) (dk_nc_of rfl) (Nat.le_of_ble_eq_true rfl) rfl ?_
        refine dk_goto (t := 61) C dX9_isWorldOver_103 (by decide) ?_
        refine dk_sub (L0 := [some (dk_r G 4 60), some (.int v9)]) ⟨rfl, ⟨rfl, trivial⟩⟩ ?_
        exact hB v9 s8 h
      · have h := h.2 c12
        refine dk_aload_n (i := 0) C dX9_isWorldOver_84 (n := 85) rfl rfl rfl ?_
        refine gf_X9_65 C (hmi 60 (by decide) (by decide)) dX9_isWorldOver_85 (n := 88) rfl ?_
        refine dk_iconst (v := 0) C dX9_isWorldOver_88 (n := 89) rfl (by decide) ?_
        refine dk_iald C dk_sh76 h.1 (hmi 76 (by decide) (by decide)) dX9_isWorldOver_89 (n := 90) rfl ?_
        have h := h.2
        refine dk_goto (t := 99) C dX9_isWorldOver_90 (by decide) ?_
        refine dk_iast C dk_sh82 h.1 (hmi 82 (by decide) (by decide)) dX9_isWorldOver_99 (n := 100) rfl ?_
        refine dk_nameS (fun s10 es10 => ?_)
        have h := h.2 s10 es10
        obtain ⟨v11, ev11⟩ : ∃ y : Int32, y = x1 + 1 := ⟨_, rfl⟩
        have h := h v11 ev11
        refine dk_iinc (i := 1) (v := v11) (L' := [some (dk_r G 4 60), some (.int v11)]) C dX9_isWorldOver_100 (n := 103) rfl rfl (by rw [ev11]; rfl) (dk_nc_of rfl) (Nat.le_of_ble_eq_true rfl) rfl ?_
        refine dk_goto (t := 61) C dX9_isWorldOver_103 (by decide) ?_
        refine dk_sub (L0 := [some (dk_r G 4 60), some (.int v11)]) ⟨rfl, ⟨rfl, trivial⟩⟩ ?_
        exact hB v11 s10 h
set_option maxRecDepth 20000 in
set_option maxHeartbeats 4000000 in
theorem ww_X9_isWorldOver_40 {G : dk_G} {P : Program} {l : Launch} {e : Env} {S0 : State} {m : MethodId} {args : Array Value} {bel : List Frame} {meth : Method} {c : Code}  (C : dk_C G P (dk_rm 2) S0 m args c 0 0 cX9_isWorldOver 2 RX9) (hr : meth.sig.returnType = (some .boolean)) (hlk : meth.locks = false) (hmi : dk_MI G) {K : Int32 → dk_S → Prop} {B : Int32 → dk_S → Prop} {E59 : dk_S → Prop} (hB : ∀ (x1 : Int32) (s : dk_S), B x1 s → dk_W G P l e (dk_rm 2) S0 m args bel meth c 0 0 (MQ bel (dk_Qc G (dk_ki K)) args S0 0 0 (dk_A G)) 13 [some (dk_r G 4 60), some (.int x1)] [] s) (hE59 : ∀ (s : dk_S), E59 s → dk_W G P l e (dk_rm 2) S0 m args bel meth c 0 0 (MQ bel (dk_Qc G (dk_ki K)) args S0 0 0 (dk_A G)) 59 [some (dk_r G 4 60), none] [] s) : ∀ (x1 : Int32) (y0 : Int32) (y1 : Int32) (s : dk_S), wf_X9_isWorldOver_40 K B E59 x1 y0 y1 s → dk_W G P l e (dk_rm 2) S0 m args bel meth c 0 0 (MQ bel (dk_Qc G (dk_ki K)) args S0 0 0 (dk_A G)) 40 [some (dk_r G 4 60), some (.int x1)] [.int y0, .int y1, dk_r G 4 84] s := by
  intro x1 y0 y1 s h
  unfold wf_X9_isWorldOver_40 at h
  refine dk_zast C dk_sh84 h.1 (hmi 84 (by decide) (by decide)) dX9_isWorldOver_40 (n := 41) rfl ?_
  refine dk_nameS (fun s18 es18 => ?_)
  have h := h.2 s18 es18
  refine dk_aload_n (i := 0) C dX9_isWorldOver_41 (n := 42) rfl rfl rfl ?_
  refine gf_X9_95 C (hmi 60 (by decide) (by decide)) dX9_isWorldOver_42 (n := 45) rfl ?_
  refine dk_iload_n (i := 1) C dX9_isWorldOver_45 (n := 46) rfl rfl rfl ?_
  refine dk_aload_n (i := 0) C dX9_isWorldOver_46 (n := 47) rfl rfl rfl ?_
  refine gf_X9_83 C (hmi 60 (by decide) (by decide)) dX9_isWorldOver_47 (n := 50) rfl ?_
  refine dk_iload_n (i := 1) C dX9_isWorldOver_50 (n := 51) rfl rfl rfl ?_
  refine dk_iald C dk_sh82 h.1 (hmi 82 (by decide) (by decide)) dX9_isWorldOver_51 (n := 52) rfl ?_
  have h := h.2
  refine dk_iast C dk_sh85 h.1 (hmi 85 (by decide) (by decide)) dX9_isWorldOver_52 (n := 53) rfl ?_
  refine dk_nameS (fun s19 es19 => ?_)
  have h := h.2 s19 es19
  obtain ⟨v20, ev20⟩ : ∃ y : Int32, y = x1 + 1 := ⟨_, rfl⟩
  have h := h v20 ev20
  refine dk_iinc (i := 1) (v := v20) (L' := [some (dk_r G 4 60), some (.int v20)]) C dX9_isWorldOver_53 (n := 56) rfl rfl (by rw [ev20]; rfl) (dk_nc_of rfl) (Nat.le_of_ble_eq_true rfl) rfl ?_
  refine dk_goto (t := 13) C dX9_isWorldOver_56 (by decide) ?_
  refine dk_sub (L0 := [some (dk_r G 4 60), some (.int v20)]) ⟨rfl, ⟨rfl, trivial⟩⟩ ?_
  exact hB v20 s19 h
set_option maxRecDepth 20000 in
set_option maxHeartbeats 4000000 in
theorem ww_X9_isWorldOver_13 {G : dk_G} {P : Program} {l : Launch} {e : Env} {S0 : State} {m : MethodId} {args : Array Value} {bel : List Frame} {meth : Method} {c : Code}  (C : dk_C G P (dk_rm 2) S0 m args c 0 0 cX9_isWorldOver 2 RX9) (hr : meth.sig.returnType = (some .boolean)) (hlk : meth.locks = false) (hmi : dk_MI G) {K : Int32 → dk_S → Prop} {E59 : dk_S → Prop} (hE59 : ∀ (s : dk_S), E59 s → dk_W G P l e (dk_rm 2) S0 m args bel meth c 0 0 (MQ bel (dk_Qc G (dk_ki K)) args S0 0 0 (dk_A G)) 59 [some (dk_r G 4 60), none] [] s) : ∀ (n : Nat) (x1 : Int32) (s : dk_S), wf_X9_isWorldOver_13 K E59 n x1 s → dk_W G P l e (dk_rm 2) S0 m args bel meth c 0 0 (MQ bel (dk_Qc G (dk_ki K)) args S0 0 0 (dk_A G)) 13 [some (dk_r G 4 60), some (.int x1)] [] s := by
  intro n
  induction n with
  | zero => intro x1 s h; exact False.elim h
  | succ n hB =>
    intro x1 s h
    unfold wf_X9_isWorldOver_13 at h
    refine dk_iload_n (i := 1) C dX9_isWorldOver_13 (n := 14) rfl rfl rfl ?_
    refine dk_aload_n (i := 0) C dX9_isWorldOver_14 (n := 15) rfl rfl rfl ?_
    refine gf_X9_162 C (hmi 60 (by decide) (by decide)) dX9_isWorldOver_15 (n := 18) rfl ?_
    refine dk_icmp_ge (t := 59) C dX9_isWorldOver_18 (n := 21) rfl (by decide) (fun c17 => ?_) (fun c17 => ?_)
    · have h := h.1 c17
      refine dk_sub (L0 := [some (dk_r G 4 60), none]) ⟨rfl, trivial⟩ ?_
      exact hE59  s h
    · have h := h.2 c17
      refine dk_aload_n (i := 0) C dX9_isWorldOver_21 (n := 22) rfl rfl rfl ?_
      refine gf_X9_92 C (hmi 60 (by decide) (by decide)) dX9_isWorldOver_22 (n := 25) rfl ?_
      refine dk_iload_n (i := 1) C dX9_isWorldOver_25 (n := 26) rfl rfl rfl ?_
      refine dk_aload_n (i := 0) C dX9_isWorldOver_26 (n := 27) rfl rfl rfl ?_
      refine dk_iload_n (i := 1) C dX9_isWorldOver_27 (n := 28) rfl rfl rfl ?_
      refine dk_callVi C [.int x1, dk_r G 4 84] (cc_X9_outermost C.D hmi h) yy_X9_outermost dk_wm_X9_206 dk_sh60 (hmi 60 (by decide) (by decide)) dX9_isWorldOver_28 (fun r15 s14 h => ?_) rfl rfl ⟨Nat.le_of_ble_eq_true rfl, Nat.le_of_ble_eq_true rfl⟩ rfl (Nat.le_of_ble_eq_true rfl) rfl (n := 31) rfl
      refine dk_iconst (v := (-1)) C dX9_isWorldOver_31 (n := 32) rfl (by decide) ?_
      refine dk_icmp_ne (t := 39) C dX9_isWorldOver_32 (n := 35) rfl (by decide) (fun c16 => ?_) (fun c16 => ?_)
      · have h := h.1 c16
        refine dk_iconst (v := 0) C dX9_isWorldOver_39 (n := 40) rfl (by decide) ?_
        refine dk_sub (L0 := [some (dk_r G 4 60), some (.int x1)]) ⟨rfl, ⟨rfl, trivial⟩⟩ ?_
        exact ww_X9_isWorldOver_40 C hr hlk hmi hB hE59 x1 0 x1 s14 h
      · have h := h.2 c16
        refine dk_iconst (v := 1) C dX9_isWorldOver_35 (n := 36) rfl (by decide) ?_
        refine dk_goto (t := 40) C dX9_isWorldOver_36 (by decide) ?_
        refine dk_sub (L0 := [some (dk_r G 4 60), some (.int x1)]) ⟨rfl, ⟨rfl, trivial⟩⟩ ?_
        exact ww_X9_isWorldOver_40 C hr hlk hmi hB hE59 x1 1 x1 s14 h
set_option maxRecDepth 20000 in
set_option maxHeartbeats 4000000 in
theorem cc_X9_isWorldOver {G : dk_G} {l : Launch}  (hD : dk_D G) (hmi : dk_MI G) {s : dk_S} {K : Int32 → dk_S → Prop} (h : wf_X9_isWorldOver s K) : dk_M G l 2 yX9_isWorldOver cX9_isWorldOver 2 (some .boolean) [dk_r G 4 60] s (dk_ki K) := by
  refine dk_of hD (by decide) [some (dk_r G 4 60), none] (fun q hq => hq) rfl (Nat.le_of_ble_eq_true rfl) (fun P e S0 m args bel meth c C hr hlk => ?_)
  unfold wf_X9_isWorldOver at h
  refine dk_aload_n (i := 0) C dX9_isWorldOver_0 (n := 1) rfl rfl rfl ?_
  refine gf_X9_68 C (hmi 60 (by decide) (by decide)) dX9_isWorldOver_1 (n := 4) rfl ?_
  refine dk_iconst (v := 0) C dX9_isWorldOver_4 (n := 5) rfl (by decide) ?_
  refine dk_iald C dk_sh77 h.1 (hmi 77 (by decide) (by decide)) dX9_isWorldOver_5 (n := 6) rfl ?_
  have h := h.2
  refine dk_if_le (t := 11) C dX9_isWorldOver_6 (n := 9) rfl (by decide) (fun c7 => ?_) (fun c7 => ?_)
  · have h := h.1 c7
    refine dk_iconst (v := 0) C dX9_isWorldOver_11 (n := 12) rfl (by decide) ?_
    refine dk_istore_n (i := 1) (L' := [some (dk_r G 4 60), some (.int 0)]) C dX9_isWorldOver_12 (n := 13) rfl rfl (dk_nc_of rfl) (Nat.le_of_ble_eq_true rfl) rfl ?_
    obtain ⟨nn6, h⟩ := h
    refine dk_sub (L0 := [some (dk_r G 4 60), some (.int 0)]) ⟨rfl, ⟨rfl, trivial⟩⟩ ?_
    refine ww_X9_isWorldOver_13 C hr hlk hmi (fun s1 h => ?_) nn6 0 s h
    · refine dk_iconst (v := 0) C dX9_isWorldOver_59 (n := 60) rfl (by decide) ?_
      refine dk_istore_n (i := 1) (L' := [some (dk_r G 4 60), some (.int 0)]) C dX9_isWorldOver_60 (n := 61) rfl rfl (dk_nc_of rfl) (Nat.le_of_ble_eq_true rfl) rfl ?_
      obtain ⟨nn5, h⟩ := h
      refine dk_sub (L0 := [some (dk_r G 4 60), some (.int 0)]) ⟨rfl, ⟨rfl, trivial⟩⟩ ?_
      refine ww_X9_isWorldOver_61 C hr hlk hmi (fun s2 h => ?_) nn5 0 s1 h
      · refine dk_aload_n (i := 0) C dX9_isWorldOver_106 (n := 107) rfl rfl rfl ?_
        refine dk_aload_n (i := 0) C dX9_isWorldOver_107 (n := 108) rfl rfl rfl ?_
        refine gf_X9_65 C (hmi 60 (by decide) (by decide)) dX9_isWorldOver_108 (n := 111) rfl ?_
        refine dk_iconst (v := 0) C dX9_isWorldOver_111 (n := 112) rfl (by decide) ?_
        refine dk_iald C dk_sh76 h.1 (hmi 76 (by decide) (by decide)) dX9_isWorldOver_112 (n := 113) rfl ?_
        have h := h.2
        refine pf_X9_89 C rfl rfl (hmi 60 (by decide) (by decide)) dX9_isWorldOver_113 (n := 116) rfl ?_
        refine dk_nameS (fun s3 es3 => ?_)
        have h := h s3 es3
        refine dk_aload_n (i := 0) C dX9_isWorldOver_116 (n := 117) rfl rfl rfl ?_
        refine dk_bipush (v := 100) C dX9_isWorldOver_117 (n := 119) rfl (by decide) ?_
        refine pf_X9_7 C (by decide) (by decide) (hmi 60 (by decide) (by decide)) dX9_isWorldOver_119 (n := 122) rfl ?_
        refine dk_nameS (fun s4 es4 => ?_)
        have h := h s4 es4
        refine dk_iconst (v := 1) C dX9_isWorldOver_122 (n := 123) rfl (by decide) ?_
        exact dk_iret C hr hlk dk_nz1 dX9_isWorldOver_123 ⟨_, rfl, h⟩
  · have h := h.2 c7
    refine dk_iconst (v := 0) C dX9_isWorldOver_9 (n := 10) rfl (by decide) ?_
    exact dk_iret C hr hlk dk_nz0 dX9_isWorldOver_10 ⟨_, rfl, h⟩
/-! X9_nextTurn -/
def wf_X9_nextTurn_36  (K : Int32 → dk_S → Prop) (B : Int32 → Int32 → dk_S → Prop) (x1 : Int32) (x2 : Int32) (y0 : Int32) (s : dk_S) : Prop :=
  ((y0 = 0 → ∀ v7 : Int32, v7 = x2 + 1 → B x1 v7 s) ∧ (¬ y0 = 0 → ((x1 = (-1) → ∀ v8 : Int32, v8 = x2 + 1 → B x2 v8 s) ∧ (¬ x1 = (-1) → (vp_in x2 8 ∧ (vp_in x1 8 ∧ (((s 4 78 x2.toNatClampNeg) ≤ (s 4 78 x1.toNatClampNeg) → ∀ v9 : Int32, v9 = x2 + 1 → B x1 v9 s) ∧ (¬ (s 4 78 x2.toNatClampNeg) ≤ (s 4 78 x1.toNatClampNeg) → ∀ v10 : Int32, v10 = x2 + 1 → B x2 v10 s))))))))
def wf_X9_nextTurn_4  (K : Int32 → dk_S → Prop) : Nat → Int32 → Int32 → dk_S → Prop
  | 0, _, _, _ => False
  | n + 1, x1, x2, s => (((s 4 60 10) ≤ x2 → K x1 s) ∧ (¬ (s 4 60 10) ≤ x2 → wf_X9_lives x2 s (fun r3 s2 => ((r3 = 0 → wf_X9_nextTurn_36 K (wf_X9_nextTurn_4 K n) x1 x2 0 s2) ∧ (¬ r3 = 0 → (vp_in x2 8 ∧ (((s2 4 78 x2.toNatClampNeg) < 12 → wf_X9_nextTurn_36 K (wf_X9_nextTurn_4 K n) x1 x2 0 s2) ∧ (¬ (s2 4 78 x2.toNatClampNeg) < 12 → wf_X9_nextTurn_36 K (wf_X9_nextTurn_4 K n) x1 x2 1 s2))))))))
def wf_X9_nextTurn  (s : dk_S) (K : Int32 → dk_S → Prop) : Prop :=
  ∃ nn1 : Nat, wf_X9_nextTurn_4 K nn1 (-1) 0 s
set_option maxRecDepth 20000 in
set_option maxHeartbeats 4000000 in
theorem ww_X9_nextTurn_36 {G : dk_G} {P : Program} {l : Launch} {e : Env} {S0 : State} {m : MethodId} {args : Array Value} {bel : List Frame} {meth : Method} {c : Code}  (C : dk_C G P (dk_rm 2) S0 m args c 0 0 cX9_nextTurn 4 RX9) (hr : meth.sig.returnType = (some .int)) (hlk : meth.locks = false) (hmi : dk_MI G) {K : Int32 → dk_S → Prop} {B : Int32 → Int32 → dk_S → Prop} (hB : ∀ (x1 : Int32) (x2 : Int32) (s : dk_S), B x1 x2 s → dk_W G P l e (dk_rm 2) S0 m args bel meth c 0 0 (MQ bel (dk_Qc G (dk_ki K)) args S0 0 0 (dk_A G)) 4 [some (dk_r G 4 60), some (.int x1), some (.int x2), none] [] s)  : ∀ (x1 : Int32) (x2 : Int32) (y0 : Int32) (s : dk_S), wf_X9_nextTurn_36 K B x1 x2 y0 s → dk_W G P l e (dk_rm 2) S0 m args bel meth c 0 0 (MQ bel (dk_Qc G (dk_ki K)) args S0 0 0 (dk_A G)) 36 [some (dk_r G 4 60), some (.int x1), some (.int x2), none] [.int y0] s := by
  intro x1 x2 y0 s h
  unfold wf_X9_nextTurn_36 at h
  refine dk_istore_n (i := 3) (L' := [some (dk_r G 4 60), some (.int x1), some (.int x2), some (.int y0)]) C dX9_nextTurn_36 (n := 37) rfl rfl (dk_nc_of rfl) (Nat.le_of_ble_eq_true rfl) rfl ?_
  refine dk_iload_n (i := 3) C dX9_nextTurn_37 (n := 38) rfl rfl rfl ?_
  refine dk_if_eq (t := 65) C dX9_nextTurn_38 (n := 41) rfl (by decide) (fun c13 => ?_) (fun c13 => ?_)
  · have h := h.1 c13
    refine dk_iload_n (i := 1) C dX9_nextTurn_65 (n := 66) rfl rfl rfl ?_
    refine dk_istore_n (i := 1) (L' := [some (dk_r G 4 60), some (.int x1), some (.int x2), some (.int y0)]) C dX9_nextTurn_66 (n := 67) rfl rfl (dk_nc_of rfl) (Nat.le_of_ble_eq_true rfl) rfl ?_
    obtain ⟨v7, ev7⟩ : ∃ y : Int32, y = x2 + 1 := ⟨_, rfl⟩
    have h := h v7 ev7
    refine dk_iinc (i := 2) (v := v7) (L' := [some (dk_r G 4 60), some (.int x1), some (.int v7), some (.int y0)]) C dX9_nextTurn_67 (n := 70) rfl rfl (by rw [ev7]; rfl) (dk_nc_of rfl) (Nat.le_of_ble_eq_true rfl) rfl ?_
    refine dk_goto (t := 4) C dX9_nextTurn_70 (by decide) ?_
    refine dk_sub (L0 := [some (dk_r G 4 60), some (.int x1), some (.int v7), none]) ⟨rfl, ⟨rfl, ⟨rfl, trivial⟩⟩⟩ ?_
    exact hB x1 v7 s h
  · have h := h.2 c13
    refine dk_iload_n (i := 1) C dX9_nextTurn_41 (n := 42) rfl rfl rfl ?_
    refine dk_iconst (v := (-1)) C dX9_nextTurn_42 (n := 43) rfl (by decide) ?_
    refine dk_icmp_eq (t := 61) C dX9_nextTurn_43 (n := 46) rfl (by decide) (fun c12 => ?_) (fun c12 => ?_)
    · have h := h.1 c12
      refine dk_iload_n (i := 2) C dX9_nextTurn_61 (n := 62) rfl rfl rfl ?_
      refine dk_goto (t := 66) C dX9_nextTurn_62 (by decide) ?_
      refine dk_istore_n (i := 1) (L' := [some (dk_r G 4 60), some (.int x2), some (.int x2), some (.int y0)]) C dX9_nextTurn_66 (n := 67) rfl rfl (dk_nc_of rfl) (Nat.le_of_ble_eq_true rfl) rfl ?_
      obtain ⟨v8, ev8⟩ : ∃ y : Int32, y = x2 + 1 := ⟨_, rfl⟩
      have h := h v8 ev8
      refine dk_iinc (i := 2) (v := v8) (L' := [some (dk_r G 4 60), some (.int x2), some (.int v8), some (.int y0)]) C dX9_nextTurn_67 (n := 70) rfl rfl (by rw [ev8]; rfl) (dk_nc_of rfl) (Nat.le_of_ble_eq_true rfl) rfl ?_
      refine dk_goto (t := 4) C dX9_nextTurn_70 (by decide) ?_
      refine dk_sub (L0 := [some (dk_r G 4 60), some (.int x2), some (.int v8), none]) ⟨rfl, ⟨rfl, ⟨rfl, trivial⟩⟩⟩ ?_
      exact hB x2 v8 s h
    · have h := h.2 c12
      refine dk_aload_n (i := 0) C dX9_nextTurn_46 (n := 47) rfl rfl rfl ?_
      refine gf_X9_71 C (hmi 60 (by decide) (by decide)) dX9_nextTurn_47 (n := 50) rfl ?_
      refine dk_iload_n (i := 2) C dX9_nextTurn_50 (n := 51) rfl rfl rfl ?_
      refine dk_iald C dk_sh78 h.1 (hmi 78 (by decide) (by decide)) dX9_nextTurn_51 (n := 52) rfl ?_
      have h := h.2
      refine dk_aload_n (i := 0) C dX9_nextTurn_52 (n := 53) rfl rfl rfl ?_
      refine gf_X9_71 C (hmi 60 (by decide) (by decide)) dX9_nextTurn_53 (n := 56) rfl ?_
      refine dk_iload_n (i := 1) C dX9_nextTurn_56 (n := 57) rfl rfl rfl ?_
      refine dk_iald C dk_sh78 h.1 (hmi 78 (by decide) (by decide)) dX9_nextTurn_57 (n := 58) rfl ?_
      have h := h.2
      refine dk_icmp_le (t := 65) C dX9_nextTurn_58 (n := 61) rfl (by decide) (fun c11 => ?_) (fun c11 => ?_)
      · have h := h.1 c11
        refine dk_iload_n (i := 1) C dX9_nextTurn_65 (n := 66) rfl rfl rfl ?_
        refine dk_istore_n (i := 1) (L' := [some (dk_r G 4 60), some (.int x1), some (.int x2), some (.int y0)]) C dX9_nextTurn_66 (n := 67) rfl rfl (dk_nc_of rfl) (Nat.le_of_ble_eq_true rfl) rfl ?_
        obtain ⟨v9, ev9⟩ : ∃ y : Int32, y = x2 + 1 := ⟨_, rfl⟩
        have h := h v9 ev9
        refine dk_iinc (i := 2) (v := v9) (L' := [some (dk_r G 4 60), some (.int x1), some (.int v9), some (.int y0)]) C dX9_nextTurn_67 (n := 70) rfl rfl (by rw [ev9]; rfl) (dk_nc_of rfl) (Nat.le_of_ble_eq_true rfl) rfl ?_
        refine dk_goto (t := 4) C dX9_nextTurn_70 (by decide) ?_
        refine dk_sub (L0 := [some (dk_r G 4 60), some (.int x1), some (.int v9), none]) ⟨rfl, ⟨rfl, ⟨rfl, trivial⟩⟩⟩ ?_
        exact hB x1 v9 s h
      · have h := h.2 c11
        refine dk_iload_n (i := 2) C dX9_nextTurn_61 (n := 62) rfl rfl rfl ?_
        refine dk_goto (t := 66) C dX9_nextTurn_62 (by decide) ?_
        refine dk_istore_n (i := 1) (L' := [some (dk_r G 4 60), some (.int x2), some (.int x2), some (.int y0)]) C dX9_nextTurn_66 (n := 67) rfl rfl (dk_nc_of rfl) (Nat.le_of_ble_eq_true rfl) rfl ?_
        obtain ⟨v10, ev10⟩ : ∃ y : Int32, y = x2 + 1 := ⟨_, rfl⟩
        have h := h v10 ev10
        refine dk_iinc (i := 2) (v := v10) (L' := [some (dk_r G 4 60), some (.int x2), some (.int v10), some (.int y0)]) C dX9_nextTurn_67 (n := 70) rfl rfl (by rw [ev10]; rfl) (dk_nc_of rfl) (Nat.le_of_ble_eq_true rfl) rfl ?_
        refine dk_goto (t := 4) C dX9_nextTurn_70 (by decide) ?_
        refine dk_sub (L0 := [some (dk_r G 4 60), some (.int x2), some (.int v10), none]) ⟨rfl, ⟨rfl, ⟨rfl, trivial⟩⟩⟩ ?_
        exact hB x2 v10 s h
set_option maxRecDepth 20000 in
set_option maxHeartbeats 4000000 in
theorem ww_X9_nextTurn_4 {G : dk_G} {P : Program} {l : Launch} {e : Env} {S0 : State} {m : MethodId} {args : Array Value} {bel : List Frame} {meth : Method} {c : Code}  (C : dk_C G P (dk_rm 2) S0 m args c 0 0 cX9_nextTurn 4 RX9) (hr : meth.sig.returnType = (some .int)) (hlk : meth.locks = false) (hmi : dk_MI G) {K : Int32 → dk_S → Prop}  : ∀ (n : Nat) (x1 : Int32) (x2 : Int32) (s : dk_S), wf_X9_nextTurn_4 K n x1 x2 s → dk_W G P l e (dk_rm 2) S0 m args bel meth c 0 0 (MQ bel (dk_Qc G (dk_ki K)) args S0 0 0 (dk_A G)) 4 [some (dk_r G 4 60), some (.int x1), some (.int x2), none] [] s := by
  intro n
  induction n with
  | zero => intro x1 x2 s h; exact False.elim h
  | succ n hB =>
    intro x1 x2 s h
    unfold wf_X9_nextTurn_4 at h
    refine dk_iload_n (i := 2) C dX9_nextTurn_4 (n := 5) rfl rfl rfl ?_
    refine dk_aload_n (i := 0) C dX9_nextTurn_5 (n := 6) rfl rfl rfl ?_
    refine gf_X9_34 C (hmi 60 (by decide) (by decide)) dX9_nextTurn_6 (n := 9) rfl ?_
    refine dk_icmp_ge (t := 73) C dX9_nextTurn_9 (n := 12) rfl (by decide) (fun c6 => ?_) (fun c6 => ?_)
    · have h := h.1 c6
      refine dk_iload_n (i := 1) C dX9_nextTurn_73 (n := 74) rfl rfl rfl ?_
      exact dk_iret C hr hlk rfl dX9_nextTurn_74 ⟨_, rfl, h⟩
    · have h := h.2 c6
      refine dk_aload_n (i := 0) C dX9_nextTurn_12 (n := 13) rfl rfl rfl ?_
      refine dk_iload_n (i := 2) C dX9_nextTurn_13 (n := 14) rfl rfl rfl ?_
      refine dk_callVi C [] (cc_X9_lives C.D hmi h) yy_X9_lives dk_wm_X9_200 dk_sh60 (hmi 60 (by decide) (by decide)) dX9_nextTurn_14 (fun r3 s2 h => ?_) rfl rfl ⟨Nat.le_of_ble_eq_true rfl, Nat.le_of_ble_eq_true rfl⟩ rfl (Nat.le_of_ble_eq_true rfl) rfl (n := 17) rfl
      refine dk_if_eq (t := 35) C dX9_nextTurn_17 (n := 20) rfl (by decide) (fun c5 => ?_) (fun c5 => ?_)
      · have h := h.1 c5
        refine dk_iconst (v := 0) C dX9_nextTurn_35 (n := 36) rfl (by decide) ?_
        refine dk_sub (L0 := [some (dk_r G 4 60), some (.int x1), some (.int x2), none]) ⟨rfl, ⟨rfl, ⟨rfl, trivial⟩⟩⟩ ?_
        exact ww_X9_nextTurn_36 C hr hlk hmi hB x1 x2 0 s2 h
      · have h := h.2 c5
        refine dk_aload_n (i := 0) C dX9_nextTurn_20 (n := 21) rfl rfl rfl ?_
        refine gf_X9_71 C (hmi 60 (by decide) (by decide)) dX9_nextTurn_21 (n := 24) rfl ?_
        refine dk_iload_n (i := 2) C dX9_nextTurn_24 (n := 25) rfl rfl rfl ?_
        refine dk_iald C dk_sh78 h.1 (hmi 78 (by decide) (by decide)) dX9_nextTurn_25 (n := 26) rfl ?_
        have h := h.2
        refine dk_bipush (v := 12) C dX9_nextTurn_26 (n := 28) rfl (by decide) ?_
        refine dk_icmp_lt (t := 35) C dX9_nextTurn_28 (n := 31) rfl (by decide) (fun c4 => ?_) (fun c4 => ?_)
        · have h := h.1 c4
          refine dk_iconst (v := 0) C dX9_nextTurn_35 (n := 36) rfl (by decide) ?_
          refine dk_sub (L0 := [some (dk_r G 4 60), some (.int x1), some (.int x2), none]) ⟨rfl, ⟨rfl, ⟨rfl, trivial⟩⟩⟩ ?_
          exact ww_X9_nextTurn_36 C hr hlk hmi hB x1 x2 0 s2 h
        · have h := h.2 c4
          refine dk_iconst (v := 1) C dX9_nextTurn_31 (n := 32) rfl (by decide) ?_
          refine dk_goto (t := 36) C dX9_nextTurn_32 (by decide) ?_
          refine dk_sub (L0 := [some (dk_r G 4 60), some (.int x1), some (.int x2), none]) ⟨rfl, ⟨rfl, ⟨rfl, trivial⟩⟩⟩ ?_
          exact ww_X9_nextTurn_36 C hr hlk hmi hB x1 x2 1 s2 h
set_option maxRecDepth 20000 in
set_option maxHeartbeats 4000000 in
theorem cc_X9_nextTurn {G : dk_G} {l : Launch}  (hD : dk_D G) (hmi : dk_MI G) {s : dk_S} {K : Int32 → dk_S → Prop} (h : wf_X9_nextTurn s K) : dk_M G l 2 yX9_nextTurn cX9_nextTurn 4 (some .int) [dk_r G 4 60] s (dk_ki K) := by
  refine dk_of hD (by decide) [some (dk_r G 4 60), none, none, none] (fun q hq => hq) rfl (Nat.le_of_ble_eq_true rfl) (fun P e S0 m args bel meth c C hr hlk => ?_)
  unfold wf_X9_nextTurn at h
  refine dk_iconst (v := (-1)) C dX9_nextTurn_0 (n := 1) rfl (by decide) ?_
  refine dk_istore_n (i := 1) (L' := [some (dk_r G 4 60), some (.int (-1)), none, none]) C dX9_nextTurn_1 (n := 2) rfl rfl (dk_nc_of rfl) (Nat.le_of_ble_eq_true rfl) rfl ?_
  refine dk_iconst (v := 0) C dX9_nextTurn_2 (n := 3) rfl (by decide) ?_
  refine dk_istore_n (i := 2) (L' := [some (dk_r G 4 60), some (.int (-1)), some (.int 0), none]) C dX9_nextTurn_3 (n := 4) rfl rfl (dk_nc_of rfl) (Nat.le_of_ble_eq_true rfl) rfl ?_
  obtain ⟨nn1, h⟩ := h
  refine dk_sub (L0 := [some (dk_r G 4 60), some (.int (-1)), some (.int 0), none]) ⟨rfl, ⟨rfl, ⟨rfl, trivial⟩⟩⟩ ?_
  refine ww_X9_nextTurn_4 C hr hlk hmi  nn1 (-1) 0 s h
/-! X9_ticks -/
def wf_X9_ticks_54  (K : dk_S → Prop) (E91 : dk_S → Prop) : Nat → Int32 → dk_S → Prop
  | 0, _, _ => False
  | n + 1, x1, s => (((s 4 60 10) ≤ x1 → E91 s) ∧ (¬ (s 4 60 10) ≤ x1 → (vp_in x1 8 ∧ (vp_in x1 8 ∧ (((s 4 80 x1.toNatClampNeg) ≤ 0 → (vp_in x1 8 ∧ (∀ s9 : dk_S, s9 = dk_row s 4 80 (upd (s 4 80) x1.toNatClampNeg ((s 4 80 x1.toNatClampNeg) - 0)) → ∀ v10 : Int32, v10 = x1 + 1 → wf_X9_ticks_54 K E91 n v10 s9))) ∧ (¬ (s 4 80 x1.toNatClampNeg) ≤ 0 → (vp_in x1 8 ∧ (∀ s11 : dk_S, s11 = dk_row s 4 80 (upd (s 4 80) x1.toNatClampNeg ((s 4 80 x1.toNatClampNeg) - 1)) → ∀ v12 : Int32, v12 = x1 + 1 → wf_X9_ticks_54 K E91 n v12 s11))))))))
def wf_X9_ticks_12  (K : dk_S → Prop) (E52 : dk_S → Prop) : Nat → Int32 → dk_S → Prop
  | 0, _, _ => False
  | n + 1, x1, s => (((s 4 60 10) ≤ x1 → E52 s) ∧ (¬ (s 4 60 10) ≤ x1 → (vp_in x1 8 ∧ wf_X9_lives x1 s (fun r16 s15 => ((r16 = 0 → (vp_in x1 8 ∧ (∀ s17 : dk_S, s17 = dk_row s15 4 78 (upd (s15 4 78) x1.toNatClampNeg ((s 4 78 x1.toNatClampNeg) + 0)) → ∀ v18 : Int32, v18 = x1 + 1 → wf_X9_ticks_12 K E52 n v18 s17))) ∧ (¬ r16 = 0 → wf_X9_speedOf x1 s15 (fun r20 s19 => (vp_in x1 8 ∧ (∀ s21 : dk_S, s21 = dk_row s19 4 78 (upd (s19 4 78) x1.toNatClampNeg ((s 4 78 x1.toNatClampNeg) + r20)) → ∀ v22 : Int32, v22 = x1 + 1 → wf_X9_ticks_12 K E52 n v22 s21)))))))))
def wf_X9_ticks  (s : dk_S) (K : dk_S → Prop) : Prop :=
  ∀ s1 : dk_S, s1 = dk_row s 4 60 (upd (s 4 60) 2 ((s 4 60 2) + 1)) → ∃ nn8 : Nat, wf_X9_ticks_12 K (fun (s2 : dk_S) => ∃ nn7 : Nat, wf_X9_ticks_54 K (fun (s3 : dk_S) => (((s3 4 60 30) ≤ 0 → ∀ s4 : dk_S, s4 = dk_row s3 4 60 (upd (s3 4 60) 30 ((s3 4 60 30) - 0)) → K s4) ∧ (¬ (s3 4 60 30) ≤ 0 → ∀ s5 : dk_S, s5 = dk_row s3 4 60 (upd (s3 4 60) 30 ((s3 4 60 30) - 1)) → K s5))) nn7 0 s2) nn8 0 s1
set_option maxRecDepth 20000 in
set_option maxHeartbeats 4000000 in
theorem ww_X9_ticks_54 {G : dk_G} {P : Program} {l : Launch} {e : Env} {S0 : State} {m : MethodId} {args : Array Value} {bel : List Frame} {meth : Method} {c : Code}  (C : dk_C G P (dk_rm 2) S0 m args c 0 0 cX9_ticks 2 RX9) (hr : meth.sig.returnType = none) (hlk : meth.locks = false) (hmi : dk_MI G) {K : dk_S → Prop} {E91 : dk_S → Prop} (hE91 : ∀ (s : dk_S), E91 s → dk_W G P l e (dk_rm 2) S0 m args bel meth c 0 0 (MQ bel (dk_Qc G (dk_kv K)) args S0 0 0 (dk_A G)) 91 [some (dk_r G 4 60), none] [] s) : ∀ (n : Nat) (x1 : Int32) (s : dk_S), wf_X9_ticks_54 K E91 n x1 s → dk_W G P l e (dk_rm 2) S0 m args bel meth c 0 0 (MQ bel (dk_Qc G (dk_kv K)) args S0 0 0 (dk_A G)) 54 [some (dk_r G 4 60), some (.int x1)] [] s := by
  intro n
  induction n with
  | zero => intro x1 s h; exact False.elim h
  | succ n hB =>
    intro x1 s h
    unfold wf_X9_ticks_54 at h
    refine dk_iload_n (i := 1) C dX9_ticks_54 (n := 55) rfl rfl rfl ?_
    refine dk_aload_n (i := 0) C dX9_ticks_55 (n := 56) rfl rfl rfl ?_
    refine gf_X9_34 C (hmi 60 (by decide) (by decide)) dX9_ticks_56 (n := 59) rfl ?_
    refine dk_icmp_ge (t := 91) C dX9_ticks_59 (n := 62) rfl (by decide) (fun c14 => ?_) (fun c14 => ?_)
    · have h := h.1 c14
      refine dk_sub (L0 := [some (dk_r G 4 60), none]) ⟨rfl, trivial⟩ ?_
      exact hE91  s h
    · have h := h.2 c14
      refine dk_aload_n (i := 0) C dX9_ticks_62 (n := 63) rfl rfl rfl ?_
      refine gf_X9_77 C (hmi 60 (by decide) (by decide)) dX9_ticks_63 (n := 66) rfl ?_
      refine dk_iload_n (i := 1) C dX9_ticks_66 (n := 67) rfl rfl rfl ?_
      refine dk_dup2 C dX9_ticks_67 (n := 68) rfl rfl rfl ?_
      refine dk_iald C dk_sh80 h.1 (hmi 80 (by decide) (by decide)) dX9_ticks_68 (n := 69) rfl ?_
      have h := h.2
      refine dk_aload_n (i := 0) C dX9_ticks_69 (n := 70) rfl rfl rfl ?_
      refine gf_X9_77 C (hmi 60 (by decide) (by decide)) dX9_ticks_70 (n := 73) rfl ?_
      refine dk_iload_n (i := 1) C dX9_ticks_73 (n := 74) rfl rfl rfl ?_
      refine dk_iald C dk_sh80 h.1 (hmi 80 (by decide) (by decide)) dX9_ticks_74 (n := 75) rfl ?_
      have h := h.2
      refine dk_if_le (t := 82) C dX9_ticks_75 (n := 78) rfl (by decide) (fun c13 => ?_) (fun c13 => ?_)
      · have h := h.1 c13
        refine dk_iconst (v := 0) C dX9_ticks_82 (n := 83) rfl (by decide) ?_
        refine dk_isub C dX9_ticks_83 (n := 84) rfl ?_
        refine dk_iast C dk_sh80 h.1 (hmi 80 (by decide) (by decide)) dX9_ticks_84 (n := 85) rfl ?_
        refine dk_nameS (fun s9 es9 => ?_)
        have h := h.2 s9 es9
        obtain ⟨v10, ev10⟩ : ∃ y : Int32, y = x1 + 1 := ⟨_, rfl⟩
        have h := h v10 ev10
        refine dk_iinc (i := 1) (v := v10) (L' := [some (dk_r G 4 60), some (.int v10)]) C dX9_ticks_85 (n := 88) rfl rfl (by rw [ev10]; rfl) (dk_nc_of rfl) (Nat.le_of_ble_eq_true rfl) rfl ?_
        refine dk_goto (t := 54) C dX9_ticks_88 (by decide) ?_
        refine dk_sub (L0 := [some (dk_r G 4 60), some (.int v10)]) ⟨rfl, ⟨rfl, trivial⟩⟩ ?_
        exact hB v10 s9 h
      · have h := h.2 c13
        refine dk_iconst (v := 1) C dX9_ticks_78 (n := 79) rfl (by decide) ?_
        refine dk_goto (t := 83) C dX9_ticks_79 (by decide) ?_
        refine dk_isub C dX9_ticks_83 (n := 84) rfl ?_
        refine dk_iast C dk_sh80 h.1 (hmi 80 (by decide) (by decide)) dX9_ticks_84 (n := 85) rfl ?_
        refine dk_nameS (fun s11 es11 => ?_)
        have h := h.2 s11 es11
        obtain ⟨v12, ev12⟩ : ∃ y : Int32, y = x1 + 1 := ⟨_, rfl⟩
        have h := h v12 ev12
        refine dk_iinc (i := 1) (v := v12) (L' := [some (dk_r G 4 60), some (.int v12)]) C dX9_ticks_85 (n := 88) rfl rfl (by rw [ev12]; rfl) (dk_nc_of rfl) (Nat.le_of_ble_eq_true rfl) rfl ?_
        refine dk_goto (t := 54) C dX9_ticks_88 (by decide) ?_
        refine dk_sub (L0 := [some (dk_r G 4 60), some (.int v12)]) ⟨rfl, ⟨rfl, trivial⟩⟩ ?_
        exact hB v12 s11 h
set_option maxRecDepth 20000 in
set_option maxHeartbeats 4000000 in
theorem ww_X9_ticks_12 {G : dk_G} {P : Program} {l : Launch} {e : Env} {S0 : State} {m : MethodId} {args : Array Value} {bel : List Frame} {meth : Method} {c : Code}  (C : dk_C G P (dk_rm 2) S0 m args c 0 0 cX9_ticks 2 RX9) (hr : meth.sig.returnType = none) (hlk : meth.locks = false) (hmi : dk_MI G) {K : dk_S → Prop} {E52 : dk_S → Prop} (hE52 : ∀ (s : dk_S), E52 s → dk_W G P l e (dk_rm 2) S0 m args bel meth c 0 0 (MQ bel (dk_Qc G (dk_kv K)) args S0 0 0 (dk_A G)) 52 [some (dk_r G 4 60), none] [] s) : ∀ (n : Nat) (x1 : Int32) (s : dk_S), wf_X9_ticks_12 K E52 n x1 s → dk_W G P l e (dk_rm 2) S0 m args bel meth c 0 0 (MQ bel (dk_Qc G (dk_kv K)) args S0 0 0 (dk_A G)) 12 [some (dk_r G 4 60), some (.int x1)] [] s := by
  intro n
  induction n with
  | zero => intro x1 s h; exact False.elim h
  | succ n hB =>
    intro x1 s h
    unfold wf_X9_ticks_12 at h
    refine dk_iload_n (i := 1) C dX9_ticks_12 (n := 13) rfl rfl rfl ?_
    refine dk_aload_n (i := 0) C dX9_ticks_13 (n := 14) rfl rfl rfl ?_
    refine gf_X9_34 C (hmi 60 (by decide) (by decide)) dX9_ticks_14 (n := 17) rfl ?_
    refine dk_icmp_ge (t := 52) C dX9_ticks_17 (n := 20) rfl (by decide) (fun c24 => ?_) (fun c24 => ?_)
    · have h := h.1 c24
      refine dk_sub (L0 := [some (dk_r G 4 60), none]) ⟨rfl, trivial⟩ ?_
      exact hE52  s h
    · have h := h.2 c24
      refine dk_aload_n (i := 0) C dX9_ticks_20 (n := 21) rfl rfl rfl ?_
      refine gf_X9_71 C (hmi 60 (by decide) (by decide)) dX9_ticks_21 (n := 24) rfl ?_
      refine dk_iload_n (i := 1) C dX9_ticks_24 (n := 25) rfl rfl rfl ?_
      refine dk_dup2 C dX9_ticks_25 (n := 26) rfl rfl rfl ?_
      refine dk_iald C dk_sh78 h.1 (hmi 78 (by decide) (by decide)) dX9_ticks_26 (n := 27) rfl ?_
      have h := h.2
      refine dk_aload_n (i := 0) C dX9_ticks_27 (n := 28) rfl rfl rfl ?_
      refine dk_iload_n (i := 1) C dX9_ticks_28 (n := 29) rfl rfl rfl ?_
      refine dk_callVi C [.int (s 4 78 x1.toNatClampNeg), .int x1, dk_r G 4 78] (cc_X9_lives C.D hmi h) yy_X9_lives dk_wm_X9_200 dk_sh60 (hmi 60 (by decide) (by decide)) dX9_ticks_29 (fun r16 s15 h => ?_) rfl rfl ⟨Nat.le_of_ble_eq_true rfl, Nat.le_of_ble_eq_true rfl⟩ rfl (Nat.le_of_ble_eq_true rfl) rfl (n := 32) rfl
      refine dk_if_eq (t := 43) C dX9_ticks_32 (n := 35) rfl (by decide) (fun c23 => ?_) (fun c23 => ?_)
      · have h := h.1 c23
        refine dk_iconst (v := 0) C dX9_ticks_43 (n := 44) rfl (by decide) ?_
        refine dk_iadd C dX9_ticks_44 (n := 45) rfl ?_
        refine dk_iast C dk_sh78 h.1 (hmi 78 (by decide) (by decide)) dX9_ticks_45 (n := 46) rfl ?_
        refine dk_nameS (fun s17 es17 => ?_)
        have h := h.2 s17 es17
        obtain ⟨v18, ev18⟩ : ∃ y : Int32, y = x1 + 1 := ⟨_, rfl⟩
        have h := h v18 ev18
        refine dk_iinc (i := 1) (v := v18) (L' := [some (dk_r G 4 60), some (.int v18)]) C dX9_ticks_46 (n := 49) rfl rfl (by rw [ev18]; rfl) (dk_nc_of rfl) (Nat.le_of_ble_eq_true rfl) rfl ?_
        refine dk_goto (t := 12) C dX9_ticks_49 (by decide) ?_
        refine dk_sub (L0 := [some (dk_r G 4 60), some (.int v18)]) ⟨rfl, ⟨rfl, trivial⟩⟩ ?_
        exact hB v18 s17 h
      · have h := h.2 c23
        refine dk_aload_n (i := 0) C dX9_ticks_35 (n := 36) rfl rfl rfl ?_
        refine dk_iload_n (i := 1) C dX9_ticks_36 (n := 37) rfl rfl rfl ?_
        refine dk_callVi C [.int (s 4 78 x1.toNatClampNeg), .int x1, dk_r G 4 78] (cc_X9_speedOf C.D hmi h) yy_X9_speedOf dk_wm_X9_209 dk_sh60 (hmi 60 (by decide) (by decide)) dX9_ticks_37 (fun r20 s19 h => ?_) rfl rfl ⟨Nat.le_of_ble_eq_true rfl, Nat.le_of_ble_eq_true rfl⟩ rfl (Nat.le_of_ble_eq_true rfl) rfl (n := 40) rfl
        refine dk_goto (t := 44) C dX9_ticks_40 (by decide) ?_
        refine dk_iadd C dX9_ticks_44 (n := 45) rfl ?_
        refine dk_iast C dk_sh78 h.1 (hmi 78 (by decide) (by decide)) dX9_ticks_45 (n := 46) rfl ?_
        refine dk_nameS (fun s21 es21 => ?_)
        have h := h.2 s21 es21
        obtain ⟨v22, ev22⟩ : ∃ y : Int32, y = x1 + 1 := ⟨_, rfl⟩
        have h := h v22 ev22
        refine dk_iinc (i := 1) (v := v22) (L' := [some (dk_r G 4 60), some (.int v22)]) C dX9_ticks_46 (n := 49) rfl rfl (by rw [ev22]; rfl) (dk_nc_of rfl) (Nat.le_of_ble_eq_true rfl) rfl ?_
        refine dk_goto (t := 12) C dX9_ticks_49 (by decide) ?_
        refine dk_sub (L0 := [some (dk_r G 4 60), some (.int v22)]) ⟨rfl, ⟨rfl, trivial⟩⟩ ?_
        exact hB v22 s21 h
set_option maxRecDepth 20000 in
set_option maxHeartbeats 4000000 in
theorem cc_X9_ticks {G : dk_G} {l : Launch}  (hD : dk_D G) (hmi : dk_MI G) {s : dk_S} {K : dk_S → Prop} (h : wf_X9_ticks s K) : dk_M G l 2 yX9_ticks cX9_ticks 2 none [dk_r G 4 60] s (dk_kv K) := by
  refine dk_of hD (by decide) [some (dk_r G 4 60), none] (fun q hq => hq) rfl (Nat.le_of_ble_eq_true rfl) (fun P e S0 m args bel meth c C hr hlk => ?_)
  unfold wf_X9_ticks at h
  refine dk_aload_n (i := 0) C dX9_ticks_0 (n := 1) rfl rfl rfl ?_
  refine dk_dup C dX9_ticks_1 (n := 2) rfl rfl ?_
  refine gf_X9_133 C (hmi 60 (by decide) (by decide)) dX9_ticks_2 (n := 5) rfl ?_
  refine dk_iconst (v := 1) C dX9_ticks_5 (n := 6) rfl (by decide) ?_
  refine dk_iadd C dX9_ticks_6 (n := 7) rfl ?_
  refine pf_X9_133 C rfl rfl (hmi 60 (by decide) (by decide)) dX9_ticks_7 (n := 10) rfl ?_
  refine dk_nameS (fun s1 es1 => ?_)
  have h := h s1 es1
  refine dk_iconst (v := 0) C dX9_ticks_10 (n := 11) rfl (by decide) ?_
  refine dk_istore_n (i := 1) (L' := [some (dk_r G 4 60), some (.int 0)]) C dX9_ticks_11 (n := 12) rfl rfl (dk_nc_of rfl) (Nat.le_of_ble_eq_true rfl) rfl ?_
  obtain ⟨nn8, h⟩ := h
  refine dk_sub (L0 := [some (dk_r G 4 60), some (.int 0)]) ⟨rfl, ⟨rfl, trivial⟩⟩ ?_
  refine ww_X9_ticks_12 C hr hlk hmi (fun s2 h => ?_) nn8 0 s1 h
  · refine dk_iconst (v := 0) C dX9_ticks_52 (n := 53) rfl (by decide) ?_
    refine dk_istore_n (i := 1) (L' := [some (dk_r G 4 60), some (.int 0)]) C dX9_ticks_53 (n := 54) rfl rfl (dk_nc_of rfl) (Nat.le_of_ble_eq_true rfl) rfl ?_
    obtain ⟨nn7, h⟩ := h
    refine dk_sub (L0 := [some (dk_r G 4 60), some (.int 0)]) ⟨rfl, ⟨rfl, trivial⟩⟩ ?_
    refine ww_X9_ticks_54 C hr hlk hmi (fun s3 h => ?_) nn7 0 s2 h
    · refine dk_aload_n (i := 0) C dX9_ticks_91 (n := 92) rfl rfl rfl ?_
      refine dk_dup C dX9_ticks_92 (n := 93) rfl rfl ?_
      refine gf_X9_136 C (hmi 60 (by decide) (by decide)) dX9_ticks_93 (n := 96) rfl ?_
      refine dk_aload_n (i := 0) C dX9_ticks_96 (n := 97) rfl rfl rfl ?_
      refine gf_X9_136 C (hmi 60 (by decide) (by decide)) dX9_ticks_97 (n := 100) rfl ?_
      refine dk_if_le (t := 107) C dX9_ticks_100 (n := 103) rfl (by decide) (fun c6 => ?_) (fun c6 => ?_)
      · have h := h.1 c6
        refine dk_iconst (v := 0) C dX9_ticks_107 (n := 108) rfl (by decide) ?_
        refine dk_isub C dX9_ticks_108 (n := 109) rfl ?_
        refine pf_X9_136 C rfl rfl (hmi 60 (by decide) (by decide)) dX9_ticks_109 (n := 112) rfl ?_
        refine dk_nameS (fun s4 es4 => ?_)
        have h := h s4 es4
        exact dk_vret C hr hlk dX9_ticks_112 ⟨rfl, h⟩
      · have h := h.2 c6
        refine dk_iconst (v := 1) C dX9_ticks_103 (n := 104) rfl (by decide) ?_
        refine dk_goto (t := 108) C dX9_ticks_104 (by decide) ?_
        refine dk_isub C dX9_ticks_108 (n := 109) rfl ?_
        refine pf_X9_136 C rfl rfl (hmi 60 (by decide) (by decide)) dX9_ticks_109 (n := 112) rfl ?_
        refine dk_nameS (fun s5 es5 => ?_)
        have h := h s5 es5
        exact dk_vret C hr hlk dX9_ticks_112 ⟨rfl, h⟩
/-! X9_isBeside -/
def wf_X9_isBeside (a1 : Int32) (a2 : Int32) (s : dk_S) (K : Int32 → dk_S → Prop) : Prop :=
  wf_X9_xOf a1 s (fun r2 s1 => wf_X9_xOf a2 s1 (fun r4 s3 => wf_X9_far (r2 - r4) s3 (fun r6 s5 => wf_X9_yOf a1 s5 (fun r8 s7 => wf_X9_yOf a2 s7 (fun r10 s9 => wf_X9_far (r8 - r10) s9 (fun r12 s11 => ((¬ (r6 + r12) = 1 → K 0 s11) ∧ ((r6 + r12) = 1 → K 1 s11))))))))
set_option maxRecDepth 20000 in
set_option maxHeartbeats 4000000 in
theorem cc_X9_isBeside {G : dk_G} {l : Launch} {a1 : Int32} {a2 : Int32} (hD : dk_D G) (hmi : dk_MI G) {s : dk_S} {K : Int32 → dk_S → Prop} (h : wf_X9_isBeside a1 a2 s K) : dk_M G l 2 yX9_isBeside cX9_isBeside 3 (some .boolean) [dk_r G 4 60, .int a1, .int a2] s (dk_ki K) := by
  refine dk_of hD (by decide) [some (dk_r G 4 60), some (.int a1), some (.int a2)] (fun q hq => hq) rfl (Nat.le_of_ble_eq_true rfl) (fun P e S0 m args bel meth c C hr hlk => ?_)
  unfold wf_X9_isBeside at h
  refine dk_iload_n (i := 1) C dX9_isBeside_0 (n := 1) rfl rfl rfl ?_
  refine dk_callSi C [] (cc_X9_xOf C.D  h) yy_X9_xOf dk_wm_X9_114 dX9_isBeside_1 (fun r2 s1 h => ?_) rfl ⟨Nat.le_of_ble_eq_true rfl, Nat.le_of_ble_eq_true rfl⟩ rfl (Nat.le_of_ble_eq_true rfl) rfl (n := 4) rfl
  refine dk_iload_n (i := 2) C dX9_isBeside_4 (n := 5) rfl rfl rfl ?_
  refine dk_callSi C [.int r2] (cc_X9_xOf C.D  h) yy_X9_xOf dk_wm_X9_114 dX9_isBeside_5 (fun r4 s3 h => ?_) rfl ⟨Nat.le_of_ble_eq_true rfl, Nat.le_of_ble_eq_true rfl⟩ rfl (Nat.le_of_ble_eq_true rfl) rfl (n := 8) rfl
  refine dk_isub C dX9_isBeside_8 (n := 9) rfl ?_
  refine dk_callSi C [] (cc_X9_far C.D  h) yy_X9_far dk_wm_X9_171 dX9_isBeside_9 (fun r6 s5 h => ?_) rfl ⟨Nat.le_of_ble_eq_true rfl, Nat.le_of_ble_eq_true rfl⟩ rfl (Nat.le_of_ble_eq_true rfl) rfl (n := 12) rfl
  refine dk_iload_n (i := 1) C dX9_isBeside_12 (n := 13) rfl rfl rfl ?_
  refine dk_callSi C [.int r6] (cc_X9_yOf C.D  h) yy_X9_yOf dk_wm_X9_118 dX9_isBeside_13 (fun r8 s7 h => ?_) rfl ⟨Nat.le_of_ble_eq_true rfl, Nat.le_of_ble_eq_true rfl⟩ rfl (Nat.le_of_ble_eq_true rfl) rfl (n := 16) rfl
  refine dk_iload_n (i := 2) C dX9_isBeside_16 (n := 17) rfl rfl rfl ?_
  refine dk_callSi C [.int r8, .int r6] (cc_X9_yOf C.D  h) yy_X9_yOf dk_wm_X9_118 dX9_isBeside_17 (fun r10 s9 h => ?_) rfl ⟨Nat.le_of_ble_eq_true rfl, Nat.le_of_ble_eq_true rfl⟩ rfl (Nat.le_of_ble_eq_true rfl) rfl (n := 20) rfl
  refine dk_isub C dX9_isBeside_20 (n := 21) rfl ?_
  refine dk_callSi C [.int r6] (cc_X9_far C.D  h) yy_X9_far dk_wm_X9_171 dX9_isBeside_21 (fun r12 s11 h => ?_) rfl ⟨Nat.le_of_ble_eq_true rfl, Nat.le_of_ble_eq_true rfl⟩ rfl (Nat.le_of_ble_eq_true rfl) rfl (n := 24) rfl
  refine dk_iadd C dX9_isBeside_24 (n := 25) rfl ?_
  refine dk_iconst (v := 1) C dX9_isBeside_25 (n := 26) rfl (by decide) ?_
  refine dk_icmp_ne (t := 33) C dX9_isBeside_26 (n := 29) rfl (by decide) (fun c13 => ?_) (fun c13 => ?_)
  · have h := h.1 c13
    refine dk_iconst (v := 0) C dX9_isBeside_33 (n := 34) rfl (by decide) ?_
    exact dk_iret C hr hlk dk_nz0 dX9_isBeside_34 ⟨_, rfl, h⟩
  · have h := h.2 c13
    refine dk_iconst (v := 1) C dX9_isBeside_29 (n := 30) rfl (by decide) ?_
    refine dk_goto (t := 34) C dX9_isBeside_30 (by decide) ?_
    exact dk_iret C hr hlk dk_nz1 dX9_isBeside_34 ⟨_, rfl, h⟩
/-! X9_livingAt -/
def wf_X9_livingAt_4  (K : Int32 → dk_S → Prop) : Nat → Int32 → Int32 → Int32 → dk_S → Prop
  | 0, _, _, _, _ => False
  | n + 1, x1, x2, x3, s => (((s 4 60 10) ≤ x3 → K x2 s) ∧ (¬ (s 4 60 10) ≤ x3 → wf_X9_lives x3 s (fun r3 s2 => ((r3 = 0 → ∀ v4 : Int32, v4 = x3 + 1 → wf_X9_livingAt_4 K n x1 x2 v4 s2) ∧ (¬ r3 = 0 → (vp_in x3 8 ∧ ((¬ (s2 4 76 x3.toNatClampNeg) = x1 → ∀ v5 : Int32, v5 = x3 + 1 → wf_X9_livingAt_4 K n x1 x2 v5 s2) ∧ ((s2 4 76 x3.toNatClampNeg) = x1 → ∀ v6 : Int32, v6 = x3 + 1 → wf_X9_livingAt_4 K n x1 x3 v6 s2))))))))
def wf_X9_livingAt (a1 : Int32) (s : dk_S) (K : Int32 → dk_S → Prop) : Prop :=
  ∃ nn1 : Nat, wf_X9_livingAt_4 K nn1 a1 (-1) 0 s
set_option maxRecDepth 20000 in
set_option maxHeartbeats 4000000 in
theorem ww_X9_livingAt_4 {G : dk_G} {P : Program} {l : Launch} {e : Env} {S0 : State} {m : MethodId} {args : Array Value} {bel : List Frame} {meth : Method} {c : Code}  (C : dk_C G P (dk_rm 2) S0 m args c 0 0 cX9_livingAt 4 RX9) (hr : meth.sig.returnType = (some .int)) (hlk : meth.locks = false) (hmi : dk_MI G) {K : Int32 → dk_S → Prop}  : ∀ (n : Nat) (x1 : Int32) (x2 : Int32) (x3 : Int32) (s : dk_S), wf_X9_livingAt_4 K n x1 x2 x3 s → dk_W G P l e (dk_rm 2) S0 m args bel meth c 0 0 (MQ bel (dk_Qc G (dk_ki K)) args S0 0 0 (dk_A G)) 4 [some (dk_r G 4 60), some (.int x1), some (.int x2), some (.int x3)] [] s := by
  intro n
  induction n with
  | zero => intro x1 x2 x3 s h; exact False.elim h
  | succ n hB =>
    intro x1 x2 x3 s h
    unfold wf_X9_livingAt_4 at h
    refine dk_iload_n (i := 3) C dX9_livingAt_4 (n := 5) rfl rfl rfl ?_
    refine dk_aload_n (i := 0) C dX9_livingAt_5 (n := 6) rfl rfl rfl ?_
    refine gf_X9_34 C (hmi 60 (by decide) (by decide)) dX9_livingAt_6 (n := 9) rfl ?_
    refine dk_icmp_ge (t := 42) C dX9_livingAt_9 (n := 12) rfl (by decide) (fun c9 => ?_) (fun c9 => ?_)
    · have h := h.1 c9
      refine dk_iload_n (i := 2) C dX9_livingAt_42 (n := 43) rfl rfl rfl ?_
      exact dk_iret C hr hlk rfl dX9_livingAt_43 ⟨_, rfl, h⟩
    · have h := h.2 c9
      refine dk_aload_n (i := 0) C dX9_livingAt_12 (n := 13) rfl rfl rfl ?_
      refine dk_iload_n (i := 3) C dX9_livingAt_13 (n := 14) rfl rfl rfl ?_
      refine dk_callVi C [] (cc_X9_lives C.D hmi h) yy_X9_lives dk_wm_X9_200 dk_sh60 (hmi 60 (by decide) (by decide)) dX9_livingAt_14 (fun r3 s2 h => ?_) rfl rfl ⟨Nat.le_of_ble_eq_true rfl, Nat.le_of_ble_eq_true rfl⟩ rfl (Nat.le_of_ble_eq_true rfl) rfl (n := 17) rfl
      refine dk_if_eq (t := 34) C dX9_livingAt_17 (n := 20) rfl (by decide) (fun c8 => ?_) (fun c8 => ?_)
      · have h := h.1 c8
        refine dk_iload_n (i := 2) C dX9_livingAt_34 (n := 35) rfl rfl rfl ?_
        refine dk_istore_n (i := 2) (L' := [some (dk_r G 4 60), some (.int x1), some (.int x2), some (.int x3)]) C dX9_livingAt_35 (n := 36) rfl rfl (dk_nc_of rfl) (Nat.le_of_ble_eq_true rfl) rfl ?_
        obtain ⟨v4, ev4⟩ : ∃ y : Int32, y = x3 + 1 := ⟨_, rfl⟩
        have h := h v4 ev4
        refine dk_iinc (i := 3) (v := v4) (L' := [some (dk_r G 4 60), some (.int x1), some (.int x2), some (.int v4)]) C dX9_livingAt_36 (n := 39) rfl rfl (by rw [ev4]; rfl) (dk_nc_of rfl) (Nat.le_of_ble_eq_true rfl) rfl ?_
        refine dk_goto (t := 4) C dX9_livingAt_39 (by decide) ?_
        refine dk_sub (L0 := [some (dk_r G 4 60), some (.int x1), some (.int x2), some (.int v4)]) ⟨rfl, ⟨rfl, ⟨rfl, ⟨rfl, trivial⟩⟩⟩⟩ ?_
        exact hB x1 x2 v4 s2 h
      · have h := h.2 c8
        refine dk_aload_n (i := 0) C dX9_livingAt_20 (n := 21) rfl rfl rfl ?_
        refine gf_X9_65 C (hmi 60 (by decide) (by decide)) dX9_livingAt_21 (n := 24) rfl ?_
        refine dk_iload_n (i := 3) C dX9_livingAt_24 (n := 25) rfl rfl rfl ?_
        refine dk_iald C dk_sh76 h.1 (hmi 76 (by decide) (by decide)) dX9_livingAt_25 (n := 26) rfl ?_
        have h := h.2
        refine dk_iload_n (i := 1) C dX9_livingAt_26 (n := 27) rfl rfl rfl ?_
        refine dk_icmp_ne (t := 34) C dX9_livingAt_27 (n := 30) rfl (by decide) (fun c7 => ?_) (fun c7 => ?_)
        · have h := h.1 c7
          refine dk_iload_n (i := 2) C dX9_livingAt_34 (n := 35) rfl rfl rfl ?_
          refine dk_istore_n (i := 2) (L' := [some (dk_r G 4 60), some (.int x1), some (.int x2), some (.int x3)]) C dX9_livingAt_35 (n := 36) rfl rfl (dk_nc_of rfl) (Nat.le_of_ble_eq_true rfl) rfl ?_
          obtain ⟨v5, ev5⟩ : ∃ y : Int32, y = x3 + 1 := ⟨_, rfl⟩
          have h := h v5 ev5
          refine dk_iinc (i := 3) (v := v5) (L' := [some (dk_r G 4 60), some (.int x1), some (.int x2), some (.int v5)]) C dX9_livingAt_36 (n := 39) rfl rfl (by rw [ev5]; rfl) (dk_nc_of rfl) (Nat.le_of_ble_eq_true rfl) rfl ?_
          refine dk_goto (t := 4) C dX9_livingAt_39 (by decide) ?_
          refine dk_sub (L0 := [some (dk_r G 4 60), some (.int x1), some (.int x2), some (.int v5)]) ⟨rfl, ⟨rfl, ⟨rfl, ⟨rfl, trivial⟩⟩⟩⟩ ?_
          exact hB x1 x2 v5 s2 h
        · have h := h.2 c7
          refine dk_iload_n (i := 3) C dX9_livingAt_30 (n := 31) rfl rfl rfl ?_
          refine dk_goto (t := 35) C dX9_livingAt_31 (by decide) ?_
          refine dk_istore_n (i := 2) (L' := [some (dk_r G 4 60), some (.int x1), some (.int x3), some (.int x3)]) C dX9_livingAt_35 (n := 36) rfl rfl (dk_nc_of rfl) (Nat.le_of_ble_eq_true rfl) rfl ?_
          obtain ⟨v6, ev6⟩ : ∃ y : Int32, y = x3 + 1 := ⟨_, rfl⟩
          have h := h v6 ev6
          refine dk_iinc (i := 3) (v := v6) (L' := [some (dk_r G 4 60), some (.int x1), some (.int x3), some (.int v6)]) C dX9_livingAt_36 (n := 39) rfl rfl (by rw [ev6]; rfl) (dk_nc_of rfl) (Nat.le_of_ble_eq_true rfl) rfl ?_
          refine dk_goto (t := 4) C dX9_livingAt_39 (by decide) ?_
          refine dk_sub (L0 := [some (dk_r G 4 60), some (.int x1), some (.int x3), some (.int v6)]) ⟨rfl, ⟨rfl, ⟨rfl, ⟨rfl, trivial⟩⟩⟩⟩ ?_
          exact hB x1 x3 v6 s2 h
set_option maxRecDepth 20000 in
set_option maxHeartbeats 4000000 in
theorem cc_X9_livingAt {G : dk_G} {l : Launch} {a1 : Int32} (hD : dk_D G) (hmi : dk_MI G) {s : dk_S} {K : Int32 → dk_S → Prop} (h : wf_X9_livingAt a1 s K) : dk_M G l 2 yX9_livingAt cX9_livingAt 4 (some .int) [dk_r G 4 60, .int a1] s (dk_ki K) := by
  refine dk_of hD (by decide) [some (dk_r G 4 60), some (.int a1), none, none] (fun q hq => hq) rfl (Nat.le_of_ble_eq_true rfl) (fun P e S0 m args bel meth c C hr hlk => ?_)
  unfold wf_X9_livingAt at h
  refine dk_iconst (v := (-1)) C dX9_livingAt_0 (n := 1) rfl (by decide) ?_
  refine dk_istore_n (i := 2) (L' := [some (dk_r G 4 60), some (.int a1), some (.int (-1)), none]) C dX9_livingAt_1 (n := 2) rfl rfl (dk_nc_of rfl) (Nat.le_of_ble_eq_true rfl) rfl ?_
  refine dk_iconst (v := 0) C dX9_livingAt_2 (n := 3) rfl (by decide) ?_
  refine dk_istore_n (i := 3) (L' := [some (dk_r G 4 60), some (.int a1), some (.int (-1)), some (.int 0)]) C dX9_livingAt_3 (n := 4) rfl rfl (dk_nc_of rfl) (Nat.le_of_ble_eq_true rfl) rfl ?_
  obtain ⟨nn1, h⟩ := h
  refine dk_sub (L0 := [some (dk_r G 4 60), some (.int a1), some (.int (-1)), some (.int 0)]) ⟨rfl, ⟨rfl, ⟨rfl, ⟨rfl, trivial⟩⟩⟩⟩ ?_
  refine ww_X9_livingAt_4 C hr hlk hmi  nn1 a1 (-1) 0 s h
/-! X9_isOpenFor -/
def wf_X9_isOpenFor (a1 : Int32) (s : dk_S) (K : Int32 → dk_S → Prop) : Prop :=
  wf_X9_isFree a1 s (fun r2 s1 => ((r2 = 0 → K 0 s1) ∧ (¬ r2 = 0 → wf_X9_livingAt a1 s1 (fun r4 s3 => ((¬ r4 = (-1) → K 0 s3) ∧ (r4 = (-1) → K 1 s3))))))
set_option maxRecDepth 20000 in
set_option maxHeartbeats 4000000 in
theorem cc_X9_isOpenFor {G : dk_G} {l : Launch} {a1 : Int32} (hD : dk_D G) (hmi : dk_MI G) {s : dk_S} {K : Int32 → dk_S → Prop} (h : wf_X9_isOpenFor a1 s K) : dk_M G l 3 yX9_isOpenFor cX9_isOpenFor 2 (some .boolean) [dk_r G 4 60, .int a1] s (dk_ki K) := by
  refine dk_of hD (by decide) [some (dk_r G 4 60), some (.int a1)] (fun q hq => hq) rfl (Nat.le_of_ble_eq_true rfl) (fun P e S0 m args bel meth c C hr hlk => ?_)
  unfold wf_X9_isOpenFor at h
  refine dk_aload_n (i := 0) C dX9_isOpenFor_0 (n := 1) rfl rfl rfl ?_
  refine dk_iload_n (i := 1) C dX9_isOpenFor_1 (n := 2) rfl rfl rfl ?_
  refine dk_callVi C [] (cc_X9_isFree C.D hmi h) yy_X9_isFree dk_wm_X9_174 dk_sh60 (hmi 60 (by decide) (by decide)) dX9_isOpenFor_2 (fun r2 s1 h => ?_) rfl rfl ⟨Nat.le_of_ble_eq_true rfl, Nat.le_of_ble_eq_true rfl⟩ rfl (Nat.le_of_ble_eq_true rfl) rfl (n := 5) rfl
  refine dk_if_eq (t := 21) C dX9_isOpenFor_5 (n := 8) rfl (by decide) (fun c6 => ?_) (fun c6 => ?_)
  · have h := h.1 c6
    refine dk_iconst (v := 0) C dX9_isOpenFor_21 (n := 22) rfl (by decide) ?_
    exact dk_iret C hr hlk dk_nz0 dX9_isOpenFor_22 ⟨_, rfl, h⟩
  · have h := h.2 c6
    refine dk_aload_n (i := 0) C dX9_isOpenFor_8 (n := 9) rfl rfl rfl ?_
    refine dk_iload_n (i := 1) C dX9_isOpenFor_9 (n := 10) rfl rfl rfl ?_
    refine dk_callVi C [] (cc_X9_livingAt C.D hmi h) yy_X9_livingAt dk_wm_X9_229 dk_sh60 (hmi 60 (by decide) (by decide)) dX9_isOpenFor_10 (fun r4 s3 h => ?_) rfl rfl ⟨Nat.le_of_ble_eq_true rfl, Nat.le_of_ble_eq_true rfl⟩ rfl (Nat.le_of_ble_eq_true rfl) rfl (n := 13) rfl
    refine dk_iconst (v := (-1)) C dX9_isOpenFor_13 (n := 14) rfl (by decide) ?_
    refine dk_icmp_ne (t := 21) C dX9_isOpenFor_14 (n := 17) rfl (by decide) (fun c5 => ?_) (fun c5 => ?_)
    · have h := h.1 c5
      refine dk_iconst (v := 0) C dX9_isOpenFor_21 (n := 22) rfl (by decide) ?_
      exact dk_iret C hr hlk dk_nz0 dX9_isOpenFor_22 ⟨_, rfl, h⟩
    · have h := h.2 c5
      refine dk_iconst (v := 1) C dX9_isOpenFor_17 (n := 18) rfl (by decide) ?_
      refine dk_goto (t := 22) C dX9_isOpenFor_18 (by decide) ?_
      exact dk_iret C hr hlk dk_nz1 dX9_isOpenFor_22 ⟨_, rfl, h⟩
/-! X9_chosen -/
def wf_X9_chosen_142  (K : Int32 → dk_S → Prop) (B : Int32 → Int32 → Int32 → Int32 → dk_S → Prop) (x1 : Int32) (x2 : Int32) (x3 : Int32) (x4 : Int32) (s : dk_S) : Prop :=
  ∀ v19 : Int32, v19 = x4 + 1 → B x1 x2 x3 v19 s
def wf_X9_chosen_99  (K : Int32 → dk_S → Prop) (B : Int32 → Int32 → Int32 → Int32 → dk_S → Prop) (x1 : Int32) (x2 : Int32) (x3 : Int32) (x4 : Int32) (x5 : Int32) (x6 : Int32) (y0 : Int32) (s : dk_S) : Prop :=
  ((x6 = 0 → wf_X9_chosen_142 K B x1 x2 x3 x4 s) ∧ (¬ x6 = 0 → ((x2 = 0 → (vp_in x5 144 ∧ ((y0 ≤ (s 4 86 x5.toNatClampNeg) → wf_X9_chosen_142 K B x1 x2 x3 x4 s) ∧ (¬ y0 ≤ (s 4 86 x5.toNatClampNeg) → ∀ v13 : Int32, v13 = x4 + 1 → B x1 x2 x5 v13 s)))) ∧ (¬ x2 = 0 → (vp_in x5 144 ∧ (((s 4 86 x5.toNatClampNeg) ≤ y0 → wf_X9_chosen_142 K B x1 x2 x3 x4 s) ∧ (¬ (s 4 86 x5.toNatClampNeg) ≤ y0 → ∀ v15 : Int32, v15 = x4 + 1 → B x1 x2 x5 v15 s)))))))
def wf_X9_chosen_72  (K : Int32 → dk_S → Prop) (B : Int32 → Int32 → Int32 → Int32 → dk_S → Prop) (x1 : Int32) (x2 : Int32) (x3 : Int32) (x4 : Int32) (x5 : Int32) (y0 : Int32) (s : dk_S) : Prop :=
  ((¬ x3 = (-1) → (vp_in x3 144 ∧ wf_X9_chosen_99 K B x1 x2 x3 x4 x5 y0 (s 4 86 x3.toNatClampNeg) s)) ∧ (x3 = (-1) → (vp_in x1 8 ∧ (vp_in (s 4 76 x1.toNatClampNeg) 144 ∧ wf_X9_chosen_99 K B x1 x2 x3 x4 x5 y0 (s 4 86 (s 4 76 x1.toNatClampNeg).toNatClampNeg) s))))
def wf_X9_chosen_5  (K : Int32 → dk_S → Prop) : Nat → Int32 → Int32 → Int32 → Int32 → dk_S → Prop
  | 0, _, _, _, _, _ => False
  | n + 1, x1, x2, x3, x4, s => ((4 ≤ x4 → K x3 s) ∧ (¬ 4 ≤ x4 → (vp_in x1 8 ∧ wf_X9_beside (s 4 76 x1.toNatClampNeg) x4 s (fun r3 s2 => ((r3 = (-1) → wf_X9_chosen_72 K (wf_X9_chosen_5 K n) x1 x2 x3 x4 r3 0 s2) ∧ (¬ r3 = (-1) → (vp_in r3 144 ∧ ((100000 ≤ (s2 4 86 r3.toNatClampNeg) → wf_X9_chosen_72 K (wf_X9_chosen_5 K n) x1 x2 x3 x4 r3 0 s2) ∧ (¬ 100000 ≤ (s2 4 86 r3.toNatClampNeg) → wf_X9_isOpenFor r3 s2 (fun r5 s4 => ((¬ r5 = 0 → wf_X9_chosen_72 K (wf_X9_chosen_5 K n) x1 x2 x3 x4 r3 1 s4) ∧ (r5 = 0 → ((¬ x2 = 0 → wf_X9_chosen_72 K (wf_X9_chosen_5 K n) x1 x2 x3 x4 r3 0 s4) ∧ (x2 = 0 → (vp_in r3 144 ∧ ((¬ (s4 4 75 r3.toNatClampNeg) = 43 → wf_X9_chosen_72 K (wf_X9_chosen_5 K n) x1 x2 x3 x4 r3 0 s4) ∧ ((s4 4 75 r3.toNatClampNeg) = 43 → wf_X9_chosen_72 K (wf_X9_chosen_5 K n) x1 x2 x3 x4 r3 1 s4)))))))))))))))))
def wf_X9_chosen (a1 : Int32) (a2 : Int32) (s : dk_S) (K : Int32 → dk_S → Prop) : Prop :=
  ∃ nn1 : Nat, wf_X9_chosen_5 K nn1 a1 a2 (-1) 0 s
set_option maxRecDepth 20000 in
set_option maxHeartbeats 4000000 in
theorem ww_X9_chosen_142 {G : dk_G} {P : Program} {l : Launch} {e : Env} {S0 : State} {m : MethodId} {args : Array Value} {bel : List Frame} {meth : Method} {c : Code}  (C : dk_C G P (dk_rm 4) S0 m args c 0 0 cX9_chosen 8 RX9) (hr : meth.sig.returnType = (some .int)) (hlk : meth.locks = false) (hmi : dk_MI G) {K : Int32 → dk_S → Prop} {B : Int32 → Int32 → Int32 → Int32 → dk_S → Prop} (hB : ∀ (x1 : Int32) (x2 : Int32) (x3 : Int32) (x4 : Int32) (s : dk_S), B x1 x2 x3 x4 s → dk_W G P l e (dk_rm 4) S0 m args bel meth c 0 0 (MQ bel (dk_Qc G (dk_ki K)) args S0 0 0 (dk_A G)) 5 [some (dk_r G 4 60), some (.int x1), some (.int x2), some (.int x3), some (.int x4), none, none, none] [] s)  : ∀ (x1 : Int32) (x2 : Int32) (x3 : Int32) (x4 : Int32) (s : dk_S), wf_X9_chosen_142 K B x1 x2 x3 x4 s → dk_W G P l e (dk_rm 4) S0 m args bel meth c 0 0 (MQ bel (dk_Qc G (dk_ki K)) args S0 0 0 (dk_A G)) 142 [some (dk_r G 4 60), some (.int x1), some (.int x2), some (.int x3), some (.int x4), none, none, none] [] s := by
  intro x1 x2 x3 x4 s h
  unfold wf_X9_chosen_142 at h
  refine dk_iload_n (i := 3) C dX9_chosen_142 (n := 143) rfl rfl rfl ?_
  refine dk_istore_n (i := 3) (L' := [some (dk_r G 4 60), some (.int x1), some (.int x2), some (.int x3), some (.int x4), none, none, none]) C dX9_chosen_143 (n := 144) rfl rfl (dk_nc_of rfl) (Nat.le_of_ble_eq_true rfl) rfl ?_
  obtain ⟨v19, ev19⟩ : ∃ y : Int32, y = x4 + 1 := ⟨_, rfl⟩
  have h := h v19 ev19
  refine dk_iinc (i := 4) (v := v19) (L' := [some (dk_r G 4 60), some (.int x1), some (.int x2), some (.int x3), some (.int v19), none, none, none]) C dX9_chosen_144 (n := 147) rfl rfl (by rw [ev19]; rfl) (dk_nc_of rfl) (Nat.le_of_ble_eq_true rfl) rfl ?_
  refine dk_goto (t := 5) C dX9_chosen_147 (by decide) ?_
  refine dk_sub (L0 := [some (dk_r G 4 60), some (.int x1), some (.int x2), some (.int x3), some (.int v19), none, none, none]) ⟨rfl, ⟨rfl, ⟨rfl, ⟨rfl, ⟨rfl, trivial⟩⟩⟩⟩⟩ ?_
  exact hB x1 x2 x3 v19 s h
set_option maxRecDepth 20000 in
set_option maxHeartbeats 4000000 in
theorem ww_X9_chosen_99 {G : dk_G} {P : Program} {l : Launch} {e : Env} {S0 : State} {m : MethodId} {args : Array Value} {bel : List Frame} {meth : Method} {c : Code}  (C : dk_C G P (dk_rm 4) S0 m args c 0 0 cX9_chosen 8 RX9) (hr : meth.sig.returnType = (some .int)) (hlk : meth.locks = false) (hmi : dk_MI G) {K : Int32 → dk_S → Prop} {B : Int32 → Int32 → Int32 → Int32 → dk_S → Prop} (hB : ∀ (x1 : Int32) (x2 : Int32) (x3 : Int32) (x4 : Int32) (s : dk_S), B x1 x2 x3 x4 s → dk_W G P l e (dk_rm 4) S0 m args bel meth c 0 0 (MQ bel (dk_Qc G (dk_ki K)) args S0 0 0 (dk_A G)) 5 [some (dk_r G 4 60), some (.int x1), some (.int x2), some (.int x3), some (.int x4), none, none, none] [] s)  : ∀ (x1 : Int32) (x2 : Int32) (x3 : Int32) (x4 : Int32) (x5 : Int32) (x6 : Int32) (y0 : Int32) (s : dk_S), wf_X9_chosen_99 K B x1 x2 x3 x4 x5 x6 y0 s → dk_W G P l e (dk_rm 4) S0 m args bel meth c 0 0 (MQ bel (dk_Qc G (dk_ki K)) args S0 0 0 (dk_A G)) 99 [some (dk_r G 4 60), some (.int x1), some (.int x2), some (.int x3), some (.int x4), some (.int x5), some (.int x6), none] [.int y0] s := by
  intro x1 x2 x3 x4 x5 x6 y0 s h
  unfold wf_X9_chosen_99 at h
  refine dk_istore (i := 7) (L' := [some (dk_r G 4 60), some (.int x1), some (.int x2), some (.int x3), some (.int x4), some (.int x5), some (.int x6), some (.int y0)]) C dX9_chosen_99 (n := 101) rfl (dk_nc_of rfl) (Nat.le_of_ble_eq_true rfl) rfl ?_
  refine dk_iload C dX9_chosen_101 (n := 103) rfl (i := 6) rfl ?_
  refine dk_if_eq (t := 142) C dX9_chosen_103 (n := 106) rfl (by decide) (fun c18 => ?_) (fun c18 => ?_)
  · have h := h.1 c18
    refine dk_sub (L0 := [some (dk_r G 4 60), some (.int x1), some (.int x2), some (.int x3), some (.int x4), none, none, none]) ⟨rfl, ⟨rfl, ⟨rfl, ⟨rfl, ⟨rfl, trivial⟩⟩⟩⟩⟩ ?_
    exact ww_X9_chosen_142 C hr hlk hmi hB x1 x2 x3 x4 s h
  · have h := h.2 c18
    refine dk_iload_n (i := 2) C dX9_chosen_106 (n := 107) rfl rfl rfl ?_
    refine dk_if_eq (t := 125) C dX9_chosen_107 (n := 110) rfl (by decide) (fun c17 => ?_) (fun c17 => ?_)
    · have h := h.1 c17
      refine dk_aload_n (i := 0) C dX9_chosen_125 (n := 126) rfl rfl rfl ?_
      refine gf_X9_98 C (hmi 60 (by decide) (by decide)) dX9_chosen_126 (n := 129) rfl ?_
      refine dk_iload C dX9_chosen_129 (n := 131) rfl (i := 5) rfl ?_
      refine dk_iald C dk_sh86 h.1 (hmi 86 (by decide) (by decide)) dX9_chosen_131 (n := 132) rfl ?_
      have h := h.2
      refine dk_iload C dX9_chosen_132 (n := 134) rfl (i := 7) rfl ?_
      refine dk_icmp_ge (t := 142) C dX9_chosen_134 (n := 137) rfl (by decide) (fun c14 => ?_) (fun c14 => ?_)
      · have h := h.1 c14
        refine dk_sub (L0 := [some (dk_r G 4 60), some (.int x1), some (.int x2), some (.int x3), some (.int x4), none, none, none]) ⟨rfl, ⟨rfl, ⟨rfl, ⟨rfl, ⟨rfl, trivial⟩⟩⟩⟩⟩ ?_
        exact ww_X9_chosen_142 C hr hlk hmi hB x1 x2 x3 x4 s h
      · have h := h.2 c14
        refine dk_iload C dX9_chosen_137 (n := 139) rfl (i := 5) rfl ?_
        refine dk_goto (t := 143) C dX9_chosen_139 (by decide) ?_
        refine dk_istore_n (i := 3) (L' := [some (dk_r G 4 60), some (.int x1), some (.int x2), some (.int x5), some (.int x4), some (.int x5), some (.int x6), some (.int y0)]) C dX9_chosen_143 (n := 144) rfl rfl (dk_nc_of rfl) (Nat.le_of_ble_eq_true rfl) rfl ?_
        obtain ⟨v13, ev13⟩ : ∃ y : Int32, y = x4 + 1 := ⟨_, rfl⟩
        have h := h v13 ev13
        refine dk_iinc (i := 4) (v := v13) (L' := [some (dk_r G 4 60), some (.int x1), some (.int x2), some (.int x5), some (.int v13), some (.int x5), some (.int x6), some (.int y0)]) C dX9_chosen_144 (n := 147) rfl rfl (by rw [ev13]; rfl) (dk_nc_of rfl) (Nat.le_of_ble_eq_true rfl) rfl ?_
        refine dk_goto (t := 5) C dX9_chosen_147 (by decide) ?_
        refine dk_sub (L0 := [some (dk_r G 4 60), some (.int x1), some (.int x2), some (.int x5), some (.int v13), none, none, none]) ⟨rfl, ⟨rfl, ⟨rfl, ⟨rfl, ⟨rfl, trivial⟩⟩⟩⟩⟩ ?_
        exact hB x1 x2 x5 v13 s h
    · have h := h.2 c17
      refine dk_aload_n (i := 0) C dX9_chosen_110 (n := 111) rfl rfl rfl ?_
      refine gf_X9_98 C (hmi 60 (by decide) (by decide)) dX9_chosen_111 (n := 114) rfl ?_
      refine dk_iload C dX9_chosen_114 (n := 116) rfl (i := 5) rfl ?_
      refine dk_iald C dk_sh86 h.1 (hmi 86 (by decide) (by decide)) dX9_chosen_116 (n := 117) rfl ?_
      have h := h.2
      refine dk_iload C dX9_chosen_117 (n := 119) rfl (i := 7) rfl ?_
      refine dk_icmp_le (t := 142) C dX9_chosen_119 (n := 122) rfl (by decide) (fun c16 => ?_) (fun c16 => ?_)
      · have h := h.1 c16
        refine dk_sub (L0 := [some (dk_r G 4 60), some (.int x1), some (.int x2), some (.int x3), some (.int x4), none, none, none]) ⟨rfl, ⟨rfl, ⟨rfl, ⟨rfl, ⟨rfl, trivial⟩⟩⟩⟩⟩ ?_
        exact ww_X9_chosen_142 C hr hlk hmi hB x1 x2 x3 x4 s h
      · have h := h.2 c16
        refine dk_goto (t := 137) C dX9_chosen_122 (by decide) ?_
        refine dk_iload C dX9_chosen_137 (n := 139) rfl (i := 5) rfl ?_
        refine dk_goto (t := 143) C dX9_chosen_139 (by decide) ?_
        refine dk_istore_n (i := 3) (L' := [some (dk_r G 4 60), some (.int x1), some (.int x2), some (.int x5), some (.int x4), some (.int x5), some (.int x6), some (.int y0)]) C dX9_chosen_143 (n := 144) rfl rfl (dk_nc_of rfl) (Nat.le_of_ble_eq_true rfl) rfl ?_
        obtain ⟨v15, ev15⟩ : ∃ y : Int32, y = x4 + 1 := ⟨_, rfl⟩
        have h := h v15 ev15
        refine dk_iinc (i := 4) (v := v15) (L' := [some (dk_r G 4 60), some (.int x1), some (.int x2), some (.int x5), some (.int v15), some (.int x5), some (.int x6), some (.int y0)]) C dX9_chosen_144 (n := 147) rfl rfl (by rw [ev15]; rfl) (dk_nc_of rfl) (Nat.le_of_ble_eq_true rfl) rfl ?_
        refine dk_goto (t := 5) C dX9_chosen_147 (by decide) ?_
        refine dk_sub (L0 := [some (dk_r G 4 60), some (.int x1), some (.int x2), some (.int x5), some (.int v15), none, none, none]) ⟨rfl, ⟨rfl, ⟨rfl, ⟨rfl, ⟨rfl, trivial⟩⟩⟩⟩⟩ ?_
        exact hB x1 x2 x5 v15 s h
set_option maxRecDepth 20000 in
set_option maxHeartbeats 4000000 in
theorem ww_X9_chosen_72 {G : dk_G} {P : Program} {l : Launch} {e : Env} {S0 : State} {m : MethodId} {args : Array Value} {bel : List Frame} {meth : Method} {c : Code}  (C : dk_C G P (dk_rm 4) S0 m args c 0 0 cX9_chosen 8 RX9) (hr : meth.sig.returnType = (some .int)) (hlk : meth.locks = false) (hmi : dk_MI G) {K : Int32 → dk_S → Prop} {B : Int32 → Int32 → Int32 → Int32 → dk_S → Prop} (hB : ∀ (x1 : Int32) (x2 : Int32) (x3 : Int32) (x4 : Int32) (s : dk_S), B x1 x2 x3 x4 s → dk_W G P l e (dk_rm 4) S0 m args bel meth c 0 0 (MQ bel (dk_Qc G (dk_ki K)) args S0 0 0 (dk_A G)) 5 [some (dk_r G 4 60), some (.int x1), some (.int x2), some (.int x3), some (.int x4), none, none, none] [] s)  : ∀ (x1 : Int32) (x2 : Int32) (x3 : Int32) (x4 : Int32) (x5 : Int32) (y0 : Int32) (s : dk_S), wf_X9_chosen_72 K B x1 x2 x3 x4 x5 y0 s → dk_W G P l e (dk_rm 4) S0 m args bel meth c 0 0 (MQ bel (dk_Qc G (dk_ki K)) args S0 0 0 (dk_A G)) 72 [some (dk_r G 4 60), some (.int x1), some (.int x2), some (.int x3), some (.int x4), some (.int x5), none, none] [.int y0] s := by
  intro x1 x2 x3 x4 x5 y0 s h
  unfold wf_X9_chosen_72 at h
  refine dk_istore (i := 6) (L' := [some (dk_r G 4 60), some (.int x1), some (.int x2), some (.int x3), some (.int x4), some (.int x5), some (.int y0), none]) C dX9_chosen_72 (n := 74) rfl (dk_nc_of rfl) (Nat.le_of_ble_eq_true rfl) rfl ?_
  refine dk_iload_n (i := 3) C dX9_chosen_74 (n := 75) rfl rfl rfl ?_
  refine dk_iconst (v := (-1)) C dX9_chosen_75 (n := 76) rfl (by decide) ?_
  refine dk_icmp_ne (t := 93) C dX9_chosen_76 (n := 79) rfl (by decide) (fun c12 => ?_) (fun c12 => ?_)
  · have h := h.1 c12
    refine dk_aload_n (i := 0) C dX9_chosen_93 (n := 94) rfl rfl rfl ?_
    refine gf_X9_98 C (hmi 60 (by decide) (by decide)) dX9_chosen_94 (n := 97) rfl ?_
    refine dk_iload_n (i := 3) C dX9_chosen_97 (n := 98) rfl rfl rfl ?_
    refine dk_iald C dk_sh86 h.1 (hmi 86 (by decide) (by decide)) dX9_chosen_98 (n := 99) rfl ?_
    have h := h.2
    refine dk_sub (L0 := [some (dk_r G 4 60), some (.int x1), some (.int x2), some (.int x3), some (.int x4), some (.int x5), some (.int y0), none]) ⟨rfl, ⟨rfl, ⟨rfl, ⟨rfl, ⟨rfl, ⟨rfl, ⟨rfl, trivial⟩⟩⟩⟩⟩⟩⟩ ?_
    exact ww_X9_chosen_99 C hr hlk hmi hB x1 x2 x3 x4 x5 y0 (s 4 86 x3.toNatClampNeg) s h
  · have h := h.2 c12
    refine dk_aload_n (i := 0) C dX9_chosen_79 (n := 80) rfl rfl rfl ?_
    refine gf_X9_98 C (hmi 60 (by decide) (by decide)) dX9_chosen_80 (n := 83) rfl ?_
    refine dk_aload_n (i := 0) C dX9_chosen_83 (n := 84) rfl rfl rfl ?_
    refine gf_X9_65 C (hmi 60 (by decide) (by decide)) dX9_chosen_84 (n := 87) rfl ?_
    refine dk_iload_n (i := 1) C dX9_chosen_87 (n := 88) rfl rfl rfl ?_
    refine dk_iald C dk_sh76 h.1 (hmi 76 (by decide) (by decide)) dX9_chosen_88 (n := 89) rfl ?_
    have h := h.2
    refine dk_iald C dk_sh86 h.1 (hmi 86 (by decide) (by decide)) dX9_chosen_89 (n := 90) rfl ?_
    have h := h.2
    refine dk_goto (t := 99) C dX9_chosen_90 (by decide) ?_
    refine dk_sub (L0 := [some (dk_r G 4 60), some (.int x1), some (.int x2), some (.int x3), some (.int x4), some (.int x5), some (.int y0), none]) ⟨rfl, ⟨rfl, ⟨rfl, ⟨rfl, ⟨rfl, ⟨rfl, ⟨rfl, trivial⟩⟩⟩⟩⟩⟩⟩ ?_
    exact ww_X9_chosen_99 C hr hlk hmi hB x1 x2 x3 x4 x5 y0 (s 4 86 (s 4 76 x1.toNatClampNeg).toNatClampNeg) s h
set_option maxRecDepth 20000 in
set_option maxHeartbeats 4000000 in
theorem ww_X9_chosen_5 {G : dk_G} {P : Program} {l : Launch} {e : Env} {S0 : State} {m : MethodId} {args : Array Value} {bel : List Frame} {meth : Method} {c : Code}  (C : dk_C G P (dk_rm 4) S0 m args c 0 0 cX9_chosen 8 RX9) (hr : meth.sig.returnType = (some .int)) (hlk : meth.locks = false) (hmi : dk_MI G) {K : Int32 → dk_S → Prop}  : ∀ (n : Nat) (x1 : Int32) (x2 : Int32) (x3 : Int32) (x4 : Int32) (s : dk_S), wf_X9_chosen_5 K n x1 x2 x3 x4 s → dk_W G P l e (dk_rm 4) S0 m args bel meth c 0 0 (MQ bel (dk_Qc G (dk_ki K)) args S0 0 0 (dk_A G)) 5 [some (dk_r G 4 60), some (.int x1), some (.int x2), some (.int x3), some (.int x4), none, none, none] [] s := by
  intro n
  induction n with
  | zero => intro x1 x2 x3 x4 s h; exact False.elim h
  | succ n hB =>
    intro x1 x2 x3 x4 s h
    unfold wf_X9_chosen_5 at h
    refine dk_iload C dX9_chosen_5 (n := 7) rfl (i := 4) rfl ?_
    refine dk_iconst (v := 4) C dX9_chosen_7 (n := 8) rfl (by decide) ?_
    refine dk_icmp_ge (t := 150) C dX9_chosen_8 (n := 11) rfl (by decide) (fun c11 => ?_) (fun c11 => ?_)
    · have h := h.1 c11
      refine dk_iload_n (i := 3) C dX9_chosen_150 (n := 151) rfl rfl rfl ?_
      exact dk_iret C hr hlk rfl dX9_chosen_151 ⟨_, rfl, h⟩
    · have h := h.2 c11
      refine dk_aload_n (i := 0) C dX9_chosen_11 (n := 12) rfl rfl rfl ?_
      refine gf_X9_65 C (hmi 60 (by decide) (by decide)) dX9_chosen_12 (n := 15) rfl ?_
      refine dk_iload_n (i := 1) C dX9_chosen_15 (n := 16) rfl rfl rfl ?_
      refine dk_iald C dk_sh76 h.1 (hmi 76 (by decide) (by decide)) dX9_chosen_16 (n := 17) rfl ?_
      have h := h.2
      refine dk_iload C dX9_chosen_17 (n := 19) rfl (i := 4) rfl ?_
      refine dk_callSi C [] (cc_X9_beside C.D  h) yy_X9_beside dk_wm_X9_193 dX9_chosen_19 (fun r3 s2 h => ?_) rfl ⟨Nat.le_of_ble_eq_true rfl, Nat.le_of_ble_eq_true rfl⟩ rfl (Nat.le_of_ble_eq_true rfl) rfl (n := 22) rfl
      refine dk_istore (i := 5) (L' := [some (dk_r G 4 60), some (.int x1), some (.int x2), some (.int x3), some (.int x4), some (.int r3), none, none]) C dX9_chosen_22 (n := 24) rfl (dk_nc_of rfl) (Nat.le_of_ble_eq_true rfl) rfl ?_
      refine dk_iload C dX9_chosen_24 (n := 26) rfl (i := 5) rfl ?_
      refine dk_iconst (v := (-1)) C dX9_chosen_26 (n := 27) rfl (by decide) ?_
      refine dk_icmp_eq (t := 71) C dX9_chosen_27 (n := 30) rfl (by decide) (fun c10 => ?_) (fun c10 => ?_)
      · have h := h.1 c10
        refine dk_iconst (v := 0) C dX9_chosen_71 (n := 72) rfl (by decide) ?_
        refine dk_sub (L0 := [some (dk_r G 4 60), some (.int x1), some (.int x2), some (.int x3), some (.int x4), some (.int r3), none, none]) ⟨rfl, ⟨rfl, ⟨rfl, ⟨rfl, ⟨rfl, ⟨rfl, trivial⟩⟩⟩⟩⟩⟩ ?_
        exact ww_X9_chosen_72 C hr hlk hmi hB x1 x2 x3 x4 r3 0 s2 h
      · have h := h.2 c10
        refine dk_aload_n (i := 0) C dX9_chosen_30 (n := 31) rfl rfl rfl ?_
        refine gf_X9_98 C (hmi 60 (by decide) (by decide)) dX9_chosen_31 (n := 34) rfl ?_
        refine dk_iload C dX9_chosen_34 (n := 36) rfl (i := 5) rfl ?_
        refine dk_iald C dk_sh86 h.1 (hmi 86 (by decide) (by decide)) dX9_chosen_36 (n := 37) rfl ?_
        have h := h.2
        refine dk_ldc (v := 100000) C dX9_chosen_37 (n := 39) rfl dk_wk_X9_189 ?_
        refine dk_icmp_ge (t := 71) C dX9_chosen_39 (n := 42) rfl (by decide) (fun c9 => ?_) (fun c9 => ?_)
        · have h := h.1 c9
          refine dk_iconst (v := 0) C dX9_chosen_71 (n := 72) rfl (by decide) ?_
          refine dk_sub (L0 := [some (dk_r G 4 60), some (.int x1), some (.int x2), some (.int x3), some (.int x4), some (.int r3), none, none]) ⟨rfl, ⟨rfl, ⟨rfl, ⟨rfl, ⟨rfl, ⟨rfl, trivial⟩⟩⟩⟩⟩⟩ ?_
          exact ww_X9_chosen_72 C hr hlk hmi hB x1 x2 x3 x4 r3 0 s2 h
        · have h := h.2 c9
          refine dk_aload_n (i := 0) C dX9_chosen_42 (n := 43) rfl rfl rfl ?_
          refine dk_iload C dX9_chosen_43 (n := 45) rfl (i := 5) rfl ?_
          refine dk_callVi C [] (cc_X9_isOpenFor C.D hmi h) yy_X9_isOpenFor dk_wm_X9_232 dk_sh60 (hmi 60 (by decide) (by decide)) dX9_chosen_45 (fun r5 s4 h => ?_) rfl rfl ⟨Nat.le_of_ble_eq_true rfl, Nat.le_of_ble_eq_true rfl⟩ rfl (Nat.le_of_ble_eq_true rfl) rfl (n := 48) rfl
          refine dk_if_ne (t := 67) C dX9_chosen_48 (n := 51) rfl (by decide) (fun c8 => ?_) (fun c8 => ?_)
          · have h := h.1 c8
            refine dk_iconst (v := 1) C dX9_chosen_67 (n := 68) rfl (by decide) ?_
            refine dk_goto (t := 72) C dX9_chosen_68 (by decide) ?_
            refine dk_sub (L0 := [some (dk_r G 4 60), some (.int x1), some (.int x2), some (.int x3), some (.int x4), some (.int r3), none, none]) ⟨rfl, ⟨rfl, ⟨rfl, ⟨rfl, ⟨rfl, ⟨rfl, trivial⟩⟩⟩⟩⟩⟩ ?_
            exact ww_X9_chosen_72 C hr hlk hmi hB x1 x2 x3 x4 r3 1 s4 h
          · have h := h.2 c8
            refine dk_iload_n (i := 2) C dX9_chosen_51 (n := 52) rfl rfl rfl ?_
            refine dk_if_ne (t := 71) C dX9_chosen_52 (n := 55) rfl (by decide) (fun c7 => ?_) (fun c7 => ?_)
            · have h := h.1 c7
              refine dk_iconst (v := 0) C dX9_chosen_71 (n := 72) rfl (by decide) ?_
              refine dk_sub (L0 := [some (dk_r G 4 60), some (.int x1), some (.int x2), some (.int x3), some (.int x4), some (.int r3), none, none]) ⟨rfl, ⟨rfl, ⟨rfl, ⟨rfl, ⟨rfl, ⟨rfl, trivial⟩⟩⟩⟩⟩⟩ ?_
              exact ww_X9_chosen_72 C hr hlk hmi hB x1 x2 x3 x4 r3 0 s4 h
            · have h := h.2 c7
              refine dk_aload_n (i := 0) C dX9_chosen_55 (n := 56) rfl rfl rfl ?_
              refine gf_X9_62 C (hmi 60 (by decide) (by decide)) dX9_chosen_56 (n := 59) rfl ?_
              refine dk_iload C dX9_chosen_59 (n := 61) rfl (i := 5) rfl ?_
              refine dk_cald C dk_sh75 h.1 (hmi 75 (by decide) (by decide)) dX9_chosen_61 (n := 62) rfl ?_
              have h := h.2
              refine dk_bipush (v := 43) C dX9_chosen_62 (n := 64) rfl (by decide) ?_
              refine dk_icmp_ne (t := 71) C dX9_chosen_64 (n := 67) rfl (by decide) (fun c6 => ?_) (fun c6 => ?_)
              · have h := h.1 c6
                refine dk_iconst (v := 0) C dX9_chosen_71 (n := 72) rfl (by decide) ?_
                refine dk_sub (L0 := [some (dk_r G 4 60), some (.int x1), some (.int x2), some (.int x3), some (.int x4), some (.int r3), none, none]) ⟨rfl, ⟨rfl, ⟨rfl, ⟨rfl, ⟨rfl, ⟨rfl, trivial⟩⟩⟩⟩⟩⟩ ?_
                exact ww_X9_chosen_72 C hr hlk hmi hB x1 x2 x3 x4 r3 0 s4 h
              · have h := h.2 c6
                refine dk_iconst (v := 1) C dX9_chosen_67 (n := 68) rfl (by decide) ?_
                refine dk_goto (t := 72) C dX9_chosen_68 (by decide) ?_
                refine dk_sub (L0 := [some (dk_r G 4 60), some (.int x1), some (.int x2), some (.int x3), some (.int x4), some (.int r3), none, none]) ⟨rfl, ⟨rfl, ⟨rfl, ⟨rfl, ⟨rfl, ⟨rfl, trivial⟩⟩⟩⟩⟩⟩ ?_
                exact ww_X9_chosen_72 C hr hlk hmi hB x1 x2 x3 x4 r3 1 s4 h
set_option maxRecDepth 20000 in
set_option maxHeartbeats 4000000 in
theorem cc_X9_chosen {G : dk_G} {l : Launch} {a1 : Int32} {a2 : Int32} (hD : dk_D G) (hmi : dk_MI G) {s : dk_S} {K : Int32 → dk_S → Prop} (h : wf_X9_chosen a1 a2 s K) : dk_M G l 4 yX9_chosen cX9_chosen 8 (some .int) [dk_r G 4 60, .int a1, .int a2] s (dk_ki K) := by
  refine dk_of hD (by decide) [some (dk_r G 4 60), some (.int a1), some (.int a2), none, none, none, none, none] (fun q hq => hq) rfl (Nat.le_of_ble_eq_true rfl) (fun P e S0 m args bel meth c C hr hlk => ?_)
  unfold wf_X9_chosen at h
  refine dk_iconst (v := (-1)) C dX9_chosen_0 (n := 1) rfl (by decide) ?_
  refine dk_istore_n (i := 3) (L' := [some (dk_r G 4 60), some (.int a1), some (.int a2), some (.int (-1)), none, none, none, none]) C dX9_chosen_1 (n := 2) rfl rfl (dk_nc_of rfl) (Nat.le_of_ble_eq_true rfl) rfl ?_
  refine dk_iconst (v := 0) C dX9_chosen_2 (n := 3) rfl (by decide) ?_
  refine dk_istore (i := 4) (L' := [some (dk_r G 4 60), some (.int a1), some (.int a2), some (.int (-1)), some (.int 0), none, none, none]) C dX9_chosen_3 (n := 5) rfl (dk_nc_of rfl) (Nat.le_of_ble_eq_true rfl) rfl ?_
  obtain ⟨nn1, h⟩ := h
  refine dk_sub (L0 := [some (dk_r G 4 60), some (.int a1), some (.int a2), some (.int (-1)), some (.int 0), none, none, none]) ⟨rfl, ⟨rfl, ⟨rfl, ⟨rfl, ⟨rfl, trivial⟩⟩⟩⟩⟩ ?_
  refine ww_X9_chosen_5 C hr hlk hmi  nn1 a1 a2 (-1) 0 s h
