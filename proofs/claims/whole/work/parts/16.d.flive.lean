/-! livingShare, meanHealth -/
def dk_kf (K : UInt32 → dk_S → Prop) : Option Value → dk_S → Prop := fun v σ => ∃ r : UInt32, v = some (.float r) ∧ K r σ
def dk_kd (K : UInt64 → dk_S → Prop) : Option Value → dk_S → Prop := fun v σ => ∃ r : UInt64, v = some (.double r) ∧ K r σ
section DKG
variable {G : dk_G} {p : Program} {l : Launch} {e : Env} {R : Room} {s : State} {m : MethodId} {args : Array Value} {below : List Frame} {meth : Method} {c : Code} {cells slots : Nat} {Q : State → Prop}
variable {cc : ByteArray} {nL : Nat} {own : String} {pc n : Nat} {L L' : List (Option Value)} {st st' : List Value} {σ : dk_S}
theorem dk_fconst0 (C : dk_C G p R s m args c cells slots cc nL own) (d : decode cc pc = .ok (.fconst 0, 1)) (hn : pc + 1 = n) (k : dk_W G p l e R s m args below meth c cells slots Q n L (.float FP.fconst0 :: st) σ) : dk_W G p l e R s m args below meth c cells slots Q pc L st σ := fun H locs ls hL hP hS => by
  subst hn
  exact lv_fconst0 C.1 C.2.1 d (k H locs ls hL hP hS)
theorem dk_dconst0 (C : dk_C G p R s m args c cells slots cc nL own) (d : decode cc pc = .ok (.dconst 0, 1)) (hn : pc + 1 = n) (k : dk_W G p l e R s m args below meth c cells slots Q n L (.double FP.dconst0 :: st) σ) : dk_W G p l e R s m args below meth c cells slots Q pc L st σ := fun H locs ls hL hP hS => by
  subst hn
  exact lv_dconst0 C.1 C.2.1 d (k H locs ls hL hP hS)
end DKG
theorem dk_wc_X8_livingShare : Cond.code yX8_livingShare cX8_livingShare 3 (some .float) ∈ dk_ws := dk_w 1275 (by decide +kernel) (by decide +kernel)
theorem dk_wt_X8_livingShare : Cond.instanceMethod yX8_livingShare ∈ dk_ws := dk_w 1273 (by decide +kernel) (by decide +kernel)
theorem dk_ws_X8_livingShare : Cond.selects RX8 yX8_livingShare yX8_livingShare ∈ dk_ws := dk_w 1274 (by decide +kernel) (by decide +kernel)
theorem yy_X8_livingShare : dk_YV yX8_livingShare cX8_livingShare 3 (some .float) 0 := ⟨dk_wt_X8_livingShare, dk_ws_X8_livingShare, dk_wn_RX8, dk_wc_X8_livingShare, ⟨by decide, by decide, by decide⟩⟩
theorem dk_wm_X8_263 : Cond.methodLink RX8 263 yX2_living ∈ dk_ws := dk_w 1281 (by decide +kernel) (by decide +kernel)
theorem dk_wc_X8_meanHealth : Cond.code yX8_meanHealth cX8_meanHealth 3 (some .double) ∈ dk_ws := dk_w 1291 (by decide +kernel) (by decide +kernel)
theorem dk_wt_X8_meanHealth : Cond.instanceMethod yX8_meanHealth ∈ dk_ws := dk_w 1289 (by decide +kernel) (by decide +kernel)
theorem dk_ws_X8_meanHealth : Cond.selects RX8 yX8_meanHealth yX8_meanHealth ∈ dk_ws := dk_w 1290 (by decide +kernel) (by decide +kernel)
theorem yy_X8_meanHealth : dk_YV yX8_meanHealth cX8_meanHealth 3 (some .double) 0 := ⟨dk_wt_X8_meanHealth, dk_ws_X8_meanHealth, dk_wn_RX8, dk_wc_X8_meanHealth, ⟨by decide, by decide, by decide⟩⟩
theorem dk_wm_X8_266 : Cond.methodLink RX8 266 yX2_healthOfLiving ∈ dk_ws := dk_w 1292 (by decide +kernel) (by decide +kernel)
theorem dk_wc_X9_livingShare : Cond.code yX9_livingShare cX9_livingShare 3 (some .float) ∈ dk_ws := dk_w 1756 (by decide +kernel) (by decide +kernel)
theorem dk_wt_X9_livingShare : Cond.instanceMethod yX9_livingShare ∈ dk_ws := dk_w 1754 (by decide +kernel) (by decide +kernel)
theorem dk_ws_X9_livingShare : Cond.selects RX9 yX9_livingShare yX9_livingShare ∈ dk_ws := dk_w 1755 (by decide +kernel) (by decide +kernel)
theorem yy_X9_livingShare : dk_YV yX9_livingShare cX9_livingShare 3 (some .float) 0 := ⟨dk_wt_X9_livingShare, dk_ws_X9_livingShare, dk_wn_RX9, dk_wc_X9_livingShare, ⟨by decide, by decide, by decide⟩⟩
theorem dk_wc_X9_meanHealth : Cond.code yX9_meanHealth cX9_meanHealth 4 (some .double) ∈ dk_ws := dk_w 1760 (by decide +kernel) (by decide +kernel)
theorem dk_wt_X9_meanHealth : Cond.instanceMethod yX9_meanHealth ∈ dk_ws := dk_w 1758 (by decide +kernel) (by decide +kernel)
theorem dk_ws_X9_meanHealth : Cond.selects RX9 yX9_meanHealth yX9_meanHealth ∈ dk_ws := dk_w 1759 (by decide +kernel) (by decide +kernel)
theorem yy_X9_meanHealth : dk_YV yX9_meanHealth cX9_meanHealth 4 (some .double) 0 := ⟨dk_wt_X9_meanHealth, dk_ws_X9_meanHealth, dk_wn_RX9, dk_wc_X9_meanHealth, ⟨by decide, by decide, by decide⟩⟩
def wf_X8_livingShare  (s : dk_S) (K : UInt32 → dk_S → Prop) (X : String → dk_S → Prop) : Prop :=
  ((s 0 40 5 = 110 → ∀ v1 : Int32, v1 = (s 1 13 9) - 1 → ((0 < v1 → wf_X2_living 1 1 s (fun r3 s2 => (vf_n32 (FP.fdiv (FP.i2f r3) (FP.i2f v1)) ∧ K (FP.fdiv (FP.i2f r3) (FP.i2f v1)) s2))) ∧ (¬ 0 < v1 → X "java/lang/ArithmeticException" s))) ∧ (¬ s 0 40 5 = 110 → ∀ v5 : Int32, v5 = (s 2 13 9) - 1 → ((0 < v5 → wf_X2_living 2 1 s (fun r7 s6 => (vf_n32 (FP.fdiv (FP.i2f r7) (FP.i2f v5)) ∧ K (FP.fdiv (FP.i2f r7) (FP.i2f v5)) s6))) ∧ (¬ 0 < v5 → X "java/lang/ArithmeticException" s))))
def wf_X8_meanHealth  (s : dk_S) (K : UInt64 → dk_S → Prop) (X : String → dk_S → Prop) : Prop :=
  ((s 0 40 5 = 110 → wf_X2_living 1 0 s (fun r2 s1 => ((0 < r2 → wf_X2_healthOfLiving 1 s1 (fun r4 s3 => (vf_n64 (FP.ddiv (FP.i2d r4) (FP.i2d r2)) ∧ K (FP.ddiv (FP.i2d r4) (FP.i2d r2)) s3))) ∧ (¬ 0 < r2 → X "java/lang/ArithmeticException" s1)))) ∧ (¬ s 0 40 5 = 110 → wf_X2_living 2 0 s (fun r7 s6 => ((0 < r7 → wf_X2_healthOfLiving 2 s6 (fun r9 s8 => (vf_n64 (FP.ddiv (FP.i2d r9) (FP.i2d r7)) ∧ K (FP.ddiv (FP.i2d r9) (FP.i2d r7)) s8))) ∧ (¬ 0 < r7 → X "java/lang/ArithmeticException" s6)))))
def wf_X9_livingShare_48  (K : UInt32 → dk_S → Prop) (x1 : Int32) (y0 : Int32) (s : dk_S) : Prop :=
  wf_X9_goesOn y0 s (fun r6 s5 => ((r6 = 0 → K (FP.fconst0) s5) ∧ (¬ r6 = 0 → (vf_n32 (FP.fdiv (FP.i2f x1) (FP.i2f ((s5 4 60 10) - 1))) ∧ K (FP.fdiv (FP.i2f x1) (FP.i2f ((s5 4 60 10) - 1))) s5))))
def wf_X9_livingShare_4  (K : UInt32 → dk_S → Prop) (E34 : Int32 → dk_S → Prop) : Nat → Int32 → Int32 → dk_S → Prop
  | 0, _, _, _ => False
  | n + 1, x1, x2, s => (((s 4 60 10) ≤ x2 → E34 x1 s) ∧ (¬ (s 4 60 10) ≤ x2 → wf_X9_lives x2 s (fun r9 s8 => ((r9 = 0 → ∀ v10 : Int32, v10 = x1 + 0 → ∀ v11 : Int32, v11 = x2 + 1 → wf_X9_livingShare_4 K E34 n v10 v11 s8) ∧ (¬ r9 = 0 → ∀ v12 : Int32, v12 = x1 + 1 → ∀ v13 : Int32, v13 = x2 + 1 → wf_X9_livingShare_4 K E34 n v12 v13 s8)))))
def wf_X9_livingShare  (s : dk_S) (K : UInt32 → dk_S → Prop) : Prop :=
  ∃ nn4 : Nat, wf_X9_livingShare_4 K (fun (w1 : Int32) (s2 : dk_S) => ((¬ (s2 4 60 10) = 1 → wf_X9_livingShare_48 K w1 0 s2) ∧ ((s2 4 60 10) = 1 → wf_X9_livingShare_48 K w1 1 s2))) nn4 0 1 s
def wf_X9_meanHealth_67  (K : UInt64 → dk_S → Prop) (x1 : Int32) (x2 : Int32) (y0 : Int32) (s : dk_S) : Prop :=
  wf_X9_goesOn y0 s (fun r7 s6 => ((r7 = 0 → K (FP.dconst0) s6) ∧ (¬ r7 = 0 → (vf_n64 (FP.ddiv (FP.i2d x1) (FP.i2d x2)) ∧ K (FP.ddiv (FP.i2d x1) (FP.i2d x2)) s6))))
def wf_X9_meanHealth_33  (K : UInt64 → dk_S → Prop) (B : Int32 → Int32 → Int32 → dk_S → Prop) (E57 : Int32 → Int32 → dk_S → Prop) (x2 : Int32) (x3 : Int32) (y0 : Int32) (y1 : Int32) (s : dk_S) : Prop :=
  ∀ v13 : Int32, v13 = y1 + y0 → wf_X9_lives x3 s (fun r15 s14 => ((r15 = 0 → ∀ v16 : Int32, v16 = x2 + 0 → ∀ v17 : Int32, v17 = x3 + 1 → B v13 v16 v17 s14) ∧ (¬ r15 = 0 → ∀ v18 : Int32, v18 = x2 + 1 → ∀ v19 : Int32, v19 = x3 + 1 → B v13 v18 v19 s14)))
def wf_X9_meanHealth_6  (K : UInt64 → dk_S → Prop) (E57 : Int32 → Int32 → dk_S → Prop) : Nat → Int32 → Int32 → Int32 → dk_S → Prop
  | 0, _, _, _, _ => False
  | n + 1, x1, x2, x3, s => (((s 4 60 10) ≤ x3 → E57 x1 x2 s) ∧ (¬ (s 4 60 10) ≤ x3 → wf_X9_lives x3 s (fun r10 s9 => ((r10 = 0 → wf_X9_meanHealth_33 K (wf_X9_meanHealth_6 K E57 n) E57 x2 x3 0 x1 s9) ∧ (¬ r10 = 0 → (vp_in x3 8 ∧ wf_X9_meanHealth_33 K (wf_X9_meanHealth_6 K E57 n) E57 x2 x3 (s9 4 77 x3.toNatClampNeg) x1 s9))))))
def wf_X9_meanHealth  (s : dk_S) (K : UInt64 → dk_S → Prop) : Prop :=
  ∃ nn5 : Nat, wf_X9_meanHealth_6 K (fun (w1 : Int32) (w2 : Int32) (s3 : dk_S) => ((¬ w2 = 0 → wf_X9_meanHealth_67 K w1 w2 0 s3) ∧ (w2 = 0 → wf_X9_meanHealth_67 K w1 w2 1 s3))) nn5 0 0 0 s
/-! X8_livingShare -/
set_option maxRecDepth 20000 in
set_option maxHeartbeats 4000000 in
theorem cc_X8_livingShare {G : dk_G} {l : Launch}  (hD : dk_D G) (hl : l.stackTraces = false) (hri : dk_RI G) {s : dk_S} {K : UInt32 → dk_S → Prop} {X : String → dk_S → Prop} (h : wf_X8_livingShare s K X) : dk_MX G l 6 yX8_livingShare cX8_livingShare 3 (some .float) [dk_r G 0 40] s (dk_kf K) X := by
  refine dk_xof hD (by decide) [some (dk_r G 0 40), none, none] (fun q hq => hq) rfl (Nat.le_of_ble_eq_true rfl) (fun P e S0 m args bel meth c C ht hr hlk => ?_)
  unfold wf_X8_livingShare at h
  refine dk_aload_n (i := 0) C dX8_livingShare_0 (n := 1) rfl rfl rfl ?_
  refine dk_callV (st' := []) C (cc_X8_shown C.D hri (s := s)) yy_X8_shown dk_wm_X8_227 rfl ⟨Nat.le_of_ble_eq_true rfl, Nat.le_of_ble_eq_true rfl⟩ dk_sh40 rfl (hri.1 40 (by decide) (by decide)) rfl (Nat.le_of_ble_eq_true rfl) rfl dX8_livingShare_1 (n := 4) rfl (fun v9 s9 h9 => ?_)
  rcases h9 with ⟨c9, e8, e9⟩ | ⟨c9, e8, e9⟩
  · have h := h.1 c9
    rw [e8, e9]
    show dk_W _ _ _ _ _ _ _ _ _ _ _ _ _ _ 4 _ [dk_r G 1 0] s
    refine gf_X8_111 C (hri.2.1 0 (by decide)) dX8_livingShare_4 (n := 7) rfl ?_
    refine dk_astore_n (i := 1) (L' := [some (dk_r G 0 40), some (dk_r G 1 13), none]) C dX8_livingShare_7 (n := 8) rfl rfl (dk_nc_of rfl) (Nat.le_of_ble_eq_true rfl) rfl ?_
    refine dk_aload_n (i := 1) C dX8_livingShare_8 (n := 9) rfl rfl rfl ?_
    refine gf_X8_123 C (hri.2.1 13 (by decide)) dX8_livingShare_9 (n := 12) rfl ?_
    refine dk_iconst (v := 1) C dX8_livingShare_12 (n := 13) rfl (by decide) ?_
    refine dk_isub C dX8_livingShare_13 (n := 14) rfl ?_
    refine dk_name (fun v1 ev1 => ?_)
    have h := h v1 ev1
    refine dk_istore_n (i := 2) (L' := [some (dk_r G 0 40), some (dk_r G 1 13), some (.int v1)]) C dX8_livingShare_14 (n := 15) rfl rfl (dk_nc_of rfl) (Nat.le_of_ble_eq_true rfl) rfl ?_
    refine dk_iload_n (i := 2) C dX8_livingShare_15 (n := 16) rfl rfl rfl ?_
    refine dk_if_gt (t := 27) C dX8_livingShare_16 (n := 19) rfl (by decide) (fun c4 => ?_) (fun c4 => ?_)
    · have h := h.1 c4
      refine dk_aload_n (i := 1) C dX8_livingShare_27 (n := 28) rfl rfl rfl ?_
      refine dk_iconst (v := 1) C dX8_livingShare_28 (n := 29) rfl (by decide) ?_
      refine dk_callVi C [] (cc_X2_living C.D hri.2.1 h) yy_X2_living dk_wm_X8_263 dk_sh13 (hri.2.1 13 (by decide)) dX8_livingShare_29 (fun r3 s2 h => ?_) rfl rfl ⟨Nat.le_of_ble_eq_true rfl, Nat.le_of_ble_eq_true rfl⟩ rfl (Nat.le_of_ble_eq_true rfl) rfl (n := 32) rfl
      refine dk_i2f C dX8_livingShare_32 (n := 33) rfl ?_
      refine dk_iload_n (i := 2) C dX8_livingShare_33 (n := 34) rfl rfl rfl ?_
      refine dk_i2f C dX8_livingShare_34 (n := 35) rfl ?_
      refine dk_fdiv C dX8_livingShare_35 (n := 36) rfl h.1 ?_
      have h := h.2
      refine dk_xret ?_
      exact dk_fret C hr hlk dX8_livingShare_36 ⟨_, rfl, h⟩
    · have h := h.2 c4
      exact dk_xthrow C ht hlk hl dk_THAR dX8_livingShare_19 dX8_livingShare_22 dX8_livingShare_23 dX8_livingShare_26 ⟨Nat.le_of_ble_eq_true rfl, Nat.le_of_ble_eq_true rfl⟩ ⟨Nat.le_of_ble_eq_true rfl, Nat.le_of_ble_eq_true rfl⟩ (Nat.le_of_ble_eq_true rfl) rfl h
  · have h := h.2 c9
    rw [e8, e9]
    show dk_W _ _ _ _ _ _ _ _ _ _ _ _ _ _ 4 _ [dk_r G 2 0] s
    refine gf_X8_111 C (hri.2.2.1 0 (by decide)) dX8_livingShare_4 (n := 7) rfl ?_
    refine dk_astore_n (i := 1) (L' := [some (dk_r G 0 40), some (dk_r G 2 13), none]) C dX8_livingShare_7 (n := 8) rfl rfl (dk_nc_of rfl) (Nat.le_of_ble_eq_true rfl) rfl ?_
    refine dk_aload_n (i := 1) C dX8_livingShare_8 (n := 9) rfl rfl rfl ?_
    refine gf_X8_123 C (hri.2.2.1 13 (by decide)) dX8_livingShare_9 (n := 12) rfl ?_
    refine dk_iconst (v := 1) C dX8_livingShare_12 (n := 13) rfl (by decide) ?_
    refine dk_isub C dX8_livingShare_13 (n := 14) rfl ?_
    refine dk_name (fun v5 ev5 => ?_)
    have h := h v5 ev5
    refine dk_istore_n (i := 2) (L' := [some (dk_r G 0 40), some (dk_r G 2 13), some (.int v5)]) C dX8_livingShare_14 (n := 15) rfl rfl (dk_nc_of rfl) (Nat.le_of_ble_eq_true rfl) rfl ?_
    refine dk_iload_n (i := 2) C dX8_livingShare_15 (n := 16) rfl rfl rfl ?_
    refine dk_if_gt (t := 27) C dX8_livingShare_16 (n := 19) rfl (by decide) (fun c8 => ?_) (fun c8 => ?_)
    · have h := h.1 c8
      refine dk_aload_n (i := 1) C dX8_livingShare_27 (n := 28) rfl rfl rfl ?_
      refine dk_iconst (v := 1) C dX8_livingShare_28 (n := 29) rfl (by decide) ?_
      refine dk_callVi C [] (cc_X2_living C.D hri.2.2.1 h) yy_X2_living dk_wm_X8_263 dk_sh13 (hri.2.2.1 13 (by decide)) dX8_livingShare_29 (fun r7 s6 h => ?_) rfl rfl ⟨Nat.le_of_ble_eq_true rfl, Nat.le_of_ble_eq_true rfl⟩ rfl (Nat.le_of_ble_eq_true rfl) rfl (n := 32) rfl
      refine dk_i2f C dX8_livingShare_32 (n := 33) rfl ?_
      refine dk_iload_n (i := 2) C dX8_livingShare_33 (n := 34) rfl rfl rfl ?_
      refine dk_i2f C dX8_livingShare_34 (n := 35) rfl ?_
      refine dk_fdiv C dX8_livingShare_35 (n := 36) rfl h.1 ?_
      have h := h.2
      refine dk_xret ?_
      exact dk_fret C hr hlk dX8_livingShare_36 ⟨_, rfl, h⟩
    · have h := h.2 c8
      exact dk_xthrow C ht hlk hl dk_THAR dX8_livingShare_19 dX8_livingShare_22 dX8_livingShare_23 dX8_livingShare_26 ⟨Nat.le_of_ble_eq_true rfl, Nat.le_of_ble_eq_true rfl⟩ ⟨Nat.le_of_ble_eq_true rfl, Nat.le_of_ble_eq_true rfl⟩ (Nat.le_of_ble_eq_true rfl) rfl h
/-! X8_meanHealth -/
set_option maxRecDepth 20000 in
set_option maxHeartbeats 4000000 in
theorem cc_X8_meanHealth {G : dk_G} {l : Launch}  (hD : dk_D G) (hl : l.stackTraces = false) (hri : dk_RI G) {s : dk_S} {K : UInt64 → dk_S → Prop} {X : String → dk_S → Prop} (h : wf_X8_meanHealth s K X) : dk_MX G l 6 yX8_meanHealth cX8_meanHealth 3 (some .double) [dk_r G 0 40] s (dk_kd K) X := by
  refine dk_xof hD (by decide) [some (dk_r G 0 40), none, none] (fun q hq => hq) rfl (Nat.le_of_ble_eq_true rfl) (fun P e S0 m args bel meth c C ht hr hlk => ?_)
  unfold wf_X8_meanHealth at h
  refine dk_aload_n (i := 0) C dX8_meanHealth_0 (n := 1) rfl rfl rfl ?_
  refine dk_callV (st' := []) C (cc_X8_shown C.D hri (s := s)) yy_X8_shown dk_wm_X8_227 rfl ⟨Nat.le_of_ble_eq_true rfl, Nat.le_of_ble_eq_true rfl⟩ dk_sh40 rfl (hri.1 40 (by decide) (by decide)) rfl (Nat.le_of_ble_eq_true rfl) rfl dX8_meanHealth_1 (n := 4) rfl (fun v9 s9 h9 => ?_)
  rcases h9 with ⟨c11, e8, e9⟩ | ⟨c11, e8, e9⟩
  · have h := h.1 c11
    rw [e8, e9]
    show dk_W _ _ _ _ _ _ _ _ _ _ _ _ _ _ 4 _ [dk_r G 1 0] s
    refine gf_X8_111 C (hri.2.1 0 (by decide)) dX8_meanHealth_4 (n := 7) rfl ?_
    refine dk_astore_n (i := 1) (L' := [some (dk_r G 0 40), some (dk_r G 1 13), none]) C dX8_meanHealth_7 (n := 8) rfl rfl (dk_nc_of rfl) (Nat.le_of_ble_eq_true rfl) rfl ?_
    refine dk_aload_n (i := 1) C dX8_meanHealth_8 (n := 9) rfl rfl rfl ?_
    refine dk_iconst (v := 0) C dX8_meanHealth_9 (n := 10) rfl (by decide) ?_
    refine dk_callVi C [] (cc_X2_living C.D hri.2.1 h) yy_X2_living dk_wm_X8_263 dk_sh13 (hri.2.1 13 (by decide)) dX8_meanHealth_10 (fun r2 s1 h => ?_) rfl rfl ⟨Nat.le_of_ble_eq_true rfl, Nat.le_of_ble_eq_true rfl⟩ rfl (Nat.le_of_ble_eq_true rfl) rfl (n := 13) rfl
    refine dk_istore_n (i := 2) (L' := [some (dk_r G 0 40), some (dk_r G 1 13), some (.int r2)]) C dX8_meanHealth_13 (n := 14) rfl rfl (dk_nc_of rfl) (Nat.le_of_ble_eq_true rfl) rfl ?_
    refine dk_iload_n (i := 2) C dX8_meanHealth_14 (n := 15) rfl rfl rfl ?_
    refine dk_if_gt (t := 26) C dX8_meanHealth_15 (n := 18) rfl (by decide) (fun c5 => ?_) (fun c5 => ?_)
    · have h := h.1 c5
      refine dk_aload_n (i := 1) C dX8_meanHealth_26 (n := 27) rfl rfl rfl ?_
      refine dk_callVi C [] (cc_X2_healthOfLiving C.D hri.2.1 h) yy_X2_healthOfLiving dk_wm_X8_266 dk_sh13 (hri.2.1 13 (by decide)) dX8_meanHealth_27 (fun r4 s3 h => ?_) rfl rfl ⟨Nat.le_of_ble_eq_true rfl, Nat.le_of_ble_eq_true rfl⟩ rfl (Nat.le_of_ble_eq_true rfl) rfl (n := 30) rfl
      refine dk_i2d C dX8_meanHealth_30 (n := 31) rfl ?_
      refine dk_iload_n (i := 2) C dX8_meanHealth_31 (n := 32) rfl rfl rfl ?_
      refine dk_i2d C dX8_meanHealth_32 (n := 33) rfl ?_
      refine dk_ddiv C dX8_meanHealth_33 (n := 34) rfl h.1 ?_
      have h := h.2
      refine dk_xret ?_
      exact dk_dret C hr hlk dX8_meanHealth_34 ⟨_, rfl, h⟩
    · have h := h.2 c5
      exact dk_xthrow C ht hlk hl dk_THAR dX8_meanHealth_18 dX8_meanHealth_21 dX8_meanHealth_22 dX8_meanHealth_25 ⟨Nat.le_of_ble_eq_true rfl, Nat.le_of_ble_eq_true rfl⟩ ⟨Nat.le_of_ble_eq_true rfl, Nat.le_of_ble_eq_true rfl⟩ (Nat.le_of_ble_eq_true rfl) rfl h
  · have h := h.2 c11
    rw [e8, e9]
    show dk_W _ _ _ _ _ _ _ _ _ _ _ _ _ _ 4 _ [dk_r G 2 0] s
    refine gf_X8_111 C (hri.2.2.1 0 (by decide)) dX8_meanHealth_4 (n := 7) rfl ?_
    refine dk_astore_n (i := 1) (L' := [some (dk_r G 0 40), some (dk_r G 2 13), none]) C dX8_meanHealth_7 (n := 8) rfl rfl (dk_nc_of rfl) (Nat.le_of_ble_eq_true rfl) rfl ?_
    refine dk_aload_n (i := 1) C dX8_meanHealth_8 (n := 9) rfl rfl rfl ?_
    refine dk_iconst (v := 0) C dX8_meanHealth_9 (n := 10) rfl (by decide) ?_
    refine dk_callVi C [] (cc_X2_living C.D hri.2.2.1 h) yy_X2_living dk_wm_X8_263 dk_sh13 (hri.2.2.1 13 (by decide)) dX8_meanHealth_10 (fun r7 s6 h => ?_) rfl rfl ⟨Nat.le_of_ble_eq_true rfl, Nat.le_of_ble_eq_true rfl⟩ rfl (Nat.le_of_ble_eq_true rfl) rfl (n := 13) rfl
    refine dk_istore_n (i := 2) (L' := [some (dk_r G 0 40), some (dk_r G 2 13), some (.int r7)]) C dX8_meanHealth_13 (n := 14) rfl rfl (dk_nc_of rfl) (Nat.le_of_ble_eq_true rfl) rfl ?_
    refine dk_iload_n (i := 2) C dX8_meanHealth_14 (n := 15) rfl rfl rfl ?_
    refine dk_if_gt (t := 26) C dX8_meanHealth_15 (n := 18) rfl (by decide) (fun c10 => ?_) (fun c10 => ?_)
    · have h := h.1 c10
      refine dk_aload_n (i := 1) C dX8_meanHealth_26 (n := 27) rfl rfl rfl ?_
      refine dk_callVi C [] (cc_X2_healthOfLiving C.D hri.2.2.1 h) yy_X2_healthOfLiving dk_wm_X8_266 dk_sh13 (hri.2.2.1 13 (by decide)) dX8_meanHealth_27 (fun r9 s8 h => ?_) rfl rfl ⟨Nat.le_of_ble_eq_true rfl, Nat.le_of_ble_eq_true rfl⟩ rfl (Nat.le_of_ble_eq_true rfl) rfl (n := 30) rfl
      refine dk_i2d C dX8_meanHealth_30 (n := 31) rfl ?_
      refine dk_iload_n (i := 2) C dX8_meanHealth_31 (n := 32) rfl rfl rfl ?_
      refine dk_i2d C dX8_meanHealth_32 (n := 33) rfl ?_
      refine dk_ddiv C dX8_meanHealth_33 (n := 34) rfl h.1 ?_
      have h := h.2
      refine dk_xret ?_
      exact dk_dret C hr hlk dX8_meanHealth_34 ⟨_, rfl, h⟩
    · have h := h.2 c10
      exact dk_xthrow C ht hlk hl dk_THAR dX8_meanHealth_18 dX8_meanHealth_21 dX8_meanHealth_22 dX8_meanHealth_25 ⟨Nat.le_of_ble_eq_true rfl, Nat.le_of_ble_eq_true rfl⟩ ⟨Nat.le_of_ble_eq_true rfl, Nat.le_of_ble_eq_true rfl⟩ (Nat.le_of_ble_eq_true rfl) rfl h
/-! X9_livingShare -/
set_option maxRecDepth 20000 in
set_option maxHeartbeats 4000000 in
theorem ww_X9_livingShare_48 {G : dk_G} {P : Program} {l : Launch} {e : Env} {S0 : State} {m : MethodId} {args : Array Value} {bel : List Frame} {meth : Method} {c : Code}  (C : dk_C G P (dk_rm 2) S0 m args c 0 0 cX9_livingShare 3 RX9) (hr : meth.sig.returnType = (some .float)) (hlk : meth.locks = false) (hmi : dk_MI G) {K : UInt32 → dk_S → Prop}  : ∀ (x1 : Int32) (y0 : Int32) (s : dk_S), wf_X9_livingShare_48 K x1 y0 s → dk_W G P l e (dk_rm 2) S0 m args bel meth c 0 0 (MQ bel (dk_Qc G (dk_kf K)) args S0 0 0 (dk_A G)) 48 [some (dk_r G 4 60), some (.int x1), none] [.int y0, dk_r G 4 60] s := by
  intro x1 y0 s h
  unfold wf_X9_livingShare_48 at h
  refine dk_callVi C [] (cc_X9_goesOn C.D hmi h) yy_X9_goesOn dk_wm_X9_149 dk_sh60 (hmi 60 (by decide) (by decide)) dX9_livingShare_48 (fun r6 s5 h => ?_) rfl rfl ⟨Nat.le_of_ble_eq_true rfl, Nat.le_of_ble_eq_true rfl⟩ rfl (Nat.le_of_ble_eq_true rfl) rfl (n := 51) rfl
  refine dk_if_eq (t := 67) C dX9_livingShare_51 (n := 54) rfl (by decide) (fun c7 => ?_) (fun c7 => ?_)
  · have h := h.1 c7
    refine dk_fconst0 C dX9_livingShare_67 (n := 68) rfl ?_
    exact dk_fret C hr hlk dX9_livingShare_68 ⟨_, rfl, h⟩
  · have h := h.2 c7
    refine dk_iload_n (i := 1) C dX9_livingShare_54 (n := 55) rfl rfl rfl ?_
    refine dk_i2f C dX9_livingShare_55 (n := 56) rfl ?_
    refine dk_aload_n (i := 0) C dX9_livingShare_56 (n := 57) rfl rfl rfl ?_
    refine gf_X9_34 C (hmi 60 (by decide) (by decide)) dX9_livingShare_57 (n := 60) rfl ?_
    refine dk_iconst (v := 1) C dX9_livingShare_60 (n := 61) rfl (by decide) ?_
    refine dk_isub C dX9_livingShare_61 (n := 62) rfl ?_
    refine dk_i2f C dX9_livingShare_62 (n := 63) rfl ?_
    refine dk_fdiv C dX9_livingShare_63 (n := 64) rfl h.1 ?_
    have h := h.2
    refine dk_goto (t := 68) C dX9_livingShare_64 (by decide) ?_
    exact dk_fret C hr hlk dX9_livingShare_68 ⟨_, rfl, h⟩
set_option maxRecDepth 20000 in
set_option maxHeartbeats 4000000 in
theorem ww_X9_livingShare_4 {G : dk_G} {P : Program} {l : Launch} {e : Env} {S0 : State} {m : MethodId} {args : Array Value} {bel : List Frame} {meth : Method} {c : Code}  (C : dk_C G P (dk_rm 2) S0 m args c 0 0 cX9_livingShare 3 RX9) (hr : meth.sig.returnType = (some .float)) (hlk : meth.locks = false) (hmi : dk_MI G) {K : UInt32 → dk_S → Prop} {E34 : Int32 → dk_S → Prop} (hE34 : ∀ (x1 : Int32) (s : dk_S), E34 x1 s → dk_W G P l e (dk_rm 2) S0 m args bel meth c 0 0 (MQ bel (dk_Qc G (dk_kf K)) args S0 0 0 (dk_A G)) 34 [some (dk_r G 4 60), some (.int x1), none] [] s) : ∀ (n : Nat) (x1 : Int32) (x2 : Int32) (s : dk_S), wf_X9_livingShare_4 K E34 n x1 x2 s → dk_W G P l e (dk_rm 2) S0 m args bel meth c 0 0 (MQ bel (dk_Qc G (dk_kf K)) args S0 0 0 (dk_A G)) 4 [some (dk_r G 4 60), some (.int x1), some (.int x2)] [] s := by
  intro n
  induction n with
  | zero => intro x1 x2 s h; exact False.elim h
  | succ n hB =>
    intro x1 x2 s h
    unfold wf_X9_livingShare_4 at h
    refine dk_iload_n (i := 2) C dX9_livingShare_4 (n := 5) rfl rfl rfl ?_
    refine dk_aload_n (i := 0) C dX9_livingShare_5 (n := 6) rfl rfl rfl ?_
    refine gf_X9_34 C (hmi 60 (by decide) (by decide)) dX9_livingShare_6 (n := 9) rfl ?_
    refine dk_icmp_ge (t := 34) C dX9_livingShare_9 (n := 12) rfl (by decide) (fun c15 => ?_) (fun c15 => ?_)
    · have h := h.1 c15
      refine dk_sub (L0 := [some (dk_r G 4 60), some (.int x1), none]) ⟨rfl, ⟨rfl, trivial⟩⟩ ?_
      exact hE34 x1 s h
    · have h := h.2 c15
      refine dk_iload_n (i := 1) C dX9_livingShare_12 (n := 13) rfl rfl rfl ?_
      refine dk_aload_n (i := 0) C dX9_livingShare_13 (n := 14) rfl rfl rfl ?_
      refine dk_iload_n (i := 2) C dX9_livingShare_14 (n := 15) rfl rfl rfl ?_
      refine dk_callVi C [.int x1] (cc_X9_lives C.D hmi h) yy_X9_lives dk_wm_X9_200 dk_sh60 (hmi 60 (by decide) (by decide)) dX9_livingShare_15 (fun r9 s8 h => ?_) rfl rfl ⟨Nat.le_of_ble_eq_true rfl, Nat.le_of_ble_eq_true rfl⟩ rfl (Nat.le_of_ble_eq_true rfl) rfl (n := 18) rfl
      refine dk_if_eq (t := 25) C dX9_livingShare_18 (n := 21) rfl (by decide) (fun c14 => ?_) (fun c14 => ?_)
      · have h := h.1 c14
        refine dk_iconst (v := 0) C dX9_livingShare_25 (n := 26) rfl (by decide) ?_
        refine dk_iadd C dX9_livingShare_26 (n := 27) rfl ?_
        refine dk_name (fun v10 ev10 => ?_)
        have h := h v10 ev10
        refine dk_istore_n (i := 1) (L' := [some (dk_r G 4 60), some (.int v10), some (.int x2)]) C dX9_livingShare_27 (n := 28) rfl rfl (dk_nc_of rfl) (Nat.le_of_ble_eq_true rfl) rfl ?_
        obtain ⟨v11, ev11⟩ : ∃ y : Int32, y = x2 + 1 := ⟨_, rfl⟩
        have h := h v11 ev11
        refine dk_iinc (i := 2) (v := v11) (L' := [some (dk_r G 4 60), some (.int v10), some (.int v11)]) C dX9_livingShare_28 (n := 31) rfl rfl (by rw [ev11]; rfl) (dk_nc_of rfl) (Nat.le_of_ble_eq_true rfl) rfl ?_
        refine dk_goto (t := 4) C dX9_livingShare_31 (by decide) ?_
        refine dk_sub (L0 := [some (dk_r G 4 60), some (.int v10), some (.int v11)]) ⟨rfl, ⟨rfl, ⟨rfl, trivial⟩⟩⟩ ?_
        exact hB v10 v11 s8 h
      · have h := h.2 c14
        refine dk_iconst (v := 1) C dX9_livingShare_21 (n := 22) rfl (by decide) ?_
        refine dk_goto (t := 26) C dX9_livingShare_22 (by decide) ?_
        refine dk_iadd C dX9_livingShare_26 (n := 27) rfl ?_
        refine dk_name (fun v12 ev12 => ?_)
        have h := h v12 ev12
        refine dk_istore_n (i := 1) (L' := [some (dk_r G 4 60), some (.int v12), some (.int x2)]) C dX9_livingShare_27 (n := 28) rfl rfl (dk_nc_of rfl) (Nat.le_of_ble_eq_true rfl) rfl ?_
        obtain ⟨v13, ev13⟩ : ∃ y : Int32, y = x2 + 1 := ⟨_, rfl⟩
        have h := h v13 ev13
        refine dk_iinc (i := 2) (v := v13) (L' := [some (dk_r G 4 60), some (.int v12), some (.int v13)]) C dX9_livingShare_28 (n := 31) rfl rfl (by rw [ev13]; rfl) (dk_nc_of rfl) (Nat.le_of_ble_eq_true rfl) rfl ?_
        refine dk_goto (t := 4) C dX9_livingShare_31 (by decide) ?_
        refine dk_sub (L0 := [some (dk_r G 4 60), some (.int v12), some (.int v13)]) ⟨rfl, ⟨rfl, ⟨rfl, trivial⟩⟩⟩ ?_
        exact hB v12 v13 s8 h
set_option maxRecDepth 20000 in
set_option maxHeartbeats 4000000 in
theorem cc_X9_livingShare {G : dk_G} {l : Launch}  (hD : dk_D G) (hmi : dk_MI G) {s : dk_S} {K : UInt32 → dk_S → Prop} (h : wf_X9_livingShare s K) : dk_M G l 2 yX9_livingShare cX9_livingShare 3 (some .float) [dk_r G 4 60] s (dk_kf K) := by
  refine dk_of hD (by decide) [some (dk_r G 4 60), none, none] (fun q hq => hq) rfl (Nat.le_of_ble_eq_true rfl) (fun P e S0 m args bel meth c C hr hlk => ?_)
  unfold wf_X9_livingShare at h
  refine dk_iconst (v := 0) C dX9_livingShare_0 (n := 1) rfl (by decide) ?_
  refine dk_istore_n (i := 1) (L' := [some (dk_r G 4 60), some (.int 0), none]) C dX9_livingShare_1 (n := 2) rfl rfl (dk_nc_of rfl) (Nat.le_of_ble_eq_true rfl) rfl ?_
  refine dk_iconst (v := 1) C dX9_livingShare_2 (n := 3) rfl (by decide) ?_
  refine dk_istore_n (i := 2) (L' := [some (dk_r G 4 60), some (.int 0), some (.int 1)]) C dX9_livingShare_3 (n := 4) rfl rfl (dk_nc_of rfl) (Nat.le_of_ble_eq_true rfl) rfl ?_
  obtain ⟨nn4, h⟩ := h
  refine dk_sub (L0 := [some (dk_r G 4 60), some (.int 0), some (.int 1)]) ⟨rfl, ⟨rfl, ⟨rfl, trivial⟩⟩⟩ ?_
  refine ww_X9_livingShare_4 C hr hlk hmi (fun w1 s2 h => ?_) nn4 0 1 s h
  · refine dk_aload_n (i := 0) C dX9_livingShare_34 (n := 35) rfl rfl rfl ?_
    refine dk_aload_n (i := 0) C dX9_livingShare_35 (n := 36) rfl rfl rfl ?_
    refine gf_X9_34 C (hmi 60 (by decide) (by decide)) dX9_livingShare_36 (n := 39) rfl ?_
    refine dk_iconst (v := 1) C dX9_livingShare_39 (n := 40) rfl (by decide) ?_
    refine dk_icmp_ne (t := 47) C dX9_livingShare_40 (n := 43) rfl (by decide) (fun c3 => ?_) (fun c3 => ?_)
    · have h := h.1 c3
      refine dk_iconst (v := 0) C dX9_livingShare_47 (n := 48) rfl (by decide) ?_
      refine dk_sub (L0 := [some (dk_r G 4 60), some (.int w1), none]) ⟨rfl, ⟨rfl, trivial⟩⟩ ?_
      exact ww_X9_livingShare_48 C hr hlk hmi  w1 0 s2 h
    · have h := h.2 c3
      refine dk_iconst (v := 1) C dX9_livingShare_43 (n := 44) rfl (by decide) ?_
      refine dk_goto (t := 48) C dX9_livingShare_44 (by decide) ?_
      refine dk_sub (L0 := [some (dk_r G 4 60), some (.int w1), none]) ⟨rfl, ⟨rfl, trivial⟩⟩ ?_
      exact ww_X9_livingShare_48 C hr hlk hmi  w1 1 s2 h
/-! X9_meanHealth -/
set_option maxRecDepth 20000 in
set_option maxHeartbeats 4000000 in
theorem ww_X9_meanHealth_67 {G : dk_G} {P : Program} {l : Launch} {e : Env} {S0 : State} {m : MethodId} {args : Array Value} {bel : List Frame} {meth : Method} {c : Code}  (C : dk_C G P (dk_rm 2) S0 m args c 0 0 cX9_meanHealth 4 RX9) (hr : meth.sig.returnType = (some .double)) (hlk : meth.locks = false) (hmi : dk_MI G) {K : UInt64 → dk_S → Prop}  : ∀ (x1 : Int32) (x2 : Int32) (y0 : Int32) (s : dk_S), wf_X9_meanHealth_67 K x1 x2 y0 s → dk_W G P l e (dk_rm 2) S0 m args bel meth c 0 0 (MQ bel (dk_Qc G (dk_kd K)) args S0 0 0 (dk_A G)) 67 [none, some (.int x1), some (.int x2), none] [.int y0, dk_r G 4 60] s := by
  intro x1 x2 y0 s h
  unfold wf_X9_meanHealth_67 at h
  refine dk_callVi C [] (cc_X9_goesOn C.D hmi h) yy_X9_goesOn dk_wm_X9_149 dk_sh60 (hmi 60 (by decide) (by decide)) dX9_meanHealth_67 (fun r7 s6 h => ?_) rfl rfl ⟨Nat.le_of_ble_eq_true rfl, Nat.le_of_ble_eq_true rfl⟩ rfl (Nat.le_of_ble_eq_true rfl) rfl (n := 70) rfl
  refine dk_if_eq (t := 81) C dX9_meanHealth_70 (n := 73) rfl (by decide) (fun c8 => ?_) (fun c8 => ?_)
  · have h := h.1 c8
    refine dk_dconst0 C dX9_meanHealth_81 (n := 82) rfl ?_
    exact dk_dret C hr hlk dX9_meanHealth_82 ⟨_, rfl, h⟩
  · have h := h.2 c8
    refine dk_iload_n (i := 1) C dX9_meanHealth_73 (n := 74) rfl rfl rfl ?_
    refine dk_i2d C dX9_meanHealth_74 (n := 75) rfl ?_
    refine dk_iload_n (i := 2) C dX9_meanHealth_75 (n := 76) rfl rfl rfl ?_
    refine dk_i2d C dX9_meanHealth_76 (n := 77) rfl ?_
    refine dk_ddiv C dX9_meanHealth_77 (n := 78) rfl h.1 ?_
    have h := h.2
    refine dk_goto (t := 82) C dX9_meanHealth_78 (by decide) ?_
    exact dk_dret C hr hlk dX9_meanHealth_82 ⟨_, rfl, h⟩
set_option maxRecDepth 20000 in
set_option maxHeartbeats 4000000 in
theorem ww_X9_meanHealth_33 {G : dk_G} {P : Program} {l : Launch} {e : Env} {S0 : State} {m : MethodId} {args : Array Value} {bel : List Frame} {meth : Method} {c : Code}  (C : dk_C G P (dk_rm 2) S0 m args c 0 0 cX9_meanHealth 4 RX9) (hr : meth.sig.returnType = (some .double)) (hlk : meth.locks = false) (hmi : dk_MI G) {K : UInt64 → dk_S → Prop} {B : Int32 → Int32 → Int32 → dk_S → Prop} {E57 : Int32 → Int32 → dk_S → Prop} (hB : ∀ (x1 : Int32) (x2 : Int32) (x3 : Int32) (s : dk_S), B x1 x2 x3 s → dk_W G P l e (dk_rm 2) S0 m args bel meth c 0 0 (MQ bel (dk_Qc G (dk_kd K)) args S0 0 0 (dk_A G)) 6 [some (dk_r G 4 60), some (.int x1), some (.int x2), some (.int x3)] [] s) (hE57 : ∀ (x1 : Int32) (x2 : Int32) (s : dk_S), E57 x1 x2 s → dk_W G P l e (dk_rm 2) S0 m args bel meth c 0 0 (MQ bel (dk_Qc G (dk_kd K)) args S0 0 0 (dk_A G)) 57 [some (dk_r G 4 60), some (.int x1), some (.int x2), none] [] s) : ∀ (x2 : Int32) (x3 : Int32) (y0 : Int32) (y1 : Int32) (s : dk_S), wf_X9_meanHealth_33 K B E57 x2 x3 y0 y1 s → dk_W G P l e (dk_rm 2) S0 m args bel meth c 0 0 (MQ bel (dk_Qc G (dk_kd K)) args S0 0 0 (dk_A G)) 33 [some (dk_r G 4 60), none, some (.int x2), some (.int x3)] [.int y0, .int y1] s := by
  intro x2 x3 y0 y1 s h
  unfold wf_X9_meanHealth_33 at h
  refine dk_iadd C dX9_meanHealth_33 (n := 34) rfl ?_
  refine dk_name (fun v13 ev13 => ?_)
  have h := h v13 ev13
  refine dk_istore_n (i := 1) (L' := [some (dk_r G 4 60), some (.int v13), some (.int x2), some (.int x3)]) C dX9_meanHealth_34 (n := 35) rfl rfl (dk_nc_of rfl) (Nat.le_of_ble_eq_true rfl) rfl ?_
  refine dk_iload_n (i := 2) C dX9_meanHealth_35 (n := 36) rfl rfl rfl ?_
  refine dk_aload_n (i := 0) C dX9_meanHealth_36 (n := 37) rfl rfl rfl ?_
  refine dk_iload_n (i := 3) C dX9_meanHealth_37 (n := 38) rfl rfl rfl ?_
  refine dk_callVi C [.int x2] (cc_X9_lives C.D hmi h) yy_X9_lives dk_wm_X9_200 dk_sh60 (hmi 60 (by decide) (by decide)) dX9_meanHealth_38 (fun r15 s14 h => ?_) rfl rfl ⟨Nat.le_of_ble_eq_true rfl, Nat.le_of_ble_eq_true rfl⟩ rfl (Nat.le_of_ble_eq_true rfl) rfl (n := 41) rfl
  refine dk_if_eq (t := 48) C dX9_meanHealth_41 (n := 44) rfl (by decide) (fun c20 => ?_) (fun c20 => ?_)
  · have h := h.1 c20
    refine dk_iconst (v := 0) C dX9_meanHealth_48 (n := 49) rfl (by decide) ?_
    refine dk_iadd C dX9_meanHealth_49 (n := 50) rfl ?_
    refine dk_name (fun v16 ev16 => ?_)
    have h := h v16 ev16
    refine dk_istore_n (i := 2) (L' := [some (dk_r G 4 60), some (.int v13), some (.int v16), some (.int x3)]) C dX9_meanHealth_50 (n := 51) rfl rfl (dk_nc_of rfl) (Nat.le_of_ble_eq_true rfl) rfl ?_
    obtain ⟨v17, ev17⟩ : ∃ y : Int32, y = x3 + 1 := ⟨_, rfl⟩
    have h := h v17 ev17
    refine dk_iinc (i := 3) (v := v17) (L' := [some (dk_r G 4 60), some (.int v13), some (.int v16), some (.int v17)]) C dX9_meanHealth_51 (n := 54) rfl rfl (by rw [ev17]; rfl) (dk_nc_of rfl) (Nat.le_of_ble_eq_true rfl) rfl ?_
    refine dk_goto (t := 6) C dX9_meanHealth_54 (by decide) ?_
    refine dk_sub (L0 := [some (dk_r G 4 60), some (.int v13), some (.int v16), some (.int v17)]) ⟨rfl, ⟨rfl, ⟨rfl, ⟨rfl, trivial⟩⟩⟩⟩ ?_
    exact hB v13 v16 v17 s14 h
  · have h := h.2 c20
    refine dk_iconst (v := 1) C dX9_meanHealth_44 (n := 45) rfl (by decide) ?_
    refine dk_goto (t := 49) C dX9_meanHealth_45 (by decide) ?_
    refine dk_iadd C dX9_meanHealth_49 (n := 50) rfl ?_
    refine dk_name (fun v18 ev18 => ?_)
    have h := h v18 ev18
    refine dk_istore_n (i := 2) (L' := [some (dk_r G 4 60), some (.int v13), some (.int v18), some (.int x3)]) C dX9_meanHealth_50 (n := 51) rfl rfl (dk_nc_of rfl) (Nat.le_of_ble_eq_true rfl) rfl ?_
    obtain ⟨v19, ev19⟩ : ∃ y : Int32, y = x3 + 1 := ⟨_, rfl⟩
    have h := h v19 ev19
    refine dk_iinc (i := 3) (v := v19) (L' := [some (dk_r G 4 60), some (.int v13), some (.int v18), some (.int v19)]) C dX9_meanHealth_51 (n := 54) rfl rfl (by rw [ev19]; rfl) (dk_nc_of rfl) (Nat.le_of_ble_eq_true rfl) rfl ?_
    refine dk_goto (t := 6) C dX9_meanHealth_54 (by decide) ?_
    refine dk_sub (L0 := [some (dk_r G 4 60), some (.int v13), some (.int v18), some (.int v19)]) ⟨rfl, ⟨rfl, ⟨rfl, ⟨rfl, trivial⟩⟩⟩⟩ ?_
    exact hB v13 v18 v19 s14 h
set_option maxRecDepth 20000 in
set_option maxHeartbeats 4000000 in
theorem ww_X9_meanHealth_6 {G : dk_G} {P : Program} {l : Launch} {e : Env} {S0 : State} {m : MethodId} {args : Array Value} {bel : List Frame} {meth : Method} {c : Code}  (C : dk_C G P (dk_rm 2) S0 m args c 0 0 cX9_meanHealth 4 RX9) (hr : meth.sig.returnType = (some .double)) (hlk : meth.locks = false) (hmi : dk_MI G) {K : UInt64 → dk_S → Prop} {E57 : Int32 → Int32 → dk_S → Prop} (hE57 : ∀ (x1 : Int32) (x2 : Int32) (s : dk_S), E57 x1 x2 s → dk_W G P l e (dk_rm 2) S0 m args bel meth c 0 0 (MQ bel (dk_Qc G (dk_kd K)) args S0 0 0 (dk_A G)) 57 [some (dk_r G 4 60), some (.int x1), some (.int x2), none] [] s) : ∀ (n : Nat) (x1 : Int32) (x2 : Int32) (x3 : Int32) (s : dk_S), wf_X9_meanHealth_6 K E57 n x1 x2 x3 s → dk_W G P l e (dk_rm 2) S0 m args bel meth c 0 0 (MQ bel (dk_Qc G (dk_kd K)) args S0 0 0 (dk_A G)) 6 [some (dk_r G 4 60), some (.int x1), some (.int x2), some (.int x3)] [] s := by
  intro n
  induction n with
  | zero => intro x1 x2 x3 s h; exact False.elim h
  | succ n hB =>
    intro x1 x2 x3 s h
    unfold wf_X9_meanHealth_6 at h
    refine dk_iload_n (i := 3) C dX9_meanHealth_6 (n := 7) rfl rfl rfl ?_
    refine dk_aload_n (i := 0) C dX9_meanHealth_7 (n := 8) rfl rfl rfl ?_
    refine gf_X9_34 C (hmi 60 (by decide) (by decide)) dX9_meanHealth_8 (n := 11) rfl ?_
    refine dk_icmp_ge (t := 57) C dX9_meanHealth_11 (n := 14) rfl (by decide) (fun c12 => ?_) (fun c12 => ?_)
    · have h := h.1 c12
      refine dk_sub (L0 := [some (dk_r G 4 60), some (.int x1), some (.int x2), none]) ⟨rfl, ⟨rfl, ⟨rfl, trivial⟩⟩⟩ ?_
      exact hE57 x1 x2 s h
    · have h := h.2 c12
      refine dk_iload_n (i := 1) C dX9_meanHealth_14 (n := 15) rfl rfl rfl ?_
      refine dk_aload_n (i := 0) C dX9_meanHealth_15 (n := 16) rfl rfl rfl ?_
      refine dk_iload_n (i := 3) C dX9_meanHealth_16 (n := 17) rfl rfl rfl ?_
      refine dk_callVi C [.int x1] (cc_X9_lives C.D hmi h) yy_X9_lives dk_wm_X9_200 dk_sh60 (hmi 60 (by decide) (by decide)) dX9_meanHealth_17 (fun r10 s9 h => ?_) rfl rfl ⟨Nat.le_of_ble_eq_true rfl, Nat.le_of_ble_eq_true rfl⟩ rfl (Nat.le_of_ble_eq_true rfl) rfl (n := 20) rfl
      refine dk_if_eq (t := 32) C dX9_meanHealth_20 (n := 23) rfl (by decide) (fun c11 => ?_) (fun c11 => ?_)
      · have h := h.1 c11
        refine dk_iconst (v := 0) C dX9_meanHealth_32 (n := 33) rfl (by decide) ?_
        refine dk_sub (L0 := [some (dk_r G 4 60), none, some (.int x2), some (.int x3)]) ⟨rfl, ⟨rfl, ⟨rfl, trivial⟩⟩⟩ ?_
        exact ww_X9_meanHealth_33 C hr hlk hmi hB hE57 x2 x3 0 x1 s9 h
      · have h := h.2 c11
        refine dk_aload_n (i := 0) C dX9_meanHealth_23 (n := 24) rfl rfl rfl ?_
        refine gf_X9_68 C (hmi 60 (by decide) (by decide)) dX9_meanHealth_24 (n := 27) rfl ?_
        refine dk_iload_n (i := 3) C dX9_meanHealth_27 (n := 28) rfl rfl rfl ?_
        refine dk_iald C dk_sh77 h.1 (hmi 77 (by decide) (by decide)) dX9_meanHealth_28 (n := 29) rfl ?_
        have h := h.2
        refine dk_goto (t := 33) C dX9_meanHealth_29 (by decide) ?_
        refine dk_sub (L0 := [some (dk_r G 4 60), none, some (.int x2), some (.int x3)]) ⟨rfl, ⟨rfl, ⟨rfl, trivial⟩⟩⟩ ?_
        exact ww_X9_meanHealth_33 C hr hlk hmi hB hE57 x2 x3 (s9 4 77 x3.toNatClampNeg) x1 s9 h
set_option maxRecDepth 20000 in
set_option maxHeartbeats 4000000 in
theorem cc_X9_meanHealth {G : dk_G} {l : Launch}  (hD : dk_D G) (hmi : dk_MI G) {s : dk_S} {K : UInt64 → dk_S → Prop} (h : wf_X9_meanHealth s K) : dk_M G l 2 yX9_meanHealth cX9_meanHealth 4 (some .double) [dk_r G 4 60] s (dk_kd K) := by
  refine dk_of hD (by decide) [some (dk_r G 4 60), none, none, none] (fun q hq => hq) rfl (Nat.le_of_ble_eq_true rfl) (fun P e S0 m args bel meth c C hr hlk => ?_)
  unfold wf_X9_meanHealth at h
  refine dk_iconst (v := 0) C dX9_meanHealth_0 (n := 1) rfl (by decide) ?_
  refine dk_istore_n (i := 1) (L' := [some (dk_r G 4 60), some (.int 0), none, none]) C dX9_meanHealth_1 (n := 2) rfl rfl (dk_nc_of rfl) (Nat.le_of_ble_eq_true rfl) rfl ?_
  refine dk_iconst (v := 0) C dX9_meanHealth_2 (n := 3) rfl (by decide) ?_
  refine dk_istore_n (i := 2) (L' := [some (dk_r G 4 60), some (.int 0), some (.int 0), none]) C dX9_meanHealth_3 (n := 4) rfl rfl (dk_nc_of rfl) (Nat.le_of_ble_eq_true rfl) rfl ?_
  refine dk_iconst (v := 0) C dX9_meanHealth_4 (n := 5) rfl (by decide) ?_
  refine dk_istore_n (i := 3) (L' := [some (dk_r G 4 60), some (.int 0), some (.int 0), some (.int 0)]) C dX9_meanHealth_5 (n := 6) rfl rfl (dk_nc_of rfl) (Nat.le_of_ble_eq_true rfl) rfl ?_
  obtain ⟨nn5, h⟩ := h
  refine dk_sub (L0 := [some (dk_r G 4 60), some (.int 0), some (.int 0), some (.int 0)]) ⟨rfl, ⟨rfl, ⟨rfl, ⟨rfl, trivial⟩⟩⟩⟩ ?_
  refine ww_X9_meanHealth_6 C hr hlk hmi (fun w1 w2 s3 h => ?_) nn5 0 0 0 s h
  · refine dk_aload_n (i := 0) C dX9_meanHealth_57 (n := 58) rfl rfl rfl ?_
    refine dk_iload_n (i := 2) C dX9_meanHealth_58 (n := 59) rfl rfl rfl ?_
    refine dk_if_ne (t := 66) C dX9_meanHealth_59 (n := 62) rfl (by decide) (fun c4 => ?_) (fun c4 => ?_)
    · have h := h.1 c4
      refine dk_iconst (v := 0) C dX9_meanHealth_66 (n := 67) rfl (by decide) ?_
      refine dk_sub (L0 := [none, some (.int w1), some (.int w2), none]) ⟨rfl, ⟨rfl, trivial⟩⟩ ?_
      exact ww_X9_meanHealth_67 C hr hlk hmi  w1 w2 0 s3 h
    · have h := h.2 c4
      refine dk_iconst (v := 1) C dX9_meanHealth_62 (n := 63) rfl (by decide) ?_
      refine dk_goto (t := 67) C dX9_meanHealth_63 (by decide) ?_
      refine dk_sub (L0 := [none, some (.int w1), some (.int w2), none]) ⟨rfl, ⟨rfl, trivial⟩⟩ ?_
      exact ww_X9_meanHealth_67 C hr hlk hmi  w1 w2 1 s3 h
