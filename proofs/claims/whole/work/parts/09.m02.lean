/-! X6_isCarriedKey -/
set_option maxRecDepth 20000 in
set_option maxHeartbeats 4000000 in
theorem ww_X6_isCarriedKey_2 {G : dk_G} {P : Program} {l : Launch} {e : Env} {S0 : State} {m : MethodId} {args : Array Value} {bel : List Frame} {meth : Method} {c : Code} {p0 : Nat} (C : dk_C G P (dk_rm 4) S0 m args c 0 0 cX6_isCarriedKey 3 RX6) (hr : meth.sig.returnType = (some .boolean)) (hlk : meth.locks = false) (hp0 : dk_WI G p0) {K : Int32 → dk_S → Prop}  : ∀ (n : Nat) (x1 : Int32) (x2 : Int32) (s : dk_S), wf_X6_isCarriedKey_2 p0 K n x1 x2 s → dk_W G P l e (dk_rm 4) S0 m args bel meth c 0 0 (MQ bel (dk_Qc G (dk_ki K)) args S0 0 0 (dk_A G)) 2 [some (dk_r G p0 23), some (.int x1), some (.int x2)] [] s := by
  intro n
  induction n with
  | zero => intro x1 x2 s h; exact False.elim h
  | succ n hB =>
    intro x1 x2 s h
    unfold wf_X6_isCarriedKey_2 at h
    refine dk_iload_n (i := 2) C dX6_isCarriedKey_2 (n := 3) rfl rfl rfl ?_
    refine dk_aload_n (i := 0) C dX6_isCarriedKey_3 (n := 4) rfl rfl rfl ?_
    refine gf_X6_18 C (hp0 23 (by decide)) dX6_isCarriedKey_4 (n := 7) rfl ?_
    refine dk_icmp_ge (t := 39) C dX6_isCarriedKey_7 (n := 10) rfl (by decide) (fun c10 => ?_) (fun c10 => ?_)
    · have h := h.1 c10
      refine dk_iconst (v := 0) C dX6_isCarriedKey_39 (n := 40) rfl (by decide) ?_
      exact dk_iret C hr hlk dk_nz0 dX6_isCarriedKey_40 ⟨_, rfl, h⟩
    · have h := h.2 c10
      refine dk_aload_n (i := 0) C dX6_isCarriedKey_10 (n := 11) rfl rfl rfl ?_
      refine gf_X6_9 C (hp0 23 (by decide)) dX6_isCarriedKey_11 (n := 14) rfl ?_
      refine dk_iload_n (i := 2) C dX6_isCarriedKey_14 (n := 15) rfl rfl rfl ?_
      refine dk_callNi C [] (cc_X8_at C.D dk_sh24 (hp0 24 (by decide)) h) yy_X8_at dk_wm_X6_30 dX6_isCarriedKey_15 (fun r3 s2 h => ?_) rfl ⟨Nat.le_of_ble_eq_true rfl, Nat.le_of_ble_eq_true rfl⟩ rfl (Nat.le_of_ble_eq_true rfl) rfl (n := 18) rfl
      refine dk_iload_n (i := 1) C dX6_isCarriedKey_18 (n := 19) rfl rfl rfl ?_
      refine dk_icmp_ne (t := 33) C dX6_isCarriedKey_19 (n := 22) rfl (by decide) (fun c9 => ?_) (fun c9 => ?_)
      · have h := h.1 c9
        obtain ⟨v4, ev4⟩ : ∃ y : Int32, y = x2 + 1 := ⟨_, rfl⟩
        have h := h v4 ev4
        refine dk_iinc (i := 2) (v := v4) (L' := [some (dk_r G p0 23), some (.int x1), some (.int v4)]) C dX6_isCarriedKey_33 (n := 36) rfl rfl (by rw [ev4]; rfl) (dk_nc_of rfl) (Nat.le_of_ble_eq_true rfl) rfl ?_
        refine dk_goto (t := 2) C dX6_isCarriedKey_36 (by decide) ?_
        refine dk_sub (L0 := [some (dk_r G p0 23), some (.int x1), some (.int v4)]) ⟨rfl, ⟨rfl, ⟨rfl, trivial⟩⟩⟩ ?_
        exact hB x1 v4 s2 h
      · have h := h.2 c9
        refine dk_aload_n (i := 0) C dX6_isCarriedKey_22 (n := 23) rfl rfl rfl ?_
        refine dk_iload_n (i := 2) C dX6_isCarriedKey_23 (n := 24) rfl rfl rfl ?_
        refine dk_callVi C [] (cc_X6_outerPlace C.D hp0 h) yy_X6_outerPlace dk_wm_X6_47 dk_sh23 (hp0 23 (by decide)) dX6_isCarriedKey_24 (fun r6 s5 h => ?_) rfl rfl ⟨Nat.le_of_ble_eq_true rfl, Nat.le_of_ble_eq_true rfl⟩ rfl (Nat.le_of_ble_eq_true rfl) rfl (n := 27) rfl
        refine dk_iconst (v := (-1)) C dX6_isCarriedKey_27 (n := 28) rfl (by decide) ?_
        refine dk_icmp_ne (t := 33) C dX6_isCarriedKey_28 (n := 31) rfl (by decide) (fun c8 => ?_) (fun c8 => ?_)
        · have h := h.1 c8
          obtain ⟨v7, ev7⟩ : ∃ y : Int32, y = x2 + 1 := ⟨_, rfl⟩
          have h := h v7 ev7
          refine dk_iinc (i := 2) (v := v7) (L' := [some (dk_r G p0 23), some (.int x1), some (.int v7)]) C dX6_isCarriedKey_33 (n := 36) rfl rfl (by rw [ev7]; rfl) (dk_nc_of rfl) (Nat.le_of_ble_eq_true rfl) rfl ?_
          refine dk_goto (t := 2) C dX6_isCarriedKey_36 (by decide) ?_
          refine dk_sub (L0 := [some (dk_r G p0 23), some (.int x1), some (.int v7)]) ⟨rfl, ⟨rfl, ⟨rfl, trivial⟩⟩⟩ ?_
          exact hB x1 v7 s5 h
        · have h := h.2 c8
          refine dk_iconst (v := 1) C dX6_isCarriedKey_31 (n := 32) rfl (by decide) ?_
          exact dk_iret C hr hlk dk_nz1 dX6_isCarriedKey_32 ⟨_, rfl, h⟩
set_option maxRecDepth 20000 in
set_option maxHeartbeats 4000000 in
theorem cc_X6_isCarriedKey {G : dk_G} {l : Launch} {p0 : Nat} {a1 : Int32} (hD : dk_D G) (hp0 : dk_WI G p0) {s : dk_S} {K : Int32 → dk_S → Prop} (h : wf_X6_isCarriedKey p0 a1 s K) : dk_M G l 4 yX6_isCarriedKey cX6_isCarriedKey 3 (some .boolean) [dk_r G p0 23, .int a1] s (dk_ki K) := by
  refine dk_of hD (by decide) [some (dk_r G p0 23), some (.int a1), none] (fun q hq => hq) rfl (Nat.le_of_ble_eq_true rfl) (fun P e S0 m args bel meth c C hr hlk => ?_)
  unfold wf_X6_isCarriedKey at h
  refine dk_iconst (v := 0) C dX6_isCarriedKey_0 (n := 1) rfl (by decide) ?_
  refine dk_istore_n (i := 2) (L' := [some (dk_r G p0 23), some (.int a1), some (.int 0)]) C dX6_isCarriedKey_1 (n := 2) rfl rfl (dk_nc_of rfl) (Nat.le_of_ble_eq_true rfl) rfl ?_
  obtain ⟨nn1, h⟩ := h
  refine dk_sub (L0 := [some (dk_r G p0 23), some (.int a1), some (.int 0)]) ⟨rfl, ⟨rfl, ⟨rfl, trivial⟩⟩⟩ ?_
  refine ww_X6_isCarriedKey_2 C hr hlk hp0  nn1 a1 0 s h
/-! X6_isLike -/
set_option maxRecDepth 20000 in
set_option maxHeartbeats 4000000 in
theorem ww_X6_isLike_2 {G : dk_G} {P : Program} {l : Launch} {e : Env} {S0 : State} {m : MethodId} {args : Array Value} {bel : List Frame} {meth : Method} {c : Code} {p0 : Nat} {p1 : Nat} (C : dk_C G P (dk_rm 2) S0 m args c 0 0 cX6_isLike 3 RX6) (hr : meth.sig.returnType = (some .boolean)) (hlk : meth.locks = false) (hp0 : dk_WI G p0) (hp1 : dk_WI G p1) {K : Int32 → dk_S → Prop} {E37 : dk_S → Prop} (hE37 : ∀ (s : dk_S), E37 s → dk_W G P l e (dk_rm 2) S0 m args bel meth c 0 0 (MQ bel (dk_Qc G (dk_ki K)) args S0 0 0 (dk_A G)) 37 [some (dk_r G p0 23), some (dk_r G p1 23), none] [] s) : ∀ (n : Nat) (x2 : Int32) (s : dk_S), wf_X6_isLike_2 p0 p1 K E37 n x2 s → dk_W G P l e (dk_rm 2) S0 m args bel meth c 0 0 (MQ bel (dk_Qc G (dk_ki K)) args S0 0 0 (dk_A G)) 2 [some (dk_r G p0 23), some (dk_r G p1 23), some (.int x2)] [] s := by
  intro n
  induction n with
  | zero => intro x2 s h; exact False.elim h
  | succ n hB =>
    intro x2 s h
    unfold wf_X6_isLike_2 at h
    refine dk_iload_n (i := 2) C dX6_isLike_2 (n := 3) rfl rfl rfl ?_
    refine dk_aload_n (i := 0) C dX6_isLike_3 (n := 4) rfl rfl rfl ?_
    refine gf_X6_18 C (hp0 23 (by decide)) dX6_isLike_4 (n := 7) rfl ?_
    refine dk_icmp_ge (t := 37) C dX6_isLike_7 (n := 10) rfl (by decide) (fun c10 => ?_) (fun c10 => ?_)
    · have h := h.1 c10
      refine dk_sub (L0 := [some (dk_r G p0 23), some (dk_r G p1 23), none]) ⟨rfl, ⟨rfl, trivial⟩⟩ ?_
      exact hE37  s h
    · have h := h.2 c10
      refine dk_aload_n (i := 0) C dX6_isLike_10 (n := 11) rfl rfl rfl ?_
      refine gf_X6_15 C (hp0 23 (by decide)) dX6_isLike_11 (n := 14) rfl ?_
      refine dk_iload_n (i := 2) C dX6_isLike_14 (n := 15) rfl rfl rfl ?_
      refine dk_callNi C [] (cc_X8_at C.D dk_sh25 (hp0 25 (by decide)) h) yy_X8_at dk_wm_X6_30 dX6_isLike_15 (fun r5 s4 h => ?_) rfl ⟨Nat.le_of_ble_eq_true rfl, Nat.le_of_ble_eq_true rfl⟩ rfl (Nat.le_of_ble_eq_true rfl) rfl (n := 18) rfl
      refine dk_aload_n (i := 1) C dX6_isLike_18 (n := 19) rfl rfl rfl ?_
      refine gf_X6_15 C (hp1 23 (by decide)) dX6_isLike_19 (n := 22) rfl ?_
      refine dk_iload_n (i := 2) C dX6_isLike_22 (n := 23) rfl rfl rfl ?_
      refine dk_callNi C [.int r5] (cc_X8_at C.D dk_sh25 (hp1 25 (by decide)) h) yy_X8_at dk_wm_X6_30 dX6_isLike_23 (fun r7 s6 h => ?_) rfl ⟨Nat.le_of_ble_eq_true rfl, Nat.le_of_ble_eq_true rfl⟩ rfl (Nat.le_of_ble_eq_true rfl) rfl (n := 26) rfl
      refine dk_icmp_eq (t := 31) C dX6_isLike_26 (n := 29) rfl (by decide) (fun c9 => ?_) (fun c9 => ?_)
      · have h := h.1 c9
        obtain ⟨v8, ev8⟩ : ∃ y : Int32, y = x2 + 1 := ⟨_, rfl⟩
        have h := h v8 ev8
        refine dk_iinc (i := 2) (v := v8) (L' := [some (dk_r G p0 23), some (dk_r G p1 23), some (.int v8)]) C dX6_isLike_31 (n := 34) rfl rfl (by rw [ev8]; rfl) (dk_nc_of rfl) (Nat.le_of_ble_eq_true rfl) rfl ?_
        refine dk_goto (t := 2) C dX6_isLike_34 (by decide) ?_
        refine dk_sub (L0 := [some (dk_r G p0 23), some (dk_r G p1 23), some (.int v8)]) ⟨rfl, ⟨rfl, ⟨rfl, trivial⟩⟩⟩ ?_
        exact hB v8 s6 h
      · have h := h.2 c9
        refine dk_iconst (v := 0) C dX6_isLike_29 (n := 30) rfl (by decide) ?_
        exact dk_iret C hr hlk dk_nz0 dX6_isLike_30 ⟨_, rfl, h⟩
set_option maxRecDepth 20000 in
set_option maxHeartbeats 4000000 in
theorem cc_X6_isLike {G : dk_G} {l : Launch} {p0 : Nat} {p1 : Nat} (hD : dk_D G) (hp0 : dk_WI G p0) (hp1 : dk_WI G p1) {s : dk_S} {K : Int32 → dk_S → Prop} (h : wf_X6_isLike p0 p1 s K) : dk_M G l 2 yX6_isLike cX6_isLike 3 (some .boolean) [dk_r G p0 23, dk_r G p1 23] s (dk_ki K) := by
  refine dk_of hD (by decide) [some (dk_r G p0 23), some (dk_r G p1 23), none] (fun q hq => hq) rfl (Nat.le_of_ble_eq_true rfl) (fun P e S0 m args bel meth c C hr hlk => ?_)
  unfold wf_X6_isLike at h
  refine dk_iconst (v := 0) C dX6_isLike_0 (n := 1) rfl (by decide) ?_
  refine dk_istore_n (i := 2) (L' := [some (dk_r G p0 23), some (dk_r G p1 23), some (.int 0)]) C dX6_isLike_1 (n := 2) rfl rfl (dk_nc_of rfl) (Nat.le_of_ble_eq_true rfl) rfl ?_
  obtain ⟨nn3, h⟩ := h
  refine dk_sub (L0 := [some (dk_r G p0 23), some (dk_r G p1 23), some (.int 0)]) ⟨rfl, ⟨rfl, ⟨rfl, trivial⟩⟩⟩ ?_
  refine ww_X6_isLike_2 C hr hlk hp0 hp1 (fun s1 h => ?_) nn3 0 s h
  · refine dk_aload_n (i := 0) C dX6_isLike_37 (n := 38) rfl rfl rfl ?_
    refine gf_X6_18 C (hp0 23 (by decide)) dX6_isLike_38 (n := 41) rfl ?_
    refine dk_aload_n (i := 1) C dX6_isLike_41 (n := 42) rfl rfl rfl ?_
    refine gf_X6_18 C (hp1 23 (by decide)) dX6_isLike_42 (n := 45) rfl ?_
    refine dk_icmp_ne (t := 52) C dX6_isLike_45 (n := 48) rfl (by decide) (fun c2 => ?_) (fun c2 => ?_)
    · have h := h.1 c2
      refine dk_iconst (v := 0) C dX6_isLike_52 (n := 53) rfl (by decide) ?_
      exact dk_iret C hr hlk dk_nz0 dX6_isLike_53 ⟨_, rfl, h⟩
    · have h := h.2 c2
      refine dk_iconst (v := 1) C dX6_isLike_48 (n := 49) rfl (by decide) ?_
      refine dk_goto (t := 53) C dX6_isLike_49 (by decide) ?_
      exact dk_iret C hr hlk dk_nz1 dX6_isLike_53 ⟨_, rfl, h⟩
/-! X7_copy -/
set_option maxRecDepth 20000 in
set_option maxHeartbeats 4000000 in
theorem cc_X7_copy {G : dk_G} {l : Launch} {p0 : Nat} {p1 : Nat} (hD : dk_D G) (hp0 : dk_WI G p0) (hp1 : dk_WI G p1) {s : dk_S} {K : dk_S → Prop} (h : wf_X7_copy p0 p1 s K) : dk_M G l 4 yX7_copy cX7_copy 2 none [dk_r G p0 0, dk_r G p1 0] s (dk_kv K) := by
  refine dk_of hD (by decide) [some (dk_r G p0 0), some (dk_r G p1 0)] (fun q hq => hq) rfl (Nat.le_of_ble_eq_true rfl) (fun P e S0 m args bel meth c C hr hlk => ?_)
  unfold wf_X7_copy at h
  refine dk_aload_n (i := 0) C dX7_copy_0 (n := 1) rfl rfl rfl ?_
  refine gf_X7_12 C (hp0 0 (by decide)) dX7_copy_1 (n := 4) rfl ?_
  refine dk_aload_n (i := 1) C dX7_copy_4 (n := 5) rfl rfl rfl ?_
  refine gf_X7_12 C (hp1 0 (by decide)) dX7_copy_5 (n := 8) rfl ?_
  refine dk_callVv C [] (cc_X1_copy C.D hp0 hp1 h) yy_X1_copy dk_wm_X7_62 dk_sh1 (hp0 1 (by decide)) dX7_copy_8 (fun s1 h => ?_) rfl rfl ⟨Nat.le_of_ble_eq_true rfl, Nat.le_of_ble_eq_true rfl⟩ rfl (Nat.le_of_ble_eq_true rfl) rfl (n := 11) rfl
  refine dk_aload_n (i := 0) C dX7_copy_11 (n := 12) rfl rfl rfl ?_
  refine gf_X7_21 C (hp0 0 (by decide)) dX7_copy_12 (n := 15) rfl ?_
  refine dk_aload_n (i := 1) C dX7_copy_15 (n := 16) rfl rfl rfl ?_
  refine gf_X7_21 C (hp1 0 (by decide)) dX7_copy_16 (n := 19) rfl ?_
  refine dk_callVv C [] (cc_X3_copy C.D hp0 hp1 h) yy_X3_copy dk_wm_X7_66 dk_sh7 (hp0 7 (by decide)) dX7_copy_19 (fun s2 h => ?_) rfl rfl ⟨Nat.le_of_ble_eq_true rfl, Nat.le_of_ble_eq_true rfl⟩ rfl (Nat.le_of_ble_eq_true rfl) rfl (n := 22) rfl
  refine dk_aload_n (i := 0) C dX7_copy_22 (n := 23) rfl rfl rfl ?_
  refine gf_X7_28 C (hp0 0 (by decide)) dX7_copy_23 (n := 26) rfl ?_
  refine dk_aload_n (i := 1) C dX7_copy_26 (n := 27) rfl rfl rfl ?_
  refine gf_X7_28 C (hp1 0 (by decide)) dX7_copy_27 (n := 30) rfl ?_
  refine dk_callVv C [] (cc_X2_copy C.D hp0 hp1 h) yy_X2_copy dk_wm_X7_69 dk_sh13 (hp0 13 (by decide)) dX7_copy_30 (fun s3 h => ?_) rfl rfl ⟨Nat.le_of_ble_eq_true rfl, Nat.le_of_ble_eq_true rfl⟩ rfl (Nat.le_of_ble_eq_true rfl) rfl (n := 33) rfl
  refine dk_aload_n (i := 0) C dX7_copy_33 (n := 34) rfl rfl rfl ?_
  refine gf_X7_35 C (hp0 0 (by decide)) dX7_copy_34 (n := 37) rfl ?_
  refine dk_aload_n (i := 1) C dX7_copy_37 (n := 38) rfl rfl rfl ?_
  refine gf_X7_35 C (hp1 0 (by decide)) dX7_copy_38 (n := 41) rfl ?_
  refine dk_callVv C [] (cc_X6_copy C.D hp0 hp1 h) yy_X6_copy dk_wm_X7_72 dk_sh23 (hp0 23 (by decide)) dX7_copy_41 (fun s4 h => ?_) rfl rfl ⟨Nat.le_of_ble_eq_true rfl, Nat.le_of_ble_eq_true rfl⟩ rfl (Nat.le_of_ble_eq_true rfl) rfl (n := 44) rfl
  refine dk_aload_n (i := 0) C dX7_copy_44 (n := 45) rfl rfl rfl ?_
  refine gf_X7_42 C (hp0 0 (by decide)) dX7_copy_45 (n := 48) rfl ?_
  refine dk_aload_n (i := 1) C dX7_copy_48 (n := 49) rfl rfl rfl ?_
  refine gf_X7_42 C (hp1 0 (by decide)) dX7_copy_49 (n := 52) rfl ?_
  refine dk_callVv C [] (cc_X4_copy C.D hp0 hp1 h) yy_X4_copy dk_wm_X7_75 dk_sh26 (hp0 26 (by decide)) dX7_copy_52 (fun s5 h => ?_) rfl rfl ⟨Nat.le_of_ble_eq_true rfl, Nat.le_of_ble_eq_true rfl⟩ rfl (Nat.le_of_ble_eq_true rfl) rfl (n := 55) rfl
  refine dk_aload_n (i := 0) C dX7_copy_55 (n := 56) rfl rfl rfl ?_
  refine dk_iconst (v := 0) C dX7_copy_56 (n := 57) rfl (by decide) ?_
  refine pf_X7_46 C rfl rfl (hp0 0 (by decide)) dX7_copy_57 (n := 60) rfl ?_
  refine dk_nameS (fun s6 es6 => ?_)
  have h := h s6 es6
  refine dk_aload_n (i := 0) C dX7_copy_60 (n := 61) rfl rfl rfl ?_
  refine dk_iconst (v := 0) C dX7_copy_61 (n := 62) rfl (by decide) ?_
  refine pf_X7_53 C rfl rfl (hp0 0 (by decide)) dX7_copy_62 (n := 65) rfl ?_
  refine dk_nameS (fun s7 es7 => ?_)
  have h := h s7 es7
  refine dk_aload_n (i := 0) C dX7_copy_65 (n := 66) rfl rfl rfl ?_
  refine dk_iconst (v := 0) C dX7_copy_66 (n := 67) rfl (by decide) ?_
  refine pf_X7_56 C rfl rfl (hp0 0 (by decide)) dX7_copy_67 (n := 70) rfl ?_
  refine dk_nameS (fun s8 es8 => ?_)
  have h := h s8 es8
  refine dk_aload_n (i := 0) C dX7_copy_70 (n := 71) rfl rfl rfl ?_
  refine dk_iconst (v := 0) C dX7_copy_71 (n := 72) rfl (by decide) ?_
  refine pf_X7_59 C rfl rfl (hp0 0 (by decide)) dX7_copy_72 (n := 75) rfl ?_
  refine dk_nameS (fun s9 es9 => ?_)
  have h := h s9 es9
  exact dk_vret C hr hlk dX7_copy_75 ⟨rfl, h⟩
/-! X7_allStandFree -/
set_option maxRecDepth 20000 in
set_option maxHeartbeats 4000000 in
theorem ww_X7_allStandFree_2 {G : dk_G} {P : Program} {l : Launch} {e : Env} {S0 : State} {m : MethodId} {args : Array Value} {bel : List Frame} {meth : Method} {c : Code} {p0 : Nat} (C : dk_C G P (dk_rm 3) S0 m args c 0 0 cX7_allStandFree 2 RX7) (hr : meth.sig.returnType = (some .boolean)) (hlk : meth.locks = false) (hp0 : dk_WI G p0) {K : Int32 → dk_S → Prop}  : ∀ (n : Nat) (x1 : Int32) (s : dk_S), wf_X7_allStandFree_2 p0 K n x1 s → dk_W G P l e (dk_rm 3) S0 m args bel meth c 0 0 (MQ bel (dk_Qc G (dk_ki K)) args S0 0 0 (dk_A G)) 2 [some (dk_r G p0 0), some (.int x1)] [] s := by
  intro n
  induction n with
  | zero => intro x1 s h; exact False.elim h
  | succ n hB =>
    intro x1 s h
    unfold wf_X7_allStandFree_2 at h
    refine dk_iload_n (i := 1) C dX7_allStandFree_2 (n := 3) rfl rfl rfl ?_
    refine dk_aload_n (i := 0) C dX7_allStandFree_3 (n := 4) rfl rfl rfl ?_
    refine gf_X7_28 C (hp0 0 (by decide)) dX7_allStandFree_4 (n := 7) rfl ?_
    refine gf_X7_86 C (hp0 13 (by decide)) dX7_allStandFree_7 (n := 10) rfl ?_
    refine dk_icmp_ge (t := 42) C dX7_allStandFree_10 (n := 13) rfl (by decide) (fun c8 => ?_) (fun c8 => ?_)
    · have h := h.1 c8
      refine dk_iconst (v := 1) C dX7_allStandFree_42 (n := 43) rfl (by decide) ?_
      exact dk_iret C hr hlk dk_nz1 dX7_allStandFree_43 ⟨_, rfl, h⟩
    · have h := h.2 c8
      refine dk_aload_n (i := 0) C dX7_allStandFree_13 (n := 14) rfl rfl rfl ?_
      refine gf_X7_12 C (hp0 0 (by decide)) dX7_allStandFree_14 (n := 17) rfl ?_
      refine dk_aload_n (i := 0) C dX7_allStandFree_17 (n := 18) rfl rfl rfl ?_
      refine gf_X7_28 C (hp0 0 (by decide)) dX7_allStandFree_18 (n := 21) rfl ?_
      refine gf_X7_78 C (hp0 13 (by decide)) dX7_allStandFree_21 (n := 24) rfl ?_
      refine dk_iload_n (i := 1) C dX7_allStandFree_24 (n := 25) rfl rfl rfl ?_
      refine dk_callNi C [dk_r G p0 1] (cc_X8_at C.D dk_sh14 (hp0 14 (by decide)) h) yy_X8_at dk_wm_X7_82 dX7_allStandFree_25 (fun r3 s2 h => ?_) rfl ⟨Nat.le_of_ble_eq_true rfl, Nat.le_of_ble_eq_true rfl⟩ rfl (Nat.le_of_ble_eq_true rfl) rfl (n := 28) rfl
      refine dk_callVi C [] (cc_X1_isFreeAt C.D hp0 h) yy_X1_isFreeAt dk_wm_X7_89 dk_sh1 (hp0 1 (by decide)) dX7_allStandFree_28 (fun r5 s4 h => ?_) rfl rfl ⟨Nat.le_of_ble_eq_true rfl, Nat.le_of_ble_eq_true rfl⟩ rfl (Nat.le_of_ble_eq_true rfl) rfl (n := 31) rfl
      refine dk_if_ne (t := 36) C dX7_allStandFree_31 (n := 34) rfl (by decide) (fun c7 => ?_) (fun c7 => ?_)
      · have h := h.1 c7
        obtain ⟨v6, ev6⟩ : ∃ y : Int32, y = x1 + 1 := ⟨_, rfl⟩
        have h := h v6 ev6
        refine dk_iinc (i := 1) (v := v6) (L' := [some (dk_r G p0 0), some (.int v6)]) C dX7_allStandFree_36 (n := 39) rfl rfl (by rw [ev6]; rfl) (dk_nc_of rfl) (Nat.le_of_ble_eq_true rfl) rfl ?_
        refine dk_goto (t := 2) C dX7_allStandFree_39 (by decide) ?_
        refine dk_sub (L0 := [some (dk_r G p0 0), some (.int v6)]) ⟨rfl, ⟨rfl, trivial⟩⟩ ?_
        exact hB v6 s4 h
      · have h := h.2 c7
        refine dk_iconst (v := 0) C dX7_allStandFree_34 (n := 35) rfl (by decide) ?_
        exact dk_iret C hr hlk dk_nz0 dX7_allStandFree_35 ⟨_, rfl, h⟩
set_option maxRecDepth 20000 in
set_option maxHeartbeats 4000000 in
theorem cc_X7_allStandFree {G : dk_G} {l : Launch} {p0 : Nat} (hD : dk_D G) (hp0 : dk_WI G p0) {s : dk_S} {K : Int32 → dk_S → Prop} (h : wf_X7_allStandFree p0 s K) : dk_M G l 3 yX7_allStandFree cX7_allStandFree 2 (some .boolean) [dk_r G p0 0] s (dk_ki K) := by
  refine dk_of hD (by decide) [some (dk_r G p0 0), none] (fun q hq => hq) rfl (Nat.le_of_ble_eq_true rfl) (fun P e S0 m args bel meth c C hr hlk => ?_)
  unfold wf_X7_allStandFree at h
  refine dk_iconst (v := 0) C dX7_allStandFree_0 (n := 1) rfl (by decide) ?_
  refine dk_istore_n (i := 1) (L' := [some (dk_r G p0 0), some (.int 0)]) C dX7_allStandFree_1 (n := 2) rfl rfl (dk_nc_of rfl) (Nat.le_of_ble_eq_true rfl) rfl ?_
  obtain ⟨nn1, h⟩ := h
  refine dk_sub (L0 := [some (dk_r G p0 0), some (.int 0)]) ⟨rfl, ⟨rfl, trivial⟩⟩ ?_
  refine ww_X7_allStandFree_2 C hr hlk hp0  nn1 0 s h
/-! X8_gap -/
set_option maxRecDepth 20000 in
set_option maxHeartbeats 4000000 in
theorem cc_X8_gap {G : dk_G} {l : Launch} {a0 : Int32} {a1 : Int32} (hD : dk_D G)  {s : dk_S} {K : Int32 → dk_S → Prop} (h : wf_X8_gap a0 a1 s K) : dk_M G l 2 yX8_gap cX8_gap 4 (some .int) [.int a0, .int a1] s (dk_ki K) := by
  refine dk_of hD (by decide) [some (.int a0), some (.int a1), none, none] (fun q hq => hq) rfl (Nat.le_of_ble_eq_true rfl) (fun P e S0 m args bel meth c C hr hlk => ?_)
  unfold wf_X8_gap at h
  refine dk_iload_n (i := 0) C dX8_gap_0 (n := 1) rfl rfl rfl ?_
  refine dk_bipush (v := 12) C dX8_gap_1 (n := 3) rfl (by decide) ?_
  refine dk_idiv C dX8_gap_3 (n := 4) rfl (by decide) ?_
  refine dk_iload_n (i := 1) C dX8_gap_4 (n := 5) rfl rfl rfl ?_
  refine dk_bipush (v := 12) C dX8_gap_5 (n := 7) rfl (by decide) ?_
  refine dk_idiv C dX8_gap_7 (n := 8) rfl (by decide) ?_
  refine dk_isub C dX8_gap_8 (n := 9) rfl ?_
  refine dk_mabs C dk_wm_X8_308 dk_wm_abs_s dk_wm_i dk_wm_abs_c (Nat.le_of_ble_eq_true rfl) (Nat.le_of_ble_eq_true rfl) rfl dX8_gap_9 (n := 12) rfl ?_
  refine dk_name (fun v1 ev1 => ?_)
  have h := h v1 ev1
  refine dk_istore_n (i := 2) (L' := [some (.int a0), some (.int a1), some (.int v1), none]) C dX8_gap_12 (n := 13) rfl rfl (dk_nc_of rfl) (Nat.le_of_ble_eq_true rfl) rfl ?_
  refine dk_iload_n (i := 0) C dX8_gap_13 (n := 14) rfl rfl rfl ?_
  refine dk_bipush (v := 12) C dX8_gap_14 (n := 16) rfl (by decide) ?_
  refine dk_irem C dX8_gap_16 (n := 17) rfl (by decide) ?_
  refine dk_iload_n (i := 1) C dX8_gap_17 (n := 18) rfl rfl rfl ?_
  refine dk_bipush (v := 12) C dX8_gap_18 (n := 20) rfl (by decide) ?_
  refine dk_irem C dX8_gap_20 (n := 21) rfl (by decide) ?_
  refine dk_isub C dX8_gap_21 (n := 22) rfl ?_
  refine dk_mabs C dk_wm_X8_308 dk_wm_abs_s dk_wm_i dk_wm_abs_c (Nat.le_of_ble_eq_true rfl) (Nat.le_of_ble_eq_true rfl) rfl dX8_gap_22 (n := 25) rfl ?_
  refine dk_name (fun v2 ev2 => ?_)
  have h := h v2 ev2
  refine dk_istore_n (i := 3) (L' := [some (.int a0), some (.int a1), some (.int v1), some (.int v2)]) C dX8_gap_25 (n := 26) rfl rfl (dk_nc_of rfl) (Nat.le_of_ble_eq_true rfl) rfl ?_
  refine dk_iload_n (i := 2) C dX8_gap_26 (n := 27) rfl rfl rfl ?_
  refine dk_iload_n (i := 3) C dX8_gap_27 (n := 28) rfl rfl rfl ?_
  refine dk_mmax C dk_wm_X8_313 dk_wm_max_s dk_wm_i dk_wm_max_c (Nat.le_of_ble_eq_true rfl) (Nat.le_of_ble_eq_true rfl) rfl dX8_gap_28 (n := 31) rfl ?_
  exact dk_iret C hr hlk rfl dX8_gap_31 ⟨_, rfl, h⟩
/-! X7_isSeenByHero -/
set_option maxRecDepth 20000 in
set_option maxHeartbeats 4000000 in
theorem cc_X7_isSeenByHero {G : dk_G} {l : Launch} {p0 : Nat} {a1 : Int32} (hD : dk_D G) (hp0 : dk_WI G p0) {s : dk_S} {K : Int32 → dk_S → Prop} (h : wf_X7_isSeenByHero p0 a1 s K) : dk_M G l 5 yX7_isSeenByHero cX7_isSeenByHero 3 (some .boolean) [dk_r G p0 0, .int a1] s (dk_ki K) := by
  refine dk_of hD (by decide) [some (dk_r G p0 0), some (.int a1), none] (fun q hq => hq) rfl (Nat.le_of_ble_eq_true rfl) (fun P e S0 m args bel meth c C hr hlk => ?_)
  unfold wf_X7_isSeenByHero at h
  refine dk_aload_n (i := 0) C dX7_isSeenByHero_0 (n := 1) rfl rfl rfl ?_
  refine dk_callVi C [] (cc_X7_heroSpot C.D hp0 h) yy_X7_heroSpot dk_wm_X7_93 dk_sh0 (hp0 0 (by decide)) dX7_isSeenByHero_1 (fun r2 s1 h => ?_) rfl rfl ⟨Nat.le_of_ble_eq_true rfl, Nat.le_of_ble_eq_true rfl⟩ rfl (Nat.le_of_ble_eq_true rfl) rfl (n := 4) rfl
  refine dk_istore_n (i := 2) (L' := [some (dk_r G p0 0), some (.int a1), some (.int r2)]) C dX7_isSeenByHero_4 (n := 5) rfl rfl (dk_nc_of rfl) (Nat.le_of_ble_eq_true rfl) rfl ?_
  refine dk_aload_n (i := 0) C dX7_isSeenByHero_5 (n := 6) rfl rfl rfl ?_
  refine gf_X7_56 C (hp0 0 (by decide)) dX7_isSeenByHero_6 (n := 9) rfl ?_
  refine dk_if_le (t := 23) C dX7_isSeenByHero_9 (n := 12) rfl (by decide) (fun c13 => ?_) (fun c13 => ?_)
  · have h := h.1 c13
    refine dk_aload_n (i := 0) C dX7_isSeenByHero_23 (n := 24) rfl rfl rfl ?_
    refine gf_X7_12 C (hp0 0 (by decide)) dX7_isSeenByHero_24 (n := 27) rfl ?_
    refine dk_iload_n (i := 2) C dX7_isSeenByHero_27 (n := 28) rfl rfl rfl ?_
    refine dk_iload_n (i := 1) C dX7_isSeenByHero_28 (n := 29) rfl rfl rfl ?_
    refine dk_callVi C [] (cc_X1_seeEachOther C.D hp0 h) yy_X1_seeEachOther dk_wm_X7_97 dk_sh1 (hp0 1 (by decide)) dX7_isSeenByHero_29 (fun r4 s3 h => ?_) rfl rfl ⟨Nat.le_of_ble_eq_true rfl, Nat.le_of_ble_eq_true rfl⟩ rfl (Nat.le_of_ble_eq_true rfl) rfl (n := 32) rfl
    refine dk_if_eq (t := 63) C dX7_isSeenByHero_32 (n := 35) rfl (by decide) (fun c11 => ?_) (fun c11 => ?_)
    · have h := h.1 c11
      refine dk_iconst (v := 0) C dX7_isSeenByHero_63 (n := 64) rfl (by decide) ?_
      exact dk_iret C hr hlk dk_nz0 dX7_isSeenByHero_64 ⟨_, rfl, h⟩
    · have h := h.2 c11
      refine dk_iload_n (i := 2) C dX7_isSeenByHero_35 (n := 36) rfl rfl rfl ?_
      refine dk_iload_n (i := 1) C dX7_isSeenByHero_36 (n := 37) rfl rfl rfl ?_
      refine dk_callNi C [] (cc_X8_gap C.D  h) yy_X8_gap dk_wm_X7_101 dX7_isSeenByHero_37 (fun r6 s5 h => ?_) rfl ⟨Nat.le_of_ble_eq_true rfl, Nat.le_of_ble_eq_true rfl⟩ rfl (Nat.le_of_ble_eq_true rfl) rfl (n := 40) rfl
      refine dk_iconst (v := 1) C dX7_isSeenByHero_40 (n := 41) rfl (by decide) ?_
      refine dk_icmp_le (t := 59) C dX7_isSeenByHero_41 (n := 44) rfl (by decide) (fun c10 => ?_) (fun c10 => ?_)
      · have h := h.1 c10
        refine dk_iconst (v := 1) C dX7_isSeenByHero_59 (n := 60) rfl (by decide) ?_
        refine dk_goto (t := 64) C dX7_isSeenByHero_60 (by decide) ?_
        exact dk_iret C hr hlk dk_nz1 dX7_isSeenByHero_64 ⟨_, rfl, h⟩
      · have h := h.2 c10
        refine dk_aload_n (i := 0) C dX7_isSeenByHero_44 (n := 45) rfl rfl rfl ?_
        refine gf_X7_42 C (hp0 0 (by decide)) dX7_isSeenByHero_45 (n := 48) rfl ?_
        refine dk_iload_n (i := 1) C dX7_isSeenByHero_48 (n := 49) rfl rfl rfl ?_
        refine dk_aload_n (i := 0) C dX7_isSeenByHero_49 (n := 50) rfl rfl rfl ?_
        refine gf_X7_12 C (hp0 0 (by decide)) dX7_isSeenByHero_50 (n := 53) rfl ?_
        refine dk_callVi C [] (cc_X4_light C.D hp0 hp0 h) yy_X4_light dk_wm_X7_105 dk_sh26 (hp0 26 (by decide)) dX7_isSeenByHero_53 (fun r8 s7 h => ?_) rfl rfl ⟨Nat.le_of_ble_eq_true rfl, Nat.le_of_ble_eq_true rfl⟩ rfl (Nat.le_of_ble_eq_true rfl) rfl (n := 56) rfl
        refine dk_if_eq (t := 63) C dX7_isSeenByHero_56 (n := 59) rfl (by decide) (fun c9 => ?_) (fun c9 => ?_)
        · have h := h.1 c9
          refine dk_iconst (v := 0) C dX7_isSeenByHero_63 (n := 64) rfl (by decide) ?_
          exact dk_iret C hr hlk dk_nz0 dX7_isSeenByHero_64 ⟨_, rfl, h⟩
        · have h := h.2 c9
          refine dk_iconst (v := 1) C dX7_isSeenByHero_59 (n := 60) rfl (by decide) ?_
          refine dk_goto (t := 64) C dX7_isSeenByHero_60 (by decide) ?_
          exact dk_iret C hr hlk dk_nz1 dX7_isSeenByHero_64 ⟨_, rfl, h⟩
  · have h := h.2 c13
    refine dk_iload_n (i := 1) C dX7_isSeenByHero_12 (n := 13) rfl rfl rfl ?_
    refine dk_iload_n (i := 2) C dX7_isSeenByHero_13 (n := 14) rfl rfl rfl ?_
    refine dk_icmp_ne (t := 21) C dX7_isSeenByHero_14 (n := 17) rfl (by decide) (fun c12 => ?_) (fun c12 => ?_)
    · have h := h.1 c12
      refine dk_iconst (v := 0) C dX7_isSeenByHero_21 (n := 22) rfl (by decide) ?_
      exact dk_iret C hr hlk dk_nz0 dX7_isSeenByHero_22 ⟨_, rfl, h⟩
    · have h := h.2 c12
      refine dk_iconst (v := 1) C dX7_isSeenByHero_17 (n := 18) rfl (by decide) ?_
      refine dk_goto (t := 22) C dX7_isSeenByHero_18 (by decide) ?_
      exact dk_iret C hr hlk dk_nz1 dX7_isSeenByHero_22 ⟨_, rfl, h⟩
/-! X8_isPotion -/
set_option maxRecDepth 20000 in
set_option maxHeartbeats 4000000 in
theorem cc_X8_isPotion {G : dk_G} {l : Launch} {a0 : Int32} (hD : dk_D G)  {s : dk_S} {K : Int32 → dk_S → Prop} (h : wf_X8_isPotion a0 s K) : dk_M G l 1 yX8_isPotion cX8_isPotion 1 (some .boolean) [.int a0] s (dk_ki K) := by
  refine dk_of hD (by decide) [some (.int a0)] (fun q hq => hq) rfl (Nat.le_of_ble_eq_true rfl) (fun P e S0 m args bel meth c C hr hlk => ?_)
  unfold wf_X8_isPotion at h
  refine dk_iload_n (i := 0) C dX8_isPotion_0 (n := 1) rfl rfl rfl ?_
  refine dk_iconst (v := 3) C dX8_isPotion_1 (n := 2) rfl (by decide) ?_
  refine dk_icmp_lt (t := 14) C dX8_isPotion_2 (n := 5) rfl (by decide) (fun c2 => ?_) (fun c2 => ?_)
  · have h := h.1 c2
    refine dk_iconst (v := 0) C dX8_isPotion_14 (n := 15) rfl (by decide) ?_
    exact dk_iret C hr hlk dk_nz0 dX8_isPotion_15 ⟨_, rfl, h⟩
  · have h := h.2 c2
    refine dk_iload_n (i := 0) C dX8_isPotion_5 (n := 6) rfl rfl rfl ?_
    refine dk_iconst (v := 5) C dX8_isPotion_6 (n := 7) rfl (by decide) ?_
    refine dk_icmp_gt (t := 14) C dX8_isPotion_7 (n := 10) rfl (by decide) (fun c1 => ?_) (fun c1 => ?_)
    · have h := h.1 c1
      refine dk_iconst (v := 0) C dX8_isPotion_14 (n := 15) rfl (by decide) ?_
      exact dk_iret C hr hlk dk_nz0 dX8_isPotion_15 ⟨_, rfl, h⟩
    · have h := h.2 c1
      refine dk_iconst (v := 1) C dX8_isPotion_10 (n := 11) rfl (by decide) ?_
      refine dk_goto (t := 15) C dX8_isPotion_11 (by decide) ?_
      exact dk_iret C hr hlk dk_nz1 dX8_isPotion_15 ⟨_, rfl, h⟩
/-! X7_nameOfKind -/
set_option maxRecDepth 20000 in
set_option maxHeartbeats 4000000 in
theorem ww_X7_nameOfKind_23 {G : dk_G} {P : Program} {l : Launch} {e : Env} {S0 : State} {m : MethodId} {args : Array Value} {bel : List Frame} {meth : Method} {c : Code} {p0 : Nat} (C : dk_C G P (dk_rm 2) S0 m args c 0 0 cX7_nameOfKind 3 RX7) (hr : meth.sig.returnType = (some .int)) (hlk : meth.locks = false) (hp0 : dk_WI G p0) {K : Int32 → dk_S → Prop}  : ∀ (x1 : Int32) (y0 : Int32) (s : dk_S), wf_X7_nameOfKind_23 p0 K x1 y0 s → dk_W G P l e (dk_rm 2) S0 m args bel meth c 0 0 (MQ bel (dk_Qc G (dk_ki K)) args S0 0 0 (dk_A G)) 23 [some (dk_r G p0 0), some (.int x1), none] [.int y0] s := by
  intro x1 y0 s h
  unfold wf_X7_nameOfKind_23 at h
  refine dk_istore_n (i := 2) (L' := [some (dk_r G p0 0), some (.int x1), some (.int y0)]) C dX7_nameOfKind_23 (n := 24) rfl rfl (dk_nc_of rfl) (Nat.le_of_ble_eq_true rfl) rfl ?_
  refine dk_iload_n (i := 2) C dX7_nameOfKind_24 (n := 25) rfl rfl rfl ?_
  refine dk_if_eq (t := 50) C dX7_nameOfKind_25 (n := 28) rfl (by decide) (fun c7 => ?_) (fun c7 => ?_)
  · have h := h.1 c7
    refine dk_iload_n (i := 1) C dX7_nameOfKind_50 (n := 51) rfl rfl rfl ?_
    exact dk_iret C hr hlk rfl dX7_nameOfKind_51 ⟨_, rfl, h⟩
  · have h := h.2 c7
    refine dk_bipush (v := 100) C dX7_nameOfKind_28 (n := 30) rfl (by decide) ?_
    refine dk_lkGet C dk_wf_X7_112 dX7_nameOfKind_30 (n := 33) rfl ?_
    refine dk_iconst (v := 3) C dX7_nameOfKind_33 (n := 34) rfl (by decide) ?_
    refine dk_aload_n (i := 0) C dX7_nameOfKind_34 (n := 35) rfl rfl rfl ?_
    refine gf_X7_50 C (hp0 0 (by decide)) dX7_nameOfKind_35 (n := 38) rfl ?_
    refine dk_imul C dX7_nameOfKind_38 (n := 39) rfl ?_
    refine dk_iload_n (i := 1) C dX7_nameOfKind_39 (n := 40) rfl rfl rfl ?_
    refine dk_iadd C dX7_nameOfKind_40 (n := 41) rfl ?_
    refine dk_iconst (v := 3) C dX7_nameOfKind_41 (n := 42) rfl (by decide) ?_
    refine dk_isub C dX7_nameOfKind_42 (n := 43) rfl ?_
    refine dk_callNi C [.int 100] (cc_X8_at_L C.D h) yy_X8_at dk_wm_X7_82 dX7_nameOfKind_43 (fun r5 s6 h => ?_) rfl ⟨Nat.le_of_ble_eq_true rfl, Nat.le_of_ble_eq_true rfl⟩ rfl (Nat.le_of_ble_eq_true rfl) rfl (n := 46) rfl
    refine dk_iadd C dX7_nameOfKind_46 (n := 47) rfl ?_
    refine dk_goto (t := 51) C dX7_nameOfKind_47 (by decide) ?_
    exact dk_iret C hr hlk rfl dX7_nameOfKind_51 ⟨_, rfl, h⟩
set_option maxRecDepth 20000 in
set_option maxHeartbeats 4000000 in
theorem cc_X7_nameOfKind {G : dk_G} {l : Launch} {p0 : Nat} {a1 : Int32} (hD : dk_D G) (hp0 : dk_WI G p0) {s : dk_S} {K : Int32 → dk_S → Prop} (h : wf_X7_nameOfKind p0 a1 s K) : dk_M G l 2 yX7_nameOfKind cX7_nameOfKind 3 (some .int) [dk_r G p0 0, .int a1] s (dk_ki K) := by
  refine dk_of hD (by decide) [some (dk_r G p0 0), some (.int a1), none] (fun q hq => hq) rfl (Nat.le_of_ble_eq_true rfl) (fun P e S0 m args bel meth c C hr hlk => ?_)
  unfold wf_X7_nameOfKind at h
  refine dk_iload_n (i := 1) C dX7_nameOfKind_0 (n := 1) rfl rfl rfl ?_
  refine dk_callNi C [] (cc_X8_isPotion C.D  h) yy_X8_isPotion dk_wm_X7_109 dX7_nameOfKind_1 (fun r2 s1 h => ?_) rfl ⟨Nat.le_of_ble_eq_true rfl, Nat.le_of_ble_eq_true rfl⟩ rfl (Nat.le_of_ble_eq_true rfl) rfl (n := 4) rfl
  refine dk_if_eq (t := 22) C dX7_nameOfKind_4 (n := 7) rfl (by decide) (fun c4 => ?_) (fun c4 => ?_)
  · have h := h.1 c4
    refine dk_iconst (v := 0) C dX7_nameOfKind_22 (n := 23) rfl (by decide) ?_
    refine dk_sub (L0 := [some (dk_r G p0 0), some (.int a1), none]) ⟨rfl, ⟨rfl, trivial⟩⟩ ?_
    exact ww_X7_nameOfKind_23 C hr hlk hp0  a1 0 s1 h
  · have h := h.2 c4
    refine dk_aload_n (i := 0) C dX7_nameOfKind_7 (n := 8) rfl rfl rfl ?_
    refine gf_X7_59 C (hp0 0 (by decide)) dX7_nameOfKind_8 (n := 11) rfl ?_
    refine dk_iload_n (i := 1) C dX7_nameOfKind_11 (n := 12) rfl rfl rfl ?_
    refine dk_ishr C dX7_nameOfKind_12 (n := 13) rfl ?_
    refine dk_iconst (v := 1) C dX7_nameOfKind_13 (n := 14) rfl (by decide) ?_
    refine dk_iand C dX7_nameOfKind_14 (n := 15) rfl ?_
    refine dk_if_ne (t := 22) C dX7_nameOfKind_15 (n := 18) rfl (by decide) (fun c3 => ?_) (fun c3 => ?_)
    · have h := h.1 c3
      refine dk_iconst (v := 0) C dX7_nameOfKind_22 (n := 23) rfl (by decide) ?_
      refine dk_sub (L0 := [some (dk_r G p0 0), some (.int a1), none]) ⟨rfl, ⟨rfl, trivial⟩⟩ ?_
      exact ww_X7_nameOfKind_23 C hr hlk hp0  a1 0 s1 h
    · have h := h.2 c3
      refine dk_iconst (v := 1) C dX7_nameOfKind_18 (n := 19) rfl (by decide) ?_
      refine dk_goto (t := 23) C dX7_nameOfKind_19 (by decide) ?_
      refine dk_sub (L0 := [some (dk_r G p0 0), some (.int a1), none]) ⟨rfl, ⟨rfl, trivial⟩⟩ ?_
      exact ww_X7_nameOfKind_23 C hr hlk hp0  a1 1 s1 h
/-! X7_heroCouldReach -/
set_option maxRecDepth 20000 in
set_option maxHeartbeats 4000000 in
theorem ww_X7_heroCouldReach_65 {G : dk_G} {P : Program} {l : Launch} {e : Env} {S0 : State} {m : MethodId} {args : Array Value} {bel : List Frame} {meth : Method} {c : Code} {p0 : Nat} (C : dk_C G P (dk_rm 5) S0 m args c 0 0 cX7_heroCouldReach 5 RX7) (hr : meth.sig.returnType = (some .boolean)) (hlk : meth.locks = false) (hp0 : dk_WI G p0) {K : Int32 → dk_S → Prop}  : ∀ (x1 : Int32) (s : dk_S), wf_X7_heroCouldReach_65 p0 K x1 s → dk_W G P l e (dk_rm 5) S0 m args bel meth c 0 0 (MQ bel (dk_Qc G (dk_ki K)) args S0 0 0 (dk_A G)) 65 [some (dk_r G p0 0), some (.int x1), none, none, none] [] s := by
  intro x1 s h
  unfold wf_X7_heroCouldReach_65 at h
  refine dk_aload_n (i := 0) C dX7_heroCouldReach_65 (n := 66) rfl rfl rfl ?_
  refine gf_X7_12 C (hp0 0 (by decide)) dX7_heroCouldReach_66 (n := 69) rfl ?_
  refine gf_X7_115 C (hp0 1 (by decide)) dX7_heroCouldReach_69 (n := 72) rfl ?_
  refine dk_iload_n (i := 1) C dX7_heroCouldReach_72 (n := 73) rfl rfl rfl ?_
  refine dk_callNi C [] (cc_X8_at C.D dk_sh5 (hp0 5 (by decide)) h) yy_X8_at dk_wm_X7_82 dX7_heroCouldReach_73 (fun r7 s6 h => ?_) rfl ⟨Nat.le_of_ble_eq_true rfl, Nat.le_of_ble_eq_true rfl⟩ rfl (Nat.le_of_ble_eq_true rfl) rfl (n := 76) rfl
  refine dk_if_lt (t := 83) C dX7_heroCouldReach_76 (n := 79) rfl (by decide) (fun c8 => ?_) (fun c8 => ?_)
  · have h := h.1 c8
    refine dk_iconst (v := 0) C dX7_heroCouldReach_83 (n := 84) rfl (by decide) ?_
    exact dk_iret C hr hlk dk_nz0 dX7_heroCouldReach_84 ⟨_, rfl, h⟩
  · have h := h.2 c8
    refine dk_iconst (v := 1) C dX7_heroCouldReach_79 (n := 80) rfl (by decide) ?_
    refine dk_goto (t := 84) C dX7_heroCouldReach_80 (by decide) ?_
    exact dk_iret C hr hlk dk_nz1 dX7_heroCouldReach_84 ⟨_, rfl, h⟩
set_option maxRecDepth 20000 in
set_option maxHeartbeats 4000000 in
theorem ww_X7_heroCouldReach_4 {G : dk_G} {P : Program} {l : Launch} {e : Env} {S0 : State} {m : MethodId} {args : Array Value} {bel : List Frame} {meth : Method} {c : Code} {p0 : Nat} (C : dk_C G P (dk_rm 5) S0 m args c 0 0 cX7_heroCouldReach 5 RX7) (hr : meth.sig.returnType = (some .boolean)) (hlk : meth.locks = false) (hp0 : dk_WI G p0) {K : Int32 → dk_S → Prop} {E53 : Int32 → dk_S → Prop} {E65 : Int32 → dk_S → Prop} (hE53 : ∀ (x1 : Int32) (s : dk_S), E53 x1 s → dk_W G P l e (dk_rm 5) S0 m args bel meth c 0 0 (MQ bel (dk_Qc G (dk_ki K)) args S0 0 0 (dk_A G)) 53 [some (dk_r G p0 0), some (.int x1), none, none, none] [] s) (hE65 : ∀ (x1 : Int32) (s : dk_S), E65 x1 s → dk_W G P l e (dk_rm 5) S0 m args bel meth c 0 0 (MQ bel (dk_Qc G (dk_ki K)) args S0 0 0 (dk_A G)) 65 [some (dk_r G p0 0), some (.int x1), none, none, none] [] s) : ∀ (n : Nat) (x1 : Int32) (x2 : Int32) (x3 : Int32) (s : dk_S), wf_X7_heroCouldReach_4 p0 K E53 E65 n x1 x2 x3 s → dk_W G P l e (dk_rm 5) S0 m args bel meth c 0 0 (MQ bel (dk_Qc G (dk_ki K)) args S0 0 0 (dk_A G)) 4 [some (dk_r G p0 0), some (.int x1), some (.int x2), some (.int x3), none] [] s := by
  intro n
  induction n with
  | zero => intro x1 x2 x3 s h; exact False.elim h
  | succ n hB =>
    intro x1 x2 x3 s h
    unfold wf_X7_heroCouldReach_4 at h
    refine dk_iload_n (i := 3) C dX7_heroCouldReach_4 (n := 5) rfl rfl rfl ?_
    refine dk_iconst (v := 3) C dX7_heroCouldReach_5 (n := 6) rfl (by decide) ?_
    refine dk_icmp_gt (t := 65) C dX7_heroCouldReach_6 (n := 9) rfl (by decide) (fun c16 => ?_) (fun c16 => ?_)
    · have h := h.1 c16
      refine dk_sub (L0 := [some (dk_r G p0 0), some (.int x1), none, none, none]) ⟨rfl, ⟨rfl, trivial⟩⟩ ?_
      exact hE65 x1 s h
    · have h := h.2 c16
      refine dk_aload_n (i := 0) C dX7_heroCouldReach_9 (n := 10) rfl rfl rfl ?_
      refine gf_X7_12 C (hp0 0 (by decide)) dX7_heroCouldReach_10 (n := 13) rfl ?_
      refine dk_aload_n (i := 0) C dX7_heroCouldReach_13 (n := 14) rfl rfl rfl ?_
      refine gf_X7_12 C (hp0 0 (by decide)) dX7_heroCouldReach_14 (n := 17) rfl ?_
      refine gf_X7_115 C (hp0 1 (by decide)) dX7_heroCouldReach_17 (n := 20) rfl ?_
      refine dk_aload_n (i := 0) C dX7_heroCouldReach_20 (n := 21) rfl rfl rfl ?_
      refine dk_callVi C [dk_r G p0 5, dk_r G p0 1] (cc_X7_heroSpot C.D hp0 h) yy_X7_heroSpot dk_wm_X7_93 dk_sh0 (hp0 0 (by decide)) dX7_heroCouldReach_21 (fun r10 s9 h => ?_) rfl rfl ⟨Nat.le_of_ble_eq_true rfl, Nat.le_of_ble_eq_true rfl⟩ rfl (Nat.le_of_ble_eq_true rfl) rfl (n := 24) rfl
      refine dk_iconst (v := 1) C dX7_heroCouldReach_24 (n := 25) rfl (by decide) ?_
      refine dk_iload_n (i := 2) C dX7_heroCouldReach_25 (n := 26) rfl rfl rfl ?_
      refine dk_ldc (v := 1000000) C dX7_heroCouldReach_26 (n := 28) rfl dk_wk_X7_118 ?_
      refine dk_callVv C [] (cc_X1_flood C.D hp0 dk_sh5 (hp0 5 (by decide)) h) yy_X1_flood dk_wm_X7_119 dk_sh1 (hp0 1 (by decide)) dX7_heroCouldReach_28 (fun s11 h => ?_) rfl rfl ⟨Nat.le_of_ble_eq_true rfl, Nat.le_of_ble_eq_true rfl⟩ rfl (Nat.le_of_ble_eq_true rfl) rfl (n := 31) rfl
      refine dk_aload_n (i := 0) C dX7_heroCouldReach_31 (n := 32) rfl rfl rfl ?_
      refine gf_X7_35 C (hp0 0 (by decide)) dX7_heroCouldReach_32 (n := 35) rfl ?_
      refine dk_aload_n (i := 0) C dX7_heroCouldReach_35 (n := 36) rfl rfl rfl ?_
      refine gf_X7_12 C (hp0 0 (by decide)) dX7_heroCouldReach_36 (n := 39) rfl ?_
      refine gf_X7_115 C (hp0 1 (by decide)) dX7_heroCouldReach_39 (n := 42) rfl ?_
      refine dk_callVi C [] (cc_X6_keysAtHand C.D hp0 dk_sh5 (hp0 5 (by decide)) h) yy_X6_keysAtHand dk_wm_X7_123 dk_sh23 (hp0 23 (by decide)) dX7_heroCouldReach_42 (fun r13 s12 h => ?_) rfl rfl ⟨Nat.le_of_ble_eq_true rfl, Nat.le_of_ble_eq_true rfl⟩ rfl (Nat.le_of_ble_eq_true rfl) rfl (n := 45) rfl
      refine dk_istore (i := 4) (L' := [some (dk_r G p0 0), some (.int x1), some (.int x2), some (.int x3), some (.int r13)]) C dX7_heroCouldReach_45 (n := 47) rfl (dk_nc_of rfl) (Nat.le_of_ble_eq_true rfl) rfl ?_
      refine dk_iload C dX7_heroCouldReach_47 (n := 49) rfl (i := 4) rfl ?_
      refine dk_iload_n (i := 2) C dX7_heroCouldReach_49 (n := 50) rfl rfl rfl ?_
      refine dk_icmp_ne (t := 56) C dX7_heroCouldReach_50 (n := 53) rfl (by decide) (fun c15 => ?_) (fun c15 => ?_)
      · have h := h.1 c15
        refine dk_iload C dX7_heroCouldReach_56 (n := 58) rfl (i := 4) rfl ?_
        refine dk_istore_n (i := 2) (L' := [some (dk_r G p0 0), some (.int x1), some (.int r13), some (.int x3), some (.int r13)]) C dX7_heroCouldReach_58 (n := 59) rfl rfl (dk_nc_of rfl) (Nat.le_of_ble_eq_true rfl) rfl ?_
        obtain ⟨v14, ev14⟩ : ∃ y : Int32, y = x3 + 1 := ⟨_, rfl⟩
        have h := h v14 ev14
        refine dk_iinc (i := 3) (v := v14) (L' := [some (dk_r G p0 0), some (.int x1), some (.int r13), some (.int v14), some (.int r13)]) C dX7_heroCouldReach_59 (n := 62) rfl rfl (by rw [ev14]; rfl) (dk_nc_of rfl) (Nat.le_of_ble_eq_true rfl) rfl ?_
        refine dk_goto (t := 4) C dX7_heroCouldReach_62 (by decide) ?_
        refine dk_sub (L0 := [some (dk_r G p0 0), some (.int x1), some (.int r13), some (.int v14), none]) ⟨rfl, ⟨rfl, ⟨rfl, ⟨rfl, trivial⟩⟩⟩⟩ ?_
        exact hB x1 r13 v14 s12 h
      · have h := h.2 c15
        refine dk_sub (L0 := [some (dk_r G p0 0), some (.int x1), none, none, none]) ⟨rfl, ⟨rfl, trivial⟩⟩ ?_
        exact hE53 x1 s12 h
set_option maxRecDepth 20000 in
set_option maxHeartbeats 4000000 in
theorem cc_X7_heroCouldReach {G : dk_G} {l : Launch} {p0 : Nat} {a1 : Int32} (hD : dk_D G) (hp0 : dk_WI G p0) {s : dk_S} {K : Int32 → dk_S → Prop} (h : wf_X7_heroCouldReach p0 a1 s K) : dk_M G l 5 yX7_heroCouldReach cX7_heroCouldReach 5 (some .boolean) [dk_r G p0 0, .int a1] s (dk_ki K) := by
  refine dk_of hD (by decide) [some (dk_r G p0 0), some (.int a1), none, none, none] (fun q hq => hq) rfl (Nat.le_of_ble_eq_true rfl) (fun P e S0 m args bel meth c C hr hlk => ?_)
  unfold wf_X7_heroCouldReach at h
  refine dk_iconst (v := 0) C dX7_heroCouldReach_0 (n := 1) rfl (by decide) ?_
  refine dk_istore_n (i := 2) (L' := [some (dk_r G p0 0), some (.int a1), some (.int 0), none, none]) C dX7_heroCouldReach_1 (n := 2) rfl rfl (dk_nc_of rfl) (Nat.le_of_ble_eq_true rfl) rfl ?_
  refine dk_iconst (v := 0) C dX7_heroCouldReach_2 (n := 3) rfl (by decide) ?_
  refine dk_istore_n (i := 3) (L' := [some (dk_r G p0 0), some (.int a1), some (.int 0), some (.int 0), none]) C dX7_heroCouldReach_3 (n := 4) rfl rfl (dk_nc_of rfl) (Nat.le_of_ble_eq_true rfl) rfl ?_
  obtain ⟨nn5, h⟩ := h
  refine dk_sub (L0 := [some (dk_r G p0 0), some (.int a1), some (.int 0), some (.int 0), none]) ⟨rfl, ⟨rfl, ⟨rfl, ⟨rfl, trivial⟩⟩⟩⟩ ?_
  refine ww_X7_heroCouldReach_4 C hr hlk hp0 (fun w1 s2 h => ?_) (fun w3 s4 h => ?_) nn5 a1 0 0 s h
  · refine dk_goto (t := 65) C dX7_heroCouldReach_53 (by decide) ?_
    refine dk_sub (L0 := [some (dk_r G p0 0), some (.int w1), none, none, none]) ⟨rfl, ⟨rfl, trivial⟩⟩ ?_
    exact ww_X7_heroCouldReach_65 C hr hlk hp0  w1 s2 h
  · refine dk_sub (L0 := [some (dk_r G p0 0), some (.int w3), none, none, none]) ⟨rfl, ⟨rfl, trivial⟩⟩ ?_
    exact ww_X7_heroCouldReach_65 C hr hlk hp0  w3 s4 h
/-! X7_isLike -/
set_option maxRecDepth 20000 in
set_option maxHeartbeats 4000000 in
theorem cc_X7_isLike {G : dk_G} {l : Launch} {p0 : Nat} {p1 : Nat} (hD : dk_D G) (hp0 : dk_WI G p0) (hp1 : dk_WI G p1) {s : dk_S} {K : Int32 → dk_S → Prop} (h : wf_X7_isLike p0 p1 s K) : dk_M G l 3 yX7_isLike cX7_isLike 2 (some .boolean) [dk_r G p0 0, dk_r G p1 0] s (dk_ki K) := by
  refine dk_of hD (by decide) [some (dk_r G p0 0), some (dk_r G p1 0)] (fun q hq => hq) rfl (Nat.le_of_ble_eq_true rfl) (fun P e S0 m args bel meth c C hr hlk => ?_)
  unfold wf_X7_isLike at h
  refine dk_aload_n (i := 0) C dX7_isLike_0 (n := 1) rfl rfl rfl ?_
  refine gf_X7_46 C (hp0 0 (by decide)) dX7_isLike_1 (n := 4) rfl ?_
  refine dk_aload_n (i := 1) C dX7_isLike_4 (n := 5) rfl rfl rfl ?_
  refine gf_X7_46 C (hp1 0 (by decide)) dX7_isLike_5 (n := 8) rfl ?_
  refine dk_icmp_ne (t := 57) C dX7_isLike_8 (n := 11) rfl (by decide) (fun c10 => ?_) (fun c10 => ?_)
  · have h := h.1 c10
    refine dk_iconst (v := 0) C dX7_isLike_57 (n := 58) rfl (by decide) ?_
    exact dk_iret C hr hlk dk_nz0 dX7_isLike_58 ⟨_, rfl, h⟩
  · have h := h.2 c10
    refine dk_aload_n (i := 0) C dX7_isLike_11 (n := 12) rfl rfl rfl ?_
    refine gf_X7_12 C (hp0 0 (by decide)) dX7_isLike_12 (n := 15) rfl ?_
    refine dk_aload_n (i := 1) C dX7_isLike_15 (n := 16) rfl rfl rfl ?_
    refine gf_X7_12 C (hp1 0 (by decide)) dX7_isLike_16 (n := 19) rfl ?_
    refine dk_callVi C [] (cc_X1_isLike C.D hp0 hp1 h) yy_X1_isLike dk_wm_X7_127 dk_sh1 (hp0 1 (by decide)) dX7_isLike_19 (fun r2 s1 h => ?_) rfl rfl ⟨Nat.le_of_ble_eq_true rfl, Nat.le_of_ble_eq_true rfl⟩ rfl (Nat.le_of_ble_eq_true rfl) rfl (n := 22) rfl
    refine dk_if_eq (t := 57) C dX7_isLike_22 (n := 25) rfl (by decide) (fun c9 => ?_) (fun c9 => ?_)
    · have h := h.1 c9
      refine dk_iconst (v := 0) C dX7_isLike_57 (n := 58) rfl (by decide) ?_
      exact dk_iret C hr hlk dk_nz0 dX7_isLike_58 ⟨_, rfl, h⟩
    · have h := h.2 c9
      refine dk_aload_n (i := 0) C dX7_isLike_25 (n := 26) rfl rfl rfl ?_
      refine gf_X7_28 C (hp0 0 (by decide)) dX7_isLike_26 (n := 29) rfl ?_
      refine dk_aload_n (i := 1) C dX7_isLike_29 (n := 30) rfl rfl rfl ?_
      refine gf_X7_28 C (hp1 0 (by decide)) dX7_isLike_30 (n := 33) rfl ?_
      refine dk_callVi C [] (cc_X2_isLike C.D hp0 hp1 h) yy_X2_isLike dk_wm_X7_131 dk_sh13 (hp0 13 (by decide)) dX7_isLike_33 (fun r4 s3 h => ?_) rfl rfl ⟨Nat.le_of_ble_eq_true rfl, Nat.le_of_ble_eq_true rfl⟩ rfl (Nat.le_of_ble_eq_true rfl) rfl (n := 36) rfl
      refine dk_if_eq (t := 57) C dX7_isLike_36 (n := 39) rfl (by decide) (fun c8 => ?_) (fun c8 => ?_)
      · have h := h.1 c8
        refine dk_iconst (v := 0) C dX7_isLike_57 (n := 58) rfl (by decide) ?_
        exact dk_iret C hr hlk dk_nz0 dX7_isLike_58 ⟨_, rfl, h⟩
      · have h := h.2 c8
        refine dk_aload_n (i := 0) C dX7_isLike_39 (n := 40) rfl rfl rfl ?_
        refine gf_X7_35 C (hp0 0 (by decide)) dX7_isLike_40 (n := 43) rfl ?_
        refine dk_aload_n (i := 1) C dX7_isLike_43 (n := 44) rfl rfl rfl ?_
        refine gf_X7_35 C (hp1 0 (by decide)) dX7_isLike_44 (n := 47) rfl ?_
        refine dk_callVi C [] (cc_X6_isLike C.D hp0 hp1 h) yy_X6_isLike dk_wm_X7_134 dk_sh23 (hp0 23 (by decide)) dX7_isLike_47 (fun r6 s5 h => ?_) rfl rfl ⟨Nat.le_of_ble_eq_true rfl, Nat.le_of_ble_eq_true rfl⟩ rfl (Nat.le_of_ble_eq_true rfl) rfl (n := 50) rfl
        refine dk_if_eq (t := 57) C dX7_isLike_50 (n := 53) rfl (by decide) (fun c7 => ?_) (fun c7 => ?_)
        · have h := h.1 c7
          refine dk_iconst (v := 0) C dX7_isLike_57 (n := 58) rfl (by decide) ?_
          exact dk_iret C hr hlk dk_nz0 dX7_isLike_58 ⟨_, rfl, h⟩
        · have h := h.2 c7
          refine dk_iconst (v := 1) C dX7_isLike_53 (n := 54) rfl (by decide) ?_
          refine dk_goto (t := 58) C dX7_isLike_54 (by decide) ?_
          exact dk_iret C hr hlk dk_nz1 dX7_isLike_58 ⟨_, rfl, h⟩
/-! X7_strike -/
set_option maxRecDepth 20000 in
set_option maxHeartbeats 4000000 in
theorem cc_X7_strike {G : dk_G} {l : Launch} {p0 : Nat} {a1 : Int32} {a2 : Int32} (hD : dk_D G) (hp0 : dk_WI G p0) {s : dk_S} {K : dk_S → Prop} (h : wf_X7_strike p0 a1 a2 s K) : dk_M G l 3 yX7_strike cX7_strike 4 none [dk_r G p0 0, .int a1, .int a2] s (dk_kv K) := by
  refine dk_of hD (by decide) [some (dk_r G p0 0), some (.int a1), some (.int a2), none] (fun q hq => hq) rfl (Nat.le_of_ble_eq_true rfl) (fun P e S0 m args bel meth c C hr hlk => ?_)
  unfold wf_X7_strike at h
  refine dk_aload_n (i := 0) C dX7_strike_0 (n := 1) rfl rfl rfl ?_
  refine gf_X7_28 C (hp0 0 (by decide)) dX7_strike_1 (n := 4) rfl ?_
  refine dk_iload_n (i := 1) C dX7_strike_4 (n := 5) rfl rfl rfl ?_
  refine dk_callVi C [] (cc_X2_isWeak C.D hp0 h) yy_X2_isWeak dk_wm_X7_198 dk_sh13 (hp0 13 (by decide)) dX7_strike_5 (fun r2 s1 h => ?_) rfl rfl ⟨Nat.le_of_ble_eq_true rfl, Nat.le_of_ble_eq_true rfl⟩ rfl (Nat.le_of_ble_eq_true rfl) rfl (n := 8) rfl
  refine dk_istore_n (i := 3) (L' := [some (dk_r G p0 0), some (.int a1), some (.int a2), some (.int r2)]) C dX7_strike_8 (n := 9) rfl rfl (dk_nc_of rfl) (Nat.le_of_ble_eq_true rfl) rfl ?_
  refine dk_aload_n (i := 0) C dX7_strike_9 (n := 10) rfl rfl rfl ?_
  refine gf_X7_28 C (hp0 0 (by decide)) dX7_strike_10 (n := 13) rfl ?_
  refine dk_iload_n (i := 1) C dX7_strike_13 (n := 14) rfl rfl rfl ?_
  refine dk_iload_n (i := 2) C dX7_strike_14 (n := 15) rfl rfl rfl ?_
  refine dk_callVv C [] (cc_X2_harm C.D hp0 h) yy_X2_harm dk_wm_X7_201 dk_sh13 (hp0 13 (by decide)) dX7_strike_15 (fun s3 h => ?_) rfl rfl ⟨Nat.le_of_ble_eq_true rfl, Nat.le_of_ble_eq_true rfl⟩ rfl (Nat.le_of_ble_eq_true rfl) rfl (n := 18) rfl
  refine dk_aload_n (i := 0) C dX7_strike_18 (n := 19) rfl rfl rfl ?_
  refine gf_X7_28 C (hp0 0 (by decide)) dX7_strike_19 (n := 22) rfl ?_
  refine dk_iload_n (i := 1) C dX7_strike_22 (n := 23) rfl rfl rfl ?_
  refine dk_callVi C [] (cc_X2_lives C.D hp0 h) yy_X2_lives dk_wm_X7_204 dk_sh13 (hp0 13 (by decide)) dX7_strike_23 (fun r5 s4 h => ?_) rfl rfl ⟨Nat.le_of_ble_eq_true rfl, Nat.le_of_ble_eq_true rfl⟩ rfl (Nat.le_of_ble_eq_true rfl) rfl (n := 26) rfl
  refine dk_if_ne (t := 48) C dX7_strike_26 (n := 29) rfl (by decide) (fun c9 => ?_) (fun c9 => ?_)
  · have h := h.1 c9
    exact dk_vret C hr hlk dX7_strike_48 ⟨rfl, h⟩
  · have h := h.2 c9
    refine dk_aload_n (i := 0) C dX7_strike_29 (n := 30) rfl rfl rfl ?_
    refine dk_dup C dX7_strike_30 (n := 31) rfl rfl ?_
    refine gf_X7_53 C (hp0 0 (by decide)) dX7_strike_31 (n := 34) rfl ?_
    refine dk_iload_n (i := 3) C dX7_strike_34 (n := 35) rfl rfl rfl ?_
    refine dk_if_eq (t := 43) C dX7_strike_35 (n := 38) rfl (by decide) (fun c8 => ?_) (fun c8 => ?_)
    · have h := h.1 c8
      refine dk_iconst (v := 1) C dX7_strike_43 (n := 44) rfl (by decide) ?_
      refine dk_iadd C dX7_strike_44 (n := 45) rfl ?_
      refine pf_X7_53 C rfl rfl (hp0 0 (by decide)) dX7_strike_45 (n := 48) rfl ?_
      refine dk_nameS (fun s6 es6 => ?_)
      have h := h s6 es6
      exact dk_vret C hr hlk dX7_strike_48 ⟨rfl, h⟩
    · have h := h.2 c8
      refine dk_bipush (v := (-2)) C dX7_strike_38 (n := 40) rfl (by decide) ?_
      refine dk_goto (t := 44) C dX7_strike_40 (by decide) ?_
      refine dk_iadd C dX7_strike_44 (n := 45) rfl ?_
      refine pf_X7_53 C rfl rfl (hp0 0 (by decide)) dX7_strike_45 (n := 48) rfl ?_
      refine dk_nameS (fun s7 es7 => ?_)
      have h := h s7 es7
      exact dk_vret C hr hlk dX7_strike_48 ⟨rfl, h⟩
/-! X7_makeNoise -/
set_option maxRecDepth 20000 in
set_option maxHeartbeats 4000000 in
theorem ww_X7_makeNoise_99 {G : dk_G} {P : Program} {l : Launch} {e : Env} {S0 : State} {m : MethodId} {args : Array Value} {bel : List Frame} {meth : Method} {c : Code} {p0 : Nat} (C : dk_C G P (dk_rm 3) S0 m args c 0 0 cX7_makeNoise 6 RX7) (hr : meth.sig.returnType = (some .int)) (hlk : meth.locks = false) (hp0 : dk_WI G p0) {K : Int32 → dk_S → Prop} {B : Int32 → Int32 → Int32 → Int32 → dk_S → Prop} (hB : ∀ (x1 : Int32) (x2 : Int32) (x3 : Int32) (x4 : Int32) (s : dk_S), B x1 x2 x3 x4 s → dk_W G P l e (dk_rm 3) S0 m args bel meth c 0 0 (MQ bel (dk_Qc G (dk_ki K)) args S0 0 0 (dk_A G)) 24 [some (dk_r G p0 0), some (.int x1), some (.int x2), some (.int x3), some (.int x4), none] [] s)  : ∀ (x1 : Int32) (x2 : Int32) (x3 : Int32) (x4 : Int32) (s : dk_S), wf_X7_makeNoise_99 p0 K B x1 x2 x3 x4 s → dk_W G P l e (dk_rm 3) S0 m args bel meth c 0 0 (MQ bel (dk_Qc G (dk_ki K)) args S0 0 0 (dk_A G)) 99 [some (dk_r G p0 0), some (.int x1), some (.int x2), some (.int x3), some (.int x4), none] [] s := by
  intro x1 x2 x3 x4 s h
  unfold wf_X7_makeNoise_99 at h
  obtain ⟨v15, ev15⟩ : ∃ y : Int32, y = x4 + 1 := ⟨_, rfl⟩
  have h := h v15 ev15
  refine dk_iinc (i := 4) (v := v15) (L' := [some (dk_r G p0 0), some (.int x1), some (.int x2), some (.int x3), some (.int v15), none]) C dX7_makeNoise_99 (n := 102) rfl rfl (by rw [ev15]; rfl) (dk_nc_of rfl) (Nat.le_of_ble_eq_true rfl) rfl ?_
  refine dk_goto (t := 24) C dX7_makeNoise_102 (by decide) ?_
  refine dk_sub (L0 := [some (dk_r G p0 0), some (.int x1), some (.int x2), some (.int x3), some (.int v15), none]) ⟨rfl, ⟨rfl, ⟨rfl, ⟨rfl, ⟨rfl, trivial⟩⟩⟩⟩⟩ ?_
  exact hB x1 x2 x3 v15 s h
set_option maxRecDepth 20000 in
set_option maxHeartbeats 4000000 in
theorem ww_X7_makeNoise_24 {G : dk_G} {P : Program} {l : Launch} {e : Env} {S0 : State} {m : MethodId} {args : Array Value} {bel : List Frame} {meth : Method} {c : Code} {p0 : Nat} (C : dk_C G P (dk_rm 3) S0 m args c 0 0 cX7_makeNoise 6 RX7) (hr : meth.sig.returnType = (some .int)) (hlk : meth.locks = false) (hp0 : dk_WI G p0) {K : Int32 → dk_S → Prop}  : ∀ (n : Nat) (x1 : Int32) (x2 : Int32) (x3 : Int32) (x4 : Int32) (s : dk_S), wf_X7_makeNoise_24 p0 K n x1 x2 x3 x4 s → dk_W G P l e (dk_rm 3) S0 m args bel meth c 0 0 (MQ bel (dk_Qc G (dk_ki K)) args S0 0 0 (dk_A G)) 24 [some (dk_r G p0 0), some (.int x1), some (.int x2), some (.int x3), some (.int x4), none] [] s := by
  intro n
  induction n with
  | zero => intro x1 x2 x3 x4 s h; exact False.elim h
  | succ n hB =>
    intro x1 x2 x3 x4 s h
    unfold wf_X7_makeNoise_24 at h
    refine dk_iload C dX7_makeNoise_24 (n := 26) rfl (i := 4) rfl ?_
    refine dk_aload_n (i := 0) C dX7_makeNoise_26 (n := 27) rfl rfl rfl ?_
    refine gf_X7_28 C (hp0 0 (by decide)) dX7_makeNoise_27 (n := 30) rfl ?_
    refine gf_X7_86 C (hp0 13 (by decide)) dX7_makeNoise_30 (n := 33) rfl ?_
    refine dk_icmp_ge (t := 105) C dX7_makeNoise_33 (n := 36) rfl (by decide) (fun c14 => ?_) (fun c14 => ?_)
    · have h := h.1 c14
      refine dk_iload_n (i := 3) C dX7_makeNoise_105 (n := 106) rfl rfl rfl ?_
      exact dk_iret C hr hlk rfl dX7_makeNoise_106 ⟨_, rfl, h⟩
    · have h := h.2 c14
      refine dk_aload_n (i := 0) C dX7_makeNoise_36 (n := 37) rfl rfl rfl ?_
      refine gf_X7_12 C (hp0 0 (by decide)) dX7_makeNoise_37 (n := 40) rfl ?_
      refine gf_X7_115 C (hp0 1 (by decide)) dX7_makeNoise_40 (n := 43) rfl ?_
      refine dk_aload_n (i := 0) C dX7_makeNoise_43 (n := 44) rfl rfl rfl ?_
      refine gf_X7_28 C (hp0 0 (by decide)) dX7_makeNoise_44 (n := 47) rfl ?_
      refine gf_X7_78 C (hp0 13 (by decide)) dX7_makeNoise_47 (n := 50) rfl ?_
      refine dk_iload C dX7_makeNoise_50 (n := 52) rfl (i := 4) rfl ?_
      refine dk_callNi C [dk_r G p0 5] (cc_X8_at C.D dk_sh14 (hp0 14 (by decide)) h) yy_X8_at dk_wm_X7_82 dX7_makeNoise_52 (fun r4 s3 h => ?_) rfl ⟨Nat.le_of_ble_eq_true rfl, Nat.le_of_ble_eq_true rfl⟩ rfl (Nat.le_of_ble_eq_true rfl) rfl (n := 55) rfl
      refine dk_callNi C [] (cc_X8_at C.D dk_sh5 (hp0 5 (by decide)) h) yy_X8_at dk_wm_X7_82 dX7_makeNoise_55 (fun r6 s5 h => ?_) rfl ⟨Nat.le_of_ble_eq_true rfl, Nat.le_of_ble_eq_true rfl⟩ rfl (Nat.le_of_ble_eq_true rfl) rfl (n := 58) rfl
      refine dk_istore (i := 5) (L' := [some (dk_r G p0 0), some (.int x1), some (.int x2), some (.int x3), some (.int x4), some (.int r6)]) C dX7_makeNoise_58 (n := 60) rfl (dk_nc_of rfl) (Nat.le_of_ble_eq_true rfl) rfl ?_
      refine dk_aload_n (i := 0) C dX7_makeNoise_60 (n := 61) rfl rfl rfl ?_
      refine gf_X7_28 C (hp0 0 (by decide)) dX7_makeNoise_61 (n := 64) rfl ?_
      refine dk_iload C dX7_makeNoise_64 (n := 66) rfl (i := 4) rfl ?_
      refine dk_callVi C [] (cc_X2_lives C.D hp0 h) yy_X2_lives dk_wm_X7_204 dk_sh13 (hp0 13 (by decide)) dX7_makeNoise_66 (fun r8 s7 h => ?_) rfl rfl ⟨Nat.le_of_ble_eq_true rfl, Nat.le_of_ble_eq_true rfl⟩ rfl (Nat.le_of_ble_eq_true rfl) rfl (n := 69) rfl
      refine dk_if_eq (t := 99) C dX7_makeNoise_69 (n := 72) rfl (by decide) (fun c13 => ?_) (fun c13 => ?_)
      · have h := h.1 c13
        refine dk_sub (L0 := [some (dk_r G p0 0), some (.int x1), some (.int x2), some (.int x3), some (.int x4), none]) ⟨rfl, ⟨rfl, ⟨rfl, ⟨rfl, ⟨rfl, trivial⟩⟩⟩⟩⟩ ?_
        exact ww_X7_makeNoise_99 C hr hlk hp0 hB x1 x2 x3 x4 s7 h
      · have h := h.2 c13
        refine dk_iload C dX7_makeNoise_72 (n := 74) rfl (i := 5) rfl ?_
        refine dk_if_lt (t := 99) C dX7_makeNoise_74 (n := 77) rfl (by decide) (fun c12 => ?_) (fun c12 => ?_)
        · have h := h.1 c12
          refine dk_sub (L0 := [some (dk_r G p0 0), some (.int x1), some (.int x2), some (.int x3), some (.int x4), none]) ⟨rfl, ⟨rfl, ⟨rfl, ⟨rfl, ⟨rfl, trivial⟩⟩⟩⟩⟩ ?_
          exact ww_X7_makeNoise_99 C hr hlk hp0 hB x1 x2 x3 x4 s7 h
        · have h := h.2 c12
          refine dk_iload C dX7_makeNoise_77 (n := 79) rfl (i := 5) rfl ?_
          refine dk_iload_n (i := 2) C dX7_makeNoise_79 (n := 80) rfl rfl rfl ?_
          refine dk_icmp_gt (t := 99) C dX7_makeNoise_80 (n := 83) rfl (by decide) (fun c11 => ?_) (fun c11 => ?_)
          · have h := h.1 c11
            refine dk_sub (L0 := [some (dk_r G p0 0), some (.int x1), some (.int x2), some (.int x3), some (.int x4), none]) ⟨rfl, ⟨rfl, ⟨rfl, ⟨rfl, ⟨rfl, trivial⟩⟩⟩⟩⟩ ?_
            exact ww_X7_makeNoise_99 C hr hlk hp0 hB x1 x2 x3 x4 s7 h
          · have h := h.2 c11
            refine dk_aload_n (i := 0) C dX7_makeNoise_83 (n := 84) rfl rfl rfl ?_
            refine gf_X7_28 C (hp0 0 (by decide)) dX7_makeNoise_84 (n := 87) rfl ?_
            refine gf_X7_271 C (hp0 13 (by decide)) dX7_makeNoise_87 (n := 90) rfl ?_
            refine dk_iload C dX7_makeNoise_90 (n := 92) rfl (i := 4) rfl ?_
            refine dk_iload_n (i := 1) C dX7_makeNoise_92 (n := 93) rfl rfl rfl ?_
            refine dk_callNv C [] (cc_X8_put C.D dk_sh22 (hp0 22 (by decide)) h) yy_X8_put dk_wm_X7_142 dX7_makeNoise_93 (fun s9 h => ?_) rfl ⟨Nat.le_of_ble_eq_true rfl, Nat.le_of_ble_eq_true rfl⟩ rfl (Nat.le_of_ble_eq_true rfl) rfl (n := 96) rfl
            obtain ⟨v10, ev10⟩ : ∃ y : Int32, y = x3 + 1 := ⟨_, rfl⟩
            have h := h v10 ev10
            refine dk_iinc (i := 3) (v := v10) (L' := [some (dk_r G p0 0), some (.int x1), some (.int x2), some (.int v10), some (.int x4), some (.int r6)]) C dX7_makeNoise_96 (n := 99) rfl rfl (by rw [ev10]; rfl) (dk_nc_of rfl) (Nat.le_of_ble_eq_true rfl) rfl ?_
            refine dk_sub (L0 := [some (dk_r G p0 0), some (.int x1), some (.int x2), some (.int v10), some (.int x4), none]) ⟨rfl, ⟨rfl, ⟨rfl, ⟨rfl, ⟨rfl, trivial⟩⟩⟩⟩⟩ ?_
            exact ww_X7_makeNoise_99 C hr hlk hp0 hB x1 x2 v10 x4 s9 h
set_option maxRecDepth 20000 in
set_option maxHeartbeats 4000000 in
theorem cc_X7_makeNoise {G : dk_G} {l : Launch} {p0 : Nat} {a1 : Int32} {a2 : Int32} (hD : dk_D G) (hp0 : dk_WI G p0) {s : dk_S} {K : Int32 → dk_S → Prop} (h : wf_X7_makeNoise p0 a1 a2 s K) : dk_M G l 3 yX7_makeNoise cX7_makeNoise 6 (some .int) [dk_r G p0 0, .int a1, .int a2] s (dk_ki K) := by
  refine dk_of hD (by decide) [some (dk_r G p0 0), some (.int a1), some (.int a2), none, none, none] (fun q hq => hq) rfl (Nat.le_of_ble_eq_true rfl) (fun P e S0 m args bel meth c C hr hlk => ?_)
  unfold wf_X7_makeNoise at h
  refine dk_aload_n (i := 0) C dX7_makeNoise_0 (n := 1) rfl rfl rfl ?_
  refine gf_X7_12 C (hp0 0 (by decide)) dX7_makeNoise_1 (n := 4) rfl ?_
  refine dk_aload_n (i := 0) C dX7_makeNoise_4 (n := 5) rfl rfl rfl ?_
  refine gf_X7_12 C (hp0 0 (by decide)) dX7_makeNoise_5 (n := 8) rfl ?_
  refine gf_X7_115 C (hp0 1 (by decide)) dX7_makeNoise_8 (n := 11) rfl ?_
  refine dk_iload_n (i := 1) C dX7_makeNoise_11 (n := 12) rfl rfl rfl ?_
  refine dk_iconst (v := 3) C dX7_makeNoise_12 (n := 13) rfl (by decide) ?_
  refine dk_bipush (v := 7) C dX7_makeNoise_13 (n := 15) rfl (by decide) ?_
  refine dk_iload_n (i := 2) C dX7_makeNoise_15 (n := 16) rfl rfl rfl ?_
  refine dk_callVv C [] (cc_X1_flood C.D hp0 dk_sh5 (hp0 5 (by decide)) h) yy_X1_flood dk_wm_X7_119 dk_sh1 (hp0 1 (by decide)) dX7_makeNoise_16 (fun s1 h => ?_) rfl rfl ⟨Nat.le_of_ble_eq_true rfl, Nat.le_of_ble_eq_true rfl⟩ rfl (Nat.le_of_ble_eq_true rfl) rfl (n := 19) rfl
  refine dk_iconst (v := 0) C dX7_makeNoise_19 (n := 20) rfl (by decide) ?_
  refine dk_istore_n (i := 3) (L' := [some (dk_r G p0 0), some (.int a1), some (.int a2), some (.int 0), none, none]) C dX7_makeNoise_20 (n := 21) rfl rfl (dk_nc_of rfl) (Nat.le_of_ble_eq_true rfl) rfl ?_
  refine dk_iconst (v := 1) C dX7_makeNoise_21 (n := 22) rfl (by decide) ?_
  refine dk_istore (i := 4) (L' := [some (dk_r G p0 0), some (.int a1), some (.int a2), some (.int 0), some (.int 1), none]) C dX7_makeNoise_22 (n := 24) rfl (dk_nc_of rfl) (Nat.le_of_ble_eq_true rfl) rfl ?_
  obtain ⟨nn2, h⟩ := h
  refine dk_sub (L0 := [some (dk_r G p0 0), some (.int a1), some (.int a2), some (.int 0), some (.int 1), none]) ⟨rfl, ⟨rfl, ⟨rfl, ⟨rfl, ⟨rfl, trivial⟩⟩⟩⟩⟩ ?_
  refine ww_X7_makeNoise_24 C hr hlk hp0  nn2 a1 a2 0 1 s1 h
/-! X7_heroGoes -/
set_option maxRecDepth 20000 in
set_option maxHeartbeats 4000000 in
theorem ww_X7_heroGoes_115 {G : dk_G} {P : Program} {l : Launch} {e : Env} {S0 : State} {m : MethodId} {args : Array Value} {bel : List Frame} {meth : Method} {c : Code} {p0 : Nat} (C : dk_C G P (dk_rm 5) S0 m args c 0 0 cX7_heroGoes 5 RX7) (hr : meth.sig.returnType = (some .int)) (hlk : meth.locks = false) (hp0 : dk_WI G p0) {K : Int32 → dk_S → Prop}  : ∀ (x2 : Int32) (x4 : Int32) (s : dk_S), wf_X7_heroGoes_115 p0 K x2 x4 s → dk_W G P l e (dk_rm 5) S0 m args bel meth c 0 0 (MQ bel (dk_Qc G (dk_ki K)) args S0 0 0 (dk_A G)) 115 [some (dk_r G p0 0), none, some (.int x2), none, some (.int x4)] [] s := by
  intro x2 x4 s h
  unfold wf_X7_heroGoes_115 at h
  refine dk_iload C dX7_heroGoes_115 (n := 117) rfl (i := 4) rfl ?_
  refine dk_callNi C [] (cc_X8_isFree C.D  h) yy_X8_isFree dk_wm_X7_194 dX7_heroGoes_117 (fun r28 s27 h => ?_) rfl ⟨Nat.le_of_ble_eq_true rfl, Nat.le_of_ble_eq_true rfl⟩ rfl (Nat.le_of_ble_eq_true rfl) rfl (n := 120) rfl
  refine dk_if_eq (t := 138) C dX7_heroGoes_120 (n := 123) rfl (by decide) (fun c30 => ?_) (fun c30 => ?_)
  · have h := h.1 c30
    refine dk_ldc (v := (-1000000)) C dX7_heroGoes_138 (n := 140) rfl dk_wk_X7_165 ?_
    exact dk_iret C hr hlk rfl dX7_heroGoes_140 ⟨_, rfl, h⟩
  · have h := h.2 c30
    refine dk_aload_n (i := 0) C dX7_heroGoes_123 (n := 124) rfl rfl rfl ?_
    refine gf_X7_28 C (hp0 0 (by decide)) dX7_heroGoes_124 (n := 127) rfl ?_
    refine gf_X7_78 C (hp0 13 (by decide)) dX7_heroGoes_127 (n := 130) rfl ?_
    refine dk_iconst (v := 0) C dX7_heroGoes_130 (n := 131) rfl (by decide) ?_
    refine dk_iload_n (i := 2) C dX7_heroGoes_131 (n := 132) rfl rfl rfl ?_
    refine dk_callNv C [] (cc_X8_put C.D dk_sh14 (hp0 14 (by decide)) h) yy_X8_put dk_wm_X7_142 dX7_heroGoes_132 (fun s29 h => ?_) rfl ⟨Nat.le_of_ble_eq_true rfl, Nat.le_of_ble_eq_true rfl⟩ rfl (Nat.le_of_ble_eq_true rfl) rfl (n := 135) rfl
    refine dk_bipush (v := 109) C dX7_heroGoes_135 (n := 137) rfl (by decide) ?_
    exact dk_iret C hr hlk rfl dX7_heroGoes_137 ⟨_, rfl, h⟩
set_option maxRecDepth 20000 in
set_option maxHeartbeats 4000000 in
theorem cc_X7_heroGoes {G : dk_G} {l : Launch} {p0 : Nat} {a1 : Int32} (hD : dk_D G) (hp0 : dk_WI G p0) {s : dk_S} {K : Int32 → dk_S → Prop} (h : wf_X7_heroGoes p0 a1 s K) : dk_M G l 5 yX7_heroGoes cX7_heroGoes 5 (some .int) [dk_r G p0 0, .int a1] s (dk_ki K) := by
  refine dk_of hD (by decide) [some (dk_r G p0 0), some (.int a1), none, none, none] (fun q hq => hq) rfl (Nat.le_of_ble_eq_true rfl) (fun P e S0 m args bel meth c C hr hlk => ?_)
  unfold wf_X7_heroGoes at h
  refine dk_aload_n (i := 0) C dX7_heroGoes_0 (n := 1) rfl rfl rfl ?_
  refine dk_callVi C [] (cc_X7_heroSpot C.D hp0 h) yy_X7_heroSpot dk_wm_X7_93 dk_sh0 (hp0 0 (by decide)) dX7_heroGoes_1 (fun r2 s1 h => ?_) rfl rfl ⟨Nat.le_of_ble_eq_true rfl, Nat.le_of_ble_eq_true rfl⟩ rfl (Nat.le_of_ble_eq_true rfl) rfl (n := 4) rfl
  refine dk_iload_n (i := 1) C dX7_heroGoes_4 (n := 5) rfl rfl rfl ?_
  refine dk_callNi C [] (cc_X8_beside C.D  h) yy_X8_beside dk_wm_X7_170 dX7_heroGoes_5 (fun r4 s3 h => ?_) rfl ⟨Nat.le_of_ble_eq_true rfl, Nat.le_of_ble_eq_true rfl⟩ rfl (Nat.le_of_ble_eq_true rfl) rfl (n := 8) rfl
  refine dk_istore_n (i := 2) (L' := [some (dk_r G p0 0), some (.int a1), some (.int r4), none, none]) C dX7_heroGoes_8 (n := 9) rfl rfl (dk_nc_of rfl) (Nat.le_of_ble_eq_true rfl) rfl ?_
  refine dk_aload_n (i := 0) C dX7_heroGoes_9 (n := 10) rfl rfl rfl ?_
  refine gf_X7_28 C (hp0 0 (by decide)) dX7_heroGoes_10 (n := 13) rfl ?_
  refine dk_iload_n (i := 2) C dX7_heroGoes_13 (n := 14) rfl rfl rfl ?_
  refine dk_callVi C [] (cc_X2_livingAt C.D hp0 h) yy_X2_livingAt dk_wm_X7_173 dk_sh13 (hp0 13 (by decide)) dX7_heroGoes_14 (fun r6 s5 h => ?_) rfl rfl ⟨Nat.le_of_ble_eq_true rfl, Nat.le_of_ble_eq_true rfl⟩ rfl (Nat.le_of_ble_eq_true rfl) rfl (n := 17) rfl
  refine dk_istore_n (i := 3) (L' := [some (dk_r G p0 0), some (.int a1), some (.int r4), some (.int r6), none]) C dX7_heroGoes_17 (n := 18) rfl rfl (dk_nc_of rfl) (Nat.le_of_ble_eq_true rfl) rfl ?_
  refine dk_aload_n (i := 0) C dX7_heroGoes_18 (n := 19) rfl rfl rfl ?_
  refine gf_X7_12 C (hp0 0 (by decide)) dX7_heroGoes_19 (n := 22) rfl ?_
  refine dk_iload_n (i := 2) C dX7_heroGoes_22 (n := 23) rfl rfl rfl ?_
  refine dk_callVi C [] (cc_X1_signAt C.D hp0 h) yy_X1_signAt dk_wm_X7_176 dk_sh1 (hp0 1 (by decide)) dX7_heroGoes_23 (fun r8 s7 h => ?_) rfl rfl ⟨Nat.le_of_ble_eq_true rfl, Nat.le_of_ble_eq_true rfl⟩ rfl (Nat.le_of_ble_eq_true rfl) rfl (n := 26) rfl
  refine dk_istore (i := 4) (L' := [some (dk_r G p0 0), some (.int a1), some (.int r4), some (.int r6), some (.int r8)]) C dX7_heroGoes_26 (n := 28) rfl (dk_nc_of rfl) (Nat.le_of_ble_eq_true rfl) rfl ?_
  refine dk_iload_n (i := 3) C dX7_heroGoes_28 (n := 29) rfl rfl rfl ?_
  refine dk_if_le (t := 66) C dX7_heroGoes_29 (n := 32) rfl (by decide) (fun c26 => ?_) (fun c26 => ?_)
  · have h := h.1 c26
    refine dk_iload C dX7_heroGoes_66 (n := 68) rfl (i := 4) rfl ?_
    refine dk_bipush (v := 43) C dX7_heroGoes_68 (n := 70) rfl (by decide) ?_
    refine dk_icmp_eq (t := 102) C dX7_heroGoes_70 (n := 73) rfl (by decide) (fun c16 => ?_) (fun c16 => ?_)
    · have h := h.1 c16
      refine dk_aload_n (i := 0) C dX7_heroGoes_102 (n := 103) rfl rfl rfl ?_
      refine gf_X7_12 C (hp0 0 (by decide)) dX7_heroGoes_103 (n := 106) rfl ?_
      refine dk_iload_n (i := 2) C dX7_heroGoes_106 (n := 107) rfl rfl rfl ?_
      refine dk_bipush (v := 47) C dX7_heroGoes_107 (n := 109) rfl (by decide) ?_
      refine dk_callVv C [] (cc_X1_change C.D hp0 h) yy_X1_change dk_wm_X7_190 dk_sh1 (hp0 1 (by decide)) dX7_heroGoes_109 (fun s9 h => ?_) rfl rfl ⟨Nat.le_of_ble_eq_true rfl, Nat.le_of_ble_eq_true rfl⟩ rfl (Nat.le_of_ble_eq_true rfl) rfl (n := 112) rfl
      refine dk_bipush (v := 111) C dX7_heroGoes_112 (n := 114) rfl (by decide) ?_
      exact dk_iret C hr hlk rfl dX7_heroGoes_114 ⟨_, rfl, h⟩
    · have h := h.2 c16
      refine dk_iload C dX7_heroGoes_73 (n := 75) rfl (i := 4) rfl ?_
      refine dk_bipush (v := 48) C dX7_heroGoes_75 (n := 77) rfl (by decide) ?_
      refine dk_icmp_lt (t := 115) C dX7_heroGoes_77 (n := 80) rfl (by decide) (fun c15 => ?_) (fun c15 => ?_)
      · have h := h.1 c15
        refine dk_sub (L0 := [some (dk_r G p0 0), none, some (.int r4), none, some (.int r8)]) ⟨rfl, ⟨rfl, ⟨rfl, trivial⟩⟩⟩ ?_
        exact ww_X7_heroGoes_115 C hr hlk hp0  r4 r8 s7 h
      · have h := h.2 c15
        refine dk_iload C dX7_heroGoes_80 (n := 82) rfl (i := 4) rfl ?_
        refine dk_bipush (v := 50) C dX7_heroGoes_82 (n := 84) rfl (by decide) ?_
        refine dk_icmp_gt (t := 115) C dX7_heroGoes_84 (n := 87) rfl (by decide) (fun c14 => ?_) (fun c14 => ?_)
        · have h := h.1 c14
          refine dk_sub (L0 := [some (dk_r G p0 0), none, some (.int r4), none, some (.int r8)]) ⟨rfl, ⟨rfl, ⟨rfl, trivial⟩⟩⟩ ?_
          exact ww_X7_heroGoes_115 C hr hlk hp0  r4 r8 s7 h
        · have h := h.2 c14
          refine dk_aload_n (i := 0) C dX7_heroGoes_87 (n := 88) rfl rfl rfl ?_
          refine gf_X7_35 C (hp0 0 (by decide)) dX7_heroGoes_88 (n := 91) rfl ?_
          refine dk_iload C dX7_heroGoes_91 (n := 93) rfl (i := 4) rfl ?_
          refine dk_bipush (v := 48) C dX7_heroGoes_93 (n := 95) rfl (by decide) ?_
          refine dk_isub C dX7_heroGoes_95 (n := 96) rfl ?_
          refine dk_callVi C [] (cc_X6_isCarriedKey C.D hp0 h) yy_X6_isCarriedKey dk_wm_X7_187 dk_sh23 (hp0 23 (by decide)) dX7_heroGoes_96 (fun r11 s10 h => ?_) rfl rfl ⟨Nat.le_of_ble_eq_true rfl, Nat.le_of_ble_eq_true rfl⟩ rfl (Nat.le_of_ble_eq_true rfl) rfl (n := 99) rfl
          refine dk_if_eq (t := 115) C dX7_heroGoes_99 (n := 102) rfl (by decide) (fun c13 => ?_) (fun c13 => ?_)
          · have h := h.1 c13
            refine dk_sub (L0 := [some (dk_r G p0 0), none, some (.int r4), none, some (.int r8)]) ⟨rfl, ⟨rfl, ⟨rfl, trivial⟩⟩⟩ ?_
            exact ww_X7_heroGoes_115 C hr hlk hp0  r4 r8 s10 h
          · have h := h.2 c13
            refine dk_aload_n (i := 0) C dX7_heroGoes_102 (n := 103) rfl rfl rfl ?_
            refine gf_X7_12 C (hp0 0 (by decide)) dX7_heroGoes_103 (n := 106) rfl ?_
            refine dk_iload_n (i := 2) C dX7_heroGoes_106 (n := 107) rfl rfl rfl ?_
            refine dk_bipush (v := 47) C dX7_heroGoes_107 (n := 109) rfl (by decide) ?_
            refine dk_callVv C [] (cc_X1_change C.D hp0 h) yy_X1_change dk_wm_X7_190 dk_sh1 (hp0 1 (by decide)) dX7_heroGoes_109 (fun s12 h => ?_) rfl rfl ⟨Nat.le_of_ble_eq_true rfl, Nat.le_of_ble_eq_true rfl⟩ rfl (Nat.le_of_ble_eq_true rfl) rfl (n := 112) rfl
            refine dk_bipush (v := 111) C dX7_heroGoes_112 (n := 114) rfl (by decide) ?_
            exact dk_iret C hr hlk rfl dX7_heroGoes_114 ⟨_, rfl, h⟩
  · have h := h.2 c26
    refine dk_aload_n (i := 0) C dX7_heroGoes_32 (n := 33) rfl rfl rfl ?_
    refine dk_iload_n (i := 3) C dX7_heroGoes_33 (n := 34) rfl rfl rfl ?_
    refine dk_aload_n (i := 0) C dX7_heroGoes_34 (n := 35) rfl rfl rfl ?_
    refine gf_X7_35 C (hp0 0 (by decide)) dX7_heroGoes_35 (n := 38) rfl ?_
    refine dk_bipush (v := 7) C dX7_heroGoes_38 (n := 40) rfl (by decide) ?_
    refine dk_callVi C [.int r6, dk_r G p0 0] (cc_X6_hasInHands C.D hp0 h) yy_X6_hasInHands dk_wm_X7_180 dk_sh23 (hp0 23 (by decide)) dX7_heroGoes_40 (fun r18 s17 h => ?_) rfl rfl ⟨Nat.le_of_ble_eq_true rfl, Nat.le_of_ble_eq_true rfl⟩ rfl (Nat.le_of_ble_eq_true rfl) rfl (n := 43) rfl
    refine dk_if_eq (t := 51) C dX7_heroGoes_43 (n := 46) rfl (by decide) (fun c25 => ?_) (fun c25 => ?_)
    · have h := h.1 c25
      refine dk_iconst (v := 3) C dX7_heroGoes_51 (n := 52) rfl (by decide) ?_
      refine dk_callVv C [] (cc_X7_strike C.D hp0 h) yy_X7_strike dk_wm_X7_183 dk_sh0 (hp0 0 (by decide)) dX7_heroGoes_52 (fun s19 h => ?_) rfl rfl ⟨Nat.le_of_ble_eq_true rfl, Nat.le_of_ble_eq_true rfl⟩ rfl (Nat.le_of_ble_eq_true rfl) rfl (n := 55) rfl
      refine dk_aload_n (i := 0) C dX7_heroGoes_55 (n := 56) rfl rfl rfl ?_
      refine dk_iload_n (i := 2) C dX7_heroGoes_56 (n := 57) rfl rfl rfl ?_
      refine dk_bipush (v := 6) C dX7_heroGoes_57 (n := 59) rfl (by decide) ?_
      refine dk_callVi C [] (cc_X7_makeNoise C.D hp0 h) yy_X7_makeNoise dk_wm_X7_159 dk_sh0 (hp0 0 (by decide)) dX7_heroGoes_59 (fun r21 s20 h => ?_) rfl rfl ⟨Nat.le_of_ble_eq_true rfl, Nat.le_of_ble_eq_true rfl⟩ rfl (Nat.le_of_ble_eq_true rfl) rfl (n := 62) rfl
      refine dk_pop C dX7_heroGoes_62 (n := 63) rfl rfl ?_
      refine dk_bipush (v := 97) C dX7_heroGoes_63 (n := 65) rfl (by decide) ?_
      exact dk_iret C hr hlk rfl dX7_heroGoes_65 ⟨_, rfl, h⟩
    · have h := h.2 c25
      refine dk_bipush (v := 7) C dX7_heroGoes_46 (n := 48) rfl (by decide) ?_
      refine dk_goto (t := 52) C dX7_heroGoes_48 (by decide) ?_
      refine dk_callVv C [] (cc_X7_strike C.D hp0 h) yy_X7_strike dk_wm_X7_183 dk_sh0 (hp0 0 (by decide)) dX7_heroGoes_52 (fun s22 h => ?_) rfl rfl ⟨Nat.le_of_ble_eq_true rfl, Nat.le_of_ble_eq_true rfl⟩ rfl (Nat.le_of_ble_eq_true rfl) rfl (n := 55) rfl
      refine dk_aload_n (i := 0) C dX7_heroGoes_55 (n := 56) rfl rfl rfl ?_
      refine dk_iload_n (i := 2) C dX7_heroGoes_56 (n := 57) rfl rfl rfl ?_
      refine dk_bipush (v := 6) C dX7_heroGoes_57 (n := 59) rfl (by decide) ?_
      refine dk_callVi C [] (cc_X7_makeNoise C.D hp0 h) yy_X7_makeNoise dk_wm_X7_159 dk_sh0 (hp0 0 (by decide)) dX7_heroGoes_59 (fun r24 s23 h => ?_) rfl rfl ⟨Nat.le_of_ble_eq_true rfl, Nat.le_of_ble_eq_true rfl⟩ rfl (Nat.le_of_ble_eq_true rfl) rfl (n := 62) rfl
      refine dk_pop C dX7_heroGoes_62 (n := 63) rfl rfl ?_
      refine dk_bipush (v := 97) C dX7_heroGoes_63 (n := 65) rfl (by decide) ?_
      exact dk_iret C hr hlk rfl dX7_heroGoes_65 ⟨_, rfl, h⟩
/-! X7_heroPacks -/
set_option maxRecDepth 20000 in
set_option maxHeartbeats 4000000 in
theorem cc_X7_heroPacks {G : dk_G} {l : Launch} {p0 : Nat} {a1 : Int32} {a2 : Int32} (hD : dk_D G) (hp0 : dk_WI G p0) {s : dk_S} {K : Int32 → dk_S → Prop} (h : wf_X7_heroPacks p0 a1 a2 s K) : dk_M G l 3 yX7_heroPacks cX7_heroPacks 3 (some .int) [dk_r G p0 0, .int a1, .int a2] s (dk_ki K) := by
  refine dk_of hD (by decide) [some (dk_r G p0 0), some (.int a1), some (.int a2)] (fun q hq => hq) rfl (Nat.le_of_ble_eq_true rfl) (fun P e S0 m args bel meth c C hr hlk => ?_)
  unfold wf_X7_heroPacks at h
  refine dk_aload_n (i := 0) C dX7_heroPacks_0 (n := 1) rfl rfl rfl ?_
  refine gf_X7_35 C (hp0 0 (by decide)) dX7_heroPacks_1 (n := 4) rfl ?_
  refine gf_X7_141 C (hp0 23 (by decide)) dX7_heroPacks_4 (n := 7) rfl ?_
  refine dk_iload_n (i := 1) C dX7_heroPacks_7 (n := 8) rfl rfl rfl ?_
  refine dk_iload_n (i := 2) C dX7_heroPacks_8 (n := 9) rfl rfl rfl ?_
  refine dk_callNv C [] (cc_X8_put C.D dk_sh25 (hp0 25 (by decide)) h) yy_X8_put dk_wm_X7_142 dX7_heroPacks_9 (fun s1 h => ?_) rfl ⟨Nat.le_of_ble_eq_true rfl, Nat.le_of_ble_eq_true rfl⟩ rfl (Nat.le_of_ble_eq_true rfl) rfl (n := 12) rfl
  refine dk_aload_n (i := 0) C dX7_heroPacks_12 (n := 13) rfl rfl rfl ?_
  refine gf_X7_35 C (hp0 0 (by decide)) dX7_heroPacks_13 (n := 16) rfl ?_
  refine dk_iload_n (i := 2) C dX7_heroPacks_16 (n := 17) rfl rfl rfl ?_
  refine dk_callVi C [] (cc_X6_countAt C.D hp0 h) yy_X6_countAt dk_wm_X7_207 dk_sh23 (hp0 23 (by decide)) dX7_heroPacks_17 (fun r3 s2 h => ?_) rfl rfl ⟨Nat.le_of_ble_eq_true rfl, Nat.le_of_ble_eq_true rfl⟩ rfl (Nat.le_of_ble_eq_true rfl) rfl (n := 20) rfl
  exact dk_iret C hr hlk rfl dX7_heroPacks_20 ⟨_, rfl, h⟩
/-! X7_useUp -/
set_option maxRecDepth 20000 in
set_option maxHeartbeats 4000000 in
theorem cc_X7_useUp {G : dk_G} {l : Launch} {p0 : Nat} {a1 : Int32} (hD : dk_D G) (hp0 : dk_WI G p0) {s : dk_S} {K : dk_S → Prop} (h : wf_X7_useUp p0 a1 s K) : dk_M G l 2 yX7_useUp cX7_useUp 2 none [dk_r G p0 0, .int a1] s (dk_kv K) := by
  refine dk_of hD (by decide) [some (dk_r G p0 0), some (.int a1)] (fun q hq => hq) rfl (Nat.le_of_ble_eq_true rfl) (fun P e S0 m args bel meth c C hr hlk => ?_)
  unfold wf_X7_useUp at h
  refine dk_aload_n (i := 0) C dX7_useUp_0 (n := 1) rfl rfl rfl ?_
  refine gf_X7_35 C (hp0 0 (by decide)) dX7_useUp_1 (n := 4) rfl ?_
  refine gf_X7_141 C (hp0 23 (by decide)) dX7_useUp_4 (n := 7) rfl ?_
  refine dk_iload_n (i := 1) C dX7_useUp_7 (n := 8) rfl rfl rfl ?_
  refine dk_bipush (v := (-2)) C dX7_useUp_8 (n := 10) rfl (by decide) ?_
  refine dk_callNv C [] (cc_X8_put C.D dk_sh25 (hp0 25 (by decide)) h) yy_X8_put dk_wm_X7_142 dX7_useUp_10 (fun s1 h => ?_) rfl ⟨Nat.le_of_ble_eq_true rfl, Nat.le_of_ble_eq_true rfl⟩ rfl (Nat.le_of_ble_eq_true rfl) rfl (n := 13) rfl
  refine dk_aload_n (i := 0) C dX7_useUp_13 (n := 14) rfl rfl rfl ?_
  refine dk_dup C dX7_useUp_14 (n := 15) rfl rfl ?_
  refine gf_X7_59 C (hp0 0 (by decide)) dX7_useUp_15 (n := 18) rfl ?_
  refine dk_iconst (v := 1) C dX7_useUp_18 (n := 19) rfl (by decide) ?_
  refine dk_aload_n (i := 0) C dX7_useUp_19 (n := 20) rfl rfl rfl ?_
  refine gf_X7_35 C (hp0 0 (by decide)) dX7_useUp_20 (n := 23) rfl ?_
  refine gf_X7_210 C (hp0 23 (by decide)) dX7_useUp_23 (n := 26) rfl ?_
  refine dk_iload_n (i := 1) C dX7_useUp_26 (n := 27) rfl rfl rfl ?_
  refine dk_callNi C [.int 1, .int (s1 p0 0 9), dk_r G p0 0] (cc_X8_at C.D dk_sh24 (hp0 24 (by decide)) h) yy_X8_at dk_wm_X7_82 dX7_useUp_27 (fun r3 s2 h => ?_) rfl ⟨Nat.le_of_ble_eq_true rfl, Nat.le_of_ble_eq_true rfl⟩ rfl (Nat.le_of_ble_eq_true rfl) rfl (n := 30) rfl
  refine dk_ishl C dX7_useUp_30 (n := 31) rfl ?_
  refine dk_ior C dX7_useUp_31 (n := 32) rfl ?_
  refine pf_X7_59 C rfl rfl (hp0 0 (by decide)) dX7_useUp_32 (n := 35) rfl ?_
  refine dk_nameS (fun s4 es4 => ?_)
  have h := h s4 es4
  exact dk_vret C hr hlk dX7_useUp_35 ⟨rfl, h⟩
/-! X7_work -/
set_option maxRecDepth 20000 in
set_option maxHeartbeats 4000000 in
theorem cc_X7_work {G : dk_G} {l : Launch} {p0 : Nat} {a1 : Int32} {a2 : Int32} (hD : dk_D G) (hp0 : dk_WI G p0) {s : dk_S} {K : dk_S → Prop} (h : wf_X7_work p0 a1 a2 s K) : dk_M G l 3 yX7_work cX7_work 4 none [dk_r G p0 0, .int a1, .int a2] s (dk_kv K) := by
  refine dk_of hD (by decide) [some (dk_r G p0 0), some (.int a1), some (.int a2), none] (fun q hq => hq) rfl (Nat.le_of_ble_eq_true rfl) (fun P e S0 m args bel meth c C hr hlk => ?_)
  unfold wf_X7_work at h
  refine dk_aload_n (i := 0) C dX7_work_0 (n := 1) rfl rfl rfl ?_
  refine gf_X7_21 C (hp0 0 (by decide)) dX7_work_1 (n := 4) rfl ?_
  refine gf_X7_232 C (hp0 7 (by decide)) dX7_work_4 (n := 7) rfl ?_
  refine dk_iload_n (i := 1) C dX7_work_7 (n := 8) rfl rfl rfl ?_
  refine dk_callNi C [] (cc_X8_at C.D dk_sh11 (hp0 11 (by decide)) h) yy_X8_at dk_wm_X7_82 dX7_work_8 (fun r2 s1 h => ?_) rfl ⟨Nat.le_of_ble_eq_true rfl, Nat.le_of_ble_eq_true rfl⟩ rfl (Nat.le_of_ble_eq_true rfl) rfl (n := 11) rfl
  refine dk_istore_n (i := 3) (L' := [some (dk_r G p0 0), some (.int a1), some (.int a2), some (.int r2)]) C dX7_work_11 (n := 12) rfl rfl (dk_nc_of rfl) (Nat.le_of_ble_eq_true rfl) rfl ?_
  refine dk_aload_n (i := 0) C dX7_work_12 (n := 13) rfl rfl rfl ?_
  refine gf_X7_21 C (hp0 0 (by decide)) dX7_work_13 (n := 16) rfl ?_
  refine gf_X7_235 C (hp0 7 (by decide)) dX7_work_16 (n := 19) rfl ?_
  refine dk_iload_n (i := 1) C dX7_work_19 (n := 20) rfl rfl rfl ?_
  refine dk_callNi C [] (cc_X8_at C.D dk_sh10 (hp0 10 (by decide)) h) yy_X8_at dk_wm_X7_82 dX7_work_20 (fun r4 s3 h => ?_) rfl ⟨Nat.le_of_ble_eq_true rfl, Nat.le_of_ble_eq_true rfl⟩ rfl (Nat.le_of_ble_eq_true rfl) rfl (n := 23) rfl
  by_cases c8 : r4 = 98
  · have h := h.1 c8
    refine dk_lookT (off := 77) (t := 100) C dX7_work_23 (by decide) (by rw [c8]; decide +kernel) (by decide) ?_
    refine dk_aload_n (i := 0) C dX7_work_100 (n := 101) rfl rfl rfl ?_
    refine dk_iload_n (i := 2) C dX7_work_101 (n := 102) rfl rfl rfl ?_
    refine dk_if_ne (t := 109) C dX7_work_102 (n := 105) rfl (by decide) (fun c7 => ?_) (fun c7 => ?_)
    · have h := h.1 c7
      refine dk_aload_n (i := 0) C dX7_work_109 (n := 110) rfl rfl rfl ?_
      refine gf_X7_56 C (hp0 0 (by decide)) dX7_work_110 (n := 113) rfl ?_
      refine pf_X7_56 C rfl rfl (hp0 0 (by decide)) dX7_work_113 (n := 116) rfl ?_
      refine dk_nameS (fun s5 es5 => ?_)
      have h := h s5 es5
      refine dk_goto (t := 119) C dX7_work_116 (by decide) ?_
      exact dk_vret C hr hlk dX7_work_119 ⟨rfl, h⟩
    · have h := h.2 c7
      refine dk_iload_n (i := 3) C dX7_work_105 (n := 106) rfl rfl rfl ?_
      refine dk_goto (t := 113) C dX7_work_106 (by decide) ?_
      refine pf_X7_56 C rfl rfl (hp0 0 (by decide)) dX7_work_113 (n := 116) rfl ?_
      refine dk_nameS (fun s6 es6 => ?_)
      have h := h s6 es6
      refine dk_goto (t := 119) C dX7_work_116 (by decide) ?_
      exact dk_vret C hr hlk dX7_work_119 ⟨rfl, h⟩
  have h := h.2 c8
  by_cases c10 : r4 = 100
  · have h := h.1 c10
    refine dk_lookT (off := 53) (t := 76) C dX7_work_23 (by decide) (by rw [c10]; decide +kernel) (by decide) ?_
    refine dk_aload_n (i := 0) C dX7_work_76 (n := 77) rfl rfl rfl ?_
    refine gf_X7_28 C (hp0 0 (by decide)) dX7_work_77 (n := 80) rfl ?_
    refine dk_iload_n (i := 2) C dX7_work_80 (n := 81) rfl rfl rfl ?_
    refine dk_iload_n (i := 3) C dX7_work_81 (n := 82) rfl rfl rfl ?_
    refine dk_callVv C [] (cc_X2_harm C.D hp0 h) yy_X2_harm dk_wm_X7_201 dk_sh13 (hp0 13 (by decide)) dX7_work_82 (fun s9 h => ?_) rfl rfl ⟨Nat.le_of_ble_eq_true rfl, Nat.le_of_ble_eq_true rfl⟩ rfl (Nat.le_of_ble_eq_true rfl) rfl (n := 85) rfl
    refine dk_goto (t := 119) C dX7_work_85 (by decide) ?_
    exact dk_vret C hr hlk dX7_work_119 ⟨rfl, h⟩
  have h := h.2 c10
  by_cases c12 : r4 = 104
  · have h := h.1 c12
    refine dk_lookT (off := 41) (t := 64) C dX7_work_23 (by decide) (by rw [c12]; decide +kernel) (by decide) ?_
    refine dk_aload_n (i := 0) C dX7_work_64 (n := 65) rfl rfl rfl ?_
    refine gf_X7_28 C (hp0 0 (by decide)) dX7_work_65 (n := 68) rfl ?_
    refine dk_iload_n (i := 2) C dX7_work_68 (n := 69) rfl rfl rfl ?_
    refine dk_iload_n (i := 3) C dX7_work_69 (n := 70) rfl rfl rfl ?_
    refine dk_callVv C [] (cc_X2_heal C.D hp0 h) yy_X2_heal dk_wm_X7_238 dk_sh13 (hp0 13 (by decide)) dX7_work_70 (fun s11 h => ?_) rfl rfl ⟨Nat.le_of_ble_eq_true rfl, Nat.le_of_ble_eq_true rfl⟩ rfl (Nat.le_of_ble_eq_true rfl) rfl (n := 73) rfl
    refine dk_goto (t := 119) C dX7_work_73 (by decide) ?_
    exact dk_vret C hr hlk dX7_work_119 ⟨rfl, h⟩
  have h := h.2 c12
  by_cases c14 : r4 = 115
  · have h := h.1 c14
    refine dk_lookT (off := 65) (t := 88) C dX7_work_23 (by decide) (by rw [c14]; decide +kernel) (by decide) ?_
    refine dk_aload_n (i := 0) C dX7_work_88 (n := 89) rfl rfl rfl ?_
    refine gf_X7_28 C (hp0 0 (by decide)) dX7_work_89 (n := 92) rfl ?_
    refine dk_iload_n (i := 2) C dX7_work_92 (n := 93) rfl rfl rfl ?_
    refine dk_iload_n (i := 3) C dX7_work_93 (n := 94) rfl rfl rfl ?_
    refine dk_callVv C [] (cc_X2_hasten C.D hp0 h) yy_X2_hasten dk_wm_X7_241 dk_sh13 (hp0 13 (by decide)) dX7_work_94 (fun s13 h => ?_) rfl rfl ⟨Nat.le_of_ble_eq_true rfl, Nat.le_of_ble_eq_true rfl⟩ rfl (Nat.le_of_ble_eq_true rfl) rfl (n := 97) rfl
    refine dk_goto (t := 119) C dX7_work_97 (by decide) ?_
    exact dk_vret C hr hlk dX7_work_119 ⟨rfl, h⟩
  have h := h.2 c14
  refine dk_lookT (off := 96) (t := 119) C dX7_work_23 (by decide) (by show Op.lookupswitch.offset [(98, 77), (100, 53), (104, 41), (115, 65)] 96 (r4 : Int32).toInt = 96; rw [lv_osw (a := 98) c8 rfl, lv_osw (a := 100) c10 rfl, lv_osw (a := 104) c12 rfl, lv_osw (a := 115) c14 rfl]; rfl) (by decide) ?_
  exact dk_vret C hr hlk dX7_work_119 ⟨rfl, h⟩
/-! X7_burnBy -/
set_option maxRecDepth 20000 in
set_option maxHeartbeats 4000000 in
theorem ww_X7_burnBy_108 {G : dk_G} {P : Program} {l : Launch} {e : Env} {S0 : State} {m : MethodId} {args : Array Value} {bel : List Frame} {meth : Method} {c : Code} {p0 : Nat} (C : dk_C G P (dk_rm 3) S0 m args c 0 0 cX7_burnBy 6 RX7) (hr : meth.sig.returnType = none) (hlk : meth.locks = false) (hp0 : dk_WI G p0) {K : dk_S → Prop} {B : Int32 → Int32 → Int32 → dk_S → Prop} (hB : ∀ (x2 : Int32) (x3 : Int32) (x4 : Int32) (s : dk_S), B x2 x3 x4 s → dk_W G P l e (dk_rm 3) S0 m args bel meth c 0 0 (MQ bel (dk_Qc G (dk_kv K)) args S0 0 0 (dk_A G)) 17 [some (dk_r G p0 0), none, some (.int x2), some (.int x3), some (.int x4), none] [] s)  : ∀ (x2 : Int32) (x3 : Int32) (x4 : Int32) (s : dk_S), wf_X7_burnBy_108 p0 K B x2 x3 x4 s → dk_W G P l e (dk_rm 3) S0 m args bel meth c 0 0 (MQ bel (dk_Qc G (dk_kv K)) args S0 0 0 (dk_A G)) 108 [some (dk_r G p0 0), none, some (.int x2), some (.int x3), some (.int x4), none] [] s := by
  intro x2 x3 x4 s h
  unfold wf_X7_burnBy_108 at h
  obtain ⟨v19, ev19⟩ : ∃ y : Int32, y = x4 + 1 := ⟨_, rfl⟩
  have h := h v19 ev19
  refine dk_iinc (i := 4) (v := v19) (L' := [some (dk_r G p0 0), none, some (.int x2), some (.int x3), some (.int v19), none]) C dX7_burnBy_108 (n := 111) rfl rfl (by rw [ev19]; rfl) (dk_nc_of rfl) (Nat.le_of_ble_eq_true rfl) rfl ?_
  refine dk_goto (t := 17) C dX7_burnBy_111 (by decide) ?_
  refine dk_sub (L0 := [some (dk_r G p0 0), none, some (.int x2), some (.int x3), some (.int v19), none]) ⟨rfl, ⟨rfl, ⟨rfl, ⟨rfl, trivial⟩⟩⟩⟩ ?_
  exact hB x2 x3 v19 s h
set_option maxRecDepth 20000 in
set_option maxHeartbeats 4000000 in
theorem ww_X7_burnBy_17 {G : dk_G} {P : Program} {l : Launch} {e : Env} {S0 : State} {m : MethodId} {args : Array Value} {bel : List Frame} {meth : Method} {c : Code} {p0 : Nat} (C : dk_C G P (dk_rm 3) S0 m args c 0 0 cX7_burnBy 6 RX7) (hr : meth.sig.returnType = none) (hlk : meth.locks = false) (hp0 : dk_WI G p0) {K : dk_S → Prop}  : ∀ (n : Nat) (x2 : Int32) (x3 : Int32) (x4 : Int32) (s : dk_S), wf_X7_burnBy_17 p0 K n x2 x3 x4 s → dk_W G P l e (dk_rm 3) S0 m args bel meth c 0 0 (MQ bel (dk_Qc G (dk_kv K)) args S0 0 0 (dk_A G)) 17 [some (dk_r G p0 0), none, some (.int x2), some (.int x3), some (.int x4), none] [] s := by
  intro n
  induction n with
  | zero => intro x2 x3 x4 s h; exact False.elim h
  | succ n hB =>
    intro x2 x3 x4 s h
    unfold wf_X7_burnBy_17 at h
    refine dk_iload C dX7_burnBy_17 (n := 19) rfl (i := 4) rfl ?_
    refine dk_aload_n (i := 0) C dX7_burnBy_19 (n := 20) rfl rfl rfl ?_
    refine gf_X7_35 C (hp0 0 (by decide)) dX7_burnBy_20 (n := 23) rfl ?_
    refine gf_X7_247 C (hp0 23 (by decide)) dX7_burnBy_23 (n := 26) rfl ?_
    refine dk_icmp_ge (t := 114) C dX7_burnBy_26 (n := 29) rfl (by decide) (fun c18 => ?_) (fun c18 => ?_)
    · have h := h.1 c18
      exact dk_vret C hr hlk dX7_burnBy_114 ⟨rfl, h⟩
    · have h := h.2 c18
      refine dk_aload_n (i := 0) C dX7_burnBy_29 (n := 30) rfl rfl rfl ?_
      refine gf_X7_35 C (hp0 0 (by decide)) dX7_burnBy_30 (n := 33) rfl ?_
      refine gf_X7_141 C (hp0 23 (by decide)) dX7_burnBy_33 (n := 36) rfl ?_
      refine dk_iload C dX7_burnBy_36 (n := 38) rfl (i := 4) rfl ?_
      refine dk_callNi C [] (cc_X8_at C.D dk_sh25 (hp0 25 (by decide)) h) yy_X8_at dk_wm_X7_82 dX7_burnBy_38 (fun r6 s5 h => ?_) rfl ⟨Nat.le_of_ble_eq_true rfl, Nat.le_of_ble_eq_true rfl⟩ rfl (Nat.le_of_ble_eq_true rfl) rfl (n := 41) rfl
      refine dk_istore (i := 5) (L' := [some (dk_r G p0 0), none, some (.int x2), some (.int x3), some (.int x4), some (.int r6)]) C dX7_burnBy_41 (n := 43) rfl (dk_nc_of rfl) (Nat.le_of_ble_eq_true rfl) rfl ?_
      refine dk_iload C dX7_burnBy_43 (n := 45) rfl (i := 5) rfl ?_
      refine dk_if_lt (t := 108) C dX7_burnBy_45 (n := 48) rfl (by decide) (fun c17 => ?_) (fun c17 => ?_)
      · have h := h.1 c17
        refine dk_sub (L0 := [some (dk_r G p0 0), none, some (.int x2), some (.int x3), some (.int x4), none]) ⟨rfl, ⟨rfl, ⟨rfl, ⟨rfl, trivial⟩⟩⟩⟩ ?_
        exact ww_X7_burnBy_108 C hr hlk hp0 hB x2 x3 x4 s5 h
      · have h := h.2 c17
        refine dk_iload C dX7_burnBy_48 (n := 50) rfl (i := 5) rfl ?_
        refine dk_iload_n (i := 2) C dX7_burnBy_50 (n := 51) rfl rfl rfl ?_
        refine dk_callNi C [] (cc_X8_gap C.D  h) yy_X8_gap dk_wm_X7_101 dX7_burnBy_51 (fun r8 s7 h => ?_) rfl ⟨Nat.le_of_ble_eq_true rfl, Nat.le_of_ble_eq_true rfl⟩ rfl (Nat.le_of_ble_eq_true rfl) rfl (n := 54) rfl
        refine dk_iload_n (i := 3) C dX7_burnBy_54 (n := 55) rfl rfl rfl ?_
        refine dk_icmp_gt (t := 108) C dX7_burnBy_55 (n := 58) rfl (by decide) (fun c16 => ?_) (fun c16 => ?_)
        · have h := h.1 c16
          refine dk_sub (L0 := [some (dk_r G p0 0), none, some (.int x2), some (.int x3), some (.int x4), none]) ⟨rfl, ⟨rfl, ⟨rfl, ⟨rfl, trivial⟩⟩⟩⟩ ?_
          exact ww_X7_burnBy_108 C hr hlk hp0 hB x2 x3 x4 s7 h
        · have h := h.2 c16
          refine dk_aload_n (i := 0) C dX7_burnBy_58 (n := 59) rfl rfl rfl ?_
          refine gf_X7_21 C (hp0 0 (by decide)) dX7_burnBy_59 (n := 62) rfl ?_
          refine dk_aload_n (i := 0) C dX7_burnBy_62 (n := 63) rfl rfl rfl ?_
          refine gf_X7_35 C (hp0 0 (by decide)) dX7_burnBy_63 (n := 66) rfl ?_
          refine gf_X7_210 C (hp0 23 (by decide)) dX7_burnBy_66 (n := 69) rfl ?_
          refine dk_iload C dX7_burnBy_69 (n := 71) rfl (i := 4) rfl ?_
          refine dk_callNi C [dk_r G p0 7] (cc_X8_at C.D dk_sh24 (hp0 24 (by decide)) h) yy_X8_at dk_wm_X7_82 dX7_burnBy_71 (fun r10 s9 h => ?_) rfl ⟨Nat.le_of_ble_eq_true rfl, Nat.le_of_ble_eq_true rfl⟩ rfl (Nat.le_of_ble_eq_true rfl) rfl (n := 74) rfl
          refine dk_callVi C [] (cc_X3_isWooden C.D hp0 h) yy_X3_isWooden dk_wm_X7_248 dk_sh7 (hp0 7 (by decide)) dX7_burnBy_74 (fun r12 s11 h => ?_) rfl rfl ⟨Nat.le_of_ble_eq_true rfl, Nat.le_of_ble_eq_true rfl⟩ rfl (Nat.le_of_ble_eq_true rfl) rfl (n := 77) rfl
          refine dk_if_eq (t := 108) C dX7_burnBy_77 (n := 80) rfl (by decide) (fun c15 => ?_) (fun c15 => ?_)
          · have h := h.1 c15
            refine dk_sub (L0 := [some (dk_r G p0 0), none, some (.int x2), some (.int x3), some (.int x4), none]) ⟨rfl, ⟨rfl, ⟨rfl, ⟨rfl, trivial⟩⟩⟩⟩ ?_
            exact ww_X7_burnBy_108 C hr hlk hp0 hB x2 x3 x4 s11 h
          · have h := h.2 c15
            refine dk_aload_n (i := 0) C dX7_burnBy_80 (n := 81) rfl rfl rfl ?_
            refine gf_X7_35 C (hp0 0 (by decide)) dX7_burnBy_81 (n := 84) rfl ?_
            refine gf_X7_141 C (hp0 23 (by decide)) dX7_burnBy_84 (n := 87) rfl ?_
            refine dk_iload C dX7_burnBy_87 (n := 89) rfl (i := 4) rfl ?_
            refine dk_bipush (v := (-2)) C dX7_burnBy_89 (n := 91) rfl (by decide) ?_
            refine dk_callNv C [] (cc_X8_put C.D dk_sh25 (hp0 25 (by decide)) h) yy_X8_put dk_wm_X7_142 dX7_burnBy_91 (fun s13 h => ?_) rfl ⟨Nat.le_of_ble_eq_true rfl, Nat.le_of_ble_eq_true rfl⟩ rfl (Nat.le_of_ble_eq_true rfl) rfl (n := 94) rfl
            refine dk_aload_n (i := 0) C dX7_burnBy_94 (n := 95) rfl rfl rfl ?_
            refine gf_X7_35 C (hp0 0 (by decide)) dX7_burnBy_95 (n := 98) rfl ?_
            refine dk_bipush (v := (-3)) C dX7_burnBy_98 (n := 100) rfl (by decide) ?_
            refine dk_iload C dX7_burnBy_100 (n := 102) rfl (i := 4) rfl ?_
            refine dk_isub C dX7_burnBy_102 (n := 103) rfl ?_
            refine dk_iload C dX7_burnBy_103 (n := 105) rfl (i := 5) rfl ?_
            refine dk_callVv C [] (cc_X6_moveAll C.D hp0 h) yy_X6_moveAll dk_wm_X7_251 dk_sh23 (hp0 23 (by decide)) dX7_burnBy_105 (fun s14 h => ?_) rfl rfl ⟨Nat.le_of_ble_eq_true rfl, Nat.le_of_ble_eq_true rfl⟩ rfl (Nat.le_of_ble_eq_true rfl) rfl (n := 108) rfl
            refine dk_sub (L0 := [some (dk_r G p0 0), none, some (.int x2), some (.int x3), some (.int x4), none]) ⟨rfl, ⟨rfl, ⟨rfl, ⟨rfl, trivial⟩⟩⟩⟩ ?_
            exact ww_X7_burnBy_108 C hr hlk hp0 hB x2 x3 x4 s14 h
set_option maxRecDepth 20000 in
set_option maxHeartbeats 4000000 in
theorem cc_X7_burnBy {G : dk_G} {l : Launch} {p0 : Nat} {a1 : Int32} {a2 : Int32} {a3 : Int32} (hD : dk_D G) (hp0 : dk_WI G p0) {s : dk_S} {K : dk_S → Prop} (h : wf_X7_burnBy p0 a1 a2 a3 s K) : dk_M G l 3 yX7_burnBy cX7_burnBy 6 none [dk_r G p0 0, .int a1, .int a2, .int a3] s (dk_kv K) := by
  refine dk_of hD (by decide) [some (dk_r G p0 0), some (.int a1), some (.int a2), some (.int a3), none, none] (fun q hq => hq) rfl (Nat.le_of_ble_eq_true rfl) (fun P e S0 m args bel meth c C hr hlk => ?_)
  unfold wf_X7_burnBy at h
  refine dk_aload_n (i := 0) C dX7_burnBy_0 (n := 1) rfl rfl rfl ?_
  refine gf_X7_21 C (hp0 0 (by decide)) dX7_burnBy_1 (n := 4) rfl ?_
  refine dk_iload_n (i := 1) C dX7_burnBy_4 (n := 5) rfl rfl rfl ?_
  refine dk_callVi C [] (cc_X3_effectOf C.D hp0 h) yy_X3_effectOf dk_wm_X7_244 dk_sh7 (hp0 7 (by decide)) dX7_burnBy_5 (fun r2 s1 h => ?_) rfl rfl ⟨Nat.le_of_ble_eq_true rfl, Nat.le_of_ble_eq_true rfl⟩ rfl (Nat.le_of_ble_eq_true rfl) rfl (n := 8) rfl
  refine dk_bipush (v := 102) C dX7_burnBy_8 (n := 10) rfl (by decide) ?_
  refine dk_icmp_eq (t := 14) C dX7_burnBy_10 (n := 13) rfl (by decide) (fun c4 => ?_) (fun c4 => ?_)
  · have h := h.1 c4
    refine dk_iconst (v := 0) C dX7_burnBy_14 (n := 15) rfl (by decide) ?_
    refine dk_istore (i := 4) (L' := [some (dk_r G p0 0), some (.int a1), some (.int a2), some (.int a3), some (.int 0), none]) C dX7_burnBy_15 (n := 17) rfl (dk_nc_of rfl) (Nat.le_of_ble_eq_true rfl) rfl ?_
    obtain ⟨nn3, h⟩ := h
    refine dk_sub (L0 := [some (dk_r G p0 0), none, some (.int a2), some (.int a3), some (.int 0), none]) ⟨rfl, ⟨rfl, ⟨rfl, ⟨rfl, trivial⟩⟩⟩⟩ ?_
    refine ww_X7_burnBy_17 C hr hlk hp0  nn3 a2 a3 0 s1 h
  · have h := h.2 c4
    exact dk_vret C hr hlk dX7_burnBy_13 ⟨rfl, h⟩
/-! X7_heroDrinks -/
set_option maxRecDepth 20000 in
set_option maxHeartbeats 4000000 in
theorem cc_X7_heroDrinks {G : dk_G} {l : Launch} {p0 : Nat} {a1 : Int32} (hD : dk_D G) (hp0 : dk_WI G p0) {s : dk_S} {K : Int32 → dk_S → Prop} (h : wf_X7_heroDrinks p0 a1 s K) : dk_M G l 4 yX7_heroDrinks cX7_heroDrinks 3 (some .int) [dk_r G p0 0, .int a1] s (dk_ki K) := by
  refine dk_of hD (by decide) [some (dk_r G p0 0), some (.int a1), none] (fun q hq => hq) rfl (Nat.le_of_ble_eq_true rfl) (fun P e S0 m args bel meth c C hr hlk => ?_)
  unfold wf_X7_heroDrinks at h
  refine dk_aload_n (i := 0) C dX7_heroDrinks_0 (n := 1) rfl rfl rfl ?_
  refine gf_X7_35 C (hp0 0 (by decide)) dX7_heroDrinks_1 (n := 4) rfl ?_
  refine gf_X7_210 C (hp0 23 (by decide)) dX7_heroDrinks_4 (n := 7) rfl ?_
  refine dk_iload_n (i := 1) C dX7_heroDrinks_7 (n := 8) rfl rfl rfl ?_
  refine dk_callNi C [] (cc_X8_at C.D dk_sh24 (hp0 24 (by decide)) h) yy_X8_at dk_wm_X7_82 dX7_heroDrinks_8 (fun r2 s1 h => ?_) rfl ⟨Nat.le_of_ble_eq_true rfl, Nat.le_of_ble_eq_true rfl⟩ rfl (Nat.le_of_ble_eq_true rfl) rfl (n := 11) rfl
  refine dk_istore_n (i := 2) (L' := [some (dk_r G p0 0), some (.int a1), some (.int r2)]) C dX7_heroDrinks_11 (n := 12) rfl rfl (dk_nc_of rfl) (Nat.le_of_ble_eq_true rfl) rfl ?_
  refine dk_aload_n (i := 0) C dX7_heroDrinks_12 (n := 13) rfl rfl rfl ?_
  refine dk_iload_n (i := 1) C dX7_heroDrinks_13 (n := 14) rfl rfl rfl ?_
  refine dk_callVv C [] (cc_X7_useUp C.D hp0 h) yy_X7_useUp dk_wm_X7_213 dk_sh0 (hp0 0 (by decide)) dX7_heroDrinks_14 (fun s3 h => ?_) rfl rfl ⟨Nat.le_of_ble_eq_true rfl, Nat.le_of_ble_eq_true rfl⟩ rfl (Nat.le_of_ble_eq_true rfl) rfl (n := 17) rfl
  refine dk_aload_n (i := 0) C dX7_heroDrinks_17 (n := 18) rfl rfl rfl ?_
  refine dk_iload_n (i := 2) C dX7_heroDrinks_18 (n := 19) rfl rfl rfl ?_
  refine dk_iconst (v := 0) C dX7_heroDrinks_19 (n := 20) rfl (by decide) ?_
  refine dk_callVv C [] (cc_X7_work C.D hp0 h) yy_X7_work dk_wm_X7_216 dk_sh0 (hp0 0 (by decide)) dX7_heroDrinks_20 (fun s4 h => ?_) rfl rfl ⟨Nat.le_of_ble_eq_true rfl, Nat.le_of_ble_eq_true rfl⟩ rfl (Nat.le_of_ble_eq_true rfl) rfl (n := 23) rfl
  refine dk_aload_n (i := 0) C dX7_heroDrinks_23 (n := 24) rfl rfl rfl ?_
  refine dk_iload_n (i := 2) C dX7_heroDrinks_24 (n := 25) rfl rfl rfl ?_
  refine dk_aload_n (i := 0) C dX7_heroDrinks_25 (n := 26) rfl rfl rfl ?_
  refine dk_callVi C [.int r2, dk_r G p0 0] (cc_X7_heroSpot C.D hp0 h) yy_X7_heroSpot dk_wm_X7_93 dk_sh0 (hp0 0 (by decide)) dX7_heroDrinks_26 (fun r6 s5 h => ?_) rfl rfl ⟨Nat.le_of_ble_eq_true rfl, Nat.le_of_ble_eq_true rfl⟩ rfl (Nat.le_of_ble_eq_true rfl) rfl (n := 29) rfl
  refine dk_iconst (v := 0) C dX7_heroDrinks_29 (n := 30) rfl (by decide) ?_
  refine dk_callVv C [] (cc_X7_burnBy C.D hp0 h) yy_X7_burnBy dk_wm_X7_219 dk_sh0 (hp0 0 (by decide)) dX7_heroDrinks_30 (fun s7 h => ?_) rfl rfl ⟨Nat.le_of_ble_eq_true rfl, Nat.le_of_ble_eq_true rfl⟩ rfl (Nat.le_of_ble_eq_true rfl) rfl (n := 33) rfl
  refine dk_aload_n (i := 0) C dX7_heroDrinks_33 (n := 34) rfl rfl rfl ?_
  refine gf_X7_28 C (hp0 0 (by decide)) dX7_heroDrinks_34 (n := 37) rfl ?_
  refine gf_X7_223 C (hp0 13 (by decide)) dX7_heroDrinks_37 (n := 40) rfl ?_
  refine dk_iconst (v := 0) C dX7_heroDrinks_40 (n := 41) rfl (by decide) ?_
  refine dk_callNi C [] (cc_X8_at C.D dk_sh18 (hp0 18 (by decide)) h) yy_X8_at dk_wm_X7_82 dX7_heroDrinks_41 (fun r9 s8 h => ?_) rfl ⟨Nat.le_of_ble_eq_true rfl, Nat.le_of_ble_eq_true rfl⟩ rfl (Nat.le_of_ble_eq_true rfl) rfl (n := 44) rfl
  exact dk_iret C hr hlk rfl dX7_heroDrinks_44 ⟨_, rfl, h⟩
/-! X7_shatter -/
set_option maxRecDepth 20000 in
set_option maxHeartbeats 4000000 in
theorem ww_X7_shatter_33 {G : dk_G} {P : Program} {l : Launch} {e : Env} {S0 : State} {m : MethodId} {args : Array Value} {bel : List Frame} {meth : Method} {c : Code} {p0 : Nat} (C : dk_C G P (dk_rm 4) S0 m args c 0 0 cX7_shatter 6 RX7) (hr : meth.sig.returnType = none) (hlk : meth.locks = false) (hp0 : dk_WI G p0) {K : dk_S → Prop}  : ∀ (n : Nat) (x2 : Int32) (x3 : Int32) (x4 : Int32) (x5 : Int32) (s : dk_S), wf_X7_shatter_33 p0 K n x2 x3 x4 x5 s → dk_W G P l e (dk_rm 4) S0 m args bel meth c 0 0 (MQ bel (dk_Qc G (dk_kv K)) args S0 0 0 (dk_A G)) 33 [some (dk_r G p0 0), none, some (.int x2), some (.int x3), some (.int x4), some (.int x5)] [] s := by
  intro n
  induction n with
  | zero => intro x2 x3 x4 x5 s h; exact False.elim h
  | succ n hB =>
    intro x2 x3 x4 x5 s h
    unfold wf_X7_shatter_33 at h
    refine dk_iload C dX7_shatter_33 (n := 35) rfl (i := 5) rfl ?_
    refine dk_aload_n (i := 0) C dX7_shatter_35 (n := 36) rfl rfl rfl ?_
    refine gf_X7_28 C (hp0 0 (by decide)) dX7_shatter_36 (n := 39) rfl ?_
    refine gf_X7_86 C (hp0 13 (by decide)) dX7_shatter_39 (n := 42) rfl ?_
    refine dk_icmp_ge (t := 91) C dX7_shatter_42 (n := 45) rfl (by decide) (fun c19 => ?_) (fun c19 => ?_)
    · have h := h.1 c19
      exact dk_vret C hr hlk dX7_shatter_91 ⟨rfl, h⟩
    · have h := h.2 c19
      refine dk_aload_n (i := 0) C dX7_shatter_45 (n := 46) rfl rfl rfl ?_
      refine gf_X7_28 C (hp0 0 (by decide)) dX7_shatter_46 (n := 49) rfl ?_
      refine dk_iload C dX7_shatter_49 (n := 51) rfl (i := 5) rfl ?_
      refine dk_callVi C [] (cc_X2_lives C.D hp0 h) yy_X2_lives dk_wm_X7_204 dk_sh13 (hp0 13 (by decide)) dX7_shatter_51 (fun r8 s7 h => ?_) rfl rfl ⟨Nat.le_of_ble_eq_true rfl, Nat.le_of_ble_eq_true rfl⟩ rfl (Nat.le_of_ble_eq_true rfl) rfl (n := 54) rfl
      refine dk_if_eq (t := 85) C dX7_shatter_54 (n := 57) rfl (by decide) (fun c18 => ?_) (fun c18 => ?_)
      · have h := h.1 c18
        obtain ⟨v9, ev9⟩ : ∃ y : Int32, y = x5 + 1 := ⟨_, rfl⟩
        have h := h v9 ev9
        refine dk_iinc (i := 5) (v := v9) (L' := [some (dk_r G p0 0), none, some (.int x2), some (.int x3), some (.int x4), some (.int v9)]) C dX7_shatter_85 (n := 88) rfl rfl (by rw [ev9]; rfl) (dk_nc_of rfl) (Nat.le_of_ble_eq_true rfl) rfl ?_
        refine dk_goto (t := 33) C dX7_shatter_88 (by decide) ?_
        refine dk_sub (L0 := [some (dk_r G p0 0), none, some (.int x2), some (.int x3), some (.int x4), some (.int v9)]) ⟨rfl, ⟨rfl, ⟨rfl, ⟨rfl, ⟨rfl, trivial⟩⟩⟩⟩⟩ ?_
        exact hB x2 x3 x4 v9 s7 h
      · have h := h.2 c18
        refine dk_aload_n (i := 0) C dX7_shatter_57 (n := 58) rfl rfl rfl ?_
        refine gf_X7_28 C (hp0 0 (by decide)) dX7_shatter_58 (n := 61) rfl ?_
        refine gf_X7_78 C (hp0 13 (by decide)) dX7_shatter_61 (n := 64) rfl ?_
        refine dk_iload C dX7_shatter_64 (n := 66) rfl (i := 5) rfl ?_
        refine dk_callNi C [] (cc_X8_at C.D dk_sh14 (hp0 14 (by decide)) h) yy_X8_at dk_wm_X7_82 dX7_shatter_66 (fun r11 s10 h => ?_) rfl ⟨Nat.le_of_ble_eq_true rfl, Nat.le_of_ble_eq_true rfl⟩ rfl (Nat.le_of_ble_eq_true rfl) rfl (n := 69) rfl
        refine dk_iload_n (i := 2) C dX7_shatter_69 (n := 70) rfl rfl rfl ?_
        refine dk_callNi C [] (cc_X8_gap C.D  h) yy_X8_gap dk_wm_X7_101 dX7_shatter_70 (fun r13 s12 h => ?_) rfl ⟨Nat.le_of_ble_eq_true rfl, Nat.le_of_ble_eq_true rfl⟩ rfl (Nat.le_of_ble_eq_true rfl) rfl (n := 73) rfl
        refine dk_iload C dX7_shatter_73 (n := 75) rfl (i := 4) rfl ?_
        refine dk_icmp_gt (t := 85) C dX7_shatter_75 (n := 78) rfl (by decide) (fun c17 => ?_) (fun c17 => ?_)
        · have h := h.1 c17
          obtain ⟨v14, ev14⟩ : ∃ y : Int32, y = x5 + 1 := ⟨_, rfl⟩
          have h := h v14 ev14
          refine dk_iinc (i := 5) (v := v14) (L' := [some (dk_r G p0 0), none, some (.int x2), some (.int x3), some (.int x4), some (.int v14)]) C dX7_shatter_85 (n := 88) rfl rfl (by rw [ev14]; rfl) (dk_nc_of rfl) (Nat.le_of_ble_eq_true rfl) rfl ?_
          refine dk_goto (t := 33) C dX7_shatter_88 (by decide) ?_
          refine dk_sub (L0 := [some (dk_r G p0 0), none, some (.int x2), some (.int x3), some (.int x4), some (.int v14)]) ⟨rfl, ⟨rfl, ⟨rfl, ⟨rfl, ⟨rfl, trivial⟩⟩⟩⟩⟩ ?_
          exact hB x2 x3 x4 v14 s12 h
        · have h := h.2 c17
          refine dk_aload_n (i := 0) C dX7_shatter_78 (n := 79) rfl rfl rfl ?_
          refine dk_iload_n (i := 3) C dX7_shatter_79 (n := 80) rfl rfl rfl ?_
          refine dk_iload C dX7_shatter_80 (n := 82) rfl (i := 5) rfl ?_
          refine dk_callVv C [] (cc_X7_work C.D hp0 h) yy_X7_work dk_wm_X7_216 dk_sh0 (hp0 0 (by decide)) dX7_shatter_82 (fun s15 h => ?_) rfl rfl ⟨Nat.le_of_ble_eq_true rfl, Nat.le_of_ble_eq_true rfl⟩ rfl (Nat.le_of_ble_eq_true rfl) rfl (n := 85) rfl
          obtain ⟨v16, ev16⟩ : ∃ y : Int32, y = x5 + 1 := ⟨_, rfl⟩
          have h := h v16 ev16
          refine dk_iinc (i := 5) (v := v16) (L' := [some (dk_r G p0 0), none, some (.int x2), some (.int x3), some (.int x4), some (.int v16)]) C dX7_shatter_85 (n := 88) rfl rfl (by rw [ev16]; rfl) (dk_nc_of rfl) (Nat.le_of_ble_eq_true rfl) rfl ?_
          refine dk_goto (t := 33) C dX7_shatter_88 (by decide) ?_
          refine dk_sub (L0 := [some (dk_r G p0 0), none, some (.int x2), some (.int x3), some (.int x4), some (.int v16)]) ⟨rfl, ⟨rfl, ⟨rfl, ⟨rfl, ⟨rfl, trivial⟩⟩⟩⟩⟩ ?_
          exact hB x2 x3 x4 v16 s15 h
set_option maxRecDepth 20000 in
set_option maxHeartbeats 4000000 in
theorem cc_X7_shatter {G : dk_G} {l : Launch} {p0 : Nat} {a1 : Int32} {a2 : Int32} (hD : dk_D G) (hp0 : dk_WI G p0) {s : dk_S} {K : dk_S → Prop} (h : wf_X7_shatter p0 a1 a2 s K) : dk_M G l 4 yX7_shatter cX7_shatter 6 none [dk_r G p0 0, .int a1, .int a2] s (dk_kv K) := by
  refine dk_of hD (by decide) [some (dk_r G p0 0), some (.int a1), some (.int a2), none, none, none] (fun q hq => hq) rfl (Nat.le_of_ble_eq_true rfl) (fun P e S0 m args bel meth c C hr hlk => ?_)
  unfold wf_X7_shatter at h
  refine dk_aload_n (i := 0) C dX7_shatter_0 (n := 1) rfl rfl rfl ?_
  refine gf_X7_35 C (hp0 0 (by decide)) dX7_shatter_1 (n := 4) rfl ?_
  refine gf_X7_210 C (hp0 23 (by decide)) dX7_shatter_4 (n := 7) rfl ?_
  refine dk_iload_n (i := 1) C dX7_shatter_7 (n := 8) rfl rfl rfl ?_
  refine dk_callNi C [] (cc_X8_at C.D dk_sh24 (hp0 24 (by decide)) h) yy_X8_at dk_wm_X7_82 dX7_shatter_8 (fun r2 s1 h => ?_) rfl ⟨Nat.le_of_ble_eq_true rfl, Nat.le_of_ble_eq_true rfl⟩ rfl (Nat.le_of_ble_eq_true rfl) rfl (n := 11) rfl
  refine dk_istore_n (i := 3) (L' := [some (dk_r G p0 0), some (.int a1), some (.int a2), some (.int r2), none, none]) C dX7_shatter_11 (n := 12) rfl rfl (dk_nc_of rfl) (Nat.le_of_ble_eq_true rfl) rfl ?_
  refine dk_aload_n (i := 0) C dX7_shatter_12 (n := 13) rfl rfl rfl ?_
  refine gf_X7_21 C (hp0 0 (by decide)) dX7_shatter_13 (n := 16) rfl ?_
  refine gf_X7_229 C (hp0 7 (by decide)) dX7_shatter_16 (n := 19) rfl ?_
  refine dk_iload_n (i := 3) C dX7_shatter_19 (n := 20) rfl rfl rfl ?_
  refine dk_callNi C [] (cc_X8_at C.D dk_sh12 (hp0 12 (by decide)) h) yy_X8_at dk_wm_X7_82 dX7_shatter_20 (fun r4 s3 h => ?_) rfl ⟨Nat.le_of_ble_eq_true rfl, Nat.le_of_ble_eq_true rfl⟩ rfl (Nat.le_of_ble_eq_true rfl) rfl (n := 23) rfl
  refine dk_istore (i := 4) (L' := [some (dk_r G p0 0), some (.int a1), some (.int a2), some (.int r2), some (.int r4), none]) C dX7_shatter_23 (n := 25) rfl (dk_nc_of rfl) (Nat.le_of_ble_eq_true rfl) rfl ?_
  refine dk_aload_n (i := 0) C dX7_shatter_25 (n := 26) rfl rfl rfl ?_
  refine dk_iload_n (i := 1) C dX7_shatter_26 (n := 27) rfl rfl rfl ?_
  refine dk_callVv C [] (cc_X7_useUp C.D hp0 h) yy_X7_useUp dk_wm_X7_213 dk_sh0 (hp0 0 (by decide)) dX7_shatter_27 (fun s5 h => ?_) rfl rfl ⟨Nat.le_of_ble_eq_true rfl, Nat.le_of_ble_eq_true rfl⟩ rfl (Nat.le_of_ble_eq_true rfl) rfl (n := 30) rfl
  refine dk_iconst (v := 0) C dX7_shatter_30 (n := 31) rfl (by decide) ?_
  refine dk_istore (i := 5) (L' := [some (dk_r G p0 0), some (.int a1), some (.int a2), some (.int r2), some (.int r4), some (.int 0)]) C dX7_shatter_31 (n := 33) rfl (dk_nc_of rfl) (Nat.le_of_ble_eq_true rfl) rfl ?_
  obtain ⟨nn6, h⟩ := h
  refine dk_sub (L0 := [some (dk_r G p0 0), none, some (.int a2), some (.int r2), some (.int r4), some (.int 0)]) ⟨rfl, ⟨rfl, ⟨rfl, ⟨rfl, ⟨rfl, trivial⟩⟩⟩⟩⟩ ?_
  refine ww_X7_shatter_33 C hr hlk hp0  nn6 a2 r2 r4 0 s5 h
/-! X7_heroHurls -/
set_option maxRecDepth 20000 in
set_option maxHeartbeats 4000000 in
theorem ww_X7_heroHurls_70 {G : dk_G} {P : Program} {l : Launch} {e : Env} {S0 : State} {m : MethodId} {args : Array Value} {bel : List Frame} {meth : Method} {c : Code} {p0 : Nat} (C : dk_C G P (dk_rm 5) S0 m args c 0 0 cX7_heroHurls 7 RX7) (hr : meth.sig.returnType = (some .int)) (hlk : meth.locks = false) (hp0 : dk_WI G p0) {K : Int32 → dk_S → Prop}  : ∀ (x1 : Int32) (x3 : Int32) (x4 : Int32) (x5 : Int32) (s : dk_S), wf_X7_heroHurls_70 p0 K x1 x3 x4 x5 s → dk_W G P l e (dk_rm 5) S0 m args bel meth c 0 0 (MQ bel (dk_Qc G (dk_ki K)) args S0 0 0 (dk_A G)) 70 [some (dk_r G p0 0), some (.int x1), none, some (.int x3), some (.int x4), some (.int x5), none] [] s := by
  intro x1 x3 x4 x5 s h
  unfold wf_X7_heroHurls_70 at h
  refine dk_aload_n (i := 0) C dX7_heroHurls_70 (n := 71) rfl rfl rfl ?_
  refine gf_X7_35 C (hp0 0 (by decide)) dX7_heroHurls_71 (n := 74) rfl ?_
  refine gf_X7_141 C (hp0 23 (by decide)) dX7_heroHurls_74 (n := 77) rfl ?_
  refine dk_iload_n (i := 1) C dX7_heroHurls_77 (n := 78) rfl rfl rfl ?_
  refine dk_iload C dX7_heroHurls_78 (n := 80) rfl (i := 4) rfl ?_
  refine dk_callNv C [] (cc_X8_put C.D dk_sh25 (hp0 25 (by decide)) h) yy_X8_put dk_wm_X7_142 dX7_heroHurls_80 (fun s9 h => ?_) rfl ⟨Nat.le_of_ble_eq_true rfl, Nat.le_of_ble_eq_true rfl⟩ rfl (Nat.le_of_ble_eq_true rfl) rfl (n := 83) rfl
  refine dk_aload_n (i := 0) C dX7_heroHurls_83 (n := 84) rfl rfl rfl ?_
  refine gf_X7_35 C (hp0 0 (by decide)) dX7_heroHurls_84 (n := 87) rfl ?_
  refine gf_X7_210 C (hp0 23 (by decide)) dX7_heroHurls_87 (n := 90) rfl ?_
  refine dk_iload_n (i := 1) C dX7_heroHurls_90 (n := 91) rfl rfl rfl ?_
  refine dk_callNi C [] (cc_X8_at C.D dk_sh24 (hp0 24 (by decide)) h) yy_X8_at dk_wm_X7_82 dX7_heroHurls_91 (fun r11 s10 h => ?_) rfl ⟨Nat.le_of_ble_eq_true rfl, Nat.le_of_ble_eq_true rfl⟩ rfl (Nat.le_of_ble_eq_true rfl) rfl (n := 94) rfl
  refine dk_istore (i := 6) (L' := [some (dk_r G p0 0), some (.int x1), none, some (.int x3), some (.int x4), some (.int x5), some (.int r11)]) C dX7_heroHurls_94 (n := 96) rfl (dk_nc_of rfl) (Nat.le_of_ble_eq_true rfl) rfl ?_
  refine dk_iload C dX7_heroHurls_96 (n := 98) rfl (i := 6) rfl ?_
  refine dk_callNi C [] (cc_X8_isPotion C.D  h) yy_X8_isPotion dk_wm_X7_109 dX7_heroHurls_98 (fun r13 s12 h => ?_) rfl ⟨Nat.le_of_ble_eq_true rfl, Nat.le_of_ble_eq_true rfl⟩ rfl (Nat.le_of_ble_eq_true rfl) rfl (n := 101) rfl
  refine dk_if_eq (t := 143) C dX7_heroHurls_101 (n := 104) rfl (by decide) (fun c27 => ?_) (fun c27 => ?_)
  · have h := h.1 c27
    refine dk_iload C dX7_heroHurls_143 (n := 145) rfl (i := 6) rfl ?_
    refine dk_bipush (v := 7) C dX7_heroHurls_145 (n := 147) rfl (by decide) ?_
    refine dk_icmp_ne (t := 178) C dX7_heroHurls_147 (n := 150) rfl (by decide) (fun c20 => ?_) (fun c20 => ?_)
    · have h := h.1 c20
      refine dk_iload_n (i := 3) C dX7_heroHurls_178 (n := 179) rfl rfl rfl ?_
      exact dk_iret C hr hlk rfl dX7_heroHurls_179 ⟨_, rfl, h⟩
    · have h := h.2 c20
      refine dk_iload C dX7_heroHurls_150 (n := 152) rfl (i := 5) rfl ?_
      refine dk_if_eq (t := 178) C dX7_heroHurls_152 (n := 155) rfl (by decide) (fun c19 => ?_) (fun c19 => ?_)
      · have h := h.1 c19
        refine dk_iload_n (i := 3) C dX7_heroHurls_178 (n := 179) rfl rfl rfl ?_
        exact dk_iret C hr hlk rfl dX7_heroHurls_179 ⟨_, rfl, h⟩
      · have h := h.2 c19
        refine dk_aload_n (i := 0) C dX7_heroHurls_155 (n := 156) rfl rfl rfl ?_
        refine dk_aload_n (i := 0) C dX7_heroHurls_156 (n := 157) rfl rfl rfl ?_
        refine gf_X7_28 C (hp0 0 (by decide)) dX7_heroHurls_157 (n := 160) rfl ?_
        refine dk_iload C dX7_heroHurls_160 (n := 162) rfl (i := 4) rfl ?_
        refine dk_callVi C [dk_r G p0 0] (cc_X2_livingAt C.D hp0 h) yy_X2_livingAt dk_wm_X7_173 dk_sh13 (hp0 13 (by decide)) dX7_heroHurls_162 (fun r15 s14 h => ?_) rfl rfl ⟨Nat.le_of_ble_eq_true rfl, Nat.le_of_ble_eq_true rfl⟩ rfl (Nat.le_of_ble_eq_true rfl) rfl (n := 165) rfl
        refine dk_iconst (v := 4) C dX7_heroHurls_165 (n := 166) rfl (by decide) ?_
        refine dk_callVv C [] (cc_X7_strike C.D hp0 h) yy_X7_strike dk_wm_X7_183 dk_sh0 (hp0 0 (by decide)) dX7_heroHurls_166 (fun s16 h => ?_) rfl rfl ⟨Nat.le_of_ble_eq_true rfl, Nat.le_of_ble_eq_true rfl⟩ rfl (Nat.le_of_ble_eq_true rfl) rfl (n := 169) rfl
        refine dk_aload_n (i := 0) C dX7_heroHurls_169 (n := 170) rfl rfl rfl ?_
        refine dk_iload C dX7_heroHurls_170 (n := 172) rfl (i := 4) rfl ?_
        refine dk_bipush (v := 6) C dX7_heroHurls_172 (n := 174) rfl (by decide) ?_
        refine dk_callVi C [] (cc_X7_makeNoise C.D hp0 h) yy_X7_makeNoise dk_wm_X7_159 dk_sh0 (hp0 0 (by decide)) dX7_heroHurls_174 (fun r18 s17 h => ?_) rfl rfl ⟨Nat.le_of_ble_eq_true rfl, Nat.le_of_ble_eq_true rfl⟩ rfl (Nat.le_of_ble_eq_true rfl) rfl (n := 177) rfl
        refine dk_pop C dX7_heroHurls_177 (n := 178) rfl rfl ?_
        refine dk_iload_n (i := 3) C dX7_heroHurls_178 (n := 179) rfl rfl rfl ?_
        exact dk_iret C hr hlk rfl dX7_heroHurls_179 ⟨_, rfl, h⟩
  · have h := h.2 c27
    refine dk_aload_n (i := 0) C dX7_heroHurls_104 (n := 105) rfl rfl rfl ?_
    refine dk_iload_n (i := 1) C dX7_heroHurls_105 (n := 106) rfl rfl rfl ?_
    refine dk_iload C dX7_heroHurls_106 (n := 108) rfl (i := 4) rfl ?_
    refine dk_callVv C [] (cc_X7_shatter C.D hp0 h) yy_X7_shatter dk_wm_X7_226 dk_sh0 (hp0 0 (by decide)) dX7_heroHurls_108 (fun s21 h => ?_) rfl rfl ⟨Nat.le_of_ble_eq_true rfl, Nat.le_of_ble_eq_true rfl⟩ rfl (Nat.le_of_ble_eq_true rfl) rfl (n := 111) rfl
    refine dk_aload_n (i := 0) C dX7_heroHurls_111 (n := 112) rfl rfl rfl ?_
    refine dk_iload C dX7_heroHurls_112 (n := 114) rfl (i := 6) rfl ?_
    refine dk_iload C dX7_heroHurls_114 (n := 116) rfl (i := 4) rfl ?_
    refine dk_aload_n (i := 0) C dX7_heroHurls_116 (n := 117) rfl rfl rfl ?_
    refine gf_X7_21 C (hp0 0 (by decide)) dX7_heroHurls_117 (n := 120) rfl ?_
    refine gf_X7_229 C (hp0 7 (by decide)) dX7_heroHurls_120 (n := 123) rfl ?_
    refine dk_iload C dX7_heroHurls_123 (n := 125) rfl (i := 6) rfl ?_
    refine dk_callNi C [.int x4, .int r11, dk_r G p0 0] (cc_X8_at C.D dk_sh12 (hp0 12 (by decide)) h) yy_X8_at dk_wm_X7_82 dX7_heroHurls_125 (fun r23 s22 h => ?_) rfl ⟨Nat.le_of_ble_eq_true rfl, Nat.le_of_ble_eq_true rfl⟩ rfl (Nat.le_of_ble_eq_true rfl) rfl (n := 128) rfl
    refine dk_callVv C [] (cc_X7_burnBy C.D hp0 h) yy_X7_burnBy dk_wm_X7_219 dk_sh0 (hp0 0 (by decide)) dX7_heroHurls_128 (fun s24 h => ?_) rfl rfl ⟨Nat.le_of_ble_eq_true rfl, Nat.le_of_ble_eq_true rfl⟩ rfl (Nat.le_of_ble_eq_true rfl) rfl (n := 131) rfl
    refine dk_aload_n (i := 0) C dX7_heroHurls_131 (n := 132) rfl rfl rfl ?_
    refine dk_iload C dX7_heroHurls_132 (n := 134) rfl (i := 4) rfl ?_
    refine dk_bipush (v := 6) C dX7_heroHurls_134 (n := 136) rfl (by decide) ?_
    refine dk_callVi C [] (cc_X7_makeNoise C.D hp0 h) yy_X7_makeNoise dk_wm_X7_159 dk_sh0 (hp0 0 (by decide)) dX7_heroHurls_136 (fun r26 s25 h => ?_) rfl rfl ⟨Nat.le_of_ble_eq_true rfl, Nat.le_of_ble_eq_true rfl⟩ rfl (Nat.le_of_ble_eq_true rfl) rfl (n := 139) rfl
    refine dk_pop C dX7_heroHurls_139 (n := 140) rfl rfl ?_
    refine dk_goto (t := 178) C dX7_heroHurls_140 (by decide) ?_
    refine dk_iload_n (i := 3) C dX7_heroHurls_178 (n := 179) rfl rfl rfl ?_
    exact dk_iret C hr hlk rfl dX7_heroHurls_179 ⟨_, rfl, h⟩
set_option maxRecDepth 20000 in
set_option maxHeartbeats 4000000 in
theorem ww_X7_heroHurls_11 {G : dk_G} {P : Program} {l : Launch} {e : Env} {S0 : State} {m : MethodId} {args : Array Value} {bel : List Frame} {meth : Method} {c : Code} {p0 : Nat} (C : dk_C G P (dk_rm 5) S0 m args c 0 0 cX7_heroHurls 7 RX7) (hr : meth.sig.returnType = (some .int)) (hlk : meth.locks = false) (hp0 : dk_WI G p0) {K : Int32 → dk_S → Prop} {E70 : Int32 → Int32 → Int32 → Int32 → dk_S → Prop} (hE70 : ∀ (x1 : Int32) (x3 : Int32) (x4 : Int32) (x5 : Int32) (s : dk_S), E70 x1 x3 x4 x5 s → dk_W G P l e (dk_rm 5) S0 m args bel meth c 0 0 (MQ bel (dk_Qc G (dk_ki K)) args S0 0 0 (dk_A G)) 70 [some (dk_r G p0 0), some (.int x1), none, some (.int x3), some (.int x4), some (.int x5), none] [] s) : ∀ (n : Nat) (x1 : Int32) (x2 : Int32) (x3 : Int32) (x4 : Int32) (x5 : Int32) (s : dk_S), wf_X7_heroHurls_11 p0 K E70 n x1 x2 x3 x4 x5 s → dk_W G P l e (dk_rm 5) S0 m args bel meth c 0 0 (MQ bel (dk_Qc G (dk_ki K)) args S0 0 0 (dk_A G)) 11 [some (dk_r G p0 0), some (.int x1), some (.int x2), some (.int x3), some (.int x4), some (.int x5), none] [] s := by
  intro n
  induction n with
  | zero => intro x1 x2 x3 x4 x5 s h; exact False.elim h
  | succ n hB =>
    intro x1 x2 x3 x4 x5 s h
    unfold wf_X7_heroHurls_11 at h
    refine dk_iload_n (i := 3) C dX7_heroHurls_11 (n := 12) rfl rfl rfl ?_
    refine dk_iconst (v := 5) C dX7_heroHurls_12 (n := 13) rfl (by decide) ?_
    refine dk_icmp_ge (t := 70) C dX7_heroHurls_13 (n := 16) rfl (by decide) (fun c40 => ?_) (fun c40 => ?_)
    · have h := h.1 c40
      refine dk_sub (L0 := [some (dk_r G p0 0), some (.int x1), none, some (.int x3), some (.int x4), some (.int x5), none]) ⟨rfl, ⟨rfl, ⟨rfl, ⟨rfl, ⟨rfl, trivial⟩⟩⟩⟩⟩ ?_
      exact hE70 x1 x3 x4 x5 s h
    · have h := h.2 c40
      refine dk_iload C dX7_heroHurls_16 (n := 18) rfl (i := 5) rfl ?_
      refine dk_if_ne (t := 70) C dX7_heroHurls_18 (n := 21) rfl (by decide) (fun c39 => ?_) (fun c39 => ?_)
      · have h := h.1 c39
        refine dk_sub (L0 := [some (dk_r G p0 0), some (.int x1), none, some (.int x3), some (.int x4), some (.int x5), none]) ⟨rfl, ⟨rfl, ⟨rfl, ⟨rfl, ⟨rfl, trivial⟩⟩⟩⟩⟩ ?_
        exact hE70 x1 x3 x4 x5 s h
      · have h := h.2 c39
        refine dk_aload_n (i := 0) C dX7_heroHurls_21 (n := 22) rfl rfl rfl ?_
        refine gf_X7_12 C (hp0 0 (by decide)) dX7_heroHurls_22 (n := 25) rfl ?_
        refine dk_iload C dX7_heroHurls_25 (n := 27) rfl (i := 4) rfl ?_
        refine dk_iload_n (i := 2) C dX7_heroHurls_27 (n := 28) rfl rfl rfl ?_
        refine dk_callNi C [dk_r G p0 1] (cc_X8_beside C.D  h) yy_X8_beside dk_wm_X7_170 dX7_heroHurls_28 (fun r29 s28 h => ?_) rfl ⟨Nat.le_of_ble_eq_true rfl, Nat.le_of_ble_eq_true rfl⟩ rfl (Nat.le_of_ble_eq_true rfl) rfl (n := 31) rfl
        refine dk_callVi C [] (cc_X1_isFreeAt C.D hp0 h) yy_X1_isFreeAt dk_wm_X7_89 dk_sh1 (hp0 1 (by decide)) dX7_heroHurls_31 (fun r31 s30 h => ?_) rfl rfl ⟨Nat.le_of_ble_eq_true rfl, Nat.le_of_ble_eq_true rfl⟩ rfl (Nat.le_of_ble_eq_true rfl) rfl (n := 34) rfl
        refine dk_if_eq (t := 70) C dX7_heroHurls_34 (n := 37) rfl (by decide) (fun c38 => ?_) (fun c38 => ?_)
        · have h := h.1 c38
          refine dk_sub (L0 := [some (dk_r G p0 0), some (.int x1), none, some (.int x3), some (.int x4), some (.int x5), none]) ⟨rfl, ⟨rfl, ⟨rfl, ⟨rfl, ⟨rfl, trivial⟩⟩⟩⟩⟩ ?_
          exact hE70 x1 x3 x4 x5 s30 h
        · have h := h.2 c38
          refine dk_iload C dX7_heroHurls_37 (n := 39) rfl (i := 4) rfl ?_
          refine dk_iload_n (i := 2) C dX7_heroHurls_39 (n := 40) rfl rfl rfl ?_
          refine dk_callNi C [] (cc_X8_beside C.D  h) yy_X8_beside dk_wm_X7_170 dX7_heroHurls_40 (fun r33 s32 h => ?_) rfl ⟨Nat.le_of_ble_eq_true rfl, Nat.le_of_ble_eq_true rfl⟩ rfl (Nat.le_of_ble_eq_true rfl) rfl (n := 43) rfl
          refine dk_istore (i := 4) (L' := [some (dk_r G p0 0), some (.int x1), some (.int x2), some (.int x3), some (.int r33), some (.int x5), none]) C dX7_heroHurls_43 (n := 45) rfl (dk_nc_of rfl) (Nat.le_of_ble_eq_true rfl) rfl ?_
          obtain ⟨v34, ev34⟩ : ∃ y : Int32, y = x3 + 1 := ⟨_, rfl⟩
          have h := h v34 ev34
          refine dk_iinc (i := 3) (v := v34) (L' := [some (dk_r G p0 0), some (.int x1), some (.int x2), some (.int v34), some (.int r33), some (.int x5), none]) C dX7_heroHurls_45 (n := 48) rfl rfl (by rw [ev34]; rfl) (dk_nc_of rfl) (Nat.le_of_ble_eq_true rfl) rfl ?_
          refine dk_aload_n (i := 0) C dX7_heroHurls_48 (n := 49) rfl rfl rfl ?_
          refine gf_X7_28 C (hp0 0 (by decide)) dX7_heroHurls_49 (n := 52) rfl ?_
          refine dk_iload C dX7_heroHurls_52 (n := 54) rfl (i := 4) rfl ?_
          refine dk_callVi C [] (cc_X2_livingAt C.D hp0 h) yy_X2_livingAt dk_wm_X7_173 dk_sh13 (hp0 13 (by decide)) dX7_heroHurls_54 (fun r36 s35 h => ?_) rfl rfl ⟨Nat.le_of_ble_eq_true rfl, Nat.le_of_ble_eq_true rfl⟩ rfl (Nat.le_of_ble_eq_true rfl) rfl (n := 57) rfl
          refine dk_if_le (t := 64) C dX7_heroHurls_57 (n := 60) rfl (by decide) (fun c37 => ?_) (fun c37 => ?_)
          · have h := h.1 c37
            refine dk_iconst (v := 0) C dX7_heroHurls_64 (n := 65) rfl (by decide) ?_
            refine dk_istore (i := 5) (L' := [some (dk_r G p0 0), some (.int x1), some (.int x2), some (.int v34), some (.int r33), some (.int 0), none]) C dX7_heroHurls_65 (n := 67) rfl (dk_nc_of rfl) (Nat.le_of_ble_eq_true rfl) rfl ?_
            refine dk_goto (t := 11) C dX7_heroHurls_67 (by decide) ?_
            refine dk_sub (L0 := [some (dk_r G p0 0), some (.int x1), some (.int x2), some (.int v34), some (.int r33), some (.int 0), none]) ⟨rfl, ⟨rfl, ⟨rfl, ⟨rfl, ⟨rfl, ⟨rfl, trivial⟩⟩⟩⟩⟩⟩ ?_
            exact hB x1 x2 v34 r33 0 s35 h
          · have h := h.2 c37
            refine dk_iconst (v := 1) C dX7_heroHurls_60 (n := 61) rfl (by decide) ?_
            refine dk_goto (t := 65) C dX7_heroHurls_61 (by decide) ?_
            refine dk_istore (i := 5) (L' := [some (dk_r G p0 0), some (.int x1), some (.int x2), some (.int v34), some (.int r33), some (.int 1), none]) C dX7_heroHurls_65 (n := 67) rfl (dk_nc_of rfl) (Nat.le_of_ble_eq_true rfl) rfl ?_
            refine dk_goto (t := 11) C dX7_heroHurls_67 (by decide) ?_
            refine dk_sub (L0 := [some (dk_r G p0 0), some (.int x1), some (.int x2), some (.int v34), some (.int r33), some (.int 1), none]) ⟨rfl, ⟨rfl, ⟨rfl, ⟨rfl, ⟨rfl, ⟨rfl, trivial⟩⟩⟩⟩⟩⟩ ?_
            exact hB x1 x2 v34 r33 1 s35 h
set_option maxRecDepth 20000 in
set_option maxHeartbeats 4000000 in
theorem cc_X7_heroHurls {G : dk_G} {l : Launch} {p0 : Nat} {a1 : Int32} {a2 : Int32} (hD : dk_D G) (hp0 : dk_WI G p0) {s : dk_S} {K : Int32 → dk_S → Prop} (h : wf_X7_heroHurls p0 a1 a2 s K) : dk_M G l 5 yX7_heroHurls cX7_heroHurls 7 (some .int) [dk_r G p0 0, .int a1, .int a2] s (dk_ki K) := by
  refine dk_of hD (by decide) [some (dk_r G p0 0), some (.int a1), some (.int a2), none, none, none, none] (fun q hq => hq) rfl (Nat.le_of_ble_eq_true rfl) (fun P e S0 m args bel meth c C hr hlk => ?_)
  unfold wf_X7_heroHurls at h
  refine dk_iconst (v := 0) C dX7_heroHurls_0 (n := 1) rfl (by decide) ?_
  refine dk_istore_n (i := 3) (L' := [some (dk_r G p0 0), some (.int a1), some (.int a2), some (.int 0), none, none, none]) C dX7_heroHurls_1 (n := 2) rfl rfl (dk_nc_of rfl) (Nat.le_of_ble_eq_true rfl) rfl ?_
  refine dk_aload_n (i := 0) C dX7_heroHurls_2 (n := 3) rfl rfl rfl ?_
  refine dk_callVi C [] (cc_X7_heroSpot C.D hp0 h) yy_X7_heroSpot dk_wm_X7_93 dk_sh0 (hp0 0 (by decide)) dX7_heroHurls_3 (fun r2 s1 h => ?_) rfl rfl ⟨Nat.le_of_ble_eq_true rfl, Nat.le_of_ble_eq_true rfl⟩ rfl (Nat.le_of_ble_eq_true rfl) rfl (n := 6) rfl
  refine dk_istore (i := 4) (L' := [some (dk_r G p0 0), some (.int a1), some (.int a2), some (.int 0), some (.int r2), none, none]) C dX7_heroHurls_6 (n := 8) rfl (dk_nc_of rfl) (Nat.le_of_ble_eq_true rfl) rfl ?_
  refine dk_iconst (v := 0) C dX7_heroHurls_8 (n := 9) rfl (by decide) ?_
  refine dk_istore (i := 5) (L' := [some (dk_r G p0 0), some (.int a1), some (.int a2), some (.int 0), some (.int r2), some (.int 0), none]) C dX7_heroHurls_9 (n := 11) rfl (dk_nc_of rfl) (Nat.le_of_ble_eq_true rfl) rfl ?_
  obtain ⟨nn8, h⟩ := h
  refine dk_sub (L0 := [some (dk_r G p0 0), some (.int a1), some (.int a2), some (.int 0), some (.int r2), some (.int 0), none]) ⟨rfl, ⟨rfl, ⟨rfl, ⟨rfl, ⟨rfl, ⟨rfl, trivial⟩⟩⟩⟩⟩⟩ ?_
  refine ww_X7_heroHurls_11 C hr hlk hp0 (fun w3 w4 w5 w6 s7 h => ?_) nn8 a1 a2 0 r2 0 s1 h
  · refine dk_sub (L0 := [some (dk_r G p0 0), some (.int w3), none, some (.int w4), some (.int w5), some (.int w6), none]) ⟨rfl, ⟨rfl, ⟨rfl, ⟨rfl, ⟨rfl, trivial⟩⟩⟩⟩⟩ ?_
    exact ww_X7_heroHurls_70 C hr hlk hp0  w3 w4 w5 w6 s7 h
/-! X7_heroPrays -/
set_option maxRecDepth 20000 in
set_option maxHeartbeats 4000000 in
theorem ww_X7_heroPrays_53 {G : dk_G} {P : Program} {l : Launch} {e : Env} {S0 : State} {m : MethodId} {args : Array Value} {bel : List Frame} {meth : Method} {c : Code} {p0 : Nat} (C : dk_C G P (dk_rm 3) S0 m args c 0 0 cX7_heroPrays 1 RX7) (hr : meth.sig.returnType = (some .int)) (hlk : meth.locks = false) (hp0 : dk_WI G p0) {K : Int32 → dk_S → Prop}  : ∀  (s : dk_S), wf_X7_heroPrays_53 p0 K s → dk_W G P l e (dk_rm 3) S0 m args bel meth c 0 0 (MQ bel (dk_Qc G (dk_ki K)) args S0 0 0 (dk_A G)) 53 [some (dk_r G p0 0)] [] s := by
  intro s h
  unfold wf_X7_heroPrays_53 at h
  refine dk_aload_n (i := 0) C dX7_heroPrays_53 (n := 54) rfl rfl rfl ?_
  refine dk_dup C dX7_heroPrays_54 (n := 55) rfl rfl ?_
  refine gf_X7_53 C (hp0 0 (by decide)) dX7_heroPrays_55 (n := 58) rfl ?_
  refine dk_iconst (v := 1) C dX7_heroPrays_58 (n := 59) rfl (by decide) ?_
  refine dk_isub C dX7_heroPrays_59 (n := 60) rfl ?_
  refine pf_X7_53 C rfl rfl (hp0 0 (by decide)) dX7_heroPrays_60 (n := 63) rfl ?_
  refine dk_nameS (fun s9 es9 => ?_)
  have h := h s9 es9
  refine dk_aload_n (i := 0) C dX7_heroPrays_63 (n := 64) rfl rfl rfl ?_
  refine gf_X7_53 C (hp0 0 (by decide)) dX7_heroPrays_64 (n := 67) rfl ?_
  exact dk_iret C hr hlk rfl dX7_heroPrays_67 ⟨_, rfl, h⟩
set_option maxRecDepth 20000 in
set_option maxHeartbeats 4000000 in
theorem cc_X7_heroPrays {G : dk_G} {l : Launch} {p0 : Nat} (hD : dk_D G) (hp0 : dk_WI G p0) {s : dk_S} {K : Int32 → dk_S → Prop} (h : wf_X7_heroPrays p0 s K) : dk_M G l 3 yX7_heroPrays cX7_heroPrays 1 (some .int) [dk_r G p0 0] s (dk_ki K) := by
  refine dk_of hD (by decide) [some (dk_r G p0 0)] (fun q hq => hq) rfl (Nat.le_of_ble_eq_true rfl) (fun P e S0 m args bel meth c C hr hlk => ?_)
  unfold wf_X7_heroPrays at h
  refine dk_aload_n (i := 0) C dX7_heroPrays_0 (n := 1) rfl rfl rfl ?_
  refine gf_X7_28 C (hp0 0 (by decide)) dX7_heroPrays_1 (n := 4) rfl ?_
  refine dk_iconst (v := 0) C dX7_heroPrays_4 (n := 5) rfl (by decide) ?_
  refine dk_callVi C [] (cc_X2_isWeak C.D hp0 h) yy_X2_isWeak dk_wm_X7_198 dk_sh13 (hp0 13 (by decide)) dX7_heroPrays_5 (fun r2 s1 h => ?_) rfl rfl ⟨Nat.le_of_ble_eq_true rfl, Nat.le_of_ble_eq_true rfl⟩ rfl (Nat.le_of_ble_eq_true rfl) rfl (n := 8) rfl
  refine dk_if_eq (t := 53) C dX7_heroPrays_8 (n := 11) rfl (by decide) (fun c8 => ?_) (fun c8 => ?_)
  · have h := h.1 c8
    refine dk_sub (L0 := [some (dk_r G p0 0)]) ⟨rfl, trivial⟩ ?_
    exact ww_X7_heroPrays_53 C hr hlk hp0   s1 h
  · have h := h.2 c8
    refine dk_aload_n (i := 0) C dX7_heroPrays_11 (n := 12) rfl rfl rfl ?_
    refine gf_X7_53 C (hp0 0 (by decide)) dX7_heroPrays_12 (n := 15) rfl ?_
    refine dk_if_lt (t := 53) C dX7_heroPrays_15 (n := 18) rfl (by decide) (fun c7 => ?_) (fun c7 => ?_)
    · have h := h.1 c7
      refine dk_sub (L0 := [some (dk_r G p0 0)]) ⟨rfl, trivial⟩ ?_
      exact ww_X7_heroPrays_53 C hr hlk hp0   s1 h
    · have h := h.2 c7
      refine dk_aload_n (i := 0) C dX7_heroPrays_18 (n := 19) rfl rfl rfl ?_
      refine gf_X7_28 C (hp0 0 (by decide)) dX7_heroPrays_19 (n := 22) rfl ?_
      refine gf_X7_223 C (hp0 13 (by decide)) dX7_heroPrays_22 (n := 25) rfl ?_
      refine dk_iconst (v := 0) C dX7_heroPrays_25 (n := 26) rfl (by decide) ?_
      refine dk_aload_n (i := 0) C dX7_heroPrays_26 (n := 27) rfl rfl rfl ?_
      refine gf_X7_28 C (hp0 0 (by decide)) dX7_heroPrays_27 (n := 30) rfl ?_
      refine gf_X7_254 C (hp0 13 (by decide)) dX7_heroPrays_30 (n := 33) rfl ?_
      refine dk_iconst (v := 0) C dX7_heroPrays_33 (n := 34) rfl (by decide) ?_
      refine dk_callNi C [.int 0, dk_r G p0 18] (cc_X8_at C.D dk_sh17 (hp0 17 (by decide)) h) yy_X8_at dk_wm_X7_82 dX7_heroPrays_34 (fun r4 s3 h => ?_) rfl ⟨Nat.le_of_ble_eq_true rfl, Nat.le_of_ble_eq_true rfl⟩ rfl (Nat.le_of_ble_eq_true rfl) rfl (n := 37) rfl
      refine dk_callNv C [] (cc_X8_put C.D dk_sh18 (hp0 18 (by decide)) h) yy_X8_put dk_wm_X7_142 dX7_heroPrays_37 (fun s5 h => ?_) rfl ⟨Nat.le_of_ble_eq_true rfl, Nat.le_of_ble_eq_true rfl⟩ rfl (Nat.le_of_ble_eq_true rfl) rfl (n := 40) rfl
      refine dk_aload_n (i := 0) C dX7_heroPrays_40 (n := 41) rfl rfl rfl ?_
      refine dk_dup C dX7_heroPrays_41 (n := 42) rfl rfl ?_
      refine gf_X7_53 C (hp0 0 (by decide)) dX7_heroPrays_42 (n := 45) rfl ?_
      refine dk_iconst (v := 5) C dX7_heroPrays_45 (n := 46) rfl (by decide) ?_
      refine dk_isub C dX7_heroPrays_46 (n := 47) rfl ?_
      refine pf_X7_53 C rfl rfl (hp0 0 (by decide)) dX7_heroPrays_47 (n := 50) rfl ?_
      refine dk_nameS (fun s6 es6 => ?_)
      have h := h s6 es6
      refine dk_goto (t := 63) C dX7_heroPrays_50 (by decide) ?_
      refine dk_aload_n (i := 0) C dX7_heroPrays_63 (n := 64) rfl rfl rfl ?_
      refine gf_X7_53 C (hp0 0 (by decide)) dX7_heroPrays_64 (n := 67) rfl ?_
      exact dk_iret C hr hlk rfl dX7_heroPrays_67 ⟨_, rfl, h⟩
