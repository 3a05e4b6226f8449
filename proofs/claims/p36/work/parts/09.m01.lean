/-! X2_allStandApart -/
set_option maxRecDepth 20000 in
set_option maxHeartbeats 4000000 in
theorem ww_X2_allStandApart_2 {G : dk_G} {P : Program} {l : Launch} {e : Env} {S0 : State} {m : MethodId} {args : Array Value} {bel : List Frame} {meth : Method} {c : Code} {p0 : Nat} (C : dk_C G P (dk_rm 3) S0 m args c 0 0 cX2_allStandApart 2 RX2) (hr : meth.sig.returnType = (some .boolean)) (hlk : meth.locks = false) (hp0 : dk_WI G p0) {K : Int32 → dk_S → Prop}  : ∀ (n : Nat) (x1 : Int32) (s : dk_S), wf_X2_allStandApart_2 p0 K n x1 s → dk_W G P l e (dk_rm 3) S0 m args bel meth c 0 0 (MQ bel (dk_Qc G (dk_ki K)) args S0 0 0 (dk_A G)) 2 [some (dk_r G p0 13), some (.int x1)] [] s := by
  intro n
  induction n with
  | zero => intro x1 s h; exact False.elim h
  | succ n hB =>
    intro x1 s h
    unfold wf_X2_allStandApart_2 at h
    refine dk_iload_n (i := 1) C dX2_allStandApart_2 (n := 3) rfl rfl rfl ?_
    refine dk_aload_n (i := 0) C dX2_allStandApart_3 (n := 4) rfl rfl rfl ?_
    refine gf_X2_39 C (hp0 13 (by decide)) dX2_allStandApart_4 (n := 7) rfl ?_
    refine dk_icmp_ge (t := 34) C dX2_allStandApart_7 (n := 10) rfl (by decide) (fun c8 => ?_) (fun c8 => ?_)
    · have h := h.1 c8
      refine dk_iconst (v := 1) C dX2_allStandApart_34 (n := 35) rfl (by decide) ?_
      exact dk_iret C hr hlk dk_nz1 dX2_allStandApart_35 ⟨_, rfl, h⟩
    · have h := h.2 c8
      refine dk_aload_n (i := 0) C dX2_allStandApart_10 (n := 11) rfl rfl rfl ?_
      refine dk_aload_n (i := 0) C dX2_allStandApart_11 (n := 12) rfl rfl rfl ?_
      refine gf_X2_9 C (hp0 13 (by decide)) dX2_allStandApart_12 (n := 15) rfl ?_
      refine dk_iload_n (i := 1) C dX2_allStandApart_15 (n := 16) rfl rfl rfl ?_
      refine dk_callNi C [dk_r G p0 13] (cc_X8_at C.D dk_sh14 (hp0 14 (by decide)) h) yy_X8_at dk_wm_X2_51 dX2_allStandApart_16 (fun r3 s2 h => ?_) rfl ⟨Nat.le_of_ble_eq_true rfl, Nat.le_of_ble_eq_true rfl⟩ rfl (Nat.le_of_ble_eq_true rfl) rfl (n := 19) rfl
      refine dk_callVi C [] (cc_X2_livingAt C.D hp0 h) yy_X2_livingAt dk_wm_X2_65 dk_sh13 (hp0 13 (by decide)) dX2_allStandApart_19 (fun r5 s4 h => ?_) rfl rfl ⟨Nat.le_of_ble_eq_true rfl, Nat.le_of_ble_eq_true rfl⟩ rfl (Nat.le_of_ble_eq_true rfl) rfl (n := 22) rfl
      refine dk_iload_n (i := 1) C dX2_allStandApart_22 (n := 23) rfl rfl rfl ?_
      refine dk_icmp_eq (t := 28) C dX2_allStandApart_23 (n := 26) rfl (by decide) (fun c7 => ?_) (fun c7 => ?_)
      · have h := h.1 c7
        obtain ⟨v6, ev6⟩ : ∃ y : Int32, y = x1 + 1 := ⟨_, rfl⟩
        have h := h v6 ev6
        refine dk_iinc (i := 1) (v := v6) (L' := [some (dk_r G p0 13), some (.int v6)]) C dX2_allStandApart_28 (n := 31) rfl rfl (by rw [ev6]; rfl) (dk_nc_of rfl) (Nat.le_of_ble_eq_true rfl) rfl ?_
        refine dk_goto (t := 2) C dX2_allStandApart_31 (by decide) ?_
        refine dk_sub (L0 := [some (dk_r G p0 13), some (.int v6)]) ⟨rfl, ⟨rfl, trivial⟩⟩ ?_
        exact hB v6 s4 h
      · have h := h.2 c7
        refine dk_iconst (v := 0) C dX2_allStandApart_26 (n := 27) rfl (by decide) ?_
        exact dk_iret C hr hlk dk_nz0 dX2_allStandApart_27 ⟨_, rfl, h⟩
set_option maxRecDepth 20000 in
set_option maxHeartbeats 4000000 in
theorem cc_X2_allStandApart {G : dk_G} {l : Launch} {p0 : Nat} (hD : dk_D G) (hp0 : dk_WI G p0) {s : dk_S} {K : Int32 → dk_S → Prop} (h : wf_X2_allStandApart p0 s K) : dk_M G l 3 yX2_allStandApart cX2_allStandApart 2 (some .boolean) [dk_r G p0 13] s (dk_ki K) := by
  refine dk_of hD (by decide) [some (dk_r G p0 13), none] (fun q hq => hq) rfl (Nat.le_of_ble_eq_true rfl) (fun P e S0 m args bel meth c C hr hlk => ?_)
  unfold wf_X2_allStandApart at h
  refine dk_iconst (v := 0) C dX2_allStandApart_0 (n := 1) rfl (by decide) ?_
  refine dk_istore_n (i := 1) (L' := [some (dk_r G p0 13), some (.int 0)]) C dX2_allStandApart_1 (n := 2) rfl rfl (dk_nc_of rfl) (Nat.le_of_ble_eq_true rfl) rfl ?_
  obtain ⟨nn1, h⟩ := h
  refine dk_sub (L0 := [some (dk_r G p0 13), some (.int 0)]) ⟨rfl, ⟨rfl, trivial⟩⟩ ?_
  refine ww_X2_allStandApart_2 C hr hlk hp0  nn1 0 s h
/-! X2_isWeak -/
set_option maxRecDepth 20000 in
set_option maxHeartbeats 4000000 in
theorem cc_X2_isWeak {G : dk_G} {l : Launch} {p0 : Nat} {a1 : Int32} (hD : dk_D G) (hp0 : dk_WI G p0) {s : dk_S} {K : Int32 → dk_S → Prop} (h : wf_X2_isWeak p0 a1 s K) : dk_M G l 2 yX2_isWeak cX2_isWeak 2 (some .boolean) [dk_r G p0 13, .int a1] s (dk_ki K) := by
  refine dk_of hD (by decide) [some (dk_r G p0 13), some (.int a1)] (fun q hq => hq) rfl (Nat.le_of_ble_eq_true rfl) (fun P e S0 m args bel meth c C hr hlk => ?_)
  unfold wf_X2_isWeak at h
  refine dk_iconst (v := 3) C dX2_isWeak_0 (n := 1) rfl (by decide) ?_
  refine dk_aload_n (i := 0) C dX2_isWeak_1 (n := 2) rfl rfl rfl ?_
  refine gf_X2_24 C (hp0 13 (by decide)) dX2_isWeak_2 (n := 5) rfl ?_
  refine dk_iload_n (i := 1) C dX2_isWeak_5 (n := 6) rfl rfl rfl ?_
  refine dk_callNi C [.int 3] (cc_X8_at C.D dk_sh18 (hp0 18 (by decide)) h) yy_X8_at dk_wm_X2_51 dX2_isWeak_6 (fun r2 s1 h => ?_) rfl ⟨Nat.le_of_ble_eq_true rfl, Nat.le_of_ble_eq_true rfl⟩ rfl (Nat.le_of_ble_eq_true rfl) rfl (n := 9) rfl
  refine dk_imul C dX2_isWeak_9 (n := 10) rfl ?_
  refine dk_aload_n (i := 0) C dX2_isWeak_10 (n := 11) rfl rfl rfl ?_
  refine gf_X2_21 C (hp0 13 (by decide)) dX2_isWeak_11 (n := 14) rfl ?_
  refine dk_iload_n (i := 1) C dX2_isWeak_14 (n := 15) rfl rfl rfl ?_
  refine dk_callNi C [.int (3 * r2)] (cc_X8_at C.D dk_sh17 (hp0 17 (by decide)) h) yy_X8_at dk_wm_X2_51 dX2_isWeak_15 (fun r4 s3 h => ?_) rfl ⟨Nat.le_of_ble_eq_true rfl, Nat.le_of_ble_eq_true rfl⟩ rfl (Nat.le_of_ble_eq_true rfl) rfl (n := 18) rfl
  refine dk_icmp_ge (t := 25) C dX2_isWeak_18 (n := 21) rfl (by decide) (fun c5 => ?_) (fun c5 => ?_)
  · have h := h.1 c5
    refine dk_iconst (v := 0) C dX2_isWeak_25 (n := 26) rfl (by decide) ?_
    exact dk_iret C hr hlk dk_nz0 dX2_isWeak_26 ⟨_, rfl, h⟩
  · have h := h.2 c5
    refine dk_iconst (v := 1) C dX2_isWeak_21 (n := 22) rfl (by decide) ?_
    refine dk_goto (t := 26) C dX2_isWeak_22 (by decide) ?_
    exact dk_iret C hr hlk dk_nz1 dX2_isWeak_26 ⟨_, rfl, h⟩
/-! X2_harm -/
set_option maxRecDepth 20000 in
set_option maxHeartbeats 4000000 in
theorem cc_X2_harm {G : dk_G} {l : Launch} {p0 : Nat} {a1 : Int32} {a2 : Int32} (hD : dk_D G) (hp0 : dk_WI G p0) {s : dk_S} {K : dk_S → Prop} (h : wf_X2_harm p0 a1 a2 s K) : dk_M G l 2 yX2_harm cX2_harm 3 none [dk_r G p0 13, .int a1, .int a2] s (dk_kv K) := by
  refine dk_of hD (by decide) [some (dk_r G p0 13), some (.int a1), some (.int a2)] (fun q hq => hq) rfl (Nat.le_of_ble_eq_true rfl) (fun P e S0 m args bel meth c C hr hlk => ?_)
  unfold wf_X2_harm at h
  refine dk_aload_n (i := 0) C dX2_harm_0 (n := 1) rfl rfl rfl ?_
  refine gf_X2_24 C (hp0 13 (by decide)) dX2_harm_1 (n := 4) rfl ?_
  refine dk_iload_n (i := 1) C dX2_harm_4 (n := 5) rfl rfl rfl ?_
  refine dk_aload_n (i := 0) C dX2_harm_5 (n := 6) rfl rfl rfl ?_
  refine gf_X2_24 C (hp0 13 (by decide)) dX2_harm_6 (n := 9) rfl ?_
  refine dk_iload_n (i := 1) C dX2_harm_9 (n := 10) rfl rfl rfl ?_
  refine dk_callNi C [.int a1, dk_r G p0 18] (cc_X8_at C.D dk_sh18 (hp0 18 (by decide)) h) yy_X8_at dk_wm_X2_51 dX2_harm_10 (fun r2 s1 h => ?_) rfl ⟨Nat.le_of_ble_eq_true rfl, Nat.le_of_ble_eq_true rfl⟩ rfl (Nat.le_of_ble_eq_true rfl) rfl (n := 13) rfl
  refine dk_iload_n (i := 2) C dX2_harm_13 (n := 14) rfl rfl rfl ?_
  refine dk_isub C dX2_harm_14 (n := 15) rfl ?_
  refine dk_callNv C [] (cc_X8_put C.D dk_sh18 (hp0 18 (by decide)) h) yy_X8_put dk_wm_X2_43 dX2_harm_15 (fun s3 h => ?_) rfl ⟨Nat.le_of_ble_eq_true rfl, Nat.le_of_ble_eq_true rfl⟩ rfl (Nat.le_of_ble_eq_true rfl) rfl (n := 18) rfl
  exact dk_vret C hr hlk dX2_harm_18 ⟨rfl, h⟩
/-! X2_heal -/
set_option maxRecDepth 20000 in
set_option maxHeartbeats 4000000 in
theorem cc_X2_heal {G : dk_G} {l : Launch} {p0 : Nat} {a1 : Int32} {a2 : Int32} (hD : dk_D G) (hp0 : dk_WI G p0) {s : dk_S} {K : dk_S → Prop} (h : wf_X2_heal p0 a1 a2 s K) : dk_M G l 2 yX2_heal cX2_heal 3 none [dk_r G p0 13, .int a1, .int a2] s (dk_kv K) := by
  refine dk_of hD (by decide) [some (dk_r G p0 13), some (.int a1), some (.int a2)] (fun q hq => hq) rfl (Nat.le_of_ble_eq_true rfl) (fun P e S0 m args bel meth c C hr hlk => ?_)
  unfold wf_X2_heal at h
  refine dk_aload_n (i := 0) C dX2_heal_0 (n := 1) rfl rfl rfl ?_
  refine gf_X2_24 C (hp0 13 (by decide)) dX2_heal_1 (n := 4) rfl ?_
  refine dk_iload_n (i := 1) C dX2_heal_4 (n := 5) rfl rfl rfl ?_
  refine dk_aload_n (i := 0) C dX2_heal_5 (n := 6) rfl rfl rfl ?_
  refine gf_X2_21 C (hp0 13 (by decide)) dX2_heal_6 (n := 9) rfl ?_
  refine dk_iload_n (i := 1) C dX2_heal_9 (n := 10) rfl rfl rfl ?_
  refine dk_callNi C [.int a1, dk_r G p0 18] (cc_X8_at C.D dk_sh17 (hp0 17 (by decide)) h) yy_X8_at dk_wm_X2_51 dX2_heal_10 (fun r2 s1 h => ?_) rfl ⟨Nat.le_of_ble_eq_true rfl, Nat.le_of_ble_eq_true rfl⟩ rfl (Nat.le_of_ble_eq_true rfl) rfl (n := 13) rfl
  refine dk_aload_n (i := 0) C dX2_heal_13 (n := 14) rfl rfl rfl ?_
  refine gf_X2_24 C (hp0 13 (by decide)) dX2_heal_14 (n := 17) rfl ?_
  refine dk_iload_n (i := 1) C dX2_heal_17 (n := 18) rfl rfl rfl ?_
  refine dk_callNi C [.int r2, .int a1, dk_r G p0 18] (cc_X8_at C.D dk_sh18 (hp0 18 (by decide)) h) yy_X8_at dk_wm_X2_51 dX2_heal_18 (fun r4 s3 h => ?_) rfl ⟨Nat.le_of_ble_eq_true rfl, Nat.le_of_ble_eq_true rfl⟩ rfl (Nat.le_of_ble_eq_true rfl) rfl (n := 21) rfl
  refine dk_iload_n (i := 2) C dX2_heal_21 (n := 22) rfl rfl rfl ?_
  refine dk_iadd C dX2_heal_22 (n := 23) rfl ?_
  refine dk_mmin C dk_wm_X2_69 dk_wm_min_s dk_wm_i dk_wm_min_c (Nat.le_of_ble_eq_true rfl) (Nat.le_of_ble_eq_true rfl) rfl dX2_heal_23 (n := 26) rfl ?_
  refine dk_callNv C [] (cc_X8_put C.D dk_sh18 (hp0 18 (by decide)) h) yy_X8_put dk_wm_X2_43 dX2_heal_26 (fun s5 h => ?_) rfl ⟨Nat.le_of_ble_eq_true rfl, Nat.le_of_ble_eq_true rfl⟩ rfl (Nat.le_of_ble_eq_true rfl) rfl (n := 29) rfl
  exact dk_vret C hr hlk dX2_heal_29 ⟨rfl, h⟩
/-! X2_hasten -/
set_option maxRecDepth 20000 in
set_option maxHeartbeats 4000000 in
theorem cc_X2_hasten {G : dk_G} {l : Launch} {p0 : Nat} {a1 : Int32} {a2 : Int32} (hD : dk_D G) (hp0 : dk_WI G p0) {s : dk_S} {K : dk_S → Prop} (h : wf_X2_hasten p0 a1 a2 s K) : dk_M G l 2 yX2_hasten cX2_hasten 3 none [dk_r G p0 13, .int a1, .int a2] s (dk_kv K) := by
  refine dk_of hD (by decide) [some (dk_r G p0 13), some (.int a1), some (.int a2)] (fun q hq => hq) rfl (Nat.le_of_ble_eq_true rfl) (fun P e S0 m args bel meth c C hr hlk => ?_)
  unfold wf_X2_hasten at h
  refine dk_aload_n (i := 0) C dX2_hasten_0 (n := 1) rfl rfl rfl ?_
  refine gf_X2_30 C (hp0 13 (by decide)) dX2_hasten_1 (n := 4) rfl ?_
  refine dk_iload_n (i := 1) C dX2_hasten_4 (n := 5) rfl rfl rfl ?_
  refine dk_iload_n (i := 2) C dX2_hasten_5 (n := 6) rfl rfl rfl ?_
  refine dk_callNv C [] (cc_X8_put C.D dk_sh20 (hp0 20 (by decide)) h) yy_X8_put dk_wm_X2_43 dX2_hasten_6 (fun s1 h => ?_) rfl ⟨Nat.le_of_ble_eq_true rfl, Nat.le_of_ble_eq_true rfl⟩ rfl (Nat.le_of_ble_eq_true rfl) rfl (n := 9) rfl
  refine dk_aload_n (i := 0) C dX2_hasten_9 (n := 10) rfl rfl rfl ?_
  refine gf_X2_33 C (hp0 13 (by decide)) dX2_hasten_10 (n := 13) rfl ?_
  refine dk_iload_n (i := 1) C dX2_hasten_13 (n := 14) rfl rfl rfl ?_
  refine dk_bipush (v := 12) C dX2_hasten_14 (n := 16) rfl (by decide) ?_
  refine dk_callNv C [] (cc_X8_put C.D dk_sh21 (hp0 21 (by decide)) h) yy_X8_put dk_wm_X2_43 dX2_hasten_16 (fun s2 h => ?_) rfl ⟨Nat.le_of_ble_eq_true rfl, Nat.le_of_ble_eq_true rfl⟩ rfl (Nat.le_of_ble_eq_true rfl) rfl (n := 19) rfl
  exact dk_vret C hr hlk dX2_hasten_19 ⟨rfl, h⟩
/-! X2_gainEnergy -/
set_option maxRecDepth 20000 in
set_option maxHeartbeats 4000000 in
theorem ww_X2_gainEnergy_67 {G : dk_G} {P : Program} {l : Launch} {e : Env} {S0 : State} {m : MethodId} {args : Array Value} {bel : List Frame} {meth : Method} {c : Code} {p0 : Nat} (C : dk_C G P (dk_rm 3) S0 m args c 0 0 cX2_gainEnergy 3 RX2) (hr : meth.sig.returnType = none) (hlk : meth.locks = false) (hp0 : dk_WI G p0) {K : dk_S → Prop} {B : Int32 → dk_S → Prop} (hB : ∀ (x1 : Int32) (s : dk_S), B x1 s → dk_W G P l e (dk_rm 3) S0 m args bel meth c 0 0 (MQ bel (dk_Qc G (dk_kv K)) args S0 0 0 (dk_A G)) 2 [some (dk_r G p0 13), some (.int x1), none] [] s)  : ∀ (x1 : Int32) (s : dk_S), wf_X2_gainEnergy_67 p0 K B x1 s → dk_W G P l e (dk_rm 3) S0 m args bel meth c 0 0 (MQ bel (dk_Qc G (dk_kv K)) args S0 0 0 (dk_A G)) 67 [some (dk_r G p0 13), some (.int x1), none] [] s := by
  intro x1 s h
  unfold wf_X2_gainEnergy_67 at h
  refine dk_aload_n (i := 0) C dX2_gainEnergy_67 (n := 68) rfl rfl rfl ?_
  refine gf_X2_33 C (hp0 13 (by decide)) dX2_gainEnergy_68 (n := 71) rfl ?_
  refine dk_iload_n (i := 1) C dX2_gainEnergy_71 (n := 72) rfl rfl rfl ?_
  refine dk_iconst (v := 0) C dX2_gainEnergy_72 (n := 73) rfl (by decide) ?_
  refine dk_aload_n (i := 0) C dX2_gainEnergy_73 (n := 74) rfl rfl rfl ?_
  refine gf_X2_33 C (hp0 13 (by decide)) dX2_gainEnergy_74 (n := 77) rfl ?_
  refine dk_iload_n (i := 1) C dX2_gainEnergy_77 (n := 78) rfl rfl rfl ?_
  refine dk_callNi C [.int 0, .int x1, dk_r G p0 21] (cc_X8_at C.D dk_sh21 (hp0 21 (by decide)) h) yy_X8_at dk_wm_X2_51 dX2_gainEnergy_78 (fun r14 s13 h => ?_) rfl ⟨Nat.le_of_ble_eq_true rfl, Nat.le_of_ble_eq_true rfl⟩ rfl (Nat.le_of_ble_eq_true rfl) rfl (n := 81) rfl
  refine dk_iconst (v := 1) C dX2_gainEnergy_81 (n := 82) rfl (by decide) ?_
  refine dk_isub C dX2_gainEnergy_82 (n := 83) rfl ?_
  refine dk_mmax C dk_wm_X2_59 dk_wm_max_s dk_wm_i dk_wm_max_c (Nat.le_of_ble_eq_true rfl) (Nat.le_of_ble_eq_true rfl) rfl dX2_gainEnergy_83 (n := 86) rfl ?_
  refine dk_callNv C [] (cc_X8_put C.D dk_sh21 (hp0 21 (by decide)) h) yy_X8_put dk_wm_X2_43 dX2_gainEnergy_86 (fun s15 h => ?_) rfl ⟨Nat.le_of_ble_eq_true rfl, Nat.le_of_ble_eq_true rfl⟩ rfl (Nat.le_of_ble_eq_true rfl) rfl (n := 89) rfl
  obtain ⟨v16, ev16⟩ : ∃ y : Int32, y = x1 + 1 := ⟨_, rfl⟩
  have h := h v16 ev16
  refine dk_iinc (i := 1) (v := v16) (L' := [some (dk_r G p0 13), some (.int v16), none]) C dX2_gainEnergy_89 (n := 92) rfl rfl (by rw [ev16]; rfl) (dk_nc_of rfl) (Nat.le_of_ble_eq_true rfl) rfl ?_
  refine dk_goto (t := 2) C dX2_gainEnergy_92 (by decide) ?_
  refine dk_sub (L0 := [some (dk_r G p0 13), some (.int v16), none]) ⟨rfl, ⟨rfl, trivial⟩⟩ ?_
  exact hB v16 s15 h
set_option maxRecDepth 20000 in
set_option maxHeartbeats 4000000 in
theorem ww_X2_gainEnergy_48 {G : dk_G} {P : Program} {l : Launch} {e : Env} {S0 : State} {m : MethodId} {args : Array Value} {bel : List Frame} {meth : Method} {c : Code} {p0 : Nat} (C : dk_C G P (dk_rm 3) S0 m args c 0 0 cX2_gainEnergy 3 RX2) (hr : meth.sig.returnType = none) (hlk : meth.locks = false) (hp0 : dk_WI G p0) {K : dk_S → Prop} {B : Int32 → dk_S → Prop} (hB : ∀ (x1 : Int32) (s : dk_S), B x1 s → dk_W G P l e (dk_rm 3) S0 m args bel meth c 0 0 (MQ bel (dk_Qc G (dk_kv K)) args S0 0 0 (dk_A G)) 2 [some (dk_r G p0 13), some (.int x1), none] [] s)  : ∀ (x1 : Int32) (y0 : Int32) (s : dk_S), wf_X2_gainEnergy_48 p0 K B x1 y0 s → dk_W G P l e (dk_rm 3) S0 m args bel meth c 0 0 (MQ bel (dk_Qc G (dk_kv K)) args S0 0 0 (dk_A G)) 48 [some (dk_r G p0 13), some (.int x1), none] [.int y0] s := by
  intro x1 y0 s h
  unfold wf_X2_gainEnergy_48 at h
  refine dk_istore_n (i := 2) (L' := [some (dk_r G p0 13), some (.int x1), some (.int y0)]) C dX2_gainEnergy_48 (n := 49) rfl rfl (dk_nc_of rfl) (Nat.le_of_ble_eq_true rfl) rfl ?_
  refine dk_aload_n (i := 0) C dX2_gainEnergy_49 (n := 50) rfl rfl rfl ?_
  refine gf_X2_27 C (hp0 13 (by decide)) dX2_gainEnergy_50 (n := 53) rfl ?_
  refine dk_iload_n (i := 1) C dX2_gainEnergy_53 (n := 54) rfl rfl rfl ?_
  refine dk_aload_n (i := 0) C dX2_gainEnergy_54 (n := 55) rfl rfl rfl ?_
  refine gf_X2_27 C (hp0 13 (by decide)) dX2_gainEnergy_55 (n := 58) rfl ?_
  refine dk_iload_n (i := 1) C dX2_gainEnergy_58 (n := 59) rfl rfl rfl ?_
  refine dk_callNi C [.int x1, dk_r G p0 19] (cc_X8_at C.D dk_sh19 (hp0 19 (by decide)) h) yy_X8_at dk_wm_X2_51 dX2_gainEnergy_59 (fun r18 s17 h => ?_) rfl ⟨Nat.le_of_ble_eq_true rfl, Nat.le_of_ble_eq_true rfl⟩ rfl (Nat.le_of_ble_eq_true rfl) rfl (n := 62) rfl
  refine dk_iload_n (i := 2) C dX2_gainEnergy_62 (n := 63) rfl rfl rfl ?_
  refine dk_iadd C dX2_gainEnergy_63 (n := 64) rfl ?_
  refine dk_callNv C [] (cc_X8_put C.D dk_sh19 (hp0 19 (by decide)) h) yy_X8_put dk_wm_X2_43 dX2_gainEnergy_64 (fun s19 h => ?_) rfl ⟨Nat.le_of_ble_eq_true rfl, Nat.le_of_ble_eq_true rfl⟩ rfl (Nat.le_of_ble_eq_true rfl) rfl (n := 67) rfl
  refine dk_sub (L0 := [some (dk_r G p0 13), some (.int x1), none]) ⟨rfl, ⟨rfl, trivial⟩⟩ ?_
  exact ww_X2_gainEnergy_67 C hr hlk hp0 hB x1 s19 h
set_option maxRecDepth 20000 in
set_option maxHeartbeats 4000000 in
theorem ww_X2_gainEnergy_2 {G : dk_G} {P : Program} {l : Launch} {e : Env} {S0 : State} {m : MethodId} {args : Array Value} {bel : List Frame} {meth : Method} {c : Code} {p0 : Nat} (C : dk_C G P (dk_rm 3) S0 m args c 0 0 cX2_gainEnergy 3 RX2) (hr : meth.sig.returnType = none) (hlk : meth.locks = false) (hp0 : dk_WI G p0) {K : dk_S → Prop}  : ∀ (n : Nat) (x1 : Int32) (s : dk_S), wf_X2_gainEnergy_2 p0 K n x1 s → dk_W G P l e (dk_rm 3) S0 m args bel meth c 0 0 (MQ bel (dk_Qc G (dk_kv K)) args S0 0 0 (dk_A G)) 2 [some (dk_r G p0 13), some (.int x1), none] [] s := by
  intro n
  induction n with
  | zero => intro x1 s h; exact False.elim h
  | succ n hB =>
    intro x1 s h
    unfold wf_X2_gainEnergy_2 at h
    refine dk_iload_n (i := 1) C dX2_gainEnergy_2 (n := 3) rfl rfl rfl ?_
    refine dk_aload_n (i := 0) C dX2_gainEnergy_3 (n := 4) rfl rfl rfl ?_
    refine gf_X2_39 C (hp0 13 (by decide)) dX2_gainEnergy_4 (n := 7) rfl ?_
    refine dk_icmp_ge (t := 95) C dX2_gainEnergy_7 (n := 10) rfl (by decide) (fun c12 => ?_) (fun c12 => ?_)
    · have h := h.1 c12
      exact dk_vret C hr hlk dX2_gainEnergy_95 ⟨rfl, h⟩
    · have h := h.2 c12
      refine dk_aload_n (i := 0) C dX2_gainEnergy_10 (n := 11) rfl rfl rfl ?_
      refine dk_iload_n (i := 1) C dX2_gainEnergy_11 (n := 12) rfl rfl rfl ?_
      refine dk_callVi C [] (cc_X2_lives C.D hp0 h) yy_X2_lives dk_wm_X2_55 dk_sh13 (hp0 13 (by decide)) dX2_gainEnergy_12 (fun r3 s2 h => ?_) rfl rfl ⟨Nat.le_of_ble_eq_true rfl, Nat.le_of_ble_eq_true rfl⟩ rfl (Nat.le_of_ble_eq_true rfl) rfl (n := 15) rfl
      refine dk_if_eq (t := 67) C dX2_gainEnergy_15 (n := 18) rfl (by decide) (fun c11 => ?_) (fun c11 => ?_)
      · have h := h.1 c11
        refine dk_sub (L0 := [some (dk_r G p0 13), some (.int x1), none]) ⟨rfl, ⟨rfl, trivial⟩⟩ ?_
        exact ww_X2_gainEnergy_67 C hr hlk hp0 hB x1 s2 h
      · have h := h.2 c11
        refine dk_aload_n (i := 0) C dX2_gainEnergy_18 (n := 19) rfl rfl rfl ?_
        refine gf_X2_33 C (hp0 13 (by decide)) dX2_gainEnergy_19 (n := 22) rfl ?_
        refine dk_iload_n (i := 1) C dX2_gainEnergy_22 (n := 23) rfl rfl rfl ?_
        refine dk_callNi C [] (cc_X8_at C.D dk_sh21 (hp0 21 (by decide)) h) yy_X8_at dk_wm_X2_51 dX2_gainEnergy_23 (fun r5 s4 h => ?_) rfl ⟨Nat.le_of_ble_eq_true rfl, Nat.le_of_ble_eq_true rfl⟩ rfl (Nat.le_of_ble_eq_true rfl) rfl (n := 26) rfl
        refine dk_if_le (t := 40) C dX2_gainEnergy_26 (n := 29) rfl (by decide) (fun c10 => ?_) (fun c10 => ?_)
        · have h := h.1 c10
          refine dk_aload_n (i := 0) C dX2_gainEnergy_40 (n := 41) rfl rfl rfl ?_
          refine gf_X2_15 C (hp0 13 (by decide)) dX2_gainEnergy_41 (n := 44) rfl ?_
          refine dk_iload_n (i := 1) C dX2_gainEnergy_44 (n := 45) rfl rfl rfl ?_
          refine dk_callNi C [] (cc_X8_at C.D dk_sh15 (hp0 15 (by decide)) h) yy_X8_at dk_wm_X2_51 dX2_gainEnergy_45 (fun r7 s6 h => ?_) rfl ⟨Nat.le_of_ble_eq_true rfl, Nat.le_of_ble_eq_true rfl⟩ rfl (Nat.le_of_ble_eq_true rfl) rfl (n := 48) rfl
          refine dk_sub (L0 := [some (dk_r G p0 13), some (.int x1), none]) ⟨rfl, ⟨rfl, trivial⟩⟩ ?_
          exact ww_X2_gainEnergy_48 C hr hlk hp0 hB x1 r7 s6 h
        · have h := h.2 c10
          refine dk_aload_n (i := 0) C dX2_gainEnergy_29 (n := 30) rfl rfl rfl ?_
          refine gf_X2_30 C (hp0 13 (by decide)) dX2_gainEnergy_30 (n := 33) rfl ?_
          refine dk_iload_n (i := 1) C dX2_gainEnergy_33 (n := 34) rfl rfl rfl ?_
          refine dk_callNi C [] (cc_X8_at C.D dk_sh20 (hp0 20 (by decide)) h) yy_X8_at dk_wm_X2_51 dX2_gainEnergy_34 (fun r9 s8 h => ?_) rfl ⟨Nat.le_of_ble_eq_true rfl, Nat.le_of_ble_eq_true rfl⟩ rfl (Nat.le_of_ble_eq_true rfl) rfl (n := 37) rfl
          refine dk_goto (t := 48) C dX2_gainEnergy_37 (by decide) ?_
          refine dk_sub (L0 := [some (dk_r G p0 13), some (.int x1), none]) ⟨rfl, ⟨rfl, trivial⟩⟩ ?_
          exact ww_X2_gainEnergy_48 C hr hlk hp0 hB x1 r9 s8 h
set_option maxRecDepth 20000 in
set_option maxHeartbeats 4000000 in
theorem cc_X2_gainEnergy {G : dk_G} {l : Launch} {p0 : Nat} (hD : dk_D G) (hp0 : dk_WI G p0) {s : dk_S} {K : dk_S → Prop} (h : wf_X2_gainEnergy p0 s K) : dk_M G l 3 yX2_gainEnergy cX2_gainEnergy 3 none [dk_r G p0 13] s (dk_kv K) := by
  refine dk_of hD (by decide) [some (dk_r G p0 13), none, none] (fun q hq => hq) rfl (Nat.le_of_ble_eq_true rfl) (fun P e S0 m args bel meth c C hr hlk => ?_)
  unfold wf_X2_gainEnergy at h
  refine dk_iconst (v := 0) C dX2_gainEnergy_0 (n := 1) rfl (by decide) ?_
  refine dk_istore_n (i := 1) (L' := [some (dk_r G p0 13), some (.int 0), none]) C dX2_gainEnergy_1 (n := 2) rfl rfl (dk_nc_of rfl) (Nat.le_of_ble_eq_true rfl) rfl ?_
  obtain ⟨nn1, h⟩ := h
  refine dk_sub (L0 := [some (dk_r G p0 13), some (.int 0), none]) ⟨rfl, ⟨rfl, trivial⟩⟩ ?_
  refine ww_X2_gainEnergy_2 C hr hlk hp0  nn1 0 s h
/-! X2_spendTurn -/
set_option maxRecDepth 20000 in
set_option maxHeartbeats 4000000 in
theorem cc_X2_spendTurn {G : dk_G} {l : Launch} {p0 : Nat} {a1 : Int32} (hD : dk_D G) (hp0 : dk_WI G p0) {s : dk_S} {K : dk_S → Prop} (h : wf_X2_spendTurn p0 a1 s K) : dk_M G l 2 yX2_spendTurn cX2_spendTurn 2 none [dk_r G p0 13, .int a1] s (dk_kv K) := by
  refine dk_of hD (by decide) [some (dk_r G p0 13), some (.int a1)] (fun q hq => hq) rfl (Nat.le_of_ble_eq_true rfl) (fun P e S0 m args bel meth c C hr hlk => ?_)
  unfold wf_X2_spendTurn at h
  refine dk_aload_n (i := 0) C dX2_spendTurn_0 (n := 1) rfl rfl rfl ?_
  refine gf_X2_27 C (hp0 13 (by decide)) dX2_spendTurn_1 (n := 4) rfl ?_
  refine dk_iload_n (i := 1) C dX2_spendTurn_4 (n := 5) rfl rfl rfl ?_
  refine dk_aload_n (i := 0) C dX2_spendTurn_5 (n := 6) rfl rfl rfl ?_
  refine gf_X2_27 C (hp0 13 (by decide)) dX2_spendTurn_6 (n := 9) rfl ?_
  refine dk_iload_n (i := 1) C dX2_spendTurn_9 (n := 10) rfl rfl rfl ?_
  refine dk_callNi C [.int a1, dk_r G p0 19] (cc_X8_at C.D dk_sh19 (hp0 19 (by decide)) h) yy_X8_at dk_wm_X2_51 dX2_spendTurn_10 (fun r2 s1 h => ?_) rfl ⟨Nat.le_of_ble_eq_true rfl, Nat.le_of_ble_eq_true rfl⟩ rfl (Nat.le_of_ble_eq_true rfl) rfl (n := 13) rfl
  refine dk_bipush (v := 12) C dX2_spendTurn_13 (n := 15) rfl (by decide) ?_
  refine dk_isub C dX2_spendTurn_15 (n := 16) rfl ?_
  refine dk_callNv C [] (cc_X8_put C.D dk_sh19 (hp0 19 (by decide)) h) yy_X8_put dk_wm_X2_43 dX2_spendTurn_16 (fun s3 h => ?_) rfl ⟨Nat.le_of_ble_eq_true rfl, Nat.le_of_ble_eq_true rfl⟩ rfl (Nat.le_of_ble_eq_true rfl) rfl (n := 19) rfl
  exact dk_vret C hr hlk dX2_spendTurn_19 ⟨rfl, h⟩
/-! X2_nextToAct -/
set_option maxRecDepth 20000 in
set_option maxHeartbeats 4000000 in
theorem ww_X2_nextToAct_7 {G : dk_G} {P : Program} {l : Launch} {e : Env} {S0 : State} {m : MethodId} {args : Array Value} {bel : List Frame} {meth : Method} {c : Code} {p0 : Nat} (C : dk_C G P (dk_rm 3) S0 m args c 0 0 cX2_nextToAct 4 RX2) (hr : meth.sig.returnType = (some .int)) (hlk : meth.locks = false) (hp0 : dk_WI G p0) {K : Int32 → dk_S → Prop}  : ∀ (n : Nat) (x1 : Int32) (x2 : Int32) (x3 : Int32) (s : dk_S), wf_X2_nextToAct_7 p0 K n x1 x2 x3 s → dk_W G P l e (dk_rm 3) S0 m args bel meth c 0 0 (MQ bel (dk_Qc G (dk_ki K)) args S0 0 0 (dk_A G)) 7 [some (dk_r G p0 13), some (.int x1), some (.int x2), some (.int x3)] [] s := by
  intro n
  induction n with
  | zero => intro x1 x2 x3 s h; exact False.elim h
  | succ n hB =>
    intro x1 x2 x3 s h
    unfold wf_X2_nextToAct_7 at h
    refine dk_iload_n (i := 3) C dX2_nextToAct_7 (n := 8) rfl rfl rfl ?_
    refine dk_aload_n (i := 0) C dX2_nextToAct_8 (n := 9) rfl rfl rfl ?_
    refine gf_X2_39 C (hp0 13 (by decide)) dX2_nextToAct_9 (n := 12) rfl ?_
    refine dk_icmp_ge (t := 52) C dX2_nextToAct_12 (n := 15) rfl (by decide) (fun c13 => ?_) (fun c13 => ?_)
    · have h := h.1 c13
      refine dk_iload_n (i := 1) C dX2_nextToAct_52 (n := 53) rfl rfl rfl ?_
      exact dk_iret C hr hlk rfl dX2_nextToAct_53 ⟨_, rfl, h⟩
    · have h := h.2 c13
      refine dk_aload_n (i := 0) C dX2_nextToAct_15 (n := 16) rfl rfl rfl ?_
      refine dk_iload_n (i := 3) C dX2_nextToAct_16 (n := 17) rfl rfl rfl ?_
      refine dk_callVi C [] (cc_X2_lives C.D hp0 h) yy_X2_lives dk_wm_X2_55 dk_sh13 (hp0 13 (by decide)) dX2_nextToAct_17 (fun r3 s2 h => ?_) rfl rfl ⟨Nat.le_of_ble_eq_true rfl, Nat.le_of_ble_eq_true rfl⟩ rfl (Nat.le_of_ble_eq_true rfl) rfl (n := 20) rfl
      refine dk_if_eq (t := 46) C dX2_nextToAct_20 (n := 23) rfl (by decide) (fun c12 => ?_) (fun c12 => ?_)
      · have h := h.1 c12
        obtain ⟨v4, ev4⟩ : ∃ y : Int32, y = x3 + 1 := ⟨_, rfl⟩
        have h := h v4 ev4
        refine dk_iinc (i := 3) (v := v4) (L' := [some (dk_r G p0 13), some (.int x1), some (.int x2), some (.int v4)]) C dX2_nextToAct_46 (n := 49) rfl rfl (by rw [ev4]; rfl) (dk_nc_of rfl) (Nat.le_of_ble_eq_true rfl) rfl ?_
        refine dk_goto (t := 7) C dX2_nextToAct_49 (by decide) ?_
        refine dk_sub (L0 := [some (dk_r G p0 13), some (.int x1), some (.int x2), some (.int v4)]) ⟨rfl, ⟨rfl, ⟨rfl, ⟨rfl, trivial⟩⟩⟩⟩ ?_
        exact hB x1 x2 v4 s2 h
      · have h := h.2 c12
        refine dk_aload_n (i := 0) C dX2_nextToAct_23 (n := 24) rfl rfl rfl ?_
        refine gf_X2_27 C (hp0 13 (by decide)) dX2_nextToAct_24 (n := 27) rfl ?_
        refine dk_iload_n (i := 3) C dX2_nextToAct_27 (n := 28) rfl rfl rfl ?_
        refine dk_callNi C [] (cc_X8_at C.D dk_sh19 (hp0 19 (by decide)) h) yy_X8_at dk_wm_X2_51 dX2_nextToAct_28 (fun r6 s5 h => ?_) rfl ⟨Nat.le_of_ble_eq_true rfl, Nat.le_of_ble_eq_true rfl⟩ rfl (Nat.le_of_ble_eq_true rfl) rfl (n := 31) rfl
        refine dk_iload_n (i := 2) C dX2_nextToAct_31 (n := 32) rfl rfl rfl ?_
        refine dk_icmp_le (t := 46) C dX2_nextToAct_32 (n := 35) rfl (by decide) (fun c11 => ?_) (fun c11 => ?_)
        · have h := h.1 c11
          obtain ⟨v7, ev7⟩ : ∃ y : Int32, y = x3 + 1 := ⟨_, rfl⟩
          have h := h v7 ev7
          refine dk_iinc (i := 3) (v := v7) (L' := [some (dk_r G p0 13), some (.int x1), some (.int x2), some (.int v7)]) C dX2_nextToAct_46 (n := 49) rfl rfl (by rw [ev7]; rfl) (dk_nc_of rfl) (Nat.le_of_ble_eq_true rfl) rfl ?_
          refine dk_goto (t := 7) C dX2_nextToAct_49 (by decide) ?_
          refine dk_sub (L0 := [some (dk_r G p0 13), some (.int x1), some (.int x2), some (.int v7)]) ⟨rfl, ⟨rfl, ⟨rfl, ⟨rfl, trivial⟩⟩⟩⟩ ?_
          exact hB x1 x2 v7 s5 h
        · have h := h.2 c11
          refine dk_iload_n (i := 3) C dX2_nextToAct_35 (n := 36) rfl rfl rfl ?_
          refine dk_istore_n (i := 1) (L' := [some (dk_r G p0 13), some (.int x3), some (.int x2), some (.int x3)]) C dX2_nextToAct_36 (n := 37) rfl rfl (dk_nc_of rfl) (Nat.le_of_ble_eq_true rfl) rfl ?_
          refine dk_aload_n (i := 0) C dX2_nextToAct_37 (n := 38) rfl rfl rfl ?_
          refine gf_X2_27 C (hp0 13 (by decide)) dX2_nextToAct_38 (n := 41) rfl ?_
          refine dk_iload_n (i := 3) C dX2_nextToAct_41 (n := 42) rfl rfl rfl ?_
          refine dk_callNi C [] (cc_X8_at C.D dk_sh19 (hp0 19 (by decide)) h) yy_X8_at dk_wm_X2_51 dX2_nextToAct_42 (fun r9 s8 h => ?_) rfl ⟨Nat.le_of_ble_eq_true rfl, Nat.le_of_ble_eq_true rfl⟩ rfl (Nat.le_of_ble_eq_true rfl) rfl (n := 45) rfl
          refine dk_istore_n (i := 2) (L' := [some (dk_r G p0 13), some (.int x3), some (.int r9), some (.int x3)]) C dX2_nextToAct_45 (n := 46) rfl rfl (dk_nc_of rfl) (Nat.le_of_ble_eq_true rfl) rfl ?_
          obtain ⟨v10, ev10⟩ : ∃ y : Int32, y = x3 + 1 := ⟨_, rfl⟩
          have h := h v10 ev10
          refine dk_iinc (i := 3) (v := v10) (L' := [some (dk_r G p0 13), some (.int x3), some (.int r9), some (.int v10)]) C dX2_nextToAct_46 (n := 49) rfl rfl (by rw [ev10]; rfl) (dk_nc_of rfl) (Nat.le_of_ble_eq_true rfl) rfl ?_
          refine dk_goto (t := 7) C dX2_nextToAct_49 (by decide) ?_
          refine dk_sub (L0 := [some (dk_r G p0 13), some (.int x3), some (.int r9), some (.int v10)]) ⟨rfl, ⟨rfl, ⟨rfl, ⟨rfl, trivial⟩⟩⟩⟩ ?_
          exact hB x3 r9 v10 s8 h
set_option maxRecDepth 20000 in
set_option maxHeartbeats 4000000 in
theorem cc_X2_nextToAct {G : dk_G} {l : Launch} {p0 : Nat} (hD : dk_D G) (hp0 : dk_WI G p0) {s : dk_S} {K : Int32 → dk_S → Prop} (h : wf_X2_nextToAct p0 s K) : dk_M G l 3 yX2_nextToAct cX2_nextToAct 4 (some .int) [dk_r G p0 13] s (dk_ki K) := by
  refine dk_of hD (by decide) [some (dk_r G p0 13), none, none, none] (fun q hq => hq) rfl (Nat.le_of_ble_eq_true rfl) (fun P e S0 m args bel meth c C hr hlk => ?_)
  unfold wf_X2_nextToAct at h
  refine dk_iconst (v := (-1)) C dX2_nextToAct_0 (n := 1) rfl (by decide) ?_
  refine dk_istore_n (i := 1) (L' := [some (dk_r G p0 13), some (.int (-1)), none, none]) C dX2_nextToAct_1 (n := 2) rfl rfl (dk_nc_of rfl) (Nat.le_of_ble_eq_true rfl) rfl ?_
  refine dk_bipush (v := 11) C dX2_nextToAct_2 (n := 4) rfl (by decide) ?_
  refine dk_istore_n (i := 2) (L' := [some (dk_r G p0 13), some (.int (-1)), some (.int 11), none]) C dX2_nextToAct_4 (n := 5) rfl rfl (dk_nc_of rfl) (Nat.le_of_ble_eq_true rfl) rfl ?_
  refine dk_iconst (v := 0) C dX2_nextToAct_5 (n := 6) rfl (by decide) ?_
  refine dk_istore_n (i := 3) (L' := [some (dk_r G p0 13), some (.int (-1)), some (.int 11), some (.int 0)]) C dX2_nextToAct_6 (n := 7) rfl rfl (dk_nc_of rfl) (Nat.le_of_ble_eq_true rfl) rfl ?_
  obtain ⟨nn1, h⟩ := h
  refine dk_sub (L0 := [some (dk_r G p0 13), some (.int (-1)), some (.int 11), some (.int 0)]) ⟨rfl, ⟨rfl, ⟨rfl, ⟨rfl, trivial⟩⟩⟩⟩ ?_
  refine ww_X2_nextToAct_7 C hr hlk hp0  nn1 (-1) 11 0 s h
/-! X2_isLike -/
set_option maxRecDepth 20000 in
set_option maxHeartbeats 4000000 in
theorem ww_X2_isLike_2 {G : dk_G} {P : Program} {l : Launch} {e : Env} {S0 : State} {m : MethodId} {args : Array Value} {bel : List Frame} {meth : Method} {c : Code} {p0 : Nat} {p1 : Nat} (C : dk_C G P (dk_rm 2) S0 m args c 0 0 cX2_isLike 3 RX2) (hr : meth.sig.returnType = (some .boolean)) (hlk : meth.locks = false) (hp0 : dk_WI G p0) (hp1 : dk_WI G p1) {K : Int32 → dk_S → Prop} {E56 : dk_S → Prop} (hE56 : ∀ (s : dk_S), E56 s → dk_W G P l e (dk_rm 2) S0 m args bel meth c 0 0 (MQ bel (dk_Qc G (dk_ki K)) args S0 0 0 (dk_A G)) 56 [some (dk_r G p0 13), some (dk_r G p1 13), none] [] s) : ∀ (n : Nat) (x2 : Int32) (s : dk_S), wf_X2_isLike_2 p0 p1 K E56 n x2 s → dk_W G P l e (dk_rm 2) S0 m args bel meth c 0 0 (MQ bel (dk_Qc G (dk_ki K)) args S0 0 0 (dk_A G)) 2 [some (dk_r G p0 13), some (dk_r G p1 13), some (.int x2)] [] s := by
  intro n
  induction n with
  | zero => intro x2 s h; exact False.elim h
  | succ n hB =>
    intro x2 s h
    unfold wf_X2_isLike_2 at h
    refine dk_iload_n (i := 2) C dX2_isLike_2 (n := 3) rfl rfl rfl ?_
    refine dk_aload_n (i := 0) C dX2_isLike_3 (n := 4) rfl rfl rfl ?_
    refine gf_X2_39 C (hp0 13 (by decide)) dX2_isLike_4 (n := 7) rfl ?_
    refine dk_icmp_ge (t := 56) C dX2_isLike_7 (n := 10) rfl (by decide) (fun c15 => ?_) (fun c15 => ?_)
    · have h := h.1 c15
      refine dk_sub (L0 := [some (dk_r G p0 13), some (dk_r G p1 13), none]) ⟨rfl, ⟨rfl, trivial⟩⟩ ?_
      exact hE56  s h
    · have h := h.2 c15
      refine dk_aload_n (i := 0) C dX2_isLike_10 (n := 11) rfl rfl rfl ?_
      refine gf_X2_9 C (hp0 13 (by decide)) dX2_isLike_11 (n := 14) rfl ?_
      refine dk_iload_n (i := 2) C dX2_isLike_14 (n := 15) rfl rfl rfl ?_
      refine dk_callNi C [] (cc_X8_at C.D dk_sh14 (hp0 14 (by decide)) h) yy_X8_at dk_wm_X2_51 dX2_isLike_15 (fun r5 s4 h => ?_) rfl ⟨Nat.le_of_ble_eq_true rfl, Nat.le_of_ble_eq_true rfl⟩ rfl (Nat.le_of_ble_eq_true rfl) rfl (n := 18) rfl
      refine dk_aload_n (i := 1) C dX2_isLike_18 (n := 19) rfl rfl rfl ?_
      refine gf_X2_9 C (hp1 13 (by decide)) dX2_isLike_19 (n := 22) rfl ?_
      refine dk_iload_n (i := 2) C dX2_isLike_22 (n := 23) rfl rfl rfl ?_
      refine dk_callNi C [.int r5] (cc_X8_at C.D dk_sh14 (hp1 14 (by decide)) h) yy_X8_at dk_wm_X2_51 dX2_isLike_23 (fun r7 s6 h => ?_) rfl ⟨Nat.le_of_ble_eq_true rfl, Nat.le_of_ble_eq_true rfl⟩ rfl (Nat.le_of_ble_eq_true rfl) rfl (n := 26) rfl
      refine dk_icmp_ne (t := 48) C dX2_isLike_26 (n := 29) rfl (by decide) (fun c14 => ?_) (fun c14 => ?_)
      · have h := h.1 c14
        refine dk_iconst (v := 0) C dX2_isLike_48 (n := 49) rfl (by decide) ?_
        exact dk_iret C hr hlk dk_nz0 dX2_isLike_49 ⟨_, rfl, h⟩
      · have h := h.2 c14
        refine dk_aload_n (i := 0) C dX2_isLike_29 (n := 30) rfl rfl rfl ?_
        refine gf_X2_24 C (hp0 13 (by decide)) dX2_isLike_30 (n := 33) rfl ?_
        refine dk_iload_n (i := 2) C dX2_isLike_33 (n := 34) rfl rfl rfl ?_
        refine dk_callNi C [] (cc_X8_at C.D dk_sh18 (hp0 18 (by decide)) h) yy_X8_at dk_wm_X2_51 dX2_isLike_34 (fun r9 s8 h => ?_) rfl ⟨Nat.le_of_ble_eq_true rfl, Nat.le_of_ble_eq_true rfl⟩ rfl (Nat.le_of_ble_eq_true rfl) rfl (n := 37) rfl
        refine dk_aload_n (i := 1) C dX2_isLike_37 (n := 38) rfl rfl rfl ?_
        refine gf_X2_24 C (hp1 13 (by decide)) dX2_isLike_38 (n := 41) rfl ?_
        refine dk_iload_n (i := 2) C dX2_isLike_41 (n := 42) rfl rfl rfl ?_
        refine dk_callNi C [.int r9] (cc_X8_at C.D dk_sh18 (hp1 18 (by decide)) h) yy_X8_at dk_wm_X2_51 dX2_isLike_42 (fun r11 s10 h => ?_) rfl ⟨Nat.le_of_ble_eq_true rfl, Nat.le_of_ble_eq_true rfl⟩ rfl (Nat.le_of_ble_eq_true rfl) rfl (n := 45) rfl
        refine dk_icmp_eq (t := 50) C dX2_isLike_45 (n := 48) rfl (by decide) (fun c13 => ?_) (fun c13 => ?_)
        · have h := h.1 c13
          obtain ⟨v12, ev12⟩ : ∃ y : Int32, y = x2 + 1 := ⟨_, rfl⟩
          have h := h v12 ev12
          refine dk_iinc (i := 2) (v := v12) (L' := [some (dk_r G p0 13), some (dk_r G p1 13), some (.int v12)]) C dX2_isLike_50 (n := 53) rfl rfl (by rw [ev12]; rfl) (dk_nc_of rfl) (Nat.le_of_ble_eq_true rfl) rfl ?_
          refine dk_goto (t := 2) C dX2_isLike_53 (by decide) ?_
          refine dk_sub (L0 := [some (dk_r G p0 13), some (dk_r G p1 13), some (.int v12)]) ⟨rfl, ⟨rfl, ⟨rfl, trivial⟩⟩⟩ ?_
          exact hB v12 s10 h
        · have h := h.2 c13
          refine dk_iconst (v := 0) C dX2_isLike_48 (n := 49) rfl (by decide) ?_
          exact dk_iret C hr hlk dk_nz0 dX2_isLike_49 ⟨_, rfl, h⟩
set_option maxRecDepth 20000 in
set_option maxHeartbeats 4000000 in
theorem cc_X2_isLike {G : dk_G} {l : Launch} {p0 : Nat} {p1 : Nat} (hD : dk_D G) (hp0 : dk_WI G p0) (hp1 : dk_WI G p1) {s : dk_S} {K : Int32 → dk_S → Prop} (h : wf_X2_isLike p0 p1 s K) : dk_M G l 2 yX2_isLike cX2_isLike 3 (some .boolean) [dk_r G p0 13, dk_r G p1 13] s (dk_ki K) := by
  refine dk_of hD (by decide) [some (dk_r G p0 13), some (dk_r G p1 13), none] (fun q hq => hq) rfl (Nat.le_of_ble_eq_true rfl) (fun P e S0 m args bel meth c C hr hlk => ?_)
  unfold wf_X2_isLike at h
  refine dk_iconst (v := 0) C dX2_isLike_0 (n := 1) rfl (by decide) ?_
  refine dk_istore_n (i := 2) (L' := [some (dk_r G p0 13), some (dk_r G p1 13), some (.int 0)]) C dX2_isLike_1 (n := 2) rfl rfl (dk_nc_of rfl) (Nat.le_of_ble_eq_true rfl) rfl ?_
  obtain ⟨nn3, h⟩ := h
  refine dk_sub (L0 := [some (dk_r G p0 13), some (dk_r G p1 13), some (.int 0)]) ⟨rfl, ⟨rfl, ⟨rfl, trivial⟩⟩⟩ ?_
  refine ww_X2_isLike_2 C hr hlk hp0 hp1 (fun s1 h => ?_) nn3 0 s h
  · refine dk_aload_n (i := 0) C dX2_isLike_56 (n := 57) rfl rfl rfl ?_
    refine gf_X2_39 C (hp0 13 (by decide)) dX2_isLike_57 (n := 60) rfl ?_
    refine dk_aload_n (i := 1) C dX2_isLike_60 (n := 61) rfl rfl rfl ?_
    refine gf_X2_39 C (hp1 13 (by decide)) dX2_isLike_61 (n := 64) rfl ?_
    refine dk_icmp_ne (t := 71) C dX2_isLike_64 (n := 67) rfl (by decide) (fun c2 => ?_) (fun c2 => ?_)
    · have h := h.1 c2
      refine dk_iconst (v := 0) C dX2_isLike_71 (n := 72) rfl (by decide) ?_
      exact dk_iret C hr hlk dk_nz0 dX2_isLike_72 ⟨_, rfl, h⟩
    · have h := h.2 c2
      refine dk_iconst (v := 1) C dX2_isLike_67 (n := 68) rfl (by decide) ?_
      refine dk_goto (t := 72) C dX2_isLike_68 (by decide) ?_
      exact dk_iret C hr hlk dk_nz1 dX2_isLike_72 ⟨_, rfl, h⟩
/-! X3_copy -/
set_option maxRecDepth 20000 in
set_option maxHeartbeats 4000000 in
theorem cc_X3_copy {G : dk_G} {l : Launch} {p0 : Nat} {p1 : Nat} (hD : dk_D G) (hp0 : dk_WI G p0) (hp1 : dk_WI G p1) {s : dk_S} {K : dk_S → Prop} (h : wf_X3_copy p0 p1 s K) : dk_M G l 3 yX3_copy cX3_copy 2 none [dk_r G p0 7, dk_r G p1 7] s (dk_kv K) := by
  refine dk_of hD (by decide) [some (dk_r G p0 7), some (dk_r G p1 7)] (fun q hq => hq) rfl (Nat.le_of_ble_eq_true rfl) (fun P e S0 m args bel meth c C hr hlk => ?_)
  unfold wf_X3_copy at h
  refine dk_aload_n (i := 1) C dX3_copy_0 (n := 1) rfl rfl rfl ?_
  refine gf_X3_9 C (hp1 7 (by decide)) dX3_copy_1 (n := 4) rfl ?_
  refine dk_aload_n (i := 0) C dX3_copy_4 (n := 5) rfl rfl rfl ?_
  refine gf_X3_9 C (hp0 7 (by decide)) dX3_copy_5 (n := 8) rfl ?_
  refine dk_callNv C [] (cc_X8_copyRow C.D dk_sh8 (hp1 8 (by decide)) dk_sh8 (hp0 8 (by decide)) h) yy_X8_copyRow dk_wm_X3_31 dX3_copy_8 (fun s1 h => ?_) rfl ⟨Nat.le_of_ble_eq_true rfl, Nat.le_of_ble_eq_true rfl⟩ rfl (Nat.le_of_ble_eq_true rfl) rfl (n := 11) rfl
  refine dk_aload_n (i := 1) C dX3_copy_11 (n := 12) rfl rfl rfl ?_
  refine gf_X3_15 C (hp1 7 (by decide)) dX3_copy_12 (n := 15) rfl ?_
  refine dk_aload_n (i := 0) C dX3_copy_15 (n := 16) rfl rfl rfl ?_
  refine gf_X3_15 C (hp0 7 (by decide)) dX3_copy_16 (n := 19) rfl ?_
  refine dk_callNv C [] (cc_X8_copyRow C.D dk_sh9 (hp1 9 (by decide)) dk_sh9 (hp0 9 (by decide)) h) yy_X8_copyRow dk_wm_X3_31 dX3_copy_19 (fun s2 h => ?_) rfl ⟨Nat.le_of_ble_eq_true rfl, Nat.le_of_ble_eq_true rfl⟩ rfl (Nat.le_of_ble_eq_true rfl) rfl (n := 22) rfl
  refine dk_aload_n (i := 1) C dX3_copy_22 (n := 23) rfl rfl rfl ?_
  refine gf_X3_18 C (hp1 7 (by decide)) dX3_copy_23 (n := 26) rfl ?_
  refine dk_aload_n (i := 0) C dX3_copy_26 (n := 27) rfl rfl rfl ?_
  refine gf_X3_18 C (hp0 7 (by decide)) dX3_copy_27 (n := 30) rfl ?_
  refine dk_callNv C [] (cc_X8_copyRow C.D dk_sh10 (hp1 10 (by decide)) dk_sh10 (hp0 10 (by decide)) h) yy_X8_copyRow dk_wm_X3_31 dX3_copy_30 (fun s3 h => ?_) rfl ⟨Nat.le_of_ble_eq_true rfl, Nat.le_of_ble_eq_true rfl⟩ rfl (Nat.le_of_ble_eq_true rfl) rfl (n := 33) rfl
  refine dk_aload_n (i := 1) C dX3_copy_33 (n := 34) rfl rfl rfl ?_
  refine gf_X3_21 C (hp1 7 (by decide)) dX3_copy_34 (n := 37) rfl ?_
  refine dk_aload_n (i := 0) C dX3_copy_37 (n := 38) rfl rfl rfl ?_
  refine gf_X3_21 C (hp0 7 (by decide)) dX3_copy_38 (n := 41) rfl ?_
  refine dk_callNv C [] (cc_X8_copyRow C.D dk_sh11 (hp1 11 (by decide)) dk_sh11 (hp0 11 (by decide)) h) yy_X8_copyRow dk_wm_X3_31 dX3_copy_41 (fun s4 h => ?_) rfl ⟨Nat.le_of_ble_eq_true rfl, Nat.le_of_ble_eq_true rfl⟩ rfl (Nat.le_of_ble_eq_true rfl) rfl (n := 44) rfl
  refine dk_aload_n (i := 1) C dX3_copy_44 (n := 45) rfl rfl rfl ?_
  refine gf_X3_24 C (hp1 7 (by decide)) dX3_copy_45 (n := 48) rfl ?_
  refine dk_aload_n (i := 0) C dX3_copy_48 (n := 49) rfl rfl rfl ?_
  refine gf_X3_24 C (hp0 7 (by decide)) dX3_copy_49 (n := 52) rfl ?_
  refine dk_callNv C [] (cc_X8_copyRow C.D dk_sh12 (hp1 12 (by decide)) dk_sh12 (hp0 12 (by decide)) h) yy_X8_copyRow dk_wm_X3_31 dX3_copy_52 (fun s5 h => ?_) rfl ⟨Nat.le_of_ble_eq_true rfl, Nat.le_of_ble_eq_true rfl⟩ rfl (Nat.le_of_ble_eq_true rfl) rfl (n := 55) rfl
  exact dk_vret C hr hlk dX3_copy_55 ⟨rfl, h⟩
/-! X3_tell -/
set_option maxRecDepth 20000 in
set_option maxHeartbeats 4000000 in
theorem cc_X3_tell {G : dk_G} {l : Launch} {p0 : Nat} {a1 : Int32} {a2 : Int32} {a3 : Int32} (hD : dk_D G) (hp0 : dk_WI G p0) {s : dk_S} {K : dk_S → Prop} (h : wf_X3_tell p0 a1 a2 a3 s K) : dk_M G l 2 yX3_tell cX3_tell 4 none [dk_r G p0 7, .int a1, .int a2, .int a3] s (dk_kv K) := by
  refine dk_of hD (by decide) [some (dk_r G p0 7), some (.int a1), some (.int a2), some (.int a3)] (fun q hq => hq) rfl (Nat.le_of_ble_eq_true rfl) (fun P e S0 m args bel meth c C hr hlk => ?_)
  unfold wf_X3_tell at h
  refine dk_aload_n (i := 0) C dX3_tell_0 (n := 1) rfl rfl rfl ?_
  refine gf_X3_9 C (hp0 7 (by decide)) dX3_tell_1 (n := 4) rfl ?_
  refine dk_iload_n (i := 1) C dX3_tell_4 (n := 5) rfl rfl rfl ?_
  refine dk_iload_n (i := 2) C dX3_tell_5 (n := 6) rfl rfl rfl ?_
  refine dk_callNv C [] (cc_X8_put C.D dk_sh8 (hp0 8 (by decide)) h) yy_X8_put dk_wm_X3_27 dX3_tell_6 (fun s1 h => ?_) rfl ⟨Nat.le_of_ble_eq_true rfl, Nat.le_of_ble_eq_true rfl⟩ rfl (Nat.le_of_ble_eq_true rfl) rfl (n := 9) rfl
  refine dk_aload_n (i := 0) C dX3_tell_9 (n := 10) rfl rfl rfl ?_
  refine gf_X3_15 C (hp0 7 (by decide)) dX3_tell_10 (n := 13) rfl ?_
  refine dk_iload_n (i := 1) C dX3_tell_13 (n := 14) rfl rfl rfl ?_
  refine dk_iload_n (i := 3) C dX3_tell_14 (n := 15) rfl rfl rfl ?_
  refine dk_if_eq (t := 22) C dX3_tell_15 (n := 18) rfl (by decide) (fun c4 => ?_) (fun c4 => ?_)
  · have h := h.1 c4
    refine dk_iconst (v := 0) C dX3_tell_22 (n := 23) rfl (by decide) ?_
    refine dk_callNv C [] (cc_X8_put C.D dk_sh9 (hp0 9 (by decide)) h) yy_X8_put dk_wm_X3_27 dX3_tell_23 (fun s2 h => ?_) rfl ⟨Nat.le_of_ble_eq_true rfl, Nat.le_of_ble_eq_true rfl⟩ rfl (Nat.le_of_ble_eq_true rfl) rfl (n := 26) rfl
    exact dk_vret C hr hlk dX3_tell_26 ⟨rfl, h⟩
  · have h := h.2 c4
    refine dk_iconst (v := 1) C dX3_tell_18 (n := 19) rfl (by decide) ?_
    refine dk_goto (t := 23) C dX3_tell_19 (by decide) ?_
    refine dk_callNv C [] (cc_X8_put C.D dk_sh9 (hp0 9 (by decide)) h) yy_X8_put dk_wm_X3_27 dX3_tell_23 (fun s3 h => ?_) rfl ⟨Nat.le_of_ble_eq_true rfl, Nat.le_of_ble_eq_true rfl⟩ rfl (Nat.le_of_ble_eq_true rfl) rfl (n := 26) rfl
    exact dk_vret C hr hlk dX3_tell_26 ⟨rfl, h⟩
/-! X3_tellEffect -/
set_option maxRecDepth 20000 in
set_option maxHeartbeats 4000000 in
theorem cc_X3_tellEffect {G : dk_G} {l : Launch} {p0 : Nat} {a1 : Int32} {a2 : Int32} {a3 : Int32} {a4 : Int32} (hD : dk_D G) (hp0 : dk_WI G p0) {s : dk_S} {K : dk_S → Prop} (h : wf_X3_tellEffect p0 a1 a2 a3 a4 s K) : dk_M G l 2 yX3_tellEffect cX3_tellEffect 5 none [dk_r G p0 7, .int a1, .int a2, .int a3, .int a4] s (dk_kv K) := by
  refine dk_of hD (by decide) [some (dk_r G p0 7), some (.int a1), some (.int a2), some (.int a3), some (.int a4)] (fun q hq => hq) rfl (Nat.le_of_ble_eq_true rfl) (fun P e S0 m args bel meth c C hr hlk => ?_)
  unfold wf_X3_tellEffect at h
  refine dk_aload_n (i := 0) C dX3_tellEffect_0 (n := 1) rfl rfl rfl ?_
  refine gf_X3_18 C (hp0 7 (by decide)) dX3_tellEffect_1 (n := 4) rfl ?_
  refine dk_iload_n (i := 1) C dX3_tellEffect_4 (n := 5) rfl rfl rfl ?_
  refine dk_iload_n (i := 2) C dX3_tellEffect_5 (n := 6) rfl rfl rfl ?_
  refine dk_callNv C [] (cc_X8_put C.D dk_sh10 (hp0 10 (by decide)) h) yy_X8_put dk_wm_X3_27 dX3_tellEffect_6 (fun s1 h => ?_) rfl ⟨Nat.le_of_ble_eq_true rfl, Nat.le_of_ble_eq_true rfl⟩ rfl (Nat.le_of_ble_eq_true rfl) rfl (n := 9) rfl
  refine dk_aload_n (i := 0) C dX3_tellEffect_9 (n := 10) rfl rfl rfl ?_
  refine gf_X3_21 C (hp0 7 (by decide)) dX3_tellEffect_10 (n := 13) rfl ?_
  refine dk_iload_n (i := 1) C dX3_tellEffect_13 (n := 14) rfl rfl rfl ?_
  refine dk_iload_n (i := 3) C dX3_tellEffect_14 (n := 15) rfl rfl rfl ?_
  refine dk_callNv C [] (cc_X8_put C.D dk_sh11 (hp0 11 (by decide)) h) yy_X8_put dk_wm_X3_27 dX3_tellEffect_15 (fun s2 h => ?_) rfl ⟨Nat.le_of_ble_eq_true rfl, Nat.le_of_ble_eq_true rfl⟩ rfl (Nat.le_of_ble_eq_true rfl) rfl (n := 18) rfl
  refine dk_aload_n (i := 0) C dX3_tellEffect_18 (n := 19) rfl rfl rfl ?_
  refine gf_X3_24 C (hp0 7 (by decide)) dX3_tellEffect_19 (n := 22) rfl ?_
  refine dk_iload_n (i := 1) C dX3_tellEffect_22 (n := 23) rfl rfl rfl ?_
  refine dk_iload C dX3_tellEffect_23 (n := 25) rfl (i := 4) rfl ?_
  refine dk_callNv C [] (cc_X8_put C.D dk_sh12 (hp0 12 (by decide)) h) yy_X8_put dk_wm_X3_27 dX3_tellEffect_25 (fun s3 h => ?_) rfl ⟨Nat.le_of_ble_eq_true rfl, Nat.le_of_ble_eq_true rfl⟩ rfl (Nat.le_of_ble_eq_true rfl) rfl (n := 28) rfl
  exact dk_vret C hr hlk dX3_tellEffect_28 ⟨rfl, h⟩
/-! X3_effectOf -/
set_option maxRecDepth 20000 in
set_option maxHeartbeats 4000000 in
theorem cc_X3_effectOf {G : dk_G} {l : Launch} {p0 : Nat} {a1 : Int32} (hD : dk_D G) (hp0 : dk_WI G p0) {s : dk_S} {K : Int32 → dk_S → Prop} (h : wf_X3_effectOf p0 a1 s K) : dk_M G l 2 yX3_effectOf cX3_effectOf 2 (some .char) [dk_r G p0 7, .int a1] s (dk_ki K) := by
  refine dk_of hD (by decide) [some (dk_r G p0 7), some (.int a1)] (fun q hq => hq) rfl (Nat.le_of_ble_eq_true rfl) (fun P e S0 m args bel meth c C hr hlk => ?_)
  unfold wf_X3_effectOf at h
  refine dk_aload_n (i := 0) C dX3_effectOf_0 (n := 1) rfl rfl rfl ?_
  refine gf_X3_18 C (hp0 7 (by decide)) dX3_effectOf_1 (n := 4) rfl ?_
  refine dk_iload_n (i := 1) C dX3_effectOf_4 (n := 5) rfl rfl rfl ?_
  refine dk_callNi C [] (cc_X8_at C.D dk_sh10 (hp0 10 (by decide)) h) yy_X8_at dk_wm_X3_35 dX3_effectOf_5 (fun r2 s1 h => ?_) rfl ⟨Nat.le_of_ble_eq_true rfl, Nat.le_of_ble_eq_true rfl⟩ rfl (Nat.le_of_ble_eq_true rfl) rfl (n := 8) rfl
  refine dk_i2c C dX3_effectOf_8 (n := 9) rfl rfl ?_
  exact dk_iret C hr hlk h.1 dX3_effectOf_9 ⟨_, rfl, h.2⟩
/-! X3_isWooden -/
set_option maxRecDepth 20000 in
set_option maxHeartbeats 4000000 in
theorem cc_X3_isWooden {G : dk_G} {l : Launch} {p0 : Nat} {a1 : Int32} (hD : dk_D G) (hp0 : dk_WI G p0) {s : dk_S} {K : Int32 → dk_S → Prop} (h : wf_X3_isWooden p0 a1 s K) : dk_M G l 2 yX3_isWooden cX3_isWooden 2 (some .boolean) [dk_r G p0 7, .int a1] s (dk_ki K) := by
  refine dk_of hD (by decide) [some (dk_r G p0 7), some (.int a1)] (fun q hq => hq) rfl (Nat.le_of_ble_eq_true rfl) (fun P e S0 m args bel meth c C hr hlk => ?_)
  unfold wf_X3_isWooden at h
  refine dk_aload_n (i := 0) C dX3_isWooden_0 (n := 1) rfl rfl rfl ?_
  refine gf_X3_15 C (hp0 7 (by decide)) dX3_isWooden_1 (n := 4) rfl ?_
  refine dk_iload_n (i := 1) C dX3_isWooden_4 (n := 5) rfl rfl rfl ?_
  refine dk_callNi C [] (cc_X8_at C.D dk_sh9 (hp0 9 (by decide)) h) yy_X8_at dk_wm_X3_35 dX3_isWooden_5 (fun r2 s1 h => ?_) rfl ⟨Nat.le_of_ble_eq_true rfl, Nat.le_of_ble_eq_true rfl⟩ rfl (Nat.le_of_ble_eq_true rfl) rfl (n := 8) rfl
  refine dk_iconst (v := 1) C dX3_isWooden_8 (n := 9) rfl (by decide) ?_
  refine dk_icmp_ne (t := 16) C dX3_isWooden_9 (n := 12) rfl (by decide) (fun c3 => ?_) (fun c3 => ?_)
  · have h := h.1 c3
    refine dk_iconst (v := 0) C dX3_isWooden_16 (n := 17) rfl (by decide) ?_
    exact dk_iret C hr hlk dk_nz0 dX3_isWooden_17 ⟨_, rfl, h⟩
  · have h := h.2 c3
    refine dk_iconst (v := 1) C dX3_isWooden_12 (n := 13) rfl (by decide) ?_
    refine dk_goto (t := 17) C dX3_isWooden_13 (by decide) ?_
    exact dk_iret C hr hlk dk_nz1 dX3_isWooden_17 ⟨_, rfl, h⟩
/-! X4_copy -/
set_option maxRecDepth 20000 in
set_option maxHeartbeats 4000000 in
theorem cc_X4_copy {G : dk_G} {l : Launch} {p0 : Nat} {p1 : Nat} (hD : dk_D G) (hp0 : dk_WI G p0) (hp1 : dk_WI G p1) {s : dk_S} {K : dk_S → Prop} (h : wf_X4_copy p0 p1 s K) : dk_M G l 3 yX4_copy cX4_copy 2 none [dk_r G p0 26, dk_r G p1 26] s (dk_kv K) := by
  refine dk_of hD (by decide) [some (dk_r G p0 26), some (dk_r G p1 26)] (fun q hq => hq) rfl (Nat.le_of_ble_eq_true rfl) (fun P e S0 m args bel meth c C hr hlk => ?_)
  unfold wf_X4_copy at h
  refine dk_aload_n (i := 1) C dX4_copy_0 (n := 1) rfl rfl rfl ?_
  refine gf_X4_9 C (hp1 26 (by decide)) dX4_copy_1 (n := 4) rfl ?_
  refine dk_aload_n (i := 0) C dX4_copy_4 (n := 5) rfl rfl rfl ?_
  refine gf_X4_9 C (hp0 26 (by decide)) dX4_copy_5 (n := 8) rfl ?_
  refine dk_callNv C [] (cc_X8_copyRow C.D dk_sh27 (hp1 27 (by decide)) dk_sh27 (hp0 27 (by decide)) h) yy_X8_copyRow dk_wm_X4_22 dX4_copy_8 (fun s1 h => ?_) rfl ⟨Nat.le_of_ble_eq_true rfl, Nat.le_of_ble_eq_true rfl⟩ rfl (Nat.le_of_ble_eq_true rfl) rfl (n := 11) rfl
  refine dk_aload_n (i := 1) C dX4_copy_11 (n := 12) rfl rfl rfl ?_
  refine gf_X4_15 C (hp1 26 (by decide)) dX4_copy_12 (n := 15) rfl ?_
  refine dk_aload_n (i := 0) C dX4_copy_15 (n := 16) rfl rfl rfl ?_
  refine gf_X4_15 C (hp0 26 (by decide)) dX4_copy_16 (n := 19) rfl ?_
  refine dk_callNv C [] (cc_X8_copyRow C.D dk_sh28 (hp1 28 (by decide)) dk_sh28 (hp0 28 (by decide)) h) yy_X8_copyRow dk_wm_X4_22 dX4_copy_19 (fun s2 h => ?_) rfl ⟨Nat.le_of_ble_eq_true rfl, Nat.le_of_ble_eq_true rfl⟩ rfl (Nat.le_of_ble_eq_true rfl) rfl (n := 22) rfl
  refine dk_aload_n (i := 0) C dX4_copy_22 (n := 23) rfl rfl rfl ?_
  refine dk_aload_n (i := 1) C dX4_copy_23 (n := 24) rfl rfl rfl ?_
  refine gf_X4_18 C (hp1 26 (by decide)) dX4_copy_24 (n := 27) rfl ?_
  refine pf_X4_18 C rfl rfl (hp0 26 (by decide)) dX4_copy_27 (n := 30) rfl ?_
  refine dk_nameS (fun s3 es3 => ?_)
  have h := h s3 es3
  exact dk_vret C hr hlk dX4_copy_30 ⟨rfl, h⟩
/-! X4_add -/
set_option maxRecDepth 20000 in
set_option maxHeartbeats 4000000 in
theorem cc_X4_add {G : dk_G} {l : Launch} {p0 : Nat} {a1 : Int32} {a2 : Int32} (hD : dk_D G) (hp0 : dk_WI G p0) {s : dk_S} {K : Int32 → dk_S → Prop} (h : wf_X4_add p0 a1 a2 s K) : dk_M G l 2 yX4_add cX4_add 3 (some .int) [dk_r G p0 26, .int a1, .int a2] s (dk_ki K) := by
  refine dk_of hD (by decide) [some (dk_r G p0 26), some (.int a1), some (.int a2)] (fun q hq => hq) rfl (Nat.le_of_ble_eq_true rfl) (fun P e S0 m args bel meth c C hr hlk => ?_)
  unfold wf_X4_add at h
  refine dk_aload_n (i := 0) C dX4_add_0 (n := 1) rfl rfl rfl ?_
  refine gf_X4_9 C (hp0 26 (by decide)) dX4_add_1 (n := 4) rfl ?_
  refine dk_aload_n (i := 0) C dX4_add_4 (n := 5) rfl rfl rfl ?_
  refine gf_X4_18 C (hp0 26 (by decide)) dX4_add_5 (n := 8) rfl ?_
  refine dk_iload_n (i := 1) C dX4_add_8 (n := 9) rfl rfl rfl ?_
  refine dk_callNv C [] (cc_X8_put C.D dk_sh27 (hp0 27 (by decide)) h) yy_X8_put dk_wm_X4_26 dX4_add_9 (fun s1 h => ?_) rfl ⟨Nat.le_of_ble_eq_true rfl, Nat.le_of_ble_eq_true rfl⟩ rfl (Nat.le_of_ble_eq_true rfl) rfl (n := 12) rfl
  refine dk_aload_n (i := 0) C dX4_add_12 (n := 13) rfl rfl rfl ?_
  refine gf_X4_15 C (hp0 26 (by decide)) dX4_add_13 (n := 16) rfl ?_
  refine dk_aload_n (i := 0) C dX4_add_16 (n := 17) rfl rfl rfl ?_
  refine gf_X4_18 C (hp0 26 (by decide)) dX4_add_17 (n := 20) rfl ?_
  refine dk_iload_n (i := 2) C dX4_add_20 (n := 21) rfl rfl rfl ?_
  refine dk_callNv C [] (cc_X8_put C.D dk_sh28 (hp0 28 (by decide)) h) yy_X8_put dk_wm_X4_26 dX4_add_21 (fun s2 h => ?_) rfl ⟨Nat.le_of_ble_eq_true rfl, Nat.le_of_ble_eq_true rfl⟩ rfl (Nat.le_of_ble_eq_true rfl) rfl (n := 24) rfl
  refine dk_aload_n (i := 0) C dX4_add_24 (n := 25) rfl rfl rfl ?_
  refine dk_dup C dX4_add_25 (n := 26) rfl rfl ?_
  refine gf_X4_18 C (hp0 26 (by decide)) dX4_add_26 (n := 29) rfl ?_
  refine dk_iconst (v := 1) C dX4_add_29 (n := 30) rfl (by decide) ?_
  refine dk_iadd C dX4_add_30 (n := 31) rfl ?_
  refine pf_X4_18 C rfl rfl (hp0 26 (by decide)) dX4_add_31 (n := 34) rfl ?_
  refine dk_nameS (fun s3 es3 => ?_)
  have h := h s3 es3
  refine dk_aload_n (i := 0) C dX4_add_34 (n := 35) rfl rfl rfl ?_
  refine gf_X4_18 C (hp0 26 (by decide)) dX4_add_35 (n := 38) rfl ?_
  exact dk_iret C hr hlk rfl dX4_add_38 ⟨_, rfl, h⟩
/-! X5_add -/
set_option maxRecDepth 20000 in
set_option maxHeartbeats 4000000 in
theorem cc_X5_add {G : dk_G} {l : Launch} {a1 : Int32} {a2 : Int32} {a3 : Int32} (hD : dk_D G) (hri : dk_RI G) {s : dk_S} {K : dk_S → Prop} (h : wf_X5_add a1 a2 a3 s K) : dk_M G l 2 yX5_add cX5_add 4 none [dk_r G 0 41, .int a1, .int a2, .int a3] s (dk_kv K) := by
  refine dk_of hD (by decide) [some (dk_r G 0 41), some (.int a1), some (.int a2), some (.int a3)] (fun q hq => hq) rfl (Nat.le_of_ble_eq_true rfl) (fun P e S0 m args bel meth c C hr hlk => ?_)
  unfold wf_X5_add at h
  refine dk_aload_n (i := 0) C dX5_add_0 (n := 1) rfl rfl rfl ?_
  refine gf_X5_21 C (hri.1 41 (by decide) (by decide)) dX5_add_1 (n := 4) rfl ?_
  refine dk_sipush (v := 512) C dX5_add_4 (n := 7) rfl (by decide) ?_
  refine dk_icmp_ge (t := 56) C dX5_add_7 (n := 10) rfl (by decide) (fun c5 => ?_) (fun c5 => ?_)
  · have h := h.1 c5
    exact dk_vret C hr hlk dX5_add_56 ⟨rfl, h⟩
  · have h := h.2 c5
    refine dk_aload_n (i := 0) C dX5_add_10 (n := 11) rfl rfl rfl ?_
    refine gf_X5_9 C (hri.1 41 (by decide) (by decide)) dX5_add_11 (n := 14) rfl ?_
    refine dk_aload_n (i := 0) C dX5_add_14 (n := 15) rfl rfl rfl ?_
    refine gf_X5_21 C (hri.1 41 (by decide) (by decide)) dX5_add_15 (n := 18) rfl ?_
    refine dk_iload_n (i := 1) C dX5_add_18 (n := 19) rfl rfl rfl ?_
    refine dk_callNv C [] (cc_X8_put C.D dk_sh42 (hri.1 42 (by decide) (by decide)) h) yy_X8_put dk_wm_X5_25 dX5_add_19 (fun s1 h => ?_) rfl ⟨Nat.le_of_ble_eq_true rfl, Nat.le_of_ble_eq_true rfl⟩ rfl (Nat.le_of_ble_eq_true rfl) rfl (n := 22) rfl
    refine dk_aload_n (i := 0) C dX5_add_22 (n := 23) rfl rfl rfl ?_
    refine gf_X5_15 C (hri.1 41 (by decide) (by decide)) dX5_add_23 (n := 26) rfl ?_
    refine dk_aload_n (i := 0) C dX5_add_26 (n := 27) rfl rfl rfl ?_
    refine gf_X5_21 C (hri.1 41 (by decide) (by decide)) dX5_add_27 (n := 30) rfl ?_
    refine dk_iload_n (i := 2) C dX5_add_30 (n := 31) rfl rfl rfl ?_
    refine dk_callNv C [] (cc_X8_put C.D dk_sh43 (hri.1 43 (by decide) (by decide)) h) yy_X8_put dk_wm_X5_25 dX5_add_31 (fun s2 h => ?_) rfl ⟨Nat.le_of_ble_eq_true rfl, Nat.le_of_ble_eq_true rfl⟩ rfl (Nat.le_of_ble_eq_true rfl) rfl (n := 34) rfl
    refine dk_aload_n (i := 0) C dX5_add_34 (n := 35) rfl rfl rfl ?_
    refine gf_X5_18 C (hri.1 41 (by decide) (by decide)) dX5_add_35 (n := 38) rfl ?_
    refine dk_aload_n (i := 0) C dX5_add_38 (n := 39) rfl rfl rfl ?_
    refine gf_X5_21 C (hri.1 41 (by decide) (by decide)) dX5_add_39 (n := 42) rfl ?_
    refine dk_iload_n (i := 3) C dX5_add_42 (n := 43) rfl rfl rfl ?_
    refine dk_callNv C [] (cc_X8_put C.D dk_sh44 (hri.1 44 (by decide) (by decide)) h) yy_X8_put dk_wm_X5_25 dX5_add_43 (fun s3 h => ?_) rfl ⟨Nat.le_of_ble_eq_true rfl, Nat.le_of_ble_eq_true rfl⟩ rfl (Nat.le_of_ble_eq_true rfl) rfl (n := 46) rfl
    refine dk_aload_n (i := 0) C dX5_add_46 (n := 47) rfl rfl rfl ?_
    refine dk_dup C dX5_add_47 (n := 48) rfl rfl ?_
    refine gf_X5_21 C (hri.1 41 (by decide) (by decide)) dX5_add_48 (n := 51) rfl ?_
    refine dk_iconst (v := 1) C dX5_add_51 (n := 52) rfl (by decide) ?_
    refine dk_iadd C dX5_add_52 (n := 53) rfl ?_
    refine pf_X5_21 C rfl rfl (hri.1 41 (by decide) (by decide)) dX5_add_53 (n := 56) rfl ?_
    refine dk_nameS (fun s4 es4 => ?_)
    have h := h s4 es4
    exact dk_vret C hr hlk dX5_add_56 ⟨rfl, h⟩
/-! X6_copy -/
set_option maxRecDepth 20000 in
set_option maxHeartbeats 4000000 in
theorem cc_X6_copy {G : dk_G} {l : Launch} {p0 : Nat} {p1 : Nat} (hD : dk_D G) (hp0 : dk_WI G p0) (hp1 : dk_WI G p1) {s : dk_S} {K : dk_S → Prop} (h : wf_X6_copy p0 p1 s K) : dk_M G l 3 yX6_copy cX6_copy 2 none [dk_r G p0 23, dk_r G p1 23] s (dk_kv K) := by
  refine dk_of hD (by decide) [some (dk_r G p0 23), some (dk_r G p1 23)] (fun q hq => hq) rfl (Nat.le_of_ble_eq_true rfl) (fun P e S0 m args bel meth c C hr hlk => ?_)
  unfold wf_X6_copy at h
  refine dk_aload_n (i := 1) C dX6_copy_0 (n := 1) rfl rfl rfl ?_
  refine gf_X6_9 C (hp1 23 (by decide)) dX6_copy_1 (n := 4) rfl ?_
  refine dk_aload_n (i := 0) C dX6_copy_4 (n := 5) rfl rfl rfl ?_
  refine gf_X6_9 C (hp0 23 (by decide)) dX6_copy_5 (n := 8) rfl ?_
  refine dk_callNv C [] (cc_X8_copyRow C.D dk_sh24 (hp1 24 (by decide)) dk_sh24 (hp0 24 (by decide)) h) yy_X8_copyRow dk_wm_X6_22 dX6_copy_8 (fun s1 h => ?_) rfl ⟨Nat.le_of_ble_eq_true rfl, Nat.le_of_ble_eq_true rfl⟩ rfl (Nat.le_of_ble_eq_true rfl) rfl (n := 11) rfl
  refine dk_aload_n (i := 1) C dX6_copy_11 (n := 12) rfl rfl rfl ?_
  refine gf_X6_15 C (hp1 23 (by decide)) dX6_copy_12 (n := 15) rfl ?_
  refine dk_aload_n (i := 0) C dX6_copy_15 (n := 16) rfl rfl rfl ?_
  refine gf_X6_15 C (hp0 23 (by decide)) dX6_copy_16 (n := 19) rfl ?_
  refine dk_callNv C [] (cc_X8_copyRow C.D dk_sh25 (hp1 25 (by decide)) dk_sh25 (hp0 25 (by decide)) h) yy_X8_copyRow dk_wm_X6_22 dX6_copy_19 (fun s2 h => ?_) rfl ⟨Nat.le_of_ble_eq_true rfl, Nat.le_of_ble_eq_true rfl⟩ rfl (Nat.le_of_ble_eq_true rfl) rfl (n := 22) rfl
  refine dk_aload_n (i := 0) C dX6_copy_22 (n := 23) rfl rfl rfl ?_
  refine dk_aload_n (i := 1) C dX6_copy_23 (n := 24) rfl rfl rfl ?_
  refine gf_X6_18 C (hp1 23 (by decide)) dX6_copy_24 (n := 27) rfl ?_
  refine pf_X6_18 C rfl rfl (hp0 23 (by decide)) dX6_copy_27 (n := 30) rfl ?_
  refine dk_nameS (fun s3 es3 => ?_)
  have h := h s3 es3
  exact dk_vret C hr hlk dX6_copy_30 ⟨rfl, h⟩
/-! X6_add -/
set_option maxRecDepth 20000 in
set_option maxHeartbeats 4000000 in
theorem cc_X6_add {G : dk_G} {l : Launch} {p0 : Nat} {a1 : Int32} {a2 : Int32} (hD : dk_D G) (hp0 : dk_WI G p0) {s : dk_S} {K : Int32 → dk_S → Prop} (h : wf_X6_add p0 a1 a2 s K) : dk_M G l 2 yX6_add cX6_add 4 (some .int) [dk_r G p0 23, .int a1, .int a2] s (dk_ki K) := by
  refine dk_of hD (by decide) [some (dk_r G p0 23), some (.int a1), some (.int a2), none] (fun q hq => hq) rfl (Nat.le_of_ble_eq_true rfl) (fun P e S0 m args bel meth c C hr hlk => ?_)
  unfold wf_X6_add at h
  refine dk_aload_n (i := 0) C dX6_add_0 (n := 1) rfl rfl rfl ?_
  refine gf_X6_18 C (hp0 23 (by decide)) dX6_add_1 (n := 4) rfl ?_
  refine dk_name (fun v1 ev1 => ?_)
  have h := h v1 ev1
  refine dk_istore_n (i := 3) (L' := [some (dk_r G p0 23), some (.int a1), some (.int a2), some (.int v1)]) C dX6_add_4 (n := 5) rfl rfl (dk_nc_of rfl) (Nat.le_of_ble_eq_true rfl) rfl ?_
  refine dk_aload_n (i := 0) C dX6_add_5 (n := 6) rfl rfl rfl ?_
  refine gf_X6_9 C (hp0 23 (by decide)) dX6_add_6 (n := 9) rfl ?_
  refine dk_iload_n (i := 3) C dX6_add_9 (n := 10) rfl rfl rfl ?_
  refine dk_iload_n (i := 1) C dX6_add_10 (n := 11) rfl rfl rfl ?_
  refine dk_callNv C [] (cc_X8_put C.D dk_sh24 (hp0 24 (by decide)) h) yy_X8_put dk_wm_X6_26 dX6_add_11 (fun s2 h => ?_) rfl ⟨Nat.le_of_ble_eq_true rfl, Nat.le_of_ble_eq_true rfl⟩ rfl (Nat.le_of_ble_eq_true rfl) rfl (n := 14) rfl
  refine dk_aload_n (i := 0) C dX6_add_14 (n := 15) rfl rfl rfl ?_
  refine gf_X6_15 C (hp0 23 (by decide)) dX6_add_15 (n := 18) rfl ?_
  refine dk_iload_n (i := 3) C dX6_add_18 (n := 19) rfl rfl rfl ?_
  refine dk_iload_n (i := 2) C dX6_add_19 (n := 20) rfl rfl rfl ?_
  refine dk_callNv C [] (cc_X8_put C.D dk_sh25 (hp0 25 (by decide)) h) yy_X8_put dk_wm_X6_26 dX6_add_20 (fun s3 h => ?_) rfl ⟨Nat.le_of_ble_eq_true rfl, Nat.le_of_ble_eq_true rfl⟩ rfl (Nat.le_of_ble_eq_true rfl) rfl (n := 23) rfl
  refine dk_aload_n (i := 0) C dX6_add_23 (n := 24) rfl rfl rfl ?_
  refine dk_iload_n (i := 3) C dX6_add_24 (n := 25) rfl rfl rfl ?_
  refine dk_iconst (v := 1) C dX6_add_25 (n := 26) rfl (by decide) ?_
  refine dk_iadd C dX6_add_26 (n := 27) rfl ?_
  refine pf_X6_18 C rfl rfl (hp0 23 (by decide)) dX6_add_27 (n := 30) rfl ?_
  refine dk_nameS (fun s4 es4 => ?_)
  have h := h s4 es4
  refine dk_iload_n (i := 3) C dX6_add_30 (n := 31) rfl rfl rfl ?_
  exact dk_iret C hr hlk rfl dX6_add_31 ⟨_, rfl, h⟩
/-! X6_isWithin -/
set_option maxRecDepth 20000 in
set_option maxHeartbeats 4000000 in
theorem ww_X6_isWithin_5 {G : dk_G} {P : Program} {l : Launch} {e : Env} {S0 : State} {m : MethodId} {args : Array Value} {bel : List Frame} {meth : Method} {c : Code} {p0 : Nat} (C : dk_C G P (dk_rm 3) S0 m args c 0 0 cX6_isWithin 5 RX6) (hr : meth.sig.returnType = (some .boolean)) (hlk : meth.locks = false) (hp0 : dk_WI G p0) {K : Int32 → dk_S → Prop}  : ∀ (n : Nat) (x2 : Int32) (x3 : Int32) (x4 : Int32) (s : dk_S), wf_X6_isWithin_5 p0 K n x2 x3 x4 s → dk_W G P l e (dk_rm 3) S0 m args bel meth c 0 0 (MQ bel (dk_Qc G (dk_ki K)) args S0 0 0 (dk_A G)) 5 [some (dk_r G p0 23), none, some (.int x2), some (.int x3), some (.int x4)] [] s := by
  intro n
  induction n with
  | zero => intro x2 x3 x4 s h; exact False.elim h
  | succ n hB =>
    intro x2 x3 x4 s h
    unfold wf_X6_isWithin_5 at h
    refine dk_iload C dX6_isWithin_5 (n := 7) rfl (i := 4) rfl ?_
    refine dk_bipush (v := 24) C dX6_isWithin_7 (n := 9) rfl (by decide) ?_
    refine dk_icmp_gt (t := 36) C dX6_isWithin_9 (n := 12) rfl (by decide) (fun c7 => ?_) (fun c7 => ?_)
    · have h := h.1 c7
      refine dk_iconst (v := 0) C dX6_isWithin_36 (n := 37) rfl (by decide) ?_
      exact dk_iret C hr hlk dk_nz0 dX6_isWithin_37 ⟨_, rfl, h⟩
    · have h := h.2 c7
      refine dk_iload_n (i := 3) C dX6_isWithin_12 (n := 13) rfl rfl rfl ?_
      refine dk_iconst (v := (-1)) C dX6_isWithin_13 (n := 14) rfl (by decide) ?_
      refine dk_icmp_eq (t := 36) C dX6_isWithin_14 (n := 17) rfl (by decide) (fun c6 => ?_) (fun c6 => ?_)
      · have h := h.1 c6
        refine dk_iconst (v := 0) C dX6_isWithin_36 (n := 37) rfl (by decide) ?_
        exact dk_iret C hr hlk dk_nz0 dX6_isWithin_37 ⟨_, rfl, h⟩
      · have h := h.2 c6
        refine dk_iload_n (i := 3) C dX6_isWithin_17 (n := 18) rfl rfl rfl ?_
        refine dk_iload_n (i := 2) C dX6_isWithin_18 (n := 19) rfl rfl rfl ?_
        refine dk_icmp_ne (t := 24) C dX6_isWithin_19 (n := 22) rfl (by decide) (fun c5 => ?_) (fun c5 => ?_)
        · have h := h.1 c5
          refine dk_aload_n (i := 0) C dX6_isWithin_24 (n := 25) rfl rfl rfl ?_
          refine dk_iload_n (i := 3) C dX6_isWithin_25 (n := 26) rfl rfl rfl ?_
          refine dk_callVi C [] (cc_X6_bagOf C.D hp0 h) yy_X6_bagOf dk_wm_X6_34 dk_sh23 (hp0 23 (by decide)) dX6_isWithin_26 (fun r3 s2 h => ?_) rfl rfl ⟨Nat.le_of_ble_eq_true rfl, Nat.le_of_ble_eq_true rfl⟩ rfl (Nat.le_of_ble_eq_true rfl) rfl (n := 29) rfl
          refine dk_istore_n (i := 3) (L' := [some (dk_r G p0 23), none, some (.int x2), some (.int r3), some (.int x4)]) C dX6_isWithin_29 (n := 30) rfl rfl (dk_nc_of rfl) (Nat.le_of_ble_eq_true rfl) rfl ?_
          obtain ⟨v4, ev4⟩ : ∃ y : Int32, y = x4 + 1 := ⟨_, rfl⟩
          have h := h v4 ev4
          refine dk_iinc (i := 4) (v := v4) (L' := [some (dk_r G p0 23), none, some (.int x2), some (.int r3), some (.int v4)]) C dX6_isWithin_30 (n := 33) rfl rfl (by rw [ev4]; rfl) (dk_nc_of rfl) (Nat.le_of_ble_eq_true rfl) rfl ?_
          refine dk_goto (t := 5) C dX6_isWithin_33 (by decide) ?_
          refine dk_sub (L0 := [some (dk_r G p0 23), none, some (.int x2), some (.int r3), some (.int v4)]) ⟨rfl, ⟨rfl, ⟨rfl, ⟨rfl, trivial⟩⟩⟩⟩ ?_
          exact hB x2 r3 v4 s2 h
        · have h := h.2 c5
          refine dk_iconst (v := 1) C dX6_isWithin_22 (n := 23) rfl (by decide) ?_
          exact dk_iret C hr hlk dk_nz1 dX6_isWithin_23 ⟨_, rfl, h⟩
set_option maxRecDepth 20000 in
set_option maxHeartbeats 4000000 in
theorem cc_X6_isWithin {G : dk_G} {l : Launch} {p0 : Nat} {a1 : Int32} {a2 : Int32} (hD : dk_D G) (hp0 : dk_WI G p0) {s : dk_S} {K : Int32 → dk_S → Prop} (h : wf_X6_isWithin p0 a1 a2 s K) : dk_M G l 3 yX6_isWithin cX6_isWithin 5 (some .boolean) [dk_r G p0 23, .int a1, .int a2] s (dk_ki K) := by
  refine dk_of hD (by decide) [some (dk_r G p0 23), some (.int a1), some (.int a2), none, none] (fun q hq => hq) rfl (Nat.le_of_ble_eq_true rfl) (fun P e S0 m args bel meth c C hr hlk => ?_)
  unfold wf_X6_isWithin at h
  refine dk_iload_n (i := 1) C dX6_isWithin_0 (n := 1) rfl rfl rfl ?_
  refine dk_istore_n (i := 3) (L' := [some (dk_r G p0 23), some (.int a1), some (.int a2), some (.int a1), none]) C dX6_isWithin_1 (n := 2) rfl rfl (dk_nc_of rfl) (Nat.le_of_ble_eq_true rfl) rfl ?_
  refine dk_iconst (v := 0) C dX6_isWithin_2 (n := 3) rfl (by decide) ?_
  refine dk_istore (i := 4) (L' := [some (dk_r G p0 23), some (.int a1), some (.int a2), some (.int a1), some (.int 0)]) C dX6_isWithin_3 (n := 5) rfl (dk_nc_of rfl) (Nat.le_of_ble_eq_true rfl) rfl ?_
  obtain ⟨nn1, h⟩ := h
  refine dk_sub (L0 := [some (dk_r G p0 23), none, some (.int a2), some (.int a1), some (.int 0)]) ⟨rfl, ⟨rfl, ⟨rfl, ⟨rfl, trivial⟩⟩⟩⟩ ?_
  refine ww_X6_isWithin_5 C hr hlk hp0  nn1 a2 a1 0 s h
/-! X6_wholeWeight -/
set_option maxRecDepth 20000 in
set_option maxHeartbeats 4000000 in
theorem ww_X6_wholeWeight_5 {G : dk_G} {P : Program} {l : Launch} {e : Env} {S0 : State} {m : MethodId} {args : Array Value} {bel : List Frame} {meth : Method} {c : Code} {p0 : Nat} {p2 : Nat} (C : dk_C G P (dk_rm 4) S0 m args c 0 0 cX6_wholeWeight 5 RX6) (hr : meth.sig.returnType = (some .int)) (hlk : meth.locks = false) (hp0 : dk_WI G p0) (hp2 : dk_WI G p2) {K : Int32 → dk_S → Prop}  : ∀ (n : Nat) (x1 : Int32) (x3 : Int32) (x4 : Int32) (s : dk_S), wf_X6_wholeWeight_5 p0 p2 K n x1 x3 x4 s → dk_W G P l e (dk_rm 4) S0 m args bel meth c 0 0 (MQ bel (dk_Qc G (dk_ki K)) args S0 0 0 (dk_A G)) 5 [some (dk_r G p0 23), some (.int x1), some (dk_r G p2 7), some (.int x3), some (.int x4)] [] s := by
  intro n
  induction n with
  | zero => intro x1 x3 x4 s h; exact False.elim h
  | succ n hB =>
    intro x1 x3 x4 s h
    unfold wf_X6_wholeWeight_5 at h
    refine dk_iload C dX6_wholeWeight_5 (n := 7) rfl (i := 4) rfl ?_
    refine dk_aload_n (i := 0) C dX6_wholeWeight_7 (n := 8) rfl rfl rfl ?_
    refine gf_X6_18 C (hp0 23 (by decide)) dX6_wholeWeight_8 (n := 11) rfl ?_
    refine dk_icmp_ge (t := 49) C dX6_wholeWeight_11 (n := 14) rfl (by decide) (fun c12 => ?_) (fun c12 => ?_)
    · have h := h.1 c12
      refine dk_iload_n (i := 3) C dX6_wholeWeight_49 (n := 50) rfl rfl rfl ?_
      exact dk_iret C hr hlk rfl dX6_wholeWeight_50 ⟨_, rfl, h⟩
    · have h := h.2 c12
      refine dk_aload_n (i := 0) C dX6_wholeWeight_14 (n := 15) rfl rfl rfl ?_
      refine dk_iload C dX6_wholeWeight_15 (n := 17) rfl (i := 4) rfl ?_
      refine dk_iload_n (i := 1) C dX6_wholeWeight_17 (n := 18) rfl rfl rfl ?_
      refine dk_callVi C [] (cc_X6_isWithin C.D hp0 h) yy_X6_isWithin dk_wm_X6_38 dk_sh23 (hp0 23 (by decide)) dX6_wholeWeight_18 (fun r3 s2 h => ?_) rfl rfl ⟨Nat.le_of_ble_eq_true rfl, Nat.le_of_ble_eq_true rfl⟩ rfl (Nat.le_of_ble_eq_true rfl) rfl (n := 21) rfl
      refine dk_if_eq (t := 43) C dX6_wholeWeight_21 (n := 24) rfl (by decide) (fun c11 => ?_) (fun c11 => ?_)
      · have h := h.1 c11
        obtain ⟨v4, ev4⟩ : ∃ y : Int32, y = x4 + 1 := ⟨_, rfl⟩
        have h := h v4 ev4
        refine dk_iinc (i := 4) (v := v4) (L' := [some (dk_r G p0 23), some (.int x1), some (dk_r G p2 7), some (.int x3), some (.int v4)]) C dX6_wholeWeight_43 (n := 46) rfl rfl (by rw [ev4]; rfl) (dk_nc_of rfl) (Nat.le_of_ble_eq_true rfl) rfl ?_
        refine dk_goto (t := 5) C dX6_wholeWeight_46 (by decide) ?_
        refine dk_sub (L0 := [some (dk_r G p0 23), some (.int x1), some (dk_r G p2 7), some (.int x3), some (.int v4)]) ⟨rfl, ⟨rfl, ⟨rfl, ⟨rfl, ⟨rfl, trivial⟩⟩⟩⟩⟩ ?_
        exact hB x1 x3 v4 s2 h
      · have h := h.2 c11
        refine dk_iload_n (i := 3) C dX6_wholeWeight_24 (n := 25) rfl rfl rfl ?_
        refine dk_aload_n (i := 2) C dX6_wholeWeight_25 (n := 26) rfl rfl rfl ?_
        refine gf_X6_42 C (hp2 7 (by decide)) dX6_wholeWeight_26 (n := 29) rfl ?_
        refine dk_aload_n (i := 0) C dX6_wholeWeight_29 (n := 30) rfl rfl rfl ?_
        refine gf_X6_9 C (hp0 23 (by decide)) dX6_wholeWeight_30 (n := 33) rfl ?_
        refine dk_iload C dX6_wholeWeight_33 (n := 35) rfl (i := 4) rfl ?_
        refine dk_callNi C [dk_r G p2 8, .int x3] (cc_X8_at C.D dk_sh24 (hp0 24 (by decide)) h) yy_X8_at dk_wm_X6_30 dX6_wholeWeight_35 (fun r6 s5 h => ?_) rfl ⟨Nat.le_of_ble_eq_true rfl, Nat.le_of_ble_eq_true rfl⟩ rfl (Nat.le_of_ble_eq_true rfl) rfl (n := 38) rfl
        refine dk_callNi C [.int x3] (cc_X8_at C.D dk_sh8 (hp2 8 (by decide)) h) yy_X8_at dk_wm_X6_30 dX6_wholeWeight_38 (fun r8 s7 h => ?_) rfl ⟨Nat.le_of_ble_eq_true rfl, Nat.le_of_ble_eq_true rfl⟩ rfl (Nat.le_of_ble_eq_true rfl) rfl (n := 41) rfl
        refine dk_iadd C dX6_wholeWeight_41 (n := 42) rfl ?_
        refine dk_name (fun v9 ev9 => ?_)
        have h := h v9 ev9
        refine dk_istore_n (i := 3) (L' := [some (dk_r G p0 23), some (.int x1), some (dk_r G p2 7), some (.int v9), some (.int x4)]) C dX6_wholeWeight_42 (n := 43) rfl rfl (dk_nc_of rfl) (Nat.le_of_ble_eq_true rfl) rfl ?_
        obtain ⟨v10, ev10⟩ : ∃ y : Int32, y = x4 + 1 := ⟨_, rfl⟩
        have h := h v10 ev10
        refine dk_iinc (i := 4) (v := v10) (L' := [some (dk_r G p0 23), some (.int x1), some (dk_r G p2 7), some (.int v9), some (.int v10)]) C dX6_wholeWeight_43 (n := 46) rfl rfl (by rw [ev10]; rfl) (dk_nc_of rfl) (Nat.le_of_ble_eq_true rfl) rfl ?_
        refine dk_goto (t := 5) C dX6_wholeWeight_46 (by decide) ?_
        refine dk_sub (L0 := [some (dk_r G p0 23), some (.int x1), some (dk_r G p2 7), some (.int v9), some (.int v10)]) ⟨rfl, ⟨rfl, ⟨rfl, ⟨rfl, ⟨rfl, trivial⟩⟩⟩⟩⟩ ?_
        exact hB x1 v9 v10 s7 h
set_option maxRecDepth 20000 in
set_option maxHeartbeats 4000000 in
theorem cc_X6_wholeWeight {G : dk_G} {l : Launch} {p0 : Nat} {a1 : Int32} {p2 : Nat} (hD : dk_D G) (hp0 : dk_WI G p0) (hp2 : dk_WI G p2) {s : dk_S} {K : Int32 → dk_S → Prop} (h : wf_X6_wholeWeight p0 a1 p2 s K) : dk_M G l 4 yX6_wholeWeight cX6_wholeWeight 5 (some .int) [dk_r G p0 23, .int a1, dk_r G p2 7] s (dk_ki K) := by
  refine dk_of hD (by decide) [some (dk_r G p0 23), some (.int a1), some (dk_r G p2 7), none, none] (fun q hq => hq) rfl (Nat.le_of_ble_eq_true rfl) (fun P e S0 m args bel meth c C hr hlk => ?_)
  unfold wf_X6_wholeWeight at h
  refine dk_iconst (v := 0) C dX6_wholeWeight_0 (n := 1) rfl (by decide) ?_
  refine dk_istore_n (i := 3) (L' := [some (dk_r G p0 23), some (.int a1), some (dk_r G p2 7), some (.int 0), none]) C dX6_wholeWeight_1 (n := 2) rfl rfl (dk_nc_of rfl) (Nat.le_of_ble_eq_true rfl) rfl ?_
  refine dk_iconst (v := 0) C dX6_wholeWeight_2 (n := 3) rfl (by decide) ?_
  refine dk_istore (i := 4) (L' := [some (dk_r G p0 23), some (.int a1), some (dk_r G p2 7), some (.int 0), some (.int 0)]) C dX6_wholeWeight_3 (n := 5) rfl (dk_nc_of rfl) (Nat.le_of_ble_eq_true rfl) rfl ?_
  obtain ⟨nn1, h⟩ := h
  refine dk_sub (L0 := [some (dk_r G p0 23), some (.int a1), some (dk_r G p2 7), some (.int 0), some (.int 0)]) ⟨rfl, ⟨rfl, ⟨rfl, ⟨rfl, ⟨rfl, trivial⟩⟩⟩⟩⟩ ?_
  refine ww_X6_wholeWeight_5 C hr hlk hp0 hp2  nn1 a1 0 0 s h
/-! X6_carriedWeight -/
set_option maxRecDepth 20000 in
set_option maxHeartbeats 4000000 in
theorem ww_X6_carriedWeight_4 {G : dk_G} {P : Program} {l : Launch} {e : Env} {S0 : State} {m : MethodId} {args : Array Value} {bel : List Frame} {meth : Method} {c : Code} {p0 : Nat} {p1 : Nat} (C : dk_C G P (dk_rm 4) S0 m args c 0 0 cX6_carriedWeight 4 RX6) (hr : meth.sig.returnType = (some .int)) (hlk : meth.locks = false) (hp0 : dk_WI G p0) (hp1 : dk_WI G p1) {K : Int32 → dk_S → Prop}  : ∀ (n : Nat) (x2 : Int32) (x3 : Int32) (s : dk_S), wf_X6_carriedWeight_4 p0 p1 K n x2 x3 s → dk_W G P l e (dk_rm 4) S0 m args bel meth c 0 0 (MQ bel (dk_Qc G (dk_ki K)) args S0 0 0 (dk_A G)) 4 [some (dk_r G p0 23), some (dk_r G p1 7), some (.int x2), some (.int x3)] [] s := by
  intro n
  induction n with
  | zero => intro x2 x3 s h; exact False.elim h
  | succ n hB =>
    intro x2 x3 s h
    unfold wf_X6_carriedWeight_4 at h
    refine dk_iload_n (i := 3) C dX6_carriedWeight_4 (n := 5) rfl rfl rfl ?_
    refine dk_aload_n (i := 0) C dX6_carriedWeight_5 (n := 6) rfl rfl rfl ?_
    refine gf_X6_18 C (hp0 23 (by decide)) dX6_carriedWeight_6 (n := 9) rfl ?_
    refine dk_icmp_ge (t := 45) C dX6_carriedWeight_9 (n := 12) rfl (by decide) (fun c12 => ?_) (fun c12 => ?_)
    · have h := h.1 c12
      refine dk_iload_n (i := 2) C dX6_carriedWeight_45 (n := 46) rfl rfl rfl ?_
      exact dk_iret C hr hlk rfl dX6_carriedWeight_46 ⟨_, rfl, h⟩
    · have h := h.2 c12
      refine dk_aload_n (i := 0) C dX6_carriedWeight_12 (n := 13) rfl rfl rfl ?_
      refine dk_iload_n (i := 3) C dX6_carriedWeight_13 (n := 14) rfl rfl rfl ?_
      refine dk_callVi C [] (cc_X6_outerPlace C.D hp0 h) yy_X6_outerPlace dk_wm_X6_47 dk_sh23 (hp0 23 (by decide)) dX6_carriedWeight_14 (fun r3 s2 h => ?_) rfl rfl ⟨Nat.le_of_ble_eq_true rfl, Nat.le_of_ble_eq_true rfl⟩ rfl (Nat.le_of_ble_eq_true rfl) rfl (n := 17) rfl
      refine dk_iconst (v := (-1)) C dX6_carriedWeight_17 (n := 18) rfl (by decide) ?_
      refine dk_icmp_ne (t := 39) C dX6_carriedWeight_18 (n := 21) rfl (by decide) (fun c11 => ?_) (fun c11 => ?_)
      · have h := h.1 c11
        obtain ⟨v4, ev4⟩ : ∃ y : Int32, y = x3 + 1 := ⟨_, rfl⟩
        have h := h v4 ev4
        refine dk_iinc (i := 3) (v := v4) (L' := [some (dk_r G p0 23), some (dk_r G p1 7), some (.int x2), some (.int v4)]) C dX6_carriedWeight_39 (n := 42) rfl rfl (by rw [ev4]; rfl) (dk_nc_of rfl) (Nat.le_of_ble_eq_true rfl) rfl ?_
        refine dk_goto (t := 4) C dX6_carriedWeight_42 (by decide) ?_
        refine dk_sub (L0 := [some (dk_r G p0 23), some (dk_r G p1 7), some (.int x2), some (.int v4)]) ⟨rfl, ⟨rfl, ⟨rfl, ⟨rfl, trivial⟩⟩⟩⟩ ?_
        exact hB x2 v4 s2 h
      · have h := h.2 c11
        refine dk_iload_n (i := 2) C dX6_carriedWeight_21 (n := 22) rfl rfl rfl ?_
        refine dk_aload_n (i := 1) C dX6_carriedWeight_22 (n := 23) rfl rfl rfl ?_
        refine gf_X6_42 C (hp1 7 (by decide)) dX6_carriedWeight_23 (n := 26) rfl ?_
        refine dk_aload_n (i := 0) C dX6_carriedWeight_26 (n := 27) rfl rfl rfl ?_
        refine gf_X6_9 C (hp0 23 (by decide)) dX6_carriedWeight_27 (n := 30) rfl ?_
        refine dk_iload_n (i := 3) C dX6_carriedWeight_30 (n := 31) rfl rfl rfl ?_
        refine dk_callNi C [dk_r G p1 8, .int x2] (cc_X8_at C.D dk_sh24 (hp0 24 (by decide)) h) yy_X8_at dk_wm_X6_30 dX6_carriedWeight_31 (fun r6 s5 h => ?_) rfl ⟨Nat.le_of_ble_eq_true rfl, Nat.le_of_ble_eq_true rfl⟩ rfl (Nat.le_of_ble_eq_true rfl) rfl (n := 34) rfl
        refine dk_callNi C [.int x2] (cc_X8_at C.D dk_sh8 (hp1 8 (by decide)) h) yy_X8_at dk_wm_X6_30 dX6_carriedWeight_34 (fun r8 s7 h => ?_) rfl ⟨Nat.le_of_ble_eq_true rfl, Nat.le_of_ble_eq_true rfl⟩ rfl (Nat.le_of_ble_eq_true rfl) rfl (n := 37) rfl
        refine dk_iadd C dX6_carriedWeight_37 (n := 38) rfl ?_
        refine dk_name (fun v9 ev9 => ?_)
        have h := h v9 ev9
        refine dk_istore_n (i := 2) (L' := [some (dk_r G p0 23), some (dk_r G p1 7), some (.int v9), some (.int x3)]) C dX6_carriedWeight_38 (n := 39) rfl rfl (dk_nc_of rfl) (Nat.le_of_ble_eq_true rfl) rfl ?_
        obtain ⟨v10, ev10⟩ : ∃ y : Int32, y = x3 + 1 := ⟨_, rfl⟩
        have h := h v10 ev10
        refine dk_iinc (i := 3) (v := v10) (L' := [some (dk_r G p0 23), some (dk_r G p1 7), some (.int v9), some (.int v10)]) C dX6_carriedWeight_39 (n := 42) rfl rfl (by rw [ev10]; rfl) (dk_nc_of rfl) (Nat.le_of_ble_eq_true rfl) rfl ?_
        refine dk_goto (t := 4) C dX6_carriedWeight_42 (by decide) ?_
        refine dk_sub (L0 := [some (dk_r G p0 23), some (dk_r G p1 7), some (.int v9), some (.int v10)]) ⟨rfl, ⟨rfl, ⟨rfl, ⟨rfl, trivial⟩⟩⟩⟩ ?_
        exact hB v9 v10 s7 h
set_option maxRecDepth 20000 in
set_option maxHeartbeats 4000000 in
theorem cc_X6_carriedWeight {G : dk_G} {l : Launch} {p0 : Nat} {p1 : Nat} (hD : dk_D G) (hp0 : dk_WI G p0) (hp1 : dk_WI G p1) {s : dk_S} {K : Int32 → dk_S → Prop} (h : wf_X6_carriedWeight p0 p1 s K) : dk_M G l 4 yX6_carriedWeight cX6_carriedWeight 4 (some .int) [dk_r G p0 23, dk_r G p1 7] s (dk_ki K) := by
  refine dk_of hD (by decide) [some (dk_r G p0 23), some (dk_r G p1 7), none, none] (fun q hq => hq) rfl (Nat.le_of_ble_eq_true rfl) (fun P e S0 m args bel meth c C hr hlk => ?_)
  unfold wf_X6_carriedWeight at h
  refine dk_iconst (v := 0) C dX6_carriedWeight_0 (n := 1) rfl (by decide) ?_
  refine dk_istore_n (i := 2) (L' := [some (dk_r G p0 23), some (dk_r G p1 7), some (.int 0), none]) C dX6_carriedWeight_1 (n := 2) rfl rfl (dk_nc_of rfl) (Nat.le_of_ble_eq_true rfl) rfl ?_
  refine dk_iconst (v := 0) C dX6_carriedWeight_2 (n := 3) rfl (by decide) ?_
  refine dk_istore_n (i := 3) (L' := [some (dk_r G p0 23), some (dk_r G p1 7), some (.int 0), some (.int 0)]) C dX6_carriedWeight_3 (n := 4) rfl rfl (dk_nc_of rfl) (Nat.le_of_ble_eq_true rfl) rfl ?_
  obtain ⟨nn1, h⟩ := h
  refine dk_sub (L0 := [some (dk_r G p0 23), some (dk_r G p1 7), some (.int 0), some (.int 0)]) ⟨rfl, ⟨rfl, ⟨rfl, ⟨rfl, trivial⟩⟩⟩⟩ ?_
  refine ww_X6_carriedWeight_4 C hr hlk hp0 hp1  nn1 0 0 s h
/-! X6_countAt -/
set_option maxRecDepth 20000 in
set_option maxHeartbeats 4000000 in
theorem ww_X6_countAt_4 {G : dk_G} {P : Program} {l : Launch} {e : Env} {S0 : State} {m : MethodId} {args : Array Value} {bel : List Frame} {meth : Method} {c : Code} {p0 : Nat} (C : dk_C G P (dk_rm 2) S0 m args c 0 0 cX6_countAt 4 RX6) (hr : meth.sig.returnType = (some .int)) (hlk : meth.locks = false) (hp0 : dk_WI G p0) {K : Int32 → dk_S → Prop}  : ∀ (n : Nat) (x1 : Int32) (x2 : Int32) (x3 : Int32) (s : dk_S), wf_X6_countAt_4 p0 K n x1 x2 x3 s → dk_W G P l e (dk_rm 2) S0 m args bel meth c 0 0 (MQ bel (dk_Qc G (dk_ki K)) args S0 0 0 (dk_A G)) 4 [some (dk_r G p0 23), some (.int x1), some (.int x2), some (.int x3)] [] s := by
  intro n
  induction n with
  | zero => intro x1 x2 x3 s h; exact False.elim h
  | succ n hB =>
    intro x1 x2 x3 s h
    unfold wf_X6_countAt_4 at h
    refine dk_iload_n (i := 3) C dX6_countAt_4 (n := 5) rfl rfl rfl ?_
    refine dk_aload_n (i := 0) C dX6_countAt_5 (n := 6) rfl rfl rfl ?_
    refine gf_X6_18 C (hp0 23 (by decide)) dX6_countAt_6 (n := 9) rfl ?_
    refine dk_icmp_ge (t := 33) C dX6_countAt_9 (n := 12) rfl (by decide) (fun c8 => ?_) (fun c8 => ?_)
    · have h := h.1 c8
      refine dk_iload_n (i := 2) C dX6_countAt_33 (n := 34) rfl rfl rfl ?_
      exact dk_iret C hr hlk rfl dX6_countAt_34 ⟨_, rfl, h⟩
    · have h := h.2 c8
      refine dk_aload_n (i := 0) C dX6_countAt_12 (n := 13) rfl rfl rfl ?_
      refine gf_X6_15 C (hp0 23 (by decide)) dX6_countAt_13 (n := 16) rfl ?_
      refine dk_iload_n (i := 3) C dX6_countAt_16 (n := 17) rfl rfl rfl ?_
      refine dk_callNi C [] (cc_X8_at C.D dk_sh25 (hp0 25 (by decide)) h) yy_X8_at dk_wm_X6_30 dX6_countAt_17 (fun r3 s2 h => ?_) rfl ⟨Nat.le_of_ble_eq_true rfl, Nat.le_of_ble_eq_true rfl⟩ rfl (Nat.le_of_ble_eq_true rfl) rfl (n := 20) rfl
      refine dk_iload_n (i := 1) C dX6_countAt_20 (n := 21) rfl rfl rfl ?_
      refine dk_icmp_ne (t := 27) C dX6_countAt_21 (n := 24) rfl (by decide) (fun c7 => ?_) (fun c7 => ?_)
      · have h := h.1 c7
        obtain ⟨v4, ev4⟩ : ∃ y : Int32, y = x3 + 1 := ⟨_, rfl⟩
        have h := h v4 ev4
        refine dk_iinc (i := 3) (v := v4) (L' := [some (dk_r G p0 23), some (.int x1), some (.int x2), some (.int v4)]) C dX6_countAt_27 (n := 30) rfl rfl (by rw [ev4]; rfl) (dk_nc_of rfl) (Nat.le_of_ble_eq_true rfl) rfl ?_
        refine dk_goto (t := 4) C dX6_countAt_30 (by decide) ?_
        refine dk_sub (L0 := [some (dk_r G p0 23), some (.int x1), some (.int x2), some (.int v4)]) ⟨rfl, ⟨rfl, ⟨rfl, ⟨rfl, trivial⟩⟩⟩⟩ ?_
        exact hB x1 x2 v4 s2 h
      · have h := h.2 c7
        obtain ⟨v5, ev5⟩ : ∃ y : Int32, y = x2 + 1 := ⟨_, rfl⟩
        have h := h v5 ev5
        refine dk_iinc (i := 2) (v := v5) (L' := [some (dk_r G p0 23), some (.int x1), some (.int v5), some (.int x3)]) C dX6_countAt_24 (n := 27) rfl rfl (by rw [ev5]; rfl) (dk_nc_of rfl) (Nat.le_of_ble_eq_true rfl) rfl ?_
        obtain ⟨v6, ev6⟩ : ∃ y : Int32, y = x3 + 1 := ⟨_, rfl⟩
        have h := h v6 ev6
        refine dk_iinc (i := 3) (v := v6) (L' := [some (dk_r G p0 23), some (.int x1), some (.int v5), some (.int v6)]) C dX6_countAt_27 (n := 30) rfl rfl (by rw [ev6]; rfl) (dk_nc_of rfl) (Nat.le_of_ble_eq_true rfl) rfl ?_
        refine dk_goto (t := 4) C dX6_countAt_30 (by decide) ?_
        refine dk_sub (L0 := [some (dk_r G p0 23), some (.int x1), some (.int v5), some (.int v6)]) ⟨rfl, ⟨rfl, ⟨rfl, ⟨rfl, trivial⟩⟩⟩⟩ ?_
        exact hB x1 v5 v6 s2 h
set_option maxRecDepth 20000 in
set_option maxHeartbeats 4000000 in
theorem cc_X6_countAt {G : dk_G} {l : Launch} {p0 : Nat} {a1 : Int32} (hD : dk_D G) (hp0 : dk_WI G p0) {s : dk_S} {K : Int32 → dk_S → Prop} (h : wf_X6_countAt p0 a1 s K) : dk_M G l 2 yX6_countAt cX6_countAt 4 (some .int) [dk_r G p0 23, .int a1] s (dk_ki K) := by
  refine dk_of hD (by decide) [some (dk_r G p0 23), some (.int a1), none, none] (fun q hq => hq) rfl (Nat.le_of_ble_eq_true rfl) (fun P e S0 m args bel meth c C hr hlk => ?_)
  unfold wf_X6_countAt at h
  refine dk_iconst (v := 0) C dX6_countAt_0 (n := 1) rfl (by decide) ?_
  refine dk_istore_n (i := 2) (L' := [some (dk_r G p0 23), some (.int a1), some (.int 0), none]) C dX6_countAt_1 (n := 2) rfl rfl (dk_nc_of rfl) (Nat.le_of_ble_eq_true rfl) rfl ?_
  refine dk_iconst (v := 0) C dX6_countAt_2 (n := 3) rfl (by decide) ?_
  refine dk_istore_n (i := 3) (L' := [some (dk_r G p0 23), some (.int a1), some (.int 0), some (.int 0)]) C dX6_countAt_3 (n := 4) rfl rfl (dk_nc_of rfl) (Nat.le_of_ble_eq_true rfl) rfl ?_
  obtain ⟨nn1, h⟩ := h
  refine dk_sub (L0 := [some (dk_r G p0 23), some (.int a1), some (.int 0), some (.int 0)]) ⟨rfl, ⟨rfl, ⟨rfl, ⟨rfl, trivial⟩⟩⟩⟩ ?_
  refine ww_X6_countAt_4 C hr hlk hp0  nn1 a1 0 0 s h
/-! X6_moveAll -/
set_option maxRecDepth 20000 in
set_option maxHeartbeats 4000000 in
theorem ww_X6_moveAll_2 {G : dk_G} {P : Program} {l : Launch} {e : Env} {S0 : State} {m : MethodId} {args : Array Value} {bel : List Frame} {meth : Method} {c : Code} {p0 : Nat} (C : dk_C G P (dk_rm 2) S0 m args c 0 0 cX6_moveAll 4 RX6) (hr : meth.sig.returnType = none) (hlk : meth.locks = false) (hp0 : dk_WI G p0) {K : dk_S → Prop}  : ∀ (n : Nat) (x1 : Int32) (x2 : Int32) (x3 : Int32) (s : dk_S), wf_X6_moveAll_2 p0 K n x1 x2 x3 s → dk_W G P l e (dk_rm 2) S0 m args bel meth c 0 0 (MQ bel (dk_Qc G (dk_kv K)) args S0 0 0 (dk_A G)) 2 [some (dk_r G p0 23), some (.int x1), some (.int x2), some (.int x3)] [] s := by
  intro n
  induction n with
  | zero => intro x1 x2 x3 s h; exact False.elim h
  | succ n hB =>
    intro x1 x2 x3 s h
    unfold wf_X6_moveAll_2 at h
    refine dk_iload_n (i := 3) C dX6_moveAll_2 (n := 3) rfl rfl rfl ?_
    refine dk_aload_n (i := 0) C dX6_moveAll_3 (n := 4) rfl rfl rfl ?_
    refine gf_X6_18 C (hp0 23 (by decide)) dX6_moveAll_4 (n := 7) rfl ?_
    refine dk_icmp_ge (t := 37) C dX6_moveAll_7 (n := 10) rfl (by decide) (fun c8 => ?_) (fun c8 => ?_)
    · have h := h.1 c8
      exact dk_vret C hr hlk dX6_moveAll_37 ⟨rfl, h⟩
    · have h := h.2 c8
      refine dk_aload_n (i := 0) C dX6_moveAll_10 (n := 11) rfl rfl rfl ?_
      refine gf_X6_15 C (hp0 23 (by decide)) dX6_moveAll_11 (n := 14) rfl ?_
      refine dk_iload_n (i := 3) C dX6_moveAll_14 (n := 15) rfl rfl rfl ?_
      refine dk_callNi C [] (cc_X8_at C.D dk_sh25 (hp0 25 (by decide)) h) yy_X8_at dk_wm_X6_30 dX6_moveAll_15 (fun r3 s2 h => ?_) rfl ⟨Nat.le_of_ble_eq_true rfl, Nat.le_of_ble_eq_true rfl⟩ rfl (Nat.le_of_ble_eq_true rfl) rfl (n := 18) rfl
      refine dk_iload_n (i := 1) C dX6_moveAll_18 (n := 19) rfl rfl rfl ?_
      refine dk_icmp_ne (t := 31) C dX6_moveAll_19 (n := 22) rfl (by decide) (fun c7 => ?_) (fun c7 => ?_)
      · have h := h.1 c7
        obtain ⟨v4, ev4⟩ : ∃ y : Int32, y = x3 + 1 := ⟨_, rfl⟩
        have h := h v4 ev4
        refine dk_iinc (i := 3) (v := v4) (L' := [some (dk_r G p0 23), some (.int x1), some (.int x2), some (.int v4)]) C dX6_moveAll_31 (n := 34) rfl rfl (by rw [ev4]; rfl) (dk_nc_of rfl) (Nat.le_of_ble_eq_true rfl) rfl ?_
        refine dk_goto (t := 2) C dX6_moveAll_34 (by decide) ?_
        refine dk_sub (L0 := [some (dk_r G p0 23), some (.int x1), some (.int x2), some (.int v4)]) ⟨rfl, ⟨rfl, ⟨rfl, ⟨rfl, trivial⟩⟩⟩⟩ ?_
        exact hB x1 x2 v4 s2 h
      · have h := h.2 c7
        refine dk_aload_n (i := 0) C dX6_moveAll_22 (n := 23) rfl rfl rfl ?_
        refine gf_X6_15 C (hp0 23 (by decide)) dX6_moveAll_23 (n := 26) rfl ?_
        refine dk_iload_n (i := 3) C dX6_moveAll_26 (n := 27) rfl rfl rfl ?_
        refine dk_iload_n (i := 2) C dX6_moveAll_27 (n := 28) rfl rfl rfl ?_
        refine dk_callNv C [] (cc_X8_put C.D dk_sh25 (hp0 25 (by decide)) h) yy_X8_put dk_wm_X6_26 dX6_moveAll_28 (fun s5 h => ?_) rfl ⟨Nat.le_of_ble_eq_true rfl, Nat.le_of_ble_eq_true rfl⟩ rfl (Nat.le_of_ble_eq_true rfl) rfl (n := 31) rfl
        obtain ⟨v6, ev6⟩ : ∃ y : Int32, y = x3 + 1 := ⟨_, rfl⟩
        have h := h v6 ev6
        refine dk_iinc (i := 3) (v := v6) (L' := [some (dk_r G p0 23), some (.int x1), some (.int x2), some (.int v6)]) C dX6_moveAll_31 (n := 34) rfl rfl (by rw [ev6]; rfl) (dk_nc_of rfl) (Nat.le_of_ble_eq_true rfl) rfl ?_
        refine dk_goto (t := 2) C dX6_moveAll_34 (by decide) ?_
        refine dk_sub (L0 := [some (dk_r G p0 23), some (.int x1), some (.int x2), some (.int v6)]) ⟨rfl, ⟨rfl, ⟨rfl, ⟨rfl, trivial⟩⟩⟩⟩ ?_
        exact hB x1 x2 v6 s5 h
set_option maxRecDepth 20000 in
set_option maxHeartbeats 4000000 in
theorem cc_X6_moveAll {G : dk_G} {l : Launch} {p0 : Nat} {a1 : Int32} {a2 : Int32} (hD : dk_D G) (hp0 : dk_WI G p0) {s : dk_S} {K : dk_S → Prop} (h : wf_X6_moveAll p0 a1 a2 s K) : dk_M G l 2 yX6_moveAll cX6_moveAll 4 none [dk_r G p0 23, .int a1, .int a2] s (dk_kv K) := by
  refine dk_of hD (by decide) [some (dk_r G p0 23), some (.int a1), some (.int a2), none] (fun q hq => hq) rfl (Nat.le_of_ble_eq_true rfl) (fun P e S0 m args bel meth c C hr hlk => ?_)
  unfold wf_X6_moveAll at h
  refine dk_iconst (v := 0) C dX6_moveAll_0 (n := 1) rfl (by decide) ?_
  refine dk_istore_n (i := 3) (L' := [some (dk_r G p0 23), some (.int a1), some (.int a2), some (.int 0)]) C dX6_moveAll_1 (n := 2) rfl rfl (dk_nc_of rfl) (Nat.le_of_ble_eq_true rfl) rfl ?_
  obtain ⟨nn1, h⟩ := h
  refine dk_sub (L0 := [some (dk_r G p0 23), some (.int a1), some (.int a2), some (.int 0)]) ⟨rfl, ⟨rfl, ⟨rfl, ⟨rfl, trivial⟩⟩⟩⟩ ?_
  refine ww_X6_moveAll_2 C hr hlk hp0  nn1 a1 a2 0 s h
/-! X6_hasInHands -/
set_option maxRecDepth 20000 in
set_option maxHeartbeats 4000000 in
theorem ww_X6_hasInHands_2 {G : dk_G} {P : Program} {l : Launch} {e : Env} {S0 : State} {m : MethodId} {args : Array Value} {bel : List Frame} {meth : Method} {c : Code} {p0 : Nat} (C : dk_C G P (dk_rm 2) S0 m args c 0 0 cX6_hasInHands 3 RX6) (hr : meth.sig.returnType = (some .boolean)) (hlk : meth.locks = false) (hp0 : dk_WI G p0) {K : Int32 → dk_S → Prop}  : ∀ (n : Nat) (x1 : Int32) (x2 : Int32) (s : dk_S), wf_X6_hasInHands_2 p0 K n x1 x2 s → dk_W G P l e (dk_rm 2) S0 m args bel meth c 0 0 (MQ bel (dk_Qc G (dk_ki K)) args S0 0 0 (dk_A G)) 2 [some (dk_r G p0 23), some (.int x1), some (.int x2)] [] s := by
  intro n
  induction n with
  | zero => intro x1 x2 s h; exact False.elim h
  | succ n hB =>
    intro x1 x2 s h
    unfold wf_X6_hasInHands_2 at h
    refine dk_iload_n (i := 2) C dX6_hasInHands_2 (n := 3) rfl rfl rfl ?_
    refine dk_aload_n (i := 0) C dX6_hasInHands_3 (n := 4) rfl rfl rfl ?_
    refine gf_X6_18 C (hp0 23 (by decide)) dX6_hasInHands_4 (n := 7) rfl ?_
    refine dk_icmp_ge (t := 42) C dX6_hasInHands_7 (n := 10) rfl (by decide) (fun c10 => ?_) (fun c10 => ?_)
    · have h := h.1 c10
      refine dk_iconst (v := 0) C dX6_hasInHands_42 (n := 43) rfl (by decide) ?_
      exact dk_iret C hr hlk dk_nz0 dX6_hasInHands_43 ⟨_, rfl, h⟩
    · have h := h.2 c10
      refine dk_aload_n (i := 0) C dX6_hasInHands_10 (n := 11) rfl rfl rfl ?_
      refine gf_X6_9 C (hp0 23 (by decide)) dX6_hasInHands_11 (n := 14) rfl ?_
      refine dk_iload_n (i := 2) C dX6_hasInHands_14 (n := 15) rfl rfl rfl ?_
      refine dk_callNi C [] (cc_X8_at C.D dk_sh24 (hp0 24 (by decide)) h) yy_X8_at dk_wm_X6_30 dX6_hasInHands_15 (fun r3 s2 h => ?_) rfl ⟨Nat.le_of_ble_eq_true rfl, Nat.le_of_ble_eq_true rfl⟩ rfl (Nat.le_of_ble_eq_true rfl) rfl (n := 18) rfl
      refine dk_iload_n (i := 1) C dX6_hasInHands_18 (n := 19) rfl rfl rfl ?_
      refine dk_icmp_ne (t := 36) C dX6_hasInHands_19 (n := 22) rfl (by decide) (fun c9 => ?_) (fun c9 => ?_)
      · have h := h.1 c9
        obtain ⟨v4, ev4⟩ : ∃ y : Int32, y = x2 + 1 := ⟨_, rfl⟩
        have h := h v4 ev4
        refine dk_iinc (i := 2) (v := v4) (L' := [some (dk_r G p0 23), some (.int x1), some (.int v4)]) C dX6_hasInHands_36 (n := 39) rfl rfl (by rw [ev4]; rfl) (dk_nc_of rfl) (Nat.le_of_ble_eq_true rfl) rfl ?_
        refine dk_goto (t := 2) C dX6_hasInHands_39 (by decide) ?_
        refine dk_sub (L0 := [some (dk_r G p0 23), some (.int x1), some (.int v4)]) ⟨rfl, ⟨rfl, ⟨rfl, trivial⟩⟩⟩ ?_
        exact hB x1 v4 s2 h
      · have h := h.2 c9
        refine dk_aload_n (i := 0) C dX6_hasInHands_22 (n := 23) rfl rfl rfl ?_
        refine gf_X6_15 C (hp0 23 (by decide)) dX6_hasInHands_23 (n := 26) rfl ?_
        refine dk_iload_n (i := 2) C dX6_hasInHands_26 (n := 27) rfl rfl rfl ?_
        refine dk_callNi C [] (cc_X8_at C.D dk_sh25 (hp0 25 (by decide)) h) yy_X8_at dk_wm_X6_30 dX6_hasInHands_27 (fun r6 s5 h => ?_) rfl ⟨Nat.le_of_ble_eq_true rfl, Nat.le_of_ble_eq_true rfl⟩ rfl (Nat.le_of_ble_eq_true rfl) rfl (n := 30) rfl
        refine dk_iconst (v := (-1)) C dX6_hasInHands_30 (n := 31) rfl (by decide) ?_
        refine dk_icmp_ne (t := 36) C dX6_hasInHands_31 (n := 34) rfl (by decide) (fun c8 => ?_) (fun c8 => ?_)
        · have h := h.1 c8
          obtain ⟨v7, ev7⟩ : ∃ y : Int32, y = x2 + 1 := ⟨_, rfl⟩
          have h := h v7 ev7
          refine dk_iinc (i := 2) (v := v7) (L' := [some (dk_r G p0 23), some (.int x1), some (.int v7)]) C dX6_hasInHands_36 (n := 39) rfl rfl (by rw [ev7]; rfl) (dk_nc_of rfl) (Nat.le_of_ble_eq_true rfl) rfl ?_
          refine dk_goto (t := 2) C dX6_hasInHands_39 (by decide) ?_
          refine dk_sub (L0 := [some (dk_r G p0 23), some (.int x1), some (.int v7)]) ⟨rfl, ⟨rfl, ⟨rfl, trivial⟩⟩⟩ ?_
          exact hB x1 v7 s5 h
        · have h := h.2 c8
          refine dk_iconst (v := 1) C dX6_hasInHands_34 (n := 35) rfl (by decide) ?_
          exact dk_iret C hr hlk dk_nz1 dX6_hasInHands_35 ⟨_, rfl, h⟩
set_option maxRecDepth 20000 in
set_option maxHeartbeats 4000000 in
theorem cc_X6_hasInHands {G : dk_G} {l : Launch} {p0 : Nat} {a1 : Int32} (hD : dk_D G) (hp0 : dk_WI G p0) {s : dk_S} {K : Int32 → dk_S → Prop} (h : wf_X6_hasInHands p0 a1 s K) : dk_M G l 2 yX6_hasInHands cX6_hasInHands 3 (some .boolean) [dk_r G p0 23, .int a1] s (dk_ki K) := by
  refine dk_of hD (by decide) [some (dk_r G p0 23), some (.int a1), none] (fun q hq => hq) rfl (Nat.le_of_ble_eq_true rfl) (fun P e S0 m args bel meth c C hr hlk => ?_)
  unfold wf_X6_hasInHands at h
  refine dk_iconst (v := 0) C dX6_hasInHands_0 (n := 1) rfl (by decide) ?_
  refine dk_istore_n (i := 2) (L' := [some (dk_r G p0 23), some (.int a1), some (.int 0)]) C dX6_hasInHands_1 (n := 2) rfl rfl (dk_nc_of rfl) (Nat.le_of_ble_eq_true rfl) rfl ?_
  obtain ⟨nn1, h⟩ := h
  refine dk_sub (L0 := [some (dk_r G p0 23), some (.int a1), some (.int 0)]) ⟨rfl, ⟨rfl, ⟨rfl, trivial⟩⟩⟩ ?_
  refine ww_X6_hasInHands_2 C hr hlk hp0  nn1 a1 0 s h
/-! X6_isCarriedKey -/
set_option maxRecDepth 20000 in
set_option maxHeartbeats 4000000 in
theorem ww_X6_isCarriedKey_2 {G : dk_G} {P : Program} {l : Launch} {e : Env} {S0 : State} {m : MethodId} {args : Array Value} {bel : List Frame} {meth : Method} {c : Code} {p0 : Nat} (C : dk_C G P (dk_rm 4) S0 m args c 0 0 cX6_isCarriedKey 3 RX6) (hr : meth.sig.returnType = (some .boolean)) (hlk : meth.locks = false) (hp0 : dk_WI G p0) {K : Int32 → dk_S → Prop}  : ∀ (n : Nat) (x1 : Int32) (x2 : Int32) (s : dk_S), wf_X6_isCarriedKey_2 p0 K n x1 x2 s → dk_W G P l e (dk_rm 4) S0 m args bel meth c 0 0 (MQ bel (dk_Qc G (dk_ki K)) args S0 0 0 (dk_A G)) 2 [some (dk_r G p0 23), some (.int x1), some (.int x2)] [] s := by
  intro n
  induction n with
  | zero => intro x1 x2 s h; exact False.elim h
  | succ n hB =>
    intro x1 x2 s h
    unfold wf_X6_isCarriedKey_2 at h
    refine dk_iload_n (i := 2) C dX6_isCarriedKey_2 (n := 3) rfl rfl rfl ?_
    refine dk_aload_n (i := 0) C dX6_isCarriedKey_3 (n := 4) rfl rfl rfl ?_
    refine gf_X6_18 C (hp0 23 (by decide)) dX6_isCarriedKey_4 (n := 7) rfl ?_
    refine dk_icmp_ge (t := 39) C dX6_isCarriedKey_7 (n := 10) rfl (by decide) (fun c10 => ?_) (fun c10 => ?_)
    · have h := h.1 c10
      refine dk_iconst (v := 0) C dX6_isCarriedKey_39 (n := 40) rfl (by decide) ?_
      exact dk_iret C hr hlk dk_nz0 dX6_isCarriedKey_40 ⟨_, rfl, h⟩
    · have h := h.2 c10
      refine dk_aload_n (i := 0) C dX6_isCarriedKey_10 (n := 11) rfl rfl rfl ?_
      refine gf_X6_9 C (hp0 23 (by decide)) dX6_isCarriedKey_11 (n := 14) rfl ?_
      refine dk_iload_n (i := 2) C dX6_isCarriedKey_14 (n := 15) rfl rfl rfl ?_
      refine dk_callNi C [] (cc_X8_at C.D dk_sh24 (hp0 24 (by decide)) h) yy_X8_at dk_wm_X6_30 dX6_isCarriedKey_15 (fun r3 s2 h => ?_) rfl ⟨Nat.le_of_ble_eq_true rfl, Nat.le_of_ble_eq_true rfl⟩ rfl (Nat.le_of_ble_eq_true rfl) rfl (n := 18) rfl
      refine dk_iload_n (i := 1) C dX6_isCarriedKey_18 (n := 19) rfl rfl rfl ?_
      refine dk_icmp_ne (t := 33) C dX6_isCarriedKey_19 (n := 22) rfl (by decide) (fun c9 => ?_) (fun c9 => ?_)
      · have h := h.1 c9
        obtain ⟨v4, ev4⟩ : ∃ y : Int32, y = x2 + 1 := ⟨_, rfl⟩
        have h := h v4 ev4
        refine dk_iinc (i := 2) (v := v4) (L' := [some (dk_r G p0 23), some (.int x1), some (.int v4)]) C dX6_isCarriedKey_33 (n := 36) rfl rfl (by rw [ev4]; rfl) (dk_nc_of rfl) (Nat.le_of_ble_eq_true rfl) rfl ?_
        refine dk_goto (t := 2) C dX6_isCarriedKey_36 (by decide) ?_
        refine dk_sub (L0 := [some (dk_r G p0 23), some (.int x1), some (.int v4)]) ⟨rfl, ⟨rfl, ⟨rfl, trivial⟩⟩⟩ ?_
        exact hB x1 v4 s2 h
      · have h := h.2 c9
        refine dk_aload_n (i := 0) C dX6_isCarriedKey_22 (n := 23) rfl rfl rfl ?_
        refine dk_iload_n (i := 2) C dX6_isCarriedKey_23 (n := 24) rfl rfl rfl ?_
        refine dk_callVi C [] (cc_X6_outerPlace C.D hp0 h) yy_X6_outerPlace dk_wm_X6_47 dk_sh23 (hp0 23 (by decide)) dX6_isCarriedKey_24 (fun r6 s5 h => ?_) rfl rfl ⟨Nat.le_of_ble_eq_true rfl, Nat.le_of_ble_eq_true rfl⟩ rfl (Nat.le_of_ble_eq_true rfl) rfl (n := 27) rfl
        refine dk_iconst (v := (-1)) C dX6_isCarriedKey_27 (n := 28) rfl (by decide) ?_
        refine dk_icmp_ne (t := 33) C dX6_isCarriedKey_28 (n := 31) rfl (by decide) (fun c8 => ?_) (fun c8 => ?_)
        · have h := h.1 c8
          obtain ⟨v7, ev7⟩ : ∃ y : Int32, y = x2 + 1 := ⟨_, rfl⟩
          have h := h v7 ev7
          refine dk_iinc (i := 2) (v := v7) (L' := [some (dk_r G p0 23), some (.int x1), some (.int v7)]) C dX6_isCarriedKey_33 (n := 36) rfl rfl (by rw [ev7]; rfl) (dk_nc_of rfl) (Nat.le_of_ble_eq_true rfl) rfl ?_
          refine dk_goto (t := 2) C dX6_isCarriedKey_36 (by decide) ?_
          refine dk_sub (L0 := [some (dk_r G p0 23), some (.int x1), some (.int v7)]) ⟨rfl, ⟨rfl, ⟨rfl, trivial⟩⟩⟩ ?_
          exact hB x1 v7 s5 h
        · have h := h.2 c8
          refine dk_iconst (v := 1) C dX6_isCarriedKey_31 (n := 32) rfl (by decide) ?_
          exact dk_iret C hr hlk dk_nz1 dX6_isCarriedKey_32 ⟨_, rfl, h⟩
set_option maxRecDepth 20000 in
set_option maxHeartbeats 4000000 in
theorem cc_X6_isCarriedKey {G : dk_G} {l : Launch} {p0 : Nat} {a1 : Int32} (hD : dk_D G) (hp0 : dk_WI G p0) {s : dk_S} {K : Int32 → dk_S → Prop} (h : wf_X6_isCarriedKey p0 a1 s K) : dk_M G l 4 yX6_isCarriedKey cX6_isCarriedKey 3 (some .boolean) [dk_r G p0 23, .int a1] s (dk_ki K) := by
  refine dk_of hD (by decide) [some (dk_r G p0 23), some (.int a1), none] (fun q hq => hq) rfl (Nat.le_of_ble_eq_true rfl) (fun P e S0 m args bel meth c C hr hlk => ?_)
  unfold wf_X6_isCarriedKey at h
  refine dk_iconst (v := 0) C dX6_isCarriedKey_0 (n := 1) rfl (by decide) ?_
  refine dk_istore_n (i := 2) (L' := [some (dk_r G p0 23), some (.int a1), some (.int 0)]) C dX6_isCarriedKey_1 (n := 2) rfl rfl (dk_nc_of rfl) (Nat.le_of_ble_eq_true rfl) rfl ?_
  obtain ⟨nn1, h⟩ := h
  refine dk_sub (L0 := [some (dk_r G p0 23), some (.int a1), some (.int 0)]) ⟨rfl, ⟨rfl, ⟨rfl, trivial⟩⟩⟩ ?_
  refine ww_X6_isCarriedKey_2 C hr hlk hp0  nn1 a1 0 s h
/-! X6_isLike -/
set_option maxRecDepth 20000 in
set_option maxHeartbeats 4000000 in
theorem ww_X6_isLike_2 {G : dk_G} {P : Program} {l : Launch} {e : Env} {S0 : State} {m : MethodId} {args : Array Value} {bel : List Frame} {meth : Method} {c : Code} {p0 : Nat} {p1 : Nat} (C : dk_C G P (dk_rm 2) S0 m args c 0 0 cX6_isLike 3 RX6) (hr : meth.sig.returnType = (some .boolean)) (hlk : meth.locks = false) (hp0 : dk_WI G p0) (hp1 : dk_WI G p1) {K : Int32 → dk_S → Prop} {E37 : dk_S → Prop} (hE37 : ∀ (s : dk_S), E37 s → dk_W G P l e (dk_rm 2) S0 m args bel meth c 0 0 (MQ bel (dk_Qc G (dk_ki K)) args S0 0 0 (dk_A G)) 37 [some (dk_r G p0 23), some (dk_r G p1 23), none] [] s) : ∀ (n : Nat) (x2 : Int32) (s : dk_S), wf_X6_isLike_2 p0 p1 K E37 n x2 s → dk_W G P l e (dk_rm 2) S0 m args bel meth c 0 0 (MQ bel (dk_Qc G (dk_ki K)) args S0 0 0 (dk_A G)) 2 [some (dk_r G p0 23), some (dk_r G p1 23), some (.int x2)] [] s := by
  intro n
  induction n with
  | zero => intro x2 s h; exact False.elim h
  | succ n hB =>
    intro x2 s h
    unfold wf_X6_isLike_2 at h
    refine dk_iload_n (i := 2) C dX6_isLike_2 (n := 3) rfl rfl rfl ?_
    refine dk_aload_n (i := 0) C dX6_isLike_3 (n := 4) rfl rfl rfl ?_
    refine gf_X6_18 C (hp0 23 (by decide)) dX6_isLike_4 (n := 7) rfl ?_
    refine dk_icmp_ge (t := 37) C dX6_isLike_7 (n := 10) rfl (by decide) (fun c10 => ?_) (fun c10 => ?_)
    · have h := h.1 c10
      refine dk_sub (L0 := [some (dk_r G p0 23), some (dk_r G p1 23), none]) ⟨rfl, ⟨rfl, trivial⟩⟩ ?_
      exact hE37  s h
    · have h := h.2 c10
      refine dk_aload_n (i := 0) C dX6_isLike_10 (n := 11) rfl rfl rfl ?_
      refine gf_X6_15 C (hp0 23 (by decide)) dX6_isLike_11 (n := 14) rfl ?_
      refine dk_iload_n (i := 2) C dX6_isLike_14 (n := 15) rfl rfl rfl ?_
      refine dk_callNi C [] (cc_X8_at C.D dk_sh25 (hp0 25 (by decide)) h) yy_X8_at dk_wm_X6_30 dX6_isLike_15 (fun r5 s4 h => ?_) rfl ⟨Nat.le_of_ble_eq_true rfl, Nat.le_of_ble_eq_true rfl⟩ rfl (Nat.le_of_ble_eq_true rfl) rfl (n := 18) rfl
      refine dk_aload_n (i := 1) C dX6_isLike_18 (n := 19) rfl rfl rfl ?_
      refine gf_X6_15 C (hp1 23 (by decide)) dX6_isLike_19 (n := 22) rfl ?_
      refine dk_iload_n (i := 2) C dX6_isLike_22 (n := 23) rfl rfl rfl ?_
      refine dk_callNi C [.int r5] (cc_X8_at C.D dk_sh25 (hp1 25 (by decide)) h) yy_X8_at dk_wm_X6_30 dX6_isLike_23 (fun r7 s6 h => ?_) rfl ⟨Nat.le_of_ble_eq_true rfl, Nat.le_of_ble_eq_true rfl⟩ rfl (Nat.le_of_ble_eq_true rfl) rfl (n := 26) rfl
      refine dk_icmp_eq (t := 31) C dX6_isLike_26 (n := 29) rfl (by decide) (fun c9 => ?_) (fun c9 => ?_)
      · have h := h.1 c9
        obtain ⟨v8, ev8⟩ : ∃ y : Int32, y = x2 + 1 := ⟨_, rfl⟩
        have h := h v8 ev8
        refine dk_iinc (i := 2) (v := v8) (L' := [some (dk_r G p0 23), some (dk_r G p1 23), some (.int v8)]) C dX6_isLike_31 (n := 34) rfl rfl (by rw [ev8]; rfl) (dk_nc_of rfl) (Nat.le_of_ble_eq_true rfl) rfl ?_
        refine dk_goto (t := 2) C dX6_isLike_34 (by decide) ?_
        refine dk_sub (L0 := [some (dk_r G p0 23), some (dk_r G p1 23), some (.int v8)]) ⟨rfl, ⟨rfl, ⟨rfl, trivial⟩⟩⟩ ?_
        exact hB v8 s6 h
      · have h := h.2 c9
        refine dk_iconst (v := 0) C dX6_isLike_29 (n := 30) rfl (by decide) ?_
        exact dk_iret C hr hlk dk_nz0 dX6_isLike_30 ⟨_, rfl, h⟩
set_option maxRecDepth 20000 in
set_option maxHeartbeats 4000000 in
theorem cc_X6_isLike {G : dk_G} {l : Launch} {p0 : Nat} {p1 : Nat} (hD : dk_D G) (hp0 : dk_WI G p0) (hp1 : dk_WI G p1) {s : dk_S} {K : Int32 → dk_S → Prop} (h : wf_X6_isLike p0 p1 s K) : dk_M G l 2 yX6_isLike cX6_isLike 3 (some .boolean) [dk_r G p0 23, dk_r G p1 23] s (dk_ki K) := by
  refine dk_of hD (by decide) [some (dk_r G p0 23), some (dk_r G p1 23), none] (fun q hq => hq) rfl (Nat.le_of_ble_eq_true rfl) (fun P e S0 m args bel meth c C hr hlk => ?_)
  unfold wf_X6_isLike at h
  refine dk_iconst (v := 0) C dX6_isLike_0 (n := 1) rfl (by decide) ?_
  refine dk_istore_n (i := 2) (L' := [some (dk_r G p0 23), some (dk_r G p1 23), some (.int 0)]) C dX6_isLike_1 (n := 2) rfl rfl (dk_nc_of rfl) (Nat.le_of_ble_eq_true rfl) rfl ?_
  obtain ⟨nn3, h⟩ := h
  refine dk_sub (L0 := [some (dk_r G p0 23), some (dk_r G p1 23), some (.int 0)]) ⟨rfl, ⟨rfl, ⟨rfl, trivial⟩⟩⟩ ?_
  refine ww_X6_isLike_2 C hr hlk hp0 hp1 (fun s1 h => ?_) nn3 0 s h
  · refine dk_aload_n (i := 0) C dX6_isLike_37 (n := 38) rfl rfl rfl ?_
    refine gf_X6_18 C (hp0 23 (by decide)) dX6_isLike_38 (n := 41) rfl ?_
    refine dk_aload_n (i := 1) C dX6_isLike_41 (n := 42) rfl rfl rfl ?_
    refine gf_X6_18 C (hp1 23 (by decide)) dX6_isLike_42 (n := 45) rfl ?_
    refine dk_icmp_ne (t := 52) C dX6_isLike_45 (n := 48) rfl (by decide) (fun c2 => ?_) (fun c2 => ?_)
    · have h := h.1 c2
      refine dk_iconst (v := 0) C dX6_isLike_52 (n := 53) rfl (by decide) ?_
      exact dk_iret C hr hlk dk_nz0 dX6_isLike_53 ⟨_, rfl, h⟩
    · have h := h.2 c2
      refine dk_iconst (v := 1) C dX6_isLike_48 (n := 49) rfl (by decide) ?_
      refine dk_goto (t := 53) C dX6_isLike_49 (by decide) ?_
      exact dk_iret C hr hlk dk_nz1 dX6_isLike_53 ⟨_, rfl, h⟩
/-! X7_copy -/
set_option maxRecDepth 20000 in
set_option maxHeartbeats 4000000 in
theorem cc_X7_copy {G : dk_G} {l : Launch} {p0 : Nat} {p1 : Nat} (hD : dk_D G) (hp0 : dk_WI G p0) (hp1 : dk_WI G p1) {s : dk_S} {K : dk_S → Prop} (h : wf_X7_copy p0 p1 s K) : dk_M G l 4 yX7_copy cX7_copy 2 none [dk_r G p0 0, dk_r G p1 0] s (dk_kv K) := by
  refine dk_of hD (by decide) [some (dk_r G p0 0), some (dk_r G p1 0)] (fun q hq => hq) rfl (Nat.le_of_ble_eq_true rfl) (fun P e S0 m args bel meth c C hr hlk => ?_)
  unfold wf_X7_copy at h
  refine dk_aload_n (i := 0) C dX7_copy_0 (n := 1) rfl rfl rfl ?_
  refine gf_X7_12 C (hp0 0 (by decide)) dX7_copy_1 (n := 4) rfl ?_
  refine dk_aload_n (i := 1) C dX7_copy_4 (n := 5) rfl rfl rfl ?_
  refine gf_X7_12 C (hp1 0 (by decide)) dX7_copy_5 (n := 8) rfl ?_
  refine dk_callVv C [] (cc_X1_copy C.D hp0 hp1 h) yy_X1_copy dk_wm_X7_62 dk_sh1 (hp0 1 (by decide)) dX7_copy_8 (fun s1 h => ?_) rfl rfl ⟨Nat.le_of_ble_eq_true rfl, Nat.le_of_ble_eq_true rfl⟩ rfl (Nat.le_of_ble_eq_true rfl) rfl (n := 11) rfl
  refine dk_aload_n (i := 0) C dX7_copy_11 (n := 12) rfl rfl rfl ?_
  refine gf_X7_21 C (hp0 0 (by decide)) dX7_copy_12 (n := 15) rfl ?_
  refine dk_aload_n (i := 1) C dX7_copy_15 (n := 16) rfl rfl rfl ?_
  refine gf_X7_21 C (hp1 0 (by decide)) dX7_copy_16 (n := 19) rfl ?_
  refine dk_callVv C [] (cc_X3_copy C.D hp0 hp1 h) yy_X3_copy dk_wm_X7_66 dk_sh7 (hp0 7 (by decide)) dX7_copy_19 (fun s2 h => ?_) rfl rfl ⟨Nat.le_of_ble_eq_true rfl, Nat.le_of_ble_eq_true rfl⟩ rfl (Nat.le_of_ble_eq_true rfl) rfl (n := 22) rfl
  refine dk_aload_n (i := 0) C dX7_copy_22 (n := 23) rfl rfl rfl ?_
  refine gf_X7_28 C (hp0 0 (by decide)) dX7_copy_23 (n := 26) rfl ?_
  refine dk_aload_n (i := 1) C dX7_copy_26 (n := 27) rfl rfl rfl ?_
  refine gf_X7_28 C (hp1 0 (by decide)) dX7_copy_27 (n := 30) rfl ?_
  refine dk_callVv C [] (cc_X2_copy C.D hp0 hp1 h) yy_X2_copy dk_wm_X7_69 dk_sh13 (hp0 13 (by decide)) dX7_copy_30 (fun s3 h => ?_) rfl rfl ⟨Nat.le_of_ble_eq_true rfl, Nat.le_of_ble_eq_true rfl⟩ rfl (Nat.le_of_ble_eq_true rfl) rfl (n := 33) rfl
  refine dk_aload_n (i := 0) C dX7_copy_33 (n := 34) rfl rfl rfl ?_
  refine gf_X7_35 C (hp0 0 (by decide)) dX7_copy_34 (n := 37) rfl ?_
  refine dk_aload_n (i := 1) C dX7_copy_37 (n := 38) rfl rfl rfl ?_
  refine gf_X7_35 C (hp1 0 (by decide)) dX7_copy_38 (n := 41) rfl ?_
  refine dk_callVv C [] (cc_X6_copy C.D hp0 hp1 h) yy_X6_copy dk_wm_X7_72 dk_sh23 (hp0 23 (by decide)) dX7_copy_41 (fun s4 h => ?_) rfl rfl ⟨Nat.le_of_ble_eq_true rfl, Nat.le_of_ble_eq_true rfl⟩ rfl (Nat.le_of_ble_eq_true rfl) rfl (n := 44) rfl
  refine dk_aload_n (i := 0) C dX7_copy_44 (n := 45) rfl rfl rfl ?_
  refine gf_X7_42 C (hp0 0 (by decide)) dX7_copy_45 (n := 48) rfl ?_
  refine dk_aload_n (i := 1) C dX7_copy_48 (n := 49) rfl rfl rfl ?_
  refine gf_X7_42 C (hp1 0 (by decide)) dX7_copy_49 (n := 52) rfl ?_
  refine dk_callVv C [] (cc_X4_copy C.D hp0 hp1 h) yy_X4_copy dk_wm_X7_75 dk_sh26 (hp0 26 (by decide)) dX7_copy_52 (fun s5 h => ?_) rfl rfl ⟨Nat.le_of_ble_eq_true rfl, Nat.le_of_ble_eq_true rfl⟩ rfl (Nat.le_of_ble_eq_true rfl) rfl (n := 55) rfl
  refine dk_aload_n (i := 0) C dX7_copy_55 (n := 56) rfl rfl rfl ?_
  refine dk_iconst (v := 0) C dX7_copy_56 (n := 57) rfl (by decide) ?_
  refine pf_X7_46 C rfl rfl (hp0 0 (by decide)) dX7_copy_57 (n := 60) rfl ?_
  refine dk_nameS (fun s6 es6 => ?_)
  have h := h s6 es6
  refine dk_aload_n (i := 0) C dX7_copy_60 (n := 61) rfl rfl rfl ?_
  refine dk_iconst (v := 0) C dX7_copy_61 (n := 62) rfl (by decide) ?_
  refine pf_X7_53 C rfl rfl (hp0 0 (by decide)) dX7_copy_62 (n := 65) rfl ?_
  refine dk_nameS (fun s7 es7 => ?_)
  have h := h s7 es7
  refine dk_aload_n (i := 0) C dX7_copy_65 (n := 66) rfl rfl rfl ?_
  refine dk_iconst (v := 0) C dX7_copy_66 (n := 67) rfl (by decide) ?_
  refine pf_X7_56 C rfl rfl (hp0 0 (by decide)) dX7_copy_67 (n := 70) rfl ?_
  refine dk_nameS (fun s8 es8 => ?_)
  have h := h s8 es8
  refine dk_aload_n (i := 0) C dX7_copy_70 (n := 71) rfl rfl rfl ?_
  refine dk_iconst (v := 0) C dX7_copy_71 (n := 72) rfl (by decide) ?_
  refine pf_X7_59 C rfl rfl (hp0 0 (by decide)) dX7_copy_72 (n := 75) rfl ?_
  refine dk_nameS (fun s9 es9 => ?_)
  have h := h s9 es9
  exact dk_vret C hr hlk dX7_copy_75 ⟨rfl, h⟩
/-! X7_allStandFree -/
set_option maxRecDepth 20000 in
set_option maxHeartbeats 4000000 in
theorem ww_X7_allStandFree_2 {G : dk_G} {P : Program} {l : Launch} {e : Env} {S0 : State} {m : MethodId} {args : Array Value} {bel : List Frame} {meth : Method} {c : Code} {p0 : Nat} (C : dk_C G P (dk_rm 3) S0 m args c 0 0 cX7_allStandFree 2 RX7) (hr : meth.sig.returnType = (some .boolean)) (hlk : meth.locks = false) (hp0 : dk_WI G p0) {K : Int32 → dk_S → Prop}  : ∀ (n : Nat) (x1 : Int32) (s : dk_S), wf_X7_allStandFree_2 p0 K n x1 s → dk_W G P l e (dk_rm 3) S0 m args bel meth c 0 0 (MQ bel (dk_Qc G (dk_ki K)) args S0 0 0 (dk_A G)) 2 [some (dk_r G p0 0), some (.int x1)] [] s := by
  intro n
  induction n with
  | zero => intro x1 s h; exact False.elim h
  | succ n hB =>
    intro x1 s h
    unfold wf_X7_allStandFree_2 at h
    refine dk_iload_n (i := 1) C dX7_allStandFree_2 (n := 3) rfl rfl rfl ?_
    refine dk_aload_n (i := 0) C dX7_allStandFree_3 (n := 4) rfl rfl rfl ?_
    refine gf_X7_28 C (hp0 0 (by decide)) dX7_allStandFree_4 (n := 7) rfl ?_
    refine gf_X7_86 C (hp0 13 (by decide)) dX7_allStandFree_7 (n := 10) rfl ?_
    refine dk_icmp_ge (t := 42) C dX7_allStandFree_10 (n := 13) rfl (by decide) (fun c8 => ?_) (fun c8 => ?_)
    · have h := h.1 c8
      refine dk_iconst (v := 1) C dX7_allStandFree_42 (n := 43) rfl (by decide) ?_
      exact dk_iret C hr hlk dk_nz1 dX7_allStandFree_43 ⟨_, rfl, h⟩
    · have h := h.2 c8
      refine dk_aload_n (i := 0) C dX7_allStandFree_13 (n := 14) rfl rfl rfl ?_
      refine gf_X7_12 C (hp0 0 (by decide)) dX7_allStandFree_14 (n := 17) rfl ?_
      refine dk_aload_n (i := 0) C dX7_allStandFree_17 (n := 18) rfl rfl rfl ?_
      refine gf_X7_28 C (hp0 0 (by decide)) dX7_allStandFree_18 (n := 21) rfl ?_
      refine gf_X7_78 C (hp0 13 (by decide)) dX7_allStandFree_21 (n := 24) rfl ?_
      refine dk_iload_n (i := 1) C dX7_allStandFree_24 (n := 25) rfl rfl rfl ?_
      refine dk_callNi C [dk_r G p0 1] (cc_X8_at C.D dk_sh14 (hp0 14 (by decide)) h) yy_X8_at dk_wm_X7_82 dX7_allStandFree_25 (fun r3 s2 h => ?_) rfl ⟨Nat.le_of_ble_eq_true rfl, Nat.le_of_ble_eq_true rfl⟩ rfl (Nat.le_of_ble_eq_true rfl) rfl (n := 28) rfl
      refine dk_callVi C [] (cc_X1_isFreeAt C.D hp0 h) yy_X1_isFreeAt dk_wm_X7_89 dk_sh1 (hp0 1 (by decide)) dX7_allStandFree_28 (fun r5 s4 h => ?_) rfl rfl ⟨Nat.le_of_ble_eq_true rfl, Nat.le_of_ble_eq_true rfl⟩ rfl (Nat.le_of_ble_eq_true rfl) rfl (n := 31) rfl
      refine dk_if_ne (t := 36) C dX7_allStandFree_31 (n := 34) rfl (by decide) (fun c7 => ?_) (fun c7 => ?_)
      · have h := h.1 c7
        obtain ⟨v6, ev6⟩ : ∃ y : Int32, y = x1 + 1 := ⟨_, rfl⟩
        have h := h v6 ev6
        refine dk_iinc (i := 1) (v := v6) (L' := [some (dk_r G p0 0), some (.int v6)]) C dX7_allStandFree_36 (n := 39) rfl rfl (by rw [ev6]; rfl) (dk_nc_of rfl) (Nat.le_of_ble_eq_true rfl) rfl ?_
        refine dk_goto (t := 2) C dX7_allStandFree_39 (by decide) ?_
        refine dk_sub (L0 := [some (dk_r G p0 0), some (.int v6)]) ⟨rfl, ⟨rfl, trivial⟩⟩ ?_
        exact hB v6 s4 h
      · have h := h.2 c7
        refine dk_iconst (v := 0) C dX7_allStandFree_34 (n := 35) rfl (by decide) ?_
        exact dk_iret C hr hlk dk_nz0 dX7_allStandFree_35 ⟨_, rfl, h⟩
set_option maxRecDepth 20000 in
set_option maxHeartbeats 4000000 in
theorem cc_X7_allStandFree {G : dk_G} {l : Launch} {p0 : Nat} (hD : dk_D G) (hp0 : dk_WI G p0) {s : dk_S} {K : Int32 → dk_S → Prop} (h : wf_X7_allStandFree p0 s K) : dk_M G l 3 yX7_allStandFree cX7_allStandFree 2 (some .boolean) [dk_r G p0 0] s (dk_ki K) := by
  refine dk_of hD (by decide) [some (dk_r G p0 0), none] (fun q hq => hq) rfl (Nat.le_of_ble_eq_true rfl) (fun P e S0 m args bel meth c C hr hlk => ?_)
  unfold wf_X7_allStandFree at h
  refine dk_iconst (v := 0) C dX7_allStandFree_0 (n := 1) rfl (by decide) ?_
  refine dk_istore_n (i := 1) (L' := [some (dk_r G p0 0), some (.int 0)]) C dX7_allStandFree_1 (n := 2) rfl rfl (dk_nc_of rfl) (Nat.le_of_ble_eq_true rfl) rfl ?_
  obtain ⟨nn1, h⟩ := h
  refine dk_sub (L0 := [some (dk_r G p0 0), some (.int 0)]) ⟨rfl, ⟨rfl, trivial⟩⟩ ?_
  refine ww_X7_allStandFree_2 C hr hlk hp0  nn1 0 s h
/-! X7_isLike -/
set_option maxRecDepth 20000 in
set_option maxHeartbeats 4000000 in
theorem cc_X7_isLike {G : dk_G} {l : Launch} {p0 : Nat} {p1 : Nat} (hD : dk_D G) (hp0 : dk_WI G p0) (hp1 : dk_WI G p1) {s : dk_S} {K : Int32 → dk_S → Prop} (h : wf_X7_isLike p0 p1 s K) : dk_M G l 3 yX7_isLike cX7_isLike 2 (some .boolean) [dk_r G p0 0, dk_r G p1 0] s (dk_ki K) := by
  refine dk_of hD (by decide) [some (dk_r G p0 0), some (dk_r G p1 0)] (fun q hq => hq) rfl (Nat.le_of_ble_eq_true rfl) (fun P e S0 m args bel meth c C hr hlk => ?_)
  unfold wf_X7_isLike at h
  refine dk_aload_n (i := 0) C dX7_isLike_0 (n := 1) rfl rfl rfl ?_
  refine gf_X7_46 C (hp0 0 (by decide)) dX7_isLike_1 (n := 4) rfl ?_
  refine dk_aload_n (i := 1) C dX7_isLike_4 (n := 5) rfl rfl rfl ?_
  refine gf_X7_46 C (hp1 0 (by decide)) dX7_isLike_5 (n := 8) rfl ?_
  refine dk_icmp_ne (t := 57) C dX7_isLike_8 (n := 11) rfl (by decide) (fun c10 => ?_) (fun c10 => ?_)
  · have h := h.1 c10
    refine dk_iconst (v := 0) C dX7_isLike_57 (n := 58) rfl (by decide) ?_
    exact dk_iret C hr hlk dk_nz0 dX7_isLike_58 ⟨_, rfl, h⟩
  · have h := h.2 c10
    refine dk_aload_n (i := 0) C dX7_isLike_11 (n := 12) rfl rfl rfl ?_
    refine gf_X7_12 C (hp0 0 (by decide)) dX7_isLike_12 (n := 15) rfl ?_
    refine dk_aload_n (i := 1) C dX7_isLike_15 (n := 16) rfl rfl rfl ?_
    refine gf_X7_12 C (hp1 0 (by decide)) dX7_isLike_16 (n := 19) rfl ?_
    refine dk_callVi C [] (cc_X1_isLike C.D hp0 hp1 h) yy_X1_isLike dk_wm_X7_127 dk_sh1 (hp0 1 (by decide)) dX7_isLike_19 (fun r2 s1 h => ?_) rfl rfl ⟨Nat.le_of_ble_eq_true rfl, Nat.le_of_ble_eq_true rfl⟩ rfl (Nat.le_of_ble_eq_true rfl) rfl (n := 22) rfl
    refine dk_if_eq (t := 57) C dX7_isLike_22 (n := 25) rfl (by decide) (fun c9 => ?_) (fun c9 => ?_)
    · have h := h.1 c9
      refine dk_iconst (v := 0) C dX7_isLike_57 (n := 58) rfl (by decide) ?_
      exact dk_iret C hr hlk dk_nz0 dX7_isLike_58 ⟨_, rfl, h⟩
    · have h := h.2 c9
      refine dk_aload_n (i := 0) C dX7_isLike_25 (n := 26) rfl rfl rfl ?_
      refine gf_X7_28 C (hp0 0 (by decide)) dX7_isLike_26 (n := 29) rfl ?_
      refine dk_aload_n (i := 1) C dX7_isLike_29 (n := 30) rfl rfl rfl ?_
      refine gf_X7_28 C (hp1 0 (by decide)) dX7_isLike_30 (n := 33) rfl ?_
      refine dk_callVi C [] (cc_X2_isLike C.D hp0 hp1 h) yy_X2_isLike dk_wm_X7_131 dk_sh13 (hp0 13 (by decide)) dX7_isLike_33 (fun r4 s3 h => ?_) rfl rfl ⟨Nat.le_of_ble_eq_true rfl, Nat.le_of_ble_eq_true rfl⟩ rfl (Nat.le_of_ble_eq_true rfl) rfl (n := 36) rfl
      refine dk_if_eq (t := 57) C dX7_isLike_36 (n := 39) rfl (by decide) (fun c8 => ?_) (fun c8 => ?_)
      · have h := h.1 c8
        refine dk_iconst (v := 0) C dX7_isLike_57 (n := 58) rfl (by decide) ?_
        exact dk_iret C hr hlk dk_nz0 dX7_isLike_58 ⟨_, rfl, h⟩
      · have h := h.2 c8
        refine dk_aload_n (i := 0) C dX7_isLike_39 (n := 40) rfl rfl rfl ?_
        refine gf_X7_35 C (hp0 0 (by decide)) dX7_isLike_40 (n := 43) rfl ?_
        refine dk_aload_n (i := 1) C dX7_isLike_43 (n := 44) rfl rfl rfl ?_
        refine gf_X7_35 C (hp1 0 (by decide)) dX7_isLike_44 (n := 47) rfl ?_
        refine dk_callVi C [] (cc_X6_isLike C.D hp0 hp1 h) yy_X6_isLike dk_wm_X7_134 dk_sh23 (hp0 23 (by decide)) dX7_isLike_47 (fun r6 s5 h => ?_) rfl rfl ⟨Nat.le_of_ble_eq_true rfl, Nat.le_of_ble_eq_true rfl⟩ rfl (Nat.le_of_ble_eq_true rfl) rfl (n := 50) rfl
        refine dk_if_eq (t := 57) C dX7_isLike_50 (n := 53) rfl (by decide) (fun c7 => ?_) (fun c7 => ?_)
        · have h := h.1 c7
          refine dk_iconst (v := 0) C dX7_isLike_57 (n := 58) rfl (by decide) ?_
          exact dk_iret C hr hlk dk_nz0 dX7_isLike_58 ⟨_, rfl, h⟩
        · have h := h.2 c7
          refine dk_iconst (v := 1) C dX7_isLike_53 (n := 54) rfl (by decide) ?_
          refine dk_goto (t := 58) C dX7_isLike_54 (by decide) ?_
          exact dk_iret C hr hlk dk_nz1 dX7_isLike_58 ⟨_, rfl, h⟩
/-! X7_strike -/
set_option maxRecDepth 20000 in
set_option maxHeartbeats 4000000 in
theorem cc_X7_strike {G : dk_G} {l : Launch} {p0 : Nat} {a1 : Int32} {a2 : Int32} (hD : dk_D G) (hp0 : dk_WI G p0) {s : dk_S} {K : dk_S → Prop} (h : wf_X7_strike p0 a1 a2 s K) : dk_M G l 3 yX7_strike cX7_strike 4 none [dk_r G p0 0, .int a1, .int a2] s (dk_kv K) := by
  refine dk_of hD (by decide) [some (dk_r G p0 0), some (.int a1), some (.int a2), none] (fun q hq => hq) rfl (Nat.le_of_ble_eq_true rfl) (fun P e S0 m args bel meth c C hr hlk => ?_)
  unfold wf_X7_strike at h
  refine dk_aload_n (i := 0) C dX7_strike_0 (n := 1) rfl rfl rfl ?_
  refine gf_X7_28 C (hp0 0 (by decide)) dX7_strike_1 (n := 4) rfl ?_
  refine dk_iload_n (i := 1) C dX7_strike_4 (n := 5) rfl rfl rfl ?_
  refine dk_callVi C [] (cc_X2_isWeak C.D hp0 h) yy_X2_isWeak dk_wm_X7_198 dk_sh13 (hp0 13 (by decide)) dX7_strike_5 (fun r2 s1 h => ?_) rfl rfl ⟨Nat.le_of_ble_eq_true rfl, Nat.le_of_ble_eq_true rfl⟩ rfl (Nat.le_of_ble_eq_true rfl) rfl (n := 8) rfl
  refine dk_istore_n (i := 3) (L' := [some (dk_r G p0 0), some (.int a1), some (.int a2), some (.int r2)]) C dX7_strike_8 (n := 9) rfl rfl (dk_nc_of rfl) (Nat.le_of_ble_eq_true rfl) rfl ?_
  refine dk_aload_n (i := 0) C dX7_strike_9 (n := 10) rfl rfl rfl ?_
  refine gf_X7_28 C (hp0 0 (by decide)) dX7_strike_10 (n := 13) rfl ?_
  refine dk_iload_n (i := 1) C dX7_strike_13 (n := 14) rfl rfl rfl ?_
  refine dk_iload_n (i := 2) C dX7_strike_14 (n := 15) rfl rfl rfl ?_
  refine dk_callVv C [] (cc_X2_harm C.D hp0 h) yy_X2_harm dk_wm_X7_201 dk_sh13 (hp0 13 (by decide)) dX7_strike_15 (fun s3 h => ?_) rfl rfl ⟨Nat.le_of_ble_eq_true rfl, Nat.le_of_ble_eq_true rfl⟩ rfl (Nat.le_of_ble_eq_true rfl) rfl (n := 18) rfl
  refine dk_aload_n (i := 0) C dX7_strike_18 (n := 19) rfl rfl rfl ?_
  refine gf_X7_28 C (hp0 0 (by decide)) dX7_strike_19 (n := 22) rfl ?_
  refine dk_iload_n (i := 1) C dX7_strike_22 (n := 23) rfl rfl rfl ?_
  refine dk_callVi C [] (cc_X2_lives C.D hp0 h) yy_X2_lives dk_wm_X7_204 dk_sh13 (hp0 13 (by decide)) dX7_strike_23 (fun r5 s4 h => ?_) rfl rfl ⟨Nat.le_of_ble_eq_true rfl, Nat.le_of_ble_eq_true rfl⟩ rfl (Nat.le_of_ble_eq_true rfl) rfl (n := 26) rfl
  refine dk_if_ne (t := 48) C dX7_strike_26 (n := 29) rfl (by decide) (fun c9 => ?_) (fun c9 => ?_)
  · have h := h.1 c9
    exact dk_vret C hr hlk dX7_strike_48 ⟨rfl, h⟩
  · have h := h.2 c9
    refine dk_aload_n (i := 0) C dX7_strike_29 (n := 30) rfl rfl rfl ?_
    refine dk_dup C dX7_strike_30 (n := 31) rfl rfl ?_
    refine gf_X7_53 C (hp0 0 (by decide)) dX7_strike_31 (n := 34) rfl ?_
    refine dk_iload_n (i := 3) C dX7_strike_34 (n := 35) rfl rfl rfl ?_
    refine dk_if_eq (t := 43) C dX7_strike_35 (n := 38) rfl (by decide) (fun c8 => ?_) (fun c8 => ?_)
    · have h := h.1 c8
      refine dk_iconst (v := 1) C dX7_strike_43 (n := 44) rfl (by decide) ?_
      refine dk_iadd C dX7_strike_44 (n := 45) rfl ?_
      refine pf_X7_53 C rfl rfl (hp0 0 (by decide)) dX7_strike_45 (n := 48) rfl ?_
      refine dk_nameS (fun s6 es6 => ?_)
      have h := h s6 es6
      exact dk_vret C hr hlk dX7_strike_48 ⟨rfl, h⟩
    · have h := h.2 c8
      refine dk_bipush (v := (-2)) C dX7_strike_38 (n := 40) rfl (by decide) ?_
      refine dk_goto (t := 44) C dX7_strike_40 (by decide) ?_
      refine dk_iadd C dX7_strike_44 (n := 45) rfl ?_
      refine pf_X7_53 C rfl rfl (hp0 0 (by decide)) dX7_strike_45 (n := 48) rfl ?_
      refine dk_nameS (fun s7 es7 => ?_)
      have h := h s7 es7
      exact dk_vret C hr hlk dX7_strike_48 ⟨rfl, h⟩
/-! X7_makeNoise -/
set_option maxRecDepth 20000 in
set_option maxHeartbeats 4000000 in
theorem ww_X7_makeNoise_99 {G : dk_G} {P : Program} {l : Launch} {e : Env} {S0 : State} {m : MethodId} {args : Array Value} {bel : List Frame} {meth : Method} {c : Code} {p0 : Nat} (C : dk_C G P (dk_rm 3) S0 m args c 0 0 cX7_makeNoise 6 RX7) (hr : meth.sig.returnType = (some .int)) (hlk : meth.locks = false) (hp0 : dk_WI G p0) {K : Int32 → dk_S → Prop} {B : Int32 → Int32 → Int32 → Int32 → dk_S → Prop} (hB : ∀ (x1 : Int32) (x2 : Int32) (x3 : Int32) (x4 : Int32) (s : dk_S), B x1 x2 x3 x4 s → dk_W G P l e (dk_rm 3) S0 m args bel meth c 0 0 (MQ bel (dk_Qc G (dk_ki K)) args S0 0 0 (dk_A G)) 24 [some (dk_r G p0 0), some (.int x1), some (.int x2), some (.int x3), some (.int x4), none] [] s)  : ∀ (x1 : Int32) (x2 : Int32) (x3 : Int32) (x4 : Int32) (s : dk_S), wf_X7_makeNoise_99 p0 K B x1 x2 x3 x4 s → dk_W G P l e (dk_rm 3) S0 m args bel meth c 0 0 (MQ bel (dk_Qc G (dk_ki K)) args S0 0 0 (dk_A G)) 99 [some (dk_r G p0 0), some (.int x1), some (.int x2), some (.int x3), some (.int x4), none] [] s := by
  intro x1 x2 x3 x4 s h
  unfold wf_X7_makeNoise_99 at h
  obtain ⟨v15, ev15⟩ : ∃ y : Int32, y = x4 + 1 := ⟨_, rfl⟩
  have h := h v15 ev15
  refine dk_iinc (i := 4) (v := v15) (L' := [some (dk_r G p0 0), some (.int x1), some (.int x2), some (.int x3), some (.int v15), none]) C dX7_makeNoise_99 (n := 102) rfl rfl (by rw [ev15]; rfl) (dk_nc_of rfl) (Nat.le_of_ble_eq_true rfl) rfl ?_
  refine dk_goto (t := 24) C dX7_makeNoise_102 (by decide) ?_
  refine dk_sub (L0 := [some (dk_r G p0 0), some (.int x1), some (.int x2), some (.int x3), some (.int v15), none]) ⟨rfl, ⟨rfl, ⟨rfl, ⟨rfl, ⟨rfl, trivial⟩⟩⟩⟩⟩ ?_
  exact hB x1 x2 x3 v15 s h
set_option maxRecDepth 20000 in
set_option maxHeartbeats 4000000 in
theorem ww_X7_makeNoise_24 {G : dk_G} {P : Program} {l : Launch} {e : Env} {S0 : State} {m : MethodId} {args : Array Value} {bel : List Frame} {meth : Method} {c : Code} {p0 : Nat} (C : dk_C G P (dk_rm 3) S0 m args c 0 0 cX7_makeNoise 6 RX7) (hr : meth.sig.returnType = (some .int)) (hlk : meth.locks = false) (hp0 : dk_WI G p0) {K : Int32 → dk_S → Prop}  : ∀ (n : Nat) (x1 : Int32) (x2 : Int32) (x3 : Int32) (x4 : Int32) (s : dk_S), wf_X7_makeNoise_24 p0 K n x1 x2 x3 x4 s → dk_W G P l e (dk_rm 3) S0 m args bel meth c 0 0 (MQ bel (dk_Qc G (dk_ki K)) args S0 0 0 (dk_A G)) 24 [some (dk_r G p0 0), some (.int x1), some (.int x2), some (.int x3), some (.int x4), none] [] s := by
  intro n
  induction n with
  | zero => intro x1 x2 x3 x4 s h; exact False.elim h
  | succ n hB =>
    intro x1 x2 x3 x4 s h
    unfold wf_X7_makeNoise_24 at h
    refine dk_iload C dX7_makeNoise_24 (n := 26) rfl (i := 4) rfl ?_
    refine dk_aload_n (i := 0) C dX7_makeNoise_26 (n := 27) rfl rfl rfl ?_
    refine gf_X7_28 C (hp0 0 (by decide)) dX7_makeNoise_27 (n := 30) rfl ?_
    refine gf_X7_86 C (hp0 13 (by decide)) dX7_makeNoise_30 (n := 33) rfl ?_
    refine dk_icmp_ge (t := 105) C dX7_makeNoise_33 (n := 36) rfl (by decide) (fun c14 => ?_) (fun c14 => ?_)
    · have h := h.1 c14
      refine dk_iload_n (i := 3) C dX7_makeNoise_105 (n := 106) rfl rfl rfl ?_
      exact dk_iret C hr hlk rfl dX7_makeNoise_106 ⟨_, rfl, h⟩
    · have h := h.2 c14
      refine dk_aload_n (i := 0) C dX7_makeNoise_36 (n := 37) rfl rfl rfl ?_
      refine gf_X7_12 C (hp0 0 (by decide)) dX7_makeNoise_37 (n := 40) rfl ?_
      refine gf_X7_115 C (hp0 1 (by decide)) dX7_makeNoise_40 (n := 43) rfl ?_
      refine dk_aload_n (i := 0) C dX7_makeNoise_43 (n := 44) rfl rfl rfl ?_
      refine gf_X7_28 C (hp0 0 (by decide)) dX7_makeNoise_44 (n := 47) rfl ?_
      refine gf_X7_78 C (hp0 13 (by decide)) dX7_makeNoise_47 (n := 50) rfl ?_
      refine dk_iload C dX7_makeNoise_50 (n := 52) rfl (i := 4) rfl ?_
      refine dk_callNi C [dk_r G p0 5] (cc_X8_at C.D dk_sh14 (hp0 14 (by decide)) h) yy_X8_at dk_wm_X7_82 dX7_makeNoise_52 (fun r4 s3 h => ?_) rfl ⟨Nat.le_of_ble_eq_true rfl, Nat.le_of_ble_eq_true rfl⟩ rfl (Nat.le_of_ble_eq_true rfl) rfl (n := 55) rfl
      refine dk_callNi C [] (cc_X8_at C.D dk_sh5 (hp0 5 (by decide)) h) yy_X8_at dk_wm_X7_82 dX7_makeNoise_55 (fun r6 s5 h => ?_) rfl ⟨Nat.le_of_ble_eq_true rfl, Nat.le_of_ble_eq_true rfl⟩ rfl (Nat.le_of_ble_eq_true rfl) rfl (n := 58) rfl
      refine dk_istore (i := 5) (L' := [some (dk_r G p0 0), some (.int x1), some (.int x2), some (.int x3), some (.int x4), some (.int r6)]) C dX7_makeNoise_58 (n := 60) rfl (dk_nc_of rfl) (Nat.le_of_ble_eq_true rfl) rfl ?_
      refine dk_aload_n (i := 0) C dX7_makeNoise_60 (n := 61) rfl rfl rfl ?_
      refine gf_X7_28 C (hp0 0 (by decide)) dX7_makeNoise_61 (n := 64) rfl ?_
      refine dk_iload C dX7_makeNoise_64 (n := 66) rfl (i := 4) rfl ?_
      refine dk_callVi C [] (cc_X2_lives C.D hp0 h) yy_X2_lives dk_wm_X7_204 dk_sh13 (hp0 13 (by decide)) dX7_makeNoise_66 (fun r8 s7 h => ?_) rfl rfl ⟨Nat.le_of_ble_eq_true rfl, Nat.le_of_ble_eq_true rfl⟩ rfl (Nat.le_of_ble_eq_true rfl) rfl (n := 69) rfl
      refine dk_if_eq (t := 99) C dX7_makeNoise_69 (n := 72) rfl (by decide) (fun c13 => ?_) (fun c13 => ?_)
      · have h := h.1 c13
        refine dk_sub (L0 := [some (dk_r G p0 0), some (.int x1), some (.int x2), some (.int x3), some (.int x4), none]) ⟨rfl, ⟨rfl, ⟨rfl, ⟨rfl, ⟨rfl, trivial⟩⟩⟩⟩⟩ ?_
        exact ww_X7_makeNoise_99 C hr hlk hp0 hB x1 x2 x3 x4 s7 h
      · have h := h.2 c13
        refine dk_iload C dX7_makeNoise_72 (n := 74) rfl (i := 5) rfl ?_
        refine dk_if_lt (t := 99) C dX7_makeNoise_74 (n := 77) rfl (by decide) (fun c12 => ?_) (fun c12 => ?_)
        · have h := h.1 c12
          refine dk_sub (L0 := [some (dk_r G p0 0), some (.int x1), some (.int x2), some (.int x3), some (.int x4), none]) ⟨rfl, ⟨rfl, ⟨rfl, ⟨rfl, ⟨rfl, trivial⟩⟩⟩⟩⟩ ?_
          exact ww_X7_makeNoise_99 C hr hlk hp0 hB x1 x2 x3 x4 s7 h
        · have h := h.2 c12
          refine dk_iload C dX7_makeNoise_77 (n := 79) rfl (i := 5) rfl ?_
          refine dk_iload_n (i := 2) C dX7_makeNoise_79 (n := 80) rfl rfl rfl ?_
          refine dk_icmp_gt (t := 99) C dX7_makeNoise_80 (n := 83) rfl (by decide) (fun c11 => ?_) (fun c11 => ?_)
          · have h := h.1 c11
            refine dk_sub (L0 := [some (dk_r G p0 0), some (.int x1), some (.int x2), some (.int x3), some (.int x4), none]) ⟨rfl, ⟨rfl, ⟨rfl, ⟨rfl, ⟨rfl, trivial⟩⟩⟩⟩⟩ ?_
            exact ww_X7_makeNoise_99 C hr hlk hp0 hB x1 x2 x3 x4 s7 h
          · have h := h.2 c11
            refine dk_aload_n (i := 0) C dX7_makeNoise_83 (n := 84) rfl rfl rfl ?_
            refine gf_X7_28 C (hp0 0 (by decide)) dX7_makeNoise_84 (n := 87) rfl ?_
            refine gf_X7_271 C (hp0 13 (by decide)) dX7_makeNoise_87 (n := 90) rfl ?_
            refine dk_iload C dX7_makeNoise_90 (n := 92) rfl (i := 4) rfl ?_
            refine dk_iload_n (i := 1) C dX7_makeNoise_92 (n := 93) rfl rfl rfl ?_
            refine dk_callNv C [] (cc_X8_put C.D dk_sh22 (hp0 22 (by decide)) h) yy_X8_put dk_wm_X7_142 dX7_makeNoise_93 (fun s9 h => ?_) rfl ⟨Nat.le_of_ble_eq_true rfl, Nat.le_of_ble_eq_true rfl⟩ rfl (Nat.le_of_ble_eq_true rfl) rfl (n := 96) rfl
            obtain ⟨v10, ev10⟩ : ∃ y : Int32, y = x3 + 1 := ⟨_, rfl⟩
            have h := h v10 ev10
            refine dk_iinc (i := 3) (v := v10) (L' := [some (dk_r G p0 0), some (.int x1), some (.int x2), some (.int v10), some (.int x4), some (.int r6)]) C dX7_makeNoise_96 (n := 99) rfl rfl (by rw [ev10]; rfl) (dk_nc_of rfl) (Nat.le_of_ble_eq_true rfl) rfl ?_
            refine dk_sub (L0 := [some (dk_r G p0 0), some (.int x1), some (.int x2), some (.int v10), some (.int x4), none]) ⟨rfl, ⟨rfl, ⟨rfl, ⟨rfl, ⟨rfl, trivial⟩⟩⟩⟩⟩ ?_
            exact ww_X7_makeNoise_99 C hr hlk hp0 hB x1 x2 v10 x4 s9 h
set_option maxRecDepth 20000 in
set_option maxHeartbeats 4000000 in
theorem cc_X7_makeNoise {G : dk_G} {l : Launch} {p0 : Nat} {a1 : Int32} {a2 : Int32} (hD : dk_D G) (hp0 : dk_WI G p0) {s : dk_S} {K : Int32 → dk_S → Prop} (h : wf_X7_makeNoise p0 a1 a2 s K) : dk_M G l 3 yX7_makeNoise cX7_makeNoise 6 (some .int) [dk_r G p0 0, .int a1, .int a2] s (dk_ki K) := by
  refine dk_of hD (by decide) [some (dk_r G p0 0), some (.int a1), some (.int a2), none, none, none] (fun q hq => hq) rfl (Nat.le_of_ble_eq_true rfl) (fun P e S0 m args bel meth c C hr hlk => ?_)
  unfold wf_X7_makeNoise at h
  refine dk_aload_n (i := 0) C dX7_makeNoise_0 (n := 1) rfl rfl rfl ?_
  refine gf_X7_12 C (hp0 0 (by decide)) dX7_makeNoise_1 (n := 4) rfl ?_
  refine dk_aload_n (i := 0) C dX7_makeNoise_4 (n := 5) rfl rfl rfl ?_
  refine gf_X7_12 C (hp0 0 (by decide)) dX7_makeNoise_5 (n := 8) rfl ?_
  refine gf_X7_115 C (hp0 1 (by decide)) dX7_makeNoise_8 (n := 11) rfl ?_
  refine dk_iload_n (i := 1) C dX7_makeNoise_11 (n := 12) rfl rfl rfl ?_
  refine dk_iconst (v := 3) C dX7_makeNoise_12 (n := 13) rfl (by decide) ?_
  refine dk_bipush (v := 7) C dX7_makeNoise_13 (n := 15) rfl (by decide) ?_
  refine dk_iload_n (i := 2) C dX7_makeNoise_15 (n := 16) rfl rfl rfl ?_
  refine dk_callVv C [] (cc_X1_flood C.D hp0 dk_sh5 (hp0 5 (by decide)) h) yy_X1_flood dk_wm_X7_119 dk_sh1 (hp0 1 (by decide)) dX7_makeNoise_16 (fun s1 h => ?_) rfl rfl ⟨Nat.le_of_ble_eq_true rfl, Nat.le_of_ble_eq_true rfl⟩ rfl (Nat.le_of_ble_eq_true rfl) rfl (n := 19) rfl
  refine dk_iconst (v := 0) C dX7_makeNoise_19 (n := 20) rfl (by decide) ?_
  refine dk_istore_n (i := 3) (L' := [some (dk_r G p0 0), some (.int a1), some (.int a2), some (.int 0), none, none]) C dX7_makeNoise_20 (n := 21) rfl rfl (dk_nc_of rfl) (Nat.le_of_ble_eq_true rfl) rfl ?_
  refine dk_iconst (v := 1) C dX7_makeNoise_21 (n := 22) rfl (by decide) ?_
  refine dk_istore (i := 4) (L' := [some (dk_r G p0 0), some (.int a1), some (.int a2), some (.int 0), some (.int 1), none]) C dX7_makeNoise_22 (n := 24) rfl (dk_nc_of rfl) (Nat.le_of_ble_eq_true rfl) rfl ?_
  obtain ⟨nn2, h⟩ := h
  refine dk_sub (L0 := [some (dk_r G p0 0), some (.int a1), some (.int a2), some (.int 0), some (.int 1), none]) ⟨rfl, ⟨rfl, ⟨rfl, ⟨rfl, ⟨rfl, trivial⟩⟩⟩⟩⟩ ?_
  refine ww_X7_makeNoise_24 C hr hlk hp0  nn2 a1 a2 0 1 s1 h
