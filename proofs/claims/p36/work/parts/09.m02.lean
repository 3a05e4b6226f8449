/-! X7_heroGoes -/
set_option maxRecDepth 20000 in
set_option maxHeartbeats 4000000 in
theorem ww_X7_heroGoes_115 {G : dk_G} {P : Program} {l : Launch} {e : Env} {S0 : State} {m : MethodId} {args : Array Value} {bel : List Frame} {meth : Method} {c : Code} {p0 : Nat} (C : dk_C G P (dk_rm 5) S0 m args c 0 0 cX7_heroGoes 5 RX7) (hr : meth.sig.returnType = (some .int)) (hlk : meth.locks = false) (hp0 : dk_WI G p0) {K : Int32 → dk_S → Prop}  : ∀ (x2 : Int32) (x4 : Int32) (s : dk_S), wf_X7_heroGoes_115 p0 K x2 x4 s → dk_W G P l e (dk_rm 5) S0 m args bel meth c 0 0 (MQ bel (dk_Qc G (dk_ki K)) args S0 0 0 (dk_A G)) 115 [some (dk_r G p0 0), none, some (.int x2), none, some (.int x4)] [] s := by
  intro x2 x4 s h
  unfold wf_X7_heroGoes_115 at h
  refine dk_iload C dX7_heroGoes_115 (n := 117) rfl (i := 4) rfl ?_
  refine dk_callNi C [] (cc_X8_isFree C.D  h) yy_X8_isFree dk_wm_X7_194 dX7_heroGoes_117 (fun r28 s27 h => ?_) rfl ⟨Nat.le_of_ble_eq_true rfl, Nat.le_of_ble_eq_true rfl⟩ rfl (Nat.le_of_ble_eq_true rfl) rfl (n := 120) rfl
  refine dk_if_eq (t := 138) C dX7_heroGoes_120 (n := 123) rfl (by decide) (fun c30 => ?_) (fun c30 => ?_)
  · have h := h.1 c30
    refine dk_ldc (v := (-1000000)) C dX7_heroGoes_138 (n := 140) rfl dk_wk_X7_165 ?_
    exact dk_iret C hr hlk rfl dX7_heroGoes_140 ⟨_, rfl, h⟩
  · have h := h.2 c30
    refine dk_aload_n (i := 0) C dX7_heroGoes_123 (n := 124) rfl rfl rfl ?_
    refine gf_X7_28 C (hp0 0 (by decide)) dX7_heroGoes_124 (n := 127) rfl ?_
    refine gf_X7_78 C (hp0 13 (by decide)) dX7_heroGoes_127 (n := 130) rfl ?_
    refine dk_iconst (v := 0) C dX7_heroGoes_130 (n := 131) rfl (by decide) ?_
    refine dk_iload_n (i := 2) C dX7_heroGoes_131 (n := 132) rfl rfl rfl ?_
    refine dk_callNv C [] (cc_X8_put C.D dk_sh14 (hp0 14 (by decide)) h) yy_X8_put dk_wm_X7_142 dX7_heroGoes_132 (fun s29 h => ?_) rfl ⟨Nat.le_of_ble_eq_true rfl, Nat.le_of_ble_eq_true rfl⟩ rfl (Nat.le_of_ble_eq_true rfl) rfl (n := 135) rfl
    refine dk_bipush (v := 109) C dX7_heroGoes_135 (n := 137) rfl (by decide) ?_
    exact dk_iret C hr hlk rfl dX7_heroGoes_137 ⟨_, rfl, h⟩
set_option maxRecDepth 20000 in
set_option maxHeartbeats 4000000 in
theorem cc_X7_heroGoes {G : dk_G} {l : Launch} {p0 : Nat} {a1 : Int32} (hD : dk_D G) (hp0 : dk_WI G p0) {s : dk_S} {K : Int32 → dk_S → Prop} (h : wf_X7_heroGoes p0 a1 s K) : dk_M G l 5 yX7_heroGoes cX7_heroGoes 5 (some .int) [dk_r G p0 0, .int a1] s (dk_ki K) := by
  refine dk_of hD (by decide) [some (dk_r G p0 0), some (.int a1), none, none, none] (fun q hq => hq) rfl (Nat.le_of_ble_eq_true rfl) (fun P e S0 m args bel meth c C hr hlk => ?_)
  unfold wf_X7_heroGoes at h
  refine dk_aload_n (i := 0) C dX7_heroGoes_0 (n := 1) rfl rfl rfl ?_
  refine dk_callVi C [] (cc_X7_heroSpot C.D hp0 h) yy_X7_heroSpot dk_wm_X7_93 dk_sh0 (hp0 0 (by decide)) dX7_heroGoes_1 (fun r2 s1 h => ?_) rfl rfl ⟨Nat.le_of_ble_eq_true rfl, Nat.le_of_ble_eq_true rfl⟩ rfl (Nat.le_of_ble_eq_true rfl) rfl (n := 4) rfl
  refine dk_iload_n (i := 1) C dX7_heroGoes_4 (n := 5) rfl rfl rfl ?_
  refine dk_callNi C [] (cc_X8_beside C.D  h) yy_X8_beside dk_wm_X7_170 dX7_heroGoes_5 (fun r4 s3 h => ?_) rfl ⟨Nat.le_of_ble_eq_true rfl, Nat.le_of_ble_eq_true rfl⟩ rfl (Nat.le_of_ble_eq_true rfl) rfl (n := 8) rfl
  refine dk_istore_n (i := 2) (L' := [some (dk_r G p0 0), some (.int a1), some (.int r4), none, none]) C dX7_heroGoes_8 (n := 9) rfl rfl (dk_nc_of rfl) (Nat.le_of_ble_eq_true rfl) rfl ?_
  refine dk_aload_n (i := 0) C dX7_heroGoes_9 (n := 10) rfl rfl rfl ?_
  refine gf_X7_28 C (hp0 0 (by decide)) dX7_heroGoes_10 (n := 13) rfl ?_
  refine dk_iload_n (i := 2) C dX7_heroGoes_13 (n := 14) rfl rfl rfl ?_
  refine dk_callVi C [] (cc_X2_livingAt C.D hp0 h) yy_X2_livingAt dk_wm_X7_173 dk_sh13 (hp0 13 (by decide)) dX7_heroGoes_14 (fun r6 s5 h => ?_) rfl rfl ⟨Nat.le_of_ble_eq_true rfl, Nat.le_of_ble_eq_true rfl⟩ rfl (Nat.le_of_ble_eq_true rfl) rfl (n := 17) rfl
  refine dk_istore_n (i := 3) (L' := [some (dk_r G p0 0), some (.int a1), some (.int r4), some (.int r6), none]) C dX7_heroGoes_17 (n := 18) rfl rfl (dk_nc_of rfl) (Nat.le_of_ble_eq_true rfl) rfl ?_
  refine dk_aload_n (i := 0) C dX7_heroGoes_18 (n := 19) rfl rfl rfl ?_
  refine gf_X7_12 C (hp0 0 (by decide)) dX7_heroGoes_19 (n := 22) rfl ?_
  refine dk_iload_n (i := 2) C dX7_heroGoes_22 (n := 23) rfl rfl rfl ?_
  refine dk_callVi C [] (cc_X1_signAt C.D hp0 h) yy_X1_signAt dk_wm_X7_176 dk_sh1 (hp0 1 (by decide)) dX7_heroGoes_23 (fun r8 s7 h => ?_) rfl rfl ⟨Nat.le_of_ble_eq_true rfl, Nat.le_of_ble_eq_true rfl⟩ rfl (Nat.le_of_ble_eq_true rfl) rfl (n := 26) rfl
  refine dk_istore (i := 4) (L' := [some (dk_r G p0 0), some (.int a1), some (.int r4), some (.int r6), some (.int r8)]) C dX7_heroGoes_26 (n := 28) rfl (dk_nc_of rfl) (Nat.le_of_ble_eq_true rfl) rfl ?_
  refine dk_iload_n (i := 3) C dX7_heroGoes_28 (n := 29) rfl rfl rfl ?_
  refine dk_if_le (t := 66) C dX7_heroGoes_29 (n := 32) rfl (by decide) (fun c26 => ?_) (fun c26 => ?_)
  · have h := h.1 c26
    refine dk_iload C dX7_heroGoes_66 (n := 68) rfl (i := 4) rfl ?_
    refine dk_bipush (v := 43) C dX7_heroGoes_68 (n := 70) rfl (by decide) ?_
    refine dk_icmp_eq (t := 102) C dX7_heroGoes_70 (n := 73) rfl (by decide) (fun c16 => ?_) (fun c16 => ?_)
    · have h := h.1 c16
      refine dk_aload_n (i := 0) C dX7_heroGoes_102 (n := 103) rfl rfl rfl ?_
      refine gf_X7_12 C (hp0 0 (by decide)) dX7_heroGoes_103 (n := 106) rfl ?_
      refine dk_iload_n (i := 2) C dX7_heroGoes_106 (n := 107) rfl rfl rfl ?_
      refine dk_bipush (v := 47) C dX7_heroGoes_107 (n := 109) rfl (by decide) ?_
      refine dk_callVv C [] (cc_X1_change C.D hp0 h) yy_X1_change dk_wm_X7_190 dk_sh1 (hp0 1 (by decide)) dX7_heroGoes_109 (fun s9 h => ?_) rfl rfl ⟨Nat.le_of_ble_eq_true rfl, Nat.le_of_ble_eq_true rfl⟩ rfl (Nat.le_of_ble_eq_true rfl) rfl (n := 112) rfl
      refine dk_bipush (v := 111) C dX7_heroGoes_112 (n := 114) rfl (by decide) ?_
      exact dk_iret C hr hlk rfl dX7_heroGoes_114 ⟨_, rfl, h⟩
    · have h := h.2 c16
      refine dk_iload C dX7_heroGoes_73 (n := 75) rfl (i := 4) rfl ?_
      refine dk_bipush (v := 48) C dX7_heroGoes_75 (n := 77) rfl (by decide) ?_
      refine dk_icmp_lt (t := 115) C dX7_heroGoes_77 (n := 80) rfl (by decide) (fun c15 => ?_) (fun c15 => ?_)
      · have h := h.1 c15
        refine dk_sub (L0 := [some (dk_r G p0 0), none, some (.int r4), none, some (.int r8)]) ⟨rfl, ⟨rfl, ⟨rfl, trivial⟩⟩⟩ ?_
        exact ww_X7_heroGoes_115 C hr hlk hp0  r4 r8 s7 h
      · have h := h.2 c15
        refine dk_iload C dX7_heroGoes_80 (n := 82) rfl (i := 4) rfl ?_
        refine dk_bipush (v := 50) C dX7_heroGoes_82 (n := 84) rfl (by decide) ?_
        refine dk_icmp_gt (t := 115) C dX7_heroGoes_84 (n := 87) rfl (by decide) (fun c14 => ?_) (fun c14 => ?_)
        · have h := h.1 c14
          refine dk_sub (L0 := [some (dk_r G p0 0), none, some (.int r4), none, some (.int r8)]) ⟨rfl, ⟨rfl, ⟨rfl, trivial⟩⟩⟩ ?_
          exact ww_X7_heroGoes_115 C hr hlk hp0  r4 r8 s7 h
        · have h := h.2 c14
          refine dk_aload_n (i := 0) C dX7_heroGoes_87 (n := 88) rfl rfl rfl ?_
          refine gf_X7_35 C (hp0 0 (by decide)) dX7_heroGoes_88 (n := 91) rfl ?_
          refine dk_iload C dX7_heroGoes_91 (n := 93) rfl (i := 4) rfl ?_
          refine dk_bipush (v := 48) C dX7_heroGoes_93 (n := 95) rfl (by decide) ?_
          refine dk_isub C dX7_heroGoes_95 (n := 96) rfl ?_
          refine dk_callVi C [] (cc_X6_isCarriedKey C.D hp0 h) yy_X6_isCarriedKey dk_wm_X7_187 dk_sh23 (hp0 23 (by decide)) dX7_heroGoes_96 (fun r11 s10 h => ?_) rfl rfl ⟨Nat.le_of_ble_eq_true rfl, Nat.le_of_ble_eq_true rfl⟩ rfl (Nat.le_of_ble_eq_true rfl) rfl (n := 99) rfl
          refine dk_if_eq (t := 115) C dX7_heroGoes_99 (n := 102) rfl (by decide) (fun c13 => ?_) (fun c13 => ?_)
          · have h := h.1 c13
            refine dk_sub (L0 := [some (dk_r G p0 0), none, some (.int r4), none, some (.int r8)]) ⟨rfl, ⟨rfl, ⟨rfl, trivial⟩⟩⟩ ?_
            exact ww_X7_heroGoes_115 C hr hlk hp0  r4 r8 s10 h
          · have h := h.2 c13
            refine dk_aload_n (i := 0) C dX7_heroGoes_102 (n := 103) rfl rfl rfl ?_
            refine gf_X7_12 C (hp0 0 (by decide)) dX7_heroGoes_103 (n := 106) rfl ?_
            refine dk_iload_n (i := 2) C dX7_heroGoes_106 (n := 107) rfl rfl rfl ?_
            refine dk_bipush (v := 47) C dX7_heroGoes_107 (n := 109) rfl (by decide) ?_
            refine dk_callVv C [] (cc_X1_change C.D hp0 h) yy_X1_change dk_wm_X7_190 dk_sh1 (hp0 1 (by decide)) dX7_heroGoes_109 (fun s12 h => ?_) rfl rfl ⟨Nat.le_of_ble_eq_true rfl, Nat.le_of_ble_eq_true rfl⟩ rfl (Nat.le_of_ble_eq_true rfl) rfl (n := 112) rfl
            refine dk_bipush (v := 111) C dX7_heroGoes_112 (n := 114) rfl (by decide) ?_
            exact dk_iret C hr hlk rfl dX7_heroGoes_114 ⟨_, rfl, h⟩
  · have h := h.2 c26
    refine dk_aload_n (i := 0) C dX7_heroGoes_32 (n := 33) rfl rfl rfl ?_
    refine dk_iload_n (i := 3) C dX7_heroGoes_33 (n := 34) rfl rfl rfl ?_
    refine dk_aload_n (i := 0) C dX7_heroGoes_34 (n := 35) rfl rfl rfl ?_
    refine gf_X7_35 C (hp0 0 (by decide)) dX7_heroGoes_35 (n := 38) rfl ?_
    refine dk_bipush (v := 7) C dX7_heroGoes_38 (n := 40) rfl (by decide) ?_
    refine dk_callVi C [.int r6, dk_r G p0 0] (cc_X6_hasInHands C.D hp0 h) yy_X6_hasInHands dk_wm_X7_180 dk_sh23 (hp0 23 (by decide)) dX7_heroGoes_40 (fun r18 s17 h => ?_) rfl rfl ⟨Nat.le_of_ble_eq_true rfl, Nat.le_of_ble_eq_true rfl⟩ rfl (Nat.le_of_ble_eq_true rfl) rfl (n := 43) rfl
    refine dk_if_eq (t := 51) C dX7_heroGoes_43 (n := 46) rfl (by decide) (fun c25 => ?_) (fun c25 => ?_)
    · have h := h.1 c25
      refine dk_iconst (v := 3) C dX7_heroGoes_51 (n := 52) rfl (by decide) ?_
      refine dk_callVv C [] (cc_X7_strike C.D hp0 h) yy_X7_strike dk_wm_X7_183 dk_sh0 (hp0 0 (by decide)) dX7_heroGoes_52 (fun s19 h => ?_) rfl rfl ⟨Nat.le_of_ble_eq_true rfl, Nat.le_of_ble_eq_true rfl⟩ rfl (Nat.le_of_ble_eq_true rfl) rfl (n := 55) rfl
      refine dk_aload_n (i := 0) C dX7_heroGoes_55 (n := 56) rfl rfl rfl ?_
      refine dk_iload_n (i := 2) C dX7_heroGoes_56 (n := 57) rfl rfl rfl ?_
      refine dk_bipush (v := 6) C dX7_heroGoes_57 (n := 59) rfl (by decide) ?_
      refine dk_callVi C [] (cc_X7_makeNoise C.D hp0 h) yy_X7_makeNoise dk_wm_X7_159 dk_sh0 (hp0 0 (by decide)) dX7_heroGoes_59 (fun r21 s20 h => ?_) rfl rfl ⟨Nat.le_of_ble_eq_true rfl, Nat.le_of_ble_eq_true rfl⟩ rfl (Nat.le_of_ble_eq_true rfl) rfl (n := 62) rfl
      refine dk_pop C dX7_heroGoes_62 (n := 63) rfl rfl ?_
      refine dk_bipush (v := 97) C dX7_heroGoes_63 (n := 65) rfl (by decide) ?_
      exact dk_iret C hr hlk rfl dX7_heroGoes_65 ⟨_, rfl, h⟩
    · have h := h.2 c25
      refine dk_bipush (v := 7) C dX7_heroGoes_46 (n := 48) rfl (by decide) ?_
      refine dk_goto (t := 52) C dX7_heroGoes_48 (by decide) ?_
      refine dk_callVv C [] (cc_X7_strike C.D hp0 h) yy_X7_strike dk_wm_X7_183 dk_sh0 (hp0 0 (by decide)) dX7_heroGoes_52 (fun s22 h => ?_) rfl rfl ⟨Nat.le_of_ble_eq_true rfl, Nat.le_of_ble_eq_true rfl⟩ rfl (Nat.le_of_ble_eq_true rfl) rfl (n := 55) rfl
      refine dk_aload_n (i := 0) C dX7_heroGoes_55 (n := 56) rfl rfl rfl ?_
      refine dk_iload_n (i := 2) C dX7_heroGoes_56 (n := 57) rfl rfl rfl ?_
      refine dk_bipush (v := 6) C dX7_heroGoes_57 (n := 59) rfl (by decide) ?_
      refine dk_callVi C [] (cc_X7_makeNoise C.D hp0 h) yy_X7_makeNoise dk_wm_X7_159 dk_sh0 (hp0 0 (by decide)) dX7_heroGoes_59 (fun r24 s23 h => ?_) rfl rfl ⟨Nat.le_of_ble_eq_true rfl, Nat.le_of_ble_eq_true rfl⟩ rfl (Nat.le_of_ble_eq_true rfl) rfl (n := 62) rfl
      refine dk_pop C dX7_heroGoes_62 (n := 63) rfl rfl ?_
      refine dk_bipush (v := 97) C dX7_heroGoes_63 (n := 65) rfl (by decide) ?_
      exact dk_iret C hr hlk rfl dX7_heroGoes_65 ⟨_, rfl, h⟩
/-! X7_heroPacks -/
set_option maxRecDepth 20000 in
set_option maxHeartbeats 4000000 in
theorem cc_X7_heroPacks {G : dk_G} {l : Launch} {p0 : Nat} {a1 : Int32} {a2 : Int32} (hD : dk_D G) (hp0 : dk_WI G p0) {s : dk_S} {K : Int32 → dk_S → Prop} (h : wf_X7_heroPacks p0 a1 a2 s K) : dk_M G l 3 yX7_heroPacks cX7_heroPacks 3 (some .int) [dk_r G p0 0, .int a1, .int a2] s (dk_ki K) := by
  refine dk_of hD (by decide) [some (dk_r G p0 0), some (.int a1), some (.int a2)] (fun q hq => hq) rfl (Nat.le_of_ble_eq_true rfl) (fun P e S0 m args bel meth c C hr hlk => ?_)
  unfold wf_X7_heroPacks at h
  refine dk_aload_n (i := 0) C dX7_heroPacks_0 (n := 1) rfl rfl rfl ?_
  refine gf_X7_35 C (hp0 0 (by decide)) dX7_heroPacks_1 (n := 4) rfl ?_
  refine gf_X7_141 C (hp0 23 (by decide)) dX7_heroPacks_4 (n := 7) rfl ?_
  refine dk_iload_n (i := 1) C dX7_heroPacks_7 (n := 8) rfl rfl rfl ?_
  refine dk_iload_n (i := 2) C dX7_heroPacks_8 (n := 9) rfl rfl rfl ?_
  refine dk_callNv C [] (cc_X8_put C.D dk_sh25 (hp0 25 (by decide)) h) yy_X8_put dk_wm_X7_142 dX7_heroPacks_9 (fun s1 h => ?_) rfl ⟨Nat.le_of_ble_eq_true rfl, Nat.le_of_ble_eq_true rfl⟩ rfl (Nat.le_of_ble_eq_true rfl) rfl (n := 12) rfl
  refine dk_aload_n (i := 0) C dX7_heroPacks_12 (n := 13) rfl rfl rfl ?_
  refine gf_X7_35 C (hp0 0 (by decide)) dX7_heroPacks_13 (n := 16) rfl ?_
  refine dk_iload_n (i := 2) C dX7_heroPacks_16 (n := 17) rfl rfl rfl ?_
  refine dk_callVi C [] (cc_X6_countAt C.D hp0 h) yy_X6_countAt dk_wm_X7_207 dk_sh23 (hp0 23 (by decide)) dX7_heroPacks_17 (fun r3 s2 h => ?_) rfl rfl ⟨Nat.le_of_ble_eq_true rfl, Nat.le_of_ble_eq_true rfl⟩ rfl (Nat.le_of_ble_eq_true rfl) rfl (n := 20) rfl
  exact dk_iret C hr hlk rfl dX7_heroPacks_20 ⟨_, rfl, h⟩
/-! X7_useUp -/
set_option maxRecDepth 20000 in
set_option maxHeartbeats 4000000 in
theorem cc_X7_useUp {G : dk_G} {l : Launch} {p0 : Nat} {a1 : Int32} (hD : dk_D G) (hp0 : dk_WI G p0) {s : dk_S} {K : dk_S → Prop} (h : wf_X7_useUp p0 a1 s K) : dk_M G l 2 yX7_useUp cX7_useUp 2 none [dk_r G p0 0, .int a1] s (dk_kv K) := by
  refine dk_of hD (by decide) [some (dk_r G p0 0), some (.int a1)] (fun q hq => hq) rfl (Nat.le_of_ble_eq_true rfl) (fun P e S0 m args bel meth c C hr hlk => ?_)
  unfold wf_X7_useUp at h
  refine dk_aload_n (i := 0) C dX7_useUp_0 (n := 1) rfl rfl rfl ?_
  refine gf_X7_35 C (hp0 0 (by decide)) dX7_useUp_1 (n := 4) rfl ?_
  refine gf_X7_141 C (hp0 23 (by decide)) dX7_useUp_4 (n := 7) rfl ?_
  refine dk_iload_n (i := 1) C dX7_useUp_7 (n := 8) rfl rfl rfl ?_
  refine dk_bipush (v := (-2)) C dX7_useUp_8 (n := 10) rfl (by decide) ?_
  refine dk_callNv C [] (cc_X8_put C.D dk_sh25 (hp0 25 (by decide)) h) yy_X8_put dk_wm_X7_142 dX7_useUp_10 (fun s1 h => ?_) rfl ⟨Nat.le_of_ble_eq_true rfl, Nat.le_of_ble_eq_true rfl⟩ rfl (Nat.le_of_ble_eq_true rfl) rfl (n := 13) rfl
  refine dk_aload_n (i := 0) C dX7_useUp_13 (n := 14) rfl rfl rfl ?_
  refine dk_dup C dX7_useUp_14 (n := 15) rfl rfl ?_
  refine gf_X7_59 C (hp0 0 (by decide)) dX7_useUp_15 (n := 18) rfl ?_
  refine dk_iconst (v := 1) C dX7_useUp_18 (n := 19) rfl (by decide) ?_
  refine dk_aload_n (i := 0) C dX7_useUp_19 (n := 20) rfl rfl rfl ?_
  refine gf_X7_35 C (hp0 0 (by decide)) dX7_useUp_20 (n := 23) rfl ?_
  refine gf_X7_210 C (hp0 23 (by decide)) dX7_useUp_23 (n := 26) rfl ?_
  refine dk_iload_n (i := 1) C dX7_useUp_26 (n := 27) rfl rfl rfl ?_
  refine dk_callNi C [.int 1, .int (s1 p0 0 9), dk_r G p0 0] (cc_X8_at C.D dk_sh24 (hp0 24 (by decide)) h) yy_X8_at dk_wm_X7_82 dX7_useUp_27 (fun r3 s2 h => ?_) rfl ⟨Nat.le_of_ble_eq_true rfl, Nat.le_of_ble_eq_true rfl⟩ rfl (Nat.le_of_ble_eq_true rfl) rfl (n := 30) rfl
  refine dk_ishl C dX7_useUp_30 (n := 31) rfl ?_
  refine dk_ior C dX7_useUp_31 (n := 32) rfl ?_
  refine pf_X7_59 C rfl rfl (hp0 0 (by decide)) dX7_useUp_32 (n := 35) rfl ?_
  refine dk_nameS (fun s4 es4 => ?_)
  have h := h s4 es4
  exact dk_vret C hr hlk dX7_useUp_35 ⟨rfl, h⟩
/-! X7_work -/
set_option maxRecDepth 20000 in
set_option maxHeartbeats 4000000 in
theorem cc_X7_work {G : dk_G} {l : Launch} {p0 : Nat} {a1 : Int32} {a2 : Int32} (hD : dk_D G) (hp0 : dk_WI G p0) {s : dk_S} {K : dk_S → Prop} (h : wf_X7_work p0 a1 a2 s K) : dk_M G l 3 yX7_work cX7_work 4 none [dk_r G p0 0, .int a1, .int a2] s (dk_kv K) := by
  refine dk_of hD (by decide) [some (dk_r G p0 0), some (.int a1), some (.int a2), none] (fun q hq => hq) rfl (Nat.le_of_ble_eq_true rfl) (fun P e S0 m args bel meth c C hr hlk => ?_)
  unfold wf_X7_work at h
  refine dk_aload_n (i := 0) C dX7_work_0 (n := 1) rfl rfl rfl ?_
  refine gf_X7_21 C (hp0 0 (by decide)) dX7_work_1 (n := 4) rfl ?_
  refine gf_X7_232 C (hp0 7 (by decide)) dX7_work_4 (n := 7) rfl ?_
  refine dk_iload_n (i := 1) C dX7_work_7 (n := 8) rfl rfl rfl ?_
  refine dk_callNi C [] (cc_X8_at C.D dk_sh11 (hp0 11 (by decide)) h) yy_X8_at dk_wm_X7_82 dX7_work_8 (fun r2 s1 h => ?_) rfl ⟨Nat.le_of_ble_eq_true rfl, Nat.le_of_ble_eq_true rfl⟩ rfl (Nat.le_of_ble_eq_true rfl) rfl (n := 11) rfl
  refine dk_istore_n (i := 3) (L' := [some (dk_r G p0 0), some (.int a1), some (.int a2), some (.int r2)]) C dX7_work_11 (n := 12) rfl rfl (dk_nc_of rfl) (Nat.le_of_ble_eq_true rfl) rfl ?_
  refine dk_aload_n (i := 0) C dX7_work_12 (n := 13) rfl rfl rfl ?_
  refine gf_X7_21 C (hp0 0 (by decide)) dX7_work_13 (n := 16) rfl ?_
  refine gf_X7_235 C (hp0 7 (by decide)) dX7_work_16 (n := 19) rfl ?_
  refine dk_iload_n (i := 1) C dX7_work_19 (n := 20) rfl rfl rfl ?_
  refine dk_callNi C [] (cc_X8_at C.D dk_sh10 (hp0 10 (by decide)) h) yy_X8_at dk_wm_X7_82 dX7_work_20 (fun r4 s3 h => ?_) rfl ⟨Nat.le_of_ble_eq_true rfl, Nat.le_of_ble_eq_true rfl⟩ rfl (Nat.le_of_ble_eq_true rfl) rfl (n := 23) rfl
  by_cases c8 : r4 = 98
  · have h := h.1 c8
    refine dk_lookT (off := 77) (t := 100) C dX7_work_23 (by decide) (by rw [c8]; decide +kernel) (by decide) ?_
    refine dk_aload_n (i := 0) C dX7_work_100 (n := 101) rfl rfl rfl ?_
    refine dk_iload_n (i := 2) C dX7_work_101 (n := 102) rfl rfl rfl ?_
    refine dk_if_ne (t := 109) C dX7_work_102 (n := 105) rfl (by decide) (fun c7 => ?_) (fun c7 => ?_)
    · have h := h.1 c7
      refine dk_aload_n (i := 0) C dX7_work_109 (n := 110) rfl rfl rfl ?_
      refine gf_X7_56 C (hp0 0 (by decide)) dX7_work_110 (n := 113) rfl ?_
      refine pf_X7_56 C rfl rfl (hp0 0 (by decide)) dX7_work_113 (n := 116) rfl ?_
      refine dk_nameS (fun s5 es5 => ?_)
      have h := h s5 es5
      refine dk_goto (t := 119) C dX7_work_116 (by decide) ?_
      exact dk_vret C hr hlk dX7_work_119 ⟨rfl, h⟩
    · have h := h.2 c7
      refine dk_iload_n (i := 3) C dX7_work_105 (n := 106) rfl rfl rfl ?_
      refine dk_goto (t := 113) C dX7_work_106 (by decide) ?_
      refine pf_X7_56 C rfl rfl (hp0 0 (by decide)) dX7_work_113 (n := 116) rfl ?_
      refine dk_nameS (fun s6 es6 => ?_)
      have h := h s6 es6
      refine dk_goto (t := 119) C dX7_work_116 (by decide) ?_
      exact dk_vret C hr hlk dX7_work_119 ⟨rfl, h⟩
  have h := h.2 c8
  by_cases c10 : r4 = 100
  · have h := h.1 c10
    refine dk_lookT (off := 53) (t := 76) C dX7_work_23 (by decide) (by rw [c10]; decide +kernel) (by decide) ?_
    refine dk_aload_n (i := 0) C dX7_work_76 (n := 77) rfl rfl rfl ?_
    refine gf_X7_28 C (hp0 0 (by decide)) dX7_work_77 (n := 80) rfl ?_
    refine dk_iload_n (i := 2) C dX7_work_80 (n := 81) rfl rfl rfl ?_
    refine dk_iload_n (i := 3) C dX7_work_81 (n := 82) rfl rfl rfl ?_
    refine dk_callVv C [] (cc_X2_harm C.D hp0 h) yy_X2_harm dk_wm_X7_201 dk_sh13 (hp0 13 (by decide)) dX7_work_82 (fun s9 h => ?_) rfl rfl ⟨Nat.le_of_ble_eq_true rfl, Nat.le_of_ble_eq_true rfl⟩ rfl (Nat.le_of_ble_eq_true rfl) rfl (n := 85) rfl
    refine dk_goto (t := 119) C dX7_work_85 (by decide) ?_
    exact dk_vret C hr hlk dX7_work_119 ⟨rfl, h⟩
  have h := h.2 c10
  by_cases c12 : r4 = 104
  · have h := h.1 c12
    refine dk_lookT (off := 41) (t := 64) C dX7_work_23 (by decide) (by rw [c12]; decide +kernel) (by decide) ?_
    refine dk_aload_n (i := 0) C dX7_work_64 (n := 65) rfl rfl rfl ?_
    refine gf_X7_28 C (hp0 0 (by decide)) dX7_work_65 (n := 68) rfl ?_
    refine dk_iload_n (i := 2) C dX7_work_68 (n := 69) rfl rfl rfl ?_
    refine dk_iload_n (i := 3) C dX7_work_69 (n := 70) rfl rfl rfl ?_
    refine dk_callVv C [] (cc_X2_heal C.D hp0 h) yy_X2_heal dk_wm_X7_238 dk_sh13 (hp0 13 (by decide)) dX7_work_70 (fun s11 h => ?_) rfl rfl ⟨Nat.le_of_ble_eq_true rfl, Nat.le_of_ble_eq_true rfl⟩ rfl (Nat.le_of_ble_eq_true rfl) rfl (n := 73) rfl
    refine dk_goto (t := 119) C dX7_work_73 (by decide) ?_
    exact dk_vret C hr hlk dX7_work_119 ⟨rfl, h⟩
  have h := h.2 c12
  by_cases c14 : r4 = 115
  · have h := h.1 c14
    refine dk_lookT (off := 65) (t := 88) C dX7_work_23 (by decide) (by rw [c14]; decide +kernel) (by decide) ?_
    refine dk_aload_n (i := 0) C dX7_work_88 (n := 89) rfl rfl rfl ?_
    refine gf_X7_28 C (hp0 0 (by decide)) dX7_work_89 (n := 92) rfl ?_
    refine dk_iload_n (i := 2) C dX7_work_92 (n := 93) rfl rfl rfl ?_
    refine dk_iload_n (i := 3) C dX7_work_93 (n := 94) rfl rfl rfl ?_
    refine dk_callVv C [] (cc_X2_hasten C.D hp0 h) yy_X2_hasten dk_wm_X7_241 dk_sh13 (hp0 13 (by decide)) dX7_work_94 (fun s13 h => ?_) rfl rfl ⟨Nat.le_of_ble_eq_true rfl, Nat.le_of_ble_eq_true rfl⟩ rfl (Nat.le_of_ble_eq_true rfl) rfl (n := 97) rfl
    refine dk_goto (t := 119) C dX7_work_97 (by decide) ?_
    exact dk_vret C hr hlk dX7_work_119 ⟨rfl, h⟩
  have h := h.2 c14
  refine dk_lookT (off := 96) (t := 119) C dX7_work_23 (by decide) (by show Op.lookupswitch.offset [(98, 77), (100, 53), (104, 41), (115, 65)] 96 (r4 : Int32).toInt = 96; rw [lv_osw (a := 98) c8 rfl, lv_osw (a := 100) c10 rfl, lv_osw (a := 104) c12 rfl, lv_osw (a := 115) c14 rfl]; rfl) (by decide) ?_
  exact dk_vret C hr hlk dX7_work_119 ⟨rfl, h⟩
/-! X8_gap -/
set_option maxRecDepth 20000 in
set_option maxHeartbeats 4000000 in
theorem cc_X8_gap {G : dk_G} {l : Launch} {a0 : Int32} {a1 : Int32} (hD : dk_D G)  {s : dk_S} {K : Int32 → dk_S → Prop} (h : wf_X8_gap a0 a1 s K) : dk_M G l 2 yX8_gap cX8_gap 4 (some .int) [.int a0, .int a1] s (dk_ki K) := by
  refine dk_of hD (by decide) [some (.int a0), some (.int a1), none, none] (fun q hq => hq) rfl (Nat.le_of_ble_eq_true rfl) (fun P e S0 m args bel meth c C hr hlk => ?_)
  unfold wf_X8_gap at h
  refine dk_iload_n (i := 0) C dX8_gap_0 (n := 1) rfl rfl rfl ?_
  refine dk_bipush (v := 12) C dX8_gap_1 (n := 3) rfl (by decide) ?_
  refine dk_idiv C dX8_gap_3 (n := 4) rfl (by decide) ?_
  refine dk_iload_n (i := 1) C dX8_gap_4 (n := 5) rfl rfl rfl ?_
  refine dk_bipush (v := 12) C dX8_gap_5 (n := 7) rfl (by decide) ?_
  refine dk_idiv C dX8_gap_7 (n := 8) rfl (by decide) ?_
  refine dk_isub C dX8_gap_8 (n := 9) rfl ?_
  refine dk_mabs C dk_wm_X8_308 dk_wm_abs_s dk_wm_i dk_wm_abs_c (Nat.le_of_ble_eq_true rfl) (Nat.le_of_ble_eq_true rfl) rfl dX8_gap_9 (n := 12) rfl ?_
  refine dk_name (fun v1 ev1 => ?_)
  have h := h v1 ev1
  refine dk_istore_n (i := 2) (L' := [some (.int a0), some (.int a1), some (.int v1), none]) C dX8_gap_12 (n := 13) rfl rfl (dk_nc_of rfl) (Nat.le_of_ble_eq_true rfl) rfl ?_
  refine dk_iload_n (i := 0) C dX8_gap_13 (n := 14) rfl rfl rfl ?_
  refine dk_bipush (v := 12) C dX8_gap_14 (n := 16) rfl (by decide) ?_
  refine dk_irem C dX8_gap_16 (n := 17) rfl (by decide) ?_
  refine dk_iload_n (i := 1) C dX8_gap_17 (n := 18) rfl rfl rfl ?_
  refine dk_bipush (v := 12) C dX8_gap_18 (n := 20) rfl (by decide) ?_
  refine dk_irem C dX8_gap_20 (n := 21) rfl (by decide) ?_
  refine dk_isub C dX8_gap_21 (n := 22) rfl ?_
  refine dk_mabs C dk_wm_X8_308 dk_wm_abs_s dk_wm_i dk_wm_abs_c (Nat.le_of_ble_eq_true rfl) (Nat.le_of_ble_eq_true rfl) rfl dX8_gap_22 (n := 25) rfl ?_
  refine dk_name (fun v2 ev2 => ?_)
  have h := h v2 ev2
  refine dk_istore_n (i := 3) (L' := [some (.int a0), some (.int a1), some (.int v1), some (.int v2)]) C dX8_gap_25 (n := 26) rfl rfl (dk_nc_of rfl) (Nat.le_of_ble_eq_true rfl) rfl ?_
  refine dk_iload_n (i := 2) C dX8_gap_26 (n := 27) rfl rfl rfl ?_
  refine dk_iload_n (i := 3) C dX8_gap_27 (n := 28) rfl rfl rfl ?_
  refine dk_mmax C dk_wm_X8_313 dk_wm_max_s dk_wm_i dk_wm_max_c (Nat.le_of_ble_eq_true rfl) (Nat.le_of_ble_eq_true rfl) rfl dX8_gap_28 (n := 31) rfl ?_
  exact dk_iret C hr hlk rfl dX8_gap_31 ⟨_, rfl, h⟩
/-! X7_burnBy -/
set_option maxRecDepth 20000 in
set_option maxHeartbeats 4000000 in
theorem ww_X7_burnBy_108 {G : dk_G} {P : Program} {l : Launch} {e : Env} {S0 : State} {m : MethodId} {args : Array Value} {bel : List Frame} {meth : Method} {c : Code} {p0 : Nat} (C : dk_C G P (dk_rm 3) S0 m args c 0 0 cX7_burnBy 6 RX7) (hr : meth.sig.returnType = none) (hlk : meth.locks = false) (hp0 : dk_WI G p0) {K : dk_S → Prop} {B : Int32 → Int32 → Int32 → dk_S → Prop} (hB : ∀ (x2 : Int32) (x3 : Int32) (x4 : Int32) (s : dk_S), B x2 x3 x4 s → dk_W G P l e (dk_rm 3) S0 m args bel meth c 0 0 (MQ bel (dk_Qc G (dk_kv K)) args S0 0 0 (dk_A G)) 17 [some (dk_r G p0 0), none, some (.int x2), some (.int x3), some (.int x4), none] [] s)  : ∀ (x2 : Int32) (x3 : Int32) (x4 : Int32) (s : dk_S), wf_X7_burnBy_108 p0 K B x2 x3 x4 s → dk_W G P l e (dk_rm 3) S0 m args bel meth c 0 0 (MQ bel (dk_Qc G (dk_kv K)) args S0 0 0 (dk_A G)) 108 [some (dk_r G p0 0), none, some (.int x2), some (.int x3), some (.int x4), none] [] s := by
  intro x2 x3 x4 s h
  unfold wf_X7_burnBy_108 at h
  obtain ⟨v19, ev19⟩ : ∃ y : Int32, y = x4 + 1 := ⟨_, rfl⟩
  have h := h v19 ev19
  refine dk_iinc (i := 4) (v := v19) (L' := [some (dk_r G p0 0), none, some (.int x2), some (.int x3), some (.int v19), none]) C dX7_burnBy_108 (n := 111) rfl rfl (by rw [ev19]; rfl) (dk_nc_of rfl) (Nat.le_of_ble_eq_true rfl) rfl ?_
  refine dk_goto (t := 17) C dX7_burnBy_111 (by decide) ?_
  refine dk_sub (L0 := [some (dk_r G p0 0), none, some (.int x2), some (.int x3), some (.int v19), none]) ⟨rfl, ⟨rfl, ⟨rfl, ⟨rfl, trivial⟩⟩⟩⟩ ?_
  exact hB x2 x3 v19 s h
set_option maxRecDepth 20000 in
set_option maxHeartbeats 4000000 in
theorem ww_X7_burnBy_17 {G : dk_G} {P : Program} {l : Launch} {e : Env} {S0 : State} {m : MethodId} {args : Array Value} {bel : List Frame} {meth : Method} {c : Code} {p0 : Nat} (C : dk_C G P (dk_rm 3) S0 m args c 0 0 cX7_burnBy 6 RX7) (hr : meth.sig.returnType = none) (hlk : meth.locks = false) (hp0 : dk_WI G p0) {K : dk_S → Prop}  : ∀ (n : Nat) (x2 : Int32) (x3 : Int32) (x4 : Int32) (s : dk_S), wf_X7_burnBy_17 p0 K n x2 x3 x4 s → dk_W G P l e (dk_rm 3) S0 m args bel meth c 0 0 (MQ bel (dk_Qc G (dk_kv K)) args S0 0 0 (dk_A G)) 17 [some (dk_r G p0 0), none, some (.int x2), some (.int x3), some (.int x4), none] [] s := by
  intro n
  induction n with
  | zero => intro x2 x3 x4 s h; exact False.elim h
  | succ n hB =>
    intro x2 x3 x4 s h
    unfold wf_X7_burnBy_17 at h
    refine dk_iload C dX7_burnBy_17 (n := 19) rfl (i := 4) rfl ?_
    refine dk_aload_n (i := 0) C dX7_burnBy_19 (n := 20) rfl rfl rfl ?_
    refine gf_X7_35 C (hp0 0 (by decide)) dX7_burnBy_20 (n := 23) rfl ?_
    refine gf_X7_247 C (hp0 23 (by decide)) dX7_burnBy_23 (n := 26) rfl ?_
    refine dk_icmp_ge (t := 114) C dX7_burnBy_26 (n := 29) rfl (by decide) (fun c18 => ?_) (fun c18 => ?_)
    · have h := h.1 c18
      exact dk_vret C hr hlk dX7_burnBy_114 ⟨rfl, h⟩
    · have h := h.2 c18
      refine dk_aload_n (i := 0) C dX7_burnBy_29 (n := 30) rfl rfl rfl ?_
      refine gf_X7_35 C (hp0 0 (by decide)) dX7_burnBy_30 (n := 33) rfl ?_
      refine gf_X7_141 C (hp0 23 (by decide)) dX7_burnBy_33 (n := 36) rfl ?_
      refine dk_iload C dX7_burnBy_36 (n := 38) rfl (i := 4) rfl ?_
      refine dk_callNi C [] (cc_X8_at C.D dk_sh25 (hp0 25 (by decide)) h) yy_X8_at dk_wm_X7_82 dX7_burnBy_38 (fun r6 s5 h => ?_) rfl ⟨Nat.le_of_ble_eq_true rfl, Nat.le_of_ble_eq_true rfl⟩ rfl (Nat.le_of_ble_eq_true rfl) rfl (n := 41) rfl
      refine dk_istore (i := 5) (L' := [some (dk_r G p0 0), none, some (.int x2), some (.int x3), some (.int x4), some (.int r6)]) C dX7_burnBy_41 (n := 43) rfl (dk_nc_of rfl) (Nat.le_of_ble_eq_true rfl) rfl ?_
      refine dk_iload C dX7_burnBy_43 (n := 45) rfl (i := 5) rfl ?_
      refine dk_if_lt (t := 108) C dX7_burnBy_45 (n := 48) rfl (by decide) (fun c17 => ?_) (fun c17 => ?_)
      · have h := h.1 c17
        refine dk_sub (L0 := [some (dk_r G p0 0), none, some (.int x2), some (.int x3), some (.int x4), none]) ⟨rfl, ⟨rfl, ⟨rfl, ⟨rfl, trivial⟩⟩⟩⟩ ?_
        exact ww_X7_burnBy_108 C hr hlk hp0 hB x2 x3 x4 s5 h
      · have h := h.2 c17
        refine dk_iload C dX7_burnBy_48 (n := 50) rfl (i := 5) rfl ?_
        refine dk_iload_n (i := 2) C dX7_burnBy_50 (n := 51) rfl rfl rfl ?_
        refine dk_callNi C [] (cc_X8_gap C.D  h) yy_X8_gap dk_wm_X7_101 dX7_burnBy_51 (fun r8 s7 h => ?_) rfl ⟨Nat.le_of_ble_eq_true rfl, Nat.le_of_ble_eq_true rfl⟩ rfl (Nat.le_of_ble_eq_true rfl) rfl (n := 54) rfl
        refine dk_iload_n (i := 3) C dX7_burnBy_54 (n := 55) rfl rfl rfl ?_
        refine dk_icmp_gt (t := 108) C dX7_burnBy_55 (n := 58) rfl (by decide) (fun c16 => ?_) (fun c16 => ?_)
        · have h := h.1 c16
          refine dk_sub (L0 := [some (dk_r G p0 0), none, some (.int x2), some (.int x3), some (.int x4), none]) ⟨rfl, ⟨rfl, ⟨rfl, ⟨rfl, trivial⟩⟩⟩⟩ ?_
          exact ww_X7_burnBy_108 C hr hlk hp0 hB x2 x3 x4 s7 h
        · have h := h.2 c16
          refine dk_aload_n (i := 0) C dX7_burnBy_58 (n := 59) rfl rfl rfl ?_
          refine gf_X7_21 C (hp0 0 (by decide)) dX7_burnBy_59 (n := 62) rfl ?_
          refine dk_aload_n (i := 0) C dX7_burnBy_62 (n := 63) rfl rfl rfl ?_
          refine gf_X7_35 C (hp0 0 (by decide)) dX7_burnBy_63 (n := 66) rfl ?_
          refine gf_X7_210 C (hp0 23 (by decide)) dX7_burnBy_66 (n := 69) rfl ?_
          refine dk_iload C dX7_burnBy_69 (n := 71) rfl (i := 4) rfl ?_
          refine dk_callNi C [dk_r G p0 7] (cc_X8_at C.D dk_sh24 (hp0 24 (by decide)) h) yy_X8_at dk_wm_X7_82 dX7_burnBy_71 (fun r10 s9 h => ?_) rfl ⟨Nat.le_of_ble_eq_true rfl, Nat.le_of_ble_eq_true rfl⟩ rfl (Nat.le_of_ble_eq_true rfl) rfl (n := 74) rfl
          refine dk_callVi C [] (cc_X3_isWooden C.D hp0 h) yy_X3_isWooden dk_wm_X7_248 dk_sh7 (hp0 7 (by decide)) dX7_burnBy_74 (fun r12 s11 h => ?_) rfl rfl ⟨Nat.le_of_ble_eq_true rfl, Nat.le_of_ble_eq_true rfl⟩ rfl (Nat.le_of_ble_eq_true rfl) rfl (n := 77) rfl
          refine dk_if_eq (t := 108) C dX7_burnBy_77 (n := 80) rfl (by decide) (fun c15 => ?_) (fun c15 => ?_)
          · have h := h.1 c15
            refine dk_sub (L0 := [some (dk_r G p0 0), none, some (.int x2), some (.int x3), some (.int x4), none]) ⟨rfl, ⟨rfl, ⟨rfl, ⟨rfl, trivial⟩⟩⟩⟩ ?_
            exact ww_X7_burnBy_108 C hr hlk hp0 hB x2 x3 x4 s11 h
          · have h := h.2 c15
            refine dk_aload_n (i := 0) C dX7_burnBy_80 (n := 81) rfl rfl rfl ?_
            refine gf_X7_35 C (hp0 0 (by decide)) dX7_burnBy_81 (n := 84) rfl ?_
            refine gf_X7_141 C (hp0 23 (by decide)) dX7_burnBy_84 (n := 87) rfl ?_
            refine dk_iload C dX7_burnBy_87 (n := 89) rfl (i := 4) rfl ?_
            refine dk_bipush (v := (-2)) C dX7_burnBy_89 (n := 91) rfl (by decide) ?_
            refine dk_callNv C [] (cc_X8_put C.D dk_sh25 (hp0 25 (by decide)) h) yy_X8_put dk_wm_X7_142 dX7_burnBy_91 (fun s13 h => ?_) rfl ⟨Nat.le_of_ble_eq_true rfl, Nat.le_of_ble_eq_true rfl⟩ rfl (Nat.le_of_ble_eq_true rfl) rfl (n := 94) rfl
            refine dk_aload_n (i := 0) C dX7_burnBy_94 (n := 95) rfl rfl rfl ?_
            refine gf_X7_35 C (hp0 0 (by decide)) dX7_burnBy_95 (n := 98) rfl ?_
            refine dk_bipush (v := (-3)) C dX7_burnBy_98 (n := 100) rfl (by decide) ?_
            refine dk_iload C dX7_burnBy_100 (n := 102) rfl (i := 4) rfl ?_
            refine dk_isub C dX7_burnBy_102 (n := 103) rfl ?_
            refine dk_iload C dX7_burnBy_103 (n := 105) rfl (i := 5) rfl ?_
            refine dk_callVv C [] (cc_X6_moveAll C.D hp0 h) yy_X6_moveAll dk_wm_X7_251 dk_sh23 (hp0 23 (by decide)) dX7_burnBy_105 (fun s14 h => ?_) rfl rfl ⟨Nat.le_of_ble_eq_true rfl, Nat.le_of_ble_eq_true rfl⟩ rfl (Nat.le_of_ble_eq_true rfl) rfl (n := 108) rfl
            refine dk_sub (L0 := [some (dk_r G p0 0), none, some (.int x2), some (.int x3), some (.int x4), none]) ⟨rfl, ⟨rfl, ⟨rfl, ⟨rfl, trivial⟩⟩⟩⟩ ?_
            exact ww_X7_burnBy_108 C hr hlk hp0 hB x2 x3 x4 s14 h
set_option maxRecDepth 20000 in
set_option maxHeartbeats 4000000 in
theorem cc_X7_burnBy {G : dk_G} {l : Launch} {p0 : Nat} {a1 : Int32} {a2 : Int32} {a3 : Int32} (hD : dk_D G) (hp0 : dk_WI G p0) {s : dk_S} {K : dk_S → Prop} (h : wf_X7_burnBy p0 a1 a2 a3 s K) : dk_M G l 3 yX7_burnBy cX7_burnBy 6 none [dk_r G p0 0, .int a1, .int a2, .int a3] s (dk_kv K) := by
  refine dk_of hD (by decide) [some (dk_r G p0 0), some (.int a1), some (.int a2), some (.int a3), none, none] (fun q hq => hq) rfl (Nat.le_of_ble_eq_true rfl) (fun P e S0 m args bel meth c C hr hlk => ?_)
  unfold wf_X7_burnBy at h
  refine dk_aload_n (i := 0) C dX7_burnBy_0 (n := 1) rfl rfl rfl ?_
  refine gf_X7_21 C (hp0 0 (by decide)) dX7_burnBy_1 (n := 4) rfl ?_
  refine dk_iload_n (i := 1) C dX7_burnBy_4 (n := 5) rfl rfl rfl ?_
  refine dk_callVi C [] (cc_X3_effectOf C.D hp0 h) yy_X3_effectOf dk_wm_X7_244 dk_sh7 (hp0 7 (by decide)) dX7_burnBy_5 (fun r2 s1 h => ?_) rfl rfl ⟨Nat.le_of_ble_eq_true rfl, Nat.le_of_ble_eq_true rfl⟩ rfl (Nat.le_of_ble_eq_true rfl) rfl (n := 8) rfl
  refine dk_bipush (v := 102) C dX7_burnBy_8 (n := 10) rfl (by decide) ?_
  refine dk_icmp_eq (t := 14) C dX7_burnBy_10 (n := 13) rfl (by decide) (fun c4 => ?_) (fun c4 => ?_)
  · have h := h.1 c4
    refine dk_iconst (v := 0) C dX7_burnBy_14 (n := 15) rfl (by decide) ?_
    refine dk_istore (i := 4) (L' := [some (dk_r G p0 0), some (.int a1), some (.int a2), some (.int a3), some (.int 0), none]) C dX7_burnBy_15 (n := 17) rfl (dk_nc_of rfl) (Nat.le_of_ble_eq_true rfl) rfl ?_
    obtain ⟨nn3, h⟩ := h
    refine dk_sub (L0 := [some (dk_r G p0 0), none, some (.int a2), some (.int a3), some (.int 0), none]) ⟨rfl, ⟨rfl, ⟨rfl, ⟨rfl, trivial⟩⟩⟩⟩ ?_
    refine ww_X7_burnBy_17 C hr hlk hp0  nn3 a2 a3 0 s1 h
  · have h := h.2 c4
    exact dk_vret C hr hlk dX7_burnBy_13 ⟨rfl, h⟩
/-! X7_heroDrinks -/
set_option maxRecDepth 20000 in
set_option maxHeartbeats 4000000 in
theorem cc_X7_heroDrinks {G : dk_G} {l : Launch} {p0 : Nat} {a1 : Int32} (hD : dk_D G) (hp0 : dk_WI G p0) {s : dk_S} {K : Int32 → dk_S → Prop} (h : wf_X7_heroDrinks p0 a1 s K) : dk_M G l 4 yX7_heroDrinks cX7_heroDrinks 3 (some .int) [dk_r G p0 0, .int a1] s (dk_ki K) := by
  refine dk_of hD (by decide) [some (dk_r G p0 0), some (.int a1), none] (fun q hq => hq) rfl (Nat.le_of_ble_eq_true rfl) (fun P e S0 m args bel meth c C hr hlk => ?_)
  unfold wf_X7_heroDrinks at h
  refine dk_aload_n (i := 0) C dX7_heroDrinks_0 (n := 1) rfl rfl rfl ?_
  refine gf_X7_35 C (hp0 0 (by decide)) dX7_heroDrinks_1 (n := 4) rfl ?_
  refine gf_X7_210 C (hp0 23 (by decide)) dX7_heroDrinks_4 (n := 7) rfl ?_
  refine dk_iload_n (i := 1) C dX7_heroDrinks_7 (n := 8) rfl rfl rfl ?_
  refine dk_callNi C [] (cc_X8_at C.D dk_sh24 (hp0 24 (by decide)) h) yy_X8_at dk_wm_X7_82 dX7_heroDrinks_8 (fun r2 s1 h => ?_) rfl ⟨Nat.le_of_ble_eq_true rfl, Nat.le_of_ble_eq_true rfl⟩ rfl (Nat.le_of_ble_eq_true rfl) rfl (n := 11) rfl
  refine dk_istore_n (i := 2) (L' := [some (dk_r G p0 0), some (.int a1), some (.int r2)]) C dX7_heroDrinks_11 (n := 12) rfl rfl (dk_nc_of rfl) (Nat.le_of_ble_eq_true rfl) rfl ?_
  refine dk_aload_n (i := 0) C dX7_heroDrinks_12 (n := 13) rfl rfl rfl ?_
  refine dk_iload_n (i := 1) C dX7_heroDrinks_13 (n := 14) rfl rfl rfl ?_
  refine dk_callVv C [] (cc_X7_useUp C.D hp0 h) yy_X7_useUp dk_wm_X7_213 dk_sh0 (hp0 0 (by decide)) dX7_heroDrinks_14 (fun s3 h => ?_) rfl rfl ⟨Nat.le_of_ble_eq_true rfl, Nat.le_of_ble_eq_true rfl⟩ rfl (Nat.le_of_ble_eq_true rfl) rfl (n := 17) rfl
  refine dk_aload_n (i := 0) C dX7_heroDrinks_17 (n := 18) rfl rfl rfl ?_
  refine dk_iload_n (i := 2) C dX7_heroDrinks_18 (n := 19) rfl rfl rfl ?_
  refine dk_iconst (v := 0) C dX7_heroDrinks_19 (n := 20) rfl (by decide) ?_
  refine dk_callVv C [] (cc_X7_work C.D hp0 h) yy_X7_work dk_wm_X7_216 dk_sh0 (hp0 0 (by decide)) dX7_heroDrinks_20 (fun s4 h => ?_) rfl rfl ⟨Nat.le_of_ble_eq_true rfl, Nat.le_of_ble_eq_true rfl⟩ rfl (Nat.le_of_ble_eq_true rfl) rfl (n := 23) rfl
  refine dk_aload_n (i := 0) C dX7_heroDrinks_23 (n := 24) rfl rfl rfl ?_
  refine dk_iload_n (i := 2) C dX7_heroDrinks_24 (n := 25) rfl rfl rfl ?_
  refine dk_aload_n (i := 0) C dX7_heroDrinks_25 (n := 26) rfl rfl rfl ?_
  refine dk_callVi C [.int r2, dk_r G p0 0] (cc_X7_heroSpot C.D hp0 h) yy_X7_heroSpot dk_wm_X7_93 dk_sh0 (hp0 0 (by decide)) dX7_heroDrinks_26 (fun r6 s5 h => ?_) rfl rfl ⟨Nat.le_of_ble_eq_true rfl, Nat.le_of_ble_eq_true rfl⟩ rfl (Nat.le_of_ble_eq_true rfl) rfl (n := 29) rfl
  refine dk_iconst (v := 0) C dX7_heroDrinks_29 (n := 30) rfl (by decide) ?_
  refine dk_callVv C [] (cc_X7_burnBy C.D hp0 h) yy_X7_burnBy dk_wm_X7_219 dk_sh0 (hp0 0 (by decide)) dX7_heroDrinks_30 (fun s7 h => ?_) rfl rfl ⟨Nat.le_of_ble_eq_true rfl, Nat.le_of_ble_eq_true rfl⟩ rfl (Nat.le_of_ble_eq_true rfl) rfl (n := 33) rfl
  refine dk_aload_n (i := 0) C dX7_heroDrinks_33 (n := 34) rfl rfl rfl ?_
  refine gf_X7_28 C (hp0 0 (by decide)) dX7_heroDrinks_34 (n := 37) rfl ?_
  refine gf_X7_223 C (hp0 13 (by decide)) dX7_heroDrinks_37 (n := 40) rfl ?_
  refine dk_iconst (v := 0) C dX7_heroDrinks_40 (n := 41) rfl (by decide) ?_
  refine dk_callNi C [] (cc_X8_at C.D dk_sh18 (hp0 18 (by decide)) h) yy_X8_at dk_wm_X7_82 dX7_heroDrinks_41 (fun r9 s8 h => ?_) rfl ⟨Nat.le_of_ble_eq_true rfl, Nat.le_of_ble_eq_true rfl⟩ rfl (Nat.le_of_ble_eq_true rfl) rfl (n := 44) rfl
  exact dk_iret C hr hlk rfl dX7_heroDrinks_44 ⟨_, rfl, h⟩
/-! X8_isPotion -/
set_option maxRecDepth 20000 in
set_option maxHeartbeats 4000000 in
theorem cc_X8_isPotion {G : dk_G} {l : Launch} {a0 : Int32} (hD : dk_D G)  {s : dk_S} {K : Int32 → dk_S → Prop} (h : wf_X8_isPotion a0 s K) : dk_M G l 1 yX8_isPotion cX8_isPotion 1 (some .boolean) [.int a0] s (dk_ki K) := by
  refine dk_of hD (by decide) [some (.int a0)] (fun q hq => hq) rfl (Nat.le_of_ble_eq_true rfl) (fun P e S0 m args bel meth c C hr hlk => ?_)
  unfold wf_X8_isPotion at h
  refine dk_iload_n (i := 0) C dX8_isPotion_0 (n := 1) rfl rfl rfl ?_
  refine dk_iconst (v := 3) C dX8_isPotion_1 (n := 2) rfl (by decide) ?_
  refine dk_icmp_lt (t := 14) C dX8_isPotion_2 (n := 5) rfl (by decide) (fun c2 => ?_) (fun c2 => ?_)
  · have h := h.1 c2
    refine dk_iconst (v := 0) C dX8_isPotion_14 (n := 15) rfl (by decide) ?_
    exact dk_iret C hr hlk dk_nz0 dX8_isPotion_15 ⟨_, rfl, h⟩
  · have h := h.2 c2
    refine dk_iload_n (i := 0) C dX8_isPotion_5 (n := 6) rfl rfl rfl ?_
    refine dk_iconst (v := 5) C dX8_isPotion_6 (n := 7) rfl (by decide) ?_
    refine dk_icmp_gt (t := 14) C dX8_isPotion_7 (n := 10) rfl (by decide) (fun c1 => ?_) (fun c1 => ?_)
    · have h := h.1 c1
      refine dk_iconst (v := 0) C dX8_isPotion_14 (n := 15) rfl (by decide) ?_
      exact dk_iret C hr hlk dk_nz0 dX8_isPotion_15 ⟨_, rfl, h⟩
    · have h := h.2 c1
      refine dk_iconst (v := 1) C dX8_isPotion_10 (n := 11) rfl (by decide) ?_
      refine dk_goto (t := 15) C dX8_isPotion_11 (by decide) ?_
      exact dk_iret C hr hlk dk_nz1 dX8_isPotion_15 ⟨_, rfl, h⟩
/-! X7_shatter -/
set_option maxRecDepth 20000 in
set_option maxHeartbeats 4000000 in
theorem ww_X7_shatter_33 {G : dk_G} {P : Program} {l : Launch} {e : Env} {S0 : State} {m : MethodId} {args : Array Value} {bel : List Frame} {meth : Method} {c : Code} {p0 : Nat} (C : dk_C G P (dk_rm 4) S0 m args c 0 0 cX7_shatter 6 RX7) (hr : meth.sig.returnType = none) (hlk : meth.locks = false) (hp0 : dk_WI G p0) {K : dk_S → Prop}  : ∀ (n : Nat) (x2 : Int32) (x3 : Int32) (x4 : Int32) (x5 : Int32) (s : dk_S), wf_X7_shatter_33 p0 K n x2 x3 x4 x5 s → dk_W G P l e (dk_rm 4) S0 m args bel meth c 0 0 (MQ bel (dk_Qc G (dk_kv K)) args S0 0 0 (dk_A G)) 33 [some (dk_r G p0 0), none, some (.int x2), some (.int x3), some (.int x4), some (.int x5)] [] s := by
  intro n
  induction n with
  | zero => intro x2 x3 x4 x5 s h; exact False.elim h
  | succ n hB =>
    intro x2 x3 x4 x5 s h
    unfold wf_X7_shatter_33 at h
    refine dk_iload C dX7_shatter_33 (n := 35) rfl (i := 5) rfl ?_
    refine dk_aload_n (i := 0) C dX7_shatter_35 (n := 36) rfl rfl rfl ?_
    refine gf_X7_28 C (hp0 0 (by decide)) dX7_shatter_36 (n := 39) rfl ?_
    refine gf_X7_86 C (hp0 13 (by decide)) dX7_shatter_39 (n := 42) rfl ?_
    refine dk_icmp_ge (t := 91) C dX7_shatter_42 (n := 45) rfl (by decide) (fun c19 => ?_) (fun c19 => ?_)
    · have h := h.1 c19
      exact dk_vret C hr hlk dX7_shatter_91 ⟨rfl, h⟩
    · have h := h.2 c19
      refine dk_aload_n (i := 0) C dX7_shatter_45 (n := 46) rfl rfl rfl ?_
      refine gf_X7_28 C (hp0 0 (by decide)) dX7_shatter_46 (n := 49) rfl ?_
      refine dk_iload C dX7_shatter_49 (n := 51) rfl (i := 5) rfl ?_
      refine dk_callVi C [] (cc_X2_lives C.D hp0 h) yy_X2_lives dk_wm_X7_204 dk_sh13 (hp0 13 (by decide)) dX7_shatter_51 (fun r8 s7 h => ?_) rfl rfl ⟨Nat.le_of_ble_eq_true rfl, Nat.le_of_ble_eq_true rfl⟩ rfl (Nat.le_of_ble_eq_true rfl) rfl (n := 54) rfl
      refine dk_if_eq (t := 85) C dX7_shatter_54 (n := 57) rfl (by decide) (fun c18 => ?_) (fun c18 => ?_)
      · have h := h.1 c18
        obtain ⟨v9, ev9⟩ : ∃ y : Int32, y = x5 + 1 := ⟨_, rfl⟩
        have h := h v9 ev9
        refine dk_iinc (i := 5) (v := v9) (L' := [some (dk_r G p0 0), none, some (.int x2), some (.int x3), some (.int x4), some (.int v9)]) C dX7_shatter_85 (n := 88) rfl rfl (by rw [ev9]; rfl) (dk_nc_of rfl) (Nat.le_of_ble_eq_true rfl) rfl ?_
        refine dk_goto (t := 33) C dX7_shatter_88 (by decide) ?_
        refine dk_sub (L0 := [some (dk_r G p0 0), none, some (.int x2), some (.int x3), some (.int x4), some (.int v9)]) ⟨rfl, ⟨rfl, ⟨rfl, ⟨rfl, ⟨rfl, trivial⟩⟩⟩⟩⟩ ?_
        exact hB x2 x3 x4 v9 s7 h
      · have h := h.2 c18
        refine dk_aload_n (i := 0) C dX7_shatter_57 (n := 58) rfl rfl rfl ?_
        refine gf_X7_28 C (hp0 0 (by decide)) dX7_shatter_58 (n := 61) rfl ?_
        refine gf_X7_78 C (hp0 13 (by decide)) dX7_shatter_61 (n := 64) rfl ?_
        refine dk_iload C dX7_shatter_64 (n := 66) rfl (i := 5) rfl ?_
        refine dk_callNi C [] (cc_X8_at C.D dk_sh14 (hp0 14 (by decide)) h) yy_X8_at dk_wm_X7_82 dX7_shatter_66 (fun r11 s10 h => ?_) rfl ⟨Nat.le_of_ble_eq_true rfl, Nat.le_of_ble_eq_true rfl⟩ rfl (Nat.le_of_ble_eq_true rfl) rfl (n := 69) rfl
        refine dk_iload_n (i := 2) C dX7_shatter_69 (n := 70) rfl rfl rfl ?_
        refine dk_callNi C [] (cc_X8_gap C.D  h) yy_X8_gap dk_wm_X7_101 dX7_shatter_70 (fun r13 s12 h => ?_) rfl ⟨Nat.le_of_ble_eq_true rfl, Nat.le_of_ble_eq_true rfl⟩ rfl (Nat.le_of_ble_eq_true rfl) rfl (n := 73) rfl
        refine dk_iload C dX7_shatter_73 (n := 75) rfl (i := 4) rfl ?_
        refine dk_icmp_gt (t := 85) C dX7_shatter_75 (n := 78) rfl (by decide) (fun c17 => ?_) (fun c17 => ?_)
        · have h := h.1 c17
          obtain ⟨v14, ev14⟩ : ∃ y : Int32, y = x5 + 1 := ⟨_, rfl⟩
          have h := h v14 ev14
          refine dk_iinc (i := 5) (v := v14) (L' := [some (dk_r G p0 0), none, some (.int x2), some (.int x3), some (.int x4), some (.int v14)]) C dX7_shatter_85 (n := 88) rfl rfl (by rw [ev14]; rfl) (dk_nc_of rfl) (Nat.le_of_ble_eq_true rfl) rfl ?_
          refine dk_goto (t := 33) C dX7_shatter_88 (by decide) ?_
          refine dk_sub (L0 := [some (dk_r G p0 0), none, some (.int x2), some (.int x3), some (.int x4), some (.int v14)]) ⟨rfl, ⟨rfl, ⟨rfl, ⟨rfl, ⟨rfl, trivial⟩⟩⟩⟩⟩ ?_
          exact hB x2 x3 x4 v14 s12 h
        · have h := h.2 c17
          refine dk_aload_n (i := 0) C dX7_shatter_78 (n := 79) rfl rfl rfl ?_
          refine dk_iload_n (i := 3) C dX7_shatter_79 (n := 80) rfl rfl rfl ?_
          refine dk_iload C dX7_shatter_80 (n := 82) rfl (i := 5) rfl ?_
          refine dk_callVv C [] (cc_X7_work C.D hp0 h) yy_X7_work dk_wm_X7_216 dk_sh0 (hp0 0 (by decide)) dX7_shatter_82 (fun s15 h => ?_) rfl rfl ⟨Nat.le_of_ble_eq_true rfl, Nat.le_of_ble_eq_true rfl⟩ rfl (Nat.le_of_ble_eq_true rfl) rfl (n := 85) rfl
          obtain ⟨v16, ev16⟩ : ∃ y : Int32, y = x5 + 1 := ⟨_, rfl⟩
          have h := h v16 ev16
          refine dk_iinc (i := 5) (v := v16) (L' := [some (dk_r G p0 0), none, some (.int x2), some (.int x3), some (.int x4), some (.int v16)]) C dX7_shatter_85 (n := 88) rfl rfl (by rw [ev16]; rfl) (dk_nc_of rfl) (Nat.le_of_ble_eq_true rfl) rfl ?_
          refine dk_goto (t := 33) C dX7_shatter_88 (by decide) ?_
          refine dk_sub (L0 := [some (dk_r G p0 0), none, some (.int x2), some (.int x3), some (.int x4), some (.int v16)]) ⟨rfl, ⟨rfl, ⟨rfl, ⟨rfl, ⟨rfl, trivial⟩⟩⟩⟩⟩ ?_
          exact hB x2 x3 x4 v16 s15 h
set_option maxRecDepth 20000 in
set_option maxHeartbeats 4000000 in
theorem cc_X7_shatter {G : dk_G} {l : Launch} {p0 : Nat} {a1 : Int32} {a2 : Int32} (hD : dk_D G) (hp0 : dk_WI G p0) {s : dk_S} {K : dk_S → Prop} (h : wf_X7_shatter p0 a1 a2 s K) : dk_M G l 4 yX7_shatter cX7_shatter 6 none [dk_r G p0 0, .int a1, .int a2] s (dk_kv K) := by
  refine dk_of hD (by decide) [some (dk_r G p0 0), some (.int a1), some (.int a2), none, none, none] (fun q hq => hq) rfl (Nat.le_of_ble_eq_true rfl) (fun P e S0 m args bel meth c C hr hlk => ?_)
  unfold wf_X7_shatter at h
  refine dk_aload_n (i := 0) C dX7_shatter_0 (n := 1) rfl rfl rfl ?_
  refine gf_X7_35 C (hp0 0 (by decide)) dX7_shatter_1 (n := 4) rfl ?_
  refine gf_X7_210 C (hp0 23 (by decide)) dX7_shatter_4 (n := 7) rfl ?_
  refine dk_iload_n (i := 1) C dX7_shatter_7 (n := 8) rfl rfl rfl ?_
  refine dk_callNi C [] (cc_X8_at C.D dk_sh24 (hp0 24 (by decide)) h) yy_X8_at dk_wm_X7_82 dX7_shatter_8 (fun r2 s1 h => ?_) rfl ⟨Nat.le_of_ble_eq_true rfl, Nat.le_of_ble_eq_true rfl⟩ rfl (Nat.le_of_ble_eq_true rfl) rfl (n := 11) rfl
  refine dk_istore_n (i := 3) (L' := [some (dk_r G p0 0), some (.int a1), some (.int a2), some (.int r2), none, none]) C dX7_shatter_11 (n := 12) rfl rfl (dk_nc_of rfl) (Nat.le_of_ble_eq_true rfl) rfl ?_
  refine dk_aload_n (i := 0) C dX7_shatter_12 (n := 13) rfl rfl rfl ?_
  refine gf_X7_21 C (hp0 0 (by decide)) dX7_shatter_13 (n := 16) rfl ?_
  refine gf_X7_229 C (hp0 7 (by decide)) dX7_shatter_16 (n := 19) rfl ?_
  refine dk_iload_n (i := 3) C dX7_shatter_19 (n := 20) rfl rfl rfl ?_
  refine dk_callNi C [] (cc_X8_at C.D dk_sh12 (hp0 12 (by decide)) h) yy_X8_at dk_wm_X7_82 dX7_shatter_20 (fun r4 s3 h => ?_) rfl ⟨Nat.le_of_ble_eq_true rfl, Nat.le_of_ble_eq_true rfl⟩ rfl (Nat.le_of_ble_eq_true rfl) rfl (n := 23) rfl
  refine dk_istore (i := 4) (L' := [some (dk_r G p0 0), some (.int a1), some (.int a2), some (.int r2), some (.int r4), none]) C dX7_shatter_23 (n := 25) rfl (dk_nc_of rfl) (Nat.le_of_ble_eq_true rfl) rfl ?_
  refine dk_aload_n (i := 0) C dX7_shatter_25 (n := 26) rfl rfl rfl ?_
  refine dk_iload_n (i := 1) C dX7_shatter_26 (n := 27) rfl rfl rfl ?_
  refine dk_callVv C [] (cc_X7_useUp C.D hp0 h) yy_X7_useUp dk_wm_X7_213 dk_sh0 (hp0 0 (by decide)) dX7_shatter_27 (fun s5 h => ?_) rfl rfl ⟨Nat.le_of_ble_eq_true rfl, Nat.le_of_ble_eq_true rfl⟩ rfl (Nat.le_of_ble_eq_true rfl) rfl (n := 30) rfl
  refine dk_iconst (v := 0) C dX7_shatter_30 (n := 31) rfl (by decide) ?_
  refine dk_istore (i := 5) (L' := [some (dk_r G p0 0), some (.int a1), some (.int a2), some (.int r2), some (.int r4), some (.int 0)]) C dX7_shatter_31 (n := 33) rfl (dk_nc_of rfl) (Nat.le_of_ble_eq_true rfl) rfl ?_
  obtain ⟨nn6, h⟩ := h
  refine dk_sub (L0 := [some (dk_r G p0 0), none, some (.int a2), some (.int r2), some (.int r4), some (.int 0)]) ⟨rfl, ⟨rfl, ⟨rfl, ⟨rfl, ⟨rfl, trivial⟩⟩⟩⟩⟩ ?_
  refine ww_X7_shatter_33 C hr hlk hp0  nn6 a2 r2 r4 0 s5 h
/-! X7_heroHurls -/
set_option maxRecDepth 20000 in
set_option maxHeartbeats 4000000 in
theorem ww_X7_heroHurls_70 {G : dk_G} {P : Program} {l : Launch} {e : Env} {S0 : State} {m : MethodId} {args : Array Value} {bel : List Frame} {meth : Method} {c : Code} {p0 : Nat} (C : dk_C G P (dk_rm 5) S0 m args c 0 0 cX7_heroHurls 7 RX7) (hr : meth.sig.returnType = (some .int)) (hlk : meth.locks = false) (hp0 : dk_WI G p0) {K : Int32 → dk_S → Prop}  : ∀ (x1 : Int32) (x3 : Int32) (x4 : Int32) (x5 : Int32) (s : dk_S), wf_X7_heroHurls_70 p0 K x1 x3 x4 x5 s → dk_W G P l e (dk_rm 5) S0 m args bel meth c 0 0 (MQ bel (dk_Qc G (dk_ki K)) args S0 0 0 (dk_A G)) 70 [some (dk_r G p0 0), some (.int x1), none, some (.int x3), some (.int x4), some (.int x5), none] [] s := by
  intro x1 x3 x4 x5 s h
  unfold wf_X7_heroHurls_70 at h
  refine dk_aload_n (i := 0) C dX7_heroHurls_70 (n := 71) rfl rfl rfl ?_
  refine gf_X7_35 C (hp0 0 (by decide)) dX7_heroHurls_71 (n := 74) rfl ?_
  refine gf_X7_141 C (hp0 23 (by decide)) dX7_heroHurls_74 (n := 77) rfl ?_
  refine dk_iload_n (i := 1) C dX7_heroHurls_77 (n := 78) rfl rfl rfl ?_
  refine dk_iload C dX7_heroHurls_78 (n := 80) rfl (i := 4) rfl ?_
  refine dk_callNv C [] (cc_X8_put C.D dk_sh25 (hp0 25 (by decide)) h) yy_X8_put dk_wm_X7_142 dX7_heroHurls_80 (fun s9 h => ?_) rfl ⟨Nat.le_of_ble_eq_true rfl, Nat.le_of_ble_eq_true rfl⟩ rfl (Nat.le_of_ble_eq_true rfl) rfl (n := 83) rfl
  refine dk_aload_n (i := 0) C dX7_heroHurls_83 (n := 84) rfl rfl rfl ?_
  refine gf_X7_35 C (hp0 0 (by decide)) dX7_heroHurls_84 (n := 87) rfl ?_
  refine gf_X7_210 C (hp0 23 (by decide)) dX7_heroHurls_87 (n := 90) rfl ?_
  refine dk_iload_n (i := 1) C dX7_heroHurls_90 (n := 91) rfl rfl rfl ?_
  refine dk_callNi C [] (cc_X8_at C.D dk_sh24 (hp0 24 (by decide)) h) yy_X8_at dk_wm_X7_82 dX7_heroHurls_91 (fun r11 s10 h => ?_) rfl ⟨Nat.le_of_ble_eq_true rfl, Nat.le_of_ble_eq_true rfl⟩ rfl (Nat.le_of_ble_eq_true rfl) rfl (n := 94) rfl
  refine dk_istore (i := 6) (L' := [some (dk_r G p0 0), some (.int x1), none, some (.int x3), some (.int x4), some (.int x5), some (.int r11)]) C dX7_heroHurls_94 (n := 96) rfl (dk_nc_of rfl) (Nat.le_of_ble_eq_true rfl) rfl ?_
  refine dk_iload C dX7_heroHurls_96 (n := 98) rfl (i := 6) rfl ?_
  refine dk_callNi C [] (cc_X8_isPotion C.D  h) yy_X8_isPotion dk_wm_X7_109 dX7_heroHurls_98 (fun r13 s12 h => ?_) rfl ⟨Nat.le_of_ble_eq_true rfl, Nat.le_of_ble_eq_true rfl⟩ rfl (Nat.le_of_ble_eq_true rfl) rfl (n := 101) rfl
  refine dk_if_eq (t := 143) C dX7_heroHurls_101 (n := 104) rfl (by decide) (fun c27 => ?_) (fun c27 => ?_)
  · have h := h.1 c27
    refine dk_iload C dX7_heroHurls_143 (n := 145) rfl (i := 6) rfl ?_
    refine dk_bipush (v := 7) C dX7_heroHurls_145 (n := 147) rfl (by decide) ?_
    refine dk_icmp_ne (t := 178) C dX7_heroHurls_147 (n := 150) rfl (by decide) (fun c20 => ?_) (fun c20 => ?_)
    · have h := h.1 c20
      refine dk_iload_n (i := 3) C dX7_heroHurls_178 (n := 179) rfl rfl rfl ?_
      exact dk_iret C hr hlk rfl dX7_heroHurls_179 ⟨_, rfl, h⟩
    · have h := h.2 c20
      refine dk_iload C dX7_heroHurls_150 (n := 152) rfl (i := 5) rfl ?_
      refine dk_if_eq (t := 178) C dX7_heroHurls_152 (n := 155) rfl (by decide) (fun c19 => ?_) (fun c19 => ?_)
      · have h := h.1 c19
        refine dk_iload_n (i := 3) C dX7_heroHurls_178 (n := 179) rfl rfl rfl ?_
        exact dk_iret C hr hlk rfl dX7_heroHurls_179 ⟨_, rfl, h⟩
      · have h := h.2 c19
        refine dk_aload_n (i := 0) C dX7_heroHurls_155 (n := 156) rfl rfl rfl ?_
        refine dk_aload_n (i := 0) C dX7_heroHurls_156 (n := 157) rfl rfl rfl ?_
        refine gf_X7_28 C (hp0 0 (by decide)) dX7_heroHurls_157 (n := 160) rfl ?_
        refine dk_iload C dX7_heroHurls_160 (n := 162) rfl (i := 4) rfl ?_
        refine dk_callVi C [dk_r G p0 0] (cc_X2_livingAt C.D hp0 h) yy_X2_livingAt dk_wm_X7_173 dk_sh13 (hp0 13 (by decide)) dX7_heroHurls_162 (fun r15 s14 h => ?_) rfl rfl ⟨Nat.le_of_ble_eq_true rfl, Nat.le_of_ble_eq_true rfl⟩ rfl (Nat.le_of_ble_eq_true rfl) rfl (n := 165) rfl
        refine dk_iconst (v := 4) C dX7_heroHurls_165 (n := 166) rfl (by decide) ?_
        refine dk_callVv C [] (cc_X7_strike C.D hp0 h) yy_X7_strike dk_wm_X7_183 dk_sh0 (hp0 0 (by decide)) dX7_heroHurls_166 (fun s16 h => ?_) rfl rfl ⟨Nat.le_of_ble_eq_true rfl, Nat.le_of_ble_eq_true rfl⟩ rfl (Nat.le_of_ble_eq_true rfl) rfl (n := 169) rfl
        refine dk_aload_n (i := 0) C dX7_heroHurls_169 (n := 170) rfl rfl rfl ?_
        refine dk_iload C dX7_heroHurls_170 (n := 172) rfl (i := 4) rfl ?_
        refine dk_bipush (v := 6) C dX7_heroHurls_172 (n := 174) rfl (by decide) ?_
        refine dk_callVi C [] (cc_X7_makeNoise C.D hp0 h) yy_X7_makeNoise dk_wm_X7_159 dk_sh0 (hp0 0 (by decide)) dX7_heroHurls_174 (fun r18 s17 h => ?_) rfl rfl ⟨Nat.le_of_ble_eq_true rfl, Nat.le_of_ble_eq_true rfl⟩ rfl (Nat.le_of_ble_eq_true rfl) rfl (n := 177) rfl
        refine dk_pop C dX7_heroHurls_177 (n := 178) rfl rfl ?_
        refine dk_iload_n (i := 3) C dX7_heroHurls_178 (n := 179) rfl rfl rfl ?_
        exact dk_iret C hr hlk rfl dX7_heroHurls_179 ⟨_, rfl, h⟩
  · have h := h.2 c27
    refine dk_aload_n (i := 0) C dX7_heroHurls_104 (n := 105) rfl rfl rfl ?_
    refine dk_iload_n (i := 1) C dX7_heroHurls_105 (n := 106) rfl rfl rfl ?_
    refine dk_iload C dX7_heroHurls_106 (n := 108) rfl (i := 4) rfl ?_
    refine dk_callVv C [] (cc_X7_shatter C.D hp0 h) yy_X7_shatter dk_wm_X7_226 dk_sh0 (hp0 0 (by decide)) dX7_heroHurls_108 (fun s21 h => ?_) rfl rfl ⟨Nat.le_of_ble_eq_true rfl, Nat.le_of_ble_eq_true rfl⟩ rfl (Nat.le_of_ble_eq_true rfl) rfl (n := 111) rfl
    refine dk_aload_n (i := 0) C dX7_heroHurls_111 (n := 112) rfl rfl rfl ?_
    refine dk_iload C dX7_heroHurls_112 (n := 114) rfl (i := 6) rfl ?_
    refine dk_iload C dX7_heroHurls_114 (n := 116) rfl (i := 4) rfl ?_
    refine dk_aload_n (i := 0) C dX7_heroHurls_116 (n := 117) rfl rfl rfl ?_
    refine gf_X7_21 C (hp0 0 (by decide)) dX7_heroHurls_117 (n := 120) rfl ?_
    refine gf_X7_229 C (hp0 7 (by decide)) dX7_heroHurls_120 (n := 123) rfl ?_
    refine dk_iload C dX7_heroHurls_123 (n := 125) rfl (i := 6) rfl ?_
    refine dk_callNi C [.int x4, .int r11, dk_r G p0 0] (cc_X8_at C.D dk_sh12 (hp0 12 (by decide)) h) yy_X8_at dk_wm_X7_82 dX7_heroHurls_125 (fun r23 s22 h => ?_) rfl ⟨Nat.le_of_ble_eq_true rfl, Nat.le_of_ble_eq_true rfl⟩ rfl (Nat.le_of_ble_eq_true rfl) rfl (n := 128) rfl
    refine dk_callVv C [] (cc_X7_burnBy C.D hp0 h) yy_X7_burnBy dk_wm_X7_219 dk_sh0 (hp0 0 (by decide)) dX7_heroHurls_128 (fun s24 h => ?_) rfl rfl ⟨Nat.le_of_ble_eq_true rfl, Nat.le_of_ble_eq_true rfl⟩ rfl (Nat.le_of_ble_eq_true rfl) rfl (n := 131) rfl
    refine dk_aload_n (i := 0) C dX7_heroHurls_131 (n := 132) rfl rfl rfl ?_
    refine dk_iload C dX7_heroHurls_132 (n := 134) rfl (i := 4) rfl ?_
    refine dk_bipush (v := 6) C dX7_heroHurls_134 (n := 136) rfl (by decide) ?_
    refine dk_callVi C [] (cc_X7_makeNoise C.D hp0 h) yy_X7_makeNoise dk_wm_X7_159 dk_sh0 (hp0 0 (by decide)) dX7_heroHurls_136 (fun r26 s25 h => ?_) rfl rfl ⟨Nat.le_of_ble_eq_true rfl, Nat.le_of_ble_eq_true rfl⟩ rfl (Nat.le_of_ble_eq_true rfl) rfl (n := 139) rfl
    refine dk_pop C dX7_heroHurls_139 (n := 140) rfl rfl ?_
    refine dk_goto (t := 178) C dX7_heroHurls_140 (by decide) ?_
    refine dk_iload_n (i := 3) C dX7_heroHurls_178 (n := 179) rfl rfl rfl ?_
    exact dk_iret C hr hlk rfl dX7_heroHurls_179 ⟨_, rfl, h⟩
set_option maxRecDepth 20000 in
set_option maxHeartbeats 4000000 in
theorem ww_X7_heroHurls_11 {G : dk_G} {P : Program} {l : Launch} {e : Env} {S0 : State} {m : MethodId} {args : Array Value} {bel : List Frame} {meth : Method} {c : Code} {p0 : Nat} (C : dk_C G P (dk_rm 5) S0 m args c 0 0 cX7_heroHurls 7 RX7) (hr : meth.sig.returnType = (some .int)) (hlk : meth.locks = false) (hp0 : dk_WI G p0) {K : Int32 → dk_S → Prop} {E70 : Int32 → Int32 → Int32 → Int32 → dk_S → Prop} (hE70 : ∀ (x1 : Int32) (x3 : Int32) (x4 : Int32) (x5 : Int32) (s : dk_S), E70 x1 x3 x4 x5 s → dk_W G P l e (dk_rm 5) S0 m args bel meth c 0 0 (MQ bel (dk_Qc G (dk_ki K)) args S0 0 0 (dk_A G)) 70 [some (dk_r G p0 0), some (.int x1), none, some (.int x3), some (.int x4), some (.int x5), none] [] s) : ∀ (n : Nat) (x1 : Int32) (x2 : Int32) (x3 : Int32) (x4 : Int32) (x5 : Int32) (s : dk_S), wf_X7_heroHurls_11 p0 K E70 n x1 x2 x3 x4 x5 s → dk_W G P l e (dk_rm 5) S0 m args bel meth c 0 0 (MQ bel (dk_Qc G (dk_ki K)) args S0 0 0 (dk_A G)) 11 [some (dk_r G p0 0), some (.int x1), some (.int x2), some (.int x3), some (.int x4), some (.int x5), none] [] s := by
  intro n
  induction n with
  | zero => intro x1 x2 x3 x4 x5 s h; exact False.elim h
  | succ n hB =>
    intro x1 x2 x3 x4 x5 s h
    unfold wf_X7_heroHurls_11 at h
    refine dk_iload_n (i := 3) C dX7_heroHurls_11 (n := 12) rfl rfl rfl ?_
    refine dk_iconst (v := 5) C dX7_heroHurls_12 (n := 13) rfl (by decide) ?_
    refine dk_icmp_ge (t := 70) C dX7_heroHurls_13 (n := 16) rfl (by decide) (fun c40 => ?_) (fun c40 => ?_)
    · have h := h.1 c40
      refine dk_sub (L0 := [some (dk_r G p0 0), some (.int x1), none, some (.int x3), some (.int x4), some (.int x5), none]) ⟨rfl, ⟨rfl, ⟨rfl, ⟨rfl, ⟨rfl, trivial⟩⟩⟩⟩⟩ ?_
      exact hE70 x1 x3 x4 x5 s h
    · have h := h.2 c40
      refine dk_iload C dX7_heroHurls_16 (n := 18) rfl (i := 5) rfl ?_
      refine dk_if_ne (t := 70) C dX7_heroHurls_18 (n := 21) rfl (by decide) (fun c39 => ?_) (fun c39 => ?_)
      · have h := h.1 c39
        refine dk_sub (L0 := [some (dk_r G p0 0), some (.int x1), none, some (.int x3), some (.int x4), some (.int x5), none]) ⟨rfl, ⟨rfl, ⟨rfl, ⟨rfl, ⟨rfl, trivial⟩⟩⟩⟩⟩ ?_
        exact hE70 x1 x3 x4 x5 s h
      · have h := h.2 c39
        refine dk_aload_n (i := 0) C dX7_heroHurls_21 (n := 22) rfl rfl rfl ?_
        refine gf_X7_12 C (hp0 0 (by decide)) dX7_heroHurls_22 (n := 25) rfl ?_
        refine dk_iload C dX7_heroHurls_25 (n := 27) rfl (i := 4) rfl ?_
        refine dk_iload_n (i := 2) C dX7_heroHurls_27 (n := 28) rfl rfl rfl ?_
        refine dk_callNi C [dk_r G p0 1] (cc_X8_beside C.D  h) yy_X8_beside dk_wm_X7_170 dX7_heroHurls_28 (fun r29 s28 h => ?_) rfl ⟨Nat.le_of_ble_eq_true rfl, Nat.le_of_ble_eq_true rfl⟩ rfl (Nat.le_of_ble_eq_true rfl) rfl (n := 31) rfl
        refine dk_callVi C [] (cc_X1_isFreeAt C.D hp0 h) yy_X1_isFreeAt dk_wm_X7_89 dk_sh1 (hp0 1 (by decide)) dX7_heroHurls_31 (fun r31 s30 h => ?_) rfl rfl ⟨Nat.le_of_ble_eq_true rfl, Nat.le_of_ble_eq_true rfl⟩ rfl (Nat.le_of_ble_eq_true rfl) rfl (n := 34) rfl
        refine dk_if_eq (t := 70) C dX7_heroHurls_34 (n := 37) rfl (by decide) (fun c38 => ?_) (fun c38 => ?_)
        · have h := h.1 c38
          refine dk_sub (L0 := [some (dk_r G p0 0), some (.int x1), none, some (.int x3), some (.int x4), some (.int x5), none]) ⟨rfl, ⟨rfl, ⟨rfl, ⟨rfl, ⟨rfl, trivial⟩⟩⟩⟩⟩ ?_
          exact hE70 x1 x3 x4 x5 s30 h
        · have h := h.2 c38
          refine dk_iload C dX7_heroHurls_37 (n := 39) rfl (i := 4) rfl ?_
          refine dk_iload_n (i := 2) C dX7_heroHurls_39 (n := 40) rfl rfl rfl ?_
          refine dk_callNi C [] (cc_X8_beside C.D  h) yy_X8_beside dk_wm_X7_170 dX7_heroHurls_40 (fun r33 s32 h => ?_) rfl ⟨Nat.le_of_ble_eq_true rfl, Nat.le_of_ble_eq_true rfl⟩ rfl (Nat.le_of_ble_eq_true rfl) rfl (n := 43) rfl
          refine dk_istore (i := 4) (L' := [some (dk_r G p0 0), some (.int x1), some (.int x2), some (.int x3), some (.int r33), some (.int x5), none]) C dX7_heroHurls_43 (n := 45) rfl (dk_nc_of rfl) (Nat.le_of_ble_eq_true rfl) rfl ?_
          obtain ⟨v34, ev34⟩ : ∃ y : Int32, y = x3 + 1 := ⟨_, rfl⟩
          have h := h v34 ev34
          refine dk_iinc (i := 3) (v := v34) (L' := [some (dk_r G p0 0), some (.int x1), some (.int x2), some (.int v34), some (.int r33), some (.int x5), none]) C dX7_heroHurls_45 (n := 48) rfl rfl (by rw [ev34]; rfl) (dk_nc_of rfl) (Nat.le_of_ble_eq_true rfl) rfl ?_
          refine dk_aload_n (i := 0) C dX7_heroHurls_48 (n := 49) rfl rfl rfl ?_
          refine gf_X7_28 C (hp0 0 (by decide)) dX7_heroHurls_49 (n := 52) rfl ?_
          refine dk_iload C dX7_heroHurls_52 (n := 54) rfl (i := 4) rfl ?_
          refine dk_callVi C [] (cc_X2_livingAt C.D hp0 h) yy_X2_livingAt dk_wm_X7_173 dk_sh13 (hp0 13 (by decide)) dX7_heroHurls_54 (fun r36 s35 h => ?_) rfl rfl ⟨Nat.le_of_ble_eq_true rfl, Nat.le_of_ble_eq_true rfl⟩ rfl (Nat.le_of_ble_eq_true rfl) rfl (n := 57) rfl
          refine dk_if_le (t := 64) C dX7_heroHurls_57 (n := 60) rfl (by decide) (fun c37 => ?_) (fun c37 => ?_)
          · have h := h.1 c37
            refine dk_iconst (v := 0) C dX7_heroHurls_64 (n := 65) rfl (by decide) ?_
            refine dk_istore (i := 5) (L' := [some (dk_r G p0 0), some (.int x1), some (.int x2), some (.int v34), some (.int r33), some (.int 0), none]) C dX7_heroHurls_65 (n := 67) rfl (dk_nc_of rfl) (Nat.le_of_ble_eq_true rfl) rfl ?_
            refine dk_goto (t := 11) C dX7_heroHurls_67 (by decide) ?_
            refine dk_sub (L0 := [some (dk_r G p0 0), some (.int x1), some (.int x2), some (.int v34), some (.int r33), some (.int 0), none]) ⟨rfl, ⟨rfl, ⟨rfl, ⟨rfl, ⟨rfl, ⟨rfl, trivial⟩⟩⟩⟩⟩⟩ ?_
            exact hB x1 x2 v34 r33 0 s35 h
          · have h := h.2 c37
            refine dk_iconst (v := 1) C dX7_heroHurls_60 (n := 61) rfl (by decide) ?_
            refine dk_goto (t := 65) C dX7_heroHurls_61 (by decide) ?_
            refine dk_istore (i := 5) (L' := [some (dk_r G p0 0), some (.int x1), some (.int x2), some (.int v34), some (.int r33), some (.int 1), none]) C dX7_heroHurls_65 (n := 67) rfl (dk_nc_of rfl) (Nat.le_of_ble_eq_true rfl) rfl ?_
            refine dk_goto (t := 11) C dX7_heroHurls_67 (by decide) ?_
            refine dk_sub (L0 := [some (dk_r G p0 0), some (.int x1), some (.int x2), some (.int v34), some (.int r33), some (.int 1), none]) ⟨rfl, ⟨rfl, ⟨rfl, ⟨rfl, ⟨rfl, ⟨rfl, trivial⟩⟩⟩⟩⟩⟩ ?_
            exact hB x1 x2 v34 r33 1 s35 h
set_option maxRecDepth 20000 in
set_option maxHeartbeats 4000000 in
theorem cc_X7_heroHurls {G : dk_G} {l : Launch} {p0 : Nat} {a1 : Int32} {a2 : Int32} (hD : dk_D G) (hp0 : dk_WI G p0) {s : dk_S} {K : Int32 → dk_S → Prop} (h : wf_X7_heroHurls p0 a1 a2 s K) : dk_M G l 5 yX7_heroHurls cX7_heroHurls 7 (some .int) [dk_r G p0 0, .int a1, .int a2] s (dk_ki K) := by
  refine dk_of hD (by decide) [some (dk_r G p0 0), some (.int a1), some (.int a2), none, none, none, none] (fun q hq => hq) rfl (Nat.le_of_ble_eq_true rfl) (fun P e S0 m args bel meth c C hr hlk => ?_)
  unfold wf_X7_heroHurls at h
  refine dk_iconst (v := 0) C dX7_heroHurls_0 (n := 1) rfl (by decide) ?_
  refine dk_istore_n (i := 3) (L' := [some (dk_r G p0 0), some (.int a1), some (.int a2), some (.int 0), none, none, none]) C dX7_heroHurls_1 (n := 2) rfl rfl (dk_nc_of rfl) (Nat.le_of_ble_eq_true rfl) rfl ?_
  refine dk_aload_n (i := 0) C dX7_heroHurls_2 (n := 3) rfl rfl rfl ?_
  refine dk_callVi C [] (cc_X7_heroSpot C.D hp0 h) yy_X7_heroSpot dk_wm_X7_93 dk_sh0 (hp0 0 (by decide)) dX7_heroHurls_3 (fun r2 s1 h => ?_) rfl rfl ⟨Nat.le_of_ble_eq_true rfl, Nat.le_of_ble_eq_true rfl⟩ rfl (Nat.le_of_ble_eq_true rfl) rfl (n := 6) rfl
  refine dk_istore (i := 4) (L' := [some (dk_r G p0 0), some (.int a1), some (.int a2), some (.int 0), some (.int r2), none, none]) C dX7_heroHurls_6 (n := 8) rfl (dk_nc_of rfl) (Nat.le_of_ble_eq_true rfl) rfl ?_
  refine dk_iconst (v := 0) C dX7_heroHurls_8 (n := 9) rfl (by decide) ?_
  refine dk_istore (i := 5) (L' := [some (dk_r G p0 0), some (.int a1), some (.int a2), some (.int 0), some (.int r2), some (.int 0), none]) C dX7_heroHurls_9 (n := 11) rfl (dk_nc_of rfl) (Nat.le_of_ble_eq_true rfl) rfl ?_
  obtain ⟨nn8, h⟩ := h
  refine dk_sub (L0 := [some (dk_r G p0 0), some (.int a1), some (.int a2), some (.int 0), some (.int r2), some (.int 0), none]) ⟨rfl, ⟨rfl, ⟨rfl, ⟨rfl, ⟨rfl, ⟨rfl, trivial⟩⟩⟩⟩⟩⟩ ?_
  refine ww_X7_heroHurls_11 C hr hlk hp0 (fun w3 w4 w5 w6 s7 h => ?_) nn8 a1 a2 0 r2 0 s1 h
  · refine dk_sub (L0 := [some (dk_r G p0 0), some (.int w3), none, some (.int w4), some (.int w5), some (.int w6), none]) ⟨rfl, ⟨rfl, ⟨rfl, ⟨rfl, ⟨rfl, trivial⟩⟩⟩⟩⟩ ?_
    exact ww_X7_heroHurls_70 C hr hlk hp0  w3 w4 w5 w6 s7 h
/-! X7_heroPrays -/
set_option maxRecDepth 20000 in
set_option maxHeartbeats 4000000 in
theorem ww_X7_heroPrays_53 {G : dk_G} {P : Program} {l : Launch} {e : Env} {S0 : State} {m : MethodId} {args : Array Value} {bel : List Frame} {meth : Method} {c : Code} {p0 : Nat} (C : dk_C G P (dk_rm 3) S0 m args c 0 0 cX7_heroPrays 1 RX7) (hr : meth.sig.returnType = (some .int)) (hlk : meth.locks = false) (hp0 : dk_WI G p0) {K : Int32 → dk_S → Prop}  : ∀  (s : dk_S), wf_X7_heroPrays_53 p0 K s → dk_W G P l e (dk_rm 3) S0 m args bel meth c 0 0 (MQ bel (dk_Qc G (dk_ki K)) args S0 0 0 (dk_A G)) 53 [some (dk_r G p0 0)] [] s := by
  intro s h
  unfold wf_X7_heroPrays_53 at h
  refine dk_aload_n (i := 0) C dX7_heroPrays_53 (n := 54) rfl rfl rfl ?_
  refine dk_dup C dX7_heroPrays_54 (n := 55) rfl rfl ?_
  refine gf_X7_53 C (hp0 0 (by decide)) dX7_heroPrays_55 (n := 58) rfl ?_
  refine dk_iconst (v := 1) C dX7_heroPrays_58 (n := 59) rfl (by decide) ?_
  refine dk_isub C dX7_heroPrays_59 (n := 60) rfl ?_
  refine pf_X7_53 C rfl rfl (hp0 0 (by decide)) dX7_heroPrays_60 (n := 63) rfl ?_
  refine dk_nameS (fun s9 es9 => ?_)
  have h := h s9 es9
  refine dk_aload_n (i := 0) C dX7_heroPrays_63 (n := 64) rfl rfl rfl ?_
  refine gf_X7_53 C (hp0 0 (by decide)) dX7_heroPrays_64 (n := 67) rfl ?_
  exact dk_iret C hr hlk rfl dX7_heroPrays_67 ⟨_, rfl, h⟩
set_option maxRecDepth 20000 in
set_option maxHeartbeats 4000000 in
theorem cc_X7_heroPrays {G : dk_G} {l : Launch} {p0 : Nat} (hD : dk_D G) (hp0 : dk_WI G p0) {s : dk_S} {K : Int32 → dk_S → Prop} (h : wf_X7_heroPrays p0 s K) : dk_M G l 3 yX7_heroPrays cX7_heroPrays 1 (some .int) [dk_r G p0 0] s (dk_ki K) := by
  refine dk_of hD (by decide) [some (dk_r G p0 0)] (fun q hq => hq) rfl (Nat.le_of_ble_eq_true rfl) (fun P e S0 m args bel meth c C hr hlk => ?_)
  unfold wf_X7_heroPrays at h
  refine dk_aload_n (i := 0) C dX7_heroPrays_0 (n := 1) rfl rfl rfl ?_
  refine gf_X7_28 C (hp0 0 (by decide)) dX7_heroPrays_1 (n := 4) rfl ?_
  refine dk_iconst (v := 0) C dX7_heroPrays_4 (n := 5) rfl (by decide) ?_
  refine dk_callVi C [] (cc_X2_isWeak C.D hp0 h) yy_X2_isWeak dk_wm_X7_198 dk_sh13 (hp0 13 (by decide)) dX7_heroPrays_5 (fun r2 s1 h => ?_) rfl rfl ⟨Nat.le_of_ble_eq_true rfl, Nat.le_of_ble_eq_true rfl⟩ rfl (Nat.le_of_ble_eq_true rfl) rfl (n := 8) rfl
  refine dk_if_eq (t := 53) C dX7_heroPrays_8 (n := 11) rfl (by decide) (fun c8 => ?_) (fun c8 => ?_)
  · have h := h.1 c8
    refine dk_sub (L0 := [some (dk_r G p0 0)]) ⟨rfl, trivial⟩ ?_
    exact ww_X7_heroPrays_53 C hr hlk hp0   s1 h
  · have h := h.2 c8
    refine dk_aload_n (i := 0) C dX7_heroPrays_11 (n := 12) rfl rfl rfl ?_
    refine gf_X7_53 C (hp0 0 (by decide)) dX7_heroPrays_12 (n := 15) rfl ?_
    refine dk_if_lt (t := 53) C dX7_heroPrays_15 (n := 18) rfl (by decide) (fun c7 => ?_) (fun c7 => ?_)
    · have h := h.1 c7
      refine dk_sub (L0 := [some (dk_r G p0 0)]) ⟨rfl, trivial⟩ ?_
      exact ww_X7_heroPrays_53 C hr hlk hp0   s1 h
    · have h := h.2 c7
      refine dk_aload_n (i := 0) C dX7_heroPrays_18 (n := 19) rfl rfl rfl ?_
      refine gf_X7_28 C (hp0 0 (by decide)) dX7_heroPrays_19 (n := 22) rfl ?_
      refine gf_X7_223 C (hp0 13 (by decide)) dX7_heroPrays_22 (n := 25) rfl ?_
      refine dk_iconst (v := 0) C dX7_heroPrays_25 (n := 26) rfl (by decide) ?_
      refine dk_aload_n (i := 0) C dX7_heroPrays_26 (n := 27) rfl rfl rfl ?_
      refine gf_X7_28 C (hp0 0 (by decide)) dX7_heroPrays_27 (n := 30) rfl ?_
      refine gf_X7_254 C (hp0 13 (by decide)) dX7_heroPrays_30 (n := 33) rfl ?_
      refine dk_iconst (v := 0) C dX7_heroPrays_33 (n := 34) rfl (by decide) ?_
      refine dk_callNi C [.int 0, dk_r G p0 18] (cc_X8_at C.D dk_sh17 (hp0 17 (by decide)) h) yy_X8_at dk_wm_X7_82 dX7_heroPrays_34 (fun r4 s3 h => ?_) rfl ⟨Nat.le_of_ble_eq_true rfl, Nat.le_of_ble_eq_true rfl⟩ rfl (Nat.le_of_ble_eq_true rfl) rfl (n := 37) rfl
      refine dk_callNv C [] (cc_X8_put C.D dk_sh18 (hp0 18 (by decide)) h) yy_X8_put dk_wm_X7_142 dX7_heroPrays_37 (fun s5 h => ?_) rfl ⟨Nat.le_of_ble_eq_true rfl, Nat.le_of_ble_eq_true rfl⟩ rfl (Nat.le_of_ble_eq_true rfl) rfl (n := 40) rfl
      refine dk_aload_n (i := 0) C dX7_heroPrays_40 (n := 41) rfl rfl rfl ?_
      refine dk_dup C dX7_heroPrays_41 (n := 42) rfl rfl ?_
      refine gf_X7_53 C (hp0 0 (by decide)) dX7_heroPrays_42 (n := 45) rfl ?_
      refine dk_iconst (v := 5) C dX7_heroPrays_45 (n := 46) rfl (by decide) ?_
      refine dk_isub C dX7_heroPrays_46 (n := 47) rfl ?_
      refine pf_X7_53 C rfl rfl (hp0 0 (by decide)) dX7_heroPrays_47 (n := 50) rfl ?_
      refine dk_nameS (fun s6 es6 => ?_)
      have h := h s6 es6
      refine dk_goto (t := 63) C dX7_heroPrays_50 (by decide) ?_
      refine dk_aload_n (i := 0) C dX7_heroPrays_63 (n := 64) rfl rfl rfl ?_
      refine gf_X7_53 C (hp0 0 (by decide)) dX7_heroPrays_64 (n := 67) rfl ?_
      exact dk_iret C hr hlk rfl dX7_heroPrays_67 ⟨_, rfl, h⟩
/-! X7_perform -/
set_option maxRecDepth 20000 in
set_option maxHeartbeats 4000000 in
theorem ww_X7_perform_192 {G : dk_G} {P : Program} {l : Launch} {e : Env} {S0 : State} {m : MethodId} {args : Array Value} {bel : List Frame} {meth : Method} {c : Code} {p0 : Nat} (C : dk_C G P (dk_rm 6) S0 m args c 0 0 cX7_perform 5 RX7) (hr : meth.sig.returnType = (some .int)) (hlk : meth.locks = false) (hp0 : dk_WI G p0) {K : Int32 → dk_S → Prop}  : ∀ (x4 : Int32) (s : dk_S), wf_X7_perform_192 p0 K x4 s → dk_W G P l e (dk_rm 6) S0 m args bel meth c 0 0 (MQ bel (dk_Qc G (dk_ki K)) args S0 0 0 (dk_A G)) 192 [some (dk_r G p0 0), none, none, none, some (.int x4)] [] s := by
  intro x4 s h
  unfold wf_X7_perform_192 at h
  refine dk_iload C dX7_perform_192 (n := 194) rfl (i := 4) rfl ?_
  refine dk_ldc (v := (-1000000)) C dX7_perform_194 (n := 196) rfl dk_wk_X7_165 ?_
  refine dk_icmp_eq (t := 207) C dX7_perform_196 (n := 199) rfl (by decide) (fun c36 => ?_) (fun c36 => ?_)
  · have h := h.1 c36
    refine dk_iload C dX7_perform_207 (n := 209) rfl (i := 4) rfl ?_
    exact dk_iret C hr hlk rfl dX7_perform_209 ⟨_, rfl, h⟩
  · have h := h.2 c36
    refine dk_aload_n (i := 0) C dX7_perform_199 (n := 200) rfl rfl rfl ?_
    refine gf_X7_28 C (hp0 0 (by decide)) dX7_perform_200 (n := 203) rfl ?_
    refine dk_iconst (v := 0) C dX7_perform_203 (n := 204) rfl (by decide) ?_
    refine dk_callVv C [] (cc_X2_spendTurn C.D hp0 h) yy_X2_spendTurn dk_wm_X7_166 dk_sh13 (hp0 13 (by decide)) dX7_perform_204 (fun s35 h => ?_) rfl rfl ⟨Nat.le_of_ble_eq_true rfl, Nat.le_of_ble_eq_true rfl⟩ rfl (Nat.le_of_ble_eq_true rfl) rfl (n := 207) rfl
    refine dk_iload C dX7_perform_207 (n := 209) rfl (i := 4) rfl ?_
    exact dk_iret C hr hlk rfl dX7_perform_209 ⟨_, rfl, h⟩
set_option maxRecDepth 20000 in
set_option maxHeartbeats 4000000 in
theorem cc_X7_perform {G : dk_G} {l : Launch} {p0 : Nat} {a1 : Int32} {a2 : Int32} {a3 : Int32} (hD : dk_D G) (hp0 : dk_WI G p0) {s : dk_S} {K : Int32 → dk_S → Prop} (h : wf_X7_perform p0 a1 a2 a3 s K) : dk_M G l 6 yX7_perform cX7_perform 5 (some .int) [dk_r G p0 0, .int a1, .int a2, .int a3] s (dk_ki K) := by
  refine dk_of hD (by decide) [some (dk_r G p0 0), some (.int a1), some (.int a2), some (.int a3), none] (fun q hq => hq) rfl (Nat.le_of_ble_eq_true rfl) (fun P e S0 m args bel meth c C hr hlk => ?_)
  unfold wf_X7_perform at h
  refine dk_iconst (v := 0) C dX7_perform_0 (n := 1) rfl (by decide) ?_
  refine dk_istore (i := 4) (L' := [some (dk_r G p0 0), some (.int a1), some (.int a2), some (.int a3), some (.int 0)]) C dX7_perform_1 (n := 3) rfl (dk_nc_of rfl) (Nat.le_of_ble_eq_true rfl) rfl ?_
  refine dk_iload_n (i := 1) C dX7_perform_3 (n := 4) rfl rfl rfl ?_
  by_cases c3 : a1 = 0
  · have h := h.1 c3
    refine dk_tabIn (off := 52) (t := 56) C dX7_perform_4 (by rw [c3]; decide) (by rw [c3]; decide) (by rw [c3]; decide) (by decide) ?_
    refine dk_aload_n (i := 0) C dX7_perform_56 (n := 57) rfl rfl rfl ?_
    refine dk_iload_n (i := 2) C dX7_perform_57 (n := 58) rfl rfl rfl ?_
    refine dk_callVi C [] (cc_X7_heroGoes C.D hp0 h) yy_X7_heroGoes dk_wm_X7_137 dk_sh0 (hp0 0 (by decide)) dX7_perform_58 (fun r2 s1 h => ?_) rfl rfl ⟨Nat.le_of_ble_eq_true rfl, Nat.le_of_ble_eq_true rfl⟩ rfl (Nat.le_of_ble_eq_true rfl) rfl (n := 61) rfl
    refine dk_istore (i := 4) (L' := [some (dk_r G p0 0), some (.int a1), some (.int a2), some (.int a3), some (.int r2)]) C dX7_perform_61 (n := 63) rfl (dk_nc_of rfl) (Nat.le_of_ble_eq_true rfl) rfl ?_
    refine dk_goto (t := 192) C dX7_perform_63 (by decide) ?_
    refine dk_sub (L0 := [some (dk_r G p0 0), none, none, none, some (.int r2)]) ⟨rfl, ⟨rfl, trivial⟩⟩ ?_
    exact ww_X7_perform_192 C hr hlk hp0  r2 s1 h
  have h := h.2 c3
  by_cases c4 : a1 = 1
  · have h := h.1 c4
    refine dk_tabIn (off := 188) (t := 192) C dX7_perform_4 (by rw [c4]; decide) (by rw [c4]; decide) (by rw [c4]; decide) (by decide) ?_
    refine dk_sub (L0 := [some (dk_r G p0 0), none, none, none, some (.int 0)]) ⟨rfl, ⟨rfl, trivial⟩⟩ ?_
    exact ww_X7_perform_192 C hr hlk hp0  0 s h
  have h := h.2 c4
  by_cases c8 : a1 = 2
  · have h := h.1 c8
    refine dk_tabIn (off := 62) (t := 66) C dX7_perform_4 (by rw [c8]; decide) (by rw [c8]; decide) (by rw [c8]; decide) (by decide) ?_
    refine dk_aload_n (i := 0) C dX7_perform_66 (n := 67) rfl rfl rfl ?_
    refine gf_X7_35 C (hp0 0 (by decide)) dX7_perform_67 (n := 70) rfl ?_
    refine gf_X7_141 C (hp0 23 (by decide)) dX7_perform_70 (n := 73) rfl ?_
    refine dk_iload_n (i := 2) C dX7_perform_73 (n := 74) rfl rfl rfl ?_
    refine dk_iconst (v := (-1)) C dX7_perform_74 (n := 75) rfl (by decide) ?_
    refine dk_callNv C [] (cc_X8_put C.D dk_sh25 (hp0 25 (by decide)) h) yy_X8_put dk_wm_X7_142 dX7_perform_75 (fun s5 h => ?_) rfl ⟨Nat.le_of_ble_eq_true rfl, Nat.le_of_ble_eq_true rfl⟩ rfl (Nat.le_of_ble_eq_true rfl) rfl (n := 78) rfl
    refine dk_aload_n (i := 0) C dX7_perform_78 (n := 79) rfl rfl rfl ?_
    refine gf_X7_35 C (hp0 0 (by decide)) dX7_perform_79 (n := 82) rfl ?_
    refine dk_aload_n (i := 0) C dX7_perform_82 (n := 83) rfl rfl rfl ?_
    refine gf_X7_21 C (hp0 0 (by decide)) dX7_perform_83 (n := 86) rfl ?_
    refine dk_callVi C [] (cc_X6_carriedWeight C.D hp0 hp0 h) yy_X6_carriedWeight dk_wm_X7_146 dk_sh23 (hp0 23 (by decide)) dX7_perform_86 (fun r7 s6 h => ?_) rfl rfl ⟨Nat.le_of_ble_eq_true rfl, Nat.le_of_ble_eq_true rfl⟩ rfl (Nat.le_of_ble_eq_true rfl) rfl (n := 89) rfl
    refine dk_istore (i := 4) (L' := [some (dk_r G p0 0), some (.int a1), some (.int a2), some (.int a3), some (.int r7)]) C dX7_perform_89 (n := 91) rfl (dk_nc_of rfl) (Nat.le_of_ble_eq_true rfl) rfl ?_
    refine dk_goto (t := 192) C dX7_perform_91 (by decide) ?_
    refine dk_sub (L0 := [some (dk_r G p0 0), none, none, none, some (.int r7)]) ⟨rfl, ⟨rfl, trivial⟩⟩ ?_
    exact ww_X7_perform_192 C hr hlk hp0  r7 s6 h
  have h := h.2 c8
  by_cases c14 : a1 = 3
  · have h := h.1 c14
    refine dk_tabIn (off := 90) (t := 94) C dX7_perform_4 (by rw [c14]; decide) (by rw [c14]; decide) (by rw [c14]; decide) (by decide) ?_
    refine dk_aload_n (i := 0) C dX7_perform_94 (n := 95) rfl rfl rfl ?_
    refine gf_X7_35 C (hp0 0 (by decide)) dX7_perform_95 (n := 98) rfl ?_
    refine gf_X7_141 C (hp0 23 (by decide)) dX7_perform_98 (n := 101) rfl ?_
    refine dk_iload_n (i := 2) C dX7_perform_101 (n := 102) rfl rfl rfl ?_
    refine dk_aload_n (i := 0) C dX7_perform_102 (n := 103) rfl rfl rfl ?_
    refine dk_callVi C [.int a2, dk_r G p0 25] (cc_X7_heroSpot C.D hp0 h) yy_X7_heroSpot dk_wm_X7_93 dk_sh0 (hp0 0 (by decide)) dX7_perform_103 (fun r10 s9 h => ?_) rfl rfl ⟨Nat.le_of_ble_eq_true rfl, Nat.le_of_ble_eq_true rfl⟩ rfl (Nat.le_of_ble_eq_true rfl) rfl (n := 106) rfl
    refine dk_callNv C [] (cc_X8_put C.D dk_sh25 (hp0 25 (by decide)) h) yy_X8_put dk_wm_X7_142 dX7_perform_106 (fun s11 h => ?_) rfl ⟨Nat.le_of_ble_eq_true rfl, Nat.le_of_ble_eq_true rfl⟩ rfl (Nat.le_of_ble_eq_true rfl) rfl (n := 109) rfl
    refine dk_aload_n (i := 0) C dX7_perform_109 (n := 110) rfl rfl rfl ?_
    refine gf_X7_35 C (hp0 0 (by decide)) dX7_perform_110 (n := 113) rfl ?_
    refine dk_aload_n (i := 0) C dX7_perform_113 (n := 114) rfl rfl rfl ?_
    refine gf_X7_21 C (hp0 0 (by decide)) dX7_perform_114 (n := 117) rfl ?_
    refine dk_callVi C [] (cc_X6_carriedWeight C.D hp0 hp0 h) yy_X6_carriedWeight dk_wm_X7_146 dk_sh23 (hp0 23 (by decide)) dX7_perform_117 (fun r13 s12 h => ?_) rfl rfl ⟨Nat.le_of_ble_eq_true rfl, Nat.le_of_ble_eq_true rfl⟩ rfl (Nat.le_of_ble_eq_true rfl) rfl (n := 120) rfl
    refine dk_istore (i := 4) (L' := [some (dk_r G p0 0), some (.int a1), some (.int a2), some (.int a3), some (.int r13)]) C dX7_perform_120 (n := 122) rfl (dk_nc_of rfl) (Nat.le_of_ble_eq_true rfl) rfl ?_
    refine dk_goto (t := 192) C dX7_perform_122 (by decide) ?_
    refine dk_sub (L0 := [some (dk_r G p0 0), none, none, none, some (.int r13)]) ⟨rfl, ⟨rfl, trivial⟩⟩ ?_
    exact ww_X7_perform_192 C hr hlk hp0  r13 s12 h
  have h := h.2 c14
  by_cases c20 : a1 = 4
  · have h := h.1 c20
    refine dk_tabIn (off := 121) (t := 125) C dX7_perform_4 (by rw [c20]; decide) (by rw [c20]; decide) (by rw [c20]; decide) (by decide) ?_
    refine dk_aload_n (i := 0) C dX7_perform_125 (n := 126) rfl rfl rfl ?_
    refine dk_iload_n (i := 2) C dX7_perform_126 (n := 127) rfl rfl rfl ?_
    refine dk_iload_n (i := 3) C dX7_perform_127 (n := 128) rfl rfl rfl ?_
    refine dk_iconst (v := (-1)) C dX7_perform_128 (n := 129) rfl (by decide) ?_
    refine dk_icmp_ne (t := 136) C dX7_perform_129 (n := 132) rfl (by decide) (fun c19 => ?_) (fun c19 => ?_)
    · have h := h.1 c19
      refine dk_bipush (v := (-3)) C dX7_perform_136 (n := 138) rfl (by decide) ?_
      refine dk_iload_n (i := 3) C dX7_perform_138 (n := 139) rfl rfl rfl ?_
      refine dk_isub C dX7_perform_139 (n := 140) rfl ?_
      refine dk_callVi C [] (cc_X7_heroPacks C.D hp0 h) yy_X7_heroPacks dk_wm_X7_150 dk_sh0 (hp0 0 (by decide)) dX7_perform_140 (fun r16 s15 h => ?_) rfl rfl ⟨Nat.le_of_ble_eq_true rfl, Nat.le_of_ble_eq_true rfl⟩ rfl (Nat.le_of_ble_eq_true rfl) rfl (n := 143) rfl
      refine dk_istore (i := 4) (L' := [some (dk_r G p0 0), some (.int a1), some (.int a2), some (.int a3), some (.int r16)]) C dX7_perform_143 (n := 145) rfl (dk_nc_of rfl) (Nat.le_of_ble_eq_true rfl) rfl ?_
      refine dk_goto (t := 192) C dX7_perform_145 (by decide) ?_
      refine dk_sub (L0 := [some (dk_r G p0 0), none, none, none, some (.int r16)]) ⟨rfl, ⟨rfl, trivial⟩⟩ ?_
      exact ww_X7_perform_192 C hr hlk hp0  r16 s15 h
    · have h := h.2 c19
      refine dk_iconst (v := (-1)) C dX7_perform_132 (n := 133) rfl (by decide) ?_
      refine dk_goto (t := 140) C dX7_perform_133 (by decide) ?_
      refine dk_callVi C [] (cc_X7_heroPacks C.D hp0 h) yy_X7_heroPacks dk_wm_X7_150 dk_sh0 (hp0 0 (by decide)) dX7_perform_140 (fun r18 s17 h => ?_) rfl rfl ⟨Nat.le_of_ble_eq_true rfl, Nat.le_of_ble_eq_true rfl⟩ rfl (Nat.le_of_ble_eq_true rfl) rfl (n := 143) rfl
      refine dk_istore (i := 4) (L' := [some (dk_r G p0 0), some (.int a1), some (.int a2), some (.int a3), some (.int r18)]) C dX7_perform_143 (n := 145) rfl (dk_nc_of rfl) (Nat.le_of_ble_eq_true rfl) rfl ?_
      refine dk_goto (t := 192) C dX7_perform_145 (by decide) ?_
      refine dk_sub (L0 := [some (dk_r G p0 0), none, none, none, some (.int r18)]) ⟨rfl, ⟨rfl, trivial⟩⟩ ?_
      exact ww_X7_perform_192 C hr hlk hp0  r18 s17 h
  have h := h.2 c20
  by_cases c23 : a1 = 5
  · have h := h.1 c23
    refine dk_tabIn (off := 144) (t := 148) C dX7_perform_4 (by rw [c23]; decide) (by rw [c23]; decide) (by rw [c23]; decide) (by decide) ?_
    refine dk_aload_n (i := 0) C dX7_perform_148 (n := 149) rfl rfl rfl ?_
    refine dk_iload_n (i := 2) C dX7_perform_149 (n := 150) rfl rfl rfl ?_
    refine dk_callVi C [] (cc_X7_heroDrinks C.D hp0 h) yy_X7_heroDrinks dk_wm_X7_153 dk_sh0 (hp0 0 (by decide)) dX7_perform_150 (fun r22 s21 h => ?_) rfl rfl ⟨Nat.le_of_ble_eq_true rfl, Nat.le_of_ble_eq_true rfl⟩ rfl (Nat.le_of_ble_eq_true rfl) rfl (n := 153) rfl
    refine dk_istore (i := 4) (L' := [some (dk_r G p0 0), some (.int a1), some (.int a2), some (.int a3), some (.int r22)]) C dX7_perform_153 (n := 155) rfl (dk_nc_of rfl) (Nat.le_of_ble_eq_true rfl) rfl ?_
    refine dk_goto (t := 192) C dX7_perform_155 (by decide) ?_
    refine dk_sub (L0 := [some (dk_r G p0 0), none, none, none, some (.int r22)]) ⟨rfl, ⟨rfl, trivial⟩⟩ ?_
    exact ww_X7_perform_192 C hr hlk hp0  r22 s21 h
  have h := h.2 c23
  by_cases c26 : a1 = 6
  · have h := h.1 c26
    refine dk_tabIn (off := 154) (t := 158) C dX7_perform_4 (by rw [c26]; decide) (by rw [c26]; decide) (by rw [c26]; decide) (by decide) ?_
    refine dk_aload_n (i := 0) C dX7_perform_158 (n := 159) rfl rfl rfl ?_
    refine dk_iload_n (i := 2) C dX7_perform_159 (n := 160) rfl rfl rfl ?_
    refine dk_iload_n (i := 3) C dX7_perform_160 (n := 161) rfl rfl rfl ?_
    refine dk_callVi C [] (cc_X7_heroHurls C.D hp0 h) yy_X7_heroHurls dk_wm_X7_156 dk_sh0 (hp0 0 (by decide)) dX7_perform_161 (fun r25 s24 h => ?_) rfl rfl ⟨Nat.le_of_ble_eq_true rfl, Nat.le_of_ble_eq_true rfl⟩ rfl (Nat.le_of_ble_eq_true rfl) rfl (n := 164) rfl
    refine dk_istore (i := 4) (L' := [some (dk_r G p0 0), some (.int a1), some (.int a2), some (.int a3), some (.int r25)]) C dX7_perform_164 (n := 166) rfl (dk_nc_of rfl) (Nat.le_of_ble_eq_true rfl) rfl ?_
    refine dk_goto (t := 192) C dX7_perform_166 (by decide) ?_
    refine dk_sub (L0 := [some (dk_r G p0 0), none, none, none, some (.int r25)]) ⟨rfl, ⟨rfl, trivial⟩⟩ ?_
    exact ww_X7_perform_192 C hr hlk hp0  r25 s24 h
  have h := h.2 c26
  by_cases c31 : a1 = 7
  · have h := h.1 c31
    refine dk_tabIn (off := 165) (t := 169) C dX7_perform_4 (by rw [c31]; decide) (by rw [c31]; decide) (by rw [c31]; decide) (by decide) ?_
    refine dk_aload_n (i := 0) C dX7_perform_169 (n := 170) rfl rfl rfl ?_
    refine dk_aload_n (i := 0) C dX7_perform_170 (n := 171) rfl rfl rfl ?_
    refine dk_callVi C [dk_r G p0 0] (cc_X7_heroSpot C.D hp0 h) yy_X7_heroSpot dk_wm_X7_93 dk_sh0 (hp0 0 (by decide)) dX7_perform_171 (fun r28 s27 h => ?_) rfl rfl ⟨Nat.le_of_ble_eq_true rfl, Nat.le_of_ble_eq_true rfl⟩ rfl (Nat.le_of_ble_eq_true rfl) rfl (n := 174) rfl
    refine dk_iload_n (i := 2) C dX7_perform_174 (n := 175) rfl rfl rfl ?_
    refine dk_callVi C [] (cc_X7_makeNoise C.D hp0 h) yy_X7_makeNoise dk_wm_X7_159 dk_sh0 (hp0 0 (by decide)) dX7_perform_175 (fun r30 s29 h => ?_) rfl rfl ⟨Nat.le_of_ble_eq_true rfl, Nat.le_of_ble_eq_true rfl⟩ rfl (Nat.le_of_ble_eq_true rfl) rfl (n := 178) rfl
    refine dk_istore (i := 4) (L' := [some (dk_r G p0 0), some (.int a1), some (.int a2), some (.int a3), some (.int r30)]) C dX7_perform_178 (n := 180) rfl (dk_nc_of rfl) (Nat.le_of_ble_eq_true rfl) rfl ?_
    refine dk_goto (t := 192) C dX7_perform_180 (by decide) ?_
    refine dk_sub (L0 := [some (dk_r G p0 0), none, none, none, some (.int r30)]) ⟨rfl, ⟨rfl, trivial⟩⟩ ?_
    exact ww_X7_perform_192 C hr hlk hp0  r30 s29 h
  have h := h.2 c31
  by_cases c34 : a1 = 8
  · have h := h.1 c34
    refine dk_tabIn (off := 179) (t := 183) C dX7_perform_4 (by rw [c34]; decide) (by rw [c34]; decide) (by rw [c34]; decide) (by decide) ?_
    refine dk_aload_n (i := 0) C dX7_perform_183 (n := 184) rfl rfl rfl ?_
    refine dk_callVi C [] (cc_X7_heroPrays C.D hp0 h) yy_X7_heroPrays dk_wm_X7_162 dk_sh0 (hp0 0 (by decide)) dX7_perform_184 (fun r33 s32 h => ?_) rfl rfl ⟨Nat.le_of_ble_eq_true rfl, Nat.le_of_ble_eq_true rfl⟩ rfl (Nat.le_of_ble_eq_true rfl) rfl (n := 187) rfl
    refine dk_istore (i := 4) (L' := [some (dk_r G p0 0), some (.int a1), some (.int a2), some (.int a3), some (.int r33)]) C dX7_perform_187 (n := 189) rfl (dk_nc_of rfl) (Nat.le_of_ble_eq_true rfl) rfl ?_
    refine dk_goto (t := 192) C dX7_perform_189 (by decide) ?_
    refine dk_sub (L0 := [some (dk_r G p0 0), none, none, none, some (.int r33)]) ⟨rfl, ⟨rfl, trivial⟩⟩ ?_
    exact ww_X7_perform_192 C hr hlk hp0  r33 s32 h
  have h := h.2 c34
  refine dk_tabOut (t := 192) C dX7_perform_4 (by have q0 := lv_neT c3 (show (0 : Int32).toInt = 0 from rfl); have q1 := lv_neT c4 (show (1 : Int32).toInt = 1 from rfl); have q2 := lv_neT c8 (show (2 : Int32).toInt = 2 from rfl); have q3 := lv_neT c14 (show (3 : Int32).toInt = 3 from rfl); have q4 := lv_neT c20 (show (4 : Int32).toInt = 4 from rfl); have q5 := lv_neT c23 (show (5 : Int32).toInt = 5 from rfl); have q6 := lv_neT c26 (show (6 : Int32).toInt = 6 from rfl); have q7 := lv_neT c31 (show (7 : Int32).toInt = 7 from rfl); have q8 := lv_neT c34 (show (8 : Int32).toInt = 8 from rfl); omega) (by decide) ?_
  refine dk_sub (L0 := [some (dk_r G p0 0), none, none, none, some (.int 0)]) ⟨rfl, ⟨rfl, trivial⟩⟩ ?_
  exact ww_X7_perform_192 C hr hlk hp0  0 s h
/-! X7_layHands -/
set_option maxRecDepth 20000 in
set_option maxHeartbeats 4000000 in
theorem cc_X7_layHands {G : dk_G} {l : Launch} {p0 : Nat} (hD : dk_D G) (hp0 : dk_WI G p0) {s : dk_S} {K : dk_S → Prop} (h : wf_X7_layHands p0 s K) : dk_M G l 3 yX7_layHands cX7_layHands 1 none [dk_r G p0 0] s (dk_kv K) := by
  refine dk_of hD (by decide) [some (dk_r G p0 0)] (fun q hq => hq) rfl (Nat.le_of_ble_eq_true rfl) (fun P e S0 m args bel meth c C hr hlk => ?_)
  unfold wf_X7_layHands at h
  refine dk_aload_n (i := 0) C dX7_layHands_0 (n := 1) rfl rfl rfl ?_
  refine gf_X7_35 C (hp0 0 (by decide)) dX7_layHands_1 (n := 4) rfl ?_
  refine dk_iconst (v := (-1)) C dX7_layHands_4 (n := 5) rfl (by decide) ?_
  refine dk_aload_n (i := 0) C dX7_layHands_5 (n := 6) rfl rfl rfl ?_
  refine dk_callVi C [.int (-1), dk_r G p0 23] (cc_X7_heroSpot C.D hp0 h) yy_X7_heroSpot dk_wm_X7_93 dk_sh0 (hp0 0 (by decide)) dX7_layHands_6 (fun r2 s1 h => ?_) rfl rfl ⟨Nat.le_of_ble_eq_true rfl, Nat.le_of_ble_eq_true rfl⟩ rfl (Nat.le_of_ble_eq_true rfl) rfl (n := 9) rfl
  refine dk_callVv C [] (cc_X6_moveAll C.D hp0 h) yy_X6_moveAll dk_wm_X7_251 dk_sh23 (hp0 23 (by decide)) dX7_layHands_9 (fun s3 h => ?_) rfl rfl ⟨Nat.le_of_ble_eq_true rfl, Nat.le_of_ble_eq_true rfl⟩ rfl (Nat.le_of_ble_eq_true rfl) rfl (n := 12) rfl
  exact dk_vret C hr hlk dX7_layHands_12 ⟨rfl, h⟩
/-! X7_isOpenTo -/
set_option maxRecDepth 20000 in
set_option maxHeartbeats 4000000 in
theorem cc_X7_isOpenTo {G : dk_G} {l : Launch} {p0 : Nat} {a1 : Int32} (hD : dk_D G) (hp0 : dk_WI G p0) {s : dk_S} {K : Int32 → dk_S → Prop} (h : wf_X7_isOpenTo p0 a1 s K) : dk_M G l 3 yX7_isOpenTo cX7_isOpenTo 2 (some .boolean) [dk_r G p0 0, .int a1] s (dk_ki K) := by
  refine dk_of hD (by decide) [some (dk_r G p0 0), some (.int a1)] (fun q hq => hq) rfl (Nat.le_of_ble_eq_true rfl) (fun P e S0 m args bel meth c C hr hlk => ?_)
  unfold wf_X7_isOpenTo at h
  refine dk_aload_n (i := 0) C dX7_isOpenTo_0 (n := 1) rfl rfl rfl ?_
  refine gf_X7_12 C (hp0 0 (by decide)) dX7_isOpenTo_1 (n := 4) rfl ?_
  refine dk_iload_n (i := 1) C dX7_isOpenTo_4 (n := 5) rfl rfl rfl ?_
  refine dk_callVi C [] (cc_X1_signAt C.D hp0 h) yy_X1_signAt dk_wm_X7_176 dk_sh1 (hp0 1 (by decide)) dX7_isOpenTo_5 (fun r2 s1 h => ?_) rfl rfl ⟨Nat.le_of_ble_eq_true rfl, Nat.le_of_ble_eq_true rfl⟩ rfl (Nat.le_of_ble_eq_true rfl) rfl (n := 8) rfl
  refine dk_callNi C [] (cc_X8_isFree C.D  h) yy_X8_isFree dk_wm_X7_194 dX7_isOpenTo_8 (fun r4 s3 h => ?_) rfl ⟨Nat.le_of_ble_eq_true rfl, Nat.le_of_ble_eq_true rfl⟩ rfl (Nat.le_of_ble_eq_true rfl) rfl (n := 11) rfl
  refine dk_if_eq (t := 30) C dX7_isOpenTo_11 (n := 14) rfl (by decide) (fun c8 => ?_) (fun c8 => ?_)
  · have h := h.1 c8
    refine dk_iconst (v := 0) C dX7_isOpenTo_30 (n := 31) rfl (by decide) ?_
    exact dk_iret C hr hlk dk_nz0 dX7_isOpenTo_31 ⟨_, rfl, h⟩
  · have h := h.2 c8
    refine dk_aload_n (i := 0) C dX7_isOpenTo_14 (n := 15) rfl rfl rfl ?_
    refine gf_X7_28 C (hp0 0 (by decide)) dX7_isOpenTo_15 (n := 18) rfl ?_
    refine dk_iload_n (i := 1) C dX7_isOpenTo_18 (n := 19) rfl rfl rfl ?_
    refine dk_callVi C [] (cc_X2_livingAt C.D hp0 h) yy_X2_livingAt dk_wm_X7_173 dk_sh13 (hp0 13 (by decide)) dX7_isOpenTo_19 (fun r6 s5 h => ?_) rfl rfl ⟨Nat.le_of_ble_eq_true rfl, Nat.le_of_ble_eq_true rfl⟩ rfl (Nat.le_of_ble_eq_true rfl) rfl (n := 22) rfl
    refine dk_iconst (v := (-1)) C dX7_isOpenTo_22 (n := 23) rfl (by decide) ?_
    refine dk_icmp_ne (t := 30) C dX7_isOpenTo_23 (n := 26) rfl (by decide) (fun c7 => ?_) (fun c7 => ?_)
    · have h := h.1 c7
      refine dk_iconst (v := 0) C dX7_isOpenTo_30 (n := 31) rfl (by decide) ?_
      exact dk_iret C hr hlk dk_nz0 dX7_isOpenTo_31 ⟨_, rfl, h⟩
    · have h := h.2 c7
      refine dk_iconst (v := 1) C dX7_isOpenTo_26 (n := 27) rfl (by decide) ?_
      refine dk_goto (t := 31) C dX7_isOpenTo_27 (by decide) ?_
      exact dk_iret C hr hlk dk_nz1 dX7_isOpenTo_31 ⟨_, rfl, h⟩
/-! X7_flee -/
set_option maxRecDepth 20000 in
set_option maxHeartbeats 4000000 in
theorem ww_X7_flee_17 {G : dk_G} {P : Program} {l : Launch} {e : Env} {S0 : State} {m : MethodId} {args : Array Value} {bel : List Frame} {meth : Method} {c : Code} {p0 : Nat} (C : dk_C G P (dk_rm 4) S0 m args c 0 0 cX7_flee 6 RX7) (hr : meth.sig.returnType = none) (hlk : meth.locks = false) (hp0 : dk_WI G p0) {K : dk_S → Prop} {E75 : Int32 → Int32 → dk_S → Prop} (hE75 : ∀ (x1 : Int32) (x3 : Int32) (s : dk_S), E75 x1 x3 s → dk_W G P l e (dk_rm 4) S0 m args bel meth c 0 0 (MQ bel (dk_Qc G (dk_kv K)) args S0 0 0 (dk_A G)) 75 [some (dk_r G p0 0), some (.int x1), none, some (.int x3), none, none] [] s) : ∀ (n : Nat) (x1 : Int32) (x2 : Int32) (x3 : Int32) (x4 : Int32) (s : dk_S), wf_X7_flee_17 p0 K E75 n x1 x2 x3 x4 s → dk_W G P l e (dk_rm 4) S0 m args bel meth c 0 0 (MQ bel (dk_Qc G (dk_kv K)) args S0 0 0 (dk_A G)) 17 [some (dk_r G p0 0), some (.int x1), some (.int x2), some (.int x3), some (.int x4), none] [] s := by
  intro n
  induction n with
  | zero => intro x1 x2 x3 x4 s h; exact False.elim h
  | succ n hB =>
    intro x1 x2 x3 x4 s h
    unfold wf_X7_flee_17 at h
    refine dk_iload C dX7_flee_17 (n := 19) rfl (i := 4) rfl ?_
    refine dk_iconst (v := 4) C dX7_flee_19 (n := 20) rfl (by decide) ?_
    refine dk_icmp_ge (t := 75) C dX7_flee_20 (n := 23) rfl (by decide) (fun c21 => ?_) (fun c21 => ?_)
    · have h := h.1 c21
      refine dk_sub (L0 := [some (dk_r G p0 0), some (.int x1), none, some (.int x3), none, none]) ⟨rfl, ⟨rfl, ⟨rfl, trivial⟩⟩⟩ ?_
      exact hE75 x1 x3 s h
    · have h := h.2 c21
      refine dk_iload_n (i := 2) C dX7_flee_23 (n := 24) rfl rfl rfl ?_
      refine dk_iload C dX7_flee_24 (n := 26) rfl (i := 4) rfl ?_
      refine dk_callNi C [] (cc_X8_beside C.D  h) yy_X8_beside dk_wm_X7_170 dX7_flee_26 (fun r9 s8 h => ?_) rfl ⟨Nat.le_of_ble_eq_true rfl, Nat.le_of_ble_eq_true rfl⟩ rfl (Nat.le_of_ble_eq_true rfl) rfl (n := 29) rfl
      refine dk_istore (i := 5) (L' := [some (dk_r G p0 0), some (.int x1), some (.int x2), some (.int x3), some (.int x4), some (.int r9)]) C dX7_flee_29 (n := 31) rfl (dk_nc_of rfl) (Nat.le_of_ble_eq_true rfl) rfl ?_
      refine dk_aload_n (i := 0) C dX7_flee_31 (n := 32) rfl rfl rfl ?_
      refine dk_iload C dX7_flee_32 (n := 34) rfl (i := 5) rfl ?_
      refine dk_callVi C [] (cc_X7_isOpenTo C.D hp0 h) yy_X7_isOpenTo dk_wm_X7_287 dk_sh0 (hp0 0 (by decide)) dX7_flee_34 (fun r11 s10 h => ?_) rfl rfl ⟨Nat.le_of_ble_eq_true rfl, Nat.le_of_ble_eq_true rfl⟩ rfl (Nat.le_of_ble_eq_true rfl) rfl (n := 37) rfl
      refine dk_if_eq (t := 69) C dX7_flee_37 (n := 40) rfl (by decide) (fun c20 => ?_) (fun c20 => ?_)
      · have h := h.1 c20
        obtain ⟨v12, ev12⟩ : ∃ y : Int32, y = x4 + 1 := ⟨_, rfl⟩
        have h := h v12 ev12
        refine dk_iinc (i := 4) (v := v12) (L' := [some (dk_r G p0 0), some (.int x1), some (.int x2), some (.int x3), some (.int v12), some (.int r9)]) C dX7_flee_69 (n := 72) rfl rfl (by rw [ev12]; rfl) (dk_nc_of rfl) (Nat.le_of_ble_eq_true rfl) rfl ?_
        refine dk_goto (t := 17) C dX7_flee_72 (by decide) ?_
        refine dk_sub (L0 := [some (dk_r G p0 0), some (.int x1), some (.int x2), some (.int x3), some (.int v12), none]) ⟨rfl, ⟨rfl, ⟨rfl, ⟨rfl, ⟨rfl, trivial⟩⟩⟩⟩⟩ ?_
        exact hB x1 x2 x3 v12 s10 h
      · have h := h.2 c20
        refine dk_aload_n (i := 0) C dX7_flee_40 (n := 41) rfl rfl rfl ?_
        refine gf_X7_12 C (hp0 0 (by decide)) dX7_flee_41 (n := 44) rfl ?_
        refine gf_X7_290 C (hp0 1 (by decide)) dX7_flee_44 (n := 47) rfl ?_
        refine dk_iload C dX7_flee_47 (n := 49) rfl (i := 5) rfl ?_
        refine dk_callNi C [] (cc_X8_at C.D dk_sh6 (hp0 6 (by decide)) h) yy_X8_at dk_wm_X7_82 dX7_flee_49 (fun r14 s13 h => ?_) rfl ⟨Nat.le_of_ble_eq_true rfl, Nat.le_of_ble_eq_true rfl⟩ rfl (Nat.le_of_ble_eq_true rfl) rfl (n := 52) rfl
        refine dk_aload_n (i := 0) C dX7_flee_52 (n := 53) rfl rfl rfl ?_
        refine gf_X7_12 C (hp0 0 (by decide)) dX7_flee_53 (n := 56) rfl ?_
        refine gf_X7_290 C (hp0 1 (by decide)) dX7_flee_56 (n := 59) rfl ?_
        refine dk_iload_n (i := 3) C dX7_flee_59 (n := 60) rfl rfl rfl ?_
        refine dk_callNi C [.int r14] (cc_X8_at C.D dk_sh6 (hp0 6 (by decide)) h) yy_X8_at dk_wm_X7_82 dX7_flee_60 (fun r16 s15 h => ?_) rfl ⟨Nat.le_of_ble_eq_true rfl, Nat.le_of_ble_eq_true rfl⟩ rfl (Nat.le_of_ble_eq_true rfl) rfl (n := 63) rfl
        refine dk_icmp_le (t := 69) C dX7_flee_63 (n := 66) rfl (by decide) (fun c19 => ?_) (fun c19 => ?_)
        · have h := h.1 c19
          obtain ⟨v17, ev17⟩ : ∃ y : Int32, y = x4 + 1 := ⟨_, rfl⟩
          have h := h v17 ev17
          refine dk_iinc (i := 4) (v := v17) (L' := [some (dk_r G p0 0), some (.int x1), some (.int x2), some (.int x3), some (.int v17), some (.int r9)]) C dX7_flee_69 (n := 72) rfl rfl (by rw [ev17]; rfl) (dk_nc_of rfl) (Nat.le_of_ble_eq_true rfl) rfl ?_
          refine dk_goto (t := 17) C dX7_flee_72 (by decide) ?_
          refine dk_sub (L0 := [some (dk_r G p0 0), some (.int x1), some (.int x2), some (.int x3), some (.int v17), none]) ⟨rfl, ⟨rfl, ⟨rfl, ⟨rfl, ⟨rfl, trivial⟩⟩⟩⟩⟩ ?_
          exact hB x1 x2 x3 v17 s15 h
        · have h := h.2 c19
          refine dk_iload C dX7_flee_66 (n := 68) rfl (i := 5) rfl ?_
          refine dk_istore_n (i := 3) (L' := [some (dk_r G p0 0), some (.int x1), some (.int x2), some (.int r9), some (.int x4), some (.int r9)]) C dX7_flee_68 (n := 69) rfl rfl (dk_nc_of rfl) (Nat.le_of_ble_eq_true rfl) rfl ?_
          obtain ⟨v18, ev18⟩ : ∃ y : Int32, y = x4 + 1 := ⟨_, rfl⟩
          have h := h v18 ev18
          refine dk_iinc (i := 4) (v := v18) (L' := [some (dk_r G p0 0), some (.int x1), some (.int x2), some (.int r9), some (.int v18), some (.int r9)]) C dX7_flee_69 (n := 72) rfl rfl (by rw [ev18]; rfl) (dk_nc_of rfl) (Nat.le_of_ble_eq_true rfl) rfl ?_
          refine dk_goto (t := 17) C dX7_flee_72 (by decide) ?_
          refine dk_sub (L0 := [some (dk_r G p0 0), some (.int x1), some (.int x2), some (.int r9), some (.int v18), none]) ⟨rfl, ⟨rfl, ⟨rfl, ⟨rfl, ⟨rfl, trivial⟩⟩⟩⟩⟩ ?_
          exact hB x1 x2 r9 v18 s15 h
set_option maxRecDepth 20000 in
set_option maxHeartbeats 4000000 in
theorem cc_X7_flee {G : dk_G} {l : Launch} {p0 : Nat} {a1 : Int32} (hD : dk_D G) (hp0 : dk_WI G p0) {s : dk_S} {K : dk_S → Prop} (h : wf_X7_flee p0 a1 s K) : dk_M G l 4 yX7_flee cX7_flee 6 none [dk_r G p0 0, .int a1] s (dk_kv K) := by
  refine dk_of hD (by decide) [some (dk_r G p0 0), some (.int a1), none, none, none, none] (fun q hq => hq) rfl (Nat.le_of_ble_eq_true rfl) (fun P e S0 m args bel meth c C hr hlk => ?_)
  unfold wf_X7_flee at h
  refine dk_aload_n (i := 0) C dX7_flee_0 (n := 1) rfl rfl rfl ?_
  refine gf_X7_28 C (hp0 0 (by decide)) dX7_flee_1 (n := 4) rfl ?_
  refine gf_X7_78 C (hp0 13 (by decide)) dX7_flee_4 (n := 7) rfl ?_
  refine dk_iload_n (i := 1) C dX7_flee_7 (n := 8) rfl rfl rfl ?_
  refine dk_callNi C [] (cc_X8_at C.D dk_sh14 (hp0 14 (by decide)) h) yy_X8_at dk_wm_X7_82 dX7_flee_8 (fun r2 s1 h => ?_) rfl ⟨Nat.le_of_ble_eq_true rfl, Nat.le_of_ble_eq_true rfl⟩ rfl (Nat.le_of_ble_eq_true rfl) rfl (n := 11) rfl
  refine dk_istore_n (i := 2) (L' := [some (dk_r G p0 0), some (.int a1), some (.int r2), none, none, none]) C dX7_flee_11 (n := 12) rfl rfl (dk_nc_of rfl) (Nat.le_of_ble_eq_true rfl) rfl ?_
  refine dk_iload_n (i := 2) C dX7_flee_12 (n := 13) rfl rfl rfl ?_
  refine dk_istore_n (i := 3) (L' := [some (dk_r G p0 0), some (.int a1), some (.int r2), some (.int r2), none, none]) C dX7_flee_13 (n := 14) rfl rfl (dk_nc_of rfl) (Nat.le_of_ble_eq_true rfl) rfl ?_
  refine dk_iconst (v := 0) C dX7_flee_14 (n := 15) rfl (by decide) ?_
  refine dk_istore (i := 4) (L' := [some (dk_r G p0 0), some (.int a1), some (.int r2), some (.int r2), some (.int 0), none]) C dX7_flee_15 (n := 17) rfl (dk_nc_of rfl) (Nat.le_of_ble_eq_true rfl) rfl ?_
  obtain ⟨nn7, h⟩ := h
  refine dk_sub (L0 := [some (dk_r G p0 0), some (.int a1), some (.int r2), some (.int r2), some (.int 0), none]) ⟨rfl, ⟨rfl, ⟨rfl, ⟨rfl, ⟨rfl, trivial⟩⟩⟩⟩⟩ ?_
  refine ww_X7_flee_17 C hr hlk hp0 (fun w3 w4 s5 h => ?_) nn7 a1 r2 r2 0 s1 h
  · refine dk_aload_n (i := 0) C dX7_flee_75 (n := 76) rfl rfl rfl ?_
    refine gf_X7_28 C (hp0 0 (by decide)) dX7_flee_76 (n := 79) rfl ?_
    refine gf_X7_78 C (hp0 13 (by decide)) dX7_flee_79 (n := 82) rfl ?_
    refine dk_iload_n (i := 1) C dX7_flee_82 (n := 83) rfl rfl rfl ?_
    refine dk_iload_n (i := 3) C dX7_flee_83 (n := 84) rfl rfl rfl ?_
    refine dk_callNv C [] (cc_X8_put C.D dk_sh14 (hp0 14 (by decide)) h) yy_X8_put dk_wm_X7_142 dX7_flee_84 (fun s6 h => ?_) rfl ⟨Nat.le_of_ble_eq_true rfl, Nat.le_of_ble_eq_true rfl⟩ rfl (Nat.le_of_ble_eq_true rfl) rfl (n := 87) rfl
    exact dk_vret C hr hlk dX7_flee_87 ⟨rfl, h⟩
/-! X8_areNeighbours -/
set_option maxRecDepth 20000 in
set_option maxHeartbeats 4000000 in
theorem cc_X8_areNeighbours {G : dk_G} {l : Launch} {a0 : Int32} {a1 : Int32} (hD : dk_D G)  {s : dk_S} {K : Int32 → dk_S → Prop} (h : wf_X8_areNeighbours a0 a1 s K) : dk_M G l 1 yX8_areNeighbours cX8_areNeighbours 4 (some .boolean) [.int a0, .int a1] s (dk_ki K) := by
  refine dk_of hD (by decide) [some (.int a0), some (.int a1), none, none] (fun q hq => hq) rfl (Nat.le_of_ble_eq_true rfl) (fun P e S0 m args bel meth c C hr hlk => ?_)
  unfold wf_X8_areNeighbours at h
  refine dk_iload_n (i := 0) C dX8_areNeighbours_0 (n := 1) rfl rfl rfl ?_
  refine dk_bipush (v := 12) C dX8_areNeighbours_1 (n := 3) rfl (by decide) ?_
  refine dk_idiv C dX8_areNeighbours_3 (n := 4) rfl (by decide) ?_
  refine dk_iload_n (i := 1) C dX8_areNeighbours_4 (n := 5) rfl rfl rfl ?_
  refine dk_bipush (v := 12) C dX8_areNeighbours_5 (n := 7) rfl (by decide) ?_
  refine dk_idiv C dX8_areNeighbours_7 (n := 8) rfl (by decide) ?_
  refine dk_isub C dX8_areNeighbours_8 (n := 9) rfl ?_
  refine dk_name (fun v1 ev1 => ?_)
  have h := h v1 ev1
  refine dk_istore_n (i := 2) (L' := [some (.int a0), some (.int a1), some (.int v1), none]) C dX8_areNeighbours_9 (n := 10) rfl rfl (dk_nc_of rfl) (Nat.le_of_ble_eq_true rfl) rfl ?_
  refine dk_iload_n (i := 0) C dX8_areNeighbours_10 (n := 11) rfl rfl rfl ?_
  refine dk_bipush (v := 12) C dX8_areNeighbours_11 (n := 13) rfl (by decide) ?_
  refine dk_irem C dX8_areNeighbours_13 (n := 14) rfl (by decide) ?_
  refine dk_iload_n (i := 1) C dX8_areNeighbours_14 (n := 15) rfl rfl rfl ?_
  refine dk_bipush (v := 12) C dX8_areNeighbours_15 (n := 17) rfl (by decide) ?_
  refine dk_irem C dX8_areNeighbours_17 (n := 18) rfl (by decide) ?_
  refine dk_isub C dX8_areNeighbours_18 (n := 19) rfl ?_
  refine dk_name (fun v2 ev2 => ?_)
  have h := h v2 ev2
  refine dk_istore_n (i := 3) (L' := [some (.int a0), some (.int a1), some (.int v1), some (.int v2)]) C dX8_areNeighbours_19 (n := 20) rfl rfl (dk_nc_of rfl) (Nat.le_of_ble_eq_true rfl) rfl ?_
  refine dk_iload_n (i := 2) C dX8_areNeighbours_20 (n := 21) rfl rfl rfl ?_
  refine dk_iload_n (i := 2) C dX8_areNeighbours_21 (n := 22) rfl rfl rfl ?_
  refine dk_imul C dX8_areNeighbours_22 (n := 23) rfl ?_
  refine dk_iload_n (i := 3) C dX8_areNeighbours_23 (n := 24) rfl rfl rfl ?_
  refine dk_iload_n (i := 3) C dX8_areNeighbours_24 (n := 25) rfl rfl rfl ?_
  refine dk_imul C dX8_areNeighbours_25 (n := 26) rfl ?_
  refine dk_iadd C dX8_areNeighbours_26 (n := 27) rfl ?_
  refine dk_iconst (v := 1) C dX8_areNeighbours_27 (n := 28) rfl (by decide) ?_
  refine dk_icmp_ne (t := 35) C dX8_areNeighbours_28 (n := 31) rfl (by decide) (fun c3 => ?_) (fun c3 => ?_)
  · have h := h.1 c3
    refine dk_iconst (v := 0) C dX8_areNeighbours_35 (n := 36) rfl (by decide) ?_
    exact dk_iret C hr hlk dk_nz0 dX8_areNeighbours_36 ⟨_, rfl, h⟩
  · have h := h.2 c3
    refine dk_iconst (v := 1) C dX8_areNeighbours_31 (n := 32) rfl (by decide) ?_
    refine dk_goto (t := 36) C dX8_areNeighbours_32 (by decide) ?_
    exact dk_iret C hr hlk dk_nz1 dX8_areNeighbours_36 ⟨_, rfl, h⟩
/-! X7_comeNearer -/
set_option maxRecDepth 20000 in
set_option maxHeartbeats 4000000 in
theorem ww_X7_comeNearer_104 {G : dk_G} {P : Program} {l : Launch} {e : Env} {S0 : State} {m : MethodId} {args : Array Value} {bel : List Frame} {meth : Method} {c : Code} {p0 : Nat} (C : dk_C G P (dk_rm 4) S0 m args c 0 0 cX7_comeNearer 8 RX7) (hr : meth.sig.returnType = none) (hlk : meth.locks = false) (hp0 : dk_WI G p0) {K : dk_S → Prop} {B : Int32 → Int32 → Int32 → Int32 → dk_S → Prop} {E110 : Int32 → Int32 → dk_S → Prop} (hB : ∀ (x1 : Int32) (x2 : Int32) (x3 : Int32) (x4 : Int32) (s : dk_S), B x1 x2 x3 x4 s → dk_W G P l e (dk_rm 4) S0 m args bel meth c 0 0 (MQ bel (dk_Qc G (dk_kv K)) args S0 0 0 (dk_A G)) 17 [some (dk_r G p0 0), some (.int x1), some (.int x2), some (.int x3), some (.int x4), none, none, none] [] s) (hE110 : ∀ (x1 : Int32) (x3 : Int32) (s : dk_S), E110 x1 x3 s → dk_W G P l e (dk_rm 4) S0 m args bel meth c 0 0 (MQ bel (dk_Qc G (dk_kv K)) args S0 0 0 (dk_A G)) 110 [some (dk_r G p0 0), some (.int x1), none, some (.int x3), none, none, none, none] [] s) : ∀ (x1 : Int32) (x2 : Int32) (x3 : Int32) (x4 : Int32) (s : dk_S), wf_X7_comeNearer_104 p0 K B E110 x1 x2 x3 x4 s → dk_W G P l e (dk_rm 4) S0 m args bel meth c 0 0 (MQ bel (dk_Qc G (dk_kv K)) args S0 0 0 (dk_A G)) 104 [some (dk_r G p0 0), some (.int x1), some (.int x2), some (.int x3), some (.int x4), none, none, none] [] s := by
  intro x1 x2 x3 x4 s h
  unfold wf_X7_comeNearer_104 at h
  obtain ⟨v28, ev28⟩ : ∃ y : Int32, y = x4 + 1 := ⟨_, rfl⟩
  have h := h v28 ev28
  refine dk_iinc (i := 4) (v := v28) (L' := [some (dk_r G p0 0), some (.int x1), some (.int x2), some (.int x3), some (.int v28), none, none, none]) C dX7_comeNearer_104 (n := 107) rfl rfl (by rw [ev28]; rfl) (dk_nc_of rfl) (Nat.le_of_ble_eq_true rfl) rfl ?_
  refine dk_goto (t := 17) C dX7_comeNearer_107 (by decide) ?_
  refine dk_sub (L0 := [some (dk_r G p0 0), some (.int x1), some (.int x2), some (.int x3), some (.int v28), none, none, none]) ⟨rfl, ⟨rfl, ⟨rfl, ⟨rfl, ⟨rfl, trivial⟩⟩⟩⟩⟩ ?_
  exact hB x1 x2 x3 v28 s h
set_option maxRecDepth 20000 in
set_option maxHeartbeats 4000000 in
theorem ww_X7_comeNearer_59 {G : dk_G} {P : Program} {l : Launch} {e : Env} {S0 : State} {m : MethodId} {args : Array Value} {bel : List Frame} {meth : Method} {c : Code} {p0 : Nat} (C : dk_C G P (dk_rm 4) S0 m args c 0 0 cX7_comeNearer 8 RX7) (hr : meth.sig.returnType = none) (hlk : meth.locks = false) (hp0 : dk_WI G p0) {K : dk_S → Prop} {B : Int32 → Int32 → Int32 → Int32 → dk_S → Prop} {E110 : Int32 → Int32 → dk_S → Prop} (hB : ∀ (x1 : Int32) (x2 : Int32) (x3 : Int32) (x4 : Int32) (s : dk_S), B x1 x2 x3 x4 s → dk_W G P l e (dk_rm 4) S0 m args bel meth c 0 0 (MQ bel (dk_Qc G (dk_kv K)) args S0 0 0 (dk_A G)) 17 [some (dk_r G p0 0), some (.int x1), some (.int x2), some (.int x3), some (.int x4), none, none, none] [] s) (hE110 : ∀ (x1 : Int32) (x3 : Int32) (s : dk_S), E110 x1 x3 s → dk_W G P l e (dk_rm 4) S0 m args bel meth c 0 0 (MQ bel (dk_Qc G (dk_kv K)) args S0 0 0 (dk_A G)) 110 [some (dk_r G p0 0), some (.int x1), none, some (.int x3), none, none, none, none] [] s) : ∀ (x1 : Int32) (x2 : Int32) (x3 : Int32) (x4 : Int32) (x5 : Int32) (y0 : Int32) (s : dk_S), wf_X7_comeNearer_59 p0 K B E110 x1 x2 x3 x4 x5 y0 s → dk_W G P l e (dk_rm 4) S0 m args bel meth c 0 0 (MQ bel (dk_Qc G (dk_kv K)) args S0 0 0 (dk_A G)) 59 [some (dk_r G p0 0), some (.int x1), some (.int x2), some (.int x3), some (.int x4), some (.int x5), none, none] [.int y0] s := by
  intro x1 x2 x3 x4 x5 y0 s h
  unfold wf_X7_comeNearer_59 at h
  refine dk_istore (i := 6) (L' := [some (dk_r G p0 0), some (.int x1), some (.int x2), some (.int x3), some (.int x4), some (.int x5), some (.int y0), none]) C dX7_comeNearer_59 (n := 61) rfl (dk_nc_of rfl) (Nat.le_of_ble_eq_true rfl) rfl ?_
  refine dk_aload_n (i := 0) C dX7_comeNearer_61 (n := 62) rfl rfl rfl ?_
  refine gf_X7_12 C (hp0 0 (by decide)) dX7_comeNearer_62 (n := 65) rfl ?_
  refine gf_X7_290 C (hp0 1 (by decide)) dX7_comeNearer_65 (n := 68) rfl ?_
  refine dk_iload C dX7_comeNearer_68 (n := 70) rfl (i := 5) rfl ?_
  refine dk_callNi C [] (cc_X8_at C.D dk_sh6 (hp0 6 (by decide)) h) yy_X8_at dk_wm_X7_82 dX7_comeNearer_70 (fun r22 s21 h => ?_) rfl ⟨Nat.le_of_ble_eq_true rfl, Nat.le_of_ble_eq_true rfl⟩ rfl (Nat.le_of_ble_eq_true rfl) rfl (n := 73) rfl
  refine dk_istore (i := 7) (L' := [some (dk_r G p0 0), some (.int x1), some (.int x2), some (.int x3), some (.int x4), some (.int x5), some (.int y0), some (.int r22)]) C dX7_comeNearer_73 (n := 75) rfl (dk_nc_of rfl) (Nat.le_of_ble_eq_true rfl) rfl ?_
  refine dk_iload C dX7_comeNearer_75 (n := 77) rfl (i := 6) rfl ?_
  refine dk_if_eq (t := 104) C dX7_comeNearer_77 (n := 80) rfl (by decide) (fun c27 => ?_) (fun c27 => ?_)
  · have h := h.1 c27
    refine dk_sub (L0 := [some (dk_r G p0 0), some (.int x1), some (.int x2), some (.int x3), some (.int x4), none, none, none]) ⟨rfl, ⟨rfl, ⟨rfl, ⟨rfl, ⟨rfl, trivial⟩⟩⟩⟩⟩ ?_
    exact ww_X7_comeNearer_104 C hr hlk hp0 hB hE110 x1 x2 x3 x4 s21 h
  · have h := h.2 c27
    refine dk_iload C dX7_comeNearer_80 (n := 82) rfl (i := 7) rfl ?_
    refine dk_if_lt (t := 104) C dX7_comeNearer_82 (n := 85) rfl (by decide) (fun c26 => ?_) (fun c26 => ?_)
    · have h := h.1 c26
      refine dk_sub (L0 := [some (dk_r G p0 0), some (.int x1), some (.int x2), some (.int x3), some (.int x4), none, none, none]) ⟨rfl, ⟨rfl, ⟨rfl, ⟨rfl, ⟨rfl, trivial⟩⟩⟩⟩⟩ ?_
      exact ww_X7_comeNearer_104 C hr hlk hp0 hB hE110 x1 x2 x3 x4 s21 h
    · have h := h.2 c26
      refine dk_iload C dX7_comeNearer_85 (n := 87) rfl (i := 7) rfl ?_
      refine dk_aload_n (i := 0) C dX7_comeNearer_87 (n := 88) rfl rfl rfl ?_
      refine gf_X7_12 C (hp0 0 (by decide)) dX7_comeNearer_88 (n := 91) rfl ?_
      refine gf_X7_290 C (hp0 1 (by decide)) dX7_comeNearer_91 (n := 94) rfl ?_
      refine dk_iload_n (i := 3) C dX7_comeNearer_94 (n := 95) rfl rfl rfl ?_
      refine dk_callNi C [.int r22] (cc_X8_at C.D dk_sh6 (hp0 6 (by decide)) h) yy_X8_at dk_wm_X7_82 dX7_comeNearer_95 (fun r24 s23 h => ?_) rfl ⟨Nat.le_of_ble_eq_true rfl, Nat.le_of_ble_eq_true rfl⟩ rfl (Nat.le_of_ble_eq_true rfl) rfl (n := 98) rfl
      refine dk_icmp_ge (t := 104) C dX7_comeNearer_98 (n := 101) rfl (by decide) (fun c25 => ?_) (fun c25 => ?_)
      · have h := h.1 c25
        refine dk_sub (L0 := [some (dk_r G p0 0), some (.int x1), some (.int x2), some (.int x3), some (.int x4), none, none, none]) ⟨rfl, ⟨rfl, ⟨rfl, ⟨rfl, ⟨rfl, trivial⟩⟩⟩⟩⟩ ?_
        exact ww_X7_comeNearer_104 C hr hlk hp0 hB hE110 x1 x2 x3 x4 s23 h
      · have h := h.2 c25
        refine dk_iload C dX7_comeNearer_101 (n := 103) rfl (i := 5) rfl ?_
        refine dk_istore_n (i := 3) (L' := [some (dk_r G p0 0), some (.int x1), some (.int x2), some (.int x5), some (.int x4), some (.int x5), some (.int y0), some (.int r22)]) C dX7_comeNearer_103 (n := 104) rfl rfl (dk_nc_of rfl) (Nat.le_of_ble_eq_true rfl) rfl ?_
        refine dk_sub (L0 := [some (dk_r G p0 0), some (.int x1), some (.int x2), some (.int x5), some (.int x4), none, none, none]) ⟨rfl, ⟨rfl, ⟨rfl, ⟨rfl, ⟨rfl, trivial⟩⟩⟩⟩⟩ ?_
        exact ww_X7_comeNearer_104 C hr hlk hp0 hB hE110 x1 x2 x5 x4 s23 h
set_option maxRecDepth 20000 in
set_option maxHeartbeats 4000000 in
theorem ww_X7_comeNearer_17 {G : dk_G} {P : Program} {l : Launch} {e : Env} {S0 : State} {m : MethodId} {args : Array Value} {bel : List Frame} {meth : Method} {c : Code} {p0 : Nat} (C : dk_C G P (dk_rm 4) S0 m args c 0 0 cX7_comeNearer 8 RX7) (hr : meth.sig.returnType = none) (hlk : meth.locks = false) (hp0 : dk_WI G p0) {K : dk_S → Prop} {E110 : Int32 → Int32 → dk_S → Prop} (hE110 : ∀ (x1 : Int32) (x3 : Int32) (s : dk_S), E110 x1 x3 s → dk_W G P l e (dk_rm 4) S0 m args bel meth c 0 0 (MQ bel (dk_Qc G (dk_kv K)) args S0 0 0 (dk_A G)) 110 [some (dk_r G p0 0), some (.int x1), none, some (.int x3), none, none, none, none] [] s) : ∀ (n : Nat) (x1 : Int32) (x2 : Int32) (x3 : Int32) (x4 : Int32) (s : dk_S), wf_X7_comeNearer_17 p0 K E110 n x1 x2 x3 x4 s → dk_W G P l e (dk_rm 4) S0 m args bel meth c 0 0 (MQ bel (dk_Qc G (dk_kv K)) args S0 0 0 (dk_A G)) 17 [some (dk_r G p0 0), some (.int x1), some (.int x2), some (.int x3), some (.int x4), none, none, none] [] s := by
  intro n
  induction n with
  | zero => intro x1 x2 x3 x4 s h; exact False.elim h
  | succ n hB =>
    intro x1 x2 x3 x4 s h
    unfold wf_X7_comeNearer_17 at h
    refine dk_iload C dX7_comeNearer_17 (n := 19) rfl (i := 4) rfl ?_
    refine dk_iconst (v := 4) C dX7_comeNearer_19 (n := 20) rfl (by decide) ?_
    refine dk_icmp_ge (t := 110) C dX7_comeNearer_20 (n := 23) rfl (by decide) (fun c20 => ?_) (fun c20 => ?_)
    · have h := h.1 c20
      refine dk_sub (L0 := [some (dk_r G p0 0), some (.int x1), none, some (.int x3), none, none, none, none]) ⟨rfl, ⟨rfl, ⟨rfl, trivial⟩⟩⟩ ?_
      exact hE110 x1 x3 s h
    · have h := h.2 c20
      refine dk_iload_n (i := 2) C dX7_comeNearer_23 (n := 24) rfl rfl rfl ?_
      refine dk_iload C dX7_comeNearer_24 (n := 26) rfl (i := 4) rfl ?_
      refine dk_callNi C [] (cc_X8_beside C.D  h) yy_X8_beside dk_wm_X7_170 dX7_comeNearer_26 (fun r13 s12 h => ?_) rfl ⟨Nat.le_of_ble_eq_true rfl, Nat.le_of_ble_eq_true rfl⟩ rfl (Nat.le_of_ble_eq_true rfl) rfl (n := 29) rfl
      refine dk_istore (i := 5) (L' := [some (dk_r G p0 0), some (.int x1), some (.int x2), some (.int x3), some (.int x4), some (.int r13), none, none]) C dX7_comeNearer_29 (n := 31) rfl (dk_nc_of rfl) (Nat.le_of_ble_eq_true rfl) rfl ?_
      refine dk_aload_n (i := 0) C dX7_comeNearer_31 (n := 32) rfl rfl rfl ?_
      refine dk_iload C dX7_comeNearer_32 (n := 34) rfl (i := 5) rfl ?_
      refine dk_callVi C [] (cc_X7_isOpenTo C.D hp0 h) yy_X7_isOpenTo dk_wm_X7_287 dk_sh0 (hp0 0 (by decide)) dX7_comeNearer_34 (fun r15 s14 h => ?_) rfl rfl ⟨Nat.le_of_ble_eq_true rfl, Nat.le_of_ble_eq_true rfl⟩ rfl (Nat.le_of_ble_eq_true rfl) rfl (n := 37) rfl
      refine dk_if_ne (t := 54) C dX7_comeNearer_37 (n := 40) rfl (by decide) (fun c19 => ?_) (fun c19 => ?_)
      · have h := h.1 c19
        refine dk_iconst (v := 1) C dX7_comeNearer_54 (n := 55) rfl (by decide) ?_
        refine dk_goto (t := 59) C dX7_comeNearer_55 (by decide) ?_
        refine dk_sub (L0 := [some (dk_r G p0 0), some (.int x1), some (.int x2), some (.int x3), some (.int x4), some (.int r13), none, none]) ⟨rfl, ⟨rfl, ⟨rfl, ⟨rfl, ⟨rfl, ⟨rfl, trivial⟩⟩⟩⟩⟩⟩ ?_
        exact ww_X7_comeNearer_59 C hr hlk hp0 hB hE110 x1 x2 x3 x4 r13 1 s14 h
      · have h := h.2 c19
        refine dk_aload_n (i := 0) C dX7_comeNearer_40 (n := 41) rfl rfl rfl ?_
        refine gf_X7_12 C (hp0 0 (by decide)) dX7_comeNearer_41 (n := 44) rfl ?_
        refine dk_iload C dX7_comeNearer_44 (n := 46) rfl (i := 5) rfl ?_
        refine dk_callVi C [] (cc_X1_signAt C.D hp0 h) yy_X1_signAt dk_wm_X7_176 dk_sh1 (hp0 1 (by decide)) dX7_comeNearer_46 (fun r17 s16 h => ?_) rfl rfl ⟨Nat.le_of_ble_eq_true rfl, Nat.le_of_ble_eq_true rfl⟩ rfl (Nat.le_of_ble_eq_true rfl) rfl (n := 49) rfl
        refine dk_bipush (v := 43) C dX7_comeNearer_49 (n := 51) rfl (by decide) ?_
        refine dk_icmp_ne (t := 58) C dX7_comeNearer_51 (n := 54) rfl (by decide) (fun c18 => ?_) (fun c18 => ?_)
        · have h := h.1 c18
          refine dk_iconst (v := 0) C dX7_comeNearer_58 (n := 59) rfl (by decide) ?_
          refine dk_sub (L0 := [some (dk_r G p0 0), some (.int x1), some (.int x2), some (.int x3), some (.int x4), some (.int r13), none, none]) ⟨rfl, ⟨rfl, ⟨rfl, ⟨rfl, ⟨rfl, ⟨rfl, trivial⟩⟩⟩⟩⟩⟩ ?_
          exact ww_X7_comeNearer_59 C hr hlk hp0 hB hE110 x1 x2 x3 x4 r13 0 s16 h
        · have h := h.2 c18
          refine dk_iconst (v := 1) C dX7_comeNearer_54 (n := 55) rfl (by decide) ?_
          refine dk_goto (t := 59) C dX7_comeNearer_55 (by decide) ?_
          refine dk_sub (L0 := [some (dk_r G p0 0), some (.int x1), some (.int x2), some (.int x3), some (.int x4), some (.int r13), none, none]) ⟨rfl, ⟨rfl, ⟨rfl, ⟨rfl, ⟨rfl, ⟨rfl, trivial⟩⟩⟩⟩⟩⟩ ?_
          exact ww_X7_comeNearer_59 C hr hlk hp0 hB hE110 x1 x2 x3 x4 r13 1 s16 h
set_option maxRecDepth 20000 in
set_option maxHeartbeats 4000000 in
theorem cc_X7_comeNearer {G : dk_G} {l : Launch} {p0 : Nat} {a1 : Int32} (hD : dk_D G) (hp0 : dk_WI G p0) {s : dk_S} {K : dk_S → Prop} (h : wf_X7_comeNearer p0 a1 s K) : dk_M G l 4 yX7_comeNearer cX7_comeNearer 8 none [dk_r G p0 0, .int a1] s (dk_kv K) := by
  refine dk_of hD (by decide) [some (dk_r G p0 0), some (.int a1), none, none, none, none, none, none] (fun q hq => hq) rfl (Nat.le_of_ble_eq_true rfl) (fun P e S0 m args bel meth c C hr hlk => ?_)
  unfold wf_X7_comeNearer at h
  refine dk_aload_n (i := 0) C dX7_comeNearer_0 (n := 1) rfl rfl rfl ?_
  refine gf_X7_28 C (hp0 0 (by decide)) dX7_comeNearer_1 (n := 4) rfl ?_
  refine gf_X7_78 C (hp0 13 (by decide)) dX7_comeNearer_4 (n := 7) rfl ?_
  refine dk_iload_n (i := 1) C dX7_comeNearer_7 (n := 8) rfl rfl rfl ?_
  refine dk_callNi C [] (cc_X8_at C.D dk_sh14 (hp0 14 (by decide)) h) yy_X8_at dk_wm_X7_82 dX7_comeNearer_8 (fun r2 s1 h => ?_) rfl ⟨Nat.le_of_ble_eq_true rfl, Nat.le_of_ble_eq_true rfl⟩ rfl (Nat.le_of_ble_eq_true rfl) rfl (n := 11) rfl
  refine dk_istore_n (i := 2) (L' := [some (dk_r G p0 0), some (.int a1), some (.int r2), none, none, none, none, none]) C dX7_comeNearer_11 (n := 12) rfl rfl (dk_nc_of rfl) (Nat.le_of_ble_eq_true rfl) rfl ?_
  refine dk_iload_n (i := 2) C dX7_comeNearer_12 (n := 13) rfl rfl rfl ?_
  refine dk_istore_n (i := 3) (L' := [some (dk_r G p0 0), some (.int a1), some (.int r2), some (.int r2), none, none, none, none]) C dX7_comeNearer_13 (n := 14) rfl rfl (dk_nc_of rfl) (Nat.le_of_ble_eq_true rfl) rfl ?_
  refine dk_iconst (v := 0) C dX7_comeNearer_14 (n := 15) rfl (by decide) ?_
  refine dk_istore (i := 4) (L' := [some (dk_r G p0 0), some (.int a1), some (.int r2), some (.int r2), some (.int 0), none, none, none]) C dX7_comeNearer_15 (n := 17) rfl (dk_nc_of rfl) (Nat.le_of_ble_eq_true rfl) rfl ?_
  obtain ⟨nn11, h⟩ := h
  refine dk_sub (L0 := [some (dk_r G p0 0), some (.int a1), some (.int r2), some (.int r2), some (.int 0), none, none, none]) ⟨rfl, ⟨rfl, ⟨rfl, ⟨rfl, ⟨rfl, trivial⟩⟩⟩⟩⟩ ?_
  refine ww_X7_comeNearer_17 C hr hlk hp0 (fun w3 w4 s5 h => ?_) nn11 a1 r2 r2 0 s1 h
  · refine dk_aload_n (i := 0) C dX7_comeNearer_110 (n := 111) rfl rfl rfl ?_
    refine gf_X7_12 C (hp0 0 (by decide)) dX7_comeNearer_111 (n := 114) rfl ?_
    refine dk_iload_n (i := 3) C dX7_comeNearer_114 (n := 115) rfl rfl rfl ?_
    refine dk_callVi C [] (cc_X1_signAt C.D hp0 h) yy_X1_signAt dk_wm_X7_176 dk_sh1 (hp0 1 (by decide)) dX7_comeNearer_115 (fun r7 s6 h => ?_) rfl rfl ⟨Nat.le_of_ble_eq_true rfl, Nat.le_of_ble_eq_true rfl⟩ rfl (Nat.le_of_ble_eq_true rfl) rfl (n := 118) rfl
    refine dk_bipush (v := 43) C dX7_comeNearer_118 (n := 120) rfl (by decide) ?_
    refine dk_icmp_ne (t := 136) C dX7_comeNearer_120 (n := 123) rfl (by decide) (fun c10 => ?_) (fun c10 => ?_)
    · have h := h.1 c10
      refine dk_aload_n (i := 0) C dX7_comeNearer_136 (n := 137) rfl rfl rfl ?_
      refine gf_X7_28 C (hp0 0 (by decide)) dX7_comeNearer_137 (n := 140) rfl ?_
      refine gf_X7_78 C (hp0 13 (by decide)) dX7_comeNearer_140 (n := 143) rfl ?_
      refine dk_iload_n (i := 1) C dX7_comeNearer_143 (n := 144) rfl rfl rfl ?_
      refine dk_iload_n (i := 3) C dX7_comeNearer_144 (n := 145) rfl rfl rfl ?_
      refine dk_callNv C [] (cc_X8_put C.D dk_sh14 (hp0 14 (by decide)) h) yy_X8_put dk_wm_X7_142 dX7_comeNearer_145 (fun s8 h => ?_) rfl ⟨Nat.le_of_ble_eq_true rfl, Nat.le_of_ble_eq_true rfl⟩ rfl (Nat.le_of_ble_eq_true rfl) rfl (n := 148) rfl
      exact dk_vret C hr hlk dX7_comeNearer_148 ⟨rfl, h⟩
    · have h := h.2 c10
      refine dk_aload_n (i := 0) C dX7_comeNearer_123 (n := 124) rfl rfl rfl ?_
      refine gf_X7_12 C (hp0 0 (by decide)) dX7_comeNearer_124 (n := 127) rfl ?_
      refine dk_iload_n (i := 3) C dX7_comeNearer_127 (n := 128) rfl rfl rfl ?_
      refine dk_bipush (v := 47) C dX7_comeNearer_128 (n := 130) rfl (by decide) ?_
      refine dk_callVv C [] (cc_X1_change C.D hp0 h) yy_X1_change dk_wm_X7_190 dk_sh1 (hp0 1 (by decide)) dX7_comeNearer_130 (fun s9 h => ?_) rfl rfl ⟨Nat.le_of_ble_eq_true rfl, Nat.le_of_ble_eq_true rfl⟩ rfl (Nat.le_of_ble_eq_true rfl) rfl (n := 133) rfl
      refine dk_goto (t := 148) C dX7_comeNearer_133 (by decide) ?_
      exact dk_vret C hr hlk dX7_comeNearer_148 ⟨rfl, h⟩
/-! X7_moveBeast -/
set_option maxRecDepth 20000 in
set_option maxHeartbeats 4000000 in
theorem ww_X7_moveBeast_132 {G : dk_G} {P : Program} {l : Launch} {e : Env} {S0 : State} {m : MethodId} {args : Array Value} {bel : List Frame} {meth : Method} {c : Code} {p0 : Nat} (C : dk_C G P (dk_rm 5) S0 m args c 0 0 cX7_moveBeast 6 RX7) (hr : meth.sig.returnType = none) (hlk : meth.locks = false) (hp0 : dk_WI G p0) {K : dk_S → Prop}  : ∀ (x1 : Int32) (x2 : Int32) (x4 : Int32) (s : dk_S), wf_X7_moveBeast_132 p0 K x1 x2 x4 s → dk_W G P l e (dk_rm 5) S0 m args bel meth c 0 0 (MQ bel (dk_Qc G (dk_kv K)) args S0 0 0 (dk_A G)) 132 [some (dk_r G p0 0), some (.int x1), some (.int x2), none, some (.int x4), none] [] s := by
  intro x1 x2 x4 s h
  unfold wf_X7_moveBeast_132 at h
  refine dk_aload_n (i := 0) C dX7_moveBeast_132 (n := 133) rfl rfl rfl ?_
  refine gf_X7_28 C (hp0 0 (by decide)) dX7_moveBeast_133 (n := 136) rfl ?_
  refine gf_X7_78 C (hp0 13 (by decide)) dX7_moveBeast_136 (n := 139) rfl ?_
  refine dk_iload_n (i := 1) C dX7_moveBeast_139 (n := 140) rfl rfl rfl ?_
  refine dk_callNi C [] (cc_X8_at C.D dk_sh14 (hp0 14 (by decide)) h) yy_X8_at dk_wm_X7_82 dX7_moveBeast_140 (fun r27 s26 h => ?_) rfl ⟨Nat.le_of_ble_eq_true rfl, Nat.le_of_ble_eq_true rfl⟩ rfl (Nat.le_of_ble_eq_true rfl) rfl (n := 143) rfl
  refine dk_istore (i := 5) (L' := [some (dk_r G p0 0), some (.int x1), some (.int x2), none, some (.int x4), some (.int r27)]) C dX7_moveBeast_143 (n := 145) rfl (dk_nc_of rfl) (Nat.le_of_ble_eq_true rfl) rfl ?_
  refine dk_iload C dX7_moveBeast_145 (n := 147) rfl (i := 5) rfl ?_
  refine dk_iload C dX7_moveBeast_147 (n := 149) rfl (i := 4) rfl ?_
  refine dk_icmp_ne (t := 177) C dX7_moveBeast_149 (n := 152) rfl (by decide) (fun c32 => ?_) (fun c32 => ?_)
  · have h := h.1 c32
    exact dk_vret C hr hlk dX7_moveBeast_177 ⟨rfl, h⟩
  · have h := h.2 c32
    refine dk_aload_n (i := 0) C dX7_moveBeast_152 (n := 153) rfl rfl rfl ?_
    refine gf_X7_12 C (hp0 0 (by decide)) dX7_moveBeast_153 (n := 156) rfl ?_
    refine dk_iload C dX7_moveBeast_156 (n := 158) rfl (i := 5) rfl ?_
    refine dk_iload_n (i := 2) C dX7_moveBeast_158 (n := 159) rfl rfl rfl ?_
    refine dk_callVi C [] (cc_X1_seeEachOther C.D hp0 h) yy_X1_seeEachOther dk_wm_X7_97 dk_sh1 (hp0 1 (by decide)) dX7_moveBeast_159 (fun r29 s28 h => ?_) rfl rfl ⟨Nat.le_of_ble_eq_true rfl, Nat.le_of_ble_eq_true rfl⟩ rfl (Nat.le_of_ble_eq_true rfl) rfl (n := 162) rfl
    refine dk_if_ne (t := 177) C dX7_moveBeast_162 (n := 165) rfl (by decide) (fun c31 => ?_) (fun c31 => ?_)
    · have h := h.1 c31
      exact dk_vret C hr hlk dX7_moveBeast_177 ⟨rfl, h⟩
    · have h := h.2 c31
      refine dk_aload_n (i := 0) C dX7_moveBeast_165 (n := 166) rfl rfl rfl ?_
      refine gf_X7_28 C (hp0 0 (by decide)) dX7_moveBeast_166 (n := 169) rfl ?_
      refine gf_X7_271 C (hp0 13 (by decide)) dX7_moveBeast_169 (n := 172) rfl ?_
      refine dk_iload_n (i := 1) C dX7_moveBeast_172 (n := 173) rfl rfl rfl ?_
      refine dk_iconst (v := (-1)) C dX7_moveBeast_173 (n := 174) rfl (by decide) ?_
      refine dk_callNv C [] (cc_X8_put C.D dk_sh22 (hp0 22 (by decide)) h) yy_X8_put dk_wm_X7_142 dX7_moveBeast_174 (fun s30 h => ?_) rfl ⟨Nat.le_of_ble_eq_true rfl, Nat.le_of_ble_eq_true rfl⟩ rfl (Nat.le_of_ble_eq_true rfl) rfl (n := 177) rfl
      exact dk_vret C hr hlk dX7_moveBeast_177 ⟨rfl, h⟩
set_option maxRecDepth 20000 in
set_option maxHeartbeats 4000000 in
theorem ww_X7_moveBeast_41 {G : dk_G} {P : Program} {l : Launch} {e : Env} {S0 : State} {m : MethodId} {args : Array Value} {bel : List Frame} {meth : Method} {c : Code} {p0 : Nat} (C : dk_C G P (dk_rm 5) S0 m args c 0 0 cX7_moveBeast 6 RX7) (hr : meth.sig.returnType = none) (hlk : meth.locks = false) (hp0 : dk_WI G p0) {K : dk_S → Prop}  : ∀ (x1 : Int32) (x2 : Int32) (x3 : Int32) (s : dk_S), wf_X7_moveBeast_41 p0 K x1 x2 x3 s → dk_W G P l e (dk_rm 5) S0 m args bel meth c 0 0 (MQ bel (dk_Qc G (dk_kv K)) args S0 0 0 (dk_A G)) 41 [some (dk_r G p0 0), some (.int x1), some (.int x2), some (.int x3), none, none] [] s := by
  intro x1 x2 x3 s h
  unfold wf_X7_moveBeast_41 at h
  refine dk_aload_n (i := 0) C dX7_moveBeast_41 (n := 42) rfl rfl rfl ?_
  refine gf_X7_28 C (hp0 0 (by decide)) dX7_moveBeast_42 (n := 45) rfl ?_
  refine gf_X7_271 C (hp0 13 (by decide)) dX7_moveBeast_45 (n := 48) rfl ?_
  refine dk_iload_n (i := 1) C dX7_moveBeast_48 (n := 49) rfl rfl rfl ?_
  refine dk_callNi C [] (cc_X8_at C.D dk_sh22 (hp0 22 (by decide)) h) yy_X8_at dk_wm_X7_82 dX7_moveBeast_49 (fun r10 s9 h => ?_) rfl ⟨Nat.le_of_ble_eq_true rfl, Nat.le_of_ble_eq_true rfl⟩ rfl (Nat.le_of_ble_eq_true rfl) rfl (n := 52) rfl
  refine dk_istore (i := 4) (L' := [some (dk_r G p0 0), some (.int x1), some (.int x2), some (.int x3), some (.int r10), none]) C dX7_moveBeast_52 (n := 54) rfl (dk_nc_of rfl) (Nat.le_of_ble_eq_true rfl) rfl ?_
  refine dk_iload C dX7_moveBeast_54 (n := 56) rfl (i := 4) rfl ?_
  refine dk_iconst (v := (-1)) C dX7_moveBeast_56 (n := 57) rfl (by decide) ?_
  refine dk_icmp_ne (t := 61) C dX7_moveBeast_57 (n := 60) rfl (by decide) (fun c25 => ?_) (fun c25 => ?_)
  · have h := h.1 c25
    refine dk_aload_n (i := 0) C dX7_moveBeast_61 (n := 62) rfl rfl rfl ?_
    refine gf_X7_12 C (hp0 0 (by decide)) dX7_moveBeast_62 (n := 65) rfl ?_
    refine dk_iload C dX7_moveBeast_65 (n := 67) rfl (i := 4) rfl ?_
    refine dk_callVv C [] (cc_X1_aimAt C.D hp0 h) yy_X1_aimAt dk_wm_X7_274 dk_sh1 (hp0 1 (by decide)) dX7_moveBeast_67 (fun s11 h => ?_) rfl rfl ⟨Nat.le_of_ble_eq_true rfl, Nat.le_of_ble_eq_true rfl⟩ rfl (Nat.le_of_ble_eq_true rfl) rfl (n := 70) rfl
    refine dk_aload_n (i := 0) C dX7_moveBeast_70 (n := 71) rfl rfl rfl ?_
    refine gf_X7_28 C (hp0 0 (by decide)) dX7_moveBeast_71 (n := 74) rfl ?_
    refine dk_iload_n (i := 1) C dX7_moveBeast_74 (n := 75) rfl rfl rfl ?_
    refine dk_callVi C [] (cc_X2_isWeak C.D hp0 h) yy_X2_isWeak dk_wm_X7_198 dk_sh13 (hp0 13 (by decide)) dX7_moveBeast_75 (fun r13 s12 h => ?_) rfl rfl ⟨Nat.le_of_ble_eq_true rfl, Nat.le_of_ble_eq_true rfl⟩ rfl (Nat.le_of_ble_eq_true rfl) rfl (n := 78) rfl
    refine dk_if_eq (t := 89) C dX7_moveBeast_78 (n := 81) rfl (by decide) (fun c24 => ?_) (fun c24 => ?_)
    · have h := h.1 c24
      refine dk_iload_n (i := 3) C dX7_moveBeast_89 (n := 90) rfl rfl rfl ?_
      refine dk_iload_n (i := 2) C dX7_moveBeast_90 (n := 91) rfl rfl rfl ?_
      refine dk_callNi C [] (cc_X8_areNeighbours C.D  h) yy_X8_areNeighbours dk_wm_X7_280 dX7_moveBeast_91 (fun r15 s14 h => ?_) rfl ⟨Nat.le_of_ble_eq_true rfl, Nat.le_of_ble_eq_true rfl⟩ rfl (Nat.le_of_ble_eq_true rfl) rfl (n := 94) rfl
      refine dk_if_eq (t := 127) C dX7_moveBeast_94 (n := 97) rfl (by decide) (fun c22 => ?_) (fun c22 => ?_)
      · have h := h.1 c22
        refine dk_aload_n (i := 0) C dX7_moveBeast_127 (n := 128) rfl rfl rfl ?_
        refine dk_iload_n (i := 1) C dX7_moveBeast_128 (n := 129) rfl rfl rfl ?_
        refine dk_callVv C [] (cc_X7_comeNearer C.D hp0 h) yy_X7_comeNearer dk_wm_X7_284 dk_sh0 (hp0 0 (by decide)) dX7_moveBeast_129 (fun s16 h => ?_) rfl rfl ⟨Nat.le_of_ble_eq_true rfl, Nat.le_of_ble_eq_true rfl⟩ rfl (Nat.le_of_ble_eq_true rfl) rfl (n := 132) rfl
        refine dk_sub (L0 := [some (dk_r G p0 0), some (.int x1), some (.int x2), none, some (.int r10), none]) ⟨rfl, ⟨rfl, ⟨rfl, ⟨rfl, trivial⟩⟩⟩⟩ ?_
        exact ww_X7_moveBeast_132 C hr hlk hp0  x1 x2 r10 s16 h
      · have h := h.2 c22
        refine dk_aload_n (i := 0) C dX7_moveBeast_97 (n := 98) rfl rfl rfl ?_
        refine gf_X7_28 C (hp0 0 (by decide)) dX7_moveBeast_98 (n := 101) rfl ?_
        refine dk_iconst (v := 0) C dX7_moveBeast_101 (n := 102) rfl (by decide) ?_
        refine dk_aload_n (i := 0) C dX7_moveBeast_102 (n := 103) rfl rfl rfl ?_
        refine gf_X7_28 C (hp0 0 (by decide)) dX7_moveBeast_103 (n := 106) rfl ?_
        refine gf_X7_283 C (hp0 13 (by decide)) dX7_moveBeast_106 (n := 109) rfl ?_
        refine dk_iload_n (i := 1) C dX7_moveBeast_109 (n := 110) rfl rfl rfl ?_
        refine dk_callNi C [.int 0, dk_r G p0 13] (cc_X8_at C.D dk_sh16 (hp0 16 (by decide)) h) yy_X8_at dk_wm_X7_82 dX7_moveBeast_110 (fun r18 s17 h => ?_) rfl ⟨Nat.le_of_ble_eq_true rfl, Nat.le_of_ble_eq_true rfl⟩ rfl (Nat.le_of_ble_eq_true rfl) rfl (n := 113) rfl
        refine dk_callVv C [] (cc_X2_harm C.D hp0 h) yy_X2_harm dk_wm_X7_201 dk_sh13 (hp0 13 (by decide)) dX7_moveBeast_113 (fun s19 h => ?_) rfl rfl ⟨Nat.le_of_ble_eq_true rfl, Nat.le_of_ble_eq_true rfl⟩ rfl (Nat.le_of_ble_eq_true rfl) rfl (n := 116) rfl
        refine dk_aload_n (i := 0) C dX7_moveBeast_116 (n := 117) rfl rfl rfl ?_
        refine dk_iload_n (i := 2) C dX7_moveBeast_117 (n := 118) rfl rfl rfl ?_
        refine dk_bipush (v := 6) C dX7_moveBeast_118 (n := 120) rfl (by decide) ?_
        refine dk_callVi C [] (cc_X7_makeNoise C.D hp0 h) yy_X7_makeNoise dk_wm_X7_159 dk_sh0 (hp0 0 (by decide)) dX7_moveBeast_120 (fun r21 s20 h => ?_) rfl rfl ⟨Nat.le_of_ble_eq_true rfl, Nat.le_of_ble_eq_true rfl⟩ rfl (Nat.le_of_ble_eq_true rfl) rfl (n := 123) rfl
        refine dk_pop C dX7_moveBeast_123 (n := 124) rfl rfl ?_
        refine dk_goto (t := 132) C dX7_moveBeast_124 (by decide) ?_
        refine dk_sub (L0 := [some (dk_r G p0 0), some (.int x1), some (.int x2), none, some (.int r10), none]) ⟨rfl, ⟨rfl, ⟨rfl, ⟨rfl, trivial⟩⟩⟩⟩ ?_
        exact ww_X7_moveBeast_132 C hr hlk hp0  x1 x2 r10 s20 h
    · have h := h.2 c24
      refine dk_aload_n (i := 0) C dX7_moveBeast_81 (n := 82) rfl rfl rfl ?_
      refine dk_iload_n (i := 1) C dX7_moveBeast_82 (n := 83) rfl rfl rfl ?_
      refine dk_callVv C [] (cc_X7_flee C.D hp0 h) yy_X7_flee dk_wm_X7_277 dk_sh0 (hp0 0 (by decide)) dX7_moveBeast_83 (fun s23 h => ?_) rfl rfl ⟨Nat.le_of_ble_eq_true rfl, Nat.le_of_ble_eq_true rfl⟩ rfl (Nat.le_of_ble_eq_true rfl) rfl (n := 86) rfl
      refine dk_goto (t := 132) C dX7_moveBeast_86 (by decide) ?_
      refine dk_sub (L0 := [some (dk_r G p0 0), some (.int x1), some (.int x2), none, some (.int r10), none]) ⟨rfl, ⟨rfl, ⟨rfl, ⟨rfl, trivial⟩⟩⟩⟩ ?_
      exact ww_X7_moveBeast_132 C hr hlk hp0  x1 x2 r10 s23 h
  · have h := h.2 c25
    exact dk_vret C hr hlk dX7_moveBeast_60 ⟨rfl, h⟩
set_option maxRecDepth 20000 in
set_option maxHeartbeats 4000000 in
theorem cc_X7_moveBeast {G : dk_G} {l : Launch} {p0 : Nat} {a1 : Int32} (hD : dk_D G) (hp0 : dk_WI G p0) {s : dk_S} {K : dk_S → Prop} (h : wf_X7_moveBeast p0 a1 s K) : dk_M G l 5 yX7_moveBeast cX7_moveBeast 6 none [dk_r G p0 0, .int a1] s (dk_kv K) := by
  refine dk_of hD (by decide) [some (dk_r G p0 0), some (.int a1), none, none, none, none] (fun q hq => hq) rfl (Nat.le_of_ble_eq_true rfl) (fun P e S0 m args bel meth c C hr hlk => ?_)
  unfold wf_X7_moveBeast at h
  refine dk_aload_n (i := 0) C dX7_moveBeast_0 (n := 1) rfl rfl rfl ?_
  refine dk_callVi C [] (cc_X7_heroSpot C.D hp0 h) yy_X7_heroSpot dk_wm_X7_93 dk_sh0 (hp0 0 (by decide)) dX7_moveBeast_1 (fun r2 s1 h => ?_) rfl rfl ⟨Nat.le_of_ble_eq_true rfl, Nat.le_of_ble_eq_true rfl⟩ rfl (Nat.le_of_ble_eq_true rfl) rfl (n := 4) rfl
  refine dk_istore_n (i := 2) (L' := [some (dk_r G p0 0), some (.int a1), some (.int r2), none, none, none]) C dX7_moveBeast_4 (n := 5) rfl rfl (dk_nc_of rfl) (Nat.le_of_ble_eq_true rfl) rfl ?_
  refine dk_aload_n (i := 0) C dX7_moveBeast_5 (n := 6) rfl rfl rfl ?_
  refine gf_X7_28 C (hp0 0 (by decide)) dX7_moveBeast_6 (n := 9) rfl ?_
  refine gf_X7_78 C (hp0 13 (by decide)) dX7_moveBeast_9 (n := 12) rfl ?_
  refine dk_iload_n (i := 1) C dX7_moveBeast_12 (n := 13) rfl rfl rfl ?_
  refine dk_callNi C [] (cc_X8_at C.D dk_sh14 (hp0 14 (by decide)) h) yy_X8_at dk_wm_X7_82 dX7_moveBeast_13 (fun r4 s3 h => ?_) rfl ⟨Nat.le_of_ble_eq_true rfl, Nat.le_of_ble_eq_true rfl⟩ rfl (Nat.le_of_ble_eq_true rfl) rfl (n := 16) rfl
  refine dk_istore_n (i := 3) (L' := [some (dk_r G p0 0), some (.int a1), some (.int r2), some (.int r4), none, none]) C dX7_moveBeast_16 (n := 17) rfl rfl (dk_nc_of rfl) (Nat.le_of_ble_eq_true rfl) rfl ?_
  refine dk_aload_n (i := 0) C dX7_moveBeast_17 (n := 18) rfl rfl rfl ?_
  refine gf_X7_12 C (hp0 0 (by decide)) dX7_moveBeast_18 (n := 21) rfl ?_
  refine dk_iload_n (i := 3) C dX7_moveBeast_21 (n := 22) rfl rfl rfl ?_
  refine dk_iload_n (i := 2) C dX7_moveBeast_22 (n := 23) rfl rfl rfl ?_
  refine dk_callVi C [] (cc_X1_seeEachOther C.D hp0 h) yy_X1_seeEachOther dk_wm_X7_97 dk_sh1 (hp0 1 (by decide)) dX7_moveBeast_23 (fun r6 s5 h => ?_) rfl rfl ⟨Nat.le_of_ble_eq_true rfl, Nat.le_of_ble_eq_true rfl⟩ rfl (Nat.le_of_ble_eq_true rfl) rfl (n := 26) rfl
  refine dk_if_eq (t := 41) C dX7_moveBeast_26 (n := 29) rfl (by decide) (fun c8 => ?_) (fun c8 => ?_)
  · have h := h.1 c8
    refine dk_sub (L0 := [some (dk_r G p0 0), some (.int a1), some (.int r2), some (.int r4), none, none]) ⟨rfl, ⟨rfl, ⟨rfl, ⟨rfl, trivial⟩⟩⟩⟩ ?_
    exact ww_X7_moveBeast_41 C hr hlk hp0  a1 r2 r4 s5 h
  · have h := h.2 c8
    refine dk_aload_n (i := 0) C dX7_moveBeast_29 (n := 30) rfl rfl rfl ?_
    refine gf_X7_28 C (hp0 0 (by decide)) dX7_moveBeast_30 (n := 33) rfl ?_
    refine gf_X7_271 C (hp0 13 (by decide)) dX7_moveBeast_33 (n := 36) rfl ?_
    refine dk_iload_n (i := 1) C dX7_moveBeast_36 (n := 37) rfl rfl rfl ?_
    refine dk_iload_n (i := 2) C dX7_moveBeast_37 (n := 38) rfl rfl rfl ?_
    refine dk_callNv C [] (cc_X8_put C.D dk_sh22 (hp0 22 (by decide)) h) yy_X8_put dk_wm_X7_142 dX7_moveBeast_38 (fun s7 h => ?_) rfl ⟨Nat.le_of_ble_eq_true rfl, Nat.le_of_ble_eq_true rfl⟩ rfl (Nat.le_of_ble_eq_true rfl) rfl (n := 41) rfl
    refine dk_sub (L0 := [some (dk_r G p0 0), some (.int a1), some (.int r2), some (.int r4), none, none]) ⟨rfl, ⟨rfl, ⟨rfl, ⟨rfl, trivial⟩⟩⟩⟩ ?_
    exact ww_X7_moveBeast_41 C hr hlk hp0  a1 r2 r4 s7 h
