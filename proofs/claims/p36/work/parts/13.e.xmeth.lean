/-! X8_checkPlace -/
set_option maxRecDepth 20000 in
set_option maxHeartbeats 4000000 in
theorem cc_X8_checkPlace {G : dk_G} {l : Launch} {a0 : Int32} {a1 : Int32} (hD : dk_D G) (hl : l.stackTraces = false)  {s : dk_S} {K : dk_S → Prop} {X : String → dk_S → Prop} (h : wf_X8_checkPlace a0 a1 s K X) : dk_MX G l 6 yX8_checkPlace cX8_checkPlace 2 none [.int a0, .int a1] s (dk_kv K) X := by
  refine dk_xof hD (by decide) [some (.int a0), some (.int a1)] (fun q hq => hq) rfl (Nat.le_of_ble_eq_true rfl) (fun P e S0 m args bel meth c C ht hr hlk => ?_)
  unfold wf_X8_checkPlace at h
  refine dk_iload_n (i := 0) C dX8_checkPlace_0 (n := 1) rfl rfl rfl ?_
  refine dk_if_lt (t := 20) C dX8_checkPlace_1 (n := 4) rfl (by decide) (fun c4 => ?_) (fun c4 => ?_)
  · have h := h.1 c4
    exact dk_xthrow C ht hlk hl dk_THIO dX8_checkPlace_20 dX8_checkPlace_23 dX8_checkPlace_24 dX8_checkPlace_27 ⟨Nat.le_of_ble_eq_true rfl, Nat.le_of_ble_eq_true rfl⟩ ⟨Nat.le_of_ble_eq_true rfl, Nat.le_of_ble_eq_true rfl⟩ (Nat.le_of_ble_eq_true rfl) rfl h
  · have h := h.2 c4
    refine dk_iload_n (i := 0) C dX8_checkPlace_4 (n := 5) rfl rfl rfl ?_
    refine dk_bipush (v := 12) C dX8_checkPlace_5 (n := 7) rfl (by decide) ?_
    refine dk_icmp_ge (t := 20) C dX8_checkPlace_7 (n := 10) rfl (by decide) (fun c3 => ?_) (fun c3 => ?_)
    · have h := h.1 c3
      exact dk_xthrow C ht hlk hl dk_THIO dX8_checkPlace_20 dX8_checkPlace_23 dX8_checkPlace_24 dX8_checkPlace_27 ⟨Nat.le_of_ble_eq_true rfl, Nat.le_of_ble_eq_true rfl⟩ ⟨Nat.le_of_ble_eq_true rfl, Nat.le_of_ble_eq_true rfl⟩ (Nat.le_of_ble_eq_true rfl) rfl h
    · have h := h.2 c3
      refine dk_iload_n (i := 1) C dX8_checkPlace_10 (n := 11) rfl rfl rfl ?_
      refine dk_if_lt (t := 20) C dX8_checkPlace_11 (n := 14) rfl (by decide) (fun c2 => ?_) (fun c2 => ?_)
      · have h := h.1 c2
        exact dk_xthrow C ht hlk hl dk_THIO dX8_checkPlace_20 dX8_checkPlace_23 dX8_checkPlace_24 dX8_checkPlace_27 ⟨Nat.le_of_ble_eq_true rfl, Nat.le_of_ble_eq_true rfl⟩ ⟨Nat.le_of_ble_eq_true rfl, Nat.le_of_ble_eq_true rfl⟩ (Nat.le_of_ble_eq_true rfl) rfl h
      · have h := h.2 c2
        refine dk_iload_n (i := 1) C dX8_checkPlace_14 (n := 15) rfl rfl rfl ?_
        refine dk_bipush (v := 12) C dX8_checkPlace_15 (n := 17) rfl (by decide) ?_
        refine dk_icmp_lt (t := 28) C dX8_checkPlace_17 (n := 20) rfl (by decide) (fun c1 => ?_) (fun c1 => ?_)
        · have h := h.1 c1
          refine dk_xret ?_
          exact dk_vret C hr hlk dX8_checkPlace_28 ⟨rfl, h⟩
        · have h := h.2 c1
          exact dk_xthrow C ht hlk hl dk_THIO dX8_checkPlace_20 dX8_checkPlace_23 dX8_checkPlace_24 dX8_checkPlace_27 ⟨Nat.le_of_ble_eq_true rfl, Nat.le_of_ble_eq_true rfl⟩ ⟨Nat.le_of_ble_eq_true rfl, Nat.le_of_ble_eq_true rfl⟩ (Nat.le_of_ble_eq_true rfl) rfl h
/-! X8_checkRange -/
set_option maxRecDepth 20000 in
set_option maxHeartbeats 4000000 in
theorem cc_X8_checkRange {G : dk_G} {l : Launch} {a0 : Int32} {a1 : Int32} {a2 : Int32} (hD : dk_D G) (hl : l.stackTraces = false)  {s : dk_S} {K : dk_S → Prop} {X : String → dk_S → Prop} (h : wf_X8_checkRange a0 a1 a2 s K X) : dk_MX G l 6 yX8_checkRange cX8_checkRange 3 none [.int a0, .int a1, .int a2] s (dk_kv K) X := by
  refine dk_xof hD (by decide) [some (.int a0), some (.int a1), some (.int a2)] (fun q hq => hq) rfl (Nat.le_of_ble_eq_true rfl) (fun P e S0 m args bel meth c C ht hr hlk => ?_)
  unfold wf_X8_checkRange at h
  refine dk_iload_n (i := 0) C dX8_checkRange_0 (n := 1) rfl rfl rfl ?_
  refine dk_iload_n (i := 1) C dX8_checkRange_1 (n := 2) rfl rfl rfl ?_
  refine dk_icmp_lt (t := 10) C dX8_checkRange_2 (n := 5) rfl (by decide) (fun c2 => ?_) (fun c2 => ?_)
  · have h := h.1 c2
    exact dk_xthrow C ht hlk hl dk_THIA dX8_checkRange_10 dX8_checkRange_13 dX8_checkRange_14 dX8_checkRange_17 ⟨Nat.le_of_ble_eq_true rfl, Nat.le_of_ble_eq_true rfl⟩ ⟨Nat.le_of_ble_eq_true rfl, Nat.le_of_ble_eq_true rfl⟩ (Nat.le_of_ble_eq_true rfl) rfl h
  · have h := h.2 c2
    refine dk_iload_n (i := 0) C dX8_checkRange_5 (n := 6) rfl rfl rfl ?_
    refine dk_iload_n (i := 2) C dX8_checkRange_6 (n := 7) rfl rfl rfl ?_
    refine dk_icmp_le (t := 18) C dX8_checkRange_7 (n := 10) rfl (by decide) (fun c1 => ?_) (fun c1 => ?_)
    · have h := h.1 c1
      refine dk_xret ?_
      exact dk_vret C hr hlk dX8_checkRange_18 ⟨rfl, h⟩
    · have h := h.2 c1
      exact dk_xthrow C ht hlk hl dk_THIA dX8_checkRange_10 dX8_checkRange_13 dX8_checkRange_14 dX8_checkRange_17 ⟨Nat.le_of_ble_eq_true rfl, Nat.le_of_ble_eq_true rfl⟩ ⟨Nat.le_of_ble_eq_true rfl, Nat.le_of_ble_eq_true rfl⟩ (Nat.le_of_ble_eq_true rfl) rfl h
/-! X8_checkNoWorld -/
set_option maxRecDepth 20000 in
set_option maxHeartbeats 4000000 in
theorem cc_X8_checkNoWorld {G : dk_G} {l : Launch}  (hD : dk_D G) (hl : l.stackTraces = false) (hri : dk_RI G) {s : dk_S} {K : dk_S → Prop} {X : String → dk_S → Prop} (h : wf_X8_checkNoWorld s K X) : dk_MX G l 6 yX8_checkNoWorld cX8_checkNoWorld 1 none [dk_r G 0 40] s (dk_kv K) X := by
  refine dk_xof hD (by decide) [some (dk_r G 0 40)] (fun q hq => hq) rfl (Nat.le_of_ble_eq_true rfl) (fun P e S0 m args bel meth c C ht hr hlk => ?_)
  unfold wf_X8_checkNoWorld at h
  refine dk_aload_n (i := 0) C dX8_checkNoWorld_0 (n := 1) rfl rfl rfl ?_
  refine gf_X8_36 C (hri.1 40 (by decide) (by decide)) dX8_checkNoWorld_1 (n := 4) rfl ?_
  refine dk_bipush (v := 111) C dX8_checkNoWorld_4 (n := 6) rfl (by decide) ?_
  refine dk_icmp_ne (t := 17) C dX8_checkNoWorld_6 (n := 9) rfl (by decide) (fun c1 => ?_) (fun c1 => ?_)
  · have h := h.1 c1
    refine dk_xret ?_
    exact dk_vret C hr hlk dX8_checkNoWorld_17 ⟨rfl, h⟩
  · have h := h.2 c1
    exact dk_xthrow C ht hlk hl dk_THIS dX8_checkNoWorld_9 dX8_checkNoWorld_12 dX8_checkNoWorld_13 dX8_checkNoWorld_16 ⟨Nat.le_of_ble_eq_true rfl, Nat.le_of_ble_eq_true rfl⟩ ⟨Nat.le_of_ble_eq_true rfl, Nat.le_of_ble_eq_true rfl⟩ (Nat.le_of_ble_eq_true rfl) rfl h
/-! X8_checkRoom -/
set_option maxRecDepth 20000 in
set_option maxHeartbeats 4000000 in
theorem cc_X8_checkRoom {G : dk_G} {l : Launch} {a0 : Int32} {a1 : Int32} (hD : dk_D G) (hl : l.stackTraces = false)  {s : dk_S} {K : dk_S → Prop} {X : String → dk_S → Prop} (h : wf_X8_checkRoom a0 a1 s K X) : dk_MX G l 6 yX8_checkRoom cX8_checkRoom 2 none [.int a0, .int a1] s (dk_kv K) X := by
  refine dk_xof hD (by decide) [some (.int a0), some (.int a1)] (fun q hq => hq) rfl (Nat.le_of_ble_eq_true rfl) (fun P e S0 m args bel meth c C ht hr hlk => ?_)
  unfold wf_X8_checkRoom at h
  refine dk_iload_n (i := 0) C dX8_checkRoom_0 (n := 1) rfl rfl rfl ?_
  refine dk_iload_n (i := 1) C dX8_checkRoom_1 (n := 2) rfl rfl rfl ?_
  refine dk_icmp_lt (t := 13) C dX8_checkRoom_2 (n := 5) rfl (by decide) (fun c1 => ?_) (fun c1 => ?_)
  · have h := h.1 c1
    refine dk_xret ?_
    exact dk_vret C hr hlk dX8_checkRoom_13 ⟨rfl, h⟩
  · have h := h.2 c1
    exact dk_xthrow C ht hlk hl dk_THIS dX8_checkRoom_5 dX8_checkRoom_8 dX8_checkRoom_9 dX8_checkRoom_12 ⟨Nat.le_of_ble_eq_true rfl, Nat.le_of_ble_eq_true rfl⟩ ⟨Nat.le_of_ble_eq_true rfl, Nat.le_of_ble_eq_true rfl⟩ (Nat.le_of_ble_eq_true rfl) rfl h
/-! X8_addBeast -/
set_option maxRecDepth 20000 in
set_option maxHeartbeats 4000000 in
theorem cc_X8_addBeast {G : dk_G} {l : Launch} {a1 : Int32} {a2 : Int32} {a3 : Int32} {a4 : Int32} {a5 : Int32} (hD : dk_D G) (hl : l.stackTraces = false) (hri : dk_RI G) {s : dk_S} {K : Int32 → dk_S → Prop} {X : String → dk_S → Prop} (h : wf_X8_addBeast a1 a2 a3 a4 a5 s K X) : dk_MX G l 7 yX8_addBeast cX8_addBeast 7 (some .int) [dk_r G 0 40, .int a1, .int a2, .int a3, .int a4, .int a5] s (dk_ki K) X := by
  refine dk_xof hD (by decide) [some (dk_r G 0 40), some (.int a1), some (.int a2), some (.int a3), some (.int a4), some (.int a5), none] (fun q hq => hq) rfl (Nat.le_of_ble_eq_true rfl) (fun P e S0 m args bel meth c C ht hr hlk => ?_)
  unfold wf_X8_addBeast at h
  refine dk_iload_n (i := 1) C dX8_addBeast_0 (n := 1) rfl rfl rfl ?_
  refine dk_iload_n (i := 2) C dX8_addBeast_1 (n := 2) rfl rfl rfl ?_
  refine dk_xcallSv C ht hlk [] (cc_X8_checkPlace C.D hl  h) yy_X8_checkPlace dk_wm_X8_44 dX8_addBeast_2 (fun s1 h => ?_) rfl ⟨Nat.le_of_ble_eq_true rfl, Nat.le_of_ble_eq_true rfl⟩ ⟨Nat.le_of_ble_eq_true rfl, Nat.le_of_ble_eq_true rfl⟩ rfl (Nat.le_of_ble_eq_true rfl) rfl (n := 5) rfl
  refine dk_iload_n (i := 3) C dX8_addBeast_5 (n := 6) rfl rfl rfl ?_
  refine dk_iconst (v := 1) C dX8_addBeast_6 (n := 7) rfl (by decide) ?_
  refine dk_bipush (v := 24) C dX8_addBeast_7 (n := 9) rfl (by decide) ?_
  refine dk_xcallSv C ht hlk [] (cc_X8_checkRange C.D hl  h) yy_X8_checkRange dk_wm_X8_80 dX8_addBeast_9 (fun s2 h => ?_) rfl ⟨Nat.le_of_ble_eq_true rfl, Nat.le_of_ble_eq_true rfl⟩ ⟨Nat.le_of_ble_eq_true rfl, Nat.le_of_ble_eq_true rfl⟩ rfl (Nat.le_of_ble_eq_true rfl) rfl (n := 12) rfl
  refine dk_iload C dX8_addBeast_12 (n := 14) rfl (i := 4) rfl ?_
  refine dk_iconst (v := 0) C dX8_addBeast_14 (n := 15) rfl (by decide) ?_
  refine dk_bipush (v := 9) C dX8_addBeast_15 (n := 17) rfl (by decide) ?_
  refine dk_xcallSv C ht hlk [] (cc_X8_checkRange C.D hl  h) yy_X8_checkRange dk_wm_X8_80 dX8_addBeast_17 (fun s3 h => ?_) rfl ⟨Nat.le_of_ble_eq_true rfl, Nat.le_of_ble_eq_true rfl⟩ ⟨Nat.le_of_ble_eq_true rfl, Nat.le_of_ble_eq_true rfl⟩ rfl (Nat.le_of_ble_eq_true rfl) rfl (n := 20) rfl
  refine dk_iload C dX8_addBeast_20 (n := 22) rfl (i := 5) rfl ?_
  refine dk_iconst (v := 1) C dX8_addBeast_22 (n := 23) rfl (by decide) ?_
  refine dk_bipush (v := 30) C dX8_addBeast_23 (n := 25) rfl (by decide) ?_
  refine dk_xcallSv C ht hlk [] (cc_X8_checkRange C.D hl  h) yy_X8_checkRange dk_wm_X8_80 dX8_addBeast_25 (fun s4 h => ?_) rfl ⟨Nat.le_of_ble_eq_true rfl, Nat.le_of_ble_eq_true rfl⟩ ⟨Nat.le_of_ble_eq_true rfl, Nat.le_of_ble_eq_true rfl⟩ rfl (Nat.le_of_ble_eq_true rfl) rfl (n := 28) rfl
  refine dk_aload_n (i := 0) C dX8_addBeast_28 (n := 29) rfl rfl rfl ?_
  refine dk_xcallVv C ht hlk [] (cc_X8_checkNoWorld C.D hl hri h) yy_X8_checkNoWorld dk_wm_X8_59 dk_sh40 (hri.1 40 (by decide) (by decide)) dX8_addBeast_29 (fun s5 h => ?_) rfl rfl ⟨Nat.le_of_ble_eq_true rfl, Nat.le_of_ble_eq_true rfl⟩ ⟨Nat.le_of_ble_eq_true rfl, Nat.le_of_ble_eq_true rfl⟩ rfl (Nat.le_of_ble_eq_true rfl) rfl (n := 32) rfl
  refine dk_aload_n (i := 0) C dX8_addBeast_32 (n := 33) rfl rfl rfl ?_
  refine gf_X8_12 C (hri.1 40 (by decide) (by decide)) dX8_addBeast_33 (n := 36) rfl ?_
  refine gf_X8_111 C (hri.2.1 0 (by decide)) dX8_addBeast_36 (n := 39) rfl ?_
  refine gf_X8_123 C (hri.2.1 13 (by decide)) dX8_addBeast_39 (n := 42) rfl ?_
  refine dk_bipush (v := 8) C dX8_addBeast_42 (n := 44) rfl (by decide) ?_
  refine dk_xcallSv C ht hlk [] (cc_X8_checkRoom C.D hl  h) yy_X8_checkRoom dk_wm_X8_126 dX8_addBeast_44 (fun s6 h => ?_) rfl ⟨Nat.le_of_ble_eq_true rfl, Nat.le_of_ble_eq_true rfl⟩ ⟨Nat.le_of_ble_eq_true rfl, Nat.le_of_ble_eq_true rfl⟩ rfl (Nat.le_of_ble_eq_true rfl) rfl (n := 47) rfl
  refine dk_aload_n (i := 0) C dX8_addBeast_47 (n := 48) rfl rfl rfl ?_
  refine gf_X8_12 C (hri.1 40 (by decide) (by decide)) dX8_addBeast_48 (n := 51) rfl ?_
  refine gf_X8_111 C (hri.2.1 0 (by decide)) dX8_addBeast_51 (n := 54) rfl ?_
  refine gf_X8_123 C (hri.2.1 13 (by decide)) dX8_addBeast_54 (n := 57) rfl ?_
  refine dk_name (fun v7 ev7 => ?_)
  have h := h v7 ev7
  refine dk_istore (i := 6) (L' := [some (dk_r G 0 40), some (.int a1), some (.int a2), some (.int a3), some (.int a4), some (.int a5), some (.int v7)]) C dX8_addBeast_57 (n := 59) rfl (dk_nc_of rfl) (Nat.le_of_ble_eq_true rfl) rfl ?_
  refine dk_aload_n (i := 0) C dX8_addBeast_59 (n := 60) rfl rfl rfl ?_
  refine gf_X8_12 C (hri.1 40 (by decide) (by decide)) dX8_addBeast_60 (n := 63) rfl ?_
  refine gf_X8_111 C (hri.2.1 0 (by decide)) dX8_addBeast_63 (n := 66) rfl ?_
  refine dk_iload C dX8_addBeast_66 (n := 68) rfl (i := 6) rfl ?_
  refine dk_iload_n (i := 1) C dX8_addBeast_68 (n := 69) rfl rfl rfl ?_
  refine dk_iload_n (i := 2) C dX8_addBeast_69 (n := 70) rfl rfl rfl ?_
  refine dk_callSi C [.int v7, dk_r G 1 13] (cc_X8_spot C.D  h) yy_X8_spot dk_wm_X8_66 dX8_addBeast_70 (fun r9 s8 h => ?_) rfl ⟨Nat.le_of_ble_eq_true rfl, Nat.le_of_ble_eq_true rfl⟩ rfl (Nat.le_of_ble_eq_true rfl) rfl (n := 73) rfl
  refine dk_iload_n (i := 3) C dX8_addBeast_73 (n := 74) rfl rfl rfl ?_
  refine dk_iload C dX8_addBeast_74 (n := 76) rfl (i := 4) rfl ?_
  refine dk_iload C dX8_addBeast_76 (n := 78) rfl (i := 5) rfl ?_
  refine dk_callVv C [] (cc_X2_tell C.D hri.2.1 h) yy_X2_tell dk_wm_X8_120 dk_sh13 (hri.2.1 13 (by decide)) dX8_addBeast_78 (fun s10 h => ?_) rfl rfl ⟨Nat.le_of_ble_eq_true rfl, Nat.le_of_ble_eq_true rfl⟩ rfl (Nat.le_of_ble_eq_true rfl) rfl (n := 81) rfl
  refine dk_aload_n (i := 0) C dX8_addBeast_81 (n := 82) rfl rfl rfl ?_
  refine gf_X8_12 C (hri.1 40 (by decide) (by decide)) dX8_addBeast_82 (n := 85) rfl ?_
  refine gf_X8_111 C (hri.2.1 0 (by decide)) dX8_addBeast_85 (n := 88) rfl ?_
  refine dk_iload C dX8_addBeast_88 (n := 90) rfl (i := 6) rfl ?_
  refine dk_iconst (v := 1) C dX8_addBeast_90 (n := 91) rfl (by decide) ?_
  refine dk_iadd C dX8_addBeast_91 (n := 92) rfl ?_
  refine pf_X8_123 C rfl rfl (hri.2.1 13 (by decide)) dX8_addBeast_92 (n := 95) rfl ?_
  refine dk_nameS (fun s11 es11 => ?_)
  have h := h s11 es11
  refine dk_aload_n (i := 0) C dX8_addBeast_95 (n := 96) rfl rfl rfl ?_
  refine dk_bipush (v := 110) C dX8_addBeast_96 (n := 98) rfl (by decide) ?_
  refine pf_X8_36 C (by decide) (by decide) (hri.1 40 (by decide) (by decide)) dX8_addBeast_98 (n := 101) rfl ?_
  refine dk_nameS (fun s12 es12 => ?_)
  have h := h s12 es12
  refine dk_iload C dX8_addBeast_101 (n := 103) rfl (i := 6) rfl ?_
  refine dk_xret ?_
  exact dk_iret C hr hlk rfl dX8_addBeast_103 ⟨_, rfl, h⟩
/-! X8_addLamp -/
set_option maxRecDepth 20000 in
set_option maxHeartbeats 4000000 in
theorem cc_X8_addLamp {G : dk_G} {l : Launch} {a1 : Int32} {a2 : Int32} {a3 : Int32} (hD : dk_D G) (hl : l.stackTraces = false) (hri : dk_RI G) {s : dk_S} {K : Int32 → dk_S → Prop} {X : String → dk_S → Prop} (h : wf_X8_addLamp a1 a2 a3 s K X) : dk_MX G l 7 yX8_addLamp cX8_addLamp 4 (some .int) [dk_r G 0 40, .int a1, .int a2, .int a3] s (dk_ki K) X := by
  refine dk_xof hD (by decide) [some (dk_r G 0 40), some (.int a1), some (.int a2), some (.int a3)] (fun q hq => hq) rfl (Nat.le_of_ble_eq_true rfl) (fun P e S0 m args bel meth c C ht hr hlk => ?_)
  unfold wf_X8_addLamp at h
  refine dk_iload_n (i := 1) C dX8_addLamp_0 (n := 1) rfl rfl rfl ?_
  refine dk_iload_n (i := 2) C dX8_addLamp_1 (n := 2) rfl rfl rfl ?_
  refine dk_xcallSv C ht hlk [] (cc_X8_checkPlace C.D hl  h) yy_X8_checkPlace dk_wm_X8_44 dX8_addLamp_2 (fun s1 h => ?_) rfl ⟨Nat.le_of_ble_eq_true rfl, Nat.le_of_ble_eq_true rfl⟩ ⟨Nat.le_of_ble_eq_true rfl, Nat.le_of_ble_eq_true rfl⟩ rfl (Nat.le_of_ble_eq_true rfl) rfl (n := 5) rfl
  refine dk_iload_n (i := 3) C dX8_addLamp_5 (n := 6) rfl rfl rfl ?_
  refine dk_iconst (v := 0) C dX8_addLamp_6 (n := 7) rfl (by decide) ?_
  refine dk_bipush (v := 9) C dX8_addLamp_7 (n := 9) rfl (by decide) ?_
  refine dk_xcallSv C ht hlk [] (cc_X8_checkRange C.D hl  h) yy_X8_checkRange dk_wm_X8_80 dX8_addLamp_9 (fun s2 h => ?_) rfl ⟨Nat.le_of_ble_eq_true rfl, Nat.le_of_ble_eq_true rfl⟩ ⟨Nat.le_of_ble_eq_true rfl, Nat.le_of_ble_eq_true rfl⟩ rfl (Nat.le_of_ble_eq_true rfl) rfl (n := 12) rfl
  refine dk_aload_n (i := 0) C dX8_addLamp_12 (n := 13) rfl rfl rfl ?_
  refine dk_xcallVv C ht hlk [] (cc_X8_checkNoWorld C.D hl hri h) yy_X8_checkNoWorld dk_wm_X8_59 dk_sh40 (hri.1 40 (by decide) (by decide)) dX8_addLamp_13 (fun s3 h => ?_) rfl rfl ⟨Nat.le_of_ble_eq_true rfl, Nat.le_of_ble_eq_true rfl⟩ ⟨Nat.le_of_ble_eq_true rfl, Nat.le_of_ble_eq_true rfl⟩ rfl (Nat.le_of_ble_eq_true rfl) rfl (n := 16) rfl
  refine dk_aload_n (i := 0) C dX8_addLamp_16 (n := 17) rfl rfl rfl ?_
  refine gf_X8_12 C (hri.1 40 (by decide) (by decide)) dX8_addLamp_17 (n := 20) rfl ?_
  refine gf_X8_146 C (hri.2.1 0 (by decide)) dX8_addLamp_20 (n := 23) rfl ?_
  refine gf_X8_150 C (hri.2.1 26 (by decide)) dX8_addLamp_23 (n := 26) rfl ?_
  refine dk_iconst (v := 4) C dX8_addLamp_26 (n := 27) rfl (by decide) ?_
  refine dk_xcallSv C ht hlk [] (cc_X8_checkRoom C.D hl  h) yy_X8_checkRoom dk_wm_X8_126 dX8_addLamp_27 (fun s4 h => ?_) rfl ⟨Nat.le_of_ble_eq_true rfl, Nat.le_of_ble_eq_true rfl⟩ ⟨Nat.le_of_ble_eq_true rfl, Nat.le_of_ble_eq_true rfl⟩ rfl (Nat.le_of_ble_eq_true rfl) rfl (n := 30) rfl
  refine dk_aload_n (i := 0) C dX8_addLamp_30 (n := 31) rfl rfl rfl ?_
  refine dk_bipush (v := 110) C dX8_addLamp_31 (n := 33) rfl (by decide) ?_
  refine pf_X8_36 C (by decide) (by decide) (hri.1 40 (by decide) (by decide)) dX8_addLamp_33 (n := 36) rfl ?_
  refine dk_nameS (fun s5 es5 => ?_)
  have h := h s5 es5
  refine dk_aload_n (i := 0) C dX8_addLamp_36 (n := 37) rfl rfl rfl ?_
  refine gf_X8_12 C (hri.1 40 (by decide) (by decide)) dX8_addLamp_37 (n := 40) rfl ?_
  refine gf_X8_146 C (hri.2.1 0 (by decide)) dX8_addLamp_40 (n := 43) rfl ?_
  refine dk_iload_n (i := 1) C dX8_addLamp_43 (n := 44) rfl rfl rfl ?_
  refine dk_iload_n (i := 2) C dX8_addLamp_44 (n := 45) rfl rfl rfl ?_
  refine dk_callSi C [dk_r G 1 26] (cc_X8_spot C.D  h) yy_X8_spot dk_wm_X8_66 dX8_addLamp_45 (fun r7 s6 h => ?_) rfl ⟨Nat.le_of_ble_eq_true rfl, Nat.le_of_ble_eq_true rfl⟩ rfl (Nat.le_of_ble_eq_true rfl) rfl (n := 48) rfl
  refine dk_iload_n (i := 3) C dX8_addLamp_48 (n := 49) rfl rfl rfl ?_
  refine dk_callVi C [] (cc_X4_add C.D hri.2.1 h) yy_X4_add dk_wm_X8_153 dk_sh26 (hri.2.1 26 (by decide)) dX8_addLamp_49 (fun r9 s8 h => ?_) rfl rfl ⟨Nat.le_of_ble_eq_true rfl, Nat.le_of_ble_eq_true rfl⟩ rfl (Nat.le_of_ble_eq_true rfl) rfl (n := 52) rfl
  refine dk_xret ?_
  exact dk_iret C hr hlk rfl dX8_addLamp_52 ⟨_, rfl, h⟩
/-! X8_checkThing -/
set_option maxRecDepth 20000 in
set_option maxHeartbeats 4000000 in
theorem cc_X8_checkThing {G : dk_G} {l : Launch} {a1 : Int32} (hD : dk_D G) (hl : l.stackTraces = false) (hri : dk_RI G) {s : dk_S} {K : dk_S → Prop} {X : String → dk_S → Prop} (h : wf_X8_checkThing a1 s K X) : dk_MX G l 6 yX8_checkThing cX8_checkThing 2 none [dk_r G 0 40, .int a1] s (dk_kv K) X := by
  refine dk_xof hD (by decide) [some (dk_r G 0 40), some (.int a1)] (fun q hq => hq) rfl (Nat.le_of_ble_eq_true rfl) (fun P e S0 m args bel meth c C ht hr hlk => ?_)
  unfold wf_X8_checkThing at h
  refine dk_iload_n (i := 1) C dX8_checkThing_0 (n := 1) rfl rfl rfl ?_
  refine dk_if_lt (t := 18) C dX8_checkThing_1 (n := 4) rfl (by decide) (fun c2 => ?_) (fun c2 => ?_)
  · have h := h.1 c2
    exact dk_xthrow C ht hlk hl dk_THIO dX8_checkThing_18 dX8_checkThing_21 dX8_checkThing_22 dX8_checkThing_25 ⟨Nat.le_of_ble_eq_true rfl, Nat.le_of_ble_eq_true rfl⟩ ⟨Nat.le_of_ble_eq_true rfl, Nat.le_of_ble_eq_true rfl⟩ (Nat.le_of_ble_eq_true rfl) rfl h
  · have h := h.2 c2
    refine dk_iload_n (i := 1) C dX8_checkThing_4 (n := 5) rfl rfl rfl ?_
    refine dk_aload_n (i := 0) C dX8_checkThing_5 (n := 6) rfl rfl rfl ?_
    refine gf_X8_12 C (hri.1 40 (by decide) (by decide)) dX8_checkThing_6 (n := 9) rfl ?_
    refine gf_X8_136 C (hri.2.1 0 (by decide)) dX8_checkThing_9 (n := 12) rfl ?_
    refine gf_X8_140 C (hri.2.1 23 (by decide)) dX8_checkThing_12 (n := 15) rfl ?_
    refine dk_icmp_lt (t := 26) C dX8_checkThing_15 (n := 18) rfl (by decide) (fun c1 => ?_) (fun c1 => ?_)
    · have h := h.1 c1
      refine dk_xret ?_
      exact dk_vret C hr hlk dX8_checkThing_26 ⟨rfl, h⟩
    · have h := h.2 c1
      exact dk_xthrow C ht hlk hl dk_THIO dX8_checkThing_18 dX8_checkThing_21 dX8_checkThing_22 dX8_checkThing_25 ⟨Nat.le_of_ble_eq_true rfl, Nat.le_of_ble_eq_true rfl⟩ ⟨Nat.le_of_ble_eq_true rfl, Nat.le_of_ble_eq_true rfl⟩ (Nat.le_of_ble_eq_true rfl) rfl h
/-! X8_checkBag -/
set_option maxRecDepth 20000 in
set_option maxHeartbeats 4000000 in
theorem cc_X8_checkBag {G : dk_G} {l : Launch} {a1 : Int32} (hD : dk_D G) (hl : l.stackTraces = false) (hri : dk_RI G) {s : dk_S} {K : dk_S → Prop} {X : String → dk_S → Prop} (h : wf_X8_checkBag a1 s K X) : dk_MX G l 6 yX8_checkBag cX8_checkBag 2 none [dk_r G 0 40, .int a1] s (dk_kv K) X := by
  refine dk_xof hD (by decide) [some (dk_r G 0 40), some (.int a1)] (fun q hq => hq) rfl (Nat.le_of_ble_eq_true rfl) (fun P e S0 m args bel meth c C ht hr hlk => ?_)
  unfold wf_X8_checkBag at h
  refine dk_aload_n (i := 0) C dX8_checkBag_0 (n := 1) rfl rfl rfl ?_
  refine gf_X8_12 C (hri.1 40 (by decide) (by decide)) dX8_checkBag_1 (n := 4) rfl ?_
  refine gf_X8_136 C (hri.2.1 0 (by decide)) dX8_checkBag_4 (n := 7) rfl ?_
  refine gf_X8_220 C (hri.2.1 23 (by decide)) dX8_checkBag_7 (n := 10) rfl ?_
  refine dk_iload_n (i := 1) C dX8_checkBag_10 (n := 11) rfl rfl rfl ?_
  refine dk_callSi C [] (cc_X8_at C.D dk_sh24 (hri.2.1 24 (by decide)) h) yy_X8_at dk_wm_X8_94 dX8_checkBag_11 (fun r2 s1 h => ?_) rfl ⟨Nat.le_of_ble_eq_true rfl, Nat.le_of_ble_eq_true rfl⟩ rfl (Nat.le_of_ble_eq_true rfl) rfl (n := 14) rfl
  refine dk_bipush (v := 6) C dX8_checkBag_14 (n := 16) rfl (by decide) ?_
  refine dk_icmp_eq (t := 27) C dX8_checkBag_16 (n := 19) rfl (by decide) (fun c3 => ?_) (fun c3 => ?_)
  · have h := h.1 c3
    refine dk_xret ?_
    exact dk_vret C hr hlk dX8_checkBag_27 ⟨rfl, h⟩
  · have h := h.2 c3
    exact dk_xthrow C ht hlk hl dk_THUO dX8_checkBag_19 dX8_checkBag_22 dX8_checkBag_23 dX8_checkBag_26 ⟨Nat.le_of_ble_eq_true rfl, Nat.le_of_ble_eq_true rfl⟩ ⟨Nat.le_of_ble_eq_true rfl, Nat.le_of_ble_eq_true rfl⟩ (Nat.le_of_ble_eq_true rfl) rfl h
/-! X8_addThing -/
set_option maxRecDepth 20000 in
set_option maxHeartbeats 4000000 in
theorem ww_X8_addThing_30 {G : dk_G} {P : Program} {l : Launch} {e : Env} {S0 : State} {m : MethodId} {args : Array Value} {bel : List Frame} {meth : Method} {c : Code}  (C : dk_C G P (dk_rx 7) S0 m args c 0 0 cX8_addThing 5 RX8) (ht : ∀ x ∈ c.exceptionTable.toList, False) (hr : meth.sig.returnType = (some .int)) (hlk : meth.locks = false) (hl : l.stackTraces = false) (hri : dk_RI G) {K : Int32 → dk_S → Prop} {X : String → dk_S → Prop}  : ∀ (x1 : Int32) (x2 : Int32) (x3 : Int32) (x4 : Int32) (s : dk_S), wf_X8_addThing_30 K X x1 x2 x3 x4 s → dk_W G P l e (dk_rx 7) S0 m args bel meth c 0 0 (zx_MQ bel (dk_Qc G (dk_ki K)) (dk_XC G X) args S0 1 6 (dk_A G)) 30 [some (dk_r G 0 40), some (.int x1), some (.int x2), some (.int x3), some (.int x4)] [] s := by
  intro x1 x2 x3 x4 s h
  unfold wf_X8_addThing_30 at h
  refine dk_aload_n (i := 0) C dX8_addThing_30 (n := 31) rfl rfl rfl ?_
  refine dk_xcallVv C ht hlk [] (cc_X8_checkNoWorld C.D hl hri h) yy_X8_checkNoWorld dk_wm_X8_59 dk_sh40 (hri.1 40 (by decide) (by decide)) dX8_addThing_31 (fun s6 h => ?_) rfl rfl ⟨Nat.le_of_ble_eq_true rfl, Nat.le_of_ble_eq_true rfl⟩ ⟨Nat.le_of_ble_eq_true rfl, Nat.le_of_ble_eq_true rfl⟩ rfl (Nat.le_of_ble_eq_true rfl) rfl (n := 34) rfl
  refine dk_aload_n (i := 0) C dX8_addThing_34 (n := 35) rfl rfl rfl ?_
  refine gf_X8_12 C (hri.1 40 (by decide) (by decide)) dX8_addThing_35 (n := 38) rfl ?_
  refine gf_X8_136 C (hri.2.1 0 (by decide)) dX8_addThing_38 (n := 41) rfl ?_
  refine gf_X8_140 C (hri.2.1 23 (by decide)) dX8_addThing_41 (n := 44) rfl ?_
  refine dk_bipush (v := 24) C dX8_addThing_44 (n := 46) rfl (by decide) ?_
  refine dk_xcallSv C ht hlk [] (cc_X8_checkRoom C.D hl  h) yy_X8_checkRoom dk_wm_X8_126 dX8_addThing_46 (fun s7 h => ?_) rfl ⟨Nat.le_of_ble_eq_true rfl, Nat.le_of_ble_eq_true rfl⟩ ⟨Nat.le_of_ble_eq_true rfl, Nat.le_of_ble_eq_true rfl⟩ rfl (Nat.le_of_ble_eq_true rfl) rfl (n := 49) rfl
  refine dk_aload_n (i := 0) C dX8_addThing_49 (n := 50) rfl rfl rfl ?_
  refine dk_bipush (v := 110) C dX8_addThing_50 (n := 52) rfl (by decide) ?_
  refine pf_X8_36 C (by decide) (by decide) (hri.1 40 (by decide) (by decide)) dX8_addThing_52 (n := 55) rfl ?_
  refine dk_nameS (fun s8 es8 => ?_)
  have h := h s8 es8
  refine dk_aload_n (i := 0) C dX8_addThing_55 (n := 56) rfl rfl rfl ?_
  refine gf_X8_12 C (hri.1 40 (by decide) (by decide)) dX8_addThing_56 (n := 59) rfl ?_
  refine gf_X8_136 C (hri.2.1 0 (by decide)) dX8_addThing_59 (n := 62) rfl ?_
  refine dk_iload_n (i := 1) C dX8_addThing_62 (n := 63) rfl rfl rfl ?_
  refine dk_iload C dX8_addThing_63 (n := 65) rfl (i := 4) rfl ?_
  refine dk_iconst (v := (-1)) C dX8_addThing_65 (n := 66) rfl (by decide) ?_
  refine dk_icmp_ne (t := 77) C dX8_addThing_66 (n := 69) rfl (by decide) (fun c15 => ?_) (fun c15 => ?_)
  · have h := h.1 c15
    refine dk_bipush (v := (-3)) C dX8_addThing_77 (n := 79) rfl (by decide) ?_
    refine dk_iload C dX8_addThing_79 (n := 81) rfl (i := 4) rfl ?_
    refine dk_isub C dX8_addThing_81 (n := 82) rfl ?_
    refine dk_callVi C [] (cc_X6_add C.D hri.2.1 h) yy_X6_add dk_wm_X8_143 dk_sh23 (hri.2.1 23 (by decide)) dX8_addThing_82 (fun r10 s9 h => ?_) rfl rfl ⟨Nat.le_of_ble_eq_true rfl, Nat.le_of_ble_eq_true rfl⟩ rfl (Nat.le_of_ble_eq_true rfl) rfl (n := 85) rfl
    refine dk_xret ?_
    exact dk_iret C hr hlk rfl dX8_addThing_85 ⟨_, rfl, h⟩
  · have h := h.2 c15
    refine dk_iload_n (i := 2) C dX8_addThing_69 (n := 70) rfl rfl rfl ?_
    refine dk_iload_n (i := 3) C dX8_addThing_70 (n := 71) rfl rfl rfl ?_
    refine dk_callSi C [.int x1, dk_r G 1 23] (cc_X8_spot C.D  h) yy_X8_spot dk_wm_X8_66 dX8_addThing_71 (fun r12 s11 h => ?_) rfl ⟨Nat.le_of_ble_eq_true rfl, Nat.le_of_ble_eq_true rfl⟩ rfl (Nat.le_of_ble_eq_true rfl) rfl (n := 74) rfl
    refine dk_goto (t := 82) C dX8_addThing_74 (by decide) ?_
    refine dk_callVi C [] (cc_X6_add C.D hri.2.1 h) yy_X6_add dk_wm_X8_143 dk_sh23 (hri.2.1 23 (by decide)) dX8_addThing_82 (fun r14 s13 h => ?_) rfl rfl ⟨Nat.le_of_ble_eq_true rfl, Nat.le_of_ble_eq_true rfl⟩ rfl (Nat.le_of_ble_eq_true rfl) rfl (n := 85) rfl
    refine dk_xret ?_
    exact dk_iret C hr hlk rfl dX8_addThing_85 ⟨_, rfl, h⟩
set_option maxRecDepth 20000 in
set_option maxHeartbeats 4000000 in
theorem cc_X8_addThing {G : dk_G} {l : Launch} {a1 : Int32} {a2 : Int32} {a3 : Int32} {a4 : Int32} (hD : dk_D G) (hl : l.stackTraces = false) (hri : dk_RI G) {s : dk_S} {K : Int32 → dk_S → Prop} {X : String → dk_S → Prop} (h : wf_X8_addThing a1 a2 a3 a4 s K X) : dk_MX G l 7 yX8_addThing cX8_addThing 5 (some .int) [dk_r G 0 40, .int a1, .int a2, .int a3, .int a4] s (dk_ki K) X := by
  refine dk_xof hD (by decide) [some (dk_r G 0 40), some (.int a1), some (.int a2), some (.int a3), some (.int a4)] (fun q hq => hq) rfl (Nat.le_of_ble_eq_true rfl) (fun P e S0 m args bel meth c C ht hr hlk => ?_)
  unfold wf_X8_addThing at h
  refine dk_iload_n (i := 1) C dX8_addThing_0 (n := 1) rfl rfl rfl ?_
  refine dk_iconst (v := 0) C dX8_addThing_1 (n := 2) rfl (by decide) ?_
  refine dk_bipush (v := 7) C dX8_addThing_2 (n := 4) rfl (by decide) ?_
  refine dk_xcallSv C ht hlk [] (cc_X8_checkRange C.D hl  h) yy_X8_checkRange dk_wm_X8_80 dX8_addThing_4 (fun s1 h => ?_) rfl ⟨Nat.le_of_ble_eq_true rfl, Nat.le_of_ble_eq_true rfl⟩ ⟨Nat.le_of_ble_eq_true rfl, Nat.le_of_ble_eq_true rfl⟩ rfl (Nat.le_of_ble_eq_true rfl) rfl (n := 7) rfl
  refine dk_iload_n (i := 2) C dX8_addThing_7 (n := 8) rfl rfl rfl ?_
  refine dk_iload_n (i := 3) C dX8_addThing_8 (n := 9) rfl rfl rfl ?_
  refine dk_xcallSv C ht hlk [] (cc_X8_checkPlace C.D hl  h) yy_X8_checkPlace dk_wm_X8_44 dX8_addThing_9 (fun s2 h => ?_) rfl ⟨Nat.le_of_ble_eq_true rfl, Nat.le_of_ble_eq_true rfl⟩ ⟨Nat.le_of_ble_eq_true rfl, Nat.le_of_ble_eq_true rfl⟩ rfl (Nat.le_of_ble_eq_true rfl) rfl (n := 12) rfl
  refine dk_iload C dX8_addThing_12 (n := 14) rfl (i := 4) rfl ?_
  refine dk_iconst (v := (-1)) C dX8_addThing_14 (n := 15) rfl (by decide) ?_
  refine dk_icmp_eq (t := 30) C dX8_addThing_15 (n := 18) rfl (by decide) (fun c5 => ?_) (fun c5 => ?_)
  · have h := h.1 c5
    refine dk_sub (L0 := [some (dk_r G 0 40), some (.int a1), some (.int a2), some (.int a3), some (.int a4)]) ⟨rfl, ⟨rfl, ⟨rfl, ⟨rfl, ⟨rfl, trivial⟩⟩⟩⟩⟩ ?_
    exact ww_X8_addThing_30 C ht hr hlk hl hri  a1 a2 a3 a4 s2 h
  · have h := h.2 c5
    refine dk_aload_n (i := 0) C dX8_addThing_18 (n := 19) rfl rfl rfl ?_
    refine dk_iload C dX8_addThing_19 (n := 21) rfl (i := 4) rfl ?_
    refine dk_xcallVv C ht hlk [] (cc_X8_checkThing C.D hl hri h) yy_X8_checkThing dk_wm_X8_129 dk_sh40 (hri.1 40 (by decide) (by decide)) dX8_addThing_21 (fun s3 h => ?_) rfl rfl ⟨Nat.le_of_ble_eq_true rfl, Nat.le_of_ble_eq_true rfl⟩ ⟨Nat.le_of_ble_eq_true rfl, Nat.le_of_ble_eq_true rfl⟩ rfl (Nat.le_of_ble_eq_true rfl) rfl (n := 24) rfl
    refine dk_aload_n (i := 0) C dX8_addThing_24 (n := 25) rfl rfl rfl ?_
    refine dk_iload C dX8_addThing_25 (n := 27) rfl (i := 4) rfl ?_
    refine dk_xcallVv C ht hlk [] (cc_X8_checkBag C.D hl hri h) yy_X8_checkBag dk_wm_X8_133 dk_sh40 (hri.1 40 (by decide) (by decide)) dX8_addThing_27 (fun s4 h => ?_) rfl rfl ⟨Nat.le_of_ble_eq_true rfl, Nat.le_of_ble_eq_true rfl⟩ ⟨Nat.le_of_ble_eq_true rfl, Nat.le_of_ble_eq_true rfl⟩ rfl (Nat.le_of_ble_eq_true rfl) rfl (n := 30) rfl
    refine dk_sub (L0 := [some (dk_r G 0 40), some (.int a1), some (.int a2), some (.int a3), some (.int a4)]) ⟨rfl, ⟨rfl, ⟨rfl, ⟨rfl, ⟨rfl, trivial⟩⟩⟩⟩⟩ ?_
    exact ww_X8_addThing_30 C ht hr hlk hl hri  a1 a2 a3 a4 s4 h
/-! X8_begin -/
set_option maxRecDepth 20000 in
set_option maxHeartbeats 4000000 in
theorem cc_X8_begin {G : dk_G} {l : Launch} {a1 : Int32} (hD : dk_D G) (hl : l.stackTraces = false) (hri : dk_RI G) {s : dk_S} {K : Int32 → dk_S → Prop} {X : String → dk_S → Prop} (h : wf_X8_begin a1 s K X) : dk_MX G l 7 yX8_begin cX8_begin 2 (some .int) [dk_r G 0 40, .int a1] s (dk_ki K) X := by
  refine dk_xof hD (by decide) [some (dk_r G 0 40), some (.int a1)] (fun q hq => hq) rfl (Nat.le_of_ble_eq_true rfl) (fun P e S0 m args bel meth c C ht hr hlk => ?_)
  unfold wf_X8_begin at h
  refine dk_iload_n (i := 1) C dX8_begin_0 (n := 1) rfl rfl rfl ?_
  refine dk_if_ge (t := 12) C dX8_begin_1 (n := 4) rfl (by decide) (fun c15 => ?_) (fun c15 => ?_)
  · have h := h.1 c15
    refine dk_aload_n (i := 0) C dX8_begin_12 (n := 13) rfl rfl rfl ?_
    refine dk_xcallVv C ht hlk [] (cc_X8_checkNoWorld C.D hl hri h) yy_X8_checkNoWorld dk_wm_X8_59 dk_sh40 (hri.1 40 (by decide) (by decide)) dX8_begin_13 (fun s1 h => ?_) rfl rfl ⟨Nat.le_of_ble_eq_true rfl, Nat.le_of_ble_eq_true rfl⟩ ⟨Nat.le_of_ble_eq_true rfl, Nat.le_of_ble_eq_true rfl⟩ rfl (Nat.le_of_ble_eq_true rfl) rfl (n := 16) rfl
    refine dk_aload_n (i := 0) C dX8_begin_16 (n := 17) rfl rfl rfl ?_
    refine gf_X8_12 C (hri.1 40 (by decide) (by decide)) dX8_begin_17 (n := 20) rfl ?_
    refine gf_X8_111 C (hri.2.1 0 (by decide)) dX8_begin_20 (n := 23) rfl ?_
    refine dk_callVi C [] (cc_X2_allStandApart C.D hri.2.1 h) yy_X2_allStandApart dk_wm_X8_154 dk_sh13 (hri.2.1 13 (by decide)) dX8_begin_23 (fun r3 s2 h => ?_) rfl rfl ⟨Nat.le_of_ble_eq_true rfl, Nat.le_of_ble_eq_true rfl⟩ rfl (Nat.le_of_ble_eq_true rfl) rfl (n := 26) rfl
    refine dk_if_eq (t := 39) C dX8_begin_26 (n := 29) rfl (by decide) (fun c14 => ?_) (fun c14 => ?_)
    · have h := h.1 c14
      exact dk_xthrow C ht hlk hl dk_THIS dX8_begin_39 dX8_begin_42 dX8_begin_43 dX8_begin_46 ⟨Nat.le_of_ble_eq_true rfl, Nat.le_of_ble_eq_true rfl⟩ ⟨Nat.le_of_ble_eq_true rfl, Nat.le_of_ble_eq_true rfl⟩ (Nat.le_of_ble_eq_true rfl) rfl h
    · have h := h.2 c14
      refine dk_aload_n (i := 0) C dX8_begin_29 (n := 30) rfl rfl rfl ?_
      refine gf_X8_12 C (hri.1 40 (by decide) (by decide)) dX8_begin_30 (n := 33) rfl ?_
      refine dk_callVi C [] (cc_X7_allStandFree C.D hri.2.1 h) yy_X7_allStandFree dk_wm_X8_158 dk_sh0 (hri.2.1 0 (by decide)) dX8_begin_33 (fun r5 s4 h => ?_) rfl rfl ⟨Nat.le_of_ble_eq_true rfl, Nat.le_of_ble_eq_true rfl⟩ rfl (Nat.le_of_ble_eq_true rfl) rfl (n := 36) rfl
      refine dk_if_ne (t := 47) C dX8_begin_36 (n := 39) rfl (by decide) (fun c13 => ?_) (fun c13 => ?_)
      · have h := h.1 c13
        refine dk_aload_n (i := 0) C dX8_begin_47 (n := 48) rfl rfl rfl ?_
        refine dk_aload_n (i := 0) C dX8_begin_48 (n := 49) rfl rfl rfl ?_
        refine gf_X8_16 C (hri.1 40 (by decide) (by decide)) dX8_begin_49 (n := 52) rfl ?_
        refine dk_iload_n (i := 1) C dX8_begin_52 (n := 53) rfl rfl rfl ?_
        refine dk_callVv C [] (cc_X8_make C.D hri hri.2.2.1 h) yy_X8_make dk_wm_X8_164 dk_sh40 (hri.1 40 (by decide) (by decide)) dX8_begin_53 (fun s6 h => ?_) rfl rfl ⟨Nat.le_of_ble_eq_true rfl, Nat.le_of_ble_eq_true rfl⟩ rfl (Nat.le_of_ble_eq_true rfl) rfl (n := 56) rfl
        refine dk_aload_n (i := 0) C dX8_begin_56 (n := 57) rfl rfl rfl ?_
        refine dk_aload_n (i := 0) C dX8_begin_57 (n := 58) rfl rfl rfl ?_
        refine gf_X8_19 C (hri.1 40 (by decide) (by decide)) dX8_begin_58 (n := 61) rfl ?_
        refine dk_iload_n (i := 1) C dX8_begin_61 (n := 62) rfl rfl rfl ?_
        refine dk_callVv C [] (cc_X8_make C.D hri hri.2.2.2 h) yy_X8_make dk_wm_X8_164 dk_sh40 (hri.1 40 (by decide) (by decide)) dX8_begin_62 (fun s7 h => ?_) rfl rfl ⟨Nat.le_of_ble_eq_true rfl, Nat.le_of_ble_eq_true rfl⟩ rfl (Nat.le_of_ble_eq_true rfl) rfl (n := 65) rfl
        refine dk_aload_n (i := 0) C dX8_begin_65 (n := 66) rfl rfl rfl ?_
        refine gf_X8_25 C (hri.1 40 (by decide) (by decide)) dX8_begin_66 (n := 69) rfl ?_
        refine dk_iconst (v := 0) C dX8_begin_69 (n := 70) rfl (by decide) ?_
        refine pf_X8_168 C rfl rfl (hri.1 41 (by decide) (by decide)) dX8_begin_70 (n := 73) rfl ?_
        refine dk_nameS (fun s8 es8 => ?_)
        have h := h s8 es8
        refine dk_aload_n (i := 0) C dX8_begin_73 (n := 74) rfl rfl rfl ?_
        refine dk_iconst (v := 0) C dX8_begin_74 (n := 75) rfl (by decide) ?_
        refine pf_X8_40 C rfl rfl (hri.1 40 (by decide) (by decide)) dX8_begin_75 (n := 78) rfl ?_
        refine dk_nameS (fun s9 es9 => ?_)
        have h := h s9 es9
        refine dk_aload_n (i := 0) C dX8_begin_78 (n := 79) rfl rfl rfl ?_
        refine dk_bipush (v := 111) C dX8_begin_79 (n := 81) rfl (by decide) ?_
        refine pf_X8_36 C (by decide) (by decide) (hri.1 40 (by decide) (by decide)) dX8_begin_81 (n := 84) rfl ?_
        refine dk_nameS (fun s10 es10 => ?_)
        have h := h s10 es10
        refine dk_aload_n (i := 0) C dX8_begin_84 (n := 85) rfl rfl rfl ?_
        refine gf_X8_16 C (hri.1 40 (by decide) (by decide)) dX8_begin_85 (n := 88) rfl ?_
        refine dk_callVv C [] (cc_X7_waitForHero C.D hri.2.2.1 h) yy_X7_waitForHero dk_wm_X8_169 dk_sh0 (hri.2.2.1 0 (by decide)) dX8_begin_88 (fun s11 h => ?_) rfl rfl ⟨Nat.le_of_ble_eq_true rfl, Nat.le_of_ble_eq_true rfl⟩ rfl (Nat.le_of_ble_eq_true rfl) rfl (n := 91) rfl
        refine dk_aload_n (i := 0) C dX8_begin_91 (n := 92) rfl rfl rfl ?_
        refine dk_callVv C [] (cc_X8_settle C.D hri h) yy_X8_settle dk_wm_X8_172 dk_sh40 (hri.1 40 (by decide) (by decide)) dX8_begin_92 (fun s12 h => ?_) rfl rfl ⟨Nat.le_of_ble_eq_true rfl, Nat.le_of_ble_eq_true rfl⟩ rfl (Nat.le_of_ble_eq_true rfl) rfl (n := 95) rfl
        refine dk_aload_n (i := 0) C dX8_begin_95 (n := 96) rfl rfl rfl ?_
        refine gf_X8_16 C (hri.1 40 (by decide) (by decide)) dX8_begin_96 (n := 99) rfl ?_
        refine gf_X8_175 C (hri.2.2.1 0 (by decide)) dX8_begin_99 (n := 102) rfl ?_
        refine dk_xret ?_
        exact dk_iret C hr hlk rfl dX8_begin_102 ⟨_, rfl, h⟩
      · have h := h.2 c13
        exact dk_xthrow C ht hlk hl dk_THIS dX8_begin_39 dX8_begin_42 dX8_begin_43 dX8_begin_46 ⟨Nat.le_of_ble_eq_true rfl, Nat.le_of_ble_eq_true rfl⟩ ⟨Nat.le_of_ble_eq_true rfl, Nat.le_of_ble_eq_true rfl⟩ (Nat.le_of_ble_eq_true rfl) rfl h
  · have h := h.2 c15
    exact dk_xthrow C ht hlk hl dk_THIA dX8_begin_4 dX8_begin_7 dX8_begin_8 dX8_begin_11 ⟨Nat.le_of_ble_eq_true rfl, Nat.le_of_ble_eq_true rfl⟩ ⟨Nat.le_of_ble_eq_true rfl, Nat.le_of_ble_eq_true rfl⟩ (Nat.le_of_ble_eq_true rfl) rfl h
/-! X8_cell -/
set_option maxRecDepth 20000 in
set_option maxHeartbeats 4000000 in
theorem cc_X8_cell {G : dk_G} {l : Launch} {a1 : Int32} {a2 : Int32} (hD : dk_D G) (hl : l.stackTraces = false) (hri : dk_RI G) {s : dk_S} {K : Int32 → dk_S → Prop} {X : String → dk_S → Prop} (h : wf_X8_cell a1 a2 s K X) : dk_MX G l 7 yX8_cell cX8_cell 3 (some .char) [dk_r G 0 40, .int a1, .int a2] s (dk_ki K) X := by
  refine dk_xof hD (by decide) [some (dk_r G 0 40), some (.int a1), some (.int a2)] (fun q hq => hq) rfl (Nat.le_of_ble_eq_true rfl) (fun P e S0 m args bel meth c C ht hr hlk => ?_)
  unfold wf_X8_cell at h
  refine dk_iload_n (i := 1) C dX8_cell_0 (n := 1) rfl rfl rfl ?_
  refine dk_iload_n (i := 2) C dX8_cell_1 (n := 2) rfl rfl rfl ?_
  refine dk_xcallSv C ht hlk [] (cc_X8_checkPlace C.D hl  h) yy_X8_checkPlace dk_wm_X8_44 dX8_cell_2 (fun s1 h => ?_) rfl ⟨Nat.le_of_ble_eq_true rfl, Nat.le_of_ble_eq_true rfl⟩ ⟨Nat.le_of_ble_eq_true rfl, Nat.le_of_ble_eq_true rfl⟩ rfl (Nat.le_of_ble_eq_true rfl) rfl (n := 5) rfl
  refine dk_aload_n (i := 0) C dX8_cell_5 (n := 6) rfl rfl rfl ?_
  refine dk_callV (st' := []) C (cc_X8_shown C.D hri (s := s1)) yy_X8_shown dk_wm_X8_227 rfl ⟨Nat.le_of_ble_eq_true rfl, Nat.le_of_ble_eq_true rfl⟩ dk_sh40 rfl (hri.1 40 (by decide) (by decide)) rfl (Nat.le_of_ble_eq_true rfl) rfl dX8_cell_6 (n := 9) rfl (fun v9 s9 h9 => ?_)
  rcases h9 with ⟨c10, e8, e9⟩ | ⟨c10, e8, e9⟩
  · have h := h.1 c10
    rw [e8, e9]
    show dk_W _ _ _ _ _ _ _ _ _ _ _ _ _ _ 9 _ [dk_r G 1 0] s1
    refine gf_X8_62 C (hri.2.1 0 (by decide)) dX8_cell_9 (n := 12) rfl ?_
    refine dk_iload_n (i := 1) C dX8_cell_12 (n := 13) rfl rfl rfl ?_
    refine dk_iload_n (i := 2) C dX8_cell_13 (n := 14) rfl rfl rfl ?_
    refine dk_callSi C [dk_r G 1 1] (cc_X8_spot C.D  h) yy_X8_spot dk_wm_X8_66 dX8_cell_14 (fun r3 s2 h => ?_) rfl ⟨Nat.le_of_ble_eq_true rfl, Nat.le_of_ble_eq_true rfl⟩ rfl (Nat.le_of_ble_eq_true rfl) rfl (n := 17) rfl
    refine dk_callVi C [] (cc_X1_signAt C.D hri.2.1 h) yy_X1_signAt dk_wm_X8_70 dk_sh1 (hri.2.1 1 (by decide)) dX8_cell_17 (fun r5 s4 h => ?_) rfl rfl ⟨Nat.le_of_ble_eq_true rfl, Nat.le_of_ble_eq_true rfl⟩ rfl (Nat.le_of_ble_eq_true rfl) rfl (n := 20) rfl
    refine dk_xret ?_
    exact dk_iret C hr hlk h.1 dX8_cell_20 ⟨_, rfl, h.2⟩
  · have h := h.2 c10
    rw [e8, e9]
    show dk_W _ _ _ _ _ _ _ _ _ _ _ _ _ _ 9 _ [dk_r G 2 0] s1
    refine gf_X8_62 C (hri.2.2.1 0 (by decide)) dX8_cell_9 (n := 12) rfl ?_
    refine dk_iload_n (i := 1) C dX8_cell_12 (n := 13) rfl rfl rfl ?_
    refine dk_iload_n (i := 2) C dX8_cell_13 (n := 14) rfl rfl rfl ?_
    refine dk_callSi C [dk_r G 2 1] (cc_X8_spot C.D  h) yy_X8_spot dk_wm_X8_66 dX8_cell_14 (fun r7 s6 h => ?_) rfl ⟨Nat.le_of_ble_eq_true rfl, Nat.le_of_ble_eq_true rfl⟩ rfl (Nat.le_of_ble_eq_true rfl) rfl (n := 17) rfl
    refine dk_callVi C [] (cc_X1_signAt C.D hri.2.2.1 h) yy_X1_signAt dk_wm_X8_70 dk_sh1 (hri.2.2.1 1 (by decide)) dX8_cell_17 (fun r9 s8 h => ?_) rfl rfl ⟨Nat.le_of_ble_eq_true rfl, Nat.le_of_ble_eq_true rfl⟩ rfl (Nat.le_of_ble_eq_true rfl) rfl (n := 20) rfl
    refine dk_xret ?_
    exact dk_iret C hr hlk h.1 dX8_cell_20 ⟨_, rfl, h.2⟩
/-! X8_checkCarried -/
set_option maxRecDepth 20000 in
set_option maxHeartbeats 4000000 in
theorem cc_X8_checkCarried {G : dk_G} {l : Launch} {a1 : Int32} (hD : dk_D G) (hl : l.stackTraces = false) (hri : dk_RI G) {s : dk_S} {K : dk_S → Prop} {X : String → dk_S → Prop} (h : wf_X8_checkCarried a1 s K X) : dk_MX G l 6 yX8_checkCarried cX8_checkCarried 2 none [dk_r G 0 40, .int a1] s (dk_kv K) X := by
  refine dk_xof hD (by decide) [some (dk_r G 0 40), some (.int a1)] (fun q hq => hq) rfl (Nat.le_of_ble_eq_true rfl) (fun P e S0 m args bel meth c C ht hr hlk => ?_)
  unfold wf_X8_checkCarried at h
  refine dk_aload_n (i := 0) C dX8_checkCarried_0 (n := 1) rfl rfl rfl ?_
  refine gf_X8_16 C (hri.1 40 (by decide) (by decide)) dX8_checkCarried_1 (n := 4) rfl ?_
  refine gf_X8_136 C (hri.2.2.1 0 (by decide)) dX8_checkCarried_4 (n := 7) rfl ?_
  refine dk_iload_n (i := 1) C dX8_checkCarried_7 (n := 8) rfl rfl rfl ?_
  refine dk_callVi C [] (cc_X6_outerPlace C.D hri.2.2.1 h) yy_X6_outerPlace dk_wm_X8_305 dk_sh23 (hri.2.2.1 23 (by decide)) dX8_checkCarried_8 (fun r2 s1 h => ?_) rfl rfl ⟨Nat.le_of_ble_eq_true rfl, Nat.le_of_ble_eq_true rfl⟩ rfl (Nat.le_of_ble_eq_true rfl) rfl (n := 11) rfl
  refine dk_iconst (v := (-1)) C dX8_checkCarried_11 (n := 12) rfl (by decide) ?_
  refine dk_icmp_eq (t := 23) C dX8_checkCarried_12 (n := 15) rfl (by decide) (fun c3 => ?_) (fun c3 => ?_)
  · have h := h.1 c3
    refine dk_xret ?_
    exact dk_vret C hr hlk dX8_checkCarried_23 ⟨rfl, h⟩
  · have h := h.2 c3
    exact dk_xthrow C ht hlk hl dk_THNS dX8_checkCarried_15 dX8_checkCarried_18 dX8_checkCarried_19 dX8_checkCarried_22 ⟨Nat.le_of_ble_eq_true rfl, Nat.le_of_ble_eq_true rfl⟩ ⟨Nat.le_of_ble_eq_true rfl, Nat.le_of_ble_eq_true rfl⟩ (Nat.le_of_ble_eq_true rfl) rfl h
/-! X8_checkCreature -/
set_option maxRecDepth 20000 in
set_option maxHeartbeats 4000000 in
theorem cc_X8_checkCreature {G : dk_G} {l : Launch} {a1 : Int32} {a2 : Int32} (hD : dk_D G) (hl : l.stackTraces = false) (hri : dk_RI G) {s : dk_S} {K : dk_S → Prop} {X : String → dk_S → Prop} (h : wf_X8_checkCreature a1 a2 s K X) : dk_MX G l 6 yX8_checkCreature cX8_checkCreature 3 none [dk_r G 0 40, .int a1, .int a2] s (dk_kv K) X := by
  refine dk_xof hD (by decide) [some (dk_r G 0 40), some (.int a1), some (.int a2)] (fun q hq => hq) rfl (Nat.le_of_ble_eq_true rfl) (fun P e S0 m args bel meth c C ht hr hlk => ?_)
  unfold wf_X8_checkCreature at h
  refine dk_iload_n (i := 1) C dX8_checkCreature_0 (n := 1) rfl rfl rfl ?_
  refine dk_iload_n (i := 2) C dX8_checkCreature_1 (n := 2) rfl rfl rfl ?_
  refine dk_icmp_lt (t := 19) C dX8_checkCreature_2 (n := 5) rfl (by decide) (fun c2 => ?_) (fun c2 => ?_)
  · have h := h.1 c2
    exact dk_xthrow C ht hlk hl dk_THIO dX8_checkCreature_19 dX8_checkCreature_22 dX8_checkCreature_23 dX8_checkCreature_26 ⟨Nat.le_of_ble_eq_true rfl, Nat.le_of_ble_eq_true rfl⟩ ⟨Nat.le_of_ble_eq_true rfl, Nat.le_of_ble_eq_true rfl⟩ (Nat.le_of_ble_eq_true rfl) rfl h
  · have h := h.2 c2
    refine dk_iload_n (i := 1) C dX8_checkCreature_5 (n := 6) rfl rfl rfl ?_
    refine dk_aload_n (i := 0) C dX8_checkCreature_6 (n := 7) rfl rfl rfl ?_
    refine gf_X8_12 C (hri.1 40 (by decide) (by decide)) dX8_checkCreature_7 (n := 10) rfl ?_
    refine gf_X8_111 C (hri.2.1 0 (by decide)) dX8_checkCreature_10 (n := 13) rfl ?_
    refine gf_X8_123 C (hri.2.1 13 (by decide)) dX8_checkCreature_13 (n := 16) rfl ?_
    refine dk_icmp_lt (t := 27) C dX8_checkCreature_16 (n := 19) rfl (by decide) (fun c1 => ?_) (fun c1 => ?_)
    · have h := h.1 c1
      refine dk_xret ?_
      exact dk_vret C hr hlk dX8_checkCreature_27 ⟨rfl, h⟩
    · have h := h.2 c1
      exact dk_xthrow C ht hlk hl dk_THIO dX8_checkCreature_19 dX8_checkCreature_22 dX8_checkCreature_23 dX8_checkCreature_26 ⟨Nat.le_of_ble_eq_true rfl, Nat.le_of_ble_eq_true rfl⟩ ⟨Nat.le_of_ble_eq_true rfl, Nat.le_of_ble_eq_true rfl⟩ (Nat.le_of_ble_eq_true rfl) rfl h
/-! X8_checkInHands -/
set_option maxRecDepth 20000 in
set_option maxHeartbeats 4000000 in
theorem cc_X8_checkInHands {G : dk_G} {l : Launch} {a1 : Int32} (hD : dk_D G) (hl : l.stackTraces = false) (hri : dk_RI G) {s : dk_S} {K : dk_S → Prop} {X : String → dk_S → Prop} (h : wf_X8_checkInHands a1 s K X) : dk_MX G l 6 yX8_checkInHands cX8_checkInHands 2 none [dk_r G 0 40, .int a1] s (dk_kv K) X := by
  refine dk_xof hD (by decide) [some (dk_r G 0 40), some (.int a1)] (fun q hq => hq) rfl (Nat.le_of_ble_eq_true rfl) (fun P e S0 m args bel meth c C ht hr hlk => ?_)
  unfold wf_X8_checkInHands at h
  refine dk_aload_n (i := 0) C dX8_checkInHands_0 (n := 1) rfl rfl rfl ?_
  refine gf_X8_16 C (hri.1 40 (by decide) (by decide)) dX8_checkInHands_1 (n := 4) rfl ?_
  refine gf_X8_136 C (hri.2.2.1 0 (by decide)) dX8_checkInHands_4 (n := 7) rfl ?_
  refine gf_X8_189 C (hri.2.2.1 23 (by decide)) dX8_checkInHands_7 (n := 10) rfl ?_
  refine dk_iload_n (i := 1) C dX8_checkInHands_10 (n := 11) rfl rfl rfl ?_
  refine dk_callSi C [] (cc_X8_at C.D dk_sh25 (hri.2.2.1 25 (by decide)) h) yy_X8_at dk_wm_X8_94 dX8_checkInHands_11 (fun r2 s1 h => ?_) rfl ⟨Nat.le_of_ble_eq_true rfl, Nat.le_of_ble_eq_true rfl⟩ rfl (Nat.le_of_ble_eq_true rfl) rfl (n := 14) rfl
  refine dk_iconst (v := (-1)) C dX8_checkInHands_14 (n := 15) rfl (by decide) ?_
  refine dk_icmp_eq (t := 26) C dX8_checkInHands_15 (n := 18) rfl (by decide) (fun c3 => ?_) (fun c3 => ?_)
  · have h := h.1 c3
    refine dk_xret ?_
    exact dk_vret C hr hlk dX8_checkInHands_26 ⟨rfl, h⟩
  · have h := h.2 c3
    exact dk_xthrow C ht hlk hl dk_THNS dX8_checkInHands_18 dX8_checkInHands_21 dX8_checkInHands_22 dX8_checkInHands_25 ⟨Nat.le_of_ble_eq_true rfl, Nat.le_of_ble_eq_true rfl⟩ ⟨Nat.le_of_ble_eq_true rfl, Nat.le_of_ble_eq_true rfl⟩ (Nat.le_of_ble_eq_true rfl) rfl h
/-! X8_checkWay -/
set_option maxRecDepth 20000 in
set_option maxHeartbeats 4000000 in
theorem cc_X8_checkWay {G : dk_G} {l : Launch} {a0 : Int32} (hD : dk_D G) (hl : l.stackTraces = false)  {s : dk_S} {K : dk_S → Prop} {X : String → dk_S → Prop} (h : wf_X8_checkWay a0 s K X) : dk_MX G l 7 yX8_checkWay cX8_checkWay 1 none [.int a0] s (dk_kv K) X := by
  refine dk_xof hD (by decide) [some (.int a0)] (fun q hq => hq) rfl (Nat.le_of_ble_eq_true rfl) (fun P e S0 m args bel meth c C ht hr hlk => ?_)
  unfold wf_X8_checkWay at h
  refine dk_iload_n (i := 0) C dX8_checkWay_0 (n := 1) rfl rfl rfl ?_
  refine dk_iconst (v := 0) C dX8_checkWay_1 (n := 2) rfl (by decide) ?_
  refine dk_iconst (v := 3) C dX8_checkWay_2 (n := 3) rfl (by decide) ?_
  refine dk_xcallSv C ht hlk [] (cc_X8_checkRange C.D hl  h) yy_X8_checkRange dk_wm_X8_80 dX8_checkWay_3 (fun s1 h => ?_) rfl ⟨Nat.le_of_ble_eq_true rfl, Nat.le_of_ble_eq_true rfl⟩ ⟨Nat.le_of_ble_eq_true rfl, Nat.le_of_ble_eq_true rfl⟩ rfl (Nat.le_of_ble_eq_true rfl) rfl (n := 6) rfl
  refine dk_xret ?_
  exact dk_vret C hr hlk dX8_checkWay_6 ⟨rfl, h⟩
/-! X8_checkWorld -/
set_option maxRecDepth 20000 in
set_option maxHeartbeats 4000000 in
theorem cc_X8_checkWorld {G : dk_G} {l : Launch}  (hD : dk_D G) (hl : l.stackTraces = false) (hri : dk_RI G) {s : dk_S} {K : dk_S → Prop} {X : String → dk_S → Prop} (h : wf_X8_checkWorld s K X) : dk_MX G l 6 yX8_checkWorld cX8_checkWorld 1 none [dk_r G 0 40] s (dk_kv K) X := by
  refine dk_xof hD (by decide) [some (dk_r G 0 40)] (fun q hq => hq) rfl (Nat.le_of_ble_eq_true rfl) (fun P e S0 m args bel meth c C ht hr hlk => ?_)
  unfold wf_X8_checkWorld at h
  refine dk_aload_n (i := 0) C dX8_checkWorld_0 (n := 1) rfl rfl rfl ?_
  refine gf_X8_36 C (hri.1 40 (by decide) (by decide)) dX8_checkWorld_1 (n := 4) rfl ?_
  refine dk_bipush (v := 111) C dX8_checkWorld_4 (n := 6) rfl (by decide) ?_
  refine dk_icmp_eq (t := 17) C dX8_checkWorld_6 (n := 9) rfl (by decide) (fun c1 => ?_) (fun c1 => ?_)
  · have h := h.1 c1
    refine dk_xret ?_
    exact dk_vret C hr hlk dX8_checkWorld_17 ⟨rfl, h⟩
  · have h := h.2 c1
    exact dk_xthrow C ht hlk hl dk_THIS dX8_checkWorld_9 dX8_checkWorld_12 dX8_checkWorld_13 dX8_checkWorld_16 ⟨Nat.le_of_ble_eq_true rfl, Nat.le_of_ble_eq_true rfl⟩ ⟨Nat.le_of_ble_eq_true rfl, Nat.le_of_ble_eq_true rfl⟩ (Nat.le_of_ble_eq_true rfl) rfl h
/-! X8_drink -/
set_option maxRecDepth 20000 in
set_option maxHeartbeats 4000000 in
theorem cc_X8_drink {G : dk_G} {l : Launch} {a1 : Int32} (hD : dk_D G) (hl : l.stackTraces = false) (hri : dk_RI G) {s : dk_S} {K : Int32 → dk_S → Prop} {X : String → dk_S → Prop} (h : wf_X8_drink a1 s K X) : dk_MX G l 8 yX8_drink cX8_drink 2 (some .int) [dk_r G 0 40, .int a1] s (dk_ki K) X := by
  refine dk_xof hD (by decide) [some (dk_r G 0 40), some (.int a1)] (fun q hq => hq) rfl (Nat.le_of_ble_eq_true rfl) (fun P e S0 m args bel meth c C ht hr hlk => ?_)
  unfold wf_X8_drink at h
  refine dk_aload_n (i := 0) C dX8_drink_0 (n := 1) rfl rfl rfl ?_
  refine dk_iload_n (i := 1) C dX8_drink_1 (n := 2) rfl rfl rfl ?_
  refine dk_xcallVv C ht hlk [] (cc_X8_checkThing C.D hl hri h) yy_X8_checkThing dk_wm_X8_129 dk_sh40 (hri.1 40 (by decide) (by decide)) dX8_drink_2 (fun s1 h => ?_) rfl rfl ⟨Nat.le_of_ble_eq_true rfl, Nat.le_of_ble_eq_true rfl⟩ ⟨Nat.le_of_ble_eq_true rfl, Nat.le_of_ble_eq_true rfl⟩ rfl (Nat.le_of_ble_eq_true rfl) rfl (n := 5) rfl
  refine dk_aload_n (i := 0) C dX8_drink_5 (n := 6) rfl rfl rfl ?_
  refine dk_xcallVv C ht hlk [] (cc_X8_checkWorld C.D hl hri h) yy_X8_checkWorld dk_wm_X8_178 dk_sh40 (hri.1 40 (by decide) (by decide)) dX8_drink_6 (fun s2 h => ?_) rfl rfl ⟨Nat.le_of_ble_eq_true rfl, Nat.le_of_ble_eq_true rfl⟩ ⟨Nat.le_of_ble_eq_true rfl, Nat.le_of_ble_eq_true rfl⟩ rfl (Nat.le_of_ble_eq_true rfl) rfl (n := 9) rfl
  refine dk_aload_n (i := 0) C dX8_drink_9 (n := 10) rfl rfl rfl ?_
  refine dk_iload_n (i := 1) C dX8_drink_10 (n := 11) rfl rfl rfl ?_
  refine dk_xcallVv C ht hlk [] (cc_X8_checkInHands C.D hl hri h) yy_X8_checkInHands dk_wm_X8_210 dk_sh40 (hri.1 40 (by decide) (by decide)) dX8_drink_11 (fun s3 h => ?_) rfl rfl ⟨Nat.le_of_ble_eq_true rfl, Nat.le_of_ble_eq_true rfl⟩ ⟨Nat.le_of_ble_eq_true rfl, Nat.le_of_ble_eq_true rfl⟩ rfl (Nat.le_of_ble_eq_true rfl) rfl (n := 14) rfl
  refine dk_aload_n (i := 0) C dX8_drink_14 (n := 15) rfl rfl rfl ?_
  refine gf_X8_16 C (hri.1 40 (by decide) (by decide)) dX8_drink_15 (n := 18) rfl ?_
  refine gf_X8_136 C (hri.2.2.1 0 (by decide)) dX8_drink_18 (n := 21) rfl ?_
  refine gf_X8_220 C (hri.2.2.1 23 (by decide)) dX8_drink_21 (n := 24) rfl ?_
  refine dk_iload_n (i := 1) C dX8_drink_24 (n := 25) rfl rfl rfl ?_
  refine dk_callSi C [] (cc_X8_at C.D dk_sh24 (hri.2.2.1 24 (by decide)) h) yy_X8_at dk_wm_X8_94 dX8_drink_25 (fun r5 s4 h => ?_) rfl ⟨Nat.le_of_ble_eq_true rfl, Nat.le_of_ble_eq_true rfl⟩ rfl (Nat.le_of_ble_eq_true rfl) rfl (n := 28) rfl
  refine dk_callSi C [] (cc_X8_isPotion C.D  h) yy_X8_isPotion dk_wm_X8_223 dX8_drink_28 (fun r7 s6 h => ?_) rfl ⟨Nat.le_of_ble_eq_true rfl, Nat.le_of_ble_eq_true rfl⟩ rfl (Nat.le_of_ble_eq_true rfl) rfl (n := 31) rfl
  refine dk_if_ne (t := 42) C dX8_drink_31 (n := 34) rfl (by decide) (fun c10 => ?_) (fun c10 => ?_)
  · have h := h.1 c10
    refine dk_aload_n (i := 0) C dX8_drink_42 (n := 43) rfl rfl rfl ?_
    refine dk_iconst (v := 5) C dX8_drink_43 (n := 44) rfl (by decide) ?_
    refine dk_iload_n (i := 1) C dX8_drink_44 (n := 45) rfl rfl rfl ?_
    refine dk_iconst (v := 0) C dX8_drink_45 (n := 46) rfl (by decide) ?_
    refine dk_callVi C [] (cc_X8_act C.D hri h) yy_X8_act dk_wm_X8_184 dk_sh40 (hri.1 40 (by decide) (by decide)) dX8_drink_46 (fun r9 s8 h => ?_) rfl rfl ⟨Nat.le_of_ble_eq_true rfl, Nat.le_of_ble_eq_true rfl⟩ rfl (Nat.le_of_ble_eq_true rfl) rfl (n := 49) rfl
    refine dk_xret ?_
    exact dk_iret C hr hlk rfl dX8_drink_49 ⟨_, rfl, h⟩
  · have h := h.2 c10
    exact dk_xthrow C ht hlk hl dk_THUO dX8_drink_34 dX8_drink_37 dX8_drink_38 dX8_drink_41 ⟨Nat.le_of_ble_eq_true rfl, Nat.le_of_ble_eq_true rfl⟩ ⟨Nat.le_of_ble_eq_true rfl, Nat.le_of_ble_eq_true rfl⟩ (Nat.le_of_ble_eq_true rfl) rfl h
/-! X8_drop -/
set_option maxRecDepth 20000 in
set_option maxHeartbeats 4000000 in
theorem cc_X8_drop {G : dk_G} {l : Launch} {a1 : Int32} (hD : dk_D G) (hl : l.stackTraces = false) (hri : dk_RI G) {s : dk_S} {K : Int32 → dk_S → Prop} {X : String → dk_S → Prop} (h : wf_X8_drop a1 s K X) : dk_MX G l 8 yX8_drop cX8_drop 2 (some .int) [dk_r G 0 40, .int a1] s (dk_ki K) X := by
  refine dk_xof hD (by decide) [some (dk_r G 0 40), some (.int a1)] (fun q hq => hq) rfl (Nat.le_of_ble_eq_true rfl) (fun P e S0 m args bel meth c C ht hr hlk => ?_)
  unfold wf_X8_drop at h
  refine dk_aload_n (i := 0) C dX8_drop_0 (n := 1) rfl rfl rfl ?_
  refine dk_iload_n (i := 1) C dX8_drop_1 (n := 2) rfl rfl rfl ?_
  refine dk_xcallVv C ht hlk [] (cc_X8_checkThing C.D hl hri h) yy_X8_checkThing dk_wm_X8_129 dk_sh40 (hri.1 40 (by decide) (by decide)) dX8_drop_2 (fun s1 h => ?_) rfl rfl ⟨Nat.le_of_ble_eq_true rfl, Nat.le_of_ble_eq_true rfl⟩ ⟨Nat.le_of_ble_eq_true rfl, Nat.le_of_ble_eq_true rfl⟩ rfl (Nat.le_of_ble_eq_true rfl) rfl (n := 5) rfl
  refine dk_aload_n (i := 0) C dX8_drop_5 (n := 6) rfl rfl rfl ?_
  refine dk_xcallVv C ht hlk [] (cc_X8_checkWorld C.D hl hri h) yy_X8_checkWorld dk_wm_X8_178 dk_sh40 (hri.1 40 (by decide) (by decide)) dX8_drop_6 (fun s2 h => ?_) rfl rfl ⟨Nat.le_of_ble_eq_true rfl, Nat.le_of_ble_eq_true rfl⟩ ⟨Nat.le_of_ble_eq_true rfl, Nat.le_of_ble_eq_true rfl⟩ rfl (Nat.le_of_ble_eq_true rfl) rfl (n := 9) rfl
  refine dk_aload_n (i := 0) C dX8_drop_9 (n := 10) rfl rfl rfl ?_
  refine dk_iload_n (i := 1) C dX8_drop_10 (n := 11) rfl rfl rfl ?_
  refine dk_xcallVv C ht hlk [] (cc_X8_checkInHands C.D hl hri h) yy_X8_checkInHands dk_wm_X8_210 dk_sh40 (hri.1 40 (by decide) (by decide)) dX8_drop_11 (fun s3 h => ?_) rfl rfl ⟨Nat.le_of_ble_eq_true rfl, Nat.le_of_ble_eq_true rfl⟩ ⟨Nat.le_of_ble_eq_true rfl, Nat.le_of_ble_eq_true rfl⟩ rfl (Nat.le_of_ble_eq_true rfl) rfl (n := 14) rfl
  refine dk_aload_n (i := 0) C dX8_drop_14 (n := 15) rfl rfl rfl ?_
  refine dk_iconst (v := 3) C dX8_drop_15 (n := 16) rfl (by decide) ?_
  refine dk_iload_n (i := 1) C dX8_drop_16 (n := 17) rfl rfl rfl ?_
  refine dk_iconst (v := 0) C dX8_drop_17 (n := 18) rfl (by decide) ?_
  refine dk_callVi C [] (cc_X8_act C.D hri h) yy_X8_act dk_wm_X8_184 dk_sh40 (hri.1 40 (by decide) (by decide)) dX8_drop_18 (fun r5 s4 h => ?_) rfl rfl ⟨Nat.le_of_ble_eq_true rfl, Nat.le_of_ble_eq_true rfl⟩ rfl (Nat.le_of_ble_eq_true rfl) rfl (n := 21) rfl
  refine dk_xret ?_
  exact dk_iret C hr hlk rfl dX8_drop_21 ⟨_, rfl, h⟩
/-! X8_go -/
set_option maxRecDepth 20000 in
set_option maxHeartbeats 4000000 in
theorem cc_X8_go {G : dk_G} {l : Launch} {a1 : Int32} (hD : dk_D G) (hl : l.stackTraces = false) (hri : dk_RI G) {s : dk_S} {K : Int32 → dk_S → Prop} {X : String → dk_S → Prop} (h : wf_X8_go a1 s K X) : dk_MX G l 8 yX8_go cX8_go 3 (some .char) [dk_r G 0 40, .int a1] s (dk_ki K) X := by
  refine dk_xof hD (by decide) [some (dk_r G 0 40), some (.int a1), none] (fun q hq => hq) rfl (Nat.le_of_ble_eq_true rfl) (fun P e S0 m args bel meth c C ht hr hlk => ?_)
  unfold wf_X8_go at h
  refine dk_iload_n (i := 1) C dX8_go_0 (n := 1) rfl rfl rfl ?_
  refine dk_xcallSv C ht hlk [] (cc_X8_checkWay C.D hl  h) yy_X8_checkWay dk_wm_X8_181 dX8_go_1 (fun s1 h => ?_) rfl ⟨Nat.le_of_ble_eq_true rfl, Nat.le_of_ble_eq_true rfl⟩ ⟨Nat.le_of_ble_eq_true rfl, Nat.le_of_ble_eq_true rfl⟩ rfl (Nat.le_of_ble_eq_true rfl) rfl (n := 4) rfl
  refine dk_aload_n (i := 0) C dX8_go_4 (n := 5) rfl rfl rfl ?_
  refine dk_xcallVv C ht hlk [] (cc_X8_checkWorld C.D hl hri h) yy_X8_checkWorld dk_wm_X8_178 dk_sh40 (hri.1 40 (by decide) (by decide)) dX8_go_5 (fun s2 h => ?_) rfl rfl ⟨Nat.le_of_ble_eq_true rfl, Nat.le_of_ble_eq_true rfl⟩ ⟨Nat.le_of_ble_eq_true rfl, Nat.le_of_ble_eq_true rfl⟩ rfl (Nat.le_of_ble_eq_true rfl) rfl (n := 8) rfl
  refine dk_aload_n (i := 0) C dX8_go_8 (n := 9) rfl rfl rfl ?_
  refine dk_iconst (v := 0) C dX8_go_9 (n := 10) rfl (by decide) ?_
  refine dk_iload_n (i := 1) C dX8_go_10 (n := 11) rfl rfl rfl ?_
  refine dk_iconst (v := 0) C dX8_go_11 (n := 12) rfl (by decide) ?_
  refine dk_callVi C [] (cc_X8_act C.D hri h) yy_X8_act dk_wm_X8_184 dk_sh40 (hri.1 40 (by decide) (by decide)) dX8_go_12 (fun r4 s3 h => ?_) rfl rfl ⟨Nat.le_of_ble_eq_true rfl, Nat.le_of_ble_eq_true rfl⟩ rfl (Nat.le_of_ble_eq_true rfl) rfl (n := 15) rfl
  refine dk_istore_n (i := 2) (L' := [some (dk_r G 0 40), some (.int a1), some (.int r4)]) C dX8_go_15 (n := 16) rfl rfl (dk_nc_of rfl) (Nat.le_of_ble_eq_true rfl) rfl ?_
  refine dk_iload_n (i := 2) C dX8_go_16 (n := 17) rfl rfl rfl ?_
  refine dk_ldc (v := (-1000000)) C dX8_go_17 (n := 19) rfl dk_wk_X8_188 ?_
  refine dk_icmp_ne (t := 27) C dX8_go_19 (n := 22) rfl (by decide) (fun c5 => ?_) (fun c5 => ?_)
  · have h := h.1 c5
    refine dk_iload_n (i := 2) C dX8_go_27 (n := 28) rfl rfl rfl ?_
    refine dk_i2c C dX8_go_28 (n := 29) rfl rfl ?_
    refine dk_xret ?_
    exact dk_iret C hr hlk h.1 dX8_go_29 ⟨_, rfl, h.2⟩
  · have h := h.2 c5
    refine dk_bipush (v := 98) C dX8_go_22 (n := 24) rfl (by decide) ?_
    refine dk_goto (t := 29) C dX8_go_24 (by decide) ?_
    refine dk_xret ?_
    exact dk_iret C hr hlk (by decide) dX8_go_29 ⟨_, rfl, h⟩
/-! X8_healthOf -/
set_option maxRecDepth 20000 in
set_option maxHeartbeats 4000000 in
theorem cc_X8_healthOf {G : dk_G} {l : Launch} {a1 : Int32} (hD : dk_D G) (hl : l.stackTraces = false) (hri : dk_RI G) {s : dk_S} {K : Int32 → dk_S → Prop} {X : String → dk_S → Prop} (h : wf_X8_healthOf a1 s K X) : dk_MX G l 7 yX8_healthOf cX8_healthOf 2 (some .int) [dk_r G 0 40, .int a1] s (dk_ki K) X := by
  refine dk_xof hD (by decide) [some (dk_r G 0 40), some (.int a1)] (fun q hq => hq) rfl (Nat.le_of_ble_eq_true rfl) (fun P e S0 m args bel meth c C ht hr hlk => ?_)
  unfold wf_X8_healthOf at h
  refine dk_aload_n (i := 0) C dX8_healthOf_0 (n := 1) rfl rfl rfl ?_
  refine dk_iload_n (i := 1) C dX8_healthOf_1 (n := 2) rfl rfl rfl ?_
  refine dk_iconst (v := 0) C dX8_healthOf_2 (n := 3) rfl (by decide) ?_
  refine dk_xcallVv C ht hlk [] (cc_X8_checkCreature C.D hl hri h) yy_X8_checkCreature dk_wm_X8_237 dk_sh40 (hri.1 40 (by decide) (by decide)) dX8_healthOf_3 (fun s1 h => ?_) rfl rfl ⟨Nat.le_of_ble_eq_true rfl, Nat.le_of_ble_eq_true rfl⟩ ⟨Nat.le_of_ble_eq_true rfl, Nat.le_of_ble_eq_true rfl⟩ rfl (Nat.le_of_ble_eq_true rfl) rfl (n := 6) rfl
  refine dk_aload_n (i := 0) C dX8_healthOf_6 (n := 7) rfl rfl rfl ?_
  refine dk_callV (st' := []) C (cc_X8_shown C.D hri (s := s1)) yy_X8_shown dk_wm_X8_227 rfl ⟨Nat.le_of_ble_eq_true rfl, Nat.le_of_ble_eq_true rfl⟩ dk_sh40 rfl (hri.1 40 (by decide) (by decide)) rfl (Nat.le_of_ble_eq_true rfl) rfl dX8_healthOf_7 (n := 10) rfl (fun v9 s9 h9 => ?_)
  rcases h9 with ⟨c6, e8, e9⟩ | ⟨c6, e8, e9⟩
  · have h := h.1 c6
    rw [e8, e9]
    show dk_W _ _ _ _ _ _ _ _ _ _ _ _ _ _ 10 _ [dk_r G 1 0] s1
    refine gf_X8_111 C (hri.2.1 0 (by decide)) dX8_healthOf_10 (n := 13) rfl ?_
    refine gf_X8_115 C (hri.2.1 13 (by decide)) dX8_healthOf_13 (n := 16) rfl ?_
    refine dk_iload_n (i := 1) C dX8_healthOf_16 (n := 17) rfl rfl rfl ?_
    refine dk_callSi C [] (cc_X8_at C.D dk_sh18 (hri.2.1 18 (by decide)) h) yy_X8_at dk_wm_X8_94 dX8_healthOf_17 (fun r3 s2 h => ?_) rfl ⟨Nat.le_of_ble_eq_true rfl, Nat.le_of_ble_eq_true rfl⟩ rfl (Nat.le_of_ble_eq_true rfl) rfl (n := 20) rfl
    refine dk_xret ?_
    exact dk_iret C hr hlk rfl dX8_healthOf_20 ⟨_, rfl, h⟩
  · have h := h.2 c6
    rw [e8, e9]
    show dk_W _ _ _ _ _ _ _ _ _ _ _ _ _ _ 10 _ [dk_r G 2 0] s1
    refine gf_X8_111 C (hri.2.2.1 0 (by decide)) dX8_healthOf_10 (n := 13) rfl ?_
    refine gf_X8_115 C (hri.2.2.1 13 (by decide)) dX8_healthOf_13 (n := 16) rfl ?_
    refine dk_iload_n (i := 1) C dX8_healthOf_16 (n := 17) rfl rfl rfl ?_
    refine dk_callSi C [] (cc_X8_at C.D dk_sh18 (hri.2.2.1 18 (by decide)) h) yy_X8_at dk_wm_X8_94 dX8_healthOf_17 (fun r5 s4 h => ?_) rfl ⟨Nat.le_of_ble_eq_true rfl, Nat.le_of_ble_eq_true rfl⟩ rfl (Nat.le_of_ble_eq_true rfl) rfl (n := 20) rfl
    refine dk_xret ?_
    exact dk_iret C hr hlk rfl dX8_healthOf_20 ⟨_, rfl, h⟩
/-! X8_hurl -/
set_option maxRecDepth 20000 in
set_option maxHeartbeats 4000000 in
theorem cc_X8_hurl {G : dk_G} {l : Launch} {a1 : Int32} {a2 : Int32} (hD : dk_D G) (hl : l.stackTraces = false) (hri : dk_RI G) {s : dk_S} {K : Int32 → dk_S → Prop} {X : String → dk_S → Prop} (h : wf_X8_hurl a1 a2 s K X) : dk_MX G l 8 yX8_hurl cX8_hurl 3 (some .int) [dk_r G 0 40, .int a1, .int a2] s (dk_ki K) X := by
  refine dk_xof hD (by decide) [some (dk_r G 0 40), some (.int a1), some (.int a2)] (fun q hq => hq) rfl (Nat.le_of_ble_eq_true rfl) (fun P e S0 m args bel meth c C ht hr hlk => ?_)
  unfold wf_X8_hurl at h
  refine dk_aload_n (i := 0) C dX8_hurl_0 (n := 1) rfl rfl rfl ?_
  refine dk_iload_n (i := 1) C dX8_hurl_1 (n := 2) rfl rfl rfl ?_
  refine dk_xcallVv C ht hlk [] (cc_X8_checkThing C.D hl hri h) yy_X8_checkThing dk_wm_X8_129 dk_sh40 (hri.1 40 (by decide) (by decide)) dX8_hurl_2 (fun s1 h => ?_) rfl rfl ⟨Nat.le_of_ble_eq_true rfl, Nat.le_of_ble_eq_true rfl⟩ ⟨Nat.le_of_ble_eq_true rfl, Nat.le_of_ble_eq_true rfl⟩ rfl (Nat.le_of_ble_eq_true rfl) rfl (n := 5) rfl
  refine dk_iload_n (i := 2) C dX8_hurl_5 (n := 6) rfl rfl rfl ?_
  refine dk_xcallSv C ht hlk [] (cc_X8_checkWay C.D hl  h) yy_X8_checkWay dk_wm_X8_181 dX8_hurl_6 (fun s2 h => ?_) rfl ⟨Nat.le_of_ble_eq_true rfl, Nat.le_of_ble_eq_true rfl⟩ ⟨Nat.le_of_ble_eq_true rfl, Nat.le_of_ble_eq_true rfl⟩ rfl (Nat.le_of_ble_eq_true rfl) rfl (n := 9) rfl
  refine dk_aload_n (i := 0) C dX8_hurl_9 (n := 10) rfl rfl rfl ?_
  refine dk_xcallVv C ht hlk [] (cc_X8_checkWorld C.D hl hri h) yy_X8_checkWorld dk_wm_X8_178 dk_sh40 (hri.1 40 (by decide) (by decide)) dX8_hurl_10 (fun s3 h => ?_) rfl rfl ⟨Nat.le_of_ble_eq_true rfl, Nat.le_of_ble_eq_true rfl⟩ ⟨Nat.le_of_ble_eq_true rfl, Nat.le_of_ble_eq_true rfl⟩ rfl (Nat.le_of_ble_eq_true rfl) rfl (n := 13) rfl
  refine dk_aload_n (i := 0) C dX8_hurl_13 (n := 14) rfl rfl rfl ?_
  refine dk_iload_n (i := 1) C dX8_hurl_14 (n := 15) rfl rfl rfl ?_
  refine dk_xcallVv C ht hlk [] (cc_X8_checkInHands C.D hl hri h) yy_X8_checkInHands dk_wm_X8_210 dk_sh40 (hri.1 40 (by decide) (by decide)) dX8_hurl_15 (fun s4 h => ?_) rfl rfl ⟨Nat.le_of_ble_eq_true rfl, Nat.le_of_ble_eq_true rfl⟩ ⟨Nat.le_of_ble_eq_true rfl, Nat.le_of_ble_eq_true rfl⟩ rfl (Nat.le_of_ble_eq_true rfl) rfl (n := 18) rfl
  refine dk_aload_n (i := 0) C dX8_hurl_18 (n := 19) rfl rfl rfl ?_
  refine dk_bipush (v := 6) C dX8_hurl_19 (n := 21) rfl (by decide) ?_
  refine dk_iload_n (i := 1) C dX8_hurl_21 (n := 22) rfl rfl rfl ?_
  refine dk_iload_n (i := 2) C dX8_hurl_22 (n := 23) rfl rfl rfl ?_
  refine dk_callVi C [] (cc_X8_act C.D hri h) yy_X8_act dk_wm_X8_184 dk_sh40 (hri.1 40 (by decide) (by decide)) dX8_hurl_23 (fun r6 s5 h => ?_) rfl rfl ⟨Nat.le_of_ble_eq_true rfl, Nat.le_of_ble_eq_true rfl⟩ rfl (Nat.le_of_ble_eq_true rfl) rfl (n := 26) rfl
  refine dk_xret ?_
  exact dk_iret C hr hlk rfl dX8_hurl_26 ⟨_, rfl, h⟩
/-! X8_isSame -/
set_option maxRecDepth 20000 in
set_option maxHeartbeats 4000000 in
theorem cc_X8_isSame {G : dk_G} {l : Launch}  (hD : dk_D G) (hl : l.stackTraces = false) (hri : dk_RI G) {s : dk_S} {K : Int32 → dk_S → Prop} {X : String → dk_S → Prop} (h : wf_X8_isSame s K X) : dk_MX G l 8 yX8_isSame cX8_isSame 1 (some .boolean) [dk_r G 0 40] s (dk_ki K) X := by
  refine dk_xof hD (by decide) [some (dk_r G 0 40)] (fun q hq => hq) rfl (Nat.le_of_ble_eq_true rfl) (fun P e S0 m args bel meth c C ht hr hlk => ?_)
  unfold wf_X8_isSame at h
  refine dk_aload_n (i := 0) C dX8_isSame_0 (n := 1) rfl rfl rfl ?_
  refine gf_X8_36 C (hri.1 40 (by decide) (by decide)) dX8_isSame_1 (n := 4) rfl ?_
  refine dk_bipush (v := 110) C dX8_isSame_4 (n := 6) rfl (by decide) ?_
  refine dk_icmp_ne (t := 17) C dX8_isSame_6 (n := 9) rfl (by decide) (fun c4 => ?_) (fun c4 => ?_)
  · have h := h.1 c4
    refine dk_aload_n (i := 0) C dX8_isSame_17 (n := 18) rfl rfl rfl ?_
    refine dk_callVv C [] (cc_X8_redo C.D hri h) yy_X8_redo dk_wm_X8_253 dk_sh40 (hri.1 40 (by decide) (by decide)) dX8_isSame_18 (fun s1 h => ?_) rfl rfl ⟨Nat.le_of_ble_eq_true rfl, Nat.le_of_ble_eq_true rfl⟩ rfl (Nat.le_of_ble_eq_true rfl) rfl (n := 21) rfl
    refine dk_aload_n (i := 0) C dX8_isSame_21 (n := 22) rfl rfl rfl ?_
    refine gf_X8_16 C (hri.1 40 (by decide) (by decide)) dX8_isSame_22 (n := 25) rfl ?_
    refine dk_aload_n (i := 0) C dX8_isSame_25 (n := 26) rfl rfl rfl ?_
    refine gf_X8_19 C (hri.1 40 (by decide) (by decide)) dX8_isSame_26 (n := 29) rfl ?_
    refine dk_callVi C [] (cc_X7_isLike C.D hri.2.2.1 hri.2.2.2 h) yy_X7_isLike dk_wm_X8_256 dk_sh0 (hri.2.2.1 0 (by decide)) dX8_isSame_29 (fun r3 s2 h => ?_) rfl rfl ⟨Nat.le_of_ble_eq_true rfl, Nat.le_of_ble_eq_true rfl⟩ rfl (Nat.le_of_ble_eq_true rfl) rfl (n := 32) rfl
    refine dk_xret ?_
    exact dk_iret C hr hlk h.1 dX8_isSame_32 ⟨_, rfl, h.2⟩
  · have h := h.2 c4
    exact dk_xthrow C ht hlk hl dk_THIS dX8_isSame_9 dX8_isSame_12 dX8_isSame_13 dX8_isSame_16 ⟨Nat.le_of_ble_eq_true rfl, Nat.le_of_ble_eq_true rfl⟩ ⟨Nat.le_of_ble_eq_true rfl, Nat.le_of_ble_eq_true rfl⟩ (Nat.le_of_ble_eq_true rfl) rfl h
/-! X8_pack -/
set_option maxRecDepth 20000 in
set_option maxHeartbeats 4000000 in
theorem ww_X8_pack_15 {G : dk_G} {P : Program} {l : Launch} {e : Env} {S0 : State} {m : MethodId} {args : Array Value} {bel : List Frame} {meth : Method} {c : Code}  (C : dk_C G P (dk_rx 8) S0 m args c 0 0 cX8_pack 3 RX8) (ht : ∀ x ∈ c.exceptionTable.toList, False) (hr : meth.sig.returnType = (some .int)) (hlk : meth.locks = false) (hl : l.stackTraces = false) (hri : dk_RI G) {K : Int32 → dk_S → Prop} {X : String → dk_S → Prop}  : ∀ (x1 : Int32) (x2 : Int32) (s : dk_S), wf_X8_pack_15 K X x1 x2 s → dk_W G P l e (dk_rx 8) S0 m args bel meth c 0 0 (zx_MQ bel (dk_Qc G (dk_ki K)) (dk_XC G X) args S0 1 6 (dk_A G)) 15 [some (dk_r G 0 40), some (.int x1), some (.int x2)] [] s := by
  intro x1 x2 s h
  unfold wf_X8_pack_15 at h
  refine dk_aload_n (i := 0) C dX8_pack_15 (n := 16) rfl rfl rfl ?_
  refine dk_xcallVv C ht hlk [] (cc_X8_checkWorld C.D hl hri h) yy_X8_checkWorld dk_wm_X8_178 dk_sh40 (hri.1 40 (by decide) (by decide)) dX8_pack_16 (fun s4 h => ?_) rfl rfl ⟨Nat.le_of_ble_eq_true rfl, Nat.le_of_ble_eq_true rfl⟩ ⟨Nat.le_of_ble_eq_true rfl, Nat.le_of_ble_eq_true rfl⟩ rfl (Nat.le_of_ble_eq_true rfl) rfl (n := 19) rfl
  refine dk_aload_n (i := 0) C dX8_pack_19 (n := 20) rfl rfl rfl ?_
  refine dk_iload_n (i := 1) C dX8_pack_20 (n := 21) rfl rfl rfl ?_
  refine dk_xcallVv C ht hlk [] (cc_X8_checkCarried C.D hl hri h) yy_X8_checkCarried dk_wm_X8_213 dk_sh40 (hri.1 40 (by decide) (by decide)) dX8_pack_21 (fun s5 h => ?_) rfl rfl ⟨Nat.le_of_ble_eq_true rfl, Nat.le_of_ble_eq_true rfl⟩ ⟨Nat.le_of_ble_eq_true rfl, Nat.le_of_ble_eq_true rfl⟩ rfl (Nat.le_of_ble_eq_true rfl) rfl (n := 24) rfl
  refine dk_iload_n (i := 2) C dX8_pack_24 (n := 25) rfl rfl rfl ?_
  refine dk_iconst (v := (-1)) C dX8_pack_25 (n := 26) rfl (by decide) ?_
  refine dk_icmp_eq (t := 62) C dX8_pack_26 (n := 29) rfl (by decide) (fun c15 => ?_) (fun c15 => ?_)
  · have h := h.1 c15
    refine dk_aload_n (i := 0) C dX8_pack_62 (n := 63) rfl rfl rfl ?_
    refine dk_iconst (v := 4) C dX8_pack_63 (n := 64) rfl (by decide) ?_
    refine dk_iload_n (i := 1) C dX8_pack_64 (n := 65) rfl rfl rfl ?_
    refine dk_iload_n (i := 2) C dX8_pack_65 (n := 66) rfl rfl rfl ?_
    refine dk_callVi C [] (cc_X8_act C.D hri h) yy_X8_act dk_wm_X8_184 dk_sh40 (hri.1 40 (by decide) (by decide)) dX8_pack_66 (fun r7 s6 h => ?_) rfl rfl ⟨Nat.le_of_ble_eq_true rfl, Nat.le_of_ble_eq_true rfl⟩ rfl (Nat.le_of_ble_eq_true rfl) rfl (n := 69) rfl
    refine dk_xret ?_
    exact dk_iret C hr hlk rfl dX8_pack_69 ⟨_, rfl, h⟩
  · have h := h.2 c15
    refine dk_aload_n (i := 0) C dX8_pack_29 (n := 30) rfl rfl rfl ?_
    refine dk_iload_n (i := 2) C dX8_pack_30 (n := 31) rfl rfl rfl ?_
    refine dk_xcallVv C ht hlk [] (cc_X8_checkCarried C.D hl hri h) yy_X8_checkCarried dk_wm_X8_213 dk_sh40 (hri.1 40 (by decide) (by decide)) dX8_pack_31 (fun s8 h => ?_) rfl rfl ⟨Nat.le_of_ble_eq_true rfl, Nat.le_of_ble_eq_true rfl⟩ ⟨Nat.le_of_ble_eq_true rfl, Nat.le_of_ble_eq_true rfl⟩ rfl (Nat.le_of_ble_eq_true rfl) rfl (n := 34) rfl
    refine dk_aload_n (i := 0) C dX8_pack_34 (n := 35) rfl rfl rfl ?_
    refine dk_iload_n (i := 2) C dX8_pack_35 (n := 36) rfl rfl rfl ?_
    refine dk_xcallVv C ht hlk [] (cc_X8_checkBag C.D hl hri h) yy_X8_checkBag dk_wm_X8_133 dk_sh40 (hri.1 40 (by decide) (by decide)) dX8_pack_36 (fun s9 h => ?_) rfl rfl ⟨Nat.le_of_ble_eq_true rfl, Nat.le_of_ble_eq_true rfl⟩ ⟨Nat.le_of_ble_eq_true rfl, Nat.le_of_ble_eq_true rfl⟩ rfl (Nat.le_of_ble_eq_true rfl) rfl (n := 39) rfl
    refine dk_aload_n (i := 0) C dX8_pack_39 (n := 40) rfl rfl rfl ?_
    refine gf_X8_16 C (hri.1 40 (by decide) (by decide)) dX8_pack_40 (n := 43) rfl ?_
    refine gf_X8_136 C (hri.2.2.1 0 (by decide)) dX8_pack_43 (n := 46) rfl ?_
    refine dk_iload_n (i := 2) C dX8_pack_46 (n := 47) rfl rfl rfl ?_
    refine dk_iload_n (i := 1) C dX8_pack_47 (n := 48) rfl rfl rfl ?_
    refine dk_callVi C [] (cc_X6_isWithin C.D hri.2.2.1 h) yy_X6_isWithin dk_wm_X8_216 dk_sh23 (hri.2.2.1 23 (by decide)) dX8_pack_48 (fun r11 s10 h => ?_) rfl rfl ⟨Nat.le_of_ble_eq_true rfl, Nat.le_of_ble_eq_true rfl⟩ rfl (Nat.le_of_ble_eq_true rfl) rfl (n := 51) rfl
    refine dk_if_eq (t := 62) C dX8_pack_51 (n := 54) rfl (by decide) (fun c14 => ?_) (fun c14 => ?_)
    · have h := h.1 c14
      refine dk_aload_n (i := 0) C dX8_pack_62 (n := 63) rfl rfl rfl ?_
      refine dk_iconst (v := 4) C dX8_pack_63 (n := 64) rfl (by decide) ?_
      refine dk_iload_n (i := 1) C dX8_pack_64 (n := 65) rfl rfl rfl ?_
      refine dk_iload_n (i := 2) C dX8_pack_65 (n := 66) rfl rfl rfl ?_
      refine dk_callVi C [] (cc_X8_act C.D hri h) yy_X8_act dk_wm_X8_184 dk_sh40 (hri.1 40 (by decide) (by decide)) dX8_pack_66 (fun r13 s12 h => ?_) rfl rfl ⟨Nat.le_of_ble_eq_true rfl, Nat.le_of_ble_eq_true rfl⟩ rfl (Nat.le_of_ble_eq_true rfl) rfl (n := 69) rfl
      refine dk_xret ?_
      exact dk_iret C hr hlk rfl dX8_pack_69 ⟨_, rfl, h⟩
    · have h := h.2 c14
      exact dk_xthrow C ht hlk hl dk_THUO dX8_pack_54 dX8_pack_57 dX8_pack_58 dX8_pack_61 ⟨Nat.le_of_ble_eq_true rfl, Nat.le_of_ble_eq_true rfl⟩ ⟨Nat.le_of_ble_eq_true rfl, Nat.le_of_ble_eq_true rfl⟩ (Nat.le_of_ble_eq_true rfl) rfl h
set_option maxRecDepth 20000 in
set_option maxHeartbeats 4000000 in
theorem cc_X8_pack {G : dk_G} {l : Launch} {a1 : Int32} {a2 : Int32} (hD : dk_D G) (hl : l.stackTraces = false) (hri : dk_RI G) {s : dk_S} {K : Int32 → dk_S → Prop} {X : String → dk_S → Prop} (h : wf_X8_pack a1 a2 s K X) : dk_MX G l 8 yX8_pack cX8_pack 3 (some .int) [dk_r G 0 40, .int a1, .int a2] s (dk_ki K) X := by
  refine dk_xof hD (by decide) [some (dk_r G 0 40), some (.int a1), some (.int a2)] (fun q hq => hq) rfl (Nat.le_of_ble_eq_true rfl) (fun P e S0 m args bel meth c C ht hr hlk => ?_)
  unfold wf_X8_pack at h
  refine dk_aload_n (i := 0) C dX8_pack_0 (n := 1) rfl rfl rfl ?_
  refine dk_iload_n (i := 1) C dX8_pack_1 (n := 2) rfl rfl rfl ?_
  refine dk_xcallVv C ht hlk [] (cc_X8_checkThing C.D hl hri h) yy_X8_checkThing dk_wm_X8_129 dk_sh40 (hri.1 40 (by decide) (by decide)) dX8_pack_2 (fun s1 h => ?_) rfl rfl ⟨Nat.le_of_ble_eq_true rfl, Nat.le_of_ble_eq_true rfl⟩ ⟨Nat.le_of_ble_eq_true rfl, Nat.le_of_ble_eq_true rfl⟩ rfl (Nat.le_of_ble_eq_true rfl) rfl (n := 5) rfl
  refine dk_iload_n (i := 2) C dX8_pack_5 (n := 6) rfl rfl rfl ?_
  refine dk_iconst (v := (-1)) C dX8_pack_6 (n := 7) rfl (by decide) ?_
  refine dk_icmp_eq (t := 15) C dX8_pack_7 (n := 10) rfl (by decide) (fun c3 => ?_) (fun c3 => ?_)
  · have h := h.1 c3
    refine dk_sub (L0 := [some (dk_r G 0 40), some (.int a1), some (.int a2)]) ⟨rfl, ⟨rfl, ⟨rfl, trivial⟩⟩⟩ ?_
    exact ww_X8_pack_15 C ht hr hlk hl hri  a1 a2 s1 h
  · have h := h.2 c3
    refine dk_aload_n (i := 0) C dX8_pack_10 (n := 11) rfl rfl rfl ?_
    refine dk_iload_n (i := 2) C dX8_pack_11 (n := 12) rfl rfl rfl ?_
    refine dk_xcallVv C ht hlk [] (cc_X8_checkThing C.D hl hri h) yy_X8_checkThing dk_wm_X8_129 dk_sh40 (hri.1 40 (by decide) (by decide)) dX8_pack_12 (fun s2 h => ?_) rfl rfl ⟨Nat.le_of_ble_eq_true rfl, Nat.le_of_ble_eq_true rfl⟩ ⟨Nat.le_of_ble_eq_true rfl, Nat.le_of_ble_eq_true rfl⟩ rfl (Nat.le_of_ble_eq_true rfl) rfl (n := 15) rfl
    refine dk_sub (L0 := [some (dk_r G 0 40), some (.int a1), some (.int a2)]) ⟨rfl, ⟨rfl, ⟨rfl, trivial⟩⟩⟩ ?_
    exact ww_X8_pack_15 C ht hr hlk hl hri  a1 a2 s2 h
/-! X8_placeOf -/
set_option maxRecDepth 20000 in
set_option maxHeartbeats 4000000 in
theorem cc_X8_placeOf {G : dk_G} {l : Launch} {a1 : Int32} (hD : dk_D G) (hl : l.stackTraces = false) (hri : dk_RI G) {s : dk_S} {K : Int32 → dk_S → Prop} {X : String → dk_S → Prop} (h : wf_X8_placeOf a1 s K X) : dk_MX G l 7 yX8_placeOf cX8_placeOf 2 (some .int) [dk_r G 0 40, .int a1] s (dk_ki K) X := by
  refine dk_xof hD (by decide) [some (dk_r G 0 40), some (.int a1)] (fun q hq => hq) rfl (Nat.le_of_ble_eq_true rfl) (fun P e S0 m args bel meth c C ht hr hlk => ?_)
  unfold wf_X8_placeOf at h
  refine dk_aload_n (i := 0) C dX8_placeOf_0 (n := 1) rfl rfl rfl ?_
  refine dk_iload_n (i := 1) C dX8_placeOf_1 (n := 2) rfl rfl rfl ?_
  refine dk_iconst (v := 0) C dX8_placeOf_2 (n := 3) rfl (by decide) ?_
  refine dk_xcallVv C ht hlk [] (cc_X8_checkCreature C.D hl hri h) yy_X8_checkCreature dk_wm_X8_237 dk_sh40 (hri.1 40 (by decide) (by decide)) dX8_placeOf_3 (fun s1 h => ?_) rfl rfl ⟨Nat.le_of_ble_eq_true rfl, Nat.le_of_ble_eq_true rfl⟩ ⟨Nat.le_of_ble_eq_true rfl, Nat.le_of_ble_eq_true rfl⟩ rfl (Nat.le_of_ble_eq_true rfl) rfl (n := 6) rfl
  refine dk_aload_n (i := 0) C dX8_placeOf_6 (n := 7) rfl rfl rfl ?_
  refine dk_callV (st' := []) C (cc_X8_shown C.D hri (s := s1)) yy_X8_shown dk_wm_X8_227 rfl ⟨Nat.le_of_ble_eq_true rfl, Nat.le_of_ble_eq_true rfl⟩ dk_sh40 rfl (hri.1 40 (by decide) (by decide)) rfl (Nat.le_of_ble_eq_true rfl) rfl dX8_placeOf_7 (n := 10) rfl (fun v9 s9 h9 => ?_)
  rcases h9 with ⟨c10, e8, e9⟩ | ⟨c10, e8, e9⟩
  · have h := h.1 c10
    rw [e8, e9]
    show dk_W _ _ _ _ _ _ _ _ _ _ _ _ _ _ 10 _ [dk_r G 1 0] s1
    refine gf_X8_111 C (hri.2.1 0 (by decide)) dX8_placeOf_10 (n := 13) rfl ?_
    refine gf_X8_240 C (hri.2.1 13 (by decide)) dX8_placeOf_13 (n := 16) rfl ?_
    refine dk_iload_n (i := 1) C dX8_placeOf_16 (n := 17) rfl rfl rfl ?_
    refine dk_callSi C [] (cc_X8_at C.D dk_sh14 (hri.2.1 14 (by decide)) h) yy_X8_at dk_wm_X8_94 dX8_placeOf_17 (fun r3 s2 h => ?_) rfl ⟨Nat.le_of_ble_eq_true rfl, Nat.le_of_ble_eq_true rfl⟩ rfl (Nat.le_of_ble_eq_true rfl) rfl (n := 20) rfl
    refine dk_callSi C [] (cc_X8_shownPlace C.D  h) yy_X8_shownPlace dk_wm_X8_241 dX8_placeOf_20 (fun r5 s4 h => ?_) rfl ⟨Nat.le_of_ble_eq_true rfl, Nat.le_of_ble_eq_true rfl⟩ rfl (Nat.le_of_ble_eq_true rfl) rfl (n := 23) rfl
    refine dk_xret ?_
    exact dk_iret C hr hlk rfl dX8_placeOf_23 ⟨_, rfl, h⟩
  · have h := h.2 c10
    rw [e8, e9]
    show dk_W _ _ _ _ _ _ _ _ _ _ _ _ _ _ 10 _ [dk_r G 2 0] s1
    refine gf_X8_111 C (hri.2.2.1 0 (by decide)) dX8_placeOf_10 (n := 13) rfl ?_
    refine gf_X8_240 C (hri.2.2.1 13 (by decide)) dX8_placeOf_13 (n := 16) rfl ?_
    refine dk_iload_n (i := 1) C dX8_placeOf_16 (n := 17) rfl rfl rfl ?_
    refine dk_callSi C [] (cc_X8_at C.D dk_sh14 (hri.2.2.1 14 (by decide)) h) yy_X8_at dk_wm_X8_94 dX8_placeOf_17 (fun r7 s6 h => ?_) rfl ⟨Nat.le_of_ble_eq_true rfl, Nat.le_of_ble_eq_true rfl⟩ rfl (Nat.le_of_ble_eq_true rfl) rfl (n := 20) rfl
    refine dk_callSi C [] (cc_X8_shownPlace C.D  h) yy_X8_shownPlace dk_wm_X8_241 dX8_placeOf_20 (fun r9 s8 h => ?_) rfl ⟨Nat.le_of_ble_eq_true rfl, Nat.le_of_ble_eq_true rfl⟩ rfl (Nat.le_of_ble_eq_true rfl) rfl (n := 23) rfl
    refine dk_xret ?_
    exact dk_iret C hr hlk rfl dX8_placeOf_23 ⟨_, rfl, h⟩
/-! X8_pray -/
set_option maxRecDepth 20000 in
set_option maxHeartbeats 4000000 in
theorem cc_X8_pray {G : dk_G} {l : Launch}  (hD : dk_D G) (hl : l.stackTraces = false) (hri : dk_RI G) {s : dk_S} {K : Int32 → dk_S → Prop} {X : String → dk_S → Prop} (h : wf_X8_pray s K X) : dk_MX G l 8 yX8_pray cX8_pray 1 (some .int) [dk_r G 0 40] s (dk_ki K) X := by
  refine dk_xof hD (by decide) [some (dk_r G 0 40)] (fun q hq => hq) rfl (Nat.le_of_ble_eq_true rfl) (fun P e S0 m args bel meth c C ht hr hlk => ?_)
  unfold wf_X8_pray at h
  refine dk_aload_n (i := 0) C dX8_pray_0 (n := 1) rfl rfl rfl ?_
  refine dk_xcallVv C ht hlk [] (cc_X8_checkWorld C.D hl hri h) yy_X8_checkWorld dk_wm_X8_178 dk_sh40 (hri.1 40 (by decide) (by decide)) dX8_pray_1 (fun s1 h => ?_) rfl rfl ⟨Nat.le_of_ble_eq_true rfl, Nat.le_of_ble_eq_true rfl⟩ ⟨Nat.le_of_ble_eq_true rfl, Nat.le_of_ble_eq_true rfl⟩ rfl (Nat.le_of_ble_eq_true rfl) rfl (n := 4) rfl
  refine dk_aload_n (i := 0) C dX8_pray_4 (n := 5) rfl rfl rfl ?_
  refine dk_bipush (v := 8) C dX8_pray_5 (n := 7) rfl (by decide) ?_
  refine dk_iconst (v := 0) C dX8_pray_7 (n := 8) rfl (by decide) ?_
  refine dk_iconst (v := 0) C dX8_pray_8 (n := 9) rfl (by decide) ?_
  refine dk_callVi C [] (cc_X8_act C.D hri h) yy_X8_act dk_wm_X8_184 dk_sh40 (hri.1 40 (by decide) (by decide)) dX8_pray_9 (fun r3 s2 h => ?_) rfl rfl ⟨Nat.le_of_ble_eq_true rfl, Nat.le_of_ble_eq_true rfl⟩ rfl (Nat.le_of_ble_eq_true rfl) rfl (n := 12) rfl
  refine dk_xret ?_
  exact dk_iret C hr hlk rfl dX8_pray_12 ⟨_, rfl, h⟩
/-! X8_rest -/
set_option maxRecDepth 20000 in
set_option maxHeartbeats 4000000 in
theorem cc_X8_rest {G : dk_G} {l : Launch}  (hD : dk_D G) (hl : l.stackTraces = false) (hri : dk_RI G) {s : dk_S} {K : Int32 → dk_S → Prop} {X : String → dk_S → Prop} (h : wf_X8_rest s K X) : dk_MX G l 8 yX8_rest cX8_rest 1 (some .int) [dk_r G 0 40] s (dk_ki K) X := by
  refine dk_xof hD (by decide) [some (dk_r G 0 40)] (fun q hq => hq) rfl (Nat.le_of_ble_eq_true rfl) (fun P e S0 m args bel meth c C ht hr hlk => ?_)
  unfold wf_X8_rest at h
  refine dk_aload_n (i := 0) C dX8_rest_0 (n := 1) rfl rfl rfl ?_
  refine dk_xcallVv C ht hlk [] (cc_X8_checkWorld C.D hl hri h) yy_X8_checkWorld dk_wm_X8_178 dk_sh40 (hri.1 40 (by decide) (by decide)) dX8_rest_1 (fun s1 h => ?_) rfl rfl ⟨Nat.le_of_ble_eq_true rfl, Nat.le_of_ble_eq_true rfl⟩ ⟨Nat.le_of_ble_eq_true rfl, Nat.le_of_ble_eq_true rfl⟩ rfl (Nat.le_of_ble_eq_true rfl) rfl (n := 4) rfl
  refine dk_aload_n (i := 0) C dX8_rest_4 (n := 5) rfl rfl rfl ?_
  refine dk_iconst (v := 1) C dX8_rest_5 (n := 6) rfl (by decide) ?_
  refine dk_iconst (v := 0) C dX8_rest_6 (n := 7) rfl (by decide) ?_
  refine dk_iconst (v := 0) C dX8_rest_7 (n := 8) rfl (by decide) ?_
  refine dk_callVi C [] (cc_X8_act C.D hri h) yy_X8_act dk_wm_X8_184 dk_sh40 (hri.1 40 (by decide) (by decide)) dX8_rest_8 (fun r3 s2 h => ?_) rfl rfl ⟨Nat.le_of_ble_eq_true rfl, Nat.le_of_ble_eq_true rfl⟩ rfl (Nat.le_of_ble_eq_true rfl) rfl (n := 11) rfl
  refine dk_pop C dX8_rest_11 (n := 12) rfl rfl ?_
  refine dk_aload_n (i := 0) C dX8_rest_12 (n := 13) rfl rfl rfl ?_
  refine gf_X8_16 C (hri.1 40 (by decide) (by decide)) dX8_rest_13 (n := 16) rfl ?_
  refine gf_X8_175 C (hri.2.2.1 0 (by decide)) dX8_rest_16 (n := 19) rfl ?_
  refine dk_xret ?_
  exact dk_iret C hr hlk rfl dX8_rest_19 ⟨_, rfl, h⟩
/-! X8_setHero -/
set_option maxRecDepth 20000 in
set_option maxHeartbeats 4000000 in
theorem cc_X8_setHero {G : dk_G} {l : Launch} {a1 : Int32} {a2 : Int32} {a3 : Int32} {a4 : Int32} (hD : dk_D G) (hl : l.stackTraces = false) (hri : dk_RI G) {s : dk_S} {K : Int32 → dk_S → Prop} {X : String → dk_S → Prop} (h : wf_X8_setHero a1 a2 a3 a4 s K X) : dk_MX G l 7 yX8_setHero cX8_setHero 6 (some .int) [dk_r G 0 40, .int a1, .int a2, .int a3, .int a4] s (dk_ki K) X := by
  refine dk_xof hD (by decide) [some (dk_r G 0 40), some (.int a1), some (.int a2), some (.int a3), some (.int a4), none] (fun q hq => hq) rfl (Nat.le_of_ble_eq_true rfl) (fun P e S0 m args bel meth c C ht hr hlk => ?_)
  unfold wf_X8_setHero at h
  refine dk_iload_n (i := 1) C dX8_setHero_0 (n := 1) rfl rfl rfl ?_
  refine dk_iload_n (i := 2) C dX8_setHero_1 (n := 2) rfl rfl rfl ?_
  refine dk_xcallSv C ht hlk [] (cc_X8_checkPlace C.D hl  h) yy_X8_checkPlace dk_wm_X8_44 dX8_setHero_2 (fun s1 h => ?_) rfl ⟨Nat.le_of_ble_eq_true rfl, Nat.le_of_ble_eq_true rfl⟩ ⟨Nat.le_of_ble_eq_true rfl, Nat.le_of_ble_eq_true rfl⟩ rfl (Nat.le_of_ble_eq_true rfl) rfl (n := 5) rfl
  refine dk_iload_n (i := 3) C dX8_setHero_5 (n := 6) rfl rfl rfl ?_
  refine dk_iconst (v := 1) C dX8_setHero_6 (n := 7) rfl (by decide) ?_
  refine dk_bipush (v := 24) C dX8_setHero_7 (n := 9) rfl (by decide) ?_
  refine dk_xcallSv C ht hlk [] (cc_X8_checkRange C.D hl  h) yy_X8_checkRange dk_wm_X8_80 dX8_setHero_9 (fun s2 h => ?_) rfl ⟨Nat.le_of_ble_eq_true rfl, Nat.le_of_ble_eq_true rfl⟩ ⟨Nat.le_of_ble_eq_true rfl, Nat.le_of_ble_eq_true rfl⟩ rfl (Nat.le_of_ble_eq_true rfl) rfl (n := 12) rfl
  refine dk_iload C dX8_setHero_12 (n := 14) rfl (i := 4) rfl ?_
  refine dk_iconst (v := 1) C dX8_setHero_14 (n := 15) rfl (by decide) ?_
  refine dk_bipush (v := 99) C dX8_setHero_15 (n := 17) rfl (by decide) ?_
  refine dk_xcallSv C ht hlk [] (cc_X8_checkRange C.D hl  h) yy_X8_checkRange dk_wm_X8_80 dX8_setHero_17 (fun s3 h => ?_) rfl ⟨Nat.le_of_ble_eq_true rfl, Nat.le_of_ble_eq_true rfl⟩ ⟨Nat.le_of_ble_eq_true rfl, Nat.le_of_ble_eq_true rfl⟩ rfl (Nat.le_of_ble_eq_true rfl) rfl (n := 20) rfl
  refine dk_aload_n (i := 0) C dX8_setHero_20 (n := 21) rfl rfl rfl ?_
  refine dk_xcallVv C ht hlk [] (cc_X8_checkNoWorld C.D hl hri h) yy_X8_checkNoWorld dk_wm_X8_59 dk_sh40 (hri.1 40 (by decide) (by decide)) dX8_setHero_21 (fun s4 h => ?_) rfl rfl ⟨Nat.le_of_ble_eq_true rfl, Nat.le_of_ble_eq_true rfl⟩ ⟨Nat.le_of_ble_eq_true rfl, Nat.le_of_ble_eq_true rfl⟩ rfl (Nat.le_of_ble_eq_true rfl) rfl (n := 24) rfl
  refine dk_aload_n (i := 0) C dX8_setHero_24 (n := 25) rfl rfl rfl ?_
  refine gf_X8_12 C (hri.1 40 (by decide) (by decide)) dX8_setHero_25 (n := 28) rfl ?_
  refine gf_X8_111 C (hri.2.1 0 (by decide)) dX8_setHero_28 (n := 31) rfl ?_
  refine gf_X8_115 C (hri.2.1 13 (by decide)) dX8_setHero_31 (n := 34) rfl ?_
  refine dk_iconst (v := 0) C dX8_setHero_34 (n := 35) rfl (by decide) ?_
  refine dk_callSi C [] (cc_X8_at C.D dk_sh18 (hri.2.1 18 (by decide)) h) yy_X8_at dk_wm_X8_94 dX8_setHero_35 (fun r6 s5 h => ?_) rfl ⟨Nat.le_of_ble_eq_true rfl, Nat.le_of_ble_eq_true rfl⟩ rfl (Nat.le_of_ble_eq_true rfl) rfl (n := 38) rfl
  refine dk_istore (i := 5) (L' := [some (dk_r G 0 40), some (.int a1), some (.int a2), some (.int a3), some (.int a4), some (.int r6)]) C dX8_setHero_38 (n := 40) rfl (dk_nc_of rfl) (Nat.le_of_ble_eq_true rfl) rfl ?_
  refine dk_aload_n (i := 0) C dX8_setHero_40 (n := 41) rfl rfl rfl ?_
  refine gf_X8_12 C (hri.1 40 (by decide) (by decide)) dX8_setHero_41 (n := 44) rfl ?_
  refine gf_X8_111 C (hri.2.1 0 (by decide)) dX8_setHero_44 (n := 47) rfl ?_
  refine dk_iconst (v := 0) C dX8_setHero_47 (n := 48) rfl (by decide) ?_
  refine dk_iload_n (i := 1) C dX8_setHero_48 (n := 49) rfl rfl rfl ?_
  refine dk_iload_n (i := 2) C dX8_setHero_49 (n := 50) rfl rfl rfl ?_
  refine dk_callSi C [.int 0, dk_r G 1 13] (cc_X8_spot C.D  h) yy_X8_spot dk_wm_X8_66 dX8_setHero_50 (fun r8 s7 h => ?_) rfl ⟨Nat.le_of_ble_eq_true rfl, Nat.le_of_ble_eq_true rfl⟩ rfl (Nat.le_of_ble_eq_true rfl) rfl (n := 53) rfl
  refine dk_iload_n (i := 3) C dX8_setHero_53 (n := 54) rfl rfl rfl ?_
  refine dk_iconst (v := 0) C dX8_setHero_54 (n := 55) rfl (by decide) ?_
  refine dk_iload C dX8_setHero_55 (n := 57) rfl (i := 4) rfl ?_
  refine dk_callVv C [] (cc_X2_tell C.D hri.2.1 h) yy_X2_tell dk_wm_X8_120 dk_sh13 (hri.2.1 13 (by decide)) dX8_setHero_57 (fun s9 h => ?_) rfl rfl ⟨Nat.le_of_ble_eq_true rfl, Nat.le_of_ble_eq_true rfl⟩ rfl (Nat.le_of_ble_eq_true rfl) rfl (n := 60) rfl
  refine dk_aload_n (i := 0) C dX8_setHero_60 (n := 61) rfl rfl rfl ?_
  refine dk_bipush (v := 110) C dX8_setHero_61 (n := 63) rfl (by decide) ?_
  refine pf_X8_36 C (by decide) (by decide) (hri.1 40 (by decide) (by decide)) dX8_setHero_63 (n := 66) rfl ?_
  refine dk_nameS (fun s10 es10 => ?_)
  have h := h s10 es10
  refine dk_iload C dX8_setHero_66 (n := 68) rfl (i := 5) rfl ?_
  refine dk_xret ?_
  exact dk_iret C hr hlk rfl dX8_setHero_68 ⟨_, rfl, h⟩
/-! X8_setKind -/
set_option maxRecDepth 20000 in
set_option maxHeartbeats 4000000 in
theorem cc_X8_setKind {G : dk_G} {l : Launch} {a1 : Int32} {a2 : Int32} {a3 : Int32} (hD : dk_D G) (hl : l.stackTraces = false) (hri : dk_RI G) {s : dk_S} {K : Int32 → dk_S → Prop} {X : String → dk_S → Prop} (h : wf_X8_setKind a1 a2 a3 s K X) : dk_MX G l 7 yX8_setKind cX8_setKind 5 (some .int) [dk_r G 0 40, .int a1, .int a2, .int a3] s (dk_ki K) X := by
  refine dk_xof hD (by decide) [some (dk_r G 0 40), some (.int a1), some (.int a2), some (.int a3), none] (fun q hq => hq) rfl (Nat.le_of_ble_eq_true rfl) (fun P e S0 m args bel meth c C ht hr hlk => ?_)
  unfold wf_X8_setKind at h
  refine dk_iload_n (i := 1) C dX8_setKind_0 (n := 1) rfl rfl rfl ?_
  refine dk_iconst (v := 0) C dX8_setKind_1 (n := 2) rfl (by decide) ?_
  refine dk_bipush (v := 7) C dX8_setKind_2 (n := 4) rfl (by decide) ?_
  refine dk_xcallSv C ht hlk [] (cc_X8_checkRange C.D hl  h) yy_X8_checkRange dk_wm_X8_80 dX8_setKind_4 (fun s1 h => ?_) rfl ⟨Nat.le_of_ble_eq_true rfl, Nat.le_of_ble_eq_true rfl⟩ ⟨Nat.le_of_ble_eq_true rfl, Nat.le_of_ble_eq_true rfl⟩ rfl (Nat.le_of_ble_eq_true rfl) rfl (n := 7) rfl
  refine dk_iload_n (i := 2) C dX8_setKind_7 (n := 8) rfl rfl rfl ?_
  refine dk_iconst (v := 0) C dX8_setKind_8 (n := 9) rfl (by decide) ?_
  refine dk_bipush (v := 9) C dX8_setKind_9 (n := 11) rfl (by decide) ?_
  refine dk_xcallSv C ht hlk [] (cc_X8_checkRange C.D hl  h) yy_X8_checkRange dk_wm_X8_80 dX8_setKind_11 (fun s2 h => ?_) rfl ⟨Nat.le_of_ble_eq_true rfl, Nat.le_of_ble_eq_true rfl⟩ ⟨Nat.le_of_ble_eq_true rfl, Nat.le_of_ble_eq_true rfl⟩ rfl (Nat.le_of_ble_eq_true rfl) rfl (n := 14) rfl
  refine dk_aload_n (i := 0) C dX8_setKind_14 (n := 15) rfl rfl rfl ?_
  refine dk_xcallVv C ht hlk [] (cc_X8_checkNoWorld C.D hl hri h) yy_X8_checkNoWorld dk_wm_X8_59 dk_sh40 (hri.1 40 (by decide) (by decide)) dX8_setKind_15 (fun s3 h => ?_) rfl rfl ⟨Nat.le_of_ble_eq_true rfl, Nat.le_of_ble_eq_true rfl⟩ ⟨Nat.le_of_ble_eq_true rfl, Nat.le_of_ble_eq_true rfl⟩ rfl (Nat.le_of_ble_eq_true rfl) rfl (n := 18) rfl
  refine dk_aload_n (i := 0) C dX8_setKind_18 (n := 19) rfl rfl rfl ?_
  refine gf_X8_12 C (hri.1 40 (by decide) (by decide)) dX8_setKind_19 (n := 22) rfl ?_
  refine gf_X8_84 C (hri.2.1 0 (by decide)) dX8_setKind_22 (n := 25) rfl ?_
  refine gf_X8_88 C (hri.2.1 7 (by decide)) dX8_setKind_25 (n := 28) rfl ?_
  refine dk_iload_n (i := 1) C dX8_setKind_28 (n := 29) rfl rfl rfl ?_
  refine dk_callSi C [] (cc_X8_at C.D dk_sh8 (hri.2.1 8 (by decide)) h) yy_X8_at dk_wm_X8_94 dX8_setKind_29 (fun r5 s4 h => ?_) rfl ⟨Nat.le_of_ble_eq_true rfl, Nat.le_of_ble_eq_true rfl⟩ rfl (Nat.le_of_ble_eq_true rfl) rfl (n := 32) rfl
  refine dk_istore (i := 4) (L' := [some (dk_r G 0 40), some (.int a1), some (.int a2), some (.int a3), some (.int r5)]) C dX8_setKind_32 (n := 34) rfl (dk_nc_of rfl) (Nat.le_of_ble_eq_true rfl) rfl ?_
  refine dk_aload_n (i := 0) C dX8_setKind_34 (n := 35) rfl rfl rfl ?_
  refine gf_X8_12 C (hri.1 40 (by decide) (by decide)) dX8_setKind_35 (n := 38) rfl ?_
  refine gf_X8_84 C (hri.2.1 0 (by decide)) dX8_setKind_38 (n := 41) rfl ?_
  refine dk_iload_n (i := 1) C dX8_setKind_41 (n := 42) rfl rfl rfl ?_
  refine dk_iload_n (i := 2) C dX8_setKind_42 (n := 43) rfl rfl rfl ?_
  refine dk_iload_n (i := 3) C dX8_setKind_43 (n := 44) rfl rfl rfl ?_
  refine dk_callVv C [] (cc_X3_tell C.D hri.2.1 h) yy_X3_tell dk_wm_X8_98 dk_sh7 (hri.2.1 7 (by decide)) dX8_setKind_44 (fun s6 h => ?_) rfl rfl ⟨Nat.le_of_ble_eq_true rfl, Nat.le_of_ble_eq_true rfl⟩ rfl (Nat.le_of_ble_eq_true rfl) rfl (n := 47) rfl
  refine dk_aload_n (i := 0) C dX8_setKind_47 (n := 48) rfl rfl rfl ?_
  refine dk_bipush (v := 110) C dX8_setKind_48 (n := 50) rfl (by decide) ?_
  refine pf_X8_36 C (by decide) (by decide) (hri.1 40 (by decide) (by decide)) dX8_setKind_50 (n := 53) rfl ?_
  refine dk_nameS (fun s7 es7 => ?_)
  have h := h s7 es7
  refine dk_iload C dX8_setKind_53 (n := 55) rfl (i := 4) rfl ?_
  refine dk_xret ?_
  exact dk_iret C hr hlk rfl dX8_setKind_55 ⟨_, rfl, h⟩
/-! X8_shout -/
set_option maxRecDepth 20000 in
set_option maxHeartbeats 4000000 in
theorem cc_X8_shout {G : dk_G} {l : Launch} {a1 : Int32} (hD : dk_D G) (hl : l.stackTraces = false) (hri : dk_RI G) {s : dk_S} {K : Int32 → dk_S → Prop} {X : String → dk_S → Prop} (h : wf_X8_shout a1 s K X) : dk_MX G l 8 yX8_shout cX8_shout 2 (some .int) [dk_r G 0 40, .int a1] s (dk_ki K) X := by
  refine dk_xof hD (by decide) [some (dk_r G 0 40), some (.int a1)] (fun q hq => hq) rfl (Nat.le_of_ble_eq_true rfl) (fun P e S0 m args bel meth c C ht hr hlk => ?_)
  unfold wf_X8_shout at h
  refine dk_iload_n (i := 1) C dX8_shout_0 (n := 1) rfl rfl rfl ?_
  refine dk_iconst (v := 1) C dX8_shout_1 (n := 2) rfl (by decide) ?_
  refine dk_bipush (v := 30) C dX8_shout_2 (n := 4) rfl (by decide) ?_
  refine dk_xcallSv C ht hlk [] (cc_X8_checkRange C.D hl  h) yy_X8_checkRange dk_wm_X8_80 dX8_shout_4 (fun s1 h => ?_) rfl ⟨Nat.le_of_ble_eq_true rfl, Nat.le_of_ble_eq_true rfl⟩ ⟨Nat.le_of_ble_eq_true rfl, Nat.le_of_ble_eq_true rfl⟩ rfl (Nat.le_of_ble_eq_true rfl) rfl (n := 7) rfl
  refine dk_aload_n (i := 0) C dX8_shout_7 (n := 8) rfl rfl rfl ?_
  refine dk_xcallVv C ht hlk [] (cc_X8_checkWorld C.D hl hri h) yy_X8_checkWorld dk_wm_X8_178 dk_sh40 (hri.1 40 (by decide) (by decide)) dX8_shout_8 (fun s2 h => ?_) rfl rfl ⟨Nat.le_of_ble_eq_true rfl, Nat.le_of_ble_eq_true rfl⟩ ⟨Nat.le_of_ble_eq_true rfl, Nat.le_of_ble_eq_true rfl⟩ rfl (Nat.le_of_ble_eq_true rfl) rfl (n := 11) rfl
  refine dk_aload_n (i := 0) C dX8_shout_11 (n := 12) rfl rfl rfl ?_
  refine dk_bipush (v := 7) C dX8_shout_12 (n := 14) rfl (by decide) ?_
  refine dk_iload_n (i := 1) C dX8_shout_14 (n := 15) rfl rfl rfl ?_
  refine dk_iconst (v := 0) C dX8_shout_15 (n := 16) rfl (by decide) ?_
  refine dk_callVi C [] (cc_X8_act C.D hri h) yy_X8_act dk_wm_X8_184 dk_sh40 (hri.1 40 (by decide) (by decide)) dX8_shout_16 (fun r4 s3 h => ?_) rfl rfl ⟨Nat.le_of_ble_eq_true rfl, Nat.le_of_ble_eq_true rfl⟩ rfl (Nat.le_of_ble_eq_true rfl) rfl (n := 19) rfl
  refine dk_xret ?_
  exact dk_iret C hr hlk rfl dX8_shout_19 ⟨_, rfl, h⟩
/-! X8_take -/
set_option maxRecDepth 20000 in
set_option maxHeartbeats 4000000 in
theorem cc_X8_take {G : dk_G} {l : Launch} {a1 : Int32} (hD : dk_D G) (hl : l.stackTraces = false) (hri : dk_RI G) {s : dk_S} {K : Int32 → dk_S → Prop} {X : String → dk_S → Prop} (h : wf_X8_take a1 s K X) : dk_MX G l 8 yX8_take cX8_take 2 (some .int) [dk_r G 0 40, .int a1] s (dk_ki K) X := by
  refine dk_xof hD (by decide) [some (dk_r G 0 40), some (.int a1)] (fun q hq => hq) rfl (Nat.le_of_ble_eq_true rfl) (fun P e S0 m args bel meth c C ht hr hlk => ?_)
  unfold wf_X8_take at h
  refine dk_aload_n (i := 0) C dX8_take_0 (n := 1) rfl rfl rfl ?_
  refine dk_iload_n (i := 1) C dX8_take_1 (n := 2) rfl rfl rfl ?_
  refine dk_xcallVv C ht hlk [] (cc_X8_checkThing C.D hl hri h) yy_X8_checkThing dk_wm_X8_129 dk_sh40 (hri.1 40 (by decide) (by decide)) dX8_take_2 (fun s1 h => ?_) rfl rfl ⟨Nat.le_of_ble_eq_true rfl, Nat.le_of_ble_eq_true rfl⟩ ⟨Nat.le_of_ble_eq_true rfl, Nat.le_of_ble_eq_true rfl⟩ rfl (Nat.le_of_ble_eq_true rfl) rfl (n := 5) rfl
  refine dk_aload_n (i := 0) C dX8_take_5 (n := 6) rfl rfl rfl ?_
  refine dk_xcallVv C ht hlk [] (cc_X8_checkWorld C.D hl hri h) yy_X8_checkWorld dk_wm_X8_178 dk_sh40 (hri.1 40 (by decide) (by decide)) dX8_take_6 (fun s2 h => ?_) rfl rfl ⟨Nat.le_of_ble_eq_true rfl, Nat.le_of_ble_eq_true rfl⟩ ⟨Nat.le_of_ble_eq_true rfl, Nat.le_of_ble_eq_true rfl⟩ rfl (Nat.le_of_ble_eq_true rfl) rfl (n := 9) rfl
  refine dk_aload_n (i := 0) C dX8_take_9 (n := 10) rfl rfl rfl ?_
  refine gf_X8_16 C (hri.1 40 (by decide) (by decide)) dX8_take_10 (n := 13) rfl ?_
  refine gf_X8_136 C (hri.2.2.1 0 (by decide)) dX8_take_13 (n := 16) rfl ?_
  refine gf_X8_189 C (hri.2.2.1 23 (by decide)) dX8_take_16 (n := 19) rfl ?_
  refine dk_iload_n (i := 1) C dX8_take_19 (n := 20) rfl rfl rfl ?_
  refine dk_callSi C [] (cc_X8_at C.D dk_sh25 (hri.2.2.1 25 (by decide)) h) yy_X8_at dk_wm_X8_94 dX8_take_20 (fun r4 s3 h => ?_) rfl ⟨Nat.le_of_ble_eq_true rfl, Nat.le_of_ble_eq_true rfl⟩ rfl (Nat.le_of_ble_eq_true rfl) rfl (n := 23) rfl
  refine dk_aload_n (i := 0) C dX8_take_23 (n := 24) rfl rfl rfl ?_
  refine gf_X8_16 C (hri.1 40 (by decide) (by decide)) dX8_take_24 (n := 27) rfl ?_
  refine dk_callVi C [.int r4] (cc_X7_heroSpot C.D hri.2.2.1 h) yy_X7_heroSpot dk_wm_X8_192 dk_sh0 (hri.2.2.1 0 (by decide)) dX8_take_27 (fun r6 s5 h => ?_) rfl rfl ⟨Nat.le_of_ble_eq_true rfl, Nat.le_of_ble_eq_true rfl⟩ rfl (Nat.le_of_ble_eq_true rfl) rfl (n := 30) rfl
  refine dk_icmp_eq (t := 41) C dX8_take_30 (n := 33) rfl (by decide) (fun c14 => ?_) (fun c14 => ?_)
  · have h := h.1 c14
    refine dk_aload_n (i := 0) C dX8_take_41 (n := 42) rfl rfl rfl ?_
    refine gf_X8_16 C (hri.1 40 (by decide) (by decide)) dX8_take_42 (n := 45) rfl ?_
    refine gf_X8_136 C (hri.2.2.1 0 (by decide)) dX8_take_45 (n := 48) rfl ?_
    refine dk_aload_n (i := 0) C dX8_take_48 (n := 49) rfl rfl rfl ?_
    refine gf_X8_16 C (hri.1 40 (by decide) (by decide)) dX8_take_49 (n := 52) rfl ?_
    refine gf_X8_84 C (hri.2.2.1 0 (by decide)) dX8_take_52 (n := 55) rfl ?_
    refine dk_callVi C [] (cc_X6_carriedWeight C.D hri.2.2.1 hri.2.2.1 h) yy_X6_carriedWeight dk_wm_X8_199 dk_sh23 (hri.2.2.1 23 (by decide)) dX8_take_55 (fun r8 s7 h => ?_) rfl rfl ⟨Nat.le_of_ble_eq_true rfl, Nat.le_of_ble_eq_true rfl⟩ rfl (Nat.le_of_ble_eq_true rfl) rfl (n := 58) rfl
    refine dk_aload_n (i := 0) C dX8_take_58 (n := 59) rfl rfl rfl ?_
    refine gf_X8_16 C (hri.1 40 (by decide) (by decide)) dX8_take_59 (n := 62) rfl ?_
    refine gf_X8_136 C (hri.2.2.1 0 (by decide)) dX8_take_62 (n := 65) rfl ?_
    refine dk_iload_n (i := 1) C dX8_take_65 (n := 66) rfl rfl rfl ?_
    refine dk_aload_n (i := 0) C dX8_take_66 (n := 67) rfl rfl rfl ?_
    refine gf_X8_16 C (hri.1 40 (by decide) (by decide)) dX8_take_67 (n := 70) rfl ?_
    refine gf_X8_84 C (hri.2.2.1 0 (by decide)) dX8_take_70 (n := 73) rfl ?_
    refine dk_callVi C [.int r8] (cc_X6_wholeWeight C.D hri.2.2.1 hri.2.2.1 h) yy_X6_wholeWeight dk_wm_X8_203 dk_sh23 (hri.2.2.1 23 (by decide)) dX8_take_73 (fun r10 s9 h => ?_) rfl rfl ⟨Nat.le_of_ble_eq_true rfl, Nat.le_of_ble_eq_true rfl⟩ rfl (Nat.le_of_ble_eq_true rfl) rfl (n := 76) rfl
    refine dk_iadd C dX8_take_76 (n := 77) rfl ?_
    refine dk_bipush (v := 30) C dX8_take_77 (n := 79) rfl (by decide) ?_
    refine dk_icmp_le (t := 90) C dX8_take_79 (n := 82) rfl (by decide) (fun c13 => ?_) (fun c13 => ?_)
    · have h := h.1 c13
      refine dk_aload_n (i := 0) C dX8_take_90 (n := 91) rfl rfl rfl ?_
      refine dk_iconst (v := 2) C dX8_take_91 (n := 92) rfl (by decide) ?_
      refine dk_iload_n (i := 1) C dX8_take_92 (n := 93) rfl rfl rfl ?_
      refine dk_iconst (v := 0) C dX8_take_93 (n := 94) rfl (by decide) ?_
      refine dk_callVi C [] (cc_X8_act C.D hri h) yy_X8_act dk_wm_X8_184 dk_sh40 (hri.1 40 (by decide) (by decide)) dX8_take_94 (fun r12 s11 h => ?_) rfl rfl ⟨Nat.le_of_ble_eq_true rfl, Nat.le_of_ble_eq_true rfl⟩ rfl (Nat.le_of_ble_eq_true rfl) rfl (n := 97) rfl
      refine dk_xret ?_
      exact dk_iret C hr hlk rfl dX8_take_97 ⟨_, rfl, h⟩
    · have h := h.2 c13
      exact dk_xthrow C ht hlk hl dk_THUO dX8_take_82 dX8_take_85 dX8_take_86 dX8_take_89 ⟨Nat.le_of_ble_eq_true rfl, Nat.le_of_ble_eq_true rfl⟩ ⟨Nat.le_of_ble_eq_true rfl, Nat.le_of_ble_eq_true rfl⟩ (Nat.le_of_ble_eq_true rfl) rfl h
  · have h := h.2 c14
    exact dk_xthrow C ht hlk hl dk_THNS dX8_take_33 dX8_take_36 dX8_take_37 dX8_take_40 ⟨Nat.le_of_ble_eq_true rfl, Nat.le_of_ble_eq_true rfl⟩ ⟨Nat.le_of_ble_eq_true rfl, Nat.le_of_ble_eq_true rfl⟩ (Nat.le_of_ble_eq_true rfl) rfl h
/-! X8_weightOf -/
set_option maxRecDepth 20000 in
set_option maxHeartbeats 4000000 in
theorem cc_X8_weightOf {G : dk_G} {l : Launch} {a1 : Int32} (hD : dk_D G) (hl : l.stackTraces = false) (hri : dk_RI G) {s : dk_S} {K : Int32 → dk_S → Prop} {X : String → dk_S → Prop} (h : wf_X8_weightOf a1 s K X) : dk_MX G l 7 yX8_weightOf cX8_weightOf 3 (some .int) [dk_r G 0 40, .int a1] s (dk_ki K) X := by
  refine dk_xof hD (by decide) [some (dk_r G 0 40), some (.int a1), none] (fun q hq => hq) rfl (Nat.le_of_ble_eq_true rfl) (fun P e S0 m args bel meth c C ht hr hlk => ?_)
  unfold wf_X8_weightOf at h
  refine dk_aload_n (i := 0) C dX8_weightOf_0 (n := 1) rfl rfl rfl ?_
  refine dk_iload_n (i := 1) C dX8_weightOf_1 (n := 2) rfl rfl rfl ?_
  refine dk_xcallVv C ht hlk [] (cc_X8_checkThing C.D hl hri h) yy_X8_checkThing dk_wm_X8_129 dk_sh40 (hri.1 40 (by decide) (by decide)) dX8_weightOf_2 (fun s1 h => ?_) rfl rfl ⟨Nat.le_of_ble_eq_true rfl, Nat.le_of_ble_eq_true rfl⟩ ⟨Nat.le_of_ble_eq_true rfl, Nat.le_of_ble_eq_true rfl⟩ rfl (Nat.le_of_ble_eq_true rfl) rfl (n := 5) rfl
  refine dk_aload_n (i := 0) C dX8_weightOf_5 (n := 6) rfl rfl rfl ?_
  refine dk_callV (st' := []) C (cc_X8_shown C.D hri (s := s1)) yy_X8_shown dk_wm_X8_227 rfl ⟨Nat.le_of_ble_eq_true rfl, Nat.le_of_ble_eq_true rfl⟩ dk_sh40 rfl (hri.1 40 (by decide) (by decide)) rfl (Nat.le_of_ble_eq_true rfl) rfl dX8_weightOf_6 (n := 9) rfl (fun v9 s9 h9 => ?_)
  rcases h9 with ⟨c6, e8, e9⟩ | ⟨c6, e8, e9⟩
  · have h := h.1 c6
    rw [e8, e9]
    show dk_W _ _ _ _ _ _ _ _ _ _ _ _ _ _ 9 _ [dk_r G 1 0] s1
    refine dk_astore_n (i := 2) (L' := [some (dk_r G 0 40), some (.int a1), some (dk_r G 1 0)]) C dX8_weightOf_9 (n := 10) rfl rfl (dk_nc_of rfl) (Nat.le_of_ble_eq_true rfl) rfl ?_
    refine dk_aload_n (i := 2) C dX8_weightOf_10 (n := 11) rfl rfl rfl ?_
    refine gf_X8_136 C (hri.2.1 0 (by decide)) dX8_weightOf_11 (n := 14) rfl ?_
    refine dk_iload_n (i := 1) C dX8_weightOf_14 (n := 15) rfl rfl rfl ?_
    refine dk_aload_n (i := 2) C dX8_weightOf_15 (n := 16) rfl rfl rfl ?_
    refine gf_X8_84 C (hri.2.1 0 (by decide)) dX8_weightOf_16 (n := 19) rfl ?_
    refine dk_callVi C [] (cc_X6_wholeWeight C.D hri.2.1 hri.2.1 h) yy_X6_wholeWeight dk_wm_X8_203 dk_sh23 (hri.2.1 23 (by decide)) dX8_weightOf_19 (fun r3 s2 h => ?_) rfl rfl ⟨Nat.le_of_ble_eq_true rfl, Nat.le_of_ble_eq_true rfl⟩ rfl (Nat.le_of_ble_eq_true rfl) rfl (n := 22) rfl
    refine dk_xret ?_
    exact dk_iret C hr hlk rfl dX8_weightOf_22 ⟨_, rfl, h⟩
  · have h := h.2 c6
    rw [e8, e9]
    show dk_W _ _ _ _ _ _ _ _ _ _ _ _ _ _ 9 _ [dk_r G 2 0] s1
    refine dk_astore_n (i := 2) (L' := [some (dk_r G 0 40), some (.int a1), some (dk_r G 2 0)]) C dX8_weightOf_9 (n := 10) rfl rfl (dk_nc_of rfl) (Nat.le_of_ble_eq_true rfl) rfl ?_
    refine dk_aload_n (i := 2) C dX8_weightOf_10 (n := 11) rfl rfl rfl ?_
    refine gf_X8_136 C (hri.2.2.1 0 (by decide)) dX8_weightOf_11 (n := 14) rfl ?_
    refine dk_iload_n (i := 1) C dX8_weightOf_14 (n := 15) rfl rfl rfl ?_
    refine dk_aload_n (i := 2) C dX8_weightOf_15 (n := 16) rfl rfl rfl ?_
    refine gf_X8_84 C (hri.2.2.1 0 (by decide)) dX8_weightOf_16 (n := 19) rfl ?_
    refine dk_callVi C [] (cc_X6_wholeWeight C.D hri.2.2.1 hri.2.2.1 h) yy_X6_wholeWeight dk_wm_X8_203 dk_sh23 (hri.2.2.1 23 (by decide)) dX8_weightOf_19 (fun r5 s4 h => ?_) rfl rfl ⟨Nat.le_of_ble_eq_true rfl, Nat.le_of_ble_eq_true rfl⟩ rfl (Nat.le_of_ble_eq_true rfl) rfl (n := 22) rfl
    refine dk_xret ?_
    exact dk_iret C hr hlk rfl dX8_weightOf_22 ⟨_, rfl, h⟩
/-! X8_whereIs -/
set_option maxRecDepth 20000 in
set_option maxHeartbeats 4000000 in
theorem cc_X8_whereIs {G : dk_G} {l : Launch} {a1 : Int32} (hD : dk_D G) (hl : l.stackTraces = false) (hri : dk_RI G) {s : dk_S} {K : Int32 → dk_S → Prop} {X : String → dk_S → Prop} (h : wf_X8_whereIs a1 s K X) : dk_MX G l 7 yX8_whereIs cX8_whereIs 3 (some .int) [dk_r G 0 40, .int a1] s (dk_ki K) X := by
  refine dk_xof hD (by decide) [some (dk_r G 0 40), some (.int a1), none] (fun q hq => hq) rfl (Nat.le_of_ble_eq_true rfl) (fun P e S0 m args bel meth c C ht hr hlk => ?_)
  unfold wf_X8_whereIs at h
  refine dk_aload_n (i := 0) C dX8_whereIs_0 (n := 1) rfl rfl rfl ?_
  refine dk_iload_n (i := 1) C dX8_whereIs_1 (n := 2) rfl rfl rfl ?_
  refine dk_xcallVv C ht hlk [] (cc_X8_checkThing C.D hl hri h) yy_X8_checkThing dk_wm_X8_129 dk_sh40 (hri.1 40 (by decide) (by decide)) dX8_whereIs_2 (fun s1 h => ?_) rfl rfl ⟨Nat.le_of_ble_eq_true rfl, Nat.le_of_ble_eq_true rfl⟩ ⟨Nat.le_of_ble_eq_true rfl, Nat.le_of_ble_eq_true rfl⟩ rfl (Nat.le_of_ble_eq_true rfl) rfl (n := 5) rfl
  refine dk_aload_n (i := 0) C dX8_whereIs_5 (n := 6) rfl rfl rfl ?_
  refine dk_callV (st' := []) C (cc_X8_shown C.D hri (s := s1)) yy_X8_shown dk_wm_X8_227 rfl ⟨Nat.le_of_ble_eq_true rfl, Nat.le_of_ble_eq_true rfl⟩ dk_sh40 rfl (hri.1 40 (by decide) (by decide)) rfl (Nat.le_of_ble_eq_true rfl) rfl dX8_whereIs_6 (n := 9) rfl (fun v9 s9 h9 => ?_)
  rcases h9 with ⟨c12, e8, e9⟩ | ⟨c12, e8, e9⟩
  · have h := h.1 c12
    rw [e8, e9]
    show dk_W _ _ _ _ _ _ _ _ _ _ _ _ _ _ 9 _ [dk_r G 1 0] s1
    refine gf_X8_136 C (hri.2.1 0 (by decide)) dX8_whereIs_9 (n := 12) rfl ?_
    refine gf_X8_189 C (hri.2.1 23 (by decide)) dX8_whereIs_12 (n := 15) rfl ?_
    refine dk_iload_n (i := 1) C dX8_whereIs_15 (n := 16) rfl rfl rfl ?_
    refine dk_callSi C [] (cc_X8_at C.D dk_sh25 (hri.2.1 25 (by decide)) h) yy_X8_at dk_wm_X8_94 dX8_whereIs_16 (fun r3 s2 h => ?_) rfl ⟨Nat.le_of_ble_eq_true rfl, Nat.le_of_ble_eq_true rfl⟩ rfl (Nat.le_of_ble_eq_true rfl) rfl (n := 19) rfl
    refine dk_istore_n (i := 2) (L' := [some (dk_r G 0 40), some (.int a1), some (.int r3)]) C dX8_whereIs_19 (n := 20) rfl rfl (dk_nc_of rfl) (Nat.le_of_ble_eq_true rfl) rfl ?_
    refine dk_iload_n (i := 2) C dX8_whereIs_20 (n := 21) rfl rfl rfl ?_
    refine dk_if_ge (t := 28) C dX8_whereIs_21 (n := 24) rfl (by decide) (fun c6 => ?_) (fun c6 => ?_)
    · have h := h.1 c6
      refine dk_iload_n (i := 2) C dX8_whereIs_28 (n := 29) rfl rfl rfl ?_
      refine dk_callSi C [] (cc_X8_shownPlace C.D  h) yy_X8_shownPlace dk_wm_X8_241 dX8_whereIs_29 (fun r5 s4 h => ?_) rfl ⟨Nat.le_of_ble_eq_true rfl, Nat.le_of_ble_eq_true rfl⟩ rfl (Nat.le_of_ble_eq_true rfl) rfl (n := 32) rfl
      refine dk_xret ?_
      exact dk_iret C hr hlk rfl dX8_whereIs_32 ⟨_, rfl, h⟩
    · have h := h.2 c6
      refine dk_iload_n (i := 2) C dX8_whereIs_24 (n := 25) rfl rfl rfl ?_
      refine dk_goto (t := 32) C dX8_whereIs_25 (by decide) ?_
      refine dk_xret ?_
      exact dk_iret C hr hlk rfl dX8_whereIs_32 ⟨_, rfl, h⟩
  · have h := h.2 c12
    rw [e8, e9]
    show dk_W _ _ _ _ _ _ _ _ _ _ _ _ _ _ 9 _ [dk_r G 2 0] s1
    refine gf_X8_136 C (hri.2.2.1 0 (by decide)) dX8_whereIs_9 (n := 12) rfl ?_
    refine gf_X8_189 C (hri.2.2.1 23 (by decide)) dX8_whereIs_12 (n := 15) rfl ?_
    refine dk_iload_n (i := 1) C dX8_whereIs_15 (n := 16) rfl rfl rfl ?_
    refine dk_callSi C [] (cc_X8_at C.D dk_sh25 (hri.2.2.1 25 (by decide)) h) yy_X8_at dk_wm_X8_94 dX8_whereIs_16 (fun r8 s7 h => ?_) rfl ⟨Nat.le_of_ble_eq_true rfl, Nat.le_of_ble_eq_true rfl⟩ rfl (Nat.le_of_ble_eq_true rfl) rfl (n := 19) rfl
    refine dk_istore_n (i := 2) (L' := [some (dk_r G 0 40), some (.int a1), some (.int r8)]) C dX8_whereIs_19 (n := 20) rfl rfl (dk_nc_of rfl) (Nat.le_of_ble_eq_true rfl) rfl ?_
    refine dk_iload_n (i := 2) C dX8_whereIs_20 (n := 21) rfl rfl rfl ?_
    refine dk_if_ge (t := 28) C dX8_whereIs_21 (n := 24) rfl (by decide) (fun c11 => ?_) (fun c11 => ?_)
    · have h := h.1 c11
      refine dk_iload_n (i := 2) C dX8_whereIs_28 (n := 29) rfl rfl rfl ?_
      refine dk_callSi C [] (cc_X8_shownPlace C.D  h) yy_X8_shownPlace dk_wm_X8_241 dX8_whereIs_29 (fun r10 s9 h => ?_) rfl ⟨Nat.le_of_ble_eq_true rfl, Nat.le_of_ble_eq_true rfl⟩ rfl (Nat.le_of_ble_eq_true rfl) rfl (n := 32) rfl
      refine dk_xret ?_
      exact dk_iret C hr hlk rfl dX8_whereIs_32 ⟨_, rfl, h⟩
    · have h := h.2 c11
      refine dk_iload_n (i := 2) C dX8_whereIs_24 (n := 25) rfl rfl rfl ?_
      refine dk_goto (t := 32) C dX8_whereIs_25 (by decide) ?_
      refine dk_xret ?_
      exact dk_iret C hr hlk rfl dX8_whereIs_32 ⟨_, rfl, h⟩
