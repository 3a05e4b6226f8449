/-! X9_tells -/
set_option maxRecDepth 20000 in
set_option maxHeartbeats 4000000 in
theorem cc_X9_tells {G : dk_G} {l : Launch}  (hD : dk_D G) (hmi : dk_MI G) {s : dk_S} {K : dk_S → Prop} (h : wf_X9_tells s K) : dk_M G l 2 yX9_tells cX9_tells 1 none [dk_r G 4 60] s (dk_kv K) := by
  refine dk_of hD (by decide) [some (dk_r G 4 60)] (fun q hq => hq) rfl (Nat.le_of_ble_eq_true rfl) (fun P e S0 m args bel meth c C hr hlk => ?_)
  unfold wf_X9_tells at h
  refine dk_aload_n (i := 0) C dX9_tells_0 (n := 1) rfl rfl rfl ?_
  refine dk_bipush (v := 110) C dX9_tells_1 (n := 3) rfl (by decide) ?_
  refine pf_X9_7 C (by decide) (by decide) (hmi 60 (by decide) (by decide)) dX9_tells_3 (n := 6) rfl ?_
  refine dk_nameS (fun s1 es1 => ?_)
  have h := h s1 es1
  refine dk_aload_n (i := 0) C dX9_tells_6 (n := 7) rfl rfl rfl ?_
  refine dk_callVv C [] (cc_X9_becomesAsTold C.D hmi h) yy_X9_becomesAsTold dk_wm_X9_104 dk_sh60 (hmi 60 (by decide) (by decide)) dX9_tells_7 (fun s2 h => ?_) rfl rfl ⟨Nat.le_of_ble_eq_true rfl, Nat.le_of_ble_eq_true rfl⟩ rfl (Nat.le_of_ble_eq_true rfl) rfl (n := 10) rfl
  exact dk_vret C hr hlk dX9_tells_10 ⟨rfl, h⟩
/-! X9_isCell -/
set_option maxRecDepth 20000 in
set_option maxHeartbeats 4000000 in
theorem ww_X9_isCell_48 {G : dk_G} {P : Program} {l : Launch} {e : Env} {S0 : State} {m : MethodId} {args : Array Value} {bel : List Frame} {meth : Method} {c : Code}  (C : dk_C G P (dk_rm 1) S0 m args c 0 0 cX9_isCell 1 RX9) (hr : meth.sig.returnType = (some .boolean)) (hlk : meth.locks = false)  {K : Int32 → dk_S → Prop}  : ∀  (s : dk_S), wf_X9_isCell_48 K s → dk_W G P l e (dk_rm 1) S0 m args bel meth c 0 0 (MQ bel (dk_Qc G (dk_ki K)) args S0 0 0 (dk_A G)) 48 [none] [] s := by
  intro s h
  unfold wf_X9_isCell_48 at h
  refine dk_iconst (v := 1) C dX9_isCell_48 (n := 49) rfl (by decide) ?_
  refine dk_goto (t := 53) C dX9_isCell_49 (by decide) ?_
  exact dk_iret C hr hlk dk_nz1 dX9_isCell_53 ⟨_, rfl, h⟩
set_option maxRecDepth 20000 in
set_option maxHeartbeats 4000000 in
theorem cc_X9_isCell {G : dk_G} {l : Launch} {a0 : Int32} (hD : dk_D G)  {s : dk_S} {K : Int32 → dk_S → Prop} (h : wf_X9_isCell a0 s K) : dk_M G l 1 yX9_isCell cX9_isCell 1 (some .boolean) [.int a0] s (dk_ki K) := by
  refine dk_of hD (by decide) [some (.int a0)] (fun q hq => hq) rfl (Nat.le_of_ble_eq_true rfl) (fun P e S0 m args bel meth c C hr hlk => ?_)
  unfold wf_X9_isCell at h
  refine dk_iload_n (i := 0) C dX9_isCell_0 (n := 1) rfl rfl rfl ?_
  refine dk_bipush (v := 35) C dX9_isCell_1 (n := 3) rfl (by decide) ?_
  refine dk_icmp_eq (t := 48) C dX9_isCell_3 (n := 6) rfl (by decide) (fun c8 => ?_) (fun c8 => ?_)
  · have h := h.1 c8
    refine dk_sub (L0 := [none]) trivial ?_
    exact ww_X9_isCell_48 C hr hlk   s h
  · have h := h.2 c8
    refine dk_iload_n (i := 0) C dX9_isCell_6 (n := 7) rfl rfl rfl ?_
    refine dk_bipush (v := 46) C dX9_isCell_7 (n := 9) rfl (by decide) ?_
    refine dk_icmp_eq (t := 48) C dX9_isCell_9 (n := 12) rfl (by decide) (fun c7 => ?_) (fun c7 => ?_)
    · have h := h.1 c7
      refine dk_sub (L0 := [none]) trivial ?_
      exact ww_X9_isCell_48 C hr hlk   s h
    · have h := h.2 c7
      refine dk_iload_n (i := 0) C dX9_isCell_12 (n := 13) rfl rfl rfl ?_
      refine dk_bipush (v := 126) C dX9_isCell_13 (n := 15) rfl (by decide) ?_
      refine dk_icmp_eq (t := 48) C dX9_isCell_15 (n := 18) rfl (by decide) (fun c6 => ?_) (fun c6 => ?_)
      · have h := h.1 c6
        refine dk_sub (L0 := [none]) trivial ?_
        exact ww_X9_isCell_48 C hr hlk   s h
      · have h := h.2 c6
        refine dk_iload_n (i := 0) C dX9_isCell_18 (n := 19) rfl rfl rfl ?_
        refine dk_bipush (v := 43) C dX9_isCell_19 (n := 21) rfl (by decide) ?_
        refine dk_icmp_eq (t := 48) C dX9_isCell_21 (n := 24) rfl (by decide) (fun c5 => ?_) (fun c5 => ?_)
        · have h := h.1 c5
          refine dk_sub (L0 := [none]) trivial ?_
          exact ww_X9_isCell_48 C hr hlk   s h
        · have h := h.2 c5
          refine dk_iload_n (i := 0) C dX9_isCell_24 (n := 25) rfl rfl rfl ?_
          refine dk_bipush (v := 47) C dX9_isCell_25 (n := 27) rfl (by decide) ?_
          refine dk_icmp_eq (t := 48) C dX9_isCell_27 (n := 30) rfl (by decide) (fun c4 => ?_) (fun c4 => ?_)
          · have h := h.1 c4
            refine dk_sub (L0 := [none]) trivial ?_
            exact ww_X9_isCell_48 C hr hlk   s h
          · have h := h.2 c4
            refine dk_iload_n (i := 0) C dX9_isCell_30 (n := 31) rfl rfl rfl ?_
            refine dk_bipush (v := 48) C dX9_isCell_31 (n := 33) rfl (by decide) ?_
            refine dk_icmp_eq (t := 48) C dX9_isCell_33 (n := 36) rfl (by decide) (fun c3 => ?_) (fun c3 => ?_)
            · have h := h.1 c3
              refine dk_sub (L0 := [none]) trivial ?_
              exact ww_X9_isCell_48 C hr hlk   s h
            · have h := h.2 c3
              refine dk_iload_n (i := 0) C dX9_isCell_36 (n := 37) rfl rfl rfl ?_
              refine dk_bipush (v := 49) C dX9_isCell_37 (n := 39) rfl (by decide) ?_
              refine dk_icmp_eq (t := 48) C dX9_isCell_39 (n := 42) rfl (by decide) (fun c2 => ?_) (fun c2 => ?_)
              · have h := h.1 c2
                refine dk_sub (L0 := [none]) trivial ?_
                exact ww_X9_isCell_48 C hr hlk   s h
              · have h := h.2 c2
                refine dk_iload_n (i := 0) C dX9_isCell_42 (n := 43) rfl rfl rfl ?_
                refine dk_bipush (v := 50) C dX9_isCell_43 (n := 45) rfl (by decide) ?_
                refine dk_icmp_ne (t := 52) C dX9_isCell_45 (n := 48) rfl (by decide) (fun c1 => ?_) (fun c1 => ?_)
                · have h := h.1 c1
                  refine dk_iconst (v := 0) C dX9_isCell_52 (n := 53) rfl (by decide) ?_
                  exact dk_iret C hr hlk dk_nz0 dX9_isCell_53 ⟨_, rfl, h⟩
                · have h := h.2 c1
                  refine dk_sub (L0 := [none]) trivial ?_
                  exact ww_X9_isCell_48 C hr hlk   s h
/-! X9_dig -/
set_option maxRecDepth 20000 in
set_option maxHeartbeats 4000000 in
theorem ww_X9_dig_36 {G : dk_G} {P : Program} {l : Launch} {e : Env} {S0 : State} {m : MethodId} {args : Array Value} {bel : List Frame} {meth : Method} {c : Code}  (C : dk_C G P (dk_rm 3) S0 m args c 0 0 cX9_dig 5 RX9) (hr : meth.sig.returnType = (some .char)) (hlk : meth.locks = false) (hmi : dk_MI G) {K : Int32 → dk_S → Prop}  : ∀ (x1 : Int32) (x2 : Int32) (x3 : Int32) (y0 : Int32) (s : dk_S), wf_X9_dig_36 K x1 x2 x3 y0 s → dk_W G P l e (dk_rm 3) S0 m args bel meth c 0 0 (MQ bel (dk_Qc G (dk_ki K)) args S0 0 0 (dk_A G)) 36 [some (dk_r G 4 60), some (.int x1), some (.int x2), some (.int x3), none] [.int y0, dk_r G 4 60] s := by
  intro x1 x2 x3 y0 s h
  unfold wf_X9_dig_36 at h
  refine dk_callVi C [] (cc_X9_goesOn C.D hmi h) yy_X9_goesOn dk_wm_X9_149 dk_sh60 (hmi 60 (by decide) (by decide)) dX9_dig_36 (fun r11 s10 h => ?_) rfl rfl ⟨Nat.le_of_ble_eq_true rfl, Nat.le_of_ble_eq_true rfl⟩ rfl (Nat.le_of_ble_eq_true rfl) rfl (n := 39) rfl
  refine dk_if_ne (t := 44) C dX9_dig_39 (n := 42) rfl (by decide) (fun c19 => ?_) (fun c19 => ?_)
  · have h := h.1 c19
    refine dk_aload_n (i := 0) C dX9_dig_44 (n := 45) rfl rfl rfl ?_
    refine gf_X9_13 C (hmi 60 (by decide) (by decide)) dX9_dig_45 (n := 48) rfl ?_
    refine dk_iload_n (i := 1) C dX9_dig_48 (n := 49) rfl rfl rfl ?_
    refine dk_iload_n (i := 2) C dX9_dig_49 (n := 50) rfl rfl rfl ?_
    refine dk_callSi C [dk_r G 4 61] (cc_X9_at C.D  h) yy_X9_at dk_wm_X9_125 dX9_dig_50 (fun r13 s12 h => ?_) rfl ⟨Nat.le_of_ble_eq_true rfl, Nat.le_of_ble_eq_true rfl⟩ rfl (Nat.le_of_ble_eq_true rfl) rfl (n := 53) rfl
    refine dk_cald C dk_sh61 h.1 (hmi 61 (by decide) (by decide)) dX9_dig_53 (n := 54) rfl ?_
    have h := h.2
    refine dk_name (fun v14 ev14 => ?_)
    have h := h v14 ev14
    refine dk_istore (i := 4) (L' := [some (dk_r G 4 60), some (.int x1), some (.int x2), some (.int x3), some (.int v14)]) C dX9_dig_54 (n := 56) rfl (dk_nc_of rfl) (Nat.le_of_ble_eq_true rfl) rfl ?_
    refine dk_aload_n (i := 0) C dX9_dig_56 (n := 57) rfl rfl rfl ?_
    refine gf_X9_13 C (hmi 60 (by decide) (by decide)) dX9_dig_57 (n := 60) rfl ?_
    refine dk_iload_n (i := 1) C dX9_dig_60 (n := 61) rfl rfl rfl ?_
    refine dk_iload_n (i := 2) C dX9_dig_61 (n := 62) rfl rfl rfl ?_
    refine dk_callSi C [dk_r G 4 61] (cc_X9_at C.D  h) yy_X9_at dk_wm_X9_125 dX9_dig_62 (fun r16 s15 h => ?_) rfl ⟨Nat.le_of_ble_eq_true rfl, Nat.le_of_ble_eq_true rfl⟩ rfl (Nat.le_of_ble_eq_true rfl) rfl (n := 65) rfl
    refine dk_iload_n (i := 3) C dX9_dig_65 (n := 66) rfl rfl rfl ?_
    refine dk_cast C dk_sh61 h.1 (hmi 61 (by decide) (by decide)) dX9_dig_66 (n := 67) rfl ?_
    refine dk_nameS (fun s17 es17 => ?_)
    have h := h.2 s17 es17
    refine dk_aload_n (i := 0) C dX9_dig_67 (n := 68) rfl rfl rfl ?_
    refine dk_callVv C [] (cc_X9_tells C.D hmi h) yy_X9_tells dk_wm_X9_153 dk_sh60 (hmi 60 (by decide) (by decide)) dX9_dig_68 (fun s18 h => ?_) rfl rfl ⟨Nat.le_of_ble_eq_true rfl, Nat.le_of_ble_eq_true rfl⟩ rfl (Nat.le_of_ble_eq_true rfl) rfl (n := 71) rfl
    refine dk_iload C dX9_dig_71 (n := 73) rfl (i := 4) rfl ?_
    exact dk_iret C hr hlk h.1 dX9_dig_73 ⟨_, rfl, h.2⟩
  · have h := h.2 c19
    refine dk_iconst (v := 0) C dX9_dig_42 (n := 43) rfl (by decide) ?_
    exact dk_iret C hr hlk (by decide) dX9_dig_43 ⟨_, rfl, h⟩
set_option maxRecDepth 20000 in
set_option maxHeartbeats 4000000 in
theorem cc_X9_dig {G : dk_G} {l : Launch} {a1 : Int32} {a2 : Int32} {a3 : Int32} (hD : dk_D G) (hmi : dk_MI G) {s : dk_S} {K : Int32 → dk_S → Prop} (h : wf_X9_dig a1 a2 a3 s K) : dk_M G l 3 yX9_dig cX9_dig 5 (some .char) [dk_r G 4 60, .int a1, .int a2, .int a3] s (dk_ki K) := by
  refine dk_of hD (by decide) [some (dk_r G 4 60), some (.int a1), some (.int a2), some (.int a3), none] (fun q hq => hq) rfl (Nat.le_of_ble_eq_true rfl) (fun P e S0 m args bel meth c C hr hlk => ?_)
  unfold wf_X9_dig at h
  refine dk_aload_n (i := 0) C dX9_dig_0 (n := 1) rfl rfl rfl ?_
  refine dk_iload_n (i := 1) C dX9_dig_1 (n := 2) rfl rfl rfl ?_
  refine dk_iload_n (i := 2) C dX9_dig_2 (n := 3) rfl rfl rfl ?_
  refine dk_callSi C [dk_r G 4 60] (cc_X9_isPlace C.D  h) yy_X9_isPlace dk_wm_X9_121 dX9_dig_3 (fun r2 s1 h => ?_) rfl ⟨Nat.le_of_ble_eq_true rfl, Nat.le_of_ble_eq_true rfl⟩ rfl (Nat.le_of_ble_eq_true rfl) rfl (n := 6) rfl
  refine dk_if_ne (t := 13) C dX9_dig_6 (n := 9) rfl (by decide) (fun c9 => ?_) (fun c9 => ?_)
  · have h := h.1 c9
    refine dk_iload_n (i := 3) C dX9_dig_13 (n := 14) rfl rfl rfl ?_
    refine dk_callSi C [dk_r G 4 60] (cc_X9_isCell C.D  h) yy_X9_isCell dk_wm_X9_142 dX9_dig_14 (fun r4 s3 h => ?_) rfl ⟨Nat.le_of_ble_eq_true rfl, Nat.le_of_ble_eq_true rfl⟩ rfl (Nat.le_of_ble_eq_true rfl) rfl (n := 17) rfl
    refine dk_if_ne (t := 24) C dX9_dig_17 (n := 20) rfl (by decide) (fun c8 => ?_) (fun c8 => ?_)
    · have h := h.1 c8
      refine dk_aload_n (i := 0) C dX9_dig_24 (n := 25) rfl rfl rfl ?_
      refine dk_callVi C [dk_r G 4 60] (cc_X9_isOn C.D hmi h) yy_X9_isOn dk_wm_X9_145 dk_sh60 (hmi 60 (by decide) (by decide)) dX9_dig_25 (fun r6 s5 h => ?_) rfl rfl ⟨Nat.le_of_ble_eq_true rfl, Nat.le_of_ble_eq_true rfl⟩ rfl (Nat.le_of_ble_eq_true rfl) rfl (n := 28) rfl
      refine dk_if_eq (t := 35) C dX9_dig_28 (n := 31) rfl (by decide) (fun c7 => ?_) (fun c7 => ?_)
      · have h := h.1 c7
        refine dk_iconst (v := 0) C dX9_dig_35 (n := 36) rfl (by decide) ?_
        refine dk_sub (L0 := [some (dk_r G 4 60), some (.int a1), some (.int a2), some (.int a3), none]) ⟨rfl, ⟨rfl, ⟨rfl, ⟨rfl, trivial⟩⟩⟩⟩ ?_
        exact ww_X9_dig_36 C hr hlk hmi  a1 a2 a3 0 s5 h
      · have h := h.2 c7
        refine dk_iconst (v := 3) C dX9_dig_31 (n := 32) rfl (by decide) ?_
        refine dk_goto (t := 36) C dX9_dig_32 (by decide) ?_
        refine dk_sub (L0 := [some (dk_r G 4 60), some (.int a1), some (.int a2), some (.int a3), none]) ⟨rfl, ⟨rfl, ⟨rfl, ⟨rfl, trivial⟩⟩⟩⟩ ?_
        exact ww_X9_dig_36 C hr hlk hmi  a1 a2 a3 3 s5 h
    · have h := h.2 c8
      refine dk_iconst (v := 2) C dX9_dig_20 (n := 21) rfl (by decide) ?_
      refine dk_goto (t := 36) C dX9_dig_21 (by decide) ?_
      refine dk_sub (L0 := [some (dk_r G 4 60), some (.int a1), some (.int a2), some (.int a3), none]) ⟨rfl, ⟨rfl, ⟨rfl, ⟨rfl, trivial⟩⟩⟩⟩ ?_
      exact ww_X9_dig_36 C hr hlk hmi  a1 a2 a3 2 s3 h
  · have h := h.2 c9
    refine dk_iconst (v := 1) C dX9_dig_9 (n := 10) rfl (by decide) ?_
    refine dk_goto (t := 36) C dX9_dig_10 (by decide) ?_
    refine dk_sub (L0 := [some (dk_r G 4 60), some (.int a1), some (.int a2), some (.int a3), none]) ⟨rfl, ⟨rfl, ⟨rfl, ⟨rfl, trivial⟩⟩⟩⟩ ?_
    exact ww_X9_dig_36 C hr hlk hmi  a1 a2 a3 1 s1 h
/-! X9_setKind -/
set_option maxRecDepth 20000 in
set_option maxHeartbeats 4000000 in
theorem ww_X9_setKind_37 {G : dk_G} {P : Program} {l : Launch} {e : Env} {S0 : State} {m : MethodId} {args : Array Value} {bel : List Frame} {meth : Method} {c : Code}  (C : dk_C G P (dk_rm 3) S0 m args c 0 0 cX9_setKind 5 RX9) (hr : meth.sig.returnType = (some .int)) (hlk : meth.locks = false) (hmi : dk_MI G) {K : Int32 → dk_S → Prop}  : ∀ (x1 : Int32) (x2 : Int32) (x3 : Int32) (y0 : Int32) (s : dk_S), wf_X9_setKind_37 K x1 x2 x3 y0 s → dk_W G P l e (dk_rm 3) S0 m args bel meth c 0 0 (MQ bel (dk_Qc G (dk_ki K)) args S0 0 0 (dk_A G)) 37 [some (dk_r G 4 60), some (.int x1), some (.int x2), some (.int x3), none] [.int y0, dk_r G 4 60] s := by
  intro x1 x2 x3 y0 s h
  unfold wf_X9_setKind_37 at h
  refine dk_callVi C [] (cc_X9_goesOn C.D hmi h) yy_X9_goesOn dk_wm_X9_149 dk_sh60 (hmi 60 (by decide) (by decide)) dX9_setKind_37 (fun r11 s10 h => ?_) rfl rfl ⟨Nat.le_of_ble_eq_true rfl, Nat.le_of_ble_eq_true rfl⟩ rfl (Nat.le_of_ble_eq_true rfl) rfl (n := 40) rfl
  refine dk_if_ne (t := 45) C dX9_setKind_40 (n := 43) rfl (by decide) (fun c16 => ?_) (fun c16 => ?_)
  · have h := h.1 c16
    refine dk_aload_n (i := 0) C dX9_setKind_45 (n := 46) rfl rfl rfl ?_
    refine gf_X9_17 C (hmi 60 (by decide) (by decide)) dX9_setKind_46 (n := 49) rfl ?_
    refine dk_iload_n (i := 1) C dX9_setKind_49 (n := 50) rfl rfl rfl ?_
    refine dk_iald C dk_sh62 h.1 (hmi 62 (by decide) (by decide)) dX9_setKind_50 (n := 51) rfl ?_
    have h := h.2
    refine dk_name (fun v12 ev12 => ?_)
    have h := h v12 ev12
    refine dk_istore (i := 4) (L' := [some (dk_r G 4 60), some (.int x1), some (.int x2), some (.int x3), some (.int v12)]) C dX9_setKind_51 (n := 53) rfl (dk_nc_of rfl) (Nat.le_of_ble_eq_true rfl) rfl ?_
    refine dk_aload_n (i := 0) C dX9_setKind_53 (n := 54) rfl rfl rfl ?_
    refine gf_X9_17 C (hmi 60 (by decide) (by decide)) dX9_setKind_54 (n := 57) rfl ?_
    refine dk_iload_n (i := 1) C dX9_setKind_57 (n := 58) rfl rfl rfl ?_
    refine dk_iload_n (i := 2) C dX9_setKind_58 (n := 59) rfl rfl rfl ?_
    refine dk_iast C dk_sh62 h.1 (hmi 62 (by decide) (by decide)) dX9_setKind_59 (n := 60) rfl ?_
    refine dk_nameS (fun s13 es13 => ?_)
    have h := h.2 s13 es13
    refine dk_aload_n (i := 0) C dX9_setKind_60 (n := 61) rfl rfl rfl ?_
    refine gf_X9_21 C (hmi 60 (by decide) (by decide)) dX9_setKind_61 (n := 64) rfl ?_
    refine dk_iload_n (i := 1) C dX9_setKind_64 (n := 65) rfl rfl rfl ?_
    refine dk_iload_n (i := 3) C dX9_setKind_65 (n := 66) rfl rfl rfl ?_
    refine dk_zast C dk_sh63 h.1 (hmi 63 (by decide) (by decide)) dX9_setKind_66 (n := 67) rfl ?_
    refine dk_nameS (fun s14 es14 => ?_)
    have h := h.2 s14 es14
    refine dk_aload_n (i := 0) C dX9_setKind_67 (n := 68) rfl rfl rfl ?_
    refine dk_callVv C [] (cc_X9_tells C.D hmi h) yy_X9_tells dk_wm_X9_153 dk_sh60 (hmi 60 (by decide) (by decide)) dX9_setKind_68 (fun s15 h => ?_) rfl rfl ⟨Nat.le_of_ble_eq_true rfl, Nat.le_of_ble_eq_true rfl⟩ rfl (Nat.le_of_ble_eq_true rfl) rfl (n := 71) rfl
    refine dk_iload C dX9_setKind_71 (n := 73) rfl (i := 4) rfl ?_
    exact dk_iret C hr hlk rfl dX9_setKind_73 ⟨_, rfl, h⟩
  · have h := h.2 c16
    refine dk_iconst (v := 0) C dX9_setKind_43 (n := 44) rfl (by decide) ?_
    exact dk_iret C hr hlk rfl dX9_setKind_44 ⟨_, rfl, h⟩
set_option maxRecDepth 20000 in
set_option maxHeartbeats 4000000 in
theorem cc_X9_setKind {G : dk_G} {l : Launch} {a1 : Int32} {a2 : Int32} {a3 : Int32} (hD : dk_D G) (hmi : dk_MI G) {s : dk_S} {K : Int32 → dk_S → Prop} (h : wf_X9_setKind a1 a2 a3 s K) : dk_M G l 3 yX9_setKind cX9_setKind 5 (some .int) [dk_r G 4 60, .int a1, .int a2, .int a3] s (dk_ki K) := by
  refine dk_of hD (by decide) [some (dk_r G 4 60), some (.int a1), some (.int a2), some (.int a3), none] (fun q hq => hq) rfl (Nat.le_of_ble_eq_true rfl) (fun P e S0 m args bel meth c C hr hlk => ?_)
  unfold wf_X9_setKind at h
  refine dk_aload_n (i := 0) C dX9_setKind_0 (n := 1) rfl rfl rfl ?_
  refine dk_iload_n (i := 1) C dX9_setKind_1 (n := 2) rfl rfl rfl ?_
  refine dk_iconst (v := 0) C dX9_setKind_2 (n := 3) rfl (by decide) ?_
  refine dk_bipush (v := 7) C dX9_setKind_3 (n := 5) rfl (by decide) ?_
  refine dk_callSi C [dk_r G 4 60] (cc_X9_in C.D  h) yy_X9_in dk_wm_X9_110 dX9_setKind_5 (fun r2 s1 h => ?_) rfl ⟨Nat.le_of_ble_eq_true rfl, Nat.le_of_ble_eq_true rfl⟩ rfl (Nat.le_of_ble_eq_true rfl) rfl (n := 8) rfl
  refine dk_if_eq (t := 21) C dX9_setKind_8 (n := 11) rfl (by decide) (fun c9 => ?_) (fun c9 => ?_)
  · have h := h.1 c9
    refine dk_iconst (v := 1) C dX9_setKind_21 (n := 22) rfl (by decide) ?_
    refine dk_goto (t := 37) C dX9_setKind_22 (by decide) ?_
    refine dk_sub (L0 := [some (dk_r G 4 60), some (.int a1), some (.int a2), some (.int a3), none]) ⟨rfl, ⟨rfl, ⟨rfl, ⟨rfl, trivial⟩⟩⟩⟩ ?_
    exact ww_X9_setKind_37 C hr hlk hmi  a1 a2 a3 1 s1 h
  · have h := h.2 c9
    refine dk_iload_n (i := 2) C dX9_setKind_11 (n := 12) rfl rfl rfl ?_
    refine dk_iconst (v := 0) C dX9_setKind_12 (n := 13) rfl (by decide) ?_
    refine dk_bipush (v := 9) C dX9_setKind_13 (n := 15) rfl (by decide) ?_
    refine dk_callSi C [dk_r G 4 60] (cc_X9_in C.D  h) yy_X9_in dk_wm_X9_110 dX9_setKind_15 (fun r4 s3 h => ?_) rfl ⟨Nat.le_of_ble_eq_true rfl, Nat.le_of_ble_eq_true rfl⟩ rfl (Nat.le_of_ble_eq_true rfl) rfl (n := 18) rfl
    refine dk_if_ne (t := 25) C dX9_setKind_18 (n := 21) rfl (by decide) (fun c8 => ?_) (fun c8 => ?_)
    · have h := h.1 c8
      refine dk_aload_n (i := 0) C dX9_setKind_25 (n := 26) rfl rfl rfl ?_
      refine dk_callVi C [dk_r G 4 60] (cc_X9_isOn C.D hmi h) yy_X9_isOn dk_wm_X9_145 dk_sh60 (hmi 60 (by decide) (by decide)) dX9_setKind_26 (fun r6 s5 h => ?_) rfl rfl ⟨Nat.le_of_ble_eq_true rfl, Nat.le_of_ble_eq_true rfl⟩ rfl (Nat.le_of_ble_eq_true rfl) rfl (n := 29) rfl
      refine dk_if_eq (t := 36) C dX9_setKind_29 (n := 32) rfl (by decide) (fun c7 => ?_) (fun c7 => ?_)
      · have h := h.1 c7
        refine dk_iconst (v := 0) C dX9_setKind_36 (n := 37) rfl (by decide) ?_
        refine dk_sub (L0 := [some (dk_r G 4 60), some (.int a1), some (.int a2), some (.int a3), none]) ⟨rfl, ⟨rfl, ⟨rfl, ⟨rfl, trivial⟩⟩⟩⟩ ?_
        exact ww_X9_setKind_37 C hr hlk hmi  a1 a2 a3 0 s5 h
      · have h := h.2 c7
        refine dk_iconst (v := 2) C dX9_setKind_32 (n := 33) rfl (by decide) ?_
        refine dk_goto (t := 37) C dX9_setKind_33 (by decide) ?_
        refine dk_sub (L0 := [some (dk_r G 4 60), some (.int a1), some (.int a2), some (.int a3), none]) ⟨rfl, ⟨rfl, ⟨rfl, ⟨rfl, trivial⟩⟩⟩⟩ ?_
        exact ww_X9_setKind_37 C hr hlk hmi  a1 a2 a3 2 s5 h
    · have h := h.2 c8
      refine dk_iconst (v := 1) C dX9_setKind_21 (n := 22) rfl (by decide) ?_
      refine dk_goto (t := 37) C dX9_setKind_22 (by decide) ?_
      refine dk_sub (L0 := [some (dk_r G 4 60), some (.int a1), some (.int a2), some (.int a3), none]) ⟨rfl, ⟨rfl, ⟨rfl, ⟨rfl, trivial⟩⟩⟩⟩ ?_
      exact ww_X9_setKind_37 C hr hlk hmi  a1 a2 a3 1 s3 h
/-! X9_isEffect -/
set_option maxRecDepth 20000 in
set_option maxHeartbeats 4000000 in
theorem ww_X9_isEffect_30 {G : dk_G} {P : Program} {l : Launch} {e : Env} {S0 : State} {m : MethodId} {args : Array Value} {bel : List Frame} {meth : Method} {c : Code}  (C : dk_C G P (dk_rm 1) S0 m args c 0 0 cX9_isEffect 1 RX9) (hr : meth.sig.returnType = (some .boolean)) (hlk : meth.locks = false)  {K : Int32 → dk_S → Prop}  : ∀  (s : dk_S), wf_X9_isEffect_30 K s → dk_W G P l e (dk_rm 1) S0 m args bel meth c 0 0 (MQ bel (dk_Qc G (dk_ki K)) args S0 0 0 (dk_A G)) 30 [none] [] s := by
  intro s h
  unfold wf_X9_isEffect_30 at h
  refine dk_iconst (v := 1) C dX9_isEffect_30 (n := 31) rfl (by decide) ?_
  refine dk_goto (t := 35) C dX9_isEffect_31 (by decide) ?_
  exact dk_iret C hr hlk dk_nz1 dX9_isEffect_35 ⟨_, rfl, h⟩
set_option maxRecDepth 20000 in
set_option maxHeartbeats 4000000 in
theorem cc_X9_isEffect {G : dk_G} {l : Launch} {a0 : Int32} (hD : dk_D G)  {s : dk_S} {K : Int32 → dk_S → Prop} (h : wf_X9_isEffect a0 s K) : dk_M G l 1 yX9_isEffect cX9_isEffect 1 (some .boolean) [.int a0] s (dk_ki K) := by
  refine dk_of hD (by decide) [some (.int a0)] (fun q hq => hq) rfl (Nat.le_of_ble_eq_true rfl) (fun P e S0 m args bel meth c C hr hlk => ?_)
  unfold wf_X9_isEffect at h
  refine dk_iload_n (i := 0) C dX9_isEffect_0 (n := 1) rfl rfl rfl ?_
  refine dk_bipush (v := 104) C dX9_isEffect_1 (n := 3) rfl (by decide) ?_
  refine dk_icmp_eq (t := 30) C dX9_isEffect_3 (n := 6) rfl (by decide) (fun c5 => ?_) (fun c5 => ?_)
  · have h := h.1 c5
    refine dk_sub (L0 := [none]) trivial ?_
    exact ww_X9_isEffect_30 C hr hlk   s h
  · have h := h.2 c5
    refine dk_iload_n (i := 0) C dX9_isEffect_6 (n := 7) rfl rfl rfl ?_
    refine dk_bipush (v := 100) C dX9_isEffect_7 (n := 9) rfl (by decide) ?_
    refine dk_icmp_eq (t := 30) C dX9_isEffect_9 (n := 12) rfl (by decide) (fun c4 => ?_) (fun c4 => ?_)
    · have h := h.1 c4
      refine dk_sub (L0 := [none]) trivial ?_
      exact ww_X9_isEffect_30 C hr hlk   s h
    · have h := h.2 c4
      refine dk_iload_n (i := 0) C dX9_isEffect_12 (n := 13) rfl rfl rfl ?_
      refine dk_bipush (v := 115) C dX9_isEffect_13 (n := 15) rfl (by decide) ?_
      refine dk_icmp_eq (t := 30) C dX9_isEffect_15 (n := 18) rfl (by decide) (fun c3 => ?_) (fun c3 => ?_)
      · have h := h.1 c3
        refine dk_sub (L0 := [none]) trivial ?_
        exact ww_X9_isEffect_30 C hr hlk   s h
      · have h := h.2 c3
        refine dk_iload_n (i := 0) C dX9_isEffect_18 (n := 19) rfl rfl rfl ?_
        refine dk_bipush (v := 98) C dX9_isEffect_19 (n := 21) rfl (by decide) ?_
        refine dk_icmp_eq (t := 30) C dX9_isEffect_21 (n := 24) rfl (by decide) (fun c2 => ?_) (fun c2 => ?_)
        · have h := h.1 c2
          refine dk_sub (L0 := [none]) trivial ?_
          exact ww_X9_isEffect_30 C hr hlk   s h
        · have h := h.2 c2
          refine dk_iload_n (i := 0) C dX9_isEffect_24 (n := 25) rfl rfl rfl ?_
          refine dk_bipush (v := 102) C dX9_isEffect_25 (n := 27) rfl (by decide) ?_
          refine dk_icmp_ne (t := 34) C dX9_isEffect_27 (n := 30) rfl (by decide) (fun c1 => ?_) (fun c1 => ?_)
          · have h := h.1 c1
            refine dk_iconst (v := 0) C dX9_isEffect_34 (n := 35) rfl (by decide) ?_
            exact dk_iret C hr hlk dk_nz0 dX9_isEffect_35 ⟨_, rfl, h⟩
          · have h := h.2 c1
            refine dk_sub (L0 := [none]) trivial ?_
            exact ww_X9_isEffect_30 C hr hlk   s h
/-! X9_isPotion -/
set_option maxRecDepth 20000 in
set_option maxHeartbeats 4000000 in
theorem cc_X9_isPotion {G : dk_G} {l : Launch} {a0 : Int32} (hD : dk_D G)  {s : dk_S} {K : Int32 → dk_S → Prop} (h : wf_X9_isPotion a0 s K) : dk_M G l 2 yX9_isPotion cX9_isPotion 1 (some .boolean) [.int a0] s (dk_ki K) := by
  refine dk_of hD (by decide) [some (.int a0)] (fun q hq => hq) rfl (Nat.le_of_ble_eq_true rfl) (fun P e S0 m args bel meth c C hr hlk => ?_)
  unfold wf_X9_isPotion at h
  refine dk_iload_n (i := 0) C dX9_isPotion_0 (n := 1) rfl rfl rfl ?_
  refine dk_iconst (v := 3) C dX9_isPotion_1 (n := 2) rfl (by decide) ?_
  refine dk_iconst (v := 5) C dX9_isPotion_2 (n := 3) rfl (by decide) ?_
  refine dk_callSi C [] (cc_X9_in C.D  h) yy_X9_in dk_wm_X9_110 dX9_isPotion_3 (fun r2 s1 h => ?_) rfl ⟨Nat.le_of_ble_eq_true rfl, Nat.le_of_ble_eq_true rfl⟩ rfl (Nat.le_of_ble_eq_true rfl) rfl (n := 6) rfl
  exact dk_iret C hr hlk h.1 dX9_isPotion_6 ⟨_, rfl, h.2⟩
/-! X9_setEffect -/
set_option maxRecDepth 20000 in
set_option maxHeartbeats 4000000 in
theorem ww_X9_setEffect_63 {G : dk_G} {P : Program} {l : Launch} {e : Env} {S0 : State} {m : MethodId} {args : Array Value} {bel : List Frame} {meth : Method} {c : Code}  (C : dk_C G P (dk_rm 3) S0 m args c 0 0 cX9_setEffect 7 RX9) (hr : meth.sig.returnType = (some .char)) (hlk : meth.locks = false) (hmi : dk_MI G) {K : Int32 → dk_S → Prop}  : ∀ (x1 : Int32) (x2 : Int32) (x3 : Int32) (x4 : Int32) (y0 : Int32) (s : dk_S), wf_X9_setEffect_63 K x1 x2 x3 x4 y0 s → dk_W G P l e (dk_rm 3) S0 m args bel meth c 0 0 (MQ bel (dk_Qc G (dk_ki K)) args S0 0 0 (dk_A G)) 63 [some (dk_r G 4 60), some (.int x1), some (.int x2), some (.int x3), some (.int x4), none, none] [.int y0, dk_r G 4 60] s := by
  intro x1 x2 x3 x4 y0 s h
  unfold wf_X9_setEffect_63 at h
  refine dk_callVi C [] (cc_X9_goesOn C.D hmi h) yy_X9_goesOn dk_wm_X9_149 dk_sh60 (hmi 60 (by decide) (by decide)) dX9_setEffect_63 (fun r18 s17 h => ?_) rfl rfl ⟨Nat.le_of_ble_eq_true rfl, Nat.le_of_ble_eq_true rfl⟩ rfl (Nat.le_of_ble_eq_true rfl) rfl (n := 66) rfl
  refine dk_if_ne (t := 71) C dX9_setEffect_66 (n := 69) rfl (by decide) (fun c24 => ?_) (fun c24 => ?_)
  · have h := h.1 c24
    refine dk_aload_n (i := 0) C dX9_setEffect_71 (n := 72) rfl rfl rfl ?_
    refine gf_X9_25 C (hmi 60 (by decide) (by decide)) dX9_setEffect_72 (n := 75) rfl ?_
    refine dk_iload_n (i := 1) C dX9_setEffect_75 (n := 76) rfl rfl rfl ?_
    refine dk_cald C dk_sh64 h.1 (hmi 64 (by decide) (by decide)) dX9_setEffect_76 (n := 77) rfl ?_
    have h := h.2
    refine dk_name (fun v19 ev19 => ?_)
    have h := h v19 ev19
    refine dk_istore (i := 6) (L' := [some (dk_r G 4 60), some (.int x1), some (.int x2), some (.int x3), some (.int x4), none, some (.int v19)]) C dX9_setEffect_77 (n := 79) rfl (dk_nc_of rfl) (Nat.le_of_ble_eq_true rfl) rfl ?_
    refine dk_aload_n (i := 0) C dX9_setEffect_79 (n := 80) rfl rfl rfl ?_
    refine gf_X9_25 C (hmi 60 (by decide) (by decide)) dX9_setEffect_80 (n := 83) rfl ?_
    refine dk_iload_n (i := 1) C dX9_setEffect_83 (n := 84) rfl rfl rfl ?_
    refine dk_iload_n (i := 2) C dX9_setEffect_84 (n := 85) rfl rfl rfl ?_
    refine dk_cast C dk_sh64 h.1 (hmi 64 (by decide) (by decide)) dX9_setEffect_85 (n := 86) rfl ?_
    refine dk_nameS (fun s20 es20 => ?_)
    have h := h.2 s20 es20
    refine dk_aload_n (i := 0) C dX9_setEffect_86 (n := 87) rfl rfl rfl ?_
    refine gf_X9_28 C (hmi 60 (by decide) (by decide)) dX9_setEffect_87 (n := 90) rfl ?_
    refine dk_iload_n (i := 1) C dX9_setEffect_90 (n := 91) rfl rfl rfl ?_
    refine dk_iload_n (i := 3) C dX9_setEffect_91 (n := 92) rfl rfl rfl ?_
    refine dk_iast C dk_sh65 h.1 (hmi 65 (by decide) (by decide)) dX9_setEffect_92 (n := 93) rfl ?_
    refine dk_nameS (fun s21 es21 => ?_)
    have h := h.2 s21 es21
    refine dk_aload_n (i := 0) C dX9_setEffect_93 (n := 94) rfl rfl rfl ?_
    refine gf_X9_31 C (hmi 60 (by decide) (by decide)) dX9_setEffect_94 (n := 97) rfl ?_
    refine dk_iload_n (i := 1) C dX9_setEffect_97 (n := 98) rfl rfl rfl ?_
    refine dk_iload C dX9_setEffect_98 (n := 100) rfl (i := 4) rfl ?_
    refine dk_iast C dk_sh66 h.1 (hmi 66 (by decide) (by decide)) dX9_setEffect_100 (n := 101) rfl ?_
    refine dk_nameS (fun s22 es22 => ?_)
    have h := h.2 s22 es22
    refine dk_aload_n (i := 0) C dX9_setEffect_101 (n := 102) rfl rfl rfl ?_
    refine dk_callVv C [] (cc_X9_tells C.D hmi h) yy_X9_tells dk_wm_X9_153 dk_sh60 (hmi 60 (by decide) (by decide)) dX9_setEffect_102 (fun s23 h => ?_) rfl rfl ⟨Nat.le_of_ble_eq_true rfl, Nat.le_of_ble_eq_true rfl⟩ rfl (Nat.le_of_ble_eq_true rfl) rfl (n := 105) rfl
    refine dk_iload C dX9_setEffect_105 (n := 107) rfl (i := 6) rfl ?_
    exact dk_iret C hr hlk h.1 dX9_setEffect_107 ⟨_, rfl, h.2⟩
  · have h := h.2 c24
    refine dk_iconst (v := 0) C dX9_setEffect_69 (n := 70) rfl (by decide) ?_
    exact dk_iret C hr hlk (by decide) dX9_setEffect_70 ⟨_, rfl, h⟩
set_option maxRecDepth 20000 in
set_option maxHeartbeats 4000000 in
theorem ww_X9_setEffect_39 {G : dk_G} {P : Program} {l : Launch} {e : Env} {S0 : State} {m : MethodId} {args : Array Value} {bel : List Frame} {meth : Method} {c : Code}  (C : dk_C G P (dk_rm 3) S0 m args c 0 0 cX9_setEffect 7 RX9) (hr : meth.sig.returnType = (some .char)) (hlk : meth.locks = false) (hmi : dk_MI G) {K : Int32 → dk_S → Prop}  : ∀ (x1 : Int32) (x2 : Int32) (x3 : Int32) (x4 : Int32) (y0 : Int32) (s : dk_S), wf_X9_setEffect_39 K x1 x2 x3 x4 y0 s → dk_W G P l e (dk_rm 3) S0 m args bel meth c 0 0 (MQ bel (dk_Qc G (dk_ki K)) args S0 0 0 (dk_A G)) 39 [some (dk_r G 4 60), some (.int x1), some (.int x2), some (.int x3), some (.int x4), none, none] [.int y0] s := by
  intro x1 x2 x3 x4 y0 s h
  unfold wf_X9_setEffect_39 at h
  refine dk_istore (i := 5) (L' := [some (dk_r G 4 60), some (.int x1), some (.int x2), some (.int x3), some (.int x4), some (.int y0), none]) C dX9_setEffect_39 (n := 41) rfl (dk_nc_of rfl) (Nat.le_of_ble_eq_true rfl) rfl ?_
  refine dk_aload_n (i := 0) C dX9_setEffect_41 (n := 42) rfl rfl rfl ?_
  refine dk_iload C dX9_setEffect_42 (n := 44) rfl (i := 5) rfl ?_
  refine dk_if_ne (t := 51) C dX9_setEffect_44 (n := 47) rfl (by decide) (fun c16 => ?_) (fun c16 => ?_)
  · have h := h.1 c16
    refine dk_aload_n (i := 0) C dX9_setEffect_51 (n := 52) rfl rfl rfl ?_
    refine dk_callVi C [dk_r G 4 60] (cc_X9_isOn C.D hmi h) yy_X9_isOn dk_wm_X9_145 dk_sh60 (hmi 60 (by decide) (by decide)) dX9_setEffect_52 (fun r14 s13 h => ?_) rfl rfl ⟨Nat.le_of_ble_eq_true rfl, Nat.le_of_ble_eq_true rfl⟩ rfl (Nat.le_of_ble_eq_true rfl) rfl (n := 55) rfl
    refine dk_if_eq (t := 62) C dX9_setEffect_55 (n := 58) rfl (by decide) (fun c15 => ?_) (fun c15 => ?_)
    · have h := h.1 c15
      refine dk_iconst (v := 0) C dX9_setEffect_62 (n := 63) rfl (by decide) ?_
      refine dk_sub (L0 := [some (dk_r G 4 60), some (.int x1), some (.int x2), some (.int x3), some (.int x4), none, none]) ⟨rfl, ⟨rfl, ⟨rfl, ⟨rfl, ⟨rfl, trivial⟩⟩⟩⟩⟩ ?_
      exact ww_X9_setEffect_63 C hr hlk hmi  x1 x2 x3 x4 0 s13 h
    · have h := h.2 c15
      refine dk_iconst (v := 2) C dX9_setEffect_58 (n := 59) rfl (by decide) ?_
      refine dk_goto (t := 63) C dX9_setEffect_59 (by decide) ?_
      refine dk_sub (L0 := [some (dk_r G 4 60), some (.int x1), some (.int x2), some (.int x3), some (.int x4), none, none]) ⟨rfl, ⟨rfl, ⟨rfl, ⟨rfl, ⟨rfl, trivial⟩⟩⟩⟩⟩ ?_
      exact ww_X9_setEffect_63 C hr hlk hmi  x1 x2 x3 x4 2 s13 h
  · have h := h.2 c16
    refine dk_iconst (v := 1) C dX9_setEffect_47 (n := 48) rfl (by decide) ?_
    refine dk_goto (t := 63) C dX9_setEffect_48 (by decide) ?_
    refine dk_sub (L0 := [some (dk_r G 4 60), some (.int x1), some (.int x2), some (.int x3), some (.int x4), none, none]) ⟨rfl, ⟨rfl, ⟨rfl, ⟨rfl, ⟨rfl, trivial⟩⟩⟩⟩⟩ ?_
    exact ww_X9_setEffect_63 C hr hlk hmi  x1 x2 x3 x4 1 s h
set_option maxRecDepth 20000 in
set_option maxHeartbeats 4000000 in
theorem cc_X9_setEffect {G : dk_G} {l : Launch} {a1 : Int32} {a2 : Int32} {a3 : Int32} {a4 : Int32} (hD : dk_D G) (hmi : dk_MI G) {s : dk_S} {K : Int32 → dk_S → Prop} (h : wf_X9_setEffect a1 a2 a3 a4 s K) : dk_M G l 3 yX9_setEffect cX9_setEffect 7 (some .char) [dk_r G 4 60, .int a1, .int a2, .int a3, .int a4] s (dk_ki K) := by
  refine dk_of hD (by decide) [some (dk_r G 4 60), some (.int a1), some (.int a2), some (.int a3), some (.int a4), none, none] (fun q hq => hq) rfl (Nat.le_of_ble_eq_true rfl) (fun P e S0 m args bel meth c C hr hlk => ?_)
  unfold wf_X9_setEffect at h
  refine dk_iload_n (i := 1) C dX9_setEffect_0 (n := 1) rfl rfl rfl ?_
  refine dk_callSi C [] (cc_X9_isPotion C.D  h) yy_X9_isPotion dk_wm_X9_156 dX9_setEffect_1 (fun r2 s1 h => ?_) rfl ⟨Nat.le_of_ble_eq_true rfl, Nat.le_of_ble_eq_true rfl⟩ rfl (Nat.le_of_ble_eq_true rfl) rfl (n := 4) rfl
  refine dk_if_eq (t := 38) C dX9_setEffect_4 (n := 7) rfl (by decide) (fun c12 => ?_) (fun c12 => ?_)
  · have h := h.1 c12
    refine dk_iconst (v := 0) C dX9_setEffect_38 (n := 39) rfl (by decide) ?_
    refine dk_sub (L0 := [some (dk_r G 4 60), some (.int a1), some (.int a2), some (.int a3), some (.int a4), none, none]) ⟨rfl, ⟨rfl, ⟨rfl, ⟨rfl, ⟨rfl, trivial⟩⟩⟩⟩⟩ ?_
    exact ww_X9_setEffect_39 C hr hlk hmi  a1 a2 a3 a4 0 s1 h
  · have h := h.2 c12
    refine dk_iload_n (i := 2) C dX9_setEffect_7 (n := 8) rfl rfl rfl ?_
    refine dk_callSi C [] (cc_X9_isEffect C.D  h) yy_X9_isEffect dk_wm_X9_159 dX9_setEffect_8 (fun r4 s3 h => ?_) rfl ⟨Nat.le_of_ble_eq_true rfl, Nat.le_of_ble_eq_true rfl⟩ rfl (Nat.le_of_ble_eq_true rfl) rfl (n := 11) rfl
    refine dk_if_eq (t := 38) C dX9_setEffect_11 (n := 14) rfl (by decide) (fun c11 => ?_) (fun c11 => ?_)
    · have h := h.1 c11
      refine dk_iconst (v := 0) C dX9_setEffect_38 (n := 39) rfl (by decide) ?_
      refine dk_sub (L0 := [some (dk_r G 4 60), some (.int a1), some (.int a2), some (.int a3), some (.int a4), none, none]) ⟨rfl, ⟨rfl, ⟨rfl, ⟨rfl, ⟨rfl, trivial⟩⟩⟩⟩⟩ ?_
      exact ww_X9_setEffect_39 C hr hlk hmi  a1 a2 a3 a4 0 s3 h
    · have h := h.2 c11
      refine dk_iload_n (i := 3) C dX9_setEffect_14 (n := 15) rfl rfl rfl ?_
      refine dk_iconst (v := 1) C dX9_setEffect_15 (n := 16) rfl (by decide) ?_
      refine dk_bipush (v := 20) C dX9_setEffect_16 (n := 18) rfl (by decide) ?_
      refine dk_callSi C [] (cc_X9_in C.D  h) yy_X9_in dk_wm_X9_110 dX9_setEffect_18 (fun r6 s5 h => ?_) rfl ⟨Nat.le_of_ble_eq_true rfl, Nat.le_of_ble_eq_true rfl⟩ rfl (Nat.le_of_ble_eq_true rfl) rfl (n := 21) rfl
      refine dk_if_eq (t := 38) C dX9_setEffect_21 (n := 24) rfl (by decide) (fun c10 => ?_) (fun c10 => ?_)
      · have h := h.1 c10
        refine dk_iconst (v := 0) C dX9_setEffect_38 (n := 39) rfl (by decide) ?_
        refine dk_sub (L0 := [some (dk_r G 4 60), some (.int a1), some (.int a2), some (.int a3), some (.int a4), none, none]) ⟨rfl, ⟨rfl, ⟨rfl, ⟨rfl, ⟨rfl, trivial⟩⟩⟩⟩⟩ ?_
        exact ww_X9_setEffect_39 C hr hlk hmi  a1 a2 a3 a4 0 s5 h
      · have h := h.2 c10
        refine dk_iload C dX9_setEffect_24 (n := 26) rfl (i := 4) rfl ?_
        refine dk_iconst (v := 0) C dX9_setEffect_26 (n := 27) rfl (by decide) ?_
        refine dk_iconst (v := 3) C dX9_setEffect_27 (n := 28) rfl (by decide) ?_
        refine dk_callSi C [] (cc_X9_in C.D  h) yy_X9_in dk_wm_X9_110 dX9_setEffect_28 (fun r8 s7 h => ?_) rfl ⟨Nat.le_of_ble_eq_true rfl, Nat.le_of_ble_eq_true rfl⟩ rfl (Nat.le_of_ble_eq_true rfl) rfl (n := 31) rfl
        refine dk_if_eq (t := 38) C dX9_setEffect_31 (n := 34) rfl (by decide) (fun c9 => ?_) (fun c9 => ?_)
        · have h := h.1 c9
          refine dk_iconst (v := 0) C dX9_setEffect_38 (n := 39) rfl (by decide) ?_
          refine dk_sub (L0 := [some (dk_r G 4 60), some (.int a1), some (.int a2), some (.int a3), some (.int a4), none, none]) ⟨rfl, ⟨rfl, ⟨rfl, ⟨rfl, ⟨rfl, trivial⟩⟩⟩⟩⟩ ?_
          exact ww_X9_setEffect_39 C hr hlk hmi  a1 a2 a3 a4 0 s7 h
        · have h := h.2 c9
          refine dk_iconst (v := 1) C dX9_setEffect_34 (n := 35) rfl (by decide) ?_
          refine dk_goto (t := 39) C dX9_setEffect_35 (by decide) ?_
          refine dk_sub (L0 := [some (dk_r G 4 60), some (.int a1), some (.int a2), some (.int a3), some (.int a4), none, none]) ⟨rfl, ⟨rfl, ⟨rfl, ⟨rfl, ⟨rfl, trivial⟩⟩⟩⟩⟩ ?_
          exact ww_X9_setEffect_39 C hr hlk hmi  a1 a2 a3 a4 1 s7 h
/-! X9_setHero -/
set_option maxRecDepth 20000 in
set_option maxHeartbeats 4000000 in
theorem ww_X9_setHero_50 {G : dk_G} {P : Program} {l : Launch} {e : Env} {S0 : State} {m : MethodId} {args : Array Value} {bel : List Frame} {meth : Method} {c : Code}  (C : dk_C G P (dk_rm 3) S0 m args c 0 0 cX9_setHero 6 RX9) (hr : meth.sig.returnType = (some .int)) (hlk : meth.locks = false) (hmi : dk_MI G) {K : Int32 → dk_S → Prop}  : ∀ (x1 : Int32) (x2 : Int32) (x3 : Int32) (x4 : Int32) (y0 : Int32) (s : dk_S), wf_X9_setHero_50 K x1 x2 x3 x4 y0 s → dk_W G P l e (dk_rm 3) S0 m args bel meth c 0 0 (MQ bel (dk_Qc G (dk_ki K)) args S0 0 0 (dk_A G)) 50 [some (dk_r G 4 60), some (.int x1), some (.int x2), some (.int x3), some (.int x4), none] [.int y0, dk_r G 4 60] s := by
  intro x1 x2 x3 x4 y0 s h
  unfold wf_X9_setHero_50 at h
  refine dk_callVi C [] (cc_X9_goesOn C.D hmi h) yy_X9_goesOn dk_wm_X9_149 dk_sh60 (hmi 60 (by decide) (by decide)) dX9_setHero_50 (fun r14 s13 h => ?_) rfl rfl ⟨Nat.le_of_ble_eq_true rfl, Nat.le_of_ble_eq_true rfl⟩ rfl (Nat.le_of_ble_eq_true rfl) rfl (n := 53) rfl
  refine dk_if_ne (t := 58) C dX9_setHero_53 (n := 56) rfl (by decide) (fun c22 => ?_) (fun c22 => ?_)
  · have h := h.1 c22
    refine dk_aload_n (i := 0) C dX9_setHero_58 (n := 59) rfl rfl rfl ?_
    refine gf_X9_47 C (hmi 60 (by decide) (by decide)) dX9_setHero_59 (n := 62) rfl ?_
    refine dk_iconst (v := 0) C dX9_setHero_62 (n := 63) rfl (by decide) ?_
    refine dk_iald C dk_sh70 h.1 (hmi 70 (by decide) (by decide)) dX9_setHero_63 (n := 64) rfl ?_
    have h := h.2
    refine dk_name (fun v15 ev15 => ?_)
    have h := h v15 ev15
    refine dk_istore (i := 5) (L' := [some (dk_r G 4 60), some (.int x1), some (.int x2), some (.int x3), some (.int x4), some (.int v15)]) C dX9_setHero_64 (n := 66) rfl (dk_nc_of rfl) (Nat.le_of_ble_eq_true rfl) rfl ?_
    refine dk_aload_n (i := 0) C dX9_setHero_66 (n := 67) rfl rfl rfl ?_
    refine gf_X9_38 C (hmi 60 (by decide) (by decide)) dX9_setHero_67 (n := 70) rfl ?_
    refine dk_iconst (v := 0) C dX9_setHero_70 (n := 71) rfl (by decide) ?_
    refine dk_iload_n (i := 1) C dX9_setHero_71 (n := 72) rfl rfl rfl ?_
    refine dk_iload_n (i := 2) C dX9_setHero_72 (n := 73) rfl rfl rfl ?_
    refine dk_callSi C [.int 0, dk_r G 4 67] (cc_X9_at C.D  h) yy_X9_at dk_wm_X9_125 dX9_setHero_73 (fun r17 s16 h => ?_) rfl ⟨Nat.le_of_ble_eq_true rfl, Nat.le_of_ble_eq_true rfl⟩ rfl (Nat.le_of_ble_eq_true rfl) rfl (n := 76) rfl
    refine dk_iast C dk_sh67 h.1 (hmi 67 (by decide) (by decide)) dX9_setHero_76 (n := 77) rfl ?_
    refine dk_nameS (fun s18 es18 => ?_)
    have h := h.2 s18 es18
    refine dk_aload_n (i := 0) C dX9_setHero_77 (n := 78) rfl rfl rfl ?_
    refine gf_X9_41 C (hmi 60 (by decide) (by decide)) dX9_setHero_78 (n := 81) rfl ?_
    refine dk_iconst (v := 0) C dX9_setHero_81 (n := 82) rfl (by decide) ?_
    refine dk_iload_n (i := 3) C dX9_setHero_82 (n := 83) rfl rfl rfl ?_
    refine dk_iast C dk_sh68 h.1 (hmi 68 (by decide) (by decide)) dX9_setHero_83 (n := 84) rfl ?_
    refine dk_nameS (fun s19 es19 => ?_)
    have h := h.2 s19 es19
    refine dk_aload_n (i := 0) C dX9_setHero_84 (n := 85) rfl rfl rfl ?_
    refine gf_X9_47 C (hmi 60 (by decide) (by decide)) dX9_setHero_85 (n := 88) rfl ?_
    refine dk_iconst (v := 0) C dX9_setHero_88 (n := 89) rfl (by decide) ?_
    refine dk_iload C dX9_setHero_89 (n := 91) rfl (i := 4) rfl ?_
    refine dk_iast C dk_sh70 h.1 (hmi 70 (by decide) (by decide)) dX9_setHero_91 (n := 92) rfl ?_
    refine dk_nameS (fun s20 es20 => ?_)
    have h := h.2 s20 es20
    refine dk_aload_n (i := 0) C dX9_setHero_92 (n := 93) rfl rfl rfl ?_
    refine dk_callVv C [] (cc_X9_tells C.D hmi h) yy_X9_tells dk_wm_X9_153 dk_sh60 (hmi 60 (by decide) (by decide)) dX9_setHero_93 (fun s21 h => ?_) rfl rfl ⟨Nat.le_of_ble_eq_true rfl, Nat.le_of_ble_eq_true rfl⟩ rfl (Nat.le_of_ble_eq_true rfl) rfl (n := 96) rfl
    refine dk_iload C dX9_setHero_96 (n := 98) rfl (i := 5) rfl ?_
    exact dk_iret C hr hlk rfl dX9_setHero_98 ⟨_, rfl, h⟩
  · have h := h.2 c22
    refine dk_iconst (v := 0) C dX9_setHero_56 (n := 57) rfl (by decide) ?_
    exact dk_iret C hr hlk rfl dX9_setHero_57 ⟨_, rfl, h⟩
set_option maxRecDepth 20000 in
set_option maxHeartbeats 4000000 in
theorem cc_X9_setHero {G : dk_G} {l : Launch} {a1 : Int32} {a2 : Int32} {a3 : Int32} {a4 : Int32} (hD : dk_D G) (hmi : dk_MI G) {s : dk_S} {K : Int32 → dk_S → Prop} (h : wf_X9_setHero a1 a2 a3 a4 s K) : dk_M G l 3 yX9_setHero cX9_setHero 6 (some .int) [dk_r G 4 60, .int a1, .int a2, .int a3, .int a4] s (dk_ki K) := by
  refine dk_of hD (by decide) [some (dk_r G 4 60), some (.int a1), some (.int a2), some (.int a3), some (.int a4), none] (fun q hq => hq) rfl (Nat.le_of_ble_eq_true rfl) (fun P e S0 m args bel meth c C hr hlk => ?_)
  unfold wf_X9_setHero at h
  refine dk_aload_n (i := 0) C dX9_setHero_0 (n := 1) rfl rfl rfl ?_
  refine dk_iload_n (i := 1) C dX9_setHero_1 (n := 2) rfl rfl rfl ?_
  refine dk_iload_n (i := 2) C dX9_setHero_2 (n := 3) rfl rfl rfl ?_
  refine dk_callSi C [dk_r G 4 60] (cc_X9_isPlace C.D  h) yy_X9_isPlace dk_wm_X9_121 dX9_setHero_3 (fun r2 s1 h => ?_) rfl ⟨Nat.le_of_ble_eq_true rfl, Nat.le_of_ble_eq_true rfl⟩ rfl (Nat.le_of_ble_eq_true rfl) rfl (n := 6) rfl
  refine dk_if_ne (t := 13) C dX9_setHero_6 (n := 9) rfl (by decide) (fun c12 => ?_) (fun c12 => ?_)
  · have h := h.1 c12
    refine dk_iload_n (i := 3) C dX9_setHero_13 (n := 14) rfl rfl rfl ?_
    refine dk_iconst (v := 1) C dX9_setHero_14 (n := 15) rfl (by decide) ?_
    refine dk_bipush (v := 24) C dX9_setHero_15 (n := 17) rfl (by decide) ?_
    refine dk_callSi C [dk_r G 4 60] (cc_X9_in C.D  h) yy_X9_in dk_wm_X9_110 dX9_setHero_17 (fun r4 s3 h => ?_) rfl ⟨Nat.le_of_ble_eq_true rfl, Nat.le_of_ble_eq_true rfl⟩ rfl (Nat.le_of_ble_eq_true rfl) rfl (n := 20) rfl
    refine dk_if_eq (t := 34) C dX9_setHero_20 (n := 23) rfl (by decide) (fun c11 => ?_) (fun c11 => ?_)
    · have h := h.1 c11
      refine dk_iconst (v := 2) C dX9_setHero_34 (n := 35) rfl (by decide) ?_
      refine dk_goto (t := 50) C dX9_setHero_35 (by decide) ?_
      refine dk_sub (L0 := [some (dk_r G 4 60), some (.int a1), some (.int a2), some (.int a3), some (.int a4), none]) ⟨rfl, ⟨rfl, ⟨rfl, ⟨rfl, ⟨rfl, trivial⟩⟩⟩⟩⟩ ?_
      exact ww_X9_setHero_50 C hr hlk hmi  a1 a2 a3 a4 2 s3 h
    · have h := h.2 c11
      refine dk_iload C dX9_setHero_23 (n := 25) rfl (i := 4) rfl ?_
      refine dk_iconst (v := 1) C dX9_setHero_25 (n := 26) rfl (by decide) ?_
      refine dk_bipush (v := 99) C dX9_setHero_26 (n := 28) rfl (by decide) ?_
      refine dk_callSi C [dk_r G 4 60] (cc_X9_in C.D  h) yy_X9_in dk_wm_X9_110 dX9_setHero_28 (fun r6 s5 h => ?_) rfl ⟨Nat.le_of_ble_eq_true rfl, Nat.le_of_ble_eq_true rfl⟩ rfl (Nat.le_of_ble_eq_true rfl) rfl (n := 31) rfl
      refine dk_if_ne (t := 38) C dX9_setHero_31 (n := 34) rfl (by decide) (fun c10 => ?_) (fun c10 => ?_)
      · have h := h.1 c10
        refine dk_aload_n (i := 0) C dX9_setHero_38 (n := 39) rfl rfl rfl ?_
        refine dk_callVi C [dk_r G 4 60] (cc_X9_isOn C.D hmi h) yy_X9_isOn dk_wm_X9_145 dk_sh60 (hmi 60 (by decide) (by decide)) dX9_setHero_39 (fun r8 s7 h => ?_) rfl rfl ⟨Nat.le_of_ble_eq_true rfl, Nat.le_of_ble_eq_true rfl⟩ rfl (Nat.le_of_ble_eq_true rfl) rfl (n := 42) rfl
        refine dk_if_eq (t := 49) C dX9_setHero_42 (n := 45) rfl (by decide) (fun c9 => ?_) (fun c9 => ?_)
        · have h := h.1 c9
          refine dk_iconst (v := 0) C dX9_setHero_49 (n := 50) rfl (by decide) ?_
          refine dk_sub (L0 := [some (dk_r G 4 60), some (.int a1), some (.int a2), some (.int a3), some (.int a4), none]) ⟨rfl, ⟨rfl, ⟨rfl, ⟨rfl, ⟨rfl, trivial⟩⟩⟩⟩⟩ ?_
          exact ww_X9_setHero_50 C hr hlk hmi  a1 a2 a3 a4 0 s7 h
        · have h := h.2 c9
          refine dk_iconst (v := 3) C dX9_setHero_45 (n := 46) rfl (by decide) ?_
          refine dk_goto (t := 50) C dX9_setHero_46 (by decide) ?_
          refine dk_sub (L0 := [some (dk_r G 4 60), some (.int a1), some (.int a2), some (.int a3), some (.int a4), none]) ⟨rfl, ⟨rfl, ⟨rfl, ⟨rfl, ⟨rfl, trivial⟩⟩⟩⟩⟩ ?_
          exact ww_X9_setHero_50 C hr hlk hmi  a1 a2 a3 a4 3 s7 h
      · have h := h.2 c10
        refine dk_iconst (v := 2) C dX9_setHero_34 (n := 35) rfl (by decide) ?_
        refine dk_goto (t := 50) C dX9_setHero_35 (by decide) ?_
        refine dk_sub (L0 := [some (dk_r G 4 60), some (.int a1), some (.int a2), some (.int a3), some (.int a4), none]) ⟨rfl, ⟨rfl, ⟨rfl, ⟨rfl, ⟨rfl, trivial⟩⟩⟩⟩⟩ ?_
        exact ww_X9_setHero_50 C hr hlk hmi  a1 a2 a3 a4 2 s5 h
  · have h := h.2 c12
    refine dk_iconst (v := 1) C dX9_setHero_9 (n := 10) rfl (by decide) ?_
    refine dk_goto (t := 50) C dX9_setHero_10 (by decide) ?_
    refine dk_sub (L0 := [some (dk_r G 4 60), some (.int a1), some (.int a2), some (.int a3), some (.int a4), none]) ⟨rfl, ⟨rfl, ⟨rfl, ⟨rfl, ⟨rfl, trivial⟩⟩⟩⟩⟩ ?_
    exact ww_X9_setHero_50 C hr hlk hmi  a1 a2 a3 a4 1 s1 h
/-! X9_addBeast -/
set_option maxRecDepth 20000 in
set_option maxHeartbeats 4000000 in
theorem ww_X9_addBeast_82 {G : dk_G} {P : Program} {l : Launch} {e : Env} {S0 : State} {m : MethodId} {args : Array Value} {bel : List Frame} {meth : Method} {c : Code}  (C : dk_C G P (dk_rm 3) S0 m args c 0 0 cX9_addBeast 7 RX9) (hr : meth.sig.returnType = (some .int)) (hlk : meth.locks = false) (hmi : dk_MI G) {K : Int32 → dk_S → Prop}  : ∀ (x1 : Int32) (x2 : Int32) (x3 : Int32) (x4 : Int32) (x5 : Int32) (y0 : Int32) (s : dk_S), wf_X9_addBeast_82 K x1 x2 x3 x4 x5 y0 s → dk_W G P l e (dk_rm 3) S0 m args bel meth c 0 0 (MQ bel (dk_Qc G (dk_ki K)) args S0 0 0 (dk_A G)) 82 [some (dk_r G 4 60), some (.int x1), some (.int x2), some (.int x3), some (.int x4), some (.int x5), none] [.int y0, dk_r G 4 60] s := by
  intro x1 x2 x3 x4 x5 y0 s h
  unfold wf_X9_addBeast_82 at h
  refine dk_callVi C [] (cc_X9_goesOn C.D hmi h) yy_X9_goesOn dk_wm_X9_149 dk_sh60 (hmi 60 (by decide) (by decide)) dX9_addBeast_82 (fun r19 s18 h => ?_) rfl rfl ⟨Nat.le_of_ble_eq_true rfl, Nat.le_of_ble_eq_true rfl⟩ rfl (Nat.le_of_ble_eq_true rfl) rfl (n := 85) rfl
  refine dk_if_ne (t := 90) C dX9_addBeast_85 (n := 88) rfl (by decide) (fun c28 => ?_) (fun c28 => ?_)
  · have h := h.1 c28
    refine dk_aload_n (i := 0) C dX9_addBeast_90 (n := 91) rfl rfl rfl ?_
    refine gf_X9_38 C (hmi 60 (by decide) (by decide)) dX9_addBeast_91 (n := 94) rfl ?_
    refine dk_aload_n (i := 0) C dX9_addBeast_94 (n := 95) rfl rfl rfl ?_
    refine gf_X9_34 C (hmi 60 (by decide) (by decide)) dX9_addBeast_95 (n := 98) rfl ?_
    refine dk_iload_n (i := 1) C dX9_addBeast_98 (n := 99) rfl rfl rfl ?_
    refine dk_iload_n (i := 2) C dX9_addBeast_99 (n := 100) rfl rfl rfl ?_
    refine dk_callSi C [.int (s18 4 60 10), dk_r G 4 67] (cc_X9_at C.D  h) yy_X9_at dk_wm_X9_125 dX9_addBeast_100 (fun r21 s20 h => ?_) rfl ⟨Nat.le_of_ble_eq_true rfl, Nat.le_of_ble_eq_true rfl⟩ rfl (Nat.le_of_ble_eq_true rfl) rfl (n := 103) rfl
    refine dk_iast C dk_sh67 h.1 (hmi 67 (by decide) (by decide)) dX9_addBeast_103 (n := 104) rfl ?_
    refine dk_nameS (fun s22 es22 => ?_)
    have h := h.2 s22 es22
    refine dk_aload_n (i := 0) C dX9_addBeast_104 (n := 105) rfl rfl rfl ?_
    refine gf_X9_41 C (hmi 60 (by decide) (by decide)) dX9_addBeast_105 (n := 108) rfl ?_
    refine dk_aload_n (i := 0) C dX9_addBeast_108 (n := 109) rfl rfl rfl ?_
    refine gf_X9_34 C (hmi 60 (by decide) (by decide)) dX9_addBeast_109 (n := 112) rfl ?_
    refine dk_iload_n (i := 3) C dX9_addBeast_112 (n := 113) rfl rfl rfl ?_
    refine dk_iast C dk_sh68 h.1 (hmi 68 (by decide) (by decide)) dX9_addBeast_113 (n := 114) rfl ?_
    refine dk_nameS (fun s23 es23 => ?_)
    have h := h.2 s23 es23
    refine dk_aload_n (i := 0) C dX9_addBeast_114 (n := 115) rfl rfl rfl ?_
    refine gf_X9_44 C (hmi 60 (by decide) (by decide)) dX9_addBeast_115 (n := 118) rfl ?_
    refine dk_aload_n (i := 0) C dX9_addBeast_118 (n := 119) rfl rfl rfl ?_
    refine gf_X9_34 C (hmi 60 (by decide) (by decide)) dX9_addBeast_119 (n := 122) rfl ?_
    refine dk_iload C dX9_addBeast_122 (n := 124) rfl (i := 4) rfl ?_
    refine dk_iast C dk_sh69 h.1 (hmi 69 (by decide) (by decide)) dX9_addBeast_124 (n := 125) rfl ?_
    refine dk_nameS (fun s24 es24 => ?_)
    have h := h.2 s24 es24
    refine dk_aload_n (i := 0) C dX9_addBeast_125 (n := 126) rfl rfl rfl ?_
    refine gf_X9_47 C (hmi 60 (by decide) (by decide)) dX9_addBeast_126 (n := 129) rfl ?_
    refine dk_aload_n (i := 0) C dX9_addBeast_129 (n := 130) rfl rfl rfl ?_
    refine gf_X9_34 C (hmi 60 (by decide) (by decide)) dX9_addBeast_130 (n := 133) rfl ?_
    refine dk_iload C dX9_addBeast_133 (n := 135) rfl (i := 5) rfl ?_
    refine dk_iast C dk_sh70 h.1 (hmi 70 (by decide) (by decide)) dX9_addBeast_135 (n := 136) rfl ?_
    refine dk_nameS (fun s25 es25 => ?_)
    have h := h.2 s25 es25
    refine dk_aload_n (i := 0) C dX9_addBeast_136 (n := 137) rfl rfl rfl ?_
    refine dk_dup C dX9_addBeast_137 (n := 138) rfl rfl ?_
    refine gf_X9_34 C (hmi 60 (by decide) (by decide)) dX9_addBeast_138 (n := 141) rfl ?_
    refine dk_iconst (v := 1) C dX9_addBeast_141 (n := 142) rfl (by decide) ?_
    refine dk_iadd C dX9_addBeast_142 (n := 143) rfl ?_
    refine pf_X9_34 C rfl rfl (hmi 60 (by decide) (by decide)) dX9_addBeast_143 (n := 146) rfl ?_
    refine dk_nameS (fun s26 es26 => ?_)
    have h := h s26 es26
    refine dk_aload_n (i := 0) C dX9_addBeast_146 (n := 147) rfl rfl rfl ?_
    refine dk_callVv C [] (cc_X9_tells C.D hmi h) yy_X9_tells dk_wm_X9_153 dk_sh60 (hmi 60 (by decide) (by decide)) dX9_addBeast_147 (fun s27 h => ?_) rfl rfl ⟨Nat.le_of_ble_eq_true rfl, Nat.le_of_ble_eq_true rfl⟩ rfl (Nat.le_of_ble_eq_true rfl) rfl (n := 150) rfl
    refine dk_aload_n (i := 0) C dX9_addBeast_150 (n := 151) rfl rfl rfl ?_
    refine gf_X9_34 C (hmi 60 (by decide) (by decide)) dX9_addBeast_151 (n := 154) rfl ?_
    refine dk_iconst (v := 1) C dX9_addBeast_154 (n := 155) rfl (by decide) ?_
    refine dk_isub C dX9_addBeast_155 (n := 156) rfl ?_
    exact dk_iret C hr hlk rfl dX9_addBeast_156 ⟨_, rfl, h⟩
  · have h := h.2 c28
    refine dk_iconst (v := 0) C dX9_addBeast_88 (n := 89) rfl (by decide) ?_
    exact dk_iret C hr hlk rfl dX9_addBeast_89 ⟨_, rfl, h⟩
set_option maxRecDepth 20000 in
set_option maxHeartbeats 4000000 in
theorem ww_X9_addBeast_37 {G : dk_G} {P : Program} {l : Launch} {e : Env} {S0 : State} {m : MethodId} {args : Array Value} {bel : List Frame} {meth : Method} {c : Code}  (C : dk_C G P (dk_rm 3) S0 m args c 0 0 cX9_addBeast 7 RX9) (hr : meth.sig.returnType = (some .int)) (hlk : meth.locks = false) (hmi : dk_MI G) {K : Int32 → dk_S → Prop}  : ∀ (x1 : Int32) (x2 : Int32) (x3 : Int32) (x4 : Int32) (x5 : Int32) (y0 : Int32) (s : dk_S), wf_X9_addBeast_37 K x1 x2 x3 x4 x5 y0 s → dk_W G P l e (dk_rm 3) S0 m args bel meth c 0 0 (MQ bel (dk_Qc G (dk_ki K)) args S0 0 0 (dk_A G)) 37 [some (dk_r G 4 60), some (.int x1), some (.int x2), some (.int x3), some (.int x4), some (.int x5), none] [.int y0] s := by
  intro x1 x2 x3 x4 x5 y0 s h
  unfold wf_X9_addBeast_37 at h
  refine dk_istore (i := 6) (L' := [some (dk_r G 4 60), some (.int x1), some (.int x2), some (.int x3), some (.int x4), some (.int x5), some (.int y0)]) C dX9_addBeast_37 (n := 39) rfl (dk_nc_of rfl) (Nat.le_of_ble_eq_true rfl) rfl ?_
  refine dk_aload_n (i := 0) C dX9_addBeast_39 (n := 40) rfl rfl rfl ?_
  refine dk_iload_n (i := 1) C dX9_addBeast_40 (n := 41) rfl rfl rfl ?_
  refine dk_iload_n (i := 2) C dX9_addBeast_41 (n := 42) rfl rfl rfl ?_
  refine dk_callSi C [dk_r G 4 60] (cc_X9_isPlace C.D  h) yy_X9_isPlace dk_wm_X9_121 dX9_addBeast_42 (fun r11 s10 h => ?_) rfl ⟨Nat.le_of_ble_eq_true rfl, Nat.le_of_ble_eq_true rfl⟩ rfl (Nat.le_of_ble_eq_true rfl) rfl (n := 45) rfl
  refine dk_if_ne (t := 52) C dX9_addBeast_45 (n := 48) rfl (by decide) (fun c17 => ?_) (fun c17 => ?_)
  · have h := h.1 c17
    refine dk_iload C dX9_addBeast_52 (n := 54) rfl (i := 6) rfl ?_
    refine dk_if_ne (t := 61) C dX9_addBeast_54 (n := 57) rfl (by decide) (fun c16 => ?_) (fun c16 => ?_)
    · have h := h.1 c16
      refine dk_aload_n (i := 0) C dX9_addBeast_61 (n := 62) rfl rfl rfl ?_
      refine dk_callVi C [dk_r G 4 60] (cc_X9_isOn C.D hmi h) yy_X9_isOn dk_wm_X9_145 dk_sh60 (hmi 60 (by decide) (by decide)) dX9_addBeast_62 (fun r13 s12 h => ?_) rfl rfl ⟨Nat.le_of_ble_eq_true rfl, Nat.le_of_ble_eq_true rfl⟩ rfl (Nat.le_of_ble_eq_true rfl) rfl (n := 65) rfl
      refine dk_if_ne (t := 77) C dX9_addBeast_65 (n := 68) rfl (by decide) (fun c15 => ?_) (fun c15 => ?_)
      · have h := h.1 c15
        refine dk_iconst (v := 3) C dX9_addBeast_77 (n := 78) rfl (by decide) ?_
        refine dk_goto (t := 82) C dX9_addBeast_78 (by decide) ?_
        refine dk_sub (L0 := [some (dk_r G 4 60), some (.int x1), some (.int x2), some (.int x3), some (.int x4), some (.int x5), none]) ⟨rfl, ⟨rfl, ⟨rfl, ⟨rfl, ⟨rfl, ⟨rfl, trivial⟩⟩⟩⟩⟩⟩ ?_
        exact ww_X9_addBeast_82 C hr hlk hmi  x1 x2 x3 x4 x5 3 s12 h
      · have h := h.2 c15
        refine dk_aload_n (i := 0) C dX9_addBeast_68 (n := 69) rfl rfl rfl ?_
        refine gf_X9_34 C (hmi 60 (by decide) (by decide)) dX9_addBeast_69 (n := 72) rfl ?_
        refine dk_bipush (v := 8) C dX9_addBeast_72 (n := 74) rfl (by decide) ?_
        refine dk_icmp_ne (t := 81) C dX9_addBeast_74 (n := 77) rfl (by decide) (fun c14 => ?_) (fun c14 => ?_)
        · have h := h.1 c14
          refine dk_iconst (v := 0) C dX9_addBeast_81 (n := 82) rfl (by decide) ?_
          refine dk_sub (L0 := [some (dk_r G 4 60), some (.int x1), some (.int x2), some (.int x3), some (.int x4), some (.int x5), none]) ⟨rfl, ⟨rfl, ⟨rfl, ⟨rfl, ⟨rfl, ⟨rfl, trivial⟩⟩⟩⟩⟩⟩ ?_
          exact ww_X9_addBeast_82 C hr hlk hmi  x1 x2 x3 x4 x5 0 s12 h
        · have h := h.2 c14
          refine dk_iconst (v := 3) C dX9_addBeast_77 (n := 78) rfl (by decide) ?_
          refine dk_goto (t := 82) C dX9_addBeast_78 (by decide) ?_
          refine dk_sub (L0 := [some (dk_r G 4 60), some (.int x1), some (.int x2), some (.int x3), some (.int x4), some (.int x5), none]) ⟨rfl, ⟨rfl, ⟨rfl, ⟨rfl, ⟨rfl, ⟨rfl, trivial⟩⟩⟩⟩⟩⟩ ?_
          exact ww_X9_addBeast_82 C hr hlk hmi  x1 x2 x3 x4 x5 3 s12 h
    · have h := h.2 c16
      refine dk_iconst (v := 2) C dX9_addBeast_57 (n := 58) rfl (by decide) ?_
      refine dk_goto (t := 82) C dX9_addBeast_58 (by decide) ?_
      refine dk_sub (L0 := [some (dk_r G 4 60), some (.int x1), some (.int x2), some (.int x3), some (.int x4), some (.int x5), none]) ⟨rfl, ⟨rfl, ⟨rfl, ⟨rfl, ⟨rfl, ⟨rfl, trivial⟩⟩⟩⟩⟩⟩ ?_
      exact ww_X9_addBeast_82 C hr hlk hmi  x1 x2 x3 x4 x5 2 s10 h
  · have h := h.2 c17
    refine dk_iconst (v := 1) C dX9_addBeast_48 (n := 49) rfl (by decide) ?_
    refine dk_goto (t := 82) C dX9_addBeast_49 (by decide) ?_
    refine dk_sub (L0 := [some (dk_r G 4 60), some (.int x1), some (.int x2), some (.int x3), some (.int x4), some (.int x5), none]) ⟨rfl, ⟨rfl, ⟨rfl, ⟨rfl, ⟨rfl, ⟨rfl, trivial⟩⟩⟩⟩⟩⟩ ?_
    exact ww_X9_addBeast_82 C hr hlk hmi  x1 x2 x3 x4 x5 1 s10 h
set_option maxRecDepth 20000 in
set_option maxHeartbeats 4000000 in
theorem cc_X9_addBeast {G : dk_G} {l : Launch} {a1 : Int32} {a2 : Int32} {a3 : Int32} {a4 : Int32} {a5 : Int32} (hD : dk_D G) (hmi : dk_MI G) {s : dk_S} {K : Int32 → dk_S → Prop} (h : wf_X9_addBeast a1 a2 a3 a4 a5 s K) : dk_M G l 3 yX9_addBeast cX9_addBeast 7 (some .int) [dk_r G 4 60, .int a1, .int a2, .int a3, .int a4, .int a5] s (dk_ki K) := by
  refine dk_of hD (by decide) [some (dk_r G 4 60), some (.int a1), some (.int a2), some (.int a3), some (.int a4), some (.int a5), none] (fun q hq => hq) rfl (Nat.le_of_ble_eq_true rfl) (fun P e S0 m args bel meth c C hr hlk => ?_)
  unfold wf_X9_addBeast at h
  refine dk_iload_n (i := 3) C dX9_addBeast_0 (n := 1) rfl rfl rfl ?_
  refine dk_iconst (v := 1) C dX9_addBeast_1 (n := 2) rfl (by decide) ?_
  refine dk_bipush (v := 24) C dX9_addBeast_2 (n := 4) rfl (by decide) ?_
  refine dk_callSi C [] (cc_X9_in C.D  h) yy_X9_in dk_wm_X9_110 dX9_addBeast_4 (fun r2 s1 h => ?_) rfl ⟨Nat.le_of_ble_eq_true rfl, Nat.le_of_ble_eq_true rfl⟩ rfl (Nat.le_of_ble_eq_true rfl) rfl (n := 7) rfl
  refine dk_if_eq (t := 36) C dX9_addBeast_7 (n := 10) rfl (by decide) (fun c9 => ?_) (fun c9 => ?_)
  · have h := h.1 c9
    refine dk_iconst (v := 0) C dX9_addBeast_36 (n := 37) rfl (by decide) ?_
    refine dk_sub (L0 := [some (dk_r G 4 60), some (.int a1), some (.int a2), some (.int a3), some (.int a4), some (.int a5), none]) ⟨rfl, ⟨rfl, ⟨rfl, ⟨rfl, ⟨rfl, ⟨rfl, trivial⟩⟩⟩⟩⟩⟩ ?_
    exact ww_X9_addBeast_37 C hr hlk hmi  a1 a2 a3 a4 a5 0 s1 h
  · have h := h.2 c9
    refine dk_iload C dX9_addBeast_10 (n := 12) rfl (i := 4) rfl ?_
    refine dk_iconst (v := 0) C dX9_addBeast_12 (n := 13) rfl (by decide) ?_
    refine dk_bipush (v := 9) C dX9_addBeast_13 (n := 15) rfl (by decide) ?_
    refine dk_callSi C [] (cc_X9_in C.D  h) yy_X9_in dk_wm_X9_110 dX9_addBeast_15 (fun r4 s3 h => ?_) rfl ⟨Nat.le_of_ble_eq_true rfl, Nat.le_of_ble_eq_true rfl⟩ rfl (Nat.le_of_ble_eq_true rfl) rfl (n := 18) rfl
    refine dk_if_eq (t := 36) C dX9_addBeast_18 (n := 21) rfl (by decide) (fun c8 => ?_) (fun c8 => ?_)
    · have h := h.1 c8
      refine dk_iconst (v := 0) C dX9_addBeast_36 (n := 37) rfl (by decide) ?_
      refine dk_sub (L0 := [some (dk_r G 4 60), some (.int a1), some (.int a2), some (.int a3), some (.int a4), some (.int a5), none]) ⟨rfl, ⟨rfl, ⟨rfl, ⟨rfl, ⟨rfl, ⟨rfl, trivial⟩⟩⟩⟩⟩⟩ ?_
      exact ww_X9_addBeast_37 C hr hlk hmi  a1 a2 a3 a4 a5 0 s3 h
    · have h := h.2 c8
      refine dk_iload C dX9_addBeast_21 (n := 23) rfl (i := 5) rfl ?_
      refine dk_iconst (v := 1) C dX9_addBeast_23 (n := 24) rfl (by decide) ?_
      refine dk_bipush (v := 30) C dX9_addBeast_24 (n := 26) rfl (by decide) ?_
      refine dk_callSi C [] (cc_X9_in C.D  h) yy_X9_in dk_wm_X9_110 dX9_addBeast_26 (fun r6 s5 h => ?_) rfl ⟨Nat.le_of_ble_eq_true rfl, Nat.le_of_ble_eq_true rfl⟩ rfl (Nat.le_of_ble_eq_true rfl) rfl (n := 29) rfl
      refine dk_if_eq (t := 36) C dX9_addBeast_29 (n := 32) rfl (by decide) (fun c7 => ?_) (fun c7 => ?_)
      · have h := h.1 c7
        refine dk_iconst (v := 0) C dX9_addBeast_36 (n := 37) rfl (by decide) ?_
        refine dk_sub (L0 := [some (dk_r G 4 60), some (.int a1), some (.int a2), some (.int a3), some (.int a4), some (.int a5), none]) ⟨rfl, ⟨rfl, ⟨rfl, ⟨rfl, ⟨rfl, ⟨rfl, trivial⟩⟩⟩⟩⟩⟩ ?_
        exact ww_X9_addBeast_37 C hr hlk hmi  a1 a2 a3 a4 a5 0 s5 h
      · have h := h.2 c7
        refine dk_iconst (v := 1) C dX9_addBeast_32 (n := 33) rfl (by decide) ?_
        refine dk_goto (t := 37) C dX9_addBeast_33 (by decide) ?_
        refine dk_sub (L0 := [some (dk_r G 4 60), some (.int a1), some (.int a2), some (.int a3), some (.int a4), some (.int a5), none]) ⟨rfl, ⟨rfl, ⟨rfl, ⟨rfl, ⟨rfl, ⟨rfl, trivial⟩⟩⟩⟩⟩⟩ ?_
        exact ww_X9_addBeast_37 C hr hlk hmi  a1 a2 a3 a4 a5 1 s5 h
/-! X9_isThing -/
set_option maxRecDepth 20000 in
set_option maxHeartbeats 4000000 in
theorem cc_X9_isThing {G : dk_G} {l : Launch} {a1 : Int32} (hD : dk_D G) (hmi : dk_MI G) {s : dk_S} {K : Int32 → dk_S → Prop} (h : wf_X9_isThing a1 s K) : dk_M G l 2 yX9_isThing cX9_isThing 2 (some .boolean) [dk_r G 4 60, .int a1] s (dk_ki K) := by
  refine dk_of hD (by decide) [some (dk_r G 4 60), some (.int a1)] (fun q hq => hq) rfl (Nat.le_of_ble_eq_true rfl) (fun P e S0 m args bel meth c C hr hlk => ?_)
  unfold wf_X9_isThing at h
  refine dk_iload_n (i := 1) C dX9_isThing_0 (n := 1) rfl rfl rfl ?_
  refine dk_iconst (v := 0) C dX9_isThing_1 (n := 2) rfl (by decide) ?_
  refine dk_aload_n (i := 0) C dX9_isThing_2 (n := 3) rfl rfl rfl ?_
  refine gf_X9_162 C (hmi 60 (by decide) (by decide)) dX9_isThing_3 (n := 6) rfl ?_
  refine dk_iconst (v := 1) C dX9_isThing_6 (n := 7) rfl (by decide) ?_
  refine dk_isub C dX9_isThing_7 (n := 8) rfl ?_
  refine dk_callSi C [] (cc_X9_in C.D  h) yy_X9_in dk_wm_X9_110 dX9_isThing_8 (fun r2 s1 h => ?_) rfl ⟨Nat.le_of_ble_eq_true rfl, Nat.le_of_ble_eq_true rfl⟩ rfl (Nat.le_of_ble_eq_true rfl) rfl (n := 11) rfl
  exact dk_iret C hr hlk h.1 dX9_isThing_11 ⟨_, rfl, h.2⟩
/-! X9_addThing -/
set_option maxRecDepth 20000 in
set_option maxHeartbeats 4000000 in
theorem ww_X9_addThing_146 {G : dk_G} {P : Program} {l : Launch} {e : Env} {S0 : State} {m : MethodId} {args : Array Value} {bel : List Frame} {meth : Method} {c : Code}  (C : dk_C G P (dk_rm 3) S0 m args c 0 0 cX9_addThing 7 RX9) (hr : meth.sig.returnType = (some .int)) (hlk : meth.locks = false) (hmi : dk_MI G) {K : Int32 → dk_S → Prop}  : ∀ (y0 : Int32) (y1 : Int32) (s : dk_S), wf_X9_addThing_146 K y0 y1 s → dk_W G P l e (dk_rm 3) S0 m args bel meth c 0 0 (MQ bel (dk_Qc G (dk_ki K)) args S0 0 0 (dk_A G)) 146 [some (dk_r G 4 60), none, none, none, none, none, none] [.int y0, .int y1, dk_r G 4 72] s := by
  intro y0 y1 s h
  unfold wf_X9_addThing_146 at h
  refine dk_iast C dk_sh72 h.1 (hmi 72 (by decide) (by decide)) dX9_addThing_146 (n := 147) rfl ?_
  refine dk_nameS (fun s25 es25 => ?_)
  have h := h.2 s25 es25
  refine dk_aload_n (i := 0) C dX9_addThing_147 (n := 148) rfl rfl rfl ?_
  refine dk_dup C dX9_addThing_148 (n := 149) rfl rfl ?_
  refine gf_X9_162 C (hmi 60 (by decide) (by decide)) dX9_addThing_149 (n := 152) rfl ?_
  refine dk_iconst (v := 1) C dX9_addThing_152 (n := 153) rfl (by decide) ?_
  refine dk_iadd C dX9_addThing_153 (n := 154) rfl ?_
  refine pf_X9_162 C rfl rfl (hmi 60 (by decide) (by decide)) dX9_addThing_154 (n := 157) rfl ?_
  refine dk_nameS (fun s26 es26 => ?_)
  have h := h s26 es26
  refine dk_aload_n (i := 0) C dX9_addThing_157 (n := 158) rfl rfl rfl ?_
  refine dk_callVv C [] (cc_X9_tells C.D hmi h) yy_X9_tells dk_wm_X9_153 dk_sh60 (hmi 60 (by decide) (by decide)) dX9_addThing_158 (fun s27 h => ?_) rfl rfl ⟨Nat.le_of_ble_eq_true rfl, Nat.le_of_ble_eq_true rfl⟩ rfl (Nat.le_of_ble_eq_true rfl) rfl (n := 161) rfl
  refine dk_aload_n (i := 0) C dX9_addThing_161 (n := 162) rfl rfl rfl ?_
  refine gf_X9_162 C (hmi 60 (by decide) (by decide)) dX9_addThing_162 (n := 165) rfl ?_
  refine dk_iconst (v := 1) C dX9_addThing_165 (n := 166) rfl (by decide) ?_
  refine dk_isub C dX9_addThing_166 (n := 167) rfl ?_
  exact dk_iret C hr hlk rfl dX9_addThing_167 ⟨_, rfl, h⟩
set_option maxRecDepth 20000 in
set_option maxHeartbeats 4000000 in
theorem ww_X9_addThing_96 {G : dk_G} {P : Program} {l : Launch} {e : Env} {S0 : State} {m : MethodId} {args : Array Value} {bel : List Frame} {meth : Method} {c : Code}  (C : dk_C G P (dk_rm 3) S0 m args c 0 0 cX9_addThing 7 RX9) (hr : meth.sig.returnType = (some .int)) (hlk : meth.locks = false) (hmi : dk_MI G) {K : Int32 → dk_S → Prop}  : ∀ (x1 : Int32) (x2 : Int32) (x3 : Int32) (x4 : Int32) (y0 : Int32) (s : dk_S), wf_X9_addThing_96 K x1 x2 x3 x4 y0 s → dk_W G P l e (dk_rm 3) S0 m args bel meth c 0 0 (MQ bel (dk_Qc G (dk_ki K)) args S0 0 0 (dk_A G)) 96 [some (dk_r G 4 60), some (.int x1), some (.int x2), some (.int x3), some (.int x4), none, none] [.int y0] s := by
  intro x1 x2 x3 x4 y0 s h
  unfold wf_X9_addThing_96 at h
  refine dk_istore (i := 6) (L' := [some (dk_r G 4 60), some (.int x1), some (.int x2), some (.int x3), some (.int x4), none, some (.int y0)]) C dX9_addThing_96 (n := 98) rfl (dk_nc_of rfl) (Nat.le_of_ble_eq_true rfl) rfl ?_
  refine dk_aload_n (i := 0) C dX9_addThing_98 (n := 99) rfl rfl rfl ?_
  refine dk_iload C dX9_addThing_99 (n := 101) rfl (i := 6) rfl ?_
  refine dk_callVi C [] (cc_X9_goesOn C.D hmi h) yy_X9_goesOn dk_wm_X9_149 dk_sh60 (hmi 60 (by decide) (by decide)) dX9_addThing_101 (fun r19 s18 h => ?_) rfl rfl ⟨Nat.le_of_ble_eq_true rfl, Nat.le_of_ble_eq_true rfl⟩ rfl (Nat.le_of_ble_eq_true rfl) rfl (n := 104) rfl
  refine dk_if_ne (t := 109) C dX9_addThing_104 (n := 107) rfl (by decide) (fun c24 => ?_) (fun c24 => ?_)
  · have h := h.1 c24
    refine dk_aload_n (i := 0) C dX9_addThing_109 (n := 110) rfl rfl rfl ?_
    refine gf_X9_50 C (hmi 60 (by decide) (by decide)) dX9_addThing_110 (n := 113) rfl ?_
    refine dk_aload_n (i := 0) C dX9_addThing_113 (n := 114) rfl rfl rfl ?_
    refine gf_X9_162 C (hmi 60 (by decide) (by decide)) dX9_addThing_114 (n := 117) rfl ?_
    refine dk_iload_n (i := 1) C dX9_addThing_117 (n := 118) rfl rfl rfl ?_
    refine dk_iast C dk_sh71 h.1 (hmi 71 (by decide) (by decide)) dX9_addThing_118 (n := 119) rfl ?_
    refine dk_nameS (fun s20 es20 => ?_)
    have h := h.2 s20 es20
    refine dk_aload_n (i := 0) C dX9_addThing_119 (n := 120) rfl rfl rfl ?_
    refine gf_X9_53 C (hmi 60 (by decide) (by decide)) dX9_addThing_120 (n := 123) rfl ?_
    refine dk_aload_n (i := 0) C dX9_addThing_123 (n := 124) rfl rfl rfl ?_
    refine gf_X9_162 C (hmi 60 (by decide) (by decide)) dX9_addThing_124 (n := 127) rfl ?_
    refine dk_iload C dX9_addThing_127 (n := 129) rfl (i := 4) rfl ?_
    refine dk_iconst (v := (-1)) C dX9_addThing_129 (n := 130) rfl (by decide) ?_
    refine dk_icmp_ne (t := 141) C dX9_addThing_130 (n := 133) rfl (by decide) (fun c23 => ?_) (fun c23 => ?_)
    · have h := h.1 c23
      refine dk_bipush (v := (-3)) C dX9_addThing_141 (n := 143) rfl (by decide) ?_
      refine dk_iload C dX9_addThing_143 (n := 145) rfl (i := 4) rfl ?_
      refine dk_isub C dX9_addThing_145 (n := 146) rfl ?_
      refine dk_sub (L0 := [some (dk_r G 4 60), none, none, none, none, none, none]) ⟨rfl, trivial⟩ ?_
      exact ww_X9_addThing_146 C hr hlk hmi  ((-3) - x4) (s20 4 60 15) s20 h
    · have h := h.2 c23
      refine dk_iload_n (i := 2) C dX9_addThing_133 (n := 134) rfl rfl rfl ?_
      refine dk_iload_n (i := 3) C dX9_addThing_134 (n := 135) rfl rfl rfl ?_
      refine dk_callSi C [.int (s20 4 60 15), dk_r G 4 72] (cc_X9_at C.D  h) yy_X9_at dk_wm_X9_125 dX9_addThing_135 (fun r22 s21 h => ?_) rfl ⟨Nat.le_of_ble_eq_true rfl, Nat.le_of_ble_eq_true rfl⟩ rfl (Nat.le_of_ble_eq_true rfl) rfl (n := 138) rfl
      refine dk_goto (t := 146) C dX9_addThing_138 (by decide) ?_
      refine dk_sub (L0 := [some (dk_r G 4 60), none, none, none, none, none, none]) ⟨rfl, trivial⟩ ?_
      exact ww_X9_addThing_146 C hr hlk hmi  r22 (s20 4 60 15) s21 h
  · have h := h.2 c24
    refine dk_iconst (v := 0) C dX9_addThing_107 (n := 108) rfl (by decide) ?_
    exact dk_iret C hr hlk rfl dX9_addThing_108 ⟨_, rfl, h⟩
set_option maxRecDepth 20000 in
set_option maxHeartbeats 4000000 in
theorem ww_X9_addThing_75 {G : dk_G} {P : Program} {l : Launch} {e : Env} {S0 : State} {m : MethodId} {args : Array Value} {bel : List Frame} {meth : Method} {c : Code}  (C : dk_C G P (dk_rm 3) S0 m args c 0 0 cX9_addThing 7 RX9) (hr : meth.sig.returnType = (some .int)) (hlk : meth.locks = false) (hmi : dk_MI G) {K : Int32 → dk_S → Prop}  : ∀ (x1 : Int32) (x2 : Int32) (x3 : Int32) (x4 : Int32) (s : dk_S), wf_X9_addThing_75 K x1 x2 x3 x4 s → dk_W G P l e (dk_rm 3) S0 m args bel meth c 0 0 (MQ bel (dk_Qc G (dk_ki K)) args S0 0 0 (dk_A G)) 75 [some (dk_r G 4 60), some (.int x1), some (.int x2), some (.int x3), some (.int x4), none, none] [] s := by
  intro x1 x2 x3 x4 s h
  unfold wf_X9_addThing_75 at h
  refine dk_aload_n (i := 0) C dX9_addThing_75 (n := 76) rfl rfl rfl ?_
  refine dk_callVi C [] (cc_X9_isOn C.D hmi h) yy_X9_isOn dk_wm_X9_145 dk_sh60 (hmi 60 (by decide) (by decide)) dX9_addThing_76 (fun r15 s14 h => ?_) rfl rfl ⟨Nat.le_of_ble_eq_true rfl, Nat.le_of_ble_eq_true rfl⟩ rfl (Nat.le_of_ble_eq_true rfl) rfl (n := 79) rfl
  refine dk_if_ne (t := 91) C dX9_addThing_79 (n := 82) rfl (by decide) (fun c17 => ?_) (fun c17 => ?_)
  · have h := h.1 c17
    refine dk_iconst (v := 4) C dX9_addThing_91 (n := 92) rfl (by decide) ?_
    refine dk_goto (t := 96) C dX9_addThing_92 (by decide) ?_
    refine dk_sub (L0 := [some (dk_r G 4 60), some (.int x1), some (.int x2), some (.int x3), some (.int x4), none, none]) ⟨rfl, ⟨rfl, ⟨rfl, ⟨rfl, ⟨rfl, trivial⟩⟩⟩⟩⟩ ?_
    exact ww_X9_addThing_96 C hr hlk hmi  x1 x2 x3 x4 4 s14 h
  · have h := h.2 c17
    refine dk_aload_n (i := 0) C dX9_addThing_82 (n := 83) rfl rfl rfl ?_
    refine gf_X9_162 C (hmi 60 (by decide) (by decide)) dX9_addThing_83 (n := 86) rfl ?_
    refine dk_bipush (v := 24) C dX9_addThing_86 (n := 88) rfl (by decide) ?_
    refine dk_icmp_ne (t := 95) C dX9_addThing_88 (n := 91) rfl (by decide) (fun c16 => ?_) (fun c16 => ?_)
    · have h := h.1 c16
      refine dk_iconst (v := 0) C dX9_addThing_95 (n := 96) rfl (by decide) ?_
      refine dk_sub (L0 := [some (dk_r G 4 60), some (.int x1), some (.int x2), some (.int x3), some (.int x4), none, none]) ⟨rfl, ⟨rfl, ⟨rfl, ⟨rfl, ⟨rfl, trivial⟩⟩⟩⟩⟩ ?_
      exact ww_X9_addThing_96 C hr hlk hmi  x1 x2 x3 x4 0 s14 h
    · have h := h.2 c16
      refine dk_iconst (v := 4) C dX9_addThing_91 (n := 92) rfl (by decide) ?_
      refine dk_goto (t := 96) C dX9_addThing_92 (by decide) ?_
      refine dk_sub (L0 := [some (dk_r G 4 60), some (.int x1), some (.int x2), some (.int x3), some (.int x4), none, none]) ⟨rfl, ⟨rfl, ⟨rfl, ⟨rfl, ⟨rfl, trivial⟩⟩⟩⟩⟩ ?_
      exact ww_X9_addThing_96 C hr hlk hmi  x1 x2 x3 x4 4 s14 h
set_option maxRecDepth 20000 in
set_option maxHeartbeats 4000000 in
theorem ww_X9_addThing_28 {G : dk_G} {P : Program} {l : Launch} {e : Env} {S0 : State} {m : MethodId} {args : Array Value} {bel : List Frame} {meth : Method} {c : Code}  (C : dk_C G P (dk_rm 3) S0 m args c 0 0 cX9_addThing 7 RX9) (hr : meth.sig.returnType = (some .int)) (hlk : meth.locks = false) (hmi : dk_MI G) {K : Int32 → dk_S → Prop}  : ∀ (x1 : Int32) (x2 : Int32) (x3 : Int32) (x4 : Int32) (y0 : Int32) (s : dk_S), wf_X9_addThing_28 K x1 x2 x3 x4 y0 s → dk_W G P l e (dk_rm 3) S0 m args bel meth c 0 0 (MQ bel (dk_Qc G (dk_ki K)) args S0 0 0 (dk_A G)) 28 [some (dk_r G 4 60), some (.int x1), some (.int x2), some (.int x3), some (.int x4), none, none] [.int y0] s := by
  intro x1 x2 x3 x4 y0 s h
  unfold wf_X9_addThing_28 at h
  refine dk_istore (i := 5) (L' := [some (dk_r G 4 60), some (.int x1), some (.int x2), some (.int x3), some (.int x4), some (.int y0), none]) C dX9_addThing_28 (n := 30) rfl (dk_nc_of rfl) (Nat.le_of_ble_eq_true rfl) rfl ?_
  refine dk_iload_n (i := 1) C dX9_addThing_30 (n := 31) rfl rfl rfl ?_
  refine dk_iconst (v := 0) C dX9_addThing_31 (n := 32) rfl (by decide) ?_
  refine dk_bipush (v := 7) C dX9_addThing_32 (n := 34) rfl (by decide) ?_
  refine dk_callSi C [] (cc_X9_in C.D  h) yy_X9_in dk_wm_X9_110 dX9_addThing_34 (fun r9 s8 h => ?_) rfl ⟨Nat.le_of_ble_eq_true rfl, Nat.le_of_ble_eq_true rfl⟩ rfl (Nat.le_of_ble_eq_true rfl) rfl (n := 37) rfl
  refine dk_if_ne (t := 44) C dX9_addThing_37 (n := 40) rfl (by decide) (fun c13 => ?_) (fun c13 => ?_)
  · have h := h.1 c13
    refine dk_iload C dX9_addThing_44 (n := 46) rfl (i := 5) rfl ?_
    refine dk_if_ne (t := 53) C dX9_addThing_46 (n := 49) rfl (by decide) (fun c12 => ?_) (fun c12 => ?_)
    · have h := h.1 c12
      refine dk_iload C dX9_addThing_53 (n := 55) rfl (i := 4) rfl ?_
      refine dk_iconst (v := (-1)) C dX9_addThing_55 (n := 56) rfl (by decide) ?_
      refine dk_icmp_eq (t := 75) C dX9_addThing_56 (n := 59) rfl (by decide) (fun c11 => ?_) (fun c11 => ?_)
      · have h := h.1 c11
        refine dk_sub (L0 := [some (dk_r G 4 60), some (.int x1), some (.int x2), some (.int x3), some (.int x4), none, none]) ⟨rfl, ⟨rfl, ⟨rfl, ⟨rfl, ⟨rfl, trivial⟩⟩⟩⟩⟩ ?_
        exact ww_X9_addThing_75 C hr hlk hmi  x1 x2 x3 x4 s8 h
      · have h := h.2 c11
        refine dk_aload_n (i := 0) C dX9_addThing_59 (n := 60) rfl rfl rfl ?_
        refine gf_X9_50 C (hmi 60 (by decide) (by decide)) dX9_addThing_60 (n := 63) rfl ?_
        refine dk_iload C dX9_addThing_63 (n := 65) rfl (i := 4) rfl ?_
        refine dk_iald C dk_sh71 h.1 (hmi 71 (by decide) (by decide)) dX9_addThing_65 (n := 66) rfl ?_
        have h := h.2
        refine dk_bipush (v := 6) C dX9_addThing_66 (n := 68) rfl (by decide) ?_
        refine dk_icmp_eq (t := 75) C dX9_addThing_68 (n := 71) rfl (by decide) (fun c10 => ?_) (fun c10 => ?_)
        · have h := h.1 c10
          refine dk_sub (L0 := [some (dk_r G 4 60), some (.int x1), some (.int x2), some (.int x3), some (.int x4), none, none]) ⟨rfl, ⟨rfl, ⟨rfl, ⟨rfl, ⟨rfl, trivial⟩⟩⟩⟩⟩ ?_
          exact ww_X9_addThing_75 C hr hlk hmi  x1 x2 x3 x4 s8 h
        · have h := h.2 c10
          refine dk_iconst (v := 3) C dX9_addThing_71 (n := 72) rfl (by decide) ?_
          refine dk_goto (t := 96) C dX9_addThing_72 (by decide) ?_
          refine dk_sub (L0 := [some (dk_r G 4 60), some (.int x1), some (.int x2), some (.int x3), some (.int x4), none, none]) ⟨rfl, ⟨rfl, ⟨rfl, ⟨rfl, ⟨rfl, trivial⟩⟩⟩⟩⟩ ?_
          exact ww_X9_addThing_96 C hr hlk hmi  x1 x2 x3 x4 3 s8 h
    · have h := h.2 c12
      refine dk_iconst (v := 2) C dX9_addThing_49 (n := 50) rfl (by decide) ?_
      refine dk_goto (t := 96) C dX9_addThing_50 (by decide) ?_
      refine dk_sub (L0 := [some (dk_r G 4 60), some (.int x1), some (.int x2), some (.int x3), some (.int x4), none, none]) ⟨rfl, ⟨rfl, ⟨rfl, ⟨rfl, ⟨rfl, trivial⟩⟩⟩⟩⟩ ?_
      exact ww_X9_addThing_96 C hr hlk hmi  x1 x2 x3 x4 2 s8 h
  · have h := h.2 c13
    refine dk_iconst (v := 1) C dX9_addThing_40 (n := 41) rfl (by decide) ?_
    refine dk_goto (t := 96) C dX9_addThing_41 (by decide) ?_
    refine dk_sub (L0 := [some (dk_r G 4 60), some (.int x1), some (.int x2), some (.int x3), some (.int x4), none, none]) ⟨rfl, ⟨rfl, ⟨rfl, ⟨rfl, ⟨rfl, trivial⟩⟩⟩⟩⟩ ?_
    exact ww_X9_addThing_96 C hr hlk hmi  x1 x2 x3 x4 1 s8 h
set_option maxRecDepth 20000 in
set_option maxHeartbeats 4000000 in
theorem cc_X9_addThing {G : dk_G} {l : Launch} {a1 : Int32} {a2 : Int32} {a3 : Int32} {a4 : Int32} (hD : dk_D G) (hmi : dk_MI G) {s : dk_S} {K : Int32 → dk_S → Prop} (h : wf_X9_addThing a1 a2 a3 a4 s K) : dk_M G l 3 yX9_addThing cX9_addThing 7 (some .int) [dk_r G 4 60, .int a1, .int a2, .int a3, .int a4] s (dk_ki K) := by
  refine dk_of hD (by decide) [some (dk_r G 4 60), some (.int a1), some (.int a2), some (.int a3), some (.int a4), none, none] (fun q hq => hq) rfl (Nat.le_of_ble_eq_true rfl) (fun P e S0 m args bel meth c C hr hlk => ?_)
  unfold wf_X9_addThing at h
  refine dk_iload_n (i := 2) C dX9_addThing_0 (n := 1) rfl rfl rfl ?_
  refine dk_iload_n (i := 3) C dX9_addThing_1 (n := 2) rfl rfl rfl ?_
  refine dk_callSi C [] (cc_X9_isPlace C.D  h) yy_X9_isPlace dk_wm_X9_121 dX9_addThing_2 (fun r2 s1 h => ?_) rfl ⟨Nat.le_of_ble_eq_true rfl, Nat.le_of_ble_eq_true rfl⟩ rfl (Nat.le_of_ble_eq_true rfl) rfl (n := 5) rfl
  refine dk_if_eq (t := 27) C dX9_addThing_5 (n := 8) rfl (by decide) (fun c7 => ?_) (fun c7 => ?_)
  · have h := h.1 c7
    refine dk_iconst (v := 0) C dX9_addThing_27 (n := 28) rfl (by decide) ?_
    refine dk_sub (L0 := [some (dk_r G 4 60), some (.int a1), some (.int a2), some (.int a3), some (.int a4), none, none]) ⟨rfl, ⟨rfl, ⟨rfl, ⟨rfl, ⟨rfl, trivial⟩⟩⟩⟩⟩ ?_
    exact ww_X9_addThing_28 C hr hlk hmi  a1 a2 a3 a4 0 s1 h
  · have h := h.2 c7
    refine dk_iload C dX9_addThing_8 (n := 10) rfl (i := 4) rfl ?_
    refine dk_iconst (v := (-1)) C dX9_addThing_10 (n := 11) rfl (by decide) ?_
    refine dk_icmp_eq (t := 23) C dX9_addThing_11 (n := 14) rfl (by decide) (fun c6 => ?_) (fun c6 => ?_)
    · have h := h.1 c6
      refine dk_iconst (v := 1) C dX9_addThing_23 (n := 24) rfl (by decide) ?_
      refine dk_goto (t := 28) C dX9_addThing_24 (by decide) ?_
      refine dk_sub (L0 := [some (dk_r G 4 60), some (.int a1), some (.int a2), some (.int a3), some (.int a4), none, none]) ⟨rfl, ⟨rfl, ⟨rfl, ⟨rfl, ⟨rfl, trivial⟩⟩⟩⟩⟩ ?_
      exact ww_X9_addThing_28 C hr hlk hmi  a1 a2 a3 a4 1 s1 h
    · have h := h.2 c6
      refine dk_aload_n (i := 0) C dX9_addThing_14 (n := 15) rfl rfl rfl ?_
      refine dk_iload C dX9_addThing_15 (n := 17) rfl (i := 4) rfl ?_
      refine dk_callVi C [] (cc_X9_isThing C.D hmi h) yy_X9_isThing dk_wm_X9_165 dk_sh60 (hmi 60 (by decide) (by decide)) dX9_addThing_17 (fun r4 s3 h => ?_) rfl rfl ⟨Nat.le_of_ble_eq_true rfl, Nat.le_of_ble_eq_true rfl⟩ rfl (Nat.le_of_ble_eq_true rfl) rfl (n := 20) rfl
      refine dk_if_eq (t := 27) C dX9_addThing_20 (n := 23) rfl (by decide) (fun c5 => ?_) (fun c5 => ?_)
      · have h := h.1 c5
        refine dk_iconst (v := 0) C dX9_addThing_27 (n := 28) rfl (by decide) ?_
        refine dk_sub (L0 := [some (dk_r G 4 60), some (.int a1), some (.int a2), some (.int a3), some (.int a4), none, none]) ⟨rfl, ⟨rfl, ⟨rfl, ⟨rfl, ⟨rfl, trivial⟩⟩⟩⟩⟩ ?_
        exact ww_X9_addThing_28 C hr hlk hmi  a1 a2 a3 a4 0 s3 h
      · have h := h.2 c5
        refine dk_iconst (v := 1) C dX9_addThing_23 (n := 24) rfl (by decide) ?_
        refine dk_goto (t := 28) C dX9_addThing_24 (by decide) ?_
        refine dk_sub (L0 := [some (dk_r G 4 60), some (.int a1), some (.int a2), some (.int a3), some (.int a4), none, none]) ⟨rfl, ⟨rfl, ⟨rfl, ⟨rfl, ⟨rfl, trivial⟩⟩⟩⟩⟩ ?_
        exact ww_X9_addThing_28 C hr hlk hmi  a1 a2 a3 a4 1 s3 h
/-! X9_addLamp -/
set_option maxRecDepth 20000 in
set_option maxHeartbeats 4000000 in
theorem ww_X9_addLamp_47 {G : dk_G} {P : Program} {l : Launch} {e : Env} {S0 : State} {m : MethodId} {args : Array Value} {bel : List Frame} {meth : Method} {c : Code}  (C : dk_C G P (dk_rm 3) S0 m args c 0 0 cX9_addLamp 4 RX9) (hr : meth.sig.returnType = (some .int)) (hlk : meth.locks = false) (hmi : dk_MI G) {K : Int32 → dk_S → Prop}  : ∀ (x1 : Int32) (x2 : Int32) (x3 : Int32) (y0 : Int32) (s : dk_S), wf_X9_addLamp_47 K x1 x2 x3 y0 s → dk_W G P l e (dk_rm 3) S0 m args bel meth c 0 0 (MQ bel (dk_Qc G (dk_ki K)) args S0 0 0 (dk_A G)) 47 [some (dk_r G 4 60), some (.int x1), some (.int x2), some (.int x3)] [.int y0, dk_r G 4 60] s := by
  intro x1 x2 x3 y0 s h
  unfold wf_X9_addLamp_47 at h
  refine dk_callVi C [] (cc_X9_goesOn C.D hmi h) yy_X9_goesOn dk_wm_X9_149 dk_sh60 (hmi 60 (by decide) (by decide)) dX9_addLamp_47 (fun r12 s11 h => ?_) rfl rfl ⟨Nat.le_of_ble_eq_true rfl, Nat.le_of_ble_eq_true rfl⟩ rfl (Nat.le_of_ble_eq_true rfl) rfl (n := 50) rfl
  refine dk_if_ne (t := 55) C dX9_addLamp_50 (n := 53) rfl (by decide) (fun c19 => ?_) (fun c19 => ?_)
  · have h := h.1 c19
    refine dk_aload_n (i := 0) C dX9_addLamp_55 (n := 56) rfl rfl rfl ?_
    refine gf_X9_56 C (hmi 60 (by decide) (by decide)) dX9_addLamp_56 (n := 59) rfl ?_
    refine dk_aload_n (i := 0) C dX9_addLamp_59 (n := 60) rfl rfl rfl ?_
    refine gf_X9_168 C (hmi 60 (by decide) (by decide)) dX9_addLamp_60 (n := 63) rfl ?_
    refine dk_iload_n (i := 1) C dX9_addLamp_63 (n := 64) rfl rfl rfl ?_
    refine dk_iload_n (i := 2) C dX9_addLamp_64 (n := 65) rfl rfl rfl ?_
    refine dk_callSi C [.int (s11 4 60 18), dk_r G 4 73] (cc_X9_at C.D  h) yy_X9_at dk_wm_X9_125 dX9_addLamp_65 (fun r14 s13 h => ?_) rfl ⟨Nat.le_of_ble_eq_true rfl, Nat.le_of_ble_eq_true rfl⟩ rfl (Nat.le_of_ble_eq_true rfl) rfl (n := 68) rfl
    refine dk_iast C dk_sh73 h.1 (hmi 73 (by decide) (by decide)) dX9_addLamp_68 (n := 69) rfl ?_
    refine dk_nameS (fun s15 es15 => ?_)
    have h := h.2 s15 es15
    refine dk_aload_n (i := 0) C dX9_addLamp_69 (n := 70) rfl rfl rfl ?_
    refine gf_X9_59 C (hmi 60 (by decide) (by decide)) dX9_addLamp_70 (n := 73) rfl ?_
    refine dk_aload_n (i := 0) C dX9_addLamp_73 (n := 74) rfl rfl rfl ?_
    refine gf_X9_168 C (hmi 60 (by decide) (by decide)) dX9_addLamp_74 (n := 77) rfl ?_
    refine dk_iload_n (i := 3) C dX9_addLamp_77 (n := 78) rfl rfl rfl ?_
    refine dk_iast C dk_sh74 h.1 (hmi 74 (by decide) (by decide)) dX9_addLamp_78 (n := 79) rfl ?_
    refine dk_nameS (fun s16 es16 => ?_)
    have h := h.2 s16 es16
    refine dk_aload_n (i := 0) C dX9_addLamp_79 (n := 80) rfl rfl rfl ?_
    refine dk_dup C dX9_addLamp_80 (n := 81) rfl rfl ?_
    refine gf_X9_168 C (hmi 60 (by decide) (by decide)) dX9_addLamp_81 (n := 84) rfl ?_
    refine dk_iconst (v := 1) C dX9_addLamp_84 (n := 85) rfl (by decide) ?_
    refine dk_iadd C dX9_addLamp_85 (n := 86) rfl ?_
    refine pf_X9_168 C rfl rfl (hmi 60 (by decide) (by decide)) dX9_addLamp_86 (n := 89) rfl ?_
    refine dk_nameS (fun s17 es17 => ?_)
    have h := h s17 es17
    refine dk_aload_n (i := 0) C dX9_addLamp_89 (n := 90) rfl rfl rfl ?_
    refine dk_callVv C [] (cc_X9_tells C.D hmi h) yy_X9_tells dk_wm_X9_153 dk_sh60 (hmi 60 (by decide) (by decide)) dX9_addLamp_90 (fun s18 h => ?_) rfl rfl ⟨Nat.le_of_ble_eq_true rfl, Nat.le_of_ble_eq_true rfl⟩ rfl (Nat.le_of_ble_eq_true rfl) rfl (n := 93) rfl
    refine dk_aload_n (i := 0) C dX9_addLamp_93 (n := 94) rfl rfl rfl ?_
    refine gf_X9_168 C (hmi 60 (by decide) (by decide)) dX9_addLamp_94 (n := 97) rfl ?_
    exact dk_iret C hr hlk rfl dX9_addLamp_97 ⟨_, rfl, h⟩
  · have h := h.2 c19
    refine dk_iconst (v := 0) C dX9_addLamp_53 (n := 54) rfl (by decide) ?_
    exact dk_iret C hr hlk rfl dX9_addLamp_54 ⟨_, rfl, h⟩
set_option maxRecDepth 20000 in
set_option maxHeartbeats 4000000 in
theorem cc_X9_addLamp {G : dk_G} {l : Launch} {a1 : Int32} {a2 : Int32} {a3 : Int32} (hD : dk_D G) (hmi : dk_MI G) {s : dk_S} {K : Int32 → dk_S → Prop} (h : wf_X9_addLamp a1 a2 a3 s K) : dk_M G l 3 yX9_addLamp cX9_addLamp 4 (some .int) [dk_r G 4 60, .int a1, .int a2, .int a3] s (dk_ki K) := by
  refine dk_of hD (by decide) [some (dk_r G 4 60), some (.int a1), some (.int a2), some (.int a3)] (fun q hq => hq) rfl (Nat.le_of_ble_eq_true rfl) (fun P e S0 m args bel meth c C hr hlk => ?_)
  unfold wf_X9_addLamp at h
  refine dk_aload_n (i := 0) C dX9_addLamp_0 (n := 1) rfl rfl rfl ?_
  refine dk_iload_n (i := 1) C dX9_addLamp_1 (n := 2) rfl rfl rfl ?_
  refine dk_iload_n (i := 2) C dX9_addLamp_2 (n := 3) rfl rfl rfl ?_
  refine dk_callSi C [dk_r G 4 60] (cc_X9_isPlace C.D  h) yy_X9_isPlace dk_wm_X9_121 dX9_addLamp_3 (fun r2 s1 h => ?_) rfl ⟨Nat.le_of_ble_eq_true rfl, Nat.le_of_ble_eq_true rfl⟩ rfl (Nat.le_of_ble_eq_true rfl) rfl (n := 6) rfl
  refine dk_if_ne (t := 13) C dX9_addLamp_6 (n := 9) rfl (by decide) (fun c10 => ?_) (fun c10 => ?_)
  · have h := h.1 c10
    refine dk_iload_n (i := 3) C dX9_addLamp_13 (n := 14) rfl rfl rfl ?_
    refine dk_iconst (v := 0) C dX9_addLamp_14 (n := 15) rfl (by decide) ?_
    refine dk_bipush (v := 9) C dX9_addLamp_15 (n := 17) rfl (by decide) ?_
    refine dk_callSi C [dk_r G 4 60] (cc_X9_in C.D  h) yy_X9_in dk_wm_X9_110 dX9_addLamp_17 (fun r4 s3 h => ?_) rfl ⟨Nat.le_of_ble_eq_true rfl, Nat.le_of_ble_eq_true rfl⟩ rfl (Nat.le_of_ble_eq_true rfl) rfl (n := 20) rfl
    refine dk_if_ne (t := 27) C dX9_addLamp_20 (n := 23) rfl (by decide) (fun c9 => ?_) (fun c9 => ?_)
    · have h := h.1 c9
      refine dk_aload_n (i := 0) C dX9_addLamp_27 (n := 28) rfl rfl rfl ?_
      refine dk_callVi C [dk_r G 4 60] (cc_X9_isOn C.D hmi h) yy_X9_isOn dk_wm_X9_145 dk_sh60 (hmi 60 (by decide) (by decide)) dX9_addLamp_28 (fun r6 s5 h => ?_) rfl rfl ⟨Nat.le_of_ble_eq_true rfl, Nat.le_of_ble_eq_true rfl⟩ rfl (Nat.le_of_ble_eq_true rfl) rfl (n := 31) rfl
      refine dk_if_ne (t := 42) C dX9_addLamp_31 (n := 34) rfl (by decide) (fun c8 => ?_) (fun c8 => ?_)
      · have h := h.1 c8
        refine dk_iconst (v := 3) C dX9_addLamp_42 (n := 43) rfl (by decide) ?_
        refine dk_goto (t := 47) C dX9_addLamp_43 (by decide) ?_
        refine dk_sub (L0 := [some (dk_r G 4 60), some (.int a1), some (.int a2), some (.int a3)]) ⟨rfl, ⟨rfl, ⟨rfl, ⟨rfl, trivial⟩⟩⟩⟩ ?_
        exact ww_X9_addLamp_47 C hr hlk hmi  a1 a2 a3 3 s5 h
      · have h := h.2 c8
        refine dk_aload_n (i := 0) C dX9_addLamp_34 (n := 35) rfl rfl rfl ?_
        refine gf_X9_168 C (hmi 60 (by decide) (by decide)) dX9_addLamp_35 (n := 38) rfl ?_
        refine dk_iconst (v := 4) C dX9_addLamp_38 (n := 39) rfl (by decide) ?_
        refine dk_icmp_ne (t := 46) C dX9_addLamp_39 (n := 42) rfl (by decide) (fun c7 => ?_) (fun c7 => ?_)
        · have h := h.1 c7
          refine dk_iconst (v := 0) C dX9_addLamp_46 (n := 47) rfl (by decide) ?_
          refine dk_sub (L0 := [some (dk_r G 4 60), some (.int a1), some (.int a2), some (.int a3)]) ⟨rfl, ⟨rfl, ⟨rfl, ⟨rfl, trivial⟩⟩⟩⟩ ?_
          exact ww_X9_addLamp_47 C hr hlk hmi  a1 a2 a3 0 s5 h
        · have h := h.2 c7
          refine dk_iconst (v := 3) C dX9_addLamp_42 (n := 43) rfl (by decide) ?_
          refine dk_goto (t := 47) C dX9_addLamp_43 (by decide) ?_
          refine dk_sub (L0 := [some (dk_r G 4 60), some (.int a1), some (.int a2), some (.int a3)]) ⟨rfl, ⟨rfl, ⟨rfl, ⟨rfl, trivial⟩⟩⟩⟩ ?_
          exact ww_X9_addLamp_47 C hr hlk hmi  a1 a2 a3 3 s5 h
    · have h := h.2 c9
      refine dk_iconst (v := 2) C dX9_addLamp_23 (n := 24) rfl (by decide) ?_
      refine dk_goto (t := 47) C dX9_addLamp_24 (by decide) ?_
      refine dk_sub (L0 := [some (dk_r G 4 60), some (.int a1), some (.int a2), some (.int a3)]) ⟨rfl, ⟨rfl, ⟨rfl, ⟨rfl, trivial⟩⟩⟩⟩ ?_
      exact ww_X9_addLamp_47 C hr hlk hmi  a1 a2 a3 2 s3 h
  · have h := h.2 c10
    refine dk_iconst (v := 1) C dX9_addLamp_9 (n := 10) rfl (by decide) ?_
    refine dk_goto (t := 47) C dX9_addLamp_10 (by decide) ?_
    refine dk_sub (L0 := [some (dk_r G 4 60), some (.int a1), some (.int a2), some (.int a3)]) ⟨rfl, ⟨rfl, ⟨rfl, ⟨rfl, trivial⟩⟩⟩⟩ ?_
    exact ww_X9_addLamp_47 C hr hlk hmi  a1 a2 a3 1 s1 h
/-! X9_crosses -/
set_option maxRecDepth 20000 in
set_option maxHeartbeats 4000000 in
theorem ww_X9_crosses_282 {G : dk_G} {P : Program} {l : Launch} {e : Env} {S0 : State} {m : MethodId} {args : Array Value} {bel : List Frame} {meth : Method} {c : Code}  (C : dk_C G P (dk_rm 2) S0 m args c 0 0 cX9_crosses 17 RX9) (hr : meth.sig.returnType = (some .boolean)) (hlk : meth.locks = false)  {K : Int32 → dk_S → Prop}  : ∀ (x15 : Int32) (y0 : Int32) (s : dk_S), wf_X9_crosses_282 K x15 y0 s → dk_W G P l e (dk_rm 2) S0 m args bel meth c 0 0 (MQ bel (dk_Qc G (dk_ki K)) args S0 0 0 (dk_A G)) 282 [none, none, none, none, none, none, none, none, none, none, none, none, none, none, none, some (.int x15), none] [.int y0] s := by
  intro x15 y0 s h
  unfold wf_X9_crosses_282 at h
  refine dk_istore (i := 16) (L' := [none, none, none, none, none, none, none, none, none, none, none, none, none, none, none, some (.int x15), some (.int y0)]) C dX9_crosses_282 (n := 284) rfl (dk_nc_of rfl) (Nat.le_of_ble_eq_true rfl) rfl ?_
  refine dk_iload C dX9_crosses_284 (n := 286) rfl (i := 15) rfl ?_
  refine dk_iload C dX9_crosses_286 (n := 288) rfl (i := 16) rfl ?_
  refine dk_icmp_ge (t := 295) C dX9_crosses_288 (n := 291) rfl (by decide) (fun c45 => ?_) (fun c45 => ?_)
  · have h := h.1 c45
    refine dk_iconst (v := 0) C dX9_crosses_295 (n := 296) rfl (by decide) ?_
    exact dk_iret C hr hlk dk_nz0 dX9_crosses_296 ⟨_, rfl, h⟩
  · have h := h.2 c45
    refine dk_iconst (v := 1) C dX9_crosses_291 (n := 292) rfl (by decide) ?_
    refine dk_goto (t := 296) C dX9_crosses_292 (by decide) ?_
    exact dk_iret C hr hlk dk_nz1 dX9_crosses_296 ⟨_, rfl, h⟩
set_option maxRecDepth 20000 in
set_option maxHeartbeats 4000000 in
theorem ww_X9_crosses_256 {G : dk_G} {P : Program} {l : Launch} {e : Env} {S0 : State} {m : MethodId} {args : Array Value} {bel : List Frame} {meth : Method} {c : Code}  (C : dk_C G P (dk_rm 2) S0 m args c 0 0 cX9_crosses 17 RX9) (hr : meth.sig.returnType = (some .boolean)) (hlk : meth.locks = false)  {K : Int32 → dk_S → Prop}  : ∀ (x7 : Int32) (x8 : Int32) (x16 : Int32) (y0 : Int32) (s : dk_S), wf_X9_crosses_256 K x7 x8 x16 y0 s → dk_W G P l e (dk_rm 2) S0 m args bel meth c 0 0 (MQ bel (dk_Qc G (dk_ki K)) args S0 0 0 (dk_A G)) 256 [none, none, none, none, none, none, none, some (.int x7), some (.int x8), none, none, none, none, none, none, none, some (.int x16)] [.int y0] s := by
  intro x7 x8 x16 y0 s h
  unfold wf_X9_crosses_256 at h
  refine dk_istore (i := 15) (L' := [none, none, none, none, none, none, none, some (.int x7), some (.int x8), none, none, none, none, none, none, some (.int y0), some (.int x16)]) C dX9_crosses_256 (n := 258) rfl (dk_nc_of rfl) (Nat.le_of_ble_eq_true rfl) rfl ?_
  refine dk_iload C dX9_crosses_258 (n := 260) rfl (i := 16) rfl ?_
  refine dk_iconst (v := 2) C dX9_crosses_260 (n := 261) rfl (by decide) ?_
  refine dk_iload C dX9_crosses_261 (n := 263) rfl (i := 7) rfl ?_
  refine dk_imul C dX9_crosses_263 (n := 264) rfl ?_
  refine dk_iload C dX9_crosses_264 (n := 266) rfl (i := 8) rfl ?_
  refine dk_imul C dX9_crosses_266 (n := 267) rfl ?_
  refine dk_icmp_le (t := 280) C dX9_crosses_267 (n := 270) rfl (by decide) (fun c44 => ?_) (fun c44 => ?_)
  · have h := h.1 c44
    refine dk_iload C dX9_crosses_280 (n := 282) rfl (i := 16) rfl ?_
    refine dk_sub (L0 := [none, none, none, none, none, none, none, none, none, none, none, none, none, none, none, some (.int y0), none]) ⟨rfl, trivial⟩ ?_
    exact ww_X9_crosses_282 C hr hlk  y0 x16 s h
  · have h := h.2 c44
    refine dk_iconst (v := 2) C dX9_crosses_270 (n := 271) rfl (by decide) ?_
    refine dk_iload C dX9_crosses_271 (n := 273) rfl (i := 7) rfl ?_
    refine dk_imul C dX9_crosses_273 (n := 274) rfl ?_
    refine dk_iload C dX9_crosses_274 (n := 276) rfl (i := 8) rfl ?_
    refine dk_imul C dX9_crosses_276 (n := 277) rfl ?_
    refine dk_goto (t := 282) C dX9_crosses_277 (by decide) ?_
    refine dk_sub (L0 := [none, none, none, none, none, none, none, none, none, none, none, none, none, none, none, some (.int y0), none]) ⟨rfl, trivial⟩ ?_
    exact ww_X9_crosses_282 C hr hlk  y0 ((2 * x7) * x8) s h
set_option maxRecDepth 20000 in
set_option maxHeartbeats 4000000 in
theorem ww_X9_crosses_227 {G : dk_G} {P : Program} {l : Launch} {e : Env} {S0 : State} {m : MethodId} {args : Array Value} {bel : List Frame} {meth : Method} {c : Code}  (C : dk_C G P (dk_rm 2) S0 m args c 0 0 cX9_crosses 17 RX9) (hr : meth.sig.returnType = (some .boolean)) (hlk : meth.locks = false)  {K : Int32 → dk_S → Prop}  : ∀ (x7 : Int32) (x8 : Int32) (x12 : Int32) (x14 : Int32) (y0 : Int32) (s : dk_S), wf_X9_crosses_227 K x7 x8 x12 x14 y0 s → dk_W G P l e (dk_rm 2) S0 m args bel meth c 0 0 (MQ bel (dk_Qc G (dk_ki K)) args S0 0 0 (dk_A G)) 227 [none, none, none, none, none, none, none, some (.int x7), some (.int x8), none, none, none, some (.int x12), none, some (.int x14), none, none] [.int y0] s := by
  intro x7 x8 x12 x14 y0 s h
  unfold wf_X9_crosses_227 at h
  refine dk_istore (i := 15) (L' := [none, none, none, none, none, none, none, some (.int x7), some (.int x8), none, none, none, some (.int x12), none, some (.int x14), some (.int y0), none]) C dX9_crosses_227 (n := 229) rfl (dk_nc_of rfl) (Nat.le_of_ble_eq_true rfl) rfl ?_
  refine dk_iload C dX9_crosses_229 (n := 231) rfl (i := 12) rfl ?_
  refine dk_iload C dX9_crosses_231 (n := 233) rfl (i := 14) rfl ?_
  refine dk_icmp_ge (t := 241) C dX9_crosses_233 (n := 236) rfl (by decide) (fun c43 => ?_) (fun c43 => ?_)
  · have h := h.1 c43
    refine dk_iload C dX9_crosses_241 (n := 243) rfl (i := 14) rfl ?_
    refine dk_istore (i := 16) (L' := [none, none, none, none, none, none, none, some (.int x7), some (.int x8), none, none, none, some (.int x12), none, some (.int x14), some (.int y0), some (.int x14)]) C dX9_crosses_243 (n := 245) rfl (dk_nc_of rfl) (Nat.le_of_ble_eq_true rfl) rfl ?_
    refine dk_iload C dX9_crosses_245 (n := 247) rfl (i := 15) rfl ?_
    refine dk_if_ge (t := 254) C dX9_crosses_247 (n := 250) rfl (by decide) (fun c41 => ?_) (fun c41 => ?_)
    · have h := h.1 c41
      refine dk_iload C dX9_crosses_254 (n := 256) rfl (i := 15) rfl ?_
      refine dk_sub (L0 := [none, none, none, none, none, none, none, some (.int x7), some (.int x8), none, none, none, none, none, none, none, some (.int x14)]) ⟨rfl, ⟨rfl, ⟨rfl, trivial⟩⟩⟩ ?_
      exact ww_X9_crosses_256 C hr hlk  x7 x8 x14 y0 s h
    · have h := h.2 c41
      refine dk_iconst (v := 0) C dX9_crosses_250 (n := 251) rfl (by decide) ?_
      refine dk_goto (t := 256) C dX9_crosses_251 (by decide) ?_
      refine dk_sub (L0 := [none, none, none, none, none, none, none, some (.int x7), some (.int x8), none, none, none, none, none, none, none, some (.int x14)]) ⟨rfl, ⟨rfl, ⟨rfl, trivial⟩⟩⟩ ?_
      exact ww_X9_crosses_256 C hr hlk  x7 x8 x14 0 s h
  · have h := h.2 c43
    refine dk_iload C dX9_crosses_236 (n := 238) rfl (i := 12) rfl ?_
    refine dk_goto (t := 243) C dX9_crosses_238 (by decide) ?_
    refine dk_istore (i := 16) (L' := [none, none, none, none, none, none, none, some (.int x7), some (.int x8), none, none, none, some (.int x12), none, some (.int x14), some (.int y0), some (.int x12)]) C dX9_crosses_243 (n := 245) rfl (dk_nc_of rfl) (Nat.le_of_ble_eq_true rfl) rfl ?_
    refine dk_iload C dX9_crosses_245 (n := 247) rfl (i := 15) rfl ?_
    refine dk_if_ge (t := 254) C dX9_crosses_247 (n := 250) rfl (by decide) (fun c42 => ?_) (fun c42 => ?_)
    · have h := h.1 c42
      refine dk_iload C dX9_crosses_254 (n := 256) rfl (i := 15) rfl ?_
      refine dk_sub (L0 := [none, none, none, none, none, none, none, some (.int x7), some (.int x8), none, none, none, none, none, none, none, some (.int x12)]) ⟨rfl, ⟨rfl, ⟨rfl, trivial⟩⟩⟩ ?_
      exact ww_X9_crosses_256 C hr hlk  x7 x8 x12 y0 s h
    · have h := h.2 c42
      refine dk_iconst (v := 0) C dX9_crosses_250 (n := 251) rfl (by decide) ?_
      refine dk_goto (t := 256) C dX9_crosses_251 (by decide) ?_
      refine dk_sub (L0 := [none, none, none, none, none, none, none, some (.int x7), some (.int x8), none, none, none, none, none, none, none, some (.int x12)]) ⟨rfl, ⟨rfl, ⟨rfl, trivial⟩⟩⟩ ?_
      exact ww_X9_crosses_256 C hr hlk  x7 x8 x12 0 s h
set_option maxRecDepth 20000 in
set_option maxHeartbeats 4000000 in
theorem ww_X9_crosses_211 {G : dk_G} {P : Program} {l : Launch} {e : Env} {S0 : State} {m : MethodId} {args : Array Value} {bel : List Frame} {meth : Method} {c : Code}  (C : dk_C G P (dk_rm 2) S0 m args c 0 0 cX9_crosses 17 RX9) (hr : meth.sig.returnType = (some .boolean)) (hlk : meth.locks = false)  {K : Int32 → dk_S → Prop}  : ∀ (x7 : Int32) (x8 : Int32) (x11 : Int32) (x12 : Int32) (x13 : Int32) (y0 : Int32) (s : dk_S), wf_X9_crosses_211 K x7 x8 x11 x12 x13 y0 s → dk_W G P l e (dk_rm 2) S0 m args bel meth c 0 0 (MQ bel (dk_Qc G (dk_ki K)) args S0 0 0 (dk_A G)) 211 [none, none, none, none, none, none, none, some (.int x7), some (.int x8), none, none, some (.int x11), some (.int x12), some (.int x13), none, none, none] [.int y0] s := by
  intro x7 x8 x11 x12 x13 y0 s h
  unfold wf_X9_crosses_211 at h
  refine dk_istore (i := 14) (L' := [none, none, none, none, none, none, none, some (.int x7), some (.int x8), none, none, some (.int x11), some (.int x12), some (.int x13), some (.int y0), none, none]) C dX9_crosses_211 (n := 213) rfl (dk_nc_of rfl) (Nat.le_of_ble_eq_true rfl) rfl ?_
  refine dk_iload C dX9_crosses_213 (n := 215) rfl (i := 11) rfl ?_
  refine dk_iload C dX9_crosses_215 (n := 217) rfl (i := 13) rfl ?_
  refine dk_icmp_le (t := 225) C dX9_crosses_217 (n := 220) rfl (by decide) (fun c40 => ?_) (fun c40 => ?_)
  · have h := h.1 c40
    refine dk_iload C dX9_crosses_225 (n := 227) rfl (i := 13) rfl ?_
    refine dk_sub (L0 := [none, none, none, none, none, none, none, some (.int x7), some (.int x8), none, none, none, some (.int x12), none, some (.int y0), none, none]) ⟨rfl, ⟨rfl, ⟨rfl, ⟨rfl, trivial⟩⟩⟩⟩ ?_
    exact ww_X9_crosses_227 C hr hlk  x7 x8 x12 y0 x13 s h
  · have h := h.2 c40
    refine dk_iload C dX9_crosses_220 (n := 222) rfl (i := 11) rfl ?_
    refine dk_goto (t := 227) C dX9_crosses_222 (by decide) ?_
    refine dk_sub (L0 := [none, none, none, none, none, none, none, some (.int x7), some (.int x8), none, none, none, some (.int x12), none, some (.int y0), none, none]) ⟨rfl, ⟨rfl, ⟨rfl, ⟨rfl, trivial⟩⟩⟩⟩ ?_
    exact ww_X9_crosses_227 C hr hlk  x7 x8 x12 y0 x11 s h
set_option maxRecDepth 20000 in
set_option maxHeartbeats 4000000 in
theorem ww_X9_crosses_185 {G : dk_G} {P : Program} {l : Launch} {e : Env} {S0 : State} {m : MethodId} {args : Array Value} {bel : List Frame} {meth : Method} {c : Code}  (C : dk_C G P (dk_rm 2) S0 m args c 0 0 cX9_crosses 17 RX9) (hr : meth.sig.returnType = (some .boolean)) (hlk : meth.locks = false)  {K : Int32 → dk_S → Prop}  : ∀ (x4 : Int32) (x7 : Int32) (x8 : Int32) (x10 : Int32) (x11 : Int32) (x12 : Int32) (y0 : Int32) (s : dk_S), wf_X9_crosses_185 K x4 x7 x8 x10 x11 x12 y0 s → dk_W G P l e (dk_rm 2) S0 m args bel meth c 0 0 (MQ bel (dk_Qc G (dk_ki K)) args S0 0 0 (dk_A G)) 185 [none, none, none, none, some (.int x4), none, none, some (.int x7), some (.int x8), none, some (.int x10), some (.int x11), some (.int x12), none, none, none, none] [.int y0] s := by
  intro x4 x7 x8 x10 x11 x12 y0 s h
  unfold wf_X9_crosses_185 at h
  refine dk_istore (i := 13) (L' := [none, none, none, none, some (.int x4), none, none, some (.int x7), some (.int x8), none, some (.int x10), some (.int x11), some (.int x12), some (.int y0), none, none, none]) C dX9_crosses_185 (n := 187) rfl (dk_nc_of rfl) (Nat.le_of_ble_eq_true rfl) rfl ?_
  refine dk_iload C dX9_crosses_187 (n := 189) rfl (i := 4) rfl ?_
  refine dk_if_ne (t := 202) C dX9_crosses_189 (n := 192) rfl (by decide) (fun c39 => ?_) (fun c39 => ?_)
  · have h := h.1 c39
    refine dk_iconst (v := 2) C dX9_crosses_202 (n := 203) rfl (by decide) ?_
    refine dk_iload C dX9_crosses_203 (n := 205) rfl (i := 10) rfl ?_
    refine dk_imul C dX9_crosses_205 (n := 206) rfl ?_
    refine dk_iconst (v := 1) C dX9_crosses_206 (n := 207) rfl (by decide) ?_
    refine dk_iadd C dX9_crosses_207 (n := 208) rfl ?_
    refine dk_iload C dX9_crosses_208 (n := 210) rfl (i := 7) rfl ?_
    refine dk_imul C dX9_crosses_210 (n := 211) rfl ?_
    refine dk_sub (L0 := [none, none, none, none, none, none, none, some (.int x7), some (.int x8), none, none, some (.int x11), some (.int x12), some (.int y0), none, none, none]) ⟨rfl, ⟨rfl, ⟨rfl, ⟨rfl, ⟨rfl, trivial⟩⟩⟩⟩⟩ ?_
    exact ww_X9_crosses_211 C hr hlk  x7 x8 x11 x12 y0 (((2 * x10) + 1) * x7) s h
  · have h := h.2 c39
    refine dk_iconst (v := 2) C dX9_crosses_192 (n := 193) rfl (by decide) ?_
    refine dk_iload C dX9_crosses_193 (n := 195) rfl (i := 7) rfl ?_
    refine dk_imul C dX9_crosses_195 (n := 196) rfl ?_
    refine dk_iload C dX9_crosses_196 (n := 198) rfl (i := 8) rfl ?_
    refine dk_imul C dX9_crosses_198 (n := 199) rfl ?_
    refine dk_goto (t := 211) C dX9_crosses_199 (by decide) ?_
    refine dk_sub (L0 := [none, none, none, none, none, none, none, some (.int x7), some (.int x8), none, none, some (.int x11), some (.int x12), some (.int y0), none, none, none]) ⟨rfl, ⟨rfl, ⟨rfl, ⟨rfl, ⟨rfl, trivial⟩⟩⟩⟩⟩ ?_
    exact ww_X9_crosses_211 C hr hlk  x7 x8 x11 x12 y0 ((2 * x7) * x8) s h
set_option maxRecDepth 20000 in
set_option maxHeartbeats 4000000 in
theorem ww_X9_crosses_165 {G : dk_G} {P : Program} {l : Launch} {e : Env} {S0 : State} {m : MethodId} {args : Array Value} {bel : List Frame} {meth : Method} {c : Code}  (C : dk_C G P (dk_rm 2) S0 m args c 0 0 cX9_crosses 17 RX9) (hr : meth.sig.returnType = (some .boolean)) (hlk : meth.locks = false)  {K : Int32 → dk_S → Prop}  : ∀ (x4 : Int32) (x7 : Int32) (x8 : Int32) (x10 : Int32) (x11 : Int32) (y0 : Int32) (s : dk_S), wf_X9_crosses_165 K x4 x7 x8 x10 x11 y0 s → dk_W G P l e (dk_rm 2) S0 m args bel meth c 0 0 (MQ bel (dk_Qc G (dk_ki K)) args S0 0 0 (dk_A G)) 165 [none, none, none, none, some (.int x4), none, none, some (.int x7), some (.int x8), none, some (.int x10), some (.int x11), none, none, none, none, none] [.int y0] s := by
  intro x4 x7 x8 x10 x11 y0 s h
  unfold wf_X9_crosses_165 at h
  refine dk_istore (i := 12) (L' := [none, none, none, none, some (.int x4), none, none, some (.int x7), some (.int x8), none, some (.int x10), some (.int x11), some (.int y0), none, none, none, none]) C dX9_crosses_165 (n := 167) rfl (dk_nc_of rfl) (Nat.le_of_ble_eq_true rfl) rfl ?_
  refine dk_iload C dX9_crosses_167 (n := 169) rfl (i := 4) rfl ?_
  refine dk_if_ne (t := 176) C dX9_crosses_169 (n := 172) rfl (by decide) (fun c38 => ?_) (fun c38 => ?_)
  · have h := h.1 c38
    refine dk_iconst (v := 2) C dX9_crosses_176 (n := 177) rfl (by decide) ?_
    refine dk_iload C dX9_crosses_177 (n := 179) rfl (i := 10) rfl ?_
    refine dk_imul C dX9_crosses_179 (n := 180) rfl ?_
    refine dk_iconst (v := 1) C dX9_crosses_180 (n := 181) rfl (by decide) ?_
    refine dk_isub C dX9_crosses_181 (n := 182) rfl ?_
    refine dk_iload C dX9_crosses_182 (n := 184) rfl (i := 7) rfl ?_
    refine dk_imul C dX9_crosses_184 (n := 185) rfl ?_
    refine dk_sub (L0 := [none, none, none, none, some (.int x4), none, none, some (.int x7), some (.int x8), none, some (.int x10), some (.int x11), some (.int y0), none, none, none, none]) ⟨rfl, ⟨rfl, ⟨rfl, ⟨rfl, ⟨rfl, ⟨rfl, trivial⟩⟩⟩⟩⟩⟩ ?_
    exact ww_X9_crosses_185 C hr hlk  x4 x7 x8 x10 x11 y0 (((2 * x10) - 1) * x7) s h
  · have h := h.2 c38
    refine dk_iconst (v := 0) C dX9_crosses_172 (n := 173) rfl (by decide) ?_
    refine dk_goto (t := 185) C dX9_crosses_173 (by decide) ?_
    refine dk_sub (L0 := [none, none, none, none, some (.int x4), none, none, some (.int x7), some (.int x8), none, some (.int x10), some (.int x11), some (.int y0), none, none, none, none]) ⟨rfl, ⟨rfl, ⟨rfl, ⟨rfl, ⟨rfl, ⟨rfl, trivial⟩⟩⟩⟩⟩⟩ ?_
    exact ww_X9_crosses_185 C hr hlk  x4 x7 x8 x10 x11 y0 0 s h
set_option maxRecDepth 20000 in
set_option maxHeartbeats 4000000 in
theorem ww_X9_crosses_140 {G : dk_G} {P : Program} {l : Launch} {e : Env} {S0 : State} {m : MethodId} {args : Array Value} {bel : List Frame} {meth : Method} {c : Code}  (C : dk_C G P (dk_rm 2) S0 m args c 0 0 cX9_crosses 17 RX9) (hr : meth.sig.returnType = (some .boolean)) (hlk : meth.locks = false)  {K : Int32 → dk_S → Prop}  : ∀ (x3 : Int32) (x4 : Int32) (x7 : Int32) (x8 : Int32) (x9 : Int32) (x10 : Int32) (y0 : Int32) (s : dk_S), wf_X9_crosses_140 K x3 x4 x7 x8 x9 x10 y0 s → dk_W G P l e (dk_rm 2) S0 m args bel meth c 0 0 (MQ bel (dk_Qc G (dk_ki K)) args S0 0 0 (dk_A G)) 140 [none, none, none, some (.int x3), some (.int x4), none, none, some (.int x7), some (.int x8), some (.int x9), some (.int x10), none, none, none, none, none, none] [.int y0] s := by
  intro x3 x4 x7 x8 x9 x10 y0 s h
  unfold wf_X9_crosses_140 at h
  refine dk_istore (i := 11) (L' := [none, none, none, some (.int x3), some (.int x4), none, none, some (.int x7), some (.int x8), some (.int x9), some (.int x10), some (.int y0), none, none, none, none, none]) C dX9_crosses_140 (n := 142) rfl (dk_nc_of rfl) (Nat.le_of_ble_eq_true rfl) rfl ?_
  refine dk_iload_n (i := 3) C dX9_crosses_142 (n := 143) rfl rfl rfl ?_
  refine dk_if_ne (t := 156) C dX9_crosses_143 (n := 146) rfl (by decide) (fun c37 => ?_) (fun c37 => ?_)
  · have h := h.1 c37
    refine dk_iconst (v := 2) C dX9_crosses_156 (n := 157) rfl (by decide) ?_
    refine dk_iload C dX9_crosses_157 (n := 159) rfl (i := 9) rfl ?_
    refine dk_imul C dX9_crosses_159 (n := 160) rfl ?_
    refine dk_iconst (v := 1) C dX9_crosses_160 (n := 161) rfl (by decide) ?_
    refine dk_iadd C dX9_crosses_161 (n := 162) rfl ?_
    refine dk_iload C dX9_crosses_162 (n := 164) rfl (i := 8) rfl ?_
    refine dk_imul C dX9_crosses_164 (n := 165) rfl ?_
    refine dk_sub (L0 := [none, none, none, none, some (.int x4), none, none, some (.int x7), some (.int x8), none, some (.int x10), some (.int y0), none, none, none, none, none]) ⟨rfl, ⟨rfl, ⟨rfl, ⟨rfl, ⟨rfl, trivial⟩⟩⟩⟩⟩ ?_
    exact ww_X9_crosses_165 C hr hlk  x4 x7 x8 x10 y0 (((2 * x9) + 1) * x8) s h
  · have h := h.2 c37
    refine dk_iconst (v := 2) C dX9_crosses_146 (n := 147) rfl (by decide) ?_
    refine dk_iload C dX9_crosses_147 (n := 149) rfl (i := 7) rfl ?_
    refine dk_imul C dX9_crosses_149 (n := 150) rfl ?_
    refine dk_iload C dX9_crosses_150 (n := 152) rfl (i := 8) rfl ?_
    refine dk_imul C dX9_crosses_152 (n := 153) rfl ?_
    refine dk_goto (t := 165) C dX9_crosses_153 (by decide) ?_
    refine dk_sub (L0 := [none, none, none, none, some (.int x4), none, none, some (.int x7), some (.int x8), none, some (.int x10), some (.int y0), none, none, none, none, none]) ⟨rfl, ⟨rfl, ⟨rfl, ⟨rfl, ⟨rfl, trivial⟩⟩⟩⟩⟩ ?_
    exact ww_X9_crosses_165 C hr hlk  x4 x7 x8 x10 y0 ((2 * x7) * x8) s h
set_option maxRecDepth 20000 in
set_option maxHeartbeats 4000000 in
theorem ww_X9_crosses_121 {G : dk_G} {P : Program} {l : Launch} {e : Env} {S0 : State} {m : MethodId} {args : Array Value} {bel : List Frame} {meth : Method} {c : Code}  (C : dk_C G P (dk_rm 2) S0 m args c 0 0 cX9_crosses 17 RX9) (hr : meth.sig.returnType = (some .boolean)) (hlk : meth.locks = false)  {K : Int32 → dk_S → Prop}  : ∀ (x3 : Int32) (x4 : Int32) (x7 : Int32) (x8 : Int32) (x9 : Int32) (y0 : Int32) (s : dk_S), wf_X9_crosses_121 K x3 x4 x7 x8 x9 y0 s → dk_W G P l e (dk_rm 2) S0 m args bel meth c 0 0 (MQ bel (dk_Qc G (dk_ki K)) args S0 0 0 (dk_A G)) 121 [none, none, none, some (.int x3), some (.int x4), none, none, some (.int x7), some (.int x8), some (.int x9), none, none, none, none, none, none, none] [.int y0] s := by
  intro x3 x4 x7 x8 x9 y0 s h
  unfold wf_X9_crosses_121 at h
  refine dk_istore (i := 10) (L' := [none, none, none, some (.int x3), some (.int x4), none, none, some (.int x7), some (.int x8), some (.int x9), some (.int y0), none, none, none, none, none, none]) C dX9_crosses_121 (n := 123) rfl (dk_nc_of rfl) (Nat.le_of_ble_eq_true rfl) rfl ?_
  refine dk_iload_n (i := 3) C dX9_crosses_123 (n := 124) rfl rfl rfl ?_
  refine dk_if_ne (t := 131) C dX9_crosses_124 (n := 127) rfl (by decide) (fun c36 => ?_) (fun c36 => ?_)
  · have h := h.1 c36
    refine dk_iconst (v := 2) C dX9_crosses_131 (n := 132) rfl (by decide) ?_
    refine dk_iload C dX9_crosses_132 (n := 134) rfl (i := 9) rfl ?_
    refine dk_imul C dX9_crosses_134 (n := 135) rfl ?_
    refine dk_iconst (v := 1) C dX9_crosses_135 (n := 136) rfl (by decide) ?_
    refine dk_isub C dX9_crosses_136 (n := 137) rfl ?_
    refine dk_iload C dX9_crosses_137 (n := 139) rfl (i := 8) rfl ?_
    refine dk_imul C dX9_crosses_139 (n := 140) rfl ?_
    refine dk_sub (L0 := [none, none, none, some (.int x3), some (.int x4), none, none, some (.int x7), some (.int x8), some (.int x9), some (.int y0), none, none, none, none, none, none]) ⟨rfl, ⟨rfl, ⟨rfl, ⟨rfl, ⟨rfl, ⟨rfl, trivial⟩⟩⟩⟩⟩⟩ ?_
    exact ww_X9_crosses_140 C hr hlk  x3 x4 x7 x8 x9 y0 (((2 * x9) - 1) * x8) s h
  · have h := h.2 c36
    refine dk_iconst (v := 0) C dX9_crosses_127 (n := 128) rfl (by decide) ?_
    refine dk_goto (t := 140) C dX9_crosses_128 (by decide) ?_
    refine dk_sub (L0 := [none, none, none, some (.int x3), some (.int x4), none, none, some (.int x7), some (.int x8), some (.int x9), some (.int y0), none, none, none, none, none, none]) ⟨rfl, ⟨rfl, ⟨rfl, ⟨rfl, ⟨rfl, ⟨rfl, trivial⟩⟩⟩⟩⟩⟩ ?_
    exact ww_X9_crosses_140 C hr hlk  x3 x4 x7 x8 x9 y0 0 s h
set_option maxRecDepth 20000 in
set_option maxHeartbeats 4000000 in
theorem ww_X9_crosses_106 {G : dk_G} {P : Program} {l : Launch} {e : Env} {S0 : State} {m : MethodId} {args : Array Value} {bel : List Frame} {meth : Method} {c : Code}  (C : dk_C G P (dk_rm 2) S0 m args c 0 0 cX9_crosses 17 RX9) (hr : meth.sig.returnType = (some .boolean)) (hlk : meth.locks = false)  {K : Int32 → dk_S → Prop}  : ∀ (x3 : Int32) (x4 : Int32) (x6 : Int32) (x7 : Int32) (x8 : Int32) (y0 : Int32) (s : dk_S), wf_X9_crosses_106 K x3 x4 x6 x7 x8 y0 s → dk_W G P l e (dk_rm 2) S0 m args bel meth c 0 0 (MQ bel (dk_Qc G (dk_ki K)) args S0 0 0 (dk_A G)) 106 [none, none, none, some (.int x3), some (.int x4), none, some (.int x6), some (.int x7), some (.int x8), none, none, none, none, none, none, none, none] [.int y0] s := by
  intro x3 x4 x6 x7 x8 y0 s h
  unfold wf_X9_crosses_106 at h
  refine dk_istore (i := 9) (L' := [none, none, none, some (.int x3), some (.int x4), none, some (.int x6), some (.int x7), some (.int x8), some (.int y0), none, none, none, none, none, none, none]) C dX9_crosses_106 (n := 108) rfl (dk_nc_of rfl) (Nat.le_of_ble_eq_true rfl) rfl ?_
  refine dk_iload C dX9_crosses_108 (n := 110) rfl (i := 4) rfl ?_
  refine dk_if_ge (t := 119) C dX9_crosses_110 (n := 113) rfl (by decide) (fun c35 => ?_) (fun c35 => ?_)
  · have h := h.1 c35
    refine dk_iload C dX9_crosses_119 (n := 121) rfl (i := 6) rfl ?_
    refine dk_sub (L0 := [none, none, none, some (.int x3), some (.int x4), none, none, some (.int x7), some (.int x8), some (.int y0), none, none, none, none, none, none, none]) ⟨rfl, ⟨rfl, ⟨rfl, ⟨rfl, ⟨rfl, trivial⟩⟩⟩⟩⟩ ?_
    exact ww_X9_crosses_121 C hr hlk  x3 x4 x7 x8 y0 x6 s h
  · have h := h.2 c35
    refine dk_iload C dX9_crosses_113 (n := 115) rfl (i := 6) rfl ?_
    refine dk_ineg C dX9_crosses_115 (n := 116) rfl ?_
    refine dk_goto (t := 121) C dX9_crosses_116 (by decide) ?_
    refine dk_sub (L0 := [none, none, none, some (.int x3), some (.int x4), none, none, some (.int x7), some (.int x8), some (.int y0), none, none, none, none, none, none, none]) ⟨rfl, ⟨rfl, ⟨rfl, ⟨rfl, ⟨rfl, trivial⟩⟩⟩⟩⟩ ?_
    exact ww_X9_crosses_121 C hr hlk  x3 x4 x7 x8 y0 (-x6) s h
set_option maxRecDepth 20000 in
set_option maxHeartbeats 4000000 in
theorem ww_X9_crosses_92 {G : dk_G} {P : Program} {l : Launch} {e : Env} {S0 : State} {m : MethodId} {args : Array Value} {bel : List Frame} {meth : Method} {c : Code}  (C : dk_C G P (dk_rm 2) S0 m args c 0 0 cX9_crosses 17 RX9) (hr : meth.sig.returnType = (some .boolean)) (hlk : meth.locks = false)  {K : Int32 → dk_S → Prop}  : ∀ (x3 : Int32) (x4 : Int32) (x5 : Int32) (x6 : Int32) (x7 : Int32) (y0 : Int32) (s : dk_S), wf_X9_crosses_92 K x3 x4 x5 x6 x7 y0 s → dk_W G P l e (dk_rm 2) S0 m args bel meth c 0 0 (MQ bel (dk_Qc G (dk_ki K)) args S0 0 0 (dk_A G)) 92 [none, none, none, some (.int x3), some (.int x4), some (.int x5), some (.int x6), some (.int x7), none, none, none, none, none, none, none, none, none] [.int y0] s := by
  intro x3 x4 x5 x6 x7 y0 s h
  unfold wf_X9_crosses_92 at h
  refine dk_istore (i := 8) (L' := [none, none, none, some (.int x3), some (.int x4), some (.int x5), some (.int x6), some (.int x7), some (.int y0), none, none, none, none, none, none, none, none]) C dX9_crosses_92 (n := 94) rfl (dk_nc_of rfl) (Nat.le_of_ble_eq_true rfl) rfl ?_
  refine dk_iload_n (i := 3) C dX9_crosses_94 (n := 95) rfl rfl rfl ?_
  refine dk_if_ge (t := 104) C dX9_crosses_95 (n := 98) rfl (by decide) (fun c34 => ?_) (fun c34 => ?_)
  · have h := h.1 c34
    refine dk_iload C dX9_crosses_104 (n := 106) rfl (i := 5) rfl ?_
    refine dk_sub (L0 := [none, none, none, some (.int x3), some (.int x4), none, some (.int x6), some (.int x7), some (.int y0), none, none, none, none, none, none, none, none]) ⟨rfl, ⟨rfl, ⟨rfl, ⟨rfl, ⟨rfl, trivial⟩⟩⟩⟩⟩ ?_
    exact ww_X9_crosses_106 C hr hlk  x3 x4 x6 x7 y0 x5 s h
  · have h := h.2 c34
    refine dk_iload C dX9_crosses_98 (n := 100) rfl (i := 5) rfl ?_
    refine dk_ineg C dX9_crosses_100 (n := 101) rfl ?_
    refine dk_goto (t := 106) C dX9_crosses_101 (by decide) ?_
    refine dk_sub (L0 := [none, none, none, some (.int x3), some (.int x4), none, some (.int x6), some (.int x7), some (.int y0), none, none, none, none, none, none, none, none]) ⟨rfl, ⟨rfl, ⟨rfl, ⟨rfl, ⟨rfl, trivial⟩⟩⟩⟩⟩ ?_
    exact ww_X9_crosses_106 C hr hlk  x3 x4 x6 x7 y0 (-x5) s h
set_option maxRecDepth 20000 in
set_option maxHeartbeats 4000000 in
theorem ww_X9_crosses_76 {G : dk_G} {P : Program} {l : Launch} {e : Env} {S0 : State} {m : MethodId} {args : Array Value} {bel : List Frame} {meth : Method} {c : Code}  (C : dk_C G P (dk_rm 2) S0 m args c 0 0 cX9_crosses 17 RX9) (hr : meth.sig.returnType = (some .boolean)) (hlk : meth.locks = false)  {K : Int32 → dk_S → Prop}  : ∀ (x3 : Int32) (x4 : Int32) (x5 : Int32) (x6 : Int32) (y0 : Int32) (s : dk_S), wf_X9_crosses_76 K x3 x4 x5 x6 y0 s → dk_W G P l e (dk_rm 2) S0 m args bel meth c 0 0 (MQ bel (dk_Qc G (dk_ki K)) args S0 0 0 (dk_A G)) 76 [none, none, none, some (.int x3), some (.int x4), some (.int x5), some (.int x6), none, none, none, none, none, none, none, none, none, none] [.int y0] s := by
  intro x3 x4 x5 x6 y0 s h
  unfold wf_X9_crosses_76 at h
  refine dk_istore (i := 7) (L' := [none, none, none, some (.int x3), some (.int x4), some (.int x5), some (.int x6), some (.int y0), none, none, none, none, none, none, none, none, none]) C dX9_crosses_76 (n := 78) rfl (dk_nc_of rfl) (Nat.le_of_ble_eq_true rfl) rfl ?_
  refine dk_iload C dX9_crosses_78 (n := 80) rfl (i := 4) rfl ?_
  refine dk_if_ne (t := 87) C dX9_crosses_80 (n := 83) rfl (by decide) (fun c33 => ?_) (fun c33 => ?_)
  · have h := h.1 c33
    refine dk_iload C dX9_crosses_87 (n := 89) rfl (i := 4) rfl ?_
    refine dk_callSi C [] (cc_X9_far C.D  h) yy_X9_far dk_wm_X9_171 dX9_crosses_89 (fun r32 s31 h => ?_) rfl ⟨Nat.le_of_ble_eq_true rfl, Nat.le_of_ble_eq_true rfl⟩ rfl (Nat.le_of_ble_eq_true rfl) rfl (n := 92) rfl
    refine dk_sub (L0 := [none, none, none, some (.int x3), some (.int x4), some (.int x5), some (.int x6), some (.int y0), none, none, none, none, none, none, none, none, none]) ⟨rfl, ⟨rfl, ⟨rfl, ⟨rfl, ⟨rfl, trivial⟩⟩⟩⟩⟩ ?_
    exact ww_X9_crosses_92 C hr hlk  x3 x4 x5 x6 y0 r32 s31 h
  · have h := h.2 c33
    refine dk_iconst (v := 1) C dX9_crosses_83 (n := 84) rfl (by decide) ?_
    refine dk_goto (t := 92) C dX9_crosses_84 (by decide) ?_
    refine dk_sub (L0 := [none, none, none, some (.int x3), some (.int x4), some (.int x5), some (.int x6), some (.int y0), none, none, none, none, none, none, none, none, none]) ⟨rfl, ⟨rfl, ⟨rfl, ⟨rfl, ⟨rfl, trivial⟩⟩⟩⟩⟩ ?_
    exact ww_X9_crosses_92 C hr hlk  x3 x4 x5 x6 y0 1 s h
set_option maxRecDepth 20000 in
set_option maxHeartbeats 4000000 in
theorem ww_X9_crosses_52 {G : dk_G} {P : Program} {l : Launch} {e : Env} {S0 : State} {m : MethodId} {args : Array Value} {bel : List Frame} {meth : Method} {c : Code}  (C : dk_C G P (dk_rm 2) S0 m args c 0 0 cX9_crosses 17 RX9) (hr : meth.sig.returnType = (some .boolean)) (hlk : meth.locks = false)  {K : Int32 → dk_S → Prop}  : ∀ (x3 : Int32) (x4 : Int32) (x5 : Int32) (x6 : Int32) (s : dk_S), wf_X9_crosses_52 K x3 x4 x5 x6 s → dk_W G P l e (dk_rm 2) S0 m args bel meth c 0 0 (MQ bel (dk_Qc G (dk_ki K)) args S0 0 0 (dk_A G)) 52 [none, none, none, some (.int x3), some (.int x4), some (.int x5), some (.int x6), none, none, none, none, none, none, none, none, none, none] [] s := by
  intro x3 x4 x5 x6 s h
  unfold wf_X9_crosses_52 at h
  refine dk_iload C dX9_crosses_52 (n := 54) rfl (i := 4) rfl ?_
  refine dk_if_ne (t := 64) C dX9_crosses_54 (n := 57) rfl (by decide) (fun c30 => ?_) (fun c30 => ?_)
  · have h := h.1 c30
    refine dk_iload_n (i := 3) C dX9_crosses_64 (n := 65) rfl rfl rfl ?_
    refine dk_if_ne (t := 72) C dX9_crosses_65 (n := 68) rfl (by decide) (fun c25 => ?_) (fun c25 => ?_)
    · have h := h.1 c25
      refine dk_iload_n (i := 3) C dX9_crosses_72 (n := 73) rfl rfl rfl ?_
      refine dk_callSi C [] (cc_X9_far C.D  h) yy_X9_far dk_wm_X9_171 dX9_crosses_73 (fun r24 s23 h => ?_) rfl ⟨Nat.le_of_ble_eq_true rfl, Nat.le_of_ble_eq_true rfl⟩ rfl (Nat.le_of_ble_eq_true rfl) rfl (n := 76) rfl
      refine dk_sub (L0 := [none, none, none, some (.int x3), some (.int x4), some (.int x5), some (.int x6), none, none, none, none, none, none, none, none, none, none]) ⟨rfl, ⟨rfl, ⟨rfl, ⟨rfl, trivial⟩⟩⟩⟩ ?_
      exact ww_X9_crosses_76 C hr hlk  x3 x4 x5 x6 r24 s23 h
    · have h := h.2 c25
      refine dk_iconst (v := 1) C dX9_crosses_68 (n := 69) rfl (by decide) ?_
      refine dk_goto (t := 76) C dX9_crosses_69 (by decide) ?_
      refine dk_sub (L0 := [none, none, none, some (.int x3), some (.int x4), some (.int x5), some (.int x6), none, none, none, none, none, none, none, none, none, none]) ⟨rfl, ⟨rfl, ⟨rfl, ⟨rfl, trivial⟩⟩⟩⟩ ?_
      exact ww_X9_crosses_76 C hr hlk  x3 x4 x5 x6 1 s h
  · have h := h.2 c30
    refine dk_iload C dX9_crosses_57 (n := 59) rfl (i := 6) rfl ?_
    refine dk_if_eq (t := 64) C dX9_crosses_59 (n := 62) rfl (by decide) (fun c29 => ?_) (fun c29 => ?_)
    · have h := h.1 c29
      refine dk_iload_n (i := 3) C dX9_crosses_64 (n := 65) rfl rfl rfl ?_
      refine dk_if_ne (t := 72) C dX9_crosses_65 (n := 68) rfl (by decide) (fun c28 => ?_) (fun c28 => ?_)
      · have h := h.1 c28
        refine dk_iload_n (i := 3) C dX9_crosses_72 (n := 73) rfl rfl rfl ?_
        refine dk_callSi C [] (cc_X9_far C.D  h) yy_X9_far dk_wm_X9_171 dX9_crosses_73 (fun r27 s26 h => ?_) rfl ⟨Nat.le_of_ble_eq_true rfl, Nat.le_of_ble_eq_true rfl⟩ rfl (Nat.le_of_ble_eq_true rfl) rfl (n := 76) rfl
        refine dk_sub (L0 := [none, none, none, some (.int x3), some (.int x4), some (.int x5), some (.int x6), none, none, none, none, none, none, none, none, none, none]) ⟨rfl, ⟨rfl, ⟨rfl, ⟨rfl, trivial⟩⟩⟩⟩ ?_
        exact ww_X9_crosses_76 C hr hlk  x3 x4 x5 x6 r27 s26 h
      · have h := h.2 c28
        refine dk_iconst (v := 1) C dX9_crosses_68 (n := 69) rfl (by decide) ?_
        refine dk_goto (t := 76) C dX9_crosses_69 (by decide) ?_
        refine dk_sub (L0 := [none, none, none, some (.int x3), some (.int x4), some (.int x5), some (.int x6), none, none, none, none, none, none, none, none, none, none]) ⟨rfl, ⟨rfl, ⟨rfl, ⟨rfl, trivial⟩⟩⟩⟩ ?_
        exact ww_X9_crosses_76 C hr hlk  x3 x4 x5 x6 1 s h
    · have h := h.2 c29
      refine dk_iconst (v := 0) C dX9_crosses_62 (n := 63) rfl (by decide) ?_
      exact dk_iret C hr hlk dk_nz0 dX9_crosses_63 ⟨_, rfl, h⟩
set_option maxRecDepth 20000 in
set_option maxHeartbeats 4000000 in
theorem cc_X9_crosses {G : dk_G} {l : Launch} {a0 : Int32} {a1 : Int32} {a2 : Int32} (hD : dk_D G)  {s : dk_S} {K : Int32 → dk_S → Prop} (h : wf_X9_crosses a0 a1 a2 s K) : dk_M G l 2 yX9_crosses cX9_crosses 17 (some .boolean) [.int a0, .int a1, .int a2] s (dk_ki K) := by
  refine dk_of hD (by decide) [some (.int a0), some (.int a1), some (.int a2), none, none, none, none, none, none, none, none, none, none, none, none, none, none] (fun q hq => hq) rfl (Nat.le_of_ble_eq_true rfl) (fun P e S0 m args bel meth c C hr hlk => ?_)
  unfold wf_X9_crosses at h
  refine dk_iload_n (i := 1) C dX9_crosses_0 (n := 1) rfl rfl rfl ?_
  refine dk_callSi C [] (cc_X9_xOf C.D  h) yy_X9_xOf dk_wm_X9_114 dX9_crosses_1 (fun r2 s1 h => ?_) rfl ⟨Nat.le_of_ble_eq_true rfl, Nat.le_of_ble_eq_true rfl⟩ rfl (Nat.le_of_ble_eq_true rfl) rfl (n := 4) rfl
  refine dk_iload_n (i := 0) C dX9_crosses_4 (n := 5) rfl rfl rfl ?_
  refine dk_callSi C [.int r2] (cc_X9_xOf C.D  h) yy_X9_xOf dk_wm_X9_114 dX9_crosses_5 (fun r4 s3 h => ?_) rfl ⟨Nat.le_of_ble_eq_true rfl, Nat.le_of_ble_eq_true rfl⟩ rfl (Nat.le_of_ble_eq_true rfl) rfl (n := 8) rfl
  refine dk_isub C dX9_crosses_8 (n := 9) rfl ?_
  refine dk_name (fun v5 ev5 => ?_)
  have h := h v5 ev5
  refine dk_istore_n (i := 3) (L' := [some (.int a0), some (.int a1), some (.int a2), some (.int v5), none, none, none, none, none, none, none, none, none, none, none, none, none]) C dX9_crosses_9 (n := 10) rfl rfl (dk_nc_of rfl) (Nat.le_of_ble_eq_true rfl) rfl ?_
  refine dk_iload_n (i := 1) C dX9_crosses_10 (n := 11) rfl rfl rfl ?_
  refine dk_callSi C [] (cc_X9_yOf C.D  h) yy_X9_yOf dk_wm_X9_118 dX9_crosses_11 (fun r7 s6 h => ?_) rfl ⟨Nat.le_of_ble_eq_true rfl, Nat.le_of_ble_eq_true rfl⟩ rfl (Nat.le_of_ble_eq_true rfl) rfl (n := 14) rfl
  refine dk_iload_n (i := 0) C dX9_crosses_14 (n := 15) rfl rfl rfl ?_
  refine dk_callSi C [.int r7] (cc_X9_yOf C.D  h) yy_X9_yOf dk_wm_X9_118 dX9_crosses_15 (fun r9 s8 h => ?_) rfl ⟨Nat.le_of_ble_eq_true rfl, Nat.le_of_ble_eq_true rfl⟩ rfl (Nat.le_of_ble_eq_true rfl) rfl (n := 18) rfl
  refine dk_isub C dX9_crosses_18 (n := 19) rfl ?_
  refine dk_name (fun v10 ev10 => ?_)
  have h := h v10 ev10
  refine dk_istore (i := 4) (L' := [some (.int a0), some (.int a1), some (.int a2), some (.int v5), some (.int v10), none, none, none, none, none, none, none, none, none, none, none, none]) C dX9_crosses_19 (n := 21) rfl (dk_nc_of rfl) (Nat.le_of_ble_eq_true rfl) rfl ?_
  refine dk_iload_n (i := 2) C dX9_crosses_21 (n := 22) rfl rfl rfl ?_
  refine dk_callSi C [] (cc_X9_xOf C.D  h) yy_X9_xOf dk_wm_X9_114 dX9_crosses_22 (fun r12 s11 h => ?_) rfl ⟨Nat.le_of_ble_eq_true rfl, Nat.le_of_ble_eq_true rfl⟩ rfl (Nat.le_of_ble_eq_true rfl) rfl (n := 25) rfl
  refine dk_iload_n (i := 0) C dX9_crosses_25 (n := 26) rfl rfl rfl ?_
  refine dk_callSi C [.int r12] (cc_X9_xOf C.D  h) yy_X9_xOf dk_wm_X9_114 dX9_crosses_26 (fun r14 s13 h => ?_) rfl ⟨Nat.le_of_ble_eq_true rfl, Nat.le_of_ble_eq_true rfl⟩ rfl (Nat.le_of_ble_eq_true rfl) rfl (n := 29) rfl
  refine dk_isub C dX9_crosses_29 (n := 30) rfl ?_
  refine dk_name (fun v15 ev15 => ?_)
  have h := h v15 ev15
  refine dk_istore (i := 5) (L' := [some (.int a0), some (.int a1), some (.int a2), some (.int v5), some (.int v10), some (.int v15), none, none, none, none, none, none, none, none, none, none, none]) C dX9_crosses_30 (n := 32) rfl (dk_nc_of rfl) (Nat.le_of_ble_eq_true rfl) rfl ?_
  refine dk_iload_n (i := 2) C dX9_crosses_32 (n := 33) rfl rfl rfl ?_
  refine dk_callSi C [] (cc_X9_yOf C.D  h) yy_X9_yOf dk_wm_X9_118 dX9_crosses_33 (fun r17 s16 h => ?_) rfl ⟨Nat.le_of_ble_eq_true rfl, Nat.le_of_ble_eq_true rfl⟩ rfl (Nat.le_of_ble_eq_true rfl) rfl (n := 36) rfl
  refine dk_iload_n (i := 0) C dX9_crosses_36 (n := 37) rfl rfl rfl ?_
  refine dk_callSi C [.int r17] (cc_X9_yOf C.D  h) yy_X9_yOf dk_wm_X9_118 dX9_crosses_37 (fun r19 s18 h => ?_) rfl ⟨Nat.le_of_ble_eq_true rfl, Nat.le_of_ble_eq_true rfl⟩ rfl (Nat.le_of_ble_eq_true rfl) rfl (n := 40) rfl
  refine dk_isub C dX9_crosses_40 (n := 41) rfl ?_
  refine dk_name (fun v20 ev20 => ?_)
  have h := h v20 ev20
  refine dk_istore (i := 6) (L' := [some (.int a0), some (.int a1), some (.int a2), some (.int v5), some (.int v10), some (.int v15), some (.int v20), none, none, none, none, none, none, none, none, none, none]) C dX9_crosses_41 (n := 43) rfl (dk_nc_of rfl) (Nat.le_of_ble_eq_true rfl) rfl ?_
  refine dk_iload_n (i := 3) C dX9_crosses_43 (n := 44) rfl rfl rfl ?_
  refine dk_if_ne (t := 52) C dX9_crosses_44 (n := 47) rfl (by decide) (fun c22 => ?_) (fun c22 => ?_)
  · have h := h.1 c22
    refine dk_sub (L0 := [none, none, none, some (.int v5), some (.int v10), some (.int v15), some (.int v20), none, none, none, none, none, none, none, none, none, none]) ⟨rfl, ⟨rfl, ⟨rfl, ⟨rfl, trivial⟩⟩⟩⟩ ?_
    exact ww_X9_crosses_52 C hr hlk  v5 v10 v15 v20 s18 h
  · have h := h.2 c22
    refine dk_iload C dX9_crosses_47 (n := 49) rfl (i := 5) rfl ?_
    refine dk_if_ne (t := 62) C dX9_crosses_49 (n := 52) rfl (by decide) (fun c21 => ?_) (fun c21 => ?_)
    · have h := h.1 c21
      refine dk_iconst (v := 0) C dX9_crosses_62 (n := 63) rfl (by decide) ?_
      exact dk_iret C hr hlk dk_nz0 dX9_crosses_63 ⟨_, rfl, h⟩
    · have h := h.2 c21
      refine dk_sub (L0 := [none, none, none, some (.int v5), some (.int v10), some (.int v15), some (.int v20), none, none, none, none, none, none, none, none, none, none]) ⟨rfl, ⟨rfl, ⟨rfl, ⟨rfl, trivial⟩⟩⟩⟩ ?_
      exact ww_X9_crosses_52 C hr hlk  v5 v10 v15 v20 s18 h
