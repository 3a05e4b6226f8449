/-! X7_perform -/
set_option maxRecDepth 20000 in
set_option maxHeartbeats 4000000 in
theorem ww_X7_perform_192 {G : dk_G} {P : Program} {l : Launch} {e : Env} {S0 : State} {m : MethodId} {args : Array Value} {bel : List Frame} {meth : Method} {c : Code} {p0 : Nat} (C : dk_C G P (dk_rm 6) S0 m args c 0 0 cX7_perform 5 RX7) (hr : meth.sig.returnType = (some .int)) (hlk : meth.locks = false) (hp0 : dk_WI G p0) {K : Int32 → dk_S → Prop}  : ∀ (x4 : Int32) (s : dk_S), wf_X7_perform_192 p0 K x4 s → dk_W G P l e (dk_rm 6) S0 m args bel meth c 0 0 (MQ bel (dk_Qc G (dk_ki K)) args S0 0 0 (dk_A G)) 192 [some (dk_r G p0 0), none, none, none, some (.int x4)] [] s := by
  intro x4 s h
  unfold wf_X7_perform_192 at h
  refine dk_iload C dX7_perform_192 (n := 194) rfl (i := 4) rfl ?_
  refine dk_ldc (v := (-1000000)) C dX7_perform_194 (n := 196) rfl dk_wk_X7_165 ?_
  refine dk_icmp_eq (t := 207) C dX7_perform_196 (n := 199) rfl (by decide) (fun c36 => ?_) (fun c36 => ?_)
  · have h := h.1 c36
    refine dk_iload C dX7_perform_207 (n := 209) rfl (i := 4) rfl ?_
    exact dk_iret C hr hlk rfl dX7_perform_209 ⟨_, rfl, h⟩
  · have h := h.2 c36
    refine dk_aload_n (i := 0) C dX7_perform_199 (n := 200) rfl rfl rfl ?_
    refine gf_X7_28 C (hp0 0 (by decide)) dX7_perform_200 (n := 203) rfl ?_
    refine dk_iconst (v := 0) C dX7_perform_203 (n := 204) rfl (by decide) ?_
    refine dk_callVv C [] (cc_X2_spendTurn C.D hp0 h) yy_X2_spendTurn dk_wm_X7_166 dk_sh13 (hp0 13 (by decide)) dX7_perform_204 (fun s35 h => ?_) rfl rfl ⟨Nat.le_of_ble_eq_true rfl, Nat.le_of_ble_eq_true rfl⟩ rfl (Nat.le_of_ble_eq_true rfl) rfl (n := 207) rfl
    refine dk_iload C dX7_perform_207 (n := 209) rfl (i := 4) rfl ?_
    exact dk_iret C hr hlk rfl dX7_perform_209 ⟨_, rfl, h⟩
set_option maxRecDepth 20000 in
set_option maxHeartbeats 4000000 in
theorem cc_X7_perform {G : dk_G} {l : Launch} {p0 : Nat} {a1 : Int32} {a2 : Int32} {a3 : Int32} (hD : dk_D G) (hp0 : dk_WI G p0) {s : dk_S} {K : Int32 → dk_S → Prop} (h : wf_X7_perform p0 a1 a2 a3 s K) : dk_M G l 6 yX7_perform cX7_perform 5 (some .int) [dk_r G p0 0, .int a1, .int a2, .int a3] s (dk_ki K) := by
  refine dk_of hD (by decide) [some (dk_r G p0 0), some (.int a1), some (.int a2), some (.int a3), none] (fun q hq => hq) rfl (Nat.le_of_ble_eq_true rfl) (fun P e S0 m args bel meth c C hr hlk => ?_)
  unfold wf_X7_perform at h
  refine dk_iconst (v := 0) C dX7_perform_0 (n := 1) rfl (by decide) ?_
  refine dk_istore (i := 4) (L' := [some (dk_r G p0 0), some (.int a1), some (.int a2), some (.int a3), some (.int 0)]) C dX7_perform_1 (n := 3) rfl (dk_nc_of rfl) (Nat.le_of_ble_eq_true rfl) rfl ?_
  refine dk_iload_n (i := 1) C dX7_perform_3 (n := 4) rfl rfl rfl ?_
  by_cases c3 : a1 = 0
  · have h := h.1 c3
    refine dk_tabIn (off := 52) (t := 56) C dX7_perform_4 (by rw [c3]; decide) (by rw [c3]; decide) (by rw [c3]; decide) (by decide) ?_
    refine dk_aload_n (i := 0) C dX7_perform_56 (n := 57) rfl rfl rfl ?_
    refine dk_iload_n (i := 2) C dX7_perform_57 (n := 58) rfl rfl rfl ?_
    refine dk_callVi C [] (cc_X7_heroGoes C.D hp0 h) yy_X7_heroGoes dk_wm_X7_137 dk_sh0 (hp0 0 (by decide)) dX7_perform_58 (fun r2 s1 h => ?_) rfl rfl ⟨Nat.le_of_ble_eq_true rfl, Nat.le_of_ble_eq_true rfl⟩ rfl (Nat.le_of_ble_eq_true rfl) rfl (n := 61) rfl
    refine dk_istore (i := 4) (L' := [some (dk_r G p0 0), some (.int a1), some (.int a2), some (.int a3), some (.int r2)]) C dX7_perform_61 (n := 63) rfl (dk_nc_of rfl) (Nat.le_of_ble_eq_true rfl) rfl ?_
    refine dk_goto (t := 192) C dX7_perform_63 (by decide) ?_
    refine dk_sub (L0 := [some (dk_r G p0 0), none, none, none, some (.int r2)]) ⟨rfl, ⟨rfl, trivial⟩⟩ ?_
    exact ww_X7_perform_192 C hr hlk hp0  r2 s1 h
  have h := h.2 c3
  by_cases c4 : a1 = 1
  · have h := h.1 c4
    refine dk_tabIn (off := 188) (t := 192) C dX7_perform_4 (by rw [c4]; decide) (by rw [c4]; decide) (by rw [c4]; decide) (by decide) ?_
    refine dk_sub (L0 := [some (dk_r G p0 0), none, none, none, some (.int 0)]) ⟨rfl, ⟨rfl, trivial⟩⟩ ?_
    exact ww_X7_perform_192 C hr hlk hp0  0 s h
  have h := h.2 c4
  by_cases c8 : a1 = 2
  · have h := h.1 c8
    refine dk_tabIn (off := 62) (t := 66) C dX7_perform_4 (by rw [c8]; decide) (by rw [c8]; decide) (by rw [c8]; decide) (by decide) ?_
    refine dk_aload_n (i := 0) C dX7_perform_66 (n := 67) rfl rfl rfl ?_
    refine gf_X7_35 C (hp0 0 (by decide)) dX7_perform_67 (n := 70) rfl ?_
    refine gf_X7_141 C (hp0 23 (by decide)) dX7_perform_70 (n := 73) rfl ?_
    refine dk_iload_n (i := 2) C dX7_perform_73 (n := 74) rfl rfl rfl ?_
    refine dk_iconst (v := (-1)) C dX7_perform_74 (n := 75) rfl (by decide) ?_
    refine dk_callNv C [] (cc_X8_put C.D dk_sh25 (hp0 25 (by decide)) h) yy_X8_put dk_wm_X7_142 dX7_perform_75 (fun s5 h => ?_) rfl ⟨Nat.le_of_ble_eq_true rfl, Nat.le_of_ble_eq_true rfl⟩ rfl (Nat.le_of_ble_eq_true rfl) rfl (n := 78) rfl
    refine dk_aload_n (i := 0) C dX7_perform_78 (n := 79) rfl rfl rfl ?_
    refine gf_X7_35 C (hp0 0 (by decide)) dX7_perform_79 (n := 82) rfl ?_
    refine dk_aload_n (i := 0) C dX7_perform_82 (n := 83) rfl rfl rfl ?_
    refine gf_X7_21 C (hp0 0 (by decide)) dX7_perform_83 (n := 86) rfl ?_
    refine dk_callVi C [] (cc_X6_carriedWeight C.D hp0 hp0 h) yy_X6_carriedWeight dk_wm_X7_146 dk_sh23 (hp0 23 (by decide)) dX7_perform_86 (fun r7 s6 h => ?_) rfl rfl ⟨Nat.le_of_ble_eq_true rfl, Nat.le_of_ble_eq_true rfl⟩ rfl (Nat.le_of_ble_eq_true rfl) rfl (n := 89) rfl
    refine dk_istore (i := 4) (L' := [some (dk_r G p0 0), some (.int a1), some (.int a2), some (.int a3), some (.int r7)]) C dX7_perform_89 (n := 91) rfl (dk_nc_of rfl) (Nat.le_of_ble_eq_true rfl) rfl ?_
    refine dk_goto (t := 192) C dX7_perform_91 (by decide) ?_
    refine dk_sub (L0 := [some (dk_r G p0 0), none, none, none, some (.int r7)]) ⟨rfl, ⟨rfl, trivial⟩⟩ ?_
    exact ww_X7_perform_192 C hr hlk hp0  r7 s6 h
  have h := h.2 c8
  by_cases c14 : a1 = 3
  · have h := h.1 c14
    refine dk_tabIn (off := 90) (t := 94) C dX7_perform_4 (by rw [c14]; decide) (by rw [c14]; decide) (by rw [c14]; decide) (by decide) ?_
    refine dk_aload_n (i := 0) C dX7_perform_94 (n := 95) rfl rfl rfl ?_
    refine gf_X7_35 C (hp0 0 (by decide)) dX7_perform_95 (n := 98) rfl ?_
    refine gf_X7_141 C (hp0 23 (by decide)) dX7_perform_98 (n := 101) rfl ?_
    refine dk_iload_n (i := 2) C dX7_perform_101 (n := 102) rfl rfl rfl ?_
    refine dk_aload_n (i := 0) C dX7_perform_102 (n := 103) rfl rfl rfl ?_
    refine dk_callVi C [.int a2, dk_r G p0 25] (cc_X7_heroSpot C.D hp0 h) yy_X7_heroSpot dk_wm_X7_93 dk_sh0 (hp0 0 (by decide)) dX7_perform_103 (fun r10 s9 h => ?_) rfl rfl ⟨Nat.le_of_ble_eq_true rfl, Nat.le_of_ble_eq_true rfl⟩ rfl (Nat.le_of_ble_eq_true rfl) rfl (n := 106) rfl
    refine dk_callNv C [] (cc_X8_put C.D dk_sh25 (hp0 25 (by decide)) h) yy_X8_put dk_wm_X7_142 dX7_perform_106 (fun s11 h => ?_) rfl ⟨Nat.le_of_ble_eq_true rfl, Nat.le_of_ble_eq_true rfl⟩ rfl (Nat.le_of_ble_eq_true rfl) rfl (n := 109) rfl
    refine dk_aload_n (i := 0) C dX7_perform_109 (n := 110) rfl rfl rfl ?_
    refine gf_X7_35 C (hp0 0 (by decide)) dX7_perform_110 (n := 113) rfl ?_
    refine dk_aload_n (i := 0) C dX7_perform_113 (n := 114) rfl rfl rfl ?_
    refine gf_X7_21 C (hp0 0 (by decide)) dX7_perform_114 (n := 117) rfl ?_
    refine dk_callVi C [] (cc_X6_carriedWeight C.D hp0 hp0 h) yy_X6_carriedWeight dk_wm_X7_146 dk_sh23 (hp0 23 (by decide)) dX7_perform_117 (fun r13 s12 h => ?_) rfl rfl ⟨Nat.le_of_ble_eq_true rfl, Nat.le_of_ble_eq_true rfl⟩ rfl (Nat.le_of_ble_eq_true rfl) rfl (n := 120) rfl
    refine dk_istore (i := 4) (L' := [some (dk_r G p0 0), some (.int a1), some (.int a2), some (.int a3), some (.int r13)]) C dX7_perform_120 (n := 122) rfl (dk_nc_of rfl) (Nat.le_of_ble_eq_true rfl) rfl ?_
    refine dk_goto (t := 192) C dX7_perform_122 (by decide) ?_
    refine dk_sub (L0 := [some (dk_r G p0 0), none, none, none, some (.int r13)]) ⟨rfl, ⟨rfl, trivial⟩⟩ ?_
    exact ww_X7_perform_192 C hr hlk hp0  r13 s12 h
  have h := h.2 c14
  by_cases c20 : a1 = 4
  · have h := h.1 c20
    refine dk_tabIn (off := 121) (t := 125) C dX7_perform_4 (by rw [c20]; decide) (by rw [c20]; decide) (by rw [c20]; decide) (by decide) ?_
    refine dk_aload_n (i := 0) C dX7_perform_125 (n := 126) rfl rfl rfl ?_
    refine dk_iload_n (i := 2) C dX7_perform_126 (n := 127) rfl rfl rfl ?_
    refine dk_iload_n (i := 3) C dX7_perform_127 (n := 128) rfl rfl rfl ?_
    refine dk_iconst (v := (-1)) C dX7_perform_128 (n := 129) rfl (by decide) ?_
    refine dk_icmp_ne (t := 136) C dX7_perform_129 (n := 132) rfl (by decide) (fun c19 => ?_) (fun c19 => ?_)
    · have h := h.1 c19
      refine dk_bipush (v := (-3)) C dX7_perform_136 (n := 138) rfl (by decide) ?_
      refine dk_iload_n (i := 3) C dX7_perform_138 (n := 139) rfl rfl rfl ?_
      refine dk_isub C dX7_perform_139 (n := 140) rfl ?_
      refine dk_callVi C [] (cc_X7_heroPacks C.D hp0 h) yy_X7_heroPacks dk_wm_X7_150 dk_sh0 (hp0 0 (by decide)) dX7_perform_140 (fun r16 s15 h => ?_) rfl rfl ⟨Nat.le_of_ble_eq_true rfl, Nat.le_of_ble_eq_true rfl⟩ rfl (Nat.le_of_ble_eq_true rfl) rfl (n := 143) rfl
      refine dk_istore (i := 4) (L' := [some (dk_r G p0 0), some (.int a1), some (.int a2), some (.int a3), some (.int r16)]) C dX7_perform_143 (n := 145) rfl (dk_nc_of rfl) (Nat.le_of_ble_eq_true rfl) rfl ?_
      refine dk_goto (t := 192) C dX7_perform_145 (by decide) ?_
      refine dk_sub (L0 := [some (dk_r G p0 0), none, none, none, some (.int r16)]) ⟨rfl, ⟨rfl, trivial⟩⟩ ?_
      exact ww_X7_perform_192 C hr hlk hp0  r16 s15 h
    · have h := h.2 c19
      refine dk_iconst (v := (-1)) C dX7_perform_132 (n := 133) rfl (by decide) ?_
      refine dk_goto (t := 140) C dX7_perform_133 (by decide) ?_
      refine dk_callVi C [] (cc_X7_heroPacks C.D hp0 h) yy_X7_heroPacks dk_wm_X7_150 dk_sh0 (hp0 0 (by decide)) dX7_perform_140 (fun r18 s17 h => ?_) rfl rfl ⟨Nat.le_of_ble_eq_true rfl, Nat.le_of_ble_eq_true rfl⟩ rfl (Nat.le_of_ble_eq_true rfl) rfl (n := 143) rfl
      refine dk_istore (i := 4) (L' := [some (dk_r G p0 0), some (.int a1), some (.int a2), some (.int a3), some (.int r18)]) C dX7_perform_143 (n := 145) rfl (dk_nc_of rfl) (Nat.le_of_ble_eq_true rfl) rfl ?_
      refine dk_goto (t := 192) C dX7_perform_145 (by decide) ?_
      refine dk_sub (L0 := [some (dk_r G p0 0), none, none, none, some (.int r18)]) ⟨rfl, ⟨rfl, trivial⟩⟩ ?_
      exact ww_X7_perform_192 C hr hlk hp0  r18 s17 h
  have h := h.2 c20
  by_cases c23 : a1 = 5
  · have h := h.1 c23
    refine dk_tabIn (off := 144) (t := 148) C dX7_perform_4 (by rw [c23]; decide) (by rw [c23]; decide) (by rw [c23]; decide) (by decide) ?_
    refine dk_aload_n (i := 0) C dX7_perform_148 (n := 149) rfl rfl rfl ?_
    refine dk_iload_n (i := 2) C dX7_perform_149 (n := 150) rfl rfl rfl ?_
    refine dk_callVi C [] (cc_X7_heroDrinks C.D hp0 h) yy_X7_heroDrinks dk_wm_X7_153 dk_sh0 (hp0 0 (by decide)) dX7_perform_150 (fun r22 s21 h => ?_) rfl rfl ⟨Nat.le_of_ble_eq_true rfl, Nat.le_of_ble_eq_true rfl⟩ rfl (Nat.le_of_ble_eq_true rfl) rfl (n := 153) rfl
    refine dk_istore (i := 4) (L' := [some (dk_r G p0 0), some (.int a1), some (.int a2), some (.int a3), some (.int r22)]) C dX7_perform_153 (n := 155) rfl (dk_nc_of rfl) (Nat.le_of_ble_eq_true rfl) rfl ?_
    refine dk_goto (t := 192) C dX7_perform_155 (by decide) ?_
    refine dk_sub (L0 := [some (dk_r G p0 0), none, none, none, some (.int r22)]) ⟨rfl, ⟨rfl, trivial⟩⟩ ?_
    exact ww_X7_perform_192 C hr hlk hp0  r22 s21 h
  have h := h.2 c23
  by_cases c26 : a1 = 6
  · have h := h.1 c26
    refine dk_tabIn (off := 154) (t := 158) C dX7_perform_4 (by rw [c26]; decide) (by rw [c26]; decide) (by rw [c26]; decide) (by decide) ?_
    refine dk_aload_n (i := 0) C dX7_perform_158 (n := 159) rfl rfl rfl ?_
    refine dk_iload_n (i := 2) C dX7_perform_159 (n := 160) rfl rfl rfl ?_
    refine dk_iload_n (i := 3) C dX7_perform_160 (n := 161) rfl rfl rfl ?_
    refine dk_callVi C [] (cc_X7_heroHurls C.D hp0 h) yy_X7_heroHurls dk_wm_X7_156 dk_sh0 (hp0 0 (by decide)) dX7_perform_161 (fun r25 s24 h => ?_) rfl rfl ⟨Nat.le_of_ble_eq_true rfl, Nat.le_of_ble_eq_true rfl⟩ rfl (Nat.le_of_ble_eq_true rfl) rfl (n := 164) rfl
    refine dk_istore (i := 4) (L' := [some (dk_r G p0 0), some (.int a1), some (.int a2), some (.int a3), some (.int r25)]) C dX7_perform_164 (n := 166) rfl (dk_nc_of rfl) (Nat.le_of_ble_eq_true rfl) rfl ?_
    refine dk_goto (t := 192) C dX7_perform_166 (by decide) ?_
    refine dk_sub (L0 := [some (dk_r G p0 0), none, none, none, some (.int r25)]) ⟨rfl, ⟨rfl, trivial⟩⟩ ?_
    exact ww_X7_perform_192 C hr hlk hp0  r25 s24 h
  have h := h.2 c26
  by_cases c31 : a1 = 7
  · have h := h.1 c31
    refine dk_tabIn (off := 165) (t := 169) C dX7_perform_4 (by rw [c31]; decide) (by rw [c31]; decide) (by rw [c31]; decide) (by decide) ?_
    refine dk_aload_n (i := 0) C dX7_perform_169 (n := 170) rfl rfl rfl ?_
    refine dk_aload_n (i := 0) C dX7_perform_170 (n := 171) rfl rfl rfl ?_
    refine dk_callVi C [dk_r G p0 0] (cc_X7_heroSpot C.D hp0 h) yy_X7_heroSpot dk_wm_X7_93 dk_sh0 (hp0 0 (by decide)) dX7_perform_171 (fun r28 s27 h => ?_) rfl rfl ⟨Nat.le_of_ble_eq_true rfl, Nat.le_of_ble_eq_true rfl⟩ rfl (Nat.le_of_ble_eq_true rfl) rfl (n := 174) rfl
    refine dk_iload_n (i := 2) C dX7_perform_174 (n := 175) rfl rfl rfl ?_
    refine dk_callVi C [] (cc_X7_makeNoise C.D hp0 h) yy_X7_makeNoise dk_wm_X7_159 dk_sh0 (hp0 0 (by decide)) dX7_perform_175 (fun r30 s29 h => ?_) rfl rfl ⟨Nat.le_of_ble_eq_true rfl, Nat.le_of_ble_eq_true rfl⟩ rfl (Nat.le_of_ble_eq_true rfl) rfl (n := 178) rfl
    refine dk_istore (i := 4) (L' := [some (dk_r G p0 0), some (.int a1), some (.int a2), some (.int a3), some (.int r30)]) C dX7_perform_178 (n := 180) rfl (dk_nc_of rfl) (Nat.le_of_ble_eq_true rfl) rfl ?_
    refine dk_goto (t := 192) C dX7_perform_180 (by decide) ?_
    refine dk_sub (L0 := [some (dk_r G p0 0), none, none, none, some (.int r30)]) ⟨rfl, ⟨rfl, trivial⟩⟩ ?_
    exact ww_X7_perform_192 C hr hlk hp0  r30 s29 h
  have h := h.2 c31
  by_cases c34 : a1 = 8
  · have h := h.1 c34
    refine dk_tabIn (off := 179) (t := 183) C dX7_perform_4 (by rw [c34]; decide) (by rw [c34]; decide) (by rw [c34]; decide) (by decide) ?_
    refine dk_aload_n (i := 0) C dX7_perform_183 (n := 184) rfl rfl rfl ?_
    refine dk_callVi C [] (cc_X7_heroPrays C.D hp0 h) yy_X7_heroPrays dk_wm_X7_162 dk_sh0 (hp0 0 (by decide)) dX7_perform_184 (fun r33 s32 h => ?_) rfl rfl ⟨Nat.le_of_ble_eq_true rfl, Nat.le_of_ble_eq_true rfl⟩ rfl (Nat.le_of_ble_eq_true rfl) rfl (n := 187) rfl
    refine dk_istore (i := 4) (L' := [some (dk_r G p0 0), some (.int a1), some (.int a2), some (.int a3), some (.int r33)]) C dX7_perform_187 (n := 189) rfl (dk_nc_of rfl) (Nat.le_of_ble_eq_true rfl) rfl ?_
    refine dk_goto (t := 192) C dX7_perform_189 (by decide) ?_
    refine dk_sub (L0 := [some (dk_r G p0 0), none, none, none, some (.int r33)]) ⟨rfl, ⟨rfl, trivial⟩⟩ ?_
    exact ww_X7_perform_192 C hr hlk hp0  r33 s32 h
  have h := h.2 c34
  refine dk_tabOut (t := 192) C dX7_perform_4 (by have q0 := lv_neT c3 (show (0 : Int32).toInt = 0 from rfl); have q1 := lv_neT c4 (show (1 : Int32).toInt = 1 from rfl); have q2 := lv_neT c8 (show (2 : Int32).toInt = 2 from rfl); have q3 := lv_neT c14 (show (3 : Int32).toInt = 3 from rfl); have q4 := lv_neT c20 (show (4 : Int32).toInt = 4 from rfl); have q5 := lv_neT c23 (show (5 : Int32).toInt = 5 from rfl); have q6 := lv_neT c26 (show (6 : Int32).toInt = 6 from rfl); have q7 := lv_neT c31 (show (7 : Int32).toInt = 7 from rfl); have q8 := lv_neT c34 (show (8 : Int32).toInt = 8 from rfl); omega) (by decide) ?_
  refine dk_sub (L0 := [some (dk_r G p0 0), none, none, none, some (.int 0)]) ⟨rfl, ⟨rfl, trivial⟩⟩ ?_
  exact ww_X7_perform_192 C hr hlk hp0  0 s h
/-! X7_layHands -/
set_option maxRecDepth 20000 in
set_option maxHeartbeats 4000000 in
theorem cc_X7_layHands {G : dk_G} {l : Launch} {p0 : Nat} (hD : dk_D G) (hp0 : dk_WI G p0) {s : dk_S} {K : dk_S → Prop} (h : wf_X7_layHands p0 s K) : dk_M G l 3 yX7_layHands cX7_layHands 1 none [dk_r G p0 0] s (dk_kv K) := by
  refine dk_of hD (by decide) [some (dk_r G p0 0)] (fun q hq => hq) rfl (Nat.le_of_ble_eq_true rfl) (fun P e S0 m args bel meth c C hr hlk => ?_)
  unfold wf_X7_layHands at h
  refine dk_aload_n (i := 0) C dX7_layHands_0 (n := 1) rfl rfl rfl ?_
  refine gf_X7_35 C (hp0 0 (by decide)) dX7_layHands_1 (n := 4) rfl ?_
  refine dk_iconst (v := (-1)) C dX7_layHands_4 (n := 5) rfl (by decide) ?_
  refine dk_aload_n (i := 0) C dX7_layHands_5 (n := 6) rfl rfl rfl ?_
  refine dk_callVi C [.int (-1), dk_r G p0 23] (cc_X7_heroSpot C.D hp0 h) yy_X7_heroSpot dk_wm_X7_93 dk_sh0 (hp0 0 (by decide)) dX7_layHands_6 (fun r2 s1 h => ?_) rfl rfl ⟨Nat.le_of_ble_eq_true rfl, Nat.le_of_ble_eq_true rfl⟩ rfl (Nat.le_of_ble_eq_true rfl) rfl (n := 9) rfl
  refine dk_callVv C [] (cc_X6_moveAll C.D hp0 h) yy_X6_moveAll dk_wm_X7_251 dk_sh23 (hp0 23 (by decide)) dX7_layHands_9 (fun s3 h => ?_) rfl rfl ⟨Nat.le_of_ble_eq_true rfl, Nat.le_of_ble_eq_true rfl⟩ rfl (Nat.le_of_ble_eq_true rfl) rfl (n := 12) rfl
  exact dk_vret C hr hlk dX7_layHands_12 ⟨rfl, h⟩
/-! X7_isOpenTo -/
set_option maxRecDepth 20000 in
set_option maxHeartbeats 4000000 in
theorem cc_X7_isOpenTo {G : dk_G} {l : Launch} {p0 : Nat} {a1 : Int32} (hD : dk_D G) (hp0 : dk_WI G p0) {s : dk_S} {K : Int32 → dk_S → Prop} (h : wf_X7_isOpenTo p0 a1 s K) : dk_M G l 3 yX7_isOpenTo cX7_isOpenTo 2 (some .boolean) [dk_r G p0 0, .int a1] s (dk_ki K) := by
  refine dk_of hD (by decide) [some (dk_r G p0 0), some (.int a1)] (fun q hq => hq) rfl (Nat.le_of_ble_eq_true rfl) (fun P e S0 m args bel meth c C hr hlk => ?_)
  unfold wf_X7_isOpenTo at h
  refine dk_aload_n (i := 0) C dX7_isOpenTo_0 (n := 1) rfl rfl rfl ?_
  refine gf_X7_12 C (hp0 0 (by decide)) dX7_isOpenTo_1 (n := 4) rfl ?_
  refine dk_iload_n (i := 1) C dX7_isOpenTo_4 (n := 5) rfl rfl rfl ?_
  refine dk_callVi C [] (cc_X1_signAt C.D hp0 h) yy_X1_signAt dk_wm_X7_176 dk_sh1 (hp0 1 (by decide)) dX7_isOpenTo_5 (fun r2 s1 h => ?_) rfl rfl ⟨Nat.le_of_ble_eq_true rfl, Nat.le_of_ble_eq_true rfl⟩ rfl (Nat.le_of_ble_eq_true rfl) rfl (n := 8) rfl
  refine dk_callNi C [] (cc_X8_isFree C.D  h) yy_X8_isFree dk_wm_X7_194 dX7_isOpenTo_8 (fun r4 s3 h => ?_) rfl ⟨Nat.le_of_ble_eq_true rfl, Nat.le_of_ble_eq_true rfl⟩ rfl (Nat.le_of_ble_eq_true rfl) rfl (n := 11) rfl
  refine dk_if_eq (t := 30) C dX7_isOpenTo_11 (n := 14) rfl (by decide) (fun c8 => ?_) (fun c8 => ?_)
  · have h := h.1 c8
    refine dk_iconst (v := 0) C dX7_isOpenTo_30 (n := 31) rfl (by decide) ?_
    exact dk_iret C hr hlk dk_nz0 dX7_isOpenTo_31 ⟨_, rfl, h⟩
  · have h := h.2 c8
    refine dk_aload_n (i := 0) C dX7_isOpenTo_14 (n := 15) rfl rfl rfl ?_
    refine gf_X7_28 C (hp0 0 (by decide)) dX7_isOpenTo_15 (n := 18) rfl ?_
    refine dk_iload_n (i := 1) C dX7_isOpenTo_18 (n := 19) rfl rfl rfl ?_
    refine dk_callVi C [] (cc_X2_livingAt C.D hp0 h) yy_X2_livingAt dk_wm_X7_173 dk_sh13 (hp0 13 (by decide)) dX7_isOpenTo_19 (fun r6 s5 h => ?_) rfl rfl ⟨Nat.le_of_ble_eq_true rfl, Nat.le_of_ble_eq_true rfl⟩ rfl (Nat.le_of_ble_eq_true rfl) rfl (n := 22) rfl
    refine dk_iconst (v := (-1)) C dX7_isOpenTo_22 (n := 23) rfl (by decide) ?_
    refine dk_icmp_ne (t := 30) C dX7_isOpenTo_23 (n := 26) rfl (by decide) (fun c7 => ?_) (fun c7 => ?_)
    · have h := h.1 c7
      refine dk_iconst (v := 0) C dX7_isOpenTo_30 (n := 31) rfl (by decide) ?_
      exact dk_iret C hr hlk dk_nz0 dX7_isOpenTo_31 ⟨_, rfl, h⟩
    · have h := h.2 c7
      refine dk_iconst (v := 1) C dX7_isOpenTo_26 (n := 27) rfl (by decide) ?_
      refine dk_goto (t := 31) C dX7_isOpenTo_27 (by decide) ?_
      exact dk_iret C hr hlk dk_nz1 dX7_isOpenTo_31 ⟨_, rfl, h⟩
/-! X7_flee -/
set_option maxRecDepth 20000 in
set_option maxHeartbeats 4000000 in
theorem ww_X7_flee_17 {G : dk_G} {P : Program} {l : Launch} {e : Env} {S0 : State} {m : MethodId} {args : Array Value} {bel : List Frame} {meth : Method} {c : Code} {p0 : Nat} (C : dk_C G P (dk_rm 4) S0 m args c 0 0 cX7_flee 6 RX7) (hr : meth.sig.returnType = none) (hlk : meth.locks = false) (hp0 : dk_WI G p0) {K : dk_S → Prop} {E75 : Int32 → Int32 → dk_S → Prop} (hE75 : ∀ (x1 : Int32) (x3 : Int32) (s : dk_S), E75 x1 x3 s → dk_W G P l e (dk_rm 4) S0 m args bel meth c 0 0 (MQ bel (dk_Qc G (dk_kv K)) args S0 0 0 (dk_A G)) 75 [some (dk_r G p0 0), some (.int x1), none, some (.int x3), none, none] [] s) : ∀ (n : Nat) (x1 : Int32) (x2 : Int32) (x3 : Int32) (x4 : Int32) (s : dk_S), wf_X7_flee_17 p0 K E75 n x1 x2 x3 x4 s → dk_W G P l e (dk_rm 4) S0 m args bel meth c 0 0 (MQ bel (dk_Qc G (dk_kv K)) args S0 0 0 (dk_A G)) 17 [some (dk_r G p0 0), some (.int x1), some (.int x2), some (.int x3), some (.int x4), none] [] s := by
  intro n
  induction n with
  | zero => intro x1 x2 x3 x4 s h; exact False.elim h
  | succ n hB =>
    intro x1 x2 x3 x4 s h
    unfold wf_X7_flee_17 at h
    refine dk_iload C dX7_flee_17 (n := 19) rfl (i := 4) rfl ?_
    refine dk_iconst (v := 4) C dX7_flee_19 (n := 20) rfl (by decide) ?_
    refine dk_icmp_ge (t := 75) C dX7_flee_20 (n := 23) rfl (by decide) (fun c21 => ?_) (fun c21 => ?_)
    · have h := h.1 c21
      refine dk_sub (L0 := [some (dk_r G p0 0), some (.int x1), none, some (.int x3), none, none]) ⟨rfl, ⟨rfl, ⟨rfl, trivial⟩⟩⟩ ?_
      exact hE75 x1 x3 s h
    · have h := h.2 c21
      refine dk_iload_n (i := 2) C dX7_flee_23 (n := 24) rfl rfl rfl ?_
      refine dk_iload C dX7_flee_24 (n := 26) rfl (i := 4) rfl ?_
      refine dk_callNi C [] (cc_X8_beside C.D  h) yy_X8_beside dk_wm_X7_170 dX7_flee_26 (fun r9 s8 h => ?_) rfl ⟨Nat.le_of_ble_eq_true rfl, Nat.le_of_ble_eq_true rfl⟩ rfl (Nat.le_of_ble_eq_true rfl) rfl (n := 29) rfl
      refine dk_istore (i := 5) (L' := [some (dk_r G p0 0), some (.int x1), some (.int x2), some (.int x3), some (.int x4), some (.int r9)]) C dX7_flee_29 (n := 31) rfl (dk_nc_of rfl) (Nat.le_of_ble_eq_true rfl) rfl ?_
      refine dk_aload_n (i := 0) C dX7_flee_31 (n := 32) rfl rfl rfl ?_
      refine dk_iload C dX7_flee_32 (n := 34) rfl (i := 5) rfl ?_
      refine dk_callVi C [] (cc_X7_isOpenTo C.D hp0 h) yy_X7_isOpenTo dk_wm_X7_287 dk_sh0 (hp0 0 (by decide)) dX7_flee_34 (fun r11 s10 h => ?_) rfl rfl ⟨Nat.le_of_ble_eq_true rfl, Nat.le_of_ble_eq_true rfl⟩ rfl (Nat.le_of_ble_eq_true rfl) rfl (n := 37) rfl
      refine dk_if_eq (t := 69) C dX7_flee_37 (n := 40) rfl (by decide) (fun c20 => ?_) (fun c20 => ?_)
      · have h := h.1 c20
        obtain ⟨v12, ev12⟩ : ∃ y : Int32, y = x4 + 1 := ⟨_, rfl⟩
        have h := h v12 ev12
        refine dk_iinc (i := 4) (v := v12) (L' := [some (dk_r G p0 0), some (.int x1), some (.int x2), some (.int x3), some (.int v12), some (.int r9)]) C dX7_flee_69 (n := 72) rfl rfl (by rw [ev12]; rfl) (dk_nc_of rfl) (Nat.le_of_ble_eq_true rfl) rfl ?_
        refine dk_goto (t := 17) C dX7_flee_72 (by decide) ?_
        refine dk_sub (L0 := [some (dk_r G p0 0), some (.int x1), some (.int x2), some (.int x3), some (.int v12), none]) ⟨rfl, ⟨rfl, ⟨rfl, ⟨rfl, ⟨rfl, trivial⟩⟩⟩⟩⟩ ?_
        exact hB x1 x2 x3 v12 s10 h
      · have h := h.2 c20
        refine dk_aload_n (i := 0) C dX7_flee_40 (n := 41) rfl rfl rfl ?_
        refine gf_X7_12 C (hp0 0 (by decide)) dX7_flee_41 (n := 44) rfl ?_
        refine gf_X7_290 C (hp0 1 (by decide)) dX7_flee_44 (n := 47) rfl ?_
        refine dk_iload C dX7_flee_47 (n := 49) rfl (i := 5) rfl ?_
        refine dk_callNi C [] (cc_X8_at C.D dk_sh6 (hp0 6 (by decide)) h) yy_X8_at dk_wm_X7_82 dX7_flee_49 (fun r14 s13 h => ?_) rfl ⟨Nat.le_of_ble_eq_true rfl, Nat.le_of_ble_eq_true rfl⟩ rfl (Nat.le_of_ble_eq_true rfl) rfl (n := 52) rfl
        refine dk_aload_n (i := 0) C dX7_flee_52 (n := 53) rfl rfl rfl ?_
        refine gf_X7_12 C (hp0 0 (by decide)) dX7_flee_53 (n := 56) rfl ?_
        refine gf_X7_290 C (hp0 1 (by decide)) dX7_flee_56 (n := 59) rfl ?_
        refine dk_iload_n (i := 3) C dX7_flee_59 (n := 60) rfl rfl rfl ?_
        refine dk_callNi C [.int r14] (cc_X8_at C.D dk_sh6 (hp0 6 (by decide)) h) yy_X8_at dk_wm_X7_82 dX7_flee_60 (fun r16 s15 h => ?_) rfl ⟨Nat.le_of_ble_eq_true rfl, Nat.le_of_ble_eq_true rfl⟩ rfl (Nat.le_of_ble_eq_true rfl) rfl (n := 63) rfl
        refine dk_icmp_le (t := 69) C dX7_flee_63 (n := 66) rfl (by decide) (fun c19 => ?_) (fun c19 => ?_)
        · have h := h.1 c19
          obtain ⟨v17, ev17⟩ : ∃ y : Int32, y = x4 + 1 := ⟨_, rfl⟩
          have h := h v17 ev17
          refine dk_iinc (i := 4) (v := v17) (L' := [some (dk_r G p0 0), some (.int x1), some (.int x2), some (.int x3), some (.int v17), some (.int r9)]) C dX7_flee_69 (n := 72) rfl rfl (by rw [ev17]; rfl) (dk_nc_of rfl) (Nat.le_of_ble_eq_true rfl) rfl ?_
          refine dk_goto (t := 17) C dX7_flee_72 (by decide) ?_
          refine dk_sub (L0 := [some (dk_r G p0 0), some (.int x1), some (.int x2), some (.int x3), some (.int v17), none]) ⟨rfl, ⟨rfl, ⟨rfl, ⟨rfl, ⟨rfl, trivial⟩⟩⟩⟩⟩ ?_
          exact hB x1 x2 x3 v17 s15 h
        · have h := h.2 c19
          refine dk_iload C dX7_flee_66 (n := 68) rfl (i := 5) rfl ?_
          refine dk_istore_n (i := 3) (L' := [some (dk_r G p0 0), some (.int x1), some (.int x2), some (.int r9), some (.int x4), some (.int r9)]) C dX7_flee_68 (n := 69) rfl rfl (dk_nc_of rfl) (Nat.le_of_ble_eq_true rfl) rfl ?_
          obtain ⟨v18, ev18⟩ : ∃ y : Int32, y = x4 + 1 := ⟨_, rfl⟩
          have h := h v18 ev18
          refine dk_iinc (i := 4) (v := v18) (L' := [some (dk_r G p0 0), some (.int x1), some (.int x2), some (.int r9), some (.int v18), some (.int r9)]) C dX7_flee_69 (n := 72) rfl rfl (by rw [ev18]; rfl) (dk_nc_of rfl) (Nat.le_of_ble_eq_true rfl) rfl ?_
          refine dk_goto (t := 17) C dX7_flee_72 (by decide) ?_
          refine dk_sub (L0 := [some (dk_r G p0 0), some (.int x1), some (.int x2), some (.int r9), some (.int v18), none]) ⟨rfl, ⟨rfl, ⟨rfl, ⟨rfl, ⟨rfl, trivial⟩⟩⟩⟩⟩ ?_
          exact hB x1 x2 r9 v18 s15 h
set_option maxRecDepth 20000 in
set_option maxHeartbeats 4000000 in
theorem cc_X7_flee {G : dk_G} {l : Launch} {p0 : Nat} {a1 : Int32} (hD : dk_D G) (hp0 : dk_WI G p0) {s : dk_S} {K : dk_S → Prop} (h : wf_X7_flee p0 a1 s K) : dk_M G l 4 yX7_flee cX7_flee 6 none [dk_r G p0 0, .int a1] s (dk_kv K) := by
  refine dk_of hD (by decide) [some (dk_r G p0 0), some (.int a1), none, none, none, none] (fun q hq => hq) rfl (Nat.le_of_ble_eq_true rfl) (fun P e S0 m args bel meth c C hr hlk => ?_)
  unfold wf_X7_flee at h
  refine dk_aload_n (i := 0) C dX7_flee_0 (n := 1) rfl rfl rfl ?_
  refine gf_X7_28 C (hp0 0 (by decide)) dX7_flee_1 (n := 4) rfl ?_
  refine gf_X7_78 C (hp0 13 (by decide)) dX7_flee_4 (n := 7) rfl ?_
  refine dk_iload_n (i := 1) C dX7_flee_7 (n := 8) rfl rfl rfl ?_
  refine dk_callNi C [] (cc_X8_at C.D dk_sh14 (hp0 14 (by decide)) h) yy_X8_at dk_wm_X7_82 dX7_flee_8 (fun r2 s1 h => ?_) rfl ⟨Nat.le_of_ble_eq_true rfl, Nat.le_of_ble_eq_true rfl⟩ rfl (Nat.le_of_ble_eq_true rfl) rfl (n := 11) rfl
  refine dk_istore_n (i := 2) (L' := [some (dk_r G p0 0), some (.int a1), some (.int r2), none, none, none]) C dX7_flee_11 (n := 12) rfl rfl (dk_nc_of rfl) (Nat.le_of_ble_eq_true rfl) rfl ?_
  refine dk_iload_n (i := 2) C dX7_flee_12 (n := 13) rfl rfl rfl ?_
  refine dk_istore_n (i := 3) (L' := [some (dk_r G p0 0), some (.int a1), some (.int r2), some (.int r2), none, none]) C dX7_flee_13 (n := 14) rfl rfl (dk_nc_of rfl) (Nat.le_of_ble_eq_true rfl) rfl ?_
  refine dk_iconst (v := 0) C dX7_flee_14 (n := 15) rfl (by decide) ?_
  refine dk_istore (i := 4) (L' := [some (dk_r G p0 0), some (.int a1), some (.int r2), some (.int r2), some (.int 0), none]) C dX7_flee_15 (n := 17) rfl (dk_nc_of rfl) (Nat.le_of_ble_eq_true rfl) rfl ?_
  obtain ⟨nn7, h⟩ := h
  refine dk_sub (L0 := [some (dk_r G p0 0), some (.int a1), some (.int r2), some (.int r2), some (.int 0), none]) ⟨rfl, ⟨rfl, ⟨rfl, ⟨rfl, ⟨rfl, trivial⟩⟩⟩⟩⟩ ?_
  refine ww_X7_flee_17 C hr hlk hp0 (fun w3 w4 s5 h => ?_) nn7 a1 r2 r2 0 s1 h
  · refine dk_aload_n (i := 0) C dX7_flee_75 (n := 76) rfl rfl rfl ?_
    refine gf_X7_28 C (hp0 0 (by decide)) dX7_flee_76 (n := 79) rfl ?_
    refine gf_X7_78 C (hp0 13 (by decide)) dX7_flee_79 (n := 82) rfl ?_
    refine dk_iload_n (i := 1) C dX7_flee_82 (n := 83) rfl rfl rfl ?_
    refine dk_iload_n (i := 3) C dX7_flee_83 (n := 84) rfl rfl rfl ?_
    refine dk_callNv C [] (cc_X8_put C.D dk_sh14 (hp0 14 (by decide)) h) yy_X8_put dk_wm_X7_142 dX7_flee_84 (fun s6 h => ?_) rfl ⟨Nat.le_of_ble_eq_true rfl, Nat.le_of_ble_eq_true rfl⟩ rfl (Nat.le_of_ble_eq_true rfl) rfl (n := 87) rfl
    exact dk_vret C hr hlk dX7_flee_87 ⟨rfl, h⟩
/-! X8_areNeighbours -/
set_option maxRecDepth 20000 in
set_option maxHeartbeats 4000000 in
theorem cc_X8_areNeighbours {G : dk_G} {l : Launch} {a0 : Int32} {a1 : Int32} (hD : dk_D G)  {s : dk_S} {K : Int32 → dk_S → Prop} (h : wf_X8_areNeighbours a0 a1 s K) : dk_M G l 1 yX8_areNeighbours cX8_areNeighbours 4 (some .boolean) [.int a0, .int a1] s (dk_ki K) := by
  refine dk_of hD (by decide) [some (.int a0), some (.int a1), none, none] (fun q hq => hq) rfl (Nat.le_of_ble_eq_true rfl) (fun P e S0 m args bel meth c C hr hlk => ?_)
  unfold wf_X8_areNeighbours at h
  refine dk_iload_n (i := 0) C dX8_areNeighbours_0 (n := 1) rfl rfl rfl ?_
  refine dk_bipush (v := 12) C dX8_areNeighbours_1 (n := 3) rfl (by decide) ?_
  refine dk_idiv C dX8_areNeighbours_3 (n := 4) rfl (by decide) ?_
  refine dk_iload_n (i := 1) C dX8_areNeighbours_4 (n := 5) rfl rfl rfl ?_
  refine dk_bipush (v := 12) C dX8_areNeighbours_5 (n := 7) rfl (by decide) ?_
  refine dk_idiv C dX8_areNeighbours_7 (n := 8) rfl (by decide) ?_
  refine dk_isub C dX8_areNeighbours_8 (n := 9) rfl ?_
  refine dk_name (fun v1 ev1 => ?_)
  have h := h v1 ev1
  refine dk_istore_n (i := 2) (L' := [some (.int a0), some (.int a1), some (.int v1), none]) C dX8_areNeighbours_9 (n := 10) rfl rfl (dk_nc_of rfl) (Nat.le_of_ble_eq_true rfl) rfl ?_
  refine dk_iload_n (i := 0) C dX8_areNeighbours_10 (n := 11) rfl rfl rfl ?_
  refine dk_bipush (v := 12) C dX8_areNeighbours_11 (n := 13) rfl (by decide) ?_
  refine dk_irem C dX8_areNeighbours_13 (n := 14) rfl (by decide) ?_
  refine dk_iload_n (i := 1) C dX8_areNeighbours_14 (n := 15) rfl rfl rfl ?_
  refine dk_bipush (v := 12) C dX8_areNeighbours_15 (n := 17) rfl (by decide) ?_
  refine dk_irem C dX8_areNeighbours_17 (n := 18) rfl (by decide) ?_
  refine dk_isub C dX8_areNeighbours_18 (n := 19) rfl ?_
  refine dk_name (fun v2 ev2 => ?_)
  have h := h v2 ev2
  refine dk_istore_n (i := 3) (L' := [some (.int a0), some (.int a1), some (.int v1), some (.int v2)]) C dX8_areNeighbours_19 (n := 20) rfl rfl (dk_nc_of rfl) (Nat.le_of_ble_eq_true rfl) rfl ?_
  refine dk_iload_n (i := 2) C dX8_areNeighbours_20 (n := 21) rfl rfl rfl ?_
  refine dk_iload_n (i := 2) C dX8_areNeighbours_21 (n := 22) rfl rfl rfl ?_
  refine dk_imul C dX8_areNeighbours_22 (n := 23) rfl ?_
  refine dk_iload_n (i := 3) C dX8_areNeighbours_23 (n := 24) rfl rfl rfl ?_
  refine dk_iload_n (i := 3) C dX8_areNeighbours_24 (n := 25) rfl rfl rfl ?_
  refine dk_imul C dX8_areNeighbours_25 (n := 26) rfl ?_
  refine dk_iadd C dX8_areNeighbours_26 (n := 27) rfl ?_
  refine dk_iconst (v := 1) C dX8_areNeighbours_27 (n := 28) rfl (by decide) ?_
  refine dk_icmp_ne (t := 35) C dX8_areNeighbours_28 (n := 31) rfl (by decide) (fun c3 => ?_) (fun c3 => ?_)
  · have h := h.1 c3
    refine dk_iconst (v := 0) C dX8_areNeighbours_35 (n := 36) rfl (by decide) ?_
    exact dk_iret C hr hlk dk_nz0 dX8_areNeighbours_36 ⟨_, rfl, h⟩
  · have h := h.2 c3
    refine dk_iconst (v := 1) C dX8_areNeighbours_31 (n := 32) rfl (by decide) ?_
    refine dk_goto (t := 36) C dX8_areNeighbours_32 (by decide) ?_
    exact dk_iret C hr hlk dk_nz1 dX8_areNeighbours_36 ⟨_, rfl, h⟩
/-! X7_comeNearer -/
set_option maxRecDepth 20000 in
set_option maxHeartbeats 4000000 in
theorem ww_X7_comeNearer_104 {G : dk_G} {P : Program} {l : Launch} {e : Env} {S0 : State} {m : MethodId} {args : Array Value} {bel : List Frame} {meth : Method} {c : Code} {p0 : Nat} (C : dk_C G P (dk_rm 4) S0 m args c 0 0 cX7_comeNearer 8 RX7) (hr : meth.sig.returnType = none) (hlk : meth.locks = false) (hp0 : dk_WI G p0) {K : dk_S → Prop} {B : Int32 → Int32 → Int32 → Int32 → dk_S → Prop} {E110 : Int32 → Int32 → dk_S → Prop} (hB : ∀ (x1 : Int32) (x2 : Int32) (x3 : Int32) (x4 : Int32) (s : dk_S), B x1 x2 x3 x4 s → dk_W G P l e (dk_rm 4) S0 m args bel meth c 0 0 (MQ bel (dk_Qc G (dk_kv K)) args S0 0 0 (dk_A G)) 17 [some (dk_r G p0 0), some (.int x1), some (.int x2), some (.int x3), some (.int x4), none, none, none] [] s) (hE110 : ∀ (x1 : Int32) (x3 : Int32) (s : dk_S), E110 x1 x3 s → dk_W G P l e (dk_rm 4) S0 m args bel meth c 0 0 (MQ bel (dk_Qc G (dk_kv K)) args S0 0 0 (dk_A G)) 110 [some (dk_r G p0 0), some (.int x1), none, some (.int x3), none, none, none, none] [] s) : ∀ (x1 : Int32) (x2 : Int32) (x3 : Int32) (x4 : Int32) (s : dk_S), wf_X7_comeNearer_104 p0 K B E110 x1 x2 x3 x4 s → dk_W G P l e (dk_rm 4) S0 m args bel meth c 0 0 (MQ bel (dk_Qc G (dk_kv K)) args S0 0 0 (dk_A G)) 104 [some (dk_r G p0 0), some (.int x1), some (.int x2), some (.int x3), some (.int x4), none, none, none] [] s := by
  intro x1 x2 x3 x4 s h
  unfold wf_X7_comeNearer_104 at h
  obtain ⟨v28, ev28⟩ : ∃ y : Int32, y = x4 + 1 := ⟨_, rfl⟩
  have h := h v28 ev28
  refine dk_iinc (i := 4) (v := v28) (L' := [some (dk_r G p0 0), some (.int x1), some (.int x2), some (.int x3), some (.int v28), none, none, none]) C dX7_comeNearer_104 (n := 107) rfl rfl (by rw [ev28]; rfl) (dk_nc_of rfl) (Nat.le_of_ble_eq_true rfl) rfl ?_
  refine dk_goto (t := 17) C dX7_comeNearer_107 (by decide) ?_
  refine dk_sub (L0 := [some (dk_r G p0 0), some (.int x1), some (.int x2), some (.int x3), some (.int v28), none, none, none]) ⟨rfl, ⟨rfl, ⟨rfl, ⟨rfl, ⟨rfl, trivial⟩⟩⟩⟩⟩ ?_
  exact hB x1 x2 x3 v28 s h
set_option maxRecDepth 20000 in
set_option maxHeartbeats 4000000 in
theorem ww_X7_comeNearer_59 {G : dk_G} {P : Program} {l : Launch} {e : Env} {S0 : State} {m : MethodId} {args : Array Value} {bel : List Frame} {meth : Method} {c : Code} {p0 : Nat} (C : dk_C G P (dk_rm 4) S0 m args c 0 0 cX7_comeNearer 8 RX7) (hr : meth.sig.returnType = none) (hlk : meth.locks = false) (hp0 : dk_WI G p0) {K : dk_S → Prop} {B : Int32 → Int32 → Int32 → Int32 → dk_S → Prop} {E110 : Int32 → Int32 → dk_S → Prop} (hB : ∀ (x1 : Int32) (x2 : Int32) (x3 : Int32) (x4 : Int32) (s : dk_S), B x1 x2 x3 x4 s → dk_W G P l e (dk_rm 4) S0 m args bel meth c 0 0 (MQ bel (dk_Qc G (dk_kv K)) args S0 0 0 (dk_A G)) 17 [some (dk_r G p0 0), some (.int x1), some (.int x2), some (.int x3), some (.int x4), none, none, none] [] s) (hE110 : ∀ (x1 : Int32) (x3 : Int32) (s : dk_S), E110 x1 x3 s → dk_W G P l e (dk_rm 4) S0 m args bel meth c 0 0 (MQ bel (dk_Qc G (dk_kv K)) args S0 0 0 (dk_A G)) 110 [some (dk_r G p0 0), some (.int x1), none, some (.int x3), none, none, none, none] [] s) : ∀ (x1 : Int32) (x2 : Int32) (x3 : Int32) (x4 : Int32) (x5 : Int32) (y0 : Int32) (s : dk_S), wf_X7_comeNearer_59 p0 K B E110 x1 x2 x3 x4 x5 y0 s → dk_W G P l e (dk_rm 4) S0 m args bel meth c 0 0 (MQ bel (dk_Qc G (dk_kv K)) args S0 0 0 (dk_A G)) 59 [some (dk_r G p0 0), some (.int x1), some (.int x2), some (.int x3), some (.int x4), some (.int x5), none, none] [.int y0] s := by
  intro x1 x2 x3 x4 x5 y0 s h
  unfold wf_X7_comeNearer_59 at h
  refine dk_istore (i := 6) (L' := [some (dk_r G p0 0), some (.int x1), some (.int x2), some (.int x3), some (.int x4), some (.int x5), some (.int y0), none]) C dX7_comeNearer_59 (n := 61) rfl (dk_nc_of rfl) (Nat.le_of_ble_eq_true rfl) rfl ?_
  refine dk_aload_n (i := 0) C dX7_comeNearer_61 (n := 62) rfl rfl rfl ?_
  refine gf_X7_12 C (hp0 0 (by decide)) dX7_comeNearer_62 (n := 65) rfl ?_
  refine gf_X7_290 C (hp0 1 (by decide)) dX7_comeNearer_65 (n := 68) rfl ?_
  refine dk_iload C dX7_comeNearer_68 (n := 70) rfl (i := 5) rfl ?_
  refine dk_callNi C [] (cc_X8_at C.D dk_sh6 (hp0 6 (by decide)) h) yy_X8_at dk_wm_X7_82 dX7_comeNearer_70 (fun r22 s21 h => ?_) rfl ⟨Nat.le_of_ble_eq_true rfl, Nat.le_of_ble_eq_true rfl⟩ rfl (Nat.le_of_ble_eq_true rfl) rfl (n := 73) rfl
  refine dk_istore (i := 7) (L' := [some (dk_r G p0 0), some (.int x1), some (.int x2), some (.int x3), some (.int x4), some (.int x5), some (.int y0), some (.int r22)]) C dX7_comeNearer_73 (n := 75) rfl (dk_nc_of rfl) (Nat.le_of_ble_eq_true rfl) rfl ?_
  refine dk_iload C dX7_comeNearer_75 (n := 77) rfl (i := 6) rfl ?_
  refine dk_if_eq (t := 104) C dX7_comeNearer_77 (n := 80) rfl (by decide) (fun c27 => ?_) (fun c27 => ?_)
  · have h := h.1 c27
    refine dk_sub (L0 := [some (dk_r G p0 0), some (.int x1), some (.int x2), some (.int x3), some (.int x4), none, none, none]) ⟨rfl, ⟨rfl, ⟨rfl, ⟨rfl, ⟨rfl, trivial⟩⟩⟩⟩⟩ ?_
    exact ww_X7_comeNearer_104 C hr hlk hp0 hB hE110 x1 x2 x3 x4 s21 h
  · have h := h.2 c27
    refine dk_iload C dX7_comeNearer_80 (n := 82) rfl (i := 7) rfl ?_
    refine dk_if_lt (t := 104) C dX7_comeNearer_82 (n := 85) rfl (by decide) (fun c26 => ?_) (fun c26 => ?_)
    · have h := h.1 c26
      refine dk_sub (L0 := [some (dk_r G p0 0), some (.int x1), some (.int x2), some (.int x3), some (.int x4), none, none, none]) ⟨rfl, ⟨rfl, ⟨rfl, ⟨rfl, ⟨rfl, trivial⟩⟩⟩⟩⟩ ?_
      exact ww_X7_comeNearer_104 C hr hlk hp0 hB hE110 x1 x2 x3 x4 s21 h
    · have h := h.2 c26
      refine dk_iload C dX7_comeNearer_85 (n := 87) rfl (i := 7) rfl ?_
      refine dk_aload_n (i := 0) C dX7_comeNearer_87 (n := 88) rfl rfl rfl ?_
      refine gf_X7_12 C (hp0 0 (by decide)) dX7_comeNearer_88 (n := 91) rfl ?_
      refine gf_X7_290 C (hp0 1 (by decide)) dX7_comeNearer_91 (n := 94) rfl ?_
      refine dk_iload_n (i := 3) C dX7_comeNearer_94 (n := 95) rfl rfl rfl ?_
      refine dk_callNi C [.int r22] (cc_X8_at C.D dk_sh6 (hp0 6 (by decide)) h) yy_X8_at dk_wm_X7_82 dX7_comeNearer_95 (fun r24 s23 h => ?_) rfl ⟨Nat.le_of_ble_eq_true rfl, Nat.le_of_ble_eq_true rfl⟩ rfl (Nat.le_of_ble_eq_true rfl) rfl (n := 98) rfl
      refine dk_icmp_ge (t := 104) C dX7_comeNearer_98 (n := 101) rfl (by decide) (fun c25 => ?_) (fun c25 => ?_)
      · have h := h.1 c25
        refine dk_sub (L0 := [some (dk_r G p0 0), some (.int x1), some (.int x2), some (.int x3), some (.int x4), none, none, none]) ⟨rfl, ⟨rfl, ⟨rfl, ⟨rfl, ⟨rfl, trivial⟩⟩⟩⟩⟩ ?_
        exact ww_X7_comeNearer_104 C hr hlk hp0 hB hE110 x1 x2 x3 x4 s23 h
      · have h := h.2 c25
        refine dk_iload C dX7_comeNearer_101 (n := 103) rfl (i := 5) rfl ?_
        refine dk_istore_n (i := 3) (L' := [some (dk_r G p0 0), some (.int x1), some (.int x2), some (.int x5), some (.int x4), some (.int x5), some (.int y0), some (.int r22)]) C dX7_comeNearer_103 (n := 104) rfl rfl (dk_nc_of rfl) (Nat.le_of_ble_eq_true rfl) rfl ?_
        refine dk_sub (L0 := [some (dk_r G p0 0), some (.int x1), some (.int x2), some (.int x5), some (.int x4), none, none, none]) ⟨rfl, ⟨rfl, ⟨rfl, ⟨rfl, ⟨rfl, trivial⟩⟩⟩⟩⟩ ?_
        exact ww_X7_comeNearer_104 C hr hlk hp0 hB hE110 x1 x2 x5 x4 s23 h
set_option maxRecDepth 20000 in
set_option maxHeartbeats 4000000 in
theorem ww_X7_comeNearer_17 {G : dk_G} {P : Program} {l : Launch} {e : Env} {S0 : State} {m : MethodId} {args : Array Value} {bel : List Frame} {meth : Method} {c : Code} {p0 : Nat} (C : dk_C G P (dk_rm 4) S0 m args c 0 0 cX7_comeNearer 8 RX7) (hr : meth.sig.returnType = none) (hlk : meth.locks = false) (hp0 : dk_WI G p0) {K : dk_S → Prop} {E110 : Int32 → Int32 → dk_S → Prop} (hE110 : ∀ (x1 : Int32) (x3 : Int32) (s : dk_S), E110 x1 x3 s → dk_W G P l e (dk_rm 4) S0 m args bel meth c 0 0 (MQ bel (dk_Qc G (dk_kv K)) args S0 0 0 (dk_A G)) 110 [some (dk_r G p0 0), some (.int x1), none, some (.int x3), none, none, none, none] [] s) : ∀ (n : Nat) (x1 : Int32) (x2 : Int32) (x3 : Int32) (x4 : Int32) (s : dk_S), wf_X7_comeNearer_17 p0 K E110 n x1 x2 x3 x4 s → dk_W G P l e (dk_rm 4) S0 m args bel meth c 0 0 (MQ bel (dk_Qc G (dk_kv K)) args S0 0 0 (dk_A G)) 17 [some (dk_r G p0 0), some (.int x1), some (.int x2), some (.int x3), some (.int x4), none, none, none] [] s := by
  intro n
  induction n with
  | zero => intro x1 x2 x3 x4 s h; exact False.elim h
  | succ n hB =>
    intro x1 x2 x3 x4 s h
    unfold wf_X7_comeNearer_17 at h
    refine dk_iload C dX7_comeNearer_17 (n := 19) rfl (i := 4) rfl ?_
    refine dk_iconst (v := 4) C dX7_comeNearer_19 (n := 20) rfl (by decide) ?_
    refine dk_icmp_ge (t := 110) C dX7_comeNearer_20 (n := 23) rfl (by decide) (fun c20 => ?_) (fun c20 => ?_)
    · have h := h.1 c20
      refine dk_sub (L0 := [some (dk_r G p0 0), some (.int x1), none, some (.int x3), none, none, none, none]) ⟨rfl, ⟨rfl, ⟨rfl, trivial⟩⟩⟩ ?_
      exact hE110 x1 x3 s h
    · have h := h.2 c20
      refine dk_iload_n (i := 2) C dX7_comeNearer_23 (n := 24) rfl rfl rfl ?_
      refine dk_iload C dX7_comeNearer_24 (n := 26) rfl (i := 4) rfl ?_
      refine dk_callNi C [] (cc_X8_beside C.D  h) yy_X8_beside dk_wm_X7_170 dX7_comeNearer_26 (fun r13 s12 h => ?_) rfl ⟨Nat.le_of_ble_eq_true rfl, Nat.le_of_ble_eq_true rfl⟩ rfl (Nat.le_of_ble_eq_true rfl) rfl (n := 29) rfl
      refine dk_istore (i := 5) (L' := [some (dk_r G p0 0), some (.int x1), some (.int x2), some (.int x3), some (.int x4), some (.int r13), none, none]) C dX7_comeNearer_29 (n := 31) rfl (dk_nc_of rfl) (Nat.le_of_ble_eq_true rfl) rfl ?_
      refine dk_aload_n (i := 0) C dX7_comeNearer_31 (n := 32) rfl rfl rfl ?_
      refine dk_iload C dX7_comeNearer_32 (n := 34) rfl (i := 5) rfl ?_
      refine dk_callVi C [] (cc_X7_isOpenTo C.D hp0 h) yy_X7_isOpenTo dk_wm_X7_287 dk_sh0 (hp0 0 (by decide)) dX7_comeNearer_34 (fun r15 s14 h => ?_) rfl rfl ⟨Nat.le_of_ble_eq_true rfl, Nat.le_of_ble_eq_true rfl⟩ rfl (Nat.le_of_ble_eq_true rfl) rfl (n := 37) rfl
      refine dk_if_ne (t := 54) C dX7_comeNearer_37 (n := 40) rfl (by decide) (fun c19 => ?_) (fun c19 => ?_)
      · have h := h.1 c19
        refine dk_iconst (v := 1) C dX7_comeNearer_54 (n := 55) rfl (by decide) ?_
        refine dk_goto (t := 59) C dX7_comeNearer_55 (by decide) ?_
        refine dk_sub (L0 := [some (dk_r G p0 0), some (.int x1), some (.int x2), some (.int x3), some (.int x4), some (.int r13), none, none]) ⟨rfl, ⟨rfl, ⟨rfl, ⟨rfl, ⟨rfl, ⟨rfl, trivial⟩⟩⟩⟩⟩⟩ ?_
        exact ww_X7_comeNearer_59 C hr hlk hp0 hB hE110 x1 x2 x3 x4 r13 1 s14 h
      · have h := h.2 c19
        refine dk_aload_n (i := 0) C dX7_comeNearer_40 (n := 41) rfl rfl rfl ?_
        refine gf_X7_12 C (hp0 0 (by decide)) dX7_comeNearer_41 (n := 44) rfl ?_
        refine dk_iload C dX7_comeNearer_44 (n := 46) rfl (i := 5) rfl ?_
        refine dk_callVi C [] (cc_X1_signAt C.D hp0 h) yy_X1_signAt dk_wm_X7_176 dk_sh1 (hp0 1 (by decide)) dX7_comeNearer_46 (fun r17 s16 h => ?_) rfl rfl ⟨Nat.le_of_ble_eq_true rfl, Nat.le_of_ble_eq_true rfl⟩ rfl (Nat.le_of_ble_eq_true rfl) rfl (n := 49) rfl
        refine dk_bipush (v := 43) C dX7_comeNearer_49 (n := 51) rfl (by decide) ?_
        refine dk_icmp_ne (t := 58) C dX7_comeNearer_51 (n := 54) rfl (by decide) (fun c18 => ?_) (fun c18 => ?_)
        · have h := h.1 c18
          refine dk_iconst (v := 0) C dX7_comeNearer_58 (n := 59) rfl (by decide) ?_
          refine dk_sub (L0 := [some (dk_r G p0 0), some (.int x1), some (.int x2), some (.int x3), some (.int x4), some (.int r13), none, none]) ⟨rfl, ⟨rfl, ⟨rfl, ⟨rfl, ⟨rfl, ⟨rfl, trivial⟩⟩⟩⟩⟩⟩ ?_
          exact ww_X7_comeNearer_59 C hr hlk hp0 hB hE110 x1 x2 x3 x4 r13 0 s16 h
        · have h := h.2 c18
          refine dk_iconst (v := 1) C dX7_comeNearer_54 (n := 55) rfl (by decide) ?_
          refine dk_goto (t := 59) C dX7_comeNearer_55 (by decide) ?_
          refine dk_sub (L0 := [some (dk_r G p0 0), some (.int x1), some (.int x2), some (.int x3), some (.int x4), some (.int r13), none, none]) ⟨rfl, ⟨rfl, ⟨rfl, ⟨rfl, ⟨rfl, ⟨rfl, trivial⟩⟩⟩⟩⟩⟩ ?_
          exact ww_X7_comeNearer_59 C hr hlk hp0 hB hE110 x1 x2 x3 x4 r13 1 s16 h
set_option maxRecDepth 20000 in
set_option maxHeartbeats 4000000 in
theorem cc_X7_comeNearer {G : dk_G} {l : Launch} {p0 : Nat} {a1 : Int32} (hD : dk_D G) (hp0 : dk_WI G p0) {s : dk_S} {K : dk_S → Prop} (h : wf_X7_comeNearer p0 a1 s K) : dk_M G l 4 yX7_comeNearer cX7_comeNearer 8 none [dk_r G p0 0, .int a1] s (dk_kv K) := by
  refine dk_of hD (by decide) [some (dk_r G p0 0), some (.int a1), none, none, none, none, none, none] (fun q hq => hq) rfl (Nat.le_of_ble_eq_true rfl) (fun P e S0 m args bel meth c C hr hlk => ?_)
  unfold wf_X7_comeNearer at h
  refine dk_aload_n (i := 0) C dX7_comeNearer_0 (n := 1) rfl rfl rfl ?_
  refine gf_X7_28 C (hp0 0 (by decide)) dX7_comeNearer_1 (n := 4) rfl ?_
  refine gf_X7_78 C (hp0 13 (by decide)) dX7_comeNearer_4 (n := 7) rfl ?_
  refine dk_iload_n (i := 1) C dX7_comeNearer_7 (n := 8) rfl rfl rfl ?_
  refine dk_callNi C [] (cc_X8_at C.D dk_sh14 (hp0 14 (by decide)) h) yy_X8_at dk_wm_X7_82 dX7_comeNearer_8 (fun r2 s1 h => ?_) rfl ⟨Nat.le_of_ble_eq_true rfl, Nat.le_of_ble_eq_true rfl⟩ rfl (Nat.le_of_ble_eq_true rfl) rfl (n := 11) rfl
  refine dk_istore_n (i := 2) (L' := [some (dk_r G p0 0), some (.int a1), some (.int r2), none, none, none, none, none]) C dX7_comeNearer_11 (n := 12) rfl rfl (dk_nc_of rfl) (Nat.le_of_ble_eq_true rfl) rfl ?_
  refine dk_iload_n (i := 2) C dX7_comeNearer_12 (n := 13) rfl rfl rfl ?_
  refine dk_istore_n (i := 3) (L' := [some (dk_r G p0 0), some (.int a1), some (.int r2), some (.int r2), none, none, none, none]) C dX7_comeNearer_13 (n := 14) rfl rfl (dk_nc_of rfl) (Nat.le_of_ble_eq_true rfl) rfl ?_
  refine dk_iconst (v := 0) C dX7_comeNearer_14 (n := 15) rfl (by decide) ?_
  refine dk_istore (i := 4) (L' := [some (dk_r G p0 0), some (.int a1), some (.int r2), some (.int r2), some (.int 0), none, none, none]) C dX7_comeNearer_15 (n := 17) rfl (dk_nc_of rfl) (Nat.le_of_ble_eq_true rfl) rfl ?_
  obtain ⟨nn11, h⟩ := h
  refine dk_sub (L0 := [some (dk_r G p0 0), some (.int a1), some (.int r2), some (.int r2), some (.int 0), none, none, none]) ⟨rfl, ⟨rfl, ⟨rfl, ⟨rfl, ⟨rfl, trivial⟩⟩⟩⟩⟩ ?_
  refine ww_X7_comeNearer_17 C hr hlk hp0 (fun w3 w4 s5 h => ?_) nn11 a1 r2 r2 0 s1 h
  · refine dk_aload_n (i := 0) C dX7_comeNearer_110 (n := 111) rfl rfl rfl ?_
    refine gf_X7_12 C (hp0 0 (by decide)) dX7_comeNearer_111 (n := 114) rfl ?_
    refine dk_iload_n (i := 3) C dX7_comeNearer_114 (n := 115) rfl rfl rfl ?_
    refine dk_callVi C [] (cc_X1_signAt C.D hp0 h) yy_X1_signAt dk_wm_X7_176 dk_sh1 (hp0 1 (by decide)) dX7_comeNearer_115 (fun r7 s6 h => ?_) rfl rfl ⟨Nat.le_of_ble_eq_true rfl, Nat.le_of_ble_eq_true rfl⟩ rfl (Nat.le_of_ble_eq_true rfl) rfl (n := 118) rfl
    refine dk_bipush (v := 43) C dX7_comeNearer_118 (n := 120) rfl (by decide) ?_
    refine dk_icmp_ne (t := 136) C dX7_comeNearer_120 (n := 123) rfl (by decide) (fun c10 => ?_) (fun c10 => ?_)
    · have h := h.1 c10
      refine dk_aload_n (i := 0) C dX7_comeNearer_136 (n := 137) rfl rfl rfl ?_
      refine gf_X7_28 C (hp0 0 (by decide)) dX7_comeNearer_137 (n := 140) rfl ?_
      refine gf_X7_78 C (hp0 13 (by decide)) dX7_comeNearer_140 (n := 143) rfl ?_
      refine dk_iload_n (i := 1) C dX7_comeNearer_143 (n := 144) rfl rfl rfl ?_
      refine dk_iload_n (i := 3) C dX7_comeNearer_144 (n := 145) rfl rfl rfl ?_
      refine dk_callNv C [] (cc_X8_put C.D dk_sh14 (hp0 14 (by decide)) h) yy_X8_put dk_wm_X7_142 dX7_comeNearer_145 (fun s8 h => ?_) rfl ⟨Nat.le_of_ble_eq_true rfl, Nat.le_of_ble_eq_true rfl⟩ rfl (Nat.le_of_ble_eq_true rfl) rfl (n := 148) rfl
      exact dk_vret C hr hlk dX7_comeNearer_148 ⟨rfl, h⟩
    · have h := h.2 c10
      refine dk_aload_n (i := 0) C dX7_comeNearer_123 (n := 124) rfl rfl rfl ?_
      refine gf_X7_12 C (hp0 0 (by decide)) dX7_comeNearer_124 (n := 127) rfl ?_
      refine dk_iload_n (i := 3) C dX7_comeNearer_127 (n := 128) rfl rfl rfl ?_
      refine dk_bipush (v := 47) C dX7_comeNearer_128 (n := 130) rfl (by decide) ?_
      refine dk_callVv C [] (cc_X1_change C.D hp0 h) yy_X1_change dk_wm_X7_190 dk_sh1 (hp0 1 (by decide)) dX7_comeNearer_130 (fun s9 h => ?_) rfl rfl ⟨Nat.le_of_ble_eq_true rfl, Nat.le_of_ble_eq_true rfl⟩ rfl (Nat.le_of_ble_eq_true rfl) rfl (n := 133) rfl
      refine dk_goto (t := 148) C dX7_comeNearer_133 (by decide) ?_
      exact dk_vret C hr hlk dX7_comeNearer_148 ⟨rfl, h⟩
/-! X7_moveBeast -/
set_option maxRecDepth 20000 in
set_option maxHeartbeats 4000000 in
theorem ww_X7_moveBeast_132 {G : dk_G} {P : Program} {l : Launch} {e : Env} {S0 : State} {m : MethodId} {args : Array Value} {bel : List Frame} {meth : Method} {c : Code} {p0 : Nat} (C : dk_C G P (dk_rm 5) S0 m args c 0 0 cX7_moveBeast 6 RX7) (hr : meth.sig.returnType = none) (hlk : meth.locks = false) (hp0 : dk_WI G p0) {K : dk_S → Prop}  : ∀ (x1 : Int32) (x2 : Int32) (x4 : Int32) (s : dk_S), wf_X7_moveBeast_132 p0 K x1 x2 x4 s → dk_W G P l e (dk_rm 5) S0 m args bel meth c 0 0 (MQ bel (dk_Qc G (dk_kv K)) args S0 0 0 (dk_A G)) 132 [some (dk_r G p0 0), some (.int x1), some (.int x2), none, some (.int x4), none] [] s := by
  intro x1 x2 x4 s h
  unfold wf_X7_moveBeast_132 at h
  refine dk_aload_n (i := 0) C dX7_moveBeast_132 (n := 133) rfl rfl rfl ?_
  refine gf_X7_28 C (hp0 0 (by decide)) dX7_moveBeast_133 (n := 136) rfl ?_
  refine gf_X7_78 C (hp0 13 (by decide)) dX7_moveBeast_136 (n := 139) rfl ?_
  refine dk_iload_n (i := 1) C dX7_moveBeast_139 (n := 140) rfl rfl rfl ?_
  refine dk_callNi C [] (cc_X8_at C.D dk_sh14 (hp0 14 (by decide)) h) yy_X8_at dk_wm_X7_82 dX7_moveBeast_140 (fun r27 s26 h => ?_) rfl ⟨Nat.le_of_ble_eq_true rfl, Nat.le_of_ble_eq_true rfl⟩ rfl (Nat.le_of_ble_eq_true rfl) rfl (n := 143) rfl
  refine dk_istore (i := 5) (L' := [some (dk_r G p0 0), some (.int x1), some (.int x2), none, some (.int x4), some (.int r27)]) C dX7_moveBeast_143 (n := 145) rfl (dk_nc_of rfl) (Nat.le_of_ble_eq_true rfl) rfl ?_
  refine dk_iload C dX7_moveBeast_145 (n := 147) rfl (i := 5) rfl ?_
  refine dk_iload C dX7_moveBeast_147 (n := 149) rfl (i := 4) rfl ?_
  refine dk_icmp_ne (t := 177) C dX7_moveBeast_149 (n := 152) rfl (by decide) (fun c32 => ?_) (fun c32 => ?_)
  · have h := h.1 c32
    exact dk_vret C hr hlk dX7_moveBeast_177 ⟨rfl, h⟩
  · have h := h.2 c32
    refine dk_aload_n (i := 0) C dX7_moveBeast_152 (n := 153) rfl rfl rfl ?_
    refine gf_X7_12 C (hp0 0 (by decide)) dX7_moveBeast_153 (n := 156) rfl ?_
    refine dk_iload C dX7_moveBeast_156 (n := 158) rfl (i := 5) rfl ?_
    refine dk_iload_n (i := 2) C dX7_moveBeast_158 (n := 159) rfl rfl rfl ?_
    refine dk_callVi C [] (cc_X1_seeEachOther C.D hp0 h) yy_X1_seeEachOther dk_wm_X7_97 dk_sh1 (hp0 1 (by decide)) dX7_moveBeast_159 (fun r29 s28 h => ?_) rfl rfl ⟨Nat.le_of_ble_eq_true rfl, Nat.le_of_ble_eq_true rfl⟩ rfl (Nat.le_of_ble_eq_true rfl) rfl (n := 162) rfl
    refine dk_if_ne (t := 177) C dX7_moveBeast_162 (n := 165) rfl (by decide) (fun c31 => ?_) (fun c31 => ?_)
    · have h := h.1 c31
      exact dk_vret C hr hlk dX7_moveBeast_177 ⟨rfl, h⟩
    · have h := h.2 c31
      refine dk_aload_n (i := 0) C dX7_moveBeast_165 (n := 166) rfl rfl rfl ?_
      refine gf_X7_28 C (hp0 0 (by decide)) dX7_moveBeast_166 (n := 169) rfl ?_
      refine gf_X7_271 C (hp0 13 (by decide)) dX7_moveBeast_169 (n := 172) rfl ?_
      refine dk_iload_n (i := 1) C dX7_moveBeast_172 (n := 173) rfl rfl rfl ?_
      refine dk_iconst (v := (-1)) C dX7_moveBeast_173 (n := 174) rfl (by decide) ?_
      refine dk_callNv C [] (cc_X8_put C.D dk_sh22 (hp0 22 (by decide)) h) yy_X8_put dk_wm_X7_142 dX7_moveBeast_174 (fun s30 h => ?_) rfl ⟨Nat.le_of_ble_eq_true rfl, Nat.le_of_ble_eq_true rfl⟩ rfl (Nat.le_of_ble_eq_true rfl) rfl (n := 177) rfl
      exact dk_vret C hr hlk dX7_moveBeast_177 ⟨rfl, h⟩
set_option maxRecDepth 20000 in
set_option maxHeartbeats 4000000 in
theorem ww_X7_moveBeast_41 {G : dk_G} {P : Program} {l : Launch} {e : Env} {S0 : State} {m : MethodId} {args : Array Value} {bel : List Frame} {meth : Method} {c : Code} {p0 : Nat} (C : dk_C G P (dk_rm 5) S0 m args c 0 0 cX7_moveBeast 6 RX7) (hr : meth.sig.returnType = none) (hlk : meth.locks = false) (hp0 : dk_WI G p0) {K : dk_S → Prop}  : ∀ (x1 : Int32) (x2 : Int32) (x3 : Int32) (s : dk_S), wf_X7_moveBeast_41 p0 K x1 x2 x3 s → dk_W G P l e (dk_rm 5) S0 m args bel meth c 0 0 (MQ bel (dk_Qc G (dk_kv K)) args S0 0 0 (dk_A G)) 41 [some (dk_r G p0 0), some (.int x1), some (.int x2), some (.int x3), none, none] [] s := by
  intro x1 x2 x3 s h
  unfold wf_X7_moveBeast_41 at h
  refine dk_aload_n (i := 0) C dX7_moveBeast_41 (n := 42) rfl rfl rfl ?_
  refine gf_X7_28 C (hp0 0 (by decide)) dX7_moveBeast_42 (n := 45) rfl ?_
  refine gf_X7_271 C (hp0 13 (by decide)) dX7_moveBeast_45 (n := 48) rfl ?_
  refine dk_iload_n (i := 1) C dX7_moveBeast_48 (n := 49) rfl rfl rfl ?_
  refine dk_callNi C [] (cc_X8_at C.D dk_sh22 (hp0 22 (by decide)) h) yy_X8_at dk_wm_X7_82 dX7_moveBeast_49 (fun r10 s9 h => ?_) rfl ⟨Nat.le_of_ble_eq_true rfl, Nat.le_of_ble_eq_true rfl⟩ rfl (Nat.le_of_ble_eq_true rfl) rfl (n := 52) rfl
  refine dk_istore (i := 4) (L' := [some (dk_r G p0 0), some (.int x1), some (.int x2), some (.int x3), some (.int r10), none]) C dX7_moveBeast_52 (n := 54) rfl (dk_nc_of rfl) (Nat.le_of_ble_eq_true rfl) rfl ?_
  refine dk_iload C dX7_moveBeast_54 (n := 56) rfl (i := 4) rfl ?_
  refine dk_iconst (v := (-1)) C dX7_moveBeast_56 (n := 57) rfl (by decide) ?_
  refine dk_icmp_ne (t := 61) C dX7_moveBeast_57 (n := 60) rfl (by decide) (fun c25 => ?_) (fun c25 => ?_)
  · have h := h.1 c25
    refine dk_aload_n (i := 0) C dX7_moveBeast_61 (n := 62) rfl rfl rfl ?_
    refine gf_X7_12 C (hp0 0 (by decide)) dX7_moveBeast_62 (n := 65) rfl ?_
    refine dk_iload C dX7_moveBeast_65 (n := 67) rfl (i := 4) rfl ?_
    refine dk_callVv C [] (cc_X1_aimAt C.D hp0 h) yy_X1_aimAt dk_wm_X7_274 dk_sh1 (hp0 1 (by decide)) dX7_moveBeast_67 (fun s11 h => ?_) rfl rfl ⟨Nat.le_of_ble_eq_true rfl, Nat.le_of_ble_eq_true rfl⟩ rfl (Nat.le_of_ble_eq_true rfl) rfl (n := 70) rfl
    refine dk_aload_n (i := 0) C dX7_moveBeast_70 (n := 71) rfl rfl rfl ?_
    refine gf_X7_28 C (hp0 0 (by decide)) dX7_moveBeast_71 (n := 74) rfl ?_
    refine dk_iload_n (i := 1) C dX7_moveBeast_74 (n := 75) rfl rfl rfl ?_
    refine dk_callVi C [] (cc_X2_isWeak C.D hp0 h) yy_X2_isWeak dk_wm_X7_198 dk_sh13 (hp0 13 (by decide)) dX7_moveBeast_75 (fun r13 s12 h => ?_) rfl rfl ⟨Nat.le_of_ble_eq_true rfl, Nat.le_of_ble_eq_true rfl⟩ rfl (Nat.le_of_ble_eq_true rfl) rfl (n := 78) rfl
    refine dk_if_eq (t := 89) C dX7_moveBeast_78 (n := 81) rfl (by decide) (fun c24 => ?_) (fun c24 => ?_)
    · have h := h.1 c24
      refine dk_iload_n (i := 3) C dX7_moveBeast_89 (n := 90) rfl rfl rfl ?_
      refine dk_iload_n (i := 2) C dX7_moveBeast_90 (n := 91) rfl rfl rfl ?_
      refine dk_callNi C [] (cc_X8_areNeighbours C.D  h) yy_X8_areNeighbours dk_wm_X7_280 dX7_moveBeast_91 (fun r15 s14 h => ?_) rfl ⟨Nat.le_of_ble_eq_true rfl, Nat.le_of_ble_eq_true rfl⟩ rfl (Nat.le_of_ble_eq_true rfl) rfl (n := 94) rfl
      refine dk_if_eq (t := 127) C dX7_moveBeast_94 (n := 97) rfl (by decide) (fun c22 => ?_) (fun c22 => ?_)
      · have h := h.1 c22
        refine dk_aload_n (i := 0) C dX7_moveBeast_127 (n := 128) rfl rfl rfl ?_
        refine dk_iload_n (i := 1) C dX7_moveBeast_128 (n := 129) rfl rfl rfl ?_
        refine dk_callVv C [] (cc_X7_comeNearer C.D hp0 h) yy_X7_comeNearer dk_wm_X7_284 dk_sh0 (hp0 0 (by decide)) dX7_moveBeast_129 (fun s16 h => ?_) rfl rfl ⟨Nat.le_of_ble_eq_true rfl, Nat.le_of_ble_eq_true rfl⟩ rfl (Nat.le_of_ble_eq_true rfl) rfl (n := 132) rfl
        refine dk_sub (L0 := [some (dk_r G p0 0), some (.int x1), some (.int x2), none, some (.int r10), none]) ⟨rfl, ⟨rfl, ⟨rfl, ⟨rfl, trivial⟩⟩⟩⟩ ?_
        exact ww_X7_moveBeast_132 C hr hlk hp0  x1 x2 r10 s16 h
      · have h := h.2 c22
        refine dk_aload_n (i := 0) C dX7_moveBeast_97 (n := 98) rfl rfl rfl ?_
        refine gf_X7_28 C (hp0 0 (by decide)) dX7_moveBeast_98 (n := 101) rfl ?_
        refine dk_iconst (v := 0) C dX7_moveBeast_101 (n := 102) rfl (by decide) ?_
        refine dk_aload_n (i := 0) C dX7_moveBeast_102 (n := 103) rfl rfl rfl ?_
        refine gf_X7_28 C (hp0 0 (by decide)) dX7_moveBeast_103 (n := 106) rfl ?_
        refine gf_X7_283 C (hp0 13 (by decide)) dX7_moveBeast_106 (n := 109) rfl ?_
        refine dk_iload_n (i := 1) C dX7_moveBeast_109 (n := 110) rfl rfl rfl ?_
        refine dk_callNi C [.int 0, dk_r G p0 13] (cc_X8_at C.D dk_sh16 (hp0 16 (by decide)) h) yy_X8_at dk_wm_X7_82 dX7_moveBeast_110 (fun r18 s17 h => ?_) rfl ⟨Nat.le_of_ble_eq_true rfl, Nat.le_of_ble_eq_true rfl⟩ rfl (Nat.le_of_ble_eq_true rfl) rfl (n := 113) rfl
        refine dk_callVv C [] (cc_X2_harm C.D hp0 h) yy_X2_harm dk_wm_X7_201 dk_sh13 (hp0 13 (by decide)) dX7_moveBeast_113 (fun s19 h => ?_) rfl rfl ⟨Nat.le_of_ble_eq_true rfl, Nat.le_of_ble_eq_true rfl⟩ rfl (Nat.le_of_ble_eq_true rfl) rfl (n := 116) rfl
        refine dk_aload_n (i := 0) C dX7_moveBeast_116 (n := 117) rfl rfl rfl ?_
        refine dk_iload_n (i := 2) C dX7_moveBeast_117 (n := 118) rfl rfl rfl ?_
        refine dk_bipush (v := 6) C dX7_moveBeast_118 (n := 120) rfl (by decide) ?_
        refine dk_callVi C [] (cc_X7_makeNoise C.D hp0 h) yy_X7_makeNoise dk_wm_X7_159 dk_sh0 (hp0 0 (by decide)) dX7_moveBeast_120 (fun r21 s20 h => ?_) rfl rfl ⟨Nat.le_of_ble_eq_true rfl, Nat.le_of_ble_eq_true rfl⟩ rfl (Nat.le_of_ble_eq_true rfl) rfl (n := 123) rfl
        refine dk_pop C dX7_moveBeast_123 (n := 124) rfl rfl ?_
        refine dk_goto (t := 132) C dX7_moveBeast_124 (by decide) ?_
        refine dk_sub (L0 := [some (dk_r G p0 0), some (.int x1), some (.int x2), none, some (.int r10), none]) ⟨rfl, ⟨rfl, ⟨rfl, ⟨rfl, trivial⟩⟩⟩⟩ ?_
        exact ww_X7_moveBeast_132 C hr hlk hp0  x1 x2 r10 s20 h
    · have h := h.2 c24
      refine dk_aload_n (i := 0) C dX7_moveBeast_81 (n := 82) rfl rfl rfl ?_
      refine dk_iload_n (i := 1) C dX7_moveBeast_82 (n := 83) rfl rfl rfl ?_
      refine dk_callVv C [] (cc_X7_flee C.D hp0 h) yy_X7_flee dk_wm_X7_277 dk_sh0 (hp0 0 (by decide)) dX7_moveBeast_83 (fun s23 h => ?_) rfl rfl ⟨Nat.le_of_ble_eq_true rfl, Nat.le_of_ble_eq_true rfl⟩ rfl (Nat.le_of_ble_eq_true rfl) rfl (n := 86) rfl
      refine dk_goto (t := 132) C dX7_moveBeast_86 (by decide) ?_
      refine dk_sub (L0 := [some (dk_r G p0 0), some (.int x1), some (.int x2), none, some (.int r10), none]) ⟨rfl, ⟨rfl, ⟨rfl, ⟨rfl, trivial⟩⟩⟩⟩ ?_
      exact ww_X7_moveBeast_132 C hr hlk hp0  x1 x2 r10 s23 h
  · have h := h.2 c25
    exact dk_vret C hr hlk dX7_moveBeast_60 ⟨rfl, h⟩
set_option maxRecDepth 20000 in
set_option maxHeartbeats 4000000 in
theorem cc_X7_moveBeast {G : dk_G} {l : Launch} {p0 : Nat} {a1 : Int32} (hD : dk_D G) (hp0 : dk_WI G p0) {s : dk_S} {K : dk_S → Prop} (h : wf_X7_moveBeast p0 a1 s K) : dk_M G l 5 yX7_moveBeast cX7_moveBeast 6 none [dk_r G p0 0, .int a1] s (dk_kv K) := by
  refine dk_of hD (by decide) [some (dk_r G p0 0), some (.int a1), none, none, none, none] (fun q hq => hq) rfl (Nat.le_of_ble_eq_true rfl) (fun P e S0 m args bel meth c C hr hlk => ?_)
  unfold wf_X7_moveBeast at h
  refine dk_aload_n (i := 0) C dX7_moveBeast_0 (n := 1) rfl rfl rfl ?_
  refine dk_callVi C [] (cc_X7_heroSpot C.D hp0 h) yy_X7_heroSpot dk_wm_X7_93 dk_sh0 (hp0 0 (by decide)) dX7_moveBeast_1 (fun r2 s1 h => ?_) rfl rfl ⟨Nat.le_of_ble_eq_true rfl, Nat.le_of_ble_eq_true rfl⟩ rfl (Nat.le_of_ble_eq_true rfl) rfl (n := 4) rfl
  refine dk_istore_n (i := 2) (L' := [some (dk_r G p0 0), some (.int a1), some (.int r2), none, none, none]) C dX7_moveBeast_4 (n := 5) rfl rfl (dk_nc_of rfl) (Nat.le_of_ble_eq_true rfl) rfl ?_
  refine dk_aload_n (i := 0) C dX7_moveBeast_5 (n := 6) rfl rfl rfl ?_
  refine gf_X7_28 C (hp0 0 (by decide)) dX7_moveBeast_6 (n := 9) rfl ?_
  refine gf_X7_78 C (hp0 13 (by decide)) dX7_moveBeast_9 (n := 12) rfl ?_
  refine dk_iload_n (i := 1) C dX7_moveBeast_12 (n := 13) rfl rfl rfl ?_
  refine dk_callNi C [] (cc_X8_at C.D dk_sh14 (hp0 14 (by decide)) h) yy_X8_at dk_wm_X7_82 dX7_moveBeast_13 (fun r4 s3 h => ?_) rfl ⟨Nat.le_of_ble_eq_true rfl, Nat.le_of_ble_eq_true rfl⟩ rfl (Nat.le_of_ble_eq_true rfl) rfl (n := 16) rfl
  refine dk_istore_n (i := 3) (L' := [some (dk_r G p0 0), some (.int a1), some (.int r2), some (.int r4), none, none]) C dX7_moveBeast_16 (n := 17) rfl rfl (dk_nc_of rfl) (Nat.le_of_ble_eq_true rfl) rfl ?_
  refine dk_aload_n (i := 0) C dX7_moveBeast_17 (n := 18) rfl rfl rfl ?_
  refine gf_X7_12 C (hp0 0 (by decide)) dX7_moveBeast_18 (n := 21) rfl ?_
  refine dk_iload_n (i := 3) C dX7_moveBeast_21 (n := 22) rfl rfl rfl ?_
  refine dk_iload_n (i := 2) C dX7_moveBeast_22 (n := 23) rfl rfl rfl ?_
  refine dk_callVi C [] (cc_X1_seeEachOther C.D hp0 h) yy_X1_seeEachOther dk_wm_X7_97 dk_sh1 (hp0 1 (by decide)) dX7_moveBeast_23 (fun r6 s5 h => ?_) rfl rfl ⟨Nat.le_of_ble_eq_true rfl, Nat.le_of_ble_eq_true rfl⟩ rfl (Nat.le_of_ble_eq_true rfl) rfl (n := 26) rfl
  refine dk_if_eq (t := 41) C dX7_moveBeast_26 (n := 29) rfl (by decide) (fun c8 => ?_) (fun c8 => ?_)
  · have h := h.1 c8
    refine dk_sub (L0 := [some (dk_r G p0 0), some (.int a1), some (.int r2), some (.int r4), none, none]) ⟨rfl, ⟨rfl, ⟨rfl, ⟨rfl, trivial⟩⟩⟩⟩ ?_
    exact ww_X7_moveBeast_41 C hr hlk hp0  a1 r2 r4 s5 h
  · have h := h.2 c8
    refine dk_aload_n (i := 0) C dX7_moveBeast_29 (n := 30) rfl rfl rfl ?_
    refine gf_X7_28 C (hp0 0 (by decide)) dX7_moveBeast_30 (n := 33) rfl ?_
    refine gf_X7_271 C (hp0 13 (by decide)) dX7_moveBeast_33 (n := 36) rfl ?_
    refine dk_iload_n (i := 1) C dX7_moveBeast_36 (n := 37) rfl rfl rfl ?_
    refine dk_iload_n (i := 2) C dX7_moveBeast_37 (n := 38) rfl rfl rfl ?_
    refine dk_callNv C [] (cc_X8_put C.D dk_sh22 (hp0 22 (by decide)) h) yy_X8_put dk_wm_X7_142 dX7_moveBeast_38 (fun s7 h => ?_) rfl ⟨Nat.le_of_ble_eq_true rfl, Nat.le_of_ble_eq_true rfl⟩ rfl (Nat.le_of_ble_eq_true rfl) rfl (n := 41) rfl
    refine dk_sub (L0 := [some (dk_r G p0 0), some (.int a1), some (.int r2), some (.int r4), none, none]) ⟨rfl, ⟨rfl, ⟨rfl, ⟨rfl, trivial⟩⟩⟩⟩ ?_
    exact ww_X7_moveBeast_41 C hr hlk hp0  a1 r2 r4 s7 h
/-! X7_waitForHero -/
set_option maxRecDepth 20000 in
set_option maxHeartbeats 4000000 in
theorem ww_X7_waitForHero_2 {G : dk_G} {P : Program} {l : Launch} {e : Env} {S0 : State} {m : MethodId} {args : Array Value} {bel : List Frame} {meth : Method} {c : Code} {p0 : Nat} (C : dk_C G P (dk_rm 6) S0 m args c 0 0 cX7_waitForHero 3 RX7) (hr : meth.sig.returnType = none) (hlk : meth.locks = false) (hp0 : dk_WI G p0) {K : dk_S → Prop}  : ∀ (n : Nat) (x1 : Int32) (s : dk_S), wf_X7_waitForHero_2 p0 K n x1 s → dk_W G P l e (dk_rm 6) S0 m args bel meth c 0 0 (MQ bel (dk_Qc G (dk_kv K)) args S0 0 0 (dk_A G)) 2 [some (dk_r G p0 0), some (.int x1), none] [] s := by
  intro n
  induction n with
  | zero => intro x1 s h; exact False.elim h
  | succ n hB =>
    intro x1 s h
    unfold wf_X7_waitForHero_2 at h
    refine dk_iload_n (i := 1) C dX7_waitForHero_2 (n := 3) rfl rfl rfl ?_
    refine dk_ldc (v := 1000000) C dX7_waitForHero_3 (n := 5) rfl dk_wk_X7_118 ?_
    refine dk_icmp_ge (t := 90) C dX7_waitForHero_5 (n := 8) rfl (by decide) (fun c16 => ?_) (fun c16 => ?_)
    · have h := h.1 c16
      exact dk_vret C hr hlk dX7_waitForHero_90 ⟨rfl, h⟩
    · have h := h.2 c16
      refine dk_aload_n (i := 0) C dX7_waitForHero_8 (n := 9) rfl rfl rfl ?_
      refine gf_X7_28 C (hp0 0 (by decide)) dX7_waitForHero_9 (n := 12) rfl ?_
      refine dk_iconst (v := 0) C dX7_waitForHero_12 (n := 13) rfl (by decide) ?_
      refine dk_callVi C [] (cc_X2_lives C.D hp0 h) yy_X2_lives dk_wm_X7_204 dk_sh13 (hp0 13 (by decide)) dX7_waitForHero_13 (fun r3 s2 h => ?_) rfl rfl ⟨Nat.le_of_ble_eq_true rfl, Nat.le_of_ble_eq_true rfl⟩ rfl (Nat.le_of_ble_eq_true rfl) rfl (n := 16) rfl
      refine dk_if_eq (t := 90) C dX7_waitForHero_16 (n := 19) rfl (by decide) (fun c15 => ?_) (fun c15 => ?_)
      · have h := h.1 c15
        exact dk_vret C hr hlk dX7_waitForHero_90 ⟨rfl, h⟩
      · have h := h.2 c15
        refine dk_aload_n (i := 0) C dX7_waitForHero_19 (n := 20) rfl rfl rfl ?_
        refine gf_X7_28 C (hp0 0 (by decide)) dX7_waitForHero_20 (n := 23) rfl ?_
        refine dk_callVi C [] (cc_X2_nextToAct C.D hp0 h) yy_X2_nextToAct dk_wm_X7_257 dk_sh13 (hp0 13 (by decide)) dX7_waitForHero_23 (fun r5 s4 h => ?_) rfl rfl ⟨Nat.le_of_ble_eq_true rfl, Nat.le_of_ble_eq_true rfl⟩ rfl (Nat.le_of_ble_eq_true rfl) rfl (n := 26) rfl
        refine dk_istore_n (i := 2) (L' := [some (dk_r G p0 0), some (.int x1), some (.int r5)]) C dX7_waitForHero_26 (n := 27) rfl rfl (dk_nc_of rfl) (Nat.le_of_ble_eq_true rfl) rfl ?_
        refine dk_iload_n (i := 2) C dX7_waitForHero_27 (n := 28) rfl rfl rfl ?_
        refine dk_if_ne (t := 32) C dX7_waitForHero_28 (n := 31) rfl (by decide) (fun c14 => ?_) (fun c14 => ?_)
        · have h := h.1 c14
          refine dk_iload_n (i := 2) C dX7_waitForHero_32 (n := 33) rfl rfl rfl ?_
          refine dk_iconst (v := (-1)) C dX7_waitForHero_33 (n := 34) rfl (by decide) ?_
          refine dk_icmp_ne (t := 71) C dX7_waitForHero_34 (n := 37) rfl (by decide) (fun c13 => ?_) (fun c13 => ?_)
          · have h := h.1 c13
            refine dk_aload_n (i := 0) C dX7_waitForHero_71 (n := 72) rfl rfl rfl ?_
            refine gf_X7_28 C (hp0 0 (by decide)) dX7_waitForHero_72 (n := 75) rfl ?_
            refine dk_iload_n (i := 2) C dX7_waitForHero_75 (n := 76) rfl rfl rfl ?_
            refine dk_callVv C [] (cc_X2_spendTurn C.D hp0 h) yy_X2_spendTurn dk_wm_X7_166 dk_sh13 (hp0 13 (by decide)) dX7_waitForHero_76 (fun s6 h => ?_) rfl rfl ⟨Nat.le_of_ble_eq_true rfl, Nat.le_of_ble_eq_true rfl⟩ rfl (Nat.le_of_ble_eq_true rfl) rfl (n := 79) rfl
            refine dk_aload_n (i := 0) C dX7_waitForHero_79 (n := 80) rfl rfl rfl ?_
            refine dk_iload_n (i := 2) C dX7_waitForHero_80 (n := 81) rfl rfl rfl ?_
            refine dk_callVv C [] (cc_X7_moveBeast C.D hp0 h) yy_X7_moveBeast dk_wm_X7_268 dk_sh0 (hp0 0 (by decide)) dX7_waitForHero_81 (fun s7 h => ?_) rfl rfl ⟨Nat.le_of_ble_eq_true rfl, Nat.le_of_ble_eq_true rfl⟩ rfl (Nat.le_of_ble_eq_true rfl) rfl (n := 84) rfl
            obtain ⟨v8, ev8⟩ : ∃ y : Int32, y = x1 + 1 := ⟨_, rfl⟩
            have h := h v8 ev8
            refine dk_iinc (i := 1) (v := v8) (L' := [some (dk_r G p0 0), some (.int v8), some (.int r5)]) C dX7_waitForHero_84 (n := 87) rfl rfl (by rw [ev8]; rfl) (dk_nc_of rfl) (Nat.le_of_ble_eq_true rfl) rfl ?_
            refine dk_goto (t := 2) C dX7_waitForHero_87 (by decide) ?_
            refine dk_sub (L0 := [some (dk_r G p0 0), some (.int v8), none]) ⟨rfl, ⟨rfl, trivial⟩⟩ ?_
            exact hB v8 s7 h
          · have h := h.2 c13
            refine dk_aload_n (i := 0) C dX7_waitForHero_37 (n := 38) rfl rfl rfl ?_
            refine gf_X7_28 C (hp0 0 (by decide)) dX7_waitForHero_38 (n := 41) rfl ?_
            refine dk_callVv C [] (cc_X2_gainEnergy C.D hp0 h) yy_X2_gainEnergy dk_wm_X7_260 dk_sh13 (hp0 13 (by decide)) dX7_waitForHero_41 (fun s9 h => ?_) rfl rfl ⟨Nat.le_of_ble_eq_true rfl, Nat.le_of_ble_eq_true rfl⟩ rfl (Nat.le_of_ble_eq_true rfl) rfl (n := 44) rfl
            refine dk_aload_n (i := 0) C dX7_waitForHero_44 (n := 45) rfl rfl rfl ?_
            refine dk_iconst (v := 0) C dX7_waitForHero_45 (n := 46) rfl (by decide) ?_
            refine dk_aload_n (i := 0) C dX7_waitForHero_46 (n := 47) rfl rfl rfl ?_
            refine gf_X7_56 C (hp0 0 (by decide)) dX7_waitForHero_47 (n := 50) rfl ?_
            refine dk_iconst (v := 1) C dX7_waitForHero_50 (n := 51) rfl (by decide) ?_
            refine dk_isub C dX7_waitForHero_51 (n := 52) rfl ?_
            refine dk_mmax C dk_wm_X7_263 dk_wm_max_s dk_wm_i dk_wm_max_c (Nat.le_of_ble_eq_true rfl) (Nat.le_of_ble_eq_true rfl) rfl dX7_waitForHero_52 (n := 55) rfl ?_
            refine pf_X7_56 C rfl rfl (hp0 0 (by decide)) dX7_waitForHero_55 (n := 58) rfl ?_
            refine dk_nameS (fun s10 es10 => ?_)
            have h := h s10 es10
            refine dk_aload_n (i := 0) C dX7_waitForHero_58 (n := 59) rfl rfl rfl ?_
            refine dk_dup C dX7_waitForHero_59 (n := 60) rfl rfl ?_
            refine gf_X7_46 C (hp0 0 (by decide)) dX7_waitForHero_60 (n := 63) rfl ?_
            refine dk_iconst (v := 1) C dX7_waitForHero_63 (n := 64) rfl (by decide) ?_
            refine dk_iadd C dX7_waitForHero_64 (n := 65) rfl ?_
            refine pf_X7_46 C rfl rfl (hp0 0 (by decide)) dX7_waitForHero_65 (n := 68) rfl ?_
            refine dk_nameS (fun s11 es11 => ?_)
            have h := h s11 es11
            refine dk_goto (t := 84) C dX7_waitForHero_68 (by decide) ?_
            obtain ⟨v12, ev12⟩ : ∃ y : Int32, y = x1 + 1 := ⟨_, rfl⟩
            have h := h v12 ev12
            refine dk_iinc (i := 1) (v := v12) (L' := [some (dk_r G p0 0), some (.int v12), some (.int r5)]) C dX7_waitForHero_84 (n := 87) rfl rfl (by rw [ev12]; rfl) (dk_nc_of rfl) (Nat.le_of_ble_eq_true rfl) rfl ?_
            refine dk_goto (t := 2) C dX7_waitForHero_87 (by decide) ?_
            refine dk_sub (L0 := [some (dk_r G p0 0), some (.int v12), none]) ⟨rfl, ⟨rfl, trivial⟩⟩ ?_
            exact hB v12 s11 h
        · have h := h.2 c14
          exact dk_vret C hr hlk dX7_waitForHero_31 ⟨rfl, h⟩
set_option maxRecDepth 20000 in
set_option maxHeartbeats 4000000 in
theorem cc_X7_waitForHero {G : dk_G} {l : Launch} {p0 : Nat} (hD : dk_D G) (hp0 : dk_WI G p0) {s : dk_S} {K : dk_S → Prop} (h : wf_X7_waitForHero p0 s K) : dk_M G l 6 yX7_waitForHero cX7_waitForHero 3 none [dk_r G p0 0] s (dk_kv K) := by
  refine dk_of hD (by decide) [some (dk_r G p0 0), none, none] (fun q hq => hq) rfl (Nat.le_of_ble_eq_true rfl) (fun P e S0 m args bel meth c C hr hlk => ?_)
  unfold wf_X7_waitForHero at h
  refine dk_iconst (v := 0) C dX7_waitForHero_0 (n := 1) rfl (by decide) ?_
  refine dk_istore_n (i := 1) (L' := [some (dk_r G p0 0), some (.int 0), none]) C dX7_waitForHero_1 (n := 2) rfl rfl (dk_nc_of rfl) (Nat.le_of_ble_eq_true rfl) rfl ?_
  obtain ⟨nn1, h⟩ := h
  refine dk_sub (L0 := [some (dk_r G p0 0), some (.int 0), none]) ⟨rfl, ⟨rfl, trivial⟩⟩ ?_
  refine ww_X7_waitForHero_2 C hr hlk hp0  nn1 0 s h
/-! X8_state -/
set_option maxRecDepth 20000 in
set_option maxHeartbeats 4000000 in
theorem cc_X8_state {G : dk_G} {l : Launch}  (hD : dk_D G) (hri : dk_RI G) {s : dk_S} {K : Int32 → dk_S → Prop} (h : wf_X8_state s K) : dk_M G l 1 yX8_state cX8_state 1 (some .char) [dk_r G 0 40] s (dk_ki K) := by
  refine dk_of hD (by decide) [some (dk_r G 0 40)] (fun q hq => hq) rfl (Nat.le_of_ble_eq_true rfl) (fun P e S0 m args bel meth c C hr hlk => ?_)
  unfold wf_X8_state at h
  refine dk_aload_n (i := 0) C dX8_state_0 (n := 1) rfl rfl rfl ?_
  refine gf_X8_36 C (hri.1 40 (by decide) (by decide)) dX8_state_1 (n := 4) rfl ?_
  exact dk_iret C hr hlk h.1 dX8_state_4 ⟨_, rfl, h.2⟩
/-! X8_tick -/
set_option maxRecDepth 20000 in
set_option maxHeartbeats 4000000 in
theorem cc_X8_tick {G : dk_G} {l : Launch}  (hD : dk_D G) (hri : dk_RI G) {s : dk_S} {K : Int32 → dk_S → Prop} (h : wf_X8_tick s K) : dk_M G l 2 yX8_tick cX8_tick 1 (some .int) [dk_r G 0 40] s (dk_ki K) := by
  refine dk_of hD (by decide) [some (dk_r G 0 40)] (fun q hq => hq) rfl (Nat.le_of_ble_eq_true rfl) (fun P e S0 m args bel meth c C hr hlk => ?_)
  unfold wf_X8_tick at h
  refine dk_aload_n (i := 0) C dX8_tick_0 (n := 1) rfl rfl rfl ?_
  refine dk_callV (st' := []) C (cc_X8_shown C.D hri (s := s)) yy_X8_shown dk_wm_X8_227 rfl ⟨Nat.le_of_ble_eq_true rfl, Nat.le_of_ble_eq_true rfl⟩ dk_sh40 rfl (hri.1 40 (by decide) (by decide)) rfl (Nat.le_of_ble_eq_true rfl) rfl dX8_tick_1 (n := 4) rfl (fun v9 s9 h9 => ?_)
  rcases h9 with ⟨c1, e8, e9⟩ | ⟨c1, e8, e9⟩
  · have h := h.1 c1
    rw [e8, e9]
    show dk_W _ _ _ _ _ _ _ _ _ _ _ _ _ _ 4 _ [dk_r G 1 0] s
    refine gf_X8_175 C (hri.2.1 0 (by decide)) dX8_tick_4 (n := 7) rfl ?_
    exact dk_iret C hr hlk rfl dX8_tick_7 ⟨_, rfl, h⟩
  · have h := h.2 c1
    rw [e8, e9]
    show dk_W _ _ _ _ _ _ _ _ _ _ _ _ _ _ 4 _ [dk_r G 2 0] s
    refine gf_X8_175 C (hri.2.2.1 0 (by decide)) dX8_tick_4 (n := 7) rfl ?_
    exact dk_iret C hr hlk rfl dX8_tick_7 ⟨_, rfl, h⟩
/-! X8_make -/
set_option maxRecDepth 20000 in
set_option maxHeartbeats 4000000 in
theorem cc_X8_make {G : dk_G} {l : Launch} {p1 : Nat} {a2 : Int32} (hD : dk_D G) (hri : dk_RI G) (hp1 : dk_WI G p1) {s : dk_S} {K : dk_S → Prop} (h : wf_X8_make p1 a2 s K) : dk_M G l 5 yX8_make cX8_make 3 none [dk_r G 0 40, dk_r G p1 0, .int a2] s (dk_kv K) := by
  refine dk_of hD (by decide) [some (dk_r G 0 40), some (dk_r G p1 0), some (.int a2)] (fun q hq => hq) rfl (Nat.le_of_ble_eq_true rfl) (fun P e S0 m args bel meth c C hr hlk => ?_)
  unfold wf_X8_make at h
  refine dk_aload_n (i := 1) C dX8_make_0 (n := 1) rfl rfl rfl ?_
  refine dk_aload_n (i := 0) C dX8_make_1 (n := 2) rfl rfl rfl ?_
  refine gf_X8_12 C (hri.1 40 (by decide) (by decide)) dX8_make_2 (n := 5) rfl ?_
  refine dk_callVv C [] (cc_X7_copy C.D hp1 hri.2.1 h) yy_X7_copy dk_wm_X8_269 dk_sh0 (hp1 0 (by decide)) dX8_make_5 (fun s1 h => ?_) rfl rfl ⟨Nat.le_of_ble_eq_true rfl, Nat.le_of_ble_eq_true rfl⟩ rfl (Nat.le_of_ble_eq_true rfl) rfl (n := 8) rfl
  refine dk_aload_n (i := 1) C dX8_make_8 (n := 9) rfl rfl rfl ?_
  refine dk_iload_n (i := 2) C dX8_make_9 (n := 10) rfl rfl rfl ?_
  refine dk_bipush (v := 6) C dX8_make_10 (n := 12) rfl (by decide) ?_
  refine dk_irem C dX8_make_12 (n := 13) rfl (by decide) ?_
  refine pf_X8_273 C rfl rfl (hp1 0 (by decide)) dX8_make_13 (n := 16) rfl ?_
  refine dk_nameS (fun s2 es2 => ?_)
  have h := h s2 es2
  refine dk_aload_n (i := 0) C dX8_make_16 (n := 17) rfl rfl rfl ?_
  refine gf_X8_32 C (hri.1 40 (by decide) (by decide)) dX8_make_17 (n := 20) rfl ?_
  refine dk_aload_n (i := 1) C dX8_make_20 (n := 21) rfl rfl rfl ?_
  refine dk_callVv C [] (cc_X0_layIn C.D hri hp1 h) yy_X0_layIn dk_wm_X8_276 dk_sh45 (hri.1 45 (by decide) (by decide)) dX8_make_21 (fun s3 h => ?_) rfl rfl ⟨Nat.le_of_ble_eq_true rfl, Nat.le_of_ble_eq_true rfl⟩ rfl (Nat.le_of_ble_eq_true rfl) rfl (n := 24) rfl
  exact dk_vret C hr hlk dX8_make_24 ⟨rfl, h⟩
/-! X8_settle -/
set_option maxRecDepth 20000 in
set_option maxHeartbeats 4000000 in
theorem cc_X8_settle {G : dk_G} {l : Launch}  (hD : dk_D G) (hri : dk_RI G) {s : dk_S} {K : dk_S → Prop} (h : wf_X8_settle s K) : dk_M G l 5 yX8_settle cX8_settle 1 none [dk_r G 0 40] s (dk_kv K) := by
  refine dk_of hD (by decide) [some (dk_r G 0 40)] (fun q hq => hq) rfl (Nat.le_of_ble_eq_true rfl) (fun P e S0 m args bel meth c C hr hlk => ?_)
  unfold wf_X8_settle at h
  refine dk_aload_n (i := 0) C dX8_settle_0 (n := 1) rfl rfl rfl ?_
  refine gf_X8_16 C (hri.1 40 (by decide) (by decide)) dX8_settle_1 (n := 4) rfl ?_
  refine gf_X8_111 C (hri.2.2.1 0 (by decide)) dX8_settle_4 (n := 7) rfl ?_
  refine dk_iconst (v := 0) C dX8_settle_7 (n := 8) rfl (by decide) ?_
  refine dk_callVi C [] (cc_X2_lives C.D hri.2.2.1 h) yy_X2_lives dk_wm_X8_284 dk_sh13 (hri.2.2.1 13 (by decide)) dX8_settle_8 (fun r2 s1 h => ?_) rfl rfl ⟨Nat.le_of_ble_eq_true rfl, Nat.le_of_ble_eq_true rfl⟩ rfl (Nat.le_of_ble_eq_true rfl) rfl (n := 11) rfl
  refine dk_if_ne (t := 38) C dX8_settle_11 (n := 14) rfl (by decide) (fun c6 => ?_) (fun c6 => ?_)
  · have h := h.1 c6
    exact dk_vret C hr hlk dX8_settle_38 ⟨rfl, h⟩
  · have h := h.2 c6
    refine dk_aload_n (i := 0) C dX8_settle_14 (n := 15) rfl rfl rfl ?_
    refine gf_X8_32 C (hri.1 40 (by decide) (by decide)) dX8_settle_15 (n := 18) rfl ?_
    refine dk_aload_n (i := 0) C dX8_settle_18 (n := 19) rfl rfl rfl ?_
    refine gf_X8_16 C (hri.1 40 (by decide) (by decide)) dX8_settle_19 (n := 22) rfl ?_
    refine dk_callVv C [] (cc_X0_note C.D hri hri.2.2.1 h) yy_X0_note dk_wm_X8_287 dk_sh45 (hri.1 45 (by decide) (by decide)) dX8_settle_22 (fun s3 h => ?_) rfl rfl ⟨Nat.le_of_ble_eq_true rfl, Nat.le_of_ble_eq_true rfl⟩ rfl (Nat.le_of_ble_eq_true rfl) rfl (n := 25) rfl
    refine dk_aload_n (i := 0) C dX8_settle_25 (n := 26) rfl rfl rfl ?_
    refine gf_X8_16 C (hri.1 40 (by decide) (by decide)) dX8_settle_26 (n := 29) rfl ?_
    refine dk_callVv C [] (cc_X7_layHands C.D hri.2.2.1 h) yy_X7_layHands dk_wm_X8_290 dk_sh0 (hri.2.2.1 0 (by decide)) dX8_settle_29 (fun s4 h => ?_) rfl rfl ⟨Nat.le_of_ble_eq_true rfl, Nat.le_of_ble_eq_true rfl⟩ rfl (Nat.le_of_ble_eq_true rfl) rfl (n := 32) rfl
    refine dk_aload_n (i := 0) C dX8_settle_32 (n := 33) rfl rfl rfl ?_
    refine dk_bipush (v := 100) C dX8_settle_33 (n := 35) rfl (by decide) ?_
    refine pf_X8_36 C (by decide) (by decide) (hri.1 40 (by decide) (by decide)) dX8_settle_35 (n := 38) rfl ?_
    refine dk_nameS (fun s5 es5 => ?_)
    have h := h s5 es5
    exact dk_vret C hr hlk dX8_settle_38 ⟨rfl, h⟩
/-! X8_act -/
set_option maxRecDepth 20000 in
set_option maxHeartbeats 4000000 in
theorem cc_X8_act {G : dk_G} {l : Launch} {a1 : Int32} {a2 : Int32} {a3 : Int32} (hD : dk_D G) (hri : dk_RI G) {s : dk_S} {K : Int32 → dk_S → Prop} (h : wf_X8_act a1 a2 a3 s K) : dk_M G l 7 yX8_act cX8_act 5 (some .int) [dk_r G 0 40, .int a1, .int a2, .int a3] s (dk_ki K) := by
  refine dk_of hD (by decide) [some (dk_r G 0 40), some (.int a1), some (.int a2), some (.int a3), none] (fun q hq => hq) rfl (Nat.le_of_ble_eq_true rfl) (fun P e S0 m args bel meth c C hr hlk => ?_)
  unfold wf_X8_act at h
  refine dk_aload_n (i := 0) C dX8_act_0 (n := 1) rfl rfl rfl ?_
  refine gf_X8_16 C (hri.1 40 (by decide) (by decide)) dX8_act_1 (n := 4) rfl ?_
  refine dk_iload_n (i := 1) C dX8_act_4 (n := 5) rfl rfl rfl ?_
  refine dk_iload_n (i := 2) C dX8_act_5 (n := 6) rfl rfl rfl ?_
  refine dk_iload_n (i := 3) C dX8_act_6 (n := 7) rfl rfl rfl ?_
  refine dk_callVi C [] (cc_X7_perform C.D hri.2.2.1 h) yy_X7_perform dk_wm_X8_279 dk_sh0 (hri.2.2.1 0 (by decide)) dX8_act_7 (fun r2 s1 h => ?_) rfl rfl ⟨Nat.le_of_ble_eq_true rfl, Nat.le_of_ble_eq_true rfl⟩ rfl (Nat.le_of_ble_eq_true rfl) rfl (n := 10) rfl
  refine dk_istore (i := 4) (L' := [some (dk_r G 0 40), some (.int a1), some (.int a2), some (.int a3), some (.int r2)]) C dX8_act_10 (n := 12) rfl (dk_nc_of rfl) (Nat.le_of_ble_eq_true rfl) rfl ?_
  refine dk_iload C dX8_act_12 (n := 14) rfl (i := 4) rfl ?_
  refine dk_ldc (v := (-1000000)) C dX8_act_14 (n := 16) rfl dk_wk_X8_188 ?_
  refine dk_icmp_eq (t := 40) C dX8_act_16 (n := 19) rfl (by decide) (fun c6 => ?_) (fun c6 => ?_)
  · have h := h.1 c6
    refine dk_iload C dX8_act_40 (n := 42) rfl (i := 4) rfl ?_
    exact dk_iret C hr hlk rfl dX8_act_42 ⟨_, rfl, h⟩
  · have h := h.2 c6
    refine dk_aload_n (i := 0) C dX8_act_19 (n := 20) rfl rfl rfl ?_
    refine gf_X8_25 C (hri.1 40 (by decide) (by decide)) dX8_act_20 (n := 23) rfl ?_
    refine dk_iload_n (i := 1) C dX8_act_23 (n := 24) rfl rfl rfl ?_
    refine dk_iload_n (i := 2) C dX8_act_24 (n := 25) rfl rfl rfl ?_
    refine dk_iload_n (i := 3) C dX8_act_25 (n := 26) rfl rfl rfl ?_
    refine dk_callVv C [] (cc_X5_add C.D hri h) yy_X5_add dk_wm_X8_282 dk_sh41 (hri.1 41 (by decide) (by decide)) dX8_act_26 (fun s3 h => ?_) rfl rfl ⟨Nat.le_of_ble_eq_true rfl, Nat.le_of_ble_eq_true rfl⟩ rfl (Nat.le_of_ble_eq_true rfl) rfl (n := 29) rfl
    refine dk_aload_n (i := 0) C dX8_act_29 (n := 30) rfl rfl rfl ?_
    refine gf_X8_16 C (hri.1 40 (by decide) (by decide)) dX8_act_30 (n := 33) rfl ?_
    refine dk_callVv C [] (cc_X7_waitForHero C.D hri.2.2.1 h) yy_X7_waitForHero dk_wm_X8_169 dk_sh0 (hri.2.2.1 0 (by decide)) dX8_act_33 (fun s4 h => ?_) rfl rfl ⟨Nat.le_of_ble_eq_true rfl, Nat.le_of_ble_eq_true rfl⟩ rfl (Nat.le_of_ble_eq_true rfl) rfl (n := 36) rfl
    refine dk_aload_n (i := 0) C dX8_act_36 (n := 37) rfl rfl rfl ?_
    refine dk_callVv C [] (cc_X8_settle C.D hri h) yy_X8_settle dk_wm_X8_172 dk_sh40 (hri.1 40 (by decide) (by decide)) dX8_act_37 (fun s5 h => ?_) rfl rfl ⟨Nat.le_of_ble_eq_true rfl, Nat.le_of_ble_eq_true rfl⟩ rfl (Nat.le_of_ble_eq_true rfl) rfl (n := 40) rfl
    refine dk_iload C dX8_act_40 (n := 42) rfl (i := 4) rfl ?_
    exact dk_iret C hr hlk rfl dX8_act_42 ⟨_, rfl, h⟩
/-! X8_redo -/
set_option maxRecDepth 20000 in
set_option maxHeartbeats 4000000 in
theorem ww_X8_redo_7 {G : dk_G} {P : Program} {l : Launch} {e : Env} {S0 : State} {m : MethodId} {args : Array Value} {bel : List Frame} {meth : Method} {c : Code}  (C : dk_C G P (dk_rm 7) S0 m args c 0 0 cX8_redo 1 RX8) (hr : meth.sig.returnType = none) (hlk : meth.locks = false) (hri : dk_RI G) {K : dk_S → Prop} {E91 : dk_S → Prop} (hE91 : ∀ (s : dk_S), E91 s → dk_W G P l e (dk_rm 7) S0 m args bel meth c 0 0 (MQ bel (dk_Qc G (dk_kv K)) args S0 0 0 (dk_A G)) 91 [some (dk_r G 0 40)] [] s) : ∀ (n : Nat)  (s : dk_S), wf_X8_redo_7 K E91 n  s → dk_W G P l e (dk_rm 7) S0 m args bel meth c 0 0 (MQ bel (dk_Qc G (dk_kv K)) args S0 0 0 (dk_A G)) 7 [some (dk_r G 0 40)] [] s := by
  intro n
  induction n with
  | zero => intro s h; exact False.elim h
  | succ n hB =>
    intro s h
    unfold wf_X8_redo_7 at h
    refine dk_aload_n (i := 0) C dX8_redo_7 (n := 8) rfl rfl rfl ?_
    refine gf_X8_40 C (hri.1 40 (by decide) (by decide)) dX8_redo_8 (n := 11) rfl ?_
    refine dk_aload_n (i := 0) C dX8_redo_11 (n := 12) rfl rfl rfl ?_
    refine gf_X8_25 C (hri.1 40 (by decide) (by decide)) dX8_redo_12 (n := 15) rfl ?_
    refine gf_X8_168 C (hri.1 41 (by decide) (by decide)) dX8_redo_15 (n := 18) rfl ?_
    refine dk_icmp_ge (t := 91) C dX8_redo_18 (n := 21) rfl (by decide) (fun c18 => ?_) (fun c18 => ?_)
    · have h := h.1 c18
      refine dk_sub (L0 := [some (dk_r G 0 40)]) ⟨rfl, trivial⟩ ?_
      exact hE91  s h
    · have h := h.2 c18
      refine dk_aload_n (i := 0) C dX8_redo_21 (n := 22) rfl rfl rfl ?_
      refine gf_X8_19 C (hri.1 40 (by decide) (by decide)) dX8_redo_22 (n := 25) rfl ?_
      refine dk_aload_n (i := 0) C dX8_redo_25 (n := 26) rfl rfl rfl ?_
      refine gf_X8_25 C (hri.1 40 (by decide) (by decide)) dX8_redo_26 (n := 29) rfl ?_
      refine gf_X8_293 C (hri.1 41 (by decide) (by decide)) dX8_redo_29 (n := 32) rfl ?_
      refine dk_aload_n (i := 0) C dX8_redo_32 (n := 33) rfl rfl rfl ?_
      refine gf_X8_40 C (hri.1 40 (by decide) (by decide)) dX8_redo_33 (n := 36) rfl ?_
      refine dk_callSi C [dk_r G 3 0] (cc_X8_at C.D dk_sh42 (hri.1 42 (by decide) (by decide)) h) yy_X8_at dk_wm_X8_94 dX8_redo_36 (fun r9 s8 h => ?_) rfl ⟨Nat.le_of_ble_eq_true rfl, Nat.le_of_ble_eq_true rfl⟩ rfl (Nat.le_of_ble_eq_true rfl) rfl (n := 39) rfl
      refine dk_aload_n (i := 0) C dX8_redo_39 (n := 40) rfl rfl rfl ?_
      refine gf_X8_25 C (hri.1 40 (by decide) (by decide)) dX8_redo_40 (n := 43) rfl ?_
      refine gf_X8_296 C (hri.1 41 (by decide) (by decide)) dX8_redo_43 (n := 46) rfl ?_
      refine dk_aload_n (i := 0) C dX8_redo_46 (n := 47) rfl rfl rfl ?_
      refine gf_X8_40 C (hri.1 40 (by decide) (by decide)) dX8_redo_47 (n := 50) rfl ?_
      refine dk_callSi C [.int r9, dk_r G 3 0] (cc_X8_at C.D dk_sh43 (hri.1 43 (by decide) (by decide)) h) yy_X8_at dk_wm_X8_94 dX8_redo_50 (fun r11 s10 h => ?_) rfl ⟨Nat.le_of_ble_eq_true rfl, Nat.le_of_ble_eq_true rfl⟩ rfl (Nat.le_of_ble_eq_true rfl) rfl (n := 53) rfl
      refine dk_aload_n (i := 0) C dX8_redo_53 (n := 54) rfl rfl rfl ?_
      refine gf_X8_25 C (hri.1 40 (by decide) (by decide)) dX8_redo_54 (n := 57) rfl ?_
      refine gf_X8_299 C (hri.1 41 (by decide) (by decide)) dX8_redo_57 (n := 60) rfl ?_
      refine dk_aload_n (i := 0) C dX8_redo_60 (n := 61) rfl rfl rfl ?_
      refine gf_X8_40 C (hri.1 40 (by decide) (by decide)) dX8_redo_61 (n := 64) rfl ?_
      refine dk_callSi C [.int r11, .int r9, dk_r G 3 0] (cc_X8_at C.D dk_sh44 (hri.1 44 (by decide) (by decide)) h) yy_X8_at dk_wm_X8_94 dX8_redo_64 (fun r13 s12 h => ?_) rfl ⟨Nat.le_of_ble_eq_true rfl, Nat.le_of_ble_eq_true rfl⟩ rfl (Nat.le_of_ble_eq_true rfl) rfl (n := 67) rfl
      refine dk_callVi C [] (cc_X7_perform C.D hri.2.2.2 h) yy_X7_perform dk_wm_X8_279 dk_sh0 (hri.2.2.2 0 (by decide)) dX8_redo_67 (fun r15 s14 h => ?_) rfl rfl ⟨Nat.le_of_ble_eq_true rfl, Nat.le_of_ble_eq_true rfl⟩ rfl (Nat.le_of_ble_eq_true rfl) rfl (n := 70) rfl
      refine dk_pop C dX8_redo_70 (n := 71) rfl rfl ?_
      refine dk_aload_n (i := 0) C dX8_redo_71 (n := 72) rfl rfl rfl ?_
      refine gf_X8_19 C (hri.1 40 (by decide) (by decide)) dX8_redo_72 (n := 75) rfl ?_
      refine dk_callVv C [] (cc_X7_waitForHero C.D hri.2.2.2 h) yy_X7_waitForHero dk_wm_X8_169 dk_sh0 (hri.2.2.2 0 (by decide)) dX8_redo_75 (fun s16 h => ?_) rfl rfl ⟨Nat.le_of_ble_eq_true rfl, Nat.le_of_ble_eq_true rfl⟩ rfl (Nat.le_of_ble_eq_true rfl) rfl (n := 78) rfl
      refine dk_aload_n (i := 0) C dX8_redo_78 (n := 79) rfl rfl rfl ?_
      refine dk_dup C dX8_redo_79 (n := 80) rfl rfl ?_
      refine gf_X8_40 C (hri.1 40 (by decide) (by decide)) dX8_redo_80 (n := 83) rfl ?_
      refine dk_iconst (v := 1) C dX8_redo_83 (n := 84) rfl (by decide) ?_
      refine dk_iadd C dX8_redo_84 (n := 85) rfl ?_
      refine pf_X8_40 C rfl rfl (hri.1 40 (by decide) (by decide)) dX8_redo_85 (n := 88) rfl ?_
      refine dk_nameS (fun s17 es17 => ?_)
      have h := h s17 es17
      refine dk_goto (t := 7) C dX8_redo_88 (by decide) ?_
      refine dk_sub (L0 := [some (dk_r G 0 40)]) ⟨rfl, trivial⟩ ?_
      exact hB  s17 h
set_option maxRecDepth 20000 in
set_option maxHeartbeats 4000000 in
theorem cc_X8_redo {G : dk_G} {l : Launch}  (hD : dk_D G) (hri : dk_RI G) {s : dk_S} {K : dk_S → Prop} (h : wf_X8_redo s K) : dk_M G l 7 yX8_redo cX8_redo 1 none [dk_r G 0 40] s (dk_kv K) := by
  refine dk_of hD (by decide) [some (dk_r G 0 40)] (fun q hq => hq) rfl (Nat.le_of_ble_eq_true rfl) (fun P e S0 m args bel meth c C hr hlk => ?_)
  unfold wf_X8_redo at h
  refine dk_aload_n (i := 0) C dX8_redo_0 (n := 1) rfl rfl rfl ?_
  refine gf_X8_19 C (hri.1 40 (by decide) (by decide)) dX8_redo_1 (n := 4) rfl ?_
  refine dk_callVv C [] (cc_X7_waitForHero C.D hri.2.2.2 h) yy_X7_waitForHero dk_wm_X8_169 dk_sh0 (hri.2.2.2 0 (by decide)) dX8_redo_4 (fun s1 h => ?_) rfl rfl ⟨Nat.le_of_ble_eq_true rfl, Nat.le_of_ble_eq_true rfl⟩ rfl (Nat.le_of_ble_eq_true rfl) rfl (n := 7) rfl
  obtain ⟨nn7, h⟩ := h
  refine dk_sub (L0 := [some (dk_r G 0 40)]) ⟨rfl, trivial⟩ ?_
  refine ww_X8_redo_7 C hr hlk hri (fun s2 h => ?_) nn7 s1 h
  · refine dk_aload_n (i := 0) C dX8_redo_91 (n := 92) rfl rfl rfl ?_
    refine gf_X8_19 C (hri.1 40 (by decide) (by decide)) dX8_redo_92 (n := 95) rfl ?_
    refine gf_X8_111 C (hri.2.2.2 0 (by decide)) dX8_redo_95 (n := 98) rfl ?_
    refine dk_iconst (v := 0) C dX8_redo_98 (n := 99) rfl (by decide) ?_
    refine dk_callVi C [] (cc_X2_lives C.D hri.2.2.2 h) yy_X2_lives dk_wm_X8_284 dk_sh13 (hri.2.2.2 13 (by decide)) dX8_redo_99 (fun r4 s3 h => ?_) rfl rfl ⟨Nat.le_of_ble_eq_true rfl, Nat.le_of_ble_eq_true rfl⟩ rfl (Nat.le_of_ble_eq_true rfl) rfl (n := 102) rfl
    refine dk_if_ne (t := 112) C dX8_redo_102 (n := 105) rfl (by decide) (fun c6 => ?_) (fun c6 => ?_)
    · have h := h.1 c6
      exact dk_vret C hr hlk dX8_redo_112 ⟨rfl, h⟩
    · have h := h.2 c6
      refine dk_aload_n (i := 0) C dX8_redo_105 (n := 106) rfl rfl rfl ?_
      refine gf_X8_19 C (hri.1 40 (by decide) (by decide)) dX8_redo_106 (n := 109) rfl ?_
      refine dk_callVv C [] (cc_X7_layHands C.D hri.2.2.2 h) yy_X7_layHands dk_wm_X8_290 dk_sh0 (hri.2.2.2 0 (by decide)) dX8_redo_109 (fun s5 h => ?_) rfl rfl ⟨Nat.le_of_ble_eq_true rfl, Nat.le_of_ble_eq_true rfl⟩ rfl (Nat.le_of_ble_eq_true rfl) rfl (n := 112) rfl
      exact dk_vret C hr hlk dX8_redo_112 ⟨rfl, h⟩
/-! X8_shownPlace -/
set_option maxRecDepth 20000 in
set_option maxHeartbeats 4000000 in
theorem cc_X8_shownPlace {G : dk_G} {l : Launch} {a0 : Int32} (hD : dk_D G)  {s : dk_S} {K : Int32 → dk_S → Prop} (h : wf_X8_shownPlace a0 s K) : dk_M G l 1 yX8_shownPlace cX8_shownPlace 1 (some .int) [.int a0] s (dk_ki K) := by
  refine dk_of hD (by decide) [some (.int a0)] (fun q hq => hq) rfl (Nat.le_of_ble_eq_true rfl) (fun P e S0 m args bel meth c C hr hlk => ?_)
  unfold wf_X8_shownPlace at h
  refine dk_bipush (v := 100) C dX8_shownPlace_0 (n := 2) rfl (by decide) ?_
  refine dk_iload_n (i := 0) C dX8_shownPlace_2 (n := 3) rfl rfl rfl ?_
  refine dk_bipush (v := 12) C dX8_shownPlace_3 (n := 5) rfl (by decide) ?_
  refine dk_idiv C dX8_shownPlace_5 (n := 6) rfl (by decide) ?_
  refine dk_imul C dX8_shownPlace_6 (n := 7) rfl ?_
  refine dk_iload_n (i := 0) C dX8_shownPlace_7 (n := 8) rfl rfl rfl ?_
  refine dk_bipush (v := 12) C dX8_shownPlace_8 (n := 10) rfl (by decide) ?_
  refine dk_irem C dX8_shownPlace_10 (n := 11) rfl (by decide) ?_
  refine dk_iadd C dX8_shownPlace_11 (n := 12) rfl ?_
  exact dk_iret C hr hlk rfl dX8_shownPlace_12 ⟨_, rfl, h⟩
/-! X9_thrown -/
set_option maxRecDepth 20000 in
set_option maxHeartbeats 4000000 in
theorem cc_X9_thrown {G : dk_G} {l : Launch}  (hD : dk_D G) (hmi : dk_MI G) {s : dk_S} {K : Int32 → dk_S → Prop} (h : wf_X9_thrown s K) : dk_M G l 1 yX9_thrown cX9_thrown 1 (some .int) [dk_r G 4 60] s (dk_ki K) := by
  refine dk_of hD (by decide) [some (dk_r G 4 60)] (fun q hq => hq) rfl (Nat.le_of_ble_eq_true rfl) (fun P e S0 m args bel meth c C hr hlk => ?_)
  unfold wf_X9_thrown at h
  refine dk_aload_n (i := 0) C dX9_thrown_0 (n := 1) rfl rfl rfl ?_
  refine gf_X9_107 C (hmi 60 (by decide) (by decide)) dX9_thrown_1 (n := 4) rfl ?_
  exact dk_iret C hr hlk rfl dX9_thrown_4 ⟨_, rfl, h⟩
/-! X9_in -/
set_option maxRecDepth 20000 in
set_option maxHeartbeats 4000000 in
theorem cc_X9_in {G : dk_G} {l : Launch} {a0 : Int32} {a1 : Int32} {a2 : Int32} (hD : dk_D G)  {s : dk_S} {K : Int32 → dk_S → Prop} (h : wf_X9_in a0 a1 a2 s K) : dk_M G l 1 yX9_in cX9_in 3 (some .boolean) [.int a0, .int a1, .int a2] s (dk_ki K) := by
  refine dk_of hD (by decide) [some (.int a0), some (.int a1), some (.int a2)] (fun q hq => hq) rfl (Nat.le_of_ble_eq_true rfl) (fun P e S0 m args bel meth c C hr hlk => ?_)
  unfold wf_X9_in at h
  refine dk_iload_n (i := 0) C dX9_in_0 (n := 1) rfl rfl rfl ?_
  refine dk_iload_n (i := 1) C dX9_in_1 (n := 2) rfl rfl rfl ?_
  refine dk_icmp_lt (t := 14) C dX9_in_2 (n := 5) rfl (by decide) (fun c2 => ?_) (fun c2 => ?_)
  · have h := h.1 c2
    refine dk_iconst (v := 0) C dX9_in_14 (n := 15) rfl (by decide) ?_
    exact dk_iret C hr hlk dk_nz0 dX9_in_15 ⟨_, rfl, h⟩
  · have h := h.2 c2
    refine dk_iload_n (i := 0) C dX9_in_5 (n := 6) rfl rfl rfl ?_
    refine dk_iload_n (i := 2) C dX9_in_6 (n := 7) rfl rfl rfl ?_
    refine dk_icmp_gt (t := 14) C dX9_in_7 (n := 10) rfl (by decide) (fun c1 => ?_) (fun c1 => ?_)
    · have h := h.1 c1
      refine dk_iconst (v := 0) C dX9_in_14 (n := 15) rfl (by decide) ?_
      exact dk_iret C hr hlk dk_nz0 dX9_in_15 ⟨_, rfl, h⟩
    · have h := h.2 c1
      refine dk_iconst (v := 1) C dX9_in_10 (n := 11) rfl (by decide) ?_
      refine dk_goto (t := 15) C dX9_in_11 (by decide) ?_
      exact dk_iret C hr hlk dk_nz1 dX9_in_15 ⟨_, rfl, h⟩
/-! X9_goesOn -/
set_option maxRecDepth 20000 in
set_option maxHeartbeats 4000000 in
theorem cc_X9_goesOn {G : dk_G} {l : Launch} {a1 : Int32} (hD : dk_D G) (hmi : dk_MI G) {s : dk_S} {K : Int32 → dk_S → Prop} (h : wf_X9_goesOn a1 s K) : dk_M G l 1 yX9_goesOn cX9_goesOn 2 (some .boolean) [dk_r G 4 60, .int a1] s (dk_ki K) := by
  refine dk_of hD (by decide) [some (dk_r G 4 60), some (.int a1)] (fun q hq => hq) rfl (Nat.le_of_ble_eq_true rfl) (fun P e S0 m args bel meth c C hr hlk => ?_)
  unfold wf_X9_goesOn at h
  refine dk_aload_n (i := 0) C dX9_goesOn_0 (n := 1) rfl rfl rfl ?_
  refine dk_iload_n (i := 1) C dX9_goesOn_1 (n := 2) rfl rfl rfl ?_
  refine pf_X9_107 C rfl rfl (hmi 60 (by decide) (by decide)) dX9_goesOn_2 (n := 5) rfl ?_
  refine dk_nameS (fun s1 es1 => ?_)
  have h := h s1 es1
  refine dk_iload_n (i := 1) C dX9_goesOn_5 (n := 6) rfl rfl rfl ?_
  refine dk_if_ne (t := 13) C dX9_goesOn_6 (n := 9) rfl (by decide) (fun c2 => ?_) (fun c2 => ?_)
  · have h := h.1 c2
    refine dk_iconst (v := 0) C dX9_goesOn_13 (n := 14) rfl (by decide) ?_
    exact dk_iret C hr hlk dk_nz0 dX9_goesOn_14 ⟨_, rfl, h⟩
  · have h := h.2 c2
    refine dk_iconst (v := 1) C dX9_goesOn_9 (n := 10) rfl (by decide) ?_
    refine dk_goto (t := 14) C dX9_goesOn_10 (by decide) ?_
    exact dk_iret C hr hlk dk_nz1 dX9_goesOn_14 ⟨_, rfl, h⟩
/-! X9_isPlace -/
set_option maxRecDepth 20000 in
set_option maxHeartbeats 4000000 in
theorem cc_X9_isPlace {G : dk_G} {l : Launch} {a0 : Int32} {a1 : Int32} (hD : dk_D G)  {s : dk_S} {K : Int32 → dk_S → Prop} (h : wf_X9_isPlace a0 a1 s K) : dk_M G l 2 yX9_isPlace cX9_isPlace 2 (some .boolean) [.int a0, .int a1] s (dk_ki K) := by
  refine dk_of hD (by decide) [some (.int a0), some (.int a1)] (fun q hq => hq) rfl (Nat.le_of_ble_eq_true rfl) (fun P e S0 m args bel meth c C hr hlk => ?_)
  unfold wf_X9_isPlace at h
  refine dk_iload_n (i := 0) C dX9_isPlace_0 (n := 1) rfl rfl rfl ?_
  refine dk_iconst (v := 0) C dX9_isPlace_1 (n := 2) rfl (by decide) ?_
  refine dk_bipush (v := 11) C dX9_isPlace_2 (n := 4) rfl (by decide) ?_
  refine dk_callSi C [] (cc_X9_in C.D  h) yy_X9_in dk_wm_X9_110 dX9_isPlace_4 (fun r2 s1 h => ?_) rfl ⟨Nat.le_of_ble_eq_true rfl, Nat.le_of_ble_eq_true rfl⟩ rfl (Nat.le_of_ble_eq_true rfl) rfl (n := 7) rfl
  refine dk_if_eq (t := 24) C dX9_isPlace_7 (n := 10) rfl (by decide) (fun c6 => ?_) (fun c6 => ?_)
  · have h := h.1 c6
    refine dk_iconst (v := 0) C dX9_isPlace_24 (n := 25) rfl (by decide) ?_
    exact dk_iret C hr hlk dk_nz0 dX9_isPlace_25 ⟨_, rfl, h⟩
  · have h := h.2 c6
    refine dk_iload_n (i := 1) C dX9_isPlace_10 (n := 11) rfl rfl rfl ?_
    refine dk_iconst (v := 0) C dX9_isPlace_11 (n := 12) rfl (by decide) ?_
    refine dk_bipush (v := 11) C dX9_isPlace_12 (n := 14) rfl (by decide) ?_
    refine dk_callSi C [] (cc_X9_in C.D  h) yy_X9_in dk_wm_X9_110 dX9_isPlace_14 (fun r4 s3 h => ?_) rfl ⟨Nat.le_of_ble_eq_true rfl, Nat.le_of_ble_eq_true rfl⟩ rfl (Nat.le_of_ble_eq_true rfl) rfl (n := 17) rfl
    refine dk_if_eq (t := 24) C dX9_isPlace_17 (n := 20) rfl (by decide) (fun c5 => ?_) (fun c5 => ?_)
    · have h := h.1 c5
      refine dk_iconst (v := 0) C dX9_isPlace_24 (n := 25) rfl (by decide) ?_
      exact dk_iret C hr hlk dk_nz0 dX9_isPlace_25 ⟨_, rfl, h⟩
    · have h := h.2 c5
      refine dk_iconst (v := 1) C dX9_isPlace_20 (n := 21) rfl (by decide) ?_
      refine dk_goto (t := 25) C dX9_isPlace_21 (by decide) ?_
      exact dk_iret C hr hlk dk_nz1 dX9_isPlace_25 ⟨_, rfl, h⟩
/-! X9_at -/
set_option maxRecDepth 20000 in
set_option maxHeartbeats 4000000 in
theorem cc_X9_at {G : dk_G} {l : Launch} {a0 : Int32} {a1 : Int32} (hD : dk_D G)  {s : dk_S} {K : Int32 → dk_S → Prop} (h : wf_X9_at a0 a1 s K) : dk_M G l 1 yX9_at cX9_at 2 (some .int) [.int a0, .int a1] s (dk_ki K) := by
  refine dk_of hD (by decide) [some (.int a0), some (.int a1)] (fun q hq => hq) rfl (Nat.le_of_ble_eq_true rfl) (fun P e S0 m args bel meth c C hr hlk => ?_)
  unfold wf_X9_at at h
  refine dk_bipush (v := 12) C dX9_at_0 (n := 2) rfl (by decide) ?_
  refine dk_iload_n (i := 1) C dX9_at_2 (n := 3) rfl rfl rfl ?_
  refine dk_imul C dX9_at_3 (n := 4) rfl ?_
  refine dk_iload_n (i := 0) C dX9_at_4 (n := 5) rfl rfl rfl ?_
  refine dk_iadd C dX9_at_5 (n := 6) rfl ?_
  exact dk_iret C hr hlk rfl dX9_at_6 ⟨_, rfl, h⟩
/-! X9_xOf -/
set_option maxRecDepth 20000 in
set_option maxHeartbeats 4000000 in
theorem cc_X9_xOf {G : dk_G} {l : Launch} {a0 : Int32} (hD : dk_D G)  {s : dk_S} {K : Int32 → dk_S → Prop} (h : wf_X9_xOf a0 s K) : dk_M G l 1 yX9_xOf cX9_xOf 1 (some .int) [.int a0] s (dk_ki K) := by
  refine dk_of hD (by decide) [some (.int a0)] (fun q hq => hq) rfl (Nat.le_of_ble_eq_true rfl) (fun P e S0 m args bel meth c C hr hlk => ?_)
  unfold wf_X9_xOf at h
  refine dk_iload_n (i := 0) C dX9_xOf_0 (n := 1) rfl rfl rfl ?_
  refine dk_bipush (v := 12) C dX9_xOf_1 (n := 3) rfl (by decide) ?_
  refine dk_irem C dX9_xOf_3 (n := 4) rfl (by decide) ?_
  exact dk_iret C hr hlk rfl dX9_xOf_4 ⟨_, rfl, h⟩
/-! X9_yOf -/
set_option maxRecDepth 20000 in
set_option maxHeartbeats 4000000 in
theorem cc_X9_yOf {G : dk_G} {l : Launch} {a0 : Int32} (hD : dk_D G)  {s : dk_S} {K : Int32 → dk_S → Prop} (h : wf_X9_yOf a0 s K) : dk_M G l 1 yX9_yOf cX9_yOf 1 (some .int) [.int a0] s (dk_ki K) := by
  refine dk_of hD (by decide) [some (.int a0)] (fun q hq => hq) rfl (Nat.le_of_ble_eq_true rfl) (fun P e S0 m args bel meth c C hr hlk => ?_)
  unfold wf_X9_yOf at h
  refine dk_iload_n (i := 0) C dX9_yOf_0 (n := 1) rfl rfl rfl ?_
  refine dk_bipush (v := 12) C dX9_yOf_1 (n := 3) rfl (by decide) ?_
  refine dk_idiv C dX9_yOf_3 (n := 4) rfl (by decide) ?_
  exact dk_iret C hr hlk rfl dX9_yOf_4 ⟨_, rfl, h⟩
/-! X9_told -/
set_option maxRecDepth 20000 in
set_option maxHeartbeats 4000000 in
theorem cc_X9_told {G : dk_G} {l : Launch} {a0 : Int32} (hD : dk_D G)  {s : dk_S} {K : Int32 → dk_S → Prop} (h : wf_X9_told a0 s K) : dk_M G l 2 yX9_told cX9_told 1 (some .int) [.int a0] s (dk_ki K) := by
  refine dk_of hD (by decide) [some (.int a0)] (fun q hq => hq) rfl (Nat.le_of_ble_eq_true rfl) (fun P e S0 m args bel meth c C hr hlk => ?_)
  unfold wf_X9_told at h
  refine dk_bipush (v := 100) C dX9_told_0 (n := 2) rfl (by decide) ?_
  refine dk_iload_n (i := 0) C dX9_told_2 (n := 3) rfl rfl rfl ?_
  refine dk_callSi C [.int 100] (cc_X9_xOf C.D  h) yy_X9_xOf dk_wm_X9_114 dX9_told_3 (fun r2 s1 h => ?_) rfl ⟨Nat.le_of_ble_eq_true rfl, Nat.le_of_ble_eq_true rfl⟩ rfl (Nat.le_of_ble_eq_true rfl) rfl (n := 6) rfl
  refine dk_imul C dX9_told_6 (n := 7) rfl ?_
  refine dk_iload_n (i := 0) C dX9_told_7 (n := 8) rfl rfl rfl ?_
  refine dk_callSi C [.int (100 * r2)] (cc_X9_yOf C.D  h) yy_X9_yOf dk_wm_X9_118 dX9_told_8 (fun r4 s3 h => ?_) rfl ⟨Nat.le_of_ble_eq_true rfl, Nat.le_of_ble_eq_true rfl⟩ rfl (Nat.le_of_ble_eq_true rfl) rfl (n := 11) rfl
  refine dk_iadd C dX9_told_11 (n := 12) rfl ?_
  exact dk_iret C hr hlk rfl dX9_told_12 ⟨_, rfl, h⟩
/-! X9_far -/
set_option maxRecDepth 20000 in
set_option maxHeartbeats 4000000 in
theorem cc_X9_far {G : dk_G} {l : Launch} {a0 : Int32} (hD : dk_D G)  {s : dk_S} {K : Int32 → dk_S → Prop} (h : wf_X9_far a0 s K) : dk_M G l 1 yX9_far cX9_far 1 (some .int) [.int a0] s (dk_ki K) := by
  refine dk_of hD (by decide) [some (.int a0)] (fun q hq => hq) rfl (Nat.le_of_ble_eq_true rfl) (fun P e S0 m args bel meth c C hr hlk => ?_)
  unfold wf_X9_far at h
  refine dk_iload_n (i := 0) C dX9_far_0 (n := 1) rfl rfl rfl ?_
  refine dk_if_ge (t := 9) C dX9_far_1 (n := 4) rfl (by decide) (fun c1 => ?_) (fun c1 => ?_)
  · have h := h.1 c1
    refine dk_iload_n (i := 0) C dX9_far_9 (n := 10) rfl rfl rfl ?_
    exact dk_iret C hr hlk rfl dX9_far_10 ⟨_, rfl, h⟩
  · have h := h.2 c1
    refine dk_iload_n (i := 0) C dX9_far_4 (n := 5) rfl rfl rfl ?_
    refine dk_ineg C dX9_far_5 (n := 6) rfl ?_
    refine dk_goto (t := 10) C dX9_far_6 (by decide) ?_
    exact dk_iret C hr hlk rfl dX9_far_10 ⟨_, rfl, h⟩
/-! X9_isOn -/
set_option maxRecDepth 20000 in
set_option maxHeartbeats 4000000 in
theorem cc_X9_isOn {G : dk_G} {l : Launch}  (hD : dk_D G) (hmi : dk_MI G) {s : dk_S} {K : Int32 → dk_S → Prop} (h : wf_X9_isOn s K) : dk_M G l 1 yX9_isOn cX9_isOn 1 (some .boolean) [dk_r G 4 60] s (dk_ki K) := by
  refine dk_of hD (by decide) [some (dk_r G 4 60)] (fun q hq => hq) rfl (Nat.le_of_ble_eq_true rfl) (fun P e S0 m args bel meth c C hr hlk => ?_)
  unfold wf_X9_isOn at h
  refine dk_aload_n (i := 0) C dX9_isOn_0 (n := 1) rfl rfl rfl ?_
  refine gf_X9_7 C (hmi 60 (by decide) (by decide)) dX9_isOn_1 (n := 4) rfl ?_
  refine dk_bipush (v := 111) C dX9_isOn_4 (n := 6) rfl (by decide) ?_
  refine dk_icmp_ne (t := 13) C dX9_isOn_6 (n := 9) rfl (by decide) (fun c1 => ?_) (fun c1 => ?_)
  · have h := h.1 c1
    refine dk_iconst (v := 0) C dX9_isOn_13 (n := 14) rfl (by decide) ?_
    exact dk_iret C hr hlk dk_nz0 dX9_isOn_14 ⟨_, rfl, h⟩
  · have h := h.2 c1
    refine dk_iconst (v := 1) C dX9_isOn_9 (n := 10) rfl (by decide) ?_
    refine dk_goto (t := 14) C dX9_isOn_10 (by decide) ?_
    exact dk_iret C hr hlk dk_nz1 dX9_isOn_14 ⟨_, rfl, h⟩
/-! X9_beside -/
set_option maxRecDepth 20000 in
set_option maxHeartbeats 4000000 in
theorem ww_X9_beside_47 {G : dk_G} {P : Program} {l : Launch} {e : Env} {S0 : State} {m : MethodId} {args : Array Value} {bel : List Frame} {meth : Method} {c : Code}  (C : dk_C G P (dk_rm 3) S0 m args c 0 0 cX9_beside 4 RX9) (hr : meth.sig.returnType = (some .int)) (hlk : meth.locks = false)  {K : Int32 → dk_S → Prop}  : ∀ (x2 : Int32) (y0 : Int32) (y1 : Int32) (s : dk_S), wf_X9_beside_47 K x2 y0 y1 s → dk_W G P l e (dk_rm 3) S0 m args bel meth c 0 0 (MQ bel (dk_Qc G (dk_ki K)) args S0 0 0 (dk_A G)) 47 [none, none, some (.int x2), none] [.int y0, .int y1] s := by
  intro x2 y0 y1 s h
  unfold wf_X9_beside_47 at h
  refine dk_iadd C dX9_beside_47 (n := 48) rfl ?_
  refine dk_name (fun v10 ev10 => ?_)
  have h := h v10 ev10
  refine dk_istore_n (i := 3) (L' := [none, none, some (.int x2), some (.int v10)]) C dX9_beside_48 (n := 49) rfl rfl (dk_nc_of rfl) (Nat.le_of_ble_eq_true rfl) rfl ?_
  refine dk_iload_n (i := 2) C dX9_beside_49 (n := 50) rfl rfl rfl ?_
  refine dk_iload_n (i := 3) C dX9_beside_50 (n := 51) rfl rfl rfl ?_
  refine dk_callSi C [] (cc_X9_isPlace C.D  h) yy_X9_isPlace dk_wm_X9_121 dX9_beside_51 (fun r12 s11 h => ?_) rfl ⟨Nat.le_of_ble_eq_true rfl, Nat.le_of_ble_eq_true rfl⟩ rfl (Nat.le_of_ble_eq_true rfl) rfl (n := 54) rfl
  refine dk_if_eq (t := 65) C dX9_beside_54 (n := 57) rfl (by decide) (fun c15 => ?_) (fun c15 => ?_)
  · have h := h.1 c15
    refine dk_iconst (v := (-1)) C dX9_beside_65 (n := 66) rfl (by decide) ?_
    exact dk_iret C hr hlk rfl dX9_beside_66 ⟨_, rfl, h⟩
  · have h := h.2 c15
    refine dk_iload_n (i := 2) C dX9_beside_57 (n := 58) rfl rfl rfl ?_
    refine dk_iload_n (i := 3) C dX9_beside_58 (n := 59) rfl rfl rfl ?_
    refine dk_callSi C [] (cc_X9_at C.D  h) yy_X9_at dk_wm_X9_125 dX9_beside_59 (fun r14 s13 h => ?_) rfl ⟨Nat.le_of_ble_eq_true rfl, Nat.le_of_ble_eq_true rfl⟩ rfl (Nat.le_of_ble_eq_true rfl) rfl (n := 62) rfl
    refine dk_goto (t := 66) C dX9_beside_62 (by decide) ?_
    exact dk_iret C hr hlk rfl dX9_beside_66 ⟨_, rfl, h⟩
set_option maxRecDepth 20000 in
set_option maxHeartbeats 4000000 in
theorem ww_X9_beside_23 {G : dk_G} {P : Program} {l : Launch} {e : Env} {S0 : State} {m : MethodId} {args : Array Value} {bel : List Frame} {meth : Method} {c : Code}  (C : dk_C G P (dk_rm 3) S0 m args c 0 0 cX9_beside 4 RX9) (hr : meth.sig.returnType = (some .int)) (hlk : meth.locks = false)  {K : Int32 → dk_S → Prop}  : ∀ (x0 : Int32) (x1 : Int32) (y0 : Int32) (y1 : Int32) (s : dk_S), wf_X9_beside_23 K x0 x1 y0 y1 s → dk_W G P l e (dk_rm 3) S0 m args bel meth c 0 0 (MQ bel (dk_Qc G (dk_ki K)) args S0 0 0 (dk_A G)) 23 [some (.int x0), some (.int x1), none, none] [.int y0, .int y1] s := by
  intro x0 x1 y0 y1 s h
  unfold wf_X9_beside_23 at h
  refine dk_iadd C dX9_beside_23 (n := 24) rfl ?_
  refine dk_name (fun v5 ev5 => ?_)
  have h := h v5 ev5
  refine dk_istore_n (i := 2) (L' := [some (.int x0), some (.int x1), some (.int v5), none]) C dX9_beside_24 (n := 25) rfl rfl (dk_nc_of rfl) (Nat.le_of_ble_eq_true rfl) rfl ?_
  refine dk_iload_n (i := 0) C dX9_beside_25 (n := 26) rfl rfl rfl ?_
  refine dk_callSi C [] (cc_X9_yOf C.D  h) yy_X9_yOf dk_wm_X9_118 dX9_beside_26 (fun r7 s6 h => ?_) rfl ⟨Nat.le_of_ble_eq_true rfl, Nat.le_of_ble_eq_true rfl⟩ rfl (Nat.le_of_ble_eq_true rfl) rfl (n := 29) rfl
  refine dk_iload_n (i := 1) C dX9_beside_29 (n := 30) rfl rfl rfl ?_
  refine dk_iconst (v := 2) C dX9_beside_30 (n := 31) rfl (by decide) ?_
  refine dk_icmp_ne (t := 38) C dX9_beside_31 (n := 34) rfl (by decide) (fun c9 => ?_) (fun c9 => ?_)
  · have h := h.1 c9
    refine dk_iload_n (i := 1) C dX9_beside_38 (n := 39) rfl rfl rfl ?_
    refine dk_if_ne (t := 46) C dX9_beside_39 (n := 42) rfl (by decide) (fun c8 => ?_) (fun c8 => ?_)
    · have h := h.1 c8
      refine dk_iconst (v := 0) C dX9_beside_46 (n := 47) rfl (by decide) ?_
      refine dk_sub (L0 := [none, none, some (.int v5), none]) ⟨rfl, trivial⟩ ?_
      exact ww_X9_beside_47 C hr hlk  v5 0 r7 s6 h
    · have h := h.2 c8
      refine dk_iconst (v := (-1)) C dX9_beside_42 (n := 43) rfl (by decide) ?_
      refine dk_goto (t := 47) C dX9_beside_43 (by decide) ?_
      refine dk_sub (L0 := [none, none, some (.int v5), none]) ⟨rfl, trivial⟩ ?_
      exact ww_X9_beside_47 C hr hlk  v5 (-1) r7 s6 h
  · have h := h.2 c9
    refine dk_iconst (v := 1) C dX9_beside_34 (n := 35) rfl (by decide) ?_
    refine dk_goto (t := 47) C dX9_beside_35 (by decide) ?_
    refine dk_sub (L0 := [none, none, some (.int v5), none]) ⟨rfl, trivial⟩ ?_
    exact ww_X9_beside_47 C hr hlk  v5 1 r7 s6 h
set_option maxRecDepth 20000 in
set_option maxHeartbeats 4000000 in
theorem cc_X9_beside {G : dk_G} {l : Launch} {a0 : Int32} {a1 : Int32} (hD : dk_D G)  {s : dk_S} {K : Int32 → dk_S → Prop} (h : wf_X9_beside a0 a1 s K) : dk_M G l 3 yX9_beside cX9_beside 4 (some .int) [.int a0, .int a1] s (dk_ki K) := by
  refine dk_of hD (by decide) [some (.int a0), some (.int a1), none, none] (fun q hq => hq) rfl (Nat.le_of_ble_eq_true rfl) (fun P e S0 m args bel meth c C hr hlk => ?_)
  unfold wf_X9_beside at h
  refine dk_iload_n (i := 0) C dX9_beside_0 (n := 1) rfl rfl rfl ?_
  refine dk_callSi C [] (cc_X9_xOf C.D  h) yy_X9_xOf dk_wm_X9_114 dX9_beside_1 (fun r2 s1 h => ?_) rfl ⟨Nat.le_of_ble_eq_true rfl, Nat.le_of_ble_eq_true rfl⟩ rfl (Nat.le_of_ble_eq_true rfl) rfl (n := 4) rfl
  refine dk_iload_n (i := 1) C dX9_beside_4 (n := 5) rfl rfl rfl ?_
  refine dk_iconst (v := 1) C dX9_beside_5 (n := 6) rfl (by decide) ?_
  refine dk_icmp_ne (t := 13) C dX9_beside_6 (n := 9) rfl (by decide) (fun c4 => ?_) (fun c4 => ?_)
  · have h := h.1 c4
    refine dk_iload_n (i := 1) C dX9_beside_13 (n := 14) rfl rfl rfl ?_
    refine dk_iconst (v := 3) C dX9_beside_14 (n := 15) rfl (by decide) ?_
    refine dk_icmp_ne (t := 22) C dX9_beside_15 (n := 18) rfl (by decide) (fun c3 => ?_) (fun c3 => ?_)
    · have h := h.1 c3
      refine dk_iconst (v := 0) C dX9_beside_22 (n := 23) rfl (by decide) ?_
      refine dk_sub (L0 := [some (.int a0), some (.int a1), none, none]) ⟨rfl, ⟨rfl, trivial⟩⟩ ?_
      exact ww_X9_beside_23 C hr hlk  a0 a1 0 r2 s1 h
    · have h := h.2 c3
      refine dk_iconst (v := (-1)) C dX9_beside_18 (n := 19) rfl (by decide) ?_
      refine dk_goto (t := 23) C dX9_beside_19 (by decide) ?_
      refine dk_sub (L0 := [some (.int a0), some (.int a1), none, none]) ⟨rfl, ⟨rfl, trivial⟩⟩ ?_
      exact ww_X9_beside_23 C hr hlk  a0 a1 (-1) r2 s1 h
  · have h := h.2 c4
    refine dk_iconst (v := 1) C dX9_beside_9 (n := 10) rfl (by decide) ?_
    refine dk_goto (t := 23) C dX9_beside_10 (by decide) ?_
    refine dk_sub (L0 := [some (.int a0), some (.int a1), none, none]) ⟨rfl, ⟨rfl, trivial⟩⟩ ?_
    exact ww_X9_beside_23 C hr hlk  a0 a1 1 r2 s1 h
/-! X9_isFreeKind -/
set_option maxRecDepth 20000 in
set_option maxHeartbeats 4000000 in
theorem cc_X9_isFreeKind {G : dk_G} {l : Launch} {a0 : Int32} (hD : dk_D G)  {s : dk_S} {K : Int32 → dk_S → Prop} (h : wf_X9_isFreeKind a0 s K) : dk_M G l 1 yX9_isFreeKind cX9_isFreeKind 1 (some .boolean) [.int a0] s (dk_ki K) := by
  refine dk_of hD (by decide) [some (.int a0)] (fun q hq => hq) rfl (Nat.le_of_ble_eq_true rfl) (fun P e S0 m args bel meth c C hr hlk => ?_)
  unfold wf_X9_isFreeKind at h
  refine dk_iload_n (i := 0) C dX9_isFreeKind_0 (n := 1) rfl rfl rfl ?_
  refine dk_bipush (v := 46) C dX9_isFreeKind_1 (n := 3) rfl (by decide) ?_
  refine dk_icmp_eq (t := 18) C dX9_isFreeKind_3 (n := 6) rfl (by decide) (fun c3 => ?_) (fun c3 => ?_)
  · have h := h.1 c3
    refine dk_iconst (v := 1) C dX9_isFreeKind_18 (n := 19) rfl (by decide) ?_
    refine dk_goto (t := 23) C dX9_isFreeKind_19 (by decide) ?_
    exact dk_iret C hr hlk dk_nz1 dX9_isFreeKind_23 ⟨_, rfl, h⟩
  · have h := h.2 c3
    refine dk_iload_n (i := 0) C dX9_isFreeKind_6 (n := 7) rfl rfl rfl ?_
    refine dk_bipush (v := 126) C dX9_isFreeKind_7 (n := 9) rfl (by decide) ?_
    refine dk_icmp_eq (t := 18) C dX9_isFreeKind_9 (n := 12) rfl (by decide) (fun c2 => ?_) (fun c2 => ?_)
    · have h := h.1 c2
      refine dk_iconst (v := 1) C dX9_isFreeKind_18 (n := 19) rfl (by decide) ?_
      refine dk_goto (t := 23) C dX9_isFreeKind_19 (by decide) ?_
      exact dk_iret C hr hlk dk_nz1 dX9_isFreeKind_23 ⟨_, rfl, h⟩
    · have h := h.2 c2
      refine dk_iload_n (i := 0) C dX9_isFreeKind_12 (n := 13) rfl rfl rfl ?_
      refine dk_bipush (v := 47) C dX9_isFreeKind_13 (n := 15) rfl (by decide) ?_
      refine dk_icmp_ne (t := 22) C dX9_isFreeKind_15 (n := 18) rfl (by decide) (fun c1 => ?_) (fun c1 => ?_)
      · have h := h.1 c1
        refine dk_iconst (v := 0) C dX9_isFreeKind_22 (n := 23) rfl (by decide) ?_
        exact dk_iret C hr hlk dk_nz0 dX9_isFreeKind_23 ⟨_, rfl, h⟩
      · have h := h.2 c1
        refine dk_iconst (v := 1) C dX9_isFreeKind_18 (n := 19) rfl (by decide) ?_
        refine dk_goto (t := 23) C dX9_isFreeKind_19 (by decide) ?_
        exact dk_iret C hr hlk dk_nz1 dX9_isFreeKind_23 ⟨_, rfl, h⟩
/-! X9_isFree -/
set_option maxRecDepth 20000 in
set_option maxHeartbeats 4000000 in
theorem cc_X9_isFree {G : dk_G} {l : Launch} {a1 : Int32} (hD : dk_D G) (hmi : dk_MI G) {s : dk_S} {K : Int32 → dk_S → Prop} (h : wf_X9_isFree a1 s K) : dk_M G l 2 yX9_isFree cX9_isFree 2 (some .boolean) [dk_r G 4 60, .int a1] s (dk_ki K) := by
  refine dk_of hD (by decide) [some (dk_r G 4 60), some (.int a1)] (fun q hq => hq) rfl (Nat.le_of_ble_eq_true rfl) (fun P e S0 m args bel meth c C hr hlk => ?_)
  unfold wf_X9_isFree at h
  refine dk_iload_n (i := 1) C dX9_isFree_0 (n := 1) rfl rfl rfl ?_
  refine dk_iconst (v := (-1)) C dX9_isFree_1 (n := 2) rfl (by decide) ?_
  refine dk_icmp_eq (t := 21) C dX9_isFree_2 (n := 5) rfl (by decide) (fun c4 => ?_) (fun c4 => ?_)
  · have h := h.1 c4
    refine dk_iconst (v := 0) C dX9_isFree_21 (n := 22) rfl (by decide) ?_
    exact dk_iret C hr hlk dk_nz0 dX9_isFree_22 ⟨_, rfl, h⟩
  · have h := h.2 c4
    refine dk_aload_n (i := 0) C dX9_isFree_5 (n := 6) rfl rfl rfl ?_
    refine gf_X9_62 C (hmi 60 (by decide) (by decide)) dX9_isFree_6 (n := 9) rfl ?_
    refine dk_iload_n (i := 1) C dX9_isFree_9 (n := 10) rfl rfl rfl ?_
    refine dk_cald C dk_sh75 h.1 (hmi 75 (by decide) (by decide)) dX9_isFree_10 (n := 11) rfl ?_
    have h := h.2
    refine dk_callSi C [] (cc_X9_isFreeKind C.D  h) yy_X9_isFreeKind dk_wm_X9_129 dX9_isFree_11 (fun r2 s1 h => ?_) rfl ⟨Nat.le_of_ble_eq_true rfl, Nat.le_of_ble_eq_true rfl⟩ rfl (Nat.le_of_ble_eq_true rfl) rfl (n := 14) rfl
    refine dk_if_eq (t := 21) C dX9_isFree_14 (n := 17) rfl (by decide) (fun c3 => ?_) (fun c3 => ?_)
    · have h := h.1 c3
      refine dk_iconst (v := 0) C dX9_isFree_21 (n := 22) rfl (by decide) ?_
      exact dk_iret C hr hlk dk_nz0 dX9_isFree_22 ⟨_, rfl, h⟩
    · have h := h.2 c3
      refine dk_iconst (v := 1) C dX9_isFree_17 (n := 18) rfl (by decide) ?_
      refine dk_goto (t := 22) C dX9_isFree_18 (by decide) ?_
      exact dk_iret C hr hlk dk_nz1 dX9_isFree_22 ⟨_, rfl, h⟩
/-! X9_becomesAsTold -/
set_option maxRecDepth 20000 in
set_option maxHeartbeats 4000000 in
theorem ww_X9_becomesAsTold_119 {G : dk_G} {P : Program} {l : Launch} {e : Env} {S0 : State} {m : MethodId} {args : Array Value} {bel : List Frame} {meth : Method} {c : Code}  (C : dk_C G P (dk_rm 1) S0 m args c 0 0 cX9_becomesAsTold 2 RX9) (hr : meth.sig.returnType = none) (hlk : meth.locks = false) (hmi : dk_MI G) {K : dk_S → Prop} {E138 : dk_S → Prop} (hE138 : ∀ (s : dk_S), E138 s → dk_W G P l e (dk_rm 1) S0 m args bel meth c 0 0 (MQ bel (dk_Qc G (dk_kv K)) args S0 0 0 (dk_A G)) 138 [some (dk_r G 4 60), none] [] s) : ∀ (n : Nat) (x1 : Int32) (s : dk_S), wf_X9_becomesAsTold_119 K E138 n x1 s → dk_W G P l e (dk_rm 1) S0 m args bel meth c 0 0 (MQ bel (dk_Qc G (dk_kv K)) args S0 0 0 (dk_A G)) 119 [some (dk_r G 4 60), some (.int x1)] [] s := by
  intro n
  induction n with
  | zero => intro x1 s h; exact False.elim h
  | succ n hB =>
    intro x1 s h
    unfold wf_X9_becomesAsTold_119 at h
    refine dk_iload_n (i := 1) C dX9_becomesAsTold_119 (n := 120) rfl rfl rfl ?_
    refine dk_bipush (v := 8) C dX9_becomesAsTold_120 (n := 122) rfl (by decide) ?_
    refine dk_icmp_ge (t := 138) C dX9_becomesAsTold_122 (n := 125) rfl (by decide) (fun c14 => ?_) (fun c14 => ?_)
    · have h := h.1 c14
      refine dk_sub (L0 := [some (dk_r G 4 60), none]) ⟨rfl, trivial⟩ ?_
      exact hE138  s h
    · have h := h.2 c14
      refine dk_aload_n (i := 0) C dX9_becomesAsTold_125 (n := 126) rfl rfl rfl ?_
      refine gf_X9_86 C (hmi 60 (by decide) (by decide)) dX9_becomesAsTold_126 (n := 129) rfl ?_
      refine dk_iload_n (i := 1) C dX9_becomesAsTold_129 (n := 130) rfl rfl rfl ?_
      refine dk_iconst (v := 0) C dX9_becomesAsTold_130 (n := 131) rfl (by decide) ?_
      refine dk_zast C dk_sh83 h.1 (hmi 83 (by decide) (by decide)) dX9_becomesAsTold_131 (n := 132) rfl ?_
      refine dk_nameS (fun s12 es12 => ?_)
      have h := h.2 s12 es12
      obtain ⟨v13, ev13⟩ : ∃ y : Int32, y = x1 + 1 := ⟨_, rfl⟩
      have h := h v13 ev13
      refine dk_iinc (i := 1) (v := v13) (L' := [some (dk_r G 4 60), some (.int v13)]) C dX9_becomesAsTold_132 (n := 135) rfl rfl (by rw [ev13]; rfl) (dk_nc_of rfl) (Nat.le_of_ble_eq_true rfl) rfl ?_
      refine dk_goto (t := 119) C dX9_becomesAsTold_135 (by decide) ?_
      refine dk_sub (L0 := [some (dk_r G 4 60), some (.int v13)]) ⟨rfl, ⟨rfl, trivial⟩⟩ ?_
      exact hB v13 s12 h
set_option maxRecDepth 20000 in
set_option maxHeartbeats 4000000 in
theorem ww_X9_becomesAsTold_93 {G : dk_G} {P : Program} {l : Launch} {e : Env} {S0 : State} {m : MethodId} {args : Array Value} {bel : List Frame} {meth : Method} {c : Code}  (C : dk_C G P (dk_rm 1) S0 m args c 0 0 cX9_becomesAsTold 2 RX9) (hr : meth.sig.returnType = none) (hlk : meth.locks = false) (hmi : dk_MI G) {K : dk_S → Prop} {E117 : dk_S → Prop} (hE117 : ∀ (s : dk_S), E117 s → dk_W G P l e (dk_rm 1) S0 m args bel meth c 0 0 (MQ bel (dk_Qc G (dk_kv K)) args S0 0 0 (dk_A G)) 117 [some (dk_r G 4 60), none] [] s) : ∀ (n : Nat) (x1 : Int32) (s : dk_S), wf_X9_becomesAsTold_93 K E117 n x1 s → dk_W G P l e (dk_rm 1) S0 m args bel meth c 0 0 (MQ bel (dk_Qc G (dk_kv K)) args S0 0 0 (dk_A G)) 93 [some (dk_r G 4 60), some (.int x1)] [] s := by
  intro n
  induction n with
  | zero => intro x1 s h; exact False.elim h
  | succ n hB =>
    intro x1 s h
    unfold wf_X9_becomesAsTold_93 at h
    refine dk_iload_n (i := 1) C dX9_becomesAsTold_93 (n := 94) rfl rfl rfl ?_
    refine dk_bipush (v := 24) C dX9_becomesAsTold_94 (n := 96) rfl (by decide) ?_
    refine dk_icmp_ge (t := 117) C dX9_becomesAsTold_96 (n := 99) rfl (by decide) (fun c17 => ?_) (fun c17 => ?_)
    · have h := h.1 c17
      refine dk_sub (L0 := [some (dk_r G 4 60), none]) ⟨rfl, trivial⟩ ?_
      exact hE117  s h
    · have h := h.2 c17
      refine dk_aload_n (i := 0) C dX9_becomesAsTold_99 (n := 100) rfl rfl rfl ?_
      refine gf_X9_83 C (hmi 60 (by decide) (by decide)) dX9_becomesAsTold_100 (n := 103) rfl ?_
      refine dk_iload_n (i := 1) C dX9_becomesAsTold_103 (n := 104) rfl rfl rfl ?_
      refine dk_aload_n (i := 0) C dX9_becomesAsTold_104 (n := 105) rfl rfl rfl ?_
      refine gf_X9_53 C (hmi 60 (by decide) (by decide)) dX9_becomesAsTold_105 (n := 108) rfl ?_
      refine dk_iload_n (i := 1) C dX9_becomesAsTold_108 (n := 109) rfl rfl rfl ?_
      refine dk_iald C dk_sh72 h.1 (hmi 72 (by decide) (by decide)) dX9_becomesAsTold_109 (n := 110) rfl ?_
      have h := h.2
      refine dk_iast C dk_sh82 h.1 (hmi 82 (by decide) (by decide)) dX9_becomesAsTold_110 (n := 111) rfl ?_
      refine dk_nameS (fun s15 es15 => ?_)
      have h := h.2 s15 es15
      obtain ⟨v16, ev16⟩ : ∃ y : Int32, y = x1 + 1 := ⟨_, rfl⟩
      have h := h v16 ev16
      refine dk_iinc (i := 1) (v := v16) (L' := [some (dk_r G 4 60), some (.int v16)]) C dX9_becomesAsTold_111 (n := 114) rfl rfl (by rw [ev16]; rfl) (dk_nc_of rfl) (Nat.le_of_ble_eq_true rfl) rfl ?_
      refine dk_goto (t := 93) C dX9_becomesAsTold_114 (by decide) ?_
      refine dk_sub (L0 := [some (dk_r G 4 60), some (.int v16)]) ⟨rfl, ⟨rfl, trivial⟩⟩ ?_
      exact hB v16 s15 h
set_option maxRecDepth 20000 in
set_option maxHeartbeats 4000000 in
theorem ww_X9_becomesAsTold_34 {G : dk_G} {P : Program} {l : Launch} {e : Env} {S0 : State} {m : MethodId} {args : Array Value} {bel : List Frame} {meth : Method} {c : Code}  (C : dk_C G P (dk_rm 1) S0 m args c 0 0 cX9_becomesAsTold 2 RX9) (hr : meth.sig.returnType = none) (hlk : meth.locks = false) (hmi : dk_MI G) {K : dk_S → Prop} {E91 : dk_S → Prop} (hE91 : ∀ (s : dk_S), E91 s → dk_W G P l e (dk_rm 1) S0 m args bel meth c 0 0 (MQ bel (dk_Qc G (dk_kv K)) args S0 0 0 (dk_A G)) 91 [some (dk_r G 4 60), none] [] s) : ∀ (n : Nat) (x1 : Int32) (s : dk_S), wf_X9_becomesAsTold_34 K E91 n x1 s → dk_W G P l e (dk_rm 1) S0 m args bel meth c 0 0 (MQ bel (dk_Qc G (dk_kv K)) args S0 0 0 (dk_A G)) 34 [some (dk_r G 4 60), some (.int x1)] [] s := by
  intro n
  induction n with
  | zero => intro x1 s h; exact False.elim h
  | succ n hB =>
    intro x1 s h
    unfold wf_X9_becomesAsTold_34 at h
    refine dk_iload_n (i := 1) C dX9_becomesAsTold_34 (n := 35) rfl rfl rfl ?_
    refine dk_bipush (v := 8) C dX9_becomesAsTold_35 (n := 37) rfl (by decide) ?_
    refine dk_icmp_ge (t := 91) C dX9_becomesAsTold_37 (n := 40) rfl (by decide) (fun c24 => ?_) (fun c24 => ?_)
    · have h := h.1 c24
      refine dk_sub (L0 := [some (dk_r G 4 60), none]) ⟨rfl, trivial⟩ ?_
      exact hE91  s h
    · have h := h.2 c24
      refine dk_aload_n (i := 0) C dX9_becomesAsTold_40 (n := 41) rfl rfl rfl ?_
      refine gf_X9_65 C (hmi 60 (by decide) (by decide)) dX9_becomesAsTold_41 (n := 44) rfl ?_
      refine dk_iload_n (i := 1) C dX9_becomesAsTold_44 (n := 45) rfl rfl rfl ?_
      refine dk_aload_n (i := 0) C dX9_becomesAsTold_45 (n := 46) rfl rfl rfl ?_
      refine gf_X9_38 C (hmi 60 (by decide) (by decide)) dX9_becomesAsTold_46 (n := 49) rfl ?_
      refine dk_iload_n (i := 1) C dX9_becomesAsTold_49 (n := 50) rfl rfl rfl ?_
      refine dk_iald C dk_sh67 h.1 (hmi 67 (by decide) (by decide)) dX9_becomesAsTold_50 (n := 51) rfl ?_
      have h := h.2
      refine dk_iast C dk_sh76 h.1 (hmi 76 (by decide) (by decide)) dX9_becomesAsTold_51 (n := 52) rfl ?_
      refine dk_nameS (fun s18 es18 => ?_)
      have h := h.2 s18 es18
      refine dk_aload_n (i := 0) C dX9_becomesAsTold_52 (n := 53) rfl rfl rfl ?_
      refine gf_X9_68 C (hmi 60 (by decide) (by decide)) dX9_becomesAsTold_53 (n := 56) rfl ?_
      refine dk_iload_n (i := 1) C dX9_becomesAsTold_56 (n := 57) rfl rfl rfl ?_
      refine dk_aload_n (i := 0) C dX9_becomesAsTold_57 (n := 58) rfl rfl rfl ?_
      refine gf_X9_47 C (hmi 60 (by decide) (by decide)) dX9_becomesAsTold_58 (n := 61) rfl ?_
      refine dk_iload_n (i := 1) C dX9_becomesAsTold_61 (n := 62) rfl rfl rfl ?_
      refine dk_iald C dk_sh70 h.1 (hmi 70 (by decide) (by decide)) dX9_becomesAsTold_62 (n := 63) rfl ?_
      have h := h.2
      refine dk_iast C dk_sh77 h.1 (hmi 77 (by decide) (by decide)) dX9_becomesAsTold_63 (n := 64) rfl ?_
      refine dk_nameS (fun s19 es19 => ?_)
      have h := h.2 s19 es19
      refine dk_aload_n (i := 0) C dX9_becomesAsTold_64 (n := 65) rfl rfl rfl ?_
      refine gf_X9_71 C (hmi 60 (by decide) (by decide)) dX9_becomesAsTold_65 (n := 68) rfl ?_
      refine dk_iload_n (i := 1) C dX9_becomesAsTold_68 (n := 69) rfl rfl rfl ?_
      refine dk_iconst (v := 0) C dX9_becomesAsTold_69 (n := 70) rfl (by decide) ?_
      refine dk_iast C dk_sh78 h.1 (hmi 78 (by decide) (by decide)) dX9_becomesAsTold_70 (n := 71) rfl ?_
      refine dk_nameS (fun s20 es20 => ?_)
      have h := h.2 s20 es20
      refine dk_aload_n (i := 0) C dX9_becomesAsTold_71 (n := 72) rfl rfl rfl ?_
      refine gf_X9_77 C (hmi 60 (by decide) (by decide)) dX9_becomesAsTold_72 (n := 75) rfl ?_
      refine dk_iload_n (i := 1) C dX9_becomesAsTold_75 (n := 76) rfl rfl rfl ?_
      refine dk_iconst (v := 0) C dX9_becomesAsTold_76 (n := 77) rfl (by decide) ?_
      refine dk_iast C dk_sh80 h.1 (hmi 80 (by decide) (by decide)) dX9_becomesAsTold_77 (n := 78) rfl ?_
      refine dk_nameS (fun s21 es21 => ?_)
      have h := h.2 s21 es21
      refine dk_aload_n (i := 0) C dX9_becomesAsTold_78 (n := 79) rfl rfl rfl ?_
      refine gf_X9_80 C (hmi 60 (by decide) (by decide)) dX9_becomesAsTold_79 (n := 82) rfl ?_
      refine dk_iload_n (i := 1) C dX9_becomesAsTold_82 (n := 83) rfl rfl rfl ?_
      refine dk_iconst (v := (-1)) C dX9_becomesAsTold_83 (n := 84) rfl (by decide) ?_
      refine dk_iast C dk_sh81 h.1 (hmi 81 (by decide) (by decide)) dX9_becomesAsTold_84 (n := 85) rfl ?_
      refine dk_nameS (fun s22 es22 => ?_)
      have h := h.2 s22 es22
      obtain ⟨v23, ev23⟩ : ∃ y : Int32, y = x1 + 1 := ⟨_, rfl⟩
      have h := h v23 ev23
      refine dk_iinc (i := 1) (v := v23) (L' := [some (dk_r G 4 60), some (.int v23)]) C dX9_becomesAsTold_85 (n := 88) rfl rfl (by rw [ev23]; rfl) (dk_nc_of rfl) (Nat.le_of_ble_eq_true rfl) rfl ?_
      refine dk_goto (t := 34) C dX9_becomesAsTold_88 (by decide) ?_
      refine dk_sub (L0 := [some (dk_r G 4 60), some (.int v23)]) ⟨rfl, ⟨rfl, trivial⟩⟩ ?_
      exact hB v23 s22 h
set_option maxRecDepth 20000 in
set_option maxHeartbeats 4000000 in
theorem ww_X9_becomesAsTold_7 {G : dk_G} {P : Program} {l : Launch} {e : Env} {S0 : State} {m : MethodId} {args : Array Value} {bel : List Frame} {meth : Method} {c : Code}  (C : dk_C G P (dk_rm 1) S0 m args c 0 0 cX9_becomesAsTold 2 RX9) (hr : meth.sig.returnType = none) (hlk : meth.locks = false) (hmi : dk_MI G) {K : dk_S → Prop} {E32 : dk_S → Prop} (hE32 : ∀ (s : dk_S), E32 s → dk_W G P l e (dk_rm 1) S0 m args bel meth c 0 0 (MQ bel (dk_Qc G (dk_kv K)) args S0 0 0 (dk_A G)) 32 [some (dk_r G 4 60), none] [] s) : ∀ (n : Nat) (x1 : Int32) (s : dk_S), wf_X9_becomesAsTold_7 K E32 n x1 s → dk_W G P l e (dk_rm 1) S0 m args bel meth c 0 0 (MQ bel (dk_Qc G (dk_kv K)) args S0 0 0 (dk_A G)) 7 [some (dk_r G 4 60), some (.int x1)] [] s := by
  intro n
  induction n with
  | zero => intro x1 s h; exact False.elim h
  | succ n hB =>
    intro x1 s h
    unfold wf_X9_becomesAsTold_7 at h
    refine dk_iload_n (i := 1) C dX9_becomesAsTold_7 (n := 8) rfl rfl rfl ?_
    refine dk_sipush (v := 144) C dX9_becomesAsTold_8 (n := 11) rfl (by decide) ?_
    refine dk_icmp_ge (t := 32) C dX9_becomesAsTold_11 (n := 14) rfl (by decide) (fun c27 => ?_) (fun c27 => ?_)
    · have h := h.1 c27
      refine dk_sub (L0 := [some (dk_r G 4 60), none]) ⟨rfl, trivial⟩ ?_
      exact hE32  s h
    · have h := h.2 c27
      refine dk_aload_n (i := 0) C dX9_becomesAsTold_14 (n := 15) rfl rfl rfl ?_
      refine gf_X9_62 C (hmi 60 (by decide) (by decide)) dX9_becomesAsTold_15 (n := 18) rfl ?_
      refine dk_iload_n (i := 1) C dX9_becomesAsTold_18 (n := 19) rfl rfl rfl ?_
      refine dk_aload_n (i := 0) C dX9_becomesAsTold_19 (n := 20) rfl rfl rfl ?_
      refine gf_X9_13 C (hmi 60 (by decide) (by decide)) dX9_becomesAsTold_20 (n := 23) rfl ?_
      refine dk_iload_n (i := 1) C dX9_becomesAsTold_23 (n := 24) rfl rfl rfl ?_
      refine dk_cald C dk_sh61 h.1 (hmi 61 (by decide) (by decide)) dX9_becomesAsTold_24 (n := 25) rfl ?_
      have h := h.2
      refine dk_cast C dk_sh75 h.1 (hmi 75 (by decide) (by decide)) dX9_becomesAsTold_25 (n := 26) rfl ?_
      refine dk_nameS (fun s25 es25 => ?_)
      have h := h.2 s25 es25
      obtain ⟨v26, ev26⟩ : ∃ y : Int32, y = x1 + 1 := ⟨_, rfl⟩
      have h := h v26 ev26
      refine dk_iinc (i := 1) (v := v26) (L' := [some (dk_r G 4 60), some (.int v26)]) C dX9_becomesAsTold_26 (n := 29) rfl rfl (by rw [ev26]; rfl) (dk_nc_of rfl) (Nat.le_of_ble_eq_true rfl) rfl ?_
      refine dk_goto (t := 7) C dX9_becomesAsTold_29 (by decide) ?_
      refine dk_sub (L0 := [some (dk_r G 4 60), some (.int v26)]) ⟨rfl, ⟨rfl, trivial⟩⟩ ?_
      exact hB v26 s25 h
set_option maxRecDepth 20000 in
set_option maxHeartbeats 4000000 in
theorem cc_X9_becomesAsTold {G : dk_G} {l : Launch}  (hD : dk_D G) (hmi : dk_MI G) {s : dk_S} {K : dk_S → Prop} (h : wf_X9_becomesAsTold s K) : dk_M G l 1 yX9_becomesAsTold cX9_becomesAsTold 2 none [dk_r G 4 60] s (dk_kv K) := by
  refine dk_of hD (by decide) [some (dk_r G 4 60), none] (fun q hq => hq) rfl (Nat.le_of_ble_eq_true rfl) (fun P e S0 m args bel meth c C hr hlk => ?_)
  unfold wf_X9_becomesAsTold at h
  refine dk_aload_n (i := 0) C dX9_becomesAsTold_0 (n := 1) rfl rfl rfl ?_
  refine dk_iconst (v := 0) C dX9_becomesAsTold_1 (n := 2) rfl (by decide) ?_
  refine pf_X9_133 C rfl rfl (hmi 60 (by decide) (by decide)) dX9_becomesAsTold_2 (n := 5) rfl ?_
  refine dk_nameS (fun s1 es1 => ?_)
  have h := h s1 es1
  refine dk_iconst (v := 0) C dX9_becomesAsTold_5 (n := 6) rfl (by decide) ?_
  refine dk_istore_n (i := 1) (L' := [some (dk_r G 4 60), some (.int 0)]) C dX9_becomesAsTold_6 (n := 7) rfl rfl (dk_nc_of rfl) (Nat.le_of_ble_eq_true rfl) rfl ?_
  obtain ⟨nn11, h⟩ := h
  refine dk_sub (L0 := [some (dk_r G 4 60), some (.int 0)]) ⟨rfl, ⟨rfl, trivial⟩⟩ ?_
  refine ww_X9_becomesAsTold_7 C hr hlk hmi (fun s2 h => ?_) nn11 0 s1 h
  · refine dk_iconst (v := 0) C dX9_becomesAsTold_32 (n := 33) rfl (by decide) ?_
    refine dk_istore_n (i := 1) (L' := [some (dk_r G 4 60), some (.int 0)]) C dX9_becomesAsTold_33 (n := 34) rfl rfl (dk_nc_of rfl) (Nat.le_of_ble_eq_true rfl) rfl ?_
    obtain ⟨nn10, h⟩ := h
    refine dk_sub (L0 := [some (dk_r G 4 60), some (.int 0)]) ⟨rfl, ⟨rfl, trivial⟩⟩ ?_
    refine ww_X9_becomesAsTold_34 C hr hlk hmi (fun s3 h => ?_) nn10 0 s2 h
    · refine dk_iconst (v := 0) C dX9_becomesAsTold_91 (n := 92) rfl (by decide) ?_
      refine dk_istore_n (i := 1) (L' := [some (dk_r G 4 60), some (.int 0)]) C dX9_becomesAsTold_92 (n := 93) rfl rfl (dk_nc_of rfl) (Nat.le_of_ble_eq_true rfl) rfl ?_
      obtain ⟨nn9, h⟩ := h
      refine dk_sub (L0 := [some (dk_r G 4 60), some (.int 0)]) ⟨rfl, ⟨rfl, trivial⟩⟩ ?_
      refine ww_X9_becomesAsTold_93 C hr hlk hmi (fun s4 h => ?_) nn9 0 s3 h
      · refine dk_iconst (v := 0) C dX9_becomesAsTold_117 (n := 118) rfl (by decide) ?_
        refine dk_istore_n (i := 1) (L' := [some (dk_r G 4 60), some (.int 0)]) C dX9_becomesAsTold_118 (n := 119) rfl rfl (dk_nc_of rfl) (Nat.le_of_ble_eq_true rfl) rfl ?_
        obtain ⟨nn8, h⟩ := h
        refine dk_sub (L0 := [some (dk_r G 4 60), some (.int 0)]) ⟨rfl, ⟨rfl, trivial⟩⟩ ?_
        refine ww_X9_becomesAsTold_119 C hr hlk hmi (fun s5 h => ?_) nn8 0 s4 h
        · refine dk_aload_n (i := 0) C dX9_becomesAsTold_138 (n := 139) rfl rfl rfl ?_
          refine dk_iconst (v := 0) C dX9_becomesAsTold_139 (n := 140) rfl (by decide) ?_
          refine pf_X9_136 C rfl rfl (hmi 60 (by decide) (by decide)) dX9_becomesAsTold_140 (n := 143) rfl ?_
          refine dk_nameS (fun s6 es6 => ?_)
          have h := h s6 es6
          refine dk_aload_n (i := 0) C dX9_becomesAsTold_143 (n := 144) rfl rfl rfl ?_
          refine dk_iconst (v := 0) C dX9_becomesAsTold_144 (n := 145) rfl (by decide) ?_
          refine pf_X9_139 C rfl rfl (hmi 60 (by decide) (by decide)) dX9_becomesAsTold_145 (n := 148) rfl ?_
          refine dk_nameS (fun s7 es7 => ?_)
          have h := h s7 es7
          exact dk_vret C hr hlk dX9_becomesAsTold_148 ⟨rfl, h⟩
