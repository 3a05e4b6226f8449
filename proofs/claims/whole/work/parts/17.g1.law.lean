/-! the cases *of* the law 9 to 17 -/
set_option maxRecDepth 20000 in
set_option maxHeartbeats 4000000 in
theorem dl_case_9 {G : dk_G} {O : dl_T} {p : Program} {l : Launch} {e : Env} {s : State} {m : MethodId} {args : Array Value} {below : List Frame} {meth : Method} {c : Code} {cells slots : Nat} {Q : State → Prop} {b Ls : Nat} {xs : Nat → Int32} (hD : dk_D G) (hl : l.stackTraces = false) (hri : dk_RI G) (hmi : dk_MI G) (hg : dl_G G O) (C : dw_C G O p s m args c cL_law 9 RL) (hX : va_X b Ls xs s s.heap) (hb : b < s.heap.size) (hbA : ¬ dl_A O b) (hLs : Ls ≤ 3072) (hRc : cells + 1 ≤ room_1.cells ∧ slots + 6 ≤ room_1.slots) {i k : Nat} (hi : i + 6 ≤ Ls) (hk : k < 512) {σ : dk_S} {fO : Nat → Int64} {fD : Nat → UInt64} (hI : dq_I k σ) (kk : ∀ (u : dk_S) (fO' : Nat → Int64) (fD' : Nat → UInt64), dq_I (k + 1) u → dw_W G O p l e room_1 s m args below meth c (cells + 1) (slots + 6) Q 2297 (dl_L G O b i) [] u fO' fD') : dw_W G O p l e room_1 s m args below meth c cells slots Q 932 (dl_L G O b i) [] σ fO fD := by
  refine dw_aload_n (i := 1) C dL_law_932 (n := 933) rfl rfl rfl ?_
  refine dw_aload_n (i := 0) C dL_law_933 (n := 934) rfl rfl rfl ?_
  refine dw_iload (i := 5) C dL_law_934 (n := 936) rfl rfl ?_
  refine dw_iconst (v := 1) C dL_law_936 (n := 937) rfl (by decide) ?_
  refine dw_iadd C dL_law_937 (n := 938) rfl ?_
  refine dw_sld C hX hb hbA (dl_in hi hLs (j := 1) (by decide) (by decide)) dL_law_938 (n := 939) rfl ?_
  refine dw_aload_n (i := 3) C dL_law_939 (n := 940) rfl rfl rfl ?_
  have hz : dz_C k (wf_X8_go (xs (nI i + 1).toNatClampNeg)) (wf_X9_go (xs (nI i + 1).toNatClampNeg)) [(eIA, 1), (eIS, 2)] σ := dz_go hk hI
  obtain ⟨K, X, hwK, hXt, hM⟩ := dl_both hz (by decide +kernel)
  refine dw_callW C [] (cw_L_go hD hl hri hg hXt hwK) yw_L_go dk_wm_L_174 rfl (by decide) hRc rfl (by decide) rfl dL_law_940 (n := 943) rfl (fun r σ' fO' fD' hp => ?_)
  have hm := hM Int32.toInt64 fD r σ' fO' fD' hp
  refine dw_istore (i := 6) (L' := [some (.ref b), some (dk_r G 0 40), some (dk_r G 4 60), some (.ref O.2.1), some (.ref O.2.2.1), some (.int (nI i)), some (.int r), none, none]) C dL_law_943 (n := 945) rfl (dk_nc_of rfl) (Nat.le_of_ble_eq_true rfl) rfl ?_
  refine dw_aload_n (i := 2) C dL_law_945 (n := 946) rfl rfl rfl ?_
  refine dw_aload_n (i := 0) C dL_law_946 (n := 947) rfl rfl rfl ?_
  refine dw_iload (i := 5) C dL_law_947 (n := 949) rfl rfl ?_
  refine dw_iconst (v := 1) C dL_law_949 (n := 950) rfl (by decide) ?_
  refine dw_iadd C dL_law_950 (n := 951) rfl ?_
  refine dw_sld C hX hb hbA (dl_in hi hLs (j := 1) (by decide) (by decide)) dL_law_951 (n := 952) rfl ?_
  refine dw_callV C [] (cc_X9_go hD hmi hm) yy_X9_go dk_wm_L_176 rfl (by decide) hRc dk_sh60 rfl (hmi 60 (by decide) (by decide)) rfl (by decide) rfl dL_law_952 (n := 955) rfl (fun v u hv => ?_)
  obtain ⟨b1, rfl, hu, h0, hb1⟩ := hv
  refine dw_istore (i := 7) (L' := [some (.ref b), some (dk_r G 0 40), some (dk_r G 4 60), some (.ref O.2.1), some (.ref O.2.2.1), some (.int (nI i)), some (.int r), some (.int b1), none]) C dL_law_955 (n := 957) rfl (dk_nc_of rfl) (Nat.le_of_ble_eq_true rfl) rfl ?_
  refine dw_aload_n (i := 2) C dL_law_957 (n := 958) rfl rfl rfl ?_
  refine dw_callV C [] (cc_X9_thrown hD hmi (dl_thr h0)) yy_X9_thrown dk_wm_L_140 rfl (by decide) hRc dk_sh60 rfl (hmi 60 (by decide) (by decide)) rfl (by decide) rfl dL_law_958 (n := 961) rfl (fun v w hv => ?_)
  obtain ⟨x1, rfl, e1, e2⟩ := hv
  subst e2
  refine dw_iload (i := 6) C dL_law_961 (n := 963) rfl rfl ?_
  refine dw_icmp_eq (t := 968) C dL_law_963 (n := 966) rfl (by decide) (fun _ => ?_) (fun hc => absurd e1 hc)
  refine dw_iload (i := 6) C dL_law_968 (n := 970) rfl rfl ?_
  have hex : dw_W G O p l e room_1 s m args below meth c (cells + 1) (slots + 6) Q 985 [some (.ref b), some (dk_r G 0 40), some (dk_r G 4 60), some (.ref O.2.1), some (.ref O.2.2.1), some (.int (nI i)), some (.int r), some (.int b1), none] [] w fO' fD' := dw_goto (t := 2297) C dL_law_985 (by decide) (dw_sub (L0 := dl_L G O b i) ⟨rfl, rfl, rfl, rfl, rfl, rfl, trivial⟩ (kk w fO' fD' hu))
  refine dw_if_ne (t := 985) C dL_law_970 (n := 973) rfl (by decide) (fun _ => hex) (fun hc => ?_)
  refine dw_aload_n (i := 3) C dL_law_973 (n := 974) rfl rfl rfl ?_
  refine dw_iconst (v := 0) C dL_law_974 (n := 975) rfl (by decide) ?_
  refine dw_lald C dL_law_975 (n := 976) rfl ?_
  refine dw_iload (i := 7) C dL_law_976 (n := 978) rfl rfl ?_
  refine dw_i2l C dL_law_978 (n := 979) rfl ?_
  refine dw_lcmp C dL_law_979 (n := 980) rfl ?_
  exact dw_if_eq (t := 985) C dL_law_980 (n := 983) rfl (by decide) (fun _ => hex) (fun hn => absurd (dl_cmp0 (hb1 hc)) hn)
set_option maxRecDepth 20000 in
set_option maxHeartbeats 4000000 in
theorem dl_case_10 {G : dk_G} {O : dl_T} {p : Program} {l : Launch} {e : Env} {s : State} {m : MethodId} {args : Array Value} {below : List Frame} {meth : Method} {c : Code} {cells slots : Nat} {Q : State → Prop} {b Ls : Nat} {xs : Nat → Int32} (hD : dk_D G) (hl : l.stackTraces = false) (hri : dk_RI G) (hmi : dk_MI G) (hg : dl_G G O) (C : dw_C G O p s m args c cL_law 9 RL) (hX : va_X b Ls xs s s.heap) (hb : b < s.heap.size) (hbA : ¬ dl_A O b) (hLs : Ls ≤ 3072) (hRc : cells + 1 ≤ room_1.cells ∧ slots + 6 ≤ room_1.slots) {i k : Nat} (hi : i + 6 ≤ Ls) (hk : k < 512) {σ : dk_S} {fO : Nat → Int64} {fD : Nat → UInt64} (hI : dq_I k σ) (kk : ∀ (u : dk_S) (fO' : Nat → Int64) (fD' : Nat → UInt64), dq_I (k + 1) u → dw_W G O p l e room_1 s m args below meth c (cells + 1) (slots + 6) Q 2297 (dl_L G O b i) [] u fO' fD') : dw_W G O p l e room_1 s m args below meth c cells slots Q 988 (dl_L G O b i) [] σ fO fD := by
  refine dw_aload_n (i := 1) C dL_law_988 (n := 989) rfl rfl rfl ?_
  refine dw_aload_n (i := 3) C dL_law_989 (n := 990) rfl rfl rfl ?_
  have hz : dz_C k (wf_X8_rest) (wf_X9_rest) [(eIS, 1)] σ := dz_rest hk hI
  obtain ⟨K, X, hwK, hXt, hM⟩ := dl_both hz (by decide +kernel)
  refine dw_callW C [] (cw_L_rest hD hl hri hg hXt hwK) yw_L_rest dk_wm_L_177 rfl (by decide) hRc rfl (by decide) rfl dL_law_990 (n := 993) rfl (fun r σ' fO' fD' hp => ?_)
  have hm := hM Int32.toInt64 fD r σ' fO' fD' hp
  refine dw_istore (i := 6) (L' := [some (.ref b), some (dk_r G 0 40), some (dk_r G 4 60), some (.ref O.2.1), some (.ref O.2.2.1), some (.int (nI i)), some (.int r), none, none]) C dL_law_993 (n := 995) rfl (dk_nc_of rfl) (Nat.le_of_ble_eq_true rfl) rfl ?_
  refine dw_aload_n (i := 2) C dL_law_995 (n := 996) rfl rfl rfl ?_
  refine dw_callV C [] (cc_X9_rest hD hmi hm) yy_X9_rest dk_wm_L_179 rfl (by decide) hRc dk_sh60 rfl (hmi 60 (by decide) (by decide)) rfl (by decide) rfl dL_law_996 (n := 999) rfl (fun v u hv => ?_)
  obtain ⟨b1, rfl, hu, h0, hb1⟩ := hv
  refine dw_istore (i := 7) (L' := [some (.ref b), some (dk_r G 0 40), some (dk_r G 4 60), some (.ref O.2.1), some (.ref O.2.2.1), some (.int (nI i)), some (.int r), some (.int b1), none]) C dL_law_999 (n := 1001) rfl (dk_nc_of rfl) (Nat.le_of_ble_eq_true rfl) rfl ?_
  refine dw_aload_n (i := 2) C dL_law_1001 (n := 1002) rfl rfl rfl ?_
  refine dw_callV C [] (cc_X9_thrown hD hmi (dl_thr h0)) yy_X9_thrown dk_wm_L_140 rfl (by decide) hRc dk_sh60 rfl (hmi 60 (by decide) (by decide)) rfl (by decide) rfl dL_law_1002 (n := 1005) rfl (fun v w hv => ?_)
  obtain ⟨x1, rfl, e1, e2⟩ := hv
  subst e2
  refine dw_iload (i := 6) C dL_law_1005 (n := 1007) rfl rfl ?_
  refine dw_icmp_eq (t := 1012) C dL_law_1007 (n := 1010) rfl (by decide) (fun _ => ?_) (fun hc => absurd e1 hc)
  refine dw_iload (i := 6) C dL_law_1012 (n := 1014) rfl rfl ?_
  have hex : dw_W G O p l e room_1 s m args below meth c (cells + 1) (slots + 6) Q 1029 [some (.ref b), some (dk_r G 0 40), some (dk_r G 4 60), some (.ref O.2.1), some (.ref O.2.2.1), some (.int (nI i)), some (.int r), some (.int b1), none] [] w fO' fD' := dw_goto (t := 2297) C dL_law_1029 (by decide) (dw_sub (L0 := dl_L G O b i) ⟨rfl, rfl, rfl, rfl, rfl, rfl, trivial⟩ (kk w fO' fD' hu))
  refine dw_if_ne (t := 1029) C dL_law_1014 (n := 1017) rfl (by decide) (fun _ => hex) (fun hc => ?_)
  refine dw_aload_n (i := 3) C dL_law_1017 (n := 1018) rfl rfl rfl ?_
  refine dw_iconst (v := 0) C dL_law_1018 (n := 1019) rfl (by decide) ?_
  refine dw_lald C dL_law_1019 (n := 1020) rfl ?_
  refine dw_iload (i := 7) C dL_law_1020 (n := 1022) rfl rfl ?_
  refine dw_i2l C dL_law_1022 (n := 1023) rfl ?_
  refine dw_lcmp C dL_law_1023 (n := 1024) rfl ?_
  exact dw_if_eq (t := 1029) C dL_law_1024 (n := 1027) rfl (by decide) (fun _ => hex) (fun hn => absurd (dl_cmp0 (hb1 hc)) hn)
set_option maxRecDepth 20000 in
set_option maxHeartbeats 4000000 in
theorem dl_case_11 {G : dk_G} {O : dl_T} {p : Program} {l : Launch} {e : Env} {s : State} {m : MethodId} {args : Array Value} {below : List Frame} {meth : Method} {c : Code} {cells slots : Nat} {Q : State → Prop} {b Ls : Nat} {xs : Nat → Int32} (hD : dk_D G) (hl : l.stackTraces = false) (hri : dk_RI G) (hmi : dk_MI G) (hg : dl_G G O) (C : dw_C G O p s m args c cL_law 9 RL) (hX : va_X b Ls xs s s.heap) (hb : b < s.heap.size) (hbA : ¬ dl_A O b) (hLs : Ls ≤ 3072) (hRc : cells + 1 ≤ room_1.cells ∧ slots + 6 ≤ room_1.slots) {i k : Nat} (hi : i + 6 ≤ Ls) (hk : k < 512) {σ : dk_S} {fO : Nat → Int64} {fD : Nat → UInt64} (hI : dq_I k σ) (kk : ∀ (u : dk_S) (fO' : Nat → Int64) (fD' : Nat → UInt64), dq_I (k + 1) u → dw_W G O p l e room_1 s m args below meth c (cells + 1) (slots + 6) Q 2297 (dl_L G O b i) [] u fO' fD') : dw_W G O p l e room_1 s m args below meth c cells slots Q 1032 (dl_L G O b i) [] σ fO fD := by
  refine dw_aload_n (i := 1) C dL_law_1032 (n := 1033) rfl rfl rfl ?_
  refine dw_aload_n (i := 0) C dL_law_1033 (n := 1034) rfl rfl rfl ?_
  refine dw_iload (i := 5) C dL_law_1034 (n := 1036) rfl rfl ?_
  refine dw_iconst (v := 1) C dL_law_1036 (n := 1037) rfl (by decide) ?_
  refine dw_iadd C dL_law_1037 (n := 1038) rfl ?_
  refine dw_sld C hX hb hbA (dl_in hi hLs (j := 1) (by decide) (by decide)) dL_law_1038 (n := 1039) rfl ?_
  refine dw_aload_n (i := 3) C dL_law_1039 (n := 1040) rfl rfl rfl ?_
  have hz : dz_C k (wf_X8_take (xs (nI i + 1).toNatClampNeg)) (wf_X9_take (xs (nI i + 1).toNatClampNeg)) [(eIO, 1), (eIS, 2), (eNS, 3), (eUO, 4)] σ := dz_take hk hI
  obtain ⟨K, X, hwK, hXt, hM⟩ := dl_both hz (by decide +kernel)
  refine dw_callW C [] (cw_L_take hD hl hri hg hXt hwK) yw_L_take dk_wm_L_180 rfl (by decide) hRc rfl (by decide) rfl dL_law_1040 (n := 1043) rfl (fun r σ' fO' fD' hp => ?_)
  have hm := hM Int32.toInt64 fD r σ' fO' fD' hp
  refine dw_istore (i := 6) (L' := [some (.ref b), some (dk_r G 0 40), some (dk_r G 4 60), some (.ref O.2.1), some (.ref O.2.2.1), some (.int (nI i)), some (.int r), none, none]) C dL_law_1043 (n := 1045) rfl (dk_nc_of rfl) (Nat.le_of_ble_eq_true rfl) rfl ?_
  refine dw_aload_n (i := 2) C dL_law_1045 (n := 1046) rfl rfl rfl ?_
  refine dw_aload_n (i := 0) C dL_law_1046 (n := 1047) rfl rfl rfl ?_
  refine dw_iload (i := 5) C dL_law_1047 (n := 1049) rfl rfl ?_
  refine dw_iconst (v := 1) C dL_law_1049 (n := 1050) rfl (by decide) ?_
  refine dw_iadd C dL_law_1050 (n := 1051) rfl ?_
  refine dw_sld C hX hb hbA (dl_in hi hLs (j := 1) (by decide) (by decide)) dL_law_1051 (n := 1052) rfl ?_
  refine dw_callV C [] (cc_X9_take hD hmi hm) yy_X9_take dk_wm_L_182 rfl (by decide) hRc dk_sh60 rfl (hmi 60 (by decide) (by decide)) rfl (by decide) rfl dL_law_1052 (n := 1055) rfl (fun v u hv => ?_)
  obtain ⟨b1, rfl, hu, h0, hb1⟩ := hv
  refine dw_istore (i := 7) (L' := [some (.ref b), some (dk_r G 0 40), some (dk_r G 4 60), some (.ref O.2.1), some (.ref O.2.2.1), some (.int (nI i)), some (.int r), some (.int b1), none]) C dL_law_1055 (n := 1057) rfl (dk_nc_of rfl) (Nat.le_of_ble_eq_true rfl) rfl ?_
  refine dw_aload_n (i := 2) C dL_law_1057 (n := 1058) rfl rfl rfl ?_
  refine dw_callV C [] (cc_X9_thrown hD hmi (dl_thr h0)) yy_X9_thrown dk_wm_L_140 rfl (by decide) hRc dk_sh60 rfl (hmi 60 (by decide) (by decide)) rfl (by decide) rfl dL_law_1058 (n := 1061) rfl (fun v w hv => ?_)
  obtain ⟨x1, rfl, e1, e2⟩ := hv
  subst e2
  refine dw_iload (i := 6) C dL_law_1061 (n := 1063) rfl rfl ?_
  refine dw_icmp_eq (t := 1068) C dL_law_1063 (n := 1066) rfl (by decide) (fun _ => ?_) (fun hc => absurd e1 hc)
  refine dw_iload (i := 6) C dL_law_1068 (n := 1070) rfl rfl ?_
  have hex : dw_W G O p l e room_1 s m args below meth c (cells + 1) (slots + 6) Q 1085 [some (.ref b), some (dk_r G 0 40), some (dk_r G 4 60), some (.ref O.2.1), some (.ref O.2.2.1), some (.int (nI i)), some (.int r), some (.int b1), none] [] w fO' fD' := dw_goto (t := 2297) C dL_law_1085 (by decide) (dw_sub (L0 := dl_L G O b i) ⟨rfl, rfl, rfl, rfl, rfl, rfl, trivial⟩ (kk w fO' fD' hu))
  refine dw_if_ne (t := 1085) C dL_law_1070 (n := 1073) rfl (by decide) (fun _ => hex) (fun hc => ?_)
  refine dw_aload_n (i := 3) C dL_law_1073 (n := 1074) rfl rfl rfl ?_
  refine dw_iconst (v := 0) C dL_law_1074 (n := 1075) rfl (by decide) ?_
  refine dw_lald C dL_law_1075 (n := 1076) rfl ?_
  refine dw_iload (i := 7) C dL_law_1076 (n := 1078) rfl rfl ?_
  refine dw_i2l C dL_law_1078 (n := 1079) rfl ?_
  refine dw_lcmp C dL_law_1079 (n := 1080) rfl ?_
  exact dw_if_eq (t := 1085) C dL_law_1080 (n := 1083) rfl (by decide) (fun _ => hex) (fun hn => absurd (dl_cmp0 (hb1 hc)) hn)
set_option maxRecDepth 20000 in
set_option maxHeartbeats 4000000 in
theorem dl_case_12 {G : dk_G} {O : dl_T} {p : Program} {l : Launch} {e : Env} {s : State} {m : MethodId} {args : Array Value} {below : List Frame} {meth : Method} {c : Code} {cells slots : Nat} {Q : State → Prop} {b Ls : Nat} {xs : Nat → Int32} (hD : dk_D G) (hl : l.stackTraces = false) (hri : dk_RI G) (hmi : dk_MI G) (hg : dl_G G O) (C : dw_C G O p s m args c cL_law 9 RL) (hX : va_X b Ls xs s s.heap) (hb : b < s.heap.size) (hbA : ¬ dl_A O b) (hLs : Ls ≤ 3072) (hRc : cells + 1 ≤ room_1.cells ∧ slots + 6 ≤ room_1.slots) {i k : Nat} (hi : i + 6 ≤ Ls) (hk : k < 512) {σ : dk_S} {fO : Nat → Int64} {fD : Nat → UInt64} (hI : dq_I k σ) (kk : ∀ (u : dk_S) (fO' : Nat → Int64) (fD' : Nat → UInt64), dq_I (k + 1) u → dw_W G O p l e room_1 s m args below meth c (cells + 1) (slots + 6) Q 2297 (dl_L G O b i) [] u fO' fD') : dw_W G O p l e room_1 s m args below meth c cells slots Q 1088 (dl_L G O b i) [] σ fO fD := by
  refine dw_aload_n (i := 1) C dL_law_1088 (n := 1089) rfl rfl rfl ?_
  refine dw_aload_n (i := 0) C dL_law_1089 (n := 1090) rfl rfl rfl ?_
  refine dw_iload (i := 5) C dL_law_1090 (n := 1092) rfl rfl ?_
  refine dw_iconst (v := 1) C dL_law_1092 (n := 1093) rfl (by decide) ?_
  refine dw_iadd C dL_law_1093 (n := 1094) rfl ?_
  refine dw_sld C hX hb hbA (dl_in hi hLs (j := 1) (by decide) (by decide)) dL_law_1094 (n := 1095) rfl ?_
  refine dw_aload_n (i := 3) C dL_law_1095 (n := 1096) rfl rfl rfl ?_
  have hz : dz_C k (wf_X8_drop (xs (nI i + 1).toNatClampNeg)) (wf_X9_drop (xs (nI i + 1).toNatClampNeg)) [(eIO, 1), (eIS, 2), (eNS, 3)] σ := dz_drop hk hI
  obtain ⟨K, X, hwK, hXt, hM⟩ := dl_both hz (by decide +kernel)
  refine dw_callW C [] (cw_L_drop hD hl hri hg hXt hwK) yw_L_drop dk_wm_L_183 rfl (by decide) hRc rfl (by decide) rfl dL_law_1096 (n := 1099) rfl (fun r σ' fO' fD' hp => ?_)
  have hm := hM Int32.toInt64 fD r σ' fO' fD' hp
  refine dw_istore (i := 6) (L' := [some (.ref b), some (dk_r G 0 40), some (dk_r G 4 60), some (.ref O.2.1), some (.ref O.2.2.1), some (.int (nI i)), some (.int r), none, none]) C dL_law_1099 (n := 1101) rfl (dk_nc_of rfl) (Nat.le_of_ble_eq_true rfl) rfl ?_
  refine dw_aload_n (i := 2) C dL_law_1101 (n := 1102) rfl rfl rfl ?_
  refine dw_aload_n (i := 0) C dL_law_1102 (n := 1103) rfl rfl rfl ?_
  refine dw_iload (i := 5) C dL_law_1103 (n := 1105) rfl rfl ?_
  refine dw_iconst (v := 1) C dL_law_1105 (n := 1106) rfl (by decide) ?_
  refine dw_iadd C dL_law_1106 (n := 1107) rfl ?_
  refine dw_sld C hX hb hbA (dl_in hi hLs (j := 1) (by decide) (by decide)) dL_law_1107 (n := 1108) rfl ?_
  refine dw_callV C [] (cc_X9_drop hD hmi hm) yy_X9_drop dk_wm_L_185 rfl (by decide) hRc dk_sh60 rfl (hmi 60 (by decide) (by decide)) rfl (by decide) rfl dL_law_1108 (n := 1111) rfl (fun v u hv => ?_)
  obtain ⟨b1, rfl, hu, h0, hb1⟩ := hv
  refine dw_istore (i := 7) (L' := [some (.ref b), some (dk_r G 0 40), some (dk_r G 4 60), some (.ref O.2.1), some (.ref O.2.2.1), some (.int (nI i)), some (.int r), some (.int b1), none]) C dL_law_1111 (n := 1113) rfl (dk_nc_of rfl) (Nat.le_of_ble_eq_true rfl) rfl ?_
  refine dw_aload_n (i := 2) C dL_law_1113 (n := 1114) rfl rfl rfl ?_
  refine dw_callV C [] (cc_X9_thrown hD hmi (dl_thr h0)) yy_X9_thrown dk_wm_L_140 rfl (by decide) hRc dk_sh60 rfl (hmi 60 (by decide) (by decide)) rfl (by decide) rfl dL_law_1114 (n := 1117) rfl (fun v w hv => ?_)
  obtain ⟨x1, rfl, e1, e2⟩ := hv
  subst e2
  refine dw_iload (i := 6) C dL_law_1117 (n := 1119) rfl rfl ?_
  refine dw_icmp_eq (t := 1124) C dL_law_1119 (n := 1122) rfl (by decide) (fun _ => ?_) (fun hc => absurd e1 hc)
  refine dw_iload (i := 6) C dL_law_1124 (n := 1126) rfl rfl ?_
  have hex : dw_W G O p l e room_1 s m args below meth c (cells + 1) (slots + 6) Q 1141 [some (.ref b), some (dk_r G 0 40), some (dk_r G 4 60), some (.ref O.2.1), some (.ref O.2.2.1), some (.int (nI i)), some (.int r), some (.int b1), none] [] w fO' fD' := dw_goto (t := 2297) C dL_law_1141 (by decide) (dw_sub (L0 := dl_L G O b i) ⟨rfl, rfl, rfl, rfl, rfl, rfl, trivial⟩ (kk w fO' fD' hu))
  refine dw_if_ne (t := 1141) C dL_law_1126 (n := 1129) rfl (by decide) (fun _ => hex) (fun hc => ?_)
  refine dw_aload_n (i := 3) C dL_law_1129 (n := 1130) rfl rfl rfl ?_
  refine dw_iconst (v := 0) C dL_law_1130 (n := 1131) rfl (by decide) ?_
  refine dw_lald C dL_law_1131 (n := 1132) rfl ?_
  refine dw_iload (i := 7) C dL_law_1132 (n := 1134) rfl rfl ?_
  refine dw_i2l C dL_law_1134 (n := 1135) rfl ?_
  refine dw_lcmp C dL_law_1135 (n := 1136) rfl ?_
  exact dw_if_eq (t := 1141) C dL_law_1136 (n := 1139) rfl (by decide) (fun _ => hex) (fun hn => absurd (dl_cmp0 (hb1 hc)) hn)
set_option maxRecDepth 20000 in
set_option maxHeartbeats 4000000 in
theorem dl_case_13 {G : dk_G} {O : dl_T} {p : Program} {l : Launch} {e : Env} {s : State} {m : MethodId} {args : Array Value} {below : List Frame} {meth : Method} {c : Code} {cells slots : Nat} {Q : State → Prop} {b Ls : Nat} {xs : Nat → Int32} (hD : dk_D G) (hl : l.stackTraces = false) (hri : dk_RI G) (hmi : dk_MI G) (hg : dl_G G O) (C : dw_C G O p s m args c cL_law 9 RL) (hX : va_X b Ls xs s s.heap) (hb : b < s.heap.size) (hbA : ¬ dl_A O b) (hLs : Ls ≤ 3072) (hRc : cells + 1 ≤ room_1.cells ∧ slots + 6 ≤ room_1.slots) {i k : Nat} (hi : i + 6 ≤ Ls) (hk : k < 512) {σ : dk_S} {fO : Nat → Int64} {fD : Nat → UInt64} (hI : dq_I k σ) (kk : ∀ (u : dk_S) (fO' : Nat → Int64) (fD' : Nat → UInt64), dq_I (k + 1) u → dw_W G O p l e room_1 s m args below meth c (cells + 1) (slots + 6) Q 2297 (dl_L G O b i) [] u fO' fD') : dw_W G O p l e room_1 s m args below meth c cells slots Q 1144 (dl_L G O b i) [] σ fO fD := by
  refine dw_aload_n (i := 1) C dL_law_1144 (n := 1145) rfl rfl rfl ?_
  refine dw_aload_n (i := 0) C dL_law_1145 (n := 1146) rfl rfl rfl ?_
  refine dw_iload (i := 5) C dL_law_1146 (n := 1148) rfl rfl ?_
  refine dw_iconst (v := 1) C dL_law_1148 (n := 1149) rfl (by decide) ?_
  refine dw_iadd C dL_law_1149 (n := 1150) rfl ?_
  refine dw_sld C hX hb hbA (dl_in hi hLs (j := 1) (by decide) (by decide)) dL_law_1150 (n := 1151) rfl ?_
  refine dw_aload_n (i := 0) C dL_law_1151 (n := 1152) rfl rfl rfl ?_
  refine dw_iload (i := 5) C dL_law_1152 (n := 1154) rfl rfl ?_
  refine dw_iconst (v := 2) C dL_law_1154 (n := 1155) rfl (by decide) ?_
  refine dw_iadd C dL_law_1155 (n := 1156) rfl ?_
  refine dw_sld C hX hb hbA (dl_in hi hLs (j := 2) (by decide) (by decide)) dL_law_1156 (n := 1157) rfl ?_
  refine dw_aload_n (i := 3) C dL_law_1157 (n := 1158) rfl rfl rfl ?_
  have hz : dz_C k (wf_X8_pack (xs (nI i + 1).toNatClampNeg) (xs (nI i + 2).toNatClampNeg)) (wf_X9_pack (xs (nI i + 1).toNatClampNeg) (xs (nI i + 2).toNatClampNeg)) [(eIO, 1), (eIS, 2), (eNS, 3), (eUO, 4)] σ := dz_pack hk hI
  obtain ⟨K, X, hwK, hXt, hM⟩ := dl_both hz (by decide +kernel)
  refine dw_callW C [] (cw_L_pack hD hl hri hg hXt hwK) yw_L_pack dk_wm_L_186 rfl (by decide) hRc rfl (by decide) rfl dL_law_1158 (n := 1161) rfl (fun r σ' fO' fD' hp => ?_)
  have hm := hM Int32.toInt64 fD r σ' fO' fD' hp
  refine dw_istore (i := 6) (L' := [some (.ref b), some (dk_r G 0 40), some (dk_r G 4 60), some (.ref O.2.1), some (.ref O.2.2.1), some (.int (nI i)), some (.int r), none, none]) C dL_law_1161 (n := 1163) rfl (dk_nc_of rfl) (Nat.le_of_ble_eq_true rfl) rfl ?_
  refine dw_aload_n (i := 2) C dL_law_1163 (n := 1164) rfl rfl rfl ?_
  refine dw_aload_n (i := 0) C dL_law_1164 (n := 1165) rfl rfl rfl ?_
  refine dw_iload (i := 5) C dL_law_1165 (n := 1167) rfl rfl ?_
  refine dw_iconst (v := 1) C dL_law_1167 (n := 1168) rfl (by decide) ?_
  refine dw_iadd C dL_law_1168 (n := 1169) rfl ?_
  refine dw_sld C hX hb hbA (dl_in hi hLs (j := 1) (by decide) (by decide)) dL_law_1169 (n := 1170) rfl ?_
  refine dw_aload_n (i := 0) C dL_law_1170 (n := 1171) rfl rfl rfl ?_
  refine dw_iload (i := 5) C dL_law_1171 (n := 1173) rfl rfl ?_
  refine dw_iconst (v := 2) C dL_law_1173 (n := 1174) rfl (by decide) ?_
  refine dw_iadd C dL_law_1174 (n := 1175) rfl ?_
  refine dw_sld C hX hb hbA (dl_in hi hLs (j := 2) (by decide) (by decide)) dL_law_1175 (n := 1176) rfl ?_
  refine dw_callV C [] (cc_X9_pack hD hmi hm) yy_X9_pack dk_wm_L_189 rfl (by decide) hRc dk_sh60 rfl (hmi 60 (by decide) (by decide)) rfl (by decide) rfl dL_law_1176 (n := 1179) rfl (fun v u hv => ?_)
  obtain ⟨b1, rfl, hu, h0, hb1⟩ := hv
  refine dw_istore (i := 7) (L' := [some (.ref b), some (dk_r G 0 40), some (dk_r G 4 60), some (.ref O.2.1), some (.ref O.2.2.1), some (.int (nI i)), some (.int r), some (.int b1), none]) C dL_law_1179 (n := 1181) rfl (dk_nc_of rfl) (Nat.le_of_ble_eq_true rfl) rfl ?_
  refine dw_aload_n (i := 2) C dL_law_1181 (n := 1182) rfl rfl rfl ?_
  refine dw_callV C [] (cc_X9_thrown hD hmi (dl_thr h0)) yy_X9_thrown dk_wm_L_140 rfl (by decide) hRc dk_sh60 rfl (hmi 60 (by decide) (by decide)) rfl (by decide) rfl dL_law_1182 (n := 1185) rfl (fun v w hv => ?_)
  obtain ⟨x1, rfl, e1, e2⟩ := hv
  subst e2
  refine dw_iload (i := 6) C dL_law_1185 (n := 1187) rfl rfl ?_
  refine dw_icmp_eq (t := 1192) C dL_law_1187 (n := 1190) rfl (by decide) (fun _ => ?_) (fun hc => absurd e1 hc)
  refine dw_iload (i := 6) C dL_law_1192 (n := 1194) rfl rfl ?_
  have hex : dw_W G O p l e room_1 s m args below meth c (cells + 1) (slots + 6) Q 1209 [some (.ref b), some (dk_r G 0 40), some (dk_r G 4 60), some (.ref O.2.1), some (.ref O.2.2.1), some (.int (nI i)), some (.int r), some (.int b1), none] [] w fO' fD' := dw_goto (t := 2297) C dL_law_1209 (by decide) (dw_sub (L0 := dl_L G O b i) ⟨rfl, rfl, rfl, rfl, rfl, rfl, trivial⟩ (kk w fO' fD' hu))
  refine dw_if_ne (t := 1209) C dL_law_1194 (n := 1197) rfl (by decide) (fun _ => hex) (fun hc => ?_)
  refine dw_aload_n (i := 3) C dL_law_1197 (n := 1198) rfl rfl rfl ?_
  refine dw_iconst (v := 0) C dL_law_1198 (n := 1199) rfl (by decide) ?_
  refine dw_lald C dL_law_1199 (n := 1200) rfl ?_
  refine dw_iload (i := 7) C dL_law_1200 (n := 1202) rfl rfl ?_
  refine dw_i2l C dL_law_1202 (n := 1203) rfl ?_
  refine dw_lcmp C dL_law_1203 (n := 1204) rfl ?_
  exact dw_if_eq (t := 1209) C dL_law_1204 (n := 1207) rfl (by decide) (fun _ => hex) (fun hn => absurd (dl_cmp0 (hb1 hc)) hn)
set_option maxRecDepth 20000 in
set_option maxHeartbeats 4000000 in
theorem dl_case_14 {G : dk_G} {O : dl_T} {p : Program} {l : Launch} {e : Env} {s : State} {m : MethodId} {args : Array Value} {below : List Frame} {meth : Method} {c : Code} {cells slots : Nat} {Q : State → Prop} {b Ls : Nat} {xs : Nat → Int32} (hD : dk_D G) (hl : l.stackTraces = false) (hri : dk_RI G) (hmi : dk_MI G) (hg : dl_G G O) (C : dw_C G O p s m args c cL_law 9 RL) (hX : va_X b Ls xs s s.heap) (hb : b < s.heap.size) (hbA : ¬ dl_A O b) (hLs : Ls ≤ 3072) (hRc : cells + 1 ≤ room_1.cells ∧ slots + 6 ≤ room_1.slots) {i k : Nat} (hi : i + 6 ≤ Ls) (hk : k < 512) {σ : dk_S} {fO : Nat → Int64} {fD : Nat → UInt64} (hI : dq_I k σ) (kk : ∀ (u : dk_S) (fO' : Nat → Int64) (fD' : Nat → UInt64), dq_I (k + 1) u → dw_W G O p l e room_1 s m args below meth c (cells + 1) (slots + 6) Q 2297 (dl_L G O b i) [] u fO' fD') : dw_W G O p l e room_1 s m args below meth c cells slots Q 1212 (dl_L G O b i) [] σ fO fD := by
  refine dw_aload_n (i := 1) C dL_law_1212 (n := 1213) rfl rfl rfl ?_
  refine dw_aload_n (i := 0) C dL_law_1213 (n := 1214) rfl rfl rfl ?_
  refine dw_iload (i := 5) C dL_law_1214 (n := 1216) rfl rfl ?_
  refine dw_iconst (v := 1) C dL_law_1216 (n := 1217) rfl (by decide) ?_
  refine dw_iadd C dL_law_1217 (n := 1218) rfl ?_
  refine dw_sld C hX hb hbA (dl_in hi hLs (j := 1) (by decide) (by decide)) dL_law_1218 (n := 1219) rfl ?_
  refine dw_aload_n (i := 3) C dL_law_1219 (n := 1220) rfl rfl rfl ?_
  have hz : dz_C k (wf_X8_drink (xs (nI i + 1).toNatClampNeg)) (wf_X9_drink (xs (nI i + 1).toNatClampNeg)) [(eIO, 1), (eIS, 2), (eNS, 3), (eUO, 4)] σ := dz_drink hk hI
  obtain ⟨K, X, hwK, hXt, hM⟩ := dl_both hz (by decide +kernel)
  refine dw_callW C [] (cw_L_drink hD hl hri hg hXt hwK) yw_L_drink dk_wm_L_190 rfl (by decide) hRc rfl (by decide) rfl dL_law_1220 (n := 1223) rfl (fun r σ' fO' fD' hp => ?_)
  have hm := hM Int32.toInt64 fD r σ' fO' fD' hp
  refine dw_istore (i := 6) (L' := [some (.ref b), some (dk_r G 0 40), some (dk_r G 4 60), some (.ref O.2.1), some (.ref O.2.2.1), some (.int (nI i)), some (.int r), none, none]) C dL_law_1223 (n := 1225) rfl (dk_nc_of rfl) (Nat.le_of_ble_eq_true rfl) rfl ?_
  refine dw_aload_n (i := 2) C dL_law_1225 (n := 1226) rfl rfl rfl ?_
  refine dw_aload_n (i := 0) C dL_law_1226 (n := 1227) rfl rfl rfl ?_
  refine dw_iload (i := 5) C dL_law_1227 (n := 1229) rfl rfl ?_
  refine dw_iconst (v := 1) C dL_law_1229 (n := 1230) rfl (by decide) ?_
  refine dw_iadd C dL_law_1230 (n := 1231) rfl ?_
  refine dw_sld C hX hb hbA (dl_in hi hLs (j := 1) (by decide) (by decide)) dL_law_1231 (n := 1232) rfl ?_
  refine dw_callV C [] (cc_X9_drink hD hmi hm) yy_X9_drink dk_wm_L_192 rfl (by decide) hRc dk_sh60 rfl (hmi 60 (by decide) (by decide)) rfl (by decide) rfl dL_law_1232 (n := 1235) rfl (fun v u hv => ?_)
  obtain ⟨b1, rfl, hu, h0, hb1⟩ := hv
  refine dw_istore (i := 7) (L' := [some (.ref b), some (dk_r G 0 40), some (dk_r G 4 60), some (.ref O.2.1), some (.ref O.2.2.1), some (.int (nI i)), some (.int r), some (.int b1), none]) C dL_law_1235 (n := 1237) rfl (dk_nc_of rfl) (Nat.le_of_ble_eq_true rfl) rfl ?_
  refine dw_aload_n (i := 2) C dL_law_1237 (n := 1238) rfl rfl rfl ?_
  refine dw_callV C [] (cc_X9_thrown hD hmi (dl_thr h0)) yy_X9_thrown dk_wm_L_140 rfl (by decide) hRc dk_sh60 rfl (hmi 60 (by decide) (by decide)) rfl (by decide) rfl dL_law_1238 (n := 1241) rfl (fun v w hv => ?_)
  obtain ⟨x1, rfl, e1, e2⟩ := hv
  subst e2
  refine dw_iload (i := 6) C dL_law_1241 (n := 1243) rfl rfl ?_
  refine dw_icmp_eq (t := 1248) C dL_law_1243 (n := 1246) rfl (by decide) (fun _ => ?_) (fun hc => absurd e1 hc)
  refine dw_iload (i := 6) C dL_law_1248 (n := 1250) rfl rfl ?_
  have hex : dw_W G O p l e room_1 s m args below meth c (cells + 1) (slots + 6) Q 1265 [some (.ref b), some (dk_r G 0 40), some (dk_r G 4 60), some (.ref O.2.1), some (.ref O.2.2.1), some (.int (nI i)), some (.int r), some (.int b1), none] [] w fO' fD' := dw_goto (t := 2297) C dL_law_1265 (by decide) (dw_sub (L0 := dl_L G O b i) ⟨rfl, rfl, rfl, rfl, rfl, rfl, trivial⟩ (kk w fO' fD' hu))
  refine dw_if_ne (t := 1265) C dL_law_1250 (n := 1253) rfl (by decide) (fun _ => hex) (fun hc => ?_)
  refine dw_aload_n (i := 3) C dL_law_1253 (n := 1254) rfl rfl rfl ?_
  refine dw_iconst (v := 0) C dL_law_1254 (n := 1255) rfl (by decide) ?_
  refine dw_lald C dL_law_1255 (n := 1256) rfl ?_
  refine dw_iload (i := 7) C dL_law_1256 (n := 1258) rfl rfl ?_
  refine dw_i2l C dL_law_1258 (n := 1259) rfl ?_
  refine dw_lcmp C dL_law_1259 (n := 1260) rfl ?_
  exact dw_if_eq (t := 1265) C dL_law_1260 (n := 1263) rfl (by decide) (fun _ => hex) (fun hn => absurd (dl_cmp0 (hb1 hc)) hn)
set_option maxRecDepth 20000 in
set_option maxHeartbeats 4000000 in
theorem dl_case_15 {G : dk_G} {O : dl_T} {p : Program} {l : Launch} {e : Env} {s : State} {m : MethodId} {args : Array Value} {below : List Frame} {meth : Method} {c : Code} {cells slots : Nat} {Q : State → Prop} {b Ls : Nat} {xs : Nat → Int32} (hD : dk_D G) (hl : l.stackTraces = false) (hri : dk_RI G) (hmi : dk_MI G) (hg : dl_G G O) (C : dw_C G O p s m args c cL_law 9 RL) (hX : va_X b Ls xs s s.heap) (hb : b < s.heap.size) (hbA : ¬ dl_A O b) (hLs : Ls ≤ 3072) (hRc : cells + 1 ≤ room_1.cells ∧ slots + 6 ≤ room_1.slots) {i k : Nat} (hi : i + 6 ≤ Ls) (hk : k < 512) {σ : dk_S} {fO : Nat → Int64} {fD : Nat → UInt64} (hI : dq_I k σ) (kk : ∀ (u : dk_S) (fO' : Nat → Int64) (fD' : Nat → UInt64), dq_I (k + 1) u → dw_W G O p l e room_1 s m args below meth c (cells + 1) (slots + 6) Q 2297 (dl_L G O b i) [] u fO' fD') : dw_W G O p l e room_1 s m args below meth c cells slots Q 1268 (dl_L G O b i) [] σ fO fD := by
  refine dw_aload_n (i := 1) C dL_law_1268 (n := 1269) rfl rfl rfl ?_
  refine dw_aload_n (i := 0) C dL_law_1269 (n := 1270) rfl rfl rfl ?_
  refine dw_iload (i := 5) C dL_law_1270 (n := 1272) rfl rfl ?_
  refine dw_iconst (v := 1) C dL_law_1272 (n := 1273) rfl (by decide) ?_
  refine dw_iadd C dL_law_1273 (n := 1274) rfl ?_
  refine dw_sld C hX hb hbA (dl_in hi hLs (j := 1) (by decide) (by decide)) dL_law_1274 (n := 1275) rfl ?_
  refine dw_aload_n (i := 0) C dL_law_1275 (n := 1276) rfl rfl rfl ?_
  refine dw_iload (i := 5) C dL_law_1276 (n := 1278) rfl rfl ?_
  refine dw_iconst (v := 2) C dL_law_1278 (n := 1279) rfl (by decide) ?_
  refine dw_iadd C dL_law_1279 (n := 1280) rfl ?_
  refine dw_sld C hX hb hbA (dl_in hi hLs (j := 2) (by decide) (by decide)) dL_law_1280 (n := 1281) rfl ?_
  refine dw_aload_n (i := 3) C dL_law_1281 (n := 1282) rfl rfl rfl ?_
  have hz : dz_C k (wf_X8_hurl (xs (nI i + 1).toNatClampNeg) (xs (nI i + 2).toNatClampNeg)) (wf_X9_hurl (xs (nI i + 1).toNatClampNeg) (xs (nI i + 2).toNatClampNeg)) [(eIO, 1), (eIA, 2), (eIS, 3), (eNS, 4)] σ := dz_hurl hk hI
  obtain ⟨K, X, hwK, hXt, hM⟩ := dl_both hz (by decide +kernel)
  refine dw_callW C [] (cw_L_hurl hD hl hri hg hXt hwK) yw_L_hurl dk_wm_L_193 rfl (by decide) hRc rfl (by decide) rfl dL_law_1282 (n := 1285) rfl (fun r σ' fO' fD' hp => ?_)
  have hm := hM Int32.toInt64 fD r σ' fO' fD' hp
  refine dw_istore (i := 6) (L' := [some (.ref b), some (dk_r G 0 40), some (dk_r G 4 60), some (.ref O.2.1), some (.ref O.2.2.1), some (.int (nI i)), some (.int r), none, none]) C dL_law_1285 (n := 1287) rfl (dk_nc_of rfl) (Nat.le_of_ble_eq_true rfl) rfl ?_
  refine dw_aload_n (i := 2) C dL_law_1287 (n := 1288) rfl rfl rfl ?_
  refine dw_aload_n (i := 0) C dL_law_1288 (n := 1289) rfl rfl rfl ?_
  refine dw_iload (i := 5) C dL_law_1289 (n := 1291) rfl rfl ?_
  refine dw_iconst (v := 1) C dL_law_1291 (n := 1292) rfl (by decide) ?_
  refine dw_iadd C dL_law_1292 (n := 1293) rfl ?_
  refine dw_sld C hX hb hbA (dl_in hi hLs (j := 1) (by decide) (by decide)) dL_law_1293 (n := 1294) rfl ?_
  refine dw_aload_n (i := 0) C dL_law_1294 (n := 1295) rfl rfl rfl ?_
  refine dw_iload (i := 5) C dL_law_1295 (n := 1297) rfl rfl ?_
  refine dw_iconst (v := 2) C dL_law_1297 (n := 1298) rfl (by decide) ?_
  refine dw_iadd C dL_law_1298 (n := 1299) rfl ?_
  refine dw_sld C hX hb hbA (dl_in hi hLs (j := 2) (by decide) (by decide)) dL_law_1299 (n := 1300) rfl ?_
  refine dw_callV C [] (cc_X9_hurl hD hmi hm) yy_X9_hurl dk_wm_L_195 rfl (by decide) hRc dk_sh60 rfl (hmi 60 (by decide) (by decide)) rfl (by decide) rfl dL_law_1300 (n := 1303) rfl (fun v u hv => ?_)
  obtain ⟨b1, rfl, hu, h0, hb1⟩ := hv
  refine dw_istore (i := 7) (L' := [some (.ref b), some (dk_r G 0 40), some (dk_r G 4 60), some (.ref O.2.1), some (.ref O.2.2.1), some (.int (nI i)), some (.int r), some (.int b1), none]) C dL_law_1303 (n := 1305) rfl (dk_nc_of rfl) (Nat.le_of_ble_eq_true rfl) rfl ?_
  refine dw_aload_n (i := 2) C dL_law_1305 (n := 1306) rfl rfl rfl ?_
  refine dw_callV C [] (cc_X9_thrown hD hmi (dl_thr h0)) yy_X9_thrown dk_wm_L_140 rfl (by decide) hRc dk_sh60 rfl (hmi 60 (by decide) (by decide)) rfl (by decide) rfl dL_law_1306 (n := 1309) rfl (fun v w hv => ?_)
  obtain ⟨x1, rfl, e1, e2⟩ := hv
  subst e2
  refine dw_iload (i := 6) C dL_law_1309 (n := 1311) rfl rfl ?_
  refine dw_icmp_eq (t := 1316) C dL_law_1311 (n := 1314) rfl (by decide) (fun _ => ?_) (fun hc => absurd e1 hc)
  refine dw_iload (i := 6) C dL_law_1316 (n := 1318) rfl rfl ?_
  have hex : dw_W G O p l e room_1 s m args below meth c (cells + 1) (slots + 6) Q 1333 [some (.ref b), some (dk_r G 0 40), some (dk_r G 4 60), some (.ref O.2.1), some (.ref O.2.2.1), some (.int (nI i)), some (.int r), some (.int b1), none] [] w fO' fD' := dw_goto (t := 2297) C dL_law_1333 (by decide) (dw_sub (L0 := dl_L G O b i) ⟨rfl, rfl, rfl, rfl, rfl, rfl, trivial⟩ (kk w fO' fD' hu))
  refine dw_if_ne (t := 1333) C dL_law_1318 (n := 1321) rfl (by decide) (fun _ => hex) (fun hc => ?_)
  refine dw_aload_n (i := 3) C dL_law_1321 (n := 1322) rfl rfl rfl ?_
  refine dw_iconst (v := 0) C dL_law_1322 (n := 1323) rfl (by decide) ?_
  refine dw_lald C dL_law_1323 (n := 1324) rfl ?_
  refine dw_iload (i := 7) C dL_law_1324 (n := 1326) rfl rfl ?_
  refine dw_i2l C dL_law_1326 (n := 1327) rfl ?_
  refine dw_lcmp C dL_law_1327 (n := 1328) rfl ?_
  exact dw_if_eq (t := 1333) C dL_law_1328 (n := 1331) rfl (by decide) (fun _ => hex) (fun hn => absurd (dl_cmp0 (hb1 hc)) hn)
set_option maxRecDepth 20000 in
set_option maxHeartbeats 4000000 in
theorem dl_case_16 {G : dk_G} {O : dl_T} {p : Program} {l : Launch} {e : Env} {s : State} {m : MethodId} {args : Array Value} {below : List Frame} {meth : Method} {c : Code} {cells slots : Nat} {Q : State → Prop} {b Ls : Nat} {xs : Nat → Int32} (hD : dk_D G) (hl : l.stackTraces = false) (hri : dk_RI G) (hmi : dk_MI G) (hg : dl_G G O) (C : dw_C G O p s m args c cL_law 9 RL) (hX : va_X b Ls xs s s.heap) (hb : b < s.heap.size) (hbA : ¬ dl_A O b) (hLs : Ls ≤ 3072) (hRc : cells + 1 ≤ room_1.cells ∧ slots + 6 ≤ room_1.slots) {i k : Nat} (hi : i + 6 ≤ Ls) (hk : k < 512) {σ : dk_S} {fO : Nat → Int64} {fD : Nat → UInt64} (hI : dq_I k σ) (kk : ∀ (u : dk_S) (fO' : Nat → Int64) (fD' : Nat → UInt64), dq_I (k + 1) u → dw_W G O p l e room_1 s m args below meth c (cells + 1) (slots + 6) Q 2297 (dl_L G O b i) [] u fO' fD') : dw_W G O p l e room_1 s m args below meth c cells slots Q 1336 (dl_L G O b i) [] σ fO fD := by
  refine dw_aload_n (i := 1) C dL_law_1336 (n := 1337) rfl rfl rfl ?_
  refine dw_aload_n (i := 0) C dL_law_1337 (n := 1338) rfl rfl rfl ?_
  refine dw_iload (i := 5) C dL_law_1338 (n := 1340) rfl rfl ?_
  refine dw_iconst (v := 1) C dL_law_1340 (n := 1341) rfl (by decide) ?_
  refine dw_iadd C dL_law_1341 (n := 1342) rfl ?_
  refine dw_sld C hX hb hbA (dl_in hi hLs (j := 1) (by decide) (by decide)) dL_law_1342 (n := 1343) rfl ?_
  refine dw_aload_n (i := 3) C dL_law_1343 (n := 1344) rfl rfl rfl ?_
  have hz : dz_C k (wf_X8_shout (xs (nI i + 1).toNatClampNeg)) (wf_X9_shout (xs (nI i + 1).toNatClampNeg)) [(eIA, 1), (eIS, 2)] σ := dz_shout hk hI
  obtain ⟨K, X, hwK, hXt, hM⟩ := dl_both hz (by decide +kernel)
  refine dw_callW C [] (cw_L_shout hD hl hri hg hXt hwK) yw_L_shout dk_wm_L_196 rfl (by decide) hRc rfl (by decide) rfl dL_law_1344 (n := 1347) rfl (fun r σ' fO' fD' hp => ?_)
  have hm := hM Int32.toInt64 fD r σ' fO' fD' hp
  refine dw_istore (i := 6) (L' := [some (.ref b), some (dk_r G 0 40), some (dk_r G 4 60), some (.ref O.2.1), some (.ref O.2.2.1), some (.int (nI i)), some (.int r), none, none]) C dL_law_1347 (n := 1349) rfl (dk_nc_of rfl) (Nat.le_of_ble_eq_true rfl) rfl ?_
  refine dw_aload_n (i := 2) C dL_law_1349 (n := 1350) rfl rfl rfl ?_
  refine dw_aload_n (i := 0) C dL_law_1350 (n := 1351) rfl rfl rfl ?_
  refine dw_iload (i := 5) C dL_law_1351 (n := 1353) rfl rfl ?_
  refine dw_iconst (v := 1) C dL_law_1353 (n := 1354) rfl (by decide) ?_
  refine dw_iadd C dL_law_1354 (n := 1355) rfl ?_
  refine dw_sld C hX hb hbA (dl_in hi hLs (j := 1) (by decide) (by decide)) dL_law_1355 (n := 1356) rfl ?_
  refine dw_callV C [] (cc_X9_shout hD hmi hm) yy_X9_shout dk_wm_L_198 rfl (by decide) hRc dk_sh60 rfl (hmi 60 (by decide) (by decide)) rfl (by decide) rfl dL_law_1356 (n := 1359) rfl (fun v u hv => ?_)
  obtain ⟨b1, rfl, hu, h0, hb1⟩ := hv
  refine dw_istore (i := 7) (L' := [some (.ref b), some (dk_r G 0 40), some (dk_r G 4 60), some (.ref O.2.1), some (.ref O.2.2.1), some (.int (nI i)), some (.int r), some (.int b1), none]) C dL_law_1359 (n := 1361) rfl (dk_nc_of rfl) (Nat.le_of_ble_eq_true rfl) rfl ?_
  refine dw_aload_n (i := 2) C dL_law_1361 (n := 1362) rfl rfl rfl ?_
  refine dw_callV C [] (cc_X9_thrown hD hmi (dl_thr h0)) yy_X9_thrown dk_wm_L_140 rfl (by decide) hRc dk_sh60 rfl (hmi 60 (by decide) (by decide)) rfl (by decide) rfl dL_law_1362 (n := 1365) rfl (fun v w hv => ?_)
  obtain ⟨x1, rfl, e1, e2⟩ := hv
  subst e2
  refine dw_iload (i := 6) C dL_law_1365 (n := 1367) rfl rfl ?_
  refine dw_icmp_eq (t := 1372) C dL_law_1367 (n := 1370) rfl (by decide) (fun _ => ?_) (fun hc => absurd e1 hc)
  refine dw_iload (i := 6) C dL_law_1372 (n := 1374) rfl rfl ?_
  have hex : dw_W G O p l e room_1 s m args below meth c (cells + 1) (slots + 6) Q 1389 [some (.ref b), some (dk_r G 0 40), some (dk_r G 4 60), some (.ref O.2.1), some (.ref O.2.2.1), some (.int (nI i)), some (.int r), some (.int b1), none] [] w fO' fD' := dw_goto (t := 2297) C dL_law_1389 (by decide) (dw_sub (L0 := dl_L G O b i) ⟨rfl, rfl, rfl, rfl, rfl, rfl, trivial⟩ (kk w fO' fD' hu))
  refine dw_if_ne (t := 1389) C dL_law_1374 (n := 1377) rfl (by decide) (fun _ => hex) (fun hc => ?_)
  refine dw_aload_n (i := 3) C dL_law_1377 (n := 1378) rfl rfl rfl ?_
  refine dw_iconst (v := 0) C dL_law_1378 (n := 1379) rfl (by decide) ?_
  refine dw_lald C dL_law_1379 (n := 1380) rfl ?_
  refine dw_iload (i := 7) C dL_law_1380 (n := 1382) rfl rfl ?_
  refine dw_i2l C dL_law_1382 (n := 1383) rfl ?_
  refine dw_lcmp C dL_law_1383 (n := 1384) rfl ?_
  exact dw_if_eq (t := 1389) C dL_law_1384 (n := 1387) rfl (by decide) (fun _ => hex) (fun hn => absurd (dl_cmp0 (hb1 hc)) hn)
set_option maxRecDepth 20000 in
set_option maxHeartbeats 4000000 in
theorem dl_case_17 {G : dk_G} {O : dl_T} {p : Program} {l : Launch} {e : Env} {s : State} {m : MethodId} {args : Array Value} {below : List Frame} {meth : Method} {c : Code} {cells slots : Nat} {Q : State → Prop} {b Ls : Nat} {xs : Nat → Int32} (hD : dk_D G) (hl : l.stackTraces = false) (hri : dk_RI G) (hmi : dk_MI G) (hg : dl_G G O) (C : dw_C G O p s m args c cL_law 9 RL) (hX : va_X b Ls xs s s.heap) (hb : b < s.heap.size) (hbA : ¬ dl_A O b) (hLs : Ls ≤ 3072) (hRc : cells + 1 ≤ room_1.cells ∧ slots + 6 ≤ room_1.slots) {i k : Nat} (hi : i + 6 ≤ Ls) (hk : k < 512) {σ : dk_S} {fO : Nat → Int64} {fD : Nat → UInt64} (hI : dq_I k σ) (kk : ∀ (u : dk_S) (fO' : Nat → Int64) (fD' : Nat → UInt64), dq_I (k + 1) u → dw_W G O p l e room_1 s m args below meth c (cells + 1) (slots + 6) Q 2297 (dl_L G O b i) [] u fO' fD') : dw_W G O p l e room_1 s m args below meth c cells slots Q 1392 (dl_L G O b i) [] σ fO fD := by
  refine dw_aload_n (i := 1) C dL_law_1392 (n := 1393) rfl rfl rfl ?_
  refine dw_aload_n (i := 3) C dL_law_1393 (n := 1394) rfl rfl rfl ?_
  have hz : dz_C k (wf_X8_pray) (wf_X9_pray) [(eIS, 1)] σ := dz_pray hk hI
  obtain ⟨K, X, hwK, hXt, hM⟩ := dl_both hz (by decide +kernel)
  refine dw_callW C [] (cw_L_pray hD hl hri hg hXt hwK) yw_L_pray dk_wm_L_199 rfl (by decide) hRc rfl (by decide) rfl dL_law_1394 (n := 1397) rfl (fun r σ' fO' fD' hp => ?_)
  have hm := hM Int32.toInt64 fD r σ' fO' fD' hp
  refine dw_istore (i := 6) (L' := [some (.ref b), some (dk_r G 0 40), some (dk_r G 4 60), some (.ref O.2.1), some (.ref O.2.2.1), some (.int (nI i)), some (.int r), none, none]) C dL_law_1397 (n := 1399) rfl (dk_nc_of rfl) (Nat.le_of_ble_eq_true rfl) rfl ?_
  refine dw_aload_n (i := 2) C dL_law_1399 (n := 1400) rfl rfl rfl ?_
  refine dw_callV C [] (cc_X9_pray hD hmi hm) yy_X9_pray dk_wm_L_201 rfl (by decide) hRc dk_sh60 rfl (hmi 60 (by decide) (by decide)) rfl (by decide) rfl dL_law_1400 (n := 1403) rfl (fun v u hv => ?_)
  obtain ⟨b1, rfl, hu, h0, hb1⟩ := hv
  refine dw_istore (i := 7) (L' := [some (.ref b), some (dk_r G 0 40), some (dk_r G 4 60), some (.ref O.2.1), some (.ref O.2.2.1), some (.int (nI i)), some (.int r), some (.int b1), none]) C dL_law_1403 (n := 1405) rfl (dk_nc_of rfl) (Nat.le_of_ble_eq_true rfl) rfl ?_
  refine dw_aload_n (i := 2) C dL_law_1405 (n := 1406) rfl rfl rfl ?_
  refine dw_callV C [] (cc_X9_thrown hD hmi (dl_thr h0)) yy_X9_thrown dk_wm_L_140 rfl (by decide) hRc dk_sh60 rfl (hmi 60 (by decide) (by decide)) rfl (by decide) rfl dL_law_1406 (n := 1409) rfl (fun v w hv => ?_)
  obtain ⟨x1, rfl, e1, e2⟩ := hv
  subst e2
  refine dw_iload (i := 6) C dL_law_1409 (n := 1411) rfl rfl ?_
  refine dw_icmp_eq (t := 1416) C dL_law_1411 (n := 1414) rfl (by decide) (fun _ => ?_) (fun hc => absurd e1 hc)
  refine dw_iload (i := 6) C dL_law_1416 (n := 1418) rfl rfl ?_
  have hex : dw_W G O p l e room_1 s m args below meth c (cells + 1) (slots + 6) Q 1433 [some (.ref b), some (dk_r G 0 40), some (dk_r G 4 60), some (.ref O.2.1), some (.ref O.2.2.1), some (.int (nI i)), some (.int r), some (.int b1), none] [] w fO' fD' := dw_goto (t := 2297) C dL_law_1433 (by decide) (dw_sub (L0 := dl_L G O b i) ⟨rfl, rfl, rfl, rfl, rfl, rfl, trivial⟩ (kk w fO' fD' hu))
  refine dw_if_ne (t := 1433) C dL_law_1418 (n := 1421) rfl (by decide) (fun _ => hex) (fun hc => ?_)
  refine dw_aload_n (i := 3) C dL_law_1421 (n := 1422) rfl rfl rfl ?_
  refine dw_iconst (v := 0) C dL_law_1422 (n := 1423) rfl (by decide) ?_
  refine dw_lald C dL_law_1423 (n := 1424) rfl ?_
  refine dw_iload (i := 7) C dL_law_1424 (n := 1426) rfl rfl ?_
  refine dw_i2l C dL_law_1426 (n := 1427) rfl ?_
  refine dw_lcmp C dL_law_1427 (n := 1428) rfl ?_
  exact dw_if_eq (t := 1433) C dL_law_1428 (n := 1431) rfl (by decide) (fun _ => hex) (fun hn => absurd (dl_cmp0 (hb1 hc)) hn)
