/-! the law: its switch, its loop -/
set_option maxRecDepth 20000 in
set_option maxHeartbeats 4000000 in
theorem dl_switch {G : dk_G} {O : dl_T} {p : Program} {l : Launch} {e : Env} {s : State} {m : MethodId} {args : Array Value} {below : List Frame} {meth : Method} {c : Code} {Q : State → Prop} {b Ls : Nat} {xs : Nat → Int32} (hD : dk_D G) (hl : l.stackTraces = false) (hri : dk_RI G) (hmi : dk_MI G) (hg : dl_G G O) (C : dw_C G O p s m args c cL_law 9 RL) (hX : va_X b Ls xs s s.heap) (hb : b < s.heap.size) (hbA : ¬ dl_A O b) (hLs : Ls ≤ 3072) {cells slots : Nat} (hRc : cells + 1 ≤ room_1.cells ∧ slots + 6 ≤ room_1.slots) {i k : Nat} (hi : i + 6 ≤ Ls) (hk : k < 512) {σ : dk_S} {fO : Nat → Int64} {fD : Nat → UInt64} (hI : dq_I k σ) (kk : ∀ (u : dk_S) (fO' : Nat → Int64) (fD' : Nat → UInt64), dq_I (k + 1) u → dw_W G O p l e room_1 s m args below meth c (cells + 1) (slots + 6) Q 2297 (dl_L G O b i) [] u fO' fD') (x : Int32) : dw_W G O p l e room_1 s m args below meth c cells slots Q 45 (dl_L G O b i) [.int x] σ fO fD := by
  by_cases h0 : x = 0
  · exact dw_tabIn (off := 147) (t := 192) C dL_law_45 (by rw [h0]; decide) (by rw [h0]; decide) (by rw [h0]; decide) (by decide) (dl_case_0 hD hl hri hmi hg C hX hb hbA hLs hRc hi hk hI kk)
  by_cases h1 : x = 1
  · exact dw_tabIn (off := 229) (t := 274) C dL_law_45 (by rw [h1]; decide) (by rw [h1]; decide) (by rw [h1]; decide) (by decide) (dl_case_1 hD hl hri hmi hg C hX hb hbA hLs hRc hi hk hI kk)
  by_cases h2 : x = 2
  · exact dw_tabIn (off := 325) (t := 370) C dL_law_45 (by rw [h2]; decide) (by rw [h2]; decide) (by rw [h2]; decide) (by decide) (dl_case_2 hD hl hri hmi hg C hX hb hbA hLs hRc hi hk hI kk)
  by_cases h3 : x = 3
  · exact dw_tabIn (off := 419) (t := 464) C dL_law_45 (by rw [h3]; decide) (by rw [h3]; decide) (by rw [h3]; decide) (by decide) (dl_case_3 hD hl hri hmi hg C hX hb hbA hLs hRc hi hk hI kk)
  by_cases h4 : x = 4
  · exact dw_tabIn (off := 511) (t := 556) C dL_law_45 (by rw [h4]; decide) (by rw [h4]; decide) (by rw [h4]; decide) (by decide) (dl_case_4 hD hl hri hmi hg C hX hb hbA hLs hRc hi hk hI kk)
  by_cases h5 : x = 5
  · exact dw_tabIn (off := 615) (t := 660) C dL_law_45 (by rw [h5]; decide) (by rw [h5]; decide) (by rw [h5]; decide) (by decide) (dl_case_5 hD hl hri hmi hg C hX hb hbA hLs hRc hi hk hI kk)
  by_cases h6 : x = 6
  · exact dw_tabIn (off := 707) (t := 752) C dL_law_45 (by rw [h6]; decide) (by rw [h6]; decide) (by rw [h6]; decide) (by decide) (dl_case_6 hD hl hri hmi hg C hX hb hbA hLs hRc hi hk hI kk)
  by_cases h7 : x = 7
  · exact dw_tabIn (off := 787) (t := 832) C dL_law_45 (by rw [h7]; decide) (by rw [h7]; decide) (by rw [h7]; decide) (by decide) (dl_case_7 hD hl hri hmi hg C hX hb hbA hLs hRc hi hk hI kk)
  by_cases h8 : x = 8
  · exact dw_tabIn (off := 843) (t := 888) C dL_law_45 (by rw [h8]; decide) (by rw [h8]; decide) (by rw [h8]; decide) (by decide) (dl_case_8 hD hl hri hmi hg C hX hb hbA hLs hRc hi hk hI kk)
  by_cases h9 : x = 9
  · exact dw_tabIn (off := 887) (t := 932) C dL_law_45 (by rw [h9]; decide) (by rw [h9]; decide) (by rw [h9]; decide) (by decide) (dl_case_9 hD hl hri hmi hg C hX hb hbA hLs hRc hi hk hI kk)
  by_cases h10 : x = 10
  · exact dw_tabIn (off := 943) (t := 988) C dL_law_45 (by rw [h10]; decide) (by rw [h10]; decide) (by rw [h10]; decide) (by decide) (dl_case_10 hD hl hri hmi hg C hX hb hbA hLs hRc hi hk hI kk)
  by_cases h11 : x = 11
  · exact dw_tabIn (off := 987) (t := 1032) C dL_law_45 (by rw [h11]; decide) (by rw [h11]; decide) (by rw [h11]; decide) (by decide) (dl_case_11 hD hl hri hmi hg C hX hb hbA hLs hRc hi hk hI kk)
  by_cases h12 : x = 12
  · exact dw_tabIn (off := 1043) (t := 1088) C dL_law_45 (by rw [h12]; decide) (by rw [h12]; decide) (by rw [h12]; decide) (by decide) (dl_case_12 hD hl hri hmi hg C hX hb hbA hLs hRc hi hk hI kk)
  by_cases h13 : x = 13
  · exact dw_tabIn (off := 1099) (t := 1144) C dL_law_45 (by rw [h13]; decide) (by rw [h13]; decide) (by rw [h13]; decide) (by decide) (dl_case_13 hD hl hri hmi hg C hX hb hbA hLs hRc hi hk hI kk)
  by_cases h14 : x = 14
  · exact dw_tabIn (off := 1167) (t := 1212) C dL_law_45 (by rw [h14]; decide) (by rw [h14]; decide) (by rw [h14]; decide) (by decide) (dl_case_14 hD hl hri hmi hg C hX hb hbA hLs hRc hi hk hI kk)
  by_cases h15 : x = 15
  · exact dw_tabIn (off := 1223) (t := 1268) C dL_law_45 (by rw [h15]; decide) (by rw [h15]; decide) (by rw [h15]; decide) (by decide) (dl_case_15 hD hl hri hmi hg C hX hb hbA hLs hRc hi hk hI kk)
  by_cases h16 : x = 16
  · exact dw_tabIn (off := 1291) (t := 1336) C dL_law_45 (by rw [h16]; decide) (by rw [h16]; decide) (by rw [h16]; decide) (by decide) (dl_case_16 hD hl hri hmi hg C hX hb hbA hLs hRc hi hk hI kk)
  by_cases h17 : x = 17
  · exact dw_tabIn (off := 1347) (t := 1392) C dL_law_45 (by rw [h17]; decide) (by rw [h17]; decide) (by rw [h17]; decide) (by decide) (dl_case_17 hD hl hri hmi hg C hX hb hbA hLs hRc hi hk hI kk)
  by_cases h18 : x = 18
  · exact dw_tabIn (off := 1391) (t := 1436) C dL_law_45 (by rw [h18]; decide) (by rw [h18]; decide) (by rw [h18]; decide) (by decide) (dl_case_18 hD hl hri hmi hg C hX hb hbA hLs hRc hi hk hI kk)
  by_cases h19 : x = 19
  · exact dw_tabIn (off := 1404) (t := 1449) C dL_law_45 (by rw [h19]; decide) (by rw [h19]; decide) (by rw [h19]; decide) (by decide) (dl_case_19 hD hl hri hmi hg C hX hb hbA hLs hRc hi hk hI kk)
  by_cases h20 : x = 20
  · exact dw_tabIn (off := 1417) (t := 1462) C dL_law_45 (by rw [h20]; decide) (by rw [h20]; decide) (by rw [h20]; decide) (by decide) (dl_case_20 hD hl hri hmi hg C hX hb hbA hLs hRc hi hk hI kk)
  by_cases h21 : x = 21
  · exact dw_tabIn (off := 1485) (t := 1530) C dL_law_45 (by rw [h21]; decide) (by rw [h21]; decide) (by rw [h21]; decide) (by decide) (dl_case_21 hD hl hri hmi hg C hX hb hbA hLs hRc hi hk hI kk)
  by_cases h22 : x = 22
  · exact dw_tabIn (off := 1584) (t := 1629) C dL_law_45 (by rw [h22]; decide) (by rw [h22]; decide) (by rw [h22]; decide) (by decide) (dl_case_22 hD hl hri hmi hg C hX hb hbA hLs hRc hi hk hI kk)
  by_cases h23 : x = 23
  · exact dw_tabIn (off := 1659) (t := 1704) C dL_law_45 (by rw [h23]; decide) (by rw [h23]; decide) (by rw [h23]; decide) (by decide) (dl_case_23 hD hl hri hmi hg C hX hb hbA hLs hRc hi hk hI kk)
  by_cases h24 : x = 24
  · exact dw_tabIn (off := 1715) (t := 1760) C dL_law_45 (by rw [h24]; decide) (by rw [h24]; decide) (by rw [h24]; decide) (by decide) (dl_case_24 hD hl hri hmi hg C hX hb hbA hLs hRc hi hk hI kk)
  by_cases h25 : x = 25
  · exact dw_tabIn (off := 1771) (t := 1816) C dL_law_45 (by rw [h25]; decide) (by rw [h25]; decide) (by rw [h25]; decide) (by decide) (dl_case_25 hD hl hri hmi hg C hX hb hbA hLs hRc hi hk hI kk)
  by_cases h26 : x = 26
  · exact dw_tabIn (off := 1827) (t := 1872) C dL_law_45 (by rw [h26]; decide) (by rw [h26]; decide) (by rw [h26]; decide) (by decide) (dl_case_26 hD hl hri hmi hg C hX hb hbA hLs hRc hi hk hI kk)
  by_cases h27 : x = 27
  · exact dw_tabIn (off := 1883) (t := 1928) C dL_law_45 (by rw [h27]; decide) (by rw [h27]; decide) (by rw [h27]; decide) (by decide) (dl_case_27 hD hl hri hmi hg C hX hb hbA hLs hRc hi hk hI kk)
  by_cases h28 : x = 28
  · exact dw_tabIn (off := 1939) (t := 1984) C dL_law_45 (by rw [h28]; decide) (by rw [h28]; decide) (by rw [h28]; decide) (by decide) (dl_case_28 hD hl hri hmi hg C hX hb hbA hLs hRc hi hk hI kk)
  by_cases h29 : x = 29
  · exact dw_tabIn (off := 1995) (t := 2040) C dL_law_45 (by rw [h29]; decide) (by rw [h29]; decide) (by rw [h29]; decide) (by decide) (dl_case_29 hD hl hri hmi hg C hX hb hbA hLs hRc hi hk hI kk)
  by_cases h30 : x = 30
  · exact dw_tabIn (off := 2070) (t := 2115) C dL_law_45 (by rw [h30]; decide) (by rw [h30]; decide) (by rw [h30]; decide) (by decide) (dl_case_30 hD hl hri hmi hg C hX hb hbA hLs hRc hi hk hI kk)
  by_cases h31 : x = 31
  · exact dw_tabIn (off := 2121) (t := 2166) C dL_law_45 (by rw [h31]; decide) (by rw [h31]; decide) (by rw [h31]; decide) (by decide) (dl_case_31 hD hl hri hmi hg C hX hb hbA hLs hRc hi hk hI kk)
  by_cases h32 : x = 32
  · exact dw_tabIn (off := 2187) (t := 2232) C dL_law_45 (by rw [h32]; decide) (by rw [h32]; decide) (by rw [h32]; decide) (by decide) (dl_case_32 hD hl hri hmi hg C hX hb hbA hLs hRc hi hk hI kk)
  refine dw_tabOut (t := 2297) C dL_law_45 ?_ (by decide) (dw_widen (Nat.le_succ _) (Nat.le_add_right _ 6) (kk σ fO fD hI.up))
  have q0 := lv_neT h0 (show (0 : Int32).toInt = 0 from rfl)
  have q1 := lv_neT h1 (show (1 : Int32).toInt = 1 from rfl)
  have q2 := lv_neT h2 (show (2 : Int32).toInt = 2 from rfl)
  have q3 := lv_neT h3 (show (3 : Int32).toInt = 3 from rfl)
  have q4 := lv_neT h4 (show (4 : Int32).toInt = 4 from rfl)
  have q5 := lv_neT h5 (show (5 : Int32).toInt = 5 from rfl)
  have q6 := lv_neT h6 (show (6 : Int32).toInt = 6 from rfl)
  have q7 := lv_neT h7 (show (7 : Int32).toInt = 7 from rfl)
  have q8 := lv_neT h8 (show (8 : Int32).toInt = 8 from rfl)
  have q9 := lv_neT h9 (show (9 : Int32).toInt = 9 from rfl)
  have q10 := lv_neT h10 (show (10 : Int32).toInt = 10 from rfl)
  have q11 := lv_neT h11 (show (11 : Int32).toInt = 11 from rfl)
  have q12 := lv_neT h12 (show (12 : Int32).toInt = 12 from rfl)
  have q13 := lv_neT h13 (show (13 : Int32).toInt = 13 from rfl)
  have q14 := lv_neT h14 (show (14 : Int32).toInt = 14 from rfl)
  have q15 := lv_neT h15 (show (15 : Int32).toInt = 15 from rfl)
  have q16 := lv_neT h16 (show (16 : Int32).toInt = 16 from rfl)
  have q17 := lv_neT h17 (show (17 : Int32).toInt = 17 from rfl)
  have q18 := lv_neT h18 (show (18 : Int32).toInt = 18 from rfl)
  have q19 := lv_neT h19 (show (19 : Int32).toInt = 19 from rfl)
  have q20 := lv_neT h20 (show (20 : Int32).toInt = 20 from rfl)
  have q21 := lv_neT h21 (show (21 : Int32).toInt = 21 from rfl)
  have q22 := lv_neT h22 (show (22 : Int32).toInt = 22 from rfl)
  have q23 := lv_neT h23 (show (23 : Int32).toInt = 23 from rfl)
  have q24 := lv_neT h24 (show (24 : Int32).toInt = 24 from rfl)
  have q25 := lv_neT h25 (show (25 : Int32).toInt = 25 from rfl)
  have q26 := lv_neT h26 (show (26 : Int32).toInt = 26 from rfl)
  have q27 := lv_neT h27 (show (27 : Int32).toInt = 27 from rfl)
  have q28 := lv_neT h28 (show (28 : Int32).toInt = 28 from rfl)
  have q29 := lv_neT h29 (show (29 : Int32).toInt = 29 from rfl)
  have q30 := lv_neT h30 (show (30 : Int32).toInt = 30 from rfl)
  have q31 := lv_neT h31 (show (31 : Int32).toInt = 31 from rfl)
  have q32 := lv_neT h32 (show (32 : Int32).toInt = 32 from rfl)
  omega
theorem dl_more {i Ls : Nat} (hLs : Ls ≤ 3072) (hi : i ≤ 3072) (h : ¬ Int32.ofNat Ls - 6 < nI i) : i + 6 ≤ Ls := by
  rw [Int32.lt_iff_toInt_lt, nI_toInt (by omega)] at h
  have e : (Int32.ofNat Ls - 6).toInt = (Ls : Int) - 6 := by
    show (nI Ls - 6).toInt = _
    rw [dq_iN, show (6 : Int32) = dq_iI 6 from by decide, dq_isub, dq_iT (by omega) (by omega)]
  omega
set_option maxRecDepth 20000 in
set_option maxHeartbeats 4000000 in
theorem dl_loop {G : dk_G} {O : dl_T} {p : Program} {l : Launch} {e : Env} {s : State} {m : MethodId} {args : Array Value} {below : List Frame} {meth : Method} {c : Code} {Q : State → Prop} {b Ls : Nat} {xs : Nat → Int32} (hD : dk_D G) (hl : l.stackTraces = false) (hri : dk_RI G) (hmi : dk_MI G) (hg : dl_G G O) (C : dw_C G O p s m args c cL_law 9 RL) (hX : va_X b Ls xs s s.heap) (hb : b < s.heap.size) (hbA : ¬ dl_A O b) (hLs : Ls ≤ 3072) {c0 s0 : Nat} (hc0 : c0 + 512 ≤ room_1.cells) (hs0 : s0 + 3072 ≤ room_1.slots)
    (kend : ∀ (i k : Nat) (σ : dk_S) (fO : Nat → Int64) (fD : Nat → UInt64), k ≤ 512 → dw_W G O p l e room_1 s m args below meth c (c0 + k) (s0 + 6 * k) Q 2303 (dl_L G O b i) [] σ fO fD) :
    ∀ (n k : Nat), Ls ≤ 6 * k + 6 * n → k ≤ 512 → ∀ (σ : dk_S) (fO : Nat → Int64) (fD : Nat → UInt64), dq_I k σ → dw_W G O p l e room_1 s m args below meth c (c0 + k) (s0 + 6 * k) Q 28 (dl_L G O b (6 * k)) [] σ fO fD := by
  intro n
  induction n with
  | zero =>
    intro k hn hk σ fO fD hI
    refine dw_iload (i := 5) C dL_law_28 (n := 30) rfl rfl ?_
    refine dw_aload_n (i := 0) C dL_law_30 (n := 31) rfl rfl rfl ?_
    refine dw_slen C hX hb hbA dL_law_31 (n := 32) rfl ?_
    refine dw_bipush (v := 6) C dL_law_32 (n := 34) rfl (by decide) ?_
    refine dw_isub C dL_law_34 (n := 35) rfl ?_
    refine dw_icmp_gt (t := 2303) C dL_law_35 (n := 38) rfl (by decide) (fun _ => kend (6 * k) k σ fO fD hk) (fun hc => ?_)
    have := dl_more hLs (by omega) hc
    exfalso; omega
  | succ n ih =>
    intro k hn hk σ fO fD hI
    refine dw_iload (i := 5) C dL_law_28 (n := 30) rfl rfl ?_
    refine dw_aload_n (i := 0) C dL_law_30 (n := 31) rfl rfl rfl ?_
    refine dw_slen C hX hb hbA dL_law_31 (n := 32) rfl ?_
    refine dw_bipush (v := 6) C dL_law_32 (n := 34) rfl (by decide) ?_
    refine dw_isub C dL_law_34 (n := 35) rfl ?_
    refine dw_icmp_gt (t := 2303) C dL_law_35 (n := 38) rfl (by decide) (fun _ => kend (6 * k) k σ fO fD hk) (fun hc => ?_)
    have hi := dl_more hLs (by omega) hc
    refine dw_aload_n (i := 0) C dL_law_38 (n := 39) rfl rfl rfl ?_
    refine dw_iload (i := 5) C dL_law_39 (n := 41) rfl rfl ?_
    refine dw_sld C hX hb hbA (vp_in_nI (by omega) (by omega)) dL_law_41 (n := 42) rfl ?_
    refine dw_bipush (v := 63) C dL_law_42 (n := 44) rfl (by decide) ?_
    refine dw_iand C dL_law_44 (n := 45) rfl ?_
    refine dl_switch hD hl hri hmi hg C hX hb hbA hLs ⟨by omega, by omega⟩ hi (by omega) hI (fun u fO' fD' hu => ?_) _
    refine dw_iinc (i := 5) (v := nI (6 * (k + 1))) (L' := dl_L G O b (6 * (k + 1))) C dL_law_2297 (n := 2300) rfl rfl ?_ (dk_nc_of rfl) (Nat.le_of_ble_eq_true rfl) rfl ?_
    · rw [show Int32.ofInt 6 = nI 6 from by decide, nI_add, show 6 * k + 6 = 6 * (k + 1) by omega]
    · refine dw_goto (t := 28) C dL_law_2300 (by decide) ?_
      have h9 := ih (k + 1) (by omega) (by omega) u fO' fD' hu
      rw [show c0 + (k + 1) = c0 + k + 1 by omega, show s0 + 6 * (k + 1) = s0 + 6 * k + 6 by omega] at h9
      exact h9
