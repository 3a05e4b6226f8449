/-! the cases *of* the law 18 to 25 -/
set_option maxRecDepth 20000 in
set_option maxHeartbeats 4000000 in
theorem dl_case_18 {G : dk_G} {O : dl_T} {p : Program} {l : Launch} {e : Env} {s : State} {m : MethodId} {args : Array Value} {below : List Frame} {meth : Method} {c : Code} {cells slots : Nat} {Q : State → Prop} {b Ls : Nat} {xs : Nat → Int32} (hD : dk_D G) (hl : l.stackTraces = false) (hri : dk_RI G) (hmi : dk_MI G) (hg : dl_G G O) (C : dw_C G O p s m args c cL_law 9 RL) (hX : va_X b Ls xs s s.heap) (hb : b < s.heap.size) (hbA : ¬ dl_A O b) (hLs : Ls ≤ 3072) (hRc : cells + 1 ≤ room_1.cells ∧ slots + 6 ≤ room_1.slots) {i k : Nat} (hi : i + 6 ≤ Ls) (hk : k < 512) {σ : dk_S} {fO : Nat → Int64} {fD : Nat → UInt64} (hI : dq_I k σ) (kk : ∀ (u : dk_S) (fO' : Nat → Int64) (fD' : Nat → UInt64), dq_I (k + 1) u → dw_W G O p l e room_1 s m args below meth c (cells + 1) (slots + 6) Q 2297 (dl_L G O b i) [] u fO' fD') : dw_W G O p l e room_1 s m args below meth c cells slots Q 1436 (dl_L G O b i) [] σ fO fD := by
  have hR0 : cells ≤ room_1.cells ∧ slots ≤ room_1.slots := ⟨by omega, by omega⟩
  refine dw_aload_n (i := 1) C dL_law_1436 (n := 1437) rfl rfl rfl ?_
  rcases dz_state hI with ⟨E, e9, he, -⟩ | ⟨r, PK, hK, hM⟩
  · exact absurd he List.not_mem_nil
  refine dw_callV C [] (cc_X8_state hD hri (hK (fun x u => x = r ∧ PK u) (fun _ _ => True) (fun u hu => ⟨rfl, hu⟩))) yy_X8_state dk_wm_L_202 rfl (by decide) hR0 dk_sh40 rfl (hri.1 40 (by decide) (by decide)) rfl (by decide) rfl dL_law_1437 (n := 1440) rfl (fun v w hv => ?_)
  obtain ⟨x1, rfl, e1, hw⟩ := hv
  refine dw_aload_n (i := 2) C dL_law_1440 (n := 1441) rfl rfl rfl ?_
  refine dw_callV C [.int x1] (cc_X9_state hD hmi (hM w (fun x u => x = r ∧ dq_I (k + 1) u) hw (fun u hu h0 => ⟨rfl, hu⟩))) yy_X9_state dk_wm_L_206 rfl (by decide) hR0 dk_sh60 rfl (hmi 60 (by decide) (by decide)) rfl (Nat.le_of_ble_eq_true rfl) rfl dL_law_1441 (n := 1444) rfl (fun v u hv => ?_)
  obtain ⟨x2, rfl, e2, hu⟩ := hv
  exact dw_icmp_eq (t := 2297) C dL_law_1444 (n := 1447) rfl (by decide) (fun _ => dw_widen (Nat.le_succ _) (Nat.le_add_right _ 6) (kk u fO fD hu)) (fun hc => absurd (e1.trans e2.symm) hc)
set_option maxRecDepth 20000 in
set_option maxHeartbeats 4000000 in
theorem dl_case_19 {G : dk_G} {O : dl_T} {p : Program} {l : Launch} {e : Env} {s : State} {m : MethodId} {args : Array Value} {below : List Frame} {meth : Method} {c : Code} {cells slots : Nat} {Q : State → Prop} {b Ls : Nat} {xs : Nat → Int32} (hD : dk_D G) (hl : l.stackTraces = false) (hri : dk_RI G) (hmi : dk_MI G) (hg : dl_G G O) (C : dw_C G O p s m args c cL_law 9 RL) (hX : va_X b Ls xs s s.heap) (hb : b < s.heap.size) (hbA : ¬ dl_A O b) (hLs : Ls ≤ 3072) (hRc : cells + 1 ≤ room_1.cells ∧ slots + 6 ≤ room_1.slots) {i k : Nat} (hi : i + 6 ≤ Ls) (hk : k < 512) {σ : dk_S} {fO : Nat → Int64} {fD : Nat → UInt64} (hI : dq_I k σ) (kk : ∀ (u : dk_S) (fO' : Nat → Int64) (fD' : Nat → UInt64), dq_I (k + 1) u → dw_W G O p l e room_1 s m args below meth c (cells + 1) (slots + 6) Q 2297 (dl_L G O b i) [] u fO' fD') : dw_W G O p l e room_1 s m args below meth c cells slots Q 1449 (dl_L G O b i) [] σ fO fD := by
  have hR0 : cells ≤ room_1.cells ∧ slots ≤ room_1.slots := ⟨by omega, by omega⟩
  refine dw_aload_n (i := 1) C dL_law_1449 (n := 1450) rfl rfl rfl ?_
  rcases dz_tick hI with ⟨E, e9, he, -⟩ | ⟨r, PK, hK, hM⟩
  · exact absurd he List.not_mem_nil
  refine dw_callV C [] (cc_X8_tick hD hri (hK (fun x u => x = r ∧ PK u) (fun _ _ => True) (fun u hu => ⟨rfl, hu⟩))) yy_X8_tick dk_wm_L_207 rfl (by decide) hR0 dk_sh40 rfl (hri.1 40 (by decide) (by decide)) rfl (by decide) rfl dL_law_1450 (n := 1453) rfl (fun v w hv => ?_)
  obtain ⟨x1, rfl, e1, hw⟩ := hv
  refine dw_aload_n (i := 2) C dL_law_1453 (n := 1454) rfl rfl rfl ?_
  refine dw_callV C [.int x1] (cc_X9_tick hD hmi (hM w (fun x u => x = r ∧ dq_I (k + 1) u) hw (fun u hu h0 => ⟨rfl, hu⟩))) yy_X9_tick dk_wm_L_210 rfl (by decide) hR0 dk_sh60 rfl (hmi 60 (by decide) (by decide)) rfl (Nat.le_of_ble_eq_true rfl) rfl dL_law_1454 (n := 1457) rfl (fun v u hv => ?_)
  obtain ⟨x2, rfl, e2, hu⟩ := hv
  exact dw_icmp_eq (t := 2297) C dL_law_1457 (n := 1460) rfl (by decide) (fun _ => dw_widen (Nat.le_succ _) (Nat.le_add_right _ 6) (kk u fO fD hu)) (fun hc => absurd (e1.trans e2.symm) hc)
set_option maxRecDepth 20000 in
set_option maxHeartbeats 4000000 in
theorem dl_case_20 {G : dk_G} {O : dl_T} {p : Program} {l : Launch} {e : Env} {s : State} {m : MethodId} {args : Array Value} {below : List Frame} {meth : Method} {c : Code} {cells slots : Nat} {Q : State → Prop} {b Ls : Nat} {xs : Nat → Int32} (hD : dk_D G) (hl : l.stackTraces = false) (hri : dk_RI G) (hmi : dk_MI G) (hg : dl_G G O) (C : dw_C G O p s m args c cL_law 9 RL) (hX : va_X b Ls xs s s.heap) (hb : b < s.heap.size) (hbA : ¬ dl_A O b) (hLs : Ls ≤ 3072) (hRc : cells + 1 ≤ room_1.cells ∧ slots + 6 ≤ room_1.slots) {i k : Nat} (hi : i + 6 ≤ Ls) (hk : k < 512) {σ : dk_S} {fO : Nat → Int64} {fD : Nat → UInt64} (hI : dq_I k σ) (kk : ∀ (u : dk_S) (fO' : Nat → Int64) (fD' : Nat → UInt64), dq_I (k + 1) u → dw_W G O p l e room_1 s m args below meth c (cells + 1) (slots + 6) Q 2297 (dl_L G O b i) [] u fO' fD') : dw_W G O p l e room_1 s m args below meth c cells slots Q 1462 (dl_L G O b i) [] σ fO fD := by
  refine dw_aload_n (i := 1) C dL_law_1462 (n := 1463) rfl rfl rfl ?_
  refine dw_aload_n (i := 0) C dL_law_1463 (n := 1464) rfl rfl rfl ?_
  refine dw_iload (i := 5) C dL_law_1464 (n := 1466) rfl rfl ?_
  refine dw_iconst (v := 1) C dL_law_1466 (n := 1467) rfl (by decide) ?_
  refine dw_iadd C dL_law_1467 (n := 1468) rfl ?_
  refine dw_sld C hX hb hbA (dl_in hi hLs (j := 1) (by decide) (by decide)) dL_law_1468 (n := 1469) rfl ?_
  refine dw_aload_n (i := 0) C dL_law_1469 (n := 1470) rfl rfl rfl ?_
  refine dw_iload (i := 5) C dL_law_1470 (n := 1472) rfl rfl ?_
  refine dw_iconst (v := 2) C dL_law_1472 (n := 1473) rfl (by decide) ?_
  refine dw_iadd C dL_law_1473 (n := 1474) rfl ?_
  refine dw_sld C hX hb hbA (dl_in hi hLs (j := 2) (by decide) (by decide)) dL_law_1474 (n := 1475) rfl ?_
  refine dw_aload_n (i := 3) C dL_law_1475 (n := 1476) rfl rfl rfl ?_
  have hz : dz_C k (wf_X8_cell (xs (nI i + 1).toNatClampNeg) (xs (nI i + 2).toNatClampNeg)) (wf_X9_cell (xs (nI i + 1).toNatClampNeg) (xs (nI i + 2).toNatClampNeg)) [(eIO, 1)] σ := dz_cell hI
  obtain ⟨K, X, hwK, hXt, hM⟩ := dl_both hz (by decide +kernel)
  refine dw_callW C [] (cw_L_cell hD hl hri hg hXt hwK) yw_L_cell dk_wm_L_211 rfl (by decide) hRc rfl (by decide) rfl dL_law_1476 (n := 1479) rfl (fun r σ' fO' fD' hp => ?_)
  have hm := hM Int32.toInt64 fD r σ' fO' fD' hp
  refine dw_istore (i := 6) (L' := [some (.ref b), some (dk_r G 0 40), some (dk_r G 4 60), some (.ref O.2.1), some (.ref O.2.2.1), some (.int (nI i)), some (.int r), none, none]) C dL_law_1479 (n := 1481) rfl (dk_nc_of rfl) (Nat.le_of_ble_eq_true rfl) rfl ?_
  refine dw_aload_n (i := 2) C dL_law_1481 (n := 1482) rfl rfl rfl ?_
  refine dw_aload_n (i := 0) C dL_law_1482 (n := 1483) rfl rfl rfl ?_
  refine dw_iload (i := 5) C dL_law_1483 (n := 1485) rfl rfl ?_
  refine dw_iconst (v := 1) C dL_law_1485 (n := 1486) rfl (by decide) ?_
  refine dw_iadd C dL_law_1486 (n := 1487) rfl ?_
  refine dw_sld C hX hb hbA (dl_in hi hLs (j := 1) (by decide) (by decide)) dL_law_1487 (n := 1488) rfl ?_
  refine dw_aload_n (i := 0) C dL_law_1488 (n := 1489) rfl rfl rfl ?_
  refine dw_iload (i := 5) C dL_law_1489 (n := 1491) rfl rfl ?_
  refine dw_iconst (v := 2) C dL_law_1491 (n := 1492) rfl (by decide) ?_
  refine dw_iadd C dL_law_1492 (n := 1493) rfl ?_
  refine dw_sld C hX hb hbA (dl_in hi hLs (j := 2) (by decide) (by decide)) dL_law_1493 (n := 1494) rfl ?_
  refine dw_callV C [] (cc_X9_cell hD hmi hm) yy_X9_cell dk_wm_L_213 rfl (by decide) hRc dk_sh60 rfl (hmi 60 (by decide) (by decide)) rfl (by decide) rfl dL_law_1494 (n := 1497) rfl (fun v u hv => ?_)
  obtain ⟨b1, rfl, hu, h0, hb1⟩ := hv
  refine dw_istore (i := 7) (L' := [some (.ref b), some (dk_r G 0 40), some (dk_r G 4 60), some (.ref O.2.1), some (.ref O.2.2.1), some (.int (nI i)), some (.int r), some (.int b1), none]) C dL_law_1497 (n := 1499) rfl (dk_nc_of rfl) (Nat.le_of_ble_eq_true rfl) rfl ?_
  refine dw_aload_n (i := 2) C dL_law_1499 (n := 1500) rfl rfl rfl ?_
  refine dw_callV C [] (cc_X9_thrown hD hmi (dl_thr h0)) yy_X9_thrown dk_wm_L_140 rfl (by decide) hRc dk_sh60 rfl (hmi 60 (by decide) (by decide)) rfl (by decide) rfl dL_law_1500 (n := 1503) rfl (fun v w hv => ?_)
  obtain ⟨x1, rfl, e1, e2⟩ := hv
  subst e2
  refine dw_iload (i := 6) C dL_law_1503 (n := 1505) rfl rfl ?_
  refine dw_icmp_eq (t := 1510) C dL_law_1505 (n := 1508) rfl (by decide) (fun _ => ?_) (fun hc => absurd e1 hc)
  refine dw_iload (i := 6) C dL_law_1510 (n := 1512) rfl rfl ?_
  have hex : dw_W G O p l e room_1 s m args below meth c (cells + 1) (slots + 6) Q 1527 [some (.ref b), some (dk_r G 0 40), some (dk_r G 4 60), some (.ref O.2.1), some (.ref O.2.2.1), some (.int (nI i)), some (.int r), some (.int b1), none] [] w fO' fD' := dw_goto (t := 2297) C dL_law_1527 (by decide) (dw_sub (L0 := dl_L G O b i) ⟨rfl, rfl, rfl, rfl, rfl, rfl, trivial⟩ (kk w fO' fD' hu))
  refine dw_if_ne (t := 1527) C dL_law_1512 (n := 1515) rfl (by decide) (fun _ => hex) (fun hc => ?_)
  refine dw_aload_n (i := 3) C dL_law_1515 (n := 1516) rfl rfl rfl ?_
  refine dw_iconst (v := 0) C dL_law_1516 (n := 1517) rfl (by decide) ?_
  refine dw_lald C dL_law_1517 (n := 1518) rfl ?_
  refine dw_iload (i := 7) C dL_law_1518 (n := 1520) rfl rfl ?_
  refine dw_i2l C dL_law_1520 (n := 1521) rfl ?_
  refine dw_lcmp C dL_law_1521 (n := 1522) rfl ?_
  exact dw_if_eq (t := 1527) C dL_law_1522 (n := 1525) rfl (by decide) (fun _ => hex) (fun hn => absurd (dl_cmp0 (hb1 hc)) hn)
set_option maxRecDepth 20000 in
set_option maxHeartbeats 4000000 in
theorem dl_case_21 {G : dk_G} {O : dl_T} {p : Program} {l : Launch} {e : Env} {s : State} {m : MethodId} {args : Array Value} {below : List Frame} {meth : Method} {c : Code} {cells slots : Nat} {Q : State → Prop} {b Ls : Nat} {xs : Nat → Int32} (hD : dk_D G) (hl : l.stackTraces = false) (hri : dk_RI G) (hmi : dk_MI G) (hg : dl_G G O) (C : dw_C G O p s m args c cL_law 9 RL) (hX : va_X b Ls xs s s.heap) (hb : b < s.heap.size) (hbA : ¬ dl_A O b) (hLs : Ls ≤ 3072) (hRc : cells + 1 ≤ room_1.cells ∧ slots + 6 ≤ room_1.slots) {i k : Nat} (hi : i + 6 ≤ Ls) (hk : k < 512) {σ : dk_S} {fO : Nat → Int64} {fD : Nat → UInt64} (hI : dq_I k σ) (kk : ∀ (u : dk_S) (fO' : Nat → Int64) (fD' : Nat → UInt64), dq_I (k + 1) u → dw_W G O p l e room_1 s m args below meth c (cells + 1) (slots + 6) Q 2297 (dl_L G O b i) [] u fO' fD') : dw_W G O p l e room_1 s m args below meth c cells slots Q 1530 (dl_L G O b i) [] σ fO fD := by
  refine dw_aload_n (i := 1) C dL_law_1530 (n := 1531) rfl rfl rfl ?_
  refine dw_aload_n (i := 0) C dL_law_1531 (n := 1532) rfl rfl rfl ?_
  refine dw_iload (i := 5) C dL_law_1532 (n := 1534) rfl rfl ?_
  refine dw_iconst (v := 1) C dL_law_1534 (n := 1535) rfl (by decide) ?_
  refine dw_iadd C dL_law_1535 (n := 1536) rfl ?_
  refine dw_sld C hX hb hbA (dl_in hi hLs (j := 1) (by decide) (by decide)) dL_law_1536 (n := 1537) rfl ?_
  refine dw_aload_n (i := 0) C dL_law_1537 (n := 1538) rfl rfl rfl ?_
  refine dw_iload (i := 5) C dL_law_1538 (n := 1540) rfl rfl ?_
  refine dw_iconst (v := 2) C dL_law_1540 (n := 1541) rfl (by decide) ?_
  refine dw_iadd C dL_law_1541 (n := 1542) rfl ?_
  refine dw_sld C hX hb hbA (dl_in hi hLs (j := 2) (by decide) (by decide)) dL_law_1542 (n := 1543) rfl ?_
  refine dw_aload_n (i := 0) C dL_law_1543 (n := 1544) rfl rfl rfl ?_
  refine dw_iload (i := 5) C dL_law_1544 (n := 1546) rfl rfl ?_
  refine dw_iconst (v := 3) C dL_law_1546 (n := 1547) rfl (by decide) ?_
  refine dw_iadd C dL_law_1547 (n := 1548) rfl ?_
  refine dw_sld C hX hb hbA (dl_in hi hLs (j := 3) (by decide) (by decide)) dL_law_1548 (n := 1549) rfl ?_
  refine dw_aload_n (i := 0) C dL_law_1549 (n := 1550) rfl rfl rfl ?_
  refine dw_iload (i := 5) C dL_law_1550 (n := 1552) rfl rfl ?_
  refine dw_iconst (v := 4) C dL_law_1552 (n := 1553) rfl (by decide) ?_
  refine dw_iadd C dL_law_1553 (n := 1554) rfl ?_
  refine dw_sld C hX hb hbA (dl_in hi hLs (j := 4) (by decide) (by decide)) dL_law_1554 (n := 1555) rfl ?_
  refine dw_aload_n (i := 3) C dL_law_1555 (n := 1556) rfl rfl rfl ?_
  have hz : dz_C k (wf_X8_see (xs (nI i + 1).toNatClampNeg) (xs (nI i + 2).toNatClampNeg) (xs (nI i + 3).toNatClampNeg) (xs (nI i + 4).toNatClampNeg)) (wf_X9_see (xs (nI i + 1).toNatClampNeg) (xs (nI i + 2).toNatClampNeg) (xs (nI i + 3).toNatClampNeg) (xs (nI i + 4).toNatClampNeg)) [(eIO, 1)] σ := dz_see hI
  obtain ⟨K, X, hwK, hXt, hM⟩ := dl_both hz (by decide +kernel)
  refine dw_callW C [] (cw_L_see hD hl hri hg hXt hwK) yw_L_see dk_wm_L_214 rfl (by decide) hRc rfl (by decide) rfl dL_law_1556 (n := 1559) rfl (fun r σ' fO' fD' hp => ?_)
  have hm := hM dl_bl fD r σ' fO' fD' hp
  refine dw_istore (i := 6) (L' := [some (.ref b), some (dk_r G 0 40), some (dk_r G 4 60), some (.ref O.2.1), some (.ref O.2.2.1), some (.int (nI i)), some (.int r), none, none]) C dL_law_1559 (n := 1561) rfl (dk_nc_of rfl) (Nat.le_of_ble_eq_true rfl) rfl ?_
  refine dw_aload_n (i := 2) C dL_law_1561 (n := 1562) rfl rfl rfl ?_
  refine dw_aload_n (i := 0) C dL_law_1562 (n := 1563) rfl rfl rfl ?_
  refine dw_iload (i := 5) C dL_law_1563 (n := 1565) rfl rfl ?_
  refine dw_iconst (v := 1) C dL_law_1565 (n := 1566) rfl (by decide) ?_
  refine dw_iadd C dL_law_1566 (n := 1567) rfl ?_
  refine dw_sld C hX hb hbA (dl_in hi hLs (j := 1) (by decide) (by decide)) dL_law_1567 (n := 1568) rfl ?_
  refine dw_aload_n (i := 0) C dL_law_1568 (n := 1569) rfl rfl rfl ?_
  refine dw_iload (i := 5) C dL_law_1569 (n := 1571) rfl rfl ?_
  refine dw_iconst (v := 2) C dL_law_1571 (n := 1572) rfl (by decide) ?_
  refine dw_iadd C dL_law_1572 (n := 1573) rfl ?_
  refine dw_sld C hX hb hbA (dl_in hi hLs (j := 2) (by decide) (by decide)) dL_law_1573 (n := 1574) rfl ?_
  refine dw_aload_n (i := 0) C dL_law_1574 (n := 1575) rfl rfl rfl ?_
  refine dw_iload (i := 5) C dL_law_1575 (n := 1577) rfl rfl ?_
  refine dw_iconst (v := 3) C dL_law_1577 (n := 1578) rfl (by decide) ?_
  refine dw_iadd C dL_law_1578 (n := 1579) rfl ?_
  refine dw_sld C hX hb hbA (dl_in hi hLs (j := 3) (by decide) (by decide)) dL_law_1579 (n := 1580) rfl ?_
  refine dw_aload_n (i := 0) C dL_law_1580 (n := 1581) rfl rfl rfl ?_
  refine dw_iload (i := 5) C dL_law_1581 (n := 1583) rfl rfl ?_
  refine dw_iconst (v := 4) C dL_law_1583 (n := 1584) rfl (by decide) ?_
  refine dw_iadd C dL_law_1584 (n := 1585) rfl ?_
  refine dw_sld C hX hb hbA (dl_in hi hLs (j := 4) (by decide) (by decide)) dL_law_1585 (n := 1586) rfl ?_
  refine dw_callV C [] (cc_X9_see hD hmi hm) yy_X9_see dk_wm_L_216 rfl (by decide) hRc dk_sh60 rfl (hmi 60 (by decide) (by decide)) rfl (by decide) rfl dL_law_1586 (n := 1589) rfl (fun v u hv => ?_)
  obtain ⟨b1, rfl, hu, h0, hb1⟩ := hv
  refine dw_istore (i := 7) (L' := [some (.ref b), some (dk_r G 0 40), some (dk_r G 4 60), some (.ref O.2.1), some (.ref O.2.2.1), some (.int (nI i)), some (.int r), some (.int b1), none]) C dL_law_1589 (n := 1591) rfl (dk_nc_of rfl) (Nat.le_of_ble_eq_true rfl) rfl ?_
  refine dw_aload_n (i := 2) C dL_law_1591 (n := 1592) rfl rfl rfl ?_
  refine dw_callV C [] (cc_X9_thrown hD hmi (dl_thr h0)) yy_X9_thrown dk_wm_L_140 rfl (by decide) hRc dk_sh60 rfl (hmi 60 (by decide) (by decide)) rfl (by decide) rfl dL_law_1592 (n := 1595) rfl (fun v w hv => ?_)
  obtain ⟨x1, rfl, e1, e2⟩ := hv
  subst e2
  refine dw_iload (i := 6) C dL_law_1595 (n := 1597) rfl rfl ?_
  refine dw_icmp_eq (t := 1602) C dL_law_1597 (n := 1600) rfl (by decide) (fun _ => ?_) (fun hc => absurd e1 hc)
  refine dw_iload (i := 6) C dL_law_1602 (n := 1604) rfl rfl ?_
  have hex : dw_W G O p l e room_1 s m args below meth c (cells + 1) (slots + 6) Q 1626 [some (.ref b), some (dk_r G 0 40), some (dk_r G 4 60), some (.ref O.2.1), some (.ref O.2.2.1), some (.int (nI i)), some (.int r), some (.int b1), none] [] w fO' fD' := dw_goto (t := 2297) C dL_law_1626 (by decide) (dw_sub (L0 := dl_L G O b i) ⟨rfl, rfl, rfl, rfl, rfl, rfl, trivial⟩ (kk w fO' fD' hu))
  refine dw_if_ne (t := 1626) C dL_law_1604 (n := 1607) rfl (by decide) (fun _ => hex) (fun hc => ?_)
  refine dw_aload_n (i := 3) C dL_law_1607 (n := 1608) rfl rfl rfl ?_
  refine dw_iconst (v := 0) C dL_law_1608 (n := 1609) rfl (by decide) ?_
  refine dw_lald C dL_law_1609 (n := 1610) rfl ?_
  refine dw_iload (i := 7) C dL_law_1610 (n := 1612) rfl rfl ?_
  refine dw_boolL C dL_law_1612 dL_law_1615 dL_law_1616 dL_law_1619 (n := 1620) (by decide) (by decide) rfl ?_
  refine dw_lcmp C dL_law_1620 (n := 1621) rfl ?_
  exact dw_if_eq (t := 1626) C dL_law_1621 (n := 1624) rfl (by decide) (fun _ => hex) (fun hn => absurd (dl_cmp0 (hb1 hc)) hn)
set_option maxRecDepth 20000 in
set_option maxHeartbeats 4000000 in
theorem dl_case_22 {G : dk_G} {O : dl_T} {p : Program} {l : Launch} {e : Env} {s : State} {m : MethodId} {args : Array Value} {below : List Frame} {meth : Method} {c : Code} {cells slots : Nat} {Q : State → Prop} {b Ls : Nat} {xs : Nat → Int32} (hD : dk_D G) (hl : l.stackTraces = false) (hri : dk_RI G) (hmi : dk_MI G) (hg : dl_G G O) (C : dw_C G O p s m args c cL_law 9 RL) (hX : va_X b Ls xs s s.heap) (hb : b < s.heap.size) (hbA : ¬ dl_A O b) (hLs : Ls ≤ 3072) (hRc : cells + 1 ≤ room_1.cells ∧ slots + 6 ≤ room_1.slots) {i k : Nat} (hi : i + 6 ≤ Ls) (hk : k < 512) {σ : dk_S} {fO : Nat → Int64} {fD : Nat → UInt64} (hI : dq_I k σ) (kk : ∀ (u : dk_S) (fO' : Nat → Int64) (fD' : Nat → UInt64), dq_I (k + 1) u → dw_W G O p l e room_1 s m args below meth c (cells + 1) (slots + 6) Q 2297 (dl_L G O b i) [] u fO' fD') : dw_W G O p l e room_1 s m args below meth c cells slots Q 1629 (dl_L G O b i) [] σ fO fD := by
  refine dw_aload_n (i := 1) C dL_law_1629 (n := 1630) rfl rfl rfl ?_
  refine dw_aload_n (i := 0) C dL_law_1630 (n := 1631) rfl rfl rfl ?_
  refine dw_iload (i := 5) C dL_law_1631 (n := 1633) rfl rfl ?_
  refine dw_iconst (v := 1) C dL_law_1633 (n := 1634) rfl (by decide) ?_
  refine dw_iadd C dL_law_1634 (n := 1635) rfl ?_
  refine dw_sld C hX hb hbA (dl_in hi hLs (j := 1) (by decide) (by decide)) dL_law_1635 (n := 1636) rfl ?_
  refine dw_aload_n (i := 0) C dL_law_1636 (n := 1637) rfl rfl rfl ?_
  refine dw_iload (i := 5) C dL_law_1637 (n := 1639) rfl rfl ?_
  refine dw_iconst (v := 2) C dL_law_1639 (n := 1640) rfl (by decide) ?_
  refine dw_iadd C dL_law_1640 (n := 1641) rfl ?_
  refine dw_sld C hX hb hbA (dl_in hi hLs (j := 2) (by decide) (by decide)) dL_law_1641 (n := 1642) rfl ?_
  refine dw_aload_n (i := 3) C dL_law_1642 (n := 1643) rfl rfl rfl ?_
  have hz : dz_C k (wf_X8_heroSees (xs (nI i + 1).toNatClampNeg) (xs (nI i + 2).toNatClampNeg)) (wf_X9_heroSees (xs (nI i + 1).toNatClampNeg) (xs (nI i + 2).toNatClampNeg)) [(eIO, 1), (eIS, 2)] σ := dz_heroSees hI
  obtain ⟨K, X, hwK, hXt, hM⟩ := dl_both hz (by decide +kernel)
  refine dw_callW C [] (cw_L_heroSees hD hl hri hg hXt hwK) yw_L_heroSees dk_wm_L_217 rfl (by decide) hRc rfl (by decide) rfl dL_law_1643 (n := 1646) rfl (fun r σ' fO' fD' hp => ?_)
  have hm := hM dl_bl fD r σ' fO' fD' hp
  refine dw_istore (i := 6) (L' := [some (.ref b), some (dk_r G 0 40), some (dk_r G 4 60), some (.ref O.2.1), some (.ref O.2.2.1), some (.int (nI i)), some (.int r), none, none]) C dL_law_1646 (n := 1648) rfl (dk_nc_of rfl) (Nat.le_of_ble_eq_true rfl) rfl ?_
  refine dw_aload_n (i := 2) C dL_law_1648 (n := 1649) rfl rfl rfl ?_
  refine dw_aload_n (i := 0) C dL_law_1649 (n := 1650) rfl rfl rfl ?_
  refine dw_iload (i := 5) C dL_law_1650 (n := 1652) rfl rfl ?_
  refine dw_iconst (v := 1) C dL_law_1652 (n := 1653) rfl (by decide) ?_
  refine dw_iadd C dL_law_1653 (n := 1654) rfl ?_
  refine dw_sld C hX hb hbA (dl_in hi hLs (j := 1) (by decide) (by decide)) dL_law_1654 (n := 1655) rfl ?_
  refine dw_aload_n (i := 0) C dL_law_1655 (n := 1656) rfl rfl rfl ?_
  refine dw_iload (i := 5) C dL_law_1656 (n := 1658) rfl rfl ?_
  refine dw_iconst (v := 2) C dL_law_1658 (n := 1659) rfl (by decide) ?_
  refine dw_iadd C dL_law_1659 (n := 1660) rfl ?_
  refine dw_sld C hX hb hbA (dl_in hi hLs (j := 2) (by decide) (by decide)) dL_law_1660 (n := 1661) rfl ?_
  refine dw_callV C [] (cc_X9_heroSees hD hmi hm) yy_X9_heroSees dk_wm_L_219 rfl (by decide) hRc dk_sh60 rfl (hmi 60 (by decide) (by decide)) rfl (by decide) rfl dL_law_1661 (n := 1664) rfl (fun v u hv => ?_)
  obtain ⟨b1, rfl, hu, h0, hb1⟩ := hv
  refine dw_istore (i := 7) (L' := [some (.ref b), some (dk_r G 0 40), some (dk_r G 4 60), some (.ref O.2.1), some (.ref O.2.2.1), some (.int (nI i)), some (.int r), some (.int b1), none]) C dL_law_1664 (n := 1666) rfl (dk_nc_of rfl) (Nat.le_of_ble_eq_true rfl) rfl ?_
  refine dw_aload_n (i := 2) C dL_law_1666 (n := 1667) rfl rfl rfl ?_
  refine dw_callV C [] (cc_X9_thrown hD hmi (dl_thr h0)) yy_X9_thrown dk_wm_L_140 rfl (by decide) hRc dk_sh60 rfl (hmi 60 (by decide) (by decide)) rfl (by decide) rfl dL_law_1667 (n := 1670) rfl (fun v w hv => ?_)
  obtain ⟨x1, rfl, e1, e2⟩ := hv
  subst e2
  refine dw_iload (i := 6) C dL_law_1670 (n := 1672) rfl rfl ?_
  refine dw_icmp_eq (t := 1677) C dL_law_1672 (n := 1675) rfl (by decide) (fun _ => ?_) (fun hc => absurd e1 hc)
  refine dw_iload (i := 6) C dL_law_1677 (n := 1679) rfl rfl ?_
  have hex : dw_W G O p l e room_1 s m args below meth c (cells + 1) (slots + 6) Q 1701 [some (.ref b), some (dk_r G 0 40), some (dk_r G 4 60), some (.ref O.2.1), some (.ref O.2.2.1), some (.int (nI i)), some (.int r), some (.int b1), none] [] w fO' fD' := dw_goto (t := 2297) C dL_law_1701 (by decide) (dw_sub (L0 := dl_L G O b i) ⟨rfl, rfl, rfl, rfl, rfl, rfl, trivial⟩ (kk w fO' fD' hu))
  refine dw_if_ne (t := 1701) C dL_law_1679 (n := 1682) rfl (by decide) (fun _ => hex) (fun hc => ?_)
  refine dw_aload_n (i := 3) C dL_law_1682 (n := 1683) rfl rfl rfl ?_
  refine dw_iconst (v := 0) C dL_law_1683 (n := 1684) rfl (by decide) ?_
  refine dw_lald C dL_law_1684 (n := 1685) rfl ?_
  refine dw_iload (i := 7) C dL_law_1685 (n := 1687) rfl rfl ?_
  refine dw_boolL C dL_law_1687 dL_law_1690 dL_law_1691 dL_law_1694 (n := 1695) (by decide) (by decide) rfl ?_
  refine dw_lcmp C dL_law_1695 (n := 1696) rfl ?_
  exact dw_if_eq (t := 1701) C dL_law_1696 (n := 1699) rfl (by decide) (fun _ => hex) (fun hn => absurd (dl_cmp0 (hb1 hc)) hn)
set_option maxRecDepth 20000 in
set_option maxHeartbeats 4000000 in
theorem dl_case_23 {G : dk_G} {O : dl_T} {p : Program} {l : Launch} {e : Env} {s : State} {m : MethodId} {args : Array Value} {below : List Frame} {meth : Method} {c : Code} {cells slots : Nat} {Q : State → Prop} {b Ls : Nat} {xs : Nat → Int32} (hD : dk_D G) (hl : l.stackTraces = false) (hri : dk_RI G) (hmi : dk_MI G) (hg : dl_G G O) (C : dw_C G O p s m args c cL_law 9 RL) (hX : va_X b Ls xs s s.heap) (hb : b < s.heap.size) (hbA : ¬ dl_A O b) (hLs : Ls ≤ 3072) (hRc : cells + 1 ≤ room_1.cells ∧ slots + 6 ≤ room_1.slots) {i k : Nat} (hi : i + 6 ≤ Ls) (hk : k < 512) {σ : dk_S} {fO : Nat → Int64} {fD : Nat → UInt64} (hI : dq_I k σ) (kk : ∀ (u : dk_S) (fO' : Nat → Int64) (fD' : Nat → UInt64), dq_I (k + 1) u → dw_W G O p l e room_1 s m args below meth c (cells + 1) (slots + 6) Q 2297 (dl_L G O b i) [] u fO' fD') : dw_W G O p l e room_1 s m args below meth c cells slots Q 1704 (dl_L G O b i) [] σ fO fD := by
  refine dw_aload_n (i := 1) C dL_law_1704 (n := 1705) rfl rfl rfl ?_
  refine dw_aload_n (i := 0) C dL_law_1705 (n := 1706) rfl rfl rfl ?_
  refine dw_iload (i := 5) C dL_law_1706 (n := 1708) rfl rfl ?_
  refine dw_iconst (v := 1) C dL_law_1708 (n := 1709) rfl (by decide) ?_
  refine dw_iadd C dL_law_1709 (n := 1710) rfl ?_
  refine dw_sld C hX hb hbA (dl_in hi hLs (j := 1) (by decide) (by decide)) dL_law_1710 (n := 1711) rfl ?_
  refine dw_aload_n (i := 3) C dL_law_1711 (n := 1712) rfl rfl rfl ?_
  have hz : dz_C k (wf_X8_placeOf (xs (nI i + 1).toNatClampNeg)) (wf_X9_placeOf (xs (nI i + 1).toNatClampNeg)) [(eIO, 1)] σ := dz_placeOf hI
  obtain ⟨K, X, hwK, hXt, hM⟩ := dl_both hz (by decide +kernel)
  refine dw_callW C [] (cw_L_placeOf hD hl hri hg hXt hwK) yw_L_placeOf dk_wm_L_220 rfl (by decide) hRc rfl (by decide) rfl dL_law_1712 (n := 1715) rfl (fun r σ' fO' fD' hp => ?_)
  have hm := hM Int32.toInt64 fD r σ' fO' fD' hp
  refine dw_istore (i := 6) (L' := [some (.ref b), some (dk_r G 0 40), some (dk_r G 4 60), some (.ref O.2.1), some (.ref O.2.2.1), some (.int (nI i)), some (.int r), none, none]) C dL_law_1715 (n := 1717) rfl (dk_nc_of rfl) (Nat.le_of_ble_eq_true rfl) rfl ?_
  refine dw_aload_n (i := 2) C dL_law_1717 (n := 1718) rfl rfl rfl ?_
  refine dw_aload_n (i := 0) C dL_law_1718 (n := 1719) rfl rfl rfl ?_
  refine dw_iload (i := 5) C dL_law_1719 (n := 1721) rfl rfl ?_
  refine dw_iconst (v := 1) C dL_law_1721 (n := 1722) rfl (by decide) ?_
  refine dw_iadd C dL_law_1722 (n := 1723) rfl ?_
  refine dw_sld C hX hb hbA (dl_in hi hLs (j := 1) (by decide) (by decide)) dL_law_1723 (n := 1724) rfl ?_
  refine dw_callV C [] (cc_X9_placeOf hD hmi hm) yy_X9_placeOf dk_wm_L_222 rfl (by decide) hRc dk_sh60 rfl (hmi 60 (by decide) (by decide)) rfl (by decide) rfl dL_law_1724 (n := 1727) rfl (fun v u hv => ?_)
  obtain ⟨b1, rfl, hu, h0, hb1⟩ := hv
  refine dw_istore (i := 7) (L' := [some (.ref b), some (dk_r G 0 40), some (dk_r G 4 60), some (.ref O.2.1), some (.ref O.2.2.1), some (.int (nI i)), some (.int r), some (.int b1), none]) C dL_law_1727 (n := 1729) rfl (dk_nc_of rfl) (Nat.le_of_ble_eq_true rfl) rfl ?_
  refine dw_aload_n (i := 2) C dL_law_1729 (n := 1730) rfl rfl rfl ?_
  refine dw_callV C [] (cc_X9_thrown hD hmi (dl_thr h0)) yy_X9_thrown dk_wm_L_140 rfl (by decide) hRc dk_sh60 rfl (hmi 60 (by decide) (by decide)) rfl (by decide) rfl dL_law_1730 (n := 1733) rfl (fun v w hv => ?_)
  obtain ⟨x1, rfl, e1, e2⟩ := hv
  subst e2
  refine dw_iload (i := 6) C dL_law_1733 (n := 1735) rfl rfl ?_
  refine dw_icmp_eq (t := 1740) C dL_law_1735 (n := 1738) rfl (by decide) (fun _ => ?_) (fun hc => absurd e1 hc)
  refine dw_iload (i := 6) C dL_law_1740 (n := 1742) rfl rfl ?_
  have hex : dw_W G O p l e room_1 s m args below meth c (cells + 1) (slots + 6) Q 1757 [some (.ref b), some (dk_r G 0 40), some (dk_r G 4 60), some (.ref O.2.1), some (.ref O.2.2.1), some (.int (nI i)), some (.int r), some (.int b1), none] [] w fO' fD' := dw_goto (t := 2297) C dL_law_1757 (by decide) (dw_sub (L0 := dl_L G O b i) ⟨rfl, rfl, rfl, rfl, rfl, rfl, trivial⟩ (kk w fO' fD' hu))
  refine dw_if_ne (t := 1757) C dL_law_1742 (n := 1745) rfl (by decide) (fun _ => hex) (fun hc => ?_)
  refine dw_aload_n (i := 3) C dL_law_1745 (n := 1746) rfl rfl rfl ?_
  refine dw_iconst (v := 0) C dL_law_1746 (n := 1747) rfl (by decide) ?_
  refine dw_lald C dL_law_1747 (n := 1748) rfl ?_
  refine dw_iload (i := 7) C dL_law_1748 (n := 1750) rfl rfl ?_
  refine dw_i2l C dL_law_1750 (n := 1751) rfl ?_
  refine dw_lcmp C dL_law_1751 (n := 1752) rfl ?_
  exact dw_if_eq (t := 1757) C dL_law_1752 (n := 1755) rfl (by decide) (fun _ => hex) (fun hn => absurd (dl_cmp0 (hb1 hc)) hn)
set_option maxRecDepth 20000 in
set_option maxHeartbeats 4000000 in
theorem dl_case_24 {G : dk_G} {O : dl_T} {p : Program} {l : Launch} {e : Env} {s : State} {m : MethodId} {args : Array Value} {below : List Frame} {meth : Method} {c : Code} {cells slots : Nat} {Q : State → Prop} {b Ls : Nat} {xs : Nat → Int32} (hD : dk_D G) (hl : l.stackTraces = false) (hri : dk_RI G) (hmi : dk_MI G) (hg : dl_G G O) (C : dw_C G O p s m args c cL_law 9 RL) (hX : va_X b Ls xs s s.heap) (hb : b < s.heap.size) (hbA : ¬ dl_A O b) (hLs : Ls ≤ 3072) (hRc : cells + 1 ≤ room_1.cells ∧ slots + 6 ≤ room_1.slots) {i k : Nat} (hi : i + 6 ≤ Ls) (hk : k < 512) {σ : dk_S} {fO : Nat → Int64} {fD : Nat → UInt64} (hI : dq_I k σ) (kk : ∀ (u : dk_S) (fO' : Nat → Int64) (fD' : Nat → UInt64), dq_I (k + 1) u → dw_W G O p l e room_1 s m args below meth c (cells + 1) (slots + 6) Q 2297 (dl_L G O b i) [] u fO' fD') : dw_W G O p l e room_1 s m args below meth c cells slots Q 1760 (dl_L G O b i) [] σ fO fD := by
  refine dw_aload_n (i := 1) C dL_law_1760 (n := 1761) rfl rfl rfl ?_
  refine dw_aload_n (i := 0) C dL_law_1761 (n := 1762) rfl rfl rfl ?_
  refine dw_iload (i := 5) C dL_law_1762 (n := 1764) rfl rfl ?_
  refine dw_iconst (v := 1) C dL_law_1764 (n := 1765) rfl (by decide) ?_
  refine dw_iadd C dL_law_1765 (n := 1766) rfl ?_
  refine dw_sld C hX hb hbA (dl_in hi hLs (j := 1) (by decide) (by decide)) dL_law_1766 (n := 1767) rfl ?_
  refine dw_aload_n (i := 3) C dL_law_1767 (n := 1768) rfl rfl rfl ?_
  have hz : dz_C k (wf_X8_healthOf (xs (nI i + 1).toNatClampNeg)) (wf_X9_healthOf (xs (nI i + 1).toNatClampNeg)) [(eIO, 1)] σ := dz_healthOf hI
  obtain ⟨K, X, hwK, hXt, hM⟩ := dl_both hz (by decide +kernel)
  refine dw_callW C [] (cw_L_healthOf hD hl hri hg hXt hwK) yw_L_healthOf dk_wm_L_223 rfl (by decide) hRc rfl (by decide) rfl dL_law_1768 (n := 1771) rfl (fun r σ' fO' fD' hp => ?_)
  have hm := hM Int32.toInt64 fD r σ' fO' fD' hp
  refine dw_istore (i := 6) (L' := [some (.ref b), some (dk_r G 0 40), some (dk_r G 4 60), some (.ref O.2.1), some (.ref O.2.2.1), some (.int (nI i)), some (.int r), none, none]) C dL_law_1771 (n := 1773) rfl (dk_nc_of rfl) (Nat.le_of_ble_eq_true rfl) rfl ?_
  refine dw_aload_n (i := 2) C dL_law_1773 (n := 1774) rfl rfl rfl ?_
  refine dw_aload_n (i := 0) C dL_law_1774 (n := 1775) rfl rfl rfl ?_
  refine dw_iload (i := 5) C dL_law_1775 (n := 1777) rfl rfl ?_
  refine dw_iconst (v := 1) C dL_law_1777 (n := 1778) rfl (by decide) ?_
  refine dw_iadd C dL_law_1778 (n := 1779) rfl ?_
  refine dw_sld C hX hb hbA (dl_in hi hLs (j := 1) (by decide) (by decide)) dL_law_1779 (n := 1780) rfl ?_
  refine dw_callV C [] (cc_X9_healthOf hD hmi hm) yy_X9_healthOf dk_wm_L_225 rfl (by decide) hRc dk_sh60 rfl (hmi 60 (by decide) (by decide)) rfl (by decide) rfl dL_law_1780 (n := 1783) rfl (fun v u hv => ?_)
  obtain ⟨b1, rfl, hu, h0, hb1⟩ := hv
  refine dw_istore (i := 7) (L' := [some (.ref b), some (dk_r G 0 40), some (dk_r G 4 60), some (.ref O.2.1), some (.ref O.2.2.1), some (.int (nI i)), some (.int r), some (.int b1), none]) C dL_law_1783 (n := 1785) rfl (dk_nc_of rfl) (Nat.le_of_ble_eq_true rfl) rfl ?_
  refine dw_aload_n (i := 2) C dL_law_1785 (n := 1786) rfl rfl rfl ?_
  refine dw_callV C [] (cc_X9_thrown hD hmi (dl_thr h0)) yy_X9_thrown dk_wm_L_140 rfl (by decide) hRc dk_sh60 rfl (hmi 60 (by decide) (by decide)) rfl (by decide) rfl dL_law_1786 (n := 1789) rfl (fun v w hv => ?_)
  obtain ⟨x1, rfl, e1, e2⟩ := hv
  subst e2
  refine dw_iload (i := 6) C dL_law_1789 (n := 1791) rfl rfl ?_
  refine dw_icmp_eq (t := 1796) C dL_law_1791 (n := 1794) rfl (by decide) (fun _ => ?_) (fun hc => absurd e1 hc)
  refine dw_iload (i := 6) C dL_law_1796 (n := 1798) rfl rfl ?_
  have hex : dw_W G O p l e room_1 s m args below meth c (cells + 1) (slots + 6) Q 1813 [some (.ref b), some (dk_r G 0 40), some (dk_r G 4 60), some (.ref O.2.1), some (.ref O.2.2.1), some (.int (nI i)), some (.int r), some (.int b1), none] [] w fO' fD' := dw_goto (t := 2297) C dL_law_1813 (by decide) (dw_sub (L0 := dl_L G O b i) ⟨rfl, rfl, rfl, rfl, rfl, rfl, trivial⟩ (kk w fO' fD' hu))
  refine dw_if_ne (t := 1813) C dL_law_1798 (n := 1801) rfl (by decide) (fun _ => hex) (fun hc => ?_)
  refine dw_aload_n (i := 3) C dL_law_1801 (n := 1802) rfl rfl rfl ?_
  refine dw_iconst (v := 0) C dL_law_1802 (n := 1803) rfl (by decide) ?_
  refine dw_lald C dL_law_1803 (n := 1804) rfl ?_
  refine dw_iload (i := 7) C dL_law_1804 (n := 1806) rfl rfl ?_
  refine dw_i2l C dL_law_1806 (n := 1807) rfl ?_
  refine dw_lcmp C dL_law_1807 (n := 1808) rfl ?_
  exact dw_if_eq (t := 1813) C dL_law_1808 (n := 1811) rfl (by decide) (fun _ => hex) (fun hn => absurd (dl_cmp0 (hb1 hc)) hn)
set_option maxRecDepth 20000 in
set_option maxHeartbeats 4000000 in
theorem dl_case_25 {G : dk_G} {O : dl_T} {p : Program} {l : Launch} {e : Env} {s : State} {m : MethodId} {args : Array Value} {below : List Frame} {meth : Method} {c : Code} {cells slots : Nat} {Q : State → Prop} {b Ls : Nat} {xs : Nat → Int32} (hD : dk_D G) (hl : l.stackTraces = false) (hri : dk_RI G) (hmi : dk_MI G) (hg : dl_G G O) (C : dw_C G O p s m args c cL_law 9 RL) (hX : va_X b Ls xs s s.heap) (hb : b < s.heap.size) (hbA : ¬ dl_A O b) (hLs : Ls ≤ 3072) (hRc : cells + 1 ≤ room_1.cells ∧ slots + 6 ≤ room_1.slots) {i k : Nat} (hi : i + 6 ≤ Ls) (hk : k < 512) {σ : dk_S} {fO : Nat → Int64} {fD : Nat → UInt64} (hI : dq_I k σ) (kk : ∀ (u : dk_S) (fO' : Nat → Int64) (fD' : Nat → UInt64), dq_I (k + 1) u → dw_W G O p l e room_1 s m args below meth c (cells + 1) (slots + 6) Q 2297 (dl_L G O b i) [] u fO' fD') : dw_W G O p l e room_1 s m args below meth c cells slots Q 1816 (dl_L G O b i) [] σ fO fD := by
  refine dw_aload_n (i := 1) C dL_law_1816 (n := 1817) rfl rfl rfl ?_
  refine dw_aload_n (i := 0) C dL_law_1817 (n := 1818) rfl rfl rfl ?_
  refine dw_iload (i := 5) C dL_law_1818 (n := 1820) rfl rfl ?_
  refine dw_iconst (v := 1) C dL_law_1820 (n := 1821) rfl (by decide) ?_
  refine dw_iadd C dL_law_1821 (n := 1822) rfl ?_
  refine dw_sld C hX hb hbA (dl_in hi hLs (j := 1) (by decide) (by decide)) dL_law_1822 (n := 1823) rfl ?_
  refine dw_aload_n (i := 3) C dL_law_1823 (n := 1824) rfl rfl rfl ?_
  have hz : dz_C k (wf_X8_aimOf (xs (nI i + 1).toNatClampNeg)) (wf_X9_aimOf (xs (nI i + 1).toNatClampNeg)) [(eIO, 1), (eNS, 2)] σ := dz_aimOf hI
  obtain ⟨K, X, hwK, hXt, hM⟩ := dl_both hz (by decide +kernel)
  refine dw_callW C [] (cw_L_aimOf hD hl hri hg hXt hwK) yw_L_aimOf dk_wm_L_226 rfl (by decide) hRc rfl (by decide) rfl dL_law_1824 (n := 1827) rfl (fun r σ' fO' fD' hp => ?_)
  have hm := hM Int32.toInt64 fD r σ' fO' fD' hp
  refine dw_istore (i := 6) (L' := [some (.ref b), some (dk_r G 0 40), some (dk_r G 4 60), some (.ref O.2.1), some (.ref O.2.2.1), some (.int (nI i)), some (.int r), none, none]) C dL_law_1827 (n := 1829) rfl (dk_nc_of rfl) (Nat.le_of_ble_eq_true rfl) rfl ?_
  refine dw_aload_n (i := 2) C dL_law_1829 (n := 1830) rfl rfl rfl ?_
  refine dw_aload_n (i := 0) C dL_law_1830 (n := 1831) rfl rfl rfl ?_
  refine dw_iload (i := 5) C dL_law_1831 (n := 1833) rfl rfl ?_
  refine dw_iconst (v := 1) C dL_law_1833 (n := 1834) rfl (by decide) ?_
  refine dw_iadd C dL_law_1834 (n := 1835) rfl ?_
  refine dw_sld C hX hb hbA (dl_in hi hLs (j := 1) (by decide) (by decide)) dL_law_1835 (n := 1836) rfl ?_
  refine dw_callV C [] (cc_X9_aimOf hD hmi hm) yy_X9_aimOf dk_wm_L_228 rfl (by decide) hRc dk_sh60 rfl (hmi 60 (by decide) (by decide)) rfl (by decide) rfl dL_law_1836 (n := 1839) rfl (fun v u hv => ?_)
  obtain ⟨b1, rfl, hu, h0, hb1⟩ := hv
  refine dw_istore (i := 7) (L' := [some (.ref b), some (dk_r G 0 40), some (dk_r G 4 60), some (.ref O.2.1), some (.ref O.2.2.1), some (.int (nI i)), some (.int r), some (.int b1), none]) C dL_law_1839 (n := 1841) rfl (dk_nc_of rfl) (Nat.le_of_ble_eq_true rfl) rfl ?_
  refine dw_aload_n (i := 2) C dL_law_1841 (n := 1842) rfl rfl rfl ?_
  refine dw_callV C [] (cc_X9_thrown hD hmi (dl_thr h0)) yy_X9_thrown dk_wm_L_140 rfl (by decide) hRc dk_sh60 rfl (hmi 60 (by decide) (by decide)) rfl (by decide) rfl dL_law_1842 (n := 1845) rfl (fun v w hv => ?_)
  obtain ⟨x1, rfl, e1, e2⟩ := hv
  subst e2
  refine dw_iload (i := 6) C dL_law_1845 (n := 1847) rfl rfl ?_
  refine dw_icmp_eq (t := 1852) C dL_law_1847 (n := 1850) rfl (by decide) (fun _ => ?_) (fun hc => absurd e1 hc)
  refine dw_iload (i := 6) C dL_law_1852 (n := 1854) rfl rfl ?_
  have hex : dw_W G O p l e room_1 s m args below meth c (cells + 1) (slots + 6) Q 1869 [some (.ref b), some (dk_r G 0 40), some (dk_r G 4 60), some (.ref O.2.1), some (.ref O.2.2.1), some (.int (nI i)), some (.int r), some (.int b1), none] [] w fO' fD' := dw_goto (t := 2297) C dL_law_1869 (by decide) (dw_sub (L0 := dl_L G O b i) ⟨rfl, rfl, rfl, rfl, rfl, rfl, trivial⟩ (kk w fO' fD' hu))
  refine dw_if_ne (t := 1869) C dL_law_1854 (n := 1857) rfl (by decide) (fun _ => hex) (fun hc => ?_)
  refine dw_aload_n (i := 3) C dL_law_1857 (n := 1858) rfl rfl rfl ?_
  refine dw_iconst (v := 0) C dL_law_1858 (n := 1859) rfl (by decide) ?_
  refine dw_lald C dL_law_1859 (n := 1860) rfl ?_
  refine dw_iload (i := 7) C dL_law_1860 (n := 1862) rfl rfl ?_
  refine dw_i2l C dL_law_1862 (n := 1863) rfl ?_
  refine dw_lcmp C dL_law_1863 (n := 1864) rfl ?_
  exact dw_if_eq (t := 1869) C dL_law_1864 (n := 1867) rfl (by decide) (fun _ => hex) (fun hn => absurd (dl_cmp0 (hb1 hc)) hn)
