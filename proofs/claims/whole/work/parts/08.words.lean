theorem dk_sh0 : dk_shp 0 = .inr (7, [some (fun p => (p, 1)), some (fun p => (p, 7)), some (fun p => (p, 13)), some (fun p => (p, 23)), some (fun p => (p, 26)), none, none, none, none, none]) := rfl
theorem dk_sh1 : dk_shp 1 = .inr (1, [some (fun p => (p, 2)), some (fun p => (p, 3)), some (fun p => (p, 4)), some (fun p => (p, 5)), some (fun p => (p, 6)), none]) := rfl
theorem dk_sh2 : dk_shp 2 = .inl (1, 144) := rfl
theorem dk_sh3 : dk_shp 3 = .inl (0, 432) := rfl
theorem dk_sh4 : dk_shp 4 = .inl (0, 144) := rfl
theorem dk_sh5 : dk_shp 5 = .inl (0, 144) := rfl
theorem dk_sh6 : dk_shp 6 = .inl (0, 144) := rfl
theorem dk_sh7 : dk_shp 7 = .inr (3, [some (fun p => (p, 8)), some (fun p => (p, 9)), some (fun p => (p, 10)), some (fun p => (p, 11)), some (fun p => (p, 12))]) := rfl
theorem dk_sh8 : dk_shp 8 = .inl (0, 8) := rfl
theorem dk_sh9 : dk_shp 9 = .inl (0, 8) := rfl
theorem dk_sh10 : dk_shp 10 = .inl (0, 8) := rfl
theorem dk_sh11 : dk_shp 11 = .inl (0, 8) := rfl
theorem dk_sh12 : dk_shp 12 = .inl (0, 8) := rfl
theorem dk_sh13 : dk_shp 13 = .inr (2, [some (fun p => (p, 14)), some (fun p => (p, 15)), some (fun p => (p, 16)), some (fun p => (p, 17)), some (fun p => (p, 18)), some (fun p => (p, 19)), some (fun p => (p, 20)), some (fun p => (p, 21)), some (fun p => (p, 22)), none]) := rfl
theorem dk_sh14 : dk_shp 14 = .inl (0, 8) := rfl
theorem dk_sh15 : dk_shp 15 = .inl (0, 8) := rfl
theorem dk_sh16 : dk_shp 16 = .inl (0, 8) := rfl
theorem dk_sh17 : dk_shp 17 = .inl (0, 8) := rfl
theorem dk_sh18 : dk_shp 18 = .inl (0, 8) := rfl
theorem dk_sh19 : dk_shp 19 = .inl (0, 8) := rfl
theorem dk_sh20 : dk_shp 20 = .inl (0, 8) := rfl
theorem dk_sh21 : dk_shp 21 = .inl (0, 8) := rfl
theorem dk_sh22 : dk_shp 22 = .inl (0, 8) := rfl
theorem dk_sh23 : dk_shp 23 = .inr (6, [some (fun p => (p, 24)), some (fun p => (p, 25)), none]) := rfl
theorem dk_sh24 : dk_shp 24 = .inl (0, 24) := rfl
theorem dk_sh25 : dk_shp 25 = .inl (0, 24) := rfl
theorem dk_sh26 : dk_shp 26 = .inr (4, [some (fun p => (p, 27)), some (fun p => (p, 28)), none]) := rfl
theorem dk_sh27 : dk_shp 27 = .inl (0, 4) := rfl
theorem dk_sh28 : dk_shp 28 = .inl (0, 4) := rfl
theorem dk_sh40 : dk_shp 40 = .inr (8, [some (fun _ => (1, 0)), some (fun _ => (2, 0)), some (fun _ => (3, 0)), some (fun _ => (0, 41)), some (fun _ => (0, 45)), none, none]) := rfl
theorem dk_sh41 : dk_shp 41 = .inr (5, [some (fun p => (p, 42)), some (fun p => (p, 43)), some (fun p => (p, 44)), none]) := rfl
theorem dk_sh42 : dk_shp 42 = .inl (0, 512) := rfl
theorem dk_sh43 : dk_shp 43 = .inl (0, 512) := rfl
theorem dk_sh44 : dk_shp 44 = .inl (0, 512) := rfl
theorem dk_sh45 : dk_shp 45 = .inr (0, [some (fun p => (p, 46)), none]) := rfl
theorem dk_sh46 : dk_shp 46 = .inl (0, 24) := rfl
theorem dk_sh60 : dk_shp 60 = .inr (9, [none, none, none, none, some (fun p => (p, 61)), some (fun p => (p, 62)), some (fun p => (p, 63)), some (fun p => (p, 64)), some (fun p => (p, 65)), some (fun p => (p, 66)), none, some (fun p => (p, 67)), some (fun p => (p, 68)), some (fun p => (p, 69)), some (fun p => (p, 70)), none, some (fun p => (p, 71)), some (fun p => (p, 72)), none, some (fun p => (p, 73)), some (fun p => (p, 74)), some (fun p => (p, 75)), some (fun p => (p, 76)), some (fun p => (p, 77)), some (fun p => (p, 78)), some (fun p => (p, 79)), some (fun p => (p, 80)), some (fun p => (p, 81)), some (fun p => (p, 82)), some (fun p => (p, 83)), none, none, none, some (fun p => (p, 84)), some (fun p => (p, 85)), some (fun p => (p, 86)), some (fun p => (p, 87))]) := rfl
theorem dk_sh61 : dk_shp 61 = .inl (1, 144) := rfl
theorem dk_sh62 : dk_shp 62 = .inl (0, 8) := rfl
theorem dk_sh63 : dk_shp 63 = .inl (2, 8) := rfl
theorem dk_sh64 : dk_shp 64 = .inl (1, 8) := rfl
theorem dk_sh65 : dk_shp 65 = .inl (0, 8) := rfl
theorem dk_sh66 : dk_shp 66 = .inl (0, 8) := rfl
theorem dk_sh67 : dk_shp 67 = .inl (0, 8) := rfl
theorem dk_sh68 : dk_shp 68 = .inl (0, 8) := rfl
theorem dk_sh69 : dk_shp 69 = .inl (0, 8) := rfl
theorem dk_sh70 : dk_shp 70 = .inl (0, 8) := rfl
theorem dk_sh71 : dk_shp 71 = .inl (0, 24) := rfl
theorem dk_sh72 : dk_shp 72 = .inl (0, 24) := rfl
theorem dk_sh73 : dk_shp 73 = .inl (0, 4) := rfl
theorem dk_sh74 : dk_shp 74 = .inl (0, 4) := rfl
theorem dk_sh75 : dk_shp 75 = .inl (1, 144) := rfl
theorem dk_sh76 : dk_shp 76 = .inl (0, 8) := rfl
theorem dk_sh77 : dk_shp 77 = .inl (0, 8) := rfl
theorem dk_sh78 : dk_shp 78 = .inl (0, 8) := rfl
theorem dk_sh79 : dk_shp 79 = .inl (0, 8) := rfl
theorem dk_sh80 : dk_shp 80 = .inl (0, 8) := rfl
theorem dk_sh81 : dk_shp 81 = .inl (0, 8) := rfl
theorem dk_sh82 : dk_shp 82 = .inl (0, 24) := rfl
theorem dk_sh83 : dk_shp 83 = .inl (2, 8) := rfl
theorem dk_sh84 : dk_shp 84 = .inl (2, 24) := rfl
theorem dk_sh85 : dk_shp 85 = .inl (0, 24) := rfl
theorem dk_sh86 : dk_shp 86 = .inl (0, 144) := rfl
theorem dk_sh87 : dk_shp 87 = .inl (2, 144) := rfl
theorem dk_ui0 : ∀ w ∈ u_ws RX0 TX0 2, w ∈ dk_ws := by
  intro w hw
  obtain ⟨k, hk, rfl⟩ := List.mem_map.mp hw
  have hk := List.mem_range.mp hk
  match k, hk with
  | 0, _ => exact dk_w 332 (by decide +kernel) (by decide +kernel)
  | 1, _ => exact dk_w 334 (by decide +kernel) (by decide +kernel)
  | k + 2, hk => exact absurd hk (by omega)
theorem dk_ui1 : ∀ w ∈ u_ws RX1 TX1 6, w ∈ dk_ws := by
  intro w hw
  obtain ⟨k, hk, rfl⟩ := List.mem_map.mp hw
  have hk := List.mem_range.mp hk
  match k, hk with
  | 0, _ => exact dk_w 127 (by decide +kernel) (by decide +kernel)
  | 1, _ => exact dk_w 129 (by decide +kernel) (by decide +kernel)
  | 2, _ => exact dk_w 131 (by decide +kernel) (by decide +kernel)
  | 3, _ => exact dk_w 133 (by decide +kernel) (by decide +kernel)
  | 4, _ => exact dk_w 135 (by decide +kernel) (by decide +kernel)
  | 5, _ => exact dk_w 137 (by decide +kernel) (by decide +kernel)
  | k + 6, hk => exact absurd hk (by omega)
theorem dk_ui2 : ∀ w ∈ u_ws RX2 TX2 10, w ∈ dk_ws := by
  intro w hw
  obtain ⟨k, hk, rfl⟩ := List.mem_map.mp hw
  have hk := List.mem_range.mp hk
  match k, hk with
  | 0, _ => exact dk_w 199 (by decide +kernel) (by decide +kernel)
  | 1, _ => exact dk_w 201 (by decide +kernel) (by decide +kernel)
  | 2, _ => exact dk_w 203 (by decide +kernel) (by decide +kernel)
  | 3, _ => exact dk_w 205 (by decide +kernel) (by decide +kernel)
  | 4, _ => exact dk_w 207 (by decide +kernel) (by decide +kernel)
  | 5, _ => exact dk_w 209 (by decide +kernel) (by decide +kernel)
  | 6, _ => exact dk_w 211 (by decide +kernel) (by decide +kernel)
  | 7, _ => exact dk_w 213 (by decide +kernel) (by decide +kernel)
  | 8, _ => exact dk_w 215 (by decide +kernel) (by decide +kernel)
  | 9, _ => exact dk_w 217 (by decide +kernel) (by decide +kernel)
  | k + 10, hk => exact absurd hk (by omega)
theorem dk_ui3 : ∀ w ∈ u_ws RX3 TX3 5, w ∈ dk_ws := by
  intro w hw
  obtain ⟨k, hk, rfl⟩ := List.mem_map.mp hw
  have hk := List.mem_range.mp hk
  match k, hk with
  | 0, _ => exact dk_w 161 (by decide +kernel) (by decide +kernel)
  | 1, _ => exact dk_w 163 (by decide +kernel) (by decide +kernel)
  | 2, _ => exact dk_w 165 (by decide +kernel) (by decide +kernel)
  | 3, _ => exact dk_w 167 (by decide +kernel) (by decide +kernel)
  | 4, _ => exact dk_w 169 (by decide +kernel) (by decide +kernel)
  | k + 5, hk => exact absurd hk (by omega)
theorem dk_ui4 : ∀ w ∈ u_ws RX4 TX4 3, w ∈ dk_ws := by
  intro w hw
  obtain ⟨k, hk, rfl⟩ := List.mem_map.mp hw
  have hk := List.mem_range.mp hk
  match k, hk with
  | 0, _ => exact dk_w 254 (by decide +kernel) (by decide +kernel)
  | 1, _ => exact dk_w 256 (by decide +kernel) (by decide +kernel)
  | 2, _ => exact dk_w 258 (by decide +kernel) (by decide +kernel)
  | k + 3, hk => exact absurd hk (by omega)
theorem dk_ui5 : ∀ w ∈ u_ws RX5 TX5 4, w ∈ dk_ws := by
  intro w hw
  obtain ⟨k, hk, rfl⟩ := List.mem_map.mp hw
  have hk := List.mem_range.mp hk
  match k, hk with
  | 0, _ => exact dk_w 315 (by decide +kernel) (by decide +kernel)
  | 1, _ => exact dk_w 317 (by decide +kernel) (by decide +kernel)
  | 2, _ => exact dk_w 319 (by decide +kernel) (by decide +kernel)
  | 3, _ => exact dk_w 321 (by decide +kernel) (by decide +kernel)
  | k + 4, hk => exact absurd hk (by omega)
theorem dk_ui6 : ∀ w ∈ u_ws RX6 TX6 3, w ∈ dk_ws := by
  intro w hw
  obtain ⟨k, hk, rfl⟩ := List.mem_map.mp hw
  have hk := List.mem_range.mp hk
  match k, hk with
  | 0, _ => exact dk_w 237 (by decide +kernel) (by decide +kernel)
  | 1, _ => exact dk_w 239 (by decide +kernel) (by decide +kernel)
  | 2, _ => exact dk_w 241 (by decide +kernel) (by decide +kernel)
  | k + 3, hk => exact absurd hk (by omega)
theorem dk_ui7 : ∀ w ∈ u_ws RX7 TX7 10, w ∈ dk_ws := by
  intro w hw
  obtain ⟨k, hk, rfl⟩ := List.mem_map.mp hw
  have hk := List.mem_range.mp hk
  match k, hk with
  | 0, _ => exact dk_w 280 (by decide +kernel) (by decide +kernel)
  | 1, _ => exact dk_w 282 (by decide +kernel) (by decide +kernel)
  | 2, _ => exact dk_w 284 (by decide +kernel) (by decide +kernel)
  | 3, _ => exact dk_w 286 (by decide +kernel) (by decide +kernel)
  | 4, _ => exact dk_w 288 (by decide +kernel) (by decide +kernel)
  | 5, _ => exact dk_w 290 (by decide +kernel) (by decide +kernel)
  | 6, _ => exact dk_w 292 (by decide +kernel) (by decide +kernel)
  | 7, _ => exact dk_w 294 (by decide +kernel) (by decide +kernel)
  | 8, _ => exact dk_w 296 (by decide +kernel) (by decide +kernel)
  | 9, _ => exact dk_w 298 (by decide +kernel) (by decide +kernel)
  | k + 10, hk => exact absurd hk (by omega)
theorem dk_ui8 : ∀ w ∈ u_ws RX8 TX8 7, w ∈ dk_ws := by
  intro w hw
  obtain ⟨k, hk, rfl⟩ := List.mem_map.mp hw
  have hk := List.mem_range.mp hk
  match k, hk with
  | 0, _ => exact dk_w 344 (by decide +kernel) (by decide +kernel)
  | 1, _ => exact dk_w 346 (by decide +kernel) (by decide +kernel)
  | 2, _ => exact dk_w 348 (by decide +kernel) (by decide +kernel)
  | 3, _ => exact dk_w 350 (by decide +kernel) (by decide +kernel)
  | 4, _ => exact dk_w 352 (by decide +kernel) (by decide +kernel)
  | 5, _ => exact dk_w 354 (by decide +kernel) (by decide +kernel)
  | 6, _ => exact dk_w 356 (by decide +kernel) (by decide +kernel)
  | k + 7, hk => exact absurd hk (by omega)
theorem dk_ui9 : ∀ w ∈ u_ws RX9 TX9 37, w ∈ dk_ws := by
  intro w hw
  obtain ⟨k, hk, rfl⟩ := List.mem_map.mp hw
  have hk := List.mem_range.mp hk
  match k, hk with
  | 0, _ => exact dk_w 1343 (by decide +kernel) (by decide +kernel)
  | 1, _ => exact dk_w 1345 (by decide +kernel) (by decide +kernel)
  | 2, _ => exact dk_w 1347 (by decide +kernel) (by decide +kernel)
  | 3, _ => exact dk_w 1349 (by decide +kernel) (by decide +kernel)
  | 4, _ => exact dk_w 1351 (by decide +kernel) (by decide +kernel)
  | 5, _ => exact dk_w 1353 (by decide +kernel) (by decide +kernel)
  | 6, _ => exact dk_w 1355 (by decide +kernel) (by decide +kernel)
  | 7, _ => exact dk_w 1357 (by decide +kernel) (by decide +kernel)
  | 8, _ => exact dk_w 1359 (by decide +kernel) (by decide +kernel)
  | 9, _ => exact dk_w 1361 (by decide +kernel) (by decide +kernel)
  | 10, _ => exact dk_w 1363 (by decide +kernel) (by decide +kernel)
  | 11, _ => exact dk_w 1365 (by decide +kernel) (by decide +kernel)
  | 12, _ => exact dk_w 1367 (by decide +kernel) (by decide +kernel)
  | 13, _ => exact dk_w 1369 (by decide +kernel) (by decide +kernel)
  | 14, _ => exact dk_w 1371 (by decide +kernel) (by decide +kernel)
  | 15, _ => exact dk_w 1373 (by decide +kernel) (by decide +kernel)
  | 16, _ => exact dk_w 1375 (by decide +kernel) (by decide +kernel)
  | 17, _ => exact dk_w 1377 (by decide +kernel) (by decide +kernel)
  | 18, _ => exact dk_w 1379 (by decide +kernel) (by decide +kernel)
  | 19, _ => exact dk_w 1381 (by decide +kernel) (by decide +kernel)
  | 20, _ => exact dk_w 1383 (by decide +kernel) (by decide +kernel)
  | 21, _ => exact dk_w 1385 (by decide +kernel) (by decide +kernel)
  | 22, _ => exact dk_w 1387 (by decide +kernel) (by decide +kernel)
  | 23, _ => exact dk_w 1389 (by decide +kernel) (by decide +kernel)
  | 24, _ => exact dk_w 1391 (by decide +kernel) (by decide +kernel)
  | 25, _ => exact dk_w 1393 (by decide +kernel) (by decide +kernel)
  | 26, _ => exact dk_w 1395 (by decide +kernel) (by decide +kernel)
  | 27, _ => exact dk_w 1397 (by decide +kernel) (by decide +kernel)
  | 28, _ => exact dk_w 1399 (by decide +kernel) (by decide +kernel)
  | 29, _ => exact dk_w 1401 (by decide +kernel) (by decide +kernel)
  | 30, _ => exact dk_w 1403 (by decide +kernel) (by decide +kernel)
  | 31, _ => exact dk_w 1405 (by decide +kernel) (by decide +kernel)
  | 32, _ => exact dk_w 1407 (by decide +kernel) (by decide +kernel)
  | 33, _ => exact dk_w 1409 (by decide +kernel) (by decide +kernel)
  | 34, _ => exact dk_w 1411 (by decide +kernel) (by decide +kernel)
  | 35, _ => exact dk_w 1413 (by decide +kernel) (by decide +kernel)
  | 36, _ => exact dk_w 1415 (by decide +kernel) (by decide +kernel)
  | k + 37, hk => exact absurd hk (by omega)
theorem dk_wm_max_s : Cond.static Lib.Math.max.name ∈ dk_ws := dk_w 514 (by decide +kernel) (by decide +kernel)
theorem dk_wm_max_c : Cond.code Lib.Math.max.name Lib.Math.max.code 2 (some .int) ∈ dk_ws := dk_w 515 (by decide +kernel) (by decide +kernel)
theorem dk_wm_min_s : Cond.static Lib.Math.min.name ∈ dk_ws := dk_w 517 (by decide +kernel) (by decide +kernel)
theorem dk_wm_min_c : Cond.code Lib.Math.min.name Lib.Math.min.code 2 (some .int) ∈ dk_ws := dk_w 518 (by decide +kernel) (by decide +kernel)
theorem dk_wm_abs_s : Cond.static Lib.Math.abs.name ∈ dk_ws := dk_w 832 (by decide +kernel) (by decide +kernel)
theorem dk_wm_abs_c : Cond.code Lib.Math.abs.name Lib.Math.abs.code 1 (some .int) ∈ dk_ws := dk_w 833 (by decide +kernel) (by decide +kernel)
theorem dk_wm_i : Cond.initialized "java/lang/Math" ∈ dk_ws := dk_w 88 (by decide +kernel) (by decide +kernel)
theorem dk_wc_n : Cond.native arraycopyName ∈ dk_ws := dk_w 763 (by decide +kernel) (by decide +kernel)
theorem dk_wc_s : Cond.static arraycopyName ∈ dk_ws := dk_w 762 (by decide +kernel) (by decide +kernel)
theorem dk_wc_i : Cond.initialized "java/lang/System" ∈ dk_ws := dk_w 95 (by decide +kernel) (by decide +kernel)
theorem dk_wc_J7_fill_53178 : Cond.code yJ7_fill_53178 cJ7_fill_53178 4 none ∈ dk_ws := dk_w 849 (by decide +kernel) (by decide +kernel)
theorem dk_wn_RJ7 : Cond.initialized RJ7 ∈ dk_ws := dk_w 96 (by decide +kernel) (by decide +kernel)
theorem dk_wt_J7_fill_53178 : Cond.static yJ7_fill_53178 ∈ dk_ws := dk_w 848 (by decide +kernel) (by decide +kernel)
theorem yy_J7_fill_53178 : dk_YS yJ7_fill_53178 cJ7_fill_53178 4 none 2 := ⟨dk_wt_J7_fill_53178, dk_wn_RJ7, dk_wc_J7_fill_53178, ⟨by decide, by decide, by decide⟩⟩
theorem dk_wc_X8_at : Cond.code yX8_at cX8_at 2 (some .int) ∈ dk_ws := dk_w 628 (by decide +kernel) (by decide +kernel)
theorem dk_wn_RX8 : Cond.initialized RX8 ∈ dk_ws := dk_w 71 (by decide +kernel) (by decide +kernel)
theorem dk_wt_X8_at : Cond.static yX8_at ∈ dk_ws := dk_w 627 (by decide +kernel) (by decide +kernel)
theorem yy_X8_at : dk_YS yX8_at cX8_at 2 (some .int) 2 := ⟨dk_wt_X8_at, dk_wn_RX8, dk_wc_X8_at, ⟨by decide, by decide, by decide⟩⟩
theorem dk_wc_X7_heroSpot : Cond.code yX7_heroSpot cX7_heroSpot 1 (some .int) ∈ dk_ws := dk_w 826 (by decide +kernel) (by decide +kernel)
theorem dk_wn_RX7 : Cond.initialized RX7 ∈ dk_ws := dk_w 72 (by decide +kernel) (by decide +kernel)
theorem dk_wt_X7_heroSpot : Cond.instanceMethod yX7_heroSpot ∈ dk_ws := dk_w 824 (by decide +kernel) (by decide +kernel)
theorem dk_ws_X7_heroSpot : Cond.selects RX7 yX7_heroSpot yX7_heroSpot ∈ dk_ws := dk_w 825 (by decide +kernel) (by decide +kernel)
theorem yy_X7_heroSpot : dk_YV yX7_heroSpot cX7_heroSpot 1 (some .int) 0 := ⟨dk_wt_X7_heroSpot, dk_ws_X7_heroSpot, dk_wn_RX7, dk_wc_X7_heroSpot, ⟨by decide, by decide, by decide⟩⟩
theorem dk_wf_X7_28 : Cond.fieldLink RX7 28 (TX7 2).1 (TX7 2).2.1 (TX7 2).2.2.1 ∈ dk_ws := dk_w 266 (by decide +kernel) (by decide +kernel)
theorem dk_wf_X7_78 : Cond.fieldLink RX7 78 (TX2 0).1 (TX2 0).2.1 (TX2 0).2.2.1 ∈ dk_ws := dk_w 180 (by decide +kernel) (by decide +kernel)
theorem dk_wm_X7_82 : Cond.methodLinkNest RX7 82 yX8_at "DelveKeep" ∈ dk_nw := dk_n 739 (by decide +kernel) (by decide +kernel)
theorem dk_wc_X6_bagOf : Cond.code yX6_bagOf cX6_bagOf 3 (some .int) ∈ dk_ws := dk_w 908 (by decide +kernel) (by decide +kernel)
theorem dk_wn_RX6 : Cond.initialized RX6 ∈ dk_ws := dk_w 76 (by decide +kernel) (by decide +kernel)
theorem dk_wt_X6_bagOf : Cond.instanceMethod yX6_bagOf ∈ dk_ws := dk_w 907 (by decide +kernel) (by decide +kernel)
theorem dk_ws_X6_bagOf : Cond.selects RX6 yX6_bagOf yX6_bagOf ∈ dk_ws := dk_w 12 (by decide +kernel) (by decide +kernel)
theorem yy_X6_bagOf : dk_YV yX6_bagOf cX6_bagOf 3 (some .int) 1 := ⟨dk_wt_X6_bagOf, dk_ws_X6_bagOf, dk_wn_RX6, dk_wc_X6_bagOf, ⟨by decide, by decide, by decide⟩⟩
theorem dk_wf_X6_15 : Cond.fieldLink RX6 15 (TX6 1).1 (TX6 1).2.1 (TX6 1).2.2.1 ∈ dk_ws := dk_w 229 (by decide +kernel) (by decide +kernel)
theorem dk_wm_X6_30 : Cond.methodLinkNest RX6 30 yX8_at "DelveKeep" ∈ dk_nw := dk_n 909 (by decide +kernel) (by decide +kernel)
theorem dk_wc_X6_outerPlace : Cond.code yX6_outerPlace cX6_outerPlace 4 (some .int) ∈ dk_ws := dk_w 904 (by decide +kernel) (by decide +kernel)
theorem dk_wt_X6_outerPlace : Cond.instanceMethod yX6_outerPlace ∈ dk_ws := dk_w 902 (by decide +kernel) (by decide +kernel)
theorem dk_ws_X6_outerPlace : Cond.selects RX6 yX6_outerPlace yX6_outerPlace ∈ dk_ws := dk_w 903 (by decide +kernel) (by decide +kernel)
theorem yy_X6_outerPlace : dk_YV yX6_outerPlace cX6_outerPlace 4 (some .int) 1 := ⟨dk_wt_X6_outerPlace, dk_ws_X6_outerPlace, dk_wn_RX6, dk_wc_X6_outerPlace, ⟨by decide, by decide, by decide⟩⟩
theorem dk_wm_X6_34 : Cond.methodLink RX6 34 yX6_bagOf ∈ dk_ws := dk_w 905 (by decide +kernel) (by decide +kernel)
theorem dk_wc_X8_put : Cond.code yX8_put cX8_put 3 none ∈ dk_ws := dk_w 150 (by decide +kernel) (by decide +kernel)
theorem dk_wt_X8_put : Cond.static yX8_put ∈ dk_ws := dk_w 149 (by decide +kernel) (by decide +kernel)
theorem yy_X8_put : dk_YS yX8_put cX8_put 3 none 3 := ⟨dk_wt_X8_put, dk_wn_RX8, dk_wc_X8_put, ⟨by decide, by decide, by decide⟩⟩
theorem dk_wc_X0_note : Cond.code yX0_note cX0_note 4 none ∈ dk_ws := dk_w 899 (by decide +kernel) (by decide +kernel)
theorem dk_wn_RX0 : Cond.initialized RX0 ∈ dk_ws := dk_w 79 (by decide +kernel) (by decide +kernel)
theorem dk_wt_X0_note : Cond.instanceMethod yX0_note ∈ dk_ws := dk_w 897 (by decide +kernel) (by decide +kernel)
theorem dk_ws_X0_note : Cond.selects RX0 yX0_note yX0_note ∈ dk_ws := dk_w 898 (by decide +kernel) (by decide +kernel)
theorem yy_X0_note : dk_YV yX0_note cX0_note 4 none 1 := ⟨dk_wt_X0_note, dk_ws_X0_note, dk_wn_RX0, dk_wc_X0_note, ⟨by decide, by decide, by decide⟩⟩
theorem dk_wm_X0_19 : Cond.methodLink RX0 19 yX7_heroSpot ∈ dk_ws := dk_w 900 (by decide +kernel) (by decide +kernel)
theorem dk_wf_X0_15 : Cond.fieldLink RX0 15 (TX0 1).1 (TX0 1).2.1 (TX0 1).2.2.1 ∈ dk_ws := dk_w 331 (by decide +kernel) (by decide +kernel)
theorem dk_wf_X0_25 : Cond.fieldLink RX0 25 (TX7 3).1 (TX7 3).2.1 (TX7 3).2.2.1 ∈ dk_ws := dk_w 269 (by decide +kernel) (by decide +kernel)
theorem dk_wf_X0_29 : Cond.fieldLink RX0 29 (TX6 2).1 (TX6 2).2.1 (TX6 2).2.2.1 ∈ dk_ws := dk_w 234 (by decide +kernel) (by decide +kernel)
theorem dk_wm_X0_34 : Cond.methodLink RX0 34 yX6_outerPlace ∈ dk_ws := dk_w 901 (by decide +kernel) (by decide +kernel)
theorem dk_wf_X0_9 : Cond.fieldLink RX0 9 (TX0 0).1 (TX0 0).2.1 (TX0 0).2.2.1 ∈ dk_ws := dk_w 330 (by decide +kernel) (by decide +kernel)
theorem dk_wm_X0_43 : Cond.methodLinkNest RX0 43 yX8_put "DelveKeep" ∈ dk_nw := dk_n 794 (by decide +kernel) (by decide +kernel)
theorem dk_wf_X0_38 : Cond.fieldLink RX0 38 (TX6 1).1 (TX6 1).2.1 (TX6 1).2.2.1 ∈ dk_ws := dk_w 230 (by decide +kernel) (by decide +kernel)
theorem dk_wm_X0_39 : Cond.methodLinkNest RX0 39 yX8_at "DelveKeep" ∈ dk_nw := dk_n 793 (by decide +kernel) (by decide +kernel)
theorem dk_wc_X1_signAt : Cond.code yX1_signAt cX1_signAt 2 (some .char) ∈ dk_ws := dk_w 611 (by decide +kernel) (by decide +kernel)
theorem dk_wn_RX1 : Cond.initialized RX1 ∈ dk_ws := dk_w 73 (by decide +kernel) (by decide +kernel)
theorem dk_wt_X1_signAt : Cond.instanceMethod yX1_signAt ∈ dk_ws := dk_w 609 (by decide +kernel) (by decide +kernel)
theorem dk_ws_X1_signAt : Cond.selects RX1 yX1_signAt yX1_signAt ∈ dk_ws := dk_w 610 (by decide +kernel) (by decide +kernel)
theorem yy_X1_signAt : dk_YV yX1_signAt cX1_signAt 2 (some .char) 1 := ⟨dk_wt_X1_signAt, dk_ws_X1_signAt, dk_wn_RX1, dk_wc_X1_signAt, ⟨by decide, by decide, by decide⟩⟩
theorem dk_wf_X1_9 : Cond.fieldLink RX1 9 (TX1 0).1 (TX1 0).2.1 (TX1 0).2.2.1 ∈ dk_ws := dk_w 119 (by decide +kernel) (by decide +kernel)
theorem dk_wc_X8_isFree : Cond.code yX8_isFree cX8_isFree 1 (some .boolean) ∈ dk_ws := dk_w 747 (by decide +kernel) (by decide +kernel)
theorem dk_wt_X8_isFree : Cond.static yX8_isFree ∈ dk_ws := dk_w 746 (by decide +kernel) (by decide +kernel)
theorem yy_X8_isFree : dk_YS yX8_isFree cX8_isFree 1 (some .boolean) 1 := ⟨dk_wt_X8_isFree, dk_wn_RX8, dk_wc_X8_isFree, ⟨by decide, by decide, by decide⟩⟩
theorem dk_wc_X1_isFreeAt : Cond.code yX1_isFreeAt cX1_isFreeAt 2 (some .boolean) ∈ dk_ws := dk_w 743 (by decide +kernel) (by decide +kernel)
theorem dk_wt_X1_isFreeAt : Cond.instanceMethod yX1_isFreeAt ∈ dk_ws := dk_w 741 (by decide +kernel) (by decide +kernel)
theorem dk_ws_X1_isFreeAt : Cond.selects RX1 yX1_isFreeAt yX1_isFreeAt ∈ dk_ws := dk_w 742 (by decide +kernel) (by decide +kernel)
theorem yy_X1_isFreeAt : dk_YV yX1_isFreeAt cX1_isFreeAt 2 (some .boolean) 1 := ⟨dk_wt_X1_isFreeAt, dk_ws_X1_isFreeAt, dk_wn_RX1, dk_wc_X1_isFreeAt, ⟨by decide, by decide, by decide⟩⟩
theorem dk_wm_X1_44 : Cond.methodLink RX1 44 yX1_signAt ∈ dk_ws := dk_w 744 (by decide +kernel) (by decide +kernel)
theorem dk_wm_X1_48 : Cond.methodLinkNest RX1 48 yX8_isFree "DelveKeep" ∈ dk_nw := dk_n 745 (by decide +kernel) (by decide +kernel)
theorem dk_wc_X0_layIn : Cond.code yX0_layIn cX0_layIn 4 none ∈ dk_ws := dk_w 791 (by decide +kernel) (by decide +kernel)
theorem dk_wt_X0_layIn : Cond.instanceMethod yX0_layIn ∈ dk_ws := dk_w 789 (by decide +kernel) (by decide +kernel)
theorem dk_ws_X0_layIn : Cond.selects RX0 yX0_layIn yX0_layIn ∈ dk_ws := dk_w 790 (by decide +kernel) (by decide +kernel)
theorem yy_X0_layIn : dk_YV yX0_layIn cX0_layIn 4 none 1 := ⟨dk_wt_X0_layIn, dk_ws_X0_layIn, dk_wn_RX0, dk_wc_X0_layIn, ⟨by decide, by decide, by decide⟩⟩
theorem dk_wf_X0_47 : Cond.fieldLink RX0 47 (TX7 0).1 (TX7 0).2.1 (TX7 0).2.2.1 ∈ dk_ws := dk_w 263 (by decide +kernel) (by decide +kernel)
theorem dk_wm_X0_51 : Cond.methodLink RX0 51 yX1_isFreeAt ∈ dk_ws := dk_w 792 (by decide +kernel) (by decide +kernel)
theorem dk_wc_X1_copy : Cond.code yX1_copy cX1_copy 2 none ∈ dk_ws := dk_w 759 (by decide +kernel) (by decide +kernel)
theorem dk_wt_X1_copy : Cond.instanceMethod yX1_copy ∈ dk_ws := dk_w 757 (by decide +kernel) (by decide +kernel)
theorem dk_ws_X1_copy : Cond.selects RX1 yX1_copy yX1_copy ∈ dk_ws := dk_w 758 (by decide +kernel) (by decide +kernel)
theorem yy_X1_copy : dk_YV yX1_copy cX1_copy 2 none 1 := ⟨dk_wt_X1_copy, dk_ws_X1_copy, dk_wn_RX1, dk_wc_X1_copy, ⟨by decide, by decide, by decide⟩⟩
theorem dk_wm_X1_32 : Cond.methodLink RX1 32 Lib.Math.min.name ∈ dk_ws := dk_w 760 (by decide +kernel) (by decide +kernel)
theorem dk_wm_X1_38 : Cond.methodLink RX1 38 arraycopyName ∈ dk_ws := dk_w 761 (by decide +kernel) (by decide +kernel)
theorem dk_wf_X1_28 : Cond.fieldLink RX1 28 (TX1 5).1 (TX1 5).2.1 (TX1 5).2.2.1 ∈ dk_ws := dk_w 126 (by decide +kernel) (by decide +kernel)
theorem dk_wc_X1_change : Cond.code yX1_change cX1_change 3 none ∈ dk_ws := dk_w 615 (by decide +kernel) (by decide +kernel)
theorem dk_wt_X1_change : Cond.instanceMethod yX1_change ∈ dk_ws := dk_w 613 (by decide +kernel) (by decide +kernel)
theorem dk_ws_X1_change : Cond.selects RX1 yX1_change yX1_change ∈ dk_ws := dk_w 614 (by decide +kernel) (by decide +kernel)
theorem yy_X1_change : dk_YV yX1_change cX1_change 3 none 2 := ⟨dk_wt_X1_change, dk_ws_X1_change, dk_wn_RX1, dk_wc_X1_change, ⟨by decide, by decide, by decide⟩⟩
theorem dk_wc_X8_spot : Cond.code yX8_spot cX8_spot 2 (some .int) ∈ dk_ws := dk_w 607 (by decide +kernel) (by decide +kernel)
theorem dk_wt_X8_spot : Cond.static yX8_spot ∈ dk_ws := dk_w 606 (by decide +kernel) (by decide +kernel)
theorem yy_X8_spot : dk_YS yX8_spot cX8_spot 2 (some .int) 2 := ⟨dk_wt_X8_spot, dk_wn_RX8, dk_wc_X8_spot, ⟨by decide, by decide, by decide⟩⟩
theorem dk_wc_X1_seeEachOther : Cond.code yX1_seeEachOther cX1_seeEachOther 14 (some .boolean) ∈ dk_ws := dk_w 830 (by decide +kernel) (by decide +kernel)
theorem dk_wt_X1_seeEachOther : Cond.instanceMethod yX1_seeEachOther ∈ dk_ws := dk_w 828 (by decide +kernel) (by decide +kernel)
theorem dk_ws_X1_seeEachOther : Cond.selects RX1 yX1_seeEachOther yX1_seeEachOther ∈ dk_ws := dk_w 829 (by decide +kernel) (by decide +kernel)
theorem yy_X1_seeEachOther : dk_YV yX1_seeEachOther cX1_seeEachOther 14 (some .boolean) 2 := ⟨dk_wt_X1_seeEachOther, dk_ws_X1_seeEachOther, dk_wn_RX1, dk_wc_X1_seeEachOther, ⟨by decide, by decide, by decide⟩⟩
theorem dk_wm_X1_52 : Cond.methodLink RX1 52 Lib.Math.abs.name ∈ dk_ws := dk_w 831 (by decide +kernel) (by decide +kernel)
theorem dk_wm_X1_56 : Cond.methodLink RX1 56 Lib.Math.max.name ∈ dk_ws := dk_w 834 (by decide +kernel) (by decide +kernel)
theorem dk_wm_X1_59 : Cond.methodLinkNest RX1 59 yX8_spot "DelveKeep" ∈ dk_nw := dk_n 835 (by decide +kernel) (by decide +kernel)
theorem dk_wm_X1_62 : Cond.methodLink RX1 62 yX1_isFreeAt ∈ dk_ws := dk_w 836 (by decide +kernel) (by decide +kernel)
theorem dk_wc_X8_beside : Cond.code yX8_beside cX8_beside 2 (some .int) ∈ dk_ws := dk_w 854 (by decide +kernel) (by decide +kernel)
theorem dk_wt_X8_beside : Cond.static yX8_beside ∈ dk_ws := dk_w 853 (by decide +kernel) (by decide +kernel)
theorem yy_X8_beside : dk_YS yX8_beside cX8_beside 2 (some .int) 2 := ⟨dk_wt_X8_beside, dk_wn_RX8, dk_wc_X8_beside, ⟨by decide, by decide, by decide⟩⟩
theorem dk_wc_X1_tollOf : Cond.code yX1_tollOf cX1_tollOf 3 (some .int) ∈ dk_ws := dk_w 857 (by decide +kernel) (by decide +kernel)
theorem dk_wt_X1_tollOf : Cond.static yX1_tollOf ∈ dk_ws := dk_w 856 (by decide +kernel) (by decide +kernel)
theorem yy_X1_tollOf : dk_YS yX1_tollOf cX1_tollOf 3 (some .int) 3 := ⟨dk_wt_X1_tollOf, dk_wn_RX1, dk_wc_X1_tollOf, ⟨by decide, by decide, by decide⟩⟩
theorem dk_wc_X1_flood : Cond.code yX1_flood cX1_flood 14 none ∈ dk_ws := dk_w 846 (by decide +kernel) (by decide +kernel)
theorem dk_wt_X1_flood : Cond.instanceMethod yX1_flood ∈ dk_ws := dk_w 844 (by decide +kernel) (by decide +kernel)
theorem dk_ws_X1_flood : Cond.selects RX1 yX1_flood yX1_flood ∈ dk_ws := dk_w 845 (by decide +kernel) (by decide +kernel)
theorem yy_X1_flood : dk_YV yX1_flood cX1_flood 14 none 5 := ⟨dk_wt_X1_flood, dk_ws_X1_flood, dk_wn_RX1, dk_wc_X1_flood, ⟨by decide, by decide, by decide⟩⟩
theorem dk_wm_X1_71 : Cond.methodLink RX1 71 yJ7_fill_53178 ∈ dk_ws := dk_w 847 (by decide +kernel) (by decide +kernel)
theorem dk_wm_X1_77 : Cond.methodLinkNest RX1 77 yX8_put "DelveKeep" ∈ dk_nw := dk_n 850 (by decide +kernel) (by decide +kernel)
theorem dk_wf_X1_19 : Cond.fieldLink RX1 19 (TX1 2).1 (TX1 2).2.1 (TX1 2).2.2.1 ∈ dk_ws := dk_w 121 (by decide +kernel) (by decide +kernel)
theorem dk_wf_X1_15 : Cond.fieldLink RX1 15 (TX1 1).1 (TX1 1).2.1 (TX1 1).2.2.1 ∈ dk_ws := dk_w 120 (by decide +kernel) (by decide +kernel)
theorem dk_wm_X1_81 : Cond.methodLinkNest RX1 81 yX8_at "DelveKeep" ∈ dk_nw := dk_n 851 (by decide +kernel) (by decide +kernel)
theorem dk_wm_X1_85 : Cond.methodLinkNest RX1 85 yX8_beside "DelveKeep" ∈ dk_nw := dk_n 852 (by decide +kernel) (by decide +kernel)
theorem dk_wm_X1_88 : Cond.methodLink RX1 88 yX1_tollOf ∈ dk_ws := dk_w 855 (by decide +kernel) (by decide +kernel)
theorem dk_wc_X1_aimAt : Cond.code yX1_aimAt cX1_aimAt 2 none ∈ dk_ws := dk_w 841 (by decide +kernel) (by decide +kernel)
theorem dk_wt_X1_aimAt : Cond.instanceMethod yX1_aimAt ∈ dk_ws := dk_w 839 (by decide +kernel) (by decide +kernel)
theorem dk_ws_X1_aimAt : Cond.selects RX1 yX1_aimAt yX1_aimAt ∈ dk_ws := dk_w 840 (by decide +kernel) (by decide +kernel)
theorem yy_X1_aimAt : dk_YV yX1_aimAt cX1_aimAt 2 none 1 := ⟨dk_wt_X1_aimAt, dk_ws_X1_aimAt, dk_wn_RX1, dk_wc_X1_aimAt, ⟨by decide, by decide, by decide⟩⟩
theorem dk_wf_X1_25 : Cond.fieldLink RX1 25 (TX1 4).1 (TX1 4).2.1 (TX1 4).2.2.1 ∈ dk_ws := dk_w 124 (by decide +kernel) (by decide +kernel)
theorem dk_wk_X1_66 : Cond.constant RX1 66 1000000 ∈ dk_ws := dk_w 842 (by decide +kernel) (by decide +kernel)
theorem dk_wm_X1_67 : Cond.methodLink RX1 67 yX1_flood ∈ dk_ws := dk_w 843 (by decide +kernel) (by decide +kernel)
theorem dk_wc_X1_isLike : Cond.code yX1_isLike cX1_isLike 3 (some .boolean) ∈ dk_ws := dk_w 1246 (by decide +kernel) (by decide +kernel)
theorem dk_wt_X1_isLike : Cond.instanceMethod yX1_isLike ∈ dk_ws := dk_w 1244 (by decide +kernel) (by decide +kernel)
theorem dk_ws_X1_isLike : Cond.selects RX1 yX1_isLike yX1_isLike ∈ dk_ws := dk_w 1245 (by decide +kernel) (by decide +kernel)
theorem yy_X1_isLike : dk_YV yX1_isLike cX1_isLike 3 (some .boolean) 1 := ⟨dk_wt_X1_isLike, dk_ws_X1_isLike, dk_wn_RX1, dk_wc_X1_isLike, ⟨by decide, by decide, by decide⟩⟩
theorem dk_wc_X8_copyRow : Cond.code yX8_copyRow cX8_copyRow 2 none ∈ dk_ws := dk_w 770 (by decide +kernel) (by decide +kernel)
theorem dk_wt_X8_copyRow : Cond.static yX8_copyRow ∈ dk_ws := dk_w 769 (by decide +kernel) (by decide +kernel)
theorem yy_X8_copyRow : dk_YS yX8_copyRow cX8_copyRow 2 none 2 := ⟨dk_wt_X8_copyRow, dk_wn_RX8, dk_wc_X8_copyRow, ⟨by decide, by decide, by decide⟩⟩
theorem dk_wm_X8_316 : Cond.methodLink RX8 316 Lib.Math.min.name ∈ dk_ws := dk_w 771 (by decide +kernel) (by decide +kernel)
theorem dk_wm_X8_319 : Cond.methodLink RX8 319 arraycopyName ∈ dk_ws := dk_w 772 (by decide +kernel) (by decide +kernel)
theorem dk_wc_X2_copy : Cond.code yX2_copy cX2_copy 2 none ∈ dk_ws := dk_w 776 (by decide +kernel) (by decide +kernel)
theorem dk_wn_RX2 : Cond.initialized RX2 ∈ dk_ws := dk_w 75 (by decide +kernel) (by decide +kernel)
theorem dk_wt_X2_copy : Cond.instanceMethod yX2_copy ∈ dk_ws := dk_w 774 (by decide +kernel) (by decide +kernel)
theorem dk_ws_X2_copy : Cond.selects RX2 yX2_copy yX2_copy ∈ dk_ws := dk_w 775 (by decide +kernel) (by decide +kernel)
theorem yy_X2_copy : dk_YV yX2_copy cX2_copy 2 none 1 := ⟨dk_wt_X2_copy, dk_ws_X2_copy, dk_wn_RX2, dk_wc_X2_copy, ⟨by decide, by decide, by decide⟩⟩
theorem dk_wf_X2_9 : Cond.fieldLink RX2 9 (TX2 0).1 (TX2 0).2.1 (TX2 0).2.2.1 ∈ dk_ws := dk_w 179 (by decide +kernel) (by decide +kernel)
theorem dk_wm_X2_47 : Cond.methodLinkNest RX2 47 yX8_copyRow "DelveKeep" ∈ dk_nw := dk_n 777 (by decide +kernel) (by decide +kernel)
theorem dk_wf_X2_15 : Cond.fieldLink RX2 15 (TX2 1).1 (TX2 1).2.1 (TX2 1).2.2.1 ∈ dk_ws := dk_w 182 (by decide +kernel) (by decide +kernel)
theorem dk_wf_X2_18 : Cond.fieldLink RX2 18 (TX2 2).1 (TX2 2).2.1 (TX2 2).2.2.1 ∈ dk_ws := dk_w 183 (by decide +kernel) (by decide +kernel)
theorem dk_wf_X2_21 : Cond.fieldLink RX2 21 (TX2 3).1 (TX2 3).2.1 (TX2 3).2.2.1 ∈ dk_ws := dk_w 185 (by decide +kernel) (by decide +kernel)
theorem dk_wf_X2_24 : Cond.fieldLink RX2 24 (TX2 4).1 (TX2 4).2.1 (TX2 4).2.2.1 ∈ dk_ws := dk_w 187 (by decide +kernel) (by decide +kernel)
theorem dk_wf_X2_27 : Cond.fieldLink RX2 27 (TX2 5).1 (TX2 5).2.1 (TX2 5).2.2.1 ∈ dk_ws := dk_w 190 (by decide +kernel) (by decide +kernel)
theorem dk_wf_X2_30 : Cond.fieldLink RX2 30 (TX2 6).1 (TX2 6).2.1 (TX2 6).2.2.1 ∈ dk_ws := dk_w 191 (by decide +kernel) (by decide +kernel)
theorem dk_wf_X2_33 : Cond.fieldLink RX2 33 (TX2 7).1 (TX2 7).2.1 (TX2 7).2.2.1 ∈ dk_ws := dk_w 192 (by decide +kernel) (by decide +kernel)
theorem dk_wf_X2_36 : Cond.fieldLink RX2 36 (TX2 8).1 (TX2 8).2.1 (TX2 8).2.2.1 ∈ dk_ws := dk_w 193 (by decide +kernel) (by decide +kernel)
theorem dk_wf_X2_39 : Cond.fieldLink RX2 39 (TX2 9).1 (TX2 9).2.1 (TX2 9).2.2.1 ∈ dk_ws := dk_w 196 (by decide +kernel) (by decide +kernel)
theorem dk_wc_X2_tell : Cond.code yX2_tell cX2_tell 6 none ∈ dk_ws := dk_w 660 (by decide +kernel) (by decide +kernel)
theorem dk_wt_X2_tell : Cond.instanceMethod yX2_tell ∈ dk_ws := dk_w 658 (by decide +kernel) (by decide +kernel)
theorem dk_ws_X2_tell : Cond.selects RX2 yX2_tell yX2_tell ∈ dk_ws := dk_w 659 (by decide +kernel) (by decide +kernel)
theorem yy_X2_tell : dk_YV yX2_tell cX2_tell 6 none 5 := ⟨dk_wt_X2_tell, dk_ws_X2_tell, dk_wn_RX2, dk_wc_X2_tell, ⟨by decide, by decide, by decide⟩⟩
theorem dk_wm_X2_43 : Cond.methodLinkNest RX2 43 yX8_put "DelveKeep" ∈ dk_nw := dk_n 178 (by decide +kernel) (by decide +kernel)
theorem dk_wc_X2_lives : Cond.code yX2_lives cX2_lives 2 (some .boolean) ∈ dk_ws := dk_w 803 (by decide +kernel) (by decide +kernel)
theorem dk_wt_X2_lives : Cond.instanceMethod yX2_lives ∈ dk_ws := dk_w 801 (by decide +kernel) (by decide +kernel)
theorem dk_ws_X2_lives : Cond.selects RX2 yX2_lives yX2_lives ∈ dk_ws := dk_w 802 (by decide +kernel) (by decide +kernel)
theorem yy_X2_lives : dk_YV yX2_lives cX2_lives 2 (some .boolean) 1 := ⟨dk_wt_X2_lives, dk_ws_X2_lives, dk_wn_RX2, dk_wc_X2_lives, ⟨by decide, by decide, by decide⟩⟩
theorem dk_wm_X2_51 : Cond.methodLinkNest RX2 51 yX8_at "DelveKeep" ∈ dk_nw := dk_n 730 (by decide +kernel) (by decide +kernel)
theorem dk_wc_X2_living : Cond.code yX2_living cX2_living 4 (some .int) ∈ dk_ws := dk_w 1284 (by decide +kernel) (by decide +kernel)
theorem dk_wt_X2_living : Cond.instanceMethod yX2_living ∈ dk_ws := dk_w 1282 (by decide +kernel) (by decide +kernel)
theorem dk_ws_X2_living : Cond.selects RX2 yX2_living yX2_living ∈ dk_ws := dk_w 1283 (by decide +kernel) (by decide +kernel)
theorem yy_X2_living : dk_YV yX2_living cX2_living 4 (some .int) 1 := ⟨dk_wt_X2_living, dk_ws_X2_living, dk_wn_RX2, dk_wc_X2_living, ⟨by decide, by decide, by decide⟩⟩
theorem dk_wm_X2_55 : Cond.methodLink RX2 55 yX2_lives ∈ dk_ws := dk_w 808 (by decide +kernel) (by decide +kernel)
theorem dk_wc_X2_healthOfLiving : Cond.code yX2_healthOfLiving cX2_healthOfLiving 3 (some .int) ∈ dk_ws := dk_w 1295 (by decide +kernel) (by decide +kernel)
theorem dk_wt_X2_healthOfLiving : Cond.instanceMethod yX2_healthOfLiving ∈ dk_ws := dk_w 1293 (by decide +kernel) (by decide +kernel)
theorem dk_ws_X2_healthOfLiving : Cond.selects RX2 yX2_healthOfLiving yX2_healthOfLiving ∈ dk_ws := dk_w 1294 (by decide +kernel) (by decide +kernel)
theorem yy_X2_healthOfLiving : dk_YV yX2_healthOfLiving cX2_healthOfLiving 3 (some .int) 0 := ⟨dk_wt_X2_healthOfLiving, dk_ws_X2_healthOfLiving, dk_wn_RX2, dk_wc_X2_healthOfLiving, ⟨by decide, by decide, by decide⟩⟩
theorem dk_wm_X2_59 : Cond.methodLink RX2 59 Lib.Math.max.name ∈ dk_ws := dk_w 813 (by decide +kernel) (by decide +kernel)
theorem dk_wc_X2_livingAt : Cond.code yX2_livingAt cX2_livingAt 3 (some .int) ∈ dk_ws := dk_w 734 (by decide +kernel) (by decide +kernel)
theorem dk_wt_X2_livingAt : Cond.instanceMethod yX2_livingAt ∈ dk_ws := dk_w 732 (by decide +kernel) (by decide +kernel)
theorem dk_ws_X2_livingAt : Cond.selects RX2 yX2_livingAt yX2_livingAt ∈ dk_ws := dk_w 733 (by decide +kernel) (by decide +kernel)
theorem yy_X2_livingAt : dk_YV yX2_livingAt cX2_livingAt 3 (some .int) 1 := ⟨dk_wt_X2_livingAt, dk_ws_X2_livingAt, dk_wn_RX2, dk_wc_X2_livingAt, ⟨by decide, by decide, by decide⟩⟩
theorem dk_wc_X2_allStandApart : Cond.code yX2_allStandApart cX2_allStandApart 2 (some .boolean) ∈ dk_ws := dk_w 729 (by decide +kernel) (by decide +kernel)
theorem dk_wt_X2_allStandApart : Cond.instanceMethod yX2_allStandApart ∈ dk_ws := dk_w 727 (by decide +kernel) (by decide +kernel)
theorem dk_ws_X2_allStandApart : Cond.selects RX2 yX2_allStandApart yX2_allStandApart ∈ dk_ws := dk_w 728 (by decide +kernel) (by decide +kernel)
theorem yy_X2_allStandApart : dk_YV yX2_allStandApart cX2_allStandApart 2 (some .boolean) 0 := ⟨dk_wt_X2_allStandApart, dk_ws_X2_allStandApart, dk_wn_RX2, dk_wc_X2_allStandApart, ⟨by decide, by decide, by decide⟩⟩
theorem dk_wm_X2_65 : Cond.methodLink RX2 65 yX2_livingAt ∈ dk_ws := dk_w 731 (by decide +kernel) (by decide +kernel)
theorem dk_wc_X2_isWeak : Cond.code yX2_isWeak cX2_isWeak 2 (some .boolean) ∈ dk_ws := dk_w 861 (by decide +kernel) (by decide +kernel)
theorem dk_wt_X2_isWeak : Cond.instanceMethod yX2_isWeak ∈ dk_ws := dk_w 859 (by decide +kernel) (by decide +kernel)
theorem dk_ws_X2_isWeak : Cond.selects RX2 yX2_isWeak yX2_isWeak ∈ dk_ws := dk_w 860 (by decide +kernel) (by decide +kernel)
theorem yy_X2_isWeak : dk_YV yX2_isWeak cX2_isWeak 2 (some .boolean) 1 := ⟨dk_wt_X2_isWeak, dk_ws_X2_isWeak, dk_wn_RX2, dk_wc_X2_isWeak, ⟨by decide, by decide, by decide⟩⟩
theorem dk_wc_X2_harm : Cond.code yX2_harm cX2_harm 3 none ∈ dk_ws := dk_w 880 (by decide +kernel) (by decide +kernel)
theorem dk_wt_X2_harm : Cond.instanceMethod yX2_harm ∈ dk_ws := dk_w 878 (by decide +kernel) (by decide +kernel)
theorem dk_ws_X2_harm : Cond.selects RX2 yX2_harm yX2_harm ∈ dk_ws := dk_w 879 (by decide +kernel) (by decide +kernel)
theorem yy_X2_harm : dk_YV yX2_harm cX2_harm 3 none 2 := ⟨dk_wt_X2_harm, dk_ws_X2_harm, dk_wn_RX2, dk_wc_X2_harm, ⟨by decide, by decide, by decide⟩⟩
theorem dk_wc_X2_heal : Cond.code yX2_heal cX2_heal 3 none ∈ dk_ws := dk_w 992 (by decide +kernel) (by decide +kernel)
theorem dk_wt_X2_heal : Cond.instanceMethod yX2_heal ∈ dk_ws := dk_w 990 (by decide +kernel) (by decide +kernel)
theorem dk_ws_X2_heal : Cond.selects RX2 yX2_heal yX2_heal ∈ dk_ws := dk_w 991 (by decide +kernel) (by decide +kernel)
theorem yy_X2_heal : dk_YV yX2_heal cX2_heal 3 none 2 := ⟨dk_wt_X2_heal, dk_ws_X2_heal, dk_wn_RX2, dk_wc_X2_heal, ⟨by decide, by decide, by decide⟩⟩
theorem dk_wm_X2_69 : Cond.methodLink RX2 69 Lib.Math.min.name ∈ dk_ws := dk_w 993 (by decide +kernel) (by decide +kernel)
theorem dk_wc_X2_hasten : Cond.code yX2_hasten cX2_hasten 3 none ∈ dk_ws := dk_w 997 (by decide +kernel) (by decide +kernel)
theorem dk_wt_X2_hasten : Cond.instanceMethod yX2_hasten ∈ dk_ws := dk_w 995 (by decide +kernel) (by decide +kernel)
theorem dk_ws_X2_hasten : Cond.selects RX2 yX2_hasten yX2_hasten ∈ dk_ws := dk_w 996 (by decide +kernel) (by decide +kernel)
theorem yy_X2_hasten : dk_YV yX2_hasten cX2_hasten 3 none 2 := ⟨dk_wt_X2_hasten, dk_ws_X2_hasten, dk_wn_RX2, dk_wc_X2_hasten, ⟨by decide, by decide, by decide⟩⟩
theorem dk_wc_X2_gainEnergy : Cond.code yX2_gainEnergy cX2_gainEnergy 3 none ∈ dk_ws := dk_w 812 (by decide +kernel) (by decide +kernel)
theorem dk_wt_X2_gainEnergy : Cond.instanceMethod yX2_gainEnergy ∈ dk_ws := dk_w 810 (by decide +kernel) (by decide +kernel)
theorem dk_ws_X2_gainEnergy : Cond.selects RX2 yX2_gainEnergy yX2_gainEnergy ∈ dk_ws := dk_w 811 (by decide +kernel) (by decide +kernel)
theorem yy_X2_gainEnergy : dk_YV yX2_gainEnergy cX2_gainEnergy 3 none 0 := ⟨dk_wt_X2_gainEnergy, dk_ws_X2_gainEnergy, dk_wn_RX2, dk_wc_X2_gainEnergy, ⟨by decide, by decide, by decide⟩⟩
theorem dk_wc_X2_spendTurn : Cond.code yX2_spendTurn cX2_spendTurn 2 none ∈ dk_ws := dk_w 818 (by decide +kernel) (by decide +kernel)
theorem dk_wt_X2_spendTurn : Cond.instanceMethod yX2_spendTurn ∈ dk_ws := dk_w 816 (by decide +kernel) (by decide +kernel)
theorem dk_ws_X2_spendTurn : Cond.selects RX2 yX2_spendTurn yX2_spendTurn ∈ dk_ws := dk_w 817 (by decide +kernel) (by decide +kernel)
theorem yy_X2_spendTurn : dk_YV yX2_spendTurn cX2_spendTurn 2 none 1 := ⟨dk_wt_X2_spendTurn, dk_ws_X2_spendTurn, dk_wn_RX2, dk_wc_X2_spendTurn, ⟨by decide, by decide, by decide⟩⟩
theorem dk_wc_X2_nextToAct : Cond.code yX2_nextToAct cX2_nextToAct 4 (some .int) ∈ dk_ws := dk_w 807 (by decide +kernel) (by decide +kernel)
theorem dk_wt_X2_nextToAct : Cond.instanceMethod yX2_nextToAct ∈ dk_ws := dk_w 805 (by decide +kernel) (by decide +kernel)
theorem dk_ws_X2_nextToAct : Cond.selects RX2 yX2_nextToAct yX2_nextToAct ∈ dk_ws := dk_w 806 (by decide +kernel) (by decide +kernel)
theorem yy_X2_nextToAct : dk_YV yX2_nextToAct cX2_nextToAct 4 (some .int) 0 := ⟨dk_wt_X2_nextToAct, dk_ws_X2_nextToAct, dk_wn_RX2, dk_wc_X2_nextToAct, ⟨by decide, by decide, by decide⟩⟩
theorem dk_wc_X2_isLike : Cond.code yX2_isLike cX2_isLike 3 (some .boolean) ∈ dk_ws := dk_w 1250 (by decide +kernel) (by decide +kernel)
theorem dk_wt_X2_isLike : Cond.instanceMethod yX2_isLike ∈ dk_ws := dk_w 1248 (by decide +kernel) (by decide +kernel)
theorem dk_ws_X2_isLike : Cond.selects RX2 yX2_isLike yX2_isLike ∈ dk_ws := dk_w 1249 (by decide +kernel) (by decide +kernel)
theorem yy_X2_isLike : dk_YV yX2_isLike cX2_isLike 3 (some .boolean) 1 := ⟨dk_wt_X2_isLike, dk_ws_X2_isLike, dk_wn_RX2, dk_wc_X2_isLike, ⟨by decide, by decide, by decide⟩⟩
theorem dk_wc_X3_copy : Cond.code yX3_copy cX3_copy 2 none ∈ dk_ws := dk_w 767 (by decide +kernel) (by decide +kernel)
theorem dk_wn_RX3 : Cond.initialized RX3 ∈ dk_ws := dk_w 74 (by decide +kernel) (by decide +kernel)
theorem dk_wt_X3_copy : Cond.instanceMethod yX3_copy ∈ dk_ws := dk_w 765 (by decide +kernel) (by decide +kernel)
theorem dk_ws_X3_copy : Cond.selects RX3 yX3_copy yX3_copy ∈ dk_ws := dk_w 766 (by decide +kernel) (by decide +kernel)
theorem yy_X3_copy : dk_YV yX3_copy cX3_copy 2 none 1 := ⟨dk_wt_X3_copy, dk_ws_X3_copy, dk_wn_RX3, dk_wc_X3_copy, ⟨by decide, by decide, by decide⟩⟩
theorem dk_wf_X3_9 : Cond.fieldLink RX3 9 (TX3 0).1 (TX3 0).2.1 (TX3 0).2.2.1 ∈ dk_ws := dk_w 151 (by decide +kernel) (by decide +kernel)
theorem dk_wm_X3_31 : Cond.methodLinkNest RX3 31 yX8_copyRow "DelveKeep" ∈ dk_nw := dk_n 768 (by decide +kernel) (by decide +kernel)
theorem dk_wf_X3_15 : Cond.fieldLink RX3 15 (TX3 1).1 (TX3 1).2.1 (TX3 1).2.2.1 ∈ dk_ws := dk_w 154 (by decide +kernel) (by decide +kernel)
theorem dk_wf_X3_18 : Cond.fieldLink RX3 18 (TX3 2).1 (TX3 2).2.1 (TX3 2).2.2.1 ∈ dk_ws := dk_w 155 (by decide +kernel) (by decide +kernel)
theorem dk_wf_X3_21 : Cond.fieldLink RX3 21 (TX3 3).1 (TX3 3).2.1 (TX3 3).2.2.1 ∈ dk_ws := dk_w 157 (by decide +kernel) (by decide +kernel)
theorem dk_wf_X3_24 : Cond.fieldLink RX3 24 (TX3 4).1 (TX3 4).2.1 (TX3 4).2.2.1 ∈ dk_ws := dk_w 159 (by decide +kernel) (by decide +kernel)
theorem dk_wc_X3_tell : Cond.code yX3_tell cX3_tell 4 none ∈ dk_ws := dk_w 632 (by decide +kernel) (by decide +kernel)
theorem dk_wt_X3_tell : Cond.instanceMethod yX3_tell ∈ dk_ws := dk_w 630 (by decide +kernel) (by decide +kernel)
theorem dk_ws_X3_tell : Cond.selects RX3 yX3_tell yX3_tell ∈ dk_ws := dk_w 631 (by decide +kernel) (by decide +kernel)
theorem yy_X3_tell : dk_YV yX3_tell cX3_tell 4 none 3 := ⟨dk_wt_X3_tell, dk_ws_X3_tell, dk_wn_RX3, dk_wc_X3_tell, ⟨by decide, by decide, by decide⟩⟩
theorem dk_wm_X3_27 : Cond.methodLinkNest RX3 27 yX8_put "DelveKeep" ∈ dk_nw := dk_n 148 (by decide +kernel) (by decide +kernel)
theorem dk_wc_X3_tellEffect : Cond.code yX3_tellEffect cX3_tellEffect 5 none ∈ dk_ws := dk_w 649 (by decide +kernel) (by decide +kernel)
theorem dk_wt_X3_tellEffect : Cond.instanceMethod yX3_tellEffect ∈ dk_ws := dk_w 647 (by decide +kernel) (by decide +kernel)
theorem dk_ws_X3_tellEffect : Cond.selects RX3 yX3_tellEffect yX3_tellEffect ∈ dk_ws := dk_w 648 (by decide +kernel) (by decide +kernel)
theorem yy_X3_tellEffect : dk_YV yX3_tellEffect cX3_tellEffect 5 none 4 := ⟨dk_wt_X3_tellEffect, dk_ws_X3_tellEffect, dk_wn_RX3, dk_wc_X3_tellEffect, ⟨by decide, by decide, by decide⟩⟩
theorem dk_wc_X3_effectOf : Cond.code yX3_effectOf cX3_effectOf 2 (some .char) ∈ dk_ws := dk_w 644 (by decide +kernel) (by decide +kernel)
theorem dk_wt_X3_effectOf : Cond.instanceMethod yX3_effectOf ∈ dk_ws := dk_w 642 (by decide +kernel) (by decide +kernel)
theorem dk_ws_X3_effectOf : Cond.selects RX3 yX3_effectOf yX3_effectOf ∈ dk_ws := dk_w 643 (by decide +kernel) (by decide +kernel)
theorem yy_X3_effectOf : dk_YV yX3_effectOf cX3_effectOf 2 (some .char) 1 := ⟨dk_wt_X3_effectOf, dk_ws_X3_effectOf, dk_wn_RX3, dk_wc_X3_effectOf, ⟨by decide, by decide, by decide⟩⟩
theorem dk_wm_X3_35 : Cond.methodLinkNest RX3 35 yX8_at "DelveKeep" ∈ dk_nw := dk_n 645 (by decide +kernel) (by decide +kernel)
theorem dk_wc_X3_isWooden : Cond.code yX3_isWooden cX3_isWooden 2 (some .boolean) ∈ dk_ws := dk_w 1011 (by decide +kernel) (by decide +kernel)
theorem dk_wt_X3_isWooden : Cond.instanceMethod yX3_isWooden ∈ dk_ws := dk_w 1009 (by decide +kernel) (by decide +kernel)
theorem dk_ws_X3_isWooden : Cond.selects RX3 yX3_isWooden yX3_isWooden ∈ dk_ws := dk_w 1010 (by decide +kernel) (by decide +kernel)
theorem yy_X3_isWooden : dk_YV yX3_isWooden cX3_isWooden 2 (some .boolean) 1 := ⟨dk_wt_X3_isWooden, dk_ws_X3_isWooden, dk_wn_RX3, dk_wc_X3_isWooden, ⟨by decide, by decide, by decide⟩⟩
theorem dk_wc_X4_copy : Cond.code yX4_copy cX4_copy 2 none ∈ dk_ws := dk_w 786 (by decide +kernel) (by decide +kernel)
theorem dk_wn_RX4 : Cond.initialized RX4 ∈ dk_ws := dk_w 77 (by decide +kernel) (by decide +kernel)
theorem dk_wt_X4_copy : Cond.instanceMethod yX4_copy ∈ dk_ws := dk_w 784 (by decide +kernel) (by decide +kernel)
theorem dk_ws_X4_copy : Cond.selects RX4 yX4_copy yX4_copy ∈ dk_ws := dk_w 785 (by decide +kernel) (by decide +kernel)
theorem yy_X4_copy : dk_YV yX4_copy cX4_copy 2 none 1 := ⟨dk_wt_X4_copy, dk_ws_X4_copy, dk_wn_RX4, dk_wc_X4_copy, ⟨by decide, by decide, by decide⟩⟩
theorem dk_wf_X4_9 : Cond.fieldLink RX4 9 (TX4 0).1 (TX4 0).2.1 (TX4 0).2.2.1 ∈ dk_ws := dk_w 250 (by decide +kernel) (by decide +kernel)
theorem dk_wm_X4_22 : Cond.methodLinkNest RX4 22 yX8_copyRow "DelveKeep" ∈ dk_nw := dk_n 787 (by decide +kernel) (by decide +kernel)
theorem dk_wf_X4_15 : Cond.fieldLink RX4 15 (TX4 1).1 (TX4 1).2.1 (TX4 1).2.2.1 ∈ dk_ws := dk_w 251 (by decide +kernel) (by decide +kernel)
theorem dk_wf_X4_18 : Cond.fieldLink RX4 18 (TX4 2).1 (TX4 2).2.1 (TX4 2).2.2.1 ∈ dk_ws := dk_w 252 (by decide +kernel) (by decide +kernel)
theorem dk_wc_X4_add : Cond.code yX4_add cX4_add 3 (some .int) ∈ dk_ws := dk_w 717 (by decide +kernel) (by decide +kernel)
theorem dk_wt_X4_add : Cond.instanceMethod yX4_add ∈ dk_ws := dk_w 715 (by decide +kernel) (by decide +kernel)
theorem dk_ws_X4_add : Cond.selects RX4 yX4_add yX4_add ∈ dk_ws := dk_w 716 (by decide +kernel) (by decide +kernel)
theorem yy_X4_add : dk_YV yX4_add cX4_add 3 (some .int) 2 := ⟨dk_wt_X4_add, dk_ws_X4_add, dk_wn_RX4, dk_wc_X4_add, ⟨by decide, by decide, by decide⟩⟩
theorem dk_wm_X4_26 : Cond.methodLinkNest RX4 26 yX8_put "DelveKeep" ∈ dk_nw := dk_n 718 (by decide +kernel) (by decide +kernel)
theorem dk_wc_X4_light : Cond.code yX4_light cX4_light 8 (some .boolean) ∈ dk_ws := dk_w 1155 (by decide +kernel) (by decide +kernel)
theorem dk_wt_X4_light : Cond.instanceMethod yX4_light ∈ dk_ws := dk_w 1153 (by decide +kernel) (by decide +kernel)
theorem dk_ws_X4_light : Cond.selects RX4 yX4_light yX4_light ∈ dk_ws := dk_w 1154 (by decide +kernel) (by decide +kernel)
theorem yy_X4_light : dk_YV yX4_light cX4_light 8 (some .boolean) 2 := ⟨dk_wt_X4_light, dk_ws_X4_light, dk_wn_RX4, dk_wc_X4_light, ⟨by decide, by decide, by decide⟩⟩
theorem dk_wm_X4_30 : Cond.methodLinkNest RX4 30 yX8_at "DelveKeep" ∈ dk_nw := dk_n 1156 (by decide +kernel) (by decide +kernel)
theorem dk_wm_X4_34 : Cond.methodLink RX4 34 yX1_seeEachOther ∈ dk_ws := dk_w 1157 (by decide +kernel) (by decide +kernel)
theorem dk_wc_X5_add : Cond.code yX5_add cX5_add 4 none ∈ dk_ws := dk_w 1031 (by decide +kernel) (by decide +kernel)
theorem dk_wn_RX5 : Cond.initialized RX5 ∈ dk_ws := dk_w 78 (by decide +kernel) (by decide +kernel)
theorem dk_wt_X5_add : Cond.instanceMethod yX5_add ∈ dk_ws := dk_w 1029 (by decide +kernel) (by decide +kernel)
theorem dk_ws_X5_add : Cond.selects RX5 yX5_add yX5_add ∈ dk_ws := dk_w 1030 (by decide +kernel) (by decide +kernel)
theorem yy_X5_add : dk_YV yX5_add cX5_add 4 none 3 := ⟨dk_wt_X5_add, dk_ws_X5_add, dk_wn_RX5, dk_wc_X5_add, ⟨by decide, by decide, by decide⟩⟩
theorem dk_wf_X5_21 : Cond.fieldLink RX5 21 (TX5 3).1 (TX5 3).2.1 (TX5 3).2.2.1 ∈ dk_ws := dk_w 313 (by decide +kernel) (by decide +kernel)
theorem dk_wf_X5_9 : Cond.fieldLink RX5 9 (TX5 0).1 (TX5 0).2.1 (TX5 0).2.2.1 ∈ dk_ws := dk_w 307 (by decide +kernel) (by decide +kernel)
theorem dk_wm_X5_25 : Cond.methodLinkNest RX5 25 yX8_put "DelveKeep" ∈ dk_nw := dk_n 1032 (by decide +kernel) (by decide +kernel)
theorem dk_wf_X5_15 : Cond.fieldLink RX5 15 (TX5 1).1 (TX5 1).2.1 (TX5 1).2.2.1 ∈ dk_ws := dk_w 309 (by decide +kernel) (by decide +kernel)
theorem dk_wf_X5_18 : Cond.fieldLink RX5 18 (TX5 2).1 (TX5 2).2.1 (TX5 2).2.2.1 ∈ dk_ws := dk_w 311 (by decide +kernel) (by decide +kernel)
theorem dk_wc_X6_copy : Cond.code yX6_copy cX6_copy 2 none ∈ dk_ws := dk_w 781 (by decide +kernel) (by decide +kernel)
theorem dk_wt_X6_copy : Cond.instanceMethod yX6_copy ∈ dk_ws := dk_w 779 (by decide +kernel) (by decide +kernel)
theorem dk_ws_X6_copy : Cond.selects RX6 yX6_copy yX6_copy ∈ dk_ws := dk_w 780 (by decide +kernel) (by decide +kernel)
theorem yy_X6_copy : dk_YV yX6_copy cX6_copy 2 none 1 := ⟨dk_wt_X6_copy, dk_ws_X6_copy, dk_wn_RX6, dk_wc_X6_copy, ⟨by decide, by decide, by decide⟩⟩
theorem dk_wf_X6_9 : Cond.fieldLink RX6 9 (TX6 0).1 (TX6 0).2.1 (TX6 0).2.2.1 ∈ dk_ws := dk_w 226 (by decide +kernel) (by decide +kernel)
theorem dk_wm_X6_22 : Cond.methodLinkNest RX6 22 yX8_copyRow "DelveKeep" ∈ dk_nw := dk_n 782 (by decide +kernel) (by decide +kernel)
theorem dk_wf_X6_18 : Cond.fieldLink RX6 18 (TX6 2).1 (TX6 2).2.1 (TX6 2).2.2.1 ∈ dk_ws := dk_w 233 (by decide +kernel) (by decide +kernel)
theorem dk_wc_X6_add : Cond.code yX6_add cX6_add 4 (some .int) ∈ dk_ws := dk_w 705 (by decide +kernel) (by decide +kernel)
theorem dk_wt_X6_add : Cond.instanceMethod yX6_add ∈ dk_ws := dk_w 703 (by decide +kernel) (by decide +kernel)
theorem dk_ws_X6_add : Cond.selects RX6 yX6_add yX6_add ∈ dk_ws := dk_w 704 (by decide +kernel) (by decide +kernel)
theorem yy_X6_add : dk_YV yX6_add cX6_add 4 (some .int) 2 := ⟨dk_wt_X6_add, dk_ws_X6_add, dk_wn_RX6, dk_wc_X6_add, ⟨by decide, by decide, by decide⟩⟩
theorem dk_wm_X6_26 : Cond.methodLinkNest RX6 26 yX8_put "DelveKeep" ∈ dk_nw := dk_n 706 (by decide +kernel) (by decide +kernel)
theorem dk_wc_X6_isWithin : Cond.code yX6_isWithin cX6_isWithin 5 (some .boolean) ∈ dk_ws := dk_w 1072 (by decide +kernel) (by decide +kernel)
theorem dk_wt_X6_isWithin : Cond.instanceMethod yX6_isWithin ∈ dk_ws := dk_w 1070 (by decide +kernel) (by decide +kernel)
theorem dk_ws_X6_isWithin : Cond.selects RX6 yX6_isWithin yX6_isWithin ∈ dk_ws := dk_w 1071 (by decide +kernel) (by decide +kernel)
theorem yy_X6_isWithin : dk_YV yX6_isWithin cX6_isWithin 5 (some .boolean) 2 := ⟨dk_wt_X6_isWithin, dk_ws_X6_isWithin, dk_wn_RX6, dk_wc_X6_isWithin, ⟨by decide, by decide, by decide⟩⟩
theorem dk_wc_X6_wholeWeight : Cond.code yX6_wholeWeight cX6_wholeWeight 5 (some .int) ∈ dk_ws := dk_w 1068 (by decide +kernel) (by decide +kernel)
theorem dk_wt_X6_wholeWeight : Cond.instanceMethod yX6_wholeWeight ∈ dk_ws := dk_w 1066 (by decide +kernel) (by decide +kernel)
theorem dk_ws_X6_wholeWeight : Cond.selects RX6 yX6_wholeWeight yX6_wholeWeight ∈ dk_ws := dk_w 1067 (by decide +kernel) (by decide +kernel)
theorem yy_X6_wholeWeight : dk_YV yX6_wholeWeight cX6_wholeWeight 5 (some .int) 2 := ⟨dk_wt_X6_wholeWeight, dk_ws_X6_wholeWeight, dk_wn_RX6, dk_wc_X6_wholeWeight, ⟨by decide, by decide, by decide⟩⟩
theorem dk_wm_X6_38 : Cond.methodLink RX6 38 yX6_isWithin ∈ dk_ws := dk_w 1069 (by decide +kernel) (by decide +kernel)
theorem dk_wf_X6_42 : Cond.fieldLink RX6 42 (TX3 0).1 (TX3 0).2.1 (TX3 0).2.2.1 ∈ dk_ws := dk_w 153 (by decide +kernel) (by decide +kernel)
theorem dk_wc_X6_carriedWeight : Cond.code yX6_carriedWeight cX6_carriedWeight 4 (some .int) ∈ dk_ws := dk_w 968 (by decide +kernel) (by decide +kernel)
theorem dk_wt_X6_carriedWeight : Cond.instanceMethod yX6_carriedWeight ∈ dk_ws := dk_w 966 (by decide +kernel) (by decide +kernel)
theorem dk_ws_X6_carriedWeight : Cond.selects RX6 yX6_carriedWeight yX6_carriedWeight ∈ dk_ws := dk_w 967 (by decide +kernel) (by decide +kernel)
theorem yy_X6_carriedWeight : dk_YV yX6_carriedWeight cX6_carriedWeight 4 (some .int) 1 := ⟨dk_wt_X6_carriedWeight, dk_ws_X6_carriedWeight, dk_wn_RX6, dk_wc_X6_carriedWeight, ⟨by decide, by decide, by decide⟩⟩
theorem dk_wm_X6_47 : Cond.methodLink RX6 47 yX6_outerPlace ∈ dk_ws := dk_w 963 (by decide +kernel) (by decide +kernel)
theorem dk_wc_X6_countAt : Cond.code yX6_countAt cX6_countAt 4 (some .int) ∈ dk_ws := dk_w 976 (by decide +kernel) (by decide +kernel)
theorem dk_wt_X6_countAt : Cond.instanceMethod yX6_countAt ∈ dk_ws := dk_w 974 (by decide +kernel) (by decide +kernel)
theorem dk_ws_X6_countAt : Cond.selects RX6 yX6_countAt yX6_countAt ∈ dk_ws := dk_w 975 (by decide +kernel) (by decide +kernel)
theorem yy_X6_countAt : dk_YV yX6_countAt cX6_countAt 4 (some .int) 1 := ⟨dk_wt_X6_countAt, dk_ws_X6_countAt, dk_wn_RX6, dk_wc_X6_countAt, ⟨by decide, by decide, by decide⟩⟩
theorem dk_wc_X6_moveAll : Cond.code yX6_moveAll cX6_moveAll 4 none ∈ dk_ws := dk_w 917 (by decide +kernel) (by decide +kernel)
theorem dk_wt_X6_moveAll : Cond.instanceMethod yX6_moveAll ∈ dk_ws := dk_w 915 (by decide +kernel) (by decide +kernel)
theorem dk_ws_X6_moveAll : Cond.selects RX6 yX6_moveAll yX6_moveAll ∈ dk_ws := dk_w 916 (by decide +kernel) (by decide +kernel)
theorem yy_X6_moveAll : dk_YV yX6_moveAll cX6_moveAll 4 none 2 := ⟨dk_wt_X6_moveAll, dk_ws_X6_moveAll, dk_wn_RX6, dk_wc_X6_moveAll, ⟨by decide, by decide, by decide⟩⟩
theorem dk_wc_X6_hasInHands : Cond.code yX6_hasInHands cX6_hasInHands 3 (some .boolean) ∈ dk_ws := dk_w 954 (by decide +kernel) (by decide +kernel)
theorem dk_wt_X6_hasInHands : Cond.instanceMethod yX6_hasInHands ∈ dk_ws := dk_w 952 (by decide +kernel) (by decide +kernel)
theorem dk_ws_X6_hasInHands : Cond.selects RX6 yX6_hasInHands yX6_hasInHands ∈ dk_ws := dk_w 953 (by decide +kernel) (by decide +kernel)
theorem yy_X6_hasInHands : dk_YV yX6_hasInHands cX6_hasInHands 3 (some .boolean) 1 := ⟨dk_wt_X6_hasInHands, dk_ws_X6_hasInHands, dk_wn_RX6, dk_wc_X6_hasInHands, ⟨by decide, by decide, by decide⟩⟩
theorem dk_wc_X6_keysAtHand : Cond.code yX6_keysAtHand cX6_keysAtHand 5 (some .int) ∈ dk_ws := dk_w 1227 (by decide +kernel) (by decide +kernel)
theorem dk_wt_X6_keysAtHand : Cond.instanceMethod yX6_keysAtHand ∈ dk_ws := dk_w 1225 (by decide +kernel) (by decide +kernel)
theorem dk_ws_X6_keysAtHand : Cond.selects RX6 yX6_keysAtHand yX6_keysAtHand ∈ dk_ws := dk_w 1226 (by decide +kernel) (by decide +kernel)
theorem yy_X6_keysAtHand : dk_YV yX6_keysAtHand cX6_keysAtHand 5 (some .int) 1 := ⟨dk_wt_X6_keysAtHand, dk_ws_X6_keysAtHand, dk_wn_RX6, dk_wc_X6_keysAtHand, ⟨by decide, by decide, by decide⟩⟩
theorem dk_wc_X6_isCarriedKey : Cond.code yX6_isCarriedKey cX6_isCarriedKey 3 (some .boolean) ∈ dk_ws := dk_w 962 (by decide +kernel) (by decide +kernel)
theorem dk_wt_X6_isCarriedKey : Cond.instanceMethod yX6_isCarriedKey ∈ dk_ws := dk_w 960 (by decide +kernel) (by decide +kernel)
theorem dk_ws_X6_isCarriedKey : Cond.selects RX6 yX6_isCarriedKey yX6_isCarriedKey ∈ dk_ws := dk_w 961 (by decide +kernel) (by decide +kernel)
theorem yy_X6_isCarriedKey : dk_YV yX6_isCarriedKey cX6_isCarriedKey 3 (some .boolean) 1 := ⟨dk_wt_X6_isCarriedKey, dk_ws_X6_isCarriedKey, dk_wn_RX6, dk_wc_X6_isCarriedKey, ⟨by decide, by decide, by decide⟩⟩
theorem dk_wc_X6_isLike : Cond.code yX6_isLike cX6_isLike 3 (some .boolean) ∈ dk_ws := dk_w 1254 (by decide +kernel) (by decide +kernel)
theorem dk_wt_X6_isLike : Cond.instanceMethod yX6_isLike ∈ dk_ws := dk_w 1252 (by decide +kernel) (by decide +kernel)
theorem dk_ws_X6_isLike : Cond.selects RX6 yX6_isLike yX6_isLike ∈ dk_ws := dk_w 1253 (by decide +kernel) (by decide +kernel)
theorem yy_X6_isLike : dk_YV yX6_isLike cX6_isLike 3 (some .boolean) 1 := ⟨dk_wt_X6_isLike, dk_ws_X6_isLike, dk_wn_RX6, dk_wc_X6_isLike, ⟨by decide, by decide, by decide⟩⟩
theorem dk_wc_X7_copy : Cond.code yX7_copy cX7_copy 2 none ∈ dk_ws := dk_w 755 (by decide +kernel) (by decide +kernel)
theorem dk_wt_X7_copy : Cond.instanceMethod yX7_copy ∈ dk_ws := dk_w 753 (by decide +kernel) (by decide +kernel)
theorem dk_ws_X7_copy : Cond.selects RX7 yX7_copy yX7_copy ∈ dk_ws := dk_w 754 (by decide +kernel) (by decide +kernel)
theorem yy_X7_copy : dk_YV yX7_copy cX7_copy 2 none 1 := ⟨dk_wt_X7_copy, dk_ws_X7_copy, dk_wn_RX7, dk_wc_X7_copy, ⟨by decide, by decide, by decide⟩⟩
theorem dk_wf_X7_12 : Cond.fieldLink RX7 12 (TX7 0).1 (TX7 0).2.1 (TX7 0).2.2.1 ∈ dk_ws := dk_w 261 (by decide +kernel) (by decide +kernel)
theorem dk_wm_X7_62 : Cond.methodLink RX7 62 yX1_copy ∈ dk_ws := dk_w 756 (by decide +kernel) (by decide +kernel)
theorem dk_wf_X7_21 : Cond.fieldLink RX7 21 (TX7 1).1 (TX7 1).2.1 (TX7 1).2.2.1 ∈ dk_ws := dk_w 264 (by decide +kernel) (by decide +kernel)
theorem dk_wm_X7_66 : Cond.methodLink RX7 66 yX3_copy ∈ dk_ws := dk_w 764 (by decide +kernel) (by decide +kernel)
theorem dk_wm_X7_69 : Cond.methodLink RX7 69 yX2_copy ∈ dk_ws := dk_w 773 (by decide +kernel) (by decide +kernel)
theorem dk_wf_X7_35 : Cond.fieldLink RX7 35 (TX7 3).1 (TX7 3).2.1 (TX7 3).2.2.1 ∈ dk_ws := dk_w 268 (by decide +kernel) (by decide +kernel)
theorem dk_wm_X7_72 : Cond.methodLink RX7 72 yX6_copy ∈ dk_ws := dk_w 778 (by decide +kernel) (by decide +kernel)
theorem dk_wf_X7_42 : Cond.fieldLink RX7 42 (TX7 4).1 (TX7 4).2.1 (TX7 4).2.2.1 ∈ dk_ws := dk_w 271 (by decide +kernel) (by decide +kernel)
theorem dk_wm_X7_75 : Cond.methodLink RX7 75 yX4_copy ∈ dk_ws := dk_w 783 (by decide +kernel) (by decide +kernel)
theorem dk_wf_X7_46 : Cond.fieldLink RX7 46 (TX7 5).1 (TX7 5).2.1 (TX7 5).2.2.1 ∈ dk_ws := dk_w 273 (by decide +kernel) (by decide +kernel)
theorem dk_wf_X7_53 : Cond.fieldLink RX7 53 (TX7 7).1 (TX7 7).2.1 (TX7 7).2.2.1 ∈ dk_ws := dk_w 277 (by decide +kernel) (by decide +kernel)
theorem dk_wf_X7_56 : Cond.fieldLink RX7 56 (TX7 8).1 (TX7 8).2.1 (TX7 8).2.2.1 ∈ dk_ws := dk_w 278 (by decide +kernel) (by decide +kernel)
theorem dk_wf_X7_59 : Cond.fieldLink RX7 59 (TX7 9).1 (TX7 9).2.1 (TX7 9).2.2.1 ∈ dk_ws := dk_w 279 (by decide +kernel) (by decide +kernel)
theorem dk_wc_X7_allStandFree : Cond.code yX7_allStandFree cX7_allStandFree 2 (some .boolean) ∈ dk_ws := dk_w 738 (by decide +kernel) (by decide +kernel)
theorem dk_wt_X7_allStandFree : Cond.instanceMethod yX7_allStandFree ∈ dk_ws := dk_w 736 (by decide +kernel) (by decide +kernel)
theorem dk_ws_X7_allStandFree : Cond.selects RX7 yX7_allStandFree yX7_allStandFree ∈ dk_ws := dk_w 737 (by decide +kernel) (by decide +kernel)
theorem yy_X7_allStandFree : dk_YV yX7_allStandFree cX7_allStandFree 2 (some .boolean) 0 := ⟨dk_wt_X7_allStandFree, dk_ws_X7_allStandFree, dk_wn_RX7, dk_wc_X7_allStandFree, ⟨by decide, by decide, by decide⟩⟩
theorem dk_wf_X7_86 : Cond.fieldLink RX7 86 (TX2 9).1 (TX2 9).2.1 (TX2 9).2.2.1 ∈ dk_ws := dk_w 197 (by decide +kernel) (by decide +kernel)
theorem dk_wm_X7_89 : Cond.methodLink RX7 89 yX1_isFreeAt ∈ dk_ws := dk_w 740 (by decide +kernel) (by decide +kernel)
theorem dk_wc_X8_gap : Cond.code yX8_gap cX8_gap 4 (some .int) ∈ dk_ws := dk_w 1005 (by decide +kernel) (by decide +kernel)
theorem dk_wt_X8_gap : Cond.static yX8_gap ∈ dk_ws := dk_w 1004 (by decide +kernel) (by decide +kernel)
theorem yy_X8_gap : dk_YS yX8_gap cX8_gap 4 (some .int) 2 := ⟨dk_wt_X8_gap, dk_wn_RX8, dk_wc_X8_gap, ⟨by decide, by decide, by decide⟩⟩
theorem dk_wm_X8_308 : Cond.methodLink RX8 308 Lib.Math.abs.name ∈ dk_ws := dk_w 1006 (by decide +kernel) (by decide +kernel)
theorem dk_wm_X8_313 : Cond.methodLink RX8 313 Lib.Math.max.name ∈ dk_ws := dk_w 1007 (by decide +kernel) (by decide +kernel)
theorem dk_wc_X7_isSeenByHero : Cond.code yX7_isSeenByHero cX7_isSeenByHero 3 (some .boolean) ∈ dk_ws := dk_w 1151 (by decide +kernel) (by decide +kernel)
theorem dk_wt_X7_isSeenByHero : Cond.instanceMethod yX7_isSeenByHero ∈ dk_ws := dk_w 1149 (by decide +kernel) (by decide +kernel)
theorem dk_ws_X7_isSeenByHero : Cond.selects RX7 yX7_isSeenByHero yX7_isSeenByHero ∈ dk_ws := dk_w 1150 (by decide +kernel) (by decide +kernel)
theorem yy_X7_isSeenByHero : dk_YV yX7_isSeenByHero cX7_isSeenByHero 3 (some .boolean) 1 := ⟨dk_wt_X7_isSeenByHero, dk_ws_X7_isSeenByHero, dk_wn_RX7, dk_wc_X7_isSeenByHero, ⟨by decide, by decide, by decide⟩⟩
theorem dk_wm_X7_93 : Cond.methodLink RX7 93 yX7_heroSpot ∈ dk_ws := dk_w 823 (by decide +kernel) (by decide +kernel)
theorem dk_wm_X7_97 : Cond.methodLink RX7 97 yX1_seeEachOther ∈ dk_ws := dk_w 827 (by decide +kernel) (by decide +kernel)
theorem dk_wm_X7_101 : Cond.methodLinkNest RX7 101 yX8_gap "DelveKeep" ∈ dk_nw := dk_n 1003 (by decide +kernel) (by decide +kernel)
theorem dk_wm_X7_105 : Cond.methodLink RX7 105 yX4_light ∈ dk_ws := dk_w 1152 (by decide +kernel) (by decide +kernel)
theorem dk_wc_X8_isPotion : Cond.code yX8_isPotion cX8_isPotion 1 (some .boolean) ∈ dk_ws := dk_w 1018 (by decide +kernel) (by decide +kernel)
theorem dk_wt_X8_isPotion : Cond.static yX8_isPotion ∈ dk_ws := dk_w 1017 (by decide +kernel) (by decide +kernel)
theorem yy_X8_isPotion : dk_YS yX8_isPotion cX8_isPotion 1 (some .boolean) 1 := ⟨dk_wt_X8_isPotion, dk_wn_RX8, dk_wc_X8_isPotion, ⟨by decide, by decide, by decide⟩⟩
theorem dk_wc_X7_nameOfKind : Cond.code yX7_nameOfKind cX7_nameOfKind 3 (some .int) ∈ dk_ws := dk_w 1210 (by decide +kernel) (by decide +kernel)
theorem dk_wt_X7_nameOfKind : Cond.instanceMethod yX7_nameOfKind ∈ dk_ws := dk_w 1208 (by decide +kernel) (by decide +kernel)
theorem dk_ws_X7_nameOfKind : Cond.selects RX7 yX7_nameOfKind yX7_nameOfKind ∈ dk_ws := dk_w 1209 (by decide +kernel) (by decide +kernel)
theorem yy_X7_nameOfKind : dk_YV yX7_nameOfKind cX7_nameOfKind 3 (some .int) 1 := ⟨dk_wt_X7_nameOfKind, dk_ws_X7_nameOfKind, dk_wn_RX7, dk_wc_X7_nameOfKind, ⟨by decide, by decide, by decide⟩⟩
theorem dk_wm_X7_109 : Cond.methodLinkNest RX7 109 yX8_isPotion "DelveKeep" ∈ dk_nw := dk_n 1016 (by decide +kernel) (by decide +kernel)
theorem dk_wf_X7_112 : Cond.fieldLinkNest RX7 112 "DelveKeep" "LOOKS" "[I" "DelveKeep" ∈ dk_nw := dk_n 1211 (by decide +kernel) (by decide +kernel)
theorem dk_wf_X7_50 : Cond.fieldLink RX7 50 (TX7 6).1 (TX7 6).2.1 (TX7 6).2.2.1 ∈ dk_ws := dk_w 275 (by decide +kernel) (by decide +kernel)
theorem dk_wc_X7_heroCouldReach : Cond.code yX7_heroCouldReach cX7_heroCouldReach 5 (some .boolean) ∈ dk_ws := dk_w 1223 (by decide +kernel) (by decide +kernel)
theorem dk_wt_X7_heroCouldReach : Cond.instanceMethod yX7_heroCouldReach ∈ dk_ws := dk_w 1221 (by decide +kernel) (by decide +kernel)
theorem dk_ws_X7_heroCouldReach : Cond.selects RX7 yX7_heroCouldReach yX7_heroCouldReach ∈ dk_ws := dk_w 1222 (by decide +kernel) (by decide +kernel)
theorem yy_X7_heroCouldReach : dk_YV yX7_heroCouldReach cX7_heroCouldReach 5 (some .boolean) 1 := ⟨dk_wt_X7_heroCouldReach, dk_ws_X7_heroCouldReach, dk_wn_RX7, dk_wc_X7_heroCouldReach, ⟨by decide, by decide, by decide⟩⟩
theorem dk_wf_X7_115 : Cond.fieldLink RX7 115 (TX1 3).1 (TX1 3).2.1 (TX1 3).2.2.1 ∈ dk_ws := dk_w 123 (by decide +kernel) (by decide +kernel)
theorem dk_wk_X7_118 : Cond.constant RX7 118 1000000 ∈ dk_ws := dk_w 799 (by decide +kernel) (by decide +kernel)
theorem dk_wm_X7_119 : Cond.methodLink RX7 119 yX1_flood ∈ dk_ws := dk_w 885 (by decide +kernel) (by decide +kernel)
theorem dk_wm_X7_123 : Cond.methodLink RX7 123 yX6_keysAtHand ∈ dk_ws := dk_w 1224 (by decide +kernel) (by decide +kernel)
theorem dk_wc_X7_isLike : Cond.code yX7_isLike cX7_isLike 2 (some .boolean) ∈ dk_ws := dk_w 1242 (by decide +kernel) (by decide +kernel)
theorem dk_wt_X7_isLike : Cond.instanceMethod yX7_isLike ∈ dk_ws := dk_w 1240 (by decide +kernel) (by decide +kernel)
theorem dk_ws_X7_isLike : Cond.selects RX7 yX7_isLike yX7_isLike ∈ dk_ws := dk_w 1241 (by decide +kernel) (by decide +kernel)
theorem yy_X7_isLike : dk_YV yX7_isLike cX7_isLike 2 (some .boolean) 1 := ⟨dk_wt_X7_isLike, dk_ws_X7_isLike, dk_wn_RX7, dk_wc_X7_isLike, ⟨by decide, by decide, by decide⟩⟩
theorem dk_wm_X7_127 : Cond.methodLink RX7 127 yX1_isLike ∈ dk_ws := dk_w 1243 (by decide +kernel) (by decide +kernel)
theorem dk_wm_X7_131 : Cond.methodLink RX7 131 yX2_isLike ∈ dk_ws := dk_w 1247 (by decide +kernel) (by decide +kernel)
theorem dk_wm_X7_134 : Cond.methodLink RX7 134 yX6_isLike ∈ dk_ws := dk_w 1251 (by decide +kernel) (by decide +kernel)
theorem dk_wc_X7_strike : Cond.code yX7_strike cX7_strike 4 none ∈ dk_ws := dk_w 958 (by decide +kernel) (by decide +kernel)
theorem dk_wt_X7_strike : Cond.instanceMethod yX7_strike ∈ dk_ws := dk_w 957 (by decide +kernel) (by decide +kernel)
theorem dk_ws_X7_strike : Cond.selects RX7 yX7_strike yX7_strike ∈ dk_ws := dk_w 16 (by decide +kernel) (by decide +kernel)
theorem yy_X7_strike : dk_YV yX7_strike cX7_strike 4 none 2 := ⟨dk_wt_X7_strike, dk_ws_X7_strike, dk_wn_RX7, dk_wc_X7_strike, ⟨by decide, by decide, by decide⟩⟩
theorem dk_wm_X7_198 : Cond.methodLink RX7 198 yX2_isWeak ∈ dk_ws := dk_w 858 (by decide +kernel) (by decide +kernel)
theorem dk_wm_X7_201 : Cond.methodLink RX7 201 yX2_harm ∈ dk_ws := dk_w 877 (by decide +kernel) (by decide +kernel)
theorem dk_wm_X7_204 : Cond.methodLink RX7 204 yX2_lives ∈ dk_ws := dk_w 800 (by decide +kernel) (by decide +kernel)
theorem dk_wc_X7_makeNoise : Cond.code yX7_makeNoise cX7_makeNoise 6 (some .int) ∈ dk_ws := dk_w 884 (by decide +kernel) (by decide +kernel)
theorem dk_wt_X7_makeNoise : Cond.instanceMethod yX7_makeNoise ∈ dk_ws := dk_w 883 (by decide +kernel) (by decide +kernel)
theorem dk_ws_X7_makeNoise : Cond.selects RX7 yX7_makeNoise yX7_makeNoise ∈ dk_ws := dk_w 9 (by decide +kernel) (by decide +kernel)
theorem yy_X7_makeNoise : dk_YV yX7_makeNoise cX7_makeNoise 6 (some .int) 2 := ⟨dk_wt_X7_makeNoise, dk_ws_X7_makeNoise, dk_wn_RX7, dk_wc_X7_makeNoise, ⟨by decide, by decide, by decide⟩⟩
theorem dk_wf_X7_271 : Cond.fieldLink RX7 271 (TX2 8).1 (TX2 8).2.1 (TX2 8).2.2.1 ∈ dk_ws := dk_w 194 (by decide +kernel) (by decide +kernel)
theorem dk_wm_X7_142 : Cond.methodLinkNest RX7 142 yX8_put "DelveKeep" ∈ dk_nw := dk_n 837 (by decide +kernel) (by decide +kernel)
theorem dk_wc_X7_heroGoes : Cond.code yX7_heroGoes cX7_heroGoes 5 (some .int) ∈ dk_ws := dk_w 950 (by decide +kernel) (by decide +kernel)
theorem dk_wt_X7_heroGoes : Cond.instanceMethod yX7_heroGoes ∈ dk_ws := dk_w 949 (by decide +kernel) (by decide +kernel)
theorem dk_ws_X7_heroGoes : Cond.selects RX7 yX7_heroGoes yX7_heroGoes ∈ dk_ws := dk_w 15 (by decide +kernel) (by decide +kernel)
theorem yy_X7_heroGoes : dk_YV yX7_heroGoes cX7_heroGoes 5 (some .int) 1 := ⟨dk_wt_X7_heroGoes, dk_ws_X7_heroGoes, dk_wn_RX7, dk_wc_X7_heroGoes, ⟨by decide, by decide, by decide⟩⟩
theorem dk_wm_X7_170 : Cond.methodLinkNest RX7 170 yX8_beside "DelveKeep" ∈ dk_nw := dk_n 866 (by decide +kernel) (by decide +kernel)
theorem dk_wm_X7_173 : Cond.methodLink RX7 173 yX2_livingAt ∈ dk_ws := dk_w 873 (by decide +kernel) (by decide +kernel)
theorem dk_wm_X7_176 : Cond.methodLink RX7 176 yX1_signAt ∈ dk_ws := dk_w 871 (by decide +kernel) (by decide +kernel)
theorem dk_wm_X7_190 : Cond.methodLink RX7 190 yX1_change ∈ dk_ws := dk_w 890 (by decide +kernel) (by decide +kernel)
theorem dk_wm_X7_187 : Cond.methodLink RX7 187 yX6_isCarriedKey ∈ dk_ws := dk_w 959 (by decide +kernel) (by decide +kernel)
theorem dk_wm_X7_180 : Cond.methodLink RX7 180 yX6_hasInHands ∈ dk_ws := dk_w 951 (by decide +kernel) (by decide +kernel)
theorem dk_wm_X7_183 : Cond.methodLink RX7 183 yX7_strike ∈ dk_ws := dk_w 955 (by decide +kernel) (by decide +kernel)
theorem dk_wm_X7_159 : Cond.methodLink RX7 159 yX7_makeNoise ∈ dk_ws := dk_w 881 (by decide +kernel) (by decide +kernel)
theorem dk_wm_X7_194 : Cond.methodLinkNest RX7 194 yX8_isFree "DelveKeep" ∈ dk_nw := dk_n 872 (by decide +kernel) (by decide +kernel)
theorem dk_wk_X7_165 : Cond.constant RX7 165 (-1000000) ∈ dk_ws := dk_w 964 (by decide +kernel) (by decide +kernel)
theorem dk_wc_X7_heroPacks : Cond.code yX7_heroPacks cX7_heroPacks 3 (some .int) ∈ dk_ws := dk_w 972 (by decide +kernel) (by decide +kernel)
theorem dk_wt_X7_heroPacks : Cond.instanceMethod yX7_heroPacks ∈ dk_ws := dk_w 971 (by decide +kernel) (by decide +kernel)
theorem dk_ws_X7_heroPacks : Cond.selects RX7 yX7_heroPacks yX7_heroPacks ∈ dk_ws := dk_w 17 (by decide +kernel) (by decide +kernel)
theorem yy_X7_heroPacks : dk_YV yX7_heroPacks cX7_heroPacks 3 (some .int) 2 := ⟨dk_wt_X7_heroPacks, dk_ws_X7_heroPacks, dk_wn_RX7, dk_wc_X7_heroPacks, ⟨by decide, by decide, by decide⟩⟩
theorem dk_wf_X7_141 : Cond.fieldLink RX7 141 (TX6 1).1 (TX6 1).2.1 (TX6 1).2.2.1 ∈ dk_ws := dk_w 231 (by decide +kernel) (by decide +kernel)
theorem dk_wm_X7_207 : Cond.methodLink RX7 207 yX6_countAt ∈ dk_ws := dk_w 973 (by decide +kernel) (by decide +kernel)
theorem dk_wc_X7_useUp : Cond.code yX7_useUp cX7_useUp 2 none ∈ dk_ws := dk_w 984 (by decide +kernel) (by decide +kernel)
theorem dk_wt_X7_useUp : Cond.instanceMethod yX7_useUp ∈ dk_ws := dk_w 983 (by decide +kernel) (by decide +kernel)
theorem dk_ws_X7_useUp : Cond.selects RX7 yX7_useUp yX7_useUp ∈ dk_ws := dk_w 19 (by decide +kernel) (by decide +kernel)
theorem yy_X7_useUp : dk_YV yX7_useUp cX7_useUp 2 none 1 := ⟨dk_wt_X7_useUp, dk_ws_X7_useUp, dk_wn_RX7, dk_wc_X7_useUp, ⟨by decide, by decide, by decide⟩⟩
theorem dk_wf_X7_210 : Cond.fieldLink RX7 210 (TX6 0).1 (TX6 0).2.1 (TX6 0).2.2.1 ∈ dk_ws := dk_w 227 (by decide +kernel) (by decide +kernel)
theorem dk_wc_X7_work : Cond.code yX7_work cX7_work 4 none ∈ dk_ws := dk_w 988 (by decide +kernel) (by decide +kernel)
theorem dk_wt_X7_work : Cond.instanceMethod yX7_work ∈ dk_ws := dk_w 987 (by decide +kernel) (by decide +kernel)
theorem dk_ws_X7_work : Cond.selects RX7 yX7_work yX7_work ∈ dk_ws := dk_w 20 (by decide +kernel) (by decide +kernel)
theorem yy_X7_work : dk_YV yX7_work cX7_work 4 none 2 := ⟨dk_wt_X7_work, dk_ws_X7_work, dk_wn_RX7, dk_wc_X7_work, ⟨by decide, by decide, by decide⟩⟩
theorem dk_wf_X7_232 : Cond.fieldLink RX7 232 (TX3 3).1 (TX3 3).2.1 (TX3 3).2.2.1 ∈ dk_ws := dk_w 158 (by decide +kernel) (by decide +kernel)
theorem dk_wf_X7_235 : Cond.fieldLink RX7 235 (TX3 2).1 (TX3 2).2.1 (TX3 2).2.2.1 ∈ dk_ws := dk_w 156 (by decide +kernel) (by decide +kernel)
theorem dk_wm_X7_238 : Cond.methodLink RX7 238 yX2_heal ∈ dk_ws := dk_w 989 (by decide +kernel) (by decide +kernel)
theorem dk_wm_X7_241 : Cond.methodLink RX7 241 yX2_hasten ∈ dk_ws := dk_w 994 (by decide +kernel) (by decide +kernel)
theorem dk_wc_X7_burnBy : Cond.code yX7_burnBy cX7_burnBy 6 none ∈ dk_ws := dk_w 1001 (by decide +kernel) (by decide +kernel)
theorem dk_wt_X7_burnBy : Cond.instanceMethod yX7_burnBy ∈ dk_ws := dk_w 1000 (by decide +kernel) (by decide +kernel)
theorem dk_ws_X7_burnBy : Cond.selects RX7 yX7_burnBy yX7_burnBy ∈ dk_ws := dk_w 21 (by decide +kernel) (by decide +kernel)
theorem yy_X7_burnBy : dk_YV yX7_burnBy cX7_burnBy 6 none 3 := ⟨dk_wt_X7_burnBy, dk_ws_X7_burnBy, dk_wn_RX7, dk_wc_X7_burnBy, ⟨by decide, by decide, by decide⟩⟩
theorem dk_wm_X7_244 : Cond.methodLink RX7 244 yX3_effectOf ∈ dk_ws := dk_w 1002 (by decide +kernel) (by decide +kernel)
theorem dk_wf_X7_247 : Cond.fieldLink RX7 247 (TX6 2).1 (TX6 2).2.1 (TX6 2).2.2.1 ∈ dk_ws := dk_w 236 (by decide +kernel) (by decide +kernel)
theorem dk_wm_X7_248 : Cond.methodLink RX7 248 yX3_isWooden ∈ dk_ws := dk_w 1008 (by decide +kernel) (by decide +kernel)
theorem dk_wm_X7_251 : Cond.methodLink RX7 251 yX6_moveAll ∈ dk_ws := dk_w 914 (by decide +kernel) (by decide +kernel)
theorem dk_wc_X7_heroDrinks : Cond.code yX7_heroDrinks cX7_heroDrinks 3 (some .int) ∈ dk_ws := dk_w 980 (by decide +kernel) (by decide +kernel)
theorem dk_wt_X7_heroDrinks : Cond.instanceMethod yX7_heroDrinks ∈ dk_ws := dk_w 979 (by decide +kernel) (by decide +kernel)
theorem dk_ws_X7_heroDrinks : Cond.selects RX7 yX7_heroDrinks yX7_heroDrinks ∈ dk_ws := dk_w 18 (by decide +kernel) (by decide +kernel)
theorem yy_X7_heroDrinks : dk_YV yX7_heroDrinks cX7_heroDrinks 3 (some .int) 1 := ⟨dk_wt_X7_heroDrinks, dk_ws_X7_heroDrinks, dk_wn_RX7, dk_wc_X7_heroDrinks, ⟨by decide, by decide, by decide⟩⟩
theorem dk_wm_X7_213 : Cond.methodLink RX7 213 yX7_useUp ∈ dk_ws := dk_w 981 (by decide +kernel) (by decide +kernel)
theorem dk_wm_X7_216 : Cond.methodLink RX7 216 yX7_work ∈ dk_ws := dk_w 985 (by decide +kernel) (by decide +kernel)
theorem dk_wm_X7_219 : Cond.methodLink RX7 219 yX7_burnBy ∈ dk_ws := dk_w 998 (by decide +kernel) (by decide +kernel)
theorem dk_wf_X7_223 : Cond.fieldLink RX7 223 (TX2 4).1 (TX2 4).2.1 (TX2 4).2.2.1 ∈ dk_ws := dk_w 189 (by decide +kernel) (by decide +kernel)
theorem dk_wc_X7_shatter : Cond.code yX7_shatter cX7_shatter 6 none ∈ dk_ws := dk_w 1022 (by decide +kernel) (by decide +kernel)
theorem dk_wt_X7_shatter : Cond.instanceMethod yX7_shatter ∈ dk_ws := dk_w 1021 (by decide +kernel) (by decide +kernel)
theorem dk_ws_X7_shatter : Cond.selects RX7 yX7_shatter yX7_shatter ∈ dk_ws := dk_w 23 (by decide +kernel) (by decide +kernel)
theorem yy_X7_shatter : dk_YV yX7_shatter cX7_shatter 6 none 2 := ⟨dk_wt_X7_shatter, dk_ws_X7_shatter, dk_wn_RX7, dk_wc_X7_shatter, ⟨by decide, by decide, by decide⟩⟩
theorem dk_wf_X7_229 : Cond.fieldLink RX7 229 (TX3 4).1 (TX3 4).2.1 (TX3 4).2.2.1 ∈ dk_ws := dk_w 160 (by decide +kernel) (by decide +kernel)
theorem dk_wc_X7_heroHurls : Cond.code yX7_heroHurls cX7_heroHurls 7 (some .int) ∈ dk_ws := dk_w 1015 (by decide +kernel) (by decide +kernel)
theorem dk_wt_X7_heroHurls : Cond.instanceMethod yX7_heroHurls ∈ dk_ws := dk_w 1014 (by decide +kernel) (by decide +kernel)
theorem dk_ws_X7_heroHurls : Cond.selects RX7 yX7_heroHurls yX7_heroHurls ∈ dk_ws := dk_w 22 (by decide +kernel) (by decide +kernel)
theorem yy_X7_heroHurls : dk_YV yX7_heroHurls cX7_heroHurls 7 (some .int) 2 := ⟨dk_wt_X7_heroHurls, dk_ws_X7_heroHurls, dk_wn_RX7, dk_wc_X7_heroHurls, ⟨by decide, by decide, by decide⟩⟩
theorem dk_wm_X7_226 : Cond.methodLink RX7 226 yX7_shatter ∈ dk_ws := dk_w 1019 (by decide +kernel) (by decide +kernel)
theorem dk_wc_X7_heroPrays : Cond.code yX7_heroPrays cX7_heroPrays 1 (some .int) ∈ dk_ws := dk_w 1026 (by decide +kernel) (by decide +kernel)
theorem dk_wt_X7_heroPrays : Cond.instanceMethod yX7_heroPrays ∈ dk_ws := dk_w 1025 (by decide +kernel) (by decide +kernel)
theorem dk_ws_X7_heroPrays : Cond.selects RX7 yX7_heroPrays yX7_heroPrays ∈ dk_ws := dk_w 24 (by decide +kernel) (by decide +kernel)
theorem yy_X7_heroPrays : dk_YV yX7_heroPrays cX7_heroPrays 1 (some .int) 0 := ⟨dk_wt_X7_heroPrays, dk_ws_X7_heroPrays, dk_wn_RX7, dk_wc_X7_heroPrays, ⟨by decide, by decide, by decide⟩⟩
theorem dk_wf_X7_254 : Cond.fieldLink RX7 254 (TX2 3).1 (TX2 3).2.1 (TX2 3).2.2.1 ∈ dk_ws := dk_w 186 (by decide +kernel) (by decide +kernel)
theorem dk_wc_X7_perform : Cond.code yX7_perform cX7_perform 5 (some .int) ∈ dk_ws := dk_w 946 (by decide +kernel) (by decide +kernel)
theorem dk_wt_X7_perform : Cond.instanceMethod yX7_perform ∈ dk_ws := dk_w 944 (by decide +kernel) (by decide +kernel)
theorem dk_ws_X7_perform : Cond.selects RX7 yX7_perform yX7_perform ∈ dk_ws := dk_w 945 (by decide +kernel) (by decide +kernel)
theorem yy_X7_perform : dk_YV yX7_perform cX7_perform 5 (some .int) 3 := ⟨dk_wt_X7_perform, dk_ws_X7_perform, dk_wn_RX7, dk_wc_X7_perform, ⟨by decide, by decide, by decide⟩⟩
theorem dk_wm_X7_137 : Cond.methodLink RX7 137 yX7_heroGoes ∈ dk_ws := dk_w 947 (by decide +kernel) (by decide +kernel)
theorem dk_wm_X7_146 : Cond.methodLink RX7 146 yX6_carriedWeight ∈ dk_ws := dk_w 965 (by decide +kernel) (by decide +kernel)
theorem dk_wm_X7_150 : Cond.methodLink RX7 150 yX7_heroPacks ∈ dk_ws := dk_w 969 (by decide +kernel) (by decide +kernel)
theorem dk_wm_X7_153 : Cond.methodLink RX7 153 yX7_heroDrinks ∈ dk_ws := dk_w 977 (by decide +kernel) (by decide +kernel)
theorem dk_wm_X7_156 : Cond.methodLink RX7 156 yX7_heroHurls ∈ dk_ws := dk_w 1012 (by decide +kernel) (by decide +kernel)
theorem dk_wm_X7_162 : Cond.methodLink RX7 162 yX7_heroPrays ∈ dk_ws := dk_w 1023 (by decide +kernel) (by decide +kernel)
theorem dk_wm_X7_166 : Cond.methodLink RX7 166 yX2_spendTurn ∈ dk_ws := dk_w 815 (by decide +kernel) (by decide +kernel)
theorem dk_wc_X7_layHands : Cond.code yX7_layHands cX7_layHands 1 none ∈ dk_ws := dk_w 913 (by decide +kernel) (by decide +kernel)
theorem dk_wt_X7_layHands : Cond.instanceMethod yX7_layHands ∈ dk_ws := dk_w 911 (by decide +kernel) (by decide +kernel)
theorem dk_ws_X7_layHands : Cond.selects RX7 yX7_layHands yX7_layHands ∈ dk_ws := dk_w 912 (by decide +kernel) (by decide +kernel)
theorem yy_X7_layHands : dk_YV yX7_layHands cX7_layHands 1 none 0 := ⟨dk_wt_X7_layHands, dk_ws_X7_layHands, dk_wn_RX7, dk_wc_X7_layHands, ⟨by decide, by decide, by decide⟩⟩
theorem dk_wc_X7_isOpenTo : Cond.code yX7_isOpenTo cX7_isOpenTo 2 (some .boolean) ∈ dk_ws := dk_w 870 (by decide +kernel) (by decide +kernel)
theorem dk_wt_X7_isOpenTo : Cond.instanceMethod yX7_isOpenTo ∈ dk_ws := dk_w 869 (by decide +kernel) (by decide +kernel)
theorem dk_ws_X7_isOpenTo : Cond.selects RX7 yX7_isOpenTo yX7_isOpenTo ∈ dk_ws := dk_w 8 (by decide +kernel) (by decide +kernel)
theorem yy_X7_isOpenTo : dk_YV yX7_isOpenTo cX7_isOpenTo 2 (some .boolean) 1 := ⟨dk_wt_X7_isOpenTo, dk_ws_X7_isOpenTo, dk_wn_RX7, dk_wc_X7_isOpenTo, ⟨by decide, by decide, by decide⟩⟩
theorem dk_wc_X7_flee : Cond.code yX7_flee cX7_flee 6 none ∈ dk_ws := dk_w 865 (by decide +kernel) (by decide +kernel)
theorem dk_wt_X7_flee : Cond.instanceMethod yX7_flee ∈ dk_ws := dk_w 864 (by decide +kernel) (by decide +kernel)
theorem dk_ws_X7_flee : Cond.selects RX7 yX7_flee yX7_flee ∈ dk_ws := dk_w 7 (by decide +kernel) (by decide +kernel)
theorem yy_X7_flee : dk_YV yX7_flee cX7_flee 6 none 1 := ⟨dk_wt_X7_flee, dk_ws_X7_flee, dk_wn_RX7, dk_wc_X7_flee, ⟨by decide, by decide, by decide⟩⟩
theorem dk_wm_X7_287 : Cond.methodLink RX7 287 yX7_isOpenTo ∈ dk_ws := dk_w 867 (by decide +kernel) (by decide +kernel)
theorem dk_wf_X7_290 : Cond.fieldLink RX7 290 (TX1 4).1 (TX1 4).2.1 (TX1 4).2.2.1 ∈ dk_ws := dk_w 125 (by decide +kernel) (by decide +kernel)
theorem dk_wc_X8_areNeighbours : Cond.code yX8_areNeighbours cX8_areNeighbours 4 (some .boolean) ∈ dk_ws := dk_w 876 (by decide +kernel) (by decide +kernel)
theorem dk_wt_X8_areNeighbours : Cond.static yX8_areNeighbours ∈ dk_ws := dk_w 875 (by decide +kernel) (by decide +kernel)
theorem yy_X8_areNeighbours : dk_YS yX8_areNeighbours cX8_areNeighbours 4 (some .boolean) 2 := ⟨dk_wt_X8_areNeighbours, dk_wn_RX8, dk_wc_X8_areNeighbours, ⟨by decide, by decide, by decide⟩⟩
theorem dk_wc_X7_comeNearer : Cond.code yX7_comeNearer cX7_comeNearer 8 none ∈ dk_ws := dk_w 889 (by decide +kernel) (by decide +kernel)
theorem dk_wt_X7_comeNearer : Cond.instanceMethod yX7_comeNearer ∈ dk_ws := dk_w 888 (by decide +kernel) (by decide +kernel)
theorem dk_ws_X7_comeNearer : Cond.selects RX7 yX7_comeNearer yX7_comeNearer ∈ dk_ws := dk_w 10 (by decide +kernel) (by decide +kernel)
theorem yy_X7_comeNearer : dk_YV yX7_comeNearer cX7_comeNearer 8 none 1 := ⟨dk_wt_X7_comeNearer, dk_ws_X7_comeNearer, dk_wn_RX7, dk_wc_X7_comeNearer, ⟨by decide, by decide, by decide⟩⟩
theorem dk_wc_X7_moveBeast : Cond.code yX7_moveBeast cX7_moveBeast 6 none ∈ dk_ws := dk_w 822 (by decide +kernel) (by decide +kernel)
theorem dk_wt_X7_moveBeast : Cond.instanceMethod yX7_moveBeast ∈ dk_ws := dk_w 821 (by decide +kernel) (by decide +kernel)
theorem dk_ws_X7_moveBeast : Cond.selects RX7 yX7_moveBeast yX7_moveBeast ∈ dk_ws := dk_w 6 (by decide +kernel) (by decide +kernel)
theorem yy_X7_moveBeast : dk_YV yX7_moveBeast cX7_moveBeast 6 none 1 := ⟨dk_wt_X7_moveBeast, dk_ws_X7_moveBeast, dk_wn_RX7, dk_wc_X7_moveBeast, ⟨by decide, by decide, by decide⟩⟩
theorem dk_wm_X7_274 : Cond.methodLink RX7 274 yX1_aimAt ∈ dk_ws := dk_w 838 (by decide +kernel) (by decide +kernel)
theorem dk_wm_X7_280 : Cond.methodLinkNest RX7 280 yX8_areNeighbours "DelveKeep" ∈ dk_nw := dk_n 874 (by decide +kernel) (by decide +kernel)
theorem dk_wm_X7_284 : Cond.methodLink RX7 284 yX7_comeNearer ∈ dk_ws := dk_w 886 (by decide +kernel) (by decide +kernel)
theorem dk_wf_X7_283 : Cond.fieldLink RX7 283 (TX2 2).1 (TX2 2).2.1 (TX2 2).2.2.1 ∈ dk_ws := dk_w 184 (by decide +kernel) (by decide +kernel)
theorem dk_wm_X7_277 : Cond.methodLink RX7 277 yX7_flee ∈ dk_ws := dk_w 862 (by decide +kernel) (by decide +kernel)
theorem dk_wc_X7_waitForHero : Cond.code yX7_waitForHero cX7_waitForHero 3 none ∈ dk_ws := dk_w 798 (by decide +kernel) (by decide +kernel)
theorem dk_wt_X7_waitForHero : Cond.instanceMethod yX7_waitForHero ∈ dk_ws := dk_w 796 (by decide +kernel) (by decide +kernel)
theorem dk_ws_X7_waitForHero : Cond.selects RX7 yX7_waitForHero yX7_waitForHero ∈ dk_ws := dk_w 797 (by decide +kernel) (by decide +kernel)
theorem yy_X7_waitForHero : dk_YV yX7_waitForHero cX7_waitForHero 3 none 0 := ⟨dk_wt_X7_waitForHero, dk_ws_X7_waitForHero, dk_wn_RX7, dk_wc_X7_waitForHero, ⟨by decide, by decide, by decide⟩⟩
theorem dk_wm_X7_257 : Cond.methodLink RX7 257 yX2_nextToAct ∈ dk_ws := dk_w 804 (by decide +kernel) (by decide +kernel)
theorem dk_wm_X7_268 : Cond.methodLink RX7 268 yX7_moveBeast ∈ dk_ws := dk_w 819 (by decide +kernel) (by decide +kernel)
theorem dk_wm_X7_260 : Cond.methodLink RX7 260 yX2_gainEnergy ∈ dk_ws := dk_w 809 (by decide +kernel) (by decide +kernel)
theorem dk_wm_X7_263 : Cond.methodLink RX7 263 Lib.Math.max.name ∈ dk_ws := dk_w 814 (by decide +kernel) (by decide +kernel)
theorem dk_wc_X8_state : Cond.code yX8_state cX8_state 1 (some .char) ∈ dk_ws := dk_w 362 (by decide +kernel) (by decide +kernel)
theorem dk_wt_X8_state : Cond.instanceMethod yX8_state ∈ dk_ws := dk_w 360 (by decide +kernel) (by decide +kernel)
theorem dk_ws_X8_state : Cond.selects RX8 yX8_state yX8_state ∈ dk_ws := dk_w 361 (by decide +kernel) (by decide +kernel)
theorem yy_X8_state : dk_YV yX8_state cX8_state 1 (some .char) 0 := ⟨dk_wt_X8_state, dk_ws_X8_state, dk_wn_RX8, dk_wc_X8_state, ⟨by decide, by decide, by decide⟩⟩
theorem dk_wf_X8_36 : Cond.fieldLink RX8 36 (TX8 5).1 (TX8 5).2.1 (TX8 5).2.2.1 ∈ dk_ws := dk_w 342 (by decide +kernel) (by decide +kernel)
theorem dk_wc_X8_tick : Cond.code yX8_tick cX8_tick 1 (some .int) ∈ dk_ws := dk_w 366 (by decide +kernel) (by decide +kernel)
theorem dk_wt_X8_tick : Cond.instanceMethod yX8_tick ∈ dk_ws := dk_w 364 (by decide +kernel) (by decide +kernel)
theorem dk_ws_X8_tick : Cond.selects RX8 yX8_tick yX8_tick ∈ dk_ws := dk_w 365 (by decide +kernel) (by decide +kernel)
theorem yy_X8_tick : dk_YV yX8_tick cX8_tick 1 (some .int) 0 := ⟨dk_wt_X8_tick, dk_ws_X8_tick, dk_wn_RX8, dk_wc_X8_tick, ⟨by decide, by decide, by decide⟩⟩
theorem dk_wm_X8_227 : Cond.methodLink RX8 227 yX8_shown ∈ dk_ws := dk_w 367 (by decide +kernel) (by decide +kernel)
theorem dk_wf_X8_175 : Cond.fieldLink RX8 175 (TX7 5).1 (TX7 5).2.1 (TX7 5).2.2.1 ∈ dk_ws := dk_w 274 (by decide +kernel) (by decide +kernel)
theorem dk_wc_X8_make : Cond.code yX8_make cX8_make 3 none ∈ dk_ws := dk_w 751 (by decide +kernel) (by decide +kernel)
theorem dk_wt_X8_make : Cond.instanceMethod yX8_make ∈ dk_ws := dk_w 750 (by decide +kernel) (by decide +kernel)
theorem dk_ws_X8_make : Cond.selects RX8 yX8_make yX8_make ∈ dk_ws := dk_w 5 (by decide +kernel) (by decide +kernel)
theorem yy_X8_make : dk_YV yX8_make cX8_make 3 none 2 := ⟨dk_wt_X8_make, dk_ws_X8_make, dk_wn_RX8, dk_wc_X8_make, ⟨by decide, by decide, by decide⟩⟩
theorem dk_wf_X8_12 : Cond.fieldLink RX8 12 (TX8 0).1 (TX8 0).2.1 (TX8 0).2.2.1 ∈ dk_ws := dk_w 337 (by decide +kernel) (by decide +kernel)
theorem dk_wm_X8_269 : Cond.methodLink RX8 269 yX7_copy ∈ dk_ws := dk_w 752 (by decide +kernel) (by decide +kernel)
theorem dk_wf_X8_273 : Cond.fieldLink RX8 273 (TX7 6).1 (TX7 6).2.1 (TX7 6).2.2.1 ∈ dk_ws := dk_w 276 (by decide +kernel) (by decide +kernel)
theorem dk_wf_X8_32 : Cond.fieldLink RX8 32 (TX8 4).1 (TX8 4).2.1 (TX8 4).2.2.1 ∈ dk_ws := dk_w 341 (by decide +kernel) (by decide +kernel)
theorem dk_wm_X8_276 : Cond.methodLink RX8 276 yX0_layIn ∈ dk_ws := dk_w 788 (by decide +kernel) (by decide +kernel)
theorem dk_wc_X8_settle : Cond.code yX8_settle cX8_settle 1 none ∈ dk_ws := dk_w 894 (by decide +kernel) (by decide +kernel)
theorem dk_wt_X8_settle : Cond.instanceMethod yX8_settle ∈ dk_ws := dk_w 893 (by decide +kernel) (by decide +kernel)
theorem dk_ws_X8_settle : Cond.selects RX8 yX8_settle yX8_settle ∈ dk_ws := dk_w 11 (by decide +kernel) (by decide +kernel)
theorem yy_X8_settle : dk_YV yX8_settle cX8_settle 1 none 0 := ⟨dk_wt_X8_settle, dk_ws_X8_settle, dk_wn_RX8, dk_wc_X8_settle, ⟨by decide, by decide, by decide⟩⟩
theorem dk_wf_X8_16 : Cond.fieldLink RX8 16 (TX8 1).1 (TX8 1).2.1 (TX8 1).2.2.1 ∈ dk_ws := dk_w 338 (by decide +kernel) (by decide +kernel)
theorem dk_wf_X8_111 : Cond.fieldLink RX8 111 (TX7 2).1 (TX7 2).2.1 (TX7 2).2.2.1 ∈ dk_ws := dk_w 267 (by decide +kernel) (by decide +kernel)
theorem dk_wm_X8_284 : Cond.methodLink RX8 284 yX2_lives ∈ dk_ws := dk_w 895 (by decide +kernel) (by decide +kernel)
theorem dk_wm_X8_287 : Cond.methodLink RX8 287 yX0_note ∈ dk_ws := dk_w 896 (by decide +kernel) (by decide +kernel)
theorem dk_wm_X8_290 : Cond.methodLink RX8 290 yX7_layHands ∈ dk_ws := dk_w 910 (by decide +kernel) (by decide +kernel)
theorem dk_wc_X8_act : Cond.code yX8_act cX8_act 5 (some .int) ∈ dk_ws := dk_w 942 (by decide +kernel) (by decide +kernel)
theorem dk_wt_X8_act : Cond.instanceMethod yX8_act ∈ dk_ws := dk_w 941 (by decide +kernel) (by decide +kernel)
theorem dk_ws_X8_act : Cond.selects RX8 yX8_act yX8_act ∈ dk_ws := dk_w 14 (by decide +kernel) (by decide +kernel)
theorem yy_X8_act : dk_YV yX8_act cX8_act 5 (some .int) 3 := ⟨dk_wt_X8_act, dk_ws_X8_act, dk_wn_RX8, dk_wc_X8_act, ⟨by decide, by decide, by decide⟩⟩
theorem dk_wm_X8_279 : Cond.methodLink RX8 279 yX7_perform ∈ dk_ws := dk_w 943 (by decide +kernel) (by decide +kernel)
theorem dk_wk_X8_188 : Cond.constant RX8 188 (-1000000) ∈ dk_ws := dk_w 1027 (by decide +kernel) (by decide +kernel)
theorem dk_wf_X8_25 : Cond.fieldLink RX8 25 (TX8 3).1 (TX8 3).2.1 (TX8 3).2.2.1 ∈ dk_ws := dk_w 340 (by decide +kernel) (by decide +kernel)
theorem dk_wm_X8_282 : Cond.methodLink RX8 282 yX5_add ∈ dk_ws := dk_w 1028 (by decide +kernel) (by decide +kernel)
theorem dk_wm_X8_169 : Cond.methodLink RX8 169 yX7_waitForHero ∈ dk_ws := dk_w 795 (by decide +kernel) (by decide +kernel)
theorem dk_wm_X8_172 : Cond.methodLink RX8 172 yX8_settle ∈ dk_ws := dk_w 891 (by decide +kernel) (by decide +kernel)
theorem dk_wc_X8_redo : Cond.code yX8_redo cX8_redo 1 none ∈ dk_ws := dk_w 1238 (by decide +kernel) (by decide +kernel)
theorem dk_wt_X8_redo : Cond.instanceMethod yX8_redo ∈ dk_ws := dk_w 1237 (by decide +kernel) (by decide +kernel)
theorem dk_ws_X8_redo : Cond.selects RX8 yX8_redo yX8_redo ∈ dk_ws := dk_w 28 (by decide +kernel) (by decide +kernel)
theorem yy_X8_redo : dk_YV yX8_redo cX8_redo 1 none 0 := ⟨dk_wt_X8_redo, dk_ws_X8_redo, dk_wn_RX8, dk_wc_X8_redo, ⟨by decide, by decide, by decide⟩⟩
theorem dk_wf_X8_19 : Cond.fieldLink RX8 19 (TX8 2).1 (TX8 2).2.1 (TX8 2).2.2.1 ∈ dk_ws := dk_w 339 (by decide +kernel) (by decide +kernel)
theorem dk_wf_X8_40 : Cond.fieldLink RX8 40 (TX8 6).1 (TX8 6).2.1 (TX8 6).2.2.1 ∈ dk_ws := dk_w 343 (by decide +kernel) (by decide +kernel)
theorem dk_wf_X8_168 : Cond.fieldLink RX8 168 (TX5 3).1 (TX5 3).2.1 (TX5 3).2.2.1 ∈ dk_ws := dk_w 314 (by decide +kernel) (by decide +kernel)
theorem dk_wf_X8_293 : Cond.fieldLink RX8 293 (TX5 0).1 (TX5 0).2.1 (TX5 0).2.2.1 ∈ dk_ws := dk_w 308 (by decide +kernel) (by decide +kernel)
theorem dk_wm_X8_94 : Cond.methodLink RX8 94 yX8_at ∈ dk_ws := dk_w 626 (by decide +kernel) (by decide +kernel)
theorem dk_wf_X8_296 : Cond.fieldLink RX8 296 (TX5 1).1 (TX5 1).2.1 (TX5 1).2.2.1 ∈ dk_ws := dk_w 310 (by decide +kernel) (by decide +kernel)
theorem dk_wf_X8_299 : Cond.fieldLink RX8 299 (TX5 2).1 (TX5 2).2.1 (TX5 2).2.2.1 ∈ dk_ws := dk_w 312 (by decide +kernel) (by decide +kernel)
theorem dk_wc_X8_shownPlace : Cond.code yX8_shownPlace cX8_shownPlace 1 (some .int) ∈ dk_ws := dk_w 1171 (by decide +kernel) (by decide +kernel)
theorem dk_wt_X8_shownPlace : Cond.static yX8_shownPlace ∈ dk_ws := dk_w 1170 (by decide +kernel) (by decide +kernel)
theorem yy_X8_shownPlace : dk_YS yX8_shownPlace cX8_shownPlace 1 (some .int) 1 := ⟨dk_wt_X8_shownPlace, dk_wn_RX8, dk_wc_X8_shownPlace, ⟨by decide, by decide, by decide⟩⟩
theorem dk_wc_X9_thrown : Cond.code yX9_thrown cX9_thrown 1 (some .int) ∈ dk_ws := dk_w 1422 (by decide +kernel) (by decide +kernel)
theorem dk_wn_RX9 : Cond.initialized RX9 ∈ dk_ws := dk_w 80 (by decide +kernel) (by decide +kernel)
theorem dk_wt_X9_thrown : Cond.instanceMethod yX9_thrown ∈ dk_ws := dk_w 1420 (by decide +kernel) (by decide +kernel)
theorem dk_ws_X9_thrown : Cond.selects RX9 yX9_thrown yX9_thrown ∈ dk_ws := dk_w 1421 (by decide +kernel) (by decide +kernel)
theorem yy_X9_thrown : dk_YV yX9_thrown cX9_thrown 1 (some .int) 0 := ⟨dk_wt_X9_thrown, dk_ws_X9_thrown, dk_wn_RX9, dk_wc_X9_thrown, ⟨by decide, by decide, by decide⟩⟩
theorem dk_wf_X9_107 : Cond.fieldLink RX9 107 (TX9 0).1 (TX9 0).2.1 (TX9 0).2.2.1 ∈ dk_ws := dk_w 1306 (by decide +kernel) (by decide +kernel)
theorem dk_wc_X9_in : Cond.code yX9_in cX9_in 3 (some .boolean) ∈ dk_ws := dk_w 1432 (by decide +kernel) (by decide +kernel)
theorem dk_wt_X9_in : Cond.static yX9_in ∈ dk_ws := dk_w 1431 (by decide +kernel) (by decide +kernel)
theorem yy_X9_in : dk_YS yX9_in cX9_in 3 (some .boolean) 3 := ⟨dk_wt_X9_in, dk_wn_RX9, dk_wc_X9_in, ⟨by decide, by decide, by decide⟩⟩
theorem dk_wc_X9_goesOn : Cond.code yX9_goesOn cX9_goesOn 2 (some .boolean) ∈ dk_ws := dk_w 1443 (by decide +kernel) (by decide +kernel)
theorem dk_wt_X9_goesOn : Cond.instanceMethod yX9_goesOn ∈ dk_ws := dk_w 1442 (by decide +kernel) (by decide +kernel)
theorem dk_ws_X9_goesOn : Cond.selects RX9 yX9_goesOn yX9_goesOn ∈ dk_ws := dk_w 31 (by decide +kernel) (by decide +kernel)
theorem yy_X9_goesOn : dk_YV yX9_goesOn cX9_goesOn 2 (some .boolean) 1 := ⟨dk_wt_X9_goesOn, dk_ws_X9_goesOn, dk_wn_RX9, dk_wc_X9_goesOn, ⟨by decide, by decide, by decide⟩⟩
theorem dk_wc_X9_isPlace : Cond.code yX9_isPlace cX9_isPlace 2 (some .boolean) ∈ dk_ws := dk_w 1429 (by decide +kernel) (by decide +kernel)
theorem dk_wt_X9_isPlace : Cond.static yX9_isPlace ∈ dk_ws := dk_w 1428 (by decide +kernel) (by decide +kernel)
theorem yy_X9_isPlace : dk_YS yX9_isPlace cX9_isPlace 2 (some .boolean) 2 := ⟨dk_wt_X9_isPlace, dk_wn_RX9, dk_wc_X9_isPlace, ⟨by decide, by decide, by decide⟩⟩
theorem dk_wm_X9_110 : Cond.methodLink RX9 110 yX9_in ∈ dk_ws := dk_w 1430 (by decide +kernel) (by decide +kernel)
theorem dk_wc_X9_at : Cond.code yX9_at cX9_at 2 (some .int) ∈ dk_ws := dk_w 1446 (by decide +kernel) (by decide +kernel)
theorem dk_wt_X9_at : Cond.static yX9_at ∈ dk_ws := dk_w 1445 (by decide +kernel) (by decide +kernel)
theorem yy_X9_at : dk_YS yX9_at cX9_at 2 (some .int) 2 := ⟨dk_wt_X9_at, dk_wn_RX9, dk_wc_X9_at, ⟨by decide, by decide, by decide⟩⟩
theorem dk_wc_X9_xOf : Cond.code yX9_xOf cX9_xOf 1 (some .int) ∈ dk_ws := dk_w 1533 (by decide +kernel) (by decide +kernel)
theorem dk_wt_X9_xOf : Cond.static yX9_xOf ∈ dk_ws := dk_w 1532 (by decide +kernel) (by decide +kernel)
theorem yy_X9_xOf : dk_YS yX9_xOf cX9_xOf 1 (some .int) 1 := ⟨dk_wt_X9_xOf, dk_wn_RX9, dk_wc_X9_xOf, ⟨by decide, by decide, by decide⟩⟩
theorem dk_wc_X9_yOf : Cond.code yX9_yOf cX9_yOf 1 (some .int) ∈ dk_ws := dk_w 1536 (by decide +kernel) (by decide +kernel)
theorem dk_wt_X9_yOf : Cond.static yX9_yOf ∈ dk_ws := dk_w 1535 (by decide +kernel) (by decide +kernel)
theorem yy_X9_yOf : dk_YS yX9_yOf cX9_yOf 1 (some .int) 1 := ⟨dk_wt_X9_yOf, dk_wn_RX9, dk_wc_X9_yOf, ⟨by decide, by decide, by decide⟩⟩
theorem dk_wc_X9_told : Cond.code yX9_told cX9_told 1 (some .int) ∈ dk_ws := dk_w 1712 (by decide +kernel) (by decide +kernel)
theorem dk_wt_X9_told : Cond.static yX9_told ∈ dk_ws := dk_w 1711 (by decide +kernel) (by decide +kernel)
theorem yy_X9_told : dk_YS yX9_told cX9_told 1 (some .int) 1 := ⟨dk_wt_X9_told, dk_wn_RX9, dk_wc_X9_told, ⟨by decide, by decide, by decide⟩⟩
theorem dk_wm_X9_114 : Cond.methodLink RX9 114 yX9_xOf ∈ dk_ws := dk_w 1531 (by decide +kernel) (by decide +kernel)
theorem dk_wm_X9_118 : Cond.methodLink RX9 118 yX9_yOf ∈ dk_ws := dk_w 1534 (by decide +kernel) (by decide +kernel)
theorem dk_wc_X9_far : Cond.code yX9_far cX9_far 1 (some .int) ∈ dk_ws := dk_w 1539 (by decide +kernel) (by decide +kernel)
theorem dk_wt_X9_far : Cond.static yX9_far ∈ dk_ws := dk_w 1538 (by decide +kernel) (by decide +kernel)
theorem yy_X9_far : dk_YS yX9_far cX9_far 1 (some .int) 1 := ⟨dk_wt_X9_far, dk_wn_RX9, dk_wc_X9_far, ⟨by decide, by decide, by decide⟩⟩
theorem dk_wc_X9_isOn : Cond.code yX9_isOn cX9_isOn 1 (some .boolean) ∈ dk_ws := dk_w 1439 (by decide +kernel) (by decide +kernel)
theorem dk_wt_X9_isOn : Cond.instanceMethod yX9_isOn ∈ dk_ws := dk_w 1438 (by decide +kernel) (by decide +kernel)
theorem dk_ws_X9_isOn : Cond.selects RX9 yX9_isOn yX9_isOn ∈ dk_ws := dk_w 30 (by decide +kernel) (by decide +kernel)
theorem yy_X9_isOn : dk_YV yX9_isOn cX9_isOn 1 (some .boolean) 0 := ⟨dk_wt_X9_isOn, dk_ws_X9_isOn, dk_wn_RX9, dk_wc_X9_isOn, ⟨by decide, by decide, by decide⟩⟩
theorem dk_wf_X9_7 : Cond.fieldLink RX9 7 (TX9 1).1 (TX9 1).2.1 (TX9 1).2.2.1 ∈ dk_ws := dk_w 1307 (by decide +kernel) (by decide +kernel)
theorem dk_wc_X9_beside : Cond.code yX9_beside cX9_beside 4 (some .int) ∈ dk_ws := dk_w 1550 (by decide +kernel) (by decide +kernel)
theorem dk_wt_X9_beside : Cond.static yX9_beside ∈ dk_ws := dk_w 1549 (by decide +kernel) (by decide +kernel)
theorem yy_X9_beside : dk_YS yX9_beside cX9_beside 4 (some .int) 2 := ⟨dk_wt_X9_beside, dk_wn_RX9, dk_wc_X9_beside, ⟨by decide, by decide, by decide⟩⟩
theorem dk_wm_X9_121 : Cond.methodLink RX9 121 yX9_isPlace ∈ dk_ws := dk_w 1427 (by decide +kernel) (by decide +kernel)
theorem dk_wm_X9_125 : Cond.methodLink RX9 125 yX9_at ∈ dk_ws := dk_w 1444 (by decide +kernel) (by decide +kernel)
theorem dk_wc_X9_isFreeKind : Cond.code yX9_isFreeKind cX9_isFreeKind 1 (some .boolean) ∈ dk_ws := dk_w 1495 (by decide +kernel) (by decide +kernel)
theorem dk_wt_X9_isFreeKind : Cond.static yX9_isFreeKind ∈ dk_ws := dk_w 1494 (by decide +kernel) (by decide +kernel)
theorem yy_X9_isFreeKind : dk_YS yX9_isFreeKind cX9_isFreeKind 1 (some .boolean) 1 := ⟨dk_wt_X9_isFreeKind, dk_wn_RX9, dk_wc_X9_isFreeKind, ⟨by decide, by decide, by decide⟩⟩
theorem dk_wc_X9_isFree : Cond.code yX9_isFree cX9_isFree 2 (some .boolean) ∈ dk_ws := dk_w 1527 (by decide +kernel) (by decide +kernel)
theorem dk_wt_X9_isFree : Cond.instanceMethod yX9_isFree ∈ dk_ws := dk_w 1526 (by decide +kernel) (by decide +kernel)
theorem dk_ws_X9_isFree : Cond.selects RX9 yX9_isFree yX9_isFree ∈ dk_ws := dk_w 42 (by decide +kernel) (by decide +kernel)
theorem yy_X9_isFree : dk_YV yX9_isFree cX9_isFree 2 (some .boolean) 1 := ⟨dk_wt_X9_isFree, dk_ws_X9_isFree, dk_wn_RX9, dk_wc_X9_isFree, ⟨by decide, by decide, by decide⟩⟩
theorem dk_wf_X9_62 : Cond.fieldLink RX9 62 (TX9 21).1 (TX9 21).2.1 (TX9 21).2.2.1 ∈ dk_ws := dk_w 1327 (by decide +kernel) (by decide +kernel)
theorem dk_wm_X9_129 : Cond.methodLink RX9 129 yX9_isFreeKind ∈ dk_ws := dk_w 1493 (by decide +kernel) (by decide +kernel)
theorem dk_wc_X9_becomesAsTold : Cond.code yX9_becomesAsTold cX9_becomesAsTold 2 none ∈ dk_ws := dk_w 1305 (by decide +kernel) (by decide +kernel)
theorem dk_wt_X9_becomesAsTold : Cond.instanceMethod yX9_becomesAsTold ∈ dk_ws := dk_w 1304 (by decide +kernel) (by decide +kernel)
theorem dk_ws_X9_becomesAsTold : Cond.selects RX9 yX9_becomesAsTold yX9_becomesAsTold ∈ dk_ws := dk_w 29 (by decide +kernel) (by decide +kernel)
theorem yy_X9_becomesAsTold : dk_YV yX9_becomesAsTold cX9_becomesAsTold 2 none 0 := ⟨dk_wt_X9_becomesAsTold, dk_ws_X9_becomesAsTold, dk_wn_RX9, dk_wc_X9_becomesAsTold, ⟨by decide, by decide, by decide⟩⟩
theorem dk_wf_X9_133 : Cond.fieldLink RX9 133 (TX9 2).1 (TX9 2).2.1 (TX9 2).2.2.1 ∈ dk_ws := dk_w 1308 (by decide +kernel) (by decide +kernel)
theorem dk_wf_X9_136 : Cond.fieldLink RX9 136 (TX9 30).1 (TX9 30).2.1 (TX9 30).2.2.1 ∈ dk_ws := dk_w 1336 (by decide +kernel) (by decide +kernel)
theorem dk_wf_X9_139 : Cond.fieldLink RX9 139 (TX9 31).1 (TX9 31).2.1 (TX9 31).2.2.1 ∈ dk_ws := dk_w 1337 (by decide +kernel) (by decide +kernel)
theorem dk_wf_X9_86 : Cond.fieldLink RX9 86 (TX9 29).1 (TX9 29).2.1 (TX9 29).2.2.1 ∈ dk_ws := dk_w 1335 (by decide +kernel) (by decide +kernel)
theorem dk_wf_X9_83 : Cond.fieldLink RX9 83 (TX9 28).1 (TX9 28).2.1 (TX9 28).2.2.1 ∈ dk_ws := dk_w 1334 (by decide +kernel) (by decide +kernel)
theorem dk_wf_X9_53 : Cond.fieldLink RX9 53 (TX9 17).1 (TX9 17).2.1 (TX9 17).2.2.1 ∈ dk_ws := dk_w 1323 (by decide +kernel) (by decide +kernel)
theorem dk_wf_X9_65 : Cond.fieldLink RX9 65 (TX9 22).1 (TX9 22).2.1 (TX9 22).2.2.1 ∈ dk_ws := dk_w 1328 (by decide +kernel) (by decide +kernel)
theorem dk_wf_X9_38 : Cond.fieldLink RX9 38 (TX9 11).1 (TX9 11).2.1 (TX9 11).2.2.1 ∈ dk_ws := dk_w 1317 (by decide +kernel) (by decide +kernel)
theorem dk_wf_X9_68 : Cond.fieldLink RX9 68 (TX9 23).1 (TX9 23).2.1 (TX9 23).2.2.1 ∈ dk_ws := dk_w 1329 (by decide +kernel) (by decide +kernel)
theorem dk_wf_X9_47 : Cond.fieldLink RX9 47 (TX9 14).1 (TX9 14).2.1 (TX9 14).2.2.1 ∈ dk_ws := dk_w 1320 (by decide +kernel) (by decide +kernel)
theorem dk_wf_X9_71 : Cond.fieldLink RX9 71 (TX9 24).1 (TX9 24).2.1 (TX9 24).2.2.1 ∈ dk_ws := dk_w 1330 (by decide +kernel) (by decide +kernel)
theorem dk_wf_X9_77 : Cond.fieldLink RX9 77 (TX9 26).1 (TX9 26).2.1 (TX9 26).2.2.1 ∈ dk_ws := dk_w 1332 (by decide +kernel) (by decide +kernel)
theorem dk_wf_X9_80 : Cond.fieldLink RX9 80 (TX9 27).1 (TX9 27).2.1 (TX9 27).2.2.1 ∈ dk_ws := dk_w 1333 (by decide +kernel) (by decide +kernel)
theorem dk_wf_X9_13 : Cond.fieldLink RX9 13 (TX9 4).1 (TX9 4).2.1 (TX9 4).2.2.1 ∈ dk_ws := dk_w 1310 (by decide +kernel) (by decide +kernel)
theorem dk_wc_X9_tells : Cond.code yX9_tells cX9_tells 1 none ∈ dk_ws := dk_w 1450 (by decide +kernel) (by decide +kernel)
theorem dk_wt_X9_tells : Cond.instanceMethod yX9_tells ∈ dk_ws := dk_w 1449 (by decide +kernel) (by decide +kernel)
theorem dk_ws_X9_tells : Cond.selects RX9 yX9_tells yX9_tells ∈ dk_ws := dk_w 32 (by decide +kernel) (by decide +kernel)
theorem yy_X9_tells : dk_YV yX9_tells cX9_tells 1 none 0 := ⟨dk_wt_X9_tells, dk_ws_X9_tells, dk_wn_RX9, dk_wc_X9_tells, ⟨by decide, by decide, by decide⟩⟩
theorem dk_wm_X9_104 : Cond.methodLink RX9 104 yX9_becomesAsTold ∈ dk_ws := dk_w 1302 (by decide +kernel) (by decide +kernel)
theorem dk_wc_X9_isCell : Cond.code yX9_isCell cX9_isCell 1 (some .boolean) ∈ dk_ws := dk_w 1435 (by decide +kernel) (by decide +kernel)
theorem dk_wt_X9_isCell : Cond.static yX9_isCell ∈ dk_ws := dk_w 1434 (by decide +kernel) (by decide +kernel)
theorem yy_X9_isCell : dk_YS yX9_isCell cX9_isCell 1 (some .boolean) 1 := ⟨dk_wt_X9_isCell, dk_wn_RX9, dk_wc_X9_isCell, ⟨by decide, by decide, by decide⟩⟩
theorem dk_wc_X9_dig : Cond.code yX9_dig cX9_dig 5 (some .char) ∈ dk_ws := dk_w 1426 (by decide +kernel) (by decide +kernel)
theorem dk_wt_X9_dig : Cond.instanceMethod yX9_dig ∈ dk_ws := dk_w 1424 (by decide +kernel) (by decide +kernel)
theorem dk_ws_X9_dig : Cond.selects RX9 yX9_dig yX9_dig ∈ dk_ws := dk_w 1425 (by decide +kernel) (by decide +kernel)
theorem yy_X9_dig : dk_YV yX9_dig cX9_dig 5 (some .char) 3 := ⟨dk_wt_X9_dig, dk_ws_X9_dig, dk_wn_RX9, dk_wc_X9_dig, ⟨by decide, by decide, by decide⟩⟩
theorem dk_wm_X9_142 : Cond.methodLink RX9 142 yX9_isCell ∈ dk_ws := dk_w 1433 (by decide +kernel) (by decide +kernel)
theorem dk_wm_X9_145 : Cond.methodLink RX9 145 yX9_isOn ∈ dk_ws := dk_w 1436 (by decide +kernel) (by decide +kernel)
theorem dk_wm_X9_149 : Cond.methodLink RX9 149 yX9_goesOn ∈ dk_ws := dk_w 1440 (by decide +kernel) (by decide +kernel)
theorem dk_wm_X9_153 : Cond.methodLink RX9 153 yX9_tells ∈ dk_ws := dk_w 1447 (by decide +kernel) (by decide +kernel)
theorem dk_wc_X9_setKind : Cond.code yX9_setKind cX9_setKind 5 (some .int) ∈ dk_ws := dk_w 1454 (by decide +kernel) (by decide +kernel)
theorem dk_wt_X9_setKind : Cond.instanceMethod yX9_setKind ∈ dk_ws := dk_w 1452 (by decide +kernel) (by decide +kernel)
theorem dk_ws_X9_setKind : Cond.selects RX9 yX9_setKind yX9_setKind ∈ dk_ws := dk_w 1453 (by decide +kernel) (by decide +kernel)
theorem yy_X9_setKind : dk_YV yX9_setKind cX9_setKind 5 (some .int) 3 := ⟨dk_wt_X9_setKind, dk_ws_X9_setKind, dk_wn_RX9, dk_wc_X9_setKind, ⟨by decide, by decide, by decide⟩⟩
theorem dk_wf_X9_17 : Cond.fieldLink RX9 17 (TX9 5).1 (TX9 5).2.1 (TX9 5).2.2.1 ∈ dk_ws := dk_w 1311 (by decide +kernel) (by decide +kernel)
theorem dk_wf_X9_21 : Cond.fieldLink RX9 21 (TX9 6).1 (TX9 6).2.1 (TX9 6).2.2.1 ∈ dk_ws := dk_w 1312 (by decide +kernel) (by decide +kernel)
theorem dk_wc_X9_isEffect : Cond.code yX9_isEffect cX9_isEffect 1 (some .boolean) ∈ dk_ws := dk_w 1464 (by decide +kernel) (by decide +kernel)
theorem dk_wt_X9_isEffect : Cond.static yX9_isEffect ∈ dk_ws := dk_w 1463 (by decide +kernel) (by decide +kernel)
theorem yy_X9_isEffect : dk_YS yX9_isEffect cX9_isEffect 1 (some .boolean) 1 := ⟨dk_wt_X9_isEffect, dk_wn_RX9, dk_wc_X9_isEffect, ⟨by decide, by decide, by decide⟩⟩
theorem dk_wc_X9_isPotion : Cond.code yX9_isPotion cX9_isPotion 1 (some .boolean) ∈ dk_ws := dk_w 1461 (by decide +kernel) (by decide +kernel)
theorem dk_wt_X9_isPotion : Cond.static yX9_isPotion ∈ dk_ws := dk_w 1460 (by decide +kernel) (by decide +kernel)
theorem yy_X9_isPotion : dk_YS yX9_isPotion cX9_isPotion 1 (some .boolean) 1 := ⟨dk_wt_X9_isPotion, dk_wn_RX9, dk_wc_X9_isPotion, ⟨by decide, by decide, by decide⟩⟩
theorem dk_wc_X9_setEffect : Cond.code yX9_setEffect cX9_setEffect 7 (some .char) ∈ dk_ws := dk_w 1458 (by decide +kernel) (by decide +kernel)
theorem dk_wt_X9_setEffect : Cond.instanceMethod yX9_setEffect ∈ dk_ws := dk_w 1456 (by decide +kernel) (by decide +kernel)
theorem dk_ws_X9_setEffect : Cond.selects RX9 yX9_setEffect yX9_setEffect ∈ dk_ws := dk_w 1457 (by decide +kernel) (by decide +kernel)
theorem yy_X9_setEffect : dk_YV yX9_setEffect cX9_setEffect 7 (some .char) 4 := ⟨dk_wt_X9_setEffect, dk_ws_X9_setEffect, dk_wn_RX9, dk_wc_X9_setEffect, ⟨by decide, by decide, by decide⟩⟩
theorem dk_wm_X9_156 : Cond.methodLink RX9 156 yX9_isPotion ∈ dk_ws := dk_w 1459 (by decide +kernel) (by decide +kernel)
theorem dk_wm_X9_159 : Cond.methodLink RX9 159 yX9_isEffect ∈ dk_ws := dk_w 1462 (by decide +kernel) (by decide +kernel)
theorem dk_wf_X9_25 : Cond.fieldLink RX9 25 (TX9 7).1 (TX9 7).2.1 (TX9 7).2.2.1 ∈ dk_ws := dk_w 1313 (by decide +kernel) (by decide +kernel)
theorem dk_wf_X9_28 : Cond.fieldLink RX9 28 (TX9 8).1 (TX9 8).2.1 (TX9 8).2.2.1 ∈ dk_ws := dk_w 1314 (by decide +kernel) (by decide +kernel)
theorem dk_wf_X9_31 : Cond.fieldLink RX9 31 (TX9 9).1 (TX9 9).2.1 (TX9 9).2.2.1 ∈ dk_ws := dk_w 1315 (by decide +kernel) (by decide +kernel)
theorem dk_wc_X9_setHero : Cond.code yX9_setHero cX9_setHero 6 (some .int) ∈ dk_ws := dk_w 1468 (by decide +kernel) (by decide +kernel)
theorem dk_wt_X9_setHero : Cond.instanceMethod yX9_setHero ∈ dk_ws := dk_w 1466 (by decide +kernel) (by decide +kernel)
theorem dk_ws_X9_setHero : Cond.selects RX9 yX9_setHero yX9_setHero ∈ dk_ws := dk_w 1467 (by decide +kernel) (by decide +kernel)
theorem yy_X9_setHero : dk_YV yX9_setHero cX9_setHero 6 (some .int) 4 := ⟨dk_wt_X9_setHero, dk_ws_X9_setHero, dk_wn_RX9, dk_wc_X9_setHero, ⟨by decide, by decide, by decide⟩⟩
theorem dk_wf_X9_41 : Cond.fieldLink RX9 41 (TX9 12).1 (TX9 12).2.1 (TX9 12).2.2.1 ∈ dk_ws := dk_w 1318 (by decide +kernel) (by decide +kernel)
theorem dk_wc_X9_addBeast : Cond.code yX9_addBeast cX9_addBeast 7 (some .int) ∈ dk_ws := dk_w 1472 (by decide +kernel) (by decide +kernel)
theorem dk_wt_X9_addBeast : Cond.instanceMethod yX9_addBeast ∈ dk_ws := dk_w 1470 (by decide +kernel) (by decide +kernel)
theorem dk_ws_X9_addBeast : Cond.selects RX9 yX9_addBeast yX9_addBeast ∈ dk_ws := dk_w 1471 (by decide +kernel) (by decide +kernel)
theorem yy_X9_addBeast : dk_YV yX9_addBeast cX9_addBeast 7 (some .int) 5 := ⟨dk_wt_X9_addBeast, dk_ws_X9_addBeast, dk_wn_RX9, dk_wc_X9_addBeast, ⟨by decide, by decide, by decide⟩⟩
theorem dk_wf_X9_34 : Cond.fieldLink RX9 34 (TX9 10).1 (TX9 10).2.1 (TX9 10).2.2.1 ∈ dk_ws := dk_w 1316 (by decide +kernel) (by decide +kernel)
theorem dk_wf_X9_44 : Cond.fieldLink RX9 44 (TX9 13).1 (TX9 13).2.1 (TX9 13).2.2.1 ∈ dk_ws := dk_w 1319 (by decide +kernel) (by decide +kernel)
theorem dk_wc_X9_isThing : Cond.code yX9_isThing cX9_isThing 2 (some .boolean) ∈ dk_ws := dk_w 1480 (by decide +kernel) (by decide +kernel)
theorem dk_wt_X9_isThing : Cond.instanceMethod yX9_isThing ∈ dk_ws := dk_w 1479 (by decide +kernel) (by decide +kernel)
theorem dk_ws_X9_isThing : Cond.selects RX9 yX9_isThing yX9_isThing ∈ dk_ws := dk_w 33 (by decide +kernel) (by decide +kernel)
theorem yy_X9_isThing : dk_YV yX9_isThing cX9_isThing 2 (some .boolean) 1 := ⟨dk_wt_X9_isThing, dk_ws_X9_isThing, dk_wn_RX9, dk_wc_X9_isThing, ⟨by decide, by decide, by decide⟩⟩
theorem dk_wf_X9_162 : Cond.fieldLink RX9 162 (TX9 15).1 (TX9 15).2.1 (TX9 15).2.2.1 ∈ dk_ws := dk_w 1321 (by decide +kernel) (by decide +kernel)
theorem dk_wc_X9_addThing : Cond.code yX9_addThing cX9_addThing 7 (some .int) ∈ dk_ws := dk_w 1476 (by decide +kernel) (by decide +kernel)
theorem dk_wt_X9_addThing : Cond.instanceMethod yX9_addThing ∈ dk_ws := dk_w 1474 (by decide +kernel) (by decide +kernel)
theorem dk_ws_X9_addThing : Cond.selects RX9 yX9_addThing yX9_addThing ∈ dk_ws := dk_w 1475 (by decide +kernel) (by decide +kernel)
theorem yy_X9_addThing : dk_YV yX9_addThing cX9_addThing 7 (some .int) 4 := ⟨dk_wt_X9_addThing, dk_ws_X9_addThing, dk_wn_RX9, dk_wc_X9_addThing, ⟨by decide, by decide, by decide⟩⟩
theorem dk_wm_X9_165 : Cond.methodLink RX9 165 yX9_isThing ∈ dk_ws := dk_w 1477 (by decide +kernel) (by decide +kernel)
theorem dk_wf_X9_50 : Cond.fieldLink RX9 50 (TX9 16).1 (TX9 16).2.1 (TX9 16).2.2.1 ∈ dk_ws := dk_w 1322 (by decide +kernel) (by decide +kernel)
theorem dk_wc_X9_addLamp : Cond.code yX9_addLamp cX9_addLamp 4 (some .int) ∈ dk_ws := dk_w 1484 (by decide +kernel) (by decide +kernel)
theorem dk_wt_X9_addLamp : Cond.instanceMethod yX9_addLamp ∈ dk_ws := dk_w 1482 (by decide +kernel) (by decide +kernel)
theorem dk_ws_X9_addLamp : Cond.selects RX9 yX9_addLamp yX9_addLamp ∈ dk_ws := dk_w 1483 (by decide +kernel) (by decide +kernel)
theorem yy_X9_addLamp : dk_YV yX9_addLamp cX9_addLamp 4 (some .int) 3 := ⟨dk_wt_X9_addLamp, dk_ws_X9_addLamp, dk_wn_RX9, dk_wc_X9_addLamp, ⟨by decide, by decide, by decide⟩⟩
theorem dk_wf_X9_168 : Cond.fieldLink RX9 168 (TX9 18).1 (TX9 18).2.1 (TX9 18).2.2.1 ∈ dk_ws := dk_w 1324 (by decide +kernel) (by decide +kernel)
theorem dk_wf_X9_56 : Cond.fieldLink RX9 56 (TX9 19).1 (TX9 19).2.1 (TX9 19).2.2.1 ∈ dk_ws := dk_w 1325 (by decide +kernel) (by decide +kernel)
theorem dk_wf_X9_59 : Cond.fieldLink RX9 59 (TX9 20).1 (TX9 20).2.1 (TX9 20).2.2.1 ∈ dk_ws := dk_w 1326 (by decide +kernel) (by decide +kernel)
theorem dk_wc_X9_crosses : Cond.code yX9_crosses cX9_crosses 17 (some .boolean) ∈ dk_ws := dk_w 1530 (by decide +kernel) (by decide +kernel)
theorem dk_wt_X9_crosses : Cond.static yX9_crosses ∈ dk_ws := dk_w 1529 (by decide +kernel) (by decide +kernel)
theorem yy_X9_crosses : dk_YS yX9_crosses cX9_crosses 17 (some .boolean) 3 := ⟨dk_wt_X9_crosses, dk_wn_RX9, dk_wc_X9_crosses, ⟨by decide, by decide, by decide⟩⟩
theorem dk_wm_X9_171 : Cond.methodLink RX9 171 yX9_far ∈ dk_ws := dk_w 1537 (by decide +kernel) (by decide +kernel)
theorem dk_wc_X9_sees : Cond.code yX9_sees cX9_sees 5 (some .boolean) ∈ dk_ws := dk_w 1523 (by decide +kernel) (by decide +kernel)
theorem dk_wt_X9_sees : Cond.instanceMethod yX9_sees ∈ dk_ws := dk_w 1522 (by decide +kernel) (by decide +kernel)
theorem dk_ws_X9_sees : Cond.selects RX9 yX9_sees yX9_sees ∈ dk_ws := dk_w 41 (by decide +kernel) (by decide +kernel)
theorem yy_X9_sees : dk_YV yX9_sees cX9_sees 5 (some .boolean) 2 := ⟨dk_wt_X9_sees, dk_ws_X9_sees, dk_wn_RX9, dk_wc_X9_sees, ⟨by decide, by decide, by decide⟩⟩
theorem dk_wm_X9_174 : Cond.methodLink RX9 174 yX9_isFree ∈ dk_ws := dk_w 1524 (by decide +kernel) (by decide +kernel)
theorem dk_wm_X9_177 : Cond.methodLink RX9 177 yX9_crosses ∈ dk_ws := dk_w 1528 (by decide +kernel) (by decide +kernel)
theorem dk_wc_X9_isLit : Cond.code yX9_isLit cX9_isLit 6 (some .boolean) ∈ dk_ws := dk_w 1705 (by decide +kernel) (by decide +kernel)
theorem dk_wt_X9_isLit : Cond.instanceMethod yX9_isLit ∈ dk_ws := dk_w 1704 (by decide +kernel) (by decide +kernel)
theorem dk_ws_X9_isLit : Cond.selects RX9 yX9_isLit yX9_isLit ∈ dk_ws := dk_w 66 (by decide +kernel) (by decide +kernel)
theorem yy_X9_isLit : dk_YV yX9_isLit cX9_isLit 6 (some .boolean) 1 := ⟨dk_wt_X9_isLit, dk_ws_X9_isLit, dk_wn_RX9, dk_wc_X9_isLit, ⟨by decide, by decide, by decide⟩⟩
theorem dk_wm_X9_180 : Cond.methodLink RX9 180 yX9_sees ∈ dk_ws := dk_w 1520 (by decide +kernel) (by decide +kernel)
theorem dk_wc_X9_around : Cond.code yX9_around cX9_around 4 (some .int) ∈ dk_ws := dk_w 1661 (by decide +kernel) (by decide +kernel)
theorem dk_wt_X9_around : Cond.static yX9_around ∈ dk_ws := dk_w 1660 (by decide +kernel) (by decide +kernel)
theorem yy_X9_around : dk_YS yX9_around cX9_around 4 (some .int) 2 := ⟨dk_wt_X9_around, dk_wn_RX9, dk_wc_X9_around, ⟨by decide, by decide, by decide⟩⟩
theorem dk_wc_X9_heroSeesCell : Cond.code yX9_heroSeesCell cX9_heroSeesCell 2 (some .boolean) ∈ dk_ws := dk_w 1701 (by decide +kernel) (by decide +kernel)
theorem dk_wt_X9_heroSeesCell : Cond.instanceMethod yX9_heroSeesCell ∈ dk_ws := dk_w 1700 (by decide +kernel) (by decide +kernel)
theorem dk_ws_X9_heroSeesCell : Cond.selects RX9 yX9_heroSeesCell yX9_heroSeesCell ∈ dk_ws := dk_w 65 (by decide +kernel) (by decide +kernel)
theorem yy_X9_heroSeesCell : dk_YV yX9_heroSeesCell cX9_heroSeesCell 2 (some .boolean) 1 := ⟨dk_wt_X9_heroSeesCell, dk_ws_X9_heroSeesCell, dk_wn_RX9, dk_wc_X9_heroSeesCell, ⟨by decide, by decide, by decide⟩⟩
theorem dk_wm_X9_183 : Cond.methodLink RX9 183 yX9_around ∈ dk_ws := dk_w 1659 (by decide +kernel) (by decide +kernel)
theorem dk_wm_X9_186 : Cond.methodLink RX9 186 yX9_isLit ∈ dk_ws := dk_w 1702 (by decide +kernel) (by decide +kernel)
theorem dk_wc_X9_isDoor : Cond.code yX9_isDoor cX9_isDoor 1 (some .boolean) ∈ dk_ws := dk_w 1547 (by decide +kernel) (by decide +kernel)
theorem dk_wt_X9_isDoor : Cond.static yX9_isDoor ∈ dk_ws := dk_w 1546 (by decide +kernel) (by decide +kernel)
theorem yy_X9_isDoor : dk_YS yX9_isDoor cX9_isDoor 1 (some .boolean) 1 := ⟨dk_wt_X9_isDoor, dk_wn_RX9, dk_wc_X9_isDoor, ⟨by decide, by decide, by decide⟩⟩
theorem dk_wc_X9_findsSteps : Cond.code yX9_findsSteps cX9_findsSteps 10 none ∈ dk_ws := dk_w 1544 (by decide +kernel) (by decide +kernel)
theorem dk_wt_X9_findsSteps : Cond.instanceMethod yX9_findsSteps ∈ dk_ws := dk_w 1543 (by decide +kernel) (by decide +kernel)
theorem dk_ws_X9_findsSteps : Cond.selects RX9 yX9_findsSteps yX9_findsSteps ∈ dk_ws := dk_w 43 (by decide +kernel) (by decide +kernel)
theorem yy_X9_findsSteps : dk_YV yX9_findsSteps cX9_findsSteps 10 none 3 := ⟨dk_wt_X9_findsSteps, dk_ws_X9_findsSteps, dk_wn_RX9, dk_wc_X9_findsSteps, ⟨by decide, by decide, by decide⟩⟩
theorem dk_wf_X9_98 : Cond.fieldLink RX9 98 (TX9 35).1 (TX9 35).2.1 (TX9 35).2.2.1 ∈ dk_ws := dk_w 1341 (by decide +kernel) (by decide +kernel)
theorem dk_wk_X9_189 : Cond.constant RX9 189 100000 ∈ dk_ws := dk_w 1540 (by decide +kernel) (by decide +kernel)
theorem dk_wm_X9_190 : Cond.methodLink RX9 190 yX9_isDoor ∈ dk_ws := dk_w 1545 (by decide +kernel) (by decide +kernel)
theorem dk_wm_X9_193 : Cond.methodLink RX9 193 yX9_beside ∈ dk_ws := dk_w 1548 (by decide +kernel) (by decide +kernel)
theorem dk_wc_X9_lives : Cond.code yX9_lives cX9_lives 2 (some .boolean) ∈ dk_ws := dk_w 1507 (by decide +kernel) (by decide +kernel)
theorem dk_wt_X9_lives : Cond.instanceMethod yX9_lives ∈ dk_ws := dk_w 1506 (by decide +kernel) (by decide +kernel)
theorem dk_ws_X9_lives : Cond.selects RX9 yX9_lives yX9_lives ∈ dk_ws := dk_w 37 (by decide +kernel) (by decide +kernel)
theorem yy_X9_lives : dk_YV yX9_lives cX9_lives 2 (some .boolean) 1 := ⟨dk_wt_X9_lives, dk_ws_X9_lives, dk_wn_RX9, dk_wc_X9_lives, ⟨by decide, by decide, by decide⟩⟩
theorem dk_wc_X9_sounds : Cond.code yX9_sounds cX9_sounds 5 (some .int) ∈ dk_ws := dk_w 1558 (by decide +kernel) (by decide +kernel)
theorem dk_wt_X9_sounds : Cond.instanceMethod yX9_sounds ∈ dk_ws := dk_w 1557 (by decide +kernel) (by decide +kernel)
theorem dk_ws_X9_sounds : Cond.selects RX9 yX9_sounds yX9_sounds ∈ dk_ws := dk_w 45 (by decide +kernel) (by decide +kernel)
theorem yy_X9_sounds : dk_YV yX9_sounds cX9_sounds 5 (some .int) 2 := ⟨dk_wt_X9_sounds, dk_ws_X9_sounds, dk_wn_RX9, dk_wc_X9_sounds, ⟨by decide, by decide, by decide⟩⟩
theorem dk_wm_X9_196 : Cond.methodLink RX9 196 yX9_findsSteps ∈ dk_ws := dk_w 1541 (by decide +kernel) (by decide +kernel)
theorem dk_wm_X9_200 : Cond.methodLink RX9 200 yX9_lives ∈ dk_ws := dk_w 1504 (by decide +kernel) (by decide +kernel)
theorem dk_wc_X9_isBag : Cond.code yX9_isBag cX9_isBag 2 (some .boolean) ∈ dk_ws := dk_w 1646 (by decide +kernel) (by decide +kernel)
theorem dk_wt_X9_isBag : Cond.instanceMethod yX9_isBag ∈ dk_ws := dk_w 1645 (by decide +kernel) (by decide +kernel)
theorem dk_ws_X9_isBag : Cond.selects RX9 yX9_isBag yX9_isBag ∈ dk_ws := dk_w 61 (by decide +kernel) (by decide +kernel)
theorem yy_X9_isBag : dk_YV yX9_isBag cX9_isBag 2 (some .boolean) 1 := ⟨dk_wt_X9_isBag, dk_ws_X9_isBag, dk_wn_RX9, dk_wc_X9_isBag, ⟨by decide, by decide, by decide⟩⟩
theorem dk_wc_X9_isWithin : Cond.code yX9_isWithin cX9_isWithin 4 (some .boolean) ∈ dk_ws := dk_w 1630 (by decide +kernel) (by decide +kernel)
theorem dk_wt_X9_isWithin : Cond.instanceMethod yX9_isWithin ∈ dk_ws := dk_w 1629 (by decide +kernel) (by decide +kernel)
theorem dk_ws_X9_isWithin : Cond.selects RX9 yX9_isWithin yX9_isWithin ∈ dk_ws := dk_w 59 (by decide +kernel) (by decide +kernel)
theorem yy_X9_isWithin : dk_YV yX9_isWithin cX9_isWithin 4 (some .boolean) 2 := ⟨dk_wt_X9_isWithin, dk_ws_X9_isWithin, dk_wn_RX9, dk_wc_X9_isWithin, ⟨by decide, by decide, by decide⟩⟩
theorem dk_wc_X9_outermost : Cond.code yX9_outermost cX9_outermost 3 (some .int) ∈ dk_ws := dk_w 1582 (by decide +kernel) (by decide +kernel)
theorem dk_wt_X9_outermost : Cond.instanceMethod yX9_outermost ∈ dk_ws := dk_w 1581 (by decide +kernel) (by decide +kernel)
theorem dk_ws_X9_outermost : Cond.selects RX9 yX9_outermost yX9_outermost ∈ dk_ws := dk_w 51 (by decide +kernel) (by decide +kernel)
theorem yy_X9_outermost : dk_YV yX9_outermost cX9_outermost 3 (some .int) 1 := ⟨dk_wt_X9_outermost, dk_ws_X9_outermost, dk_wn_RX9, dk_wc_X9_outermost, ⟨by decide, by decide, by decide⟩⟩
theorem dk_wc_X9_wholeWeight : Cond.code yX9_wholeWeight cX9_wholeWeight 4 (some .int) ∈ dk_ws := dk_w 1626 (by decide +kernel) (by decide +kernel)
theorem dk_wt_X9_wholeWeight : Cond.instanceMethod yX9_wholeWeight ∈ dk_ws := dk_w 1625 (by decide +kernel) (by decide +kernel)
theorem dk_ws_X9_wholeWeight : Cond.selects RX9 yX9_wholeWeight yX9_wholeWeight ∈ dk_ws := dk_w 58 (by decide +kernel) (by decide +kernel)
theorem yy_X9_wholeWeight : dk_YV yX9_wholeWeight cX9_wholeWeight 4 (some .int) 1 := ⟨dk_wt_X9_wholeWeight, dk_ws_X9_wholeWeight, dk_wn_RX9, dk_wc_X9_wholeWeight, ⟨by decide, by decide, by decide⟩⟩
theorem dk_wm_X9_203 : Cond.methodLink RX9 203 yX9_isWithin ∈ dk_ws := dk_w 1627 (by decide +kernel) (by decide +kernel)
theorem dk_wc_X9_carriedWeight : Cond.code yX9_carriedWeight cX9_carriedWeight 3 (some .int) ∈ dk_ws := dk_w 1622 (by decide +kernel) (by decide +kernel)
theorem dk_wt_X9_carriedWeight : Cond.instanceMethod yX9_carriedWeight ∈ dk_ws := dk_w 1621 (by decide +kernel) (by decide +kernel)
theorem dk_ws_X9_carriedWeight : Cond.selects RX9 yX9_carriedWeight yX9_carriedWeight ∈ dk_ws := dk_w 57 (by decide +kernel) (by decide +kernel)
theorem yy_X9_carriedWeight : dk_YV yX9_carriedWeight cX9_carriedWeight 3 (some .int) 0 := ⟨dk_wt_X9_carriedWeight, dk_ws_X9_carriedWeight, dk_wn_RX9, dk_wc_X9_carriedWeight, ⟨by decide, by decide, by decide⟩⟩
theorem dk_wm_X9_206 : Cond.methodLink RX9 206 yX9_outermost ∈ dk_ws := dk_w 1579 (by decide +kernel) (by decide +kernel)
theorem dk_wc_X9_carries : Cond.code yX9_carries cX9_carries 4 (some .boolean) ∈ dk_ws := dk_w 1594 (by decide +kernel) (by decide +kernel)
theorem dk_wt_X9_carries : Cond.instanceMethod yX9_carries ∈ dk_ws := dk_w 1593 (by decide +kernel) (by decide +kernel)
theorem dk_ws_X9_carries : Cond.selects RX9 yX9_carries yX9_carries ∈ dk_ws := dk_w 52 (by decide +kernel) (by decide +kernel)
theorem yy_X9_carries : dk_YV yX9_carries cX9_carries 4 (some .boolean) 1 := ⟨dk_wt_X9_carries, dk_ws_X9_carries, dk_wn_RX9, dk_wc_X9_carries, ⟨by decide, by decide, by decide⟩⟩
theorem dk_wc_X9_carriesAnywhere : Cond.code yX9_carriesAnywhere cX9_carriesAnywhere 4 (some .boolean) ∈ dk_ws := dk_w 1606 (by decide +kernel) (by decide +kernel)
theorem dk_wt_X9_carriesAnywhere : Cond.instanceMethod yX9_carriesAnywhere ∈ dk_ws := dk_w 1605 (by decide +kernel) (by decide +kernel)
theorem dk_ws_X9_carriesAnywhere : Cond.selects RX9 yX9_carriesAnywhere yX9_carriesAnywhere ∈ dk_ws := dk_w 55 (by decide +kernel) (by decide +kernel)
theorem yy_X9_carriesAnywhere : dk_YV yX9_carriesAnywhere cX9_carriesAnywhere 4 (some .boolean) 1 := ⟨dk_wt_X9_carriesAnywhere, dk_ws_X9_carriesAnywhere, dk_wn_RX9, dk_wc_X9_carriesAnywhere, ⟨by decide, by decide, by decide⟩⟩
theorem dk_wc_X9_speedOf : Cond.code yX9_speedOf cX9_speedOf 2 (some .int) ∈ dk_ws := dk_w 1515 (by decide +kernel) (by decide +kernel)
theorem dk_wt_X9_speedOf : Cond.instanceMethod yX9_speedOf ∈ dk_ws := dk_w 1514 (by decide +kernel) (by decide +kernel)
theorem dk_ws_X9_speedOf : Cond.selects RX9 yX9_speedOf yX9_speedOf ∈ dk_ws := dk_w 39 (by decide +kernel) (by decide +kernel)
theorem yy_X9_speedOf : dk_YV yX9_speedOf cX9_speedOf 2 (some .int) 1 := ⟨dk_wt_X9_speedOf, dk_ws_X9_speedOf, dk_wn_RX9, dk_wc_X9_speedOf, ⟨by decide, by decide, by decide⟩⟩
theorem dk_wf_X9_74 : Cond.fieldLink RX9 74 (TX9 25).1 (TX9 25).2.1 (TX9 25).2.2.1 ∈ dk_ws := dk_w 1331 (by decide +kernel) (by decide +kernel)
theorem dk_wc_X9_isWorldOver : Cond.code yX9_isWorldOver cX9_isWorldOver 2 (some .boolean) ∈ dk_ws := dk_w 1578 (by decide +kernel) (by decide +kernel)
theorem dk_wt_X9_isWorldOver : Cond.instanceMethod yX9_isWorldOver ∈ dk_ws := dk_w 1577 (by decide +kernel) (by decide +kernel)
theorem dk_ws_X9_isWorldOver : Cond.selects RX9 yX9_isWorldOver yX9_isWorldOver ∈ dk_ws := dk_w 50 (by decide +kernel) (by decide +kernel)
theorem yy_X9_isWorldOver : dk_YV yX9_isWorldOver cX9_isWorldOver 2 (some .boolean) 0 := ⟨dk_wt_X9_isWorldOver, dk_ws_X9_isWorldOver, dk_wn_RX9, dk_wc_X9_isWorldOver, ⟨by decide, by decide, by decide⟩⟩
theorem dk_wf_X9_89 : Cond.fieldLink RX9 89 (TX9 32).1 (TX9 32).2.1 (TX9 32).2.2.1 ∈ dk_ws := dk_w 1338 (by decide +kernel) (by decide +kernel)
theorem dk_wf_X9_92 : Cond.fieldLink RX9 92 (TX9 33).1 (TX9 33).2.1 (TX9 33).2.2.1 ∈ dk_ws := dk_w 1339 (by decide +kernel) (by decide +kernel)
theorem dk_wf_X9_95 : Cond.fieldLink RX9 95 (TX9 34).1 (TX9 34).2.1 (TX9 34).2.2.1 ∈ dk_ws := dk_w 1340 (by decide +kernel) (by decide +kernel)
theorem dk_wc_X9_nextTurn : Cond.code yX9_nextTurn cX9_nextTurn 4 (some .int) ∈ dk_ws := dk_w 1503 (by decide +kernel) (by decide +kernel)
theorem dk_wt_X9_nextTurn : Cond.instanceMethod yX9_nextTurn ∈ dk_ws := dk_w 1502 (by decide +kernel) (by decide +kernel)
theorem dk_ws_X9_nextTurn : Cond.selects RX9 yX9_nextTurn yX9_nextTurn ∈ dk_ws := dk_w 36 (by decide +kernel) (by decide +kernel)
theorem yy_X9_nextTurn : dk_YV yX9_nextTurn cX9_nextTurn 4 (some .int) 0 := ⟨dk_wt_X9_nextTurn, dk_ws_X9_nextTurn, dk_wn_RX9, dk_wc_X9_nextTurn, ⟨by decide, by decide, by decide⟩⟩
theorem dk_wc_X9_ticks : Cond.code yX9_ticks cX9_ticks 2 none ∈ dk_ws := dk_w 1511 (by decide +kernel) (by decide +kernel)
theorem dk_wt_X9_ticks : Cond.instanceMethod yX9_ticks ∈ dk_ws := dk_w 1510 (by decide +kernel) (by decide +kernel)
theorem dk_ws_X9_ticks : Cond.selects RX9 yX9_ticks yX9_ticks ∈ dk_ws := dk_w 38 (by decide +kernel) (by decide +kernel)
theorem yy_X9_ticks : dk_YV yX9_ticks cX9_ticks 2 none 0 := ⟨dk_wt_X9_ticks, dk_ws_X9_ticks, dk_wn_RX9, dk_wc_X9_ticks, ⟨by decide, by decide, by decide⟩⟩
theorem dk_wm_X9_209 : Cond.methodLink RX9 209 yX9_speedOf ∈ dk_ws := dk_w 1512 (by decide +kernel) (by decide +kernel)
theorem dk_wc_X9_isBeside : Cond.code yX9_isBeside cX9_isBeside 3 (some .boolean) ∈ dk_ws := dk_w 1554 (by decide +kernel) (by decide +kernel)
theorem dk_wt_X9_isBeside : Cond.instanceMethod yX9_isBeside ∈ dk_ws := dk_w 1553 (by decide +kernel) (by decide +kernel)
theorem dk_ws_X9_isBeside : Cond.selects RX9 yX9_isBeside yX9_isBeside ∈ dk_ws := dk_w 44 (by decide +kernel) (by decide +kernel)
theorem yy_X9_isBeside : dk_YV yX9_isBeside cX9_isBeside 3 (some .boolean) 2 := ⟨dk_wt_X9_isBeside, dk_ws_X9_isBeside, dk_wn_RX9, dk_wc_X9_isBeside, ⟨by decide, by decide, by decide⟩⟩
theorem dk_wc_X9_livingAt : Cond.code yX9_livingAt cX9_livingAt 4 (some .int) ∈ dk_ws := dk_w 1570 (by decide +kernel) (by decide +kernel)
theorem dk_wt_X9_livingAt : Cond.instanceMethod yX9_livingAt ∈ dk_ws := dk_w 1569 (by decide +kernel) (by decide +kernel)
theorem dk_ws_X9_livingAt : Cond.selects RX9 yX9_livingAt yX9_livingAt ∈ dk_ws := dk_w 48 (by decide +kernel) (by decide +kernel)
theorem yy_X9_livingAt : dk_YV yX9_livingAt cX9_livingAt 4 (some .int) 1 := ⟨dk_wt_X9_livingAt, dk_ws_X9_livingAt, dk_wn_RX9, dk_wc_X9_livingAt, ⟨by decide, by decide, by decide⟩⟩
theorem dk_wc_X9_isOpenFor : Cond.code yX9_isOpenFor cX9_isOpenFor 2 (some .boolean) ∈ dk_ws := dk_w 1566 (by decide +kernel) (by decide +kernel)
theorem dk_wt_X9_isOpenFor : Cond.instanceMethod yX9_isOpenFor ∈ dk_ws := dk_w 1565 (by decide +kernel) (by decide +kernel)
theorem dk_ws_X9_isOpenFor : Cond.selects RX9 yX9_isOpenFor yX9_isOpenFor ∈ dk_ws := dk_w 47 (by decide +kernel) (by decide +kernel)
theorem yy_X9_isOpenFor : dk_YV yX9_isOpenFor cX9_isOpenFor 2 (some .boolean) 1 := ⟨dk_wt_X9_isOpenFor, dk_ws_X9_isOpenFor, dk_wn_RX9, dk_wc_X9_isOpenFor, ⟨by decide, by decide, by decide⟩⟩
theorem dk_wm_X9_229 : Cond.methodLink RX9 229 yX9_livingAt ∈ dk_ws := dk_w 1567 (by decide +kernel) (by decide +kernel)
theorem dk_wc_X9_chosen : Cond.code yX9_chosen cX9_chosen 8 (some .int) ∈ dk_ws := dk_w 1562 (by decide +kernel) (by decide +kernel)
theorem dk_wt_X9_chosen : Cond.instanceMethod yX9_chosen ∈ dk_ws := dk_w 1561 (by decide +kernel) (by decide +kernel)
theorem dk_ws_X9_chosen : Cond.selects RX9 yX9_chosen yX9_chosen ∈ dk_ws := dk_w 46 (by decide +kernel) (by decide +kernel)
theorem yy_X9_chosen : dk_YV yX9_chosen cX9_chosen 8 (some .int) 2 := ⟨dk_wt_X9_chosen, dk_ws_X9_chosen, dk_wn_RX9, dk_wc_X9_chosen, ⟨by decide, by decide, by decide⟩⟩
theorem dk_wm_X9_232 : Cond.methodLink RX9 232 yX9_isOpenFor ∈ dk_ws := dk_w 1563 (by decide +kernel) (by decide +kernel)
theorem dk_wc_X9_goes : Cond.code yX9_goes cX9_goes 3 none ∈ dk_ws := dk_w 1574 (by decide +kernel) (by decide +kernel)
theorem dk_wt_X9_goes : Cond.instanceMethod yX9_goes ∈ dk_ws := dk_w 1573 (by decide +kernel) (by decide +kernel)
theorem dk_ws_X9_goes : Cond.selects RX9 yX9_goes yX9_goes ∈ dk_ws := dk_w 49 (by decide +kernel) (by decide +kernel)
theorem yy_X9_goes : dk_YV yX9_goes cX9_goes 3 none 2 := ⟨dk_wt_X9_goes, dk_ws_X9_goes, dk_wn_RX9, dk_wc_X9_goes, ⟨by decide, by decide, by decide⟩⟩
theorem dk_wc_X9_beastTurns : Cond.code yX9_beastTurns cX9_beastTurns 4 none ∈ dk_ws := dk_w 1519 (by decide +kernel) (by decide +kernel)
theorem dk_wt_X9_beastTurns : Cond.instanceMethod yX9_beastTurns ∈ dk_ws := dk_w 1518 (by decide +kernel) (by decide +kernel)
theorem dk_ws_X9_beastTurns : Cond.selects RX9 yX9_beastTurns yX9_beastTurns ∈ dk_ws := dk_w 40 (by decide +kernel) (by decide +kernel)
theorem yy_X9_beastTurns : dk_YV yX9_beastTurns cX9_beastTurns 4 none 1 := ⟨dk_wt_X9_beastTurns, dk_ws_X9_beastTurns, dk_wn_RX9, dk_wc_X9_beastTurns, ⟨by decide, by decide, by decide⟩⟩
theorem dk_wm_X9_241 : Cond.methodLink RX9 241 yX9_chosen ∈ dk_ws := dk_w 1559 (by decide +kernel) (by decide +kernel)
theorem dk_wm_X9_245 : Cond.methodLink RX9 245 yX9_goes ∈ dk_ws := dk_w 1571 (by decide +kernel) (by decide +kernel)
theorem dk_wm_X9_235 : Cond.methodLink RX9 235 yX9_isBeside ∈ dk_ws := dk_w 1551 (by decide +kernel) (by decide +kernel)
theorem dk_wm_X9_238 : Cond.methodLink RX9 238 yX9_sounds ∈ dk_ws := dk_w 1555 (by decide +kernel) (by decide +kernel)
theorem dk_wc_X9_goesToHero : Cond.code yX9_goesToHero cX9_goesToHero 3 none ∈ dk_ws := dk_w 1499 (by decide +kernel) (by decide +kernel)
theorem dk_wt_X9_goesToHero : Cond.instanceMethod yX9_goesToHero ∈ dk_ws := dk_w 1498 (by decide +kernel) (by decide +kernel)
theorem dk_ws_X9_goesToHero : Cond.selects RX9 yX9_goesToHero yX9_goesToHero ∈ dk_ws := dk_w 35 (by decide +kernel) (by decide +kernel)
theorem yy_X9_goesToHero : dk_YV yX9_goesToHero cX9_goesToHero 3 none 0 := ⟨dk_wt_X9_goesToHero, dk_ws_X9_goesToHero, dk_wn_RX9, dk_wc_X9_goesToHero, ⟨by decide, by decide, by decide⟩⟩
theorem dk_wm_X9_212 : Cond.methodLink RX9 212 yX9_nextTurn ∈ dk_ws := dk_w 1500 (by decide +kernel) (by decide +kernel)
theorem dk_wm_X9_219 : Cond.methodLink RX9 219 yX9_beastTurns ∈ dk_ws := dk_w 1516 (by decide +kernel) (by decide +kernel)
theorem dk_wm_X9_223 : Cond.methodLink RX9 223 yX9_isWorldOver ∈ dk_ws := dk_w 1575 (by decide +kernel) (by decide +kernel)
theorem dk_wm_X9_216 : Cond.methodLink RX9 216 yX9_ticks ∈ dk_ws := dk_w 1508 (by decide +kernel) (by decide +kernel)
theorem dk_wc_X9_ends : Cond.code yX9_ends cX9_ends 1 none ∈ dk_ws := dk_w 1610 (by decide +kernel) (by decide +kernel)
theorem dk_wt_X9_ends : Cond.instanceMethod yX9_ends ∈ dk_ws := dk_w 1609 (by decide +kernel) (by decide +kernel)
theorem dk_ws_X9_ends : Cond.selects RX9 yX9_ends yX9_ends ∈ dk_ws := dk_w 56 (by decide +kernel) (by decide +kernel)
theorem yy_X9_ends : dk_YV yX9_ends cX9_ends 1 none 0 := ⟨dk_wt_X9_ends, dk_ws_X9_ends, dk_wn_RX9, dk_wc_X9_ends, ⟨by decide, by decide, by decide⟩⟩
theorem dk_wm_X9_226 : Cond.methodLink RX9 226 yX9_goesToHero ∈ dk_ws := dk_w 1496 (by decide +kernel) (by decide +kernel)
theorem dk_wc_X9_isSetWell : Cond.code yX9_isSetWell cX9_isSetWell 4 (some .boolean) ∈ dk_ws := dk_w 1492 (by decide +kernel) (by decide +kernel)
theorem dk_wt_X9_isSetWell : Cond.instanceMethod yX9_isSetWell ∈ dk_ws := dk_w 1491 (by decide +kernel) (by decide +kernel)
theorem dk_ws_X9_isSetWell : Cond.selects RX9 yX9_isSetWell yX9_isSetWell ∈ dk_ws := dk_w 34 (by decide +kernel) (by decide +kernel)
theorem yy_X9_isSetWell : dk_YV yX9_isSetWell cX9_isSetWell 4 (some .boolean) 0 := ⟨dk_wt_X9_isSetWell, dk_ws_X9_isSetWell, dk_wn_RX9, dk_wc_X9_isSetWell, ⟨by decide, by decide, by decide⟩⟩
theorem dk_wc_X9_begin : Cond.code yX9_begin cX9_begin 4 (some .int) ∈ dk_ws := dk_w 1488 (by decide +kernel) (by decide +kernel)
theorem dk_wt_X9_begin : Cond.instanceMethod yX9_begin ∈ dk_ws := dk_w 1486 (by decide +kernel) (by decide +kernel)
theorem dk_ws_X9_begin : Cond.selects RX9 yX9_begin yX9_begin ∈ dk_ws := dk_w 1487 (by decide +kernel) (by decide +kernel)
theorem yy_X9_begin : dk_YV yX9_begin cX9_begin 4 (some .int) 1 := ⟨dk_wt_X9_begin, dk_ws_X9_begin, dk_wn_RX9, dk_wc_X9_begin, ⟨by decide, by decide, by decide⟩⟩
theorem dk_wm_X9_249 : Cond.methodLink RX9 249 yX9_isSetWell ∈ dk_ws := dk_w 1489 (by decide +kernel) (by decide +kernel)
theorem dk_wf_X9_252 : Cond.fieldLink RX9 252 (TX9 3).1 (TX9 3).2.1 (TX9 3).2.2.1 ∈ dk_ws := dk_w 1309 (by decide +kernel) (by decide +kernel)
theorem dk_wc_X9_leave : Cond.code yX9_leave cX9_leave 1 (some .int) ∈ dk_ws := dk_w 1586 (by decide +kernel) (by decide +kernel)
theorem dk_wt_X9_leave : Cond.instanceMethod yX9_leave ∈ dk_ws := dk_w 1584 (by decide +kernel) (by decide +kernel)
theorem dk_ws_X9_leave : Cond.selects RX9 yX9_leave yX9_leave ∈ dk_ws := dk_w 1585 (by decide +kernel) (by decide +kernel)
theorem yy_X9_leave : dk_YV yX9_leave cX9_leave 1 (some .int) 0 := ⟨dk_wt_X9_leave, dk_ws_X9_leave, dk_wn_RX9, dk_wc_X9_leave, ⟨by decide, by decide, by decide⟩⟩
theorem dk_wc_X9_strikes : Cond.code yX9_strikes cX9_strikes 5 none ∈ dk_ws := dk_w 1598 (by decide +kernel) (by decide +kernel)
theorem dk_wt_X9_strikes : Cond.instanceMethod yX9_strikes ∈ dk_ws := dk_w 1597 (by decide +kernel) (by decide +kernel)
theorem dk_ws_X9_strikes : Cond.selects RX9 yX9_strikes yX9_strikes ∈ dk_ws := dk_w 53 (by decide +kernel) (by decide +kernel)
theorem yy_X9_strikes : dk_YV yX9_strikes cX9_strikes 5 none 2 := ⟨dk_wt_X9_strikes, dk_ws_X9_strikes, dk_wn_RX9, dk_wc_X9_strikes, ⟨by decide, by decide, by decide⟩⟩
theorem dk_wc_X9_works : Cond.code yX9_works cX9_works 4 none ∈ dk_ws := dk_w 1654 (by decide +kernel) (by decide +kernel)
theorem dk_wt_X9_works : Cond.instanceMethod yX9_works ∈ dk_ws := dk_w 1653 (by decide +kernel) (by decide +kernel)
theorem dk_ws_X9_works : Cond.selects RX9 yX9_works yX9_works ∈ dk_ws := dk_w 62 (by decide +kernel) (by decide +kernel)
theorem yy_X9_works : dk_YV yX9_works cX9_works 4 none 2 := ⟨dk_wt_X9_works, dk_ws_X9_works, dk_wn_RX9, dk_wc_X9_works, ⟨by decide, by decide, by decide⟩⟩
theorem dk_wc_X9_burns : Cond.code yX9_burns cX9_burns 6 none ∈ dk_ws := dk_w 1658 (by decide +kernel) (by decide +kernel)
theorem dk_wt_X9_burns : Cond.instanceMethod yX9_burns ∈ dk_ws := dk_w 1657 (by decide +kernel) (by decide +kernel)
theorem dk_ws_X9_burns : Cond.selects RX9 yX9_burns yX9_burns ∈ dk_ws := dk_w 63 (by decide +kernel) (by decide +kernel)
theorem yy_X9_burns : dk_YV yX9_burns cX9_burns 6 none 2 := ⟨dk_wt_X9_burns, dk_ws_X9_burns, dk_wn_RX9, dk_wc_X9_burns, ⟨by decide, by decide, by decide⟩⟩
theorem dk_wc_X9_breaks : Cond.code yX9_breaks cX9_breaks 5 none ∈ dk_ws := dk_w 1669 (by decide +kernel) (by decide +kernel)
theorem dk_wt_X9_breaks : Cond.instanceMethod yX9_breaks ∈ dk_ws := dk_w 1668 (by decide +kernel) (by decide +kernel)
theorem dk_ws_X9_breaks : Cond.selects RX9 yX9_breaks yX9_breaks ∈ dk_ws := dk_w 64 (by decide +kernel) (by decide +kernel)
theorem yy_X9_breaks : dk_YV yX9_breaks cX9_breaks 5 none 2 := ⟨dk_wt_X9_breaks, dk_ws_X9_breaks, dk_wn_RX9, dk_wc_X9_breaks, ⟨by decide, by decide, by decide⟩⟩
theorem dk_wm_X9_258 : Cond.methodLink RX9 258 yX9_burns ∈ dk_ws := dk_w 1655 (by decide +kernel) (by decide +kernel)
theorem dk_wm_X9_255 : Cond.methodLink RX9 255 yX9_works ∈ dk_ws := dk_w 1651 (by decide +kernel) (by decide +kernel)
theorem dk_wc_X9_hasKeyFor : Cond.code yX9_hasKeyFor cX9_hasKeyFor 2 (some .boolean) ∈ dk_ws := dk_w 1602 (by decide +kernel) (by decide +kernel)
theorem dk_wt_X9_hasKeyFor : Cond.instanceMethod yX9_hasKeyFor ∈ dk_ws := dk_w 1601 (by decide +kernel) (by decide +kernel)
theorem dk_ws_X9_hasKeyFor : Cond.selects RX9 yX9_hasKeyFor yX9_hasKeyFor ∈ dk_ws := dk_w 54 (by decide +kernel) (by decide +kernel)
theorem yy_X9_hasKeyFor : dk_YV yX9_hasKeyFor cX9_hasKeyFor 2 (some .boolean) 1 := ⟨dk_wt_X9_hasKeyFor, dk_ws_X9_hasKeyFor, dk_wn_RX9, dk_wc_X9_hasKeyFor, ⟨by decide, by decide, by decide⟩⟩
theorem dk_wm_X9_261 : Cond.methodLink RX9 261 yX9_carriesAnywhere ∈ dk_ws := dk_w 1603 (by decide +kernel) (by decide +kernel)
theorem dk_wc_X9_go : Cond.code yX9_go cX9_go 5 (some .char) ∈ dk_ws := dk_w 1590 (by decide +kernel) (by decide +kernel)
theorem dk_wt_X9_go : Cond.instanceMethod yX9_go ∈ dk_ws := dk_w 1588 (by decide +kernel) (by decide +kernel)
theorem dk_ws_X9_go : Cond.selects RX9 yX9_go yX9_go ∈ dk_ws := dk_w 1589 (by decide +kernel) (by decide +kernel)
theorem yy_X9_go : dk_YV yX9_go cX9_go 5 (some .char) 1 := ⟨dk_wt_X9_go, dk_ws_X9_go, dk_wn_RX9, dk_wc_X9_go, ⟨by decide, by decide, by decide⟩⟩
theorem dk_wm_X9_270 : Cond.methodLink RX9 270 yX9_hasKeyFor ∈ dk_ws := dk_w 1599 (by decide +kernel) (by decide +kernel)
theorem dk_wm_X9_264 : Cond.methodLink RX9 264 yX9_carries ∈ dk_ws := dk_w 1591 (by decide +kernel) (by decide +kernel)
theorem dk_wm_X9_267 : Cond.methodLink RX9 267 yX9_strikes ∈ dk_ws := dk_w 1595 (by decide +kernel) (by decide +kernel)
theorem dk_wm_X9_273 : Cond.methodLink RX9 273 yX9_ends ∈ dk_ws := dk_w 1607 (by decide +kernel) (by decide +kernel)
theorem dk_wc_X9_rest : Cond.code yX9_rest cX9_rest 1 (some .int) ∈ dk_ws := dk_w 1614 (by decide +kernel) (by decide +kernel)
theorem dk_wt_X9_rest : Cond.instanceMethod yX9_rest ∈ dk_ws := dk_w 1612 (by decide +kernel) (by decide +kernel)
theorem dk_ws_X9_rest : Cond.selects RX9 yX9_rest yX9_rest ∈ dk_ws := dk_w 1613 (by decide +kernel) (by decide +kernel)
theorem yy_X9_rest : dk_YV yX9_rest cX9_rest 1 (some .int) 0 := ⟨dk_wt_X9_rest, dk_ws_X9_rest, dk_wn_RX9, dk_wc_X9_rest, ⟨by decide, by decide, by decide⟩⟩
theorem dk_wc_X9_take : Cond.code yX9_take cX9_take 4 (some .int) ∈ dk_ws := dk_w 1618 (by decide +kernel) (by decide +kernel)
theorem dk_wt_X9_take : Cond.instanceMethod yX9_take ∈ dk_ws := dk_w 1616 (by decide +kernel) (by decide +kernel)
theorem dk_ws_X9_take : Cond.selects RX9 yX9_take yX9_take ∈ dk_ws := dk_w 1617 (by decide +kernel) (by decide +kernel)
theorem yy_X9_take : dk_YV yX9_take cX9_take 4 (some .int) 1 := ⟨dk_wt_X9_take, dk_ws_X9_take, dk_wn_RX9, dk_wc_X9_take, ⟨by decide, by decide, by decide⟩⟩
theorem dk_wm_X9_276 : Cond.methodLink RX9 276 yX9_carriedWeight ∈ dk_ws := dk_w 1619 (by decide +kernel) (by decide +kernel)
theorem dk_wm_X9_279 : Cond.methodLink RX9 279 yX9_wholeWeight ∈ dk_ws := dk_w 1623 (by decide +kernel) (by decide +kernel)
theorem dk_wc_X9_handFault : Cond.code yX9_handFault cX9_handFault 2 (some .int) ∈ dk_ws := dk_w 1638 (by decide +kernel) (by decide +kernel)
theorem dk_wt_X9_handFault : Cond.instanceMethod yX9_handFault ∈ dk_ws := dk_w 1637 (by decide +kernel) (by decide +kernel)
theorem dk_ws_X9_handFault : Cond.selects RX9 yX9_handFault yX9_handFault ∈ dk_ws := dk_w 60 (by decide +kernel) (by decide +kernel)
theorem yy_X9_handFault : dk_YV yX9_handFault cX9_handFault 2 (some .int) 1 := ⟨dk_wt_X9_handFault, dk_ws_X9_handFault, dk_wn_RX9, dk_wc_X9_handFault, ⟨by decide, by decide, by decide⟩⟩
theorem dk_wc_X9_drop : Cond.code yX9_drop cX9_drop 3 (some .int) ∈ dk_ws := dk_w 1634 (by decide +kernel) (by decide +kernel)
theorem dk_wt_X9_drop : Cond.instanceMethod yX9_drop ∈ dk_ws := dk_w 1632 (by decide +kernel) (by decide +kernel)
theorem dk_ws_X9_drop : Cond.selects RX9 yX9_drop yX9_drop ∈ dk_ws := dk_w 1633 (by decide +kernel) (by decide +kernel)
theorem yy_X9_drop : dk_YV yX9_drop cX9_drop 3 (some .int) 1 := ⟨dk_wt_X9_drop, dk_ws_X9_drop, dk_wn_RX9, dk_wc_X9_drop, ⟨by decide, by decide, by decide⟩⟩
theorem dk_wm_X9_282 : Cond.methodLink RX9 282 yX9_handFault ∈ dk_ws := dk_w 1635 (by decide +kernel) (by decide +kernel)
theorem dk_wc_X9_pack : Cond.code yX9_pack cX9_pack 8 (some .int) ∈ dk_ws := dk_w 1642 (by decide +kernel) (by decide +kernel)
theorem dk_wt_X9_pack : Cond.instanceMethod yX9_pack ∈ dk_ws := dk_w 1640 (by decide +kernel) (by decide +kernel)
theorem dk_ws_X9_pack : Cond.selects RX9 yX9_pack yX9_pack ∈ dk_ws := dk_w 1641 (by decide +kernel) (by decide +kernel)
theorem yy_X9_pack : dk_YV yX9_pack cX9_pack 8 (some .int) 2 := ⟨dk_wt_X9_pack, dk_ws_X9_pack, dk_wn_RX9, dk_wc_X9_pack, ⟨by decide, by decide, by decide⟩⟩
theorem dk_wm_X9_285 : Cond.methodLink RX9 285 yX9_isBag ∈ dk_ws := dk_w 1643 (by decide +kernel) (by decide +kernel)
theorem dk_wc_X9_drink : Cond.code yX9_drink cX9_drink 5 (some .int) ∈ dk_ws := dk_w 1650 (by decide +kernel) (by decide +kernel)
theorem dk_wt_X9_drink : Cond.instanceMethod yX9_drink ∈ dk_ws := dk_w 1648 (by decide +kernel) (by decide +kernel)
theorem dk_ws_X9_drink : Cond.selects RX9 yX9_drink yX9_drink ∈ dk_ws := dk_w 1649 (by decide +kernel) (by decide +kernel)
theorem yy_X9_drink : dk_YV yX9_drink cX9_drink 5 (some .int) 1 := ⟨dk_wt_X9_drink, dk_ws_X9_drink, dk_wn_RX9, dk_wc_X9_drink, ⟨by decide, by decide, by decide⟩⟩
theorem dk_wc_X9_hurl : Cond.code yX9_hurl cX9_hurl 7 (some .int) ∈ dk_ws := dk_w 1665 (by decide +kernel) (by decide +kernel)
theorem dk_wt_X9_hurl : Cond.instanceMethod yX9_hurl ∈ dk_ws := dk_w 1663 (by decide +kernel) (by decide +kernel)
theorem dk_ws_X9_hurl : Cond.selects RX9 yX9_hurl yX9_hurl ∈ dk_ws := dk_w 1664 (by decide +kernel) (by decide +kernel)
theorem yy_X9_hurl : dk_YV yX9_hurl cX9_hurl 7 (some .int) 2 := ⟨dk_wt_X9_hurl, dk_ws_X9_hurl, dk_wn_RX9, dk_wc_X9_hurl, ⟨by decide, by decide, by decide⟩⟩
theorem dk_wm_X9_288 : Cond.methodLink RX9 288 yX9_breaks ∈ dk_ws := dk_w 1666 (by decide +kernel) (by decide +kernel)
theorem dk_wc_X9_shout : Cond.code yX9_shout cX9_shout 3 (some .int) ∈ dk_ws := dk_w 1673 (by decide +kernel) (by decide +kernel)
theorem dk_wt_X9_shout : Cond.instanceMethod yX9_shout ∈ dk_ws := dk_w 1671 (by decide +kernel) (by decide +kernel)
theorem dk_ws_X9_shout : Cond.selects RX9 yX9_shout yX9_shout ∈ dk_ws := dk_w 1672 (by decide +kernel) (by decide +kernel)
theorem yy_X9_shout : dk_YV yX9_shout cX9_shout 3 (some .int) 1 := ⟨dk_wt_X9_shout, dk_ws_X9_shout, dk_wn_RX9, dk_wc_X9_shout, ⟨by decide, by decide, by decide⟩⟩
theorem dk_wc_X9_pray : Cond.code yX9_pray cX9_pray 3 (some .int) ∈ dk_ws := dk_w 1677 (by decide +kernel) (by decide +kernel)
theorem dk_wt_X9_pray : Cond.instanceMethod yX9_pray ∈ dk_ws := dk_w 1675 (by decide +kernel) (by decide +kernel)
theorem dk_ws_X9_pray : Cond.selects RX9 yX9_pray yX9_pray ∈ dk_ws := dk_w 1676 (by decide +kernel) (by decide +kernel)
theorem yy_X9_pray : dk_YV yX9_pray cX9_pray 3 (some .int) 0 := ⟨dk_wt_X9_pray, dk_ws_X9_pray, dk_wn_RX9, dk_wc_X9_pray, ⟨by decide, by decide, by decide⟩⟩
theorem dk_wc_X9_state : Cond.code yX9_state cX9_state 1 (some .char) ∈ dk_ws := dk_w 1681 (by decide +kernel) (by decide +kernel)
theorem dk_wt_X9_state : Cond.instanceMethod yX9_state ∈ dk_ws := dk_w 1679 (by decide +kernel) (by decide +kernel)
theorem dk_ws_X9_state : Cond.selects RX9 yX9_state yX9_state ∈ dk_ws := dk_w 1680 (by decide +kernel) (by decide +kernel)
theorem yy_X9_state : dk_YV yX9_state cX9_state 1 (some .char) 0 := ⟨dk_wt_X9_state, dk_ws_X9_state, dk_wn_RX9, dk_wc_X9_state, ⟨by decide, by decide, by decide⟩⟩
theorem dk_wc_X9_tick : Cond.code yX9_tick cX9_tick 1 (some .int) ∈ dk_ws := dk_w 1685 (by decide +kernel) (by decide +kernel)
theorem dk_wt_X9_tick : Cond.instanceMethod yX9_tick ∈ dk_ws := dk_w 1683 (by decide +kernel) (by decide +kernel)
theorem dk_ws_X9_tick : Cond.selects RX9 yX9_tick yX9_tick ∈ dk_ws := dk_w 1684 (by decide +kernel) (by decide +kernel)
theorem yy_X9_tick : dk_YV yX9_tick cX9_tick 1 (some .int) 0 := ⟨dk_wt_X9_tick, dk_ws_X9_tick, dk_wn_RX9, dk_wc_X9_tick, ⟨by decide, by decide, by decide⟩⟩
theorem dk_wc_X9_cell : Cond.code yX9_cell cX9_cell 3 (some .char) ∈ dk_ws := dk_w 1689 (by decide +kernel) (by decide +kernel)
theorem dk_wt_X9_cell : Cond.instanceMethod yX9_cell ∈ dk_ws := dk_w 1687 (by decide +kernel) (by decide +kernel)
theorem dk_ws_X9_cell : Cond.selects RX9 yX9_cell yX9_cell ∈ dk_ws := dk_w 1688 (by decide +kernel) (by decide +kernel)
theorem yy_X9_cell : dk_YV yX9_cell cX9_cell 3 (some .char) 2 := ⟨dk_wt_X9_cell, dk_ws_X9_cell, dk_wn_RX9, dk_wc_X9_cell, ⟨by decide, by decide, by decide⟩⟩
theorem dk_wc_X9_see : Cond.code yX9_see cX9_see 5 (some .boolean) ∈ dk_ws := dk_w 1693 (by decide +kernel) (by decide +kernel)
theorem dk_wt_X9_see : Cond.instanceMethod yX9_see ∈ dk_ws := dk_w 1691 (by decide +kernel) (by decide +kernel)
theorem dk_ws_X9_see : Cond.selects RX9 yX9_see yX9_see ∈ dk_ws := dk_w 1692 (by decide +kernel) (by decide +kernel)
theorem yy_X9_see : dk_YV yX9_see cX9_see 5 (some .boolean) 4 := ⟨dk_wt_X9_see, dk_ws_X9_see, dk_wn_RX9, dk_wc_X9_see, ⟨by decide, by decide, by decide⟩⟩
theorem dk_wc_X9_heroSees : Cond.code yX9_heroSees cX9_heroSees 3 (some .boolean) ∈ dk_ws := dk_w 1697 (by decide +kernel) (by decide +kernel)
theorem dk_wt_X9_heroSees : Cond.instanceMethod yX9_heroSees ∈ dk_ws := dk_w 1695 (by decide +kernel) (by decide +kernel)
theorem dk_ws_X9_heroSees : Cond.selects RX9 yX9_heroSees yX9_heroSees ∈ dk_ws := dk_w 1696 (by decide +kernel) (by decide +kernel)
theorem yy_X9_heroSees : dk_YV yX9_heroSees cX9_heroSees 3 (some .boolean) 2 := ⟨dk_wt_X9_heroSees, dk_ws_X9_heroSees, dk_wn_RX9, dk_wc_X9_heroSees, ⟨by decide, by decide, by decide⟩⟩
theorem dk_wm_X9_291 : Cond.methodLink RX9 291 yX9_heroSeesCell ∈ dk_ws := dk_w 1698 (by decide +kernel) (by decide +kernel)
theorem dk_wc_X9_placeOf : Cond.code yX9_placeOf cX9_placeOf 2 (some .int) ∈ dk_ws := dk_w 1709 (by decide +kernel) (by decide +kernel)
theorem dk_wt_X9_placeOf : Cond.instanceMethod yX9_placeOf ∈ dk_ws := dk_w 1707 (by decide +kernel) (by decide +kernel)
theorem dk_ws_X9_placeOf : Cond.selects RX9 yX9_placeOf yX9_placeOf ∈ dk_ws := dk_w 1708 (by decide +kernel) (by decide +kernel)
theorem yy_X9_placeOf : dk_YV yX9_placeOf cX9_placeOf 2 (some .int) 1 := ⟨dk_wt_X9_placeOf, dk_ws_X9_placeOf, dk_wn_RX9, dk_wc_X9_placeOf, ⟨by decide, by decide, by decide⟩⟩
theorem dk_wm_X9_294 : Cond.methodLink RX9 294 yX9_told ∈ dk_ws := dk_w 1710 (by decide +kernel) (by decide +kernel)
theorem dk_wc_X9_healthOf : Cond.code yX9_healthOf cX9_healthOf 2 (some .int) ∈ dk_ws := dk_w 1716 (by decide +kernel) (by decide +kernel)
theorem dk_wt_X9_healthOf : Cond.instanceMethod yX9_healthOf ∈ dk_ws := dk_w 1714 (by decide +kernel) (by decide +kernel)
theorem dk_ws_X9_healthOf : Cond.selects RX9 yX9_healthOf yX9_healthOf ∈ dk_ws := dk_w 1715 (by decide +kernel) (by decide +kernel)
theorem yy_X9_healthOf : dk_YV yX9_healthOf cX9_healthOf 2 (some .int) 1 := ⟨dk_wt_X9_healthOf, dk_ws_X9_healthOf, dk_wn_RX9, dk_wc_X9_healthOf, ⟨by decide, by decide, by decide⟩⟩
theorem dk_wc_X9_aimOf : Cond.code yX9_aimOf cX9_aimOf 3 (some .int) ∈ dk_ws := dk_w 1720 (by decide +kernel) (by decide +kernel)
theorem dk_wt_X9_aimOf : Cond.instanceMethod yX9_aimOf ∈ dk_ws := dk_w 1718 (by decide +kernel) (by decide +kernel)
theorem dk_ws_X9_aimOf : Cond.selects RX9 yX9_aimOf yX9_aimOf ∈ dk_ws := dk_w 1719 (by decide +kernel) (by decide +kernel)
theorem yy_X9_aimOf : dk_YV yX9_aimOf cX9_aimOf 3 (some .int) 1 := ⟨dk_wt_X9_aimOf, dk_ws_X9_aimOf, dk_wn_RX9, dk_wc_X9_aimOf, ⟨by decide, by decide, by decide⟩⟩
theorem dk_wc_X9_whereIs : Cond.code yX9_whereIs cX9_whereIs 2 (some .int) ∈ dk_ws := dk_w 1724 (by decide +kernel) (by decide +kernel)
theorem dk_wt_X9_whereIs : Cond.instanceMethod yX9_whereIs ∈ dk_ws := dk_w 1722 (by decide +kernel) (by decide +kernel)
theorem dk_ws_X9_whereIs : Cond.selects RX9 yX9_whereIs yX9_whereIs ∈ dk_ws := dk_w 1723 (by decide +kernel) (by decide +kernel)
theorem yy_X9_whereIs : dk_YV yX9_whereIs cX9_whereIs 2 (some .int) 1 := ⟨dk_wt_X9_whereIs, dk_ws_X9_whereIs, dk_wn_RX9, dk_wc_X9_whereIs, ⟨by decide, by decide, by decide⟩⟩
theorem dk_wc_X9_weightOf : Cond.code yX9_weightOf cX9_weightOf 2 (some .int) ∈ dk_ws := dk_w 1728 (by decide +kernel) (by decide +kernel)
theorem dk_wt_X9_weightOf : Cond.instanceMethod yX9_weightOf ∈ dk_ws := dk_w 1726 (by decide +kernel) (by decide +kernel)
theorem dk_ws_X9_weightOf : Cond.selects RX9 yX9_weightOf yX9_weightOf ∈ dk_ws := dk_w 1727 (by decide +kernel) (by decide +kernel)
theorem yy_X9_weightOf : dk_YV yX9_weightOf cX9_weightOf 2 (some .int) 1 := ⟨dk_wt_X9_weightOf, dk_ws_X9_weightOf, dk_wn_RX9, dk_wc_X9_weightOf, ⟨by decide, by decide, by decide⟩⟩
theorem dk_wc_X9_lookOf : Cond.code yX9_lookOf cX9_lookOf 7 (some .int) ∈ dk_ws := dk_w 1736 (by decide +kernel) (by decide +kernel)
theorem dk_wt_X9_lookOf : Cond.instanceMethod yX9_lookOf ∈ dk_ws := dk_w 1735 (by decide +kernel) (by decide +kernel)
theorem dk_ws_X9_lookOf : Cond.selects RX9 yX9_lookOf yX9_lookOf ∈ dk_ws := dk_w 67 (by decide +kernel) (by decide +kernel)
theorem yy_X9_lookOf : dk_YV yX9_lookOf cX9_lookOf 7 (some .int) 1 := ⟨dk_wt_X9_lookOf, dk_ws_X9_lookOf, dk_wn_RX9, dk_wc_X9_lookOf, ⟨by decide, by decide, by decide⟩⟩
theorem dk_wc_X9_nameOf : Cond.code yX9_nameOf cX9_nameOf 3 (some .int) ∈ dk_ws := dk_w 1732 (by decide +kernel) (by decide +kernel)
theorem dk_wt_X9_nameOf : Cond.instanceMethod yX9_nameOf ∈ dk_ws := dk_w 1730 (by decide +kernel) (by decide +kernel)
theorem dk_ws_X9_nameOf : Cond.selects RX9 yX9_nameOf yX9_nameOf ∈ dk_ws := dk_w 1731 (by decide +kernel) (by decide +kernel)
theorem yy_X9_nameOf : dk_YV yX9_nameOf cX9_nameOf 3 (some .int) 1 := ⟨dk_wt_X9_nameOf, dk_ws_X9_nameOf, dk_wn_RX9, dk_wc_X9_nameOf, ⟨by decide, by decide, by decide⟩⟩
theorem dk_wm_X9_297 : Cond.methodLink RX9 297 yX9_lookOf ∈ dk_ws := dk_w 1733 (by decide +kernel) (by decide +kernel)
theorem dk_wc_X9_hasFound : Cond.code yX9_hasFound cX9_hasFound 5 (some .boolean) ∈ dk_ws := dk_w 1748 (by decide +kernel) (by decide +kernel)
theorem dk_wt_X9_hasFound : Cond.instanceMethod yX9_hasFound ∈ dk_ws := dk_w 1747 (by decide +kernel) (by decide +kernel)
theorem dk_ws_X9_hasFound : Cond.selects RX9 yX9_hasFound yX9_hasFound ∈ dk_ws := dk_w 69 (by decide +kernel) (by decide +kernel)
theorem yy_X9_hasFound : dk_YV yX9_hasFound cX9_hasFound 5 (some .boolean) 1 := ⟨dk_wt_X9_hasFound, dk_ws_X9_hasFound, dk_wn_RX9, dk_wc_X9_hasFound, ⟨by decide, by decide, by decide⟩⟩
theorem dk_wf_X9_101 : Cond.fieldLink RX9 101 (TX9 36).1 (TX9 36).2.1 (TX9 36).2.2.1 ∈ dk_ws := dk_w 1342 (by decide +kernel) (by decide +kernel)
theorem dk_wc_X9_spreads : Cond.code yX9_spreads cX9_spreads 7 (some .boolean) ∈ dk_ws := dk_w 1744 (by decide +kernel) (by decide +kernel)
theorem dk_wt_X9_spreads : Cond.instanceMethod yX9_spreads ∈ dk_ws := dk_w 1743 (by decide +kernel) (by decide +kernel)
theorem dk_ws_X9_spreads : Cond.selects RX9 yX9_spreads yX9_spreads ∈ dk_ws := dk_w 68 (by decide +kernel) (by decide +kernel)
theorem yy_X9_spreads : dk_YV yX9_spreads cX9_spreads 7 (some .boolean) 0 := ⟨dk_wt_X9_spreads, dk_ws_X9_spreads, dk_wn_RX9, dk_wc_X9_spreads, ⟨by decide, by decide, by decide⟩⟩
theorem dk_wm_X9_300 : Cond.methodLink RX9 300 yX9_hasFound ∈ dk_ws := dk_w 1745 (by decide +kernel) (by decide +kernel)
theorem dk_wc_X9_isReachable : Cond.code yX9_isReachable cX9_isReachable 4 (some .boolean) ∈ dk_ws := dk_w 1740 (by decide +kernel) (by decide +kernel)
theorem dk_wt_X9_isReachable : Cond.instanceMethod yX9_isReachable ∈ dk_ws := dk_w 1738 (by decide +kernel) (by decide +kernel)
theorem dk_ws_X9_isReachable : Cond.selects RX9 yX9_isReachable yX9_isReachable ∈ dk_ws := dk_w 1739 (by decide +kernel) (by decide +kernel)
theorem yy_X9_isReachable : dk_YV yX9_isReachable cX9_isReachable 4 (some .boolean) 2 := ⟨dk_wt_X9_isReachable, dk_ws_X9_isReachable, dk_wn_RX9, dk_wc_X9_isReachable, ⟨by decide, by decide, by decide⟩⟩
theorem dk_wm_X9_303 : Cond.methodLink RX9 303 yX9_spreads ∈ dk_ws := dk_w 1741 (by decide +kernel) (by decide +kernel)
theorem dk_wc_X9_isSame : Cond.code yX9_isSame cX9_isSame 1 (some .boolean) ∈ dk_ws := dk_w 1752 (by decide +kernel) (by decide +kernel)
theorem dk_wt_X9_isSame : Cond.instanceMethod yX9_isSame ∈ dk_ws := dk_w 1750 (by decide +kernel) (by decide +kernel)
theorem dk_ws_X9_isSame : Cond.selects RX9 yX9_isSame yX9_isSame ∈ dk_ws := dk_w 1751 (by decide +kernel) (by decide +kernel)
theorem yy_X9_isSame : dk_YV yX9_isSame cX9_isSame 1 (some .boolean) 0 := ⟨dk_wt_X9_isSame, dk_ws_X9_isSame, dk_wn_RX9, dk_wc_X9_isSame, ⟨by decide, by decide, by decide⟩⟩
theorem dk_wc_X8_shown : Cond.code yX8_shown cX8_shown 1 (some (.object "DelveKeep$World")) ∈ dk_ws := dk_w 370 (by decide +kernel) (by decide +kernel)
theorem dk_wt_X8_shown : Cond.instanceMethod yX8_shown ∈ dk_ws := dk_w 369 (by decide +kernel) (by decide +kernel)
theorem dk_ws_X8_shown : Cond.selects RX8 yX8_shown yX8_shown ∈ dk_ws := dk_w 0 (by decide +kernel) (by decide +kernel)
theorem yy_X8_shown : dk_YV yX8_shown cX8_shown 1 (some (.object "DelveKeep$World")) 0 := ⟨dk_wt_X8_shown, dk_ws_X8_shown, dk_wn_RX8, dk_wc_X8_shown, ⟨by decide, by decide, by decide⟩⟩
theorem gf_X7_28 {G : dk_G} {p : Program} {l : Launch} {e : Env} {R : Room} {s : State} {m : MethodId} {args : Array Value} {below : List Frame} {meth : Method} {c : Code} {cells slots : Nat} {Q : State → Prop} {cc : ByteArray} {nL : Nat} {pc n : Nat} {L : List (Option Value)} {st : List Value} {σ : dk_S} {a : Nat} (C : dk_C G p R s m args c cells slots cc nL RX7) (hd : (a, 0) ∈ dk_dom G) (d : decode cc pc = .ok (.getfield 28, 3)) (hn : pc + 3 = n) (k : dk_W G p l e R s m args below meth c cells slots Q n L (dk_r G a 13 :: st) σ) : dk_W G p l e R s m args below meth c cells slots Q pc L (dk_r G a 0 :: st) σ :=
  dk_getR (ci := 7) (k0 := 2) (N := 10) (T := TX7) (Cn := RX7) C dk_sh0 rfl rfl rfl (by decide) dk_ui7 dk_wf_X7_28 hd d hn k
theorem gf_X7_78 {G : dk_G} {p : Program} {l : Launch} {e : Env} {R : Room} {s : State} {m : MethodId} {args : Array Value} {below : List Frame} {meth : Method} {c : Code} {cells slots : Nat} {Q : State → Prop} {cc : ByteArray} {nL : Nat} {pc n : Nat} {L : List (Option Value)} {st : List Value} {σ : dk_S} {a : Nat} (C : dk_C G p R s m args c cells slots cc nL RX7) (hd : (a, 13) ∈ dk_dom G) (d : decode cc pc = .ok (.getfield 78, 3)) (hn : pc + 3 = n) (k : dk_W G p l e R s m args below meth c cells slots Q n L (dk_r G a 14 :: st) σ) : dk_W G p l e R s m args below meth c cells slots Q pc L (dk_r G a 13 :: st) σ :=
  dk_getR (ci := 2) (k0 := 0) (N := 10) (T := TX2) (Cn := RX2) C dk_sh13 rfl rfl rfl (by decide) dk_ui2 dk_wf_X7_78 hd d hn k
theorem gf_X6_15 {G : dk_G} {p : Program} {l : Launch} {e : Env} {R : Room} {s : State} {m : MethodId} {args : Array Value} {below : List Frame} {meth : Method} {c : Code} {cells slots : Nat} {Q : State → Prop} {cc : ByteArray} {nL : Nat} {pc n : Nat} {L : List (Option Value)} {st : List Value} {σ : dk_S} {a : Nat} (C : dk_C G p R s m args c cells slots cc nL RX6) (hd : (a, 23) ∈ dk_dom G) (d : decode cc pc = .ok (.getfield 15, 3)) (hn : pc + 3 = n) (k : dk_W G p l e R s m args below meth c cells slots Q n L (dk_r G a 25 :: st) σ) : dk_W G p l e R s m args below meth c cells slots Q pc L (dk_r G a 23 :: st) σ :=
  dk_getR (ci := 6) (k0 := 1) (N := 3) (T := TX6) (Cn := RX6) C dk_sh23 rfl rfl rfl (by decide) dk_ui6 dk_wf_X6_15 hd d hn k
theorem pf_X0_15 {G : dk_G} {p : Program} {l : Launch} {e : Env} {R : Room} {s : State} {m : MethodId} {args : Array Value} {below : List Frame} {meth : Method} {c : Code} {cells slots : Nat} {Q : State → Prop} {cc : ByteArray} {nL : Nat} {pc n : Nat} {L : List (Option Value)} {st : List Value} {σ : dk_S} {a : Nat} {x : Int32} (C : dk_C G p R s m args c cells slots cc nL RX0) (hna : narrow .int (.int x) = .int x) (hfit : fits .int (.int x) = true) (hd : (a, 45) ∈ dk_dom G) (d : decode cc pc = .ok (.putfield 15, 3)) (hn : pc + 3 = n) (k : dk_W G p l e R s m args below meth c cells slots Q n L st (dk_row σ a 45 (upd (σ a 45) 1 x))) : dk_W G p l e R s m args below meth c cells slots Q pc L (.int x :: dk_r G a 45 :: st) σ :=
  dk_put (ci := 0) (k0 := 1) (N := 2) (T := TX0) (Cn := RX0) (ty := .int) C dk_sh45 rfl rfl (by decide) dk_ui0 tyX0 tyX0_ok nmX0 dk_wf_X0_15 (by decide) (by decide) hna hfit hd d hn k
theorem gf_X0_25 {G : dk_G} {p : Program} {l : Launch} {e : Env} {R : Room} {s : State} {m : MethodId} {args : Array Value} {below : List Frame} {meth : Method} {c : Code} {cells slots : Nat} {Q : State → Prop} {cc : ByteArray} {nL : Nat} {pc n : Nat} {L : List (Option Value)} {st : List Value} {σ : dk_S} {a : Nat} (C : dk_C G p R s m args c cells slots cc nL RX0) (hd : (a, 0) ∈ dk_dom G) (d : decode cc pc = .ok (.getfield 25, 3)) (hn : pc + 3 = n) (k : dk_W G p l e R s m args below meth c cells slots Q n L (dk_r G a 23 :: st) σ) : dk_W G p l e R s m args below meth c cells slots Q pc L (dk_r G a 0 :: st) σ :=
  dk_getR (ci := 7) (k0 := 3) (N := 10) (T := TX7) (Cn := RX7) C dk_sh0 rfl rfl rfl (by decide) dk_ui7 dk_wf_X0_25 hd d hn k
theorem gf_X0_29 {G : dk_G} {p : Program} {l : Launch} {e : Env} {R : Room} {s : State} {m : MethodId} {args : Array Value} {below : List Frame} {meth : Method} {c : Code} {cells slots : Nat} {Q : State → Prop} {cc : ByteArray} {nL : Nat} {pc n : Nat} {L : List (Option Value)} {st : List Value} {σ : dk_S} {a : Nat} (C : dk_C G p R s m args c cells slots cc nL RX0) (hd : (a, 23) ∈ dk_dom G) (d : decode cc pc = .ok (.getfield 29, 3)) (hn : pc + 3 = n) (k : dk_W G p l e R s m args below meth c cells slots Q n L (.int (σ a 23 2) :: st) σ) : dk_W G p l e R s m args below meth c cells slots Q pc L (dk_r G a 23 :: st) σ :=
  dk_getI (ci := 6) (k0 := 2) (N := 3) (T := TX6) (Cn := RX6) C dk_sh23 rfl rfl (by decide) dk_ui6 dk_wf_X0_29 hd d hn k
theorem gf_X0_9 {G : dk_G} {p : Program} {l : Launch} {e : Env} {R : Room} {s : State} {m : MethodId} {args : Array Value} {below : List Frame} {meth : Method} {c : Code} {cells slots : Nat} {Q : State → Prop} {cc : ByteArray} {nL : Nat} {pc n : Nat} {L : List (Option Value)} {st : List Value} {σ : dk_S} {a : Nat} (C : dk_C G p R s m args c cells slots cc nL RX0) (hd : (a, 45) ∈ dk_dom G) (d : decode cc pc = .ok (.getfield 9, 3)) (hn : pc + 3 = n) (k : dk_W G p l e R s m args below meth c cells slots Q n L (dk_r G a 46 :: st) σ) : dk_W G p l e R s m args below meth c cells slots Q pc L (dk_r G a 45 :: st) σ :=
  dk_getR (ci := 0) (k0 := 0) (N := 2) (T := TX0) (Cn := RX0) C dk_sh45 rfl rfl rfl (by decide) dk_ui0 dk_wf_X0_9 hd d hn k
theorem gf_X0_38 {G : dk_G} {p : Program} {l : Launch} {e : Env} {R : Room} {s : State} {m : MethodId} {args : Array Value} {below : List Frame} {meth : Method} {c : Code} {cells slots : Nat} {Q : State → Prop} {cc : ByteArray} {nL : Nat} {pc n : Nat} {L : List (Option Value)} {st : List Value} {σ : dk_S} {a : Nat} (C : dk_C G p R s m args c cells slots cc nL RX0) (hd : (a, 23) ∈ dk_dom G) (d : decode cc pc = .ok (.getfield 38, 3)) (hn : pc + 3 = n) (k : dk_W G p l e R s m args below meth c cells slots Q n L (dk_r G a 25 :: st) σ) : dk_W G p l e R s m args below meth c cells slots Q pc L (dk_r G a 23 :: st) σ :=
  dk_getR (ci := 6) (k0 := 1) (N := 3) (T := TX6) (Cn := RX6) C dk_sh23 rfl rfl rfl (by decide) dk_ui6 dk_wf_X0_38 hd d hn k
theorem gf_X1_9 {G : dk_G} {p : Program} {l : Launch} {e : Env} {R : Room} {s : State} {m : MethodId} {args : Array Value} {below : List Frame} {meth : Method} {c : Code} {cells slots : Nat} {Q : State → Prop} {cc : ByteArray} {nL : Nat} {pc n : Nat} {L : List (Option Value)} {st : List Value} {σ : dk_S} {a : Nat} (C : dk_C G p R s m args c cells slots cc nL RX1) (hd : (a, 1) ∈ dk_dom G) (d : decode cc pc = .ok (.getfield 9, 3)) (hn : pc + 3 = n) (k : dk_W G p l e R s m args below meth c cells slots Q n L (dk_r G a 2 :: st) σ) : dk_W G p l e R s m args below meth c cells slots Q pc L (dk_r G a 1 :: st) σ :=
  dk_getR (ci := 1) (k0 := 0) (N := 6) (T := TX1) (Cn := RX1) C dk_sh1 rfl rfl rfl (by decide) dk_ui1 dk_wf_X1_9 hd d hn k
theorem gf_X0_15 {G : dk_G} {p : Program} {l : Launch} {e : Env} {R : Room} {s : State} {m : MethodId} {args : Array Value} {below : List Frame} {meth : Method} {c : Code} {cells slots : Nat} {Q : State → Prop} {cc : ByteArray} {nL : Nat} {pc n : Nat} {L : List (Option Value)} {st : List Value} {σ : dk_S} {a : Nat} (C : dk_C G p R s m args c cells slots cc nL RX0) (hd : (a, 45) ∈ dk_dom G) (d : decode cc pc = .ok (.getfield 15, 3)) (hn : pc + 3 = n) (k : dk_W G p l e R s m args below meth c cells slots Q n L (.int (σ a 45 1) :: st) σ) : dk_W G p l e R s m args below meth c cells slots Q pc L (dk_r G a 45 :: st) σ :=
  dk_getI (ci := 0) (k0 := 1) (N := 2) (T := TX0) (Cn := RX0) C dk_sh45 rfl rfl (by decide) dk_ui0 dk_wf_X0_15 hd d hn k
theorem gf_X0_47 {G : dk_G} {p : Program} {l : Launch} {e : Env} {R : Room} {s : State} {m : MethodId} {args : Array Value} {below : List Frame} {meth : Method} {c : Code} {cells slots : Nat} {Q : State → Prop} {cc : ByteArray} {nL : Nat} {pc n : Nat} {L : List (Option Value)} {st : List Value} {σ : dk_S} {a : Nat} (C : dk_C G p R s m args c cells slots cc nL RX0) (hd : (a, 0) ∈ dk_dom G) (d : decode cc pc = .ok (.getfield 47, 3)) (hn : pc + 3 = n) (k : dk_W G p l e R s m args below meth c cells slots Q n L (dk_r G a 1 :: st) σ) : dk_W G p l e R s m args below meth c cells slots Q pc L (dk_r G a 0 :: st) σ :=
  dk_getR (ci := 7) (k0 := 0) (N := 10) (T := TX7) (Cn := RX7) C dk_sh0 rfl rfl rfl (by decide) dk_ui7 dk_wf_X0_47 hd d hn k
theorem pf_X1_28 {G : dk_G} {p : Program} {l : Launch} {e : Env} {R : Room} {s : State} {m : MethodId} {args : Array Value} {below : List Frame} {meth : Method} {c : Code} {cells slots : Nat} {Q : State → Prop} {cc : ByteArray} {nL : Nat} {pc n : Nat} {L : List (Option Value)} {st : List Value} {σ : dk_S} {a : Nat} {x : Int32} (C : dk_C G p R s m args c cells slots cc nL RX1) (hna : narrow .int (.int x) = .int x) (hfit : fits .int (.int x) = true) (hd : (a, 1) ∈ dk_dom G) (d : decode cc pc = .ok (.putfield 28, 3)) (hn : pc + 3 = n) (k : dk_W G p l e R s m args below meth c cells slots Q n L st (dk_row σ a 1 (upd (σ a 1) 5 x))) : dk_W G p l e R s m args below meth c cells slots Q pc L (.int x :: dk_r G a 1 :: st) σ :=
  dk_put (ci := 1) (k0 := 5) (N := 6) (T := TX1) (Cn := RX1) (ty := .int) C dk_sh1 rfl rfl (by decide) dk_ui1 tyX1 tyX1_ok nmX1 dk_wf_X1_28 (by decide) (by decide) hna hfit hd d hn k
theorem gf_X1_19 {G : dk_G} {p : Program} {l : Launch} {e : Env} {R : Room} {s : State} {m : MethodId} {args : Array Value} {below : List Frame} {meth : Method} {c : Code} {cells slots : Nat} {Q : State → Prop} {cc : ByteArray} {nL : Nat} {pc n : Nat} {L : List (Option Value)} {st : List Value} {σ : dk_S} {a : Nat} (C : dk_C G p R s m args c cells slots cc nL RX1) (hd : (a, 1) ∈ dk_dom G) (d : decode cc pc = .ok (.getfield 19, 3)) (hn : pc + 3 = n) (k : dk_W G p l e R s m args below meth c cells slots Q n L (dk_r G a 4 :: st) σ) : dk_W G p l e R s m args below meth c cells slots Q pc L (dk_r G a 1 :: st) σ :=
  dk_getR (ci := 1) (k0 := 2) (N := 6) (T := TX1) (Cn := RX1) C dk_sh1 rfl rfl rfl (by decide) dk_ui1 dk_wf_X1_19 hd d hn k
theorem gf_X1_15 {G : dk_G} {p : Program} {l : Launch} {e : Env} {R : Room} {s : State} {m : MethodId} {args : Array Value} {below : List Frame} {meth : Method} {c : Code} {cells slots : Nat} {Q : State → Prop} {cc : ByteArray} {nL : Nat} {pc n : Nat} {L : List (Option Value)} {st : List Value} {σ : dk_S} {a : Nat} (C : dk_C G p R s m args c cells slots cc nL RX1) (hd : (a, 1) ∈ dk_dom G) (d : decode cc pc = .ok (.getfield 15, 3)) (hn : pc + 3 = n) (k : dk_W G p l e R s m args below meth c cells slots Q n L (dk_r G a 3 :: st) σ) : dk_W G p l e R s m args below meth c cells slots Q pc L (dk_r G a 1 :: st) σ :=
  dk_getR (ci := 1) (k0 := 1) (N := 6) (T := TX1) (Cn := RX1) C dk_sh1 rfl rfl rfl (by decide) dk_ui1 dk_wf_X1_15 hd d hn k
theorem gf_X1_28 {G : dk_G} {p : Program} {l : Launch} {e : Env} {R : Room} {s : State} {m : MethodId} {args : Array Value} {below : List Frame} {meth : Method} {c : Code} {cells slots : Nat} {Q : State → Prop} {cc : ByteArray} {nL : Nat} {pc n : Nat} {L : List (Option Value)} {st : List Value} {σ : dk_S} {a : Nat} (C : dk_C G p R s m args c cells slots cc nL RX1) (hd : (a, 1) ∈ dk_dom G) (d : decode cc pc = .ok (.getfield 28, 3)) (hn : pc + 3 = n) (k : dk_W G p l e R s m args below meth c cells slots Q n L (.int (σ a 1 5) :: st) σ) : dk_W G p l e R s m args below meth c cells slots Q pc L (dk_r G a 1 :: st) σ :=
  dk_getI (ci := 1) (k0 := 5) (N := 6) (T := TX1) (Cn := RX1) C dk_sh1 rfl rfl (by decide) dk_ui1 dk_wf_X1_28 hd d hn k
theorem gf_X1_25 {G : dk_G} {p : Program} {l : Launch} {e : Env} {R : Room} {s : State} {m : MethodId} {args : Array Value} {below : List Frame} {meth : Method} {c : Code} {cells slots : Nat} {Q : State → Prop} {cc : ByteArray} {nL : Nat} {pc n : Nat} {L : List (Option Value)} {st : List Value} {σ : dk_S} {a : Nat} (C : dk_C G p R s m args c cells slots cc nL RX1) (hd : (a, 1) ∈ dk_dom G) (d : decode cc pc = .ok (.getfield 25, 3)) (hn : pc + 3 = n) (k : dk_W G p l e R s m args below meth c cells slots Q n L (dk_r G a 6 :: st) σ) : dk_W G p l e R s m args below meth c cells slots Q pc L (dk_r G a 1 :: st) σ :=
  dk_getR (ci := 1) (k0 := 4) (N := 6) (T := TX1) (Cn := RX1) C dk_sh1 rfl rfl rfl (by decide) dk_ui1 dk_wf_X1_25 hd d hn k
theorem gf_X2_9 {G : dk_G} {p : Program} {l : Launch} {e : Env} {R : Room} {s : State} {m : MethodId} {args : Array Value} {below : List Frame} {meth : Method} {c : Code} {cells slots : Nat} {Q : State → Prop} {cc : ByteArray} {nL : Nat} {pc n : Nat} {L : List (Option Value)} {st : List Value} {σ : dk_S} {a : Nat} (C : dk_C G p R s m args c cells slots cc nL RX2) (hd : (a, 13) ∈ dk_dom G) (d : decode cc pc = .ok (.getfield 9, 3)) (hn : pc + 3 = n) (k : dk_W G p l e R s m args below meth c cells slots Q n L (dk_r G a 14 :: st) σ) : dk_W G p l e R s m args below meth c cells slots Q pc L (dk_r G a 13 :: st) σ :=
  dk_getR (ci := 2) (k0 := 0) (N := 10) (T := TX2) (Cn := RX2) C dk_sh13 rfl rfl rfl (by decide) dk_ui2 dk_wf_X2_9 hd d hn k
theorem gf_X2_15 {G : dk_G} {p : Program} {l : Launch} {e : Env} {R : Room} {s : State} {m : MethodId} {args : Array Value} {below : List Frame} {meth : Method} {c : Code} {cells slots : Nat} {Q : State → Prop} {cc : ByteArray} {nL : Nat} {pc n : Nat} {L : List (Option Value)} {st : List Value} {σ : dk_S} {a : Nat} (C : dk_C G p R s m args c cells slots cc nL RX2) (hd : (a, 13) ∈ dk_dom G) (d : decode cc pc = .ok (.getfield 15, 3)) (hn : pc + 3 = n) (k : dk_W G p l e R s m args below meth c cells slots Q n L (dk_r G a 15 :: st) σ) : dk_W G p l e R s m args below meth c cells slots Q pc L (dk_r G a 13 :: st) σ :=
  dk_getR (ci := 2) (k0 := 1) (N := 10) (T := TX2) (Cn := RX2) C dk_sh13 rfl rfl rfl (by decide) dk_ui2 dk_wf_X2_15 hd d hn k
theorem gf_X2_18 {G : dk_G} {p : Program} {l : Launch} {e : Env} {R : Room} {s : State} {m : MethodId} {args : Array Value} {below : List Frame} {meth : Method} {c : Code} {cells slots : Nat} {Q : State → Prop} {cc : ByteArray} {nL : Nat} {pc n : Nat} {L : List (Option Value)} {st : List Value} {σ : dk_S} {a : Nat} (C : dk_C G p R s m args c cells slots cc nL RX2) (hd : (a, 13) ∈ dk_dom G) (d : decode cc pc = .ok (.getfield 18, 3)) (hn : pc + 3 = n) (k : dk_W G p l e R s m args below meth c cells slots Q n L (dk_r G a 16 :: st) σ) : dk_W G p l e R s m args below meth c cells slots Q pc L (dk_r G a 13 :: st) σ :=
  dk_getR (ci := 2) (k0 := 2) (N := 10) (T := TX2) (Cn := RX2) C dk_sh13 rfl rfl rfl (by decide) dk_ui2 dk_wf_X2_18 hd d hn k
theorem gf_X2_21 {G : dk_G} {p : Program} {l : Launch} {e : Env} {R : Room} {s : State} {m : MethodId} {args : Array Value} {below : List Frame} {meth : Method} {c : Code} {cells slots : Nat} {Q : State → Prop} {cc : ByteArray} {nL : Nat} {pc n : Nat} {L : List (Option Value)} {st : List Value} {σ : dk_S} {a : Nat} (C : dk_C G p R s m args c cells slots cc nL RX2) (hd : (a, 13) ∈ dk_dom G) (d : decode cc pc = .ok (.getfield 21, 3)) (hn : pc + 3 = n) (k : dk_W G p l e R s m args below meth c cells slots Q n L (dk_r G a 17 :: st) σ) : dk_W G p l e R s m args below meth c cells slots Q pc L (dk_r G a 13 :: st) σ :=
  dk_getR (ci := 2) (k0 := 3) (N := 10) (T := TX2) (Cn := RX2) C dk_sh13 rfl rfl rfl (by decide) dk_ui2 dk_wf_X2_21 hd d hn k
theorem gf_X2_24 {G : dk_G} {p : Program} {l : Launch} {e : Env} {R : Room} {s : State} {m : MethodId} {args : Array Value} {below : List Frame} {meth : Method} {c : Code} {cells slots : Nat} {Q : State → Prop} {cc : ByteArray} {nL : Nat} {pc n : Nat} {L : List (Option Value)} {st : List Value} {σ : dk_S} {a : Nat} (C : dk_C G p R s m args c cells slots cc nL RX2) (hd : (a, 13) ∈ dk_dom G) (d : decode cc pc = .ok (.getfield 24, 3)) (hn : pc + 3 = n) (k : dk_W G p l e R s m args below meth c cells slots Q n L (dk_r G a 18 :: st) σ) : dk_W G p l e R s m args below meth c cells slots Q pc L (dk_r G a 13 :: st) σ :=
  dk_getR (ci := 2) (k0 := 4) (N := 10) (T := TX2) (Cn := RX2) C dk_sh13 rfl rfl rfl (by decide) dk_ui2 dk_wf_X2_24 hd d hn k
theorem gf_X2_27 {G : dk_G} {p : Program} {l : Launch} {e : Env} {R : Room} {s : State} {m : MethodId} {args : Array Value} {below : List Frame} {meth : Method} {c : Code} {cells slots : Nat} {Q : State → Prop} {cc : ByteArray} {nL : Nat} {pc n : Nat} {L : List (Option Value)} {st : List Value} {σ : dk_S} {a : Nat} (C : dk_C G p R s m args c cells slots cc nL RX2) (hd : (a, 13) ∈ dk_dom G) (d : decode cc pc = .ok (.getfield 27, 3)) (hn : pc + 3 = n) (k : dk_W G p l e R s m args below meth c cells slots Q n L (dk_r G a 19 :: st) σ) : dk_W G p l e R s m args below meth c cells slots Q pc L (dk_r G a 13 :: st) σ :=
  dk_getR (ci := 2) (k0 := 5) (N := 10) (T := TX2) (Cn := RX2) C dk_sh13 rfl rfl rfl (by decide) dk_ui2 dk_wf_X2_27 hd d hn k
theorem gf_X2_30 {G : dk_G} {p : Program} {l : Launch} {e : Env} {R : Room} {s : State} {m : MethodId} {args : Array Value} {below : List Frame} {meth : Method} {c : Code} {cells slots : Nat} {Q : State → Prop} {cc : ByteArray} {nL : Nat} {pc n : Nat} {L : List (Option Value)} {st : List Value} {σ : dk_S} {a : Nat} (C : dk_C G p R s m args c cells slots cc nL RX2) (hd : (a, 13) ∈ dk_dom G) (d : decode cc pc = .ok (.getfield 30, 3)) (hn : pc + 3 = n) (k : dk_W G p l e R s m args below meth c cells slots Q n L (dk_r G a 20 :: st) σ) : dk_W G p l e R s m args below meth c cells slots Q pc L (dk_r G a 13 :: st) σ :=
  dk_getR (ci := 2) (k0 := 6) (N := 10) (T := TX2) (Cn := RX2) C dk_sh13 rfl rfl rfl (by decide) dk_ui2 dk_wf_X2_30 hd d hn k
theorem gf_X2_33 {G : dk_G} {p : Program} {l : Launch} {e : Env} {R : Room} {s : State} {m : MethodId} {args : Array Value} {below : List Frame} {meth : Method} {c : Code} {cells slots : Nat} {Q : State → Prop} {cc : ByteArray} {nL : Nat} {pc n : Nat} {L : List (Option Value)} {st : List Value} {σ : dk_S} {a : Nat} (C : dk_C G p R s m args c cells slots cc nL RX2) (hd : (a, 13) ∈ dk_dom G) (d : decode cc pc = .ok (.getfield 33, 3)) (hn : pc + 3 = n) (k : dk_W G p l e R s m args below meth c cells slots Q n L (dk_r G a 21 :: st) σ) : dk_W G p l e R s m args below meth c cells slots Q pc L (dk_r G a 13 :: st) σ :=
  dk_getR (ci := 2) (k0 := 7) (N := 10) (T := TX2) (Cn := RX2) C dk_sh13 rfl rfl rfl (by decide) dk_ui2 dk_wf_X2_33 hd d hn k
theorem gf_X2_36 {G : dk_G} {p : Program} {l : Launch} {e : Env} {R : Room} {s : State} {m : MethodId} {args : Array Value} {below : List Frame} {meth : Method} {c : Code} {cells slots : Nat} {Q : State → Prop} {cc : ByteArray} {nL : Nat} {pc n : Nat} {L : List (Option Value)} {st : List Value} {σ : dk_S} {a : Nat} (C : dk_C G p R s m args c cells slots cc nL RX2) (hd : (a, 13) ∈ dk_dom G) (d : decode cc pc = .ok (.getfield 36, 3)) (hn : pc + 3 = n) (k : dk_W G p l e R s m args below meth c cells slots Q n L (dk_r G a 22 :: st) σ) : dk_W G p l e R s m args below meth c cells slots Q pc L (dk_r G a 13 :: st) σ :=
  dk_getR (ci := 2) (k0 := 8) (N := 10) (T := TX2) (Cn := RX2) C dk_sh13 rfl rfl rfl (by decide) dk_ui2 dk_wf_X2_36 hd d hn k
theorem gf_X2_39 {G : dk_G} {p : Program} {l : Launch} {e : Env} {R : Room} {s : State} {m : MethodId} {args : Array Value} {below : List Frame} {meth : Method} {c : Code} {cells slots : Nat} {Q : State → Prop} {cc : ByteArray} {nL : Nat} {pc n : Nat} {L : List (Option Value)} {st : List Value} {σ : dk_S} {a : Nat} (C : dk_C G p R s m args c cells slots cc nL RX2) (hd : (a, 13) ∈ dk_dom G) (d : decode cc pc = .ok (.getfield 39, 3)) (hn : pc + 3 = n) (k : dk_W G p l e R s m args below meth c cells slots Q n L (.int (σ a 13 9) :: st) σ) : dk_W G p l e R s m args below meth c cells slots Q pc L (dk_r G a 13 :: st) σ :=
  dk_getI (ci := 2) (k0 := 9) (N := 10) (T := TX2) (Cn := RX2) C dk_sh13 rfl rfl (by decide) dk_ui2 dk_wf_X2_39 hd d hn k
theorem pf_X2_39 {G : dk_G} {p : Program} {l : Launch} {e : Env} {R : Room} {s : State} {m : MethodId} {args : Array Value} {below : List Frame} {meth : Method} {c : Code} {cells slots : Nat} {Q : State → Prop} {cc : ByteArray} {nL : Nat} {pc n : Nat} {L : List (Option Value)} {st : List Value} {σ : dk_S} {a : Nat} {x : Int32} (C : dk_C G p R s m args c cells slots cc nL RX2) (hna : narrow .int (.int x) = .int x) (hfit : fits .int (.int x) = true) (hd : (a, 13) ∈ dk_dom G) (d : decode cc pc = .ok (.putfield 39, 3)) (hn : pc + 3 = n) (k : dk_W G p l e R s m args below meth c cells slots Q n L st (dk_row σ a 13 (upd (σ a 13) 9 x))) : dk_W G p l e R s m args below meth c cells slots Q pc L (.int x :: dk_r G a 13 :: st) σ :=
  dk_put (ci := 2) (k0 := 9) (N := 10) (T := TX2) (Cn := RX2) (ty := .int) C dk_sh13 rfl rfl (by decide) dk_ui2 tyX2 tyX2_ok nmX2 dk_wf_X2_39 (by decide) (by decide) hna hfit hd d hn k
theorem gf_X3_9 {G : dk_G} {p : Program} {l : Launch} {e : Env} {R : Room} {s : State} {m : MethodId} {args : Array Value} {below : List Frame} {meth : Method} {c : Code} {cells slots : Nat} {Q : State → Prop} {cc : ByteArray} {nL : Nat} {pc n : Nat} {L : List (Option Value)} {st : List Value} {σ : dk_S} {a : Nat} (C : dk_C G p R s m args c cells slots cc nL RX3) (hd : (a, 7) ∈ dk_dom G) (d : decode cc pc = .ok (.getfield 9, 3)) (hn : pc + 3 = n) (k : dk_W G p l e R s m args below meth c cells slots Q n L (dk_r G a 8 :: st) σ) : dk_W G p l e R s m args below meth c cells slots Q pc L (dk_r G a 7 :: st) σ :=
  dk_getR (ci := 3) (k0 := 0) (N := 5) (T := TX3) (Cn := RX3) C dk_sh7 rfl rfl rfl (by decide) dk_ui3 dk_wf_X3_9 hd d hn k
theorem gf_X3_15 {G : dk_G} {p : Program} {l : Launch} {e : Env} {R : Room} {s : State} {m : MethodId} {args : Array Value} {below : List Frame} {meth : Method} {c : Code} {cells slots : Nat} {Q : State → Prop} {cc : ByteArray} {nL : Nat} {pc n : Nat} {L : List (Option Value)} {st : List Value} {σ : dk_S} {a : Nat} (C : dk_C G p R s m args c cells slots cc nL RX3) (hd : (a, 7) ∈ dk_dom G) (d : decode cc pc = .ok (.getfield 15, 3)) (hn : pc + 3 = n) (k : dk_W G p l e R s m args below meth c cells slots Q n L (dk_r G a 9 :: st) σ) : dk_W G p l e R s m args below meth c cells slots Q pc L (dk_r G a 7 :: st) σ :=
  dk_getR (ci := 3) (k0 := 1) (N := 5) (T := TX3) (Cn := RX3) C dk_sh7 rfl rfl rfl (by decide) dk_ui3 dk_wf_X3_15 hd d hn k
theorem gf_X3_18 {G : dk_G} {p : Program} {l : Launch} {e : Env} {R : Room} {s : State} {m : MethodId} {args : Array Value} {below : List Frame} {meth : Method} {c : Code} {cells slots : Nat} {Q : State → Prop} {cc : ByteArray} {nL : Nat} {pc n : Nat} {L : List (Option Value)} {st : List Value} {σ : dk_S} {a : Nat} (C : dk_C G p R s m args c cells slots cc nL RX3) (hd : (a, 7) ∈ dk_dom G) (d : decode cc pc = .ok (.getfield 18, 3)) (hn : pc + 3 = n) (k : dk_W G p l e R s m args below meth c cells slots Q n L (dk_r G a 10 :: st) σ) : dk_W G p l e R s m args below meth c cells slots Q pc L (dk_r G a 7 :: st) σ :=
  dk_getR (ci := 3) (k0 := 2) (N := 5) (T := TX3) (Cn := RX3) C dk_sh7 rfl rfl rfl (by decide) dk_ui3 dk_wf_X3_18 hd d hn k
theorem gf_X3_21 {G : dk_G} {p : Program} {l : Launch} {e : Env} {R : Room} {s : State} {m : MethodId} {args : Array Value} {below : List Frame} {meth : Method} {c : Code} {cells slots : Nat} {Q : State → Prop} {cc : ByteArray} {nL : Nat} {pc n : Nat} {L : List (Option Value)} {st : List Value} {σ : dk_S} {a : Nat} (C : dk_C G p R s m args c cells slots cc nL RX3) (hd : (a, 7) ∈ dk_dom G) (d : decode cc pc = .ok (.getfield 21, 3)) (hn : pc + 3 = n) (k : dk_W G p l e R s m args below meth c cells slots Q n L (dk_r G a 11 :: st) σ) : dk_W G p l e R s m args below meth c cells slots Q pc L (dk_r G a 7 :: st) σ :=
  dk_getR (ci := 3) (k0 := 3) (N := 5) (T := TX3) (Cn := RX3) C dk_sh7 rfl rfl rfl (by decide) dk_ui3 dk_wf_X3_21 hd d hn k
theorem gf_X3_24 {G : dk_G} {p : Program} {l : Launch} {e : Env} {R : Room} {s : State} {m : MethodId} {args : Array Value} {below : List Frame} {meth : Method} {c : Code} {cells slots : Nat} {Q : State → Prop} {cc : ByteArray} {nL : Nat} {pc n : Nat} {L : List (Option Value)} {st : List Value} {σ : dk_S} {a : Nat} (C : dk_C G p R s m args c cells slots cc nL RX3) (hd : (a, 7) ∈ dk_dom G) (d : decode cc pc = .ok (.getfield 24, 3)) (hn : pc + 3 = n) (k : dk_W G p l e R s m args below meth c cells slots Q n L (dk_r G a 12 :: st) σ) : dk_W G p l e R s m args below meth c cells slots Q pc L (dk_r G a 7 :: st) σ :=
  dk_getR (ci := 3) (k0 := 4) (N := 5) (T := TX3) (Cn := RX3) C dk_sh7 rfl rfl rfl (by decide) dk_ui3 dk_wf_X3_24 hd d hn k
theorem gf_X4_9 {G : dk_G} {p : Program} {l : Launch} {e : Env} {R : Room} {s : State} {m : MethodId} {args : Array Value} {below : List Frame} {meth : Method} {c : Code} {cells slots : Nat} {Q : State → Prop} {cc : ByteArray} {nL : Nat} {pc n : Nat} {L : List (Option Value)} {st : List Value} {σ : dk_S} {a : Nat} (C : dk_C G p R s m args c cells slots cc nL RX4) (hd : (a, 26) ∈ dk_dom G) (d : decode cc pc = .ok (.getfield 9, 3)) (hn : pc + 3 = n) (k : dk_W G p l e R s m args below meth c cells slots Q n L (dk_r G a 27 :: st) σ) : dk_W G p l e R s m args below meth c cells slots Q pc L (dk_r G a 26 :: st) σ :=
  dk_getR (ci := 4) (k0 := 0) (N := 3) (T := TX4) (Cn := RX4) C dk_sh26 rfl rfl rfl (by decide) dk_ui4 dk_wf_X4_9 hd d hn k
theorem gf_X4_15 {G : dk_G} {p : Program} {l : Launch} {e : Env} {R : Room} {s : State} {m : MethodId} {args : Array Value} {below : List Frame} {meth : Method} {c : Code} {cells slots : Nat} {Q : State → Prop} {cc : ByteArray} {nL : Nat} {pc n : Nat} {L : List (Option Value)} {st : List Value} {σ : dk_S} {a : Nat} (C : dk_C G p R s m args c cells slots cc nL RX4) (hd : (a, 26) ∈ dk_dom G) (d : decode cc pc = .ok (.getfield 15, 3)) (hn : pc + 3 = n) (k : dk_W G p l e R s m args below meth c cells slots Q n L (dk_r G a 28 :: st) σ) : dk_W G p l e R s m args below meth c cells slots Q pc L (dk_r G a 26 :: st) σ :=
  dk_getR (ci := 4) (k0 := 1) (N := 3) (T := TX4) (Cn := RX4) C dk_sh26 rfl rfl rfl (by decide) dk_ui4 dk_wf_X4_15 hd d hn k
theorem gf_X4_18 {G : dk_G} {p : Program} {l : Launch} {e : Env} {R : Room} {s : State} {m : MethodId} {args : Array Value} {below : List Frame} {meth : Method} {c : Code} {cells slots : Nat} {Q : State → Prop} {cc : ByteArray} {nL : Nat} {pc n : Nat} {L : List (Option Value)} {st : List Value} {σ : dk_S} {a : Nat} (C : dk_C G p R s m args c cells slots cc nL RX4) (hd : (a, 26) ∈ dk_dom G) (d : decode cc pc = .ok (.getfield 18, 3)) (hn : pc + 3 = n) (k : dk_W G p l e R s m args below meth c cells slots Q n L (.int (σ a 26 2) :: st) σ) : dk_W G p l e R s m args below meth c cells slots Q pc L (dk_r G a 26 :: st) σ :=
  dk_getI (ci := 4) (k0 := 2) (N := 3) (T := TX4) (Cn := RX4) C dk_sh26 rfl rfl (by decide) dk_ui4 dk_wf_X4_18 hd d hn k
theorem pf_X4_18 {G : dk_G} {p : Program} {l : Launch} {e : Env} {R : Room} {s : State} {m : MethodId} {args : Array Value} {below : List Frame} {meth : Method} {c : Code} {cells slots : Nat} {Q : State → Prop} {cc : ByteArray} {nL : Nat} {pc n : Nat} {L : List (Option Value)} {st : List Value} {σ : dk_S} {a : Nat} {x : Int32} (C : dk_C G p R s m args c cells slots cc nL RX4) (hna : narrow .int (.int x) = .int x) (hfit : fits .int (.int x) = true) (hd : (a, 26) ∈ dk_dom G) (d : decode cc pc = .ok (.putfield 18, 3)) (hn : pc + 3 = n) (k : dk_W G p l e R s m args below meth c cells slots Q n L st (dk_row σ a 26 (upd (σ a 26) 2 x))) : dk_W G p l e R s m args below meth c cells slots Q pc L (.int x :: dk_r G a 26 :: st) σ :=
  dk_put (ci := 4) (k0 := 2) (N := 3) (T := TX4) (Cn := RX4) (ty := .int) C dk_sh26 rfl rfl (by decide) dk_ui4 tyX4 tyX4_ok nmX4 dk_wf_X4_18 (by decide) (by decide) hna hfit hd d hn k
theorem gf_X5_21 {G : dk_G} {p : Program} {l : Launch} {e : Env} {R : Room} {s : State} {m : MethodId} {args : Array Value} {below : List Frame} {meth : Method} {c : Code} {cells slots : Nat} {Q : State → Prop} {cc : ByteArray} {nL : Nat} {pc n : Nat} {L : List (Option Value)} {st : List Value} {σ : dk_S} {a : Nat} (C : dk_C G p R s m args c cells slots cc nL RX5) (hd : (a, 41) ∈ dk_dom G) (d : decode cc pc = .ok (.getfield 21, 3)) (hn : pc + 3 = n) (k : dk_W G p l e R s m args below meth c cells slots Q n L (.int (σ a 41 3) :: st) σ) : dk_W G p l e R s m args below meth c cells slots Q pc L (dk_r G a 41 :: st) σ :=
  dk_getI (ci := 5) (k0 := 3) (N := 4) (T := TX5) (Cn := RX5) C dk_sh41 rfl rfl (by decide) dk_ui5 dk_wf_X5_21 hd d hn k
theorem gf_X5_9 {G : dk_G} {p : Program} {l : Launch} {e : Env} {R : Room} {s : State} {m : MethodId} {args : Array Value} {below : List Frame} {meth : Method} {c : Code} {cells slots : Nat} {Q : State → Prop} {cc : ByteArray} {nL : Nat} {pc n : Nat} {L : List (Option Value)} {st : List Value} {σ : dk_S} {a : Nat} (C : dk_C G p R s m args c cells slots cc nL RX5) (hd : (a, 41) ∈ dk_dom G) (d : decode cc pc = .ok (.getfield 9, 3)) (hn : pc + 3 = n) (k : dk_W G p l e R s m args below meth c cells slots Q n L (dk_r G a 42 :: st) σ) : dk_W G p l e R s m args below meth c cells slots Q pc L (dk_r G a 41 :: st) σ :=
  dk_getR (ci := 5) (k0 := 0) (N := 4) (T := TX5) (Cn := RX5) C dk_sh41 rfl rfl rfl (by decide) dk_ui5 dk_wf_X5_9 hd d hn k
theorem gf_X5_15 {G : dk_G} {p : Program} {l : Launch} {e : Env} {R : Room} {s : State} {m : MethodId} {args : Array Value} {below : List Frame} {meth : Method} {c : Code} {cells slots : Nat} {Q : State → Prop} {cc : ByteArray} {nL : Nat} {pc n : Nat} {L : List (Option Value)} {st : List Value} {σ : dk_S} {a : Nat} (C : dk_C G p R s m args c cells slots cc nL RX5) (hd : (a, 41) ∈ dk_dom G) (d : decode cc pc = .ok (.getfield 15, 3)) (hn : pc + 3 = n) (k : dk_W G p l e R s m args below meth c cells slots Q n L (dk_r G a 43 :: st) σ) : dk_W G p l e R s m args below meth c cells slots Q pc L (dk_r G a 41 :: st) σ :=
  dk_getR (ci := 5) (k0 := 1) (N := 4) (T := TX5) (Cn := RX5) C dk_sh41 rfl rfl rfl (by decide) dk_ui5 dk_wf_X5_15 hd d hn k
theorem gf_X5_18 {G : dk_G} {p : Program} {l : Launch} {e : Env} {R : Room} {s : State} {m : MethodId} {args : Array Value} {below : List Frame} {meth : Method} {c : Code} {cells slots : Nat} {Q : State → Prop} {cc : ByteArray} {nL : Nat} {pc n : Nat} {L : List (Option Value)} {st : List Value} {σ : dk_S} {a : Nat} (C : dk_C G p R s m args c cells slots cc nL RX5) (hd : (a, 41) ∈ dk_dom G) (d : decode cc pc = .ok (.getfield 18, 3)) (hn : pc + 3 = n) (k : dk_W G p l e R s m args below meth c cells slots Q n L (dk_r G a 44 :: st) σ) : dk_W G p l e R s m args below meth c cells slots Q pc L (dk_r G a 41 :: st) σ :=
  dk_getR (ci := 5) (k0 := 2) (N := 4) (T := TX5) (Cn := RX5) C dk_sh41 rfl rfl rfl (by decide) dk_ui5 dk_wf_X5_18 hd d hn k
theorem pf_X5_21 {G : dk_G} {p : Program} {l : Launch} {e : Env} {R : Room} {s : State} {m : MethodId} {args : Array Value} {below : List Frame} {meth : Method} {c : Code} {cells slots : Nat} {Q : State → Prop} {cc : ByteArray} {nL : Nat} {pc n : Nat} {L : List (Option Value)} {st : List Value} {σ : dk_S} {a : Nat} {x : Int32} (C : dk_C G p R s m args c cells slots cc nL RX5) (hna : narrow .int (.int x) = .int x) (hfit : fits .int (.int x) = true) (hd : (a, 41) ∈ dk_dom G) (d : decode cc pc = .ok (.putfield 21, 3)) (hn : pc + 3 = n) (k : dk_W G p l e R s m args below meth c cells slots Q n L st (dk_row σ a 41 (upd (σ a 41) 3 x))) : dk_W G p l e R s m args below meth c cells slots Q pc L (.int x :: dk_r G a 41 :: st) σ :=
  dk_put (ci := 5) (k0 := 3) (N := 4) (T := TX5) (Cn := RX5) (ty := .int) C dk_sh41 rfl rfl (by decide) dk_ui5 tyX5 tyX5_ok nmX5 dk_wf_X5_21 (by decide) (by decide) hna hfit hd d hn k
theorem gf_X6_9 {G : dk_G} {p : Program} {l : Launch} {e : Env} {R : Room} {s : State} {m : MethodId} {args : Array Value} {below : List Frame} {meth : Method} {c : Code} {cells slots : Nat} {Q : State → Prop} {cc : ByteArray} {nL : Nat} {pc n : Nat} {L : List (Option Value)} {st : List Value} {σ : dk_S} {a : Nat} (C : dk_C G p R s m args c cells slots cc nL RX6) (hd : (a, 23) ∈ dk_dom G) (d : decode cc pc = .ok (.getfield 9, 3)) (hn : pc + 3 = n) (k : dk_W G p l e R s m args below meth c cells slots Q n L (dk_r G a 24 :: st) σ) : dk_W G p l e R s m args below meth c cells slots Q pc L (dk_r G a 23 :: st) σ :=
  dk_getR (ci := 6) (k0 := 0) (N := 3) (T := TX6) (Cn := RX6) C dk_sh23 rfl rfl rfl (by decide) dk_ui6 dk_wf_X6_9 hd d hn k
theorem gf_X6_18 {G : dk_G} {p : Program} {l : Launch} {e : Env} {R : Room} {s : State} {m : MethodId} {args : Array Value} {below : List Frame} {meth : Method} {c : Code} {cells slots : Nat} {Q : State → Prop} {cc : ByteArray} {nL : Nat} {pc n : Nat} {L : List (Option Value)} {st : List Value} {σ : dk_S} {a : Nat} (C : dk_C G p R s m args c cells slots cc nL RX6) (hd : (a, 23) ∈ dk_dom G) (d : decode cc pc = .ok (.getfield 18, 3)) (hn : pc + 3 = n) (k : dk_W G p l e R s m args below meth c cells slots Q n L (.int (σ a 23 2) :: st) σ) : dk_W G p l e R s m args below meth c cells slots Q pc L (dk_r G a 23 :: st) σ :=
  dk_getI (ci := 6) (k0 := 2) (N := 3) (T := TX6) (Cn := RX6) C dk_sh23 rfl rfl (by decide) dk_ui6 dk_wf_X6_18 hd d hn k
theorem pf_X6_18 {G : dk_G} {p : Program} {l : Launch} {e : Env} {R : Room} {s : State} {m : MethodId} {args : Array Value} {below : List Frame} {meth : Method} {c : Code} {cells slots : Nat} {Q : State → Prop} {cc : ByteArray} {nL : Nat} {pc n : Nat} {L : List (Option Value)} {st : List Value} {σ : dk_S} {a : Nat} {x : Int32} (C : dk_C G p R s m args c cells slots cc nL RX6) (hna : narrow .int (.int x) = .int x) (hfit : fits .int (.int x) = true) (hd : (a, 23) ∈ dk_dom G) (d : decode cc pc = .ok (.putfield 18, 3)) (hn : pc + 3 = n) (k : dk_W G p l e R s m args below meth c cells slots Q n L st (dk_row σ a 23 (upd (σ a 23) 2 x))) : dk_W G p l e R s m args below meth c cells slots Q pc L (.int x :: dk_r G a 23 :: st) σ :=
  dk_put (ci := 6) (k0 := 2) (N := 3) (T := TX6) (Cn := RX6) (ty := .int) C dk_sh23 rfl rfl (by decide) dk_ui6 tyX6 tyX6_ok nmX6 dk_wf_X6_18 (by decide) (by decide) hna hfit hd d hn k
theorem gf_X6_42 {G : dk_G} {p : Program} {l : Launch} {e : Env} {R : Room} {s : State} {m : MethodId} {args : Array Value} {below : List Frame} {meth : Method} {c : Code} {cells slots : Nat} {Q : State → Prop} {cc : ByteArray} {nL : Nat} {pc n : Nat} {L : List (Option Value)} {st : List Value} {σ : dk_S} {a : Nat} (C : dk_C G p R s m args c cells slots cc nL RX6) (hd : (a, 7) ∈ dk_dom G) (d : decode cc pc = .ok (.getfield 42, 3)) (hn : pc + 3 = n) (k : dk_W G p l e R s m args below meth c cells slots Q n L (dk_r G a 8 :: st) σ) : dk_W G p l e R s m args below meth c cells slots Q pc L (dk_r G a 7 :: st) σ :=
  dk_getR (ci := 3) (k0 := 0) (N := 5) (T := TX3) (Cn := RX3) C dk_sh7 rfl rfl rfl (by decide) dk_ui3 dk_wf_X6_42 hd d hn k
theorem gf_X7_12 {G : dk_G} {p : Program} {l : Launch} {e : Env} {R : Room} {s : State} {m : MethodId} {args : Array Value} {below : List Frame} {meth : Method} {c : Code} {cells slots : Nat} {Q : State → Prop} {cc : ByteArray} {nL : Nat} {pc n : Nat} {L : List (Option Value)} {st : List Value} {σ : dk_S} {a : Nat} (C : dk_C G p R s m args c cells slots cc nL RX7) (hd : (a, 0) ∈ dk_dom G) (d : decode cc pc = .ok (.getfield 12, 3)) (hn : pc + 3 = n) (k : dk_W G p l e R s m args below meth c cells slots Q n L (dk_r G a 1 :: st) σ) : dk_W G p l e R s m args below meth c cells slots Q pc L (dk_r G a 0 :: st) σ :=
  dk_getR (ci := 7) (k0 := 0) (N := 10) (T := TX7) (Cn := RX7) C dk_sh0 rfl rfl rfl (by decide) dk_ui7 dk_wf_X7_12 hd d hn k
theorem gf_X7_21 {G : dk_G} {p : Program} {l : Launch} {e : Env} {R : Room} {s : State} {m : MethodId} {args : Array Value} {below : List Frame} {meth : Method} {c : Code} {cells slots : Nat} {Q : State → Prop} {cc : ByteArray} {nL : Nat} {pc n : Nat} {L : List (Option Value)} {st : List Value} {σ : dk_S} {a : Nat} (C : dk_C G p R s m args c cells slots cc nL RX7) (hd : (a, 0) ∈ dk_dom G) (d : decode cc pc = .ok (.getfield 21, 3)) (hn : pc + 3 = n) (k : dk_W G p l e R s m args below meth c cells slots Q n L (dk_r G a 7 :: st) σ) : dk_W G p l e R s m args below meth c cells slots Q pc L (dk_r G a 0 :: st) σ :=
  dk_getR (ci := 7) (k0 := 1) (N := 10) (T := TX7) (Cn := RX7) C dk_sh0 rfl rfl rfl (by decide) dk_ui7 dk_wf_X7_21 hd d hn k
theorem gf_X7_35 {G : dk_G} {p : Program} {l : Launch} {e : Env} {R : Room} {s : State} {m : MethodId} {args : Array Value} {below : List Frame} {meth : Method} {c : Code} {cells slots : Nat} {Q : State → Prop} {cc : ByteArray} {nL : Nat} {pc n : Nat} {L : List (Option Value)} {st : List Value} {σ : dk_S} {a : Nat} (C : dk_C G p R s m args c cells slots cc nL RX7) (hd : (a, 0) ∈ dk_dom G) (d : decode cc pc = .ok (.getfield 35, 3)) (hn : pc + 3 = n) (k : dk_W G p l e R s m args below meth c cells slots Q n L (dk_r G a 23 :: st) σ) : dk_W G p l e R s m args below meth c cells slots Q pc L (dk_r G a 0 :: st) σ :=
  dk_getR (ci := 7) (k0 := 3) (N := 10) (T := TX7) (Cn := RX7) C dk_sh0 rfl rfl rfl (by decide) dk_ui7 dk_wf_X7_35 hd d hn k
theorem gf_X7_42 {G : dk_G} {p : Program} {l : Launch} {e : Env} {R : Room} {s : State} {m : MethodId} {args : Array Value} {below : List Frame} {meth : Method} {c : Code} {cells slots : Nat} {Q : State → Prop} {cc : ByteArray} {nL : Nat} {pc n : Nat} {L : List (Option Value)} {st : List Value} {σ : dk_S} {a : Nat} (C : dk_C G p R s m args c cells slots cc nL RX7) (hd : (a, 0) ∈ dk_dom G) (d : decode cc pc = .ok (.getfield 42, 3)) (hn : pc + 3 = n) (k : dk_W G p l e R s m args below meth c cells slots Q n L (dk_r G a 26 :: st) σ) : dk_W G p l e R s m args below meth c cells slots Q pc L (dk_r G a 0 :: st) σ :=
  dk_getR (ci := 7) (k0 := 4) (N := 10) (T := TX7) (Cn := RX7) C dk_sh0 rfl rfl rfl (by decide) dk_ui7 dk_wf_X7_42 hd d hn k
theorem pf_X7_46 {G : dk_G} {p : Program} {l : Launch} {e : Env} {R : Room} {s : State} {m : MethodId} {args : Array Value} {below : List Frame} {meth : Method} {c : Code} {cells slots : Nat} {Q : State → Prop} {cc : ByteArray} {nL : Nat} {pc n : Nat} {L : List (Option Value)} {st : List Value} {σ : dk_S} {a : Nat} {x : Int32} (C : dk_C G p R s m args c cells slots cc nL RX7) (hna : narrow .int (.int x) = .int x) (hfit : fits .int (.int x) = true) (hd : (a, 0) ∈ dk_dom G) (d : decode cc pc = .ok (.putfield 46, 3)) (hn : pc + 3 = n) (k : dk_W G p l e R s m args below meth c cells slots Q n L st (dk_row σ a 0 (upd (σ a 0) 5 x))) : dk_W G p l e R s m args below meth c cells slots Q pc L (.int x :: dk_r G a 0 :: st) σ :=
  dk_put (ci := 7) (k0 := 5) (N := 10) (T := TX7) (Cn := RX7) (ty := .int) C dk_sh0 rfl rfl (by decide) dk_ui7 tyX7 tyX7_ok nmX7 dk_wf_X7_46 (by decide) (by decide) hna hfit hd d hn k
theorem pf_X7_53 {G : dk_G} {p : Program} {l : Launch} {e : Env} {R : Room} {s : State} {m : MethodId} {args : Array Value} {below : List Frame} {meth : Method} {c : Code} {cells slots : Nat} {Q : State → Prop} {cc : ByteArray} {nL : Nat} {pc n : Nat} {L : List (Option Value)} {st : List Value} {σ : dk_S} {a : Nat} {x : Int32} (C : dk_C G p R s m args c cells slots cc nL RX7) (hna : narrow .int (.int x) = .int x) (hfit : fits .int (.int x) = true) (hd : (a, 0) ∈ dk_dom G) (d : decode cc pc = .ok (.putfield 53, 3)) (hn : pc + 3 = n) (k : dk_W G p l e R s m args below meth c cells slots Q n L st (dk_row σ a 0 (upd (σ a 0) 7 x))) : dk_W G p l e R s m args below meth c cells slots Q pc L (.int x :: dk_r G a 0 :: st) σ :=
  dk_put (ci := 7) (k0 := 7) (N := 10) (T := TX7) (Cn := RX7) (ty := .int) C dk_sh0 rfl rfl (by decide) dk_ui7 tyX7 tyX7_ok nmX7 dk_wf_X7_53 (by decide) (by decide) hna hfit hd d hn k
theorem pf_X7_56 {G : dk_G} {p : Program} {l : Launch} {e : Env} {R : Room} {s : State} {m : MethodId} {args : Array Value} {below : List Frame} {meth : Method} {c : Code} {cells slots : Nat} {Q : State → Prop} {cc : ByteArray} {nL : Nat} {pc n : Nat} {L : List (Option Value)} {st : List Value} {σ : dk_S} {a : Nat} {x : Int32} (C : dk_C G p R s m args c cells slots cc nL RX7) (hna : narrow .int (.int x) = .int x) (hfit : fits .int (.int x) = true) (hd : (a, 0) ∈ dk_dom G) (d : decode cc pc = .ok (.putfield 56, 3)) (hn : pc + 3 = n) (k : dk_W G p l e R s m args below meth c cells slots Q n L st (dk_row σ a 0 (upd (σ a 0) 8 x))) : dk_W G p l e R s m args below meth c cells slots Q pc L (.int x :: dk_r G a 0 :: st) σ :=
  dk_put (ci := 7) (k0 := 8) (N := 10) (T := TX7) (Cn := RX7) (ty := .int) C dk_sh0 rfl rfl (by decide) dk_ui7 tyX7 tyX7_ok nmX7 dk_wf_X7_56 (by decide) (by decide) hna hfit hd d hn k
theorem pf_X7_59 {G : dk_G} {p : Program} {l : Launch} {e : Env} {R : Room} {s : State} {m : MethodId} {args : Array Value} {below : List Frame} {meth : Method} {c : Code} {cells slots : Nat} {Q : State → Prop} {cc : ByteArray} {nL : Nat} {pc n : Nat} {L : List (Option Value)} {st : List Value} {σ : dk_S} {a : Nat} {x : Int32} (C : dk_C G p R s m args c cells slots cc nL RX7) (hna : narrow .int (.int x) = .int x) (hfit : fits .int (.int x) = true) (hd : (a, 0) ∈ dk_dom G) (d : decode cc pc = .ok (.putfield 59, 3)) (hn : pc + 3 = n) (k : dk_W G p l e R s m args below meth c cells slots Q n L st (dk_row σ a 0 (upd (σ a 0) 9 x))) : dk_W G p l e R s m args below meth c cells slots Q pc L (.int x :: dk_r G a 0 :: st) σ :=
  dk_put (ci := 7) (k0 := 9) (N := 10) (T := TX7) (Cn := RX7) (ty := .int) C dk_sh0 rfl rfl (by decide) dk_ui7 tyX7 tyX7_ok nmX7 dk_wf_X7_59 (by decide) (by decide) hna hfit hd d hn k
theorem gf_X7_86 {G : dk_G} {p : Program} {l : Launch} {e : Env} {R : Room} {s : State} {m : MethodId} {args : Array Value} {below : List Frame} {meth : Method} {c : Code} {cells slots : Nat} {Q : State → Prop} {cc : ByteArray} {nL : Nat} {pc n : Nat} {L : List (Option Value)} {st : List Value} {σ : dk_S} {a : Nat} (C : dk_C G p R s m args c cells slots cc nL RX7) (hd : (a, 13) ∈ dk_dom G) (d : decode cc pc = .ok (.getfield 86, 3)) (hn : pc + 3 = n) (k : dk_W G p l e R s m args below meth c cells slots Q n L (.int (σ a 13 9) :: st) σ) : dk_W G p l e R s m args below meth c cells slots Q pc L (dk_r G a 13 :: st) σ :=
  dk_getI (ci := 2) (k0 := 9) (N := 10) (T := TX2) (Cn := RX2) C dk_sh13 rfl rfl (by decide) dk_ui2 dk_wf_X7_86 hd d hn k
theorem gf_X7_56 {G : dk_G} {p : Program} {l : Launch} {e : Env} {R : Room} {s : State} {m : MethodId} {args : Array Value} {below : List Frame} {meth : Method} {c : Code} {cells slots : Nat} {Q : State → Prop} {cc : ByteArray} {nL : Nat} {pc n : Nat} {L : List (Option Value)} {st : List Value} {σ : dk_S} {a : Nat} (C : dk_C G p R s m args c cells slots cc nL RX7) (hd : (a, 0) ∈ dk_dom G) (d : decode cc pc = .ok (.getfield 56, 3)) (hn : pc + 3 = n) (k : dk_W G p l e R s m args below meth c cells slots Q n L (.int (σ a 0 8) :: st) σ) : dk_W G p l e R s m args below meth c cells slots Q pc L (dk_r G a 0 :: st) σ :=
  dk_getI (ci := 7) (k0 := 8) (N := 10) (T := TX7) (Cn := RX7) C dk_sh0 rfl rfl (by decide) dk_ui7 dk_wf_X7_56 hd d hn k
theorem gf_X7_59 {G : dk_G} {p : Program} {l : Launch} {e : Env} {R : Room} {s : State} {m : MethodId} {args : Array Value} {below : List Frame} {meth : Method} {c : Code} {cells slots : Nat} {Q : State → Prop} {cc : ByteArray} {nL : Nat} {pc n : Nat} {L : List (Option Value)} {st : List Value} {σ : dk_S} {a : Nat} (C : dk_C G p R s m args c cells slots cc nL RX7) (hd : (a, 0) ∈ dk_dom G) (d : decode cc pc = .ok (.getfield 59, 3)) (hn : pc + 3 = n) (k : dk_W G p l e R s m args below meth c cells slots Q n L (.int (σ a 0 9) :: st) σ) : dk_W G p l e R s m args below meth c cells slots Q pc L (dk_r G a 0 :: st) σ :=
  dk_getI (ci := 7) (k0 := 9) (N := 10) (T := TX7) (Cn := RX7) C dk_sh0 rfl rfl (by decide) dk_ui7 dk_wf_X7_59 hd d hn k
theorem gf_X7_50 {G : dk_G} {p : Program} {l : Launch} {e : Env} {R : Room} {s : State} {m : MethodId} {args : Array Value} {below : List Frame} {meth : Method} {c : Code} {cells slots : Nat} {Q : State → Prop} {cc : ByteArray} {nL : Nat} {pc n : Nat} {L : List (Option Value)} {st : List Value} {σ : dk_S} {a : Nat} (C : dk_C G p R s m args c cells slots cc nL RX7) (hd : (a, 0) ∈ dk_dom G) (d : decode cc pc = .ok (.getfield 50, 3)) (hn : pc + 3 = n) (k : dk_W G p l e R s m args below meth c cells slots Q n L (.int (σ a 0 6) :: st) σ) : dk_W G p l e R s m args below meth c cells slots Q pc L (dk_r G a 0 :: st) σ :=
  dk_getI (ci := 7) (k0 := 6) (N := 10) (T := TX7) (Cn := RX7) C dk_sh0 rfl rfl (by decide) dk_ui7 dk_wf_X7_50 hd d hn k
theorem gf_X7_115 {G : dk_G} {p : Program} {l : Launch} {e : Env} {R : Room} {s : State} {m : MethodId} {args : Array Value} {below : List Frame} {meth : Method} {c : Code} {cells slots : Nat} {Q : State → Prop} {cc : ByteArray} {nL : Nat} {pc n : Nat} {L : List (Option Value)} {st : List Value} {σ : dk_S} {a : Nat} (C : dk_C G p R s m args c cells slots cc nL RX7) (hd : (a, 1) ∈ dk_dom G) (d : decode cc pc = .ok (.getfield 115, 3)) (hn : pc + 3 = n) (k : dk_W G p l e R s m args below meth c cells slots Q n L (dk_r G a 5 :: st) σ) : dk_W G p l e R s m args below meth c cells slots Q pc L (dk_r G a 1 :: st) σ :=
  dk_getR (ci := 1) (k0 := 3) (N := 6) (T := TX1) (Cn := RX1) C dk_sh1 rfl rfl rfl (by decide) dk_ui1 dk_wf_X7_115 hd d hn k
theorem gf_X7_46 {G : dk_G} {p : Program} {l : Launch} {e : Env} {R : Room} {s : State} {m : MethodId} {args : Array Value} {below : List Frame} {meth : Method} {c : Code} {cells slots : Nat} {Q : State → Prop} {cc : ByteArray} {nL : Nat} {pc n : Nat} {L : List (Option Value)} {st : List Value} {σ : dk_S} {a : Nat} (C : dk_C G p R s m args c cells slots cc nL RX7) (hd : (a, 0) ∈ dk_dom G) (d : decode cc pc = .ok (.getfield 46, 3)) (hn : pc + 3 = n) (k : dk_W G p l e R s m args below meth c cells slots Q n L (.int (σ a 0 5) :: st) σ) : dk_W G p l e R s m args below meth c cells slots Q pc L (dk_r G a 0 :: st) σ :=
  dk_getI (ci := 7) (k0 := 5) (N := 10) (T := TX7) (Cn := RX7) C dk_sh0 rfl rfl (by decide) dk_ui7 dk_wf_X7_46 hd d hn k
theorem gf_X7_53 {G : dk_G} {p : Program} {l : Launch} {e : Env} {R : Room} {s : State} {m : MethodId} {args : Array Value} {below : List Frame} {meth : Method} {c : Code} {cells slots : Nat} {Q : State → Prop} {cc : ByteArray} {nL : Nat} {pc n : Nat} {L : List (Option Value)} {st : List Value} {σ : dk_S} {a : Nat} (C : dk_C G p R s m args c cells slots cc nL RX7) (hd : (a, 0) ∈ dk_dom G) (d : decode cc pc = .ok (.getfield 53, 3)) (hn : pc + 3 = n) (k : dk_W G p l e R s m args below meth c cells slots Q n L (.int (σ a 0 7) :: st) σ) : dk_W G p l e R s m args below meth c cells slots Q pc L (dk_r G a 0 :: st) σ :=
  dk_getI (ci := 7) (k0 := 7) (N := 10) (T := TX7) (Cn := RX7) C dk_sh0 rfl rfl (by decide) dk_ui7 dk_wf_X7_53 hd d hn k
theorem gf_X7_271 {G : dk_G} {p : Program} {l : Launch} {e : Env} {R : Room} {s : State} {m : MethodId} {args : Array Value} {below : List Frame} {meth : Method} {c : Code} {cells slots : Nat} {Q : State → Prop} {cc : ByteArray} {nL : Nat} {pc n : Nat} {L : List (Option Value)} {st : List Value} {σ : dk_S} {a : Nat} (C : dk_C G p R s m args c cells slots cc nL RX7) (hd : (a, 13) ∈ dk_dom G) (d : decode cc pc = .ok (.getfield 271, 3)) (hn : pc + 3 = n) (k : dk_W G p l e R s m args below meth c cells slots Q n L (dk_r G a 22 :: st) σ) : dk_W G p l e R s m args below meth c cells slots Q pc L (dk_r G a 13 :: st) σ :=
  dk_getR (ci := 2) (k0 := 8) (N := 10) (T := TX2) (Cn := RX2) C dk_sh13 rfl rfl rfl (by decide) dk_ui2 dk_wf_X7_271 hd d hn k
theorem gf_X7_141 {G : dk_G} {p : Program} {l : Launch} {e : Env} {R : Room} {s : State} {m : MethodId} {args : Array Value} {below : List Frame} {meth : Method} {c : Code} {cells slots : Nat} {Q : State → Prop} {cc : ByteArray} {nL : Nat} {pc n : Nat} {L : List (Option Value)} {st : List Value} {σ : dk_S} {a : Nat} (C : dk_C G p R s m args c cells slots cc nL RX7) (hd : (a, 23) ∈ dk_dom G) (d : decode cc pc = .ok (.getfield 141, 3)) (hn : pc + 3 = n) (k : dk_W G p l e R s m args below meth c cells slots Q n L (dk_r G a 25 :: st) σ) : dk_W G p l e R s m args below meth c cells slots Q pc L (dk_r G a 23 :: st) σ :=
  dk_getR (ci := 6) (k0 := 1) (N := 3) (T := TX6) (Cn := RX6) C dk_sh23 rfl rfl rfl (by decide) dk_ui6 dk_wf_X7_141 hd d hn k
theorem gf_X7_210 {G : dk_G} {p : Program} {l : Launch} {e : Env} {R : Room} {s : State} {m : MethodId} {args : Array Value} {below : List Frame} {meth : Method} {c : Code} {cells slots : Nat} {Q : State → Prop} {cc : ByteArray} {nL : Nat} {pc n : Nat} {L : List (Option Value)} {st : List Value} {σ : dk_S} {a : Nat} (C : dk_C G p R s m args c cells slots cc nL RX7) (hd : (a, 23) ∈ dk_dom G) (d : decode cc pc = .ok (.getfield 210, 3)) (hn : pc + 3 = n) (k : dk_W G p l e R s m args below meth c cells slots Q n L (dk_r G a 24 :: st) σ) : dk_W G p l e R s m args below meth c cells slots Q pc L (dk_r G a 23 :: st) σ :=
  dk_getR (ci := 6) (k0 := 0) (N := 3) (T := TX6) (Cn := RX6) C dk_sh23 rfl rfl rfl (by decide) dk_ui6 dk_wf_X7_210 hd d hn k
theorem gf_X7_232 {G : dk_G} {p : Program} {l : Launch} {e : Env} {R : Room} {s : State} {m : MethodId} {args : Array Value} {below : List Frame} {meth : Method} {c : Code} {cells slots : Nat} {Q : State → Prop} {cc : ByteArray} {nL : Nat} {pc n : Nat} {L : List (Option Value)} {st : List Value} {σ : dk_S} {a : Nat} (C : dk_C G p R s m args c cells slots cc nL RX7) (hd : (a, 7) ∈ dk_dom G) (d : decode cc pc = .ok (.getfield 232, 3)) (hn : pc + 3 = n) (k : dk_W G p l e R s m args below meth c cells slots Q n L (dk_r G a 11 :: st) σ) : dk_W G p l e R s m args below meth c cells slots Q pc L (dk_r G a 7 :: st) σ :=
  dk_getR (ci := 3) (k0 := 3) (N := 5) (T := TX3) (Cn := RX3) C dk_sh7 rfl rfl rfl (by decide) dk_ui3 dk_wf_X7_232 hd d hn k
theorem gf_X7_235 {G : dk_G} {p : Program} {l : Launch} {e : Env} {R : Room} {s : State} {m : MethodId} {args : Array Value} {below : List Frame} {meth : Method} {c : Code} {cells slots : Nat} {Q : State → Prop} {cc : ByteArray} {nL : Nat} {pc n : Nat} {L : List (Option Value)} {st : List Value} {σ : dk_S} {a : Nat} (C : dk_C G p R s m args c cells slots cc nL RX7) (hd : (a, 7) ∈ dk_dom G) (d : decode cc pc = .ok (.getfield 235, 3)) (hn : pc + 3 = n) (k : dk_W G p l e R s m args below meth c cells slots Q n L (dk_r G a 10 :: st) σ) : dk_W G p l e R s m args below meth c cells slots Q pc L (dk_r G a 7 :: st) σ :=
  dk_getR (ci := 3) (k0 := 2) (N := 5) (T := TX3) (Cn := RX3) C dk_sh7 rfl rfl rfl (by decide) dk_ui3 dk_wf_X7_235 hd d hn k
theorem gf_X7_247 {G : dk_G} {p : Program} {l : Launch} {e : Env} {R : Room} {s : State} {m : MethodId} {args : Array Value} {below : List Frame} {meth : Method} {c : Code} {cells slots : Nat} {Q : State → Prop} {cc : ByteArray} {nL : Nat} {pc n : Nat} {L : List (Option Value)} {st : List Value} {σ : dk_S} {a : Nat} (C : dk_C G p R s m args c cells slots cc nL RX7) (hd : (a, 23) ∈ dk_dom G) (d : decode cc pc = .ok (.getfield 247, 3)) (hn : pc + 3 = n) (k : dk_W G p l e R s m args below meth c cells slots Q n L (.int (σ a 23 2) :: st) σ) : dk_W G p l e R s m args below meth c cells slots Q pc L (dk_r G a 23 :: st) σ :=
  dk_getI (ci := 6) (k0 := 2) (N := 3) (T := TX6) (Cn := RX6) C dk_sh23 rfl rfl (by decide) dk_ui6 dk_wf_X7_247 hd d hn k
theorem gf_X7_223 {G : dk_G} {p : Program} {l : Launch} {e : Env} {R : Room} {s : State} {m : MethodId} {args : Array Value} {below : List Frame} {meth : Method} {c : Code} {cells slots : Nat} {Q : State → Prop} {cc : ByteArray} {nL : Nat} {pc n : Nat} {L : List (Option Value)} {st : List Value} {σ : dk_S} {a : Nat} (C : dk_C G p R s m args c cells slots cc nL RX7) (hd : (a, 13) ∈ dk_dom G) (d : decode cc pc = .ok (.getfield 223, 3)) (hn : pc + 3 = n) (k : dk_W G p l e R s m args below meth c cells slots Q n L (dk_r G a 18 :: st) σ) : dk_W G p l e R s m args below meth c cells slots Q pc L (dk_r G a 13 :: st) σ :=
  dk_getR (ci := 2) (k0 := 4) (N := 10) (T := TX2) (Cn := RX2) C dk_sh13 rfl rfl rfl (by decide) dk_ui2 dk_wf_X7_223 hd d hn k
theorem gf_X7_229 {G : dk_G} {p : Program} {l : Launch} {e : Env} {R : Room} {s : State} {m : MethodId} {args : Array Value} {below : List Frame} {meth : Method} {c : Code} {cells slots : Nat} {Q : State → Prop} {cc : ByteArray} {nL : Nat} {pc n : Nat} {L : List (Option Value)} {st : List Value} {σ : dk_S} {a : Nat} (C : dk_C G p R s m args c cells slots cc nL RX7) (hd : (a, 7) ∈ dk_dom G) (d : decode cc pc = .ok (.getfield 229, 3)) (hn : pc + 3 = n) (k : dk_W G p l e R s m args below meth c cells slots Q n L (dk_r G a 12 :: st) σ) : dk_W G p l e R s m args below meth c cells slots Q pc L (dk_r G a 7 :: st) σ :=
  dk_getR (ci := 3) (k0 := 4) (N := 5) (T := TX3) (Cn := RX3) C dk_sh7 rfl rfl rfl (by decide) dk_ui3 dk_wf_X7_229 hd d hn k
theorem gf_X7_254 {G : dk_G} {p : Program} {l : Launch} {e : Env} {R : Room} {s : State} {m : MethodId} {args : Array Value} {below : List Frame} {meth : Method} {c : Code} {cells slots : Nat} {Q : State → Prop} {cc : ByteArray} {nL : Nat} {pc n : Nat} {L : List (Option Value)} {st : List Value} {σ : dk_S} {a : Nat} (C : dk_C G p R s m args c cells slots cc nL RX7) (hd : (a, 13) ∈ dk_dom G) (d : decode cc pc = .ok (.getfield 254, 3)) (hn : pc + 3 = n) (k : dk_W G p l e R s m args below meth c cells slots Q n L (dk_r G a 17 :: st) σ) : dk_W G p l e R s m args below meth c cells slots Q pc L (dk_r G a 13 :: st) σ :=
  dk_getR (ci := 2) (k0 := 3) (N := 10) (T := TX2) (Cn := RX2) C dk_sh13 rfl rfl rfl (by decide) dk_ui2 dk_wf_X7_254 hd d hn k
theorem gf_X7_290 {G : dk_G} {p : Program} {l : Launch} {e : Env} {R : Room} {s : State} {m : MethodId} {args : Array Value} {below : List Frame} {meth : Method} {c : Code} {cells slots : Nat} {Q : State → Prop} {cc : ByteArray} {nL : Nat} {pc n : Nat} {L : List (Option Value)} {st : List Value} {σ : dk_S} {a : Nat} (C : dk_C G p R s m args c cells slots cc nL RX7) (hd : (a, 1) ∈ dk_dom G) (d : decode cc pc = .ok (.getfield 290, 3)) (hn : pc + 3 = n) (k : dk_W G p l e R s m args below meth c cells slots Q n L (dk_r G a 6 :: st) σ) : dk_W G p l e R s m args below meth c cells slots Q pc L (dk_r G a 1 :: st) σ :=
  dk_getR (ci := 1) (k0 := 4) (N := 6) (T := TX1) (Cn := RX1) C dk_sh1 rfl rfl rfl (by decide) dk_ui1 dk_wf_X7_290 hd d hn k
theorem gf_X7_283 {G : dk_G} {p : Program} {l : Launch} {e : Env} {R : Room} {s : State} {m : MethodId} {args : Array Value} {below : List Frame} {meth : Method} {c : Code} {cells slots : Nat} {Q : State → Prop} {cc : ByteArray} {nL : Nat} {pc n : Nat} {L : List (Option Value)} {st : List Value} {σ : dk_S} {a : Nat} (C : dk_C G p R s m args c cells slots cc nL RX7) (hd : (a, 13) ∈ dk_dom G) (d : decode cc pc = .ok (.getfield 283, 3)) (hn : pc + 3 = n) (k : dk_W G p l e R s m args below meth c cells slots Q n L (dk_r G a 16 :: st) σ) : dk_W G p l e R s m args below meth c cells slots Q pc L (dk_r G a 13 :: st) σ :=
  dk_getR (ci := 2) (k0 := 2) (N := 10) (T := TX2) (Cn := RX2) C dk_sh13 rfl rfl rfl (by decide) dk_ui2 dk_wf_X7_283 hd d hn k
theorem gf_X8_36 {G : dk_G} {p : Program} {l : Launch} {e : Env} {R : Room} {s : State} {m : MethodId} {args : Array Value} {below : List Frame} {meth : Method} {c : Code} {cells slots : Nat} {Q : State → Prop} {cc : ByteArray} {nL : Nat} {pc n : Nat} {L : List (Option Value)} {st : List Value} {σ : dk_S} {a : Nat} (C : dk_C G p R s m args c cells slots cc nL RX8) (hd : (a, 40) ∈ dk_dom G) (d : decode cc pc = .ok (.getfield 36, 3)) (hn : pc + 3 = n) (k : dk_W G p l e R s m args below meth c cells slots Q n L (.int (σ a 40 5) :: st) σ) : dk_W G p l e R s m args below meth c cells slots Q pc L (dk_r G a 40 :: st) σ :=
  dk_getI (ci := 8) (k0 := 5) (N := 7) (T := TX8) (Cn := RX8) C dk_sh40 rfl rfl (by decide) dk_ui8 dk_wf_X8_36 hd d hn k
theorem gf_X8_175 {G : dk_G} {p : Program} {l : Launch} {e : Env} {R : Room} {s : State} {m : MethodId} {args : Array Value} {below : List Frame} {meth : Method} {c : Code} {cells slots : Nat} {Q : State → Prop} {cc : ByteArray} {nL : Nat} {pc n : Nat} {L : List (Option Value)} {st : List Value} {σ : dk_S} {a : Nat} (C : dk_C G p R s m args c cells slots cc nL RX8) (hd : (a, 0) ∈ dk_dom G) (d : decode cc pc = .ok (.getfield 175, 3)) (hn : pc + 3 = n) (k : dk_W G p l e R s m args below meth c cells slots Q n L (.int (σ a 0 5) :: st) σ) : dk_W G p l e R s m args below meth c cells slots Q pc L (dk_r G a 0 :: st) σ :=
  dk_getI (ci := 7) (k0 := 5) (N := 10) (T := TX7) (Cn := RX7) C dk_sh0 rfl rfl (by decide) dk_ui7 dk_wf_X8_175 hd d hn k
theorem gf_X8_12 {G : dk_G} {p : Program} {l : Launch} {e : Env} {R : Room} {s : State} {m : MethodId} {args : Array Value} {below : List Frame} {meth : Method} {c : Code} {cells slots : Nat} {Q : State → Prop} {cc : ByteArray} {nL : Nat} {pc n : Nat} {L : List (Option Value)} {st : List Value} {σ : dk_S} {a : Nat} (C : dk_C G p R s m args c cells slots cc nL RX8) (hd : (a, 40) ∈ dk_dom G) (d : decode cc pc = .ok (.getfield 12, 3)) (hn : pc + 3 = n) (k : dk_W G p l e R s m args below meth c cells slots Q n L (dk_r G 1 0 :: st) σ) : dk_W G p l e R s m args below meth c cells slots Q pc L (dk_r G a 40 :: st) σ :=
  dk_getR (ci := 8) (k0 := 0) (N := 7) (T := TX8) (Cn := RX8) C dk_sh40 rfl rfl rfl (by decide) dk_ui8 dk_wf_X8_12 hd d hn k
theorem pf_X8_273 {G : dk_G} {p : Program} {l : Launch} {e : Env} {R : Room} {s : State} {m : MethodId} {args : Array Value} {below : List Frame} {meth : Method} {c : Code} {cells slots : Nat} {Q : State → Prop} {cc : ByteArray} {nL : Nat} {pc n : Nat} {L : List (Option Value)} {st : List Value} {σ : dk_S} {a : Nat} {x : Int32} (C : dk_C G p R s m args c cells slots cc nL RX8) (hna : narrow .int (.int x) = .int x) (hfit : fits .int (.int x) = true) (hd : (a, 0) ∈ dk_dom G) (d : decode cc pc = .ok (.putfield 273, 3)) (hn : pc + 3 = n) (k : dk_W G p l e R s m args below meth c cells slots Q n L st (dk_row σ a 0 (upd (σ a 0) 6 x))) : dk_W G p l e R s m args below meth c cells slots Q pc L (.int x :: dk_r G a 0 :: st) σ :=
  dk_put (ci := 7) (k0 := 6) (N := 10) (T := TX7) (Cn := RX7) (ty := .int) C dk_sh0 rfl rfl (by decide) dk_ui7 tyX7 tyX7_ok nmX7 dk_wf_X8_273 (by decide) (by decide) hna hfit hd d hn k
theorem gf_X8_32 {G : dk_G} {p : Program} {l : Launch} {e : Env} {R : Room} {s : State} {m : MethodId} {args : Array Value} {below : List Frame} {meth : Method} {c : Code} {cells slots : Nat} {Q : State → Prop} {cc : ByteArray} {nL : Nat} {pc n : Nat} {L : List (Option Value)} {st : List Value} {σ : dk_S} {a : Nat} (C : dk_C G p R s m args c cells slots cc nL RX8) (hd : (a, 40) ∈ dk_dom G) (d : decode cc pc = .ok (.getfield 32, 3)) (hn : pc + 3 = n) (k : dk_W G p l e R s m args below meth c cells slots Q n L (dk_r G 0 45 :: st) σ) : dk_W G p l e R s m args below meth c cells slots Q pc L (dk_r G a 40 :: st) σ :=
  dk_getR (ci := 8) (k0 := 4) (N := 7) (T := TX8) (Cn := RX8) C dk_sh40 rfl rfl rfl (by decide) dk_ui8 dk_wf_X8_32 hd d hn k
theorem gf_X8_16 {G : dk_G} {p : Program} {l : Launch} {e : Env} {R : Room} {s : State} {m : MethodId} {args : Array Value} {below : List Frame} {meth : Method} {c : Code} {cells slots : Nat} {Q : State → Prop} {cc : ByteArray} {nL : Nat} {pc n : Nat} {L : List (Option Value)} {st : List Value} {σ : dk_S} {a : Nat} (C : dk_C G p R s m args c cells slots cc nL RX8) (hd : (a, 40) ∈ dk_dom G) (d : decode cc pc = .ok (.getfield 16, 3)) (hn : pc + 3 = n) (k : dk_W G p l e R s m args below meth c cells slots Q n L (dk_r G 2 0 :: st) σ) : dk_W G p l e R s m args below meth c cells slots Q pc L (dk_r G a 40 :: st) σ :=
  dk_getR (ci := 8) (k0 := 1) (N := 7) (T := TX8) (Cn := RX8) C dk_sh40 rfl rfl rfl (by decide) dk_ui8 dk_wf_X8_16 hd d hn k
theorem gf_X8_111 {G : dk_G} {p : Program} {l : Launch} {e : Env} {R : Room} {s : State} {m : MethodId} {args : Array Value} {below : List Frame} {meth : Method} {c : Code} {cells slots : Nat} {Q : State → Prop} {cc : ByteArray} {nL : Nat} {pc n : Nat} {L : List (Option Value)} {st : List Value} {σ : dk_S} {a : Nat} (C : dk_C G p R s m args c cells slots cc nL RX8) (hd : (a, 0) ∈ dk_dom G) (d : decode cc pc = .ok (.getfield 111, 3)) (hn : pc + 3 = n) (k : dk_W G p l e R s m args below meth c cells slots Q n L (dk_r G a 13 :: st) σ) : dk_W G p l e R s m args below meth c cells slots Q pc L (dk_r G a 0 :: st) σ :=
  dk_getR (ci := 7) (k0 := 2) (N := 10) (T := TX7) (Cn := RX7) C dk_sh0 rfl rfl rfl (by decide) dk_ui7 dk_wf_X8_111 hd d hn k
theorem pf_X8_36 {G : dk_G} {p : Program} {l : Launch} {e : Env} {R : Room} {s : State} {m : MethodId} {args : Array Value} {below : List Frame} {meth : Method} {c : Code} {cells slots : Nat} {Q : State → Prop} {cc : ByteArray} {nL : Nat} {pc n : Nat} {L : List (Option Value)} {st : List Value} {σ : dk_S} {a : Nat} {x : Int32} (C : dk_C G p R s m args c cells slots cc nL RX8) (hna : narrow .char (.int x) = .int x) (hfit : fits .char (.int x) = true) (hd : (a, 40) ∈ dk_dom G) (d : decode cc pc = .ok (.putfield 36, 3)) (hn : pc + 3 = n) (k : dk_W G p l e R s m args below meth c cells slots Q n L st (dk_row σ a 40 (upd (σ a 40) 5 x))) : dk_W G p l e R s m args below meth c cells slots Q pc L (.int x :: dk_r G a 40 :: st) σ :=
  dk_put (ci := 8) (k0 := 5) (N := 7) (T := TX8) (Cn := RX8) (ty := .char) C dk_sh40 rfl rfl (by decide) dk_ui8 tyX8 tyX8_ok nmX8 dk_wf_X8_36 (by decide) (by decide) hna hfit hd d hn k
theorem gf_X8_25 {G : dk_G} {p : Program} {l : Launch} {e : Env} {R : Room} {s : State} {m : MethodId} {args : Array Value} {below : List Frame} {meth : Method} {c : Code} {cells slots : Nat} {Q : State → Prop} {cc : ByteArray} {nL : Nat} {pc n : Nat} {L : List (Option Value)} {st : List Value} {σ : dk_S} {a : Nat} (C : dk_C G p R s m args c cells slots cc nL RX8) (hd : (a, 40) ∈ dk_dom G) (d : decode cc pc = .ok (.getfield 25, 3)) (hn : pc + 3 = n) (k : dk_W G p l e R s m args below meth c cells slots Q n L (dk_r G 0 41 :: st) σ) : dk_W G p l e R s m args below meth c cells slots Q pc L (dk_r G a 40 :: st) σ :=
  dk_getR (ci := 8) (k0 := 3) (N := 7) (T := TX8) (Cn := RX8) C dk_sh40 rfl rfl rfl (by decide) dk_ui8 dk_wf_X8_25 hd d hn k
theorem gf_X8_19 {G : dk_G} {p : Program} {l : Launch} {e : Env} {R : Room} {s : State} {m : MethodId} {args : Array Value} {below : List Frame} {meth : Method} {c : Code} {cells slots : Nat} {Q : State → Prop} {cc : ByteArray} {nL : Nat} {pc n : Nat} {L : List (Option Value)} {st : List Value} {σ : dk_S} {a : Nat} (C : dk_C G p R s m args c cells slots cc nL RX8) (hd : (a, 40) ∈ dk_dom G) (d : decode cc pc = .ok (.getfield 19, 3)) (hn : pc + 3 = n) (k : dk_W G p l e R s m args below meth c cells slots Q n L (dk_r G 3 0 :: st) σ) : dk_W G p l e R s m args below meth c cells slots Q pc L (dk_r G a 40 :: st) σ :=
  dk_getR (ci := 8) (k0 := 2) (N := 7) (T := TX8) (Cn := RX8) C dk_sh40 rfl rfl rfl (by decide) dk_ui8 dk_wf_X8_19 hd d hn k
theorem gf_X8_40 {G : dk_G} {p : Program} {l : Launch} {e : Env} {R : Room} {s : State} {m : MethodId} {args : Array Value} {below : List Frame} {meth : Method} {c : Code} {cells slots : Nat} {Q : State → Prop} {cc : ByteArray} {nL : Nat} {pc n : Nat} {L : List (Option Value)} {st : List Value} {σ : dk_S} {a : Nat} (C : dk_C G p R s m args c cells slots cc nL RX8) (hd : (a, 40) ∈ dk_dom G) (d : decode cc pc = .ok (.getfield 40, 3)) (hn : pc + 3 = n) (k : dk_W G p l e R s m args below meth c cells slots Q n L (.int (σ a 40 6) :: st) σ) : dk_W G p l e R s m args below meth c cells slots Q pc L (dk_r G a 40 :: st) σ :=
  dk_getI (ci := 8) (k0 := 6) (N := 7) (T := TX8) (Cn := RX8) C dk_sh40 rfl rfl (by decide) dk_ui8 dk_wf_X8_40 hd d hn k
theorem gf_X8_168 {G : dk_G} {p : Program} {l : Launch} {e : Env} {R : Room} {s : State} {m : MethodId} {args : Array Value} {below : List Frame} {meth : Method} {c : Code} {cells slots : Nat} {Q : State → Prop} {cc : ByteArray} {nL : Nat} {pc n : Nat} {L : List (Option Value)} {st : List Value} {σ : dk_S} {a : Nat} (C : dk_C G p R s m args c cells slots cc nL RX8) (hd : (a, 41) ∈ dk_dom G) (d : decode cc pc = .ok (.getfield 168, 3)) (hn : pc + 3 = n) (k : dk_W G p l e R s m args below meth c cells slots Q n L (.int (σ a 41 3) :: st) σ) : dk_W G p l e R s m args below meth c cells slots Q pc L (dk_r G a 41 :: st) σ :=
  dk_getI (ci := 5) (k0 := 3) (N := 4) (T := TX5) (Cn := RX5) C dk_sh41 rfl rfl (by decide) dk_ui5 dk_wf_X8_168 hd d hn k
theorem gf_X8_293 {G : dk_G} {p : Program} {l : Launch} {e : Env} {R : Room} {s : State} {m : MethodId} {args : Array Value} {below : List Frame} {meth : Method} {c : Code} {cells slots : Nat} {Q : State → Prop} {cc : ByteArray} {nL : Nat} {pc n : Nat} {L : List (Option Value)} {st : List Value} {σ : dk_S} {a : Nat} (C : dk_C G p R s m args c cells slots cc nL RX8) (hd : (a, 41) ∈ dk_dom G) (d : decode cc pc = .ok (.getfield 293, 3)) (hn : pc + 3 = n) (k : dk_W G p l e R s m args below meth c cells slots Q n L (dk_r G a 42 :: st) σ) : dk_W G p l e R s m args below meth c cells slots Q pc L (dk_r G a 41 :: st) σ :=
  dk_getR (ci := 5) (k0 := 0) (N := 4) (T := TX5) (Cn := RX5) C dk_sh41 rfl rfl rfl (by decide) dk_ui5 dk_wf_X8_293 hd d hn k
theorem gf_X8_296 {G : dk_G} {p : Program} {l : Launch} {e : Env} {R : Room} {s : State} {m : MethodId} {args : Array Value} {below : List Frame} {meth : Method} {c : Code} {cells slots : Nat} {Q : State → Prop} {cc : ByteArray} {nL : Nat} {pc n : Nat} {L : List (Option Value)} {st : List Value} {σ : dk_S} {a : Nat} (C : dk_C G p R s m args c cells slots cc nL RX8) (hd : (a, 41) ∈ dk_dom G) (d : decode cc pc = .ok (.getfield 296, 3)) (hn : pc + 3 = n) (k : dk_W G p l e R s m args below meth c cells slots Q n L (dk_r G a 43 :: st) σ) : dk_W G p l e R s m args below meth c cells slots Q pc L (dk_r G a 41 :: st) σ :=
  dk_getR (ci := 5) (k0 := 1) (N := 4) (T := TX5) (Cn := RX5) C dk_sh41 rfl rfl rfl (by decide) dk_ui5 dk_wf_X8_296 hd d hn k
theorem gf_X8_299 {G : dk_G} {p : Program} {l : Launch} {e : Env} {R : Room} {s : State} {m : MethodId} {args : Array Value} {below : List Frame} {meth : Method} {c : Code} {cells slots : Nat} {Q : State → Prop} {cc : ByteArray} {nL : Nat} {pc n : Nat} {L : List (Option Value)} {st : List Value} {σ : dk_S} {a : Nat} (C : dk_C G p R s m args c cells slots cc nL RX8) (hd : (a, 41) ∈ dk_dom G) (d : decode cc pc = .ok (.getfield 299, 3)) (hn : pc + 3 = n) (k : dk_W G p l e R s m args below meth c cells slots Q n L (dk_r G a 44 :: st) σ) : dk_W G p l e R s m args below meth c cells slots Q pc L (dk_r G a 41 :: st) σ :=
  dk_getR (ci := 5) (k0 := 2) (N := 4) (T := TX5) (Cn := RX5) C dk_sh41 rfl rfl rfl (by decide) dk_ui5 dk_wf_X8_299 hd d hn k
theorem pf_X8_40 {G : dk_G} {p : Program} {l : Launch} {e : Env} {R : Room} {s : State} {m : MethodId} {args : Array Value} {below : List Frame} {meth : Method} {c : Code} {cells slots : Nat} {Q : State → Prop} {cc : ByteArray} {nL : Nat} {pc n : Nat} {L : List (Option Value)} {st : List Value} {σ : dk_S} {a : Nat} {x : Int32} (C : dk_C G p R s m args c cells slots cc nL RX8) (hna : narrow .int (.int x) = .int x) (hfit : fits .int (.int x) = true) (hd : (a, 40) ∈ dk_dom G) (d : decode cc pc = .ok (.putfield 40, 3)) (hn : pc + 3 = n) (k : dk_W G p l e R s m args below meth c cells slots Q n L st (dk_row σ a 40 (upd (σ a 40) 6 x))) : dk_W G p l e R s m args below meth c cells slots Q pc L (.int x :: dk_r G a 40 :: st) σ :=
  dk_put (ci := 8) (k0 := 6) (N := 7) (T := TX8) (Cn := RX8) (ty := .int) C dk_sh40 rfl rfl (by decide) dk_ui8 tyX8 tyX8_ok nmX8 dk_wf_X8_40 (by decide) (by decide) hna hfit hd d hn k
theorem gf_X9_107 {G : dk_G} {p : Program} {l : Launch} {e : Env} {R : Room} {s : State} {m : MethodId} {args : Array Value} {below : List Frame} {meth : Method} {c : Code} {cells slots : Nat} {Q : State → Prop} {cc : ByteArray} {nL : Nat} {pc n : Nat} {L : List (Option Value)} {st : List Value} {σ : dk_S} {a : Nat} (C : dk_C G p R s m args c cells slots cc nL RX9) (hd : (a, 60) ∈ dk_dom G) (d : decode cc pc = .ok (.getfield 107, 3)) (hn : pc + 3 = n) (k : dk_W G p l e R s m args below meth c cells slots Q n L (.int (σ a 60 0) :: st) σ) : dk_W G p l e R s m args below meth c cells slots Q pc L (dk_r G a 60 :: st) σ :=
  dk_getI (ci := 9) (k0 := 0) (N := 37) (T := TX9) (Cn := RX9) C dk_sh60 rfl rfl (by decide) dk_ui9 dk_wf_X9_107 hd d hn k
theorem pf_X9_107 {G : dk_G} {p : Program} {l : Launch} {e : Env} {R : Room} {s : State} {m : MethodId} {args : Array Value} {below : List Frame} {meth : Method} {c : Code} {cells slots : Nat} {Q : State → Prop} {cc : ByteArray} {nL : Nat} {pc n : Nat} {L : List (Option Value)} {st : List Value} {σ : dk_S} {a : Nat} {x : Int32} (C : dk_C G p R s m args c cells slots cc nL RX9) (hna : narrow .int (.int x) = .int x) (hfit : fits .int (.int x) = true) (hd : (a, 60) ∈ dk_dom G) (d : decode cc pc = .ok (.putfield 107, 3)) (hn : pc + 3 = n) (k : dk_W G p l e R s m args below meth c cells slots Q n L st (dk_row σ a 60 (upd (σ a 60) 0 x))) : dk_W G p l e R s m args below meth c cells slots Q pc L (.int x :: dk_r G a 60 :: st) σ :=
  dk_put (ci := 9) (k0 := 0) (N := 37) (T := TX9) (Cn := RX9) (ty := .int) C dk_sh60 rfl rfl (by decide) dk_ui9 tyX9 tyX9_ok nmX9 dk_wf_X9_107 (by decide) (by decide) hna hfit hd d hn k
theorem gf_X9_7 {G : dk_G} {p : Program} {l : Launch} {e : Env} {R : Room} {s : State} {m : MethodId} {args : Array Value} {below : List Frame} {meth : Method} {c : Code} {cells slots : Nat} {Q : State → Prop} {cc : ByteArray} {nL : Nat} {pc n : Nat} {L : List (Option Value)} {st : List Value} {σ : dk_S} {a : Nat} (C : dk_C G p R s m args c cells slots cc nL RX9) (hd : (a, 60) ∈ dk_dom G) (d : decode cc pc = .ok (.getfield 7, 3)) (hn : pc + 3 = n) (k : dk_W G p l e R s m args below meth c cells slots Q n L (.int (σ a 60 1) :: st) σ) : dk_W G p l e R s m args below meth c cells slots Q pc L (dk_r G a 60 :: st) σ :=
  dk_getI (ci := 9) (k0 := 1) (N := 37) (T := TX9) (Cn := RX9) C dk_sh60 rfl rfl (by decide) dk_ui9 dk_wf_X9_7 hd d hn k
theorem gf_X9_62 {G : dk_G} {p : Program} {l : Launch} {e : Env} {R : Room} {s : State} {m : MethodId} {args : Array Value} {below : List Frame} {meth : Method} {c : Code} {cells slots : Nat} {Q : State → Prop} {cc : ByteArray} {nL : Nat} {pc n : Nat} {L : List (Option Value)} {st : List Value} {σ : dk_S} {a : Nat} (C : dk_C G p R s m args c cells slots cc nL RX9) (hd : (a, 60) ∈ dk_dom G) (d : decode cc pc = .ok (.getfield 62, 3)) (hn : pc + 3 = n) (k : dk_W G p l e R s m args below meth c cells slots Q n L (dk_r G a 75 :: st) σ) : dk_W G p l e R s m args below meth c cells slots Q pc L (dk_r G a 60 :: st) σ :=
  dk_getR (ci := 9) (k0 := 21) (N := 37) (T := TX9) (Cn := RX9) C dk_sh60 rfl rfl rfl (by decide) dk_ui9 dk_wf_X9_62 hd d hn k
theorem pf_X9_133 {G : dk_G} {p : Program} {l : Launch} {e : Env} {R : Room} {s : State} {m : MethodId} {args : Array Value} {below : List Frame} {meth : Method} {c : Code} {cells slots : Nat} {Q : State → Prop} {cc : ByteArray} {nL : Nat} {pc n : Nat} {L : List (Option Value)} {st : List Value} {σ : dk_S} {a : Nat} {x : Int32} (C : dk_C G p R s m args c cells slots cc nL RX9) (hna : narrow .int (.int x) = .int x) (hfit : fits .int (.int x) = true) (hd : (a, 60) ∈ dk_dom G) (d : decode cc pc = .ok (.putfield 133, 3)) (hn : pc + 3 = n) (k : dk_W G p l e R s m args below meth c cells slots Q n L st (dk_row σ a 60 (upd (σ a 60) 2 x))) : dk_W G p l e R s m args below meth c cells slots Q pc L (.int x :: dk_r G a 60 :: st) σ :=
  dk_put (ci := 9) (k0 := 2) (N := 37) (T := TX9) (Cn := RX9) (ty := .int) C dk_sh60 rfl rfl (by decide) dk_ui9 tyX9 tyX9_ok nmX9 dk_wf_X9_133 (by decide) (by decide) hna hfit hd d hn k
theorem pf_X9_136 {G : dk_G} {p : Program} {l : Launch} {e : Env} {R : Room} {s : State} {m : MethodId} {args : Array Value} {below : List Frame} {meth : Method} {c : Code} {cells slots : Nat} {Q : State → Prop} {cc : ByteArray} {nL : Nat} {pc n : Nat} {L : List (Option Value)} {st : List Value} {σ : dk_S} {a : Nat} {x : Int32} (C : dk_C G p R s m args c cells slots cc nL RX9) (hna : narrow .int (.int x) = .int x) (hfit : fits .int (.int x) = true) (hd : (a, 60) ∈ dk_dom G) (d : decode cc pc = .ok (.putfield 136, 3)) (hn : pc + 3 = n) (k : dk_W G p l e R s m args below meth c cells slots Q n L st (dk_row σ a 60 (upd (σ a 60) 30 x))) : dk_W G p l e R s m args below meth c cells slots Q pc L (.int x :: dk_r G a 60 :: st) σ :=
  dk_put (ci := 9) (k0 := 30) (N := 37) (T := TX9) (Cn := RX9) (ty := .int) C dk_sh60 rfl rfl (by decide) dk_ui9 tyX9 tyX9_ok nmX9 dk_wf_X9_136 (by decide) (by decide) hna hfit hd d hn k
theorem pf_X9_139 {G : dk_G} {p : Program} {l : Launch} {e : Env} {R : Room} {s : State} {m : MethodId} {args : Array Value} {below : List Frame} {meth : Method} {c : Code} {cells slots : Nat} {Q : State → Prop} {cc : ByteArray} {nL : Nat} {pc n : Nat} {L : List (Option Value)} {st : List Value} {σ : dk_S} {a : Nat} {x : Int32} (C : dk_C G p R s m args c cells slots cc nL RX9) (hna : narrow .int (.int x) = .int x) (hfit : fits .int (.int x) = true) (hd : (a, 60) ∈ dk_dom G) (d : decode cc pc = .ok (.putfield 139, 3)) (hn : pc + 3 = n) (k : dk_W G p l e R s m args below meth c cells slots Q n L st (dk_row σ a 60 (upd (σ a 60) 31 x))) : dk_W G p l e R s m args below meth c cells slots Q pc L (.int x :: dk_r G a 60 :: st) σ :=
  dk_put (ci := 9) (k0 := 31) (N := 37) (T := TX9) (Cn := RX9) (ty := .int) C dk_sh60 rfl rfl (by decide) dk_ui9 tyX9 tyX9_ok nmX9 dk_wf_X9_139 (by decide) (by decide) hna hfit hd d hn k
theorem gf_X9_86 {G : dk_G} {p : Program} {l : Launch} {e : Env} {R : Room} {s : State} {m : MethodId} {args : Array Value} {below : List Frame} {meth : Method} {c : Code} {cells slots : Nat} {Q : State → Prop} {cc : ByteArray} {nL : Nat} {pc n : Nat} {L : List (Option Value)} {st : List Value} {σ : dk_S} {a : Nat} (C : dk_C G p R s m args c cells slots cc nL RX9) (hd : (a, 60) ∈ dk_dom G) (d : decode cc pc = .ok (.getfield 86, 3)) (hn : pc + 3 = n) (k : dk_W G p l e R s m args below meth c cells slots Q n L (dk_r G a 83 :: st) σ) : dk_W G p l e R s m args below meth c cells slots Q pc L (dk_r G a 60 :: st) σ :=
  dk_getR (ci := 9) (k0 := 29) (N := 37) (T := TX9) (Cn := RX9) C dk_sh60 rfl rfl rfl (by decide) dk_ui9 dk_wf_X9_86 hd d hn k
theorem gf_X9_83 {G : dk_G} {p : Program} {l : Launch} {e : Env} {R : Room} {s : State} {m : MethodId} {args : Array Value} {below : List Frame} {meth : Method} {c : Code} {cells slots : Nat} {Q : State → Prop} {cc : ByteArray} {nL : Nat} {pc n : Nat} {L : List (Option Value)} {st : List Value} {σ : dk_S} {a : Nat} (C : dk_C G p R s m args c cells slots cc nL RX9) (hd : (a, 60) ∈ dk_dom G) (d : decode cc pc = .ok (.getfield 83, 3)) (hn : pc + 3 = n) (k : dk_W G p l e R s m args below meth c cells slots Q n L (dk_r G a 82 :: st) σ) : dk_W G p l e R s m args below meth c cells slots Q pc L (dk_r G a 60 :: st) σ :=
  dk_getR (ci := 9) (k0 := 28) (N := 37) (T := TX9) (Cn := RX9) C dk_sh60 rfl rfl rfl (by decide) dk_ui9 dk_wf_X9_83 hd d hn k
theorem gf_X9_53 {G : dk_G} {p : Program} {l : Launch} {e : Env} {R : Room} {s : State} {m : MethodId} {args : Array Value} {below : List Frame} {meth : Method} {c : Code} {cells slots : Nat} {Q : State → Prop} {cc : ByteArray} {nL : Nat} {pc n : Nat} {L : List (Option Value)} {st : List Value} {σ : dk_S} {a : Nat} (C : dk_C G p R s m args c cells slots cc nL RX9) (hd : (a, 60) ∈ dk_dom G) (d : decode cc pc = .ok (.getfield 53, 3)) (hn : pc + 3 = n) (k : dk_W G p l e R s m args below meth c cells slots Q n L (dk_r G a 72 :: st) σ) : dk_W G p l e R s m args below meth c cells slots Q pc L (dk_r G a 60 :: st) σ :=
  dk_getR (ci := 9) (k0 := 17) (N := 37) (T := TX9) (Cn := RX9) C dk_sh60 rfl rfl rfl (by decide) dk_ui9 dk_wf_X9_53 hd d hn k
theorem gf_X9_65 {G : dk_G} {p : Program} {l : Launch} {e : Env} {R : Room} {s : State} {m : MethodId} {args : Array Value} {below : List Frame} {meth : Method} {c : Code} {cells slots : Nat} {Q : State → Prop} {cc : ByteArray} {nL : Nat} {pc n : Nat} {L : List (Option Value)} {st : List Value} {σ : dk_S} {a : Nat} (C : dk_C G p R s m args c cells slots cc nL RX9) (hd : (a, 60) ∈ dk_dom G) (d : decode cc pc = .ok (.getfield 65, 3)) (hn : pc + 3 = n) (k : dk_W G p l e R s m args below meth c cells slots Q n L (dk_r G a 76 :: st) σ) : dk_W G p l e R s m args below meth c cells slots Q pc L (dk_r G a 60 :: st) σ :=
  dk_getR (ci := 9) (k0 := 22) (N := 37) (T := TX9) (Cn := RX9) C dk_sh60 rfl rfl rfl (by decide) dk_ui9 dk_wf_X9_65 hd d hn k
theorem gf_X9_38 {G : dk_G} {p : Program} {l : Launch} {e : Env} {R : Room} {s : State} {m : MethodId} {args : Array Value} {below : List Frame} {meth : Method} {c : Code} {cells slots : Nat} {Q : State → Prop} {cc : ByteArray} {nL : Nat} {pc n : Nat} {L : List (Option Value)} {st : List Value} {σ : dk_S} {a : Nat} (C : dk_C G p R s m args c cells slots cc nL RX9) (hd : (a, 60) ∈ dk_dom G) (d : decode cc pc = .ok (.getfield 38, 3)) (hn : pc + 3 = n) (k : dk_W G p l e R s m args below meth c cells slots Q n L (dk_r G a 67 :: st) σ) : dk_W G p l e R s m args below meth c cells slots Q pc L (dk_r G a 60 :: st) σ :=
  dk_getR (ci := 9) (k0 := 11) (N := 37) (T := TX9) (Cn := RX9) C dk_sh60 rfl rfl rfl (by decide) dk_ui9 dk_wf_X9_38 hd d hn k
theorem gf_X9_68 {G : dk_G} {p : Program} {l : Launch} {e : Env} {R : Room} {s : State} {m : MethodId} {args : Array Value} {below : List Frame} {meth : Method} {c : Code} {cells slots : Nat} {Q : State → Prop} {cc : ByteArray} {nL : Nat} {pc n : Nat} {L : List (Option Value)} {st : List Value} {σ : dk_S} {a : Nat} (C : dk_C G p R s m args c cells slots cc nL RX9) (hd : (a, 60) ∈ dk_dom G) (d : decode cc pc = .ok (.getfield 68, 3)) (hn : pc + 3 = n) (k : dk_W G p l e R s m args below meth c cells slots Q n L (dk_r G a 77 :: st) σ) : dk_W G p l e R s m args below meth c cells slots Q pc L (dk_r G a 60 :: st) σ :=
  dk_getR (ci := 9) (k0 := 23) (N := 37) (T := TX9) (Cn := RX9) C dk_sh60 rfl rfl rfl (by decide) dk_ui9 dk_wf_X9_68 hd d hn k
theorem gf_X9_47 {G : dk_G} {p : Program} {l : Launch} {e : Env} {R : Room} {s : State} {m : MethodId} {args : Array Value} {below : List Frame} {meth : Method} {c : Code} {cells slots : Nat} {Q : State → Prop} {cc : ByteArray} {nL : Nat} {pc n : Nat} {L : List (Option Value)} {st : List Value} {σ : dk_S} {a : Nat} (C : dk_C G p R s m args c cells slots cc nL RX9) (hd : (a, 60) ∈ dk_dom G) (d : decode cc pc = .ok (.getfield 47, 3)) (hn : pc + 3 = n) (k : dk_W G p l e R s m args below meth c cells slots Q n L (dk_r G a 70 :: st) σ) : dk_W G p l e R s m args below meth c cells slots Q pc L (dk_r G a 60 :: st) σ :=
  dk_getR (ci := 9) (k0 := 14) (N := 37) (T := TX9) (Cn := RX9) C dk_sh60 rfl rfl rfl (by decide) dk_ui9 dk_wf_X9_47 hd d hn k
theorem gf_X9_71 {G : dk_G} {p : Program} {l : Launch} {e : Env} {R : Room} {s : State} {m : MethodId} {args : Array Value} {below : List Frame} {meth : Method} {c : Code} {cells slots : Nat} {Q : State → Prop} {cc : ByteArray} {nL : Nat} {pc n : Nat} {L : List (Option Value)} {st : List Value} {σ : dk_S} {a : Nat} (C : dk_C G p R s m args c cells slots cc nL RX9) (hd : (a, 60) ∈ dk_dom G) (d : decode cc pc = .ok (.getfield 71, 3)) (hn : pc + 3 = n) (k : dk_W G p l e R s m args below meth c cells slots Q n L (dk_r G a 78 :: st) σ) : dk_W G p l e R s m args below meth c cells slots Q pc L (dk_r G a 60 :: st) σ :=
  dk_getR (ci := 9) (k0 := 24) (N := 37) (T := TX9) (Cn := RX9) C dk_sh60 rfl rfl rfl (by decide) dk_ui9 dk_wf_X9_71 hd d hn k
theorem gf_X9_77 {G : dk_G} {p : Program} {l : Launch} {e : Env} {R : Room} {s : State} {m : MethodId} {args : Array Value} {below : List Frame} {meth : Method} {c : Code} {cells slots : Nat} {Q : State → Prop} {cc : ByteArray} {nL : Nat} {pc n : Nat} {L : List (Option Value)} {st : List Value} {σ : dk_S} {a : Nat} (C : dk_C G p R s m args c cells slots cc nL RX9) (hd : (a, 60) ∈ dk_dom G) (d : decode cc pc = .ok (.getfield 77, 3)) (hn : pc + 3 = n) (k : dk_W G p l e R s m args below meth c cells slots Q n L (dk_r G a 80 :: st) σ) : dk_W G p l e R s m args below meth c cells slots Q pc L (dk_r G a 60 :: st) σ :=
  dk_getR (ci := 9) (k0 := 26) (N := 37) (T := TX9) (Cn := RX9) C dk_sh60 rfl rfl rfl (by decide) dk_ui9 dk_wf_X9_77 hd d hn k
theorem gf_X9_80 {G : dk_G} {p : Program} {l : Launch} {e : Env} {R : Room} {s : State} {m : MethodId} {args : Array Value} {below : List Frame} {meth : Method} {c : Code} {cells slots : Nat} {Q : State → Prop} {cc : ByteArray} {nL : Nat} {pc n : Nat} {L : List (Option Value)} {st : List Value} {σ : dk_S} {a : Nat} (C : dk_C G p R s m args c cells slots cc nL RX9) (hd : (a, 60) ∈ dk_dom G) (d : decode cc pc = .ok (.getfield 80, 3)) (hn : pc + 3 = n) (k : dk_W G p l e R s m args below meth c cells slots Q n L (dk_r G a 81 :: st) σ) : dk_W G p l e R s m args below meth c cells slots Q pc L (dk_r G a 60 :: st) σ :=
  dk_getR (ci := 9) (k0 := 27) (N := 37) (T := TX9) (Cn := RX9) C dk_sh60 rfl rfl rfl (by decide) dk_ui9 dk_wf_X9_80 hd d hn k
theorem gf_X9_13 {G : dk_G} {p : Program} {l : Launch} {e : Env} {R : Room} {s : State} {m : MethodId} {args : Array Value} {below : List Frame} {meth : Method} {c : Code} {cells slots : Nat} {Q : State → Prop} {cc : ByteArray} {nL : Nat} {pc n : Nat} {L : List (Option Value)} {st : List Value} {σ : dk_S} {a : Nat} (C : dk_C G p R s m args c cells slots cc nL RX9) (hd : (a, 60) ∈ dk_dom G) (d : decode cc pc = .ok (.getfield 13, 3)) (hn : pc + 3 = n) (k : dk_W G p l e R s m args below meth c cells slots Q n L (dk_r G a 61 :: st) σ) : dk_W G p l e R s m args below meth c cells slots Q pc L (dk_r G a 60 :: st) σ :=
  dk_getR (ci := 9) (k0 := 4) (N := 37) (T := TX9) (Cn := RX9) C dk_sh60 rfl rfl rfl (by decide) dk_ui9 dk_wf_X9_13 hd d hn k
theorem pf_X9_7 {G : dk_G} {p : Program} {l : Launch} {e : Env} {R : Room} {s : State} {m : MethodId} {args : Array Value} {below : List Frame} {meth : Method} {c : Code} {cells slots : Nat} {Q : State → Prop} {cc : ByteArray} {nL : Nat} {pc n : Nat} {L : List (Option Value)} {st : List Value} {σ : dk_S} {a : Nat} {x : Int32} (C : dk_C G p R s m args c cells slots cc nL RX9) (hna : narrow .char (.int x) = .int x) (hfit : fits .char (.int x) = true) (hd : (a, 60) ∈ dk_dom G) (d : decode cc pc = .ok (.putfield 7, 3)) (hn : pc + 3 = n) (k : dk_W G p l e R s m args below meth c cells slots Q n L st (dk_row σ a 60 (upd (σ a 60) 1 x))) : dk_W G p l e R s m args below meth c cells slots Q pc L (.int x :: dk_r G a 60 :: st) σ :=
  dk_put (ci := 9) (k0 := 1) (N := 37) (T := TX9) (Cn := RX9) (ty := .char) C dk_sh60 rfl rfl (by decide) dk_ui9 tyX9 tyX9_ok nmX9 dk_wf_X9_7 (by decide) (by decide) hna hfit hd d hn k
theorem gf_X9_17 {G : dk_G} {p : Program} {l : Launch} {e : Env} {R : Room} {s : State} {m : MethodId} {args : Array Value} {below : List Frame} {meth : Method} {c : Code} {cells slots : Nat} {Q : State → Prop} {cc : ByteArray} {nL : Nat} {pc n : Nat} {L : List (Option Value)} {st : List Value} {σ : dk_S} {a : Nat} (C : dk_C G p R s m args c cells slots cc nL RX9) (hd : (a, 60) ∈ dk_dom G) (d : decode cc pc = .ok (.getfield 17, 3)) (hn : pc + 3 = n) (k : dk_W G p l e R s m args below meth c cells slots Q n L (dk_r G a 62 :: st) σ) : dk_W G p l e R s m args below meth c cells slots Q pc L (dk_r G a 60 :: st) σ :=
  dk_getR (ci := 9) (k0 := 5) (N := 37) (T := TX9) (Cn := RX9) C dk_sh60 rfl rfl rfl (by decide) dk_ui9 dk_wf_X9_17 hd d hn k
theorem gf_X9_21 {G : dk_G} {p : Program} {l : Launch} {e : Env} {R : Room} {s : State} {m : MethodId} {args : Array Value} {below : List Frame} {meth : Method} {c : Code} {cells slots : Nat} {Q : State → Prop} {cc : ByteArray} {nL : Nat} {pc n : Nat} {L : List (Option Value)} {st : List Value} {σ : dk_S} {a : Nat} (C : dk_C G p R s m args c cells slots cc nL RX9) (hd : (a, 60) ∈ dk_dom G) (d : decode cc pc = .ok (.getfield 21, 3)) (hn : pc + 3 = n) (k : dk_W G p l e R s m args below meth c cells slots Q n L (dk_r G a 63 :: st) σ) : dk_W G p l e R s m args below meth c cells slots Q pc L (dk_r G a 60 :: st) σ :=
  dk_getR (ci := 9) (k0 := 6) (N := 37) (T := TX9) (Cn := RX9) C dk_sh60 rfl rfl rfl (by decide) dk_ui9 dk_wf_X9_21 hd d hn k
theorem gf_X9_25 {G : dk_G} {p : Program} {l : Launch} {e : Env} {R : Room} {s : State} {m : MethodId} {args : Array Value} {below : List Frame} {meth : Method} {c : Code} {cells slots : Nat} {Q : State → Prop} {cc : ByteArray} {nL : Nat} {pc n : Nat} {L : List (Option Value)} {st : List Value} {σ : dk_S} {a : Nat} (C : dk_C G p R s m args c cells slots cc nL RX9) (hd : (a, 60) ∈ dk_dom G) (d : decode cc pc = .ok (.getfield 25, 3)) (hn : pc + 3 = n) (k : dk_W G p l e R s m args below meth c cells slots Q n L (dk_r G a 64 :: st) σ) : dk_W G p l e R s m args below meth c cells slots Q pc L (dk_r G a 60 :: st) σ :=
  dk_getR (ci := 9) (k0 := 7) (N := 37) (T := TX9) (Cn := RX9) C dk_sh60 rfl rfl rfl (by decide) dk_ui9 dk_wf_X9_25 hd d hn k
theorem gf_X9_28 {G : dk_G} {p : Program} {l : Launch} {e : Env} {R : Room} {s : State} {m : MethodId} {args : Array Value} {below : List Frame} {meth : Method} {c : Code} {cells slots : Nat} {Q : State → Prop} {cc : ByteArray} {nL : Nat} {pc n : Nat} {L : List (Option Value)} {st : List Value} {σ : dk_S} {a : Nat} (C : dk_C G p R s m args c cells slots cc nL RX9) (hd : (a, 60) ∈ dk_dom G) (d : decode cc pc = .ok (.getfield 28, 3)) (hn : pc + 3 = n) (k : dk_W G p l e R s m args below meth c cells slots Q n L (dk_r G a 65 :: st) σ) : dk_W G p l e R s m args below meth c cells slots Q pc L (dk_r G a 60 :: st) σ :=
  dk_getR (ci := 9) (k0 := 8) (N := 37) (T := TX9) (Cn := RX9) C dk_sh60 rfl rfl rfl (by decide) dk_ui9 dk_wf_X9_28 hd d hn k
theorem gf_X9_31 {G : dk_G} {p : Program} {l : Launch} {e : Env} {R : Room} {s : State} {m : MethodId} {args : Array Value} {below : List Frame} {meth : Method} {c : Code} {cells slots : Nat} {Q : State → Prop} {cc : ByteArray} {nL : Nat} {pc n : Nat} {L : List (Option Value)} {st : List Value} {σ : dk_S} {a : Nat} (C : dk_C G p R s m args c cells slots cc nL RX9) (hd : (a, 60) ∈ dk_dom G) (d : decode cc pc = .ok (.getfield 31, 3)) (hn : pc + 3 = n) (k : dk_W G p l e R s m args below meth c cells slots Q n L (dk_r G a 66 :: st) σ) : dk_W G p l e R s m args below meth c cells slots Q pc L (dk_r G a 60 :: st) σ :=
  dk_getR (ci := 9) (k0 := 9) (N := 37) (T := TX9) (Cn := RX9) C dk_sh60 rfl rfl rfl (by decide) dk_ui9 dk_wf_X9_31 hd d hn k
theorem gf_X9_41 {G : dk_G} {p : Program} {l : Launch} {e : Env} {R : Room} {s : State} {m : MethodId} {args : Array Value} {below : List Frame} {meth : Method} {c : Code} {cells slots : Nat} {Q : State → Prop} {cc : ByteArray} {nL : Nat} {pc n : Nat} {L : List (Option Value)} {st : List Value} {σ : dk_S} {a : Nat} (C : dk_C G p R s m args c cells slots cc nL RX9) (hd : (a, 60) ∈ dk_dom G) (d : decode cc pc = .ok (.getfield 41, 3)) (hn : pc + 3 = n) (k : dk_W G p l e R s m args below meth c cells slots Q n L (dk_r G a 68 :: st) σ) : dk_W G p l e R s m args below meth c cells slots Q pc L (dk_r G a 60 :: st) σ :=
  dk_getR (ci := 9) (k0 := 12) (N := 37) (T := TX9) (Cn := RX9) C dk_sh60 rfl rfl rfl (by decide) dk_ui9 dk_wf_X9_41 hd d hn k
theorem gf_X9_34 {G : dk_G} {p : Program} {l : Launch} {e : Env} {R : Room} {s : State} {m : MethodId} {args : Array Value} {below : List Frame} {meth : Method} {c : Code} {cells slots : Nat} {Q : State → Prop} {cc : ByteArray} {nL : Nat} {pc n : Nat} {L : List (Option Value)} {st : List Value} {σ : dk_S} {a : Nat} (C : dk_C G p R s m args c cells slots cc nL RX9) (hd : (a, 60) ∈ dk_dom G) (d : decode cc pc = .ok (.getfield 34, 3)) (hn : pc + 3 = n) (k : dk_W G p l e R s m args below meth c cells slots Q n L (.int (σ a 60 10) :: st) σ) : dk_W G p l e R s m args below meth c cells slots Q pc L (dk_r G a 60 :: st) σ :=
  dk_getI (ci := 9) (k0 := 10) (N := 37) (T := TX9) (Cn := RX9) C dk_sh60 rfl rfl (by decide) dk_ui9 dk_wf_X9_34 hd d hn k
theorem gf_X9_44 {G : dk_G} {p : Program} {l : Launch} {e : Env} {R : Room} {s : State} {m : MethodId} {args : Array Value} {below : List Frame} {meth : Method} {c : Code} {cells slots : Nat} {Q : State → Prop} {cc : ByteArray} {nL : Nat} {pc n : Nat} {L : List (Option Value)} {st : List Value} {σ : dk_S} {a : Nat} (C : dk_C G p R s m args c cells slots cc nL RX9) (hd : (a, 60) ∈ dk_dom G) (d : decode cc pc = .ok (.getfield 44, 3)) (hn : pc + 3 = n) (k : dk_W G p l e R s m args below meth c cells slots Q n L (dk_r G a 69 :: st) σ) : dk_W G p l e R s m args below meth c cells slots Q pc L (dk_r G a 60 :: st) σ :=
  dk_getR (ci := 9) (k0 := 13) (N := 37) (T := TX9) (Cn := RX9) C dk_sh60 rfl rfl rfl (by decide) dk_ui9 dk_wf_X9_44 hd d hn k
theorem pf_X9_34 {G : dk_G} {p : Program} {l : Launch} {e : Env} {R : Room} {s : State} {m : MethodId} {args : Array Value} {below : List Frame} {meth : Method} {c : Code} {cells slots : Nat} {Q : State → Prop} {cc : ByteArray} {nL : Nat} {pc n : Nat} {L : List (Option Value)} {st : List Value} {σ : dk_S} {a : Nat} {x : Int32} (C : dk_C G p R s m args c cells slots cc nL RX9) (hna : narrow .int (.int x) = .int x) (hfit : fits .int (.int x) = true) (hd : (a, 60) ∈ dk_dom G) (d : decode cc pc = .ok (.putfield 34, 3)) (hn : pc + 3 = n) (k : dk_W G p l e R s m args below meth c cells slots Q n L st (dk_row σ a 60 (upd (σ a 60) 10 x))) : dk_W G p l e R s m args below meth c cells slots Q pc L (.int x :: dk_r G a 60 :: st) σ :=
  dk_put (ci := 9) (k0 := 10) (N := 37) (T := TX9) (Cn := RX9) (ty := .int) C dk_sh60 rfl rfl (by decide) dk_ui9 tyX9 tyX9_ok nmX9 dk_wf_X9_34 (by decide) (by decide) hna hfit hd d hn k
theorem gf_X9_162 {G : dk_G} {p : Program} {l : Launch} {e : Env} {R : Room} {s : State} {m : MethodId} {args : Array Value} {below : List Frame} {meth : Method} {c : Code} {cells slots : Nat} {Q : State → Prop} {cc : ByteArray} {nL : Nat} {pc n : Nat} {L : List (Option Value)} {st : List Value} {σ : dk_S} {a : Nat} (C : dk_C G p R s m args c cells slots cc nL RX9) (hd : (a, 60) ∈ dk_dom G) (d : decode cc pc = .ok (.getfield 162, 3)) (hn : pc + 3 = n) (k : dk_W G p l e R s m args below meth c cells slots Q n L (.int (σ a 60 15) :: st) σ) : dk_W G p l e R s m args below meth c cells slots Q pc L (dk_r G a 60 :: st) σ :=
  dk_getI (ci := 9) (k0 := 15) (N := 37) (T := TX9) (Cn := RX9) C dk_sh60 rfl rfl (by decide) dk_ui9 dk_wf_X9_162 hd d hn k
theorem gf_X9_50 {G : dk_G} {p : Program} {l : Launch} {e : Env} {R : Room} {s : State} {m : MethodId} {args : Array Value} {below : List Frame} {meth : Method} {c : Code} {cells slots : Nat} {Q : State → Prop} {cc : ByteArray} {nL : Nat} {pc n : Nat} {L : List (Option Value)} {st : List Value} {σ : dk_S} {a : Nat} (C : dk_C G p R s m args c cells slots cc nL RX9) (hd : (a, 60) ∈ dk_dom G) (d : decode cc pc = .ok (.getfield 50, 3)) (hn : pc + 3 = n) (k : dk_W G p l e R s m args below meth c cells slots Q n L (dk_r G a 71 :: st) σ) : dk_W G p l e R s m args below meth c cells slots Q pc L (dk_r G a 60 :: st) σ :=
  dk_getR (ci := 9) (k0 := 16) (N := 37) (T := TX9) (Cn := RX9) C dk_sh60 rfl rfl rfl (by decide) dk_ui9 dk_wf_X9_50 hd d hn k
theorem pf_X9_162 {G : dk_G} {p : Program} {l : Launch} {e : Env} {R : Room} {s : State} {m : MethodId} {args : Array Value} {below : List Frame} {meth : Method} {c : Code} {cells slots : Nat} {Q : State → Prop} {cc : ByteArray} {nL : Nat} {pc n : Nat} {L : List (Option Value)} {st : List Value} {σ : dk_S} {a : Nat} {x : Int32} (C : dk_C G p R s m args c cells slots cc nL RX9) (hna : narrow .int (.int x) = .int x) (hfit : fits .int (.int x) = true) (hd : (a, 60) ∈ dk_dom G) (d : decode cc pc = .ok (.putfield 162, 3)) (hn : pc + 3 = n) (k : dk_W G p l e R s m args below meth c cells slots Q n L st (dk_row σ a 60 (upd (σ a 60) 15 x))) : dk_W G p l e R s m args below meth c cells slots Q pc L (.int x :: dk_r G a 60 :: st) σ :=
  dk_put (ci := 9) (k0 := 15) (N := 37) (T := TX9) (Cn := RX9) (ty := .int) C dk_sh60 rfl rfl (by decide) dk_ui9 tyX9 tyX9_ok nmX9 dk_wf_X9_162 (by decide) (by decide) hna hfit hd d hn k
theorem gf_X9_168 {G : dk_G} {p : Program} {l : Launch} {e : Env} {R : Room} {s : State} {m : MethodId} {args : Array Value} {below : List Frame} {meth : Method} {c : Code} {cells slots : Nat} {Q : State → Prop} {cc : ByteArray} {nL : Nat} {pc n : Nat} {L : List (Option Value)} {st : List Value} {σ : dk_S} {a : Nat} (C : dk_C G p R s m args c cells slots cc nL RX9) (hd : (a, 60) ∈ dk_dom G) (d : decode cc pc = .ok (.getfield 168, 3)) (hn : pc + 3 = n) (k : dk_W G p l e R s m args below meth c cells slots Q n L (.int (σ a 60 18) :: st) σ) : dk_W G p l e R s m args below meth c cells slots Q pc L (dk_r G a 60 :: st) σ :=
  dk_getI (ci := 9) (k0 := 18) (N := 37) (T := TX9) (Cn := RX9) C dk_sh60 rfl rfl (by decide) dk_ui9 dk_wf_X9_168 hd d hn k
theorem gf_X9_56 {G : dk_G} {p : Program} {l : Launch} {e : Env} {R : Room} {s : State} {m : MethodId} {args : Array Value} {below : List Frame} {meth : Method} {c : Code} {cells slots : Nat} {Q : State → Prop} {cc : ByteArray} {nL : Nat} {pc n : Nat} {L : List (Option Value)} {st : List Value} {σ : dk_S} {a : Nat} (C : dk_C G p R s m args c cells slots cc nL RX9) (hd : (a, 60) ∈ dk_dom G) (d : decode cc pc = .ok (.getfield 56, 3)) (hn : pc + 3 = n) (k : dk_W G p l e R s m args below meth c cells slots Q n L (dk_r G a 73 :: st) σ) : dk_W G p l e R s m args below meth c cells slots Q pc L (dk_r G a 60 :: st) σ :=
  dk_getR (ci := 9) (k0 := 19) (N := 37) (T := TX9) (Cn := RX9) C dk_sh60 rfl rfl rfl (by decide) dk_ui9 dk_wf_X9_56 hd d hn k
theorem gf_X9_59 {G : dk_G} {p : Program} {l : Launch} {e : Env} {R : Room} {s : State} {m : MethodId} {args : Array Value} {below : List Frame} {meth : Method} {c : Code} {cells slots : Nat} {Q : State → Prop} {cc : ByteArray} {nL : Nat} {pc n : Nat} {L : List (Option Value)} {st : List Value} {σ : dk_S} {a : Nat} (C : dk_C G p R s m args c cells slots cc nL RX9) (hd : (a, 60) ∈ dk_dom G) (d : decode cc pc = .ok (.getfield 59, 3)) (hn : pc + 3 = n) (k : dk_W G p l e R s m args below meth c cells slots Q n L (dk_r G a 74 :: st) σ) : dk_W G p l e R s m args below meth c cells slots Q pc L (dk_r G a 60 :: st) σ :=
  dk_getR (ci := 9) (k0 := 20) (N := 37) (T := TX9) (Cn := RX9) C dk_sh60 rfl rfl rfl (by decide) dk_ui9 dk_wf_X9_59 hd d hn k
theorem pf_X9_168 {G : dk_G} {p : Program} {l : Launch} {e : Env} {R : Room} {s : State} {m : MethodId} {args : Array Value} {below : List Frame} {meth : Method} {c : Code} {cells slots : Nat} {Q : State → Prop} {cc : ByteArray} {nL : Nat} {pc n : Nat} {L : List (Option Value)} {st : List Value} {σ : dk_S} {a : Nat} {x : Int32} (C : dk_C G p R s m args c cells slots cc nL RX9) (hna : narrow .int (.int x) = .int x) (hfit : fits .int (.int x) = true) (hd : (a, 60) ∈ dk_dom G) (d : decode cc pc = .ok (.putfield 168, 3)) (hn : pc + 3 = n) (k : dk_W G p l e R s m args below meth c cells slots Q n L st (dk_row σ a 60 (upd (σ a 60) 18 x))) : dk_W G p l e R s m args below meth c cells slots Q pc L (.int x :: dk_r G a 60 :: st) σ :=
  dk_put (ci := 9) (k0 := 18) (N := 37) (T := TX9) (Cn := RX9) (ty := .int) C dk_sh60 rfl rfl (by decide) dk_ui9 tyX9 tyX9_ok nmX9 dk_wf_X9_168 (by decide) (by decide) hna hfit hd d hn k
theorem gf_X9_136 {G : dk_G} {p : Program} {l : Launch} {e : Env} {R : Room} {s : State} {m : MethodId} {args : Array Value} {below : List Frame} {meth : Method} {c : Code} {cells slots : Nat} {Q : State → Prop} {cc : ByteArray} {nL : Nat} {pc n : Nat} {L : List (Option Value)} {st : List Value} {σ : dk_S} {a : Nat} (C : dk_C G p R s m args c cells slots cc nL RX9) (hd : (a, 60) ∈ dk_dom G) (d : decode cc pc = .ok (.getfield 136, 3)) (hn : pc + 3 = n) (k : dk_W G p l e R s m args below meth c cells slots Q n L (.int (σ a 60 30) :: st) σ) : dk_W G p l e R s m args below meth c cells slots Q pc L (dk_r G a 60 :: st) σ :=
  dk_getI (ci := 9) (k0 := 30) (N := 37) (T := TX9) (Cn := RX9) C dk_sh60 rfl rfl (by decide) dk_ui9 dk_wf_X9_136 hd d hn k
theorem gf_X9_98 {G : dk_G} {p : Program} {l : Launch} {e : Env} {R : Room} {s : State} {m : MethodId} {args : Array Value} {below : List Frame} {meth : Method} {c : Code} {cells slots : Nat} {Q : State → Prop} {cc : ByteArray} {nL : Nat} {pc n : Nat} {L : List (Option Value)} {st : List Value} {σ : dk_S} {a : Nat} (C : dk_C G p R s m args c cells slots cc nL RX9) (hd : (a, 60) ∈ dk_dom G) (d : decode cc pc = .ok (.getfield 98, 3)) (hn : pc + 3 = n) (k : dk_W G p l e R s m args below meth c cells slots Q n L (dk_r G a 86 :: st) σ) : dk_W G p l e R s m args below meth c cells slots Q pc L (dk_r G a 60 :: st) σ :=
  dk_getR (ci := 9) (k0 := 35) (N := 37) (T := TX9) (Cn := RX9) C dk_sh60 rfl rfl rfl (by decide) dk_ui9 dk_wf_X9_98 hd d hn k
theorem gf_X9_74 {G : dk_G} {p : Program} {l : Launch} {e : Env} {R : Room} {s : State} {m : MethodId} {args : Array Value} {below : List Frame} {meth : Method} {c : Code} {cells slots : Nat} {Q : State → Prop} {cc : ByteArray} {nL : Nat} {pc n : Nat} {L : List (Option Value)} {st : List Value} {σ : dk_S} {a : Nat} (C : dk_C G p R s m args c cells slots cc nL RX9) (hd : (a, 60) ∈ dk_dom G) (d : decode cc pc = .ok (.getfield 74, 3)) (hn : pc + 3 = n) (k : dk_W G p l e R s m args below meth c cells slots Q n L (dk_r G a 79 :: st) σ) : dk_W G p l e R s m args below meth c cells slots Q pc L (dk_r G a 60 :: st) σ :=
  dk_getR (ci := 9) (k0 := 25) (N := 37) (T := TX9) (Cn := RX9) C dk_sh60 rfl rfl rfl (by decide) dk_ui9 dk_wf_X9_74 hd d hn k
theorem pf_X9_89 {G : dk_G} {p : Program} {l : Launch} {e : Env} {R : Room} {s : State} {m : MethodId} {args : Array Value} {below : List Frame} {meth : Method} {c : Code} {cells slots : Nat} {Q : State → Prop} {cc : ByteArray} {nL : Nat} {pc n : Nat} {L : List (Option Value)} {st : List Value} {σ : dk_S} {a : Nat} {x : Int32} (C : dk_C G p R s m args c cells slots cc nL RX9) (hna : narrow .int (.int x) = .int x) (hfit : fits .int (.int x) = true) (hd : (a, 60) ∈ dk_dom G) (d : decode cc pc = .ok (.putfield 89, 3)) (hn : pc + 3 = n) (k : dk_W G p l e R s m args below meth c cells slots Q n L st (dk_row σ a 60 (upd (σ a 60) 32 x))) : dk_W G p l e R s m args below meth c cells slots Q pc L (.int x :: dk_r G a 60 :: st) σ :=
  dk_put (ci := 9) (k0 := 32) (N := 37) (T := TX9) (Cn := RX9) (ty := .int) C dk_sh60 rfl rfl (by decide) dk_ui9 tyX9 tyX9_ok nmX9 dk_wf_X9_89 (by decide) (by decide) hna hfit hd d hn k
theorem gf_X9_92 {G : dk_G} {p : Program} {l : Launch} {e : Env} {R : Room} {s : State} {m : MethodId} {args : Array Value} {below : List Frame} {meth : Method} {c : Code} {cells slots : Nat} {Q : State → Prop} {cc : ByteArray} {nL : Nat} {pc n : Nat} {L : List (Option Value)} {st : List Value} {σ : dk_S} {a : Nat} (C : dk_C G p R s m args c cells slots cc nL RX9) (hd : (a, 60) ∈ dk_dom G) (d : decode cc pc = .ok (.getfield 92, 3)) (hn : pc + 3 = n) (k : dk_W G p l e R s m args below meth c cells slots Q n L (dk_r G a 84 :: st) σ) : dk_W G p l e R s m args below meth c cells slots Q pc L (dk_r G a 60 :: st) σ :=
  dk_getR (ci := 9) (k0 := 33) (N := 37) (T := TX9) (Cn := RX9) C dk_sh60 rfl rfl rfl (by decide) dk_ui9 dk_wf_X9_92 hd d hn k
theorem gf_X9_95 {G : dk_G} {p : Program} {l : Launch} {e : Env} {R : Room} {s : State} {m : MethodId} {args : Array Value} {below : List Frame} {meth : Method} {c : Code} {cells slots : Nat} {Q : State → Prop} {cc : ByteArray} {nL : Nat} {pc n : Nat} {L : List (Option Value)} {st : List Value} {σ : dk_S} {a : Nat} (C : dk_C G p R s m args c cells slots cc nL RX9) (hd : (a, 60) ∈ dk_dom G) (d : decode cc pc = .ok (.getfield 95, 3)) (hn : pc + 3 = n) (k : dk_W G p l e R s m args below meth c cells slots Q n L (dk_r G a 85 :: st) σ) : dk_W G p l e R s m args below meth c cells slots Q pc L (dk_r G a 60 :: st) σ :=
  dk_getR (ci := 9) (k0 := 34) (N := 37) (T := TX9) (Cn := RX9) C dk_sh60 rfl rfl rfl (by decide) dk_ui9 dk_wf_X9_95 hd d hn k
theorem gf_X9_133 {G : dk_G} {p : Program} {l : Launch} {e : Env} {R : Room} {s : State} {m : MethodId} {args : Array Value} {below : List Frame} {meth : Method} {c : Code} {cells slots : Nat} {Q : State → Prop} {cc : ByteArray} {nL : Nat} {pc n : Nat} {L : List (Option Value)} {st : List Value} {σ : dk_S} {a : Nat} (C : dk_C G p R s m args c cells slots cc nL RX9) (hd : (a, 60) ∈ dk_dom G) (d : decode cc pc = .ok (.getfield 133, 3)) (hn : pc + 3 = n) (k : dk_W G p l e R s m args below meth c cells slots Q n L (.int (σ a 60 2) :: st) σ) : dk_W G p l e R s m args below meth c cells slots Q pc L (dk_r G a 60 :: st) σ :=
  dk_getI (ci := 9) (k0 := 2) (N := 37) (T := TX9) (Cn := RX9) C dk_sh60 rfl rfl (by decide) dk_ui9 dk_wf_X9_133 hd d hn k
theorem pf_X9_252 {G : dk_G} {p : Program} {l : Launch} {e : Env} {R : Room} {s : State} {m : MethodId} {args : Array Value} {below : List Frame} {meth : Method} {c : Code} {cells slots : Nat} {Q : State → Prop} {cc : ByteArray} {nL : Nat} {pc n : Nat} {L : List (Option Value)} {st : List Value} {σ : dk_S} {a : Nat} {x : Int32} (C : dk_C G p R s m args c cells slots cc nL RX9) (hna : narrow .int (.int x) = .int x) (hfit : fits .int (.int x) = true) (hd : (a, 60) ∈ dk_dom G) (d : decode cc pc = .ok (.putfield 252, 3)) (hn : pc + 3 = n) (k : dk_W G p l e R s m args below meth c cells slots Q n L st (dk_row σ a 60 (upd (σ a 60) 3 x))) : dk_W G p l e R s m args below meth c cells slots Q pc L (.int x :: dk_r G a 60 :: st) σ :=
  dk_put (ci := 9) (k0 := 3) (N := 37) (T := TX9) (Cn := RX9) (ty := .int) C dk_sh60 rfl rfl (by decide) dk_ui9 tyX9 tyX9_ok nmX9 dk_wf_X9_252 (by decide) (by decide) hna hfit hd d hn k
theorem gf_X9_89 {G : dk_G} {p : Program} {l : Launch} {e : Env} {R : Room} {s : State} {m : MethodId} {args : Array Value} {below : List Frame} {meth : Method} {c : Code} {cells slots : Nat} {Q : State → Prop} {cc : ByteArray} {nL : Nat} {pc n : Nat} {L : List (Option Value)} {st : List Value} {σ : dk_S} {a : Nat} (C : dk_C G p R s m args c cells slots cc nL RX9) (hd : (a, 60) ∈ dk_dom G) (d : decode cc pc = .ok (.getfield 89, 3)) (hn : pc + 3 = n) (k : dk_W G p l e R s m args below meth c cells slots Q n L (.int (σ a 60 32) :: st) σ) : dk_W G p l e R s m args below meth c cells slots Q pc L (dk_r G a 60 :: st) σ :=
  dk_getI (ci := 9) (k0 := 32) (N := 37) (T := TX9) (Cn := RX9) C dk_sh60 rfl rfl (by decide) dk_ui9 dk_wf_X9_89 hd d hn k
theorem gf_X9_139 {G : dk_G} {p : Program} {l : Launch} {e : Env} {R : Room} {s : State} {m : MethodId} {args : Array Value} {below : List Frame} {meth : Method} {c : Code} {cells slots : Nat} {Q : State → Prop} {cc : ByteArray} {nL : Nat} {pc n : Nat} {L : List (Option Value)} {st : List Value} {σ : dk_S} {a : Nat} (C : dk_C G p R s m args c cells slots cc nL RX9) (hd : (a, 60) ∈ dk_dom G) (d : decode cc pc = .ok (.getfield 139, 3)) (hn : pc + 3 = n) (k : dk_W G p l e R s m args below meth c cells slots Q n L (.int (σ a 60 31) :: st) σ) : dk_W G p l e R s m args below meth c cells slots Q pc L (dk_r G a 60 :: st) σ :=
  dk_getI (ci := 9) (k0 := 31) (N := 37) (T := TX9) (Cn := RX9) C dk_sh60 rfl rfl (by decide) dk_ui9 dk_wf_X9_139 hd d hn k
theorem gf_X9_252 {G : dk_G} {p : Program} {l : Launch} {e : Env} {R : Room} {s : State} {m : MethodId} {args : Array Value} {below : List Frame} {meth : Method} {c : Code} {cells slots : Nat} {Q : State → Prop} {cc : ByteArray} {nL : Nat} {pc n : Nat} {L : List (Option Value)} {st : List Value} {σ : dk_S} {a : Nat} (C : dk_C G p R s m args c cells slots cc nL RX9) (hd : (a, 60) ∈ dk_dom G) (d : decode cc pc = .ok (.getfield 252, 3)) (hn : pc + 3 = n) (k : dk_W G p l e R s m args below meth c cells slots Q n L (.int (σ a 60 3) :: st) σ) : dk_W G p l e R s m args below meth c cells slots Q pc L (dk_r G a 60 :: st) σ :=
  dk_getI (ci := 9) (k0 := 3) (N := 37) (T := TX9) (Cn := RX9) C dk_sh60 rfl rfl (by decide) dk_ui9 dk_wf_X9_252 hd d hn k
theorem gf_X9_101 {G : dk_G} {p : Program} {l : Launch} {e : Env} {R : Room} {s : State} {m : MethodId} {args : Array Value} {below : List Frame} {meth : Method} {c : Code} {cells slots : Nat} {Q : State → Prop} {cc : ByteArray} {nL : Nat} {pc n : Nat} {L : List (Option Value)} {st : List Value} {σ : dk_S} {a : Nat} (C : dk_C G p R s m args c cells slots cc nL RX9) (hd : (a, 60) ∈ dk_dom G) (d : decode cc pc = .ok (.getfield 101, 3)) (hn : pc + 3 = n) (k : dk_W G p l e R s m args below meth c cells slots Q n L (dk_r G a 87 :: st) σ) : dk_W G p l e R s m args below meth c cells slots Q pc L (dk_r G a 60 :: st) σ :=
  dk_getR (ci := 9) (k0 := 36) (N := 37) (T := TX9) (Cn := RX9) C dk_sh60 rfl rfl rfl (by decide) dk_ui9 dk_wf_X9_101 hd d hn k
