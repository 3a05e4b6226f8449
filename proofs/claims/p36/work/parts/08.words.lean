theorem dk_sh0 : dk_shp 0 = .inr (7, [some (fun p => (p, 1)), some (fun p => (p, 7)), some (fun p => (p, 13)), some (fun p => (p, 23)), some (fun p => (p, 26)), none, none, none, none, none]) := rfl
theorem dk_sh1 : dk_shp 1 = .inr (1, [some (fun p => (p, 2)), some (fun p => (p, 3)), some (fun p => (p, 4)), some (fun p => (p, 5)), some (fun p => (p, 6)), none]) := rfl
theorem dk_sh2 : dk_shp 2 = .inl (1, 144) := rfl
theorem dk_sh3 : dk_shp 3 = .inl (0, 432) := rfl
theorem dk_sh4 : dk_shp 4 = .inl (0, 144) := rfl
theorem dk_sh5 : dk_shp 5 = .inl (0, 144) := rfl
theorem dk_sh6 : dk_shp 6 = .inl (0, 144) := rfl
theorem dk_sh7 : dk_shp 7 = .inr (3, [some (fun p => (p, 8)), some (fun p => (p, 9)), some (fun p => (p, 10)), some (fun p => (p, 11)), some (fun p => (p, 12))]) := rfl
theorem dk_sh8 : dk_shp 8 = .inl (0, 8) := rfl
theorem dk_sh9 : dk_shp 9 = .inl (0, 8) := rfl
theorem dk_sh10 : dk_shp 10 = .inl (0, 8) := rfl
theorem dk_sh11 : dk_shp 11 = .inl (0, 8) := rfl
theorem dk_sh12 : dk_shp 12 = .inl (0, 8) := rfl
theorem dk_sh13 : dk_shp 13 = .inr (2, [some (fun p => (p, 14)), some (fun p => (p, 15)), some (fun p => (p, 16)), some (fun p => (p, 17)), some (fun p => (p, 18)), some (fun p => (p, 19)), some (fun p => (p, 20)), some (fun p => (p, 21)), some (fun p => (p, 22)), none]) := rfl
theorem dk_sh14 : dk_shp 14 = .inl (0, 8) := rfl
theorem dk_sh15 : dk_shp 15 = .inl (0, 8) := rfl
theorem dk_sh16 : dk_shp 16 = .inl (0, 8) := rfl
theorem dk_sh17 : dk_shp 17 = .inl (0, 8) := rfl
theorem dk_sh18 : dk_shp 18 = .inl (0, 8) := rfl
theorem dk_sh19 : dk_shp 19 = .inl (0, 8) := rfl
theorem dk_sh20 : dk_shp 20 = .inl (0, 8) := rfl
theorem dk_sh21 : dk_shp 21 = .inl (0, 8) := rfl
theorem dk_sh22 : dk_shp 22 = .inl (0, 8) := rfl
theorem dk_sh23 : dk_shp 23 = .inr (6, [some (fun p => (p, 24)), some (fun p => (p, 25)), none]) := rfl
theorem dk_sh24 : dk_shp 24 = .inl (0, 24) := rfl
theorem dk_sh25 : dk_shp 25 = .inl (0, 24) := rfl
theorem dk_sh26 : dk_shp 26 = .inr (4, [some (fun p => (p, 27)), some (fun p => (p, 28)), none]) := rfl
theorem dk_sh27 : dk_shp 27 = .inl (0, 4) := rfl
theorem dk_sh28 : dk_shp 28 = .inl (0, 4) := rfl
theorem dk_sh40 : dk_shp 40 = .inr (8, [some (fun _ => (1, 0)), some (fun _ => (2, 0)), some (fun _ => (3, 0)), some (fun _ => (0, 41)), some (fun _ => (0, 45)), none, none]) := rfl
theorem dk_sh41 : dk_shp 41 = .inr (5, [some (fun p => (p, 42)), some (fun p => (p, 43)), some (fun p => (p, 44)), none]) := rfl
theorem dk_sh42 : dk_shp 42 = .inl (0, 512) := rfl
theorem dk_sh43 : dk_shp 43 = .inl (0, 512) := rfl
theorem dk_sh44 : dk_shp 44 = .inl (0, 512) := rfl
theorem dk_sh45 : dk_shp 45 = .inr (0, [some (fun p => (p, 46)), none]) := rfl
theorem dk_sh46 : dk_shp 46 = .inl (0, 24) := rfl
theorem dk_ui0 : ∀ w ∈ u_ws RX0 TX0 2, w ∈ dk_ws := by
  intro w hw
  obtain ⟨k, hk, rfl⟩ := List.mem_map.mp hw
  have hk := List.mem_range.mp hk
  match k, hk with
  | 0, _ => exact dk_w 287 (by decide +kernel) (by decide +kernel)
  | 1, _ => exact dk_w 289 (by decide +kernel) (by decide +kernel)
  | k + 2, hk => exact absurd hk (by omega)
theorem dk_ui1 : ∀ w ∈ u_ws RX1 TX1 6, w ∈ dk_ws := by
  intro w hw
  obtain ⟨k, hk, rfl⟩ := List.mem_map.mp hw
  have hk := List.mem_range.mp hk
  match k, hk with
  | 0, _ => exact dk_w 83 (by decide +kernel) (by decide +kernel)
  | 1, _ => exact dk_w 85 (by decide +kernel) (by decide +kernel)
  | 2, _ => exact dk_w 87 (by decide +kernel) (by decide +kernel)
  | 3, _ => exact dk_w 89 (by decide +kernel) (by decide +kernel)
  | 4, _ => exact dk_w 91 (by decide +kernel) (by decide +kernel)
  | 5, _ => exact dk_w 93 (by decide +kernel) (by decide +kernel)
  | k + 6, hk => exact absurd hk (by omega)
theorem dk_ui2 : ∀ w ∈ u_ws RX2 TX2 10, w ∈ dk_ws := by
  intro w hw
  obtain ⟨k, hk, rfl⟩ := List.mem_map.mp hw
  have hk := List.mem_range.mp hk
  match k, hk with
  | 0, _ => exact dk_w 154 (by decide +kernel) (by decide +kernel)
  | 1, _ => exact dk_w 156 (by decide +kernel) (by decide +kernel)
  | 2, _ => exact dk_w 158 (by decide +kernel) (by decide +kernel)
  | 3, _ => exact dk_w 160 (by decide +kernel) (by decide +kernel)
  | 4, _ => exact dk_w 162 (by decide +kernel) (by decide +kernel)
  | 5, _ => exact dk_w 164 (by decide +kernel) (by decide +kernel)
  | 6, _ => exact dk_w 166 (by decide +kernel) (by decide +kernel)
  | 7, _ => exact dk_w 168 (by decide +kernel) (by decide +kernel)
  | 8, _ => exact dk_w 170 (by decide +kernel) (by decide +kernel)
  | 9, _ => exact dk_w 172 (by decide +kernel) (by decide +kernel)
  | k + 10, hk => exact absurd hk (by omega)
theorem dk_ui3 : ∀ w ∈ u_ws RX3 TX3 5, w ∈ dk_ws := by
  intro w hw
  obtain ⟨k, hk, rfl⟩ := List.mem_map.mp hw
  have hk := List.mem_range.mp hk
  match k, hk with
  | 0, _ => exact dk_w 117 (by decide +kernel) (by decide +kernel)
  | 1, _ => exact dk_w 119 (by decide +kernel) (by decide +kernel)
  | 2, _ => exact dk_w 121 (by decide +kernel) (by decide +kernel)
  | 3, _ => exact dk_w 123 (by decide +kernel) (by decide +kernel)
  | 4, _ => exact dk_w 125 (by decide +kernel) (by decide +kernel)
  | k + 5, hk => exact absurd hk (by omega)
theorem dk_ui4 : ∀ w ∈ u_ws RX4 TX4 3, w ∈ dk_ws := by
  intro w hw
  obtain ⟨k, hk, rfl⟩ := List.mem_map.mp hw
  have hk := List.mem_range.mp hk
  match k, hk with
  | 0, _ => exact dk_w 209 (by decide +kernel) (by decide +kernel)
  | 1, _ => exact dk_w 211 (by decide +kernel) (by decide +kernel)
  | 2, _ => exact dk_w 213 (by decide +kernel) (by decide +kernel)
  | k + 3, hk => exact absurd hk (by omega)
theorem dk_ui5 : ∀ w ∈ u_ws RX5 TX5 4, w ∈ dk_ws := by
  intro w hw
  obtain ⟨k, hk, rfl⟩ := List.mem_map.mp hw
  have hk := List.mem_range.mp hk
  match k, hk with
  | 0, _ => exact dk_w 270 (by decide +kernel) (by decide +kernel)
  | 1, _ => exact dk_w 272 (by decide +kernel) (by decide +kernel)
  | 2, _ => exact dk_w 274 (by decide +kernel) (by decide +kernel)
  | 3, _ => exact dk_w 276 (by decide +kernel) (by decide +kernel)
  | k + 4, hk => exact absurd hk (by omega)
theorem dk_ui6 : ∀ w ∈ u_ws RX6 TX6 3, w ∈ dk_ws := by
  intro w hw
  obtain ⟨k, hk, rfl⟩ := List.mem_map.mp hw
  have hk := List.mem_range.mp hk
  match k, hk with
  | 0, _ => exact dk_w 192 (by decide +kernel) (by decide +kernel)
  | 1, _ => exact dk_w 194 (by decide +kernel) (by decide +kernel)
  | 2, _ => exact dk_w 196 (by decide +kernel) (by decide +kernel)
  | k + 3, hk => exact absurd hk (by omega)
theorem dk_ui7 : ∀ w ∈ u_ws RX7 TX7 10, w ∈ dk_ws := by
  intro w hw
  obtain ⟨k, hk, rfl⟩ := List.mem_map.mp hw
  have hk := List.mem_range.mp hk
  match k, hk with
  | 0, _ => exact dk_w 235 (by decide +kernel) (by decide +kernel)
  | 1, _ => exact dk_w 237 (by decide +kernel) (by decide +kernel)
  | 2, _ => exact dk_w 239 (by decide +kernel) (by decide +kernel)
  | 3, _ => exact dk_w 241 (by decide +kernel) (by decide +kernel)
  | 4, _ => exact dk_w 243 (by decide +kernel) (by decide +kernel)
  | 5, _ => exact dk_w 245 (by decide +kernel) (by decide +kernel)
  | 6, _ => exact dk_w 247 (by decide +kernel) (by decide +kernel)
  | 7, _ => exact dk_w 249 (by decide +kernel) (by decide +kernel)
  | 8, _ => exact dk_w 251 (by decide +kernel) (by decide +kernel)
  | 9, _ => exact dk_w 253 (by decide +kernel) (by decide +kernel)
  | k + 10, hk => exact absurd hk (by omega)
theorem dk_ui8 : ∀ w ∈ u_ws RX8 TX8 7, w ∈ dk_ws := by
  intro w hw
  obtain ⟨k, hk, rfl⟩ := List.mem_map.mp hw
  have hk := List.mem_range.mp hk
  match k, hk with
  | 0, _ => exact dk_w 299 (by decide +kernel) (by decide +kernel)
  | 1, _ => exact dk_w 301 (by decide +kernel) (by decide +kernel)
  | 2, _ => exact dk_w 303 (by decide +kernel) (by decide +kernel)
  | 3, _ => exact dk_w 305 (by decide +kernel) (by decide +kernel)
  | 4, _ => exact dk_w 307 (by decide +kernel) (by decide +kernel)
  | 5, _ => exact dk_w 309 (by decide +kernel) (by decide +kernel)
  | 6, _ => exact dk_w 311 (by decide +kernel) (by decide +kernel)
  | k + 7, hk => exact absurd hk (by omega)
theorem dk_wm_max_s : Cond.static Lib.Math.max.name ∈ dk_ws := dk_w 475 (by decide +kernel) (by decide +kernel)
theorem dk_wm_max_c : Cond.code Lib.Math.max.name Lib.Math.max.code 2 (some .int) ∈ dk_ws := dk_w 476 (by decide +kernel) (by decide +kernel)
theorem dk_wm_min_s : Cond.static Lib.Math.min.name ∈ dk_ws := dk_w 478 (by decide +kernel) (by decide +kernel)
theorem dk_wm_min_c : Cond.code Lib.Math.min.name Lib.Math.min.code 2 (some .int) ∈ dk_ws := dk_w 479 (by decide +kernel) (by decide +kernel)
theorem dk_wm_abs_s : Cond.static Lib.Math.abs.name ∈ dk_ws := dk_w 765 (by decide +kernel) (by decide +kernel)
theorem dk_wm_abs_c : Cond.code Lib.Math.abs.name Lib.Math.abs.code 1 (some .int) ∈ dk_ws := dk_w 766 (by decide +kernel) (by decide +kernel)
theorem dk_wm_i : Cond.initialized "java/lang/Math" ∈ dk_ws := dk_w 47 (by decide +kernel) (by decide +kernel)
theorem dk_wc_n : Cond.native arraycopyName ∈ dk_ws := dk_w 696 (by decide +kernel) (by decide +kernel)
theorem dk_wc_s : Cond.static arraycopyName ∈ dk_ws := dk_w 695 (by decide +kernel) (by decide +kernel)
theorem dk_wc_i : Cond.initialized "java/lang/System" ∈ dk_ws := dk_w 52 (by decide +kernel) (by decide +kernel)
theorem dk_wc_J7_fill_53178 : Cond.code yJ7_fill_53178 cJ7_fill_53178 4 none ∈ dk_ws := dk_w 782 (by decide +kernel) (by decide +kernel)
theorem dk_wn_RJ7 : Cond.initialized RJ7 ∈ dk_ws := dk_w 53 (by decide +kernel) (by decide +kernel)
theorem dk_wt_J7_fill_53178 : Cond.static yJ7_fill_53178 ∈ dk_ws := dk_w 781 (by decide +kernel) (by decide +kernel)
theorem yy_J7_fill_53178 : dk_YS yJ7_fill_53178 cJ7_fill_53178 4 none 2 := ⟨dk_wt_J7_fill_53178, dk_wn_RJ7, dk_wc_J7_fill_53178, ⟨by decide, by decide, by decide⟩⟩
theorem dk_wc_X8_at : Cond.code yX8_at cX8_at 2 (some .int) ∈ dk_ws := dk_w 572 (by decide +kernel) (by decide +kernel)
theorem dk_wn_RX8 : Cond.initialized RX8 ∈ dk_ws := dk_w 30 (by decide +kernel) (by decide +kernel)
theorem dk_wt_X8_at : Cond.static yX8_at ∈ dk_ws := dk_w 571 (by decide +kernel) (by decide +kernel)
theorem yy_X8_at : dk_YS yX8_at cX8_at 2 (some .int) 2 := ⟨dk_wt_X8_at, dk_wn_RX8, dk_wc_X8_at, ⟨by decide, by decide, by decide⟩⟩
theorem dk_wc_X7_heroSpot : Cond.code yX7_heroSpot cX7_heroSpot 1 (some .int) ∈ dk_ws := dk_w 759 (by decide +kernel) (by decide +kernel)
theorem dk_wn_RX7 : Cond.initialized RX7 ∈ dk_ws := dk_w 31 (by decide +kernel) (by decide +kernel)
theorem dk_wt_X7_heroSpot : Cond.instanceMethod yX7_heroSpot ∈ dk_ws := dk_w 757 (by decide +kernel) (by decide +kernel)
theorem dk_ws_X7_heroSpot : Cond.selects RX7 yX7_heroSpot yX7_heroSpot ∈ dk_ws := dk_w 758 (by decide +kernel) (by decide +kernel)
theorem yy_X7_heroSpot : dk_YV yX7_heroSpot cX7_heroSpot 1 (some .int) 0 := ⟨dk_wt_X7_heroSpot, dk_ws_X7_heroSpot, dk_wn_RX7, dk_wc_X7_heroSpot, ⟨by decide, by decide, by decide⟩⟩
theorem dk_wf_X7_28 : Cond.fieldLink RX7 28 (TX7 2).1 (TX7 2).2.1 (TX7 2).2.2.1 ∈ dk_ws := dk_w 221 (by decide +kernel) (by decide +kernel)
theorem dk_wf_X7_78 : Cond.fieldLink RX7 78 (TX2 0).1 (TX2 0).2.1 (TX2 0).2.2.1 ∈ dk_ws := dk_w 136 (by decide +kernel) (by decide +kernel)
theorem dk_wm_X7_82 : Cond.methodLinkNest RX7 82 yX8_at "DelveKeep" ∈ dk_nw := dk_n 672 (by decide +kernel) (by decide +kernel)
theorem dk_wc_X6_bagOf : Cond.code yX6_bagOf cX6_bagOf 3 (some .int) ∈ dk_ws := dk_w 841 (by decide +kernel) (by decide +kernel)
theorem dk_wn_RX6 : Cond.initialized RX6 ∈ dk_ws := dk_w 35 (by decide +kernel) (by decide +kernel)
theorem dk_wt_X6_bagOf : Cond.instanceMethod yX6_bagOf ∈ dk_ws := dk_w 840 (by decide +kernel) (by decide +kernel)
theorem dk_ws_X6_bagOf : Cond.selects RX6 yX6_bagOf yX6_bagOf ∈ dk_ws := dk_w 12 (by decide +kernel) (by decide +kernel)
theorem yy_X6_bagOf : dk_YV yX6_bagOf cX6_bagOf 3 (some .int) 1 := ⟨dk_wt_X6_bagOf, dk_ws_X6_bagOf, dk_wn_RX6, dk_wc_X6_bagOf, ⟨by decide, by decide, by decide⟩⟩
theorem dk_wf_X6_15 : Cond.fieldLink RX6 15 (TX6 1).1 (TX6 1).2.1 (TX6 1).2.2.1 ∈ dk_ws := dk_w 184 (by decide +kernel) (by decide +kernel)
theorem dk_wm_X6_30 : Cond.methodLinkNest RX6 30 yX8_at "DelveKeep" ∈ dk_nw := dk_n 842 (by decide +kernel) (by decide +kernel)
theorem dk_wc_X6_outerPlace : Cond.code yX6_outerPlace cX6_outerPlace 4 (some .int) ∈ dk_ws := dk_w 837 (by decide +kernel) (by decide +kernel)
theorem dk_wt_X6_outerPlace : Cond.instanceMethod yX6_outerPlace ∈ dk_ws := dk_w 835 (by decide +kernel) (by decide +kernel)
theorem dk_ws_X6_outerPlace : Cond.selects RX6 yX6_outerPlace yX6_outerPlace ∈ dk_ws := dk_w 836 (by decide +kernel) (by decide +kernel)
theorem yy_X6_outerPlace : dk_YV yX6_outerPlace cX6_outerPlace 4 (some .int) 1 := ⟨dk_wt_X6_outerPlace, dk_ws_X6_outerPlace, dk_wn_RX6, dk_wc_X6_outerPlace, ⟨by decide, by decide, by decide⟩⟩
theorem dk_wm_X6_34 : Cond.methodLink RX6 34 yX6_bagOf ∈ dk_ws := dk_w 838 (by decide +kernel) (by decide +kernel)
theorem dk_wc_X8_put : Cond.code yX8_put cX8_put 3 none ∈ dk_ws := dk_w 106 (by decide +kernel) (by decide +kernel)
theorem dk_wt_X8_put : Cond.static yX8_put ∈ dk_ws := dk_w 105 (by decide +kernel) (by decide +kernel)
theorem yy_X8_put : dk_YS yX8_put cX8_put 3 none 3 := ⟨dk_wt_X8_put, dk_wn_RX8, dk_wc_X8_put, ⟨by decide, by decide, by decide⟩⟩
theorem dk_wc_X0_note : Cond.code yX0_note cX0_note 4 none ∈ dk_ws := dk_w 832 (by decide +kernel) (by decide +kernel)
theorem dk_wn_RX0 : Cond.initialized RX0 ∈ dk_ws := dk_w 38 (by decide +kernel) (by decide +kernel)
theorem dk_wt_X0_note : Cond.instanceMethod yX0_note ∈ dk_ws := dk_w 830 (by decide +kernel) (by decide +kernel)
theorem dk_ws_X0_note : Cond.selects RX0 yX0_note yX0_note ∈ dk_ws := dk_w 831 (by decide +kernel) (by decide +kernel)
theorem yy_X0_note : dk_YV yX0_note cX0_note 4 none 1 := ⟨dk_wt_X0_note, dk_ws_X0_note, dk_wn_RX0, dk_wc_X0_note, ⟨by decide, by decide, by decide⟩⟩
theorem dk_wm_X0_19 : Cond.methodLink RX0 19 yX7_heroSpot ∈ dk_ws := dk_w 833 (by decide +kernel) (by decide +kernel)
theorem dk_wf_X0_15 : Cond.fieldLink RX0 15 (TX0 1).1 (TX0 1).2.1 (TX0 1).2.2.1 ∈ dk_ws := dk_w 286 (by decide +kernel) (by decide +kernel)
theorem dk_wf_X0_25 : Cond.fieldLink RX0 25 (TX7 3).1 (TX7 3).2.1 (TX7 3).2.2.1 ∈ dk_ws := dk_w 224 (by decide +kernel) (by decide +kernel)
theorem dk_wf_X0_29 : Cond.fieldLink RX0 29 (TX6 2).1 (TX6 2).2.1 (TX6 2).2.2.1 ∈ dk_ws := dk_w 189 (by decide +kernel) (by decide +kernel)
theorem dk_wm_X0_34 : Cond.methodLink RX0 34 yX6_outerPlace ∈ dk_ws := dk_w 834 (by decide +kernel) (by decide +kernel)
theorem dk_wf_X0_9 : Cond.fieldLink RX0 9 (TX0 0).1 (TX0 0).2.1 (TX0 0).2.2.1 ∈ dk_ws := dk_w 285 (by decide +kernel) (by decide +kernel)
theorem dk_wm_X0_43 : Cond.methodLinkNest RX0 43 yX8_put "DelveKeep" ∈ dk_nw := dk_n 727 (by decide +kernel) (by decide +kernel)
theorem dk_wf_X0_38 : Cond.fieldLink RX0 38 (TX6 1).1 (TX6 1).2.1 (TX6 1).2.2.1 ∈ dk_ws := dk_w 185 (by decide +kernel) (by decide +kernel)
theorem dk_wm_X0_39 : Cond.methodLinkNest RX0 39 yX8_at "DelveKeep" ∈ dk_nw := dk_n 726 (by decide +kernel) (by decide +kernel)
theorem dk_wc_X1_signAt : Cond.code yX1_signAt cX1_signAt 2 (some .char) ∈ dk_ws := dk_w 558 (by decide +kernel) (by decide +kernel)
theorem dk_wn_RX1 : Cond.initialized RX1 ∈ dk_ws := dk_w 32 (by decide +kernel) (by decide +kernel)
theorem dk_wt_X1_signAt : Cond.instanceMethod yX1_signAt ∈ dk_ws := dk_w 556 (by decide +kernel) (by decide +kernel)
theorem dk_ws_X1_signAt : Cond.selects RX1 yX1_signAt yX1_signAt ∈ dk_ws := dk_w 557 (by decide +kernel) (by decide +kernel)
theorem yy_X1_signAt : dk_YV yX1_signAt cX1_signAt 2 (some .char) 1 := ⟨dk_wt_X1_signAt, dk_ws_X1_signAt, dk_wn_RX1, dk_wc_X1_signAt, ⟨by decide, by decide, by decide⟩⟩
theorem dk_wf_X1_9 : Cond.fieldLink RX1 9 (TX1 0).1 (TX1 0).2.1 (TX1 0).2.2.1 ∈ dk_ws := dk_w 75 (by decide +kernel) (by decide +kernel)
theorem dk_wc_X8_isFree : Cond.code yX8_isFree cX8_isFree 1 (some .boolean) ∈ dk_ws := dk_w 680 (by decide +kernel) (by decide +kernel)
theorem dk_wt_X8_isFree : Cond.static yX8_isFree ∈ dk_ws := dk_w 679 (by decide +kernel) (by decide +kernel)
theorem yy_X8_isFree : dk_YS yX8_isFree cX8_isFree 1 (some .boolean) 1 := ⟨dk_wt_X8_isFree, dk_wn_RX8, dk_wc_X8_isFree, ⟨by decide, by decide, by decide⟩⟩
theorem dk_wc_X1_isFreeAt : Cond.code yX1_isFreeAt cX1_isFreeAt 2 (some .boolean) ∈ dk_ws := dk_w 676 (by decide +kernel) (by decide +kernel)
theorem dk_wt_X1_isFreeAt : Cond.instanceMethod yX1_isFreeAt ∈ dk_ws := dk_w 674 (by decide +kernel) (by decide +kernel)
theorem dk_ws_X1_isFreeAt : Cond.selects RX1 yX1_isFreeAt yX1_isFreeAt ∈ dk_ws := dk_w 675 (by decide +kernel) (by decide +kernel)
theorem yy_X1_isFreeAt : dk_YV yX1_isFreeAt cX1_isFreeAt 2 (some .boolean) 1 := ⟨dk_wt_X1_isFreeAt, dk_ws_X1_isFreeAt, dk_wn_RX1, dk_wc_X1_isFreeAt, ⟨by decide, by decide, by decide⟩⟩
theorem dk_wm_X1_44 : Cond.methodLink RX1 44 yX1_signAt ∈ dk_ws := dk_w 677 (by decide +kernel) (by decide +kernel)
theorem dk_wm_X1_48 : Cond.methodLinkNest RX1 48 yX8_isFree "DelveKeep" ∈ dk_nw := dk_n 678 (by decide +kernel) (by decide +kernel)
theorem dk_wc_X0_layIn : Cond.code yX0_layIn cX0_layIn 4 none ∈ dk_ws := dk_w 724 (by decide +kernel) (by decide +kernel)
theorem dk_wt_X0_layIn : Cond.instanceMethod yX0_layIn ∈ dk_ws := dk_w 722 (by decide +kernel) (by decide +kernel)
theorem dk_ws_X0_layIn : Cond.selects RX0 yX0_layIn yX0_layIn ∈ dk_ws := dk_w 723 (by decide +kernel) (by decide +kernel)
theorem yy_X0_layIn : dk_YV yX0_layIn cX0_layIn 4 none 1 := ⟨dk_wt_X0_layIn, dk_ws_X0_layIn, dk_wn_RX0, dk_wc_X0_layIn, ⟨by decide, by decide, by decide⟩⟩
theorem dk_wf_X0_47 : Cond.fieldLink RX0 47 (TX7 0).1 (TX7 0).2.1 (TX7 0).2.2.1 ∈ dk_ws := dk_w 218 (by decide +kernel) (by decide +kernel)
theorem dk_wm_X0_51 : Cond.methodLink RX0 51 yX1_isFreeAt ∈ dk_ws := dk_w 725 (by decide +kernel) (by decide +kernel)
theorem dk_wc_X1_copy : Cond.code yX1_copy cX1_copy 2 none ∈ dk_ws := dk_w 692 (by decide +kernel) (by decide +kernel)
theorem dk_wt_X1_copy : Cond.instanceMethod yX1_copy ∈ dk_ws := dk_w 690 (by decide +kernel) (by decide +kernel)
theorem dk_ws_X1_copy : Cond.selects RX1 yX1_copy yX1_copy ∈ dk_ws := dk_w 691 (by decide +kernel) (by decide +kernel)
theorem yy_X1_copy : dk_YV yX1_copy cX1_copy 2 none 1 := ⟨dk_wt_X1_copy, dk_ws_X1_copy, dk_wn_RX1, dk_wc_X1_copy, ⟨by decide, by decide, by decide⟩⟩
theorem dk_wm_X1_32 : Cond.methodLink RX1 32 Lib.Math.min.name ∈ dk_ws := dk_w 693 (by decide +kernel) (by decide +kernel)
theorem dk_wm_X1_38 : Cond.methodLink RX1 38 arraycopyName ∈ dk_ws := dk_w 694 (by decide +kernel) (by decide +kernel)
theorem dk_wf_X1_28 : Cond.fieldLink RX1 28 (TX1 5).1 (TX1 5).2.1 (TX1 5).2.2.1 ∈ dk_ws := dk_w 82 (by decide +kernel) (by decide +kernel)
theorem dk_wc_X1_change : Cond.code yX1_change cX1_change 3 none ∈ dk_ws := dk_w 562 (by decide +kernel) (by decide +kernel)
theorem dk_wt_X1_change : Cond.instanceMethod yX1_change ∈ dk_ws := dk_w 560 (by decide +kernel) (by decide +kernel)
theorem dk_ws_X1_change : Cond.selects RX1 yX1_change yX1_change ∈ dk_ws := dk_w 561 (by decide +kernel) (by decide +kernel)
theorem yy_X1_change : dk_YV yX1_change cX1_change 3 none 2 := ⟨dk_wt_X1_change, dk_ws_X1_change, dk_wn_RX1, dk_wc_X1_change, ⟨by decide, by decide, by decide⟩⟩
theorem dk_wc_X8_spot : Cond.code yX8_spot cX8_spot 2 (some .int) ∈ dk_ws := dk_w 554 (by decide +kernel) (by decide +kernel)
theorem dk_wt_X8_spot : Cond.static yX8_spot ∈ dk_ws := dk_w 553 (by decide +kernel) (by decide +kernel)
theorem yy_X8_spot : dk_YS yX8_spot cX8_spot 2 (some .int) 2 := ⟨dk_wt_X8_spot, dk_wn_RX8, dk_wc_X8_spot, ⟨by decide, by decide, by decide⟩⟩
theorem dk_wc_X1_seeEachOther : Cond.code yX1_seeEachOther cX1_seeEachOther 14 (some .boolean) ∈ dk_ws := dk_w 763 (by decide +kernel) (by decide +kernel)
theorem dk_wt_X1_seeEachOther : Cond.instanceMethod yX1_seeEachOther ∈ dk_ws := dk_w 761 (by decide +kernel) (by decide +kernel)
theorem dk_ws_X1_seeEachOther : Cond.selects RX1 yX1_seeEachOther yX1_seeEachOther ∈ dk_ws := dk_w 762 (by decide +kernel) (by decide +kernel)
theorem yy_X1_seeEachOther : dk_YV yX1_seeEachOther cX1_seeEachOther 14 (some .boolean) 2 := ⟨dk_wt_X1_seeEachOther, dk_ws_X1_seeEachOther, dk_wn_RX1, dk_wc_X1_seeEachOther, ⟨by decide, by decide, by decide⟩⟩
theorem dk_wm_X1_52 : Cond.methodLink RX1 52 Lib.Math.abs.name ∈ dk_ws := dk_w 764 (by decide +kernel) (by decide +kernel)
theorem dk_wm_X1_56 : Cond.methodLink RX1 56 Lib.Math.max.name ∈ dk_ws := dk_w 767 (by decide +kernel) (by decide +kernel)
theorem dk_wm_X1_59 : Cond.methodLinkNest RX1 59 yX8_spot "DelveKeep" ∈ dk_nw := dk_n 768 (by decide +kernel) (by decide +kernel)
theorem dk_wm_X1_62 : Cond.methodLink RX1 62 yX1_isFreeAt ∈ dk_ws := dk_w 769 (by decide +kernel) (by decide +kernel)
theorem dk_wc_X8_beside : Cond.code yX8_beside cX8_beside 2 (some .int) ∈ dk_ws := dk_w 787 (by decide +kernel) (by decide +kernel)
theorem dk_wt_X8_beside : Cond.static yX8_beside ∈ dk_ws := dk_w 786 (by decide +kernel) (by decide +kernel)
theorem yy_X8_beside : dk_YS yX8_beside cX8_beside 2 (some .int) 2 := ⟨dk_wt_X8_beside, dk_wn_RX8, dk_wc_X8_beside, ⟨by decide, by decide, by decide⟩⟩
theorem dk_wc_X1_tollOf : Cond.code yX1_tollOf cX1_tollOf 3 (some .int) ∈ dk_ws := dk_w 790 (by decide +kernel) (by decide +kernel)
theorem dk_wt_X1_tollOf : Cond.static yX1_tollOf ∈ dk_ws := dk_w 789 (by decide +kernel) (by decide +kernel)
theorem yy_X1_tollOf : dk_YS yX1_tollOf cX1_tollOf 3 (some .int) 3 := ⟨dk_wt_X1_tollOf, dk_wn_RX1, dk_wc_X1_tollOf, ⟨by decide, by decide, by decide⟩⟩
theorem dk_wc_X1_flood : Cond.code yX1_flood cX1_flood 14 none ∈ dk_ws := dk_w 779 (by decide +kernel) (by decide +kernel)
theorem dk_wt_X1_flood : Cond.instanceMethod yX1_flood ∈ dk_ws := dk_w 777 (by decide +kernel) (by decide +kernel)
theorem dk_ws_X1_flood : Cond.selects RX1 yX1_flood yX1_flood ∈ dk_ws := dk_w 778 (by decide +kernel) (by decide +kernel)
theorem yy_X1_flood : dk_YV yX1_flood cX1_flood 14 none 5 := ⟨dk_wt_X1_flood, dk_ws_X1_flood, dk_wn_RX1, dk_wc_X1_flood, ⟨by decide, by decide, by decide⟩⟩
theorem dk_wm_X1_71 : Cond.methodLink RX1 71 yJ7_fill_53178 ∈ dk_ws := dk_w 780 (by decide +kernel) (by decide +kernel)
theorem dk_wm_X1_77 : Cond.methodLinkNest RX1 77 yX8_put "DelveKeep" ∈ dk_nw := dk_n 783 (by decide +kernel) (by decide +kernel)
theorem dk_wf_X1_19 : Cond.fieldLink RX1 19 (TX1 2).1 (TX1 2).2.1 (TX1 2).2.2.1 ∈ dk_ws := dk_w 77 (by decide +kernel) (by decide +kernel)
theorem dk_wf_X1_15 : Cond.fieldLink RX1 15 (TX1 1).1 (TX1 1).2.1 (TX1 1).2.2.1 ∈ dk_ws := dk_w 76 (by decide +kernel) (by decide +kernel)
theorem dk_wm_X1_81 : Cond.methodLinkNest RX1 81 yX8_at "DelveKeep" ∈ dk_nw := dk_n 784 (by decide +kernel) (by decide +kernel)
theorem dk_wm_X1_85 : Cond.methodLinkNest RX1 85 yX8_beside "DelveKeep" ∈ dk_nw := dk_n 785 (by decide +kernel) (by decide +kernel)
theorem dk_wm_X1_88 : Cond.methodLink RX1 88 yX1_tollOf ∈ dk_ws := dk_w 788 (by decide +kernel) (by decide +kernel)
theorem dk_wc_X1_aimAt : Cond.code yX1_aimAt cX1_aimAt 2 none ∈ dk_ws := dk_w 774 (by decide +kernel) (by decide +kernel)
theorem dk_wt_X1_aimAt : Cond.instanceMethod yX1_aimAt ∈ dk_ws := dk_w 772 (by decide +kernel) (by decide +kernel)
theorem dk_ws_X1_aimAt : Cond.selects RX1 yX1_aimAt yX1_aimAt ∈ dk_ws := dk_w 773 (by decide +kernel) (by decide +kernel)
theorem yy_X1_aimAt : dk_YV yX1_aimAt cX1_aimAt 2 none 1 := ⟨dk_wt_X1_aimAt, dk_ws_X1_aimAt, dk_wn_RX1, dk_wc_X1_aimAt, ⟨by decide, by decide, by decide⟩⟩
theorem dk_wf_X1_25 : Cond.fieldLink RX1 25 (TX1 4).1 (TX1 4).2.1 (TX1 4).2.2.1 ∈ dk_ws := dk_w 80 (by decide +kernel) (by decide +kernel)
theorem dk_wk_X1_66 : Cond.constant RX1 66 1000000 ∈ dk_ws := dk_w 775 (by decide +kernel) (by decide +kernel)
theorem dk_wm_X1_67 : Cond.methodLink RX1 67 yX1_flood ∈ dk_ws := dk_w 776 (by decide +kernel) (by decide +kernel)
theorem dk_wc_X1_isLike : Cond.code yX1_isLike cX1_isLike 3 (some .boolean) ∈ dk_ws := dk_w 1083 (by decide +kernel) (by decide +kernel)
theorem dk_wt_X1_isLike : Cond.instanceMethod yX1_isLike ∈ dk_ws := dk_w 1081 (by decide +kernel) (by decide +kernel)
theorem dk_ws_X1_isLike : Cond.selects RX1 yX1_isLike yX1_isLike ∈ dk_ws := dk_w 1082 (by decide +kernel) (by decide +kernel)
theorem yy_X1_isLike : dk_YV yX1_isLike cX1_isLike 3 (some .boolean) 1 := ⟨dk_wt_X1_isLike, dk_ws_X1_isLike, dk_wn_RX1, dk_wc_X1_isLike, ⟨by decide, by decide, by decide⟩⟩
theorem dk_wc_X8_copyRow : Cond.code yX8_copyRow cX8_copyRow 2 none ∈ dk_ws := dk_w 703 (by decide +kernel) (by decide +kernel)
theorem dk_wt_X8_copyRow : Cond.static yX8_copyRow ∈ dk_ws := dk_w 702 (by decide +kernel) (by decide +kernel)
theorem yy_X8_copyRow : dk_YS yX8_copyRow cX8_copyRow 2 none 2 := ⟨dk_wt_X8_copyRow, dk_wn_RX8, dk_wc_X8_copyRow, ⟨by decide, by decide, by decide⟩⟩
theorem dk_wm_X8_316 : Cond.methodLink RX8 316 Lib.Math.min.name ∈ dk_ws := dk_w 704 (by decide +kernel) (by decide +kernel)
theorem dk_wm_X8_319 : Cond.methodLink RX8 319 arraycopyName ∈ dk_ws := dk_w 705 (by decide +kernel) (by decide +kernel)
theorem dk_wc_X2_copy : Cond.code yX2_copy cX2_copy 2 none ∈ dk_ws := dk_w 709 (by decide +kernel) (by decide +kernel)
theorem dk_wn_RX2 : Cond.initialized RX2 ∈ dk_ws := dk_w 34 (by decide +kernel) (by decide +kernel)
theorem dk_wt_X2_copy : Cond.instanceMethod yX2_copy ∈ dk_ws := dk_w 707 (by decide +kernel) (by decide +kernel)
theorem dk_ws_X2_copy : Cond.selects RX2 yX2_copy yX2_copy ∈ dk_ws := dk_w 708 (by decide +kernel) (by decide +kernel)
theorem yy_X2_copy : dk_YV yX2_copy cX2_copy 2 none 1 := ⟨dk_wt_X2_copy, dk_ws_X2_copy, dk_wn_RX2, dk_wc_X2_copy, ⟨by decide, by decide, by decide⟩⟩
theorem dk_wf_X2_9 : Cond.fieldLink RX2 9 (TX2 0).1 (TX2 0).2.1 (TX2 0).2.2.1 ∈ dk_ws := dk_w 135 (by decide +kernel) (by decide +kernel)
theorem dk_wm_X2_47 : Cond.methodLinkNest RX2 47 yX8_copyRow "DelveKeep" ∈ dk_nw := dk_n 710 (by decide +kernel) (by decide +kernel)
theorem dk_wf_X2_15 : Cond.fieldLink RX2 15 (TX2 1).1 (TX2 1).2.1 (TX2 1).2.2.1 ∈ dk_ws := dk_w 138 (by decide +kernel) (by decide +kernel)
theorem dk_wf_X2_18 : Cond.fieldLink RX2 18 (TX2 2).1 (TX2 2).2.1 (TX2 2).2.2.1 ∈ dk_ws := dk_w 139 (by decide +kernel) (by decide +kernel)
theorem dk_wf_X2_21 : Cond.fieldLink RX2 21 (TX2 3).1 (TX2 3).2.1 (TX2 3).2.2.1 ∈ dk_ws := dk_w 141 (by decide +kernel) (by decide +kernel)
theorem dk_wf_X2_24 : Cond.fieldLink RX2 24 (TX2 4).1 (TX2 4).2.1 (TX2 4).2.2.1 ∈ dk_ws := dk_w 143 (by decide +kernel) (by decide +kernel)
theorem dk_wf_X2_27 : Cond.fieldLink RX2 27 (TX2 5).1 (TX2 5).2.1 (TX2 5).2.2.1 ∈ dk_ws := dk_w 146 (by decide +kernel) (by decide +kernel)
theorem dk_wf_X2_30 : Cond.fieldLink RX2 30 (TX2 6).1 (TX2 6).2.1 (TX2 6).2.2.1 ∈ dk_ws := dk_w 147 (by decide +kernel) (by decide +kernel)
theorem dk_wf_X2_33 : Cond.fieldLink RX2 33 (TX2 7).1 (TX2 7).2.1 (TX2 7).2.2.1 ∈ dk_ws := dk_w 148 (by decide +kernel) (by decide +kernel)
theorem dk_wf_X2_36 : Cond.fieldLink RX2 36 (TX2 8).1 (TX2 8).2.1 (TX2 8).2.2.1 ∈ dk_ws := dk_w 149 (by decide +kernel) (by decide +kernel)
theorem dk_wf_X2_39 : Cond.fieldLink RX2 39 (TX2 9).1 (TX2 9).2.1 (TX2 9).2.2.1 ∈ dk_ws := dk_w 151 (by decide +kernel) (by decide +kernel)
theorem dk_wc_X2_tell : Cond.code yX2_tell cX2_tell 6 none ∈ dk_ws := dk_w 599 (by decide +kernel) (by decide +kernel)
theorem dk_wt_X2_tell : Cond.instanceMethod yX2_tell ∈ dk_ws := dk_w 597 (by decide +kernel) (by decide +kernel)
theorem dk_ws_X2_tell : Cond.selects RX2 yX2_tell yX2_tell ∈ dk_ws := dk_w 598 (by decide +kernel) (by decide +kernel)
theorem yy_X2_tell : dk_YV yX2_tell cX2_tell 6 none 5 := ⟨dk_wt_X2_tell, dk_ws_X2_tell, dk_wn_RX2, dk_wc_X2_tell, ⟨by decide, by decide, by decide⟩⟩
theorem dk_wm_X2_43 : Cond.methodLinkNest RX2 43 yX8_put "DelveKeep" ∈ dk_nw := dk_n 134 (by decide +kernel) (by decide +kernel)
theorem dk_wc_X2_lives : Cond.code yX2_lives cX2_lives 2 (some .boolean) ∈ dk_ws := dk_w 736 (by decide +kernel) (by decide +kernel)
theorem dk_wt_X2_lives : Cond.instanceMethod yX2_lives ∈ dk_ws := dk_w 734 (by decide +kernel) (by decide +kernel)
theorem dk_ws_X2_lives : Cond.selects RX2 yX2_lives yX2_lives ∈ dk_ws := dk_w 735 (by decide +kernel) (by decide +kernel)
theorem yy_X2_lives : dk_YV yX2_lives cX2_lives 2 (some .boolean) 1 := ⟨dk_wt_X2_lives, dk_ws_X2_lives, dk_wn_RX2, dk_wc_X2_lives, ⟨by decide, by decide, by decide⟩⟩
theorem dk_wm_X2_51 : Cond.methodLinkNest RX2 51 yX8_at "DelveKeep" ∈ dk_nw := dk_n 663 (by decide +kernel) (by decide +kernel)
theorem dk_wc_X2_livingAt : Cond.code yX2_livingAt cX2_livingAt 3 (some .int) ∈ dk_ws := dk_w 667 (by decide +kernel) (by decide +kernel)
theorem dk_wt_X2_livingAt : Cond.instanceMethod yX2_livingAt ∈ dk_ws := dk_w 665 (by decide +kernel) (by decide +kernel)
theorem dk_ws_X2_livingAt : Cond.selects RX2 yX2_livingAt yX2_livingAt ∈ dk_ws := dk_w 666 (by decide +kernel) (by decide +kernel)
theorem yy_X2_livingAt : dk_YV yX2_livingAt cX2_livingAt 3 (some .int) 1 := ⟨dk_wt_X2_livingAt, dk_ws_X2_livingAt, dk_wn_RX2, dk_wc_X2_livingAt, ⟨by decide, by decide, by decide⟩⟩
theorem dk_wc_X2_allStandApart : Cond.code yX2_allStandApart cX2_allStandApart 2 (some .boolean) ∈ dk_ws := dk_w 662 (by decide +kernel) (by decide +kernel)
theorem dk_wt_X2_allStandApart : Cond.instanceMethod yX2_allStandApart ∈ dk_ws := dk_w 660 (by decide +kernel) (by decide +kernel)
theorem dk_ws_X2_allStandApart : Cond.selects RX2 yX2_allStandApart yX2_allStandApart ∈ dk_ws := dk_w 661 (by decide +kernel) (by decide +kernel)
theorem yy_X2_allStandApart : dk_YV yX2_allStandApart cX2_allStandApart 2 (some .boolean) 0 := ⟨dk_wt_X2_allStandApart, dk_ws_X2_allStandApart, dk_wn_RX2, dk_wc_X2_allStandApart, ⟨by decide, by decide, by decide⟩⟩
theorem dk_wm_X2_65 : Cond.methodLink RX2 65 yX2_livingAt ∈ dk_ws := dk_w 664 (by decide +kernel) (by decide +kernel)
theorem dk_wc_X2_isWeak : Cond.code yX2_isWeak cX2_isWeak 2 (some .boolean) ∈ dk_ws := dk_w 794 (by decide +kernel) (by decide +kernel)
theorem dk_wt_X2_isWeak : Cond.instanceMethod yX2_isWeak ∈ dk_ws := dk_w 792 (by decide +kernel) (by decide +kernel)
theorem dk_ws_X2_isWeak : Cond.selects RX2 yX2_isWeak yX2_isWeak ∈ dk_ws := dk_w 793 (by decide +kernel) (by decide +kernel)
theorem yy_X2_isWeak : dk_YV yX2_isWeak cX2_isWeak 2 (some .boolean) 1 := ⟨dk_wt_X2_isWeak, dk_ws_X2_isWeak, dk_wn_RX2, dk_wc_X2_isWeak, ⟨by decide, by decide, by decide⟩⟩
theorem dk_wc_X2_harm : Cond.code yX2_harm cX2_harm 3 none ∈ dk_ws := dk_w 813 (by decide +kernel) (by decide +kernel)
theorem dk_wt_X2_harm : Cond.instanceMethod yX2_harm ∈ dk_ws := dk_w 811 (by decide +kernel) (by decide +kernel)
theorem dk_ws_X2_harm : Cond.selects RX2 yX2_harm yX2_harm ∈ dk_ws := dk_w 812 (by decide +kernel) (by decide +kernel)
theorem yy_X2_harm : dk_YV yX2_harm cX2_harm 3 none 2 := ⟨dk_wt_X2_harm, dk_ws_X2_harm, dk_wn_RX2, dk_wc_X2_harm, ⟨by decide, by decide, by decide⟩⟩
theorem dk_wc_X2_heal : Cond.code yX2_heal cX2_heal 3 none ∈ dk_ws := dk_w 967 (by decide +kernel) (by decide +kernel)
theorem dk_wt_X2_heal : Cond.instanceMethod yX2_heal ∈ dk_ws := dk_w 965 (by decide +kernel) (by decide +kernel)
theorem dk_ws_X2_heal : Cond.selects RX2 yX2_heal yX2_heal ∈ dk_ws := dk_w 966 (by decide +kernel) (by decide +kernel)
theorem yy_X2_heal : dk_YV yX2_heal cX2_heal 3 none 2 := ⟨dk_wt_X2_heal, dk_ws_X2_heal, dk_wn_RX2, dk_wc_X2_heal, ⟨by decide, by decide, by decide⟩⟩
theorem dk_wm_X2_69 : Cond.methodLink RX2 69 Lib.Math.min.name ∈ dk_ws := dk_w 968 (by decide +kernel) (by decide +kernel)
theorem dk_wc_X2_hasten : Cond.code yX2_hasten cX2_hasten 3 none ∈ dk_ws := dk_w 972 (by decide +kernel) (by decide +kernel)
theorem dk_wt_X2_hasten : Cond.instanceMethod yX2_hasten ∈ dk_ws := dk_w 970 (by decide +kernel) (by decide +kernel)
theorem dk_ws_X2_hasten : Cond.selects RX2 yX2_hasten yX2_hasten ∈ dk_ws := dk_w 971 (by decide +kernel) (by decide +kernel)
theorem yy_X2_hasten : dk_YV yX2_hasten cX2_hasten 3 none 2 := ⟨dk_wt_X2_hasten, dk_ws_X2_hasten, dk_wn_RX2, dk_wc_X2_hasten, ⟨by decide, by decide, by decide⟩⟩
theorem dk_wc_X2_gainEnergy : Cond.code yX2_gainEnergy cX2_gainEnergy 3 none ∈ dk_ws := dk_w 745 (by decide +kernel) (by decide +kernel)
theorem dk_wt_X2_gainEnergy : Cond.instanceMethod yX2_gainEnergy ∈ dk_ws := dk_w 743 (by decide +kernel) (by decide +kernel)
theorem dk_ws_X2_gainEnergy : Cond.selects RX2 yX2_gainEnergy yX2_gainEnergy ∈ dk_ws := dk_w 744 (by decide +kernel) (by decide +kernel)
theorem yy_X2_gainEnergy : dk_YV yX2_gainEnergy cX2_gainEnergy 3 none 0 := ⟨dk_wt_X2_gainEnergy, dk_ws_X2_gainEnergy, dk_wn_RX2, dk_wc_X2_gainEnergy, ⟨by decide, by decide, by decide⟩⟩
theorem dk_wm_X2_55 : Cond.methodLink RX2 55 yX2_lives ∈ dk_ws := dk_w 741 (by decide +kernel) (by decide +kernel)
theorem dk_wm_X2_59 : Cond.methodLink RX2 59 Lib.Math.max.name ∈ dk_ws := dk_w 746 (by decide +kernel) (by decide +kernel)
theorem dk_wc_X2_spendTurn : Cond.code yX2_spendTurn cX2_spendTurn 2 none ∈ dk_ws := dk_w 751 (by decide +kernel) (by decide +kernel)
theorem dk_wt_X2_spendTurn : Cond.instanceMethod yX2_spendTurn ∈ dk_ws := dk_w 749 (by decide +kernel) (by decide +kernel)
theorem dk_ws_X2_spendTurn : Cond.selects RX2 yX2_spendTurn yX2_spendTurn ∈ dk_ws := dk_w 750 (by decide +kernel) (by decide +kernel)
theorem yy_X2_spendTurn : dk_YV yX2_spendTurn cX2_spendTurn 2 none 1 := ⟨dk_wt_X2_spendTurn, dk_ws_X2_spendTurn, dk_wn_RX2, dk_wc_X2_spendTurn, ⟨by decide, by decide, by decide⟩⟩
theorem dk_wc_X2_nextToAct : Cond.code yX2_nextToAct cX2_nextToAct 4 (some .int) ∈ dk_ws := dk_w 740 (by decide +kernel) (by decide +kernel)
theorem dk_wt_X2_nextToAct : Cond.instanceMethod yX2_nextToAct ∈ dk_ws := dk_w 738 (by decide +kernel) (by decide +kernel)
theorem dk_ws_X2_nextToAct : Cond.selects RX2 yX2_nextToAct yX2_nextToAct ∈ dk_ws := dk_w 739 (by decide +kernel) (by decide +kernel)
theorem yy_X2_nextToAct : dk_YV yX2_nextToAct cX2_nextToAct 4 (some .int) 0 := ⟨dk_wt_X2_nextToAct, dk_ws_X2_nextToAct, dk_wn_RX2, dk_wc_X2_nextToAct, ⟨by decide, by decide, by decide⟩⟩
theorem dk_wc_X2_isLike : Cond.code yX2_isLike cX2_isLike 3 (some .boolean) ∈ dk_ws := dk_w 1087 (by decide +kernel) (by decide +kernel)
theorem dk_wt_X2_isLike : Cond.instanceMethod yX2_isLike ∈ dk_ws := dk_w 1085 (by decide +kernel) (by decide +kernel)
theorem dk_ws_X2_isLike : Cond.selects RX2 yX2_isLike yX2_isLike ∈ dk_ws := dk_w 1086 (by decide +kernel) (by decide +kernel)
theorem yy_X2_isLike : dk_YV yX2_isLike cX2_isLike 3 (some .boolean) 1 := ⟨dk_wt_X2_isLike, dk_ws_X2_isLike, dk_wn_RX2, dk_wc_X2_isLike, ⟨by decide, by decide, by decide⟩⟩
theorem dk_wc_X3_copy : Cond.code yX3_copy cX3_copy 2 none ∈ dk_ws := dk_w 700 (by decide +kernel) (by decide +kernel)
theorem dk_wn_RX3 : Cond.initialized RX3 ∈ dk_ws := dk_w 33 (by decide +kernel) (by decide +kernel)
theorem dk_wt_X3_copy : Cond.instanceMethod yX3_copy ∈ dk_ws := dk_w 698 (by decide +kernel) (by decide +kernel)
theorem dk_ws_X3_copy : Cond.selects RX3 yX3_copy yX3_copy ∈ dk_ws := dk_w 699 (by decide +kernel) (by decide +kernel)
theorem yy_X3_copy : dk_YV yX3_copy cX3_copy 2 none 1 := ⟨dk_wt_X3_copy, dk_ws_X3_copy, dk_wn_RX3, dk_wc_X3_copy, ⟨by decide, by decide, by decide⟩⟩
theorem dk_wf_X3_9 : Cond.fieldLink RX3 9 (TX3 0).1 (TX3 0).2.1 (TX3 0).2.2.1 ∈ dk_ws := dk_w 107 (by decide +kernel) (by decide +kernel)
theorem dk_wm_X3_31 : Cond.methodLinkNest RX3 31 yX8_copyRow "DelveKeep" ∈ dk_nw := dk_n 701 (by decide +kernel) (by decide +kernel)
theorem dk_wf_X3_15 : Cond.fieldLink RX3 15 (TX3 1).1 (TX3 1).2.1 (TX3 1).2.2.1 ∈ dk_ws := dk_w 110 (by decide +kernel) (by decide +kernel)
theorem dk_wf_X3_18 : Cond.fieldLink RX3 18 (TX3 2).1 (TX3 2).2.1 (TX3 2).2.2.1 ∈ dk_ws := dk_w 111 (by decide +kernel) (by decide +kernel)
theorem dk_wf_X3_21 : Cond.fieldLink RX3 21 (TX3 3).1 (TX3 3).2.1 (TX3 3).2.2.1 ∈ dk_ws := dk_w 113 (by decide +kernel) (by decide +kernel)
theorem dk_wf_X3_24 : Cond.fieldLink RX3 24 (TX3 4).1 (TX3 4).2.1 (TX3 4).2.2.1 ∈ dk_ws := dk_w 115 (by decide +kernel) (by decide +kernel)
theorem dk_wc_X3_tell : Cond.code yX3_tell cX3_tell 4 none ∈ dk_ws := dk_w 576 (by decide +kernel) (by decide +kernel)
theorem dk_wt_X3_tell : Cond.instanceMethod yX3_tell ∈ dk_ws := dk_w 574 (by decide +kernel) (by decide +kernel)
theorem dk_ws_X3_tell : Cond.selects RX3 yX3_tell yX3_tell ∈ dk_ws := dk_w 575 (by decide +kernel) (by decide +kernel)
theorem yy_X3_tell : dk_YV yX3_tell cX3_tell 4 none 3 := ⟨dk_wt_X3_tell, dk_ws_X3_tell, dk_wn_RX3, dk_wc_X3_tell, ⟨by decide, by decide, by decide⟩⟩
theorem dk_wm_X3_27 : Cond.methodLinkNest RX3 27 yX8_put "DelveKeep" ∈ dk_nw := dk_n 104 (by decide +kernel) (by decide +kernel)
theorem dk_wc_X3_tellEffect : Cond.code yX3_tellEffect cX3_tellEffect 5 none ∈ dk_ws := dk_w 591 (by decide +kernel) (by decide +kernel)
theorem dk_wt_X3_tellEffect : Cond.instanceMethod yX3_tellEffect ∈ dk_ws := dk_w 589 (by decide +kernel) (by decide +kernel)
theorem dk_ws_X3_tellEffect : Cond.selects RX3 yX3_tellEffect yX3_tellEffect ∈ dk_ws := dk_w 590 (by decide +kernel) (by decide +kernel)
theorem yy_X3_tellEffect : dk_YV yX3_tellEffect cX3_tellEffect 5 none 4 := ⟨dk_wt_X3_tellEffect, dk_ws_X3_tellEffect, dk_wn_RX3, dk_wc_X3_tellEffect, ⟨by decide, by decide, by decide⟩⟩
theorem dk_wc_X3_effectOf : Cond.code yX3_effectOf cX3_effectOf 2 (some .char) ∈ dk_ws := dk_w 586 (by decide +kernel) (by decide +kernel)
theorem dk_wt_X3_effectOf : Cond.instanceMethod yX3_effectOf ∈ dk_ws := dk_w 584 (by decide +kernel) (by decide +kernel)
theorem dk_ws_X3_effectOf : Cond.selects RX3 yX3_effectOf yX3_effectOf ∈ dk_ws := dk_w 585 (by decide +kernel) (by decide +kernel)
theorem yy_X3_effectOf : dk_YV yX3_effectOf cX3_effectOf 2 (some .char) 1 := ⟨dk_wt_X3_effectOf, dk_ws_X3_effectOf, dk_wn_RX3, dk_wc_X3_effectOf, ⟨by decide, by decide, by decide⟩⟩
theorem dk_wm_X3_35 : Cond.methodLinkNest RX3 35 yX8_at "DelveKeep" ∈ dk_nw := dk_n 587 (by decide +kernel) (by decide +kernel)
theorem dk_wc_X3_isWooden : Cond.code yX3_isWooden cX3_isWooden 2 (some .boolean) ∈ dk_ws := dk_w 986 (by decide +kernel) (by decide +kernel)
theorem dk_wt_X3_isWooden : Cond.instanceMethod yX3_isWooden ∈ dk_ws := dk_w 984 (by decide +kernel) (by decide +kernel)
theorem dk_ws_X3_isWooden : Cond.selects RX3 yX3_isWooden yX3_isWooden ∈ dk_ws := dk_w 985 (by decide +kernel) (by decide +kernel)
theorem yy_X3_isWooden : dk_YV yX3_isWooden cX3_isWooden 2 (some .boolean) 1 := ⟨dk_wt_X3_isWooden, dk_ws_X3_isWooden, dk_wn_RX3, dk_wc_X3_isWooden, ⟨by decide, by decide, by decide⟩⟩
theorem dk_wc_X4_copy : Cond.code yX4_copy cX4_copy 2 none ∈ dk_ws := dk_w 719 (by decide +kernel) (by decide +kernel)
theorem dk_wn_RX4 : Cond.initialized RX4 ∈ dk_ws := dk_w 36 (by decide +kernel) (by decide +kernel)
theorem dk_wt_X4_copy : Cond.instanceMethod yX4_copy ∈ dk_ws := dk_w 717 (by decide +kernel) (by decide +kernel)
theorem dk_ws_X4_copy : Cond.selects RX4 yX4_copy yX4_copy ∈ dk_ws := dk_w 718 (by decide +kernel) (by decide +kernel)
theorem yy_X4_copy : dk_YV yX4_copy cX4_copy 2 none 1 := ⟨dk_wt_X4_copy, dk_ws_X4_copy, dk_wn_RX4, dk_wc_X4_copy, ⟨by decide, by decide, by decide⟩⟩
theorem dk_wf_X4_9 : Cond.fieldLink RX4 9 (TX4 0).1 (TX4 0).2.1 (TX4 0).2.2.1 ∈ dk_ws := dk_w 205 (by decide +kernel) (by decide +kernel)
theorem dk_wm_X4_22 : Cond.methodLinkNest RX4 22 yX8_copyRow "DelveKeep" ∈ dk_nw := dk_n 720 (by decide +kernel) (by decide +kernel)
theorem dk_wf_X4_15 : Cond.fieldLink RX4 15 (TX4 1).1 (TX4 1).2.1 (TX4 1).2.2.1 ∈ dk_ws := dk_w 206 (by decide +kernel) (by decide +kernel)
theorem dk_wf_X4_18 : Cond.fieldLink RX4 18 (TX4 2).1 (TX4 2).2.1 (TX4 2).2.2.1 ∈ dk_ws := dk_w 207 (by decide +kernel) (by decide +kernel)
theorem dk_wc_X4_add : Cond.code yX4_add cX4_add 3 (some .int) ∈ dk_ws := dk_w 646 (by decide +kernel) (by decide +kernel)
theorem dk_wt_X4_add : Cond.instanceMethod yX4_add ∈ dk_ws := dk_w 644 (by decide +kernel) (by decide +kernel)
theorem dk_ws_X4_add : Cond.selects RX4 yX4_add yX4_add ∈ dk_ws := dk_w 645 (by decide +kernel) (by decide +kernel)
theorem yy_X4_add : dk_YV yX4_add cX4_add 3 (some .int) 2 := ⟨dk_wt_X4_add, dk_ws_X4_add, dk_wn_RX4, dk_wc_X4_add, ⟨by decide, by decide, by decide⟩⟩
theorem dk_wm_X4_26 : Cond.methodLinkNest RX4 26 yX8_put "DelveKeep" ∈ dk_nw := dk_n 647 (by decide +kernel) (by decide +kernel)
theorem dk_wc_X5_add : Cond.code yX5_add cX5_add 4 none ∈ dk_ws := dk_w 1006 (by decide +kernel) (by decide +kernel)
theorem dk_wn_RX5 : Cond.initialized RX5 ∈ dk_ws := dk_w 37 (by decide +kernel) (by decide +kernel)
theorem dk_wt_X5_add : Cond.instanceMethod yX5_add ∈ dk_ws := dk_w 1004 (by decide +kernel) (by decide +kernel)
theorem dk_ws_X5_add : Cond.selects RX5 yX5_add yX5_add ∈ dk_ws := dk_w 1005 (by decide +kernel) (by decide +kernel)
theorem yy_X5_add : dk_YV yX5_add cX5_add 4 none 3 := ⟨dk_wt_X5_add, dk_ws_X5_add, dk_wn_RX5, dk_wc_X5_add, ⟨by decide, by decide, by decide⟩⟩
theorem dk_wf_X5_21 : Cond.fieldLink RX5 21 (TX5 3).1 (TX5 3).2.1 (TX5 3).2.2.1 ∈ dk_ws := dk_w 268 (by decide +kernel) (by decide +kernel)
theorem dk_wf_X5_9 : Cond.fieldLink RX5 9 (TX5 0).1 (TX5 0).2.1 (TX5 0).2.2.1 ∈ dk_ws := dk_w 262 (by decide +kernel) (by decide +kernel)
theorem dk_wm_X5_25 : Cond.methodLinkNest RX5 25 yX8_put "DelveKeep" ∈ dk_nw := dk_n 1007 (by decide +kernel) (by decide +kernel)
theorem dk_wf_X5_15 : Cond.fieldLink RX5 15 (TX5 1).1 (TX5 1).2.1 (TX5 1).2.2.1 ∈ dk_ws := dk_w 264 (by decide +kernel) (by decide +kernel)
theorem dk_wf_X5_18 : Cond.fieldLink RX5 18 (TX5 2).1 (TX5 2).2.1 (TX5 2).2.2.1 ∈ dk_ws := dk_w 266 (by decide +kernel) (by decide +kernel)
theorem dk_wc_X6_copy : Cond.code yX6_copy cX6_copy 2 none ∈ dk_ws := dk_w 714 (by decide +kernel) (by decide +kernel)
theorem dk_wt_X6_copy : Cond.instanceMethod yX6_copy ∈ dk_ws := dk_w 712 (by decide +kernel) (by decide +kernel)
theorem dk_ws_X6_copy : Cond.selects RX6 yX6_copy yX6_copy ∈ dk_ws := dk_w 713 (by decide +kernel) (by decide +kernel)
theorem yy_X6_copy : dk_YV yX6_copy cX6_copy 2 none 1 := ⟨dk_wt_X6_copy, dk_ws_X6_copy, dk_wn_RX6, dk_wc_X6_copy, ⟨by decide, by decide, by decide⟩⟩
theorem dk_wf_X6_9 : Cond.fieldLink RX6 9 (TX6 0).1 (TX6 0).2.1 (TX6 0).2.2.1 ∈ dk_ws := dk_w 181 (by decide +kernel) (by decide +kernel)
theorem dk_wm_X6_22 : Cond.methodLinkNest RX6 22 yX8_copyRow "DelveKeep" ∈ dk_nw := dk_n 715 (by decide +kernel) (by decide +kernel)
theorem dk_wf_X6_18 : Cond.fieldLink RX6 18 (TX6 2).1 (TX6 2).2.1 (TX6 2).2.2.1 ∈ dk_ws := dk_w 188 (by decide +kernel) (by decide +kernel)
theorem dk_wc_X6_add : Cond.code yX6_add cX6_add 4 (some .int) ∈ dk_ws := dk_w 637 (by decide +kernel) (by decide +kernel)
theorem dk_wt_X6_add : Cond.instanceMethod yX6_add ∈ dk_ws := dk_w 635 (by decide +kernel) (by decide +kernel)
theorem dk_ws_X6_add : Cond.selects RX6 yX6_add yX6_add ∈ dk_ws := dk_w 636 (by decide +kernel) (by decide +kernel)
theorem yy_X6_add : dk_YV yX6_add cX6_add 4 (some .int) 2 := ⟨dk_wt_X6_add, dk_ws_X6_add, dk_wn_RX6, dk_wc_X6_add, ⟨by decide, by decide, by decide⟩⟩
theorem dk_wm_X6_26 : Cond.methodLinkNest RX6 26 yX8_put "DelveKeep" ∈ dk_nw := dk_n 638 (by decide +kernel) (by decide +kernel)
theorem dk_wc_X6_isWithin : Cond.code yX6_isWithin cX6_isWithin 5 (some .boolean) ∈ dk_ws := dk_w 891 (by decide +kernel) (by decide +kernel)
theorem dk_wt_X6_isWithin : Cond.instanceMethod yX6_isWithin ∈ dk_ws := dk_w 889 (by decide +kernel) (by decide +kernel)
theorem dk_ws_X6_isWithin : Cond.selects RX6 yX6_isWithin yX6_isWithin ∈ dk_ws := dk_w 890 (by decide +kernel) (by decide +kernel)
theorem yy_X6_isWithin : dk_YV yX6_isWithin cX6_isWithin 5 (some .boolean) 2 := ⟨dk_wt_X6_isWithin, dk_ws_X6_isWithin, dk_wn_RX6, dk_wc_X6_isWithin, ⟨by decide, by decide, by decide⟩⟩
theorem dk_wc_X6_wholeWeight : Cond.code yX6_wholeWeight cX6_wholeWeight 5 (some .int) ∈ dk_ws := dk_w 887 (by decide +kernel) (by decide +kernel)
theorem dk_wt_X6_wholeWeight : Cond.instanceMethod yX6_wholeWeight ∈ dk_ws := dk_w 885 (by decide +kernel) (by decide +kernel)
theorem dk_ws_X6_wholeWeight : Cond.selects RX6 yX6_wholeWeight yX6_wholeWeight ∈ dk_ws := dk_w 886 (by decide +kernel) (by decide +kernel)
theorem yy_X6_wholeWeight : dk_YV yX6_wholeWeight cX6_wholeWeight 5 (some .int) 2 := ⟨dk_wt_X6_wholeWeight, dk_ws_X6_wholeWeight, dk_wn_RX6, dk_wc_X6_wholeWeight, ⟨by decide, by decide, by decide⟩⟩
theorem dk_wm_X6_38 : Cond.methodLink RX6 38 yX6_isWithin ∈ dk_ws := dk_w 888 (by decide +kernel) (by decide +kernel)
theorem dk_wf_X6_42 : Cond.fieldLink RX6 42 (TX3 0).1 (TX3 0).2.1 (TX3 0).2.2.1 ∈ dk_ws := dk_w 109 (by decide +kernel) (by decide +kernel)
theorem dk_wc_X6_carriedWeight : Cond.code yX6_carriedWeight cX6_carriedWeight 4 (some .int) ∈ dk_ws := dk_w 943 (by decide +kernel) (by decide +kernel)
theorem dk_wt_X6_carriedWeight : Cond.instanceMethod yX6_carriedWeight ∈ dk_ws := dk_w 941 (by decide +kernel) (by decide +kernel)
theorem dk_ws_X6_carriedWeight : Cond.selects RX6 yX6_carriedWeight yX6_carriedWeight ∈ dk_ws := dk_w 942 (by decide +kernel) (by decide +kernel)
theorem yy_X6_carriedWeight : dk_YV yX6_carriedWeight cX6_carriedWeight 4 (some .int) 1 := ⟨dk_wt_X6_carriedWeight, dk_ws_X6_carriedWeight, dk_wn_RX6, dk_wc_X6_carriedWeight, ⟨by decide, by decide, by decide⟩⟩
theorem dk_wm_X6_47 : Cond.methodLink RX6 47 yX6_outerPlace ∈ dk_ws := dk_w 938 (by decide +kernel) (by decide +kernel)
theorem dk_wc_X6_countAt : Cond.code yX6_countAt cX6_countAt 4 (some .int) ∈ dk_ws := dk_w 951 (by decide +kernel) (by decide +kernel)
theorem dk_wt_X6_countAt : Cond.instanceMethod yX6_countAt ∈ dk_ws := dk_w 949 (by decide +kernel) (by decide +kernel)
theorem dk_ws_X6_countAt : Cond.selects RX6 yX6_countAt yX6_countAt ∈ dk_ws := dk_w 950 (by decide +kernel) (by decide +kernel)
theorem yy_X6_countAt : dk_YV yX6_countAt cX6_countAt 4 (some .int) 1 := ⟨dk_wt_X6_countAt, dk_ws_X6_countAt, dk_wn_RX6, dk_wc_X6_countAt, ⟨by decide, by decide, by decide⟩⟩
theorem dk_wc_X6_moveAll : Cond.code yX6_moveAll cX6_moveAll 4 none ∈ dk_ws := dk_w 850 (by decide +kernel) (by decide +kernel)
theorem dk_wt_X6_moveAll : Cond.instanceMethod yX6_moveAll ∈ dk_ws := dk_w 848 (by decide +kernel) (by decide +kernel)
theorem dk_ws_X6_moveAll : Cond.selects RX6 yX6_moveAll yX6_moveAll ∈ dk_ws := dk_w 849 (by decide +kernel) (by decide +kernel)
theorem yy_X6_moveAll : dk_YV yX6_moveAll cX6_moveAll 4 none 2 := ⟨dk_wt_X6_moveAll, dk_ws_X6_moveAll, dk_wn_RX6, dk_wc_X6_moveAll, ⟨by decide, by decide, by decide⟩⟩
theorem dk_wc_X6_hasInHands : Cond.code yX6_hasInHands cX6_hasInHands 3 (some .boolean) ∈ dk_ws := dk_w 929 (by decide +kernel) (by decide +kernel)
theorem dk_wt_X6_hasInHands : Cond.instanceMethod yX6_hasInHands ∈ dk_ws := dk_w 927 (by decide +kernel) (by decide +kernel)
theorem dk_ws_X6_hasInHands : Cond.selects RX6 yX6_hasInHands yX6_hasInHands ∈ dk_ws := dk_w 928 (by decide +kernel) (by decide +kernel)
theorem yy_X6_hasInHands : dk_YV yX6_hasInHands cX6_hasInHands 3 (some .boolean) 1 := ⟨dk_wt_X6_hasInHands, dk_ws_X6_hasInHands, dk_wn_RX6, dk_wc_X6_hasInHands, ⟨by decide, by decide, by decide⟩⟩
theorem dk_wc_X6_isCarriedKey : Cond.code yX6_isCarriedKey cX6_isCarriedKey 3 (some .boolean) ∈ dk_ws := dk_w 937 (by decide +kernel) (by decide +kernel)
theorem dk_wt_X6_isCarriedKey : Cond.instanceMethod yX6_isCarriedKey ∈ dk_ws := dk_w 935 (by decide +kernel) (by decide +kernel)
theorem dk_ws_X6_isCarriedKey : Cond.selects RX6 yX6_isCarriedKey yX6_isCarriedKey ∈ dk_ws := dk_w 936 (by decide +kernel) (by decide +kernel)
theorem yy_X6_isCarriedKey : dk_YV yX6_isCarriedKey cX6_isCarriedKey 3 (some .boolean) 1 := ⟨dk_wt_X6_isCarriedKey, dk_ws_X6_isCarriedKey, dk_wn_RX6, dk_wc_X6_isCarriedKey, ⟨by decide, by decide, by decide⟩⟩
theorem dk_wc_X6_isLike : Cond.code yX6_isLike cX6_isLike 3 (some .boolean) ∈ dk_ws := dk_w 1091 (by decide +kernel) (by decide +kernel)
theorem dk_wt_X6_isLike : Cond.instanceMethod yX6_isLike ∈ dk_ws := dk_w 1089 (by decide +kernel) (by decide +kernel)
theorem dk_ws_X6_isLike : Cond.selects RX6 yX6_isLike yX6_isLike ∈ dk_ws := dk_w 1090 (by decide +kernel) (by decide +kernel)
theorem yy_X6_isLike : dk_YV yX6_isLike cX6_isLike 3 (some .boolean) 1 := ⟨dk_wt_X6_isLike, dk_ws_X6_isLike, dk_wn_RX6, dk_wc_X6_isLike, ⟨by decide, by decide, by decide⟩⟩
theorem dk_wc_X7_copy : Cond.code yX7_copy cX7_copy 2 none ∈ dk_ws := dk_w 688 (by decide +kernel) (by decide +kernel)
theorem dk_wt_X7_copy : Cond.instanceMethod yX7_copy ∈ dk_ws := dk_w 686 (by decide +kernel) (by decide +kernel)
theorem dk_ws_X7_copy : Cond.selects RX7 yX7_copy yX7_copy ∈ dk_ws := dk_w 687 (by decide +kernel) (by decide +kernel)
theorem yy_X7_copy : dk_YV yX7_copy cX7_copy 2 none 1 := ⟨dk_wt_X7_copy, dk_ws_X7_copy, dk_wn_RX7, dk_wc_X7_copy, ⟨by decide, by decide, by decide⟩⟩
theorem dk_wf_X7_12 : Cond.fieldLink RX7 12 (TX7 0).1 (TX7 0).2.1 (TX7 0).2.2.1 ∈ dk_ws := dk_w 216 (by decide +kernel) (by decide +kernel)
theorem dk_wm_X7_62 : Cond.methodLink RX7 62 yX1_copy ∈ dk_ws := dk_w 689 (by decide +kernel) (by decide +kernel)
theorem dk_wf_X7_21 : Cond.fieldLink RX7 21 (TX7 1).1 (TX7 1).2.1 (TX7 1).2.2.1 ∈ dk_ws := dk_w 219 (by decide +kernel) (by decide +kernel)
theorem dk_wm_X7_66 : Cond.methodLink RX7 66 yX3_copy ∈ dk_ws := dk_w 697 (by decide +kernel) (by decide +kernel)
theorem dk_wm_X7_69 : Cond.methodLink RX7 69 yX2_copy ∈ dk_ws := dk_w 706 (by decide +kernel) (by decide +kernel)
theorem dk_wf_X7_35 : Cond.fieldLink RX7 35 (TX7 3).1 (TX7 3).2.1 (TX7 3).2.2.1 ∈ dk_ws := dk_w 223 (by decide +kernel) (by decide +kernel)
theorem dk_wm_X7_72 : Cond.methodLink RX7 72 yX6_copy ∈ dk_ws := dk_w 711 (by decide +kernel) (by decide +kernel)
theorem dk_wf_X7_42 : Cond.fieldLink RX7 42 (TX7 4).1 (TX7 4).2.1 (TX7 4).2.2.1 ∈ dk_ws := dk_w 226 (by decide +kernel) (by decide +kernel)
theorem dk_wm_X7_75 : Cond.methodLink RX7 75 yX4_copy ∈ dk_ws := dk_w 716 (by decide +kernel) (by decide +kernel)
theorem dk_wf_X7_46 : Cond.fieldLink RX7 46 (TX7 5).1 (TX7 5).2.1 (TX7 5).2.2.1 ∈ dk_ws := dk_w 228 (by decide +kernel) (by decide +kernel)
theorem dk_wf_X7_53 : Cond.fieldLink RX7 53 (TX7 7).1 (TX7 7).2.1 (TX7 7).2.2.1 ∈ dk_ws := dk_w 232 (by decide +kernel) (by decide +kernel)
theorem dk_wf_X7_56 : Cond.fieldLink RX7 56 (TX7 8).1 (TX7 8).2.1 (TX7 8).2.2.1 ∈ dk_ws := dk_w 233 (by decide +kernel) (by decide +kernel)
theorem dk_wf_X7_59 : Cond.fieldLink RX7 59 (TX7 9).1 (TX7 9).2.1 (TX7 9).2.2.1 ∈ dk_ws := dk_w 234 (by decide +kernel) (by decide +kernel)
theorem dk_wc_X7_allStandFree : Cond.code yX7_allStandFree cX7_allStandFree 2 (some .boolean) ∈ dk_ws := dk_w 671 (by decide +kernel) (by decide +kernel)
theorem dk_wt_X7_allStandFree : Cond.instanceMethod yX7_allStandFree ∈ dk_ws := dk_w 669 (by decide +kernel) (by decide +kernel)
theorem dk_ws_X7_allStandFree : Cond.selects RX7 yX7_allStandFree yX7_allStandFree ∈ dk_ws := dk_w 670 (by decide +kernel) (by decide +kernel)
theorem yy_X7_allStandFree : dk_YV yX7_allStandFree cX7_allStandFree 2 (some .boolean) 0 := ⟨dk_wt_X7_allStandFree, dk_ws_X7_allStandFree, dk_wn_RX7, dk_wc_X7_allStandFree, ⟨by decide, by decide, by decide⟩⟩
theorem dk_wf_X7_86 : Cond.fieldLink RX7 86 (TX2 9).1 (TX2 9).2.1 (TX2 9).2.2.1 ∈ dk_ws := dk_w 152 (by decide +kernel) (by decide +kernel)
theorem dk_wm_X7_89 : Cond.methodLink RX7 89 yX1_isFreeAt ∈ dk_ws := dk_w 673 (by decide +kernel) (by decide +kernel)
theorem dk_wc_X7_isLike : Cond.code yX7_isLike cX7_isLike 2 (some .boolean) ∈ dk_ws := dk_w 1079 (by decide +kernel) (by decide +kernel)
theorem dk_wt_X7_isLike : Cond.instanceMethod yX7_isLike ∈ dk_ws := dk_w 1077 (by decide +kernel) (by decide +kernel)
theorem dk_ws_X7_isLike : Cond.selects RX7 yX7_isLike yX7_isLike ∈ dk_ws := dk_w 1078 (by decide +kernel) (by decide +kernel)
theorem yy_X7_isLike : dk_YV yX7_isLike cX7_isLike 2 (some .boolean) 1 := ⟨dk_wt_X7_isLike, dk_ws_X7_isLike, dk_wn_RX7, dk_wc_X7_isLike, ⟨by decide, by decide, by decide⟩⟩
theorem dk_wm_X7_127 : Cond.methodLink RX7 127 yX1_isLike ∈ dk_ws := dk_w 1080 (by decide +kernel) (by decide +kernel)
theorem dk_wm_X7_131 : Cond.methodLink RX7 131 yX2_isLike ∈ dk_ws := dk_w 1084 (by decide +kernel) (by decide +kernel)
theorem dk_wm_X7_134 : Cond.methodLink RX7 134 yX6_isLike ∈ dk_ws := dk_w 1088 (by decide +kernel) (by decide +kernel)
theorem dk_wc_X7_strike : Cond.code yX7_strike cX7_strike 4 none ∈ dk_ws := dk_w 933 (by decide +kernel) (by decide +kernel)
theorem dk_wt_X7_strike : Cond.instanceMethod yX7_strike ∈ dk_ws := dk_w 932 (by decide +kernel) (by decide +kernel)
theorem dk_ws_X7_strike : Cond.selects RX7 yX7_strike yX7_strike ∈ dk_ws := dk_w 17 (by decide +kernel) (by decide +kernel)
theorem yy_X7_strike : dk_YV yX7_strike cX7_strike 4 none 2 := ⟨dk_wt_X7_strike, dk_ws_X7_strike, dk_wn_RX7, dk_wc_X7_strike, ⟨by decide, by decide, by decide⟩⟩
theorem dk_wm_X7_198 : Cond.methodLink RX7 198 yX2_isWeak ∈ dk_ws := dk_w 791 (by decide +kernel) (by decide +kernel)
theorem dk_wm_X7_201 : Cond.methodLink RX7 201 yX2_harm ∈ dk_ws := dk_w 810 (by decide +kernel) (by decide +kernel)
theorem dk_wm_X7_204 : Cond.methodLink RX7 204 yX2_lives ∈ dk_ws := dk_w 733 (by decide +kernel) (by decide +kernel)
theorem dk_wc_X7_makeNoise : Cond.code yX7_makeNoise cX7_makeNoise 6 (some .int) ∈ dk_ws := dk_w 817 (by decide +kernel) (by decide +kernel)
theorem dk_wt_X7_makeNoise : Cond.instanceMethod yX7_makeNoise ∈ dk_ws := dk_w 816 (by decide +kernel) (by decide +kernel)
theorem dk_ws_X7_makeNoise : Cond.selects RX7 yX7_makeNoise yX7_makeNoise ∈ dk_ws := dk_w 9 (by decide +kernel) (by decide +kernel)
theorem yy_X7_makeNoise : dk_YV yX7_makeNoise cX7_makeNoise 6 (some .int) 2 := ⟨dk_wt_X7_makeNoise, dk_ws_X7_makeNoise, dk_wn_RX7, dk_wc_X7_makeNoise, ⟨by decide, by decide, by decide⟩⟩
theorem dk_wf_X7_115 : Cond.fieldLink RX7 115 (TX1 3).1 (TX1 3).2.1 (TX1 3).2.2.1 ∈ dk_ws := dk_w 79 (by decide +kernel) (by decide +kernel)
theorem dk_wm_X7_119 : Cond.methodLink RX7 119 yX1_flood ∈ dk_ws := dk_w 818 (by decide +kernel) (by decide +kernel)
theorem dk_wf_X7_271 : Cond.fieldLink RX7 271 (TX2 8).1 (TX2 8).2.1 (TX2 8).2.2.1 ∈ dk_ws := dk_w 150 (by decide +kernel) (by decide +kernel)
theorem dk_wm_X7_142 : Cond.methodLinkNest RX7 142 yX8_put "DelveKeep" ∈ dk_nw := dk_n 770 (by decide +kernel) (by decide +kernel)
theorem dk_wc_X7_heroGoes : Cond.code yX7_heroGoes cX7_heroGoes 5 (some .int) ∈ dk_ws := dk_w 925 (by decide +kernel) (by decide +kernel)
theorem dk_wt_X7_heroGoes : Cond.instanceMethod yX7_heroGoes ∈ dk_ws := dk_w 924 (by decide +kernel) (by decide +kernel)
theorem dk_ws_X7_heroGoes : Cond.selects RX7 yX7_heroGoes yX7_heroGoes ∈ dk_ws := dk_w 16 (by decide +kernel) (by decide +kernel)
theorem yy_X7_heroGoes : dk_YV yX7_heroGoes cX7_heroGoes 5 (some .int) 1 := ⟨dk_wt_X7_heroGoes, dk_ws_X7_heroGoes, dk_wn_RX7, dk_wc_X7_heroGoes, ⟨by decide, by decide, by decide⟩⟩
theorem dk_wm_X7_93 : Cond.methodLink RX7 93 yX7_heroSpot ∈ dk_ws := dk_w 756 (by decide +kernel) (by decide +kernel)
theorem dk_wm_X7_170 : Cond.methodLinkNest RX7 170 yX8_beside "DelveKeep" ∈ dk_nw := dk_n 799 (by decide +kernel) (by decide +kernel)
theorem dk_wm_X7_173 : Cond.methodLink RX7 173 yX2_livingAt ∈ dk_ws := dk_w 806 (by decide +kernel) (by decide +kernel)
theorem dk_wm_X7_176 : Cond.methodLink RX7 176 yX1_signAt ∈ dk_ws := dk_w 804 (by decide +kernel) (by decide +kernel)
theorem dk_wm_X7_190 : Cond.methodLink RX7 190 yX1_change ∈ dk_ws := dk_w 823 (by decide +kernel) (by decide +kernel)
theorem dk_wm_X7_187 : Cond.methodLink RX7 187 yX6_isCarriedKey ∈ dk_ws := dk_w 934 (by decide +kernel) (by decide +kernel)
theorem dk_wm_X7_180 : Cond.methodLink RX7 180 yX6_hasInHands ∈ dk_ws := dk_w 926 (by decide +kernel) (by decide +kernel)
theorem dk_wm_X7_183 : Cond.methodLink RX7 183 yX7_strike ∈ dk_ws := dk_w 930 (by decide +kernel) (by decide +kernel)
theorem dk_wm_X7_159 : Cond.methodLink RX7 159 yX7_makeNoise ∈ dk_ws := dk_w 814 (by decide +kernel) (by decide +kernel)
theorem dk_wm_X7_194 : Cond.methodLinkNest RX7 194 yX8_isFree "DelveKeep" ∈ dk_nw := dk_n 805 (by decide +kernel) (by decide +kernel)
theorem dk_wk_X7_165 : Cond.constant RX7 165 (-1000000) ∈ dk_ws := dk_w 939 (by decide +kernel) (by decide +kernel)
theorem dk_wc_X7_heroPacks : Cond.code yX7_heroPacks cX7_heroPacks 3 (some .int) ∈ dk_ws := dk_w 947 (by decide +kernel) (by decide +kernel)
theorem dk_wt_X7_heroPacks : Cond.instanceMethod yX7_heroPacks ∈ dk_ws := dk_w 946 (by decide +kernel) (by decide +kernel)
theorem dk_ws_X7_heroPacks : Cond.selects RX7 yX7_heroPacks yX7_heroPacks ∈ dk_ws := dk_w 18 (by decide +kernel) (by decide +kernel)
theorem yy_X7_heroPacks : dk_YV yX7_heroPacks cX7_heroPacks 3 (some .int) 2 := ⟨dk_wt_X7_heroPacks, dk_ws_X7_heroPacks, dk_wn_RX7, dk_wc_X7_heroPacks, ⟨by decide, by decide, by decide⟩⟩
theorem dk_wf_X7_141 : Cond.fieldLink RX7 141 (TX6 1).1 (TX6 1).2.1 (TX6 1).2.2.1 ∈ dk_ws := dk_w 186 (by decide +kernel) (by decide +kernel)
theorem dk_wm_X7_207 : Cond.methodLink RX7 207 yX6_countAt ∈ dk_ws := dk_w 948 (by decide +kernel) (by decide +kernel)
theorem dk_wc_X7_useUp : Cond.code yX7_useUp cX7_useUp 2 none ∈ dk_ws := dk_w 959 (by decide +kernel) (by decide +kernel)
theorem dk_wt_X7_useUp : Cond.instanceMethod yX7_useUp ∈ dk_ws := dk_w 958 (by decide +kernel) (by decide +kernel)
theorem dk_ws_X7_useUp : Cond.selects RX7 yX7_useUp yX7_useUp ∈ dk_ws := dk_w 20 (by decide +kernel) (by decide +kernel)
theorem yy_X7_useUp : dk_YV yX7_useUp cX7_useUp 2 none 1 := ⟨dk_wt_X7_useUp, dk_ws_X7_useUp, dk_wn_RX7, dk_wc_X7_useUp, ⟨by decide, by decide, by decide⟩⟩
theorem dk_wf_X7_210 : Cond.fieldLink RX7 210 (TX6 0).1 (TX6 0).2.1 (TX6 0).2.2.1 ∈ dk_ws := dk_w 182 (by decide +kernel) (by decide +kernel)
theorem dk_wc_X7_work : Cond.code yX7_work cX7_work 4 none ∈ dk_ws := dk_w 963 (by decide +kernel) (by decide +kernel)
theorem dk_wt_X7_work : Cond.instanceMethod yX7_work ∈ dk_ws := dk_w 962 (by decide +kernel) (by decide +kernel)
theorem dk_ws_X7_work : Cond.selects RX7 yX7_work yX7_work ∈ dk_ws := dk_w 21 (by decide +kernel) (by decide +kernel)
theorem yy_X7_work : dk_YV yX7_work cX7_work 4 none 2 := ⟨dk_wt_X7_work, dk_ws_X7_work, dk_wn_RX7, dk_wc_X7_work, ⟨by decide, by decide, by decide⟩⟩
theorem dk_wf_X7_232 : Cond.fieldLink RX7 232 (TX3 3).1 (TX3 3).2.1 (TX3 3).2.2.1 ∈ dk_ws := dk_w 114 (by decide +kernel) (by decide +kernel)
theorem dk_wf_X7_235 : Cond.fieldLink RX7 235 (TX3 2).1 (TX3 2).2.1 (TX3 2).2.2.1 ∈ dk_ws := dk_w 112 (by decide +kernel) (by decide +kernel)
theorem dk_wm_X7_238 : Cond.methodLink RX7 238 yX2_heal ∈ dk_ws := dk_w 964 (by decide +kernel) (by decide +kernel)
theorem dk_wm_X7_241 : Cond.methodLink RX7 241 yX2_hasten ∈ dk_ws := dk_w 969 (by decide +kernel) (by decide +kernel)
theorem dk_wc_X8_gap : Cond.code yX8_gap cX8_gap 4 (some .int) ∈ dk_ws := dk_w 980 (by decide +kernel) (by decide +kernel)
theorem dk_wt_X8_gap : Cond.static yX8_gap ∈ dk_ws := dk_w 979 (by decide +kernel) (by decide +kernel)
theorem yy_X8_gap : dk_YS yX8_gap cX8_gap 4 (some .int) 2 := ⟨dk_wt_X8_gap, dk_wn_RX8, dk_wc_X8_gap, ⟨by decide, by decide, by decide⟩⟩
theorem dk_wm_X8_308 : Cond.methodLink RX8 308 Lib.Math.abs.name ∈ dk_ws := dk_w 981 (by decide +kernel) (by decide +kernel)
theorem dk_wm_X8_313 : Cond.methodLink RX8 313 Lib.Math.max.name ∈ dk_ws := dk_w 982 (by decide +kernel) (by decide +kernel)
theorem dk_wc_X7_burnBy : Cond.code yX7_burnBy cX7_burnBy 6 none ∈ dk_ws := dk_w 976 (by decide +kernel) (by decide +kernel)
theorem dk_wt_X7_burnBy : Cond.instanceMethod yX7_burnBy ∈ dk_ws := dk_w 975 (by decide +kernel) (by decide +kernel)
theorem dk_ws_X7_burnBy : Cond.selects RX7 yX7_burnBy yX7_burnBy ∈ dk_ws := dk_w 22 (by decide +kernel) (by decide +kernel)
theorem yy_X7_burnBy : dk_YV yX7_burnBy cX7_burnBy 6 none 3 := ⟨dk_wt_X7_burnBy, dk_ws_X7_burnBy, dk_wn_RX7, dk_wc_X7_burnBy, ⟨by decide, by decide, by decide⟩⟩
theorem dk_wm_X7_244 : Cond.methodLink RX7 244 yX3_effectOf ∈ dk_ws := dk_w 977 (by decide +kernel) (by decide +kernel)
theorem dk_wf_X7_247 : Cond.fieldLink RX7 247 (TX6 2).1 (TX6 2).2.1 (TX6 2).2.2.1 ∈ dk_ws := dk_w 191 (by decide +kernel) (by decide +kernel)
theorem dk_wm_X7_101 : Cond.methodLinkNest RX7 101 yX8_gap "DelveKeep" ∈ dk_nw := dk_n 978 (by decide +kernel) (by decide +kernel)
theorem dk_wm_X7_248 : Cond.methodLink RX7 248 yX3_isWooden ∈ dk_ws := dk_w 983 (by decide +kernel) (by decide +kernel)
theorem dk_wm_X7_251 : Cond.methodLink RX7 251 yX6_moveAll ∈ dk_ws := dk_w 847 (by decide +kernel) (by decide +kernel)
theorem dk_wc_X7_heroDrinks : Cond.code yX7_heroDrinks cX7_heroDrinks 3 (some .int) ∈ dk_ws := dk_w 955 (by decide +kernel) (by decide +kernel)
theorem dk_wt_X7_heroDrinks : Cond.instanceMethod yX7_heroDrinks ∈ dk_ws := dk_w 954 (by decide +kernel) (by decide +kernel)
theorem dk_ws_X7_heroDrinks : Cond.selects RX7 yX7_heroDrinks yX7_heroDrinks ∈ dk_ws := dk_w 19 (by decide +kernel) (by decide +kernel)
theorem yy_X7_heroDrinks : dk_YV yX7_heroDrinks cX7_heroDrinks 3 (some .int) 1 := ⟨dk_wt_X7_heroDrinks, dk_ws_X7_heroDrinks, dk_wn_RX7, dk_wc_X7_heroDrinks, ⟨by decide, by decide, by decide⟩⟩
theorem dk_wm_X7_213 : Cond.methodLink RX7 213 yX7_useUp ∈ dk_ws := dk_w 956 (by decide +kernel) (by decide +kernel)
theorem dk_wm_X7_216 : Cond.methodLink RX7 216 yX7_work ∈ dk_ws := dk_w 960 (by decide +kernel) (by decide +kernel)
theorem dk_wm_X7_219 : Cond.methodLink RX7 219 yX7_burnBy ∈ dk_ws := dk_w 973 (by decide +kernel) (by decide +kernel)
theorem dk_wf_X7_223 : Cond.fieldLink RX7 223 (TX2 4).1 (TX2 4).2.1 (TX2 4).2.2.1 ∈ dk_ws := dk_w 145 (by decide +kernel) (by decide +kernel)
theorem dk_wc_X8_isPotion : Cond.code yX8_isPotion cX8_isPotion 1 (some .boolean) ∈ dk_ws := dk_w 993 (by decide +kernel) (by decide +kernel)
theorem dk_wt_X8_isPotion : Cond.static yX8_isPotion ∈ dk_ws := dk_w 992 (by decide +kernel) (by decide +kernel)
theorem yy_X8_isPotion : dk_YS yX8_isPotion cX8_isPotion 1 (some .boolean) 1 := ⟨dk_wt_X8_isPotion, dk_wn_RX8, dk_wc_X8_isPotion, ⟨by decide, by decide, by decide⟩⟩
theorem dk_wc_X7_shatter : Cond.code yX7_shatter cX7_shatter 6 none ∈ dk_ws := dk_w 997 (by decide +kernel) (by decide +kernel)
theorem dk_wt_X7_shatter : Cond.instanceMethod yX7_shatter ∈ dk_ws := dk_w 996 (by decide +kernel) (by decide +kernel)
theorem dk_ws_X7_shatter : Cond.selects RX7 yX7_shatter yX7_shatter ∈ dk_ws := dk_w 24 (by decide +kernel) (by decide +kernel)
theorem yy_X7_shatter : dk_YV yX7_shatter cX7_shatter 6 none 2 := ⟨dk_wt_X7_shatter, dk_ws_X7_shatter, dk_wn_RX7, dk_wc_X7_shatter, ⟨by decide, by decide, by decide⟩⟩
theorem dk_wf_X7_229 : Cond.fieldLink RX7 229 (TX3 4).1 (TX3 4).2.1 (TX3 4).2.2.1 ∈ dk_ws := dk_w 116 (by decide +kernel) (by decide +kernel)
theorem dk_wc_X7_heroHurls : Cond.code yX7_heroHurls cX7_heroHurls 7 (some .int) ∈ dk_ws := dk_w 990 (by decide +kernel) (by decide +kernel)
theorem dk_wt_X7_heroHurls : Cond.instanceMethod yX7_heroHurls ∈ dk_ws := dk_w 989 (by decide +kernel) (by decide +kernel)
theorem dk_ws_X7_heroHurls : Cond.selects RX7 yX7_heroHurls yX7_heroHurls ∈ dk_ws := dk_w 23 (by decide +kernel) (by decide +kernel)
theorem yy_X7_heroHurls : dk_YV yX7_heroHurls cX7_heroHurls 7 (some .int) 2 := ⟨dk_wt_X7_heroHurls, dk_ws_X7_heroHurls, dk_wn_RX7, dk_wc_X7_heroHurls, ⟨by decide, by decide, by decide⟩⟩
theorem dk_wm_X7_109 : Cond.methodLinkNest RX7 109 yX8_isPotion "DelveKeep" ∈ dk_nw := dk_n 991 (by decide +kernel) (by decide +kernel)
theorem dk_wm_X7_226 : Cond.methodLink RX7 226 yX7_shatter ∈ dk_ws := dk_w 994 (by decide +kernel) (by decide +kernel)
theorem dk_wc_X7_heroPrays : Cond.code yX7_heroPrays cX7_heroPrays 1 (some .int) ∈ dk_ws := dk_w 1001 (by decide +kernel) (by decide +kernel)
theorem dk_wt_X7_heroPrays : Cond.instanceMethod yX7_heroPrays ∈ dk_ws := dk_w 1000 (by decide +kernel) (by decide +kernel)
theorem dk_ws_X7_heroPrays : Cond.selects RX7 yX7_heroPrays yX7_heroPrays ∈ dk_ws := dk_w 25 (by decide +kernel) (by decide +kernel)
theorem yy_X7_heroPrays : dk_YV yX7_heroPrays cX7_heroPrays 1 (some .int) 0 := ⟨dk_wt_X7_heroPrays, dk_ws_X7_heroPrays, dk_wn_RX7, dk_wc_X7_heroPrays, ⟨by decide, by decide, by decide⟩⟩
theorem dk_wf_X7_254 : Cond.fieldLink RX7 254 (TX2 3).1 (TX2 3).2.1 (TX2 3).2.2.1 ∈ dk_ws := dk_w 142 (by decide +kernel) (by decide +kernel)
theorem dk_wc_X7_perform : Cond.code yX7_perform cX7_perform 5 (some .int) ∈ dk_ws := dk_w 921 (by decide +kernel) (by decide +kernel)
theorem dk_wt_X7_perform : Cond.instanceMethod yX7_perform ∈ dk_ws := dk_w 919 (by decide +kernel) (by decide +kernel)
theorem dk_ws_X7_perform : Cond.selects RX7 yX7_perform yX7_perform ∈ dk_ws := dk_w 920 (by decide +kernel) (by decide +kernel)
theorem yy_X7_perform : dk_YV yX7_perform cX7_perform 5 (some .int) 3 := ⟨dk_wt_X7_perform, dk_ws_X7_perform, dk_wn_RX7, dk_wc_X7_perform, ⟨by decide, by decide, by decide⟩⟩
theorem dk_wm_X7_137 : Cond.methodLink RX7 137 yX7_heroGoes ∈ dk_ws := dk_w 922 (by decide +kernel) (by decide +kernel)
theorem dk_wm_X7_146 : Cond.methodLink RX7 146 yX6_carriedWeight ∈ dk_ws := dk_w 940 (by decide +kernel) (by decide +kernel)
theorem dk_wm_X7_150 : Cond.methodLink RX7 150 yX7_heroPacks ∈ dk_ws := dk_w 944 (by decide +kernel) (by decide +kernel)
theorem dk_wm_X7_153 : Cond.methodLink RX7 153 yX7_heroDrinks ∈ dk_ws := dk_w 952 (by decide +kernel) (by decide +kernel)
theorem dk_wm_X7_156 : Cond.methodLink RX7 156 yX7_heroHurls ∈ dk_ws := dk_w 987 (by decide +kernel) (by decide +kernel)
theorem dk_wm_X7_162 : Cond.methodLink RX7 162 yX7_heroPrays ∈ dk_ws := dk_w 998 (by decide +kernel) (by decide +kernel)
theorem dk_wm_X7_166 : Cond.methodLink RX7 166 yX2_spendTurn ∈ dk_ws := dk_w 748 (by decide +kernel) (by decide +kernel)
theorem dk_wc_X7_layHands : Cond.code yX7_layHands cX7_layHands 1 none ∈ dk_ws := dk_w 846 (by decide +kernel) (by decide +kernel)
theorem dk_wt_X7_layHands : Cond.instanceMethod yX7_layHands ∈ dk_ws := dk_w 844 (by decide +kernel) (by decide +kernel)
theorem dk_ws_X7_layHands : Cond.selects RX7 yX7_layHands yX7_layHands ∈ dk_ws := dk_w 845 (by decide +kernel) (by decide +kernel)
theorem yy_X7_layHands : dk_YV yX7_layHands cX7_layHands 1 none 0 := ⟨dk_wt_X7_layHands, dk_ws_X7_layHands, dk_wn_RX7, dk_wc_X7_layHands, ⟨by decide, by decide, by decide⟩⟩
theorem dk_wc_X7_isOpenTo : Cond.code yX7_isOpenTo cX7_isOpenTo 2 (some .boolean) ∈ dk_ws := dk_w 803 (by decide +kernel) (by decide +kernel)
theorem dk_wt_X7_isOpenTo : Cond.instanceMethod yX7_isOpenTo ∈ dk_ws := dk_w 802 (by decide +kernel) (by decide +kernel)
theorem dk_ws_X7_isOpenTo : Cond.selects RX7 yX7_isOpenTo yX7_isOpenTo ∈ dk_ws := dk_w 8 (by decide +kernel) (by decide +kernel)
theorem yy_X7_isOpenTo : dk_YV yX7_isOpenTo cX7_isOpenTo 2 (some .boolean) 1 := ⟨dk_wt_X7_isOpenTo, dk_ws_X7_isOpenTo, dk_wn_RX7, dk_wc_X7_isOpenTo, ⟨by decide, by decide, by decide⟩⟩
theorem dk_wc_X7_flee : Cond.code yX7_flee cX7_flee 6 none ∈ dk_ws := dk_w 798 (by decide +kernel) (by decide +kernel)
theorem dk_wt_X7_flee : Cond.instanceMethod yX7_flee ∈ dk_ws := dk_w 797 (by decide +kernel) (by decide +kernel)
theorem dk_ws_X7_flee : Cond.selects RX7 yX7_flee yX7_flee ∈ dk_ws := dk_w 7 (by decide +kernel) (by decide +kernel)
theorem yy_X7_flee : dk_YV yX7_flee cX7_flee 6 none 1 := ⟨dk_wt_X7_flee, dk_ws_X7_flee, dk_wn_RX7, dk_wc_X7_flee, ⟨by decide, by decide, by decide⟩⟩
theorem dk_wm_X7_287 : Cond.methodLink RX7 287 yX7_isOpenTo ∈ dk_ws := dk_w 800 (by decide +kernel) (by decide +kernel)
theorem dk_wf_X7_290 : Cond.fieldLink RX7 290 (TX1 4).1 (TX1 4).2.1 (TX1 4).2.2.1 ∈ dk_ws := dk_w 81 (by decide +kernel) (by decide +kernel)
theorem dk_wc_X8_areNeighbours : Cond.code yX8_areNeighbours cX8_areNeighbours 4 (some .boolean) ∈ dk_ws := dk_w 809 (by decide +kernel) (by decide +kernel)
theorem dk_wt_X8_areNeighbours : Cond.static yX8_areNeighbours ∈ dk_ws := dk_w 808 (by decide +kernel) (by decide +kernel)
theorem yy_X8_areNeighbours : dk_YS yX8_areNeighbours cX8_areNeighbours 4 (some .boolean) 2 := ⟨dk_wt_X8_areNeighbours, dk_wn_RX8, dk_wc_X8_areNeighbours, ⟨by decide, by decide, by decide⟩⟩
theorem dk_wc_X7_comeNearer : Cond.code yX7_comeNearer cX7_comeNearer 8 none ∈ dk_ws := dk_w 822 (by decide +kernel) (by decide +kernel)
theorem dk_wt_X7_comeNearer : Cond.instanceMethod yX7_comeNearer ∈ dk_ws := dk_w 821 (by decide +kernel) (by decide +kernel)
theorem dk_ws_X7_comeNearer : Cond.selects RX7 yX7_comeNearer yX7_comeNearer ∈ dk_ws := dk_w 10 (by decide +kernel) (by decide +kernel)
theorem yy_X7_comeNearer : dk_YV yX7_comeNearer cX7_comeNearer 8 none 1 := ⟨dk_wt_X7_comeNearer, dk_ws_X7_comeNearer, dk_wn_RX7, dk_wc_X7_comeNearer, ⟨by decide, by decide, by decide⟩⟩
theorem dk_wc_X7_moveBeast : Cond.code yX7_moveBeast cX7_moveBeast 6 none ∈ dk_ws := dk_w 755 (by decide +kernel) (by decide +kernel)
theorem dk_wt_X7_moveBeast : Cond.instanceMethod yX7_moveBeast ∈ dk_ws := dk_w 754 (by decide +kernel) (by decide +kernel)
theorem dk_ws_X7_moveBeast : Cond.selects RX7 yX7_moveBeast yX7_moveBeast ∈ dk_ws := dk_w 6 (by decide +kernel) (by decide +kernel)
theorem yy_X7_moveBeast : dk_YV yX7_moveBeast cX7_moveBeast 6 none 1 := ⟨dk_wt_X7_moveBeast, dk_ws_X7_moveBeast, dk_wn_RX7, dk_wc_X7_moveBeast, ⟨by decide, by decide, by decide⟩⟩
theorem dk_wm_X7_97 : Cond.methodLink RX7 97 yX1_seeEachOther ∈ dk_ws := dk_w 760 (by decide +kernel) (by decide +kernel)
theorem dk_wm_X7_274 : Cond.methodLink RX7 274 yX1_aimAt ∈ dk_ws := dk_w 771 (by decide +kernel) (by decide +kernel)
theorem dk_wm_X7_280 : Cond.methodLinkNest RX7 280 yX8_areNeighbours "DelveKeep" ∈ dk_nw := dk_n 807 (by decide +kernel) (by decide +kernel)
theorem dk_wm_X7_284 : Cond.methodLink RX7 284 yX7_comeNearer ∈ dk_ws := dk_w 819 (by decide +kernel) (by decide +kernel)
theorem dk_wf_X7_283 : Cond.fieldLink RX7 283 (TX2 2).1 (TX2 2).2.1 (TX2 2).2.2.1 ∈ dk_ws := dk_w 140 (by decide +kernel) (by decide +kernel)
theorem dk_wm_X7_277 : Cond.methodLink RX7 277 yX7_flee ∈ dk_ws := dk_w 795 (by decide +kernel) (by decide +kernel)
theorem dk_wc_X7_waitForHero : Cond.code yX7_waitForHero cX7_waitForHero 3 none ∈ dk_ws := dk_w 731 (by decide +kernel) (by decide +kernel)
theorem dk_wt_X7_waitForHero : Cond.instanceMethod yX7_waitForHero ∈ dk_ws := dk_w 729 (by decide +kernel) (by decide +kernel)
theorem dk_ws_X7_waitForHero : Cond.selects RX7 yX7_waitForHero yX7_waitForHero ∈ dk_ws := dk_w 730 (by decide +kernel) (by decide +kernel)
theorem yy_X7_waitForHero : dk_YV yX7_waitForHero cX7_waitForHero 3 none 0 := ⟨dk_wt_X7_waitForHero, dk_ws_X7_waitForHero, dk_wn_RX7, dk_wc_X7_waitForHero, ⟨by decide, by decide, by decide⟩⟩
theorem dk_wk_X7_118 : Cond.constant RX7 118 1000000 ∈ dk_ws := dk_w 732 (by decide +kernel) (by decide +kernel)
theorem dk_wm_X7_257 : Cond.methodLink RX7 257 yX2_nextToAct ∈ dk_ws := dk_w 737 (by decide +kernel) (by decide +kernel)
theorem dk_wm_X7_268 : Cond.methodLink RX7 268 yX7_moveBeast ∈ dk_ws := dk_w 752 (by decide +kernel) (by decide +kernel)
theorem dk_wm_X7_260 : Cond.methodLink RX7 260 yX2_gainEnergy ∈ dk_ws := dk_w 742 (by decide +kernel) (by decide +kernel)
theorem dk_wm_X7_263 : Cond.methodLink RX7 263 Lib.Math.max.name ∈ dk_ws := dk_w 747 (by decide +kernel) (by decide +kernel)
theorem dk_wc_X8_state : Cond.code yX8_state cX8_state 1 (some .char) ∈ dk_ws := dk_w 317 (by decide +kernel) (by decide +kernel)
theorem dk_wt_X8_state : Cond.instanceMethod yX8_state ∈ dk_ws := dk_w 315 (by decide +kernel) (by decide +kernel)
theorem dk_ws_X8_state : Cond.selects RX8 yX8_state yX8_state ∈ dk_ws := dk_w 316 (by decide +kernel) (by decide +kernel)
theorem yy_X8_state : dk_YV yX8_state cX8_state 1 (some .char) 0 := ⟨dk_wt_X8_state, dk_ws_X8_state, dk_wn_RX8, dk_wc_X8_state, ⟨by decide, by decide, by decide⟩⟩
theorem dk_wf_X8_36 : Cond.fieldLink RX8 36 (TX8 5).1 (TX8 5).2.1 (TX8 5).2.2.1 ∈ dk_ws := dk_w 297 (by decide +kernel) (by decide +kernel)
theorem dk_wc_X8_tick : Cond.code yX8_tick cX8_tick 1 (some .int) ∈ dk_ws := dk_w 321 (by decide +kernel) (by decide +kernel)
theorem dk_wt_X8_tick : Cond.instanceMethod yX8_tick ∈ dk_ws := dk_w 319 (by decide +kernel) (by decide +kernel)
theorem dk_ws_X8_tick : Cond.selects RX8 yX8_tick yX8_tick ∈ dk_ws := dk_w 320 (by decide +kernel) (by decide +kernel)
theorem yy_X8_tick : dk_YV yX8_tick cX8_tick 1 (some .int) 0 := ⟨dk_wt_X8_tick, dk_ws_X8_tick, dk_wn_RX8, dk_wc_X8_tick, ⟨by decide, by decide, by decide⟩⟩
theorem dk_wm_X8_227 : Cond.methodLink RX8 227 yX8_shown ∈ dk_ws := dk_w 322 (by decide +kernel) (by decide +kernel)
theorem dk_wf_X8_175 : Cond.fieldLink RX8 175 (TX7 5).1 (TX7 5).2.1 (TX7 5).2.2.1 ∈ dk_ws := dk_w 229 (by decide +kernel) (by decide +kernel)
theorem dk_wc_X8_make : Cond.code yX8_make cX8_make 3 none ∈ dk_ws := dk_w 684 (by decide +kernel) (by decide +kernel)
theorem dk_wt_X8_make : Cond.instanceMethod yX8_make ∈ dk_ws := dk_w 683 (by decide +kernel) (by decide +kernel)
theorem dk_ws_X8_make : Cond.selects RX8 yX8_make yX8_make ∈ dk_ws := dk_w 5 (by decide +kernel) (by decide +kernel)
theorem yy_X8_make : dk_YV yX8_make cX8_make 3 none 2 := ⟨dk_wt_X8_make, dk_ws_X8_make, dk_wn_RX8, dk_wc_X8_make, ⟨by decide, by decide, by decide⟩⟩
theorem dk_wf_X8_12 : Cond.fieldLink RX8 12 (TX8 0).1 (TX8 0).2.1 (TX8 0).2.2.1 ∈ dk_ws := dk_w 292 (by decide +kernel) (by decide +kernel)
theorem dk_wm_X8_269 : Cond.methodLink RX8 269 yX7_copy ∈ dk_ws := dk_w 685 (by decide +kernel) (by decide +kernel)
theorem dk_wf_X8_273 : Cond.fieldLink RX8 273 (TX7 6).1 (TX7 6).2.1 (TX7 6).2.2.1 ∈ dk_ws := dk_w 231 (by decide +kernel) (by decide +kernel)
theorem dk_wf_X8_32 : Cond.fieldLink RX8 32 (TX8 4).1 (TX8 4).2.1 (TX8 4).2.2.1 ∈ dk_ws := dk_w 296 (by decide +kernel) (by decide +kernel)
theorem dk_wm_X8_276 : Cond.methodLink RX8 276 yX0_layIn ∈ dk_ws := dk_w 721 (by decide +kernel) (by decide +kernel)
theorem dk_wc_X8_settle : Cond.code yX8_settle cX8_settle 1 none ∈ dk_ws := dk_w 827 (by decide +kernel) (by decide +kernel)
theorem dk_wt_X8_settle : Cond.instanceMethod yX8_settle ∈ dk_ws := dk_w 826 (by decide +kernel) (by decide +kernel)
theorem dk_ws_X8_settle : Cond.selects RX8 yX8_settle yX8_settle ∈ dk_ws := dk_w 11 (by decide +kernel) (by decide +kernel)
theorem yy_X8_settle : dk_YV yX8_settle cX8_settle 1 none 0 := ⟨dk_wt_X8_settle, dk_ws_X8_settle, dk_wn_RX8, dk_wc_X8_settle, ⟨by decide, by decide, by decide⟩⟩
theorem dk_wf_X8_16 : Cond.fieldLink RX8 16 (TX8 1).1 (TX8 1).2.1 (TX8 1).2.2.1 ∈ dk_ws := dk_w 293 (by decide +kernel) (by decide +kernel)
theorem dk_wf_X8_111 : Cond.fieldLink RX8 111 (TX7 2).1 (TX7 2).2.1 (TX7 2).2.2.1 ∈ dk_ws := dk_w 222 (by decide +kernel) (by decide +kernel)
theorem dk_wm_X8_284 : Cond.methodLink RX8 284 yX2_lives ∈ dk_ws := dk_w 828 (by decide +kernel) (by decide +kernel)
theorem dk_wm_X8_287 : Cond.methodLink RX8 287 yX0_note ∈ dk_ws := dk_w 829 (by decide +kernel) (by decide +kernel)
theorem dk_wm_X8_290 : Cond.methodLink RX8 290 yX7_layHands ∈ dk_ws := dk_w 843 (by decide +kernel) (by decide +kernel)
theorem dk_wc_X8_act : Cond.code yX8_act cX8_act 5 (some .int) ∈ dk_ws := dk_w 917 (by decide +kernel) (by decide +kernel)
theorem dk_wt_X8_act : Cond.instanceMethod yX8_act ∈ dk_ws := dk_w 916 (by decide +kernel) (by decide +kernel)
theorem dk_ws_X8_act : Cond.selects RX8 yX8_act yX8_act ∈ dk_ws := dk_w 15 (by decide +kernel) (by decide +kernel)
theorem yy_X8_act : dk_YV yX8_act cX8_act 5 (some .int) 3 := ⟨dk_wt_X8_act, dk_ws_X8_act, dk_wn_RX8, dk_wc_X8_act, ⟨by decide, by decide, by decide⟩⟩
theorem dk_wm_X8_279 : Cond.methodLink RX8 279 yX7_perform ∈ dk_ws := dk_w 918 (by decide +kernel) (by decide +kernel)
theorem dk_wk_X8_188 : Cond.constant RX8 188 (-1000000) ∈ dk_ws := dk_w 1002 (by decide +kernel) (by decide +kernel)
theorem dk_wf_X8_25 : Cond.fieldLink RX8 25 (TX8 3).1 (TX8 3).2.1 (TX8 3).2.2.1 ∈ dk_ws := dk_w 295 (by decide +kernel) (by decide +kernel)
theorem dk_wm_X8_282 : Cond.methodLink RX8 282 yX5_add ∈ dk_ws := dk_w 1003 (by decide +kernel) (by decide +kernel)
theorem dk_wm_X8_169 : Cond.methodLink RX8 169 yX7_waitForHero ∈ dk_ws := dk_w 728 (by decide +kernel) (by decide +kernel)
theorem dk_wm_X8_172 : Cond.methodLink RX8 172 yX8_settle ∈ dk_ws := dk_w 824 (by decide +kernel) (by decide +kernel)
theorem dk_wc_X8_redo : Cond.code yX8_redo cX8_redo 1 none ∈ dk_ws := dk_w 1075 (by decide +kernel) (by decide +kernel)
theorem dk_wt_X8_redo : Cond.instanceMethod yX8_redo ∈ dk_ws := dk_w 1074 (by decide +kernel) (by decide +kernel)
theorem dk_ws_X8_redo : Cond.selects RX8 yX8_redo yX8_redo ∈ dk_ws := dk_w 28 (by decide +kernel) (by decide +kernel)
theorem yy_X8_redo : dk_YV yX8_redo cX8_redo 1 none 0 := ⟨dk_wt_X8_redo, dk_ws_X8_redo, dk_wn_RX8, dk_wc_X8_redo, ⟨by decide, by decide, by decide⟩⟩
theorem dk_wf_X8_19 : Cond.fieldLink RX8 19 (TX8 2).1 (TX8 2).2.1 (TX8 2).2.2.1 ∈ dk_ws := dk_w 294 (by decide +kernel) (by decide +kernel)
theorem dk_wf_X8_40 : Cond.fieldLink RX8 40 (TX8 6).1 (TX8 6).2.1 (TX8 6).2.2.1 ∈ dk_ws := dk_w 298 (by decide +kernel) (by decide +kernel)
theorem dk_wf_X8_168 : Cond.fieldLink RX8 168 (TX5 3).1 (TX5 3).2.1 (TX5 3).2.2.1 ∈ dk_ws := dk_w 269 (by decide +kernel) (by decide +kernel)
theorem dk_wf_X8_293 : Cond.fieldLink RX8 293 (TX5 0).1 (TX5 0).2.1 (TX5 0).2.2.1 ∈ dk_ws := dk_w 263 (by decide +kernel) (by decide +kernel)
theorem dk_wm_X8_94 : Cond.methodLink RX8 94 yX8_at ∈ dk_ws := dk_w 570 (by decide +kernel) (by decide +kernel)
theorem dk_wf_X8_296 : Cond.fieldLink RX8 296 (TX5 1).1 (TX5 1).2.1 (TX5 1).2.2.1 ∈ dk_ws := dk_w 265 (by decide +kernel) (by decide +kernel)
theorem dk_wf_X8_299 : Cond.fieldLink RX8 299 (TX5 2).1 (TX5 2).2.1 (TX5 2).2.2.1 ∈ dk_ws := dk_w 267 (by decide +kernel) (by decide +kernel)
theorem dk_wc_X8_shownPlace : Cond.code yX8_shownPlace cX8_shownPlace 1 (some .int) ∈ dk_ws := dk_w 864 (by decide +kernel) (by decide +kernel)
theorem dk_wt_X8_shownPlace : Cond.static yX8_shownPlace ∈ dk_ws := dk_w 863 (by decide +kernel) (by decide +kernel)
theorem yy_X8_shownPlace : dk_YS yX8_shownPlace cX8_shownPlace 1 (some .int) 1 := ⟨dk_wt_X8_shownPlace, dk_wn_RX8, dk_wc_X8_shownPlace, ⟨by decide, by decide, by decide⟩⟩
theorem dk_wc_X8_shown : Cond.code yX8_shown cX8_shown 1 (some (.object "DelveKeep$World")) ∈ dk_ws := dk_w 325 (by decide +kernel) (by decide +kernel)
theorem dk_wt_X8_shown : Cond.instanceMethod yX8_shown ∈ dk_ws := dk_w 324 (by decide +kernel) (by decide +kernel)
theorem dk_ws_X8_shown : Cond.selects RX8 yX8_shown yX8_shown ∈ dk_ws := dk_w 0 (by decide +kernel) (by decide +kernel)
theorem yy_X8_shown : dk_YV yX8_shown cX8_shown 1 (some (.object "DelveKeep$World")) 0 := ⟨dk_wt_X8_shown, dk_ws_X8_shown, dk_wn_RX8, dk_wc_X8_shown, ⟨by decide, by decide, by decide⟩⟩
theorem gf_X7_28 {G : dk_G} {p : Program} {l : Launch} {e : Env} {R : Room} {s : State} {m : MethodId} {args : Array Value} {below : List Frame} {meth : Method} {c : Code} {cells slots : Nat} {Q : State → Prop} {cc : ByteArray} {nL : Nat} {pc n : Nat} {L : List (Option Value)} {st : List Value} {σ : dk_S} {a : Nat} (C : dk_C G p R s m args c cells slots cc nL RX7) (hd : (a, 0) ∈ dk_dom G) (d : decode cc pc = .ok (.getfield 28, 3)) (hn : pc + 3 = n) (k : dk_W G p l e R s m args below meth c cells slots Q n L (dk_r G a 13 :: st) σ) : dk_W G p l e R s m args below meth c cells slots Q pc L (dk_r G a 0 :: st) σ :=
  dk_getR (ci := 7) (k0 := 2) (N := 10) (T := TX7) (Cn := RX7) C dk_sh0 rfl rfl rfl (by decide) dk_ui7 dk_wf_X7_28 hd d hn k
theorem gf_X7_78 {G : dk_G} {p : Program} {l : Launch} {e : Env} {R : Room} {s : State} {m : MethodId} {args : Array Value} {below : List Frame} {meth : Method} {c : Code} {cells slots : Nat} {Q : State → Prop} {cc : ByteArray} {nL : Nat} {pc n : Nat} {L : List (Option Value)} {st : List Value} {σ : dk_S} {a : Nat} (C : dk_C G p R s m args c cells slots cc nL RX7) (hd : (a, 13) ∈ dk_dom G) (d : decode cc pc = .ok (.getfield 78, 3)) (hn : pc + 3 = n) (k : dk_W G p l e R s m args below meth c cells slots Q n L (dk_r G a 14 :: st) σ) : dk_W G p l e R s m args below meth c cells slots Q pc L (dk_r G a 13 :: st) σ :=
  dk_getR (ci := 2) (k0 := 0) (N := 10) (T := TX2) (Cn := RX2) C dk_sh13 rfl rfl rfl (by decide) dk_ui2 dk_wf_X7_78 hd d hn k
theorem gf_X6_15 {G : dk_G} {p : Program} {l : Launch} {e : Env} {R : Room} {s : State} {m : MethodId} {args : Array Value} {below : List Frame} {meth : Method} {c : Code} {cells slots : Nat} {Q : State → Prop} {cc : ByteArray} {nL : Nat} {pc n : Nat} {L : List (Option Value)} {st : List Value} {σ : dk_S} {a : Nat} (C : dk_C G p R s m args c cells slots cc nL RX6) (hd : (a, 23) ∈ dk_dom G) (d : decode cc pc = .ok (.getfield 15, 3)) (hn : pc + 3 = n) (k : dk_W G p l e R s m args below meth c cells slots Q n L (dk_r G a 25 :: st) σ) : dk_W G p l e R s m args below meth c cells slots Q pc L (dk_r G a 23 :: st) σ :=
  dk_getR (ci := 6) (k0 := 1) (N := 3) (T := TX6) (Cn := RX6) C dk_sh23 rfl rfl rfl (by decide) dk_ui6 dk_wf_X6_15 hd d hn k
theorem pf_X0_15 {G : dk_G} {p : Program} {l : Launch} {e : Env} {R : Room} {s : State} {m : MethodId} {args : Array Value} {below : List Frame} {meth : Method} {c : Code} {cells slots : Nat} {Q : State → Prop} {cc : ByteArray} {nL : Nat} {pc n : Nat} {L : List (Option Value)} {st : List Value} {σ : dk_S} {a : Nat} {x : Int32} (C : dk_C G p R s m args c cells slots cc nL RX0) (hna : narrow .int (.int x) = .int x) (hfit : fits .int (.int x) = true) (hd : (a, 45) ∈ dk_dom G) (d : decode cc pc = .ok (.putfield 15, 3)) (hn : pc + 3 = n) (k : dk_W G p l e R s m args below meth c cells slots Q n L st (dk_row σ a 45 (upd (σ a 45) 1 x))) : dk_W G p l e R s m args below meth c cells slots Q pc L (.int x :: dk_r G a 45 :: st) σ :=
  dk_put (ci := 0) (k0 := 1) (N := 2) (T := TX0) (Cn := RX0) (ty := .int) C dk_sh45 rfl rfl (by decide) dk_ui0 tyX0 tyX0_ok nmX0 dk_wf_X0_15 (by decide) (by decide) hna hfit hd d hn k
theorem gf_X0_25 {G : dk_G} {p : Program} {l : Launch} {e : Env} {R : Room} {s : State} {m : MethodId} {args : Array Value} {below : List Frame} {meth : Method} {c : Code} {cells slots : Nat} {Q : State → Prop} {cc : ByteArray} {nL : Nat} {pc n : Nat} {L : List (Option Value)} {st : List Value} {σ : dk_S} {a : Nat} (C : dk_C G p R s m args c cells slots cc nL RX0) (hd : (a, 0) ∈ dk_dom G) (d : decode cc pc = .ok (.getfield 25, 3)) (hn : pc + 3 = n) (k : dk_W G p l e R s m args below meth c cells slots Q n L (dk_r G a 23 :: st) σ) : dk_W G p l e R s m args below meth c cells slots Q pc L (dk_r G a 0 :: st) σ :=
  dk_getR (ci := 7) (k0 := 3) (N := 10) (T := TX7) (Cn := RX7) C dk_sh0 rfl rfl rfl (by decide) dk_ui7 dk_wf_X0_25 hd d hn k
theorem gf_X0_29 {G : dk_G} {p : Program} {l : Launch} {e : Env} {R : Room} {s : State} {m : MethodId} {args : Array Value} {below : List Frame} {meth : Method} {c : Code} {cells slots : Nat} {Q : State → Prop} {cc : ByteArray} {nL : Nat} {pc n : Nat} {L : List (Option Value)} {st : List Value} {σ : dk_S} {a : Nat} (C : dk_C G p R s m args c cells slots cc nL RX0) (hd : (a, 23) ∈ dk_dom G) (d : decode cc pc = .ok (.getfield 29, 3)) (hn : pc + 3 = n) (k : dk_W G p l e R s m args below meth c cells slots Q n L (.int (σ a 23 2) :: st) σ) : dk_W G p l e R s m args below meth c cells slots Q pc L (dk_r G a 23 :: st) σ :=
  dk_getI (ci := 6) (k0 := 2) (N := 3) (T := TX6) (Cn := RX6) C dk_sh23 rfl rfl (by decide) dk_ui6 dk_wf_X0_29 hd d hn k
theorem gf_X0_9 {G : dk_G} {p : Program} {l : Launch} {e : Env} {R : Room} {s : State} {m : MethodId} {args : Array Value} {below : List Frame} {meth : Method} {c : Code} {cells slots : Nat} {Q : State → Prop} {cc : ByteArray} {nL : Nat} {pc n : Nat} {L : List (Option Value)} {st : List Value} {σ : dk_S} {a : Nat} (C : dk_C G p R s m args c cells slots cc nL RX0) (hd : (a, 45) ∈ dk_dom G) (d : decode cc pc = .ok (.getfield 9, 3)) (hn : pc + 3 = n) (k : dk_W G p l e R s m args below meth c cells slots Q n L (dk_r G a 46 :: st) σ) : dk_W G p l e R s m args below meth c cells slots Q pc L (dk_r G a 45 :: st) σ :=
  dk_getR (ci := 0) (k0 := 0) (N := 2) (T := TX0) (Cn := RX0) C dk_sh45 rfl rfl rfl (by decide) dk_ui0 dk_wf_X0_9 hd d hn k
theorem gf_X0_38 {G : dk_G} {p : Program} {l : Launch} {e : Env} {R : Room} {s : State} {m : MethodId} {args : Array Value} {below : List Frame} {meth : Method} {c : Code} {cells slots : Nat} {Q : State → Prop} {cc : ByteArray} {nL : Nat} {pc n : Nat} {L : List (Option Value)} {st : List Value} {σ : dk_S} {a : Nat} (C : dk_C G p R s m args c cells slots cc nL RX0) (hd : (a, 23) ∈ dk_dom G) (d : decode cc pc = .ok (.getfield 38, 3)) (hn : pc + 3 = n) (k : dk_W G p l e R s m args below meth c cells slots Q n L (dk_r G a 25 :: st) σ) : dk_W G p l e R s m args below meth c cells slots Q pc L (dk_r G a 23 :: st) σ :=
  dk_getR (ci := 6) (k0 := 1) (N := 3) (T := TX6) (Cn := RX6) C dk_sh23 rfl rfl rfl (by decide) dk_ui6 dk_wf_X0_38 hd d hn k
theorem gf_X1_9 {G : dk_G} {p : Program} {l : Launch} {e : Env} {R : Room} {s : State} {m : MethodId} {args : Array Value} {below : List Frame} {meth : Method} {c : Code} {cells slots : Nat} {Q : State → Prop} {cc : ByteArray} {nL : Nat} {pc n : Nat} {L : List (Option Value)} {st : List Value} {σ : dk_S} {a : Nat} (C : dk_C G p R s m args c cells slots cc nL RX1) (hd : (a, 1) ∈ dk_dom G) (d : decode cc pc = .ok (.getfield 9, 3)) (hn : pc + 3 = n) (k : dk_W G p l e R s m args below meth c cells slots Q n L (dk_r G a 2 :: st) σ) : dk_W G p l e R s m args below meth c cells slots Q pc L (dk_r G a 1 :: st) σ :=
  dk_getR (ci := 1) (k0 := 0) (N := 6) (T := TX1) (Cn := RX1) C dk_sh1 rfl rfl rfl (by decide) dk_ui1 dk_wf_X1_9 hd d hn k
theorem gf_X0_15 {G : dk_G} {p : Program} {l : Launch} {e : Env} {R : Room} {s : State} {m : MethodId} {args : Array Value} {below : List Frame} {meth : Method} {c : Code} {cells slots : Nat} {Q : State → Prop} {cc : ByteArray} {nL : Nat} {pc n : Nat} {L : List (Option Value)} {st : List Value} {σ : dk_S} {a : Nat} (C : dk_C G p R s m args c cells slots cc nL RX0) (hd : (a, 45) ∈ dk_dom G) (d : decode cc pc = .ok (.getfield 15, 3)) (hn : pc + 3 = n) (k : dk_W G p l e R s m args below meth c cells slots Q n L (.int (σ a 45 1) :: st) σ) : dk_W G p l e R s m args below meth c cells slots Q pc L (dk_r G a 45 :: st) σ :=
  dk_getI (ci := 0) (k0 := 1) (N := 2) (T := TX0) (Cn := RX0) C dk_sh45 rfl rfl (by decide) dk_ui0 dk_wf_X0_15 hd d hn k
theorem gf_X0_47 {G : dk_G} {p : Program} {l : Launch} {e : Env} {R : Room} {s : State} {m : MethodId} {args : Array Value} {below : List Frame} {meth : Method} {c : Code} {cells slots : Nat} {Q : State → Prop} {cc : ByteArray} {nL : Nat} {pc n : Nat} {L : List (Option Value)} {st : List Value} {σ : dk_S} {a : Nat} (C : dk_C G p R s m args c cells slots cc nL RX0) (hd : (a, 0) ∈ dk_dom G) (d : decode cc pc = .ok (.getfield 47, 3)) (hn : pc + 3 = n) (k : dk_W G p l e R s m args below meth c cells slots Q n L (dk_r G a 1 :: st) σ) : dk_W G p l e R s m args below meth c cells slots Q pc L (dk_r G a 0 :: st) σ :=
  dk_getR (ci := 7) (k0 := 0) (N := 10) (T := TX7) (Cn := RX7) C dk_sh0 rfl rfl rfl (by decide) dk_ui7 dk_wf_X0_47 hd d hn k
theorem pf_X1_28 {G : dk_G} {p : Program} {l : Launch} {e : Env} {R : Room} {s : State} {m : MethodId} {args : Array Value} {below : List Frame} {meth : Method} {c : Code} {cells slots : Nat} {Q : State → Prop} {cc : ByteArray} {nL : Nat} {pc n : Nat} {L : List (Option Value)} {st : List Value} {σ : dk_S} {a : Nat} {x : Int32} (C : dk_C G p R s m args c cells slots cc nL RX1) (hna : narrow .int (.int x) = .int x) (hfit : fits .int (.int x) = true) (hd : (a, 1) ∈ dk_dom G) (d : decode cc pc = .ok (.putfield 28, 3)) (hn : pc + 3 = n) (k : dk_W G p l e R s m args below meth c cells slots Q n L st (dk_row σ a 1 (upd (σ a 1) 5 x))) : dk_W G p l e R s m args below meth c cells slots Q pc L (.int x :: dk_r G a 1 :: st) σ :=
  dk_put (ci := 1) (k0 := 5) (N := 6) (T := TX1) (Cn := RX1) (ty := .int) C dk_sh1 rfl rfl (by decide) dk_ui1 tyX1 tyX1_ok nmX1 dk_wf_X1_28 (by decide) (by decide) hna hfit hd d hn k
theorem gf_X1_19 {G : dk_G} {p : Program} {l : Launch} {e : Env} {R : Room} {s : State} {m : MethodId} {args : Array Value} {below : List Frame} {meth : Method} {c : Code} {cells slots : Nat} {Q : State → Prop} {cc : ByteArray} {nL : Nat} {pc n : Nat} {L : List (Option Value)} {st : List Value} {σ : dk_S} {a : Nat} (C : dk_C G p R s m args c cells slots cc nL RX1) (hd : (a, 1) ∈ dk_dom G) (d : decode cc pc = .ok (.getfield 19, 3)) (hn : pc + 3 = n) (k : dk_W G p l e R s m args below meth c cells slots Q n L (dk_r G a 4 :: st) σ) : dk_W G p l e R s m args below meth c cells slots Q pc L (dk_r G a 1 :: st) σ :=
  dk_getR (ci := 1) (k0 := 2) (N := 6) (T := TX1) (Cn := RX1) C dk_sh1 rfl rfl rfl (by decide) dk_ui1 dk_wf_X1_19 hd d hn k
theorem gf_X1_15 {G : dk_G} {p : Program} {l : Launch} {e : Env} {R : Room} {s : State} {m : MethodId} {args : Array Value} {below : List Frame} {meth : Method} {c : Code} {cells slots : Nat} {Q : State → Prop} {cc : ByteArray} {nL : Nat} {pc n : Nat} {L : List (Option Value)} {st : List Value} {σ : dk_S} {a : Nat} (C : dk_C G p R s m args c cells slots cc nL RX1) (hd : (a, 1) ∈ dk_dom G) (d : decode cc pc = .ok (.getfield 15, 3)) (hn : pc + 3 = n) (k : dk_W G p l e R s m args below meth c cells slots Q n L (dk_r G a 3 :: st) σ) : dk_W G p l e R s m args below meth c cells slots Q pc L (dk_r G a 1 :: st) σ :=
  dk_getR (ci := 1) (k0 := 1) (N := 6) (T := TX1) (Cn := RX1) C dk_sh1 rfl rfl rfl (by decide) dk_ui1 dk_wf_X1_15 hd d hn k
theorem gf_X1_28 {G : dk_G} {p : Program} {l : Launch} {e : Env} {R : Room} {s : State} {m : MethodId} {args : Array Value} {below : List Frame} {meth : Method} {c : Code} {cells slots : Nat} {Q : State → Prop} {cc : ByteArray} {nL : Nat} {pc n : Nat} {L : List (Option Value)} {st : List Value} {σ : dk_S} {a : Nat} (C : dk_C G p R s m args c cells slots cc nL RX1) (hd : (a, 1) ∈ dk_dom G) (d : decode cc pc = .ok (.getfield 28, 3)) (hn : pc + 3 = n) (k : dk_W G p l e R s m args below meth c cells slots Q n L (.int (σ a 1 5) :: st) σ) : dk_W G p l e R s m args below meth c cells slots Q pc L (dk_r G a 1 :: st) σ :=
  dk_getI (ci := 1) (k0 := 5) (N := 6) (T := TX1) (Cn := RX1) C dk_sh1 rfl rfl (by decide) dk_ui1 dk_wf_X1_28 hd d hn k
theorem gf_X1_25 {G : dk_G} {p : Program} {l : Launch} {e : Env} {R : Room} {s : State} {m : MethodId} {args : Array Value} {below : List Frame} {meth : Method} {c : Code} {cells slots : Nat} {Q : State → Prop} {cc : ByteArray} {nL : Nat} {pc n : Nat} {L : List (Option Value)} {st : List Value} {σ : dk_S} {a : Nat} (C : dk_C G p R s m args c cells slots cc nL RX1) (hd : (a, 1) ∈ dk_dom G) (d : decode cc pc = .ok (.getfield 25, 3)) (hn : pc + 3 = n) (k : dk_W G p l e R s m args below meth c cells slots Q n L (dk_r G a 6 :: st) σ) : dk_W G p l e R s m args below meth c cells slots Q pc L (dk_r G a 1 :: st) σ :=
  dk_getR (ci := 1) (k0 := 4) (N := 6) (T := TX1) (Cn := RX1) C dk_sh1 rfl rfl rfl (by decide) dk_ui1 dk_wf_X1_25 hd d hn k
theorem gf_X2_9 {G : dk_G} {p : Program} {l : Launch} {e : Env} {R : Room} {s : State} {m : MethodId} {args : Array Value} {below : List Frame} {meth : Method} {c : Code} {cells slots : Nat} {Q : State → Prop} {cc : ByteArray} {nL : Nat} {pc n : Nat} {L : List (Option Value)} {st : List Value} {σ : dk_S} {a : Nat} (C : dk_C G p R s m args c cells slots cc nL RX2) (hd : (a, 13) ∈ dk_dom G) (d : decode cc pc = .ok (.getfield 9, 3)) (hn : pc + 3 = n) (k : dk_W G p l e R s m args below meth c cells slots Q n L (dk_r G a 14 :: st) σ) : dk_W G p l e R s m args below meth c cells slots Q pc L (dk_r G a 13 :: st) σ :=
  dk_getR (ci := 2) (k0 := 0) (N := 10) (T := TX2) (Cn := RX2) C dk_sh13 rfl rfl rfl (by decide) dk_ui2 dk_wf_X2_9 hd d hn k
theorem gf_X2_15 {G : dk_G} {p : Program} {l : Launch} {e : Env} {R : Room} {s : State} {m : MethodId} {args : Array Value} {below : List Frame} {meth : Method} {c : Code} {cells slots : Nat} {Q : State → Prop} {cc : ByteArray} {nL : Nat} {pc n : Nat} {L : List (Option Value)} {st : List Value} {σ : dk_S} {a : Nat} (C : dk_C G p R s m args c cells slots cc nL RX2) (hd : (a, 13) ∈ dk_dom G) (d : decode cc pc = .ok (.getfield 15, 3)) (hn : pc + 3 = n) (k : dk_W G p l e R s m args below meth c cells slots Q n L (dk_r G a 15 :: st) σ) : dk_W G p l e R s m args below meth c cells slots Q pc L (dk_r G a 13 :: st) σ :=
  dk_getR (ci := 2) (k0 := 1) (N := 10) (T := TX2) (Cn := RX2) C dk_sh13 rfl rfl rfl (by decide) dk_ui2 dk_wf_X2_15 hd d hn k
theorem gf_X2_18 {G : dk_G} {p : Program} {l : Launch} {e : Env} {R : Room} {s : State} {m : MethodId} {args : Array Value} {below : List Frame} {meth : Method} {c : Code} {cells slots : Nat} {Q : State → Prop} {cc : ByteArray} {nL : Nat} {pc n : Nat} {L : List (Option Value)} {st : List Value} {σ : dk_S} {a : Nat} (C : dk_C G p R s m args c cells slots cc nL RX2) (hd : (a, 13) ∈ dk_dom G) (d : decode cc pc = .ok (.getfield 18, 3)) (hn : pc + 3 = n) (k : dk_W G p l e R s m args below meth c cells slots Q n L (dk_r G a 16 :: st) σ) : dk_W G p l e R s m args below meth c cells slots Q pc L (dk_r G a 13 :: st) σ :=
  dk_getR (ci := 2) (k0 := 2) (N := 10) (T := TX2) (Cn := RX2) C dk_sh13 rfl rfl rfl (by decide) dk_ui2 dk_wf_X2_18 hd d hn k
theorem gf_X2_21 {G : dk_G} {p : Program} {l : Launch} {e : Env} {R : Room} {s : State} {m : MethodId} {args : Array Value} {below : List Frame} {meth : Method} {c : Code} {cells slots : Nat} {Q : State → Prop} {cc : ByteArray} {nL : Nat} {pc n : Nat} {L : List (Option Value)} {st : List Value} {σ : dk_S} {a : Nat} (C : dk_C G p R s m args c cells slots cc nL RX2) (hd : (a, 13) ∈ dk_dom G) (d : decode cc pc = .ok (.getfield 21, 3)) (hn : pc + 3 = n) (k : dk_W G p l e R s m args below meth c cells slots Q n L (dk_r G a 17 :: st) σ) : dk_W G p l e R s m args below meth c cells slots Q pc L (dk_r G a 13 :: st) σ :=
  dk_getR (ci := 2) (k0 := 3) (N := 10) (T := TX2) (Cn := RX2) C dk_sh13 rfl rfl rfl (by decide) dk_ui2 dk_wf_X2_21 hd d hn k
theorem gf_X2_24 {G : dk_G} {p : Program} {l : Launch} {e : Env} {R : Room} {s : State} {m : MethodId} {args : Array Value} {below : List Frame} {meth : Method} {c : Code} {cells slots : Nat} {Q : State → Prop} {cc : ByteArray} {nL : Nat} {pc n : Nat} {L : List (Option Value)} {st : List Value} {σ : dk_S} {a : Nat} (C : dk_C G p R s m args c cells slots cc nL RX2) (hd : (a, 13) ∈ dk_dom G) (d : decode cc pc = .ok (.getfield 24, 3)) (hn : pc + 3 = n) (k : dk_W G p l e R s m args below meth c cells slots Q n L (dk_r G a 18 :: st) σ) : dk_W G p l e R s m args below meth c cells slots Q pc L (dk_r G a 13 :: st) σ :=
  dk_getR (ci := 2) (k0 := 4) (N := 10) (T := TX2) (Cn := RX2) C dk_sh13 rfl rfl rfl (by decide) dk_ui2 dk_wf_X2_24 hd d hn k
theorem gf_X2_27 {G : dk_G} {p : Program} {l : Launch} {e : Env} {R : Room} {s : State} {m : MethodId} {args : Array Value} {below : List Frame} {meth : Method} {c : Code} {cells slots : Nat} {Q : State → Prop} {cc : ByteArray} {nL : Nat} {pc n : Nat} {L : List (Option Value)} {st : List Value} {σ : dk_S} {a : Nat} (C : dk_C G p R s m args c cells slots cc nL RX2) (hd : (a, 13) ∈ dk_dom G) (d : decode cc pc = .ok (.getfield 27, 3)) (hn : pc + 3 = n) (k : dk_W G p l e R s m args below meth c cells slots Q n L (dk_r G a 19 :: st) σ) : dk_W G p l e R s m args below meth c cells slots Q pc L (dk_r G a 13 :: st) σ :=
  dk_getR (ci := 2) (k0 := 5) (N := 10) (T := TX2) (Cn := RX2) C dk_sh13 rfl rfl rfl (by decide) dk_ui2 dk_wf_X2_27 hd d hn k
theorem gf_X2_30 {G : dk_G} {p : Program} {l : Launch} {e : Env} {R : Room} {s : State} {m : MethodId} {args : Array Value} {below : List Frame} {meth : Method} {c : Code} {cells slots : Nat} {Q : State → Prop} {cc : ByteArray} {nL : Nat} {pc n : Nat} {L : List (Option Value)} {st : List Value} {σ : dk_S} {a : Nat} (C : dk_C G p R s m args c cells slots cc nL RX2) (hd : (a, 13) ∈ dk_dom G) (d : decode cc pc = .ok (.getfield 30, 3)) (hn : pc + 3 = n) (k : dk_W G p l e R s m args below meth c cells slots Q n L (dk_r G a 20 :: st) σ) : dk_W G p l e R s m args below meth c cells slots Q pc L (dk_r G a 13 :: st) σ :=
  dk_getR (ci := 2) (k0 := 6) (N := 10) (T := TX2) (Cn := RX2) C dk_sh13 rfl rfl rfl (by decide) dk_ui2 dk_wf_X2_30 hd d hn k
theorem gf_X2_33 {G : dk_G} {p : Program} {l : Launch} {e : Env} {R : Room} {s : State} {m : MethodId} {args : Array Value} {below : List Frame} {meth : Method} {c : Code} {cells slots : Nat} {Q : State → Prop} {cc : ByteArray} {nL : Nat} {pc n : Nat} {L : List (Option Value)} {st : List Value} {σ : dk_S} {a : Nat} (C : dk_C G p R s m args c cells slots cc nL RX2) (hd : (a, 13) ∈ dk_dom G) (d : decode cc pc = .ok (.getfield 33, 3)) (hn : pc + 3 = n) (k : dk_W G p l e R s m args below meth c cells slots Q n L (dk_r G a 21 :: st) σ) : dk_W G p l e R s m args below meth c cells slots Q pc L (dk_r G a 13 :: st) σ :=
  dk_getR (ci := 2) (k0 := 7) (N := 10) (T := TX2) (Cn := RX2) C dk_sh13 rfl rfl rfl (by decide) dk_ui2 dk_wf_X2_33 hd d hn k
theorem gf_X2_36 {G : dk_G} {p : Program} {l : Launch} {e : Env} {R : Room} {s : State} {m : MethodId} {args : Array Value} {below : List Frame} {meth : Method} {c : Code} {cells slots : Nat} {Q : State → Prop} {cc : ByteArray} {nL : Nat} {pc n : Nat} {L : List (Option Value)} {st : List Value} {σ : dk_S} {a : Nat} (C : dk_C G p R s m args c cells slots cc nL RX2) (hd : (a, 13) ∈ dk_dom G) (d : decode cc pc = .ok (.getfield 36, 3)) (hn : pc + 3 = n) (k : dk_W G p l e R s m args below meth c cells slots Q n L (dk_r G a 22 :: st) σ) : dk_W G p l e R s m args below meth c cells slots Q pc L (dk_r G a 13 :: st) σ :=
  dk_getR (ci := 2) (k0 := 8) (N := 10) (T := TX2) (Cn := RX2) C dk_sh13 rfl rfl rfl (by decide) dk_ui2 dk_wf_X2_36 hd d hn k
theorem gf_X2_39 {G : dk_G} {p : Program} {l : Launch} {e : Env} {R : Room} {s : State} {m : MethodId} {args : Array Value} {below : List Frame} {meth : Method} {c : Code} {cells slots : Nat} {Q : State → Prop} {cc : ByteArray} {nL : Nat} {pc n : Nat} {L : List (Option Value)} {st : List Value} {σ : dk_S} {a : Nat} (C : dk_C G p R s m args c cells slots cc nL RX2) (hd : (a, 13) ∈ dk_dom G) (d : decode cc pc = .ok (.getfield 39, 3)) (hn : pc + 3 = n) (k : dk_W G p l e R s m args below meth c cells slots Q n L (.int (σ a 13 9) :: st) σ) : dk_W G p l e R s m args below meth c cells slots Q pc L (dk_r G a 13 :: st) σ :=
  dk_getI (ci := 2) (k0 := 9) (N := 10) (T := TX2) (Cn := RX2) C dk_sh13 rfl rfl (by decide) dk_ui2 dk_wf_X2_39 hd d hn k
theorem pf_X2_39 {G : dk_G} {p : Program} {l : Launch} {e : Env} {R : Room} {s : State} {m : MethodId} {args : Array Value} {below : List Frame} {meth : Method} {c : Code} {cells slots : Nat} {Q : State → Prop} {cc : ByteArray} {nL : Nat} {pc n : Nat} {L : List (Option Value)} {st : List Value} {σ : dk_S} {a : Nat} {x : Int32} (C : dk_C G p R s m args c cells slots cc nL RX2) (hna : narrow .int (.int x) = .int x) (hfit : fits .int (.int x) = true) (hd : (a, 13) ∈ dk_dom G) (d : decode cc pc = .ok (.putfield 39, 3)) (hn : pc + 3 = n) (k : dk_W G p l e R s m args below meth c cells slots Q n L st (dk_row σ a 13 (upd (σ a 13) 9 x))) : dk_W G p l e R s m args below meth c cells slots Q pc L (.int x :: dk_r G a 13 :: st) σ :=
  dk_put (ci := 2) (k0 := 9) (N := 10) (T := TX2) (Cn := RX2) (ty := .int) C dk_sh13 rfl rfl (by decide) dk_ui2 tyX2 tyX2_ok nmX2 dk_wf_X2_39 (by decide) (by decide) hna hfit hd d hn k
theorem gf_X3_9 {G : dk_G} {p : Program} {l : Launch} {e : Env} {R : Room} {s : State} {m : MethodId} {args : Array Value} {below : List Frame} {meth : Method} {c : Code} {cells slots : Nat} {Q : State → Prop} {cc : ByteArray} {nL : Nat} {pc n : Nat} {L : List (Option Value)} {st : List Value} {σ : dk_S} {a : Nat} (C : dk_C G p R s m args c cells slots cc nL RX3) (hd : (a, 7) ∈ dk_dom G) (d : decode cc pc = .ok (.getfield 9, 3)) (hn : pc + 3 = n) (k : dk_W G p l e R s m args below meth c cells slots Q n L (dk_r G a 8 :: st) σ) : dk_W G p l e R s m args below meth c cells slots Q pc L (dk_r G a 7 :: st) σ :=
  dk_getR (ci := 3) (k0 := 0) (N := 5) (T := TX3) (Cn := RX3) C dk_sh7 rfl rfl rfl (by decide) dk_ui3 dk_wf_X3_9 hd d hn k
theorem gf_X3_15 {G : dk_G} {p : Program} {l : Launch} {e : Env} {R : Room} {s : State} {m : MethodId} {args : Array Value} {below : List Frame} {meth : Method} {c : Code} {cells slots : Nat} {Q : State → Prop} {cc : ByteArray} {nL : Nat} {pc n : Nat} {L : List (Option Value)} {st : List Value} {σ : dk_S} {a : Nat} (C : dk_C G p R s m args c cells slots cc nL RX3) (hd : (a, 7) ∈ dk_dom G) (d : decode cc pc = .ok (.getfield 15, 3)) (hn : pc + 3 = n) (k : dk_W G p l e R s m args below meth c cells slots Q n L (dk_r G a 9 :: st) σ) : dk_W G p l e R s m args below meth c cells slots Q pc L (dk_r G a 7 :: st) σ :=
  dk_getR (ci := 3) (k0 := 1) (N := 5) (T := TX3) (Cn := RX3) C dk_sh7 rfl rfl rfl (by decide) dk_ui3 dk_wf_X3_15 hd d hn k
theorem gf_X3_18 {G : dk_G} {p : Program} {l : Launch} {e : Env} {R : Room} {s : State} {m : MethodId} {args : Array Value} {below : List Frame} {meth : Method} {c : Code} {cells slots : Nat} {Q : State → Prop} {cc : ByteArray} {nL : Nat} {pc n : Nat} {L : List (Option Value)} {st : List Value} {σ : dk_S} {a : Nat} (C : dk_C G p R s m args c cells slots cc nL RX3) (hd : (a, 7) ∈ dk_dom G) (d : decode cc pc = .ok (.getfield 18, 3)) (hn : pc + 3 = n) (k : dk_W G p l e R s m args below meth c cells slots Q n L (dk_r G a 10 :: st) σ) : dk_W G p l e R s m args below meth c cells slots Q pc L (dk_r G a 7 :: st) σ :=
  dk_getR (ci := 3) (k0 := 2) (N := 5) (T := TX3) (Cn := RX3) C dk_sh7 rfl rfl rfl (by decide) dk_ui3 dk_wf_X3_18 hd d hn k
theorem gf_X3_21 {G : dk_G} {p : Program} {l : Launch} {e : Env} {R : Room} {s : State} {m : MethodId} {args : Array Value} {below : List Frame} {meth : Method} {c : Code} {cells slots : Nat} {Q : State → Prop} {cc : ByteArray} {nL : Nat} {pc n : Nat} {L : List (Option Value)} {st : List Value} {σ : dk_S} {a : Nat} (C : dk_C G p R s m args c cells slots cc nL RX3) (hd : (a, 7) ∈ dk_dom G) (d : decode cc pc = .ok (.getfield 21, 3)) (hn : pc + 3 = n) (k : dk_W G p l e R s m args below meth c cells slots Q n L (dk_r G a 11 :: st) σ) : dk_W G p l e R s m args below meth c cells slots Q pc L (dk_r G a 7 :: st) σ :=
  dk_getR (ci := 3) (k0 := 3) (N := 5) (T := TX3) (Cn := RX3) C dk_sh7 rfl rfl rfl (by decide) dk_ui3 dk_wf_X3_21 hd d hn k
theorem gf_X3_24 {G : dk_G} {p : Program} {l : Launch} {e : Env} {R : Room} {s : State} {m : MethodId} {args : Array Value} {below : List Frame} {meth : Method} {c : Code} {cells slots : Nat} {Q : State → Prop} {cc : ByteArray} {nL : Nat} {pc n : Nat} {L : List (Option Value)} {st : List Value} {σ : dk_S} {a : Nat} (C : dk_C G p R s m args c cells slots cc nL RX3) (hd : (a, 7) ∈ dk_dom G) (d : decode cc pc = .ok (.getfield 24, 3)) (hn : pc + 3 = n) (k : dk_W G p l e R s m args below meth c cells slots Q n L (dk_r G a 12 :: st) σ) : dk_W G p l e R s m args below meth c cells slots Q pc L (dk_r G a 7 :: st) σ :=
  dk_getR (ci := 3) (k0 := 4) (N := 5) (T := TX3) (Cn := RX3) C dk_sh7 rfl rfl rfl (by decide) dk_ui3 dk_wf_X3_24 hd d hn k
theorem gf_X4_9 {G : dk_G} {p : Program} {l : Launch} {e : Env} {R : Room} {s : State} {m : MethodId} {args : Array Value} {below : List Frame} {meth : Method} {c : Code} {cells slots : Nat} {Q : State → Prop} {cc : ByteArray} {nL : Nat} {pc n : Nat} {L : List (Option Value)} {st : List Value} {σ : dk_S} {a : Nat} (C : dk_C G p R s m args c cells slots cc nL RX4) (hd : (a, 26) ∈ dk_dom G) (d : decode cc pc = .ok (.getfield 9, 3)) (hn : pc + 3 = n) (k : dk_W G p l e R s m args below meth c cells slots Q n L (dk_r G a 27 :: st) σ) : dk_W G p l e R s m args below meth c cells slots Q pc L (dk_r G a 26 :: st) σ :=
  dk_getR (ci := 4) (k0 := 0) (N := 3) (T := TX4) (Cn := RX4) C dk_sh26 rfl rfl rfl (by decide) dk_ui4 dk_wf_X4_9 hd d hn k
theorem gf_X4_15 {G : dk_G} {p : Program} {l : Launch} {e : Env} {R : Room} {s : State} {m : MethodId} {args : Array Value} {below : List Frame} {meth : Method} {c : Code} {cells slots : Nat} {Q : State → Prop} {cc : ByteArray} {nL : Nat} {pc n : Nat} {L : List (Option Value)} {st : List Value} {σ : dk_S} {a : Nat} (C : dk_C G p R s m args c cells slots cc nL RX4) (hd : (a, 26) ∈ dk_dom G) (d : decode cc pc = .ok (.getfield 15, 3)) (hn : pc + 3 = n) (k : dk_W G p l e R s m args below meth c cells slots Q n L (dk_r G a 28 :: st) σ) : dk_W G p l e R s m args below meth c cells slots Q pc L (dk_r G a 26 :: st) σ :=
  dk_getR (ci := 4) (k0 := 1) (N := 3) (T := TX4) (Cn := RX4) C dk_sh26 rfl rfl rfl (by decide) dk_ui4 dk_wf_X4_15 hd d hn k
theorem gf_X4_18 {G : dk_G} {p : Program} {l : Launch} {e : Env} {R : Room} {s : State} {m : MethodId} {args : Array Value} {below : List Frame} {meth : Method} {c : Code} {cells slots : Nat} {Q : State → Prop} {cc : ByteArray} {nL : Nat} {pc n : Nat} {L : List (Option Value)} {st : List Value} {σ : dk_S} {a : Nat} (C : dk_C G p R s m args c cells slots cc nL RX4) (hd : (a, 26) ∈ dk_dom G) (d : decode cc pc = .ok (.getfield 18, 3)) (hn : pc + 3 = n) (k : dk_W G p l e R s m args below meth c cells slots Q n L (.int (σ a 26 2) :: st) σ) : dk_W G p l e R s m args below meth c cells slots Q pc L (dk_r G a 26 :: st) σ :=
  dk_getI (ci := 4) (k0 := 2) (N := 3) (T := TX4) (Cn := RX4) C dk_sh26 rfl rfl (by decide) dk_ui4 dk_wf_X4_18 hd d hn k
theorem pf_X4_18 {G : dk_G} {p : Program} {l : Launch} {e : Env} {R : Room} {s : State} {m : MethodId} {args : Array Value} {below : List Frame} {meth : Method} {c : Code} {cells slots : Nat} {Q : State → Prop} {cc : ByteArray} {nL : Nat} {pc n : Nat} {L : List (Option Value)} {st : List Value} {σ : dk_S} {a : Nat} {x : Int32} (C : dk_C G p R s m args c cells slots cc nL RX4) (hna : narrow .int (.int x) = .int x) (hfit : fits .int (.int x) = true) (hd : (a, 26) ∈ dk_dom G) (d : decode cc pc = .ok (.putfield 18, 3)) (hn : pc + 3 = n) (k : dk_W G p l e R s m args below meth c cells slots Q n L st (dk_row σ a 26 (upd (σ a 26) 2 x))) : dk_W G p l e R s m args below meth c cells slots Q pc L (.int x :: dk_r G a 26 :: st) σ :=
  dk_put (ci := 4) (k0 := 2) (N := 3) (T := TX4) (Cn := RX4) (ty := .int) C dk_sh26 rfl rfl (by decide) dk_ui4 tyX4 tyX4_ok nmX4 dk_wf_X4_18 (by decide) (by decide) hna hfit hd d hn k
theorem gf_X5_21 {G : dk_G} {p : Program} {l : Launch} {e : Env} {R : Room} {s : State} {m : MethodId} {args : Array Value} {below : List Frame} {meth : Method} {c : Code} {cells slots : Nat} {Q : State → Prop} {cc : ByteArray} {nL : Nat} {pc n : Nat} {L : List (Option Value)} {st : List Value} {σ : dk_S} {a : Nat} (C : dk_C G p R s m args c cells slots cc nL RX5) (hd : (a, 41) ∈ dk_dom G) (d : decode cc pc = .ok (.getfield 21, 3)) (hn : pc + 3 = n) (k : dk_W G p l e R s m args below meth c cells slots Q n L (.int (σ a 41 3) :: st) σ) : dk_W G p l e R s m args below meth c cells slots Q pc L (dk_r G a 41 :: st) σ :=
  dk_getI (ci := 5) (k0 := 3) (N := 4) (T := TX5) (Cn := RX5) C dk_sh41 rfl rfl (by decide) dk_ui5 dk_wf_X5_21 hd d hn k
theorem gf_X5_9 {G : dk_G} {p : Program} {l : Launch} {e : Env} {R : Room} {s : State} {m : MethodId} {args : Array Value} {below : List Frame} {meth : Method} {c : Code} {cells slots : Nat} {Q : State → Prop} {cc : ByteArray} {nL : Nat} {pc n : Nat} {L : List (Option Value)} {st : List Value} {σ : dk_S} {a : Nat} (C : dk_C G p R s m args c cells slots cc nL RX5) (hd : (a, 41) ∈ dk_dom G) (d : decode cc pc = .ok (.getfield 9, 3)) (hn : pc + 3 = n) (k : dk_W G p l e R s m args below meth c cells slots Q n L (dk_r G a 42 :: st) σ) : dk_W G p l e R s m args below meth c cells slots Q pc L (dk_r G a 41 :: st) σ :=
  dk_getR (ci := 5) (k0 := 0) (N := 4) (T := TX5) (Cn := RX5) C dk_sh41 rfl rfl rfl (by decide) dk_ui5 dk_wf_X5_9 hd d hn k
theorem gf_X5_15 {G : dk_G} {p : Program} {l : Launch} {e : Env} {R : Room} {s : State} {m : MethodId} {args : Array Value} {below : List Frame} {meth : Method} {c : Code} {cells slots : Nat} {Q : State → Prop} {cc : ByteArray} {nL : Nat} {pc n : Nat} {L : List (Option Value)} {st : List Value} {σ : dk_S} {a : Nat} (C : dk_C G p R s m args c cells slots cc nL RX5) (hd : (a, 41) ∈ dk_dom G) (d : decode cc pc = .ok (.getfield 15, 3)) (hn : pc + 3 = n) (k : dk_W G p l e R s m args below meth c cells slots Q n L (dk_r G a 43 :: st) σ) : dk_W G p l e R s m args below meth c cells slots Q pc L (dk_r G a 41 :: st) σ :=
  dk_getR (ci := 5) (k0 := 1) (N := 4) (T := TX5) (Cn := RX5) C dk_sh41 rfl rfl rfl (by decide) dk_ui5 dk_wf_X5_15 hd d hn k
theorem gf_X5_18 {G : dk_G} {p : Program} {l : Launch} {e : Env} {R : Room} {s : State} {m : MethodId} {args : Array Value} {below : List Frame} {meth : Method} {c : Code} {cells slots : Nat} {Q : State → Prop} {cc : ByteArray} {nL : Nat} {pc n : Nat} {L : List (Option Value)} {st : List Value} {σ : dk_S} {a : Nat} (C : dk_C G p R s m args c cells slots cc nL RX5) (hd : (a, 41) ∈ dk_dom G) (d : decode cc pc = .ok (.getfield 18, 3)) (hn : pc + 3 = n) (k : dk_W G p l e R s m args below meth c cells slots Q n L (dk_r G a 44 :: st) σ) : dk_W G p l e R s m args below meth c cells slots Q pc L (dk_r G a 41 :: st) σ :=
  dk_getR (ci := 5) (k0 := 2) (N := 4) (T := TX5) (Cn := RX5) C dk_sh41 rfl rfl rfl (by decide) dk_ui5 dk_wf_X5_18 hd d hn k
theorem pf_X5_21 {G : dk_G} {p : Program} {l : Launch} {e : Env} {R : Room} {s : State} {m : MethodId} {args : Array Value} {below : List Frame} {meth : Method} {c : Code} {cells slots : Nat} {Q : State → Prop} {cc : ByteArray} {nL : Nat} {pc n : Nat} {L : List (Option Value)} {st : List Value} {σ : dk_S} {a : Nat} {x : Int32} (C : dk_C G p R s m args c cells slots cc nL RX5) (hna : narrow .int (.int x) = .int x) (hfit : fits .int (.int x) = true) (hd : (a, 41) ∈ dk_dom G) (d : decode cc pc = .ok (.putfield 21, 3)) (hn : pc + 3 = n) (k : dk_W G p l e R s m args below meth c cells slots Q n L st (dk_row σ a 41 (upd (σ a 41) 3 x))) : dk_W G p l e R s m args below meth c cells slots Q pc L (.int x :: dk_r G a 41 :: st) σ :=
  dk_put (ci := 5) (k0 := 3) (N := 4) (T := TX5) (Cn := RX5) (ty := .int) C dk_sh41 rfl rfl (by decide) dk_ui5 tyX5 tyX5_ok nmX5 dk_wf_X5_21 (by decide) (by decide) hna hfit hd d hn k
theorem gf_X6_9 {G : dk_G} {p : Program} {l : Launch} {e : Env} {R : Room} {s : State} {m : MethodId} {args : Array Value} {below : List Frame} {meth : Method} {c : Code} {cells slots : Nat} {Q : State → Prop} {cc : ByteArray} {nL : Nat} {pc n : Nat} {L : List (Option Value)} {st : List Value} {σ : dk_S} {a : Nat} (C : dk_C G p R s m args c cells slots cc nL RX6) (hd : (a, 23) ∈ dk_dom G) (d : decode cc pc = .ok (.getfield 9, 3)) (hn : pc + 3 = n) (k : dk_W G p l e R s m args below meth c cells slots Q n L (dk_r G a 24 :: st) σ) : dk_W G p l e R s m args below meth c cells slots Q pc L (dk_r G a 23 :: st) σ :=
  dk_getR (ci := 6) (k0 := 0) (N := 3) (T := TX6) (Cn := RX6) C dk_sh23 rfl rfl rfl (by decide) dk_ui6 dk_wf_X6_9 hd d hn k
theorem gf_X6_18 {G : dk_G} {p : Program} {l : Launch} {e : Env} {R : Room} {s : State} {m : MethodId} {args : Array Value} {below : List Frame} {meth : Method} {c : Code} {cells slots : Nat} {Q : State → Prop} {cc : ByteArray} {nL : Nat} {pc n : Nat} {L : List (Option Value)} {st : List Value} {σ : dk_S} {a : Nat} (C : dk_C G p R s m args c cells slots cc nL RX6) (hd : (a, 23) ∈ dk_dom G) (d : decode cc pc = .ok (.getfield 18, 3)) (hn : pc + 3 = n) (k : dk_W G p l e R s m args below meth c cells slots Q n L (.int (σ a 23 2) :: st) σ) : dk_W G p l e R s m args below meth c cells slots Q pc L (dk_r G a 23 :: st) σ :=
  dk_getI (ci := 6) (k0 := 2) (N := 3) (T := TX6) (Cn := RX6) C dk_sh23 rfl rfl (by decide) dk_ui6 dk_wf_X6_18 hd d hn k
theorem pf_X6_18 {G : dk_G} {p : Program} {l : Launch} {e : Env} {R : Room} {s : State} {m : MethodId} {args : Array Value} {below : List Frame} {meth : Method} {c : Code} {cells slots : Nat} {Q : State → Prop} {cc : ByteArray} {nL : Nat} {pc n : Nat} {L : List (Option Value)} {st : List Value} {σ : dk_S} {a : Nat} {x : Int32} (C : dk_C G p R s m args c cells slots cc nL RX6) (hna : narrow .int (.int x) = .int x) (hfit : fits .int (.int x) = true) (hd : (a, 23) ∈ dk_dom G) (d : decode cc pc = .ok (.putfield 18, 3)) (hn : pc + 3 = n) (k : dk_W G p l e R s m args below meth c cells slots Q n L st (dk_row σ a 23 (upd (σ a 23) 2 x))) : dk_W G p l e R s m args below meth c cells slots Q pc L (.int x :: dk_r G a 23 :: st) σ :=
  dk_put (ci := 6) (k0 := 2) (N := 3) (T := TX6) (Cn := RX6) (ty := .int) C dk_sh23 rfl rfl (by decide) dk_ui6 tyX6 tyX6_ok nmX6 dk_wf_X6_18 (by decide) (by decide) hna hfit hd d hn k
theorem gf_X6_42 {G : dk_G} {p : Program} {l : Launch} {e : Env} {R : Room} {s : State} {m : MethodId} {args : Array Value} {below : List Frame} {meth : Method} {c : Code} {cells slots : Nat} {Q : State → Prop} {cc : ByteArray} {nL : Nat} {pc n : Nat} {L : List (Option Value)} {st : List Value} {σ : dk_S} {a : Nat} (C : dk_C G p R s m args c cells slots cc nL RX6) (hd : (a, 7) ∈ dk_dom G) (d : decode cc pc = .ok (.getfield 42, 3)) (hn : pc + 3 = n) (k : dk_W G p l e R s m args below meth c cells slots Q n L (dk_r G a 8 :: st) σ) : dk_W G p l e R s m args below meth c cells slots Q pc L (dk_r G a 7 :: st) σ :=
  dk_getR (ci := 3) (k0 := 0) (N := 5) (T := TX3) (Cn := RX3) C dk_sh7 rfl rfl rfl (by decide) dk_ui3 dk_wf_X6_42 hd d hn k
theorem gf_X7_12 {G : dk_G} {p : Program} {l : Launch} {e : Env} {R : Room} {s : State} {m : MethodId} {args : Array Value} {below : List Frame} {meth : Method} {c : Code} {cells slots : Nat} {Q : State → Prop} {cc : ByteArray} {nL : Nat} {pc n : Nat} {L : List (Option Value)} {st : List Value} {σ : dk_S} {a : Nat} (C : dk_C G p R s m args c cells slots cc nL RX7) (hd : (a, 0) ∈ dk_dom G) (d : decode cc pc = .ok (.getfield 12, 3)) (hn : pc + 3 = n) (k : dk_W G p l e R s m args below meth c cells slots Q n L (dk_r G a 1 :: st) σ) : dk_W G p l e R s m args below meth c cells slots Q pc L (dk_r G a 0 :: st) σ :=
  dk_getR (ci := 7) (k0 := 0) (N := 10) (T := TX7) (Cn := RX7) C dk_sh0 rfl rfl rfl (by decide) dk_ui7 dk_wf_X7_12 hd d hn k
theorem gf_X7_21 {G : dk_G} {p : Program} {l : Launch} {e : Env} {R : Room} {s : State} {m : MethodId} {args : Array Value} {below : List Frame} {meth : Method} {c : Code} {cells slots : Nat} {Q : State → Prop} {cc : ByteArray} {nL : Nat} {pc n : Nat} {L : List (Option Value)} {st : List Value} {σ : dk_S} {a : Nat} (C : dk_C G p R s m args c cells slots cc nL RX7) (hd : (a, 0) ∈ dk_dom G) (d : decode cc pc = .ok (.getfield 21, 3)) (hn : pc + 3 = n) (k : dk_W G p l e R s m args below meth c cells slots Q n L (dk_r G a 7 :: st) σ) : dk_W G p l e R s m args below meth c cells slots Q pc L (dk_r G a 0 :: st) σ :=
  dk_getR (ci := 7) (k0 := 1) (N := 10) (T := TX7) (Cn := RX7) C dk_sh0 rfl rfl rfl (by decide) dk_ui7 dk_wf_X7_21 hd d hn k
theorem gf_X7_35 {G : dk_G} {p : Program} {l : Launch} {e : Env} {R : Room} {s : State} {m : MethodId} {args : Array Value} {below : List Frame} {meth : Method} {c : Code} {cells slots : Nat} {Q : State → Prop} {cc : ByteArray} {nL : Nat} {pc n : Nat} {L : List (Option Value)} {st : List Value} {σ : dk_S} {a : Nat} (C : dk_C G p R s m args c cells slots cc nL RX7) (hd : (a, 0) ∈ dk_dom G) (d : decode cc pc = .ok (.getfield 35, 3)) (hn : pc + 3 = n) (k : dk_W G p l e R s m args below meth c cells slots Q n L (dk_r G a 23 :: st) σ) : dk_W G p l e R s m args below meth c cells slots Q pc L (dk_r G a 0 :: st) σ :=
  dk_getR (ci := 7) (k0 := 3) (N := 10) (T := TX7) (Cn := RX7) C dk_sh0 rfl rfl rfl (by decide) dk_ui7 dk_wf_X7_35 hd d hn k
theorem gf_X7_42 {G : dk_G} {p : Program} {l : Launch} {e : Env} {R : Room} {s : State} {m : MethodId} {args : Array Value} {below : List Frame} {meth : Method} {c : Code} {cells slots : Nat} {Q : State → Prop} {cc : ByteArray} {nL : Nat} {pc n : Nat} {L : List (Option Value)} {st : List Value} {σ : dk_S} {a : Nat} (C : dk_C G p R s m args c cells slots cc nL RX7) (hd : (a, 0) ∈ dk_dom G) (d : decode cc pc = .ok (.getfield 42, 3)) (hn : pc + 3 = n) (k : dk_W G p l e R s m args below meth c cells slots Q n L (dk_r G a 26 :: st) σ) : dk_W G p l e R s m args below meth c cells slots Q pc L (dk_r G a 0 :: st) σ :=
  dk_getR (ci := 7) (k0 := 4) (N := 10) (T := TX7) (Cn := RX7) C dk_sh0 rfl rfl rfl (by decide) dk_ui7 dk_wf_X7_42 hd d hn k
theorem pf_X7_46 {G : dk_G} {p : Program} {l : Launch} {e : Env} {R : Room} {s : State} {m : MethodId} {args : Array Value} {below : List Frame} {meth : Method} {c : Code} {cells slots : Nat} {Q : State → Prop} {cc : ByteArray} {nL : Nat} {pc n : Nat} {L : List (Option Value)} {st : List Value} {σ : dk_S} {a : Nat} {x : Int32} (C : dk_C G p R s m args c cells slots cc nL RX7) (hna : narrow .int (.int x) = .int x) (hfit : fits .int (.int x) = true) (hd : (a, 0) ∈ dk_dom G) (d : decode cc pc = .ok (.putfield 46, 3)) (hn : pc + 3 = n) (k : dk_W G p l e R s m args below meth c cells slots Q n L st (dk_row σ a 0 (upd (σ a 0) 5 x))) : dk_W G p l e R s m args below meth c cells slots Q pc L (.int x :: dk_r G a 0 :: st) σ :=
  dk_put (ci := 7) (k0 := 5) (N := 10) (T := TX7) (Cn := RX7) (ty := .int) C dk_sh0 rfl rfl (by decide) dk_ui7 tyX7 tyX7_ok nmX7 dk_wf_X7_46 (by decide) (by decide) hna hfit hd d hn k
theorem pf_X7_53 {G : dk_G} {p : Program} {l : Launch} {e : Env} {R : Room} {s : State} {m : MethodId} {args : Array Value} {below : List Frame} {meth : Method} {c : Code} {cells slots : Nat} {Q : State → Prop} {cc : ByteArray} {nL : Nat} {pc n : Nat} {L : List (Option Value)} {st : List Value} {σ : dk_S} {a : Nat} {x : Int32} (C : dk_C G p R s m args c cells slots cc nL RX7) (hna : narrow .int (.int x) = .int x) (hfit : fits .int (.int x) = true) (hd : (a, 0) ∈ dk_dom G) (d : decode cc pc = .ok (.putfield 53, 3)) (hn : pc + 3 = n) (k : dk_W G p l e R s m args below meth c cells slots Q n L st (dk_row σ a 0 (upd (σ a 0) 7 x))) : dk_W G p l e R s m args below meth c cells slots Q pc L (.int x :: dk_r G a 0 :: st) σ :=
  dk_put (ci := 7) (k0 := 7) (N := 10) (T := TX7) (Cn := RX7) (ty := .int) C dk_sh0 rfl rfl (by decide) dk_ui7 tyX7 tyX7_ok nmX7 dk_wf_X7_53 (by decide) (by decide) hna hfit hd d hn k
theorem pf_X7_56 {G : dk_G} {p : Program} {l : Launch} {e : Env} {R : Room} {s : State} {m : MethodId} {args : Array Value} {below : List Frame} {meth : Method} {c : Code} {cells slots : Nat} {Q : State → Prop} {cc : ByteArray} {nL : Nat} {pc n : Nat} {L : List (Option Value)} {st : List Value} {σ : dk_S} {a : Nat} {x : Int32} (C : dk_C G p R s m args c cells slots cc nL RX7) (hna : narrow .int (.int x) = .int x) (hfit : fits .int (.int x) = true) (hd : (a, 0) ∈ dk_dom G) (d : decode cc pc = .ok (.putfield 56, 3)) (hn : pc + 3 = n) (k : dk_W G p l e R s m args below meth c cells slots Q n L st (dk_row σ a 0 (upd (σ a 0) 8 x))) : dk_W G p l e R s m args below meth c cells slots Q pc L (.int x :: dk_r G a 0 :: st) σ :=
  dk_put (ci := 7) (k0 := 8) (N := 10) (T := TX7) (Cn := RX7) (ty := .int) C dk_sh0 rfl rfl (by decide) dk_ui7 tyX7 tyX7_ok nmX7 dk_wf_X7_56 (by decide) (by decide) hna hfit hd d hn k
theorem pf_X7_59 {G : dk_G} {p : Program} {l : Launch} {e : Env} {R : Room} {s : State} {m : MethodId} {args : Array Value} {below : List Frame} {meth : Method} {c : Code} {cells slots : Nat} {Q : State → Prop} {cc : ByteArray} {nL : Nat} {pc n : Nat} {L : List (Option Value)} {st : List Value} {σ : dk_S} {a : Nat} {x : Int32} (C : dk_C G p R s m args c cells slots cc nL RX7) (hna : narrow .int (.int x) = .int x) (hfit : fits .int (.int x) = true) (hd : (a, 0) ∈ dk_dom G) (d : decode cc pc = .ok (.putfield 59, 3)) (hn : pc + 3 = n) (k : dk_W G p l e R s m args below meth c cells slots Q n L st (dk_row σ a 0 (upd (σ a 0) 9 x))) : dk_W G p l e R s m args below meth c cells slots Q pc L (.int x :: dk_r G a 0 :: st) σ :=
  dk_put (ci := 7) (k0 := 9) (N := 10) (T := TX7) (Cn := RX7) (ty := .int) C dk_sh0 rfl rfl (by decide) dk_ui7 tyX7 tyX7_ok nmX7 dk_wf_X7_59 (by decide) (by decide) hna hfit hd d hn k
theorem gf_X7_86 {G : dk_G} {p : Program} {l : Launch} {e : Env} {R : Room} {s : State} {m : MethodId} {args : Array Value} {below : List Frame} {meth : Method} {c : Code} {cells slots : Nat} {Q : State → Prop} {cc : ByteArray} {nL : Nat} {pc n : Nat} {L : List (Option Value)} {st : List Value} {σ : dk_S} {a : Nat} (C : dk_C G p R s m args c cells slots cc nL RX7) (hd : (a, 13) ∈ dk_dom G) (d : decode cc pc = .ok (.getfield 86, 3)) (hn : pc + 3 = n) (k : dk_W G p l e R s m args below meth c cells slots Q n L (.int (σ a 13 9) :: st) σ) : dk_W G p l e R s m args below meth c cells slots Q pc L (dk_r G a 13 :: st) σ :=
  dk_getI (ci := 2) (k0 := 9) (N := 10) (T := TX2) (Cn := RX2) C dk_sh13 rfl rfl (by decide) dk_ui2 dk_wf_X7_86 hd d hn k
theorem gf_X7_46 {G : dk_G} {p : Program} {l : Launch} {e : Env} {R : Room} {s : State} {m : MethodId} {args : Array Value} {below : List Frame} {meth : Method} {c : Code} {cells slots : Nat} {Q : State → Prop} {cc : ByteArray} {nL : Nat} {pc n : Nat} {L : List (Option Value)} {st : List Value} {σ : dk_S} {a : Nat} (C : dk_C G p R s m args c cells slots cc nL RX7) (hd : (a, 0) ∈ dk_dom G) (d : decode cc pc = .ok (.getfield 46, 3)) (hn : pc + 3 = n) (k : dk_W G p l e R s m args below meth c cells slots Q n L (.int (σ a 0 5) :: st) σ) : dk_W G p l e R s m args below meth c cells slots Q pc L (dk_r G a 0 :: st) σ :=
  dk_getI (ci := 7) (k0 := 5) (N := 10) (T := TX7) (Cn := RX7) C dk_sh0 rfl rfl (by decide) dk_ui7 dk_wf_X7_46 hd d hn k
theorem gf_X7_53 {G : dk_G} {p : Program} {l : Launch} {e : Env} {R : Room} {s : State} {m : MethodId} {args : Array Value} {below : List Frame} {meth : Method} {c : Code} {cells slots : Nat} {Q : State → Prop} {cc : ByteArray} {nL : Nat} {pc n : Nat} {L : List (Option Value)} {st : List Value} {σ : dk_S} {a : Nat} (C : dk_C G p R s m args c cells slots cc nL RX7) (hd : (a, 0) ∈ dk_dom G) (d : decode cc pc = .ok (.getfield 53, 3)) (hn : pc + 3 = n) (k : dk_W G p l e R s m args below meth c cells slots Q n L (.int (σ a 0 7) :: st) σ) : dk_W G p l e R s m args below meth c cells slots Q pc L (dk_r G a 0 :: st) σ :=
  dk_getI (ci := 7) (k0 := 7) (N := 10) (T := TX7) (Cn := RX7) C dk_sh0 rfl rfl (by decide) dk_ui7 dk_wf_X7_53 hd d hn k
theorem gf_X7_115 {G : dk_G} {p : Program} {l : Launch} {e : Env} {R : Room} {s : State} {m : MethodId} {args : Array Value} {below : List Frame} {meth : Method} {c : Code} {cells slots : Nat} {Q : State → Prop} {cc : ByteArray} {nL : Nat} {pc n : Nat} {L : List (Option Value)} {st : List Value} {σ : dk_S} {a : Nat} (C : dk_C G p R s m args c cells slots cc nL RX7) (hd : (a, 1) ∈ dk_dom G) (d : decode cc pc = .ok (.getfield 115, 3)) (hn : pc + 3 = n) (k : dk_W G p l e R s m args below meth c cells slots Q n L (dk_r G a 5 :: st) σ) : dk_W G p l e R s m args below meth c cells slots Q pc L (dk_r G a 1 :: st) σ :=
  dk_getR (ci := 1) (k0 := 3) (N := 6) (T := TX1) (Cn := RX1) C dk_sh1 rfl rfl rfl (by decide) dk_ui1 dk_wf_X7_115 hd d hn k
theorem gf_X7_271 {G : dk_G} {p : Program} {l : Launch} {e : Env} {R : Room} {s : State} {m : MethodId} {args : Array Value} {below : List Frame} {meth : Method} {c : Code} {cells slots : Nat} {Q : State → Prop} {cc : ByteArray} {nL : Nat} {pc n : Nat} {L : List (Option Value)} {st : List Value} {σ : dk_S} {a : Nat} (C : dk_C G p R s m args c cells slots cc nL RX7) (hd : (a, 13) ∈ dk_dom G) (d : decode cc pc = .ok (.getfield 271, 3)) (hn : pc + 3 = n) (k : dk_W G p l e R s m args below meth c cells slots Q n L (dk_r G a 22 :: st) σ) : dk_W G p l e R s m args below meth c cells slots Q pc L (dk_r G a 13 :: st) σ :=
  dk_getR (ci := 2) (k0 := 8) (N := 10) (T := TX2) (Cn := RX2) C dk_sh13 rfl rfl rfl (by decide) dk_ui2 dk_wf_X7_271 hd d hn k
theorem gf_X7_141 {G : dk_G} {p : Program} {l : Launch} {e : Env} {R : Room} {s : State} {m : MethodId} {args : Array Value} {below : List Frame} {meth : Method} {c : Code} {cells slots : Nat} {Q : State → Prop} {cc : ByteArray} {nL : Nat} {pc n : Nat} {L : List (Option Value)} {st : List Value} {σ : dk_S} {a : Nat} (C : dk_C G p R s m args c cells slots cc nL RX7) (hd : (a, 23) ∈ dk_dom G) (d : decode cc pc = .ok (.getfield 141, 3)) (hn : pc + 3 = n) (k : dk_W G p l e R s m args below meth c cells slots Q n L (dk_r G a 25 :: st) σ) : dk_W G p l e R s m args below meth c cells slots Q pc L (dk_r G a 23 :: st) σ :=
  dk_getR (ci := 6) (k0 := 1) (N := 3) (T := TX6) (Cn := RX6) C dk_sh23 rfl rfl rfl (by decide) dk_ui6 dk_wf_X7_141 hd d hn k
theorem gf_X7_59 {G : dk_G} {p : Program} {l : Launch} {e : Env} {R : Room} {s : State} {m : MethodId} {args : Array Value} {below : List Frame} {meth : Method} {c : Code} {cells slots : Nat} {Q : State → Prop} {cc : ByteArray} {nL : Nat} {pc n : Nat} {L : List (Option Value)} {st : List Value} {σ : dk_S} {a : Nat} (C : dk_C G p R s m args c cells slots cc nL RX7) (hd : (a, 0) ∈ dk_dom G) (d : decode cc pc = .ok (.getfield 59, 3)) (hn : pc + 3 = n) (k : dk_W G p l e R s m args below meth c cells slots Q n L (.int (σ a 0 9) :: st) σ) : dk_W G p l e R s m args below meth c cells slots Q pc L (dk_r G a 0 :: st) σ :=
  dk_getI (ci := 7) (k0 := 9) (N := 10) (T := TX7) (Cn := RX7) C dk_sh0 rfl rfl (by decide) dk_ui7 dk_wf_X7_59 hd d hn k
theorem gf_X7_210 {G : dk_G} {p : Program} {l : Launch} {e : Env} {R : Room} {s : State} {m : MethodId} {args : Array Value} {below : List Frame} {meth : Method} {c : Code} {cells slots : Nat} {Q : State → Prop} {cc : ByteArray} {nL : Nat} {pc n : Nat} {L : List (Option Value)} {st : List Value} {σ : dk_S} {a : Nat} (C : dk_C G p R s m args c cells slots cc nL RX7) (hd : (a, 23) ∈ dk_dom G) (d : decode cc pc = .ok (.getfield 210, 3)) (hn : pc + 3 = n) (k : dk_W G p l e R s m args below meth c cells slots Q n L (dk_r G a 24 :: st) σ) : dk_W G p l e R s m args below meth c cells slots Q pc L (dk_r G a 23 :: st) σ :=
  dk_getR (ci := 6) (k0 := 0) (N := 3) (T := TX6) (Cn := RX6) C dk_sh23 rfl rfl rfl (by decide) dk_ui6 dk_wf_X7_210 hd d hn k
theorem gf_X7_232 {G : dk_G} {p : Program} {l : Launch} {e : Env} {R : Room} {s : State} {m : MethodId} {args : Array Value} {below : List Frame} {meth : Method} {c : Code} {cells slots : Nat} {Q : State → Prop} {cc : ByteArray} {nL : Nat} {pc n : Nat} {L : List (Option Value)} {st : List Value} {σ : dk_S} {a : Nat} (C : dk_C G p R s m args c cells slots cc nL RX7) (hd : (a, 7) ∈ dk_dom G) (d : decode cc pc = .ok (.getfield 232, 3)) (hn : pc + 3 = n) (k : dk_W G p l e R s m args below meth c cells slots Q n L (dk_r G a 11 :: st) σ) : dk_W G p l e R s m args below meth c cells slots Q pc L (dk_r G a 7 :: st) σ :=
  dk_getR (ci := 3) (k0 := 3) (N := 5) (T := TX3) (Cn := RX3) C dk_sh7 rfl rfl rfl (by decide) dk_ui3 dk_wf_X7_232 hd d hn k
theorem gf_X7_235 {G : dk_G} {p : Program} {l : Launch} {e : Env} {R : Room} {s : State} {m : MethodId} {args : Array Value} {below : List Frame} {meth : Method} {c : Code} {cells slots : Nat} {Q : State → Prop} {cc : ByteArray} {nL : Nat} {pc n : Nat} {L : List (Option Value)} {st : List Value} {σ : dk_S} {a : Nat} (C : dk_C G p R s m args c cells slots cc nL RX7) (hd : (a, 7) ∈ dk_dom G) (d : decode cc pc = .ok (.getfield 235, 3)) (hn : pc + 3 = n) (k : dk_W G p l e R s m args below meth c cells slots Q n L (dk_r G a 10 :: st) σ) : dk_W G p l e R s m args below meth c cells slots Q pc L (dk_r G a 7 :: st) σ :=
  dk_getR (ci := 3) (k0 := 2) (N := 5) (T := TX3) (Cn := RX3) C dk_sh7 rfl rfl rfl (by decide) dk_ui3 dk_wf_X7_235 hd d hn k
theorem gf_X7_56 {G : dk_G} {p : Program} {l : Launch} {e : Env} {R : Room} {s : State} {m : MethodId} {args : Array Value} {below : List Frame} {meth : Method} {c : Code} {cells slots : Nat} {Q : State → Prop} {cc : ByteArray} {nL : Nat} {pc n : Nat} {L : List (Option Value)} {st : List Value} {σ : dk_S} {a : Nat} (C : dk_C G p R s m args c cells slots cc nL RX7) (hd : (a, 0) ∈ dk_dom G) (d : decode cc pc = .ok (.getfield 56, 3)) (hn : pc + 3 = n) (k : dk_W G p l e R s m args below meth c cells slots Q n L (.int (σ a 0 8) :: st) σ) : dk_W G p l e R s m args below meth c cells slots Q pc L (dk_r G a 0 :: st) σ :=
  dk_getI (ci := 7) (k0 := 8) (N := 10) (T := TX7) (Cn := RX7) C dk_sh0 rfl rfl (by decide) dk_ui7 dk_wf_X7_56 hd d hn k
theorem gf_X7_247 {G : dk_G} {p : Program} {l : Launch} {e : Env} {R : Room} {s : State} {m : MethodId} {args : Array Value} {below : List Frame} {meth : Method} {c : Code} {cells slots : Nat} {Q : State → Prop} {cc : ByteArray} {nL : Nat} {pc n : Nat} {L : List (Option Value)} {st : List Value} {σ : dk_S} {a : Nat} (C : dk_C G p R s m args c cells slots cc nL RX7) (hd : (a, 23) ∈ dk_dom G) (d : decode cc pc = .ok (.getfield 247, 3)) (hn : pc + 3 = n) (k : dk_W G p l e R s m args below meth c cells slots Q n L (.int (σ a 23 2) :: st) σ) : dk_W G p l e R s m args below meth c cells slots Q pc L (dk_r G a 23 :: st) σ :=
  dk_getI (ci := 6) (k0 := 2) (N := 3) (T := TX6) (Cn := RX6) C dk_sh23 rfl rfl (by decide) dk_ui6 dk_wf_X7_247 hd d hn k
theorem gf_X7_223 {G : dk_G} {p : Program} {l : Launch} {e : Env} {R : Room} {s : State} {m : MethodId} {args : Array Value} {below : List Frame} {meth : Method} {c : Code} {cells slots : Nat} {Q : State → Prop} {cc : ByteArray} {nL : Nat} {pc n : Nat} {L : List (Option Value)} {st : List Value} {σ : dk_S} {a : Nat} (C : dk_C G p R s m args c cells slots cc nL RX7) (hd : (a, 13) ∈ dk_dom G) (d : decode cc pc = .ok (.getfield 223, 3)) (hn : pc + 3 = n) (k : dk_W G p l e R s m args below meth c cells slots Q n L (dk_r G a 18 :: st) σ) : dk_W G p l e R s m args below meth c cells slots Q pc L (dk_r G a 13 :: st) σ :=
  dk_getR (ci := 2) (k0 := 4) (N := 10) (T := TX2) (Cn := RX2) C dk_sh13 rfl rfl rfl (by decide) dk_ui2 dk_wf_X7_223 hd d hn k
theorem gf_X7_229 {G : dk_G} {p : Program} {l : Launch} {e : Env} {R : Room} {s : State} {m : MethodId} {args : Array Value} {below : List Frame} {meth : Method} {c : Code} {cells slots : Nat} {Q : State → Prop} {cc : ByteArray} {nL : Nat} {pc n : Nat} {L : List (Option Value)} {st : List Value} {σ : dk_S} {a : Nat} (C : dk_C G p R s m args c cells slots cc nL RX7) (hd : (a, 7) ∈ dk_dom G) (d : decode cc pc = .ok (.getfield 229, 3)) (hn : pc + 3 = n) (k : dk_W G p l e R s m args below meth c cells slots Q n L (dk_r G a 12 :: st) σ) : dk_W G p l e R s m args below meth c cells slots Q pc L (dk_r G a 7 :: st) σ :=
  dk_getR (ci := 3) (k0 := 4) (N := 5) (T := TX3) (Cn := RX3) C dk_sh7 rfl rfl rfl (by decide) dk_ui3 dk_wf_X7_229 hd d hn k
theorem gf_X7_254 {G : dk_G} {p : Program} {l : Launch} {e : Env} {R : Room} {s : State} {m : MethodId} {args : Array Value} {below : List Frame} {meth : Method} {c : Code} {cells slots : Nat} {Q : State → Prop} {cc : ByteArray} {nL : Nat} {pc n : Nat} {L : List (Option Value)} {st : List Value} {σ : dk_S} {a : Nat} (C : dk_C G p R s m args c cells slots cc nL RX7) (hd : (a, 13) ∈ dk_dom G) (d : decode cc pc = .ok (.getfield 254, 3)) (hn : pc + 3 = n) (k : dk_W G p l e R s m args below meth c cells slots Q n L (dk_r G a 17 :: st) σ) : dk_W G p l e R s m args below meth c cells slots Q pc L (dk_r G a 13 :: st) σ :=
  dk_getR (ci := 2) (k0 := 3) (N := 10) (T := TX2) (Cn := RX2) C dk_sh13 rfl rfl rfl (by decide) dk_ui2 dk_wf_X7_254 hd d hn k
theorem gf_X7_290 {G : dk_G} {p : Program} {l : Launch} {e : Env} {R : Room} {s : State} {m : MethodId} {args : Array Value} {below : List Frame} {meth : Method} {c : Code} {cells slots : Nat} {Q : State → Prop} {cc : ByteArray} {nL : Nat} {pc n : Nat} {L : List (Option Value)} {st : List Value} {σ : dk_S} {a : Nat} (C : dk_C G p R s m args c cells slots cc nL RX7) (hd : (a, 1) ∈ dk_dom G) (d : decode cc pc = .ok (.getfield 290, 3)) (hn : pc + 3 = n) (k : dk_W G p l e R s m args below meth c cells slots Q n L (dk_r G a 6 :: st) σ) : dk_W G p l e R s m args below meth c cells slots Q pc L (dk_r G a 1 :: st) σ :=
  dk_getR (ci := 1) (k0 := 4) (N := 6) (T := TX1) (Cn := RX1) C dk_sh1 rfl rfl rfl (by decide) dk_ui1 dk_wf_X7_290 hd d hn k
theorem gf_X7_283 {G : dk_G} {p : Program} {l : Launch} {e : Env} {R : Room} {s : State} {m : MethodId} {args : Array Value} {below : List Frame} {meth : Method} {c : Code} {cells slots : Nat} {Q : State → Prop} {cc : ByteArray} {nL : Nat} {pc n : Nat} {L : List (Option Value)} {st : List Value} {σ : dk_S} {a : Nat} (C : dk_C G p R s m args c cells slots cc nL RX7) (hd : (a, 13) ∈ dk_dom G) (d : decode cc pc = .ok (.getfield 283, 3)) (hn : pc + 3 = n) (k : dk_W G p l e R s m args below meth c cells slots Q n L (dk_r G a 16 :: st) σ) : dk_W G p l e R s m args below meth c cells slots Q pc L (dk_r G a 13 :: st) σ :=
  dk_getR (ci := 2) (k0 := 2) (N := 10) (T := TX2) (Cn := RX2) C dk_sh13 rfl rfl rfl (by decide) dk_ui2 dk_wf_X7_283 hd d hn k
theorem gf_X8_36 {G : dk_G} {p : Program} {l : Launch} {e : Env} {R : Room} {s : State} {m : MethodId} {args : Array Value} {below : List Frame} {meth : Method} {c : Code} {cells slots : Nat} {Q : State → Prop} {cc : ByteArray} {nL : Nat} {pc n : Nat} {L : List (Option Value)} {st : List Value} {σ : dk_S} {a : Nat} (C : dk_C G p R s m args c cells slots cc nL RX8) (hd : (a, 40) ∈ dk_dom G) (d : decode cc pc = .ok (.getfield 36, 3)) (hn : pc + 3 = n) (k : dk_W G p l e R s m args below meth c cells slots Q n L (.int (σ a 40 5) :: st) σ) : dk_W G p l e R s m args below meth c cells slots Q pc L (dk_r G a 40 :: st) σ :=
  dk_getI (ci := 8) (k0 := 5) (N := 7) (T := TX8) (Cn := RX8) C dk_sh40 rfl rfl (by decide) dk_ui8 dk_wf_X8_36 hd d hn k
theorem gf_X8_175 {G : dk_G} {p : Program} {l : Launch} {e : Env} {R : Room} {s : State} {m : MethodId} {args : Array Value} {below : List Frame} {meth : Method} {c : Code} {cells slots : Nat} {Q : State → Prop} {cc : ByteArray} {nL : Nat} {pc n : Nat} {L : List (Option Value)} {st : List Value} {σ : dk_S} {a : Nat} (C : dk_C G p R s m args c cells slots cc nL RX8) (hd : (a, 0) ∈ dk_dom G) (d : decode cc pc = .ok (.getfield 175, 3)) (hn : pc + 3 = n) (k : dk_W G p l e R s m args below meth c cells slots Q n L (.int (σ a 0 5) :: st) σ) : dk_W G p l e R s m args below meth c cells slots Q pc L (dk_r G a 0 :: st) σ :=
  dk_getI (ci := 7) (k0 := 5) (N := 10) (T := TX7) (Cn := RX7) C dk_sh0 rfl rfl (by decide) dk_ui7 dk_wf_X8_175 hd d hn k
theorem gf_X8_12 {G : dk_G} {p : Program} {l : Launch} {e : Env} {R : Room} {s : State} {m : MethodId} {args : Array Value} {below : List Frame} {meth : Method} {c : Code} {cells slots : Nat} {Q : State → Prop} {cc : ByteArray} {nL : Nat} {pc n : Nat} {L : List (Option Value)} {st : List Value} {σ : dk_S} {a : Nat} (C : dk_C G p R s m args c cells slots cc nL RX8) (hd : (a, 40) ∈ dk_dom G) (d : decode cc pc = .ok (.getfield 12, 3)) (hn : pc + 3 = n) (k : dk_W G p l e R s m args below meth c cells slots Q n L (dk_r G 1 0 :: st) σ) : dk_W G p l e R s m args below meth c cells slots Q pc L (dk_r G a 40 :: st) σ :=
  dk_getR (ci := 8) (k0 := 0) (N := 7) (T := TX8) (Cn := RX8) C dk_sh40 rfl rfl rfl (by decide) dk_ui8 dk_wf_X8_12 hd d hn k
theorem pf_X8_273 {G : dk_G} {p : Program} {l : Launch} {e : Env} {R : Room} {s : State} {m : MethodId} {args : Array Value} {below : List Frame} {meth : Method} {c : Code} {cells slots : Nat} {Q : State → Prop} {cc : ByteArray} {nL : Nat} {pc n : Nat} {L : List (Option Value)} {st : List Value} {σ : dk_S} {a : Nat} {x : Int32} (C : dk_C G p R s m args c cells slots cc nL RX8) (hna : narrow .int (.int x) = .int x) (hfit : fits .int (.int x) = true) (hd : (a, 0) ∈ dk_dom G) (d : decode cc pc = .ok (.putfield 273, 3)) (hn : pc + 3 = n) (k : dk_W G p l e R s m args below meth c cells slots Q n L st (dk_row σ a 0 (upd (σ a 0) 6 x))) : dk_W G p l e R s m args below meth c cells slots Q pc L (.int x :: dk_r G a 0 :: st) σ :=
  dk_put (ci := 7) (k0 := 6) (N := 10) (T := TX7) (Cn := RX7) (ty := .int) C dk_sh0 rfl rfl (by decide) dk_ui7 tyX7 tyX7_ok nmX7 dk_wf_X8_273 (by decide) (by decide) hna hfit hd d hn k
theorem gf_X8_32 {G : dk_G} {p : Program} {l : Launch} {e : Env} {R : Room} {s : State} {m : MethodId} {args : Array Value} {below : List Frame} {meth : Method} {c : Code} {cells slots : Nat} {Q : State → Prop} {cc : ByteArray} {nL : Nat} {pc n : Nat} {L : List (Option Value)} {st : List Value} {σ : dk_S} {a : Nat} (C : dk_C G p R s m args c cells slots cc nL RX8) (hd : (a, 40) ∈ dk_dom G) (d : decode cc pc = .ok (.getfield 32, 3)) (hn : pc + 3 = n) (k : dk_W G p l e R s m args below meth c cells slots Q n L (dk_r G 0 45 :: st) σ) : dk_W G p l e R s m args below meth c cells slots Q pc L (dk_r G a 40 :: st) σ :=
  dk_getR (ci := 8) (k0 := 4) (N := 7) (T := TX8) (Cn := RX8) C dk_sh40 rfl rfl rfl (by decide) dk_ui8 dk_wf_X8_32 hd d hn k
theorem gf_X8_16 {G : dk_G} {p : Program} {l : Launch} {e : Env} {R : Room} {s : State} {m : MethodId} {args : Array Value} {below : List Frame} {meth : Method} {c : Code} {cells slots : Nat} {Q : State → Prop} {cc : ByteArray} {nL : Nat} {pc n : Nat} {L : List (Option Value)} {st : List Value} {σ : dk_S} {a : Nat} (C : dk_C G p R s m args c cells slots cc nL RX8) (hd : (a, 40) ∈ dk_dom G) (d : decode cc pc = .ok (.getfield 16, 3)) (hn : pc + 3 = n) (k : dk_W G p l e R s m args below meth c cells slots Q n L (dk_r G 2 0 :: st) σ) : dk_W G p l e R s m args below meth c cells slots Q pc L (dk_r G a 40 :: st) σ :=
  dk_getR (ci := 8) (k0 := 1) (N := 7) (T := TX8) (Cn := RX8) C dk_sh40 rfl rfl rfl (by decide) dk_ui8 dk_wf_X8_16 hd d hn k
theorem gf_X8_111 {G : dk_G} {p : Program} {l : Launch} {e : Env} {R : Room} {s : State} {m : MethodId} {args : Array Value} {below : List Frame} {meth : Method} {c : Code} {cells slots : Nat} {Q : State → Prop} {cc : ByteArray} {nL : Nat} {pc n : Nat} {L : List (Option Value)} {st : List Value} {σ : dk_S} {a : Nat} (C : dk_C G p R s m args c cells slots cc nL RX8) (hd : (a, 0) ∈ dk_dom G) (d : decode cc pc = .ok (.getfield 111, 3)) (hn : pc + 3 = n) (k : dk_W G p l e R s m args below meth c cells slots Q n L (dk_r G a 13 :: st) σ) : dk_W G p l e R s m args below meth c cells slots Q pc L (dk_r G a 0 :: st) σ :=
  dk_getR (ci := 7) (k0 := 2) (N := 10) (T := TX7) (Cn := RX7) C dk_sh0 rfl rfl rfl (by decide) dk_ui7 dk_wf_X8_111 hd d hn k
theorem pf_X8_36 {G : dk_G} {p : Program} {l : Launch} {e : Env} {R : Room} {s : State} {m : MethodId} {args : Array Value} {below : List Frame} {meth : Method} {c : Code} {cells slots : Nat} {Q : State → Prop} {cc : ByteArray} {nL : Nat} {pc n : Nat} {L : List (Option Value)} {st : List Value} {σ : dk_S} {a : Nat} {x : Int32} (C : dk_C G p R s m args c cells slots cc nL RX8) (hna : narrow .char (.int x) = .int x) (hfit : fits .char (.int x) = true) (hd : (a, 40) ∈ dk_dom G) (d : decode cc pc = .ok (.putfield 36, 3)) (hn : pc + 3 = n) (k : dk_W G p l e R s m args below meth c cells slots Q n L st (dk_row σ a 40 (upd (σ a 40) 5 x))) : dk_W G p l e R s m args below meth c cells slots Q pc L (.int x :: dk_r G a 40 :: st) σ :=
  dk_put (ci := 8) (k0 := 5) (N := 7) (T := TX8) (Cn := RX8) (ty := .char) C dk_sh40 rfl rfl (by decide) dk_ui8 tyX8 tyX8_ok nmX8 dk_wf_X8_36 (by decide) (by decide) hna hfit hd d hn k
theorem gf_X8_25 {G : dk_G} {p : Program} {l : Launch} {e : Env} {R : Room} {s : State} {m : MethodId} {args : Array Value} {below : List Frame} {meth : Method} {c : Code} {cells slots : Nat} {Q : State → Prop} {cc : ByteArray} {nL : Nat} {pc n : Nat} {L : List (Option Value)} {st : List Value} {σ : dk_S} {a : Nat} (C : dk_C G p R s m args c cells slots cc nL RX8) (hd : (a, 40) ∈ dk_dom G) (d : decode cc pc = .ok (.getfield 25, 3)) (hn : pc + 3 = n) (k : dk_W G p l e R s m args below meth c cells slots Q n L (dk_r G 0 41 :: st) σ) : dk_W G p l e R s m args below meth c cells slots Q pc L (dk_r G a 40 :: st) σ :=
  dk_getR (ci := 8) (k0 := 3) (N := 7) (T := TX8) (Cn := RX8) C dk_sh40 rfl rfl rfl (by decide) dk_ui8 dk_wf_X8_25 hd d hn k
theorem gf_X8_19 {G : dk_G} {p : Program} {l : Launch} {e : Env} {R : Room} {s : State} {m : MethodId} {args : Array Value} {below : List Frame} {meth : Method} {c : Code} {cells slots : Nat} {Q : State → Prop} {cc : ByteArray} {nL : Nat} {pc n : Nat} {L : List (Option Value)} {st : List Value} {σ : dk_S} {a : Nat} (C : dk_C G p R s m args c cells slots cc nL RX8) (hd : (a, 40) ∈ dk_dom G) (d : decode cc pc = .ok (.getfield 19, 3)) (hn : pc + 3 = n) (k : dk_W G p l e R s m args below meth c cells slots Q n L (dk_r G 3 0 :: st) σ) : dk_W G p l e R s m args below meth c cells slots Q pc L (dk_r G a 40 :: st) σ :=
  dk_getR (ci := 8) (k0 := 2) (N := 7) (T := TX8) (Cn := RX8) C dk_sh40 rfl rfl rfl (by decide) dk_ui8 dk_wf_X8_19 hd d hn k
theorem gf_X8_40 {G : dk_G} {p : Program} {l : Launch} {e : Env} {R : Room} {s : State} {m : MethodId} {args : Array Value} {below : List Frame} {meth : Method} {c : Code} {cells slots : Nat} {Q : State → Prop} {cc : ByteArray} {nL : Nat} {pc n : Nat} {L : List (Option Value)} {st : List Value} {σ : dk_S} {a : Nat} (C : dk_C G p R s m args c cells slots cc nL RX8) (hd : (a, 40) ∈ dk_dom G) (d : decode cc pc = .ok (.getfield 40, 3)) (hn : pc + 3 = n) (k : dk_W G p l e R s m args below meth c cells slots Q n L (.int (σ a 40 6) :: st) σ) : dk_W G p l e R s m args below meth c cells slots Q pc L (dk_r G a 40 :: st) σ :=
  dk_getI (ci := 8) (k0 := 6) (N := 7) (T := TX8) (Cn := RX8) C dk_sh40 rfl rfl (by decide) dk_ui8 dk_wf_X8_40 hd d hn k
theorem gf_X8_168 {G : dk_G} {p : Program} {l : Launch} {e : Env} {R : Room} {s : State} {m : MethodId} {args : Array Value} {below : List Frame} {meth : Method} {c : Code} {cells slots : Nat} {Q : State → Prop} {cc : ByteArray} {nL : Nat} {pc n : Nat} {L : List (Option Value)} {st : List Value} {σ : dk_S} {a : Nat} (C : dk_C G p R s m args c cells slots cc nL RX8) (hd : (a, 41) ∈ dk_dom G) (d : decode cc pc = .ok (.getfield 168, 3)) (hn : pc + 3 = n) (k : dk_W G p l e R s m args below meth c cells slots Q n L (.int (σ a 41 3) :: st) σ) : dk_W G p l e R s m args below meth c cells slots Q pc L (dk_r G a 41 :: st) σ :=
  dk_getI (ci := 5) (k0 := 3) (N := 4) (T := TX5) (Cn := RX5) C dk_sh41 rfl rfl (by decide) dk_ui5 dk_wf_X8_168 hd d hn k
theorem gf_X8_293 {G : dk_G} {p : Program} {l : Launch} {e : Env} {R : Room} {s : State} {m : MethodId} {args : Array Value} {below : List Frame} {meth : Method} {c : Code} {cells slots : Nat} {Q : State → Prop} {cc : ByteArray} {nL : Nat} {pc n : Nat} {L : List (Option Value)} {st : List Value} {σ : dk_S} {a : Nat} (C : dk_C G p R s m args c cells slots cc nL RX8) (hd : (a, 41) ∈ dk_dom G) (d : decode cc pc = .ok (.getfield 293, 3)) (hn : pc + 3 = n) (k : dk_W G p l e R s m args below meth c cells slots Q n L (dk_r G a 42 :: st) σ) : dk_W G p l e R s m args below meth c cells slots Q pc L (dk_r G a 41 :: st) σ :=
  dk_getR (ci := 5) (k0 := 0) (N := 4) (T := TX5) (Cn := RX5) C dk_sh41 rfl rfl rfl (by decide) dk_ui5 dk_wf_X8_293 hd d hn k
theorem gf_X8_296 {G : dk_G} {p : Program} {l : Launch} {e : Env} {R : Room} {s : State} {m : MethodId} {args : Array Value} {below : List Frame} {meth : Method} {c : Code} {cells slots : Nat} {Q : State → Prop} {cc : ByteArray} {nL : Nat} {pc n : Nat} {L : List (Option Value)} {st : List Value} {σ : dk_S} {a : Nat} (C : dk_C G p R s m args c cells slots cc nL RX8) (hd : (a, 41) ∈ dk_dom G) (d : decode cc pc = .ok (.getfield 296, 3)) (hn : pc + 3 = n) (k : dk_W G p l e R s m args below meth c cells slots Q n L (dk_r G a 43 :: st) σ) : dk_W G p l e R s m args below meth c cells slots Q pc L (dk_r G a 41 :: st) σ :=
  dk_getR (ci := 5) (k0 := 1) (N := 4) (T := TX5) (Cn := RX5) C dk_sh41 rfl rfl rfl (by decide) dk_ui5 dk_wf_X8_296 hd d hn k
theorem gf_X8_299 {G : dk_G} {p : Program} {l : Launch} {e : Env} {R : Room} {s : State} {m : MethodId} {args : Array Value} {below : List Frame} {meth : Method} {c : Code} {cells slots : Nat} {Q : State → Prop} {cc : ByteArray} {nL : Nat} {pc n : Nat} {L : List (Option Value)} {st : List Value} {σ : dk_S} {a : Nat} (C : dk_C G p R s m args c cells slots cc nL RX8) (hd : (a, 41) ∈ dk_dom G) (d : decode cc pc = .ok (.getfield 299, 3)) (hn : pc + 3 = n) (k : dk_W G p l e R s m args below meth c cells slots Q n L (dk_r G a 44 :: st) σ) : dk_W G p l e R s m args below meth c cells slots Q pc L (dk_r G a 41 :: st) σ :=
  dk_getR (ci := 5) (k0 := 2) (N := 4) (T := TX5) (Cn := RX5) C dk_sh41 rfl rfl rfl (by decide) dk_ui5 dk_wf_X8_299 hd d hn k
theorem pf_X8_40 {G : dk_G} {p : Program} {l : Launch} {e : Env} {R : Room} {s : State} {m : MethodId} {args : Array Value} {below : List Frame} {meth : Method} {c : Code} {cells slots : Nat} {Q : State → Prop} {cc : ByteArray} {nL : Nat} {pc n : Nat} {L : List (Option Value)} {st : List Value} {σ : dk_S} {a : Nat} {x : Int32} (C : dk_C G p R s m args c cells slots cc nL RX8) (hna : narrow .int (.int x) = .int x) (hfit : fits .int (.int x) = true) (hd : (a, 40) ∈ dk_dom G) (d : decode cc pc = .ok (.putfield 40, 3)) (hn : pc + 3 = n) (k : dk_W G p l e R s m args below meth c cells slots Q n L st (dk_row σ a 40 (upd (σ a 40) 6 x))) : dk_W G p l e R s m args below meth c cells slots Q pc L (.int x :: dk_r G a 40 :: st) σ :=
  dk_put (ci := 8) (k0 := 6) (N := 7) (T := TX8) (Cn := RX8) (ty := .int) C dk_sh40 rfl rfl (by decide) dk_ui8 tyX8 tyX8_ok nmX8 dk_wf_X8_40 (by decide) (by decide) hna hfit hd d hn k
