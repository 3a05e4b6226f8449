/-! four methods of the law, walked -/
theorem dk_wc_L_beasts : Cond.code yL_beasts cL_beasts 1 (some .int) ∈ dk_ws := dk_w 650 (by decide +kernel) (by decide +kernel)
theorem dk_wt_L_beasts : Cond.static yL_beasts ∈ dk_ws := dk_w 649 (by decide +kernel) (by decide +kernel)
theorem yy_L_beasts : dk_YS yL_beasts cL_beasts 1 (some .int) 1 := ⟨dk_wt_L_beasts, dk_wn_RL, dk_wc_L_beasts, ⟨by decide, by decide, by decide⟩⟩
theorem dk_wm_L_9 : Cond.methodLink RL 9 yL_cell ∈ dk_ws := dk_w 326 (by decide +kernel) (by decide +kernel)
theorem dk_wm_L_17 : Cond.methodLink RL 17 yL_low ∈ dk_ws := dk_w 330 (by decide +kernel) (by decide +kernel)
theorem dk_wc_L_tells : Cond.code yL_tells cL_tells 8 none ∈ dk_ws := dk_w 336 (by decide +kernel) (by decide +kernel)
theorem dk_wt_L_tells : Cond.static yL_tells ∈ dk_ws := dk_w 335 (by decide +kernel) (by decide +kernel)
theorem yy_L_tells : dk_YS yL_tells cL_tells 8 none 2 := ⟨dk_wt_L_tells, dk_wn_RL, dk_wc_L_tells, ⟨by decide, by decide, by decide⟩⟩
theorem dk_wm_L_43 : Cond.methodLink RL 43 yX8_setHero ∈ dk_ws := dk_w 592 (by decide +kernel) (by decide +kernel)
theorem dk_wm_L_54 : Cond.methodLink RL 54 yX8_addLamp ∈ dk_ws := dk_w 639 (by decide +kernel) (by decide +kernel)
theorem dk_wm_L_47 : Cond.methodLink RL 47 yX8_addBeast ∈ dk_ws := dk_w 600 (by decide +kernel) (by decide +kernel)
theorem dk_wm_L_21 : Cond.methodLink RL 21 yJ0_charAt_5068e ∈ dk_ws := dk_w 338 (by decide +kernel) (by decide +kernel)
theorem dk_wm_L_27 : Cond.methodLink RL 27 yX8_dig ∈ dk_ws := dk_w 378 (by decide +kernel) (by decide +kernel)
theorem dk_wm_L_33 : Cond.methodLink RL 33 yX8_setKind ∈ dk_ws := dk_w 563 (by decide +kernel) (by decide +kernel)
theorem dk_wm_L_39 : Cond.methodLink RL 39 yX8_setEffect ∈ dk_ws := dk_w 578 (by decide +kernel) (by decide +kernel)
theorem dk_wm_L_51 : Cond.methodLink RL 51 yX8_addThing ∈ dk_ws := dk_w 607 (by decide +kernel) (by decide +kernel)
theorem dk_wc_L_areApart : Cond.code yL_areApart cL_areApart 7 (some .boolean) ∈ dk_ws := dk_w 853 (by decide +kernel) (by decide +kernel)
theorem dk_wt_L_areApart : Cond.static yL_areApart ∈ dk_ws := dk_w 852 (by decide +kernel) (by decide +kernel)
theorem yy_L_areApart : dk_YS yL_areApart cL_areApart 7 (some .boolean) 2 := ⟨dk_wt_L_areApart, dk_wn_RL, dk_wc_L_areApart, ⟨by decide, by decide, by decide⟩⟩
theorem dk_wm_L_96 : Cond.methodLink RL 96 yX8_placeOf ∈ dk_ws := dk_w 854 (by decide +kernel) (by decide +kernel)
theorem dk_wm_L_99 : Cond.methodLink RL 99 yX8_cell ∈ dk_ws := dk_w 865 (by decide +kernel) (by decide +kernel)
theorem dk_wm_L_102 : Cond.methodLink RL 102 yX8_healthOf ∈ dk_ws := dk_w 869 (by decide +kernel) (by decide +kernel)
theorem dk_wc_L_areThings : Cond.code yL_areThings cL_areThings 7 (some .boolean) ∈ dk_ws := dk_w 875 (by decide +kernel) (by decide +kernel)
theorem dk_wt_L_areThings : Cond.static yL_areThings ∈ dk_ws := dk_w 874 (by decide +kernel) (by decide +kernel)
theorem yy_L_areThings : dk_YS yL_areThings cL_areThings 7 (some .boolean) 1 := ⟨dk_wt_L_areThings, dk_wn_RL, dk_wc_L_areThings, ⟨by decide, by decide, by decide⟩⟩
theorem dk_wm_L_105 : Cond.methodLink RL 105 yX8_whereIs ∈ dk_ws := dk_w 876 (by decide +kernel) (by decide +kernel)
theorem dk_wm_L_108 : Cond.methodLink RL 108 yX8_weightOf ∈ dk_ws := dk_w 880 (by decide +kernel) (by decide +kernel)
def wf_L_beasts (G : dk_G) (s : dk_S) (K : Int32 → dk_S → Prop) : Prop :=
  (¬ (19 : Int32) < 0 ∧ K (dl_lo (dl_cl G 19) 4) s)
def wf_L_tells_355 (G : dk_G) (K : dk_S → Prop) (X : String → dk_S → Prop) (B : Int32 → dk_S → Prop) (E401 : dk_S → Prop) (x4 : Int32) (x5 : Int32) (x6 : Int32) (y0 : Int32) (s : dk_S) : Prop :=
  ((x6 = 0 → wf_X8_addThing y0 (dl_lo (x5 >>> (5 &&& 31)) 3) (dl_lo (x5 >>> (7 &&& 31)) 2) (-1) s (fun r145 s144 => ∀ v146 : Int32, v146 = x4 + 1 → B v146 s144) X) ∧ (¬ x6 = 0 → wf_X8_addThing y0 (dl_lo (x5 >>> (5 &&& 31)) 3) (dl_lo (x5 >>> (7 &&& 31)) 2) (dl_lo (x5 >>> (9 &&& 31)) 2) s (fun r151 s150 => ∀ v152 : Int32, v152 = x4 + 1 → B v152 s150) X))
def wf_L_tells_332 (G : dk_G) (K : dk_S → Prop) (X : String → dk_S → Prop) (B : Int32 → dk_S → Prop) (E401 : dk_S → Prop) (x4 : Int32) (x5 : Int32) (y0 : Int32) (s : dk_S) : Prop :=
  ((2 ≤ x4 → wf_L_tells_355 G K X B E401 x4 x5 y0 (dl_lo (x5 >>> (2 &&& 31)) 8) s) ∧ (¬ 2 ≤ x4 → wf_L_tells_355 G K X B E401 x4 x5 y0 6 s))
def wf_L_tells_294 (G : dk_G) (K : dk_S → Prop) (X : String → dk_S → Prop) (E401 : dk_S → Prop) : Nat → Int32 → dk_S → Prop
  | 0, _, _ => False
  | n + 1, x4, s => ((9 ≤ x4 → E401 s) ∧ (¬ 9 ≤ x4 → (¬ (((24 : Int32) + x4) : Int32) < 0 ∧ ∀ v47 : Int32, v47 = dl_cl G ((24 : Int32) + x4) → ((x4 ≤ 2 → wf_L_tells_332 G K X (wf_L_tells_294 G K X E401 n) E401 x4 v47 0 s) ∧ (¬ x4 ≤ 2 → ((¬ (dl_lo v47 4) = 0 → wf_L_tells_332 G K X (wf_L_tells_294 G K X E401 n) E401 x4 v47 0 s) ∧ ((dl_lo v47 4) = 0 → wf_L_tells_332 G K X (wf_L_tells_294 G K X E401 n) E401 x4 v47 1 s)))))))
def wf_L_tells_204 (G : dk_G) (K : dk_S → Prop) (X : String → dk_S → Prop) (E291 : dk_S → Prop) : Nat → Int32 → dk_S → Prop
  | 0, _, _ => False
  | n + 1, x4, s => (¬ (19 : Int32) < 0 ∧ (((dl_lo (dl_cl G 19) 4) ≤ x4 → E291 s) ∧ (¬ (dl_lo (dl_cl G 19) 4) ≤ x4 → (¬ (((20 : Int32) + x4) : Int32) < 0 ∧ ∀ v63 : Int32, v63 = dl_cl G ((20 : Int32) + x4) → wf_X8_addBeast (dl_lo v63 6) (dl_lo (v63 >>> (3 &&& 31)) 6) ((1 : Int32) + (dl_lo (v63 >>> (6 &&& 31)) 24)) (dl_lo (v63 >>> (11 &&& 31)) 5) ((1 : Int32) + (dl_lo (v63 >>> (14 &&& 31)) 30)) s (fun r80 s79 => ∀ v81 : Int32, v81 = x4 + 1 → wf_L_tells_204 G K X E291 n v81 s79) X))))
def wf_L_tells_103 (G : dk_G) (K : dk_S → Prop) (X : String → dk_S → Prop) (B : Int32 → dk_S → Prop) (E164 : dk_S → Prop) (x2 : Int32) (x3 : Int32) (y0 : Int32) (y1 : Int32) (y2 : Int32) (s : dk_S) : Prop :=
  wf_X8_setKind y2 y1 y0 s (fun r118 s117 => ((x2 ≤ 2 → ∀ v119 : Int32, v119 = x2 + 1 → B v119 s117) ∧ (¬ x2 ≤ 2 → ((6 ≤ x2 → ∀ v120 : Int32, v120 = x2 + 1 → B v120 s117) ∧ (¬ 6 ≤ x2 → (vp_in (dl_lo (x3 >>> (6 &&& 31)) 5) (dk_txL.getD 1 0) ∧ wf_X8_setEffect x2 (dl_ch 1 (dl_lo (x3 >>> (6 &&& 31)) 5)) ((1 : Int32) + (dl_lo (x3 >>> (9 &&& 31)) 20)) (dl_lo (x3 >>> (14 &&& 31)) 4) s117 (fun r134 s133 => ∀ v135 : Int32, v135 = x2 + 1 → B v135 s133) X)))))) X
def wf_L_tells_65 (G : dk_G) (K : dk_S → Prop) (X : String → dk_S → Prop) (E164 : dk_S → Prop) : Nat → Int32 → dk_S → Prop
  | 0, _, _ => False
  | n + 1, x2, s => ((8 ≤ x2 → E164 s) ∧ (¬ 8 ≤ x2 → (¬ (((10 : Int32) + x2) : Int32) < 0 ∧ ∀ v86 : Int32, v86 = dl_cl G ((10 : Int32) + x2) → ((¬ (dl_lo (v86 >>> (4 &&& 31)) 2) = 0 → wf_L_tells_103 G K X (wf_L_tells_65 G K X E164 n) E164 x2 v86 0 (dl_lo v86 10) x2 s) ∧ ((dl_lo (v86 >>> (4 &&& 31)) 2) = 0 → wf_L_tells_103 G K X (wf_L_tells_65 G K X E164 n) E164 x2 v86 1 (dl_lo v86 10) x2 s)))))
def wf_L_tells_2 (G : dk_G) (K : dk_S → Prop) (X : String → dk_S → Prop) (E63 : dk_S → Prop) : Nat → Int32 → dk_S → Prop
  | 0, _, _ => False
  | n + 1, x2, s => ((36 ≤ x2 → E63 s) ∧ (¬ 36 ≤ x2 → (¬ ((x2 / 4) : Int32) < 0 ∧ ∀ v98 : Int32, v98 = (dl_cl G (x2 / 4)) >>> (((7 : Int32) * (x2 - x2 / 4 * 4)) &&& 31) → ((¬ x2 = 0 → (vp_in (dl_lo v98 21) (dk_txL.getD 2 0) ∧ wf_X8_dig (x2 - x2 / 6 * 6) (x2 / 6) (dl_ch 2 (dl_lo v98 21)) s (fun r106 s105 => ∀ v107 : Int32, v107 = x2 + 1 → wf_L_tells_2 G K X E63 n v107 s105) X)) ∧ (x2 = 0 → wf_X8_dig (x2 - x2 / 6 * 6) (x2 / 6) 46 s (fun r109 s108 => ∀ v110 : Int32, v110 = x2 + 1 → wf_L_tells_2 G K X E63 n v110 s108) X)))))
def wf_L_tells (G : dk_G) (s : dk_S) (K : dk_S → Prop) (X : String → dk_S → Prop) : Prop :=
  ∃ nn43 : Nat, wf_L_tells_2 G K X (fun (s1 : dk_S) => ∃ nn42 : Nat, wf_L_tells_65 G K X (fun (s2 : dk_S) => (¬ (18 : Int32) < 0 ∧ ∀ v9 : Int32, v9 = (1 : Int32) + (dl_lo (dl_cl G 18) 24) → (¬ (18 : Int32) < 0 ∧ wf_X8_setHero 0 0 v9 ((5 : Int32) + (dl_lo ((dl_cl G 18) >>> (5 &&& 31)) 30)) s2 (fun r17 s16 => ∃ nn41 : Nat, wf_L_tells_204 G K X (fun (s18 : dk_S) => ∃ nn40 : Nat, wf_L_tells_294 G K X (fun (s19 : dk_S) => (¬ (33 : Int32) < 0 ∧ (¬ (33 : Int32) < 0 ∧ (¬ (33 : Int32) < 0 ∧ wf_X8_addLamp (dl_lo (dl_cl G 33) 6) (dl_lo ((dl_cl G 33) >>> (4 &&& 31)) 6) (dl_lo ((dl_cl G 33) >>> (8 &&& 31)) 9) s19 (fun r39 s38 => K s38) X)))) nn40 0 s18) nn41 0 s16) X))) nn42 0 s1) nn43 0 s
def wf_L_areApart_112 (G : dk_G) (K : Int32 → dk_S → Prop) (X : String → dk_S → Prop) (B : Int32 → Int32 → Int32 → Int32 → Int32 → dk_S → Prop) (E124 : Int32 → Int32 → Int32 → dk_S → Prop) (x1 : Int32) (x3 : Int32) (x4 : Int32) (x6 : Int32) (s : dk_S) : Prop :=
  ∀ v39 : Int32, v39 = x6 + 1 → B x1 1 x3 x4 v39 s
def wf_L_areApart_74 (G : dk_G) (K : Int32 → dk_S → Prop) (X : String → dk_S → Prop) (E124 : Int32 → Int32 → Int32 → dk_S → Prop) : Nat → Int32 → Int32 → Int32 → Int32 → Int32 → dk_S → Prop
  | 0, _, _, _, _, _, _ => False
  | n + 1, x1, x2, x3, x4, x6, s => ((x3 ≤ x6 → E124 x1 x2 x3 s) ∧ (¬ x3 ≤ x6 → ((x2 = 0 → ∀ v26 : Int32, v26 = x6 + 1 → wf_L_areApart_74 G K X E124 n x1 0 x3 x4 v26 s) ∧ (¬ x2 = 0 → wf_X8_healthOf x3 s (fun r28 s27 => ((r28 ≤ 0 → wf_L_areApart_112 G K X (wf_L_areApart_74 G K X E124 n) E124 x1 x3 x4 x6 s27) ∧ (¬ r28 ≤ 0 → wf_X8_healthOf x6 s27 (fun r30 s29 => ((r30 ≤ 0 → wf_L_areApart_112 G K X (wf_L_areApart_74 G K X E124 n) E124 x1 x3 x4 x6 s29) ∧ (¬ r30 ≤ 0 → wf_X8_placeOf x6 s29 (fun r32 s31 => ((r32 = x4 → ∀ v33 : Int32, v33 = x6 + 1 → wf_L_areApart_74 G K X E124 n x1 0 x3 x4 v33 s31) ∧ (¬ r32 = x4 → wf_L_areApart_112 G K X (wf_L_areApart_74 G K X E124 n) E124 x1 x3 x4 x6 s31))) X))) X))) X))))
def wf_L_areApart_65 (G : dk_G) (K : Int32 → dk_S → Prop) (X : String → dk_S → Prop) (B : Int32 → Int32 → Int32 → dk_S → Prop) (x1 : Int32) (x3 : Int32) (x4 : Int32) (s : dk_S) : Prop :=
  ∃ nn25 : Nat, wf_L_areApart_74 G K X (fun (w20 : Int32) (w21 : Int32) (w22 : Int32) (s23 : dk_S) => ∀ v24 : Int32, v24 = w22 + 1 → B w20 w21 v24 s23) nn25 x1 1 x3 x4 0 s
def wf_L_areApart_4 (G : dk_G) (K : Int32 → dk_S → Prop) (X : String → dk_S → Prop) : Nat → Int32 → Int32 → Int32 → dk_S → Prop
  | 0, _, _, _, _ => False
  | n + 1, x1, x2, x3, s => ((x1 < x3 → (narrow .boolean (.int x2) = .int x2 ∧ K x2 s)) ∧ (¬ x1 < x3 → ((x2 = 0 → (narrow .boolean (.int x2) = .int x2 ∧ K x2 s)) ∧ (¬ x2 = 0 → wf_X8_placeOf x3 s (fun r3 s2 => wf_X8_cell (r3 / 100) (r3 - r3 / 100 * 100) s2 (fun r5 s4 => wf_X8_healthOf x3 s4 (fun r7 s6 => ((r7 ≤ 0 → wf_L_areApart_65 G K X (wf_L_areApart_4 G K X n) x1 x3 r3 s6) ∧ (¬ r7 ≤ 0 → ((r5 = 46 → wf_L_areApart_65 G K X (wf_L_areApart_4 G K X n) x1 x3 r3 s6) ∧ (¬ r5 = 46 → ((r5 = 126 → wf_L_areApart_65 G K X (wf_L_areApart_4 G K X n) x1 x3 r3 s6) ∧ (¬ r5 = 126 → ((¬ r5 = 47 → ∃ nn13 : Nat, wf_L_areApart_74 G K X (fun (w8 : Int32) (w9 : Int32) (w10 : Int32) (s11 : dk_S) => ∀ v12 : Int32, v12 = w10 + 1 → wf_L_areApart_4 G K X n w8 w9 v12 s11) nn13 x1 0 x3 r3 0 s6) ∧ (r5 = 47 → wf_L_areApart_65 G K X (wf_L_areApart_4 G K X n) x1 x3 r3 s6))))))))) X) X) X))))
def wf_L_areApart (G : dk_G) (a1 : Int32) (s : dk_S) (K : Int32 → dk_S → Prop) (X : String → dk_S → Prop) : Prop :=
  ∃ nn1 : Nat, wf_L_areApart_4 G K X nn1 a1 1 0 s
def wf_L_areThings_121 (G : dk_G) (K : Int32 → dk_S → Prop) (X : String → dk_S → Prop) (x1 : Int32) (x2 : Int32) (s : dk_S) : Prop :=
  ((x2 = 0 → K 0 s) ∧ (¬ x2 = 0 → ((30 < x1 → K 0 s) ∧ (¬ 30 < x1 → K 1 s))))
def wf_L_areThings_96 (G : dk_G) (K : Int32 → dk_S → Prop) (X : String → dk_S → Prop) (B : Int32 → Int32 → Int32 → dk_S → Prop) (E121 : Int32 → Int32 → dk_S → Prop) (x1 : Int32) (x3 : Int32) (x4 : Int32) (y0 : Int32) (s : dk_S) : Prop :=
  ((¬ x4 = (-1) → ∀ v29 : Int32, v29 = x1 + 0 → ∀ v30 : Int32, v30 = x3 + 1 → B v29 y0 v30 s) ∧ (x4 = (-1) → wf_X8_weightOf x3 s (fun r32 s31 => ∀ v33 : Int32, v33 = x1 + r32 → ∀ v34 : Int32, v34 = x3 + 1 → B v33 y0 v34 s31) X))
def wf_L_areThings_61 (G : dk_G) (K : Int32 → dk_S → Prop) (X : String → dk_S → Prop) (B : Int32 → Int32 → Int32 → dk_S → Prop) (E121 : Int32 → Int32 → dk_S → Prop) (x1 : Int32) (x3 : Int32) (x4 : Int32) (x5 : Int32) (x6 : Int32) (s : dk_S) : Prop :=
  ((10 ≤ x5 → wf_L_areThings_96 G K X B E121 x1 x3 x4 0 s) ∧ (¬ 10 ≤ x5 → wf_X8_weightOf x3 s (fun r19 s18 => ((r19 < 0 → wf_L_areThings_96 G K X B E121 x1 x3 x4 0 s18) ∧ (¬ r19 < 0 → ((x6 < (-2) → wf_L_areThings_96 G K X B E121 x1 x3 x4 0 s18) ∧ (¬ x6 < (-2) → ((1111 < x6 → wf_L_areThings_96 G K X B E121 x1 x3 x4 0 s18) ∧ (¬ 1111 < x6 → wf_L_areThings_96 G K X B E121 x1 x3 x4 1 s18))))))) X))
def wf_L_areThings_30 (G : dk_G) (K : Int32 → dk_S → Prop) (X : String → dk_S → Prop) (E61 : Int32 → Int32 → Int32 → Int32 → Int32 → dk_S → Prop) : Nat → Int32 → Int32 → Int32 → Int32 → Int32 → dk_S → Prop
  | 0, _, _, _, _, _, _ => False
  | n + 1, x1, x3, x4, x5, x6, s => (((-3) < x6 → E61 x1 x3 x4 x5 x6 s) ∧ (¬ (-3) < x6 → ((10 ≤ x5 → E61 x1 x3 x4 x5 x6 s) ∧ (¬ 10 ≤ x5 → wf_X8_whereIs ((-3) - x6) s (fun r25 s24 => ∀ v26 : Int32, v26 = x5 + 1 → wf_L_areThings_30 G K X E61 n x1 x3 x4 v26 r25 s24) X))))
def wf_L_areThings_6 (G : dk_G) (K : Int32 → dk_S → Prop) (X : String → dk_S → Prop) (E121 : Int32 → Int32 → dk_S → Prop) : Nat → Int32 → Int32 → Int32 → dk_S → Prop
  | 0, _, _, _, _ => False
  | n + 1, x1, x2, x3, s => ((9 ≤ x3 → E121 x1 x2 s) ∧ (¬ 9 ≤ x3 → ((x2 = 0 → E121 x1 x2 s) ∧ (¬ x2 = 0 → wf_X8_whereIs x3 s (fun r8 s7 => ∃ nn15 : Nat, wf_L_areThings_30 G K X (fun (w9 : Int32) (w10 : Int32) (w11 : Int32) (w12 : Int32) (w13 : Int32) (s14 : dk_S) => wf_L_areThings_61 G K X (wf_L_areThings_6 G K X E121 n) E121 w9 w10 w11 w12 w13 s14) nn15 x1 x3 r8 0 r8 s7) X))))
def wf_L_areThings (G : dk_G) (s : dk_S) (K : Int32 → dk_S → Prop) (X : String → dk_S → Prop) : Prop :=
  ∃ nn4 : Nat, wf_L_areThings_6 G K X (fun (w1 : Int32) (w2 : Int32) (s3 : dk_S) => wf_L_areThings_121 G K X w1 w2 s3) nn4 0 1 0 s
/-! L_beasts -/
set_option maxRecDepth 20000 in
set_option maxHeartbeats 4000000 in
theorem cc_L_beasts {G : dk_G} {l : Launch}  (hD : dk_D G) (hN : dk_tN G ≤ 260) {s : dk_S} {K : Int32 → dk_S → Prop} (h : wf_L_beasts G s K) : dk_M G l 2 yL_beasts cL_beasts 1 (some .int) [.ref (dk_tL G)] s (dk_ki K) := by
  refine dk_of hD (by decide) [some (.ref (dk_tL G))] (fun q hq => hq) rfl (Nat.le_of_ble_eq_true rfl) (fun P e S0 m args bel meth c C hr hlk => ?_)
  unfold wf_L_beasts at h
  refine dk_aload_n (i := 0) C dL_beasts_0 (n := 1) rfl rfl rfl ?_
  refine dk_bipush (v := 19) C dL_beasts_1 (n := 3) rfl (by decide) ?_
  refine dk_callSi C [] (cc_L_cell (K := fun r σ => r = dl_cl G 19 ∧ σ = s) C.D hN h.1 ⟨rfl, rfl⟩) yy_L_cell dk_wm_L_9 dL_beasts_3 (fun r1 s2 g3 => ?_) rfl ⟨Nat.le_of_ble_eq_true rfl, Nat.le_of_ble_eq_true rfl⟩ rfl (Nat.le_of_ble_eq_true rfl) rfl (n := 6) rfl
  have h := h.2
  rw [g3.1, g3.2]
  refine dk_iconst (v := 4) C dL_beasts_6 (n := 7) rfl (by decide) ?_
  refine dk_callSi C [] (cc_L_low (K := fun r σ => r = dl_lo (dl_cl G 19) 4 ∧ σ = s) C.D (by decide) ⟨rfl, rfl⟩) yy_L_low dk_wm_L_17 dL_beasts_7 (fun r4 s5 g6 => ?_) rfl ⟨Nat.le_of_ble_eq_true rfl, Nat.le_of_ble_eq_true rfl⟩ rfl (Nat.le_of_ble_eq_true rfl) rfl (n := 10) rfl
  rw [g6.1, g6.2]
  exact dk_iret C hr hlk rfl dL_beasts_10 ⟨_, rfl, h⟩
/-! L_tells -/
set_option maxRecDepth 20000 in
set_option maxHeartbeats 4000000 in
theorem ww_L_tells_355 {G : dk_G} {P : Program} {l : Launch} {e : Env} {S0 : State} {m : MethodId} {args : Array Value} {bel : List Frame} {meth : Method} {c : Code}  (C : dk_C G P (dk_rx 8) S0 m args c 0 0 cL_tells 8 RL) (ht : ∀ x ∈ c.exceptionTable.toList, False) (hr : meth.sig.returnType = none) (hlk : meth.locks = false) (hl : l.stackTraces = false) (hri : dk_RI G) (hN : dk_tN G ≤ 260) {K : dk_S → Prop} {X : String → dk_S → Prop} {B : Int32 → dk_S → Prop} {E401 : dk_S → Prop} (hB : ∀ (x4 : Int32) (s : dk_S), B x4 s → dk_W G P l e (dk_rx 8) S0 m args bel meth c 0 0 (zx_MQ bel (dk_Qc G (dk_kv K)) (dk_XC G X) args S0 1 6 (dk_A G)) 294 [some (dk_r G 0 40), some (.ref (dk_tL G)), none, none, some (.int x4), none, none, none] [] s) (hE401 : ∀ (s : dk_S), E401 s → dk_W G P l e (dk_rx 8) S0 m args bel meth c 0 0 (zx_MQ bel (dk_Qc G (dk_kv K)) (dk_XC G X) args S0 1 6 (dk_A G)) 401 [some (dk_r G 0 40), some (.ref (dk_tL G)), none, none, none, none, none, none] [] s) : ∀ (x4 : Int32) (x5 : Int32) (x6 : Int32) (y0 : Int32) (s : dk_S), wf_L_tells_355 G K X B E401 x4 x5 x6 y0 s → dk_W G P l e (dk_rx 8) S0 m args bel meth c 0 0 (zx_MQ bel (dk_Qc G (dk_kv K)) (dk_XC G X) args S0 1 6 (dk_A G)) 355 [some (dk_r G 0 40), some (.ref (dk_tL G)), none, none, some (.int x4), some (.int x5), some (.int x6), none] [.int y0, dk_r G 0 40] s := by
  intro x4 x5 x6 y0 s h
  unfold wf_L_tells_355 at h
  refine dk_iload C dL_tells_355 (n := 357) rfl (i := 5) rfl ?_
  refine dk_iconst (v := 5) C dL_tells_357 (n := 358) rfl (by decide) ?_
  refine dk_ishr C dL_tells_358 (n := 359) rfl ?_
  refine dk_iconst (v := 3) C dL_tells_359 (n := 360) rfl (by decide) ?_
  refine dk_callSi C [.int y0, dk_r G 0 40] (cc_L_low (K := fun r σ => r = dl_lo (x5 >>> (5 &&& 31)) 3 ∧ σ = s) C.D (by decide) ⟨rfl, rfl⟩) yy_L_low dk_wm_L_17 dL_tells_360 (fun r138 s139 g140 => ?_) rfl ⟨Nat.le_of_ble_eq_true rfl, Nat.le_of_ble_eq_true rfl⟩ rfl (Nat.le_of_ble_eq_true rfl) rfl (n := 363) rfl
  rw [g140.1, g140.2]
  refine dk_iload C dL_tells_363 (n := 365) rfl (i := 5) rfl ?_
  refine dk_bipush (v := 7) C dL_tells_365 (n := 367) rfl (by decide) ?_
  refine dk_ishr C dL_tells_367 (n := 368) rfl ?_
  refine dk_iconst (v := 2) C dL_tells_368 (n := 369) rfl (by decide) ?_
  refine dk_callSi C [.int (dl_lo (x5 >>> (5 &&& 31)) 3), .int y0, dk_r G 0 40] (cc_L_low (K := fun r σ => r = dl_lo (x5 >>> (7 &&& 31)) 2 ∧ σ = s) C.D (by decide) ⟨rfl, rfl⟩) yy_L_low dk_wm_L_17 dL_tells_369 (fun r141 s142 g143 => ?_) rfl ⟨Nat.le_of_ble_eq_true rfl, Nat.le_of_ble_eq_true rfl⟩ rfl (Nat.le_of_ble_eq_true rfl) rfl (n := 372) rfl
  rw [g143.1, g143.2]
  refine dk_iload C dL_tells_372 (n := 374) rfl (i := 6) rfl ?_
  refine dk_if_eq (t := 389) C dL_tells_374 (n := 377) rfl (by decide) (fun c153 => ?_) (fun c153 => ?_)
  · have h := h.1 c153
    refine dk_iconst (v := (-1)) C dL_tells_389 (n := 390) rfl (by decide) ?_
    refine dk_xcallVi C ht hlk [] (cc_X8_addThing C.D hl hri h) yy_X8_addThing dk_wm_L_51 dk_sh40 (hri.1 40 (by decide) (by decide)) dL_tells_390 (fun r145 s144 h => ?_) rfl rfl ⟨Nat.le_of_ble_eq_true rfl, Nat.le_of_ble_eq_true rfl⟩ ⟨Nat.le_of_ble_eq_true rfl, Nat.le_of_ble_eq_true rfl⟩ rfl (Nat.le_of_ble_eq_true rfl) rfl (n := 393) rfl
    refine dk_istore (i := 7) (L' := [some (dk_r G 0 40), some (.ref (dk_tL G)), none, none, some (.int x4), some (.int x5), some (.int x6), some (.int r145)]) C dL_tells_393 (n := 395) rfl (dk_nc_of rfl) (Nat.le_of_ble_eq_true rfl) rfl ?_
    obtain ⟨v146, ev146⟩ : ∃ y : Int32, y = x4 + 1 := ⟨_, rfl⟩
    have h := h v146 ev146
    refine dk_iinc (i := 4) (v := v146) (L' := [some (dk_r G 0 40), some (.ref (dk_tL G)), none, none, some (.int v146), some (.int x5), some (.int x6), some (.int r145)]) C dL_tells_395 (n := 398) rfl rfl (by rw [ev146]; rfl) (dk_nc_of rfl) (Nat.le_of_ble_eq_true rfl) rfl ?_
    refine dk_goto (t := 294) C dL_tells_398 (by decide) ?_
    refine dk_sub (L0 := [some (dk_r G 0 40), some (.ref (dk_tL G)), none, none, some (.int v146), none, none, none]) ⟨rfl, ⟨rfl, ⟨rfl, trivial⟩⟩⟩ ?_
    exact hB v146 s144 h
  · have h := h.2 c153
    refine dk_iload C dL_tells_377 (n := 379) rfl (i := 5) rfl ?_
    refine dk_bipush (v := 9) C dL_tells_379 (n := 381) rfl (by decide) ?_
    refine dk_ishr C dL_tells_381 (n := 382) rfl ?_
    refine dk_iconst (v := 2) C dL_tells_382 (n := 383) rfl (by decide) ?_
    refine dk_callSi C [.int (dl_lo (x5 >>> (7 &&& 31)) 2), .int (dl_lo (x5 >>> (5 &&& 31)) 3), .int y0, dk_r G 0 40] (cc_L_low (K := fun r σ => r = dl_lo (x5 >>> (9 &&& 31)) 2 ∧ σ = s) C.D (by decide) ⟨rfl, rfl⟩) yy_L_low dk_wm_L_17 dL_tells_383 (fun r147 s148 g149 => ?_) rfl ⟨Nat.le_of_ble_eq_true rfl, Nat.le_of_ble_eq_true rfl⟩ rfl (Nat.le_of_ble_eq_true rfl) rfl (n := 386) rfl
    rw [g149.1, g149.2]
    refine dk_goto (t := 390) C dL_tells_386 (by decide) ?_
    refine dk_xcallVi C ht hlk [] (cc_X8_addThing C.D hl hri h) yy_X8_addThing dk_wm_L_51 dk_sh40 (hri.1 40 (by decide) (by decide)) dL_tells_390 (fun r151 s150 h => ?_) rfl rfl ⟨Nat.le_of_ble_eq_true rfl, Nat.le_of_ble_eq_true rfl⟩ ⟨Nat.le_of_ble_eq_true rfl, Nat.le_of_ble_eq_true rfl⟩ rfl (Nat.le_of_ble_eq_true rfl) rfl (n := 393) rfl
    refine dk_istore (i := 7) (L' := [some (dk_r G 0 40), some (.ref (dk_tL G)), none, none, some (.int x4), some (.int x5), some (.int x6), some (.int r151)]) C dL_tells_393 (n := 395) rfl (dk_nc_of rfl) (Nat.le_of_ble_eq_true rfl) rfl ?_
    obtain ⟨v152, ev152⟩ : ∃ y : Int32, y = x4 + 1 := ⟨_, rfl⟩
    have h := h v152 ev152
    refine dk_iinc (i := 4) (v := v152) (L' := [some (dk_r G 0 40), some (.ref (dk_tL G)), none, none, some (.int v152), some (.int x5), some (.int x6), some (.int r151)]) C dL_tells_395 (n := 398) rfl rfl (by rw [ev152]; rfl) (dk_nc_of rfl) (Nat.le_of_ble_eq_true rfl) rfl ?_
    refine dk_goto (t := 294) C dL_tells_398 (by decide) ?_
    refine dk_sub (L0 := [some (dk_r G 0 40), some (.ref (dk_tL G)), none, none, some (.int v152), none, none, none]) ⟨rfl, ⟨rfl, ⟨rfl, trivial⟩⟩⟩ ?_
    exact hB v152 s150 h
set_option maxRecDepth 20000 in
set_option maxHeartbeats 4000000 in
theorem ww_L_tells_332 {G : dk_G} {P : Program} {l : Launch} {e : Env} {S0 : State} {m : MethodId} {args : Array Value} {bel : List Frame} {meth : Method} {c : Code}  (C : dk_C G P (dk_rx 8) S0 m args c 0 0 cL_tells 8 RL) (ht : ∀ x ∈ c.exceptionTable.toList, False) (hr : meth.sig.returnType = none) (hlk : meth.locks = false) (hl : l.stackTraces = false) (hri : dk_RI G) (hN : dk_tN G ≤ 260) {K : dk_S → Prop} {X : String → dk_S → Prop} {B : Int32 → dk_S → Prop} {E401 : dk_S → Prop} (hB : ∀ (x4 : Int32) (s : dk_S), B x4 s → dk_W G P l e (dk_rx 8) S0 m args bel meth c 0 0 (zx_MQ bel (dk_Qc G (dk_kv K)) (dk_XC G X) args S0 1 6 (dk_A G)) 294 [some (dk_r G 0 40), some (.ref (dk_tL G)), none, none, some (.int x4), none, none, none] [] s) (hE401 : ∀ (s : dk_S), E401 s → dk_W G P l e (dk_rx 8) S0 m args bel meth c 0 0 (zx_MQ bel (dk_Qc G (dk_kv K)) (dk_XC G X) args S0 1 6 (dk_A G)) 401 [some (dk_r G 0 40), some (.ref (dk_tL G)), none, none, none, none, none, none] [] s) : ∀ (x4 : Int32) (x5 : Int32) (y0 : Int32) (s : dk_S), wf_L_tells_332 G K X B E401 x4 x5 y0 s → dk_W G P l e (dk_rx 8) S0 m args bel meth c 0 0 (zx_MQ bel (dk_Qc G (dk_kv K)) (dk_XC G X) args S0 1 6 (dk_A G)) 332 [some (dk_r G 0 40), some (.ref (dk_tL G)), none, none, some (.int x4), some (.int x5), none, none] [.int y0] s := by
  intro x4 x5 y0 s h
  unfold wf_L_tells_332 at h
  refine dk_istore (i := 6) (L' := [some (dk_r G 0 40), some (.ref (dk_tL G)), none, none, some (.int x4), some (.int x5), some (.int y0), none]) C dL_tells_332 (n := 334) rfl (dk_nc_of rfl) (Nat.le_of_ble_eq_true rfl) rfl ?_
  refine dk_aload_n (i := 0) C dL_tells_334 (n := 335) rfl rfl rfl ?_
  refine dk_iload C dL_tells_335 (n := 337) rfl (i := 4) rfl ?_
  refine dk_iconst (v := 2) C dL_tells_337 (n := 338) rfl (by decide) ?_
  refine dk_icmp_ge (t := 346) C dL_tells_338 (n := 341) rfl (by decide) (fun c116 => ?_) (fun c116 => ?_)
  · have h := h.1 c116
    refine dk_iload C dL_tells_346 (n := 348) rfl (i := 5) rfl ?_
    refine dk_iconst (v := 2) C dL_tells_348 (n := 349) rfl (by decide) ?_
    refine dk_ishr C dL_tells_349 (n := 350) rfl ?_
    refine dk_bipush (v := 8) C dL_tells_350 (n := 352) rfl (by decide) ?_
    refine dk_callSi C [dk_r G 0 40] (cc_L_low (K := fun r σ => r = dl_lo (x5 >>> (2 &&& 31)) 8 ∧ σ = s) C.D (by decide) ⟨rfl, rfl⟩) yy_L_low dk_wm_L_17 dL_tells_352 (fun r113 s114 g115 => ?_) rfl ⟨Nat.le_of_ble_eq_true rfl, Nat.le_of_ble_eq_true rfl⟩ rfl (Nat.le_of_ble_eq_true rfl) rfl (n := 355) rfl
    rw [g115.1, g115.2]
    refine dk_sub (L0 := [some (dk_r G 0 40), some (.ref (dk_tL G)), none, none, some (.int x4), some (.int x5), some (.int y0), none]) ⟨rfl, ⟨rfl, ⟨rfl, ⟨rfl, ⟨rfl, trivial⟩⟩⟩⟩⟩ ?_
    exact ww_L_tells_355 C ht hr hlk hl hri hN hB hE401 x4 x5 y0 (dl_lo (x5 >>> (2 &&& 31)) 8) s h
  · have h := h.2 c116
    refine dk_bipush (v := 6) C dL_tells_341 (n := 343) rfl (by decide) ?_
    refine dk_goto (t := 355) C dL_tells_343 (by decide) ?_
    refine dk_sub (L0 := [some (dk_r G 0 40), some (.ref (dk_tL G)), none, none, some (.int x4), some (.int x5), some (.int y0), none]) ⟨rfl, ⟨rfl, ⟨rfl, ⟨rfl, ⟨rfl, trivial⟩⟩⟩⟩⟩ ?_
    exact ww_L_tells_355 C ht hr hlk hl hri hN hB hE401 x4 x5 y0 6 s h
set_option maxRecDepth 20000 in
set_option maxHeartbeats 4000000 in
theorem ww_L_tells_294 {G : dk_G} {P : Program} {l : Launch} {e : Env} {S0 : State} {m : MethodId} {args : Array Value} {bel : List Frame} {meth : Method} {c : Code}  (C : dk_C G P (dk_rx 8) S0 m args c 0 0 cL_tells 8 RL) (ht : ∀ x ∈ c.exceptionTable.toList, False) (hr : meth.sig.returnType = none) (hlk : meth.locks = false) (hl : l.stackTraces = false) (hri : dk_RI G) (hN : dk_tN G ≤ 260) {K : dk_S → Prop} {X : String → dk_S → Prop} {E401 : dk_S → Prop} (hE401 : ∀ (s : dk_S), E401 s → dk_W G P l e (dk_rx 8) S0 m args bel meth c 0 0 (zx_MQ bel (dk_Qc G (dk_kv K)) (dk_XC G X) args S0 1 6 (dk_A G)) 401 [some (dk_r G 0 40), some (.ref (dk_tL G)), none, none, none, none, none, none] [] s) : ∀ (n : Nat) (x4 : Int32) (s : dk_S), wf_L_tells_294 G K X E401 n x4 s → dk_W G P l e (dk_rx 8) S0 m args bel meth c 0 0 (zx_MQ bel (dk_Qc G (dk_kv K)) (dk_XC G X) args S0 1 6 (dk_A G)) 294 [some (dk_r G 0 40), some (.ref (dk_tL G)), none, none, some (.int x4), none, none, none] [] s := by
  intro n
  induction n with
  | zero => intro x4 s h; exact False.elim h
  | succ n hB =>
    intro x4 s h
    unfold wf_L_tells_294 at h
    refine dk_iload C dL_tells_294 (n := 296) rfl (i := 4) rfl ?_
    refine dk_bipush (v := 9) C dL_tells_296 (n := 298) rfl (by decide) ?_
    refine dk_icmp_ge (t := 401) C dL_tells_298 (n := 301) rfl (by decide) (fun c53 => ?_) (fun c53 => ?_)
    · have h := h.1 c53
      refine dk_sub (L0 := [some (dk_r G 0 40), some (.ref (dk_tL G)), none, none, none, none, none, none]) ⟨rfl, ⟨rfl, trivial⟩⟩ ?_
      exact hE401  s h
    · have h := h.2 c53
      refine dk_aload_n (i := 1) C dL_tells_301 (n := 302) rfl rfl rfl ?_
      refine dk_bipush (v := 24) C dL_tells_302 (n := 304) rfl (by decide) ?_
      refine dk_iload C dL_tells_304 (n := 306) rfl (i := 4) rfl ?_
      refine dk_iadd C dL_tells_306 (n := 307) rfl ?_
      refine dk_callSi C [] (cc_L_cell (K := fun r σ => r = dl_cl G ((24 : Int32) + x4) ∧ σ = s) C.D hN h.1 ⟨rfl, rfl⟩) yy_L_cell dk_wm_L_9 dL_tells_307 (fun r44 s45 g46 => ?_) rfl ⟨Nat.le_of_ble_eq_true rfl, Nat.le_of_ble_eq_true rfl⟩ rfl (Nat.le_of_ble_eq_true rfl) rfl (n := 310) rfl
      have h := h.2
      rw [g46.1, g46.2]
      refine dk_name (fun v47 ev47 => ?_)
      have h := h v47 ev47
      refine dk_istore (i := 5) (L' := [some (dk_r G 0 40), some (.ref (dk_tL G)), none, none, some (.int x4), some (.int v47), none, none]) C dL_tells_310 (n := 312) rfl (dk_nc_of rfl) (Nat.le_of_ble_eq_true rfl) rfl ?_
      refine dk_iload C dL_tells_312 (n := 314) rfl (i := 4) rfl ?_
      refine dk_iconst (v := 2) C dL_tells_314 (n := 315) rfl (by decide) ?_
      refine dk_icmp_le (t := 331) C dL_tells_315 (n := 318) rfl (by decide) (fun c52 => ?_) (fun c52 => ?_)
      · have h := h.1 c52
        refine dk_iconst (v := 0) C dL_tells_331 (n := 332) rfl (by decide) ?_
        refine dk_sub (L0 := [some (dk_r G 0 40), some (.ref (dk_tL G)), none, none, some (.int x4), some (.int v47), none, none]) ⟨rfl, ⟨rfl, ⟨rfl, ⟨rfl, trivial⟩⟩⟩⟩ ?_
        exact ww_L_tells_332 C ht hr hlk hl hri hN hB hE401 x4 v47 0 s h
      · have h := h.2 c52
        refine dk_iload C dL_tells_318 (n := 320) rfl (i := 5) rfl ?_
        refine dk_iconst (v := 4) C dL_tells_320 (n := 321) rfl (by decide) ?_
        refine dk_callSi C [] (cc_L_low (K := fun r σ => r = dl_lo v47 4 ∧ σ = s) C.D (by decide) ⟨rfl, rfl⟩) yy_L_low dk_wm_L_17 dL_tells_321 (fun r48 s49 g50 => ?_) rfl ⟨Nat.le_of_ble_eq_true rfl, Nat.le_of_ble_eq_true rfl⟩ rfl (Nat.le_of_ble_eq_true rfl) rfl (n := 324) rfl
        rw [g50.1, g50.2]
        refine dk_if_ne (t := 331) C dL_tells_324 (n := 327) rfl (by decide) (fun c51 => ?_) (fun c51 => ?_)
        · have h := h.1 c51
          refine dk_iconst (v := 0) C dL_tells_331 (n := 332) rfl (by decide) ?_
          refine dk_sub (L0 := [some (dk_r G 0 40), some (.ref (dk_tL G)), none, none, some (.int x4), some (.int v47), none, none]) ⟨rfl, ⟨rfl, ⟨rfl, ⟨rfl, trivial⟩⟩⟩⟩ ?_
          exact ww_L_tells_332 C ht hr hlk hl hri hN hB hE401 x4 v47 0 s h
        · have h := h.2 c51
          refine dk_iconst (v := 1) C dL_tells_327 (n := 328) rfl (by decide) ?_
          refine dk_goto (t := 332) C dL_tells_328 (by decide) ?_
          refine dk_sub (L0 := [some (dk_r G 0 40), some (.ref (dk_tL G)), none, none, some (.int x4), some (.int v47), none, none]) ⟨rfl, ⟨rfl, ⟨rfl, ⟨rfl, trivial⟩⟩⟩⟩ ?_
          exact ww_L_tells_332 C ht hr hlk hl hri hN hB hE401 x4 v47 1 s h
set_option maxRecDepth 20000 in
set_option maxHeartbeats 4000000 in
theorem ww_L_tells_204 {G : dk_G} {P : Program} {l : Launch} {e : Env} {S0 : State} {m : MethodId} {args : Array Value} {bel : List Frame} {meth : Method} {c : Code}  (C : dk_C G P (dk_rx 8) S0 m args c 0 0 cL_tells 8 RL) (ht : ∀ x ∈ c.exceptionTable.toList, False) (hr : meth.sig.returnType = none) (hlk : meth.locks = false) (hl : l.stackTraces = false) (hri : dk_RI G) (hN : dk_tN G ≤ 260) {K : dk_S → Prop} {X : String → dk_S → Prop} {E291 : dk_S → Prop} (hE291 : ∀ (s : dk_S), E291 s → dk_W G P l e (dk_rx 8) S0 m args bel meth c 0 0 (zx_MQ bel (dk_Qc G (dk_kv K)) (dk_XC G X) args S0 1 6 (dk_A G)) 291 [some (dk_r G 0 40), some (.ref (dk_tL G)), none, none, none, none, none, none] [] s) : ∀ (n : Nat) (x4 : Int32) (s : dk_S), wf_L_tells_204 G K X E291 n x4 s → dk_W G P l e (dk_rx 8) S0 m args bel meth c 0 0 (zx_MQ bel (dk_Qc G (dk_kv K)) (dk_XC G X) args S0 1 6 (dk_A G)) 204 [some (dk_r G 0 40), some (.ref (dk_tL G)), none, none, some (.int x4), none, none, none] [] s := by
  intro n
  induction n with
  | zero => intro x4 s h; exact False.elim h
  | succ n hB =>
    intro x4 s h
    unfold wf_L_tells_204 at h
    refine dk_iload C dL_tells_204 (n := 206) rfl (i := 4) rfl ?_
    refine dk_aload_n (i := 1) C dL_tells_206 (n := 207) rfl rfl rfl ?_
    refine dk_bipush (v := 19) C dL_tells_207 (n := 209) rfl (by decide) ?_
    refine dk_callSi C [.int x4] (cc_L_cell (K := fun r σ => r = dl_cl G 19 ∧ σ = s) C.D hN h.1 ⟨rfl, rfl⟩) yy_L_cell dk_wm_L_9 dL_tells_209 (fun r54 s55 g56 => ?_) rfl ⟨Nat.le_of_ble_eq_true rfl, Nat.le_of_ble_eq_true rfl⟩ rfl (Nat.le_of_ble_eq_true rfl) rfl (n := 212) rfl
    have h := h.2
    rw [g56.1, g56.2]
    refine dk_iconst (v := 4) C dL_tells_212 (n := 213) rfl (by decide) ?_
    refine dk_callSi C [.int x4] (cc_L_low (K := fun r σ => r = dl_lo (dl_cl G 19) 4 ∧ σ = s) C.D (by decide) ⟨rfl, rfl⟩) yy_L_low dk_wm_L_17 dL_tells_213 (fun r57 s58 g59 => ?_) rfl ⟨Nat.le_of_ble_eq_true rfl, Nat.le_of_ble_eq_true rfl⟩ rfl (Nat.le_of_ble_eq_true rfl) rfl (n := 216) rfl
    rw [g59.1, g59.2]
    refine dk_icmp_ge (t := 291) C dL_tells_216 (n := 219) rfl (by decide) (fun c82 => ?_) (fun c82 => ?_)
    · have h := h.1 c82
      refine dk_sub (L0 := [some (dk_r G 0 40), some (.ref (dk_tL G)), none, none, none, none, none, none]) ⟨rfl, ⟨rfl, trivial⟩⟩ ?_
      exact hE291  s h
    · have h := h.2 c82
      refine dk_aload_n (i := 1) C dL_tells_219 (n := 220) rfl rfl rfl ?_
      refine dk_bipush (v := 20) C dL_tells_220 (n := 222) rfl (by decide) ?_
      refine dk_iload C dL_tells_222 (n := 224) rfl (i := 4) rfl ?_
      refine dk_iadd C dL_tells_224 (n := 225) rfl ?_
      refine dk_callSi C [] (cc_L_cell (K := fun r σ => r = dl_cl G ((20 : Int32) + x4) ∧ σ = s) C.D hN h.1 ⟨rfl, rfl⟩) yy_L_cell dk_wm_L_9 dL_tells_225 (fun r60 s61 g62 => ?_) rfl ⟨Nat.le_of_ble_eq_true rfl, Nat.le_of_ble_eq_true rfl⟩ rfl (Nat.le_of_ble_eq_true rfl) rfl (n := 228) rfl
      have h := h.2
      rw [g62.1, g62.2]
      refine dk_name (fun v63 ev63 => ?_)
      have h := h v63 ev63
      refine dk_istore (i := 5) (L' := [some (dk_r G 0 40), some (.ref (dk_tL G)), none, none, some (.int x4), some (.int v63), none, none]) C dL_tells_228 (n := 230) rfl (dk_nc_of rfl) (Nat.le_of_ble_eq_true rfl) rfl ?_
      refine dk_aload_n (i := 0) C dL_tells_230 (n := 231) rfl rfl rfl ?_
      refine dk_iload C dL_tells_231 (n := 233) rfl (i := 5) rfl ?_
      refine dk_bipush (v := 6) C dL_tells_233 (n := 235) rfl (by decide) ?_
      refine dk_callSi C [dk_r G 0 40] (cc_L_low (K := fun r σ => r = dl_lo v63 6 ∧ σ = s) C.D (by decide) ⟨rfl, rfl⟩) yy_L_low dk_wm_L_17 dL_tells_235 (fun r64 s65 g66 => ?_) rfl ⟨Nat.le_of_ble_eq_true rfl, Nat.le_of_ble_eq_true rfl⟩ rfl (Nat.le_of_ble_eq_true rfl) rfl (n := 238) rfl
      rw [g66.1, g66.2]
      refine dk_iload C dL_tells_238 (n := 240) rfl (i := 5) rfl ?_
      refine dk_iconst (v := 3) C dL_tells_240 (n := 241) rfl (by decide) ?_
      refine dk_ishr C dL_tells_241 (n := 242) rfl ?_
      refine dk_bipush (v := 6) C dL_tells_242 (n := 244) rfl (by decide) ?_
      refine dk_callSi C [.int (dl_lo v63 6), dk_r G 0 40] (cc_L_low (K := fun r σ => r = dl_lo (v63 >>> (3 &&& 31)) 6 ∧ σ = s) C.D (by decide) ⟨rfl, rfl⟩) yy_L_low dk_wm_L_17 dL_tells_244 (fun r67 s68 g69 => ?_) rfl ⟨Nat.le_of_ble_eq_true rfl, Nat.le_of_ble_eq_true rfl⟩ rfl (Nat.le_of_ble_eq_true rfl) rfl (n := 247) rfl
      rw [g69.1, g69.2]
      refine dk_iconst (v := 1) C dL_tells_247 (n := 248) rfl (by decide) ?_
      refine dk_iload C dL_tells_248 (n := 250) rfl (i := 5) rfl ?_
      refine dk_bipush (v := 6) C dL_tells_250 (n := 252) rfl (by decide) ?_
      refine dk_ishr C dL_tells_252 (n := 253) rfl ?_
      refine dk_bipush (v := 24) C dL_tells_253 (n := 255) rfl (by decide) ?_
      refine dk_callSi C [.int 1, .int (dl_lo (v63 >>> (3 &&& 31)) 6), .int (dl_lo v63 6), dk_r G 0 40] (cc_L_low (K := fun r σ => r = dl_lo (v63 >>> (6 &&& 31)) 24 ∧ σ = s) C.D (by decide) ⟨rfl, rfl⟩) yy_L_low dk_wm_L_17 dL_tells_255 (fun r70 s71 g72 => ?_) rfl ⟨Nat.le_of_ble_eq_true rfl, Nat.le_of_ble_eq_true rfl⟩ rfl (Nat.le_of_ble_eq_true rfl) rfl (n := 258) rfl
      rw [g72.1, g72.2]
      refine dk_iadd C dL_tells_258 (n := 259) rfl ?_
      refine dk_iload C dL_tells_259 (n := 261) rfl (i := 5) rfl ?_
      refine dk_bipush (v := 11) C dL_tells_261 (n := 263) rfl (by decide) ?_
      refine dk_ishr C dL_tells_263 (n := 264) rfl ?_
      refine dk_iconst (v := 5) C dL_tells_264 (n := 265) rfl (by decide) ?_
      refine dk_callSi C [.int ((1 : Int32) + (dl_lo (v63 >>> (6 &&& 31)) 24)), .int (dl_lo (v63 >>> (3 &&& 31)) 6), .int (dl_lo v63 6), dk_r G 0 40] (cc_L_low (K := fun r σ => r = dl_lo (v63 >>> (11 &&& 31)) 5 ∧ σ = s) C.D (by decide) ⟨rfl, rfl⟩) yy_L_low dk_wm_L_17 dL_tells_265 (fun r73 s74 g75 => ?_) rfl ⟨Nat.le_of_ble_eq_true rfl, Nat.le_of_ble_eq_true rfl⟩ rfl (Nat.le_of_ble_eq_true rfl) rfl (n := 268) rfl
      rw [g75.1, g75.2]
      refine dk_iconst (v := 1) C dL_tells_268 (n := 269) rfl (by decide) ?_
      refine dk_iload C dL_tells_269 (n := 271) rfl (i := 5) rfl ?_
      refine dk_bipush (v := 14) C dL_tells_271 (n := 273) rfl (by decide) ?_
      refine dk_ishr C dL_tells_273 (n := 274) rfl ?_
      refine dk_bipush (v := 30) C dL_tells_274 (n := 276) rfl (by decide) ?_
      refine dk_callSi C [.int 1, .int (dl_lo (v63 >>> (11 &&& 31)) 5), .int ((1 : Int32) + (dl_lo (v63 >>> (6 &&& 31)) 24)), .int (dl_lo (v63 >>> (3 &&& 31)) 6), .int (dl_lo v63 6), dk_r G 0 40] (cc_L_low (K := fun r σ => r = dl_lo (v63 >>> (14 &&& 31)) 30 ∧ σ = s) C.D (by decide) ⟨rfl, rfl⟩) yy_L_low dk_wm_L_17 dL_tells_276 (fun r76 s77 g78 => ?_) rfl ⟨Nat.le_of_ble_eq_true rfl, Nat.le_of_ble_eq_true rfl⟩ rfl (Nat.le_of_ble_eq_true rfl) rfl (n := 279) rfl
      rw [g78.1, g78.2]
      refine dk_iadd C dL_tells_279 (n := 280) rfl ?_
      refine dk_xcallVi C ht hlk [] (cc_X8_addBeast C.D hl hri h) yy_X8_addBeast dk_wm_L_47 dk_sh40 (hri.1 40 (by decide) (by decide)) dL_tells_280 (fun r80 s79 h => ?_) rfl rfl ⟨Nat.le_of_ble_eq_true rfl, Nat.le_of_ble_eq_true rfl⟩ ⟨Nat.le_of_ble_eq_true rfl, Nat.le_of_ble_eq_true rfl⟩ rfl (Nat.le_of_ble_eq_true rfl) rfl (n := 283) rfl
      refine dk_istore (i := 6) (L' := [some (dk_r G 0 40), some (.ref (dk_tL G)), none, none, some (.int x4), some (.int v63), some (.int r80), none]) C dL_tells_283 (n := 285) rfl (dk_nc_of rfl) (Nat.le_of_ble_eq_true rfl) rfl ?_
      obtain ⟨v81, ev81⟩ : ∃ y : Int32, y = x4 + 1 := ⟨_, rfl⟩
      have h := h v81 ev81
      refine dk_iinc (i := 4) (v := v81) (L' := [some (dk_r G 0 40), some (.ref (dk_tL G)), none, none, some (.int v81), some (.int v63), some (.int r80), none]) C dL_tells_285 (n := 288) rfl rfl (by rw [ev81]; rfl) (dk_nc_of rfl) (Nat.le_of_ble_eq_true rfl) rfl ?_
      refine dk_goto (t := 204) C dL_tells_288 (by decide) ?_
      refine dk_sub (L0 := [some (dk_r G 0 40), some (.ref (dk_tL G)), none, none, some (.int v81), none, none, none]) ⟨rfl, ⟨rfl, ⟨rfl, trivial⟩⟩⟩ ?_
      exact hB v81 s79 h
set_option maxRecDepth 20000 in
set_option maxHeartbeats 4000000 in
theorem ww_L_tells_103 {G : dk_G} {P : Program} {l : Launch} {e : Env} {S0 : State} {m : MethodId} {args : Array Value} {bel : List Frame} {meth : Method} {c : Code}  (C : dk_C G P (dk_rx 8) S0 m args c 0 0 cL_tells 8 RL) (ht : ∀ x ∈ c.exceptionTable.toList, False) (hr : meth.sig.returnType = none) (hlk : meth.locks = false) (hl : l.stackTraces = false) (hri : dk_RI G) (hN : dk_tN G ≤ 260) {K : dk_S → Prop} {X : String → dk_S → Prop} {B : Int32 → dk_S → Prop} {E164 : dk_S → Prop} (hB : ∀ (x2 : Int32) (s : dk_S), B x2 s → dk_W G P l e (dk_rx 8) S0 m args bel meth c 0 0 (zx_MQ bel (dk_Qc G (dk_kv K)) (dk_XC G X) args S0 1 6 (dk_A G)) 65 [some (dk_r G 0 40), some (.ref (dk_tL G)), some (.int x2), none, none, none, none, none] [] s) (hE164 : ∀ (s : dk_S), E164 s → dk_W G P l e (dk_rx 8) S0 m args bel meth c 0 0 (zx_MQ bel (dk_Qc G (dk_kv K)) (dk_XC G X) args S0 1 6 (dk_A G)) 164 [some (dk_r G 0 40), some (.ref (dk_tL G)), none, none, none, none, none, none] [] s) : ∀ (x2 : Int32) (x3 : Int32) (y0 : Int32) (y1 : Int32) (y2 : Int32) (s : dk_S), wf_L_tells_103 G K X B E164 x2 x3 y0 y1 y2 s → dk_W G P l e (dk_rx 8) S0 m args bel meth c 0 0 (zx_MQ bel (dk_Qc G (dk_kv K)) (dk_XC G X) args S0 1 6 (dk_A G)) 103 [some (dk_r G 0 40), some (.ref (dk_tL G)), some (.int x2), some (.int x3), none, none, none, none] [.int y0, .int y1, .int y2, dk_r G 0 40] s := by
  intro x2 x3 y0 y1 y2 s h
  unfold wf_L_tells_103 at h
  refine dk_xcallVi C ht hlk [] (cc_X8_setKind C.D hl hri h) yy_X8_setKind dk_wm_L_33 dk_sh40 (hri.1 40 (by decide) (by decide)) dL_tells_103 (fun r118 s117 h => ?_) rfl rfl ⟨Nat.le_of_ble_eq_true rfl, Nat.le_of_ble_eq_true rfl⟩ ⟨Nat.le_of_ble_eq_true rfl, Nat.le_of_ble_eq_true rfl⟩ rfl (Nat.le_of_ble_eq_true rfl) rfl (n := 106) rfl
  refine dk_istore (i := 4) (L' := [some (dk_r G 0 40), some (.ref (dk_tL G)), some (.int x2), some (.int x3), some (.int r118), none, none, none]) C dL_tells_106 (n := 108) rfl (dk_nc_of rfl) (Nat.le_of_ble_eq_true rfl) rfl ?_
  refine dk_iload_n (i := 2) C dL_tells_108 (n := 109) rfl rfl rfl ?_
  refine dk_iconst (v := 2) C dL_tells_109 (n := 110) rfl (by decide) ?_
  refine dk_icmp_le (t := 158) C dL_tells_110 (n := 113) rfl (by decide) (fun c137 => ?_) (fun c137 => ?_)
  · have h := h.1 c137
    obtain ⟨v119, ev119⟩ : ∃ y : Int32, y = x2 + 1 := ⟨_, rfl⟩
    have h := h v119 ev119
    refine dk_iinc (i := 2) (v := v119) (L' := [some (dk_r G 0 40), some (.ref (dk_tL G)), some (.int v119), some (.int x3), some (.int r118), none, none, none]) C dL_tells_158 (n := 161) rfl rfl (by rw [ev119]; rfl) (dk_nc_of rfl) (Nat.le_of_ble_eq_true rfl) rfl ?_
    refine dk_goto (t := 65) C dL_tells_161 (by decide) ?_
    refine dk_sub (L0 := [some (dk_r G 0 40), some (.ref (dk_tL G)), some (.int v119), none, none, none, none, none]) ⟨rfl, ⟨rfl, ⟨rfl, trivial⟩⟩⟩ ?_
    exact hB v119 s117 h
  · have h := h.2 c137
    refine dk_iload_n (i := 2) C dL_tells_113 (n := 114) rfl rfl rfl ?_
    refine dk_bipush (v := 6) C dL_tells_114 (n := 116) rfl (by decide) ?_
    refine dk_icmp_ge (t := 158) C dL_tells_116 (n := 119) rfl (by decide) (fun c136 => ?_) (fun c136 => ?_)
    · have h := h.1 c136
      obtain ⟨v120, ev120⟩ : ∃ y : Int32, y = x2 + 1 := ⟨_, rfl⟩
      have h := h v120 ev120
      refine dk_iinc (i := 2) (v := v120) (L' := [some (dk_r G 0 40), some (.ref (dk_tL G)), some (.int v120), some (.int x3), some (.int r118), none, none, none]) C dL_tells_158 (n := 161) rfl rfl (by rw [ev120]; rfl) (dk_nc_of rfl) (Nat.le_of_ble_eq_true rfl) rfl ?_
      refine dk_goto (t := 65) C dL_tells_161 (by decide) ?_
      refine dk_sub (L0 := [some (dk_r G 0 40), some (.ref (dk_tL G)), some (.int v120), none, none, none, none, none]) ⟨rfl, ⟨rfl, ⟨rfl, trivial⟩⟩⟩ ?_
      exact hB v120 s117 h
    · have h := h.2 c136
      refine dk_aload_n (i := 0) C dL_tells_119 (n := 120) rfl rfl rfl ?_
      refine dk_iload_n (i := 2) C dL_tells_120 (n := 121) rfl rfl rfl ?_
      refine dk_sldc C C.2.2.2.2.2.1.2.2.2.2.1.2 dL_tells_121 (n := 123) rfl ?_
      refine dk_iload_n (i := 3) C dL_tells_123 (n := 124) rfl rfl rfl ?_
      refine dk_bipush (v := 6) C dL_tells_124 (n := 126) rfl (by decide) ?_
      refine dk_ishr C dL_tells_126 (n := 127) rfl ?_
      refine dk_iconst (v := 5) C dL_tells_127 (n := 128) rfl (by decide) ?_
      refine dk_callSi C [.ref (dk_aK G 1), .int x2, dk_r G 0 40] (cc_L_low (K := fun r σ => r = dl_lo (x3 >>> (6 &&& 31)) 5 ∧ σ = s117) C.D (by decide) ⟨rfl, rfl⟩) yy_L_low dk_wm_L_17 dL_tells_128 (fun r121 s122 g123 => ?_) rfl ⟨Nat.le_of_ble_eq_true rfl, Nat.le_of_ble_eq_true rfl⟩ rfl (Nat.le_of_ble_eq_true rfl) rfl (n := 131) rfl
      rw [g123.1, g123.2]
      refine dk_callK C [.int x2, dk_r G 0 40] (cc_J0_charAt (K := fun r σ => r = dl_ch 1 (dl_lo (x3 >>> (6 &&& 31)) 5) ∧ σ = s117) C.D (by decide) h.1 ⟨rfl, rfl⟩) (by decide) rfl yy_J0_charAt_5068e dk_wm_L_21 dL_tells_131 (fun r124 s125 g126 => ?_) rfl ⟨Nat.le_of_ble_eq_true rfl, Nat.le_of_ble_eq_true rfl⟩ rfl (Nat.le_of_ble_eq_true rfl) rfl (n := 134) rfl
      have h := h.2
      rw [g126.1, g126.2]
      refine dk_iconst (v := 1) C dL_tells_134 (n := 135) rfl (by decide) ?_
      refine dk_iload_n (i := 3) C dL_tells_135 (n := 136) rfl rfl rfl ?_
      refine dk_bipush (v := 9) C dL_tells_136 (n := 138) rfl (by decide) ?_
      refine dk_ishr C dL_tells_138 (n := 139) rfl ?_
      refine dk_bipush (v := 20) C dL_tells_139 (n := 141) rfl (by decide) ?_
      refine dk_callSi C [.int 1, .int (dl_ch 1 (dl_lo (x3 >>> (6 &&& 31)) 5)), .int x2, dk_r G 0 40] (cc_L_low (K := fun r σ => r = dl_lo (x3 >>> (9 &&& 31)) 20 ∧ σ = s117) C.D (by decide) ⟨rfl, rfl⟩) yy_L_low dk_wm_L_17 dL_tells_141 (fun r127 s128 g129 => ?_) rfl ⟨Nat.le_of_ble_eq_true rfl, Nat.le_of_ble_eq_true rfl⟩ rfl (Nat.le_of_ble_eq_true rfl) rfl (n := 144) rfl
      rw [g129.1, g129.2]
      refine dk_iadd C dL_tells_144 (n := 145) rfl ?_
      refine dk_iload_n (i := 3) C dL_tells_145 (n := 146) rfl rfl rfl ?_
      refine dk_bipush (v := 14) C dL_tells_146 (n := 148) rfl (by decide) ?_
      refine dk_ishr C dL_tells_148 (n := 149) rfl ?_
      refine dk_iconst (v := 4) C dL_tells_149 (n := 150) rfl (by decide) ?_
      refine dk_callSi C [.int ((1 : Int32) + (dl_lo (x3 >>> (9 &&& 31)) 20)), .int (dl_ch 1 (dl_lo (x3 >>> (6 &&& 31)) 5)), .int x2, dk_r G 0 40] (cc_L_low (K := fun r σ => r = dl_lo (x3 >>> (14 &&& 31)) 4 ∧ σ = s117) C.D (by decide) ⟨rfl, rfl⟩) yy_L_low dk_wm_L_17 dL_tells_150 (fun r130 s131 g132 => ?_) rfl ⟨Nat.le_of_ble_eq_true rfl, Nat.le_of_ble_eq_true rfl⟩ rfl (Nat.le_of_ble_eq_true rfl) rfl (n := 153) rfl
      rw [g132.1, g132.2]
      refine dk_xcallVi C ht hlk [] (cc_X8_setEffect C.D hl hri h) yy_X8_setEffect dk_wm_L_39 dk_sh40 (hri.1 40 (by decide) (by decide)) dL_tells_153 (fun r134 s133 h => ?_) rfl rfl ⟨Nat.le_of_ble_eq_true rfl, Nat.le_of_ble_eq_true rfl⟩ ⟨Nat.le_of_ble_eq_true rfl, Nat.le_of_ble_eq_true rfl⟩ rfl (Nat.le_of_ble_eq_true rfl) rfl (n := 156) rfl
      refine dk_istore (i := 5) (L' := [some (dk_r G 0 40), some (.ref (dk_tL G)), some (.int x2), some (.int x3), some (.int r118), some (.int r134), none, none]) C dL_tells_156 (n := 158) rfl (dk_nc_of rfl) (Nat.le_of_ble_eq_true rfl) rfl ?_
      obtain ⟨v135, ev135⟩ : ∃ y : Int32, y = x2 + 1 := ⟨_, rfl⟩
      have h := h v135 ev135
      refine dk_iinc (i := 2) (v := v135) (L' := [some (dk_r G 0 40), some (.ref (dk_tL G)), some (.int v135), some (.int x3), some (.int r118), some (.int r134), none, none]) C dL_tells_158 (n := 161) rfl rfl (by rw [ev135]; rfl) (dk_nc_of rfl) (Nat.le_of_ble_eq_true rfl) rfl ?_
      refine dk_goto (t := 65) C dL_tells_161 (by decide) ?_
      refine dk_sub (L0 := [some (dk_r G 0 40), some (.ref (dk_tL G)), some (.int v135), none, none, none, none, none]) ⟨rfl, ⟨rfl, ⟨rfl, trivial⟩⟩⟩ ?_
      exact hB v135 s133 h
set_option maxRecDepth 20000 in
set_option maxHeartbeats 4000000 in
theorem ww_L_tells_65 {G : dk_G} {P : Program} {l : Launch} {e : Env} {S0 : State} {m : MethodId} {args : Array Value} {bel : List Frame} {meth : Method} {c : Code}  (C : dk_C G P (dk_rx 8) S0 m args c 0 0 cL_tells 8 RL) (ht : ∀ x ∈ c.exceptionTable.toList, False) (hr : meth.sig.returnType = none) (hlk : meth.locks = false) (hl : l.stackTraces = false) (hri : dk_RI G) (hN : dk_tN G ≤ 260) {K : dk_S → Prop} {X : String → dk_S → Prop} {E164 : dk_S → Prop} (hE164 : ∀ (s : dk_S), E164 s → dk_W G P l e (dk_rx 8) S0 m args bel meth c 0 0 (zx_MQ bel (dk_Qc G (dk_kv K)) (dk_XC G X) args S0 1 6 (dk_A G)) 164 [some (dk_r G 0 40), some (.ref (dk_tL G)), none, none, none, none, none, none] [] s) : ∀ (n : Nat) (x2 : Int32) (s : dk_S), wf_L_tells_65 G K X E164 n x2 s → dk_W G P l e (dk_rx 8) S0 m args bel meth c 0 0 (zx_MQ bel (dk_Qc G (dk_kv K)) (dk_XC G X) args S0 1 6 (dk_A G)) 65 [some (dk_r G 0 40), some (.ref (dk_tL G)), some (.int x2), none, none, none, none, none] [] s := by
  intro n
  induction n with
  | zero => intro x2 s h; exact False.elim h
  | succ n hB =>
    intro x2 s h
    unfold wf_L_tells_65 at h
    refine dk_iload_n (i := 2) C dL_tells_65 (n := 66) rfl rfl rfl ?_
    refine dk_bipush (v := 8) C dL_tells_66 (n := 68) rfl (by decide) ?_
    refine dk_icmp_ge (t := 164) C dL_tells_68 (n := 71) rfl (by decide) (fun c94 => ?_) (fun c94 => ?_)
    · have h := h.1 c94
      refine dk_sub (L0 := [some (dk_r G 0 40), some (.ref (dk_tL G)), none, none, none, none, none, none]) ⟨rfl, ⟨rfl, trivial⟩⟩ ?_
      exact hE164  s h
    · have h := h.2 c94
      refine dk_aload_n (i := 1) C dL_tells_71 (n := 72) rfl rfl rfl ?_
      refine dk_bipush (v := 10) C dL_tells_72 (n := 74) rfl (by decide) ?_
      refine dk_iload_n (i := 2) C dL_tells_74 (n := 75) rfl rfl rfl ?_
      refine dk_iadd C dL_tells_75 (n := 76) rfl ?_
      refine dk_callSi C [] (cc_L_cell (K := fun r σ => r = dl_cl G ((10 : Int32) + x2) ∧ σ = s) C.D hN h.1 ⟨rfl, rfl⟩) yy_L_cell dk_wm_L_9 dL_tells_76 (fun r83 s84 g85 => ?_) rfl ⟨Nat.le_of_ble_eq_true rfl, Nat.le_of_ble_eq_true rfl⟩ rfl (Nat.le_of_ble_eq_true rfl) rfl (n := 79) rfl
      have h := h.2
      rw [g85.1, g85.2]
      refine dk_name (fun v86 ev86 => ?_)
      have h := h v86 ev86
      refine dk_istore_n (i := 3) (L' := [some (dk_r G 0 40), some (.ref (dk_tL G)), some (.int x2), some (.int v86), none, none, none, none]) C dL_tells_79 (n := 80) rfl rfl (dk_nc_of rfl) (Nat.le_of_ble_eq_true rfl) rfl ?_
      refine dk_aload_n (i := 0) C dL_tells_80 (n := 81) rfl rfl rfl ?_
      refine dk_iload_n (i := 2) C dL_tells_81 (n := 82) rfl rfl rfl ?_
      refine dk_iload_n (i := 3) C dL_tells_82 (n := 83) rfl rfl rfl ?_
      refine dk_bipush (v := 10) C dL_tells_83 (n := 85) rfl (by decide) ?_
      refine dk_callSi C [.int x2, dk_r G 0 40] (cc_L_low (K := fun r σ => r = dl_lo v86 10 ∧ σ = s) C.D (by decide) ⟨rfl, rfl⟩) yy_L_low dk_wm_L_17 dL_tells_85 (fun r87 s88 g89 => ?_) rfl ⟨Nat.le_of_ble_eq_true rfl, Nat.le_of_ble_eq_true rfl⟩ rfl (Nat.le_of_ble_eq_true rfl) rfl (n := 88) rfl
      rw [g89.1, g89.2]
      refine dk_iload_n (i := 3) C dL_tells_88 (n := 89) rfl rfl rfl ?_
      refine dk_iconst (v := 4) C dL_tells_89 (n := 90) rfl (by decide) ?_
      refine dk_ishr C dL_tells_90 (n := 91) rfl ?_
      refine dk_iconst (v := 2) C dL_tells_91 (n := 92) rfl (by decide) ?_
      refine dk_callSi C [.int (dl_lo v86 10), .int x2, dk_r G 0 40] (cc_L_low (K := fun r σ => r = dl_lo (v86 >>> (4 &&& 31)) 2 ∧ σ = s) C.D (by decide) ⟨rfl, rfl⟩) yy_L_low dk_wm_L_17 dL_tells_92 (fun r90 s91 g92 => ?_) rfl ⟨Nat.le_of_ble_eq_true rfl, Nat.le_of_ble_eq_true rfl⟩ rfl (Nat.le_of_ble_eq_true rfl) rfl (n := 95) rfl
      rw [g92.1, g92.2]
      refine dk_if_ne (t := 102) C dL_tells_95 (n := 98) rfl (by decide) (fun c93 => ?_) (fun c93 => ?_)
      · have h := h.1 c93
        refine dk_iconst (v := 0) C dL_tells_102 (n := 103) rfl (by decide) ?_
        refine dk_sub (L0 := [some (dk_r G 0 40), some (.ref (dk_tL G)), some (.int x2), some (.int v86), none, none, none, none]) ⟨rfl, ⟨rfl, ⟨rfl, ⟨rfl, trivial⟩⟩⟩⟩ ?_
        exact ww_L_tells_103 C ht hr hlk hl hri hN hB hE164 x2 v86 0 (dl_lo v86 10) x2 s h
      · have h := h.2 c93
        refine dk_iconst (v := 1) C dL_tells_98 (n := 99) rfl (by decide) ?_
        refine dk_goto (t := 103) C dL_tells_99 (by decide) ?_
        refine dk_sub (L0 := [some (dk_r G 0 40), some (.ref (dk_tL G)), some (.int x2), some (.int v86), none, none, none, none]) ⟨rfl, ⟨rfl, ⟨rfl, ⟨rfl, trivial⟩⟩⟩⟩ ?_
        exact ww_L_tells_103 C ht hr hlk hl hri hN hB hE164 x2 v86 1 (dl_lo v86 10) x2 s h
set_option maxRecDepth 20000 in
set_option maxHeartbeats 4000000 in
theorem ww_L_tells_2 {G : dk_G} {P : Program} {l : Launch} {e : Env} {S0 : State} {m : MethodId} {args : Array Value} {bel : List Frame} {meth : Method} {c : Code}  (C : dk_C G P (dk_rx 8) S0 m args c 0 0 cL_tells 8 RL) (ht : ∀ x ∈ c.exceptionTable.toList, False) (hr : meth.sig.returnType = none) (hlk : meth.locks = false) (hl : l.stackTraces = false) (hri : dk_RI G) (hN : dk_tN G ≤ 260) {K : dk_S → Prop} {X : String → dk_S → Prop} {E63 : dk_S → Prop} (hE63 : ∀ (s : dk_S), E63 s → dk_W G P l e (dk_rx 8) S0 m args bel meth c 0 0 (zx_MQ bel (dk_Qc G (dk_kv K)) (dk_XC G X) args S0 1 6 (dk_A G)) 63 [some (dk_r G 0 40), some (.ref (dk_tL G)), none, none, none, none, none, none] [] s) : ∀ (n : Nat) (x2 : Int32) (s : dk_S), wf_L_tells_2 G K X E63 n x2 s → dk_W G P l e (dk_rx 8) S0 m args bel meth c 0 0 (zx_MQ bel (dk_Qc G (dk_kv K)) (dk_XC G X) args S0 1 6 (dk_A G)) 2 [some (dk_r G 0 40), some (.ref (dk_tL G)), some (.int x2), none, none, none, none, none] [] s := by
  intro n
  induction n with
  | zero => intro x2 s h; exact False.elim h
  | succ n hB =>
    intro x2 s h
    unfold wf_L_tells_2 at h
    refine dk_iload_n (i := 2) C dL_tells_2 (n := 3) rfl rfl rfl ?_
    refine dk_bipush (v := 36) C dL_tells_3 (n := 5) rfl (by decide) ?_
    refine dk_icmp_ge (t := 63) C dL_tells_5 (n := 8) rfl (by decide) (fun c112 => ?_) (fun c112 => ?_)
    · have h := h.1 c112
      refine dk_sub (L0 := [some (dk_r G 0 40), some (.ref (dk_tL G)), none, none, none, none, none, none]) ⟨rfl, ⟨rfl, trivial⟩⟩ ?_
      exact hE63  s h
    · have h := h.2 c112
      refine dk_aload_n (i := 1) C dL_tells_8 (n := 9) rfl rfl rfl ?_
      refine dk_iload_n (i := 2) C dL_tells_9 (n := 10) rfl rfl rfl ?_
      refine dk_iconst (v := 4) C dL_tells_10 (n := 11) rfl (by decide) ?_
      refine dk_idiv C dL_tells_11 (n := 12) rfl (by decide) ?_
      refine dk_callSi C [] (cc_L_cell (K := fun r σ => r = dl_cl G (x2 / 4) ∧ σ = s) C.D hN h.1 ⟨rfl, rfl⟩) yy_L_cell dk_wm_L_9 dL_tells_12 (fun r95 s96 g97 => ?_) rfl ⟨Nat.le_of_ble_eq_true rfl, Nat.le_of_ble_eq_true rfl⟩ rfl (Nat.le_of_ble_eq_true rfl) rfl (n := 15) rfl
      have h := h.2
      rw [g97.1, g97.2]
      refine dk_bipush (v := 7) C dL_tells_15 (n := 17) rfl (by decide) ?_
      refine dk_iload_n (i := 2) C dL_tells_17 (n := 18) rfl rfl rfl ?_
      refine dk_iconst (v := 4) C dL_tells_18 (n := 19) rfl (by decide) ?_
      refine dk_irem C dL_tells_19 (n := 20) rfl (by decide) ?_
      refine dk_imul C dL_tells_20 (n := 21) rfl ?_
      refine dk_ishr C dL_tells_21 (n := 22) rfl ?_
      refine dk_name (fun v98 ev98 => ?_)
      have h := h v98 ev98
      refine dk_istore_n (i := 3) (L' := [some (dk_r G 0 40), some (.ref (dk_tL G)), some (.int x2), some (.int v98), none, none, none, none]) C dL_tells_22 (n := 23) rfl rfl (dk_nc_of rfl) (Nat.le_of_ble_eq_true rfl) rfl ?_
      refine dk_aload_n (i := 0) C dL_tells_23 (n := 24) rfl rfl rfl ?_
      refine dk_iload_n (i := 2) C dL_tells_24 (n := 25) rfl rfl rfl ?_
      refine dk_bipush (v := 6) C dL_tells_25 (n := 27) rfl (by decide) ?_
      refine dk_irem C dL_tells_27 (n := 28) rfl (by decide) ?_
      refine dk_iload_n (i := 2) C dL_tells_28 (n := 29) rfl rfl rfl ?_
      refine dk_bipush (v := 6) C dL_tells_29 (n := 31) rfl (by decide) ?_
      refine dk_idiv C dL_tells_31 (n := 32) rfl (by decide) ?_
      refine dk_iload_n (i := 2) C dL_tells_32 (n := 33) rfl rfl rfl ?_
      refine dk_if_ne (t := 41) C dL_tells_33 (n := 36) rfl (by decide) (fun c111 => ?_) (fun c111 => ?_)
      · have h := h.1 c111
        refine dk_sldc C C.2.2.2.2.2.1.2.2.2.2.1.1 dL_tells_41 (n := 43) rfl ?_
        refine dk_iload_n (i := 3) C dL_tells_43 (n := 44) rfl rfl rfl ?_
        refine dk_bipush (v := 21) C dL_tells_44 (n := 46) rfl (by decide) ?_
        refine dk_callSi C [.ref (dk_aK G 2), .int (x2 / 6), .int (x2 - x2 / 6 * 6), dk_r G 0 40] (cc_L_low (K := fun r σ => r = dl_lo v98 21 ∧ σ = s) C.D (by decide) ⟨rfl, rfl⟩) yy_L_low dk_wm_L_17 dL_tells_46 (fun r99 s100 g101 => ?_) rfl ⟨Nat.le_of_ble_eq_true rfl, Nat.le_of_ble_eq_true rfl⟩ rfl (Nat.le_of_ble_eq_true rfl) rfl (n := 49) rfl
        rw [g101.1, g101.2]
        refine dk_callK C [.int (x2 / 6), .int (x2 - x2 / 6 * 6), dk_r G 0 40] (cc_J0_charAt (K := fun r σ => r = dl_ch 2 (dl_lo v98 21) ∧ σ = s) C.D (by decide) h.1 ⟨rfl, rfl⟩) (by decide) rfl yy_J0_charAt_5068e dk_wm_L_21 dL_tells_49 (fun r102 s103 g104 => ?_) rfl ⟨Nat.le_of_ble_eq_true rfl, Nat.le_of_ble_eq_true rfl⟩ rfl (Nat.le_of_ble_eq_true rfl) rfl (n := 52) rfl
        have h := h.2
        rw [g104.1, g104.2]
        refine dk_xcallVi C ht hlk [] (cc_X8_dig C.D hl hri h) yy_X8_dig dk_wm_L_27 dk_sh40 (hri.1 40 (by decide) (by decide)) dL_tells_52 (fun r106 s105 h => ?_) rfl rfl ⟨Nat.le_of_ble_eq_true rfl, Nat.le_of_ble_eq_true rfl⟩ ⟨Nat.le_of_ble_eq_true rfl, Nat.le_of_ble_eq_true rfl⟩ rfl (Nat.le_of_ble_eq_true rfl) rfl (n := 55) rfl
        refine dk_istore (i := 4) (L' := [some (dk_r G 0 40), some (.ref (dk_tL G)), some (.int x2), some (.int v98), some (.int r106), none, none, none]) C dL_tells_55 (n := 57) rfl (dk_nc_of rfl) (Nat.le_of_ble_eq_true rfl) rfl ?_
        obtain ⟨v107, ev107⟩ : ∃ y : Int32, y = x2 + 1 := ⟨_, rfl⟩
        have h := h v107 ev107
        refine dk_iinc (i := 2) (v := v107) (L' := [some (dk_r G 0 40), some (.ref (dk_tL G)), some (.int v107), some (.int v98), some (.int r106), none, none, none]) C dL_tells_57 (n := 60) rfl rfl (by rw [ev107]; rfl) (dk_nc_of rfl) (Nat.le_of_ble_eq_true rfl) rfl ?_
        refine dk_goto (t := 2) C dL_tells_60 (by decide) ?_
        refine dk_sub (L0 := [some (dk_r G 0 40), some (.ref (dk_tL G)), some (.int v107), none, none, none, none, none]) ⟨rfl, ⟨rfl, ⟨rfl, trivial⟩⟩⟩ ?_
        exact hB v107 s105 h
      · have h := h.2 c111
        refine dk_bipush (v := 46) C dL_tells_36 (n := 38) rfl (by decide) ?_
        refine dk_goto (t := 52) C dL_tells_38 (by decide) ?_
        refine dk_xcallVi C ht hlk [] (cc_X8_dig C.D hl hri h) yy_X8_dig dk_wm_L_27 dk_sh40 (hri.1 40 (by decide) (by decide)) dL_tells_52 (fun r109 s108 h => ?_) rfl rfl ⟨Nat.le_of_ble_eq_true rfl, Nat.le_of_ble_eq_true rfl⟩ ⟨Nat.le_of_ble_eq_true rfl, Nat.le_of_ble_eq_true rfl⟩ rfl (Nat.le_of_ble_eq_true rfl) rfl (n := 55) rfl
        refine dk_istore (i := 4) (L' := [some (dk_r G 0 40), some (.ref (dk_tL G)), some (.int x2), some (.int v98), some (.int r109), none, none, none]) C dL_tells_55 (n := 57) rfl (dk_nc_of rfl) (Nat.le_of_ble_eq_true rfl) rfl ?_
        obtain ⟨v110, ev110⟩ : ∃ y : Int32, y = x2 + 1 := ⟨_, rfl⟩
        have h := h v110 ev110
        refine dk_iinc (i := 2) (v := v110) (L' := [some (dk_r G 0 40), some (.ref (dk_tL G)), some (.int v110), some (.int v98), some (.int r109), none, none, none]) C dL_tells_57 (n := 60) rfl rfl (by rw [ev110]; rfl) (dk_nc_of rfl) (Nat.le_of_ble_eq_true rfl) rfl ?_
        refine dk_goto (t := 2) C dL_tells_60 (by decide) ?_
        refine dk_sub (L0 := [some (dk_r G 0 40), some (.ref (dk_tL G)), some (.int v110), none, none, none, none, none]) ⟨rfl, ⟨rfl, ⟨rfl, trivial⟩⟩⟩ ?_
        exact hB v110 s108 h
set_option maxRecDepth 20000 in
set_option maxHeartbeats 4000000 in
theorem cc_L_tells {G : dk_G} {l : Launch}  (hD : dk_D G) (hl : l.stackTraces = false) (hri : dk_RI G) (hN : dk_tN G ≤ 260) {s : dk_S} {K : dk_S → Prop} {X : String → dk_S → Prop} (h : wf_L_tells G s K X) : dk_MX G l 8 yL_tells cL_tells 8 none [dk_r G 0 40, .ref (dk_tL G)] s (dk_kv K) X := by
  refine dk_xof hD (by decide) [some (dk_r G 0 40), some (.ref (dk_tL G)), none, none, none, none, none, none] (fun q hq => hq) rfl (Nat.le_of_ble_eq_true rfl) (fun P e S0 m args bel meth c C ht hr hlk => ?_)
  unfold wf_L_tells at h
  refine dk_iconst (v := 0) C dL_tells_0 (n := 1) rfl (by decide) ?_
  refine dk_istore_n (i := 2) (L' := [some (dk_r G 0 40), some (.ref (dk_tL G)), some (.int 0), none, none, none, none, none]) C dL_tells_1 (n := 2) rfl rfl (dk_nc_of rfl) (Nat.le_of_ble_eq_true rfl) rfl ?_
  obtain ⟨nn43, h⟩ := h
  refine dk_sub (L0 := [some (dk_r G 0 40), some (.ref (dk_tL G)), some (.int 0), none, none, none, none, none]) ⟨rfl, ⟨rfl, ⟨rfl, trivial⟩⟩⟩ ?_
  refine ww_L_tells_2 C ht hr hlk hl hri hN (fun s1 h => ?_) nn43 0 s h
  · refine dk_iconst (v := 0) C dL_tells_63 (n := 64) rfl (by decide) ?_
    refine dk_istore_n (i := 2) (L' := [some (dk_r G 0 40), some (.ref (dk_tL G)), some (.int 0), none, none, none, none, none]) C dL_tells_64 (n := 65) rfl rfl (dk_nc_of rfl) (Nat.le_of_ble_eq_true rfl) rfl ?_
    obtain ⟨nn42, h⟩ := h
    refine dk_sub (L0 := [some (dk_r G 0 40), some (.ref (dk_tL G)), some (.int 0), none, none, none, none, none]) ⟨rfl, ⟨rfl, ⟨rfl, trivial⟩⟩⟩ ?_
    refine ww_L_tells_65 C ht hr hlk hl hri hN (fun s2 h => ?_) nn42 0 s1 h
    · refine dk_iconst (v := 1) C dL_tells_164 (n := 165) rfl (by decide) ?_
      refine dk_aload_n (i := 1) C dL_tells_165 (n := 166) rfl rfl rfl ?_
      refine dk_bipush (v := 18) C dL_tells_166 (n := 168) rfl (by decide) ?_
      refine dk_callSi C [.int 1] (cc_L_cell (K := fun r σ => r = dl_cl G 18 ∧ σ = s2) C.D hN h.1 ⟨rfl, rfl⟩) yy_L_cell dk_wm_L_9 dL_tells_168 (fun r3 s4 g5 => ?_) rfl ⟨Nat.le_of_ble_eq_true rfl, Nat.le_of_ble_eq_true rfl⟩ rfl (Nat.le_of_ble_eq_true rfl) rfl (n := 171) rfl
      have h := h.2
      rw [g5.1, g5.2]
      refine dk_bipush (v := 24) C dL_tells_171 (n := 173) rfl (by decide) ?_
      refine dk_callSi C [.int 1] (cc_L_low (K := fun r σ => r = dl_lo (dl_cl G 18) 24 ∧ σ = s2) C.D (by decide) ⟨rfl, rfl⟩) yy_L_low dk_wm_L_17 dL_tells_173 (fun r6 s7 g8 => ?_) rfl ⟨Nat.le_of_ble_eq_true rfl, Nat.le_of_ble_eq_true rfl⟩ rfl (Nat.le_of_ble_eq_true rfl) rfl (n := 176) rfl
      rw [g8.1, g8.2]
      refine dk_iadd C dL_tells_176 (n := 177) rfl ?_
      refine dk_name (fun v9 ev9 => ?_)
      have h := h v9 ev9
      refine dk_istore_n (i := 2) (L' := [some (dk_r G 0 40), some (.ref (dk_tL G)), some (.int v9), none, none, none, none, none]) C dL_tells_177 (n := 178) rfl rfl (dk_nc_of rfl) (Nat.le_of_ble_eq_true rfl) rfl ?_
      refine dk_aload_n (i := 0) C dL_tells_178 (n := 179) rfl rfl rfl ?_
      refine dk_iconst (v := 0) C dL_tells_179 (n := 180) rfl (by decide) ?_
      refine dk_iconst (v := 0) C dL_tells_180 (n := 181) rfl (by decide) ?_
      refine dk_iload_n (i := 2) C dL_tells_181 (n := 182) rfl rfl rfl ?_
      refine dk_iconst (v := 5) C dL_tells_182 (n := 183) rfl (by decide) ?_
      refine dk_aload_n (i := 1) C dL_tells_183 (n := 184) rfl rfl rfl ?_
      refine dk_bipush (v := 18) C dL_tells_184 (n := 186) rfl (by decide) ?_
      refine dk_callSi C [.int 5, .int v9, .int 0, .int 0, dk_r G 0 40] (cc_L_cell (K := fun r σ => r = dl_cl G 18 ∧ σ = s2) C.D hN h.1 ⟨rfl, rfl⟩) yy_L_cell dk_wm_L_9 dL_tells_186 (fun r10 s11 g12 => ?_) rfl ⟨Nat.le_of_ble_eq_true rfl, Nat.le_of_ble_eq_true rfl⟩ rfl (Nat.le_of_ble_eq_true rfl) rfl (n := 189) rfl
      have h := h.2
      rw [g12.1, g12.2]
      refine dk_iconst (v := 5) C dL_tells_189 (n := 190) rfl (by decide) ?_
      refine dk_ishr C dL_tells_190 (n := 191) rfl ?_
      refine dk_bipush (v := 30) C dL_tells_191 (n := 193) rfl (by decide) ?_
      refine dk_callSi C [.int 5, .int v9, .int 0, .int 0, dk_r G 0 40] (cc_L_low (K := fun r σ => r = dl_lo ((dl_cl G 18) >>> (5 &&& 31)) 30 ∧ σ = s2) C.D (by decide) ⟨rfl, rfl⟩) yy_L_low dk_wm_L_17 dL_tells_193 (fun r13 s14 g15 => ?_) rfl ⟨Nat.le_of_ble_eq_true rfl, Nat.le_of_ble_eq_true rfl⟩ rfl (Nat.le_of_ble_eq_true rfl) rfl (n := 196) rfl
      rw [g15.1, g15.2]
      refine dk_iadd C dL_tells_196 (n := 197) rfl ?_
      refine dk_xcallVi C ht hlk [] (cc_X8_setHero C.D hl hri h) yy_X8_setHero dk_wm_L_43 dk_sh40 (hri.1 40 (by decide) (by decide)) dL_tells_197 (fun r17 s16 h => ?_) rfl rfl ⟨Nat.le_of_ble_eq_true rfl, Nat.le_of_ble_eq_true rfl⟩ ⟨Nat.le_of_ble_eq_true rfl, Nat.le_of_ble_eq_true rfl⟩ rfl (Nat.le_of_ble_eq_true rfl) rfl (n := 200) rfl
      refine dk_istore_n (i := 3) (L' := [some (dk_r G 0 40), some (.ref (dk_tL G)), some (.int v9), some (.int r17), none, none, none, none]) C dL_tells_200 (n := 201) rfl rfl (dk_nc_of rfl) (Nat.le_of_ble_eq_true rfl) rfl ?_
      refine dk_iconst (v := 0) C dL_tells_201 (n := 202) rfl (by decide) ?_
      refine dk_istore (i := 4) (L' := [some (dk_r G 0 40), some (.ref (dk_tL G)), some (.int v9), some (.int r17), some (.int 0), none, none, none]) C dL_tells_202 (n := 204) rfl (dk_nc_of rfl) (Nat.le_of_ble_eq_true rfl) rfl ?_
      obtain ⟨nn41, h⟩ := h
      refine dk_sub (L0 := [some (dk_r G 0 40), some (.ref (dk_tL G)), none, none, some (.int 0), none, none, none]) ⟨rfl, ⟨rfl, ⟨rfl, trivial⟩⟩⟩ ?_
      refine ww_L_tells_204 C ht hr hlk hl hri hN (fun s18 h => ?_) nn41 0 s16 h
      · refine dk_iconst (v := 0) C dL_tells_291 (n := 292) rfl (by decide) ?_
        refine dk_istore (i := 4) (L' := [some (dk_r G 0 40), some (.ref (dk_tL G)), none, none, some (.int 0), none, none, none]) C dL_tells_292 (n := 294) rfl (dk_nc_of rfl) (Nat.le_of_ble_eq_true rfl) rfl ?_
        obtain ⟨nn40, h⟩ := h
        refine dk_sub (L0 := [some (dk_r G 0 40), some (.ref (dk_tL G)), none, none, some (.int 0), none, none, none]) ⟨rfl, ⟨rfl, ⟨rfl, trivial⟩⟩⟩ ?_
        refine ww_L_tells_294 C ht hr hlk hl hri hN (fun s19 h => ?_) nn40 0 s18 h
        · refine dk_aload_n (i := 0) C dL_tells_401 (n := 402) rfl rfl rfl ?_
          refine dk_aload_n (i := 1) C dL_tells_402 (n := 403) rfl rfl rfl ?_
          refine dk_bipush (v := 33) C dL_tells_403 (n := 405) rfl (by decide) ?_
          refine dk_callSi C [dk_r G 0 40] (cc_L_cell (K := fun r σ => r = dl_cl G 33 ∧ σ = s19) C.D hN h.1 ⟨rfl, rfl⟩) yy_L_cell dk_wm_L_9 dL_tells_405 (fun r20 s21 g22 => ?_) rfl ⟨Nat.le_of_ble_eq_true rfl, Nat.le_of_ble_eq_true rfl⟩ rfl (Nat.le_of_ble_eq_true rfl) rfl (n := 408) rfl
          have h := h.2
          rw [g22.1, g22.2]
          refine dk_bipush (v := 6) C dL_tells_408 (n := 410) rfl (by decide) ?_
          refine dk_callSi C [dk_r G 0 40] (cc_L_low (K := fun r σ => r = dl_lo (dl_cl G 33) 6 ∧ σ = s19) C.D (by decide) ⟨rfl, rfl⟩) yy_L_low dk_wm_L_17 dL_tells_410 (fun r23 s24 g25 => ?_) rfl ⟨Nat.le_of_ble_eq_true rfl, Nat.le_of_ble_eq_true rfl⟩ rfl (Nat.le_of_ble_eq_true rfl) rfl (n := 413) rfl
          rw [g25.1, g25.2]
          refine dk_aload_n (i := 1) C dL_tells_413 (n := 414) rfl rfl rfl ?_
          refine dk_bipush (v := 33) C dL_tells_414 (n := 416) rfl (by decide) ?_
          refine dk_callSi C [.int (dl_lo (dl_cl G 33) 6), dk_r G 0 40] (cc_L_cell (K := fun r σ => r = dl_cl G 33 ∧ σ = s19) C.D hN h.1 ⟨rfl, rfl⟩) yy_L_cell dk_wm_L_9 dL_tells_416 (fun r26 s27 g28 => ?_) rfl ⟨Nat.le_of_ble_eq_true rfl, Nat.le_of_ble_eq_true rfl⟩ rfl (Nat.le_of_ble_eq_true rfl) rfl (n := 419) rfl
          have h := h.2
          rw [g28.1, g28.2]
          refine dk_iconst (v := 4) C dL_tells_419 (n := 420) rfl (by decide) ?_
          refine dk_ishr C dL_tells_420 (n := 421) rfl ?_
          refine dk_bipush (v := 6) C dL_tells_421 (n := 423) rfl (by decide) ?_
          refine dk_callSi C [.int (dl_lo (dl_cl G 33) 6), dk_r G 0 40] (cc_L_low (K := fun r σ => r = dl_lo ((dl_cl G 33) >>> (4 &&& 31)) 6 ∧ σ = s19) C.D (by decide) ⟨rfl, rfl⟩) yy_L_low dk_wm_L_17 dL_tells_423 (fun r29 s30 g31 => ?_) rfl ⟨Nat.le_of_ble_eq_true rfl, Nat.le_of_ble_eq_true rfl⟩ rfl (Nat.le_of_ble_eq_true rfl) rfl (n := 426) rfl
          rw [g31.1, g31.2]
          refine dk_aload_n (i := 1) C dL_tells_426 (n := 427) rfl rfl rfl ?_
          refine dk_bipush (v := 33) C dL_tells_427 (n := 429) rfl (by decide) ?_
          refine dk_callSi C [.int (dl_lo ((dl_cl G 33) >>> (4 &&& 31)) 6), .int (dl_lo (dl_cl G 33) 6), dk_r G 0 40] (cc_L_cell (K := fun r σ => r = dl_cl G 33 ∧ σ = s19) C.D hN h.1 ⟨rfl, rfl⟩) yy_L_cell dk_wm_L_9 dL_tells_429 (fun r32 s33 g34 => ?_) rfl ⟨Nat.le_of_ble_eq_true rfl, Nat.le_of_ble_eq_true rfl⟩ rfl (Nat.le_of_ble_eq_true rfl) rfl (n := 432) rfl
          have h := h.2
          rw [g34.1, g34.2]
          refine dk_bipush (v := 8) C dL_tells_432 (n := 434) rfl (by decide) ?_
          refine dk_ishr C dL_tells_434 (n := 435) rfl ?_
          refine dk_bipush (v := 9) C dL_tells_435 (n := 437) rfl (by decide) ?_
          refine dk_callSi C [.int (dl_lo ((dl_cl G 33) >>> (4 &&& 31)) 6), .int (dl_lo (dl_cl G 33) 6), dk_r G 0 40] (cc_L_low (K := fun r σ => r = dl_lo ((dl_cl G 33) >>> (8 &&& 31)) 9 ∧ σ = s19) C.D (by decide) ⟨rfl, rfl⟩) yy_L_low dk_wm_L_17 dL_tells_437 (fun r35 s36 g37 => ?_) rfl ⟨Nat.le_of_ble_eq_true rfl, Nat.le_of_ble_eq_true rfl⟩ rfl (Nat.le_of_ble_eq_true rfl) rfl (n := 440) rfl
          rw [g37.1, g37.2]
          refine dk_xcallVi C ht hlk [] (cc_X8_addLamp C.D hl hri h) yy_X8_addLamp dk_wm_L_54 dk_sh40 (hri.1 40 (by decide) (by decide)) dL_tells_440 (fun r39 s38 h => ?_) rfl rfl ⟨Nat.le_of_ble_eq_true rfl, Nat.le_of_ble_eq_true rfl⟩ ⟨Nat.le_of_ble_eq_true rfl, Nat.le_of_ble_eq_true rfl⟩ rfl (Nat.le_of_ble_eq_true rfl) rfl (n := 443) rfl
          refine dk_istore (i := 4) (L' := [some (dk_r G 0 40), some (.ref (dk_tL G)), none, none, some (.int r39), none, none, none]) C dL_tells_443 (n := 445) rfl (dk_nc_of rfl) (Nat.le_of_ble_eq_true rfl) rfl ?_
          refine dk_xret ?_
          exact dk_vret C hr hlk dL_tells_445 ⟨rfl, h⟩
/-! L_areApart -/
set_option maxRecDepth 20000 in
set_option maxHeartbeats 4000000 in
theorem ww_L_areApart_112 {G : dk_G} {P : Program} {l : Launch} {e : Env} {S0 : State} {m : MethodId} {args : Array Value} {bel : List Frame} {meth : Method} {c : Code}  (C : dk_C G P (dk_rx 8) S0 m args c 0 0 cL_areApart 7 RL) (ht : ∀ x ∈ c.exceptionTable.toList, False) (hr : meth.sig.returnType = (some .boolean)) (hlk : meth.locks = false) (hl : l.stackTraces = false) (hri : dk_RI G) {K : Int32 → dk_S → Prop} {X : String → dk_S → Prop} {B : Int32 → Int32 → Int32 → Int32 → Int32 → dk_S → Prop} {E124 : Int32 → Int32 → Int32 → dk_S → Prop} (hB : ∀ (x1 : Int32) (x2 : Int32) (x3 : Int32) (x4 : Int32) (x6 : Int32) (s : dk_S), B x1 x2 x3 x4 x6 s → dk_W G P l e (dk_rx 8) S0 m args bel meth c 0 0 (zx_MQ bel (dk_Qc G (dk_ki K)) (dk_XC G X) args S0 1 6 (dk_A G)) 74 [some (dk_r G 0 40), some (.int x1), some (.int x2), some (.int x3), some (.int x4), none, some (.int x6)] [] s) (hE124 : ∀ (x1 : Int32) (x2 : Int32) (x3 : Int32) (s : dk_S), E124 x1 x2 x3 s → dk_W G P l e (dk_rx 8) S0 m args bel meth c 0 0 (zx_MQ bel (dk_Qc G (dk_ki K)) (dk_XC G X) args S0 1 6 (dk_A G)) 124 [some (dk_r G 0 40), some (.int x1), some (.int x2), some (.int x3), none, none, none] [] s) : ∀ (x1 : Int32) (x3 : Int32) (x4 : Int32) (x6 : Int32) (s : dk_S), wf_L_areApart_112 G K X B E124 x1 x3 x4 x6 s → dk_W G P l e (dk_rx 8) S0 m args bel meth c 0 0 (zx_MQ bel (dk_Qc G (dk_ki K)) (dk_XC G X) args S0 1 6 (dk_A G)) 112 [some (dk_r G 0 40), some (.int x1), none, some (.int x3), some (.int x4), none, some (.int x6)] [] s := by
  intro x1 x3 x4 x6 s h
  unfold wf_L_areApart_112 at h
  refine dk_iconst (v := 1) C dL_areApart_112 (n := 113) rfl (by decide) ?_
  refine dk_goto (t := 117) C dL_areApart_113 (by decide) ?_
  refine dk_istore_n (i := 2) (L' := [some (dk_r G 0 40), some (.int x1), some (.int 1), some (.int x3), some (.int x4), none, some (.int x6)]) C dL_areApart_117 (n := 118) rfl rfl (dk_nc_of rfl) (Nat.le_of_ble_eq_true rfl) rfl ?_
  obtain ⟨v39, ev39⟩ : ∃ y : Int32, y = x6 + 1 := ⟨_, rfl⟩
  have h := h v39 ev39
  refine dk_iinc (i := 6) (v := v39) (L' := [some (dk_r G 0 40), some (.int x1), some (.int 1), some (.int x3), some (.int x4), none, some (.int v39)]) C dL_areApart_118 (n := 121) rfl rfl (by rw [ev39]; rfl) (dk_nc_of rfl) (Nat.le_of_ble_eq_true rfl) rfl ?_
  refine dk_goto (t := 74) C dL_areApart_121 (by decide) ?_
  refine dk_sub (L0 := [some (dk_r G 0 40), some (.int x1), some (.int 1), some (.int x3), some (.int x4), none, some (.int v39)]) ⟨rfl, ⟨rfl, ⟨rfl, ⟨rfl, ⟨rfl, ⟨rfl, trivial⟩⟩⟩⟩⟩⟩ ?_
  exact hB x1 1 x3 x4 v39 s h
set_option maxRecDepth 20000 in
set_option maxHeartbeats 4000000 in
theorem ww_L_areApart_74 {G : dk_G} {P : Program} {l : Launch} {e : Env} {S0 : State} {m : MethodId} {args : Array Value} {bel : List Frame} {meth : Method} {c : Code}  (C : dk_C G P (dk_rx 8) S0 m args c 0 0 cL_areApart 7 RL) (ht : ∀ x ∈ c.exceptionTable.toList, False) (hr : meth.sig.returnType = (some .boolean)) (hlk : meth.locks = false) (hl : l.stackTraces = false) (hri : dk_RI G) {K : Int32 → dk_S → Prop} {X : String → dk_S → Prop} {E124 : Int32 → Int32 → Int32 → dk_S → Prop} (hE124 : ∀ (x1 : Int32) (x2 : Int32) (x3 : Int32) (s : dk_S), E124 x1 x2 x3 s → dk_W G P l e (dk_rx 8) S0 m args bel meth c 0 0 (zx_MQ bel (dk_Qc G (dk_ki K)) (dk_XC G X) args S0 1 6 (dk_A G)) 124 [some (dk_r G 0 40), some (.int x1), some (.int x2), some (.int x3), none, none, none] [] s) : ∀ (n : Nat) (x1 : Int32) (x2 : Int32) (x3 : Int32) (x4 : Int32) (x6 : Int32) (s : dk_S), wf_L_areApart_74 G K X E124 n x1 x2 x3 x4 x6 s → dk_W G P l e (dk_rx 8) S0 m args bel meth c 0 0 (zx_MQ bel (dk_Qc G (dk_ki K)) (dk_XC G X) args S0 1 6 (dk_A G)) 74 [some (dk_r G 0 40), some (.int x1), some (.int x2), some (.int x3), some (.int x4), none, some (.int x6)] [] s := by
  intro n
  induction n with
  | zero => intro x1 x2 x3 x4 x6 s h; exact False.elim h
  | succ n hB =>
    intro x1 x2 x3 x4 x6 s h
    unfold wf_L_areApart_74 at h
    refine dk_iload C dL_areApart_74 (n := 76) rfl (i := 6) rfl ?_
    refine dk_iload_n (i := 3) C dL_areApart_76 (n := 77) rfl rfl rfl ?_
    refine dk_icmp_ge (t := 124) C dL_areApart_77 (n := 80) rfl (by decide) (fun c38 => ?_) (fun c38 => ?_)
    · have h := h.1 c38
      refine dk_sub (L0 := [some (dk_r G 0 40), some (.int x1), some (.int x2), some (.int x3), none, none, none]) ⟨rfl, ⟨rfl, ⟨rfl, ⟨rfl, trivial⟩⟩⟩⟩ ?_
      exact hE124 x1 x2 x3 s h
    · have h := h.2 c38
      refine dk_iload_n (i := 2) C dL_areApart_80 (n := 81) rfl rfl rfl ?_
      refine dk_if_eq (t := 116) C dL_areApart_81 (n := 84) rfl (by decide) (fun c37 => ?_) (fun c37 => ?_)
      · have h := h.1 c37
        refine dk_iconst (v := 0) C dL_areApart_116 (n := 117) rfl (by decide) ?_
        refine dk_istore_n (i := 2) (L' := [some (dk_r G 0 40), some (.int x1), some (.int 0), some (.int x3), some (.int x4), none, some (.int x6)]) C dL_areApart_117 (n := 118) rfl rfl (dk_nc_of rfl) (Nat.le_of_ble_eq_true rfl) rfl ?_
        obtain ⟨v26, ev26⟩ : ∃ y : Int32, y = x6 + 1 := ⟨_, rfl⟩
        have h := h v26 ev26
        refine dk_iinc (i := 6) (v := v26) (L' := [some (dk_r G 0 40), some (.int x1), some (.int 0), some (.int x3), some (.int x4), none, some (.int v26)]) C dL_areApart_118 (n := 121) rfl rfl (by rw [ev26]; rfl) (dk_nc_of rfl) (Nat.le_of_ble_eq_true rfl) rfl ?_
        refine dk_goto (t := 74) C dL_areApart_121 (by decide) ?_
        refine dk_sub (L0 := [some (dk_r G 0 40), some (.int x1), some (.int 0), some (.int x3), some (.int x4), none, some (.int v26)]) ⟨rfl, ⟨rfl, ⟨rfl, ⟨rfl, ⟨rfl, ⟨rfl, trivial⟩⟩⟩⟩⟩⟩ ?_
        exact hB x1 0 x3 x4 v26 s h
      · have h := h.2 c37
        refine dk_aload_n (i := 0) C dL_areApart_84 (n := 85) rfl rfl rfl ?_
        refine dk_iload_n (i := 3) C dL_areApart_85 (n := 86) rfl rfl rfl ?_
        refine dk_xcallVi C ht hlk [] (cc_X8_healthOf C.D hl hri h) yy_X8_healthOf dk_wm_L_102 dk_sh40 (hri.1 40 (by decide) (by decide)) dL_areApart_86 (fun r28 s27 h => ?_) rfl rfl ⟨Nat.le_of_ble_eq_true rfl, Nat.le_of_ble_eq_true rfl⟩ ⟨Nat.le_of_ble_eq_true rfl, Nat.le_of_ble_eq_true rfl⟩ rfl (Nat.le_of_ble_eq_true rfl) rfl (n := 89) rfl
        refine dk_if_le (t := 112) C dL_areApart_89 (n := 92) rfl (by decide) (fun c36 => ?_) (fun c36 => ?_)
        · have h := h.1 c36
          refine dk_sub (L0 := [some (dk_r G 0 40), some (.int x1), none, some (.int x3), some (.int x4), none, some (.int x6)]) ⟨rfl, ⟨rfl, ⟨rfl, ⟨rfl, ⟨rfl, trivial⟩⟩⟩⟩⟩ ?_
          exact ww_L_areApart_112 C ht hr hlk hl hri hB hE124 x1 x3 x4 x6 s27 h
        · have h := h.2 c36
          refine dk_aload_n (i := 0) C dL_areApart_92 (n := 93) rfl rfl rfl ?_
          refine dk_iload C dL_areApart_93 (n := 95) rfl (i := 6) rfl ?_
          refine dk_xcallVi C ht hlk [] (cc_X8_healthOf C.D hl hri h) yy_X8_healthOf dk_wm_L_102 dk_sh40 (hri.1 40 (by decide) (by decide)) dL_areApart_95 (fun r30 s29 h => ?_) rfl rfl ⟨Nat.le_of_ble_eq_true rfl, Nat.le_of_ble_eq_true rfl⟩ ⟨Nat.le_of_ble_eq_true rfl, Nat.le_of_ble_eq_true rfl⟩ rfl (Nat.le_of_ble_eq_true rfl) rfl (n := 98) rfl
          refine dk_if_le (t := 112) C dL_areApart_98 (n := 101) rfl (by decide) (fun c35 => ?_) (fun c35 => ?_)
          · have h := h.1 c35
            refine dk_sub (L0 := [some (dk_r G 0 40), some (.int x1), none, some (.int x3), some (.int x4), none, some (.int x6)]) ⟨rfl, ⟨rfl, ⟨rfl, ⟨rfl, ⟨rfl, trivial⟩⟩⟩⟩⟩ ?_
            exact ww_L_areApart_112 C ht hr hlk hl hri hB hE124 x1 x3 x4 x6 s29 h
          · have h := h.2 c35
            refine dk_aload_n (i := 0) C dL_areApart_101 (n := 102) rfl rfl rfl ?_
            refine dk_iload C dL_areApart_102 (n := 104) rfl (i := 6) rfl ?_
            refine dk_xcallVi C ht hlk [] (cc_X8_placeOf C.D hl hri h) yy_X8_placeOf dk_wm_L_96 dk_sh40 (hri.1 40 (by decide) (by decide)) dL_areApart_104 (fun r32 s31 h => ?_) rfl rfl ⟨Nat.le_of_ble_eq_true rfl, Nat.le_of_ble_eq_true rfl⟩ ⟨Nat.le_of_ble_eq_true rfl, Nat.le_of_ble_eq_true rfl⟩ rfl (Nat.le_of_ble_eq_true rfl) rfl (n := 107) rfl
            refine dk_iload C dL_areApart_107 (n := 109) rfl (i := 4) rfl ?_
            refine dk_icmp_eq (t := 116) C dL_areApart_109 (n := 112) rfl (by decide) (fun c34 => ?_) (fun c34 => ?_)
            · have h := h.1 c34
              refine dk_iconst (v := 0) C dL_areApart_116 (n := 117) rfl (by decide) ?_
              refine dk_istore_n (i := 2) (L' := [some (dk_r G 0 40), some (.int x1), some (.int 0), some (.int x3), some (.int x4), none, some (.int x6)]) C dL_areApart_117 (n := 118) rfl rfl (dk_nc_of rfl) (Nat.le_of_ble_eq_true rfl) rfl ?_
              obtain ⟨v33, ev33⟩ : ∃ y : Int32, y = x6 + 1 := ⟨_, rfl⟩
              have h := h v33 ev33
              refine dk_iinc (i := 6) (v := v33) (L' := [some (dk_r G 0 40), some (.int x1), some (.int 0), some (.int x3), some (.int x4), none, some (.int v33)]) C dL_areApart_118 (n := 121) rfl rfl (by rw [ev33]; rfl) (dk_nc_of rfl) (Nat.le_of_ble_eq_true rfl) rfl ?_
              refine dk_goto (t := 74) C dL_areApart_121 (by decide) ?_
              refine dk_sub (L0 := [some (dk_r G 0 40), some (.int x1), some (.int 0), some (.int x3), some (.int x4), none, some (.int v33)]) ⟨rfl, ⟨rfl, ⟨rfl, ⟨rfl, ⟨rfl, ⟨rfl, trivial⟩⟩⟩⟩⟩⟩ ?_
              exact hB x1 0 x3 x4 v33 s31 h
            · have h := h.2 c34
              refine dk_sub (L0 := [some (dk_r G 0 40), some (.int x1), none, some (.int x3), some (.int x4), none, some (.int x6)]) ⟨rfl, ⟨rfl, ⟨rfl, ⟨rfl, ⟨rfl, trivial⟩⟩⟩⟩⟩ ?_
              exact ww_L_areApart_112 C ht hr hlk hl hri hB hE124 x1 x3 x4 x6 s31 h
set_option maxRecDepth 20000 in
set_option maxHeartbeats 4000000 in
theorem ww_L_areApart_65 {G : dk_G} {P : Program} {l : Launch} {e : Env} {S0 : State} {m : MethodId} {args : Array Value} {bel : List Frame} {meth : Method} {c : Code}  (C : dk_C G P (dk_rx 8) S0 m args c 0 0 cL_areApart 7 RL) (ht : ∀ x ∈ c.exceptionTable.toList, False) (hr : meth.sig.returnType = (some .boolean)) (hlk : meth.locks = false) (hl : l.stackTraces = false) (hri : dk_RI G) {K : Int32 → dk_S → Prop} {X : String → dk_S → Prop} {B : Int32 → Int32 → Int32 → dk_S → Prop} (hB : ∀ (x1 : Int32) (x2 : Int32) (x3 : Int32) (s : dk_S), B x1 x2 x3 s → dk_W G P l e (dk_rx 8) S0 m args bel meth c 0 0 (zx_MQ bel (dk_Qc G (dk_ki K)) (dk_XC G X) args S0 1 6 (dk_A G)) 4 [some (dk_r G 0 40), some (.int x1), some (.int x2), some (.int x3), none, none, none] [] s)  : ∀ (x1 : Int32) (x3 : Int32) (x4 : Int32) (s : dk_S), wf_L_areApart_65 G K X B x1 x3 x4 s → dk_W G P l e (dk_rx 8) S0 m args bel meth c 0 0 (zx_MQ bel (dk_Qc G (dk_ki K)) (dk_XC G X) args S0 1 6 (dk_A G)) 65 [some (dk_r G 0 40), some (.int x1), none, some (.int x3), some (.int x4), none, none] [] s := by
  intro x1 x3 x4 s h
  unfold wf_L_areApart_65 at h
  refine dk_iconst (v := 1) C dL_areApart_65 (n := 66) rfl (by decide) ?_
  refine dk_goto (t := 70) C dL_areApart_66 (by decide) ?_
  refine dk_istore_n (i := 2) (L' := [some (dk_r G 0 40), some (.int x1), some (.int 1), some (.int x3), some (.int x4), none, none]) C dL_areApart_70 (n := 71) rfl rfl (dk_nc_of rfl) (Nat.le_of_ble_eq_true rfl) rfl ?_
  refine dk_iconst (v := 0) C dL_areApart_71 (n := 72) rfl (by decide) ?_
  refine dk_istore (i := 6) (L' := [some (dk_r G 0 40), some (.int x1), some (.int 1), some (.int x3), some (.int x4), none, some (.int 0)]) C dL_areApart_72 (n := 74) rfl (dk_nc_of rfl) (Nat.le_of_ble_eq_true rfl) rfl ?_
  obtain ⟨nn25, h⟩ := h
  refine dk_sub (L0 := [some (dk_r G 0 40), some (.int x1), some (.int 1), some (.int x3), some (.int x4), none, some (.int 0)]) ⟨rfl, ⟨rfl, ⟨rfl, ⟨rfl, ⟨rfl, ⟨rfl, trivial⟩⟩⟩⟩⟩⟩ ?_
  refine ww_L_areApart_74 C ht hr hlk hl hri (fun w20 w21 w22 s23 h => ?_) nn25 x1 1 x3 x4 0 s h
  · obtain ⟨v24, ev24⟩ : ∃ y : Int32, y = w22 + 1 := ⟨_, rfl⟩
    have h := h v24 ev24
    refine dk_iinc (i := 3) (v := v24) (L' := [some (dk_r G 0 40), some (.int w20), some (.int w21), some (.int v24), none, none, none]) C dL_areApart_124 (n := 127) rfl rfl (by rw [ev24]; rfl) (dk_nc_of rfl) (Nat.le_of_ble_eq_true rfl) rfl ?_
    refine dk_goto (t := 4) C dL_areApart_127 (by decide) ?_
    refine dk_sub (L0 := [some (dk_r G 0 40), some (.int w20), some (.int w21), some (.int v24), none, none, none]) ⟨rfl, ⟨rfl, ⟨rfl, ⟨rfl, trivial⟩⟩⟩⟩ ?_
    exact hB w20 w21 v24 s23 h
set_option maxRecDepth 20000 in
set_option maxHeartbeats 4000000 in
theorem ww_L_areApart_4 {G : dk_G} {P : Program} {l : Launch} {e : Env} {S0 : State} {m : MethodId} {args : Array Value} {bel : List Frame} {meth : Method} {c : Code}  (C : dk_C G P (dk_rx 8) S0 m args c 0 0 cL_areApart 7 RL) (ht : ∀ x ∈ c.exceptionTable.toList, False) (hr : meth.sig.returnType = (some .boolean)) (hlk : meth.locks = false) (hl : l.stackTraces = false) (hri : dk_RI G) {K : Int32 → dk_S → Prop} {X : String → dk_S → Prop}  : ∀ (n : Nat) (x1 : Int32) (x2 : Int32) (x3 : Int32) (s : dk_S), wf_L_areApart_4 G K X n x1 x2 x3 s → dk_W G P l e (dk_rx 8) S0 m args bel meth c 0 0 (zx_MQ bel (dk_Qc G (dk_ki K)) (dk_XC G X) args S0 1 6 (dk_A G)) 4 [some (dk_r G 0 40), some (.int x1), some (.int x2), some (.int x3), none, none, none] [] s := by
  intro n
  induction n with
  | zero => intro x1 x2 x3 s h; exact False.elim h
  | succ n hB =>
    intro x1 x2 x3 s h
    unfold wf_L_areApart_4 at h
    refine dk_iload_n (i := 3) C dL_areApart_4 (n := 5) rfl rfl rfl ?_
    refine dk_iload_n (i := 1) C dL_areApart_5 (n := 6) rfl rfl rfl ?_
    refine dk_icmp_gt (t := 130) C dL_areApart_6 (n := 9) rfl (by decide) (fun c19 => ?_) (fun c19 => ?_)
    · have h := h.1 c19
      refine dk_iload_n (i := 2) C dL_areApart_130 (n := 131) rfl rfl rfl ?_
      refine dk_xret ?_
      exact dk_iret C hr hlk h.1 dL_areApart_131 ⟨_, rfl, h.2⟩
    · have h := h.2 c19
      refine dk_iload_n (i := 2) C dL_areApart_9 (n := 10) rfl rfl rfl ?_
      refine dk_if_eq (t := 130) C dL_areApart_10 (n := 13) rfl (by decide) (fun c18 => ?_) (fun c18 => ?_)
      · have h := h.1 c18
        refine dk_iload_n (i := 2) C dL_areApart_130 (n := 131) rfl rfl rfl ?_
        refine dk_xret ?_
        exact dk_iret C hr hlk h.1 dL_areApart_131 ⟨_, rfl, h.2⟩
      · have h := h.2 c18
        refine dk_aload_n (i := 0) C dL_areApart_13 (n := 14) rfl rfl rfl ?_
        refine dk_iload_n (i := 3) C dL_areApart_14 (n := 15) rfl rfl rfl ?_
        refine dk_xcallVi C ht hlk [] (cc_X8_placeOf C.D hl hri h) yy_X8_placeOf dk_wm_L_96 dk_sh40 (hri.1 40 (by decide) (by decide)) dL_areApart_15 (fun r3 s2 h => ?_) rfl rfl ⟨Nat.le_of_ble_eq_true rfl, Nat.le_of_ble_eq_true rfl⟩ ⟨Nat.le_of_ble_eq_true rfl, Nat.le_of_ble_eq_true rfl⟩ rfl (Nat.le_of_ble_eq_true rfl) rfl (n := 18) rfl
        refine dk_istore (i := 4) (L' := [some (dk_r G 0 40), some (.int x1), some (.int x2), some (.int x3), some (.int r3), none, none]) C dL_areApart_18 (n := 20) rfl (dk_nc_of rfl) (Nat.le_of_ble_eq_true rfl) rfl ?_
        refine dk_aload_n (i := 0) C dL_areApart_20 (n := 21) rfl rfl rfl ?_
        refine dk_iload C dL_areApart_21 (n := 23) rfl (i := 4) rfl ?_
        refine dk_bipush (v := 100) C dL_areApart_23 (n := 25) rfl (by decide) ?_
        refine dk_idiv C dL_areApart_25 (n := 26) rfl (by decide) ?_
        refine dk_iload C dL_areApart_26 (n := 28) rfl (i := 4) rfl ?_
        refine dk_bipush (v := 100) C dL_areApart_28 (n := 30) rfl (by decide) ?_
        refine dk_irem C dL_areApart_30 (n := 31) rfl (by decide) ?_
        refine dk_xcallVi C ht hlk [] (cc_X8_cell C.D hl hri h) yy_X8_cell dk_wm_L_99 dk_sh40 (hri.1 40 (by decide) (by decide)) dL_areApart_31 (fun r5 s4 h => ?_) rfl rfl ⟨Nat.le_of_ble_eq_true rfl, Nat.le_of_ble_eq_true rfl⟩ ⟨Nat.le_of_ble_eq_true rfl, Nat.le_of_ble_eq_true rfl⟩ rfl (Nat.le_of_ble_eq_true rfl) rfl (n := 34) rfl
        refine dk_istore (i := 5) (L' := [some (dk_r G 0 40), some (.int x1), some (.int x2), some (.int x3), some (.int r3), some (.int r5), none]) C dL_areApart_34 (n := 36) rfl (dk_nc_of rfl) (Nat.le_of_ble_eq_true rfl) rfl ?_
        refine dk_aload_n (i := 0) C dL_areApart_36 (n := 37) rfl rfl rfl ?_
        refine dk_iload_n (i := 3) C dL_areApart_37 (n := 38) rfl rfl rfl ?_
        refine dk_xcallVi C ht hlk [] (cc_X8_healthOf C.D hl hri h) yy_X8_healthOf dk_wm_L_102 dk_sh40 (hri.1 40 (by decide) (by decide)) dL_areApart_38 (fun r7 s6 h => ?_) rfl rfl ⟨Nat.le_of_ble_eq_true rfl, Nat.le_of_ble_eq_true rfl⟩ ⟨Nat.le_of_ble_eq_true rfl, Nat.le_of_ble_eq_true rfl⟩ rfl (Nat.le_of_ble_eq_true rfl) rfl (n := 41) rfl
        refine dk_if_le (t := 65) C dL_areApart_41 (n := 44) rfl (by decide) (fun c17 => ?_) (fun c17 => ?_)
        · have h := h.1 c17
          refine dk_sub (L0 := [some (dk_r G 0 40), some (.int x1), none, some (.int x3), some (.int r3), none, none]) ⟨rfl, ⟨rfl, ⟨rfl, ⟨rfl, trivial⟩⟩⟩⟩ ?_
          exact ww_L_areApart_65 C ht hr hlk hl hri hB x1 x3 r3 s6 h
        · have h := h.2 c17
          refine dk_iload C dL_areApart_44 (n := 46) rfl (i := 5) rfl ?_
          refine dk_bipush (v := 46) C dL_areApart_46 (n := 48) rfl (by decide) ?_
          refine dk_icmp_eq (t := 65) C dL_areApart_48 (n := 51) rfl (by decide) (fun c16 => ?_) (fun c16 => ?_)
          · have h := h.1 c16
            refine dk_sub (L0 := [some (dk_r G 0 40), some (.int x1), none, some (.int x3), some (.int r3), none, none]) ⟨rfl, ⟨rfl, ⟨rfl, ⟨rfl, trivial⟩⟩⟩⟩ ?_
            exact ww_L_areApart_65 C ht hr hlk hl hri hB x1 x3 r3 s6 h
          · have h := h.2 c16
            refine dk_iload C dL_areApart_51 (n := 53) rfl (i := 5) rfl ?_
            refine dk_bipush (v := 126) C dL_areApart_53 (n := 55) rfl (by decide) ?_
            refine dk_icmp_eq (t := 65) C dL_areApart_55 (n := 58) rfl (by decide) (fun c15 => ?_) (fun c15 => ?_)
            · have h := h.1 c15
              refine dk_sub (L0 := [some (dk_r G 0 40), some (.int x1), none, some (.int x3), some (.int r3), none, none]) ⟨rfl, ⟨rfl, ⟨rfl, ⟨rfl, trivial⟩⟩⟩⟩ ?_
              exact ww_L_areApart_65 C ht hr hlk hl hri hB x1 x3 r3 s6 h
            · have h := h.2 c15
              refine dk_iload C dL_areApart_58 (n := 60) rfl (i := 5) rfl ?_
              refine dk_bipush (v := 47) C dL_areApart_60 (n := 62) rfl (by decide) ?_
              refine dk_icmp_ne (t := 69) C dL_areApart_62 (n := 65) rfl (by decide) (fun c14 => ?_) (fun c14 => ?_)
              · have h := h.1 c14
                refine dk_iconst (v := 0) C dL_areApart_69 (n := 70) rfl (by decide) ?_
                refine dk_istore_n (i := 2) (L' := [some (dk_r G 0 40), some (.int x1), some (.int 0), some (.int x3), some (.int r3), some (.int r5), none]) C dL_areApart_70 (n := 71) rfl rfl (dk_nc_of rfl) (Nat.le_of_ble_eq_true rfl) rfl ?_
                refine dk_iconst (v := 0) C dL_areApart_71 (n := 72) rfl (by decide) ?_
                refine dk_istore (i := 6) (L' := [some (dk_r G 0 40), some (.int x1), some (.int 0), some (.int x3), some (.int r3), some (.int r5), some (.int 0)]) C dL_areApart_72 (n := 74) rfl (dk_nc_of rfl) (Nat.le_of_ble_eq_true rfl) rfl ?_
                obtain ⟨nn13, h⟩ := h
                refine dk_sub (L0 := [some (dk_r G 0 40), some (.int x1), some (.int 0), some (.int x3), some (.int r3), none, some (.int 0)]) ⟨rfl, ⟨rfl, ⟨rfl, ⟨rfl, ⟨rfl, ⟨rfl, trivial⟩⟩⟩⟩⟩⟩ ?_
                refine ww_L_areApart_74 C ht hr hlk hl hri (fun w8 w9 w10 s11 h => ?_) nn13 x1 0 x3 r3 0 s6 h
                · obtain ⟨v12, ev12⟩ : ∃ y : Int32, y = w10 + 1 := ⟨_, rfl⟩
                  have h := h v12 ev12
                  refine dk_iinc (i := 3) (v := v12) (L' := [some (dk_r G 0 40), some (.int w8), some (.int w9), some (.int v12), none, none, none]) C dL_areApart_124 (n := 127) rfl rfl (by rw [ev12]; rfl) (dk_nc_of rfl) (Nat.le_of_ble_eq_true rfl) rfl ?_
                  refine dk_goto (t := 4) C dL_areApart_127 (by decide) ?_
                  refine dk_sub (L0 := [some (dk_r G 0 40), some (.int w8), some (.int w9), some (.int v12), none, none, none]) ⟨rfl, ⟨rfl, ⟨rfl, ⟨rfl, trivial⟩⟩⟩⟩ ?_
                  exact hB w8 w9 v12 s11 h
              · have h := h.2 c14
                refine dk_sub (L0 := [some (dk_r G 0 40), some (.int x1), none, some (.int x3), some (.int r3), none, none]) ⟨rfl, ⟨rfl, ⟨rfl, ⟨rfl, trivial⟩⟩⟩⟩ ?_
                exact ww_L_areApart_65 C ht hr hlk hl hri hB x1 x3 r3 s6 h
set_option maxRecDepth 20000 in
set_option maxHeartbeats 4000000 in
theorem cc_L_areApart {G : dk_G} {l : Launch} {a1 : Int32} (hD : dk_D G) (hl : l.stackTraces = false) (hri : dk_RI G) {s : dk_S} {K : Int32 → dk_S → Prop} {X : String → dk_S → Prop} (h : wf_L_areApart G a1 s K X) : dk_MX G l 8 yL_areApart cL_areApart 7 (some .boolean) [dk_r G 0 40, .int a1] s (dk_ki K) X := by
  refine dk_xof hD (by decide) [some (dk_r G 0 40), some (.int a1), none, none, none, none, none] (fun q hq => hq) rfl (Nat.le_of_ble_eq_true rfl) (fun P e S0 m args bel meth c C ht hr hlk => ?_)
  unfold wf_L_areApart at h
  refine dk_iconst (v := 1) C dL_areApart_0 (n := 1) rfl (by decide) ?_
  refine dk_istore_n (i := 2) (L' := [some (dk_r G 0 40), some (.int a1), some (.int 1), none, none, none, none]) C dL_areApart_1 (n := 2) rfl rfl (dk_nc_of rfl) (Nat.le_of_ble_eq_true rfl) rfl ?_
  refine dk_iconst (v := 0) C dL_areApart_2 (n := 3) rfl (by decide) ?_
  refine dk_istore_n (i := 3) (L' := [some (dk_r G 0 40), some (.int a1), some (.int 1), some (.int 0), none, none, none]) C dL_areApart_3 (n := 4) rfl rfl (dk_nc_of rfl) (Nat.le_of_ble_eq_true rfl) rfl ?_
  obtain ⟨nn1, h⟩ := h
  refine dk_sub (L0 := [some (dk_r G 0 40), some (.int a1), some (.int 1), some (.int 0), none, none, none]) ⟨rfl, ⟨rfl, ⟨rfl, ⟨rfl, trivial⟩⟩⟩⟩ ?_
  refine ww_L_areApart_4 C ht hr hlk hl hri  nn1 a1 1 0 s h
/-! L_areThings -/
set_option maxRecDepth 20000 in
set_option maxHeartbeats 4000000 in
theorem ww_L_areThings_121 {G : dk_G} {P : Program} {l : Launch} {e : Env} {S0 : State} {m : MethodId} {args : Array Value} {bel : List Frame} {meth : Method} {c : Code}  (C : dk_C G P (dk_rx 8) S0 m args c 0 0 cL_areThings 7 RL) (ht : ∀ x ∈ c.exceptionTable.toList, False) (hr : meth.sig.returnType = (some .boolean)) (hlk : meth.locks = false) (hl : l.stackTraces = false) (hri : dk_RI G) {K : Int32 → dk_S → Prop} {X : String → dk_S → Prop}  : ∀ (x1 : Int32) (x2 : Int32) (s : dk_S), wf_L_areThings_121 G K X x1 x2 s → dk_W G P l e (dk_rx 8) S0 m args bel meth c 0 0 (zx_MQ bel (dk_Qc G (dk_ki K)) (dk_XC G X) args S0 1 6 (dk_A G)) 121 [none, some (.int x1), some (.int x2), none, none, none, none] [] s := by
  intro x1 x2 s h
  unfold wf_L_areThings_121 at h
  refine dk_iload_n (i := 2) C dL_areThings_121 (n := 122) rfl rfl rfl ?_
  refine dk_if_eq (t := 135) C dL_areThings_122 (n := 125) rfl (by decide) (fun c6 => ?_) (fun c6 => ?_)
  · have h := h.1 c6
    refine dk_iconst (v := 0) C dL_areThings_135 (n := 136) rfl (by decide) ?_
    refine dk_xret ?_
    exact dk_iret C hr hlk dk_nz0 dL_areThings_136 ⟨_, rfl, h⟩
  · have h := h.2 c6
    refine dk_iload_n (i := 1) C dL_areThings_125 (n := 126) rfl rfl rfl ?_
    refine dk_bipush (v := 30) C dL_areThings_126 (n := 128) rfl (by decide) ?_
    refine dk_icmp_gt (t := 135) C dL_areThings_128 (n := 131) rfl (by decide) (fun c5 => ?_) (fun c5 => ?_)
    · have h := h.1 c5
      refine dk_iconst (v := 0) C dL_areThings_135 (n := 136) rfl (by decide) ?_
      refine dk_xret ?_
      exact dk_iret C hr hlk dk_nz0 dL_areThings_136 ⟨_, rfl, h⟩
    · have h := h.2 c5
      refine dk_iconst (v := 1) C dL_areThings_131 (n := 132) rfl (by decide) ?_
      refine dk_goto (t := 136) C dL_areThings_132 (by decide) ?_
      refine dk_xret ?_
      exact dk_iret C hr hlk dk_nz1 dL_areThings_136 ⟨_, rfl, h⟩
set_option maxRecDepth 20000 in
set_option maxHeartbeats 4000000 in
theorem ww_L_areThings_96 {G : dk_G} {P : Program} {l : Launch} {e : Env} {S0 : State} {m : MethodId} {args : Array Value} {bel : List Frame} {meth : Method} {c : Code}  (C : dk_C G P (dk_rx 8) S0 m args c 0 0 cL_areThings 7 RL) (ht : ∀ x ∈ c.exceptionTable.toList, False) (hr : meth.sig.returnType = (some .boolean)) (hlk : meth.locks = false) (hl : l.stackTraces = false) (hri : dk_RI G) {K : Int32 → dk_S → Prop} {X : String → dk_S → Prop} {B : Int32 → Int32 → Int32 → dk_S → Prop} {E121 : Int32 → Int32 → dk_S → Prop} (hB : ∀ (x1 : Int32) (x2 : Int32) (x3 : Int32) (s : dk_S), B x1 x2 x3 s → dk_W G P l e (dk_rx 8) S0 m args bel meth c 0 0 (zx_MQ bel (dk_Qc G (dk_ki K)) (dk_XC G X) args S0 1 6 (dk_A G)) 6 [some (dk_r G 0 40), some (.int x1), some (.int x2), some (.int x3), none, none, none] [] s) (hE121 : ∀ (x1 : Int32) (x2 : Int32) (s : dk_S), E121 x1 x2 s → dk_W G P l e (dk_rx 8) S0 m args bel meth c 0 0 (zx_MQ bel (dk_Qc G (dk_ki K)) (dk_XC G X) args S0 1 6 (dk_A G)) 121 [none, some (.int x1), some (.int x2), none, none, none, none] [] s) : ∀ (x1 : Int32) (x3 : Int32) (x4 : Int32) (y0 : Int32) (s : dk_S), wf_L_areThings_96 G K X B E121 x1 x3 x4 y0 s → dk_W G P l e (dk_rx 8) S0 m args bel meth c 0 0 (zx_MQ bel (dk_Qc G (dk_ki K)) (dk_XC G X) args S0 1 6 (dk_A G)) 96 [some (dk_r G 0 40), some (.int x1), none, some (.int x3), some (.int x4), none, none] [.int y0] s := by
  intro x1 x3 x4 y0 s h
  unfold wf_L_areThings_96 at h
  refine dk_istore_n (i := 2) (L' := [some (dk_r G 0 40), some (.int x1), some (.int y0), some (.int x3), some (.int x4), none, none]) C dL_areThings_96 (n := 97) rfl rfl (dk_nc_of rfl) (Nat.le_of_ble_eq_true rfl) rfl ?_
  refine dk_iload_n (i := 1) C dL_areThings_97 (n := 98) rfl rfl rfl ?_
  refine dk_iload C dL_areThings_98 (n := 100) rfl (i := 4) rfl ?_
  refine dk_iconst (v := (-1)) C dL_areThings_100 (n := 101) rfl (by decide) ?_
  refine dk_icmp_ne (t := 112) C dL_areThings_101 (n := 104) rfl (by decide) (fun c35 => ?_) (fun c35 => ?_)
  · have h := h.1 c35
    refine dk_iconst (v := 0) C dL_areThings_112 (n := 113) rfl (by decide) ?_
    refine dk_iadd C dL_areThings_113 (n := 114) rfl ?_
    refine dk_name (fun v29 ev29 => ?_)
    have h := h v29 ev29
    refine dk_istore_n (i := 1) (L' := [some (dk_r G 0 40), some (.int v29), some (.int y0), some (.int x3), some (.int x4), none, none]) C dL_areThings_114 (n := 115) rfl rfl (dk_nc_of rfl) (Nat.le_of_ble_eq_true rfl) rfl ?_
    obtain ⟨v30, ev30⟩ : ∃ y : Int32, y = x3 + 1 := ⟨_, rfl⟩
    have h := h v30 ev30
    refine dk_iinc (i := 3) (v := v30) (L' := [some (dk_r G 0 40), some (.int v29), some (.int y0), some (.int v30), some (.int x4), none, none]) C dL_areThings_115 (n := 118) rfl rfl (by rw [ev30]; rfl) (dk_nc_of rfl) (Nat.le_of_ble_eq_true rfl) rfl ?_
    refine dk_goto (t := 6) C dL_areThings_118 (by decide) ?_
    refine dk_sub (L0 := [some (dk_r G 0 40), some (.int v29), some (.int y0), some (.int v30), none, none, none]) ⟨rfl, ⟨rfl, ⟨rfl, ⟨rfl, trivial⟩⟩⟩⟩ ?_
    exact hB v29 y0 v30 s h
  · have h := h.2 c35
    refine dk_aload_n (i := 0) C dL_areThings_104 (n := 105) rfl rfl rfl ?_
    refine dk_iload_n (i := 3) C dL_areThings_105 (n := 106) rfl rfl rfl ?_
    refine dk_xcallVi C ht hlk [.int x1] (cc_X8_weightOf C.D hl hri h) yy_X8_weightOf dk_wm_L_108 dk_sh40 (hri.1 40 (by decide) (by decide)) dL_areThings_106 (fun r32 s31 h => ?_) rfl rfl ⟨Nat.le_of_ble_eq_true rfl, Nat.le_of_ble_eq_true rfl⟩ ⟨Nat.le_of_ble_eq_true rfl, Nat.le_of_ble_eq_true rfl⟩ rfl (Nat.le_of_ble_eq_true rfl) rfl (n := 109) rfl
    refine dk_goto (t := 113) C dL_areThings_109 (by decide) ?_
    refine dk_iadd C dL_areThings_113 (n := 114) rfl ?_
    refine dk_name (fun v33 ev33 => ?_)
    have h := h v33 ev33
    refine dk_istore_n (i := 1) (L' := [some (dk_r G 0 40), some (.int v33), some (.int y0), some (.int x3), some (.int x4), none, none]) C dL_areThings_114 (n := 115) rfl rfl (dk_nc_of rfl) (Nat.le_of_ble_eq_true rfl) rfl ?_
    obtain ⟨v34, ev34⟩ : ∃ y : Int32, y = x3 + 1 := ⟨_, rfl⟩
    have h := h v34 ev34
    refine dk_iinc (i := 3) (v := v34) (L' := [some (dk_r G 0 40), some (.int v33), some (.int y0), some (.int v34), some (.int x4), none, none]) C dL_areThings_115 (n := 118) rfl rfl (by rw [ev34]; rfl) (dk_nc_of rfl) (Nat.le_of_ble_eq_true rfl) rfl ?_
    refine dk_goto (t := 6) C dL_areThings_118 (by decide) ?_
    refine dk_sub (L0 := [some (dk_r G 0 40), some (.int v33), some (.int y0), some (.int v34), none, none, none]) ⟨rfl, ⟨rfl, ⟨rfl, ⟨rfl, trivial⟩⟩⟩⟩ ?_
    exact hB v33 y0 v34 s31 h
set_option maxRecDepth 20000 in
set_option maxHeartbeats 4000000 in
theorem ww_L_areThings_61 {G : dk_G} {P : Program} {l : Launch} {e : Env} {S0 : State} {m : MethodId} {args : Array Value} {bel : List Frame} {meth : Method} {c : Code}  (C : dk_C G P (dk_rx 8) S0 m args c 0 0 cL_areThings 7 RL) (ht : ∀ x ∈ c.exceptionTable.toList, False) (hr : meth.sig.returnType = (some .boolean)) (hlk : meth.locks = false) (hl : l.stackTraces = false) (hri : dk_RI G) {K : Int32 → dk_S → Prop} {X : String → dk_S → Prop} {B : Int32 → Int32 → Int32 → dk_S → Prop} {E121 : Int32 → Int32 → dk_S → Prop} (hB : ∀ (x1 : Int32) (x2 : Int32) (x3 : Int32) (s : dk_S), B x1 x2 x3 s → dk_W G P l e (dk_rx 8) S0 m args bel meth c 0 0 (zx_MQ bel (dk_Qc G (dk_ki K)) (dk_XC G X) args S0 1 6 (dk_A G)) 6 [some (dk_r G 0 40), some (.int x1), some (.int x2), some (.int x3), none, none, none] [] s) (hE121 : ∀ (x1 : Int32) (x2 : Int32) (s : dk_S), E121 x1 x2 s → dk_W G P l e (dk_rx 8) S0 m args bel meth c 0 0 (zx_MQ bel (dk_Qc G (dk_ki K)) (dk_XC G X) args S0 1 6 (dk_A G)) 121 [none, some (.int x1), some (.int x2), none, none, none, none] [] s) : ∀ (x1 : Int32) (x3 : Int32) (x4 : Int32) (x5 : Int32) (x6 : Int32) (s : dk_S), wf_L_areThings_61 G K X B E121 x1 x3 x4 x5 x6 s → dk_W G P l e (dk_rx 8) S0 m args bel meth c 0 0 (zx_MQ bel (dk_Qc G (dk_ki K)) (dk_XC G X) args S0 1 6 (dk_A G)) 61 [some (dk_r G 0 40), some (.int x1), none, some (.int x3), some (.int x4), some (.int x5), some (.int x6)] [] s := by
  intro x1 x3 x4 x5 x6 s h
  unfold wf_L_areThings_61 at h
  refine dk_iload C dL_areThings_61 (n := 63) rfl (i := 5) rfl ?_
  refine dk_bipush (v := 10) C dL_areThings_63 (n := 65) rfl (by decide) ?_
  refine dk_icmp_ge (t := 95) C dL_areThings_65 (n := 68) rfl (by decide) (fun c23 => ?_) (fun c23 => ?_)
  · have h := h.1 c23
    refine dk_iconst (v := 0) C dL_areThings_95 (n := 96) rfl (by decide) ?_
    refine dk_sub (L0 := [some (dk_r G 0 40), some (.int x1), none, some (.int x3), some (.int x4), none, none]) ⟨rfl, ⟨rfl, ⟨rfl, ⟨rfl, trivial⟩⟩⟩⟩ ?_
    exact ww_L_areThings_96 C ht hr hlk hl hri hB hE121 x1 x3 x4 0 s h
  · have h := h.2 c23
    refine dk_aload_n (i := 0) C dL_areThings_68 (n := 69) rfl rfl rfl ?_
    refine dk_iload_n (i := 3) C dL_areThings_69 (n := 70) rfl rfl rfl ?_
    refine dk_xcallVi C ht hlk [] (cc_X8_weightOf C.D hl hri h) yy_X8_weightOf dk_wm_L_108 dk_sh40 (hri.1 40 (by decide) (by decide)) dL_areThings_70 (fun r19 s18 h => ?_) rfl rfl ⟨Nat.le_of_ble_eq_true rfl, Nat.le_of_ble_eq_true rfl⟩ ⟨Nat.le_of_ble_eq_true rfl, Nat.le_of_ble_eq_true rfl⟩ rfl (Nat.le_of_ble_eq_true rfl) rfl (n := 73) rfl
    refine dk_if_lt (t := 95) C dL_areThings_73 (n := 76) rfl (by decide) (fun c22 => ?_) (fun c22 => ?_)
    · have h := h.1 c22
      refine dk_iconst (v := 0) C dL_areThings_95 (n := 96) rfl (by decide) ?_
      refine dk_sub (L0 := [some (dk_r G 0 40), some (.int x1), none, some (.int x3), some (.int x4), none, none]) ⟨rfl, ⟨rfl, ⟨rfl, ⟨rfl, trivial⟩⟩⟩⟩ ?_
      exact ww_L_areThings_96 C ht hr hlk hl hri hB hE121 x1 x3 x4 0 s18 h
    · have h := h.2 c22
      refine dk_iload C dL_areThings_76 (n := 78) rfl (i := 6) rfl ?_
      refine dk_bipush (v := (-2)) C dL_areThings_78 (n := 80) rfl (by decide) ?_
      refine dk_icmp_lt (t := 95) C dL_areThings_80 (n := 83) rfl (by decide) (fun c21 => ?_) (fun c21 => ?_)
      · have h := h.1 c21
        refine dk_iconst (v := 0) C dL_areThings_95 (n := 96) rfl (by decide) ?_
        refine dk_sub (L0 := [some (dk_r G 0 40), some (.int x1), none, some (.int x3), some (.int x4), none, none]) ⟨rfl, ⟨rfl, ⟨rfl, ⟨rfl, trivial⟩⟩⟩⟩ ?_
        exact ww_L_areThings_96 C ht hr hlk hl hri hB hE121 x1 x3 x4 0 s18 h
      · have h := h.2 c21
        refine dk_iload C dL_areThings_83 (n := 85) rfl (i := 6) rfl ?_
        refine dk_sipush (v := 1111) C dL_areThings_85 (n := 88) rfl (by decide) ?_
        refine dk_icmp_gt (t := 95) C dL_areThings_88 (n := 91) rfl (by decide) (fun c20 => ?_) (fun c20 => ?_)
        · have h := h.1 c20
          refine dk_iconst (v := 0) C dL_areThings_95 (n := 96) rfl (by decide) ?_
          refine dk_sub (L0 := [some (dk_r G 0 40), some (.int x1), none, some (.int x3), some (.int x4), none, none]) ⟨rfl, ⟨rfl, ⟨rfl, ⟨rfl, trivial⟩⟩⟩⟩ ?_
          exact ww_L_areThings_96 C ht hr hlk hl hri hB hE121 x1 x3 x4 0 s18 h
        · have h := h.2 c20
          refine dk_iconst (v := 1) C dL_areThings_91 (n := 92) rfl (by decide) ?_
          refine dk_goto (t := 96) C dL_areThings_92 (by decide) ?_
          refine dk_sub (L0 := [some (dk_r G 0 40), some (.int x1), none, some (.int x3), some (.int x4), none, none]) ⟨rfl, ⟨rfl, ⟨rfl, ⟨rfl, trivial⟩⟩⟩⟩ ?_
          exact ww_L_areThings_96 C ht hr hlk hl hri hB hE121 x1 x3 x4 1 s18 h
set_option maxRecDepth 20000 in
set_option maxHeartbeats 4000000 in
theorem ww_L_areThings_30 {G : dk_G} {P : Program} {l : Launch} {e : Env} {S0 : State} {m : MethodId} {args : Array Value} {bel : List Frame} {meth : Method} {c : Code}  (C : dk_C G P (dk_rx 8) S0 m args c 0 0 cL_areThings 7 RL) (ht : ∀ x ∈ c.exceptionTable.toList, False) (hr : meth.sig.returnType = (some .boolean)) (hlk : meth.locks = false) (hl : l.stackTraces = false) (hri : dk_RI G) {K : Int32 → dk_S → Prop} {X : String → dk_S → Prop} {E61 : Int32 → Int32 → Int32 → Int32 → Int32 → dk_S → Prop} (hE61 : ∀ (x1 : Int32) (x3 : Int32) (x4 : Int32) (x5 : Int32) (x6 : Int32) (s : dk_S), E61 x1 x3 x4 x5 x6 s → dk_W G P l e (dk_rx 8) S0 m args bel meth c 0 0 (zx_MQ bel (dk_Qc G (dk_ki K)) (dk_XC G X) args S0 1 6 (dk_A G)) 61 [some (dk_r G 0 40), some (.int x1), none, some (.int x3), some (.int x4), some (.int x5), some (.int x6)] [] s) : ∀ (n : Nat) (x1 : Int32) (x3 : Int32) (x4 : Int32) (x5 : Int32) (x6 : Int32) (s : dk_S), wf_L_areThings_30 G K X E61 n x1 x3 x4 x5 x6 s → dk_W G P l e (dk_rx 8) S0 m args bel meth c 0 0 (zx_MQ bel (dk_Qc G (dk_ki K)) (dk_XC G X) args S0 1 6 (dk_A G)) 30 [some (dk_r G 0 40), some (.int x1), none, some (.int x3), some (.int x4), some (.int x5), some (.int x6)] [] s := by
  intro n
  induction n with
  | zero => intro x1 x3 x4 x5 x6 s h; exact False.elim h
  | succ n hB =>
    intro x1 x3 x4 x5 x6 s h
    unfold wf_L_areThings_30 at h
    refine dk_iload C dL_areThings_30 (n := 32) rfl (i := 6) rfl ?_
    refine dk_bipush (v := (-3)) C dL_areThings_32 (n := 34) rfl (by decide) ?_
    refine dk_icmp_gt (t := 61) C dL_areThings_34 (n := 37) rfl (by decide) (fun c28 => ?_) (fun c28 => ?_)
    · have h := h.1 c28
      refine dk_sub (L0 := [some (dk_r G 0 40), some (.int x1), none, some (.int x3), some (.int x4), some (.int x5), some (.int x6)]) ⟨rfl, ⟨rfl, ⟨rfl, ⟨rfl, ⟨rfl, ⟨rfl, trivial⟩⟩⟩⟩⟩⟩ ?_
      exact hE61 x1 x3 x4 x5 x6 s h
    · have h := h.2 c28
      refine dk_iload C dL_areThings_37 (n := 39) rfl (i := 5) rfl ?_
      refine dk_bipush (v := 10) C dL_areThings_39 (n := 41) rfl (by decide) ?_
      refine dk_icmp_ge (t := 61) C dL_areThings_41 (n := 44) rfl (by decide) (fun c27 => ?_) (fun c27 => ?_)
      · have h := h.1 c27
        refine dk_sub (L0 := [some (dk_r G 0 40), some (.int x1), none, some (.int x3), some (.int x4), some (.int x5), some (.int x6)]) ⟨rfl, ⟨rfl, ⟨rfl, ⟨rfl, ⟨rfl, ⟨rfl, trivial⟩⟩⟩⟩⟩⟩ ?_
        exact hE61 x1 x3 x4 x5 x6 s h
      · have h := h.2 c27
        refine dk_aload_n (i := 0) C dL_areThings_44 (n := 45) rfl rfl rfl ?_
        refine dk_bipush (v := (-3)) C dL_areThings_45 (n := 47) rfl (by decide) ?_
        refine dk_iload C dL_areThings_47 (n := 49) rfl (i := 6) rfl ?_
        refine dk_isub C dL_areThings_49 (n := 50) rfl ?_
        refine dk_xcallVi C ht hlk [] (cc_X8_whereIs C.D hl hri h) yy_X8_whereIs dk_wm_L_105 dk_sh40 (hri.1 40 (by decide) (by decide)) dL_areThings_50 (fun r25 s24 h => ?_) rfl rfl ⟨Nat.le_of_ble_eq_true rfl, Nat.le_of_ble_eq_true rfl⟩ ⟨Nat.le_of_ble_eq_true rfl, Nat.le_of_ble_eq_true rfl⟩ rfl (Nat.le_of_ble_eq_true rfl) rfl (n := 53) rfl
        refine dk_istore (i := 6) (L' := [some (dk_r G 0 40), some (.int x1), none, some (.int x3), some (.int x4), some (.int x5), some (.int r25)]) C dL_areThings_53 (n := 55) rfl (dk_nc_of rfl) (Nat.le_of_ble_eq_true rfl) rfl ?_
        obtain ⟨v26, ev26⟩ : ∃ y : Int32, y = x5 + 1 := ⟨_, rfl⟩
        have h := h v26 ev26
        refine dk_iinc (i := 5) (v := v26) (L' := [some (dk_r G 0 40), some (.int x1), none, some (.int x3), some (.int x4), some (.int v26), some (.int r25)]) C dL_areThings_55 (n := 58) rfl rfl (by rw [ev26]; rfl) (dk_nc_of rfl) (Nat.le_of_ble_eq_true rfl) rfl ?_
        refine dk_goto (t := 30) C dL_areThings_58 (by decide) ?_
        refine dk_sub (L0 := [some (dk_r G 0 40), some (.int x1), none, some (.int x3), some (.int x4), some (.int v26), some (.int r25)]) ⟨rfl, ⟨rfl, ⟨rfl, ⟨rfl, ⟨rfl, ⟨rfl, trivial⟩⟩⟩⟩⟩⟩ ?_
        exact hB x1 x3 x4 v26 r25 s24 h
set_option maxRecDepth 20000 in
set_option maxHeartbeats 4000000 in
theorem ww_L_areThings_6 {G : dk_G} {P : Program} {l : Launch} {e : Env} {S0 : State} {m : MethodId} {args : Array Value} {bel : List Frame} {meth : Method} {c : Code}  (C : dk_C G P (dk_rx 8) S0 m args c 0 0 cL_areThings 7 RL) (ht : ∀ x ∈ c.exceptionTable.toList, False) (hr : meth.sig.returnType = (some .boolean)) (hlk : meth.locks = false) (hl : l.stackTraces = false) (hri : dk_RI G) {K : Int32 → dk_S → Prop} {X : String → dk_S → Prop} {E121 : Int32 → Int32 → dk_S → Prop} (hE121 : ∀ (x1 : Int32) (x2 : Int32) (s : dk_S), E121 x1 x2 s → dk_W G P l e (dk_rx 8) S0 m args bel meth c 0 0 (zx_MQ bel (dk_Qc G (dk_ki K)) (dk_XC G X) args S0 1 6 (dk_A G)) 121 [none, some (.int x1), some (.int x2), none, none, none, none] [] s) : ∀ (n : Nat) (x1 : Int32) (x2 : Int32) (x3 : Int32) (s : dk_S), wf_L_areThings_6 G K X E121 n x1 x2 x3 s → dk_W G P l e (dk_rx 8) S0 m args bel meth c 0 0 (zx_MQ bel (dk_Qc G (dk_ki K)) (dk_XC G X) args S0 1 6 (dk_A G)) 6 [some (dk_r G 0 40), some (.int x1), some (.int x2), some (.int x3), none, none, none] [] s := by
  intro n
  induction n with
  | zero => intro x1 x2 x3 s h; exact False.elim h
  | succ n hB =>
    intro x1 x2 x3 s h
    unfold wf_L_areThings_6 at h
    refine dk_iload_n (i := 3) C dL_areThings_6 (n := 7) rfl rfl rfl ?_
    refine dk_bipush (v := 9) C dL_areThings_7 (n := 9) rfl (by decide) ?_
    refine dk_icmp_ge (t := 121) C dL_areThings_9 (n := 12) rfl (by decide) (fun c17 => ?_) (fun c17 => ?_)
    · have h := h.1 c17
      refine dk_sub (L0 := [none, some (.int x1), some (.int x2), none, none, none, none]) ⟨rfl, ⟨rfl, trivial⟩⟩ ?_
      exact hE121 x1 x2 s h
    · have h := h.2 c17
      refine dk_iload_n (i := 2) C dL_areThings_12 (n := 13) rfl rfl rfl ?_
      refine dk_if_eq (t := 121) C dL_areThings_13 (n := 16) rfl (by decide) (fun c16 => ?_) (fun c16 => ?_)
      · have h := h.1 c16
        refine dk_sub (L0 := [none, some (.int x1), some (.int x2), none, none, none, none]) ⟨rfl, ⟨rfl, trivial⟩⟩ ?_
        exact hE121 x1 x2 s h
      · have h := h.2 c16
        refine dk_aload_n (i := 0) C dL_areThings_16 (n := 17) rfl rfl rfl ?_
        refine dk_iload_n (i := 3) C dL_areThings_17 (n := 18) rfl rfl rfl ?_
        refine dk_xcallVi C ht hlk [] (cc_X8_whereIs C.D hl hri h) yy_X8_whereIs dk_wm_L_105 dk_sh40 (hri.1 40 (by decide) (by decide)) dL_areThings_18 (fun r8 s7 h => ?_) rfl rfl ⟨Nat.le_of_ble_eq_true rfl, Nat.le_of_ble_eq_true rfl⟩ ⟨Nat.le_of_ble_eq_true rfl, Nat.le_of_ble_eq_true rfl⟩ rfl (Nat.le_of_ble_eq_true rfl) rfl (n := 21) rfl
        refine dk_istore (i := 4) (L' := [some (dk_r G 0 40), some (.int x1), some (.int x2), some (.int x3), some (.int r8), none, none]) C dL_areThings_21 (n := 23) rfl (dk_nc_of rfl) (Nat.le_of_ble_eq_true rfl) rfl ?_
        refine dk_iconst (v := 0) C dL_areThings_23 (n := 24) rfl (by decide) ?_
        refine dk_istore (i := 5) (L' := [some (dk_r G 0 40), some (.int x1), some (.int x2), some (.int x3), some (.int r8), some (.int 0), none]) C dL_areThings_24 (n := 26) rfl (dk_nc_of rfl) (Nat.le_of_ble_eq_true rfl) rfl ?_
        refine dk_iload C dL_areThings_26 (n := 28) rfl (i := 4) rfl ?_
        refine dk_istore (i := 6) (L' := [some (dk_r G 0 40), some (.int x1), some (.int x2), some (.int x3), some (.int r8), some (.int 0), some (.int r8)]) C dL_areThings_28 (n := 30) rfl (dk_nc_of rfl) (Nat.le_of_ble_eq_true rfl) rfl ?_
        obtain ⟨nn15, h⟩ := h
        refine dk_sub (L0 := [some (dk_r G 0 40), some (.int x1), none, some (.int x3), some (.int r8), some (.int 0), some (.int r8)]) ⟨rfl, ⟨rfl, ⟨rfl, ⟨rfl, ⟨rfl, ⟨rfl, trivial⟩⟩⟩⟩⟩⟩ ?_
        refine ww_L_areThings_30 C ht hr hlk hl hri (fun w9 w10 w11 w12 w13 s14 h => ?_) nn15 x1 x3 r8 0 r8 s7 h
        · refine dk_sub (L0 := [some (dk_r G 0 40), some (.int w9), none, some (.int w10), some (.int w11), some (.int w12), some (.int w13)]) ⟨rfl, ⟨rfl, ⟨rfl, ⟨rfl, ⟨rfl, ⟨rfl, trivial⟩⟩⟩⟩⟩⟩ ?_
          exact ww_L_areThings_61 C ht hr hlk hl hri hB hE121 w9 w10 w11 w12 w13 s14 h
set_option maxRecDepth 20000 in
set_option maxHeartbeats 4000000 in
theorem cc_L_areThings {G : dk_G} {l : Launch}  (hD : dk_D G) (hl : l.stackTraces = false) (hri : dk_RI G) {s : dk_S} {K : Int32 → dk_S → Prop} {X : String → dk_S → Prop} (h : wf_L_areThings G s K X) : dk_MX G l 8 yL_areThings cL_areThings 7 (some .boolean) [dk_r G 0 40] s (dk_ki K) X := by
  refine dk_xof hD (by decide) [some (dk_r G 0 40), none, none, none, none, none, none] (fun q hq => hq) rfl (Nat.le_of_ble_eq_true rfl) (fun P e S0 m args bel meth c C ht hr hlk => ?_)
  unfold wf_L_areThings at h
  refine dk_iconst (v := 0) C dL_areThings_0 (n := 1) rfl (by decide) ?_
  refine dk_istore_n (i := 1) (L' := [some (dk_r G 0 40), some (.int 0), none, none, none, none, none]) C dL_areThings_1 (n := 2) rfl rfl (dk_nc_of rfl) (Nat.le_of_ble_eq_true rfl) rfl ?_
  refine dk_iconst (v := 1) C dL_areThings_2 (n := 3) rfl (by decide) ?_
  refine dk_istore_n (i := 2) (L' := [some (dk_r G 0 40), some (.int 0), some (.int 1), none, none, none, none]) C dL_areThings_3 (n := 4) rfl rfl (dk_nc_of rfl) (Nat.le_of_ble_eq_true rfl) rfl ?_
  refine dk_iconst (v := 0) C dL_areThings_4 (n := 5) rfl (by decide) ?_
  refine dk_istore_n (i := 3) (L' := [some (dk_r G 0 40), some (.int 0), some (.int 1), some (.int 0), none, none, none]) C dL_areThings_5 (n := 6) rfl rfl (dk_nc_of rfl) (Nat.le_of_ble_eq_true rfl) rfl ?_
  obtain ⟨nn4, h⟩ := h
  refine dk_sub (L0 := [some (dk_r G 0 40), some (.int 0), some (.int 1), some (.int 0), none, none, none]) ⟨rfl, ⟨rfl, ⟨rfl, ⟨rfl, trivial⟩⟩⟩⟩ ?_
  refine ww_L_areThings_6 C ht hr hlk hl hri (fun w1 w2 s3 h => ?_) nn4 0 1 0 s h
  · refine dk_sub (L0 := [none, some (.int w1), some (.int w2), none, none, none, none]) ⟨rfl, ⟨rfl, trivial⟩⟩ ?_
    exact ww_L_areThings_121 C ht hr hlk hl hri  w1 w2 s3 h
