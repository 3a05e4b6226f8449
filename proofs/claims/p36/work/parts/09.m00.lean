/-! X8_shown -/
/-! X8_shown -/
theorem cc_X8_shown {G : dk_G} {l : Launch} (hD : dk_D G) (hri : dk_RI G) {s : dk_S} : dk_M G l 1 yX8_shown cX8_shown 1 (some (.object "DelveKeep$World")) [dk_r G 0 40] s (fun v s' => (s 0 40 5 = 110 ∧ v = some (dk_r G 1 0) ∧ s' = s) ∨ (¬ s 0 40 5 = 110 ∧ v = some (dk_r G 2 0) ∧ s' = s)) := by
  refine dk_of hD (by decide) [some (dk_r G 0 40)] (fun q hq => hq) rfl (Nat.le_of_ble_eq_true rfl) (fun P e S0 m args bel meth c C hr hlk => ?_)
  refine dk_aload_n (i := 0) C dX8_shown_0 (n := 1) rfl rfl rfl ?_
  refine gf_X8_36 C (hri.1 40 (by decide) (by decide)) dX8_shown_1 (n := 4) rfl ?_
  refine dk_bipush (v := 110) C dX8_shown_4 (n := 6) rfl (by decide) ?_
  refine dk_icmp_ne (t := 16) C dX8_shown_6 (n := 9) rfl (by decide) (fun c1 => ?_) (fun c1 => ?_)
  · refine dk_aload_n (i := 0) C dX8_shown_16 (n := 17) rfl rfl rfl ?_
    refine gf_X8_16 C (hri.1 40 (by decide) (by decide)) dX8_shown_17 (n := 20) rfl ?_
    exact dk_aret C hr (Or.inl ⟨_, rfl⟩) hlk dX8_shown_20 (Or.inr ⟨c1, rfl, rfl⟩)
  · refine dk_aload_n (i := 0) C dX8_shown_9 (n := 10) rfl rfl rfl ?_
    refine gf_X8_12 C (hri.1 40 (by decide) (by decide)) dX8_shown_10 (n := 13) rfl ?_
    refine dk_goto (t := 20) C dX8_shown_13 (by decide) ?_
    exact dk_aret C hr (Or.inl ⟨_, rfl⟩) hlk dX8_shown_20 (Or.inl ⟨c1, rfl, rfl⟩)
/-! J7_fill_53178 -/
set_option maxRecDepth 20000 in
set_option maxHeartbeats 4000000 in
theorem ww_J7_fill_53178_5 {G : dk_G} {P : Program} {l : Launch} {e : Env} {S0 : State} {m : MethodId} {args : Array Value} {bel : List Frame} {meth : Method} {c : Code} {p0 : Nat} {q0 : Nat} {n0 : Nat} (C : dk_C G P (dk_rm 1) S0 m args c 0 0 cJ7_fill_53178 4 RJ7) (hr : meth.sig.returnType = none) (hlk : meth.locks = false) (hs0 : dk_shp q0 = .inl (0, n0)) (hd0 : (p0, q0) ∈ dk_dom G) {K : dk_S → Prop}  : ∀ (n : Nat) (x1 : Int32) (x2 : Int32) (x3 : Int32) (s : dk_S), wf_J7_fill_53178_5 p0 q0 n0 K n x1 x2 x3 s → dk_W G P l e (dk_rm 1) S0 m args bel meth c 0 0 (MQ bel (dk_Qc G (dk_kv K)) args S0 0 0 (dk_A G)) 5 [some (dk_r G p0 q0), some (.int x1), some (.int x2), some (.int x3)] [] s := by
  intro n
  induction n with
  | zero => intro x1 x2 x3 s h; exact False.elim h
  | succ n hB =>
    intro x1 x2 x3 s h
    unfold wf_J7_fill_53178_5 at h
    refine dk_iload_n (i := 2) C dJ7_fill_53178_5 (n := 6) rfl rfl rfl ?_
    refine dk_iload_n (i := 3) C dJ7_fill_53178_6 (n := 7) rfl rfl rfl ?_
    refine dk_icmp_ge (t := 20) C dJ7_fill_53178_7 (n := 10) rfl (by decide) (fun c5 => ?_) (fun c5 => ?_)
    · have h := h.1 c5
      exact dk_vret C hr hlk dJ7_fill_53178_20 ⟨rfl, h⟩
    · have h := h.2 c5
      refine dk_aload_n (i := 0) C dJ7_fill_53178_10 (n := 11) rfl rfl rfl ?_
      refine dk_iload_n (i := 2) C dJ7_fill_53178_11 (n := 12) rfl rfl rfl ?_
      refine dk_iload_n (i := 1) C dJ7_fill_53178_12 (n := 13) rfl rfl rfl ?_
      refine dk_iast C hs0 h.1 hd0 dJ7_fill_53178_13 (n := 14) rfl ?_
      refine dk_nameS (fun s3 es3 => ?_)
      have h := h.2 s3 es3
      obtain ⟨v4, ev4⟩ : ∃ y : Int32, y = x2 + 1 := ⟨_, rfl⟩
      have h := h v4 ev4
      refine dk_iinc (i := 2) (v := v4) (L' := [some (dk_r G p0 q0), some (.int x1), some (.int v4), some (.int x3)]) C dJ7_fill_53178_14 (n := 17) rfl rfl (by rw [ev4]; rfl) (dk_nc_of rfl) (Nat.le_of_ble_eq_true rfl) rfl ?_
      refine dk_goto (t := 5) C dJ7_fill_53178_17 (by decide) ?_
      refine dk_sub (L0 := [some (dk_r G p0 q0), some (.int x1), some (.int v4), some (.int x3)]) ⟨rfl, ⟨rfl, ⟨rfl, ⟨rfl, trivial⟩⟩⟩⟩ ?_
      exact hB x1 v4 x3 s3 h
set_option maxRecDepth 20000 in
set_option maxHeartbeats 4000000 in
theorem cc_J7_fill_53178 {G : dk_G} {l : Launch} {p0 : Nat} {q0 : Nat} {n0 : Nat} {a1 : Int32} (hD : dk_D G) (hs0 : dk_shp q0 = .inl (0, n0)) (hd0 : (p0, q0) ∈ dk_dom G) {s : dk_S} {K : dk_S → Prop} (h : wf_J7_fill_53178 p0 q0 n0 a1 s K) : dk_M G l 1 yJ7_fill_53178 cJ7_fill_53178 4 none [dk_r G p0 q0, .int a1] s (dk_kv K) := by
  refine dk_of hD (by decide) [some (dk_r G p0 q0), some (.int a1), none, none] (fun q hq => hq) rfl (Nat.le_of_ble_eq_true rfl) (fun P e S0 m args bel meth c C hr hlk => ?_)
  unfold wf_J7_fill_53178 at h
  refine dk_iconst (v := 0) C dJ7_fill_53178_0 (n := 1) rfl (by decide) ?_
  refine dk_istore_n (i := 2) (L' := [some (dk_r G p0 q0), some (.int a1), some (.int 0), none]) C dJ7_fill_53178_1 (n := 2) rfl rfl (dk_nc_of rfl) (Nat.le_of_ble_eq_true rfl) rfl ?_
  refine dk_aload_n (i := 0) C dJ7_fill_53178_2 (n := 3) rfl rfl rfl ?_
  refine dk_alen (v := (Int32.ofNat n0)) C hs0 rfl rfl hd0 dJ7_fill_53178_3 (n := 4) rfl ?_
  refine dk_name (fun v1 ev1 => ?_)
  have h := h v1 ev1
  refine dk_istore_n (i := 3) (L' := [some (dk_r G p0 q0), some (.int a1), some (.int 0), some (.int v1)]) C dJ7_fill_53178_4 (n := 5) rfl rfl (dk_nc_of rfl) (Nat.le_of_ble_eq_true rfl) rfl ?_
  obtain ⟨nn2, h⟩ := h
  refine dk_sub (L0 := [some (dk_r G p0 q0), some (.int a1), some (.int 0), some (.int v1)]) ⟨rfl, ⟨rfl, ⟨rfl, ⟨rfl, trivial⟩⟩⟩⟩ ?_
  refine ww_J7_fill_53178_5 C hr hlk hs0 hd0  nn2 a1 0 v1 s h
/-! X8_at -/
set_option maxRecDepth 20000 in
set_option maxHeartbeats 4000000 in
theorem cc_X8_at {G : dk_G} {l : Launch} {p0 : Nat} {q0 : Nat} {n0 : Nat} {a1 : Int32} (hD : dk_D G) (hs0 : dk_shp q0 = .inl (0, n0)) (hd0 : (p0, q0) ∈ dk_dom G) {s : dk_S} {K : Int32 → dk_S → Prop} (h : wf_X8_at p0 q0 n0 a1 s K) : dk_M G l 1 yX8_at cX8_at 2 (some .int) [dk_r G p0 q0, .int a1] s (dk_ki K) := by
  refine dk_of hD (by decide) [some (dk_r G p0 q0), some (.int a1)] (fun q hq => hq) rfl (Nat.le_of_ble_eq_true rfl) (fun P e S0 m args bel meth c C hr hlk => ?_)
  unfold wf_X8_at at h
  refine dk_iload_n (i := 1) C dX8_at_0 (n := 1) rfl rfl rfl ?_
  refine dk_if_lt (t := 16) C dX8_at_1 (n := 4) rfl (by decide) (fun c2 => ?_) (fun c2 => ?_)
  · have h := h.1 c2
    refine dk_iconst (v := 0) C dX8_at_16 (n := 17) rfl (by decide) ?_
    exact dk_iret C hr hlk rfl dX8_at_17 ⟨_, rfl, h⟩
  · have h := h.2 c2
    refine dk_iload_n (i := 1) C dX8_at_4 (n := 5) rfl rfl rfl ?_
    refine dk_aload_n (i := 0) C dX8_at_5 (n := 6) rfl rfl rfl ?_
    refine dk_alen (v := (Int32.ofNat n0)) C hs0 rfl rfl hd0 dX8_at_6 (n := 7) rfl ?_
    refine dk_icmp_ge (t := 16) C dX8_at_7 (n := 10) rfl (by decide) (fun c1 => ?_) (fun c1 => ?_)
    · have h := h.1 c1
      refine dk_iconst (v := 0) C dX8_at_16 (n := 17) rfl (by decide) ?_
      exact dk_iret C hr hlk rfl dX8_at_17 ⟨_, rfl, h⟩
    · have h := h.2 c1
      refine dk_aload_n (i := 0) C dX8_at_10 (n := 11) rfl rfl rfl ?_
      refine dk_iload_n (i := 1) C dX8_at_11 (n := 12) rfl rfl rfl ?_
      refine dk_iald C hs0 h.1 hd0 dX8_at_12 (n := 13) rfl ?_
      have h := h.2
      refine dk_goto (t := 17) C dX8_at_13 (by decide) ?_
      exact dk_iret C hr hlk rfl dX8_at_17 ⟨_, rfl, h⟩
/-! X7_heroSpot -/
set_option maxRecDepth 20000 in
set_option maxHeartbeats 4000000 in
theorem cc_X7_heroSpot {G : dk_G} {l : Launch} {p0 : Nat} (hD : dk_D G) (hp0 : dk_WI G p0) {s : dk_S} {K : Int32 → dk_S → Prop} (h : wf_X7_heroSpot p0 s K) : dk_M G l 2 yX7_heroSpot cX7_heroSpot 1 (some .int) [dk_r G p0 0] s (dk_ki K) := by
  refine dk_of hD (by decide) [some (dk_r G p0 0)] (fun q hq => hq) rfl (Nat.le_of_ble_eq_true rfl) (fun P e S0 m args bel meth c C hr hlk => ?_)
  unfold wf_X7_heroSpot at h
  refine dk_aload_n (i := 0) C dX7_heroSpot_0 (n := 1) rfl rfl rfl ?_
  refine gf_X7_28 C (hp0 0 (by decide)) dX7_heroSpot_1 (n := 4) rfl ?_
  refine gf_X7_78 C (hp0 13 (by decide)) dX7_heroSpot_4 (n := 7) rfl ?_
  refine dk_iconst (v := 0) C dX7_heroSpot_7 (n := 8) rfl (by decide) ?_
  refine dk_callNi C [] (cc_X8_at C.D dk_sh14 (hp0 14 (by decide)) h) yy_X8_at dk_wm_X7_82 dX7_heroSpot_8 (fun r2 s1 h => ?_) rfl ⟨Nat.le_of_ble_eq_true rfl, Nat.le_of_ble_eq_true rfl⟩ rfl (Nat.le_of_ble_eq_true rfl) rfl (n := 11) rfl
  exact dk_iret C hr hlk rfl dX7_heroSpot_11 ⟨_, rfl, h⟩
/-! X6_bagOf -/
set_option maxRecDepth 20000 in
set_option maxHeartbeats 4000000 in
theorem cc_X6_bagOf {G : dk_G} {l : Launch} {p0 : Nat} {a1 : Int32} (hD : dk_D G) (hp0 : dk_WI G p0) {s : dk_S} {K : Int32 → dk_S → Prop} (h : wf_X6_bagOf p0 a1 s K) : dk_M G l 2 yX6_bagOf cX6_bagOf 3 (some .int) [dk_r G p0 23, .int a1] s (dk_ki K) := by
  refine dk_of hD (by decide) [some (dk_r G p0 23), some (.int a1), none] (fun q hq => hq) rfl (Nat.le_of_ble_eq_true rfl) (fun P e S0 m args bel meth c C hr hlk => ?_)
  unfold wf_X6_bagOf at h
  refine dk_aload_n (i := 0) C dX6_bagOf_0 (n := 1) rfl rfl rfl ?_
  refine gf_X6_15 C (hp0 23 (by decide)) dX6_bagOf_1 (n := 4) rfl ?_
  refine dk_iload_n (i := 1) C dX6_bagOf_4 (n := 5) rfl rfl rfl ?_
  refine dk_callNi C [] (cc_X8_at C.D dk_sh25 (hp0 25 (by decide)) h) yy_X8_at dk_wm_X6_30 dX6_bagOf_5 (fun r2 s1 h => ?_) rfl ⟨Nat.le_of_ble_eq_true rfl, Nat.le_of_ble_eq_true rfl⟩ rfl (Nat.le_of_ble_eq_true rfl) rfl (n := 8) rfl
  refine dk_istore_n (i := 2) (L' := [some (dk_r G p0 23), some (.int a1), some (.int r2)]) C dX6_bagOf_8 (n := 9) rfl rfl (dk_nc_of rfl) (Nat.le_of_ble_eq_true rfl) rfl ?_
  refine dk_iload_n (i := 2) C dX6_bagOf_9 (n := 10) rfl rfl rfl ?_
  refine dk_bipush (v := (-3)) C dX6_bagOf_10 (n := 12) rfl (by decide) ?_
  refine dk_icmp_gt (t := 22) C dX6_bagOf_12 (n := 15) rfl (by decide) (fun c3 => ?_) (fun c3 => ?_)
  · have h := h.1 c3
    refine dk_iconst (v := (-1)) C dX6_bagOf_22 (n := 23) rfl (by decide) ?_
    exact dk_iret C hr hlk rfl dX6_bagOf_23 ⟨_, rfl, h⟩
  · have h := h.2 c3
    refine dk_bipush (v := (-3)) C dX6_bagOf_15 (n := 17) rfl (by decide) ?_
    refine dk_iload_n (i := 2) C dX6_bagOf_17 (n := 18) rfl rfl rfl ?_
    refine dk_isub C dX6_bagOf_18 (n := 19) rfl ?_
    refine dk_goto (t := 23) C dX6_bagOf_19 (by decide) ?_
    exact dk_iret C hr hlk rfl dX6_bagOf_23 ⟨_, rfl, h⟩
/-! X6_outerPlace -/
set_option maxRecDepth 20000 in
set_option maxHeartbeats 4000000 in
theorem ww_X6_outerPlace_4 {G : dk_G} {P : Program} {l : Launch} {e : Env} {S0 : State} {m : MethodId} {args : Array Value} {bel : List Frame} {meth : Method} {c : Code} {p0 : Nat} (C : dk_C G P (dk_rm 3) S0 m args c 0 0 cX6_outerPlace 4 RX6) (hr : meth.sig.returnType = (some .int)) (hlk : meth.locks = false) (hp0 : dk_WI G p0) {K : Int32 → dk_S → Prop}  : ∀ (n : Nat) (x2 : Int32) (x3 : Int32) (s : dk_S), wf_X6_outerPlace_4 p0 K n x2 x3 s → dk_W G P l e (dk_rm 3) S0 m args bel meth c 0 0 (MQ bel (dk_Qc G (dk_ki K)) args S0 0 0 (dk_A G)) 4 [some (dk_r G p0 23), none, some (.int x2), some (.int x3)] [] s := by
  intro n
  induction n with
  | zero => intro x2 x3 s h; exact False.elim h
  | succ n hB =>
    intro x2 x3 s h
    unfold wf_X6_outerPlace_4 at h
    refine dk_iload_n (i := 3) C dX6_outerPlace_4 (n := 5) rfl rfl rfl ?_
    refine dk_bipush (v := 24) C dX6_outerPlace_5 (n := 7) rfl (by decide) ?_
    refine dk_icmp_ge (t := 31) C dX6_outerPlace_7 (n := 10) rfl (by decide) (fun c12 => ?_) (fun c12 => ?_)
    · have h := h.1 c12
      refine dk_aload_n (i := 0) C dX6_outerPlace_31 (n := 32) rfl rfl rfl ?_
      refine gf_X6_15 C (hp0 23 (by decide)) dX6_outerPlace_32 (n := 35) rfl ?_
      refine dk_iload_n (i := 2) C dX6_outerPlace_35 (n := 36) rfl rfl rfl ?_
      refine dk_callNi C [] (cc_X8_at C.D dk_sh25 (hp0 25 (by decide)) h) yy_X8_at dk_wm_X6_30 dX6_outerPlace_36 (fun r3 s2 h => ?_) rfl ⟨Nat.le_of_ble_eq_true rfl, Nat.le_of_ble_eq_true rfl⟩ rfl (Nat.le_of_ble_eq_true rfl) rfl (n := 39) rfl
      exact dk_iret C hr hlk rfl dX6_outerPlace_39 ⟨_, rfl, h⟩
    · have h := h.2 c12
      refine dk_aload_n (i := 0) C dX6_outerPlace_10 (n := 11) rfl rfl rfl ?_
      refine dk_iload_n (i := 2) C dX6_outerPlace_11 (n := 12) rfl rfl rfl ?_
      refine dk_callVi C [] (cc_X6_bagOf C.D hp0 h) yy_X6_bagOf dk_wm_X6_34 dk_sh23 (hp0 23 (by decide)) dX6_outerPlace_12 (fun r5 s4 h => ?_) rfl rfl ⟨Nat.le_of_ble_eq_true rfl, Nat.le_of_ble_eq_true rfl⟩ rfl (Nat.le_of_ble_eq_true rfl) rfl (n := 15) rfl
      refine dk_iconst (v := (-1)) C dX6_outerPlace_15 (n := 16) rfl (by decide) ?_
      refine dk_icmp_eq (t := 31) C dX6_outerPlace_16 (n := 19) rfl (by decide) (fun c11 => ?_) (fun c11 => ?_)
      · have h := h.1 c11
        refine dk_aload_n (i := 0) C dX6_outerPlace_31 (n := 32) rfl rfl rfl ?_
        refine gf_X6_15 C (hp0 23 (by decide)) dX6_outerPlace_32 (n := 35) rfl ?_
        refine dk_iload_n (i := 2) C dX6_outerPlace_35 (n := 36) rfl rfl rfl ?_
        refine dk_callNi C [] (cc_X8_at C.D dk_sh25 (hp0 25 (by decide)) h) yy_X8_at dk_wm_X6_30 dX6_outerPlace_36 (fun r7 s6 h => ?_) rfl ⟨Nat.le_of_ble_eq_true rfl, Nat.le_of_ble_eq_true rfl⟩ rfl (Nat.le_of_ble_eq_true rfl) rfl (n := 39) rfl
        exact dk_iret C hr hlk rfl dX6_outerPlace_39 ⟨_, rfl, h⟩
      · have h := h.2 c11
        refine dk_aload_n (i := 0) C dX6_outerPlace_19 (n := 20) rfl rfl rfl ?_
        refine dk_iload_n (i := 2) C dX6_outerPlace_20 (n := 21) rfl rfl rfl ?_
        refine dk_callVi C [] (cc_X6_bagOf C.D hp0 h) yy_X6_bagOf dk_wm_X6_34 dk_sh23 (hp0 23 (by decide)) dX6_outerPlace_21 (fun r9 s8 h => ?_) rfl rfl ⟨Nat.le_of_ble_eq_true rfl, Nat.le_of_ble_eq_true rfl⟩ rfl (Nat.le_of_ble_eq_true rfl) rfl (n := 24) rfl
        refine dk_istore_n (i := 2) (L' := [some (dk_r G p0 23), none, some (.int r9), some (.int x3)]) C dX6_outerPlace_24 (n := 25) rfl rfl (dk_nc_of rfl) (Nat.le_of_ble_eq_true rfl) rfl ?_
        obtain ⟨v10, ev10⟩ : ∃ y : Int32, y = x3 + 1 := ⟨_, rfl⟩
        have h := h v10 ev10
        refine dk_iinc (i := 3) (v := v10) (L' := [some (dk_r G p0 23), none, some (.int r9), some (.int v10)]) C dX6_outerPlace_25 (n := 28) rfl rfl (by rw [ev10]; rfl) (dk_nc_of rfl) (Nat.le_of_ble_eq_true rfl) rfl ?_
        refine dk_goto (t := 4) C dX6_outerPlace_28 (by decide) ?_
        refine dk_sub (L0 := [some (dk_r G p0 23), none, some (.int r9), some (.int v10)]) ⟨rfl, ⟨rfl, ⟨rfl, trivial⟩⟩⟩ ?_
        exact hB r9 v10 s8 h
set_option maxRecDepth 20000 in
set_option maxHeartbeats 4000000 in
theorem cc_X6_outerPlace {G : dk_G} {l : Launch} {p0 : Nat} {a1 : Int32} (hD : dk_D G) (hp0 : dk_WI G p0) {s : dk_S} {K : Int32 → dk_S → Prop} (h : wf_X6_outerPlace p0 a1 s K) : dk_M G l 3 yX6_outerPlace cX6_outerPlace 4 (some .int) [dk_r G p0 23, .int a1] s (dk_ki K) := by
  refine dk_of hD (by decide) [some (dk_r G p0 23), some (.int a1), none, none] (fun q hq => hq) rfl (Nat.le_of_ble_eq_true rfl) (fun P e S0 m args bel meth c C hr hlk => ?_)
  unfold wf_X6_outerPlace at h
  refine dk_iload_n (i := 1) C dX6_outerPlace_0 (n := 1) rfl rfl rfl ?_
  refine dk_istore_n (i := 2) (L' := [some (dk_r G p0 23), some (.int a1), some (.int a1), none]) C dX6_outerPlace_1 (n := 2) rfl rfl (dk_nc_of rfl) (Nat.le_of_ble_eq_true rfl) rfl ?_
  refine dk_iconst (v := 0) C dX6_outerPlace_2 (n := 3) rfl (by decide) ?_
  refine dk_istore_n (i := 3) (L' := [some (dk_r G p0 23), some (.int a1), some (.int a1), some (.int 0)]) C dX6_outerPlace_3 (n := 4) rfl rfl (dk_nc_of rfl) (Nat.le_of_ble_eq_true rfl) rfl ?_
  obtain ⟨nn1, h⟩ := h
  refine dk_sub (L0 := [some (dk_r G p0 23), none, some (.int a1), some (.int 0)]) ⟨rfl, ⟨rfl, ⟨rfl, trivial⟩⟩⟩ ?_
  refine ww_X6_outerPlace_4 C hr hlk hp0  nn1 a1 0 s h
/-! X8_put -/
set_option maxRecDepth 20000 in
set_option maxHeartbeats 4000000 in
theorem cc_X8_put {G : dk_G} {l : Launch} {p0 : Nat} {q0 : Nat} {n0 : Nat} {a1 : Int32} {a2 : Int32} (hD : dk_D G) (hs0 : dk_shp q0 = .inl (0, n0)) (hd0 : (p0, q0) ∈ dk_dom G) {s : dk_S} {K : dk_S → Prop} (h : wf_X8_put p0 q0 n0 a1 a2 s K) : dk_M G l 1 yX8_put cX8_put 3 none [dk_r G p0 q0, .int a1, .int a2] s (dk_kv K) := by
  refine dk_of hD (by decide) [some (dk_r G p0 q0), some (.int a1), some (.int a2)] (fun q hq => hq) rfl (Nat.le_of_ble_eq_true rfl) (fun P e S0 m args bel meth c C hr hlk => ?_)
  unfold wf_X8_put at h
  refine dk_iload_n (i := 1) C dX8_put_0 (n := 1) rfl rfl rfl ?_
  refine dk_if_lt (t := 14) C dX8_put_1 (n := 4) rfl (by decide) (fun c3 => ?_) (fun c3 => ?_)
  · have h := h.1 c3
    exact dk_vret C hr hlk dX8_put_14 ⟨rfl, h⟩
  · have h := h.2 c3
    refine dk_iload_n (i := 1) C dX8_put_4 (n := 5) rfl rfl rfl ?_
    refine dk_aload_n (i := 0) C dX8_put_5 (n := 6) rfl rfl rfl ?_
    refine dk_alen (v := (Int32.ofNat n0)) C hs0 rfl rfl hd0 dX8_put_6 (n := 7) rfl ?_
    refine dk_icmp_ge (t := 14) C dX8_put_7 (n := 10) rfl (by decide) (fun c2 => ?_) (fun c2 => ?_)
    · have h := h.1 c2
      exact dk_vret C hr hlk dX8_put_14 ⟨rfl, h⟩
    · have h := h.2 c2
      refine dk_aload_n (i := 0) C dX8_put_10 (n := 11) rfl rfl rfl ?_
      refine dk_iload_n (i := 1) C dX8_put_11 (n := 12) rfl rfl rfl ?_
      refine dk_iload_n (i := 2) C dX8_put_12 (n := 13) rfl rfl rfl ?_
      refine dk_iast C hs0 h.1 hd0 dX8_put_13 (n := 14) rfl ?_
      refine dk_nameS (fun s1 es1 => ?_)
      have h := h.2 s1 es1
      exact dk_vret C hr hlk dX8_put_14 ⟨rfl, h⟩
/-! X0_note -/
set_option maxRecDepth 20000 in
set_option maxHeartbeats 4000000 in
theorem ww_X0_note_44 {G : dk_G} {P : Program} {l : Launch} {e : Env} {S0 : State} {m : MethodId} {args : Array Value} {bel : List Frame} {meth : Method} {c : Code} {p1 : Nat} (C : dk_C G P (dk_rm 4) S0 m args c 0 0 cX0_note 4 RX0) (hr : meth.sig.returnType = none) (hlk : meth.locks = false) (hri : dk_RI G) (hp1 : dk_WI G p1) {K : dk_S → Prop} {B : Int32 → dk_S → Prop} (hB : ∀ (x2 : Int32) (s : dk_S), B x2 s → dk_W G P l e (dk_rm 4) S0 m args bel meth c 0 0 (MQ bel (dk_Qc G (dk_kv K)) args S0 0 0 (dk_A G)) 10 [some (dk_r G 0 45), some (dk_r G p1 0), some (.int x2), none] [] s)  : ∀ (x2 : Int32) (y0 : Int32) (s : dk_S), wf_X0_note_44 p1 K B x2 y0 s → dk_W G P l e (dk_rm 4) S0 m args bel meth c 0 0 (MQ bel (dk_Qc G (dk_kv K)) args S0 0 0 (dk_A G)) 44 [some (dk_r G 0 45), some (dk_r G p1 0), some (.int x2), none] [.int y0] s := by
  intro x2 y0 s h
  unfold wf_X0_note_44 at h
  refine dk_istore_n (i := 3) (L' := [some (dk_r G 0 45), some (dk_r G p1 0), some (.int x2), some (.int y0)]) C dX0_note_44 (n := 45) rfl rfl (dk_nc_of rfl) (Nat.le_of_ble_eq_true rfl) rfl ?_
  refine dk_aload_n (i := 0) C dX0_note_45 (n := 46) rfl rfl rfl ?_
  refine gf_X0_9 C (hri.1 45 (by decide) (by decide)) dX0_note_46 (n := 49) rfl ?_
  refine dk_iload_n (i := 2) C dX0_note_49 (n := 50) rfl rfl rfl ?_
  refine dk_iload_n (i := 3) C dX0_note_50 (n := 51) rfl rfl rfl ?_
  refine dk_if_eq (t := 68) C dX0_note_51 (n := 54) rfl (by decide) (fun c16 => ?_) (fun c16 => ?_)
  · have h := h.1 c16
    refine dk_bipush (v := (-2)) C dX0_note_68 (n := 70) rfl (by decide) ?_
    refine dk_callNv C [] (cc_X8_put C.D dk_sh46 (hri.1 46 (by decide) (by decide)) h) yy_X8_put dk_wm_X0_43 dX0_note_70 (fun s10 h => ?_) rfl ⟨Nat.le_of_ble_eq_true rfl, Nat.le_of_ble_eq_true rfl⟩ rfl (Nat.le_of_ble_eq_true rfl) rfl (n := 73) rfl
    obtain ⟨v11, ev11⟩ : ∃ y : Int32, y = x2 + 1 := ⟨_, rfl⟩
    have h := h v11 ev11
    refine dk_iinc (i := 2) (v := v11) (L' := [some (dk_r G 0 45), some (dk_r G p1 0), some (.int v11), some (.int y0)]) C dX0_note_73 (n := 76) rfl rfl (by rw [ev11]; rfl) (dk_nc_of rfl) (Nat.le_of_ble_eq_true rfl) rfl ?_
    refine dk_goto (t := 10) C dX0_note_76 (by decide) ?_
    refine dk_sub (L0 := [some (dk_r G 0 45), some (dk_r G p1 0), some (.int v11), none]) ⟨rfl, ⟨rfl, ⟨rfl, trivial⟩⟩⟩ ?_
    exact hB v11 s10 h
  · have h := h.2 c16
    refine dk_aload_n (i := 1) C dX0_note_54 (n := 55) rfl rfl rfl ?_
    refine gf_X0_25 C (hp1 0 (by decide)) dX0_note_55 (n := 58) rfl ?_
    refine gf_X0_38 C (hp1 23 (by decide)) dX0_note_58 (n := 61) rfl ?_
    refine dk_iload_n (i := 2) C dX0_note_61 (n := 62) rfl rfl rfl ?_
    refine dk_callNi C [.int x2, dk_r G 0 46] (cc_X8_at C.D dk_sh25 (hp1 25 (by decide)) h) yy_X8_at dk_wm_X0_39 dX0_note_62 (fun r13 s12 h => ?_) rfl ⟨Nat.le_of_ble_eq_true rfl, Nat.le_of_ble_eq_true rfl⟩ rfl (Nat.le_of_ble_eq_true rfl) rfl (n := 65) rfl
    refine dk_goto (t := 70) C dX0_note_65 (by decide) ?_
    refine dk_callNv C [] (cc_X8_put C.D dk_sh46 (hri.1 46 (by decide) (by decide)) h) yy_X8_put dk_wm_X0_43 dX0_note_70 (fun s14 h => ?_) rfl ⟨Nat.le_of_ble_eq_true rfl, Nat.le_of_ble_eq_true rfl⟩ rfl (Nat.le_of_ble_eq_true rfl) rfl (n := 73) rfl
    obtain ⟨v15, ev15⟩ : ∃ y : Int32, y = x2 + 1 := ⟨_, rfl⟩
    have h := h v15 ev15
    refine dk_iinc (i := 2) (v := v15) (L' := [some (dk_r G 0 45), some (dk_r G p1 0), some (.int v15), some (.int y0)]) C dX0_note_73 (n := 76) rfl rfl (by rw [ev15]; rfl) (dk_nc_of rfl) (Nat.le_of_ble_eq_true rfl) rfl ?_
    refine dk_goto (t := 10) C dX0_note_76 (by decide) ?_
    refine dk_sub (L0 := [some (dk_r G 0 45), some (dk_r G p1 0), some (.int v15), none]) ⟨rfl, ⟨rfl, ⟨rfl, trivial⟩⟩⟩ ?_
    exact hB v15 s14 h
set_option maxRecDepth 20000 in
set_option maxHeartbeats 4000000 in
theorem ww_X0_note_10 {G : dk_G} {P : Program} {l : Launch} {e : Env} {S0 : State} {m : MethodId} {args : Array Value} {bel : List Frame} {meth : Method} {c : Code} {p1 : Nat} (C : dk_C G P (dk_rm 4) S0 m args c 0 0 cX0_note 4 RX0) (hr : meth.sig.returnType = none) (hlk : meth.locks = false) (hri : dk_RI G) (hp1 : dk_WI G p1) {K : dk_S → Prop}  : ∀ (n : Nat) (x2 : Int32) (s : dk_S), wf_X0_note_10 p1 K n x2 s → dk_W G P l e (dk_rm 4) S0 m args bel meth c 0 0 (MQ bel (dk_Qc G (dk_kv K)) args S0 0 0 (dk_A G)) 10 [some (dk_r G 0 45), some (dk_r G p1 0), some (.int x2), none] [] s := by
  intro n
  induction n with
  | zero => intro x2 s h; exact False.elim h
  | succ n hB =>
    intro x2 s h
    unfold wf_X0_note_10 at h
    refine dk_iload_n (i := 2) C dX0_note_10 (n := 11) rfl rfl rfl ?_
    refine dk_bipush (v := 24) C dX0_note_11 (n := 13) rfl (by decide) ?_
    refine dk_icmp_ge (t := 79) C dX0_note_13 (n := 16) rfl (by decide) (fun c9 => ?_) (fun c9 => ?_)
    · have h := h.1 c9
      exact dk_vret C hr hlk dX0_note_79 ⟨rfl, h⟩
    · have h := h.2 c9
      refine dk_iload_n (i := 2) C dX0_note_16 (n := 17) rfl rfl rfl ?_
      refine dk_aload_n (i := 1) C dX0_note_17 (n := 18) rfl rfl rfl ?_
      refine gf_X0_25 C (hp1 0 (by decide)) dX0_note_18 (n := 21) rfl ?_
      refine gf_X0_29 C (hp1 23 (by decide)) dX0_note_21 (n := 24) rfl ?_
      refine dk_icmp_ge (t := 43) C dX0_note_24 (n := 27) rfl (by decide) (fun c8 => ?_) (fun c8 => ?_)
      · have h := h.1 c8
        refine dk_iconst (v := 0) C dX0_note_43 (n := 44) rfl (by decide) ?_
        refine dk_sub (L0 := [some (dk_r G 0 45), some (dk_r G p1 0), some (.int x2), none]) ⟨rfl, ⟨rfl, ⟨rfl, trivial⟩⟩⟩ ?_
        exact ww_X0_note_44 C hr hlk hri hp1 hB x2 0 s h
      · have h := h.2 c8
        refine dk_aload_n (i := 1) C dX0_note_27 (n := 28) rfl rfl rfl ?_
        refine gf_X0_25 C (hp1 0 (by decide)) dX0_note_28 (n := 31) rfl ?_
        refine dk_iload_n (i := 2) C dX0_note_31 (n := 32) rfl rfl rfl ?_
        refine dk_callVi C [] (cc_X6_outerPlace C.D hp1 h) yy_X6_outerPlace dk_wm_X0_34 dk_sh23 (hp1 23 (by decide)) dX0_note_32 (fun r6 s5 h => ?_) rfl rfl ⟨Nat.le_of_ble_eq_true rfl, Nat.le_of_ble_eq_true rfl⟩ rfl (Nat.le_of_ble_eq_true rfl) rfl (n := 35) rfl
        refine dk_iconst (v := (-1)) C dX0_note_35 (n := 36) rfl (by decide) ?_
        refine dk_icmp_ne (t := 43) C dX0_note_36 (n := 39) rfl (by decide) (fun c7 => ?_) (fun c7 => ?_)
        · have h := h.1 c7
          refine dk_iconst (v := 0) C dX0_note_43 (n := 44) rfl (by decide) ?_
          refine dk_sub (L0 := [some (dk_r G 0 45), some (dk_r G p1 0), some (.int x2), none]) ⟨rfl, ⟨rfl, ⟨rfl, trivial⟩⟩⟩ ?_
          exact ww_X0_note_44 C hr hlk hri hp1 hB x2 0 s5 h
        · have h := h.2 c7
          refine dk_iconst (v := 1) C dX0_note_39 (n := 40) rfl (by decide) ?_
          refine dk_goto (t := 44) C dX0_note_40 (by decide) ?_
          refine dk_sub (L0 := [some (dk_r G 0 45), some (dk_r G p1 0), some (.int x2), none]) ⟨rfl, ⟨rfl, ⟨rfl, trivial⟩⟩⟩ ?_
          exact ww_X0_note_44 C hr hlk hri hp1 hB x2 1 s5 h
set_option maxRecDepth 20000 in
set_option maxHeartbeats 4000000 in
theorem cc_X0_note {G : dk_G} {l : Launch} {p1 : Nat} (hD : dk_D G) (hri : dk_RI G) (hp1 : dk_WI G p1) {s : dk_S} {K : dk_S → Prop} (h : wf_X0_note p1 s K) : dk_M G l 4 yX0_note cX0_note 4 none [dk_r G 0 45, dk_r G p1 0] s (dk_kv K) := by
  refine dk_of hD (by decide) [some (dk_r G 0 45), some (dk_r G p1 0), none, none] (fun q hq => hq) rfl (Nat.le_of_ble_eq_true rfl) (fun P e S0 m args bel meth c C hr hlk => ?_)
  unfold wf_X0_note at h
  refine dk_aload_n (i := 0) C dX0_note_0 (n := 1) rfl rfl rfl ?_
  refine dk_aload_n (i := 1) C dX0_note_1 (n := 2) rfl rfl rfl ?_
  refine dk_callVi C [dk_r G 0 45] (cc_X7_heroSpot C.D hp1 h) yy_X7_heroSpot dk_wm_X0_19 dk_sh0 (hp1 0 (by decide)) dX0_note_2 (fun r2 s1 h => ?_) rfl rfl ⟨Nat.le_of_ble_eq_true rfl, Nat.le_of_ble_eq_true rfl⟩ rfl (Nat.le_of_ble_eq_true rfl) rfl (n := 5) rfl
  refine pf_X0_15 C rfl rfl (hri.1 45 (by decide) (by decide)) dX0_note_5 (n := 8) rfl ?_
  refine dk_nameS (fun s3 es3 => ?_)
  have h := h s3 es3
  refine dk_iconst (v := 0) C dX0_note_8 (n := 9) rfl (by decide) ?_
  refine dk_istore_n (i := 2) (L' := [some (dk_r G 0 45), some (dk_r G p1 0), some (.int 0), none]) C dX0_note_9 (n := 10) rfl rfl (dk_nc_of rfl) (Nat.le_of_ble_eq_true rfl) rfl ?_
  obtain ⟨nn4, h⟩ := h
  refine dk_sub (L0 := [some (dk_r G 0 45), some (dk_r G p1 0), some (.int 0), none]) ⟨rfl, ⟨rfl, ⟨rfl, trivial⟩⟩⟩ ?_
  refine ww_X0_note_10 C hr hlk hri hp1  nn4 0 s3 h
/-! X1_signAt -/
set_option maxRecDepth 20000 in
set_option maxHeartbeats 4000000 in
theorem cc_X1_signAt {G : dk_G} {l : Launch} {p0 : Nat} {a1 : Int32} (hD : dk_D G) (hp0 : dk_WI G p0) {s : dk_S} {K : Int32 → dk_S → Prop} (h : wf_X1_signAt p0 a1 s K) : dk_M G l 1 yX1_signAt cX1_signAt 2 (some .char) [dk_r G p0 1, .int a1] s (dk_ki K) := by
  refine dk_of hD (by decide) [some (dk_r G p0 1), some (.int a1)] (fun q hq => hq) rfl (Nat.le_of_ble_eq_true rfl) (fun P e S0 m args bel meth c C hr hlk => ?_)
  unfold wf_X1_signAt at h
  refine dk_iload_n (i := 1) C dX1_signAt_0 (n := 1) rfl rfl rfl ?_
  refine dk_if_lt (t := 22) C dX1_signAt_1 (n := 4) rfl (by decide) (fun c2 => ?_) (fun c2 => ?_)
  · have h := h.1 c2
    refine dk_bipush (v := 35) C dX1_signAt_22 (n := 24) rfl (by decide) ?_
    exact dk_iret C hr hlk (by decide) dX1_signAt_24 ⟨_, rfl, h⟩
  · have h := h.2 c2
    refine dk_iload_n (i := 1) C dX1_signAt_4 (n := 5) rfl rfl rfl ?_
    refine dk_aload_n (i := 0) C dX1_signAt_5 (n := 6) rfl rfl rfl ?_
    refine gf_X1_9 C (hp0 1 (by decide)) dX1_signAt_6 (n := 9) rfl ?_
    refine dk_alen (v := 144) C dk_sh2 rfl rfl (hp0 2 (by decide)) dX1_signAt_9 (n := 10) rfl ?_
    refine dk_icmp_ge (t := 22) C dX1_signAt_10 (n := 13) rfl (by decide) (fun c1 => ?_) (fun c1 => ?_)
    · have h := h.1 c1
      refine dk_bipush (v := 35) C dX1_signAt_22 (n := 24) rfl (by decide) ?_
      exact dk_iret C hr hlk (by decide) dX1_signAt_24 ⟨_, rfl, h⟩
    · have h := h.2 c1
      refine dk_aload_n (i := 0) C dX1_signAt_13 (n := 14) rfl rfl rfl ?_
      refine gf_X1_9 C (hp0 1 (by decide)) dX1_signAt_14 (n := 17) rfl ?_
      refine dk_iload_n (i := 1) C dX1_signAt_17 (n := 18) rfl rfl rfl ?_
      refine dk_cald C dk_sh2 h.1 (hp0 2 (by decide)) dX1_signAt_18 (n := 19) rfl ?_
      have h := h.2
      refine dk_goto (t := 24) C dX1_signAt_19 (by decide) ?_
      exact dk_iret C hr hlk h.1 dX1_signAt_24 ⟨_, rfl, h.2⟩
/-! X8_isFree -/
set_option maxRecDepth 20000 in
set_option maxHeartbeats 4000000 in
theorem cc_X8_isFree {G : dk_G} {l : Launch} {a0 : Int32} (hD : dk_D G)  {s : dk_S} {K : Int32 → dk_S → Prop} (h : wf_X8_isFree a0 s K) : dk_M G l 1 yX8_isFree cX8_isFree 1 (some .boolean) [.int a0] s (dk_ki K) := by
  refine dk_of hD (by decide) [some (.int a0)] (fun q hq => hq) rfl (Nat.le_of_ble_eq_true rfl) (fun P e S0 m args bel meth c C hr hlk => ?_)
  unfold wf_X8_isFree at h
  refine dk_iload_n (i := 0) C dX8_isFree_0 (n := 1) rfl rfl rfl ?_
  refine dk_bipush (v := 46) C dX8_isFree_1 (n := 3) rfl (by decide) ?_
  refine dk_icmp_eq (t := 18) C dX8_isFree_3 (n := 6) rfl (by decide) (fun c3 => ?_) (fun c3 => ?_)
  · have h := h.1 c3
    refine dk_iconst (v := 1) C dX8_isFree_18 (n := 19) rfl (by decide) ?_
    refine dk_goto (t := 23) C dX8_isFree_19 (by decide) ?_
    exact dk_iret C hr hlk dk_nz1 dX8_isFree_23 ⟨_, rfl, h⟩
  · have h := h.2 c3
    refine dk_iload_n (i := 0) C dX8_isFree_6 (n := 7) rfl rfl rfl ?_
    refine dk_bipush (v := 126) C dX8_isFree_7 (n := 9) rfl (by decide) ?_
    refine dk_icmp_eq (t := 18) C dX8_isFree_9 (n := 12) rfl (by decide) (fun c2 => ?_) (fun c2 => ?_)
    · have h := h.1 c2
      refine dk_iconst (v := 1) C dX8_isFree_18 (n := 19) rfl (by decide) ?_
      refine dk_goto (t := 23) C dX8_isFree_19 (by decide) ?_
      exact dk_iret C hr hlk dk_nz1 dX8_isFree_23 ⟨_, rfl, h⟩
    · have h := h.2 c2
      refine dk_iload_n (i := 0) C dX8_isFree_12 (n := 13) rfl rfl rfl ?_
      refine dk_bipush (v := 47) C dX8_isFree_13 (n := 15) rfl (by decide) ?_
      refine dk_icmp_ne (t := 22) C dX8_isFree_15 (n := 18) rfl (by decide) (fun c1 => ?_) (fun c1 => ?_)
      · have h := h.1 c1
        refine dk_iconst (v := 0) C dX8_isFree_22 (n := 23) rfl (by decide) ?_
        exact dk_iret C hr hlk dk_nz0 dX8_isFree_23 ⟨_, rfl, h⟩
      · have h := h.2 c1
        refine dk_iconst (v := 1) C dX8_isFree_18 (n := 19) rfl (by decide) ?_
        refine dk_goto (t := 23) C dX8_isFree_19 (by decide) ?_
        exact dk_iret C hr hlk dk_nz1 dX8_isFree_23 ⟨_, rfl, h⟩
/-! X1_isFreeAt -/
set_option maxRecDepth 20000 in
set_option maxHeartbeats 4000000 in
theorem cc_X1_isFreeAt {G : dk_G} {l : Launch} {p0 : Nat} {a1 : Int32} (hD : dk_D G) (hp0 : dk_WI G p0) {s : dk_S} {K : Int32 → dk_S → Prop} (h : wf_X1_isFreeAt p0 a1 s K) : dk_M G l 2 yX1_isFreeAt cX1_isFreeAt 2 (some .boolean) [dk_r G p0 1, .int a1] s (dk_ki K) := by
  refine dk_of hD (by decide) [some (dk_r G p0 1), some (.int a1)] (fun q hq => hq) rfl (Nat.le_of_ble_eq_true rfl) (fun P e S0 m args bel meth c C hr hlk => ?_)
  unfold wf_X1_isFreeAt at h
  refine dk_aload_n (i := 0) C dX1_isFreeAt_0 (n := 1) rfl rfl rfl ?_
  refine dk_iload_n (i := 1) C dX1_isFreeAt_1 (n := 2) rfl rfl rfl ?_
  refine dk_callVi C [] (cc_X1_signAt C.D hp0 h) yy_X1_signAt dk_wm_X1_44 dk_sh1 (hp0 1 (by decide)) dX1_isFreeAt_2 (fun r2 s1 h => ?_) rfl rfl ⟨Nat.le_of_ble_eq_true rfl, Nat.le_of_ble_eq_true rfl⟩ rfl (Nat.le_of_ble_eq_true rfl) rfl (n := 5) rfl
  refine dk_callNi C [] (cc_X8_isFree C.D  h) yy_X8_isFree dk_wm_X1_48 dX1_isFreeAt_5 (fun r4 s3 h => ?_) rfl ⟨Nat.le_of_ble_eq_true rfl, Nat.le_of_ble_eq_true rfl⟩ rfl (Nat.le_of_ble_eq_true rfl) rfl (n := 8) rfl
  exact dk_iret C hr hlk h.1 dX1_isFreeAt_8 ⟨_, rfl, h.2⟩
/-! X0_layIn -/
set_option maxRecDepth 20000 in
set_option maxHeartbeats 4000000 in
theorem ww_X0_layIn_25 {G : dk_G} {P : Program} {l : Launch} {e : Env} {S0 : State} {m : MethodId} {args : Array Value} {bel : List Frame} {meth : Method} {c : Code} {p1 : Nat} (C : dk_C G P (dk_rm 3) S0 m args c 0 0 cX0_layIn 4 RX0) (hr : meth.sig.returnType = none) (hlk : meth.locks = false) (hri : dk_RI G) (hp1 : dk_WI G p1) {K : dk_S → Prop}  : ∀ (n : Nat) (x2 : Int32) (s : dk_S), wf_X0_layIn_25 p1 K n x2 s → dk_W G P l e (dk_rm 3) S0 m args bel meth c 0 0 (MQ bel (dk_Qc G (dk_kv K)) args S0 0 0 (dk_A G)) 25 [some (dk_r G 0 45), some (dk_r G p1 0), some (.int x2), none] [] s := by
  intro n
  induction n with
  | zero => intro x2 s h; exact False.elim h
  | succ n hB =>
    intro x2 s h
    unfold wf_X0_layIn_25 at h
    refine dk_iload_n (i := 2) C dX0_layIn_25 (n := 26) rfl rfl rfl ?_
    refine dk_bipush (v := 24) C dX0_layIn_26 (n := 28) rfl (by decide) ?_
    refine dk_icmp_ge (t := 76) C dX0_layIn_28 (n := 31) rfl (by decide) (fun c15 => ?_) (fun c15 => ?_)
    · have h := h.1 c15
      exact dk_vret C hr hlk dX0_layIn_76 ⟨rfl, h⟩
    · have h := h.2 c15
      refine dk_aload_n (i := 0) C dX0_layIn_31 (n := 32) rfl rfl rfl ?_
      refine gf_X0_9 C (hri.1 45 (by decide) (by decide)) dX0_layIn_32 (n := 35) rfl ?_
      refine dk_iload_n (i := 2) C dX0_layIn_35 (n := 36) rfl rfl rfl ?_
      refine dk_callNi C [] (cc_X8_at C.D dk_sh46 (hri.1 46 (by decide) (by decide)) h) yy_X8_at dk_wm_X0_39 dX0_layIn_36 (fun r7 s6 h => ?_) rfl ⟨Nat.le_of_ble_eq_true rfl, Nat.le_of_ble_eq_true rfl⟩ rfl (Nat.le_of_ble_eq_true rfl) rfl (n := 39) rfl
      refine dk_istore_n (i := 3) (L' := [some (dk_r G 0 45), some (dk_r G p1 0), some (.int x2), some (.int r7)]) C dX0_layIn_39 (n := 40) rfl rfl (dk_nc_of rfl) (Nat.le_of_ble_eq_true rfl) rfl ?_
      refine dk_iload_n (i := 3) C dX0_layIn_40 (n := 41) rfl rfl rfl ?_
      refine dk_bipush (v := (-2)) C dX0_layIn_41 (n := 43) rfl (by decide) ?_
      refine dk_icmp_eq (t := 70) C dX0_layIn_43 (n := 46) rfl (by decide) (fun c14 => ?_) (fun c14 => ?_)
      · have h := h.1 c14
        obtain ⟨v8, ev8⟩ : ∃ y : Int32, y = x2 + 1 := ⟨_, rfl⟩
        have h := h v8 ev8
        refine dk_iinc (i := 2) (v := v8) (L' := [some (dk_r G 0 45), some (dk_r G p1 0), some (.int v8), some (.int r7)]) C dX0_layIn_70 (n := 73) rfl rfl (by rw [ev8]; rfl) (dk_nc_of rfl) (Nat.le_of_ble_eq_true rfl) rfl ?_
        refine dk_goto (t := 25) C dX0_layIn_73 (by decide) ?_
        refine dk_sub (L0 := [some (dk_r G 0 45), some (dk_r G p1 0), some (.int v8), none]) ⟨rfl, ⟨rfl, ⟨rfl, trivial⟩⟩⟩ ?_
        exact hB v8 s6 h
      · have h := h.2 c14
        refine dk_aload_n (i := 1) C dX0_layIn_46 (n := 47) rfl rfl rfl ?_
        refine gf_X0_25 C (hp1 0 (by decide)) dX0_layIn_47 (n := 50) rfl ?_
        refine gf_X0_38 C (hp1 23 (by decide)) dX0_layIn_50 (n := 53) rfl ?_
        refine dk_iload_n (i := 2) C dX0_layIn_53 (n := 54) rfl rfl rfl ?_
        refine dk_iload_n (i := 3) C dX0_layIn_54 (n := 55) rfl rfl rfl ?_
        refine dk_iconst (v := (-1)) C dX0_layIn_55 (n := 56) rfl (by decide) ?_
        refine dk_icmp_ne (t := 66) C dX0_layIn_56 (n := 59) rfl (by decide) (fun c13 => ?_) (fun c13 => ?_)
        · have h := h.1 c13
          refine dk_iload_n (i := 3) C dX0_layIn_66 (n := 67) rfl rfl rfl ?_
          refine dk_callNv C [] (cc_X8_put C.D dk_sh25 (hp1 25 (by decide)) h) yy_X8_put dk_wm_X0_43 dX0_layIn_67 (fun s9 h => ?_) rfl ⟨Nat.le_of_ble_eq_true rfl, Nat.le_of_ble_eq_true rfl⟩ rfl (Nat.le_of_ble_eq_true rfl) rfl (n := 70) rfl
          obtain ⟨v10, ev10⟩ : ∃ y : Int32, y = x2 + 1 := ⟨_, rfl⟩
          have h := h v10 ev10
          refine dk_iinc (i := 2) (v := v10) (L' := [some (dk_r G 0 45), some (dk_r G p1 0), some (.int v10), some (.int r7)]) C dX0_layIn_70 (n := 73) rfl rfl (by rw [ev10]; rfl) (dk_nc_of rfl) (Nat.le_of_ble_eq_true rfl) rfl ?_
          refine dk_goto (t := 25) C dX0_layIn_73 (by decide) ?_
          refine dk_sub (L0 := [some (dk_r G 0 45), some (dk_r G p1 0), some (.int v10), none]) ⟨rfl, ⟨rfl, ⟨rfl, trivial⟩⟩⟩ ?_
          exact hB v10 s9 h
        · have h := h.2 c13
          refine dk_aload_n (i := 0) C dX0_layIn_59 (n := 60) rfl rfl rfl ?_
          refine gf_X0_15 C (hri.1 45 (by decide) (by decide)) dX0_layIn_60 (n := 63) rfl ?_
          refine dk_goto (t := 67) C dX0_layIn_63 (by decide) ?_
          refine dk_callNv C [] (cc_X8_put C.D dk_sh25 (hp1 25 (by decide)) h) yy_X8_put dk_wm_X0_43 dX0_layIn_67 (fun s11 h => ?_) rfl ⟨Nat.le_of_ble_eq_true rfl, Nat.le_of_ble_eq_true rfl⟩ rfl (Nat.le_of_ble_eq_true rfl) rfl (n := 70) rfl
          obtain ⟨v12, ev12⟩ : ∃ y : Int32, y = x2 + 1 := ⟨_, rfl⟩
          have h := h v12 ev12
          refine dk_iinc (i := 2) (v := v12) (L' := [some (dk_r G 0 45), some (dk_r G p1 0), some (.int v12), some (.int r7)]) C dX0_layIn_70 (n := 73) rfl rfl (by rw [ev12]; rfl) (dk_nc_of rfl) (Nat.le_of_ble_eq_true rfl) rfl ?_
          refine dk_goto (t := 25) C dX0_layIn_73 (by decide) ?_
          refine dk_sub (L0 := [some (dk_r G 0 45), some (dk_r G p1 0), some (.int v12), none]) ⟨rfl, ⟨rfl, ⟨rfl, trivial⟩⟩⟩ ?_
          exact hB v12 s11 h
set_option maxRecDepth 20000 in
set_option maxHeartbeats 4000000 in
theorem cc_X0_layIn {G : dk_G} {l : Launch} {p1 : Nat} (hD : dk_D G) (hri : dk_RI G) (hp1 : dk_WI G p1) {s : dk_S} {K : dk_S → Prop} (h : wf_X0_layIn p1 s K) : dk_M G l 3 yX0_layIn cX0_layIn 4 none [dk_r G 0 45, dk_r G p1 0] s (dk_kv K) := by
  refine dk_of hD (by decide) [some (dk_r G 0 45), some (dk_r G p1 0), none, none] (fun q hq => hq) rfl (Nat.le_of_ble_eq_true rfl) (fun P e S0 m args bel meth c C hr hlk => ?_)
  unfold wf_X0_layIn at h
  refine dk_aload_n (i := 0) C dX0_layIn_0 (n := 1) rfl rfl rfl ?_
  refine gf_X0_15 C (hri.1 45 (by decide) (by decide)) dX0_layIn_1 (n := 4) rfl ?_
  refine dk_iconst (v := (-1)) C dX0_layIn_4 (n := 5) rfl (by decide) ?_
  refine dk_icmp_eq (t := 22) C dX0_layIn_5 (n := 8) rfl (by decide) (fun c5 => ?_) (fun c5 => ?_)
  · have h := h.1 c5
    exact dk_vret C hr hlk dX0_layIn_22 ⟨rfl, h⟩
  · have h := h.2 c5
    refine dk_aload_n (i := 1) C dX0_layIn_8 (n := 9) rfl rfl rfl ?_
    refine gf_X0_47 C (hp1 0 (by decide)) dX0_layIn_9 (n := 12) rfl ?_
    refine dk_aload_n (i := 0) C dX0_layIn_12 (n := 13) rfl rfl rfl ?_
    refine gf_X0_15 C (hri.1 45 (by decide) (by decide)) dX0_layIn_13 (n := 16) rfl ?_
    refine dk_callVi C [] (cc_X1_isFreeAt C.D hp1 h) yy_X1_isFreeAt dk_wm_X0_51 dk_sh1 (hp1 1 (by decide)) dX0_layIn_16 (fun r2 s1 h => ?_) rfl rfl ⟨Nat.le_of_ble_eq_true rfl, Nat.le_of_ble_eq_true rfl⟩ rfl (Nat.le_of_ble_eq_true rfl) rfl (n := 19) rfl
    refine dk_if_ne (t := 23) C dX0_layIn_19 (n := 22) rfl (by decide) (fun c4 => ?_) (fun c4 => ?_)
    · have h := h.1 c4
      refine dk_iconst (v := 0) C dX0_layIn_23 (n := 24) rfl (by decide) ?_
      refine dk_istore_n (i := 2) (L' := [some (dk_r G 0 45), some (dk_r G p1 0), some (.int 0), none]) C dX0_layIn_24 (n := 25) rfl rfl (dk_nc_of rfl) (Nat.le_of_ble_eq_true rfl) rfl ?_
      obtain ⟨nn3, h⟩ := h
      refine dk_sub (L0 := [some (dk_r G 0 45), some (dk_r G p1 0), some (.int 0), none]) ⟨rfl, ⟨rfl, ⟨rfl, trivial⟩⟩⟩ ?_
      refine ww_X0_layIn_25 C hr hlk hri hp1  nn3 0 s1 h
    · have h := h.2 c4
      exact dk_vret C hr hlk dX0_layIn_22 ⟨rfl, h⟩
/-! X1_copy -/
set_option maxRecDepth 20000 in
set_option maxHeartbeats 4000000 in
theorem cc_X1_copy {G : dk_G} {l : Launch} {p0 : Nat} {p1 : Nat} (hD : dk_D G) (hp0 : dk_WI G p0) (hp1 : dk_WI G p1) {s : dk_S} {K : dk_S → Prop} (h : wf_X1_copy p0 p1 s K) : dk_M G l 2 yX1_copy cX1_copy 2 none [dk_r G p0 1, dk_r G p1 1] s (dk_kv K) := by
  refine dk_of hD (by decide) [some (dk_r G p0 1), some (dk_r G p1 1)] (fun q hq => hq) rfl (Nat.le_of_ble_eq_true rfl) (fun P e S0 m args bel meth c C hr hlk => ?_)
  unfold wf_X1_copy at h
  refine dk_aload_n (i := 1) C dX1_copy_0 (n := 1) rfl rfl rfl ?_
  refine gf_X1_9 C (hp1 1 (by decide)) dX1_copy_1 (n := 4) rfl ?_
  refine dk_iconst (v := 0) C dX1_copy_4 (n := 5) rfl (by decide) ?_
  refine dk_aload_n (i := 0) C dX1_copy_5 (n := 6) rfl rfl rfl ?_
  refine gf_X1_9 C (hp0 1 (by decide)) dX1_copy_6 (n := 9) rfl ?_
  refine dk_iconst (v := 0) C dX1_copy_9 (n := 10) rfl (by decide) ?_
  refine dk_aload_n (i := 1) C dX1_copy_10 (n := 11) rfl rfl rfl ?_
  refine gf_X1_9 C (hp1 1 (by decide)) dX1_copy_11 (n := 14) rfl ?_
  refine dk_alen (v := 144) C dk_sh2 rfl rfl (hp1 2 (by decide)) dX1_copy_14 (n := 15) rfl ?_
  refine dk_aload_n (i := 0) C dX1_copy_15 (n := 16) rfl rfl rfl ?_
  refine gf_X1_9 C (hp0 1 (by decide)) dX1_copy_16 (n := 19) rfl ?_
  refine dk_alen (v := 144) C dk_sh2 rfl rfl (hp0 2 (by decide)) dX1_copy_19 (n := 20) rfl ?_
  refine dk_mmin C dk_wm_X1_32 dk_wm_min_s dk_wm_i dk_wm_min_c (Nat.le_of_ble_eq_true rfl) (Nat.le_of_ble_eq_true rfl) rfl dX1_copy_20 (n := 23) rfl ?_
  refine dk_copy (ty := .char) C dk_sh2 dk_sh2 rfl rfl h.1 h.2.1 h.2.2.1 h.2.2.2.1 dk_wm_X1_38 dk_wc_n dk_wc_s dk_wc_i (Nat.le_of_ble_eq_true rfl) (by decide) rfl (hp1 2 (by decide)) (hp0 2 (by decide)) dX1_copy_23 (n := 26) rfl ?_
  refine dk_nameS (fun s1 es1 => ?_)
  have h := h.2.2.2.2 s1 es1
  refine dk_aload_n (i := 0) C dX1_copy_26 (n := 27) rfl rfl rfl ?_
  refine dk_iconst (v := (-1)) C dX1_copy_27 (n := 28) rfl (by decide) ?_
  refine pf_X1_28 C rfl rfl (hp0 1 (by decide)) dX1_copy_28 (n := 31) rfl ?_
  refine dk_nameS (fun s2 es2 => ?_)
  have h := h s2 es2
  exact dk_vret C hr hlk dX1_copy_31 ⟨rfl, h⟩
/-! X1_change -/
set_option maxRecDepth 20000 in
set_option maxHeartbeats 4000000 in
theorem cc_X1_change {G : dk_G} {l : Launch} {p0 : Nat} {a1 : Int32} {a2 : Int32} (hD : dk_D G) (hp0 : dk_WI G p0) {s : dk_S} {K : dk_S → Prop} (h : wf_X1_change p0 a1 a2 s K) : dk_M G l 1 yX1_change cX1_change 3 none [dk_r G p0 1, .int a1, .int a2] s (dk_kv K) := by
  refine dk_of hD (by decide) [some (dk_r G p0 1), some (.int a1), some (.int a2)] (fun q hq => hq) rfl (Nat.le_of_ble_eq_true rfl) (fun P e S0 m args bel meth c C hr hlk => ?_)
  unfold wf_X1_change at h
  refine dk_iload_n (i := 1) C dX1_change_0 (n := 1) rfl rfl rfl ?_
  refine dk_if_lt (t := 20) C dX1_change_1 (n := 4) rfl (by decide) (fun c6 => ?_) (fun c6 => ?_)
  · have h := h.1 c6
    refine dk_aload_n (i := 0) C dX1_change_20 (n := 21) rfl rfl rfl ?_
    refine dk_iconst (v := (-1)) C dX1_change_21 (n := 22) rfl (by decide) ?_
    refine pf_X1_28 C rfl rfl (hp0 1 (by decide)) dX1_change_22 (n := 25) rfl ?_
    refine dk_nameS (fun s1 es1 => ?_)
    have h := h s1 es1
    exact dk_vret C hr hlk dX1_change_25 ⟨rfl, h⟩
  · have h := h.2 c6
    refine dk_iload_n (i := 1) C dX1_change_4 (n := 5) rfl rfl rfl ?_
    refine dk_aload_n (i := 0) C dX1_change_5 (n := 6) rfl rfl rfl ?_
    refine gf_X1_9 C (hp0 1 (by decide)) dX1_change_6 (n := 9) rfl ?_
    refine dk_alen (v := 144) C dk_sh2 rfl rfl (hp0 2 (by decide)) dX1_change_9 (n := 10) rfl ?_
    refine dk_icmp_ge (t := 20) C dX1_change_10 (n := 13) rfl (by decide) (fun c5 => ?_) (fun c5 => ?_)
    · have h := h.1 c5
      refine dk_aload_n (i := 0) C dX1_change_20 (n := 21) rfl rfl rfl ?_
      refine dk_iconst (v := (-1)) C dX1_change_21 (n := 22) rfl (by decide) ?_
      refine pf_X1_28 C rfl rfl (hp0 1 (by decide)) dX1_change_22 (n := 25) rfl ?_
      refine dk_nameS (fun s2 es2 => ?_)
      have h := h s2 es2
      exact dk_vret C hr hlk dX1_change_25 ⟨rfl, h⟩
    · have h := h.2 c5
      refine dk_aload_n (i := 0) C dX1_change_13 (n := 14) rfl rfl rfl ?_
      refine gf_X1_9 C (hp0 1 (by decide)) dX1_change_14 (n := 17) rfl ?_
      refine dk_iload_n (i := 1) C dX1_change_17 (n := 18) rfl rfl rfl ?_
      refine dk_iload_n (i := 2) C dX1_change_18 (n := 19) rfl rfl rfl ?_
      refine dk_cast C dk_sh2 h.1 (hp0 2 (by decide)) dX1_change_19 (n := 20) rfl ?_
      refine dk_nameS (fun s3 es3 => ?_)
      have h := h.2 s3 es3
      refine dk_aload_n (i := 0) C dX1_change_20 (n := 21) rfl rfl rfl ?_
      refine dk_iconst (v := (-1)) C dX1_change_21 (n := 22) rfl (by decide) ?_
      refine pf_X1_28 C rfl rfl (hp0 1 (by decide)) dX1_change_22 (n := 25) rfl ?_
      refine dk_nameS (fun s4 es4 => ?_)
      have h := h s4 es4
      exact dk_vret C hr hlk dX1_change_25 ⟨rfl, h⟩
/-! X8_spot -/
set_option maxRecDepth 20000 in
set_option maxHeartbeats 4000000 in
theorem cc_X8_spot {G : dk_G} {l : Launch} {a0 : Int32} {a1 : Int32} (hD : dk_D G)  {s : dk_S} {K : Int32 → dk_S → Prop} (h : wf_X8_spot a0 a1 s K) : dk_M G l 1 yX8_spot cX8_spot 2 (some .int) [.int a0, .int a1] s (dk_ki K) := by
  refine dk_of hD (by decide) [some (.int a0), some (.int a1)] (fun q hq => hq) rfl (Nat.le_of_ble_eq_true rfl) (fun P e S0 m args bel meth c C hr hlk => ?_)
  unfold wf_X8_spot at h
  refine dk_bipush (v := 12) C dX8_spot_0 (n := 2) rfl (by decide) ?_
  refine dk_iload_n (i := 0) C dX8_spot_2 (n := 3) rfl rfl rfl ?_
  refine dk_imul C dX8_spot_3 (n := 4) rfl ?_
  refine dk_iload_n (i := 1) C dX8_spot_4 (n := 5) rfl rfl rfl ?_
  refine dk_iadd C dX8_spot_5 (n := 6) rfl ?_
  exact dk_iret C hr hlk rfl dX8_spot_6 ⟨_, rfl, h⟩
/-! X1_seeEachOther -/
set_option maxRecDepth 20000 in
set_option maxHeartbeats 4000000 in
theorem ww_X1_seeEachOther_161 {G : dk_G} {P : Program} {l : Launch} {e : Env} {S0 : State} {m : MethodId} {args : Array Value} {bel : List Frame} {meth : Method} {c : Code} {p0 : Nat} (C : dk_C G P (dk_rm 3) S0 m args c 0 0 cX1_seeEachOther 14 RX1) (hr : meth.sig.returnType = (some .boolean)) (hlk : meth.locks = false) (hp0 : dk_WI G p0) {K : Int32 → dk_S → Prop} {B : Int32 → Int32 → Int32 → Int32 → Int32 → Int32 → Int32 → Int32 → Int32 → Int32 → Int32 → dk_S → Prop} {E167 : Int32 → Int32 → Int32 → Int32 → Int32 → Int32 → Int32 → Int32 → Int32 → Int32 → dk_S → Prop} (hB : ∀ (x1 : Int32) (x2 : Int32) (x3 : Int32) (x4 : Int32) (x5 : Int32) (x6 : Int32) (x7 : Int32) (x8 : Int32) (x9 : Int32) (x10 : Int32) (x11 : Int32) (s : dk_S), B x1 x2 x3 x4 x5 x6 x7 x8 x9 x10 x11 s → dk_W G P l e (dk_rm 3) S0 m args bel meth c 0 0 (MQ bel (dk_Qc G (dk_ki K)) args S0 0 0 (dk_A G)) 92 [some (dk_r G p0 1), some (.int x1), some (.int x2), some (.int x3), some (.int x4), some (.int x5), some (.int x6), some (.int x7), some (.int x8), some (.int x9), some (.int x10), some (.int x11), none, none] [] s) (hE167 : ∀ (x1 : Int32) (x2 : Int32) (x3 : Int32) (x4 : Int32) (x5 : Int32) (x6 : Int32) (x7 : Int32) (x8 : Int32) (x9 : Int32) (x10 : Int32) (s : dk_S), E167 x1 x2 x3 x4 x5 x6 x7 x8 x9 x10 s → dk_W G P l e (dk_rm 3) S0 m args bel meth c 0 0 (MQ bel (dk_Qc G (dk_ki K)) args S0 0 0 (dk_A G)) 167 [some (dk_r G p0 1), some (.int x1), some (.int x2), some (.int x3), some (.int x4), some (.int x5), some (.int x6), some (.int x7), some (.int x8), some (.int x9), some (.int x10), none, none, none] [] s) : ∀ (x1 : Int32) (x2 : Int32) (x3 : Int32) (x4 : Int32) (x5 : Int32) (x6 : Int32) (x7 : Int32) (x8 : Int32) (x9 : Int32) (x10 : Int32) (x11 : Int32) (s : dk_S), wf_X1_seeEachOther_161 p0 K B E167 x1 x2 x3 x4 x5 x6 x7 x8 x9 x10 x11 s → dk_W G P l e (dk_rm 3) S0 m args bel meth c 0 0 (MQ bel (dk_Qc G (dk_ki K)) args S0 0 0 (dk_A G)) 161 [some (dk_r G p0 1), some (.int x1), some (.int x2), some (.int x3), some (.int x4), some (.int x5), some (.int x6), some (.int x7), some (.int x8), some (.int x9), some (.int x10), some (.int x11), none, none] [] s := by
  intro x1 x2 x3 x4 x5 x6 x7 x8 x9 x10 x11 s h
  unfold wf_X1_seeEachOther_161 at h
  obtain ⟨v35, ev35⟩ : ∃ y : Int32, y = x11 + 1 := ⟨_, rfl⟩
  have h := h v35 ev35
  refine dk_iinc (i := 11) (v := v35) (L' := [some (dk_r G p0 1), some (.int x1), some (.int x2), some (.int x3), some (.int x4), some (.int x5), some (.int x6), some (.int x7), some (.int x8), some (.int x9), some (.int x10), some (.int v35), none, none]) C dX1_seeEachOther_161 (n := 164) rfl rfl (by rw [ev35]; rfl) (dk_nc_of rfl) (Nat.le_of_ble_eq_true rfl) rfl ?_
  refine dk_goto (t := 92) C dX1_seeEachOther_164 (by decide) ?_
  refine dk_sub (L0 := [some (dk_r G p0 1), some (.int x1), some (.int x2), some (.int x3), some (.int x4), some (.int x5), some (.int x6), some (.int x7), some (.int x8), some (.int x9), some (.int x10), some (.int v35), none, none]) ⟨rfl, ⟨rfl, ⟨rfl, ⟨rfl, ⟨rfl, ⟨rfl, ⟨rfl, ⟨rfl, ⟨rfl, ⟨rfl, ⟨rfl, ⟨rfl, trivial⟩⟩⟩⟩⟩⟩⟩⟩⟩⟩⟩⟩ ?_
  exact hB x1 x2 x3 x4 x5 x6 x7 x8 x9 x10 v35 s h
set_option maxRecDepth 20000 in
set_option maxHeartbeats 4000000 in
theorem ww_X1_seeEachOther_92 {G : dk_G} {P : Program} {l : Launch} {e : Env} {S0 : State} {m : MethodId} {args : Array Value} {bel : List Frame} {meth : Method} {c : Code} {p0 : Nat} (C : dk_C G P (dk_rm 3) S0 m args c 0 0 cX1_seeEachOther 14 RX1) (hr : meth.sig.returnType = (some .boolean)) (hlk : meth.locks = false) (hp0 : dk_WI G p0) {K : Int32 → dk_S → Prop} {E167 : Int32 → Int32 → Int32 → Int32 → Int32 → Int32 → Int32 → Int32 → Int32 → Int32 → dk_S → Prop} (hE167 : ∀ (x1 : Int32) (x2 : Int32) (x3 : Int32) (x4 : Int32) (x5 : Int32) (x6 : Int32) (x7 : Int32) (x8 : Int32) (x9 : Int32) (x10 : Int32) (s : dk_S), E167 x1 x2 x3 x4 x5 x6 x7 x8 x9 x10 s → dk_W G P l e (dk_rm 3) S0 m args bel meth c 0 0 (MQ bel (dk_Qc G (dk_ki K)) args S0 0 0 (dk_A G)) 167 [some (dk_r G p0 1), some (.int x1), some (.int x2), some (.int x3), some (.int x4), some (.int x5), some (.int x6), some (.int x7), some (.int x8), some (.int x9), some (.int x10), none, none, none] [] s) : ∀ (n : Nat) (x1 : Int32) (x2 : Int32) (x3 : Int32) (x4 : Int32) (x5 : Int32) (x6 : Int32) (x7 : Int32) (x8 : Int32) (x9 : Int32) (x10 : Int32) (x11 : Int32) (s : dk_S), wf_X1_seeEachOther_92 p0 K E167 n x1 x2 x3 x4 x5 x6 x7 x8 x9 x10 x11 s → dk_W G P l e (dk_rm 3) S0 m args bel meth c 0 0 (MQ bel (dk_Qc G (dk_ki K)) args S0 0 0 (dk_A G)) 92 [some (dk_r G p0 1), some (.int x1), some (.int x2), some (.int x3), some (.int x4), some (.int x5), some (.int x6), some (.int x7), some (.int x8), some (.int x9), some (.int x10), some (.int x11), none, none] [] s := by
  intro n
  induction n with
  | zero => intro x1 x2 x3 x4 x5 x6 x7 x8 x9 x10 x11 s h; exact False.elim h
  | succ n hB =>
    intro x1 x2 x3 x4 x5 x6 x7 x8 x9 x10 x11 s h
    unfold wf_X1_seeEachOther_92 at h
    refine dk_iload C dX1_seeEachOther_92 (n := 94) rfl (i := 11) rfl ?_
    refine dk_iload C dX1_seeEachOther_94 (n := 96) rfl (i := 9) rfl ?_
    refine dk_icmp_gt (t := 167) C dX1_seeEachOther_96 (n := 99) rfl (by decide) (fun c34 => ?_) (fun c34 => ?_)
    · have h := h.1 c34
      refine dk_sub (L0 := [some (dk_r G p0 1), some (.int x1), some (.int x2), some (.int x3), some (.int x4), some (.int x5), some (.int x6), some (.int x7), some (.int x8), some (.int x9), some (.int x10), none, none, none]) ⟨rfl, ⟨rfl, ⟨rfl, ⟨rfl, ⟨rfl, ⟨rfl, ⟨rfl, ⟨rfl, ⟨rfl, ⟨rfl, ⟨rfl, trivial⟩⟩⟩⟩⟩⟩⟩⟩⟩⟩⟩ ?_
      exact hE167 x1 x2 x3 x4 x5 x6 x7 x8 x9 x10 s h
    · have h := h.2 c34
      refine dk_iload C dX1_seeEachOther_99 (n := 101) rfl (i := 10) rfl ?_
      refine dk_iload C dX1_seeEachOther_101 (n := 103) rfl (i := 11) rfl ?_
      refine dk_callNi C [] (cc_X8_spot C.D  h) yy_X8_spot dk_wm_X1_59 dX1_seeEachOther_103 (fun r26 s25 h => ?_) rfl ⟨Nat.le_of_ble_eq_true rfl, Nat.le_of_ble_eq_true rfl⟩ rfl (Nat.le_of_ble_eq_true rfl) rfl (n := 106) rfl
      refine dk_istore (i := 12) (L' := [some (dk_r G p0 1), some (.int x1), some (.int x2), some (.int x3), some (.int x4), some (.int x5), some (.int x6), some (.int x7), some (.int x8), some (.int x9), some (.int x10), some (.int x11), some (.int r26), none]) C dX1_seeEachOther_106 (n := 108) rfl (dk_nc_of rfl) (Nat.le_of_ble_eq_true rfl) rfl ?_
      refine dk_iload C dX1_seeEachOther_108 (n := 110) rfl (i := 5) rfl ?_
      refine dk_iload C dX1_seeEachOther_110 (n := 112) rfl (i := 11) rfl ?_
      refine dk_iload C dX1_seeEachOther_112 (n := 114) rfl (i := 4) rfl ?_
      refine dk_isub C dX1_seeEachOther_114 (n := 115) rfl ?_
      refine dk_imul C dX1_seeEachOther_115 (n := 116) rfl ?_
      refine dk_iload C dX1_seeEachOther_116 (n := 118) rfl (i := 6) rfl ?_
      refine dk_iload C dX1_seeEachOther_118 (n := 120) rfl (i := 10) rfl ?_
      refine dk_iload_n (i := 3) C dX1_seeEachOther_120 (n := 121) rfl rfl rfl ?_
      refine dk_isub C dX1_seeEachOther_121 (n := 122) rfl ?_
      refine dk_imul C dX1_seeEachOther_122 (n := 123) rfl ?_
      refine dk_isub C dX1_seeEachOther_123 (n := 124) rfl ?_
      refine dk_mabs C dk_wm_X1_52 dk_wm_abs_s dk_wm_i dk_wm_abs_c (Nat.le_of_ble_eq_true rfl) (Nat.le_of_ble_eq_true rfl) rfl dX1_seeEachOther_124 (n := 127) rfl ?_
      refine dk_name (fun v27 ev27 => ?_)
      have h := h v27 ev27
      refine dk_istore (i := 13) (L' := [some (dk_r G p0 1), some (.int x1), some (.int x2), some (.int x3), some (.int x4), some (.int x5), some (.int x6), some (.int x7), some (.int x8), some (.int x9), some (.int x10), some (.int x11), some (.int r26), some (.int v27)]) C dX1_seeEachOther_127 (n := 129) rfl (dk_nc_of rfl) (Nat.le_of_ble_eq_true rfl) rfl ?_
      refine dk_iconst (v := 2) C dX1_seeEachOther_129 (n := 130) rfl (by decide) ?_
      refine dk_iload C dX1_seeEachOther_130 (n := 132) rfl (i := 13) rfl ?_
      refine dk_imul C dX1_seeEachOther_132 (n := 133) rfl ?_
      refine dk_iload C dX1_seeEachOther_133 (n := 135) rfl (i := 7) rfl ?_
      refine dk_icmp_ge (t := 161) C dX1_seeEachOther_135 (n := 138) rfl (by decide) (fun c33 => ?_) (fun c33 => ?_)
      · have h := h.1 c33
        refine dk_sub (L0 := [some (dk_r G p0 1), some (.int x1), some (.int x2), some (.int x3), some (.int x4), some (.int x5), some (.int x6), some (.int x7), some (.int x8), some (.int x9), some (.int x10), some (.int x11), none, none]) ⟨rfl, ⟨rfl, ⟨rfl, ⟨rfl, ⟨rfl, ⟨rfl, ⟨rfl, ⟨rfl, ⟨rfl, ⟨rfl, ⟨rfl, ⟨rfl, trivial⟩⟩⟩⟩⟩⟩⟩⟩⟩⟩⟩⟩ ?_
        exact ww_X1_seeEachOther_161 C hr hlk hp0 hB hE167 x1 x2 x3 x4 x5 x6 x7 x8 x9 x10 x11 s25 h
      · have h := h.2 c33
        refine dk_iload C dX1_seeEachOther_138 (n := 140) rfl (i := 12) rfl ?_
        refine dk_iload_n (i := 1) C dX1_seeEachOther_140 (n := 141) rfl rfl rfl ?_
        refine dk_icmp_eq (t := 161) C dX1_seeEachOther_141 (n := 144) rfl (by decide) (fun c32 => ?_) (fun c32 => ?_)
        · have h := h.1 c32
          refine dk_sub (L0 := [some (dk_r G p0 1), some (.int x1), some (.int x2), some (.int x3), some (.int x4), some (.int x5), some (.int x6), some (.int x7), some (.int x8), some (.int x9), some (.int x10), some (.int x11), none, none]) ⟨rfl, ⟨rfl, ⟨rfl, ⟨rfl, ⟨rfl, ⟨rfl, ⟨rfl, ⟨rfl, ⟨rfl, ⟨rfl, ⟨rfl, ⟨rfl, trivial⟩⟩⟩⟩⟩⟩⟩⟩⟩⟩⟩⟩ ?_
          exact ww_X1_seeEachOther_161 C hr hlk hp0 hB hE167 x1 x2 x3 x4 x5 x6 x7 x8 x9 x10 x11 s25 h
        · have h := h.2 c32
          refine dk_iload C dX1_seeEachOther_144 (n := 146) rfl (i := 12) rfl ?_
          refine dk_iload_n (i := 2) C dX1_seeEachOther_146 (n := 147) rfl rfl rfl ?_
          refine dk_icmp_eq (t := 161) C dX1_seeEachOther_147 (n := 150) rfl (by decide) (fun c31 => ?_) (fun c31 => ?_)
          · have h := h.1 c31
            refine dk_sub (L0 := [some (dk_r G p0 1), some (.int x1), some (.int x2), some (.int x3), some (.int x4), some (.int x5), some (.int x6), some (.int x7), some (.int x8), some (.int x9), some (.int x10), some (.int x11), none, none]) ⟨rfl, ⟨rfl, ⟨rfl, ⟨rfl, ⟨rfl, ⟨rfl, ⟨rfl, ⟨rfl, ⟨rfl, ⟨rfl, ⟨rfl, ⟨rfl, trivial⟩⟩⟩⟩⟩⟩⟩⟩⟩⟩⟩⟩ ?_
            exact ww_X1_seeEachOther_161 C hr hlk hp0 hB hE167 x1 x2 x3 x4 x5 x6 x7 x8 x9 x10 x11 s25 h
          · have h := h.2 c31
            refine dk_aload_n (i := 0) C dX1_seeEachOther_150 (n := 151) rfl rfl rfl ?_
            refine dk_iload C dX1_seeEachOther_151 (n := 153) rfl (i := 12) rfl ?_
            refine dk_callVi C [] (cc_X1_isFreeAt C.D hp0 h) yy_X1_isFreeAt dk_wm_X1_62 dk_sh1 (hp0 1 (by decide)) dX1_seeEachOther_153 (fun r29 s28 h => ?_) rfl rfl ⟨Nat.le_of_ble_eq_true rfl, Nat.le_of_ble_eq_true rfl⟩ rfl (Nat.le_of_ble_eq_true rfl) rfl (n := 156) rfl
            refine dk_if_ne (t := 161) C dX1_seeEachOther_156 (n := 159) rfl (by decide) (fun c30 => ?_) (fun c30 => ?_)
            · have h := h.1 c30
              refine dk_sub (L0 := [some (dk_r G p0 1), some (.int x1), some (.int x2), some (.int x3), some (.int x4), some (.int x5), some (.int x6), some (.int x7), some (.int x8), some (.int x9), some (.int x10), some (.int x11), none, none]) ⟨rfl, ⟨rfl, ⟨rfl, ⟨rfl, ⟨rfl, ⟨rfl, ⟨rfl, ⟨rfl, ⟨rfl, ⟨rfl, ⟨rfl, ⟨rfl, trivial⟩⟩⟩⟩⟩⟩⟩⟩⟩⟩⟩⟩ ?_
              exact ww_X1_seeEachOther_161 C hr hlk hp0 hB hE167 x1 x2 x3 x4 x5 x6 x7 x8 x9 x10 x11 s28 h
            · have h := h.2 c30
              refine dk_iconst (v := 0) C dX1_seeEachOther_159 (n := 160) rfl (by decide) ?_
              exact dk_iret C hr hlk dk_nz0 dX1_seeEachOther_160 ⟨_, rfl, h⟩
set_option maxRecDepth 20000 in
set_option maxHeartbeats 4000000 in
theorem ww_X1_seeEachOther_73 {G : dk_G} {P : Program} {l : Launch} {e : Env} {S0 : State} {m : MethodId} {args : Array Value} {bel : List Frame} {meth : Method} {c : Code} {p0 : Nat} (C : dk_C G P (dk_rm 3) S0 m args c 0 0 cX1_seeEachOther 14 RX1) (hr : meth.sig.returnType = (some .boolean)) (hlk : meth.locks = false) (hp0 : dk_WI G p0) {K : Int32 → dk_S → Prop}  : ∀ (n : Nat) (x1 : Int32) (x2 : Int32) (x3 : Int32) (x4 : Int32) (x5 : Int32) (x6 : Int32) (x7 : Int32) (x8 : Int32) (x9 : Int32) (x10 : Int32) (s : dk_S), wf_X1_seeEachOther_73 p0 K n x1 x2 x3 x4 x5 x6 x7 x8 x9 x10 s → dk_W G P l e (dk_rm 3) S0 m args bel meth c 0 0 (MQ bel (dk_Qc G (dk_ki K)) args S0 0 0 (dk_A G)) 73 [some (dk_r G p0 1), some (.int x1), some (.int x2), some (.int x3), some (.int x4), some (.int x5), some (.int x6), some (.int x7), some (.int x8), some (.int x9), some (.int x10), none, none, none] [] s := by
  intro n
  induction n with
  | zero => intro x1 x2 x3 x4 x5 x6 x7 x8 x9 x10 s h; exact False.elim h
  | succ n hB =>
    intro x1 x2 x3 x4 x5 x6 x7 x8 x9 x10 s h
    unfold wf_X1_seeEachOther_73 at h
    refine dk_iload C dX1_seeEachOther_73 (n := 75) rfl (i := 10) rfl ?_
    refine dk_iload C dX1_seeEachOther_75 (n := 77) rfl (i := 8) rfl ?_
    refine dk_icmp_gt (t := 173) C dX1_seeEachOther_77 (n := 80) rfl (by decide) (fun c24 => ?_) (fun c24 => ?_)
    · have h := h.1 c24
      refine dk_iconst (v := 1) C dX1_seeEachOther_173 (n := 174) rfl (by decide) ?_
      exact dk_iret C hr hlk dk_nz1 dX1_seeEachOther_174 ⟨_, rfl, h⟩
    · have h := h.2 c24
      refine dk_iload C dX1_seeEachOther_80 (n := 82) rfl (i := 4) rfl ?_
      refine dk_iload C dX1_seeEachOther_82 (n := 84) rfl (i := 4) rfl ?_
      refine dk_iload C dX1_seeEachOther_84 (n := 86) rfl (i := 6) rfl ?_
      refine dk_iadd C dX1_seeEachOther_86 (n := 87) rfl ?_
      refine dk_mmin C dk_wm_X1_32 dk_wm_min_s dk_wm_i dk_wm_min_c (Nat.le_of_ble_eq_true rfl) (Nat.le_of_ble_eq_true rfl) rfl dX1_seeEachOther_87 (n := 90) rfl ?_
      refine dk_name (fun v10 ev10 => ?_)
      have h := h v10 ev10
      refine dk_istore (i := 11) (L' := [some (dk_r G p0 1), some (.int x1), some (.int x2), some (.int x3), some (.int x4), some (.int x5), some (.int x6), some (.int x7), some (.int x8), some (.int x9), some (.int x10), some (.int v10), none, none]) C dX1_seeEachOther_90 (n := 92) rfl (dk_nc_of rfl) (Nat.le_of_ble_eq_true rfl) rfl ?_
      obtain ⟨nn23, h⟩ := h
      refine dk_sub (L0 := [some (dk_r G p0 1), some (.int x1), some (.int x2), some (.int x3), some (.int x4), some (.int x5), some (.int x6), some (.int x7), some (.int x8), some (.int x9), some (.int x10), some (.int v10), none, none]) ⟨rfl, ⟨rfl, ⟨rfl, ⟨rfl, ⟨rfl, ⟨rfl, ⟨rfl, ⟨rfl, ⟨rfl, ⟨rfl, ⟨rfl, ⟨rfl, trivial⟩⟩⟩⟩⟩⟩⟩⟩⟩⟩⟩⟩ ?_
      refine ww_X1_seeEachOther_92 C hr hlk hp0 (fun w11 w12 w13 w14 w15 w16 w17 w18 w19 w20 s21 h => ?_) nn23 x1 x2 x3 x4 x5 x6 x7 x8 x9 x10 v10 s h
      · obtain ⟨v22, ev22⟩ : ∃ y : Int32, y = w20 + 1 := ⟨_, rfl⟩
        have h := h v22 ev22
        refine dk_iinc (i := 10) (v := v22) (L' := [some (dk_r G p0 1), some (.int w11), some (.int w12), some (.int w13), some (.int w14), some (.int w15), some (.int w16), some (.int w17), some (.int w18), some (.int w19), some (.int v22), none, none, none]) C dX1_seeEachOther_167 (n := 170) rfl rfl (by rw [ev22]; rfl) (dk_nc_of rfl) (Nat.le_of_ble_eq_true rfl) rfl ?_
        refine dk_goto (t := 73) C dX1_seeEachOther_170 (by decide) ?_
        refine dk_sub (L0 := [some (dk_r G p0 1), some (.int w11), some (.int w12), some (.int w13), some (.int w14), some (.int w15), some (.int w16), some (.int w17), some (.int w18), some (.int w19), some (.int v22), none, none, none]) ⟨rfl, ⟨rfl, ⟨rfl, ⟨rfl, ⟨rfl, ⟨rfl, ⟨rfl, ⟨rfl, ⟨rfl, ⟨rfl, ⟨rfl, trivial⟩⟩⟩⟩⟩⟩⟩⟩⟩⟩⟩ ?_
        exact hB w11 w12 w13 w14 w15 w16 w17 w18 w19 v22 s21 h
set_option maxRecDepth 20000 in
set_option maxHeartbeats 4000000 in
theorem cc_X1_seeEachOther {G : dk_G} {l : Launch} {p0 : Nat} {a1 : Int32} {a2 : Int32} (hD : dk_D G) (hp0 : dk_WI G p0) {s : dk_S} {K : Int32 → dk_S → Prop} (h : wf_X1_seeEachOther p0 a1 a2 s K) : dk_M G l 3 yX1_seeEachOther cX1_seeEachOther 14 (some .boolean) [dk_r G p0 1, .int a1, .int a2] s (dk_ki K) := by
  refine dk_of hD (by decide) [some (dk_r G p0 1), some (.int a1), some (.int a2), none, none, none, none, none, none, none, none, none, none, none] (fun q hq => hq) rfl (Nat.le_of_ble_eq_true rfl) (fun P e S0 m args bel meth c C hr hlk => ?_)
  unfold wf_X1_seeEachOther at h
  refine dk_iload_n (i := 1) C dX1_seeEachOther_0 (n := 1) rfl rfl rfl ?_
  refine dk_bipush (v := 12) C dX1_seeEachOther_1 (n := 3) rfl (by decide) ?_
  refine dk_idiv C dX1_seeEachOther_3 (n := 4) rfl (by decide) ?_
  refine dk_name (fun v1 ev1 => ?_)
  have h := h v1 ev1
  refine dk_istore_n (i := 3) (L' := [some (dk_r G p0 1), some (.int a1), some (.int a2), some (.int v1), none, none, none, none, none, none, none, none, none, none]) C dX1_seeEachOther_4 (n := 5) rfl rfl (dk_nc_of rfl) (Nat.le_of_ble_eq_true rfl) rfl ?_
  refine dk_iload_n (i := 1) C dX1_seeEachOther_5 (n := 6) rfl rfl rfl ?_
  refine dk_bipush (v := 12) C dX1_seeEachOther_6 (n := 8) rfl (by decide) ?_
  refine dk_irem C dX1_seeEachOther_8 (n := 9) rfl (by decide) ?_
  refine dk_name (fun v2 ev2 => ?_)
  have h := h v2 ev2
  refine dk_istore (i := 4) (L' := [some (dk_r G p0 1), some (.int a1), some (.int a2), some (.int v1), some (.int v2), none, none, none, none, none, none, none, none, none]) C dX1_seeEachOther_9 (n := 11) rfl (dk_nc_of rfl) (Nat.le_of_ble_eq_true rfl) rfl ?_
  refine dk_iload_n (i := 2) C dX1_seeEachOther_11 (n := 12) rfl rfl rfl ?_
  refine dk_bipush (v := 12) C dX1_seeEachOther_12 (n := 14) rfl (by decide) ?_
  refine dk_idiv C dX1_seeEachOther_14 (n := 15) rfl (by decide) ?_
  refine dk_iload_n (i := 3) C dX1_seeEachOther_15 (n := 16) rfl rfl rfl ?_
  refine dk_isub C dX1_seeEachOther_16 (n := 17) rfl ?_
  refine dk_name (fun v3 ev3 => ?_)
  have h := h v3 ev3
  refine dk_istore (i := 5) (L' := [some (dk_r G p0 1), some (.int a1), some (.int a2), some (.int v1), some (.int v2), some (.int v3), none, none, none, none, none, none, none, none]) C dX1_seeEachOther_17 (n := 19) rfl (dk_nc_of rfl) (Nat.le_of_ble_eq_true rfl) rfl ?_
  refine dk_iload_n (i := 2) C dX1_seeEachOther_19 (n := 20) rfl rfl rfl ?_
  refine dk_bipush (v := 12) C dX1_seeEachOther_20 (n := 22) rfl (by decide) ?_
  refine dk_irem C dX1_seeEachOther_22 (n := 23) rfl (by decide) ?_
  refine dk_iload C dX1_seeEachOther_23 (n := 25) rfl (i := 4) rfl ?_
  refine dk_isub C dX1_seeEachOther_25 (n := 26) rfl ?_
  refine dk_name (fun v4 ev4 => ?_)
  have h := h v4 ev4
  refine dk_istore (i := 6) (L' := [some (dk_r G p0 1), some (.int a1), some (.int a2), some (.int v1), some (.int v2), some (.int v3), some (.int v4), none, none, none, none, none, none, none]) C dX1_seeEachOther_26 (n := 28) rfl (dk_nc_of rfl) (Nat.le_of_ble_eq_true rfl) rfl ?_
  refine dk_iload C dX1_seeEachOther_28 (n := 30) rfl (i := 5) rfl ?_
  refine dk_mabs C dk_wm_X1_52 dk_wm_abs_s dk_wm_i dk_wm_abs_c (Nat.le_of_ble_eq_true rfl) (Nat.le_of_ble_eq_true rfl) rfl dX1_seeEachOther_30 (n := 33) rfl ?_
  refine dk_iload C dX1_seeEachOther_33 (n := 35) rfl (i := 6) rfl ?_
  refine dk_mabs C dk_wm_X1_52 dk_wm_abs_s dk_wm_i dk_wm_abs_c (Nat.le_of_ble_eq_true rfl) (Nat.le_of_ble_eq_true rfl) rfl dX1_seeEachOther_35 (n := 38) rfl ?_
  refine dk_iadd C dX1_seeEachOther_38 (n := 39) rfl ?_
  refine dk_name (fun v5 ev5 => ?_)
  have h := h v5 ev5
  refine dk_istore (i := 7) (L' := [some (dk_r G p0 1), some (.int a1), some (.int a2), some (.int v1), some (.int v2), some (.int v3), some (.int v4), some (.int v5), none, none, none, none, none, none]) C dX1_seeEachOther_39 (n := 41) rfl (dk_nc_of rfl) (Nat.le_of_ble_eq_true rfl) rfl ?_
  refine dk_iload_n (i := 3) C dX1_seeEachOther_41 (n := 42) rfl rfl rfl ?_
  refine dk_iload_n (i := 3) C dX1_seeEachOther_42 (n := 43) rfl rfl rfl ?_
  refine dk_iload C dX1_seeEachOther_43 (n := 45) rfl (i := 5) rfl ?_
  refine dk_iadd C dX1_seeEachOther_45 (n := 46) rfl ?_
  refine dk_mmax C dk_wm_X1_56 dk_wm_max_s dk_wm_i dk_wm_max_c (Nat.le_of_ble_eq_true rfl) (Nat.le_of_ble_eq_true rfl) rfl dX1_seeEachOther_46 (n := 49) rfl ?_
  refine dk_name (fun v6 ev6 => ?_)
  have h := h v6 ev6
  refine dk_istore (i := 8) (L' := [some (dk_r G p0 1), some (.int a1), some (.int a2), some (.int v1), some (.int v2), some (.int v3), some (.int v4), some (.int v5), some (.int v6), none, none, none, none, none]) C dX1_seeEachOther_49 (n := 51) rfl (dk_nc_of rfl) (Nat.le_of_ble_eq_true rfl) rfl ?_
  refine dk_iload C dX1_seeEachOther_51 (n := 53) rfl (i := 4) rfl ?_
  refine dk_iload C dX1_seeEachOther_53 (n := 55) rfl (i := 4) rfl ?_
  refine dk_iload C dX1_seeEachOther_55 (n := 57) rfl (i := 6) rfl ?_
  refine dk_iadd C dX1_seeEachOther_57 (n := 58) rfl ?_
  refine dk_mmax C dk_wm_X1_56 dk_wm_max_s dk_wm_i dk_wm_max_c (Nat.le_of_ble_eq_true rfl) (Nat.le_of_ble_eq_true rfl) rfl dX1_seeEachOther_58 (n := 61) rfl ?_
  refine dk_name (fun v7 ev7 => ?_)
  have h := h v7 ev7
  refine dk_istore (i := 9) (L' := [some (dk_r G p0 1), some (.int a1), some (.int a2), some (.int v1), some (.int v2), some (.int v3), some (.int v4), some (.int v5), some (.int v6), some (.int v7), none, none, none, none]) C dX1_seeEachOther_61 (n := 63) rfl (dk_nc_of rfl) (Nat.le_of_ble_eq_true rfl) rfl ?_
  refine dk_iload_n (i := 3) C dX1_seeEachOther_63 (n := 64) rfl rfl rfl ?_
  refine dk_iload_n (i := 3) C dX1_seeEachOther_64 (n := 65) rfl rfl rfl ?_
  refine dk_iload C dX1_seeEachOther_65 (n := 67) rfl (i := 5) rfl ?_
  refine dk_iadd C dX1_seeEachOther_67 (n := 68) rfl ?_
  refine dk_mmin C dk_wm_X1_32 dk_wm_min_s dk_wm_i dk_wm_min_c (Nat.le_of_ble_eq_true rfl) (Nat.le_of_ble_eq_true rfl) rfl dX1_seeEachOther_68 (n := 71) rfl ?_
  refine dk_name (fun v8 ev8 => ?_)
  have h := h v8 ev8
  refine dk_istore (i := 10) (L' := [some (dk_r G p0 1), some (.int a1), some (.int a2), some (.int v1), some (.int v2), some (.int v3), some (.int v4), some (.int v5), some (.int v6), some (.int v7), some (.int v8), none, none, none]) C dX1_seeEachOther_71 (n := 73) rfl (dk_nc_of rfl) (Nat.le_of_ble_eq_true rfl) rfl ?_
  obtain ⟨nn9, h⟩ := h
  refine dk_sub (L0 := [some (dk_r G p0 1), some (.int a1), some (.int a2), some (.int v1), some (.int v2), some (.int v3), some (.int v4), some (.int v5), some (.int v6), some (.int v7), some (.int v8), none, none, none]) ⟨rfl, ⟨rfl, ⟨rfl, ⟨rfl, ⟨rfl, ⟨rfl, ⟨rfl, ⟨rfl, ⟨rfl, ⟨rfl, ⟨rfl, trivial⟩⟩⟩⟩⟩⟩⟩⟩⟩⟩⟩ ?_
  refine ww_X1_seeEachOther_73 C hr hlk hp0  nn9 a1 a2 v1 v2 v3 v4 v5 v6 v7 v8 s h
/-! X8_beside -/
set_option maxRecDepth 20000 in
set_option maxHeartbeats 4000000 in
theorem cc_X8_beside {G : dk_G} {l : Launch} {a0 : Int32} {a1 : Int32} (hD : dk_D G)  {s : dk_S} {K : Int32 → dk_S → Prop} (h : wf_X8_beside a0 a1 s K) : dk_M G l 1 yX8_beside cX8_beside 2 (some .int) [.int a0, .int a1] s (dk_ki K) := by
  refine dk_of hD (by decide) [some (.int a0), some (.int a1)] (fun q hq => hq) rfl (Nat.le_of_ble_eq_true rfl) (fun P e S0 m args bel meth c C hr hlk => ?_)
  unfold wf_X8_beside at h
  refine dk_iload_n (i := 1) C dX8_beside_0 (n := 1) rfl rfl rfl ?_
  by_cases c2 : a1 = 0
  · have h := h.1 c2
    refine dk_tabIn (off := 31) (t := 32) C dX8_beside_1 (by rw [c2]; decide) (by rw [c2]; decide) (by rw [c2]; decide) (by decide) ?_
    refine dk_iload_n (i := 0) C dX8_beside_32 (n := 33) rfl rfl rfl ?_
    refine dk_bipush (v := 12) C dX8_beside_33 (n := 35) rfl (by decide) ?_
    refine dk_irem C dX8_beside_35 (n := 36) rfl (by decide) ?_
    refine dk_if_ne (t := 43) C dX8_beside_36 (n := 39) rfl (by decide) (fun c1 => ?_) (fun c1 => ?_)
    · have h := h.1 c1
      refine dk_iload_n (i := 0) C dX8_beside_43 (n := 44) rfl rfl rfl ?_
      refine dk_iconst (v := 1) C dX8_beside_44 (n := 45) rfl (by decide) ?_
      refine dk_isub C dX8_beside_45 (n := 46) rfl ?_
      exact dk_iret C hr hlk rfl dX8_beside_46 ⟨_, rfl, h⟩
    · have h := h.2 c1
      refine dk_iconst (v := (-1)) C dX8_beside_39 (n := 40) rfl (by decide) ?_
      refine dk_goto (t := 46) C dX8_beside_40 (by decide) ?_
      exact dk_iret C hr hlk rfl dX8_beside_46 ⟨_, rfl, h⟩
  have h := h.2 c2
  by_cases c4 : a1 = 1
  · have h := h.1 c4
    refine dk_tabIn (off := 46) (t := 47) C dX8_beside_1 (by rw [c4]; decide) (by rw [c4]; decide) (by rw [c4]; decide) (by decide) ?_
    refine dk_iload_n (i := 0) C dX8_beside_47 (n := 48) rfl rfl rfl ?_
    refine dk_bipush (v := 12) C dX8_beside_48 (n := 50) rfl (by decide) ?_
    refine dk_iadd C dX8_beside_50 (n := 51) rfl ?_
    refine dk_sipush (v := 144) C dX8_beside_51 (n := 54) rfl (by decide) ?_
    refine dk_icmp_ge (t := 64) C dX8_beside_54 (n := 57) rfl (by decide) (fun c3 => ?_) (fun c3 => ?_)
    · have h := h.1 c3
      refine dk_iconst (v := (-1)) C dX8_beside_64 (n := 65) rfl (by decide) ?_
      exact dk_iret C hr hlk rfl dX8_beside_65 ⟨_, rfl, h⟩
    · have h := h.2 c3
      refine dk_iload_n (i := 0) C dX8_beside_57 (n := 58) rfl rfl rfl ?_
      refine dk_bipush (v := 12) C dX8_beside_58 (n := 60) rfl (by decide) ?_
      refine dk_iadd C dX8_beside_60 (n := 61) rfl ?_
      refine dk_goto (t := 65) C dX8_beside_61 (by decide) ?_
      exact dk_iret C hr hlk rfl dX8_beside_65 ⟨_, rfl, h⟩
  have h := h.2 c4
  by_cases c6 : a1 = 2
  · have h := h.1 c6
    refine dk_tabIn (off := 65) (t := 66) C dX8_beside_1 (by rw [c6]; decide) (by rw [c6]; decide) (by rw [c6]; decide) (by decide) ?_
    refine dk_iload_n (i := 0) C dX8_beside_66 (n := 67) rfl rfl rfl ?_
    refine dk_bipush (v := 12) C dX8_beside_67 (n := 69) rfl (by decide) ?_
    refine dk_irem C dX8_beside_69 (n := 70) rfl (by decide) ?_
    refine dk_bipush (v := 11) C dX8_beside_70 (n := 72) rfl (by decide) ?_
    refine dk_icmp_ne (t := 79) C dX8_beside_72 (n := 75) rfl (by decide) (fun c5 => ?_) (fun c5 => ?_)
    · have h := h.1 c5
      refine dk_iload_n (i := 0) C dX8_beside_79 (n := 80) rfl rfl rfl ?_
      refine dk_iconst (v := 1) C dX8_beside_80 (n := 81) rfl (by decide) ?_
      refine dk_iadd C dX8_beside_81 (n := 82) rfl ?_
      exact dk_iret C hr hlk rfl dX8_beside_82 ⟨_, rfl, h⟩
    · have h := h.2 c5
      refine dk_iconst (v := (-1)) C dX8_beside_75 (n := 76) rfl (by decide) ?_
      refine dk_goto (t := 82) C dX8_beside_76 (by decide) ?_
      exact dk_iret C hr hlk rfl dX8_beside_82 ⟨_, rfl, h⟩
  have h := h.2 c6
  by_cases c8 : a1 = 3
  · have h := h.1 c8
    refine dk_tabIn (off := 82) (t := 83) C dX8_beside_1 (by rw [c8]; decide) (by rw [c8]; decide) (by rw [c8]; decide) (by decide) ?_
    refine dk_iload_n (i := 0) C dX8_beside_83 (n := 84) rfl rfl rfl ?_
    refine dk_bipush (v := 12) C dX8_beside_84 (n := 86) rfl (by decide) ?_
    refine dk_icmp_lt (t := 96) C dX8_beside_86 (n := 89) rfl (by decide) (fun c7 => ?_) (fun c7 => ?_)
    · have h := h.1 c7
      refine dk_iconst (v := (-1)) C dX8_beside_96 (n := 97) rfl (by decide) ?_
      exact dk_iret C hr hlk rfl dX8_beside_97 ⟨_, rfl, h⟩
    · have h := h.2 c7
      refine dk_iload_n (i := 0) C dX8_beside_89 (n := 90) rfl rfl rfl ?_
      refine dk_bipush (v := 12) C dX8_beside_90 (n := 92) rfl (by decide) ?_
      refine dk_isub C dX8_beside_92 (n := 93) rfl ?_
      refine dk_goto (t := 97) C dX8_beside_93 (by decide) ?_
      exact dk_iret C hr hlk rfl dX8_beside_97 ⟨_, rfl, h⟩
  have h := h.2 c8
  refine dk_tabOut (t := 98) C dX8_beside_1 (by have q0 := lv_neT c2 (show (0 : Int32).toInt = 0 from rfl); have q1 := lv_neT c4 (show (1 : Int32).toInt = 1 from rfl); have q2 := lv_neT c6 (show (2 : Int32).toInt = 2 from rfl); have q3 := lv_neT c8 (show (3 : Int32).toInt = 3 from rfl); omega) (by decide) ?_
  refine dk_iconst (v := (-1)) C dX8_beside_98 (n := 99) rfl (by decide) ?_
  exact dk_iret C hr hlk rfl dX8_beside_99 ⟨_, rfl, h⟩
/-! X1_tollOf -/
set_option maxRecDepth 20000 in
set_option maxHeartbeats 4000000 in
theorem cc_X1_tollOf {G : dk_G} {l : Launch} {a0 : Int32} {a1 : Int32} {a2 : Int32} (hD : dk_D G)  {s : dk_S} {K : Int32 → dk_S → Prop} (h : wf_X1_tollOf a0 a1 a2 s K) : dk_M G l 1 yX1_tollOf cX1_tollOf 3 (some .int) [.int a0, .int a1, .int a2] s (dk_ki K) := by
  refine dk_of hD (by decide) [some (.int a0), some (.int a1), some (.int a2)] (fun q hq => hq) rfl (Nat.le_of_ble_eq_true rfl) (fun P e S0 m args bel meth c C hr hlk => ?_)
  unfold wf_X1_tollOf at h
  refine dk_iload_n (i := 0) C dX1_tollOf_0 (n := 1) rfl rfl rfl ?_
  by_cases c1 : a0 = 43
  · have h := h.1 c1
    refine dk_lookT (off := 69) (t := 70) C dX1_tollOf_1 (by decide) (by rw [c1]; decide +kernel) (by decide) ?_
    refine dk_iload_n (i := 1) C dX1_tollOf_70 (n := 71) rfl rfl rfl ?_
    exact dk_iret C hr hlk rfl dX1_tollOf_71 ⟨_, rfl, h⟩
  have h := h.2 c1
  by_cases c2 : a0 = 46
  · have h := h.1 c2
    refine dk_lookT (off := 67) (t := 68) C dX1_tollOf_1 (by decide) (by rw [c2]; decide +kernel) (by decide) ?_
    refine dk_iconst (v := 1) C dX1_tollOf_68 (n := 69) rfl (by decide) ?_
    exact dk_iret C hr hlk rfl dX1_tollOf_69 ⟨_, rfl, h⟩
  have h := h.2 c2
  by_cases c3 : a0 = 47
  · have h := h.1 c3
    refine dk_lookT (off := 67) (t := 68) C dX1_tollOf_1 (by decide) (by rw [c3]; decide +kernel) (by decide) ?_
    refine dk_iconst (v := 1) C dX1_tollOf_68 (n := 69) rfl (by decide) ?_
    exact dk_iret C hr hlk rfl dX1_tollOf_69 ⟨_, rfl, h⟩
  have h := h.2 c3
  by_cases c5 : a0 = 48
  · have h := h.1 c5
    refine dk_lookT (off := 71) (t := 72) C dX1_tollOf_1 (by decide) (by rw [c5]; decide +kernel) (by decide) ?_
    refine dk_iload_n (i := 2) C dX1_tollOf_72 (n := 73) rfl rfl rfl ?_
    refine dk_iload_n (i := 0) C dX1_tollOf_73 (n := 74) rfl rfl rfl ?_
    refine dk_bipush (v := 48) C dX1_tollOf_74 (n := 76) rfl (by decide) ?_
    refine dk_isub C dX1_tollOf_76 (n := 77) rfl ?_
    refine dk_ishr C dX1_tollOf_77 (n := 78) rfl ?_
    refine dk_iconst (v := 1) C dX1_tollOf_78 (n := 79) rfl (by decide) ?_
    refine dk_iand C dX1_tollOf_79 (n := 80) rfl ?_
    refine dk_iconst (v := 1) C dX1_tollOf_80 (n := 81) rfl (by decide) ?_
    refine dk_icmp_ne (t := 88) C dX1_tollOf_81 (n := 84) rfl (by decide) (fun c4 => ?_) (fun c4 => ?_)
    · have h := h.1 c4
      refine dk_iconst (v := 0) C dX1_tollOf_88 (n := 89) rfl (by decide) ?_
      exact dk_iret C hr hlk rfl dX1_tollOf_89 ⟨_, rfl, h⟩
    · have h := h.2 c4
      refine dk_iload_n (i := 1) C dX1_tollOf_84 (n := 85) rfl rfl rfl ?_
      refine dk_goto (t := 89) C dX1_tollOf_85 (by decide) ?_
      exact dk_iret C hr hlk rfl dX1_tollOf_89 ⟨_, rfl, h⟩
  have h := h.2 c5
  by_cases c7 : a0 = 49
  · have h := h.1 c7
    refine dk_lookT (off := 71) (t := 72) C dX1_tollOf_1 (by decide) (by rw [c7]; decide +kernel) (by decide) ?_
    refine dk_iload_n (i := 2) C dX1_tollOf_72 (n := 73) rfl rfl rfl ?_
    refine dk_iload_n (i := 0) C dX1_tollOf_73 (n := 74) rfl rfl rfl ?_
    refine dk_bipush (v := 48) C dX1_tollOf_74 (n := 76) rfl (by decide) ?_
    refine dk_isub C dX1_tollOf_76 (n := 77) rfl ?_
    refine dk_ishr C dX1_tollOf_77 (n := 78) rfl ?_
    refine dk_iconst (v := 1) C dX1_tollOf_78 (n := 79) rfl (by decide) ?_
    refine dk_iand C dX1_tollOf_79 (n := 80) rfl ?_
    refine dk_iconst (v := 1) C dX1_tollOf_80 (n := 81) rfl (by decide) ?_
    refine dk_icmp_ne (t := 88) C dX1_tollOf_81 (n := 84) rfl (by decide) (fun c6 => ?_) (fun c6 => ?_)
    · have h := h.1 c6
      refine dk_iconst (v := 0) C dX1_tollOf_88 (n := 89) rfl (by decide) ?_
      exact dk_iret C hr hlk rfl dX1_tollOf_89 ⟨_, rfl, h⟩
    · have h := h.2 c6
      refine dk_iload_n (i := 1) C dX1_tollOf_84 (n := 85) rfl rfl rfl ?_
      refine dk_goto (t := 89) C dX1_tollOf_85 (by decide) ?_
      exact dk_iret C hr hlk rfl dX1_tollOf_89 ⟨_, rfl, h⟩
  have h := h.2 c7
  by_cases c9 : a0 = 50
  · have h := h.1 c9
    refine dk_lookT (off := 71) (t := 72) C dX1_tollOf_1 (by decide) (by rw [c9]; decide +kernel) (by decide) ?_
    refine dk_iload_n (i := 2) C dX1_tollOf_72 (n := 73) rfl rfl rfl ?_
    refine dk_iload_n (i := 0) C dX1_tollOf_73 (n := 74) rfl rfl rfl ?_
    refine dk_bipush (v := 48) C dX1_tollOf_74 (n := 76) rfl (by decide) ?_
    refine dk_isub C dX1_tollOf_76 (n := 77) rfl ?_
    refine dk_ishr C dX1_tollOf_77 (n := 78) rfl ?_
    refine dk_iconst (v := 1) C dX1_tollOf_78 (n := 79) rfl (by decide) ?_
    refine dk_iand C dX1_tollOf_79 (n := 80) rfl ?_
    refine dk_iconst (v := 1) C dX1_tollOf_80 (n := 81) rfl (by decide) ?_
    refine dk_icmp_ne (t := 88) C dX1_tollOf_81 (n := 84) rfl (by decide) (fun c8 => ?_) (fun c8 => ?_)
    · have h := h.1 c8
      refine dk_iconst (v := 0) C dX1_tollOf_88 (n := 89) rfl (by decide) ?_
      exact dk_iret C hr hlk rfl dX1_tollOf_89 ⟨_, rfl, h⟩
    · have h := h.2 c8
      refine dk_iload_n (i := 1) C dX1_tollOf_84 (n := 85) rfl rfl rfl ?_
      refine dk_goto (t := 89) C dX1_tollOf_85 (by decide) ?_
      exact dk_iret C hr hlk rfl dX1_tollOf_89 ⟨_, rfl, h⟩
  have h := h.2 c9
  by_cases c10 : a0 = 126
  · have h := h.1 c10
    refine dk_lookT (off := 67) (t := 68) C dX1_tollOf_1 (by decide) (by rw [c10]; decide +kernel) (by decide) ?_
    refine dk_iconst (v := 1) C dX1_tollOf_68 (n := 69) rfl (by decide) ?_
    exact dk_iret C hr hlk rfl dX1_tollOf_69 ⟨_, rfl, h⟩
  have h := h.2 c10
  refine dk_lookT (off := 89) (t := 90) C dX1_tollOf_1 (by decide) (by show Op.lookupswitch.offset [(43, 69), (46, 67), (47, 67), (48, 71), (49, 71), (50, 71), (126, 67)] 89 (a0 : Int32).toInt = 89; rw [lv_osw (a := 43) c1 rfl, lv_osw (a := 46) c2 rfl, lv_osw (a := 47) c3 rfl, lv_osw (a := 48) c5 rfl, lv_osw (a := 49) c7 rfl, lv_osw (a := 50) c9 rfl, lv_osw (a := 126) c10 rfl]; rfl) (by decide) ?_
  refine dk_iconst (v := 0) C dX1_tollOf_90 (n := 91) rfl (by decide) ?_
  exact dk_iret C hr hlk rfl dX1_tollOf_91 ⟨_, rfl, h⟩
/-! X1_flood -/
set_option maxRecDepth 20000 in
set_option maxHeartbeats 4000000 in
theorem ww_X1_flood_115 {G : dk_G} {P : Program} {l : Launch} {e : Env} {S0 : State} {m : MethodId} {args : Array Value} {bel : List Frame} {meth : Method} {c : Code} {p0 : Nat} {p1 : Nat} {q1 : Nat} {n1 : Nat} (C : dk_C G P (dk_rm 2) S0 m args c 0 0 cX1_flood 14 RX1) (hr : meth.sig.returnType = none) (hlk : meth.locks = false) (hp0 : dk_WI G p0) (hs1 : dk_shp q1 = .inl (0, n1)) (hd1 : (p1, q1) ∈ dk_dom G) {K : dk_S → Prop} {E215 : Int32 → Int32 → Int32 → Int32 → Int32 → dk_S → Prop} (hE215 : ∀ (x3 : Int32) (x4 : Int32) (x5 : Int32) (x6 : Int32) (x7 : Int32) (s : dk_S), E215 x3 x4 x5 x6 x7 s → dk_W G P l e (dk_rm 2) S0 m args bel meth c 0 0 (MQ bel (dk_Qc G (dk_kv K)) args S0 0 0 (dk_A G)) 215 [some (dk_r G p0 1), some (dk_r G p1 q1), none, some (.int x3), some (.int x4), some (.int x5), some (.int x6), some (.int x7), none, none, none, none, none, none] [] s) : ∀ (n : Nat) (x3 : Int32) (x4 : Int32) (x5 : Int32) (x6 : Int32) (x7 : Int32) (x8 : Int32) (x9 : Int32) (x10 : Int32) (x11 : Int32) (s : dk_S), wf_X1_flood_115 p0 p1 q1 n1 K E215 n x3 x4 x5 x6 x7 x8 x9 x10 x11 s → dk_W G P l e (dk_rm 2) S0 m args bel meth c 0 0 (MQ bel (dk_Qc G (dk_kv K)) args S0 0 0 (dk_A G)) 115 [some (dk_r G p0 1), some (dk_r G p1 q1), none, some (.int x3), some (.int x4), some (.int x5), some (.int x6), some (.int x7), some (.int x8), some (.int x9), some (.int x10), some (.int x11), none, none] [] s := by
  intro n
  induction n with
  | zero => intro x3 x4 x5 x6 x7 x8 x9 x10 x11 s h; exact False.elim h
  | succ n hB =>
    intro x3 x4 x5 x6 x7 x8 x9 x10 x11 s h
    unfold wf_X1_flood_115 at h
    refine dk_iload C dX1_flood_115 (n := 117) rfl (i := 11) rfl ?_
    refine dk_iconst (v := 4) C dX1_flood_117 (n := 118) rfl (by decide) ?_
    refine dk_icmp_ge (t := 215) C dX1_flood_118 (n := 121) rfl (by decide) (fun c52 => ?_) (fun c52 => ?_)
    · have h := h.1 c52
      refine dk_sub (L0 := [some (dk_r G p0 1), some (dk_r G p1 q1), none, some (.int x3), some (.int x4), some (.int x5), some (.int x6), some (.int x7), none, none, none, none, none, none]) ⟨rfl, ⟨rfl, ⟨rfl, ⟨rfl, ⟨rfl, ⟨rfl, ⟨rfl, trivial⟩⟩⟩⟩⟩⟩⟩ ?_
      exact hE215 x3 x4 x5 x6 x7 s h
    · have h := h.2 c52
      refine dk_iload C dX1_flood_121 (n := 123) rfl (i := 10) rfl ?_
      refine dk_if_ne (t := 215) C dX1_flood_123 (n := 126) rfl (by decide) (fun c51 => ?_) (fun c51 => ?_)
      · have h := h.1 c51
        refine dk_sub (L0 := [some (dk_r G p0 1), some (dk_r G p1 q1), none, some (.int x3), some (.int x4), some (.int x5), some (.int x6), some (.int x7), none, none, none, none, none, none]) ⟨rfl, ⟨rfl, ⟨rfl, ⟨rfl, ⟨rfl, ⟨rfl, ⟨rfl, trivial⟩⟩⟩⟩⟩⟩⟩ ?_
        exact hE215 x3 x4 x5 x6 x7 s h
      · have h := h.2 c51
        refine dk_iload C dX1_flood_126 (n := 128) rfl (i := 9) rfl ?_
        refine dk_iload C dX1_flood_128 (n := 130) rfl (i := 5) rfl ?_
        refine dk_icmp_ge (t := 215) C dX1_flood_130 (n := 133) rfl (by decide) (fun c50 => ?_) (fun c50 => ?_)
        · have h := h.1 c50
          refine dk_sub (L0 := [some (dk_r G p0 1), some (dk_r G p1 q1), none, some (.int x3), some (.int x4), some (.int x5), some (.int x6), some (.int x7), none, none, none, none, none, none]) ⟨rfl, ⟨rfl, ⟨rfl, ⟨rfl, ⟨rfl, ⟨rfl, ⟨rfl, trivial⟩⟩⟩⟩⟩⟩⟩ ?_
          exact hE215 x3 x4 x5 x6 x7 s h
        · have h := h.2 c50
          refine dk_iload C dX1_flood_133 (n := 135) rfl (i := 8) rfl ?_
          refine dk_iload C dX1_flood_135 (n := 137) rfl (i := 11) rfl ?_
          refine dk_callNi C [] (cc_X8_beside C.D  h) yy_X8_beside dk_wm_X1_85 dX1_flood_137 (fun r34 s33 h => ?_) rfl ⟨Nat.le_of_ble_eq_true rfl, Nat.le_of_ble_eq_true rfl⟩ rfl (Nat.le_of_ble_eq_true rfl) rfl (n := 140) rfl
          refine dk_istore (i := 12) (L' := [some (dk_r G p0 1), some (dk_r G p1 q1), none, some (.int x3), some (.int x4), some (.int x5), some (.int x6), some (.int x7), some (.int x8), some (.int x9), some (.int x10), some (.int x11), some (.int r34), none]) C dX1_flood_140 (n := 142) rfl (dk_nc_of rfl) (Nat.le_of_ble_eq_true rfl) rfl ?_
          refine dk_aload_n (i := 0) C dX1_flood_142 (n := 143) rfl rfl rfl ?_
          refine dk_iload C dX1_flood_143 (n := 145) rfl (i := 12) rfl ?_
          refine dk_callVi C [] (cc_X1_signAt C.D hp0 h) yy_X1_signAt dk_wm_X1_44 dk_sh1 (hp0 1 (by decide)) dX1_flood_145 (fun r36 s35 h => ?_) rfl rfl ⟨Nat.le_of_ble_eq_true rfl, Nat.le_of_ble_eq_true rfl⟩ rfl (Nat.le_of_ble_eq_true rfl) rfl (n := 148) rfl
          refine dk_iload_n (i := 3) C dX1_flood_148 (n := 149) rfl rfl rfl ?_
          refine dk_iload C dX1_flood_149 (n := 151) rfl (i := 4) rfl ?_
          refine dk_callSi C [] (cc_X1_tollOf C.D  h) yy_X1_tollOf dk_wm_X1_88 dX1_flood_151 (fun r38 s37 h => ?_) rfl ⟨Nat.le_of_ble_eq_true rfl, Nat.le_of_ble_eq_true rfl⟩ rfl (Nat.le_of_ble_eq_true rfl) rfl (n := 154) rfl
          refine dk_istore (i := 13) (L' := [some (dk_r G p0 1), some (dk_r G p1 q1), none, some (.int x3), some (.int x4), some (.int x5), some (.int x6), some (.int x7), some (.int x8), some (.int x9), some (.int x10), some (.int x11), some (.int r34), some (.int r38)]) C dX1_flood_154 (n := 156) rfl (dk_nc_of rfl) (Nat.le_of_ble_eq_true rfl) rfl ?_
          refine dk_iload C dX1_flood_156 (n := 158) rfl (i := 13) rfl ?_
          refine dk_if_le (t := 209) C dX1_flood_158 (n := 161) rfl (by decide) (fun c49 => ?_) (fun c49 => ?_)
          · have h := h.1 c49
            obtain ⟨v39, ev39⟩ : ∃ y : Int32, y = x11 + 1 := ⟨_, rfl⟩
            have h := h v39 ev39
            refine dk_iinc (i := 11) (v := v39) (L' := [some (dk_r G p0 1), some (dk_r G p1 q1), none, some (.int x3), some (.int x4), some (.int x5), some (.int x6), some (.int x7), some (.int x8), some (.int x9), some (.int x10), some (.int v39), some (.int r34), some (.int r38)]) C dX1_flood_209 (n := 212) rfl rfl (by rw [ev39]; rfl) (dk_nc_of rfl) (Nat.le_of_ble_eq_true rfl) rfl ?_
            refine dk_goto (t := 115) C dX1_flood_212 (by decide) ?_
            refine dk_sub (L0 := [some (dk_r G p0 1), some (dk_r G p1 q1), none, some (.int x3), some (.int x4), some (.int x5), some (.int x6), some (.int x7), some (.int x8), some (.int x9), some (.int x10), some (.int v39), none, none]) ⟨rfl, ⟨rfl, ⟨rfl, ⟨rfl, ⟨rfl, ⟨rfl, ⟨rfl, ⟨rfl, ⟨rfl, ⟨rfl, ⟨rfl, trivial⟩⟩⟩⟩⟩⟩⟩⟩⟩⟩⟩ ?_
            exact hB x3 x4 x5 x6 x7 x8 x9 x10 v39 s37 h
          · have h := h.2 c49
            refine dk_aload_n (i := 1) C dX1_flood_161 (n := 162) rfl rfl rfl ?_
            refine dk_iload C dX1_flood_162 (n := 164) rfl (i := 12) rfl ?_
            refine dk_callNi C [] (cc_X8_at C.D hs1 hd1 h) yy_X8_at dk_wm_X1_81 dX1_flood_164 (fun r41 s40 h => ?_) rfl ⟨Nat.le_of_ble_eq_true rfl, Nat.le_of_ble_eq_true rfl⟩ rfl (Nat.le_of_ble_eq_true rfl) rfl (n := 167) rfl
            refine dk_iconst (v := (-1)) C dX1_flood_167 (n := 168) rfl (by decide) ?_
            refine dk_icmp_ne (t := 209) C dX1_flood_168 (n := 171) rfl (by decide) (fun c48 => ?_) (fun c48 => ?_)
            · have h := h.1 c48
              obtain ⟨v42, ev42⟩ : ∃ y : Int32, y = x11 + 1 := ⟨_, rfl⟩
              have h := h v42 ev42
              refine dk_iinc (i := 11) (v := v42) (L' := [some (dk_r G p0 1), some (dk_r G p1 q1), none, some (.int x3), some (.int x4), some (.int x5), some (.int x6), some (.int x7), some (.int x8), some (.int x9), some (.int x10), some (.int v42), some (.int r34), some (.int r38)]) C dX1_flood_209 (n := 212) rfl rfl (by rw [ev42]; rfl) (dk_nc_of rfl) (Nat.le_of_ble_eq_true rfl) rfl ?_
              refine dk_goto (t := 115) C dX1_flood_212 (by decide) ?_
              refine dk_sub (L0 := [some (dk_r G p0 1), some (dk_r G p1 q1), none, some (.int x3), some (.int x4), some (.int x5), some (.int x6), some (.int x7), some (.int x8), some (.int x9), some (.int x10), some (.int v42), none, none]) ⟨rfl, ⟨rfl, ⟨rfl, ⟨rfl, ⟨rfl, ⟨rfl, ⟨rfl, ⟨rfl, ⟨rfl, ⟨rfl, ⟨rfl, trivial⟩⟩⟩⟩⟩⟩⟩⟩⟩⟩⟩ ?_
              exact hB x3 x4 x5 x6 x7 x8 x9 x10 v42 s40 h
            · have h := h.2 c48
              refine dk_aload_n (i := 1) C dX1_flood_171 (n := 172) rfl rfl rfl ?_
              refine dk_iload C dX1_flood_172 (n := 174) rfl (i := 12) rfl ?_
              refine dk_iload C dX1_flood_174 (n := 176) rfl (i := 9) rfl ?_
              refine dk_iload C dX1_flood_176 (n := 178) rfl (i := 13) rfl ?_
              refine dk_iadd C dX1_flood_178 (n := 179) rfl ?_
              refine dk_callNv C [] (cc_X8_put C.D hs1 hd1 h) yy_X8_put dk_wm_X1_77 dX1_flood_179 (fun s43 h => ?_) rfl ⟨Nat.le_of_ble_eq_true rfl, Nat.le_of_ble_eq_true rfl⟩ rfl (Nat.le_of_ble_eq_true rfl) rfl (n := 182) rfl
              refine dk_aload_n (i := 0) C dX1_flood_182 (n := 183) rfl rfl rfl ?_
              refine gf_X1_19 C (hp0 1 (by decide)) dX1_flood_183 (n := 186) rfl ?_
              refine dk_iload C dX1_flood_186 (n := 188) rfl (i := 12) rfl ?_
              refine dk_iload C dX1_flood_188 (n := 190) rfl (i := 13) rfl ?_
              refine dk_iconst (v := 1) C dX1_flood_190 (n := 191) rfl (by decide) ?_
              refine dk_isub C dX1_flood_191 (n := 192) rfl ?_
              refine dk_callNv C [] (cc_X8_put C.D dk_sh4 (hp0 4 (by decide)) h) yy_X8_put dk_wm_X1_77 dX1_flood_192 (fun s44 h => ?_) rfl ⟨Nat.le_of_ble_eq_true rfl, Nat.le_of_ble_eq_true rfl⟩ rfl (Nat.le_of_ble_eq_true rfl) rfl (n := 195) rfl
              refine dk_aload_n (i := 0) C dX1_flood_195 (n := 196) rfl rfl rfl ?_
              refine gf_X1_15 C (hp0 1 (by decide)) dX1_flood_196 (n := 199) rfl ?_
              refine dk_iload C dX1_flood_199 (n := 201) rfl (i := 6) rfl ?_
              refine dk_iload C dX1_flood_201 (n := 203) rfl (i := 12) rfl ?_
              refine dk_callNv C [] (cc_X8_put C.D dk_sh3 (hp0 3 (by decide)) h) yy_X8_put dk_wm_X1_77 dX1_flood_203 (fun s45 h => ?_) rfl ⟨Nat.le_of_ble_eq_true rfl, Nat.le_of_ble_eq_true rfl⟩ rfl (Nat.le_of_ble_eq_true rfl) rfl (n := 206) rfl
              obtain ⟨v46, ev46⟩ : ∃ y : Int32, y = x6 + 1 := ⟨_, rfl⟩
              have h := h v46 ev46
              refine dk_iinc (i := 6) (v := v46) (L' := [some (dk_r G p0 1), some (dk_r G p1 q1), none, some (.int x3), some (.int x4), some (.int x5), some (.int v46), some (.int x7), some (.int x8), some (.int x9), some (.int x10), some (.int x11), some (.int r34), some (.int r38)]) C dX1_flood_206 (n := 209) rfl rfl (by rw [ev46]; rfl) (dk_nc_of rfl) (Nat.le_of_ble_eq_true rfl) rfl ?_
              obtain ⟨v47, ev47⟩ : ∃ y : Int32, y = x11 + 1 := ⟨_, rfl⟩
              have h := h v47 ev47
              refine dk_iinc (i := 11) (v := v47) (L' := [some (dk_r G p0 1), some (dk_r G p1 q1), none, some (.int x3), some (.int x4), some (.int x5), some (.int v46), some (.int x7), some (.int x8), some (.int x9), some (.int x10), some (.int v47), some (.int r34), some (.int r38)]) C dX1_flood_209 (n := 212) rfl rfl (by rw [ev47]; rfl) (dk_nc_of rfl) (Nat.le_of_ble_eq_true rfl) rfl ?_
              refine dk_goto (t := 115) C dX1_flood_212 (by decide) ?_
              refine dk_sub (L0 := [some (dk_r G p0 1), some (dk_r G p1 q1), none, some (.int x3), some (.int x4), some (.int x5), some (.int v46), some (.int x7), some (.int x8), some (.int x9), some (.int x10), some (.int v47), none, none]) ⟨rfl, ⟨rfl, ⟨rfl, ⟨rfl, ⟨rfl, ⟨rfl, ⟨rfl, ⟨rfl, ⟨rfl, ⟨rfl, ⟨rfl, trivial⟩⟩⟩⟩⟩⟩⟩⟩⟩⟩⟩ ?_
              exact hB x3 x4 x5 v46 x7 x8 x9 x10 v47 s45 h
set_option maxRecDepth 20000 in
set_option maxHeartbeats 4000000 in
theorem ww_X1_flood_35 {G : dk_G} {P : Program} {l : Launch} {e : Env} {S0 : State} {m : MethodId} {args : Array Value} {bel : List Frame} {meth : Method} {c : Code} {p0 : Nat} {p1 : Nat} {q1 : Nat} {n1 : Nat} (C : dk_C G P (dk_rm 2) S0 m args c 0 0 cX1_flood 14 RX1) (hr : meth.sig.returnType = none) (hlk : meth.locks = false) (hp0 : dk_WI G p0) (hs1 : dk_shp q1 = .inl (0, n1)) (hd1 : (p1, q1) ∈ dk_dom G) {K : dk_S → Prop}  : ∀ (n : Nat) (x3 : Int32) (x4 : Int32) (x5 : Int32) (x6 : Int32) (x7 : Int32) (s : dk_S), wf_X1_flood_35 p0 p1 q1 n1 K n x3 x4 x5 x6 x7 s → dk_W G P l e (dk_rm 2) S0 m args bel meth c 0 0 (MQ bel (dk_Qc G (dk_kv K)) args S0 0 0 (dk_A G)) 35 [some (dk_r G p0 1), some (dk_r G p1 q1), none, some (.int x3), some (.int x4), some (.int x5), some (.int x6), some (.int x7), none, none, none, none, none, none] [] s := by
  intro n
  induction n with
  | zero => intro x3 x4 x5 x6 x7 s h; exact False.elim h
  | succ n hB =>
    intro x3 x4 x5 x6 x7 s h
    unfold wf_X1_flood_35 at h
    refine dk_iload C dX1_flood_35 (n := 37) rfl (i := 7) rfl ?_
    refine dk_iload C dX1_flood_37 (n := 39) rfl (i := 6) rfl ?_
    refine dk_icmp_ge (t := 221) C dX1_flood_39 (n := 42) rfl (by decide) (fun c32 => ?_) (fun c32 => ?_)
    · have h := h.1 c32
      exact dk_vret C hr hlk dX1_flood_221 ⟨rfl, h⟩
    · have h := h.2 c32
      refine dk_iload C dX1_flood_42 (n := 44) rfl (i := 7) rfl ?_
      refine dk_aload_n (i := 0) C dX1_flood_44 (n := 45) rfl rfl rfl ?_
      refine gf_X1_15 C (hp0 1 (by decide)) dX1_flood_45 (n := 48) rfl ?_
      refine dk_alen (v := 432) C dk_sh3 rfl rfl (hp0 3 (by decide)) dX1_flood_48 (n := 49) rfl ?_
      refine dk_icmp_ge (t := 221) C dX1_flood_49 (n := 52) rfl (by decide) (fun c31 => ?_) (fun c31 => ?_)
      · have h := h.1 c31
        exact dk_vret C hr hlk dX1_flood_221 ⟨rfl, h⟩
      · have h := h.2 c31
        refine dk_aload_n (i := 0) C dX1_flood_52 (n := 53) rfl rfl rfl ?_
        refine gf_X1_15 C (hp0 1 (by decide)) dX1_flood_53 (n := 56) rfl ?_
        refine dk_iload C dX1_flood_56 (n := 58) rfl (i := 7) rfl ?_
        refine dk_iald C dk_sh3 h.1 (hp0 3 (by decide)) dX1_flood_58 (n := 59) rfl ?_
        have h := h.2
        refine dk_name (fun v6 ev6 => ?_)
        have h := h v6 ev6
        refine dk_istore (i := 8) (L' := [some (dk_r G p0 1), some (dk_r G p1 q1), none, some (.int x3), some (.int x4), some (.int x5), some (.int x6), some (.int x7), some (.int v6), none, none, none, none, none]) C dX1_flood_59 (n := 61) rfl (dk_nc_of rfl) (Nat.le_of_ble_eq_true rfl) rfl ?_
        refine dk_aload_n (i := 1) C dX1_flood_61 (n := 62) rfl rfl rfl ?_
        refine dk_iload C dX1_flood_62 (n := 64) rfl (i := 8) rfl ?_
        refine dk_callNi C [] (cc_X8_at C.D hs1 hd1 h) yy_X8_at dk_wm_X1_81 dX1_flood_64 (fun r8 s7 h => ?_) rfl ⟨Nat.le_of_ble_eq_true rfl, Nat.le_of_ble_eq_true rfl⟩ rfl (Nat.le_of_ble_eq_true rfl) rfl (n := 67) rfl
        refine dk_istore (i := 9) (L' := [some (dk_r G p0 1), some (dk_r G p1 q1), none, some (.int x3), some (.int x4), some (.int x5), some (.int x6), some (.int x7), some (.int v6), some (.int r8), none, none, none, none]) C dX1_flood_67 (n := 69) rfl (dk_nc_of rfl) (Nat.le_of_ble_eq_true rfl) rfl ?_
        refine dk_aload_n (i := 0) C dX1_flood_69 (n := 70) rfl rfl rfl ?_
        refine gf_X1_19 C (hp0 1 (by decide)) dX1_flood_70 (n := 73) rfl ?_
        refine dk_iload C dX1_flood_73 (n := 75) rfl (i := 8) rfl ?_
        refine dk_callNi C [] (cc_X8_at C.D dk_sh4 (hp0 4 (by decide)) h) yy_X8_at dk_wm_X1_81 dX1_flood_75 (fun r10 s9 h => ?_) rfl ⟨Nat.le_of_ble_eq_true rfl, Nat.le_of_ble_eq_true rfl⟩ rfl (Nat.le_of_ble_eq_true rfl) rfl (n := 78) rfl
        refine dk_istore (i := 10) (L' := [some (dk_r G p0 1), some (dk_r G p1 q1), none, some (.int x3), some (.int x4), some (.int x5), some (.int x6), some (.int x7), some (.int v6), some (.int r8), some (.int r10), none, none, none]) C dX1_flood_78 (n := 80) rfl (dk_nc_of rfl) (Nat.le_of_ble_eq_true rfl) rfl ?_
        refine dk_iload C dX1_flood_80 (n := 82) rfl (i := 10) rfl ?_
        refine dk_if_le (t := 112) C dX1_flood_82 (n := 85) rfl (by decide) (fun c30 => ?_) (fun c30 => ?_)
        · have h := h.1 c30
          refine dk_iconst (v := 0) C dX1_flood_112 (n := 113) rfl (by decide) ?_
          refine dk_istore (i := 11) (L' := [some (dk_r G p0 1), some (dk_r G p1 q1), none, some (.int x3), some (.int x4), some (.int x5), some (.int x6), some (.int x7), some (.int v6), some (.int r8), some (.int r10), some (.int 0), none, none]) C dX1_flood_113 (n := 115) rfl (dk_nc_of rfl) (Nat.le_of_ble_eq_true rfl) rfl ?_
          obtain ⟨nn18, h⟩ := h
          refine dk_sub (L0 := [some (dk_r G p0 1), some (dk_r G p1 q1), none, some (.int x3), some (.int x4), some (.int x5), some (.int x6), some (.int x7), some (.int v6), some (.int r8), some (.int r10), some (.int 0), none, none]) ⟨rfl, ⟨rfl, ⟨rfl, ⟨rfl, ⟨rfl, ⟨rfl, ⟨rfl, ⟨rfl, ⟨rfl, ⟨rfl, ⟨rfl, trivial⟩⟩⟩⟩⟩⟩⟩⟩⟩⟩⟩ ?_
          refine ww_X1_flood_115 C hr hlk hp0 hs1 hd1 (fun w11 w12 w13 w14 w15 s16 h => ?_) nn18 x3 x4 x5 x6 x7 v6 r8 r10 0 s9 h
          · obtain ⟨v17, ev17⟩ : ∃ y : Int32, y = w15 + 1 := ⟨_, rfl⟩
            have h := h v17 ev17
            refine dk_iinc (i := 7) (v := v17) (L' := [some (dk_r G p0 1), some (dk_r G p1 q1), none, some (.int w11), some (.int w12), some (.int w13), some (.int w14), some (.int v17), none, none, none, none, none, none]) C dX1_flood_215 (n := 218) rfl rfl (by rw [ev17]; rfl) (dk_nc_of rfl) (Nat.le_of_ble_eq_true rfl) rfl ?_
            refine dk_goto (t := 35) C dX1_flood_218 (by decide) ?_
            refine dk_sub (L0 := [some (dk_r G p0 1), some (dk_r G p1 q1), none, some (.int w11), some (.int w12), some (.int w13), some (.int w14), some (.int v17), none, none, none, none, none, none]) ⟨rfl, ⟨rfl, ⟨rfl, ⟨rfl, ⟨rfl, ⟨rfl, ⟨rfl, trivial⟩⟩⟩⟩⟩⟩⟩ ?_
            exact hB w11 w12 w13 w14 v17 s16 h
        · have h := h.2 c30
          refine dk_aload_n (i := 0) C dX1_flood_85 (n := 86) rfl rfl rfl ?_
          refine gf_X1_19 C (hp0 1 (by decide)) dX1_flood_86 (n := 89) rfl ?_
          refine dk_iload C dX1_flood_89 (n := 91) rfl (i := 8) rfl ?_
          refine dk_iload C dX1_flood_91 (n := 93) rfl (i := 10) rfl ?_
          refine dk_iconst (v := 1) C dX1_flood_93 (n := 94) rfl (by decide) ?_
          refine dk_isub C dX1_flood_94 (n := 95) rfl ?_
          refine dk_callNv C [] (cc_X8_put C.D dk_sh4 (hp0 4 (by decide)) h) yy_X8_put dk_wm_X1_77 dX1_flood_95 (fun s19 h => ?_) rfl ⟨Nat.le_of_ble_eq_true rfl, Nat.le_of_ble_eq_true rfl⟩ rfl (Nat.le_of_ble_eq_true rfl) rfl (n := 98) rfl
          refine dk_aload_n (i := 0) C dX1_flood_98 (n := 99) rfl rfl rfl ?_
          refine gf_X1_15 C (hp0 1 (by decide)) dX1_flood_99 (n := 102) rfl ?_
          refine dk_iload C dX1_flood_102 (n := 104) rfl (i := 6) rfl ?_
          refine dk_iload C dX1_flood_104 (n := 106) rfl (i := 8) rfl ?_
          refine dk_callNv C [] (cc_X8_put C.D dk_sh3 (hp0 3 (by decide)) h) yy_X8_put dk_wm_X1_77 dX1_flood_106 (fun s20 h => ?_) rfl ⟨Nat.le_of_ble_eq_true rfl, Nat.le_of_ble_eq_true rfl⟩ rfl (Nat.le_of_ble_eq_true rfl) rfl (n := 109) rfl
          obtain ⟨v21, ev21⟩ : ∃ y : Int32, y = x6 + 1 := ⟨_, rfl⟩
          have h := h v21 ev21
          refine dk_iinc (i := 6) (v := v21) (L' := [some (dk_r G p0 1), some (dk_r G p1 q1), none, some (.int x3), some (.int x4), some (.int x5), some (.int v21), some (.int x7), some (.int v6), some (.int r8), some (.int r10), none, none, none]) C dX1_flood_109 (n := 112) rfl rfl (by rw [ev21]; rfl) (dk_nc_of rfl) (Nat.le_of_ble_eq_true rfl) rfl ?_
          refine dk_iconst (v := 0) C dX1_flood_112 (n := 113) rfl (by decide) ?_
          refine dk_istore (i := 11) (L' := [some (dk_r G p0 1), some (dk_r G p1 q1), none, some (.int x3), some (.int x4), some (.int x5), some (.int v21), some (.int x7), some (.int v6), some (.int r8), some (.int r10), some (.int 0), none, none]) C dX1_flood_113 (n := 115) rfl (dk_nc_of rfl) (Nat.le_of_ble_eq_true rfl) rfl ?_
          obtain ⟨nn29, h⟩ := h
          refine dk_sub (L0 := [some (dk_r G p0 1), some (dk_r G p1 q1), none, some (.int x3), some (.int x4), some (.int x5), some (.int v21), some (.int x7), some (.int v6), some (.int r8), some (.int r10), some (.int 0), none, none]) ⟨rfl, ⟨rfl, ⟨rfl, ⟨rfl, ⟨rfl, ⟨rfl, ⟨rfl, ⟨rfl, ⟨rfl, ⟨rfl, ⟨rfl, trivial⟩⟩⟩⟩⟩⟩⟩⟩⟩⟩⟩ ?_
          refine ww_X1_flood_115 C hr hlk hp0 hs1 hd1 (fun w22 w23 w24 w25 w26 s27 h => ?_) nn29 x3 x4 x5 v21 x7 v6 r8 r10 0 s20 h
          · obtain ⟨v28, ev28⟩ : ∃ y : Int32, y = w26 + 1 := ⟨_, rfl⟩
            have h := h v28 ev28
            refine dk_iinc (i := 7) (v := v28) (L' := [some (dk_r G p0 1), some (dk_r G p1 q1), none, some (.int w22), some (.int w23), some (.int w24), some (.int w25), some (.int v28), none, none, none, none, none, none]) C dX1_flood_215 (n := 218) rfl rfl (by rw [ev28]; rfl) (dk_nc_of rfl) (Nat.le_of_ble_eq_true rfl) rfl ?_
            refine dk_goto (t := 35) C dX1_flood_218 (by decide) ?_
            refine dk_sub (L0 := [some (dk_r G p0 1), some (dk_r G p1 q1), none, some (.int w22), some (.int w23), some (.int w24), some (.int w25), some (.int v28), none, none, none, none, none, none]) ⟨rfl, ⟨rfl, ⟨rfl, ⟨rfl, ⟨rfl, ⟨rfl, ⟨rfl, trivial⟩⟩⟩⟩⟩⟩⟩ ?_
            exact hB w22 w23 w24 w25 v28 s27 h
set_option maxRecDepth 20000 in
set_option maxHeartbeats 4000000 in
theorem cc_X1_flood {G : dk_G} {l : Launch} {p0 : Nat} {p1 : Nat} {q1 : Nat} {n1 : Nat} {a2 : Int32} {a3 : Int32} {a4 : Int32} {a5 : Int32} (hD : dk_D G) (hp0 : dk_WI G p0) (hs1 : dk_shp q1 = .inl (0, n1)) (hd1 : (p1, q1) ∈ dk_dom G) {s : dk_S} {K : dk_S → Prop} (h : wf_X1_flood p0 p1 q1 n1 a2 a3 a4 a5 s K) : dk_M G l 2 yX1_flood cX1_flood 14 none [dk_r G p0 1, dk_r G p1 q1, .int a2, .int a3, .int a4, .int a5] s (dk_kv K) := by
  refine dk_of hD (by decide) [some (dk_r G p0 1), some (dk_r G p1 q1), some (.int a2), some (.int a3), some (.int a4), some (.int a5), none, none, none, none, none, none, none, none] (fun q hq => hq) rfl (Nat.le_of_ble_eq_true rfl) (fun P e S0 m args bel meth c C hr hlk => ?_)
  unfold wf_X1_flood at h
  refine dk_aload_n (i := 1) C dX1_flood_0 (n := 1) rfl rfl rfl ?_
  refine dk_iconst (v := (-1)) C dX1_flood_1 (n := 2) rfl (by decide) ?_
  refine dk_callSv C [] (cc_J7_fill_53178 C.D hs1 hd1 h) yy_J7_fill_53178 dk_wm_X1_71 dX1_flood_2 (fun s1 h => ?_) rfl ⟨Nat.le_of_ble_eq_true rfl, Nat.le_of_ble_eq_true rfl⟩ rfl (Nat.le_of_ble_eq_true rfl) rfl (n := 5) rfl
  refine dk_aload_n (i := 1) C dX1_flood_5 (n := 6) rfl rfl rfl ?_
  refine dk_iload_n (i := 2) C dX1_flood_6 (n := 7) rfl rfl rfl ?_
  refine dk_iconst (v := 0) C dX1_flood_7 (n := 8) rfl (by decide) ?_
  refine dk_callNv C [] (cc_X8_put C.D hs1 hd1 h) yy_X8_put dk_wm_X1_77 dX1_flood_8 (fun s2 h => ?_) rfl ⟨Nat.le_of_ble_eq_true rfl, Nat.le_of_ble_eq_true rfl⟩ rfl (Nat.le_of_ble_eq_true rfl) rfl (n := 11) rfl
  refine dk_aload_n (i := 0) C dX1_flood_11 (n := 12) rfl rfl rfl ?_
  refine gf_X1_19 C (hp0 1 (by decide)) dX1_flood_12 (n := 15) rfl ?_
  refine dk_iload_n (i := 2) C dX1_flood_15 (n := 16) rfl rfl rfl ?_
  refine dk_iconst (v := 0) C dX1_flood_16 (n := 17) rfl (by decide) ?_
  refine dk_callNv C [] (cc_X8_put C.D dk_sh4 (hp0 4 (by decide)) h) yy_X8_put dk_wm_X1_77 dX1_flood_17 (fun s3 h => ?_) rfl ⟨Nat.le_of_ble_eq_true rfl, Nat.le_of_ble_eq_true rfl⟩ rfl (Nat.le_of_ble_eq_true rfl) rfl (n := 20) rfl
  refine dk_aload_n (i := 0) C dX1_flood_20 (n := 21) rfl rfl rfl ?_
  refine gf_X1_15 C (hp0 1 (by decide)) dX1_flood_21 (n := 24) rfl ?_
  refine dk_iconst (v := 0) C dX1_flood_24 (n := 25) rfl (by decide) ?_
  refine dk_iload_n (i := 2) C dX1_flood_25 (n := 26) rfl rfl rfl ?_
  refine dk_callNv C [] (cc_X8_put C.D dk_sh3 (hp0 3 (by decide)) h) yy_X8_put dk_wm_X1_77 dX1_flood_26 (fun s4 h => ?_) rfl ⟨Nat.le_of_ble_eq_true rfl, Nat.le_of_ble_eq_true rfl⟩ rfl (Nat.le_of_ble_eq_true rfl) rfl (n := 29) rfl
  refine dk_iconst (v := 1) C dX1_flood_29 (n := 30) rfl (by decide) ?_
  refine dk_istore (i := 6) (L' := [some (dk_r G p0 1), some (dk_r G p1 q1), some (.int a2), some (.int a3), some (.int a4), some (.int a5), some (.int 1), none, none, none, none, none, none, none]) C dX1_flood_30 (n := 32) rfl (dk_nc_of rfl) (Nat.le_of_ble_eq_true rfl) rfl ?_
  refine dk_iconst (v := 0) C dX1_flood_32 (n := 33) rfl (by decide) ?_
  refine dk_istore (i := 7) (L' := [some (dk_r G p0 1), some (dk_r G p1 q1), some (.int a2), some (.int a3), some (.int a4), some (.int a5), some (.int 1), some (.int 0), none, none, none, none, none, none]) C dX1_flood_33 (n := 35) rfl (dk_nc_of rfl) (Nat.le_of_ble_eq_true rfl) rfl ?_
  obtain ⟨nn5, h⟩ := h
  refine dk_sub (L0 := [some (dk_r G p0 1), some (dk_r G p1 q1), none, some (.int a3), some (.int a4), some (.int a5), some (.int 1), some (.int 0), none, none, none, none, none, none]) ⟨rfl, ⟨rfl, ⟨rfl, ⟨rfl, ⟨rfl, ⟨rfl, ⟨rfl, trivial⟩⟩⟩⟩⟩⟩⟩ ?_
  refine ww_X1_flood_35 C hr hlk hp0 hs1 hd1  nn5 a3 a4 a5 1 0 s4 h
/-! X1_aimAt -/
set_option maxRecDepth 20000 in
set_option maxHeartbeats 4000000 in
theorem cc_X1_aimAt {G : dk_G} {l : Launch} {p0 : Nat} {a1 : Int32} (hD : dk_D G) (hp0 : dk_WI G p0) {s : dk_S} {K : dk_S → Prop} (h : wf_X1_aimAt p0 a1 s K) : dk_M G l 3 yX1_aimAt cX1_aimAt 2 none [dk_r G p0 1, .int a1] s (dk_kv K) := by
  refine dk_of hD (by decide) [some (dk_r G p0 1), some (.int a1)] (fun q hq => hq) rfl (Nat.le_of_ble_eq_true rfl) (fun P e S0 m args bel meth c C hr hlk => ?_)
  unfold wf_X1_aimAt at h
  refine dk_aload_n (i := 0) C dX1_aimAt_0 (n := 1) rfl rfl rfl ?_
  refine gf_X1_28 C (hp0 1 (by decide)) dX1_aimAt_1 (n := 4) rfl ?_
  refine dk_iload_n (i := 1) C dX1_aimAt_4 (n := 5) rfl rfl rfl ?_
  refine dk_icmp_eq (t := 26) C dX1_aimAt_5 (n := 8) rfl (by decide) (fun c3 => ?_) (fun c3 => ?_)
  · have h := h.1 c3
    exact dk_vret C hr hlk dX1_aimAt_26 ⟨rfl, h⟩
  · have h := h.2 c3
    refine dk_aload_n (i := 0) C dX1_aimAt_8 (n := 9) rfl rfl rfl ?_
    refine dk_aload_n (i := 0) C dX1_aimAt_9 (n := 10) rfl rfl rfl ?_
    refine gf_X1_25 C (hp0 1 (by decide)) dX1_aimAt_10 (n := 13) rfl ?_
    refine dk_iload_n (i := 1) C dX1_aimAt_13 (n := 14) rfl rfl rfl ?_
    refine dk_iconst (v := 1) C dX1_aimAt_14 (n := 15) rfl (by decide) ?_
    refine dk_iconst (v := 0) C dX1_aimAt_15 (n := 16) rfl (by decide) ?_
    refine dk_ldc (v := 1000000) C dX1_aimAt_16 (n := 18) rfl dk_wk_X1_66 ?_
    refine dk_callVv C [] (cc_X1_flood C.D hp0 dk_sh6 (hp0 6 (by decide)) h) yy_X1_flood dk_wm_X1_67 dk_sh1 (hp0 1 (by decide)) dX1_aimAt_18 (fun s1 h => ?_) rfl rfl ⟨Nat.le_of_ble_eq_true rfl, Nat.le_of_ble_eq_true rfl⟩ rfl (Nat.le_of_ble_eq_true rfl) rfl (n := 21) rfl
    refine dk_aload_n (i := 0) C dX1_aimAt_21 (n := 22) rfl rfl rfl ?_
    refine dk_iload_n (i := 1) C dX1_aimAt_22 (n := 23) rfl rfl rfl ?_
    refine pf_X1_28 C rfl rfl (hp0 1 (by decide)) dX1_aimAt_23 (n := 26) rfl ?_
    refine dk_nameS (fun s2 es2 => ?_)
    have h := h s2 es2
    exact dk_vret C hr hlk dX1_aimAt_26 ⟨rfl, h⟩
/-! X1_isLike -/
set_option maxRecDepth 20000 in
set_option maxHeartbeats 4000000 in
theorem ww_X1_isLike_2 {G : dk_G} {P : Program} {l : Launch} {e : Env} {S0 : State} {m : MethodId} {args : Array Value} {bel : List Frame} {meth : Method} {c : Code} {p0 : Nat} {p1 : Nat} (C : dk_C G P (dk_rm 2) S0 m args c 0 0 cX1_isLike 3 RX1) (hr : meth.sig.returnType = (some .boolean)) (hlk : meth.locks = false) (hp0 : dk_WI G p0) (hp1 : dk_WI G p1) {K : Int32 → dk_S → Prop}  : ∀ (n : Nat) (x2 : Int32) (s : dk_S), wf_X1_isLike_2 p0 p1 K n x2 s → dk_W G P l e (dk_rm 2) S0 m args bel meth c 0 0 (MQ bel (dk_Qc G (dk_ki K)) args S0 0 0 (dk_A G)) 2 [some (dk_r G p0 1), some (dk_r G p1 1), some (.int x2)] [] s := by
  intro n
  induction n with
  | zero => intro x2 s h; exact False.elim h
  | succ n hB =>
    intro x2 s h
    unfold wf_X1_isLike_2 at h
    refine dk_iload_n (i := 2) C dX1_isLike_2 (n := 3) rfl rfl rfl ?_
    refine dk_sipush (v := 144) C dX1_isLike_3 (n := 6) rfl (by decide) ?_
    refine dk_icmp_ge (t := 30) C dX1_isLike_6 (n := 9) rfl (by decide) (fun c8 => ?_) (fun c8 => ?_)
    · have h := h.1 c8
      refine dk_iconst (v := 1) C dX1_isLike_30 (n := 31) rfl (by decide) ?_
      exact dk_iret C hr hlk dk_nz1 dX1_isLike_31 ⟨_, rfl, h⟩
    · have h := h.2 c8
      refine dk_aload_n (i := 0) C dX1_isLike_9 (n := 10) rfl rfl rfl ?_
      refine dk_iload_n (i := 2) C dX1_isLike_10 (n := 11) rfl rfl rfl ?_
      refine dk_callVi C [] (cc_X1_signAt C.D hp0 h) yy_X1_signAt dk_wm_X1_44 dk_sh1 (hp0 1 (by decide)) dX1_isLike_11 (fun r3 s2 h => ?_) rfl rfl ⟨Nat.le_of_ble_eq_true rfl, Nat.le_of_ble_eq_true rfl⟩ rfl (Nat.le_of_ble_eq_true rfl) rfl (n := 14) rfl
      refine dk_aload_n (i := 1) C dX1_isLike_14 (n := 15) rfl rfl rfl ?_
      refine dk_iload_n (i := 2) C dX1_isLike_15 (n := 16) rfl rfl rfl ?_
      refine dk_callVi C [.int r3] (cc_X1_signAt C.D hp1 h) yy_X1_signAt dk_wm_X1_44 dk_sh1 (hp1 1 (by decide)) dX1_isLike_16 (fun r5 s4 h => ?_) rfl rfl ⟨Nat.le_of_ble_eq_true rfl, Nat.le_of_ble_eq_true rfl⟩ rfl (Nat.le_of_ble_eq_true rfl) rfl (n := 19) rfl
      refine dk_icmp_eq (t := 24) C dX1_isLike_19 (n := 22) rfl (by decide) (fun c7 => ?_) (fun c7 => ?_)
      · have h := h.1 c7
        obtain ⟨v6, ev6⟩ : ∃ y : Int32, y = x2 + 1 := ⟨_, rfl⟩
        have h := h v6 ev6
        refine dk_iinc (i := 2) (v := v6) (L' := [some (dk_r G p0 1), some (dk_r G p1 1), some (.int v6)]) C dX1_isLike_24 (n := 27) rfl rfl (by rw [ev6]; rfl) (dk_nc_of rfl) (Nat.le_of_ble_eq_true rfl) rfl ?_
        refine dk_goto (t := 2) C dX1_isLike_27 (by decide) ?_
        refine dk_sub (L0 := [some (dk_r G p0 1), some (dk_r G p1 1), some (.int v6)]) ⟨rfl, ⟨rfl, ⟨rfl, trivial⟩⟩⟩ ?_
        exact hB v6 s4 h
      · have h := h.2 c7
        refine dk_iconst (v := 0) C dX1_isLike_22 (n := 23) rfl (by decide) ?_
        exact dk_iret C hr hlk dk_nz0 dX1_isLike_23 ⟨_, rfl, h⟩
set_option maxRecDepth 20000 in
set_option maxHeartbeats 4000000 in
theorem cc_X1_isLike {G : dk_G} {l : Launch} {p0 : Nat} {p1 : Nat} (hD : dk_D G) (hp0 : dk_WI G p0) (hp1 : dk_WI G p1) {s : dk_S} {K : Int32 → dk_S → Prop} (h : wf_X1_isLike p0 p1 s K) : dk_M G l 2 yX1_isLike cX1_isLike 3 (some .boolean) [dk_r G p0 1, dk_r G p1 1] s (dk_ki K) := by
  refine dk_of hD (by decide) [some (dk_r G p0 1), some (dk_r G p1 1), none] (fun q hq => hq) rfl (Nat.le_of_ble_eq_true rfl) (fun P e S0 m args bel meth c C hr hlk => ?_)
  unfold wf_X1_isLike at h
  refine dk_iconst (v := 0) C dX1_isLike_0 (n := 1) rfl (by decide) ?_
  refine dk_istore_n (i := 2) (L' := [some (dk_r G p0 1), some (dk_r G p1 1), some (.int 0)]) C dX1_isLike_1 (n := 2) rfl rfl (dk_nc_of rfl) (Nat.le_of_ble_eq_true rfl) rfl ?_
  obtain ⟨nn1, h⟩ := h
  refine dk_sub (L0 := [some (dk_r G p0 1), some (dk_r G p1 1), some (.int 0)]) ⟨rfl, ⟨rfl, ⟨rfl, trivial⟩⟩⟩ ?_
  refine ww_X1_isLike_2 C hr hlk hp0 hp1  nn1 0 s h
/-! X8_copyRow -/
set_option maxRecDepth 20000 in
set_option maxHeartbeats 4000000 in
theorem cc_X8_copyRow {G : dk_G} {l : Launch} {p0 : Nat} {q0 : Nat} {n0 : Nat} {p1 : Nat} {q1 : Nat} {n1 : Nat} (hD : dk_D G) (hs0 : dk_shp q0 = .inl (0, n0)) (hd0 : (p0, q0) ∈ dk_dom G) (hs1 : dk_shp q1 = .inl (0, n1)) (hd1 : (p1, q1) ∈ dk_dom G) {s : dk_S} {K : dk_S → Prop} (h : wf_X8_copyRow p0 q0 n0 p1 q1 n1 s K) : dk_M G l 2 yX8_copyRow cX8_copyRow 2 none [dk_r G p0 q0, dk_r G p1 q1] s (dk_kv K) := by
  refine dk_of hD (by decide) [some (dk_r G p0 q0), some (dk_r G p1 q1)] (fun q hq => hq) rfl (Nat.le_of_ble_eq_true rfl) (fun P e S0 m args bel meth c C hr hlk => ?_)
  unfold wf_X8_copyRow at h
  refine dk_aload_n (i := 0) C dX8_copyRow_0 (n := 1) rfl rfl rfl ?_
  refine dk_iconst (v := 0) C dX8_copyRow_1 (n := 2) rfl (by decide) ?_
  refine dk_aload_n (i := 1) C dX8_copyRow_2 (n := 3) rfl rfl rfl ?_
  refine dk_iconst (v := 0) C dX8_copyRow_3 (n := 4) rfl (by decide) ?_
  refine dk_aload_n (i := 0) C dX8_copyRow_4 (n := 5) rfl rfl rfl ?_
  refine dk_alen (v := (Int32.ofNat n0)) C hs0 rfl rfl hd0 dX8_copyRow_5 (n := 6) rfl ?_
  refine dk_aload_n (i := 1) C dX8_copyRow_6 (n := 7) rfl rfl rfl ?_
  refine dk_alen (v := (Int32.ofNat n1)) C hs1 rfl rfl hd1 dX8_copyRow_7 (n := 8) rfl ?_
  refine dk_mmin C dk_wm_X8_316 dk_wm_min_s dk_wm_i dk_wm_min_c (Nat.le_of_ble_eq_true rfl) (Nat.le_of_ble_eq_true rfl) rfl dX8_copyRow_8 (n := 11) rfl ?_
  refine dk_copy (ty := .int) C hs0 hs1 rfl rfl h.1 h.2.1 h.2.2.1 h.2.2.2.1 dk_wm_X8_319 dk_wc_n dk_wc_s dk_wc_i (Nat.le_of_ble_eq_true rfl) (by decide) rfl hd0 hd1 dX8_copyRow_11 (n := 14) rfl ?_
  refine dk_nameS (fun s1 es1 => ?_)
  have h := h.2.2.2.2 s1 es1
  exact dk_vret C hr hlk dX8_copyRow_14 ⟨rfl, h⟩
/-! X2_copy -/
set_option maxRecDepth 20000 in
set_option maxHeartbeats 4000000 in
theorem cc_X2_copy {G : dk_G} {l : Launch} {p0 : Nat} {p1 : Nat} (hD : dk_D G) (hp0 : dk_WI G p0) (hp1 : dk_WI G p1) {s : dk_S} {K : dk_S → Prop} (h : wf_X2_copy p0 p1 s K) : dk_M G l 3 yX2_copy cX2_copy 2 none [dk_r G p0 13, dk_r G p1 13] s (dk_kv K) := by
  refine dk_of hD (by decide) [some (dk_r G p0 13), some (dk_r G p1 13)] (fun q hq => hq) rfl (Nat.le_of_ble_eq_true rfl) (fun P e S0 m args bel meth c C hr hlk => ?_)
  unfold wf_X2_copy at h
  refine dk_aload_n (i := 1) C dX2_copy_0 (n := 1) rfl rfl rfl ?_
  refine gf_X2_9 C (hp1 13 (by decide)) dX2_copy_1 (n := 4) rfl ?_
  refine dk_aload_n (i := 0) C dX2_copy_4 (n := 5) rfl rfl rfl ?_
  refine gf_X2_9 C (hp0 13 (by decide)) dX2_copy_5 (n := 8) rfl ?_
  refine dk_callNv C [] (cc_X8_copyRow C.D dk_sh14 (hp1 14 (by decide)) dk_sh14 (hp0 14 (by decide)) h) yy_X8_copyRow dk_wm_X2_47 dX2_copy_8 (fun s1 h => ?_) rfl ⟨Nat.le_of_ble_eq_true rfl, Nat.le_of_ble_eq_true rfl⟩ rfl (Nat.le_of_ble_eq_true rfl) rfl (n := 11) rfl
  refine dk_aload_n (i := 1) C dX2_copy_11 (n := 12) rfl rfl rfl ?_
  refine gf_X2_15 C (hp1 13 (by decide)) dX2_copy_12 (n := 15) rfl ?_
  refine dk_aload_n (i := 0) C dX2_copy_15 (n := 16) rfl rfl rfl ?_
  refine gf_X2_15 C (hp0 13 (by decide)) dX2_copy_16 (n := 19) rfl ?_
  refine dk_callNv C [] (cc_X8_copyRow C.D dk_sh15 (hp1 15 (by decide)) dk_sh15 (hp0 15 (by decide)) h) yy_X8_copyRow dk_wm_X2_47 dX2_copy_19 (fun s2 h => ?_) rfl ⟨Nat.le_of_ble_eq_true rfl, Nat.le_of_ble_eq_true rfl⟩ rfl (Nat.le_of_ble_eq_true rfl) rfl (n := 22) rfl
  refine dk_aload_n (i := 1) C dX2_copy_22 (n := 23) rfl rfl rfl ?_
  refine gf_X2_18 C (hp1 13 (by decide)) dX2_copy_23 (n := 26) rfl ?_
  refine dk_aload_n (i := 0) C dX2_copy_26 (n := 27) rfl rfl rfl ?_
  refine gf_X2_18 C (hp0 13 (by decide)) dX2_copy_27 (n := 30) rfl ?_
  refine dk_callNv C [] (cc_X8_copyRow C.D dk_sh16 (hp1 16 (by decide)) dk_sh16 (hp0 16 (by decide)) h) yy_X8_copyRow dk_wm_X2_47 dX2_copy_30 (fun s3 h => ?_) rfl ⟨Nat.le_of_ble_eq_true rfl, Nat.le_of_ble_eq_true rfl⟩ rfl (Nat.le_of_ble_eq_true rfl) rfl (n := 33) rfl
  refine dk_aload_n (i := 1) C dX2_copy_33 (n := 34) rfl rfl rfl ?_
  refine gf_X2_21 C (hp1 13 (by decide)) dX2_copy_34 (n := 37) rfl ?_
  refine dk_aload_n (i := 0) C dX2_copy_37 (n := 38) rfl rfl rfl ?_
  refine gf_X2_21 C (hp0 13 (by decide)) dX2_copy_38 (n := 41) rfl ?_
  refine dk_callNv C [] (cc_X8_copyRow C.D dk_sh17 (hp1 17 (by decide)) dk_sh17 (hp0 17 (by decide)) h) yy_X8_copyRow dk_wm_X2_47 dX2_copy_41 (fun s4 h => ?_) rfl ⟨Nat.le_of_ble_eq_true rfl, Nat.le_of_ble_eq_true rfl⟩ rfl (Nat.le_of_ble_eq_true rfl) rfl (n := 44) rfl
  refine dk_aload_n (i := 1) C dX2_copy_44 (n := 45) rfl rfl rfl ?_
  refine gf_X2_24 C (hp1 13 (by decide)) dX2_copy_45 (n := 48) rfl ?_
  refine dk_aload_n (i := 0) C dX2_copy_48 (n := 49) rfl rfl rfl ?_
  refine gf_X2_24 C (hp0 13 (by decide)) dX2_copy_49 (n := 52) rfl ?_
  refine dk_callNv C [] (cc_X8_copyRow C.D dk_sh18 (hp1 18 (by decide)) dk_sh18 (hp0 18 (by decide)) h) yy_X8_copyRow dk_wm_X2_47 dX2_copy_52 (fun s5 h => ?_) rfl ⟨Nat.le_of_ble_eq_true rfl, Nat.le_of_ble_eq_true rfl⟩ rfl (Nat.le_of_ble_eq_true rfl) rfl (n := 55) rfl
  refine dk_aload_n (i := 1) C dX2_copy_55 (n := 56) rfl rfl rfl ?_
  refine gf_X2_27 C (hp1 13 (by decide)) dX2_copy_56 (n := 59) rfl ?_
  refine dk_aload_n (i := 0) C dX2_copy_59 (n := 60) rfl rfl rfl ?_
  refine gf_X2_27 C (hp0 13 (by decide)) dX2_copy_60 (n := 63) rfl ?_
  refine dk_callNv C [] (cc_X8_copyRow C.D dk_sh19 (hp1 19 (by decide)) dk_sh19 (hp0 19 (by decide)) h) yy_X8_copyRow dk_wm_X2_47 dX2_copy_63 (fun s6 h => ?_) rfl ⟨Nat.le_of_ble_eq_true rfl, Nat.le_of_ble_eq_true rfl⟩ rfl (Nat.le_of_ble_eq_true rfl) rfl (n := 66) rfl
  refine dk_aload_n (i := 1) C dX2_copy_66 (n := 67) rfl rfl rfl ?_
  refine gf_X2_30 C (hp1 13 (by decide)) dX2_copy_67 (n := 70) rfl ?_
  refine dk_aload_n (i := 0) C dX2_copy_70 (n := 71) rfl rfl rfl ?_
  refine gf_X2_30 C (hp0 13 (by decide)) dX2_copy_71 (n := 74) rfl ?_
  refine dk_callNv C [] (cc_X8_copyRow C.D dk_sh20 (hp1 20 (by decide)) dk_sh20 (hp0 20 (by decide)) h) yy_X8_copyRow dk_wm_X2_47 dX2_copy_74 (fun s7 h => ?_) rfl ⟨Nat.le_of_ble_eq_true rfl, Nat.le_of_ble_eq_true rfl⟩ rfl (Nat.le_of_ble_eq_true rfl) rfl (n := 77) rfl
  refine dk_aload_n (i := 1) C dX2_copy_77 (n := 78) rfl rfl rfl ?_
  refine gf_X2_33 C (hp1 13 (by decide)) dX2_copy_78 (n := 81) rfl ?_
  refine dk_aload_n (i := 0) C dX2_copy_81 (n := 82) rfl rfl rfl ?_
  refine gf_X2_33 C (hp0 13 (by decide)) dX2_copy_82 (n := 85) rfl ?_
  refine dk_callNv C [] (cc_X8_copyRow C.D dk_sh21 (hp1 21 (by decide)) dk_sh21 (hp0 21 (by decide)) h) yy_X8_copyRow dk_wm_X2_47 dX2_copy_85 (fun s8 h => ?_) rfl ⟨Nat.le_of_ble_eq_true rfl, Nat.le_of_ble_eq_true rfl⟩ rfl (Nat.le_of_ble_eq_true rfl) rfl (n := 88) rfl
  refine dk_aload_n (i := 1) C dX2_copy_88 (n := 89) rfl rfl rfl ?_
  refine gf_X2_36 C (hp1 13 (by decide)) dX2_copy_89 (n := 92) rfl ?_
  refine dk_aload_n (i := 0) C dX2_copy_92 (n := 93) rfl rfl rfl ?_
  refine gf_X2_36 C (hp0 13 (by decide)) dX2_copy_93 (n := 96) rfl ?_
  refine dk_callNv C [] (cc_X8_copyRow C.D dk_sh22 (hp1 22 (by decide)) dk_sh22 (hp0 22 (by decide)) h) yy_X8_copyRow dk_wm_X2_47 dX2_copy_96 (fun s9 h => ?_) rfl ⟨Nat.le_of_ble_eq_true rfl, Nat.le_of_ble_eq_true rfl⟩ rfl (Nat.le_of_ble_eq_true rfl) rfl (n := 99) rfl
  refine dk_aload_n (i := 0) C dX2_copy_99 (n := 100) rfl rfl rfl ?_
  refine dk_aload_n (i := 1) C dX2_copy_100 (n := 101) rfl rfl rfl ?_
  refine gf_X2_39 C (hp1 13 (by decide)) dX2_copy_101 (n := 104) rfl ?_
  refine pf_X2_39 C rfl rfl (hp0 13 (by decide)) dX2_copy_104 (n := 107) rfl ?_
  refine dk_nameS (fun s10 es10 => ?_)
  have h := h s10 es10
  exact dk_vret C hr hlk dX2_copy_107 ⟨rfl, h⟩
/-! X2_tell -/
set_option maxRecDepth 20000 in
set_option maxHeartbeats 4000000 in
theorem cc_X2_tell {G : dk_G} {l : Launch} {p0 : Nat} {a1 : Int32} {a2 : Int32} {a3 : Int32} {a4 : Int32} {a5 : Int32} (hD : dk_D G) (hp0 : dk_WI G p0) {s : dk_S} {K : dk_S → Prop} (h : wf_X2_tell p0 a1 a2 a3 a4 a5 s K) : dk_M G l 2 yX2_tell cX2_tell 6 none [dk_r G p0 13, .int a1, .int a2, .int a3, .int a4, .int a5] s (dk_kv K) := by
  refine dk_of hD (by decide) [some (dk_r G p0 13), some (.int a1), some (.int a2), some (.int a3), some (.int a4), some (.int a5)] (fun q hq => hq) rfl (Nat.le_of_ble_eq_true rfl) (fun P e S0 m args bel meth c C hr hlk => ?_)
  unfold wf_X2_tell at h
  refine dk_aload_n (i := 0) C dX2_tell_0 (n := 1) rfl rfl rfl ?_
  refine gf_X2_9 C (hp0 13 (by decide)) dX2_tell_1 (n := 4) rfl ?_
  refine dk_iload_n (i := 1) C dX2_tell_4 (n := 5) rfl rfl rfl ?_
  refine dk_iload_n (i := 2) C dX2_tell_5 (n := 6) rfl rfl rfl ?_
  refine dk_callNv C [] (cc_X8_put C.D dk_sh14 (hp0 14 (by decide)) h) yy_X8_put dk_wm_X2_43 dX2_tell_6 (fun s1 h => ?_) rfl ⟨Nat.le_of_ble_eq_true rfl, Nat.le_of_ble_eq_true rfl⟩ rfl (Nat.le_of_ble_eq_true rfl) rfl (n := 9) rfl
  refine dk_aload_n (i := 0) C dX2_tell_9 (n := 10) rfl rfl rfl ?_
  refine gf_X2_15 C (hp0 13 (by decide)) dX2_tell_10 (n := 13) rfl ?_
  refine dk_iload_n (i := 1) C dX2_tell_13 (n := 14) rfl rfl rfl ?_
  refine dk_iload_n (i := 3) C dX2_tell_14 (n := 15) rfl rfl rfl ?_
  refine dk_callNv C [] (cc_X8_put C.D dk_sh15 (hp0 15 (by decide)) h) yy_X8_put dk_wm_X2_43 dX2_tell_15 (fun s2 h => ?_) rfl ⟨Nat.le_of_ble_eq_true rfl, Nat.le_of_ble_eq_true rfl⟩ rfl (Nat.le_of_ble_eq_true rfl) rfl (n := 18) rfl
  refine dk_aload_n (i := 0) C dX2_tell_18 (n := 19) rfl rfl rfl ?_
  refine gf_X2_18 C (hp0 13 (by decide)) dX2_tell_19 (n := 22) rfl ?_
  refine dk_iload_n (i := 1) C dX2_tell_22 (n := 23) rfl rfl rfl ?_
  refine dk_iload C dX2_tell_23 (n := 25) rfl (i := 4) rfl ?_
  refine dk_callNv C [] (cc_X8_put C.D dk_sh16 (hp0 16 (by decide)) h) yy_X8_put dk_wm_X2_43 dX2_tell_25 (fun s3 h => ?_) rfl ⟨Nat.le_of_ble_eq_true rfl, Nat.le_of_ble_eq_true rfl⟩ rfl (Nat.le_of_ble_eq_true rfl) rfl (n := 28) rfl
  refine dk_aload_n (i := 0) C dX2_tell_28 (n := 29) rfl rfl rfl ?_
  refine gf_X2_21 C (hp0 13 (by decide)) dX2_tell_29 (n := 32) rfl ?_
  refine dk_iload_n (i := 1) C dX2_tell_32 (n := 33) rfl rfl rfl ?_
  refine dk_iload C dX2_tell_33 (n := 35) rfl (i := 5) rfl ?_
  refine dk_callNv C [] (cc_X8_put C.D dk_sh17 (hp0 17 (by decide)) h) yy_X8_put dk_wm_X2_43 dX2_tell_35 (fun s4 h => ?_) rfl ⟨Nat.le_of_ble_eq_true rfl, Nat.le_of_ble_eq_true rfl⟩ rfl (Nat.le_of_ble_eq_true rfl) rfl (n := 38) rfl
  refine dk_aload_n (i := 0) C dX2_tell_38 (n := 39) rfl rfl rfl ?_
  refine gf_X2_24 C (hp0 13 (by decide)) dX2_tell_39 (n := 42) rfl ?_
  refine dk_iload_n (i := 1) C dX2_tell_42 (n := 43) rfl rfl rfl ?_
  refine dk_iload C dX2_tell_43 (n := 45) rfl (i := 5) rfl ?_
  refine dk_callNv C [] (cc_X8_put C.D dk_sh18 (hp0 18 (by decide)) h) yy_X8_put dk_wm_X2_43 dX2_tell_45 (fun s5 h => ?_) rfl ⟨Nat.le_of_ble_eq_true rfl, Nat.le_of_ble_eq_true rfl⟩ rfl (Nat.le_of_ble_eq_true rfl) rfl (n := 48) rfl
  exact dk_vret C hr hlk dX2_tell_48 ⟨rfl, h⟩
/-! X2_lives -/
set_option maxRecDepth 20000 in
set_option maxHeartbeats 4000000 in
theorem cc_X2_lives {G : dk_G} {l : Launch} {p0 : Nat} {a1 : Int32} (hD : dk_D G) (hp0 : dk_WI G p0) {s : dk_S} {K : Int32 → dk_S → Prop} (h : wf_X2_lives p0 a1 s K) : dk_M G l 2 yX2_lives cX2_lives 2 (some .boolean) [dk_r G p0 13, .int a1] s (dk_ki K) := by
  refine dk_of hD (by decide) [some (dk_r G p0 13), some (.int a1)] (fun q hq => hq) rfl (Nat.le_of_ble_eq_true rfl) (fun P e S0 m args bel meth c C hr hlk => ?_)
  unfold wf_X2_lives at h
  refine dk_aload_n (i := 0) C dX2_lives_0 (n := 1) rfl rfl rfl ?_
  refine gf_X2_24 C (hp0 13 (by decide)) dX2_lives_1 (n := 4) rfl ?_
  refine dk_iload_n (i := 1) C dX2_lives_4 (n := 5) rfl rfl rfl ?_
  refine dk_callNi C [] (cc_X8_at C.D dk_sh18 (hp0 18 (by decide)) h) yy_X8_at dk_wm_X2_51 dX2_lives_5 (fun r2 s1 h => ?_) rfl ⟨Nat.le_of_ble_eq_true rfl, Nat.le_of_ble_eq_true rfl⟩ rfl (Nat.le_of_ble_eq_true rfl) rfl (n := 8) rfl
  refine dk_if_le (t := 15) C dX2_lives_8 (n := 11) rfl (by decide) (fun c3 => ?_) (fun c3 => ?_)
  · have h := h.1 c3
    refine dk_iconst (v := 0) C dX2_lives_15 (n := 16) rfl (by decide) ?_
    exact dk_iret C hr hlk dk_nz0 dX2_lives_16 ⟨_, rfl, h⟩
  · have h := h.2 c3
    refine dk_iconst (v := 1) C dX2_lives_11 (n := 12) rfl (by decide) ?_
    refine dk_goto (t := 16) C dX2_lives_12 (by decide) ?_
    exact dk_iret C hr hlk dk_nz1 dX2_lives_16 ⟨_, rfl, h⟩
/-! X2_livingAt -/
set_option maxRecDepth 20000 in
set_option maxHeartbeats 4000000 in
theorem ww_X2_livingAt_2 {G : dk_G} {P : Program} {l : Launch} {e : Env} {S0 : State} {m : MethodId} {args : Array Value} {bel : List Frame} {meth : Method} {c : Code} {p0 : Nat} (C : dk_C G P (dk_rm 2) S0 m args c 0 0 cX2_livingAt 3 RX2) (hr : meth.sig.returnType = (some .int)) (hlk : meth.locks = false) (hp0 : dk_WI G p0) {K : Int32 → dk_S → Prop}  : ∀ (n : Nat) (x1 : Int32) (x2 : Int32) (s : dk_S), wf_X2_livingAt_2 p0 K n x1 x2 s → dk_W G P l e (dk_rm 2) S0 m args bel meth c 0 0 (MQ bel (dk_Qc G (dk_ki K)) args S0 0 0 (dk_A G)) 2 [some (dk_r G p0 13), some (.int x1), some (.int x2)] [] s := by
  intro n
  induction n with
  | zero => intro x1 x2 s h; exact False.elim h
  | succ n hB =>
    intro x1 x2 s h
    unfold wf_X2_livingAt_2 at h
    refine dk_iload_n (i := 2) C dX2_livingAt_2 (n := 3) rfl rfl rfl ?_
    refine dk_aload_n (i := 0) C dX2_livingAt_3 (n := 4) rfl rfl rfl ?_
    refine gf_X2_39 C (hp0 13 (by decide)) dX2_livingAt_4 (n := 7) rfl ?_
    refine dk_icmp_ge (t := 41) C dX2_livingAt_7 (n := 10) rfl (by decide) (fun c10 => ?_) (fun c10 => ?_)
    · have h := h.1 c10
      refine dk_iconst (v := (-1)) C dX2_livingAt_41 (n := 42) rfl (by decide) ?_
      exact dk_iret C hr hlk rfl dX2_livingAt_42 ⟨_, rfl, h⟩
    · have h := h.2 c10
      refine dk_aload_n (i := 0) C dX2_livingAt_10 (n := 11) rfl rfl rfl ?_
      refine gf_X2_24 C (hp0 13 (by decide)) dX2_livingAt_11 (n := 14) rfl ?_
      refine dk_iload_n (i := 2) C dX2_livingAt_14 (n := 15) rfl rfl rfl ?_
      refine dk_callNi C [] (cc_X8_at C.D dk_sh18 (hp0 18 (by decide)) h) yy_X8_at dk_wm_X2_51 dX2_livingAt_15 (fun r3 s2 h => ?_) rfl ⟨Nat.le_of_ble_eq_true rfl, Nat.le_of_ble_eq_true rfl⟩ rfl (Nat.le_of_ble_eq_true rfl) rfl (n := 18) rfl
      refine dk_if_le (t := 35) C dX2_livingAt_18 (n := 21) rfl (by decide) (fun c9 => ?_) (fun c9 => ?_)
      · have h := h.1 c9
        obtain ⟨v4, ev4⟩ : ∃ y : Int32, y = x2 + 1 := ⟨_, rfl⟩
        have h := h v4 ev4
        refine dk_iinc (i := 2) (v := v4) (L' := [some (dk_r G p0 13), some (.int x1), some (.int v4)]) C dX2_livingAt_35 (n := 38) rfl rfl (by rw [ev4]; rfl) (dk_nc_of rfl) (Nat.le_of_ble_eq_true rfl) rfl ?_
        refine dk_goto (t := 2) C dX2_livingAt_38 (by decide) ?_
        refine dk_sub (L0 := [some (dk_r G p0 13), some (.int x1), some (.int v4)]) ⟨rfl, ⟨rfl, ⟨rfl, trivial⟩⟩⟩ ?_
        exact hB x1 v4 s2 h
      · have h := h.2 c9
        refine dk_aload_n (i := 0) C dX2_livingAt_21 (n := 22) rfl rfl rfl ?_
        refine gf_X2_9 C (hp0 13 (by decide)) dX2_livingAt_22 (n := 25) rfl ?_
        refine dk_iload_n (i := 2) C dX2_livingAt_25 (n := 26) rfl rfl rfl ?_
        refine dk_callNi C [] (cc_X8_at C.D dk_sh14 (hp0 14 (by decide)) h) yy_X8_at dk_wm_X2_51 dX2_livingAt_26 (fun r6 s5 h => ?_) rfl ⟨Nat.le_of_ble_eq_true rfl, Nat.le_of_ble_eq_true rfl⟩ rfl (Nat.le_of_ble_eq_true rfl) rfl (n := 29) rfl
        refine dk_iload_n (i := 1) C dX2_livingAt_29 (n := 30) rfl rfl rfl ?_
        refine dk_icmp_ne (t := 35) C dX2_livingAt_30 (n := 33) rfl (by decide) (fun c8 => ?_) (fun c8 => ?_)
        · have h := h.1 c8
          obtain ⟨v7, ev7⟩ : ∃ y : Int32, y = x2 + 1 := ⟨_, rfl⟩
          have h := h v7 ev7
          refine dk_iinc (i := 2) (v := v7) (L' := [some (dk_r G p0 13), some (.int x1), some (.int v7)]) C dX2_livingAt_35 (n := 38) rfl rfl (by rw [ev7]; rfl) (dk_nc_of rfl) (Nat.le_of_ble_eq_true rfl) rfl ?_
          refine dk_goto (t := 2) C dX2_livingAt_38 (by decide) ?_
          refine dk_sub (L0 := [some (dk_r G p0 13), some (.int x1), some (.int v7)]) ⟨rfl, ⟨rfl, ⟨rfl, trivial⟩⟩⟩ ?_
          exact hB x1 v7 s5 h
        · have h := h.2 c8
          refine dk_iload_n (i := 2) C dX2_livingAt_33 (n := 34) rfl rfl rfl ?_
          exact dk_iret C hr hlk rfl dX2_livingAt_34 ⟨_, rfl, h⟩
set_option maxRecDepth 20000 in
set_option maxHeartbeats 4000000 in
theorem cc_X2_livingAt {G : dk_G} {l : Launch} {p0 : Nat} {a1 : Int32} (hD : dk_D G) (hp0 : dk_WI G p0) {s : dk_S} {K : Int32 → dk_S → Prop} (h : wf_X2_livingAt p0 a1 s K) : dk_M G l 2 yX2_livingAt cX2_livingAt 3 (some .int) [dk_r G p0 13, .int a1] s (dk_ki K) := by
  refine dk_of hD (by decide) [some (dk_r G p0 13), some (.int a1), none] (fun q hq => hq) rfl (Nat.le_of_ble_eq_true rfl) (fun P e S0 m args bel meth c C hr hlk => ?_)
  unfold wf_X2_livingAt at h
  refine dk_iconst (v := 0) C dX2_livingAt_0 (n := 1) rfl (by decide) ?_
  refine dk_istore_n (i := 2) (L' := [some (dk_r G p0 13), some (.int a1), some (.int 0)]) C dX2_livingAt_1 (n := 2) rfl rfl (dk_nc_of rfl) (Nat.le_of_ble_eq_true rfl) rfl ?_
  obtain ⟨nn1, h⟩ := h
  refine dk_sub (L0 := [some (dk_r G p0 13), some (.int a1), some (.int 0)]) ⟨rfl, ⟨rfl, ⟨rfl, trivial⟩⟩⟩ ?_
  refine ww_X2_livingAt_2 C hr hlk hp0  nn1 a1 0 s h
