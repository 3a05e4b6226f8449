/-! what the law tells: beasts, things, a lamp -/
section DLU
variable {G : dk_G} {n t l : Nat} {T : dq_W} {s : dk_S} {K : dk_S → Prop} {X : String → dk_S → Prop}
theorem dl_lo_c (v : Int32) {N : Nat} (h1 : 1 ≤ N) (h2 : N < 2 ^ 31) : (dl_lo v (nI N)).toNatClampNeg < N ∧ dl_lo v (nI N) = nI (dl_lo v (nI N)).toNatClampNeg := by
  obtain ⟨j, hj, e⟩ := dl_lo_in v h1 h2
  rw [e, nI_clamp (by omega)]
  exact ⟨hj, rfl⟩
theorem dl_T4_W (h : dq_TW 1 t l T) : ∀ b, b < 8 → dq_TW (b + 1) t l (dl_T4 G T b)
  | 0, _ => h
  | b + 1, hb => by
    have ih := dl_T4_W h b (by omega)
    obtain ⟨x1, _⟩ := dl_lo_c (dl_v4 G b) (N := 6) (by decide) (by decide)
    obtain ⟨y1, _⟩ := dl_lo_c (dl_v4 G b >>> (3 &&& 31)) (N := 6) (by decide) (by decide)
    have x1 : (dl_lo (dl_v4 G b) 6).toNatClampNeg < 6 := x1
    have y1 : (dl_lo (dl_v4 G b >>> (3 &&& 31)) 6).toNatClampNeg < 6 := y1
    have hz : mr_in ((1 : Int32) + dl_lo (dl_v4 G b >>> (14 &&& 31)) 30) 1 30 := dl_lo_R _ (N := 30) (a := 1) (by decide) (by decide) (by decide)
    have hy : mr_in (dl_lo (dl_v4 G b >>> (11 &&& 31)) 5) 0 4 := dl_lo_R0 _ (N := 5) (by decide) (by decide)
    exact ih.beast (by omega) (by omega) (dl_lo_R _ (N := 24) (a := 1) (by decide) (by decide) (by decide)) ((mr_in_R rfl rfl hz).wide (by decide) (by decide)) ((mr_in_R rfl rfl hy).wide (by decide) (by decide))
def dl_nb (G : dk_G) : Nat := (dl_lo (dl_cl G 19) 4).toNatClampNeg
theorem dl_nb_3 : dl_nb G < 4 ∧ dl_lo (dl_cl G 19) 4 = nI (dl_nb G) := dl_lo_c (dl_cl G 19) (N := 4) (by decide) (by decide)
theorem dl_tells_204 {E : dk_S → Prop} (h : dq_TW 1 t l T) (S : dp_S T s) (k : ∀ u, dp_S (dl_T4 G T (dl_nb G)) u → E u) : ∃ nn, wf_L_tells_204 G K X E nn 0 s := by
  obtain ⟨n3, en⟩ := dl_nb_3 (G := G)
  refine loop_0 (fun m i u => wf_L_tells_204 G K X E m (nI i) u) (fun i u => dp_S (dl_T4 G T i) u) (dl_nb G) s S ?_ ?_
  · intro m u Su
    show wf_L_tells_204 G K X E (m + 1) (nI (dl_nb G)) u
    unfold wf_L_tells_204
    rw [en]
    exact ⟨by decide, br_t (nI_le (Nat.le_refl _) (by omega)) (k u Su)⟩
  · intro m i u hi Su next
    show wf_L_tells_204 G K X E (m + 1) (nI i) u
    unfold wf_L_tells_204
    rw [en]
    have ih := dl_T4_W (G := G) h i (by omega)
    obtain ⟨x1, x2⟩ := dl_lo_c (dl_v4 G i) (N := 6) (by decide) (by decide)
    obtain ⟨y1, y2⟩ := dl_lo_c (dl_v4 G i >>> (3 &&& 31)) (N := 6) (by decide) (by decide)
    have x1 : (dl_lo (dl_v4 G i) 6).toNatClampNeg < 6 := x1
    have y1 : (dl_lo (dl_v4 G i >>> (3 &&& 31)) 6).toNatClampNeg < 6 := y1
    have x2 : dl_lo (dl_v4 G i) 6 = nI (dl_lo (dl_v4 G i) 6).toNatClampNeg := x2
    have y2 : dl_lo (dl_v4 G i >>> (3 &&& 31)) 6 = nI (dl_lo (dl_v4 G i >>> (3 &&& 31)) 6).toNatClampNeg := y2
    have hy : mr_in (dl_lo (dl_v4 G i >>> (11 &&& 31)) 5) 0 4 := dl_lo_R0 _ (N := 5) (by decide) (by decide)
    have hy9 : mr_in (dl_lo (dl_v4 G i >>> (11 &&& 31)) 5) 0 9 := by
      obtain ⟨j, hj, e⟩ := dl_lo_in (dl_v4 G i >>> (11 &&& 31)) (N := 5) (by decide) (by decide)
      rw [show (5 : Int32) = nI 5 from rfl, e]
      exact dl_in (lo := 0) (hi := 9) (by omega) (by omega) (by decide)
    refine ⟨by decide, br_f (nI_ge hi (by omega)) ⟨?_, nm_e ?_⟩⟩
    · rw [show (20 : Int32) = nI 20 from rfl, dl_add]
      exact nI_pos (by omega)
    · show wf_X8_addBeast (dl_lo (dl_v4 G i) 6) (dl_lo (dl_v4 G i >>> (3 &&& 31)) 6) ((1 : Int32) + dl_lo (dl_v4 G i >>> (6 &&& 31)) 24) (dl_lo (dl_v4 G i >>> (11 &&& 31)) 5) ((1 : Int32) + dl_lo (dl_v4 G i >>> (14 &&& 31)) 30) u (fun r80 s79 => ∀ v81 : Int32, v81 = nI i + 1 → wf_L_tells_204 G K X E m v81 s79) X
      rw [x2, y2]
      exact dp_addBeast (by omega) (by omega) (dl_lo_R _ (N := 24) (a := 1) (by decide) (by decide) (by decide)) hy9 (dl_lo_R _ (N := 30) (a := 1) (by decide) (by decide) (by decide)) (by omega) ih Su (fun _ v Sv => nm_r (nI_1 i) (next v Sv))
/-! things -/
theorem dl_kd_8 (i : Nat) : dl_kd G i < 8 := by
  unfold dl_kd
  by_cases g : i < 2
  · rw [if_pos g]; decide
  · rw [if_neg g]; exact (dl_lo_c (dl_v5 G i >>> (2 &&& 31)) (N := 8) (by decide) (by decide)).1
theorem dl_pv_ok (i : Nat) (hi : i < 9) : (∃ p, p < 144 ∧ dl_pv G i = nI p ∧ ¬ (2 < i ∧ dl_lo (dl_v5 G i) 4 = 0)) ∨ ∃ j, j < 2 ∧ j < i ∧ dl_pv G i = (-3) - nI j ∧ 2 < i ∧ dl_lo (dl_v5 G i) 4 = 0 ∧ dl_lo (dl_v5 G i >>> (9 &&& 31)) 2 = nI j := by
  unfold dl_pv
  by_cases g : 2 < i ∧ dl_lo (dl_v5 G i) 4 = 0
  · rw [if_pos g]
    obtain ⟨j, hj, e⟩ := dl_lo_in (dl_v5 G i >>> (9 &&& 31)) (N := 2) (by decide) (by decide)
    have e : dl_lo (dl_v5 G i >>> (9 &&& 31)) 2 = nI j := e
    exact Or.inr ⟨j, hj, by omega, by rw [e], g.1, g.2, e⟩
  · rw [if_neg g]
    have x1 : (dl_lo (dl_v5 G i >>> (5 &&& 31)) 3).toNatClampNeg < 3 := (dl_lo_c _ (N := 3) (by decide) (by decide)).1
    have y1 : (dl_lo (dl_v5 G i >>> (7 &&& 31)) 2).toNatClampNeg < 2 := (dl_lo_c _ (N := 2) (by decide) (by decide)).1
    exact Or.inl ⟨_, by omega, rfl, g⟩
theorem dl_T5_k : ∀ i j, j < i → dl_T5 G T i 24 j = nI (dl_kd G j)
  | 0, j, h => absurd h (Nat.not_lt_zero _)
  | i + 1, j, h => by
    show ax_thing i (nI (dl_kd G i)) (dl_pv G i) (dl_T5 G T i) 24 j = _
    unfold ax_thing
    rw [dq_set_q (by decide), dq_set_q (by decide)]
    by_cases e : j = i
    · rw [e, dq_set_eq]
    · rw [dq_set_ne (Or.inr e)]; exact dl_T5_k i j (by omega)
theorem dl_T5_p (i : Nat) (j : Nat) : dl_T5 G T (i + 1) 25 j = if j = i then dl_pv G i else dl_T5 G T i 25 j := by
  show ax_thing i (nI (dl_kd G i)) (dl_pv G i) (dl_T5 G T i) 25 j = _
  unfold ax_thing
  rw [dq_set_q (by decide)]
  by_cases e : j = i
  · rw [if_pos e, e, dq_set_eq]
  · rw [if_neg e, dq_set_ne (Or.inr e), dq_set_q (by decide)]
/-- nothing is carried as it is told -/
def dl_NC (T : dq_W) : Prop := ∀ i, i < 24 → T 25 i ≠ -1
theorem dl_T5_NC (h : dl_NC T) : ∀ i, i ≤ 9 → dl_NC (dl_T5 G T i)
  | 0, _ => h
  | i + 1, hi => fun j hj => by
    rw [dl_T5_p]
    by_cases e : j = i
    · rw [if_pos e]
      rcases dl_pv_ok (G := G) i (by omega) with ⟨p, hp, q, _⟩ | ⟨b, hb, _, q, _⟩
      · rw [q]; exact dq_m1' (by omega)
      · rw [q]; exact dq_bag_m1 (by omega)
    · rw [if_neg e]; exact dl_T5_NC h i (by omega) j hj
theorem dl_T5_W (h : dq_TW n 0 l T) : ∀ i, i ≤ 9 → dq_TW n i l (dl_T5 G T i)
  | 0, _ => h
  | i + 1, hi => by
    have ih := dl_T5_W h i (by omega)
    refine ih.thing (by omega) (dl_kd_8 i) ?_
    rcases dl_pv_ok (G := G) i (by omega) with ⟨p, hp, e, _⟩ | ⟨j, _, hj, e, _⟩
    · exact Or.inl ⟨p, hp, e⟩
    · exact Or.inr ⟨j, hj, e⟩
theorem dl_tells_294 {E : dk_S → Prop} (h : dq_TW n 0 l T) (S : dp_S T s) (k : ∀ u, dp_S (dl_T5 G T 9) u → E u) : ∃ nn, wf_L_tells_294 G K X E nn 0 s := by
  refine loop_0 (fun m i u => wf_L_tells_294 G K X E m (nI i) u) (fun i u => dp_S (dl_T5 G T i) u) 9 s S ?_ ?_
  · intro m u Su
    show wf_L_tells_294 G K X E (m + 1) (nI 9) u
    unfold wf_L_tells_294
    exact br_t (by decide) (k u Su)
  · intro m i u hi Su next
    show wf_L_tells_294 G K X E (m + 1) (nI i) u
    unfold wf_L_tells_294
    have ih := dl_T5_W (G := G) h i (by omega)
    obtain ⟨x1, x2⟩ := dl_lo_c (dl_v5 G i >>> (5 &&& 31)) (N := 3) (by decide) (by decide)
    obtain ⟨y1, y2⟩ := dl_lo_c (dl_v5 G i >>> (7 &&& 31)) (N := 2) (by decide) (by decide)
    have x1 : (dl_lo (dl_v5 G i >>> (5 &&& 31)) 3).toNatClampNeg < 3 := x1
    have y1 : (dl_lo (dl_v5 G i >>> (7 &&& 31)) 2).toNatClampNeg < 2 := y1
    have x2 : dl_lo (dl_v5 G i >>> (5 &&& 31)) 3 = nI (dl_lo (dl_v5 G i >>> (5 &&& 31)) 3).toNatClampNeg := x2
    have y2 : dl_lo (dl_v5 G i >>> (7 &&& 31)) 2 = nI (dl_lo (dl_v5 G i >>> (7 &&& 31)) 2).toNatClampNeg := y2
    have i2 : nI i ≤ 2 ↔ i ≤ 2 := by
      rw [show (2 : Int32) = nI 2 from rfl, ← mr_lt_le, nI_ltI (by decide) (by omega)]
      omega
    have i2' : (2 : Int32) ≤ nI i ↔ 2 ≤ i := by
      rw [show (2 : Int32) = nI 2 from rfl, ← mr_lt_le, nI_ltI (by omega) (by decide)]
      omega
    have add : ∀ b, ((b = -1 ∧ dl_pv G i = nI (12 * (dl_lo (dl_v5 G i >>> (5 &&& 31)) 3).toNatClampNeg + (dl_lo (dl_v5 G i >>> (7 &&& 31)) 2).toNatClampNeg)) ∨ ∃ j, j < i ∧ b = nI j ∧ dl_T5 G T i 24 j = 6 ∧ dl_pv G i = (-3) - nI j) → wf_X8_addThing (nI (dl_kd G i)) (dl_lo (dl_v5 G i >>> (5 &&& 31)) 3) (dl_lo (dl_v5 G i >>> (7 &&& 31)) 2) b u (fun r145 s144 => ∀ v146 : Int32, v146 = nI i + 1 → wf_L_tells_294 G K X E m v146 s144) X := fun b hb => by
      rw [x2, y2]
      exact dp_addThing (dl_kd_8 i) (by omega) (by omega) (by omega) hb ih Su (fun _ v Sv => nm_r (nI_1 i) (next v Sv))
    have t355 : ∀ x6 : Int32, (x6 = 0 ↔ ¬ (2 < i ∧ dl_lo (dl_v5 G i) 4 = 0)) → wf_L_tells_355 G K X (wf_L_tells_294 G K X E m) E (nI i) (dl_v5 G i) x6 (nI (dl_kd G i)) u := fun x6 hx => by
      unfold wf_L_tells_355
      refine ⟨fun c => add (-1) ?_, fun c => add _ ?_⟩
      · refine Or.inl ⟨rfl, ?_⟩
        unfold dl_pv
        rw [if_neg (hx.1 c)]
      · have g := Classical.byContradiction fun q => c (hx.2 q)
        rcases dl_pv_ok (G := G) i (by omega) with ⟨p, hp, e, q⟩ | ⟨j, hj2, hj, e, _, _, e9⟩
        · exact absurd g q
        · refine Or.inr ⟨j, hj, e9, ?_, e⟩
          rw [dl_T5_k i j hj]
          unfold dl_kd
          rw [if_pos hj2]; rfl
    have t332 : ∀ x6 : Int32, (x6 = 0 ↔ ¬ (2 < i ∧ dl_lo (dl_v5 G i) 4 = 0)) → wf_L_tells_332 G K X (wf_L_tells_294 G K X E m) E (nI i) (dl_v5 G i) x6 u := fun x6 hx => by
      have key := t355 x6 hx
      unfold wf_L_tells_332
      refine ⟨fun c => ?_, fun c => ?_⟩
      · have c := i2'.1 c
        have e : nI (dl_kd G i) = dl_lo (dl_v5 G i >>> (2 &&& 31)) 8 := by
          unfold dl_kd
          rw [if_neg (by omega)]
          exact (dl_lo_c (dl_v5 G i >>> (2 &&& 31)) (N := 8) (by decide) (by decide)).2.symm
        rw [e] at key
        exact key
      · have c : i < 2 := Nat.lt_of_not_le fun q => c (i2'.2 q)
        have e : nI (dl_kd G i) = 6 := by
          unfold dl_kd
          rw [if_pos c]; rfl
        rw [e] at key
        exact key
    refine br_f (nI_ge (b := 9) hi (by omega)) ⟨?_, nm_e ⟨fun c => t332 0 ⟨fun _ q => ?_, fun _ => rfl⟩, fun c => ⟨fun c2 => t332 0 ⟨fun _ q => c2 q.2, fun _ => rfl⟩, fun c2 => t332 1 ⟨fun q => absurd q (by decide), fun q => absurd ⟨?_, c2⟩ q⟩⟩⟩⟩
    · rw [show (24 : Int32) = nI 24 from rfl, dl_add]
      exact nI_pos (by omega)
    · have := i2.1 c
      omega
    · exact Nat.lt_of_not_le fun q => c (i2.2 q)
/-- all that is told -/
def dl_T3 (G : dk_G) (T : dq_W) : dq_W := ax_tell 0 (nI (12 * 0 + 0)) ((1 : Int32) + dl_lo (dl_cl G 18) 24) 0 ((5 : Int32) + dl_lo ((dl_cl G 18) >>> (5 &&& 31)) 30) (dl_T2 G (dl_T1 G T 36) 8)
def dl_T6 (G : dk_G) (T : dq_W) : dq_W := ax_lamp 0 (nI (12 * (dl_lo (dl_cl G 33) 6).toNatClampNeg + (dl_lo ((dl_cl G 33) >>> (4 &&& 31)) 6).toNatClampNeg)) (dl_lo ((dl_cl G 33) >>> (8 &&& 31)) 9) (dl_T5 G (dl_T4 G (dl_T3 G T) (dl_nb G)) 9)
theorem dl_T3_W (h : dq_TW 1 0 0 T) : dq_TW 1 0 0 (dl_T3 G T) := by
  have hh : mr_in ((5 : Int32) + dl_lo ((dl_cl G 18) >>> (5 &&& 31)) 30) 5 34 := dl_lo_R _ (N := 30) (a := 5) (by decide) (by decide) (by decide)
  exact (dl_T2_W (dl_T1_W h 36) 8).tell (fun _ => rfl) (by decide) (dl_lo_R _ (N := 24) (a := 1) (by decide) (by decide) (by decide)) ((mr_in_R rfl rfl hh).wide (by decide) (by decide)) ⟨by decide, by decide⟩
theorem dl_T6_W (h : dq_TW 1 0 0 T) : dq_TW (dl_nb G + 1) 9 1 (dl_T6 G T) := by
  have x1 : (dl_lo (dl_cl G 33) 6).toNatClampNeg < 6 := (dl_lo_c _ (N := 6) (by decide) (by decide)).1
  have y1 : (dl_lo ((dl_cl G 33) >>> (4 &&& 31)) 6).toNatClampNeg < 6 := (dl_lo_c _ (N := 6) (by decide) (by decide)).1
  have n3 := (dl_nb_3 (G := G)).1
  exact (dl_T5_W (dl_T4_W (dl_T3_W h) (dl_nb G) (by omega)) 9 (by decide)).lamp (by decide) (by omega)
theorem dl_tells (h : dq_TW 1 0 0 T) (S : dp_S T s) (k : ∀ u, dp_S (dl_T6 G T) u → K u) : wf_L_tells G s K X := by
  have n3 := (dl_nb_3 (G := G)).1
  unfold wf_L_tells
  refine dl_tells_2 h S (fun u1 S1 => dl_tells_65 (dl_T1_W h 36) S1 (fun u2 S2 => ⟨by decide, nm_e ⟨by decide, ?_⟩⟩))
  have hh : mr_in ((5 : Int32) + dl_lo ((dl_cl G 18) >>> (5 &&& 31)) 30) 1 99 := by
    obtain ⟨j, hj, e⟩ := dl_lo_in ((dl_cl G 18) >>> (5 &&& 31)) (N := 30) (by decide) (by decide)
    rw [show (30 : Int32) = nI 30 from rfl, e, show (5 : Int32) = nI 5 from rfl, dl_add]
    exact dl_in (lo := 1) (hi := 99) (by omega) (by omega) (by decide)
  refine dp_setHero (a := 0) (b := 0) (by decide) (by decide) (dl_lo_R _ (N := 24) (a := 1) (by decide) (by decide) (by decide)) hh S2 (fun _ u3 S3 => ?_)
  have W3 := dl_T3_W (G := G) h
  refine dl_tells_204 W3 S3 (fun u4 S4 => dl_tells_294 (dl_T4_W W3 (dl_nb G) (by omega)) S4 (fun u5 S5 => ⟨by decide, by decide, by decide, ?_⟩))
  obtain ⟨x1, x2⟩ := dl_lo_c (dl_cl G 33) (N := 6) (by decide) (by decide)
  obtain ⟨y1, y2⟩ := dl_lo_c ((dl_cl G 33) >>> (4 &&& 31)) (N := 6) (by decide) (by decide)
  have x1 : (dl_lo (dl_cl G 33) 6).toNatClampNeg < 6 := x1
  have y1 : (dl_lo ((dl_cl G 33) >>> (4 &&& 31)) 6).toNatClampNeg < 6 := y1
  have x2 : dl_lo (dl_cl G 33) 6 = nI (dl_lo (dl_cl G 33) 6).toNatClampNeg := x2
  have y2 : dl_lo ((dl_cl G 33) >>> (4 &&& 31)) 6 = nI (dl_lo ((dl_cl G 33) >>> (4 &&& 31)) 6).toNatClampNeg := y2
  have hr : mr_in (dl_lo ((dl_cl G 33) >>> (8 &&& 31)) 9) 0 9 := by
    obtain ⟨j, hj, e⟩ := dl_lo_in ((dl_cl G 33) >>> (8 &&& 31)) (N := 9) (by decide) (by decide)
    rw [show (9 : Int32) = nI 9 from rfl, e]
    exact dl_in (lo := 0) (hi := 9) (by omega) (by omega) (by decide)
  rw [x2, y2]
  exact dp_addLamp (by omega) (by omega) hr (by decide) (dl_T5_W (dl_T4_W W3 (dl_nb G) (by omega)) 9 (by decide)) S5 (fun _ v Sv => k v Sv)
end DLU
