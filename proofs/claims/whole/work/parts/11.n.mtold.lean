/-! the reference: what is told, and the world as told -/
def mc_lL : List Nat := [144, 8, 8, 8, 8, 8, 8, 8, 8, 8, 24, 24, 4, 4]
def mc_qL : List Nat := [2, 8, 9, 10, 11, 12, 14, 15, 16, 17, 24, 25, 27, 28]
def mc_l (a : Nat) : Nat := if a < 61 then 0 else mc_lL.getD (a - 61) 0
def mc_q (a : Nat) : Nat := mc_qL.getD (a - 61) 0
def mc_k (a k : Nat) : Nat := if a = 61 then mt_T k else k
def mc_v (a : Nat) (v : Int32) : Int32 := if a = 67 ∨ a = 72 ∨ a = 73 then mt_V v else v
def mr_C (w m : dq_W) : Prop := (∀ a k, k < mc_l a → m a k = mc_v a (w (mc_q a) (mc_k a k))) ∧ (m 60 10 = w 13 9 ∧ m 60 15 = w 23 2 ∧ m 60 18 = w 26 2)
/-- a told world: nothing has gone on -/
def mr_Z (w : dq_W) : Prop := (w 0 5 = 0 ∧ w 0 7 = 0 ∧ w 0 8 = 0 ∧ w 0 9 = 0) ∧ (∀ k, k < 8 → w 19 k = 0 ∧ w 21 k = 0 ∧ w 22 k = -1 ∧ w 18 k = w 17 k) ∧ w 16 0 = 0
theorem mc_l_hi {a : Nat} (h : 0 < mc_l a) : a < 75 := by
  refine Nat.lt_of_not_le fun g => ?_
  have : mc_l a = 0 := by
    unfold mc_l
    rw [if_neg (by omega)]
    have : mc_lL.length ≤ a - 61 := by
      show 14 ≤ a - 61
      omega
    rw [List.getD_eq_getElem?_getD, List.getElem?_eq_none this]
    rfl
  omega
theorem mc_q_i0 : ∀ a, a < 75 → ∀ b, b < 75 → 0 < mc_l a → 0 < mc_l b → mc_q a = mc_q b → a = b := by decide +kernel
theorem mc_q_i {a b : Nat} (ha : 0 < mc_l a) (hb : 0 < mc_l b) (h : mc_q a = mc_q b) : a = b := mc_q_i0 a (mc_l_hi ha) b (mc_l_hi hb) ha hb h
theorem mc_q0 : ∀ a, a < 75 → 0 < mc_l a → 60 < a ∧ mc_q a ≠ 0 ∧ mc_q a ≠ 13 ∧ mc_q a ≠ 23 ∧ mc_q a ≠ 26 ∧ mc_q a ≠ 18 := by decide +kernel
theorem mc_k_i {a j k : Nat} (hj : j < mc_l a) (hk : k < mc_l a) (h : mc_k a j = mc_k a k) : j = k := by
  unfold mc_k at h
  by_cases e : a = 61
  · subst e
    rw [if_pos rfl, if_pos rfl] at h
    exact (mt_T_i hj hk).1 h
  · rw [if_neg e, if_neg e] at h; exact h
section DMC
variable {w m : dq_W}
theorem mr_C.c61 (C : mr_C w m) {k : Nat} (h : k < 144) : m 61 k = w 2 (mt_T k) := C.1 61 k h
theorem mr_C.c67 (C : mr_C w m) {k : Nat} (h : k < 8) : m 67 k = mt_V (w 14 k) := C.1 67 k h
theorem mr_C.c72 (C : mr_C w m) {k : Nat} (h : k < 24) : m 72 k = mt_V (w 25 k) := C.1 72 k h
theorem mr_C.c70 (C : mr_C w m) {k : Nat} (h : k < 8) : m 70 k = w 17 k := C.1 70 k h
theorem mr_C.put (C : mr_C w m) {a k : Nat} {v : Int32} (hk : k < mc_l a) : mr_C (dq_set w (mc_q a) (mc_k a k) v) (dq_set m a k (mc_v a v)) := by
  have ha := mc_l_hi (show 0 < mc_l a by omega)
  have hq := mc_q0 a ha (by omega)
  refine ⟨fun b j hj => ?_, ?_⟩
  · by_cases e : b = a ∧ j = k
    · obtain ⟨rfl, rfl⟩ := e
      rw [dq_set_eq, dq_set_eq]
    · rw [dq_set_ne (by omega), dq_set_ne ?_]
      · exact C.1 b j hj
      · by_cases e1 : mc_q b = mc_q a
        · have e2 := mc_q_i (show 0 < mc_l b by omega) (by omega) e1
          subst e2
          exact Or.inr fun e3 => e ⟨rfl, mc_k_i hj hk e3⟩
        · exact Or.inl e1
  · rw [dq_set_q (by omega), dq_set_q (by omega), dq_set_q (by omega), dq_set_q (by omega), dq_set_q (by omega), dq_set_q (by omega)]
    exact C.2
/-- a row that isn't told -/
theorem mr_C.w18 (C : mr_C w m) {q k : Nat} {v : Int32} (hq : q = 18) : mr_C (dq_set w q k v) m := by
  subst hq
  refine ⟨fun b j hj => ?_, ?_⟩
  · have := mc_q0 b (mc_l_hi (show 0 < mc_l b by omega)) (by omega)
    rw [dq_set_q (by omega)]; exact C.1 b j hj
  · rw [dq_set_q (by decide), dq_set_q (by decide), dq_set_q (by decide)]; exact C.2
theorem mr_C.out (C : mr_C w m) {a k : Nat} {v : Int32} (h : 74 < a ∨ (a = 60 ∧ ¬ (k = 10 ∨ k = 15 ∨ k = 18))) : mr_C w (dq_set m a k v) := by
  refine ⟨fun b j hj => ?_, ?_⟩
  · have h1 := mc_l_hi (show 0 < mc_l b by omega)
    have := mc_q0 b h1 (by omega)
    rw [dq_set_ne (by omega)]; exact C.1 b j hj
  · rw [dq_set_ne (by omega), dq_set_ne (by omega), dq_set_ne (by omega)]; exact C.2
/-- a number of things told -/
theorem mr_C.cnt (C : mr_C w m) {k q j : Nat} {v : Int32} (h : (k = 10 ∧ q = 13 ∧ j = 9) ∨ (k = 15 ∧ q = 23 ∧ j = 2) ∨ (k = 18 ∧ q = 26 ∧ j = 2)) : mr_C (dq_set w q j v) (dq_set m 60 k v) := by
  refine ⟨fun b i hi => ?_, ?_⟩
  · have h1 := mc_l_hi (show 0 < mc_l b by omega)
    have := mc_q0 b h1 (by omega)
    rw [dq_set_q (by omega), dq_set_q (by omega)]; exact C.1 b i hi
  · rcases h with ⟨rfl, rfl, rfl⟩ | ⟨rfl, rfl, rfl⟩ | ⟨rfl, rfl, rfl⟩
    · refine ⟨by rw [dq_set_eq, dq_set_eq], ?_, ?_⟩ <;> rw [dq_set_ne (by decide), dq_set_ne (by decide)]
      · exact C.2.2.1
      · exact C.2.2.2
    · refine ⟨?_, by rw [dq_set_eq, dq_set_eq], ?_⟩ <;> rw [dq_set_ne (by decide), dq_set_ne (by decide)]
      · exact C.2.1
      · exact C.2.2.2
    · refine ⟨?_, ?_, by rw [dq_set_eq, dq_set_eq]⟩ <;> rw [dq_set_ne (by decide), dq_set_ne (by decide)]
      · exact C.2.1
      · exact C.2.2.1
theorem mr_C.keep {m' : dq_W} (C : mr_C w m) (h : mk_o m m') : mr_C w m' := by
  refine ⟨fun a k hk => ?_, ?_⟩
  · have h1 := mc_l_hi (show 0 < mc_l a by omega)
    have := mc_q0 a h1 (by omega)
    rw [h a k (by unfold mk_g; omega)]; exact C.1 a k hk
  · rw [h 60 10 (by unfold mk_g; omega), h 60 15 (by unfold mk_g; omega), h 60 18 (by unfold mk_g; omega)]; exact C.2
/-- as told -/
theorem mr_R.told (C : mr_C w m) (Z : mr_Z w) {m' : dq_W} (ho : mk_o m m') (h2 : m' 60 2 = 0) (h30 : m' 60 30 = 0) (h31 : m' 60 31 = 0) (h75 : ∀ i, i < 144 → m' 75 i = m 61 i)
    (h8 : ∀ k, k < 8 → m' 76 k = m 67 k ∧ m' 77 k = m 70 k ∧ m' 78 k = 0 ∧ m' 80 k = 0 ∧ m' 81 k = -1) (h82 : ∀ x, x < 24 → m' 82 x = m 72 x) (h83 : ∀ d, d < 8 → m' 83 d = 0) : mr_R w m' := by
  have C' := C.keep ho
  have r : ∀ a k, a ≤ 74 → k < mt_l a → m' a k = mt_v a (w (mt_q a) (mt_k a k)) := by
    have tab : ∀ a, a < 75 → 0 < mt_l a → mt_l a = mc_l a ∧ mt_q a = mc_q a ∧ a ≠ 61 ∧ a ≠ 67 ∧ a ≠ 72 := by decide +kernel
    intro a k ha hk
    obtain ⟨t1, t2, t3, t4, t5⟩ := tab a (by omega) (by omega)
    have := C'.1 a k (by omega)
    rw [this, t2]
    have e1 : mc_k a k = k := if_neg t3
    have e2 : mt_k a k = k := if_neg (by omega)
    rw [e1, e2]
    unfold mc_v mt_v
    by_cases g : a = 73
    · rw [if_pos (by omega), if_pos (by omega)]
    · rw [if_neg (by omega), if_neg (by omega)]
  refine ⟨fun a k hk => ?_, ⟨⟨by rw [h2, Z.1.1], C'.2.1, C'.2.2.1⟩, C'.2.2.2, by rw [h30, Z.1.2.2.1], by rw [h31, Z.1.2.1]⟩, fun d hd => ?_, fun b hb h => ?_⟩
  · by_cases ha : a ≤ 74
    · exact r a k ha hk
    · have hi := mt_l_hi (show 0 < mt_l a by omega)
      have tab : ∀ a, a < 83 → 74 < a → 0 < mt_l a → a = 75 ∨ a = 76 ∨ a = 77 ∨ a = 78 ∨ a = 80 ∨ a = 81 ∨ a = 82 := by decide +kernel
      rcases tab a hi (by omega) (by omega) with rfl | rfl | rfl | rfl | rfl | rfl | rfl
      · show m' 75 k = w 2 (mt_T k)
        rw [h75 k hk, C.c61 hk]
      · show m' 76 k = mt_V (w 14 k)
        rw [(h8 k hk).1, C.c67 hk]
      · show m' 77 k = w 18 k
        rw [(h8 k hk).2.1, C.c70 hk, (Z.2.1 k hk).2.2.2]
      · show m' 78 k = w 19 k
        rw [(h8 k hk).2.2.1, (Z.2.1 k hk).1]
      · show m' 80 k = w 21 k
        rw [(h8 k hk).2.2.2.1, (Z.2.1 k hk).2.1]
      · show m' 81 k = mt_V (w 22 k)
        rw [(h8 k hk).2.2.2.2, (Z.2.1 k hk).2.2.1]; rfl
      · show m' 82 k = mt_V (w 25 k)
        rw [h82 k hk, C.c72 hk]
  · rw [h83 d hd]
    refine (dq_if_f ?_).symm
    rw [mt_kn_b hd, Z.1.2.2.2, b_0]
    decide
  · rw [(Z.2.1 b hb).2.1] at h
    exact absurd h (by decide)
end DMC
section DMT
variable {n t l : Nat} {w : dq_W} {s : dk_S} {K : Int32 → dk_S → Prop} {J : dk_S → Prop}
theorem mx_st_q {s : dk_S} {a k b j : Nat} {v : Int32} (h : b ≠ a ∨ j ≠ k) : dq_st s 4 a k v 4 b j = s 4 b j := by rw [dq_st_p, dq_set_ne h]
theorem mx_st_e {s : dk_S} {a k : Nat} {v : Int32} : dq_st s 4 a k v 4 a k = v := by rw [dq_st_p, dq_set_eq]
theorem km_becomes (C : mr_C w (s 4)) (Z : mr_Z w) (hS : dq_SG w) (k : ∀ u, mr_R w (u 4) → mk_o (s 4) (u 4) → dq_fr 4 s u → J u) : wf_X9_becomesAsTold s J := by
  unfold wf_X9_becomesAsTold
  have st : ∀ {u : dk_S} {a j : Nat} {v : Int32}, mk_o (s 4) (u 4) ∧ dq_fr 4 s u → ¬ mk_g a j → mk_o (s 4) (dq_st u 4 a j v 4) ∧ dq_fr 4 s (dq_st u 4 a j v) := fun h hg => ⟨h.1.tr (by rw [dq_st_p]; exact mk_o.set hg), h.2.tr dq_st_fr⟩
  have h0 : mk_o (s 4) (s 4) ∧ dq_fr 4 s s := ⟨mk_o.rf, dq_fr.rf⟩
  refine mx_put ?_
  refine loop_0 (fun m i u => wf_X9_becomesAsTold_7 J _ m (nI i) u) (fun i u => (mk_o (s 4) (u 4) ∧ dq_fr 4 s u) ∧ u 4 60 2 = 0 ∧ ∀ j, j < i → u 4 75 j = s 4 61 j) 144 _ ⟨st h0 (by unfold mk_g; omega), mx_st_e, fun j hj => absurd hj (Nat.not_lt_zero _)⟩ ?_ ?_
  · rintro m u ⟨h1, h2, h75⟩
    show wf_X9_becomesAsTold_7 J _ (m + 1) (nI 144) u
    unfold wf_X9_becomesAsTold_7
    refine br_t (by decide) ?_
    refine loop_0 (fun m i u => wf_X9_becomesAsTold_34 J _ m (nI i) u) (fun i u => (mk_o (s 4) (u 4) ∧ dq_fr 4 s u) ∧ u 4 60 2 = 0 ∧ (∀ j, j < 144 → u 4 75 j = s 4 61 j) ∧ (∀ j, j < i → u 4 76 j = s 4 67 j ∧ u 4 77 j = s 4 70 j ∧ u 4 78 j = 0 ∧ u 4 80 j = 0 ∧ u 4 81 j = -1)) 8 u ⟨h1, h2, h75, fun j hj => absurd hj (Nat.not_lt_zero _)⟩ ?_ ?_
    · rintro m u ⟨h1, h2, h75, h8⟩
      show wf_X9_becomesAsTold_34 J _ (m + 1) (nI 8) u
      unfold wf_X9_becomesAsTold_34
      refine br_t (by decide) ?_
      refine loop_0 (fun m i u => wf_X9_becomesAsTold_93 J _ m (nI i) u) (fun i u => (mk_o (s 4) (u 4) ∧ dq_fr 4 s u) ∧ u 4 60 2 = 0 ∧ (∀ j, j < 144 → u 4 75 j = s 4 61 j) ∧ (∀ j, j < 8 → u 4 76 j = s 4 67 j ∧ u 4 77 j = s 4 70 j ∧ u 4 78 j = 0 ∧ u 4 80 j = 0 ∧ u 4 81 j = -1) ∧ (∀ j, j < i → u 4 82 j = s 4 72 j)) 24 u ⟨h1, h2, h75, h8, fun j hj => absurd hj (Nat.not_lt_zero _)⟩ ?_ ?_
      · rintro m u ⟨h1, h2, h75, h8, h82⟩
        show wf_X9_becomesAsTold_93 J _ (m + 1) (nI 24) u
        unfold wf_X9_becomesAsTold_93
        refine br_t (by decide) ?_
        refine loop_0 (fun m i u => wf_X9_becomesAsTold_119 J _ m (nI i) u) (fun i u => (mk_o (s 4) (u 4) ∧ dq_fr 4 s u) ∧ u 4 60 2 = 0 ∧ (∀ j, j < 144 → u 4 75 j = s 4 61 j) ∧ (∀ j, j < 8 → u 4 76 j = s 4 67 j ∧ u 4 77 j = s 4 70 j ∧ u 4 78 j = 0 ∧ u 4 80 j = 0 ∧ u 4 81 j = -1) ∧ (∀ j, j < 24 → u 4 82 j = s 4 72 j) ∧ (∀ j, j < i → u 4 83 j = 0)) 8 u ⟨h1, h2, h75, h8, h82, fun j hj => absurd hj (Nat.not_lt_zero _)⟩ ?_ ?_
        · rintro m u ⟨h1, h2, h75, h8, h82, h83⟩
          show wf_X9_becomesAsTold_119 J _ (m + 1) (nI 8) u
          unfold wf_X9_becomesAsTold_119
          refine br_t (by decide) (mx_put (mx_put ?_))
          have f := st (v := 0) (st (v := 0) h1 (a := 60) (j := 30) (by unfold mk_g; omega)) (a := 60) (j := 31) (by unfold mk_g; omega)
          have o : ∀ b j, ¬ (b = 60 ∧ (j = 30 ∨ j = 31)) → dq_st (dq_st u 4 60 30 0) 4 60 31 0 4 b j = u 4 b j := fun b j h => by rw [mx_st_q (by omega), mx_st_q (by omega)]
          refine k _ (mr_R.told C Z f.1 ?_ ?_ ?_ (fun i hi => ?_) (fun j hj => ?_) (fun x hx => ?_) (fun d hd => ?_)) f.1 f.2
          · rw [o 60 2 (by omega)]; exact h2
          · rw [mx_st_q (by decide), mx_st_e]
          · exact mx_st_e
          · rw [o 75 i (by omega)]; exact h75 i hi
          · rw [o 76 j (by omega), o 77 j (by omega), o 78 j (by omega), o 80 j (by omega), o 81 j (by omega)]; exact h8 j hj
          · rw [o 82 x (by omega)]; exact h82 x hx
          · rw [o 83 d (by omega)]; exact h83 d hd
        · rintro m i u hi ⟨h1, h2, h75, h8, h82, h83⟩ next
          show wf_X9_becomesAsTold_119 J _ (m + 1) (nI i) u
          unfold wf_X9_becomesAsTold_119
          refine br_f (nI_ge (b := 8) hi (by decide)) ⟨vp_in_nI hi (by decide), mx_putI (v := 0) (by omega) (nm_r (nI_1 i) (next _ ⟨st h1 (by unfold mk_g; omega), ?_, fun j hj => ?_, fun j hj => ?_, fun j hj => ?_, fun j hj => ?_⟩))⟩
          · rw [mx_st_q (Or.inl (by decide))]; exact h2
          · rw [mx_st_q (by omega)]; exact h75 j hj
          · rw [mx_st_q (by omega), mx_st_q (by omega), mx_st_q (by omega), mx_st_q (by omega), mx_st_q (by omega)]; exact h8 j hj
          · rw [mx_st_q (by omega)]; exact h82 j hj
          · by_cases e : j = i
            · rw [e, mx_st_e]
            · rw [mx_st_q (Or.inr e)]; exact h83 j (by omega)
      · rintro m i u hi ⟨h1, h2, h75, h8, h82⟩ next
        show wf_X9_becomesAsTold_93 J _ (m + 1) (nI i) u
        unfold wf_X9_becomesAsTold_93
        refine br_f (nI_ge (b := 24) hi (by decide)) ⟨vp_in_nI hi (by decide), vp_in_nI hi (by decide), ?_⟩
        have e72 : u 4 72 (nI i).toNatClampNeg = s 4 72 i := by rw [nI_clamp (by omega)]; exact h1.1 72 i (by unfold mk_g; omega)
        rw [e72]
        refine mx_putI (by omega) (nm_r (nI_1 i) (next _ ⟨st h1 (by unfold mk_g; omega), ?_, fun j hj => ?_, fun j hj => ?_, fun j hj => ?_⟩))
        · rw [mx_st_q (Or.inl (by decide))]; exact h2
        · rw [mx_st_q (by omega)]; exact h75 j hj
        · rw [mx_st_q (by omega), mx_st_q (by omega), mx_st_q (by omega), mx_st_q (by omega), mx_st_q (by omega)]; exact h8 j hj
        · by_cases e : j = i
          · rw [e, mx_st_e]
          · rw [mx_st_q (Or.inr e)]; exact h82 j (by omega)
    · rintro m i u hi ⟨h1, h2, h75, h8⟩ next
      show wf_X9_becomesAsTold_34 J _ (m + 1) (nI i) u
      unfold wf_X9_becomesAsTold_34
      have vi := vp_in_nI hi (N := 8) (by decide)
      have e67 : u 4 67 (nI i).toNatClampNeg = s 4 67 i := by rw [nI_clamp (by omega)]; exact h1.1 67 i (by unfold mk_g; omega)
      refine br_f (nI_ge (b := 8) hi (by decide)) ⟨vi, vi, ?_⟩
      rw [e67]
      have g1 := st (v := s 4 67 i) h1 (a := 76) (j := i) (by unfold mk_g; omega)
      refine mx_putI (by omega) ⟨vi, vi, ?_⟩
      have e70 : dq_st u 4 76 i (s 4 67 i) 4 70 (nI i).toNatClampNeg = s 4 70 i := by rw [nI_clamp (by omega)]; exact g1.1 70 i (by unfold mk_g; omega)
      rw [e70]
      have g2 := st (v := s 4 70 i) g1 (a := 77) (j := i) (by unfold mk_g; omega)
      have g3 := st (v := 0) g2 (a := 78) (j := i) (by unfold mk_g; omega)
      have g4 := st (v := 0) g3 (a := 80) (j := i) (by unfold mk_g; omega)
      have g5 := st (v := -1) g4 (a := 81) (j := i) (by unfold mk_g; omega)
      refine mx_putI (by omega) ⟨vi, mx_putI (by omega) ⟨vi, mx_putI (by omega) ⟨vi, mx_putI (by omega) (nm_r (nI_1 i) (next _ ⟨g5, ?_, fun j hj => ?_, fun j hj => ?_⟩))⟩⟩⟩
      · rw [mx_st_q (Or.inl (by decide)), mx_st_q (Or.inl (by decide)), mx_st_q (Or.inl (by decide)), mx_st_q (Or.inl (by decide)), mx_st_q (Or.inl (by decide))]; exact h2
      · rw [mx_st_q (by omega), mx_st_q (by omega), mx_st_q (by omega), mx_st_q (by omega), mx_st_q (by omega)]; exact h75 j hj
      · by_cases e : j = i
        · rw [e]
          refine ⟨?_, ?_, ?_, ?_, mx_st_e⟩
          · rw [mx_st_q (by omega), mx_st_q (by omega), mx_st_q (by omega), mx_st_q (by omega), mx_st_e]
          · rw [mx_st_q (by omega), mx_st_q (by omega), mx_st_q (by omega), mx_st_e]
          · rw [mx_st_q (by omega), mx_st_q (by omega), mx_st_e]
          · rw [mx_st_q (by omega), mx_st_e]
        · have := h8 j (by omega)
          refine ⟨?_, ?_, ?_, ?_, ?_⟩ <;> rw [mx_st_q (by omega), mx_st_q (by omega), mx_st_q (by omega), mx_st_q (by omega), mx_st_q (by omega)]
          · exact this.1
          · exact this.2.1
          · exact this.2.2.1
          · exact this.2.2.2.1
          · exact this.2.2.2.2
  · rintro m i u hi ⟨h1, h2, h75⟩ next
    show wf_X9_becomesAsTold_7 J _ (m + 1) (nI i) u
    unfold wf_X9_becomesAsTold_7
    have e61 : u 4 61 (nI i).toNatClampNeg = s 4 61 i := by rw [nI_clamp (by omega)]; exact h1.1 61 i (by unfold mk_g; omega)
    have es : vp_nar .char (s 4 61 i) = s 4 61 i := by rw [C.c61 hi]; exact dq_sgn_vp (hS _ (mt_T_lt hi))
    refine br_f (nI_ge (b := 144) hi (by decide)) ⟨vp_in_nI hi (by decide), vp_in_nI hi (by decide), ?_⟩
    rw [e61, es]
    refine mx_putI (by omega) (nm_r (nI_1 i) (next _ ⟨st h1 (by unfold mk_g; omega), ?_, fun j hj => ?_⟩))
    · rw [mx_st_q (Or.inl (by decide))]; exact h2
    · by_cases e : j = i
      · rw [e, mx_st_e]
      · rw [mx_st_q (Or.inr e)]; exact h75 j (by omega)
/-- behind a telling: the world as told, no world on; the bones stay -/
def mx_N (w : dq_W) (s u : dk_S) : Prop := mr_R w (u 4) ∧ mr_C w (u 4) ∧ u 4 60 1 = 110 ∧ dq_fr 4 s u ∧ (∀ k, u 4 84 k = s 4 84 k ∧ u 4 85 k = s 4 85 k) ∧ u 4 60 0 = s 4 60 0 ∧ u 4 60 32 = s 4 60 32
theorem km_tells (C : mr_C w (s 4)) (Z : mr_Z w) (hS : dq_SG w) (k : ∀ u, mx_N w s u → J u) : wf_X9_tells s J := by
  unfold wf_X9_tells
  refine mx_put ?_
  have C1 : mr_C w (dq_st s 4 60 1 110 4) := by rw [dq_st_p]; exact C.out (Or.inr ⟨rfl, by omega⟩)
  refine km_becomes C1 Z hS (fun u R o f => k u ⟨R, C1.keep o, ?_, dq_st_fr.tr f, fun j => ⟨?_, ?_⟩, ?_, ?_⟩)
  · rw [o 60 1 (by unfold mk_g; omega)]; exact mx_st_e
  · rw [o 84 j (by unfold mk_g; omega), mx_st_q (by omega)]
  · rw [o 85 j (by unfold mk_g; omega), mx_st_q (by omega)]
  · rw [o 60 0 (by unfold mk_g; omega), mx_st_q (by decide)]
  · rw [o 60 32 (by unfold mk_g; omega), mx_st_q (by decide)]
end DMT
