/-! the reference: the calls that tell -/
def ax_tell (b : Nat) (c sp st h : Int32) (w : dq_W) : dq_W := dq_set (dq_set (dq_set (dq_set (dq_set w 14 b c) 15 b sp) 16 b st) 17 b h) 18 b h
def ax_kind (d : Nat) (a v : Int32) (w : dq_W) : dq_W := dq_set (dq_set w 8 d a) 9 d v
def ax_effect (d : Nat) (e m r : Int32) (w : dq_W) : dq_W := dq_set (dq_set (dq_set w 10 d e) 11 d m) 12 d r
def ax_thing (x : Nat) (d p : Int32) (w : dq_W) : dq_W := dq_set (dq_set (dq_set w 24 x d) 25 x p) 23 2 (nI x + 1)
def ax_lamp (i : Nat) (p r : Int32) (w : dq_W) : dq_W := dq_set (dq_set (dq_set w 27 i p) 28 i r) 26 2 (nI i + 1)
def ax_beast (b : Nat) (c sp st h : Int32) (w : dq_W) : dq_W := dq_set (ax_tell b c sp st h w) 13 9 (nI b + 1)
theorem mr_Z.put {w : dq_W} (Z : mr_Z w) {q k : Nat} {v : Int32} (hq : ¬ (q = 0 ∨ q = 16 ∨ q = 17 ∨ q = 18 ∨ q = 19 ∨ q = 21 ∨ q = 22)) : mr_Z (dq_set w q k v) := by
  have e : ∀ a, (a = 0 ∨ a = 16 ∨ a = 17 ∨ a = 18 ∨ a = 19 ∨ a = 21 ∨ a = 22) → dq_set w q k v a = w a := fun a ha => dq_set_r (by omega)
  unfold mr_Z
  rw [e 0 (by omega), e 16 (by omega), e 17 (by omega), e 18 (by omega), e 19 (by omega), e 21 (by omega), e 22 (by omega)]
  exact Z
theorem mr_Z.tell {w : dq_W} (Z : mr_Z w) {b : Nat} {c sp st h : Int32} (hs : b = 0 → st = 0) : mr_Z (ax_tell b c sp st h w) := by
  have e : ∀ a, (a = 0 ∨ a = 19 ∨ a = 21 ∨ a = 22) → ax_tell b c sp st h w a = w a := fun a ha => by
    unfold ax_tell
    rw [dq_set_r (by omega), dq_set_r (by omega), dq_set_r (by omega), dq_set_r (by omega), dq_set_r (by omega)]
  unfold mr_Z
  rw [e 0 (by omega), e 19 (by omega), e 21 (by omega), e 22 (by omega)]
  refine ⟨Z.1, fun k hk => ⟨(Z.2.1 k hk).1, (Z.2.1 k hk).2.1, (Z.2.1 k hk).2.2.1, ?_⟩, ?_⟩
  · by_cases g : k = b
    · have l : ax_tell b c sp st h w 18 k = h := by unfold ax_tell; rw [g]; exact dq_set_eq
      have r : ax_tell b c sp st h w 17 k = h := by unfold ax_tell; rw [g, dq_set_q (by decide)]; exact dq_set_eq
      rw [l, r]
    · have l : ax_tell b c sp st h w 18 k = w 18 k := by
        unfold ax_tell
        rw [dq_set_ne (Or.inr g), dq_set_q (by decide), dq_set_q (by decide), dq_set_q (by decide), dq_set_q (by decide)]
      have r : ax_tell b c sp st h w 17 k = w 17 k := by
        unfold ax_tell
        rw [dq_set_q (by decide), dq_set_ne (Or.inr g), dq_set_q (by decide), dq_set_q (by decide), dq_set_q (by decide)]
      rw [l, r]; exact (Z.2.1 k hk).2.2.2
  · unfold ax_tell
    rw [dq_set_q (by decide), dq_set_q (by decide)]
    by_cases g : b = 0
    · rw [g, dq_set_eq]; exact hs g
    · rw [dq_set_ne (Or.inr (Ne.symm g)), dq_set_q (by decide), dq_set_q (by decide)]; exact Z.2.2
theorem dq_SG.put {w : dq_W} (S : dq_SG w) {q k : Nat} {v : Int32} (hq : q ≠ 2) : dq_SG (dq_set w q k v) := fun c hc => by
  rw [dq_set_q (Ne.symm hq)]; exact S c hc
theorem dq_SG.dig {w : dq_W} (S : dq_SG w) {k : Nat} {v : Int32} (hv : dq_sgn v) : dq_SG (dq_set w 2 k v) := fun c hc => by
  by_cases e : c = k
  · rw [e, dq_set_eq]; exact hv
  · rw [dq_set_ne (Or.inr e)]; exact S c hc
/-- a told world and what the reference has been told -/
def mr_T (w : dq_W) (m : dq_W) : Prop := mr_C w m ∧ mr_Z w ∧ dq_SG w
section DMU
variable {n t l : Nat} {w : dq_W} {s u : dk_S} {K : Int32 → dk_S → Prop} {J : dk_S → Prop}
theorem mx_F_C {e : Int32} (C : mr_C w (s 4)) : mr_C w (mx_F s e 4) := by
  unfold mx_F; rw [dq_st_p]; exact C.out (Or.inr ⟨rfl, by decide⟩)
theorem mr_C.st {a k : Nat} {v : Int32} (C : mr_C w (s 4)) (hk : k < mc_l a) : mr_C (dq_set w (mc_q a) (mc_k a k) v) (dq_st s 4 a k (mc_v a v) 4) := by
  rw [dq_st_p]; exact C.put hk
theorem mr_C.sc {k q j : Nat} {v : Int32} (C : mr_C w (s 4)) (h : (k = 10 ∧ q = 13 ∧ j = 9) ∨ (k = 15 ∧ q = 23 ∧ j = 2) ∨ (k = 18 ∧ q = 26 ∧ j = 2)) : mr_C (dq_set w q j v) (dq_st s 4 60 k v 4) := by
  rw [dq_st_p]; exact C.cnt h
theorem mx_N.st {a k : Nat} {v : Int32} (N : mx_N w (dq_st s 4 a k v) u) (ha : a ≠ 84 ∧ a ≠ 85 ∧ ¬ (a = 60 ∧ (k = 0 ∨ k = 32))) : mx_N w s u := by
  obtain ⟨R, C, h1, f, b, h0, h32⟩ := N
  refine ⟨R, C, h1, dq_st_fr.tr f, fun j => ⟨?_, ?_⟩, ?_, ?_⟩
  · rw [(b j).1, mx_st_q (by omega)]
  · rw [(b j).2, mx_st_q (by omega)]
  · rw [h0, mx_st_q (by omega)]
  · rw [h32, mx_st_q (by omega)]
theorem km_tellsT (T : mr_T w (s 4)) (k : ∀ u, mx_N w s u → J u) : wf_X9_tells s J := km_tells T.1 T.2.1 T.2.2 k
theorem mr_T.F {e : Int32} (T : mr_T w (s 4)) : mr_T w (mx_F s e 4) := ⟨mx_F_C T.1, T.2⟩
theorem km_isCell {c : Int32} (k1 : dq_sgn c → K 1 s) (k0 : ¬ dq_sgn c → K 0 s) : wf_X9_isCell c s K := by
  unfold wf_X9_isCell wf_X9_isCell_48
  refine br_c (fun h => k1 (Or.inl h)) fun h1 => br_c (fun h => k1 (Or.inr (Or.inl h))) fun h2 => br_c (fun h => k1 (Or.inr (Or.inr (Or.inl h)))) fun h3 => br_c (fun h => k1 (Or.inr (Or.inr (Or.inr (Or.inl h))))) fun h4 => br_c (fun h => k1 (Or.inr (Or.inr (Or.inr (Or.inr (Or.inl h)))))) fun h5 => br_c (fun h => k1 (Or.inr (Or.inr (Or.inr (Or.inr (Or.inr (Or.inl h))))))) fun h6 => br_c (fun h => k1 (Or.inr (Or.inr (Or.inr (Or.inr (Or.inr (Or.inr (Or.inl h)))))))) fun h7 => ⟨fun h => k0 fun g => ?_, fun h => k1 (Or.inr (Or.inr (Or.inr (Or.inr (Or.inr (Or.inr (Or.inr h)))))))⟩
  rcases g with g | g | g | g | g | g | g | g
  · exact h1 g
  · exact h2 g
  · exact h3 g
  · exact h4 g
  · exact h5 g
  · exact h6 g
  · exact h7 g
  · exact h g
theorem km_isEffect {c : Int32} (k1 : dq_eff c → K 1 s) (k0 : ¬ dq_eff c → K 0 s) : wf_X9_isEffect c s K := by
  unfold wf_X9_isEffect wf_X9_isEffect_30
  refine br_c (fun h => k1 (Or.inl h)) fun h1 => br_c (fun h => k1 (Or.inr (Or.inl h))) fun h2 => br_c (fun h => k1 (Or.inr (Or.inr (Or.inl h)))) fun h3 => br_c (fun h => k1 (Or.inr (Or.inr (Or.inr (Or.inl h))))) fun h4 => ⟨fun h => k0 fun g => ?_, fun h => k1 (Or.inr (Or.inr (Or.inr (Or.inr h))))⟩
  rcases g with g | g | g | g | g
  · exact h1 g
  · exact h2 g
  · exact h3 g
  · exact h4 g
  · exact h g
theorem km_dig {x y c : Int32} (T : mr_T w (s 4)) (k1 : ¬ mr_pl x y → K 0 (mx_F s 1)) (k2 : mr_pl x y → ¬ dq_sgn c → K 0 (mx_F s 2)) (k3 : mr_pl x y → dq_sgn c → s 4 60 1 = 111 → K 0 (mx_F s 3))
    (kk : ∀ a b, a < 12 → b < 12 → x = nI a → y = nI b → dq_sgn c → ¬ s 4 60 1 = 111 → ∀ u, mx_N (dq_set w 2 (12 * a + b) c) (mx_F s 0) u → K (w 2 (12 * a + b)) u) : wf_X9_dig x y c s K := by
  unfold wf_X9_dig
  have fault : ∀ e : Int32, ¬ e = 0 → K 0 (mx_F s e) → wf_X9_dig_36 K x y c e s := fun e he h => by
    unfold wf_X9_dig_36
    exact km_goesN he (dq_0' h)
  refine km_isPlace (fun h => dq_1' (km_isCell (fun hc => dq_1' (km_isOn (fun on => dq_1 (fault 3 (by decide) (k3 h hc on))) (fun g => dq_0 ?_))) (fun hc => dq_0' (fault 2 (by decide) (k2 h hc))))) (fun h => dq_0' (fault 1 (by decide) (k1 h)))
  obtain ⟨a, b, ha, hb, ex, ey⟩ := mr_pl_n h
  have k4 := kk a b ha hb ex ey hc g
  subst ex
  subst ey
  unfold wf_X9_dig_36
  have hp : 12 * a + b < 144 := by omega
  have T1 : mr_T w (mx_F s 0 4) := T.F
  have e61 : mx_F s 0 4 61 (nI (mt_T (12 * a + b))).toNatClampNeg = w 2 (12 * a + b) := by
    rw [nI_clamp (by have := mt_T_lt hp; omega), T1.1.c61 (mt_T_lt hp), mt_T_T hp]
  refine km_goes0 (dq_1' (km_at ha hb ⟨vp_in_nI (mt_T_lt hp) (by decide), nm_r e61 (km_at ha hb ⟨vp_in_nI (mt_T_lt hp) (by decide), mx_putI (by have := mt_T_lt hp; omega) ?_⟩)⟩))
  rw [dq_sgn_vp hc]
  have C2 : mr_C (dq_set w 2 (12 * a + b) c) (dq_st (mx_F s 0) 4 61 (mt_T (12 * a + b)) c 4) := by
    have := T1.1.st (a := 61) (k := mt_T (12 * a + b)) (v := c) (mt_T_lt hp)
    have e1 : mc_k 61 (mt_T (12 * a + b)) = 12 * a + b := (if_pos rfl).trans (mt_T_T hp)
    rw [e1] at this
    exact this
  exact km_tells C2 (T.2.1.put (by decide)) (T.2.2.dig hc) fun u N => ⟨dq_sgn_nar (T.2.2 _ hp), k4 u (N.st (by omega))⟩
theorem mr_in_01 {a : Int32} {lo hi : Int32} {L N : Nat} (e : hi.toInt = N) (e0 : lo.toInt = L) (h : mr_in a lo hi) : ∃ j, L ≤ j ∧ j ≤ N ∧ a = nI j := by
  have g0 : ¬ a < 0 := fun q => h.1 (by
    rw [Int32.lt_iff_toInt_lt] at q ⊢
    have : (0 : Int32).toInt = 0 := rfl
    omega)
  obtain ⟨j, hj, ej⟩ := mr_in_n (N := N) e ⟨g0, h.2⟩
  refine ⟨j, ?_, hj, ej⟩
  have := h.1
  rw [ej, Int32.lt_iff_toInt_lt, e0, nI_toInt (by have := Int32.toInt_lt hi; omega)] at this
  omega
theorem vp_bool {v : Int32} (h : v = 0 ∨ v = 1) : vp_nar .boolean v = v := by
  rcases h with rfl | rfl <;> decide
theorem km_setKind {x y z : Int32} (T : mr_T w (s 4)) (hz : z = 0 ∨ z = 1) (k1 : ¬ (mr_in x 0 7 ∧ mr_in y 0 9) → K 0 (mx_F s 1)) (k2 : mr_in x 0 7 → mr_in y 0 9 → s 4 60 1 = 111 → K 0 (mx_F s 2))
    (kk : ∀ d, d < 8 → x = nI d → mr_in y 0 9 → ¬ s 4 60 1 = 111 → ∀ u, mx_N (ax_kind d y z w) (mx_F s 0) u → K (w 8 d) u) : wf_X9_setKind x y z s K := by
  unfold wf_X9_setKind
  have fault : ∀ e : Int32, ¬ e = 0 → K 0 (mx_F s e) → wf_X9_setKind_37 K x y z e s := fun e he h => by
    unfold wf_X9_setKind_37
    exact km_goesN he (dq_0' h)
  refine km_in (fun hx => dq_1 (km_in (fun hy => dq_1' (km_isOn (fun on => dq_1 (fault 2 (by decide) (k2 hx hy on))) (fun g => dq_0 ?_))) (fun h => dq_0' (fault 1 (by decide) (k1 fun q => h q.2))))) (fun h => dq_0 (fault 1 (by decide) (k1 fun q => h q.1)))
  obtain ⟨d, hd, ex⟩ := mr_in_n (N := 7) rfl hx
  have hd8 : d < 8 := by omega
  have k4 := kk d hd8 ex hy g
  subst ex
  unfold wf_X9_setKind_37
  have T1 : mr_T w (mx_F s 0 4) := T.F
  have vi := vp_in_nI hd8 (N := 8) (by decide)
  have e62 : mx_F s 0 4 62 (nI d).toNatClampNeg = w 8 d := by
    rw [nI_clamp (by omega)]; exact T1.1.1 62 d hd8
  refine km_goes0 (dq_1' ⟨vi, nm_r e62 ⟨vi, mx_putI (by omega) ⟨vi, mx_putI (by omega) ?_⟩⟩⟩)
  rw [vp_bool hz]
  have C2 : mr_C (dq_set w 8 d y) (dq_st (mx_F s 0) 4 62 d y 4) := T1.1.st (a := 62) (k := d) (v := y) hd8
  have C3 : mr_C (ax_kind d y z w) (dq_st (dq_st (mx_F s 0) 4 62 d y) 4 63 d z 4) := C2.st (a := 63) (k := d) (v := z) hd8
  exact km_tells C3 ((T.2.1.put (by decide)).put (by decide)) ((T.2.2.put (by decide)).put (by decide)) fun u N => k4 u ((N.st (by omega)).st (by omega))
theorem km_setEffect {x y z v : Int32} (T : mr_T w (s 4)) (hE : dq_EF w) (k1 : ¬ (mr_in x 3 5 ∧ dq_eff y ∧ mr_in z 1 20 ∧ mr_in v 0 3) → K 0 (mx_F s 1)) (k2 : mr_in x 3 5 ∧ dq_eff y ∧ mr_in z 1 20 ∧ mr_in v 0 3 → s 4 60 1 = 111 → K 0 (mx_F s 2))
    (kk : ∀ d, 3 ≤ d → d ≤ 5 → x = nI d → dq_eff y ∧ mr_in z 1 20 ∧ mr_in v 0 3 → ¬ s 4 60 1 = 111 → ∀ u, mx_N (ax_effect d y z v w) (mx_F s 0) u → K (w 10 d) u) : wf_X9_setEffect x y z v s K := by
  unfold wf_X9_setEffect
  have fault : ∀ e : Int32, ¬ e = 0 → K 0 (mx_F s e) → wf_X9_setEffect_63 K x y z v e s := fun e he h => by
    unfold wf_X9_setEffect_63
    exact km_goesN he (dq_0' h)
  have f0 : ¬ (mr_in x 3 5 ∧ dq_eff y ∧ mr_in z 1 20 ∧ mr_in v 0 3) → wf_X9_setEffect_39 K x y z v 0 s := fun h => by
    unfold wf_X9_setEffect_39
    exact dq_0' (fault 1 (by decide) (k1 h))
  unfold wf_X9_isPotion
  refine km_in (fun hx => ⟨dq_nz1, dq_1 (km_isEffect (fun hy => dq_1 (km_in (fun hz => dq_1 (km_in (fun hv => dq_1 ?_) (fun h => dq_0 (f0 fun q => h q.2.2.2)))) (fun h => dq_0 (f0 fun q => h q.2.2.1)))) (fun h => dq_0 (f0 fun q => h q.2.1)))⟩) (fun h => ⟨dq_nz0, dq_0 (f0 fun q => h q.1)⟩)
  have hyp := And.intro hx (And.intro hy (And.intro hz hv))
  unfold wf_X9_setEffect_39
  refine dq_1' (km_isOn (fun on => dq_1 (fault 2 (by decide) (k2 hyp on))) (fun g => dq_0 ?_))
  obtain ⟨d, h3, h5, ex⟩ := mr_in_01 (L := 3) (N := 5) rfl rfl hx
  have hd8 : d < 8 := by omega
  have k4 := kk d h3 h5 ex hyp.2 g
  subst ex
  unfold wf_X9_setEffect_63
  have T1 : mr_T w (mx_F s 0 4) := T.F
  have vi := vp_in_nI hd8 (N := 8) (by decide)
  have e64 : mx_F s 0 4 64 (nI d).toNatClampNeg = w 10 d := by
    rw [nI_clamp (by omega)]; exact T1.1.1 64 d hd8
  refine km_goes0 (dq_1' ⟨vi, nm_r e64 ⟨vi, mx_putI (by omega) ⟨vi, mx_putI (by omega) ⟨vi, mx_putI (by omega) ?_⟩⟩⟩⟩)
  rw [dq_eff_vp hy]
  have C2 := T1.1.st (a := 64) (k := d) (v := y) hd8
  have C3 := C2.st (a := 65) (k := d) (v := z) hd8
  have C4 : mr_C (ax_effect d y z v w) (dq_st (dq_st (dq_st (mx_F s 0) 4 64 d y) 4 65 d z) 4 66 d v 4) := C3.st (a := 66) (k := d) (v := v) hd8
  exact km_tells C4 (((T.2.1.put (by decide)).put (by decide)).put (by decide)) (((T.2.2.put (by decide)).put (by decide)).put (by decide)) fun u N => ⟨dq_eff_n (hE d hd8), k4 u (((N.st (by omega)).st (by omega)).st (by omega))⟩
theorem ax_tell_SG (S : dq_SG w) {b : Nat} {c sp st h : Int32} : dq_SG (ax_tell b c sp st h w) := ((((S.put (by decide)).put (by decide)).put (by decide)).put (by decide)).put (by decide)
theorem mt_V_ab {a b : Nat} (ha : a < 12) (hb : b < 12) : mt_V (nI (12 * a + b)) = nI (mt_T (12 * a + b)) := mt_V_c (by omega)
theorem km_setHero {x y v h : Int32} (T : mr_T w (s 4)) (k1 : ¬ mr_pl x y → K 0 (mx_F s 1)) (k2 : mr_pl x y → ¬ (mr_in v 1 24 ∧ mr_in h 1 99) → K 0 (mx_F s 2)) (k3 : mr_pl x y → mr_in v 1 24 → mr_in h 1 99 → s 4 60 1 = 111 → K 0 (mx_F s 3))
    (kk : ∀ a b, a < 12 → b < 12 → x = nI a → y = nI b → mr_in v 1 24 → mr_in h 1 99 → ¬ s 4 60 1 = 111 → ∀ u, mx_N (ax_tell 0 (nI (12 * a + b)) v 0 h w) (mx_F s 0) u → K (w 18 0) u) : wf_X9_setHero x y v h s K := by
  unfold wf_X9_setHero
  have fault : ∀ e : Int32, ¬ e = 0 → K 0 (mx_F s e) → wf_X9_setHero_50 K x y v h e s := fun e he q => by
    unfold wf_X9_setHero_50
    exact km_goesN he (dq_0' q)
  refine km_isPlace (fun p => dq_1' (km_in (fun hv => dq_1 (km_in (fun hh => dq_1' (km_isOn (fun on => dq_1 (fault 3 (by decide) (k3 p hv hh on))) (fun g => dq_0 ?_))) (fun q => dq_0' (fault 2 (by decide) (k2 p fun r => q r.2))))) (fun q => dq_0 (fault 2 (by decide) (k2 p fun r => q r.1))))) (fun q => dq_0' (fault 1 (by decide) (k1 q)))
  obtain ⟨a, b, ha, hb, ex, ey⟩ := mr_pl_n p
  have k4 := kk a b ha hb ex ey hv hh g
  subst ex
  subst ey
  unfold wf_X9_setHero_50
  have T1 : mr_T w (mx_F s 0 4) := T.F
  have v0 : vp_in 0 8 := vp_in_nI (n := 0) (by decide) (by decide)
  have e70 : mx_F s 0 4 70 (0 : Int32).toNatClampNeg = w 18 0 := by
    rw [(T.2.1.2.1 0 (by decide)).2.2.2]
    exact T1.1.1 70 0 (by decide)
  refine km_goes0 (dq_1' ⟨v0, nm_r e70 (km_at ha hb ⟨v0, mx_putI (k := 0) (by decide) ⟨v0, mx_putI (k := 0) (by decide) ⟨v0, mx_putI (k := 0) (by decide) ?_⟩⟩⟩)⟩)
  rw [← mt_V_ab ha hb]
  have C2 := T1.1.st (a := 67) (k := 0) (v := nI (12 * a + b)) (by decide)
  have C3 := C2.st (a := 68) (k := 0) (v := v) (by decide)
  have C4 := (C3.st (a := 70) (k := 0) (v := h) (by decide)).w18 (q := 18) (k := 0) (v := h) rfl
  have ew : dq_set (dq_set (dq_set (dq_set w 14 0 (nI (12 * a + b))) 15 0 v) 17 0 h) 18 0 h = ax_tell 0 (nI (12 * a + b)) v 0 h w := by
    unfold ax_tell
    have e0 : dq_set (dq_set (dq_set w 14 0 (nI (12 * a + b))) 15 0 v) 16 0 0 = dq_set (dq_set w 14 0 (nI (12 * a + b))) 15 0 v := by
      have : dq_set (dq_set w 14 0 (nI (12 * a + b))) 15 0 v 16 0 = 0 := by rw [dq_set_q (by decide), dq_set_q (by decide)]; exact T.2.1.2.2
      have h2 := dq_set_same (w := dq_set (dq_set w 14 0 (nI (12 * a + b))) 15 0 v) (q := 16) (k := 0)
      rw [this] at h2
      exact h2
    rw [e0]
  have C5 : mr_C (ax_tell 0 (nI (12 * a + b)) v 0 h w) (dq_st (dq_st (dq_st (mx_F s 0) 4 67 0 (mt_V (nI (12 * a + b)))) 4 68 0 v) 4 70 0 h 4) := by
    rw [← ew]; exact C4
  exact km_tells C5 (T.2.1.tell (fun _ => rfl)) (ax_tell_SG T.2.2) fun u N => k4 u (((N.st (by omega)).st (by omega)).st (by omega))
theorem km_addLamp {x y r : Int32} (T : mr_T w (s 4)) (hl : w 26 2 = nI l) (l4 : l ≤ 4) (k1 : ¬ mr_pl x y → K 0 (mx_F s 1)) (k2 : mr_pl x y → ¬ mr_in r 0 9 → K 0 (mx_F s 2)) (k3 : mr_pl x y → mr_in r 0 9 → (s 4 60 1 = 111 ∨ l = 4) → K 0 (mx_F s 3))
    (kk : ∀ a b, a < 12 → b < 12 → x = nI a → y = nI b → mr_in r 0 9 → ¬ s 4 60 1 = 111 → l < 4 → ∀ u, mx_N (ax_lamp l (nI (12 * a + b)) r w) (mx_F s 0) u → K (nI l + 1) u) : wf_X9_addLamp x y r s K := by
  unfold wf_X9_addLamp
  have fault : ∀ e : Int32, ¬ e = 0 → K 0 (mx_F s e) → wf_X9_addLamp_47 K x y r e s := fun e he q => by
    unfold wf_X9_addLamp_47
    exact km_goesN he (dq_0' q)
  have el : s 4 60 18 = nI l := T.1.2.2.2.trans hl
  have l8 : (8 : Nat) = 8 := rfl
  refine km_isPlace (fun p => dq_1' (km_in (fun hr => dq_1' (km_isOn (fun on => dq_1' (fault 3 (by decide) (k3 p hr (Or.inl on)))) (fun g => dq_0' ?_))) (fun q => dq_0' (fault 2 (by decide) (k2 p q))))) (fun q => dq_0' (fault 1 (by decide) (k1 q)))
  rw [el]
  refine ⟨fun hn => ?_, fun he => fault 3 (by decide) (k3 p hr (Or.inr ((nI_eq (b := 4) (by omega) (by decide)).1 he)))⟩
  have l3 : l < 4 := Nat.lt_of_le_of_ne l4 fun e => hn (by rw [e]; rfl)
  obtain ⟨a, b, ha, hb, ex, ey⟩ := mr_pl_n p
  have k4 := kk a b ha hb ex ey hr g l3
  subst ex
  subst ey
  unfold wf_X9_addLamp_47
  have T1 : mr_T w (mx_F s 0 4) := T.F
  have vi := vp_in_nI l3 (N := 4) (by decide)
  refine km_goes0 (dq_1' (km_at ha hb ?_))
  have e1 : mx_F s 0 4 60 18 = nI l := (mx_F_1 (by decide)).trans el
  show vp_in (mx_F s 0 4 60 18) 4 ∧ _
  rw [show dq_st s 4 60 0 0 = mx_F s 0 from rfl, e1]
  refine ⟨vi, mx_putI (by omega) ?_⟩
  have e2 : dq_st (mx_F s 0) 4 73 l (nI (mt_T (12 * a + b))) 4 60 18 = nI l := (mx_st_q (Or.inl (by decide))).trans e1
  rw [e2]
  refine ⟨vi, mx_putI (by omega) (mx_put ?_)⟩
  have e3 : dq_st (dq_st (mx_F s 0) 4 73 l (nI (mt_T (12 * a + b)))) 4 74 l r 4 60 18 = nI l := (mx_st_q (Or.inl (by decide))).trans e2
  rw [e3, ← mt_V_ab ha hb]
  have C2 := T1.1.st (a := 73) (k := l) (v := nI (12 * a + b)) l3
  have C3 := C2.st (a := 74) (k := l) (v := r) l3
  have C4 : mr_C (ax_lamp l (nI (12 * a + b)) r w) (dq_st (dq_st (dq_st (mx_F s 0) 4 73 l (mt_V (nI (12 * a + b)))) 4 74 l r) 4 60 18 (nI l + 1) 4) := C3.sc (Or.inr (Or.inr ⟨rfl, rfl, rfl⟩))
  refine km_tells C4 (((T.2.1.put (by decide)).put (by decide)).put (by decide)) (((T.2.2.put (by decide)).put (by decide)).put (by decide)) fun u N => ?_
  have e4 : u 4 60 18 = nI l + 1 := N.2.1.2.2.2.trans dq_set_eq
  rw [e4]
  exact k4 u (((N.st (by omega)).st (by omega)).st (by omega))
theorem km_addBeast {x y v st h : Int32} (T : mr_T w (s 4)) (hn : w 13 9 = nI n) (h1 : 1 ≤ n) (n8 : n ≤ 8) (k1 : ¬ mr_pl x y → K 0 (mx_F s 1)) (k2 : mr_pl x y → ¬ (mr_in v 1 24 ∧ mr_in st 0 9 ∧ mr_in h 1 30) → K 0 (mx_F s 2)) (k3 : mr_pl x y → (mr_in v 1 24 ∧ mr_in st 0 9 ∧ mr_in h 1 30) → (s 4 60 1 = 111 ∨ n = 8) → K 0 (mx_F s 3))
    (kk : ∀ a b, a < 12 → b < 12 → x = nI a → y = nI b → (mr_in v 1 24 ∧ mr_in st 0 9 ∧ mr_in h 1 30) → ¬ s 4 60 1 = 111 → n < 8 → ∀ u, mx_N (ax_beast n (nI (12 * a + b)) v st h w) (mx_F s 0) u → K (nI n) u) : wf_X9_addBeast x y v st h s K := by
  unfold wf_X9_addBeast
  have en : s 4 60 10 = nI n := T.1.2.1.trans hn
  have fault : ∀ e : Int32, ¬ e = 0 → K 0 (mx_F s e) → wf_X9_addBeast_82 K x y v st h e s := fun e he q => by
    unfold wf_X9_addBeast_82
    exact km_goesN he (dq_0' q)
  have bad : ¬ (mr_in v 1 24 ∧ mr_in st 0 9 ∧ mr_in h 1 30) → wf_X9_addBeast_37 K x y v st h 0 s := fun hb => by
    unfold wf_X9_addBeast_37
    exact km_isPlace (fun p => dq_1' (dq_0' (fault 2 (by decide) (k2 p hb)))) (fun q => dq_0' (fault 1 (by decide) (k1 q)))
  refine km_in (fun hv => dq_1 (km_in (fun hs => dq_1 (km_in (fun hh => dq_1 ?_) (fun q => dq_0 (bad fun r => q r.2.2)))) (fun q => dq_0 (bad fun r => q r.2.1)))) (fun q => dq_0 (bad fun r => q r.1))
  have hyp := And.intro hv (And.intro hs hh)
  unfold wf_X9_addBeast_37
  refine km_isPlace (fun p => dq_1' (dq_1' (km_isOn (fun on => dq_1' (fault 3 (by decide) (k3 p hyp (Or.inl on)))) (fun g => dq_0' ?_)))) (fun q => dq_0' (fault 1 (by decide) (k1 q)))
  rw [en]
  refine ⟨fun hne => ?_, fun he => fault 3 (by decide) (k3 p hyp (Or.inr ((nI_eq (b := 8) (by omega) (by decide)).1 he)))⟩
  have n7 : n < 8 := Nat.lt_of_le_of_ne n8 fun e => hne (by rw [e]; rfl)
  obtain ⟨a, b, ha, hb, ex, ey⟩ := mr_pl_n p
  have k4 := kk a b ha hb ex ey hyp g n7
  subst ex
  subst ey
  unfold wf_X9_addBeast_82
  have T1 : mr_T w (mx_F s 0 4) := T.F
  have vi := vp_in_nI n7 (N := 8) (by decide)
  refine km_goes0 (dq_1' (km_at ha hb ?_))
  have e1 : mx_F s 0 4 60 10 = nI n := (mx_F_1 (by decide)).trans en
  rw [show dq_st s 4 60 0 0 = mx_F s 0 from rfl, e1]
  refine ⟨vi, mx_putI (by omega) ?_⟩
  have e2 : dq_st (mx_F s 0) 4 67 n (nI (mt_T (12 * a + b))) 4 60 10 = nI n := (mx_st_q (Or.inl (by decide))).trans e1
  rw [e2]
  refine ⟨vi, mx_putI (by omega) ?_⟩
  have e3 : dq_st (dq_st (mx_F s 0) 4 67 n (nI (mt_T (12 * a + b)))) 4 68 n v 4 60 10 = nI n := (mx_st_q (Or.inl (by decide))).trans e2
  rw [e3]
  refine ⟨vi, mx_putI (by omega) ?_⟩
  have e4 : dq_st (dq_st (dq_st (mx_F s 0) 4 67 n (nI (mt_T (12 * a + b)))) 4 68 n v) 4 69 n st 4 60 10 = nI n := (mx_st_q (Or.inl (by decide))).trans e3
  rw [e4]
  refine ⟨vi, mx_putI (by omega) (mx_put ?_)⟩
  have e5 : dq_st (dq_st (dq_st (dq_st (mx_F s 0) 4 67 n (nI (mt_T (12 * a + b)))) 4 68 n v) 4 69 n st) 4 70 n h 4 60 10 = nI n := (mx_st_q (Or.inl (by decide))).trans e4
  rw [e5, ← mt_V_ab ha hb]
  have C2 := T1.1.st (a := 67) (k := n) (v := nI (12 * a + b)) n7
  have C3 := C2.st (a := 68) (k := n) (v := v) n7
  have C4 := C3.st (a := 69) (k := n) (v := st) n7
  have C5 := (C4.st (a := 70) (k := n) (v := h) n7).w18 (q := 18) (k := n) (v := h) rfl
  have C6 : mr_C (ax_beast n (nI (12 * a + b)) v st h w) (dq_st (dq_st (dq_st (dq_st (dq_st (mx_F s 0) 4 67 n (mt_V (nI (12 * a + b)))) 4 68 n v) 4 69 n st) 4 70 n h) 4 60 10 (nI n + 1) 4) := mr_C.sc (s := dq_st (dq_st (dq_st (dq_st (mx_F s 0) 4 67 n (mt_V (nI (12 * a + b)))) 4 68 n v) 4 69 n st) 4 70 n h) C5 (Or.inl ⟨rfl, rfl, rfl⟩)
  refine km_tells C6 ((T.2.1.tell (fun q => by omega)).put (by decide)) ((ax_tell_SG T.2.2).put (by decide)) fun u N => ?_
  have e6 : u 4 60 10 - 1 = nI n := by
    rw [N.2.1.2.1.trans dq_set_eq, nI_1]; exact nI_pred n
  rw [e6]
  exact k4 u (((((N.st (by omega)).st (by omega)).st (by omega)).st (by omega)).st (by omega))
theorem km_addThing {x y z b : Int32} (T : mr_T w (s 4)) (ht : w 23 2 = nI t) (t24 : t ≤ 24)
    (k1 : mr_in x 0 7 → mr_pl y z → (b = -1 ∨ mr_th t b) → ¬ (b = -1 ∨ ∃ i, i < t ∧ b = nI i ∧ w 24 i = 6) → K 0 (mx_F s 3)) (k2 : ¬ mr_in x 0 7 → K 0 (mx_F s 1)) (k3 : mr_in x 0 7 → ¬ (mr_pl y z ∧ (b = -1 ∨ mr_th t b)) → K 0 (mx_F s 2))
    (k4 : mr_in x 0 7 → mr_pl y z → (b = -1 ∨ ∃ i, i < t ∧ b = nI i ∧ w 24 i = 6) → (s 4 60 1 = 111 ∨ t = 24) → K 0 (mx_F s 4))
    (kk : ∀ d c e v, d < 8 → c < 12 → e < 12 → x = nI d → y = nI c → z = nI e → ((b = -1 ∧ v = nI (12 * c + e)) ∨ ∃ i, i < t ∧ b = nI i ∧ w 24 i = 6 ∧ v = (-3) - nI i) → ¬ s 4 60 1 = 111 → t < 24 → ∀ u, mx_N (ax_thing t x v w) (mx_F s 0) u → K (nI t) u) : wf_X9_addThing x y z b s K := by
  unfold wf_X9_addThing
  have et : s 4 60 15 = nI t := T.1.2.2.1.trans ht
  have hisT : ∀ (a : Int32) (K' : Int32 → dk_S → Prop), (∀ i, i < t → a = nI i → K' 1 s) → (¬ mr_th t a → K' 0 s) → wf_X9_isThing a s K' := fun a K' g1 g0 => by
    unfold wf_X9_isThing
    rw [et]
    exact km_in (fun h => ⟨dq_nz1, by obtain ⟨i, hi, e⟩ := (mr_th_in t24).1 h; exact g1 i hi e⟩) (fun h => ⟨dq_nz0, g0 fun q => h ((mr_th_in t24).2 q)⟩)
  have fault : ∀ e : Int32, ¬ e = 0 → K 0 (mx_F s e) → wf_X9_addThing_96 K x y z b e s := fun e he q => by
    unfold wf_X9_addThing_96
    exact km_goesN he (dq_0' q)
  have bad : ¬ (mr_pl y z ∧ (b = -1 ∨ mr_th t b)) → wf_X9_addThing_28 K x y z b 0 s := fun hb => by
    unfold wf_X9_addThing_28
    exact km_in (fun p => dq_1' (dq_0' (fault 2 (by decide) (k3 p hb)))) (fun q => dq_0' (fault 1 (by decide) (k2 q)))
  have run : mr_in x 0 7 → mr_pl y z → (b = -1 ∨ ∃ i, i < t ∧ b = nI i ∧ w 24 i = 6) → wf_X9_addThing_75 K x y z b s := fun hx p hb => by
    unfold wf_X9_addThing_75
    refine km_isOn (fun on => dq_1' (fault 4 (by decide) (k4 hx p hb (Or.inl on)))) (fun g => dq_0' ?_)
    rw [et]
    refine ⟨fun hne => ?_, fun he => fault 4 (by decide) (k4 hx p hb (Or.inr ((nI_eq (b := 24) (by omega) (by decide)).1 he)))⟩
    have t3 : t < 24 := Nat.lt_of_le_of_ne t24 fun e => hne (by rw [e]; rfl)
    obtain ⟨c, e, hc, he, ey, ez⟩ := mr_pl_n p
    obtain ⟨d, hd, ex⟩ := mr_in_n (N := 7) rfl hx
    have vi := vp_in_nI t3 (N := 24) (by decide)
    have T1 : mr_T w (mx_F s 0 4) := T.F
    have e1 : mx_F s 0 4 60 15 = nI t := (mx_F_1 (by decide)).trans et
    have e2 : dq_st (mx_F s 0) 4 71 t x 4 60 15 = nI t := (mx_st_q (Or.inl (by decide))).trans e1
    have fin : ∀ v, ((b = -1 ∧ v = nI (12 * c + e)) ∨ ∃ i, i < t ∧ b = nI i ∧ w 24 i = 6 ∧ v = (-3) - nI i) → wf_X9_addThing_146 K (mt_V v) (nI t) (dq_st (mx_F s 0) 4 71 t x) := fun v hv => by
      unfold wf_X9_addThing_146
      refine ⟨vi, mx_putI (by omega) (mx_put ?_)⟩
      have e3 : dq_st (dq_st (mx_F s 0) 4 71 t x) 4 72 t (mt_V v) 4 60 15 = nI t := (mx_st_q (Or.inl (by decide))).trans e2
      rw [e3]
      have C2 := T1.1.st (a := 71) (k := t) (v := x) t3
      have C3 := C2.st (a := 72) (k := t) (v := v) t3
      have C4 : mr_C (ax_thing t x v w) (dq_st (dq_st (dq_st (mx_F s 0) 4 71 t x) 4 72 t (mt_V v)) 4 60 15 (nI t + 1) 4) := C3.sc (Or.inr (Or.inl ⟨rfl, rfl, rfl⟩))
      refine km_tells C4 (((T.2.1.put (by decide)).put (by decide)).put (by decide)) (((T.2.2.put (by decide)).put (by decide)).put (by decide)) fun u N => ?_
      have e6 : u 4 60 15 - 1 = nI t := by
        rw [N.2.1.2.2.1.trans dq_set_eq, nI_1]; exact nI_pred t
      rw [e6]
      exact kk d c e v (by omega) hc he ex ey ez hv g t3 u (((N.st (by omega)).st (by omega)).st (by omega))
    unfold wf_X9_addThing_96
    refine km_goes0 (dq_1' ?_)
    rw [show dq_st s 4 60 0 0 = mx_F s 0 from rfl, e1]
    refine ⟨vi, mx_putI (by omega) ?_⟩
    rw [e2]
    refine ⟨fun hb1 => ?_, fun hb1 => ?_⟩
    · rcases hb with hb | ⟨i, hi, ei, e6⟩
      · exact absurd hb hb1
      · have := fin ((-3) - nI i) (Or.inr ⟨i, hi, ei, e6, rfl⟩)
        rw [mt_V_b (by omega)] at this
        rw [ei]; exact this
    · have := fin (nI (12 * c + e)) (Or.inl ⟨hb1, rfl⟩)
      rw [mt_V_ab hc he] at this
      rw [ey, ez]
      exact km_at hc he this
  have good : mr_pl y z → (b = -1 ∨ mr_th t b) → wf_X9_addThing_28 K x y z b 1 s := fun p hb => by
    unfold wf_X9_addThing_28
    refine km_in (fun hx => dq_1' (dq_1' ?_)) (fun q => dq_0' (fault 1 (by decide) (k2 q)))
    refine ⟨fun e => run hx p (Or.inl e), fun e => ?_⟩
    rcases hb with hb | ⟨i, hi, ei⟩
    · exact absurd hb e
    · have e71 : s 4 71 b.toNatClampNeg = w 24 i := by
        rw [ei, nI_clamp (by omega)]; exact T.1.1 71 i (show i < 24 by omega)
      rw [e71]
      refine ⟨by rw [ei]; exact vp_in_nI (show i < 24 by omega) (by decide), fun e6 => run hx p (Or.inr ⟨i, hi, ei, e6⟩), fun e6 => fault 3 (by decide) (k1 hx p (Or.inr ⟨i, hi, ei⟩) fun q => ?_)⟩
      rcases q with q | ⟨j, hj, ej, f6⟩
      · exact e q
      · have := (nI_eq (by omega) (by omega)).1 (ei.symm.trans ej)
        rw [this] at e6
        exact e6 f6
  refine km_isPlace (fun p => dq_1 ⟨fun e => good p (Or.inl e), fun e => hisT b _ (fun i hi ei => dq_1 (good p (Or.inr ⟨i, hi, ei⟩))) (fun q => dq_0 (bad fun r => ?_))⟩) (fun q => dq_0 (bad fun r => q r.1))
  rcases r.2 with r | r
  · exact e r
  · exact q r
end DMU
