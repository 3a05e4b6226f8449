/-! the reference: go, pack, hurl -/
theorem dq_nb_dir (c : Nat) (_ : c < 144) (a : Nat) (ha : a < 4) (h : dq_nb c a < 144) : ((a = 1 ∨ a = 2) → c < dq_nb c a) ∧ ((a = 0 ∨ a = 3) → dq_nb c a < c) := by
  have h4 : a = 0 ∨ a = 1 ∨ a = 2 ∨ a = 3 := by omega
  unfold dq_nb at h ⊢
  rcases h4 with rfl | rfl | rfl | rfl
  · rw [if_pos rfl] at h ⊢
    by_cases g : c % 12 = 0
    · rw [if_pos g] at h; omega
    · rw [if_neg g]; omega
  · rw [if_neg (by decide), if_pos rfl] at h ⊢
    by_cases g : c + 12 < 144
    · rw [if_pos g]; omega
    · rw [if_neg g] at h; omega
  · rw [if_neg (by decide), if_neg (by decide), if_pos rfl] at h ⊢
    by_cases g : c % 12 = 11
    · rw [if_pos g] at h; omega
    · rw [if_neg g]; omega
  · rw [if_neg (by decide), if_neg (by decide), if_neg (by decide)] at h ⊢
    by_cases g : c < 12
    · rw [if_pos g] at h; omega
    · rw [if_neg g]; omega
section DQXK
variable {n t l : Nat} {w : dq_W} {s : dk_S} {K : Int32 → dk_S → Prop} {J : dk_S → Prop}
theorem dq_la_0 (I : dq_IV n t l w) (h0 : dq_lv w 0) {c : Nat} (hc : dq_pl w 0 ≠ c) : dq_la w c n ≠ 0 := fun e => by
  have := dq_la_in I (c := c) (by rw [e]; decide)
  rw [e] at this
  exact hc this.2.2.2
theorem km_go {x : Int32} (R : mr_R w (s 4)) (I : dq_IV n t l w) (k1 : ¬ mr_in x 0 3 → K 0 (mx_F s 1)) (k2 : mr_in x 0 3 → ¬ s 4 60 1 = 111 → K 0 (mx_F s 2))
    (kk : ∀ a, a < 4 → x = nI a → s 4 60 1 = 111 → dq_JV n t l w ∧ dq_RT n w ∧ ((ax_deed n t 0 a 0 w).1 = -1000000 → ∀ u, mx_P w (mx_F s 0) u → K 98 u) ∧ (¬ (ax_deed n t 0 a 0 w).1 = -1000000 → ∀ u, mx_E t (ax_on n (ax_deed n t 0 a 0 w).2) (mx_F s 0) u → K (ax_deed n t 0 a 0 w).1 u)) : wf_X9_go x s K := by
  unfold wf_X9_go
  have fault : ∀ e : Int32, ¬ e = 0 → K 0 (mx_F s e) → wf_X9_go_26 K x e s := fun e he h => by
    unfold wf_X9_go_26
    exact km_goesN he (dq_0' h)
  refine km_in (fun h => dq_1' (km_isOn (fun on => dq_1' ?_) (fun g => dq_0' (fault 2 (by decide) (k2 h g))))) (fun h => dq_0' (fault 1 (by decide) (k1 h)))
  obtain ⟨a, ha3, e⟩ := mr_in_n (N := 3) rfl h
  have ha : a < 4 := by omega
  obtain ⟨JV, RT, kn, kd⟩ := kk a ha e on
  subst e
  have R1 : mr_R w (mx_F s 0 4) := mx_F_R R
  have hp := (I.pl 0 (by decide)).1
  have on1 : mx_F s 0 4 60 1 = 111 := (mx_F_1 (s := s) (e := 0) (k := 1) (by decide)).trans on
  have e76 : mx_F s 0 4 76 (0 : Int32).toNatClampNeg = nI (mt_T (dq_pl w 0)) := mr_place R1 I.pl (b := 0) (by decide)
  unfold wf_X9_go_26
  refine km_goes0 (dq_1' ⟨dq_v0 (by decide) (by decide), ?_⟩)
  show wf_X9_beside (mx_F s 0 4 76 (0 : Int32).toNatClampNeg) (nI a) (mx_F s 0) _
  rw [e76]
  refine km_beside hp ha ?_
  have hn := dq_nb_le _ hp a ha
  have hne := dq_nb_ne _ hp a ha
  generalize hc : dq_nb (dq_pl w 0) a = c at *
  have hla0 : dq_la w c n ≠ 0 := dq_la_0 I RT.1 (Ne.symm hne)
  have hla9 := dq_la_9 I c
  have dd : ax_deed n t 0 a 0 w = dq_if (1 ≤ dq_la w c n ∧ dq_la w c n < 8) (97, ax_noise c 6 n (ax_strike (dq_la w c n) (dq_if (dq_hs w t 7) 7 3) w)) (dq_if (dq_sg w c = 43 ∨ dq_ky w t (dq_sg w c)) (111, dq_set w 2 c 47) (dq_if (dq_free (dq_sg w c)) (109, dq_set w 14 0 (nI c)) (-1000000, w))) := by
    show ax_go n t a w = _
    unfold ax_go
    rw [hc]
  have DV : dq_DV t 0 a 0 w := Or.inl ⟨rfl, ha⟩
  -- done: z the answer, v the world
  have fin : ∀ (z : Int32) v u, ax_deed n t 0 a 0 w = (z, v) → ¬ z = -1000000 → ¬ z = 98 → narrow .char (.int z) = .int z → mx_P v (mx_F s 0) u → wf_X9_go_159 K z u := by
    intro z v u h1 h2 h3 h4 P
    have e2 : (ax_deed n t 0 a 0 w).2 = v := by rw [h1]
    have e1 : (ax_deed n t 0 a 0 w).1 = z := by rw [h1]
    rw [e1] at kd
    have kd := kd h2
    unfold wf_X9_go_159
    refine br_f h3 ?_
    rw [← e2] at P
    exact km_fin JV RT DV P on1 (fun u2 h => ⟨h4, kd u2 h⟩)
  have mid : ¬ (1 ≤ dq_la w c n ∧ dq_la w c n < 8) → wf_X9_go_59 K (mt_pI c) (-1) (mx_F s 0) := by
    intro g
    rw [dq_if_f g] at dd
    unfold wf_X9_go_59
    refine br_t rfl ?_
    have walk : ¬ (dq_sg w c = 43 ∨ dq_ky w t (dq_sg w c)) → wf_X9_go_140 K (mt_pI c) 98 (mx_F s 0) := by
      intro g2
      rw [dq_if_f g2] at dd
      unfold wf_X9_go_140
      refine km_isFree R1 hn (fun f => dq_1 ⟨dq_v0 (by decide) (by decide), ?_⟩) (fun f => dq_0 ?_)
      · have hc2 := dq_free_in hn f
        rw [dq_if_t f] at dd
        rw [mt_pI_in hc2]
        exact mx_put (a := 76) (k := 0) (fin 109 _ _ dd (by decide) (by decide) (by decide) ((mx_P.rf R1).st (R1.p76 (k := 0) (by decide) hc2) (by unfold mk_g; omega)))
      · rw [dq_if_f f] at dd
        unfold wf_X9_go_159
        have e1 : (ax_deed n t 0 a 0 w).1 = -1000000 := by rw [dd]
        exact br_t rfl ⟨by decide, kn e1 _ (mx_P.rf R1)⟩
    by_cases hc2 : c < 144
    · have lT := mt_T_lt hc2
      have unlck : (dq_sg w c = 43 ∨ dq_ky w t (dq_sg w c)) → wf_X9_go_125 K (mt_pI c) (mx_F s 0) := by
        intro g2
        rw [dq_if_t g2] at dd
        unfold wf_X9_go_125
        rw [mt_pI_in hc2]
        exact ⟨vp_in_nI lT (by decide), mx_putI (by omega) (fin 111 _ _ dd (by decide) (by decide) (by decide) ((mx_P.rf R1).st (R1.p75 hc2) (by unfold mk_g; omega)))⟩
      have e75 : mx_F s 0 4 75 (mt_pI c).toNatClampNeg = dq_sg w c := by rw [mt_pI_in hc2, nI_clamp (by omega), R1.r75' hc2, dq_sg_in hc2]
      have ve : vp_in (mt_pI c) 144 := by rw [mt_pI_in hc2]; exact vp_in_nI lT (by decide)
      refine br_f (by rw [mt_pI_in hc2]; exact dq_m1' (by omega)) ⟨ve, ?_⟩
      rw [e75]
      refine br_c (fun g2 => unlck (Or.inl g2)) (fun g2 => ⟨ve, km_hasKeyFor R1 I (fun g3 => dq_1 (unlck (Or.inr g3))) (fun g3 => dq_0 (walk ?_))⟩)
      rintro (q | q)
      · exact g2 q
      · exact g3 q
    · have e144 : c = 144 := by omega
      rw [mt_pI_out hc2] at walk ⊢
      refine br_t rfl (walk ?_)
      rw [e144, dq_sg_out]
      rintro (q | q)
      · exact absurd q (by decide)
      · exact absurd q.1 (by decide)
  by_cases hc2 : c < 144
  · rw [mt_pI_in hc2] at mid ⊢
    have lT := mt_T_lt hc2
    refine dq_rf (dq_m1' (by omega)) (km_livingAt R1 I JV.2.1.ua hc2 ?_)
    by_cases g : dq_la w c n = 8
    · rw [g]
      exact mid (by omega)
    · have g2 : 1 ≤ dq_la w c n ∧ dq_la w c n < 8 := by omega
      rw [dq_if_t g2] at dd
      rw [dq_n8_of g2.2]
      have hla := dq_la_in I g
      unfold wf_X9_go_59
      have hit : ∀ z, dq_if (dq_hs w t 7) 7 3 = z → wf_X9_strikes (nI (dq_la w c n)) z (mx_F s 0) (fun s22 => wf_X9_go_159 K 97 s22) := by
        intro z hz
        refine km_strikes R1 I g2.2 (fun u P => ?_)
        rw [hla.2.2.2, ← hz] at P
        exact fin 97 _ u dd (by decide) (by decide) (by decide) P
      exact br_f (dq_m1' (by omega)) (km_carries R1 I (fun h => dq_1 (hit 7 (dq_if_t h))) (fun h => dq_0 (hit 3 (dq_if_f h))))
  · have e144 : c = 144 := by omega
    rw [mt_pI_out hc2] at mid ⊢
    refine dq_rt rfl (mid ?_)
    rintro ⟨q1, q2⟩
    exact hc2 (dq_la_in I (by omega)).1
theorem dq_bI_24 : dq_bI 24 = -1 := rfl
theorem km_pack {x y : Int32} (R : mr_R w (s 4)) (I : dq_IV n t l w) (k1 : ¬ (mr_th t x ∧ (y = -1 ∨ mr_th t y)) → K 0 (mx_F s 1)) (k2 : mr_th t x ∧ (y = -1 ∨ mr_th t y) → ¬ s 4 60 1 = 111 → K 0 (mx_F s 2))
    (k3 : ∀ a b, a < t → x = nI a → (b = 24 ∨ b < t) → y = dq_bI b → s 4 60 1 = 111 → ¬ (dq_cr w a ∧ (b = 24 ∨ dq_cr w b)) → K 0 (mx_F s 3))
    (k4 : ∀ a b, a < t → x = nI a → (b = 24 ∨ b < t) → y = dq_bI b → s 4 60 1 = 111 → dq_cr w a → (b = 24 ∨ dq_cr w b) → ¬ (b = 24 ∨ (w 24 b = 6 ∧ ¬ dq_IN w a b)) → K 0 (mx_F s 4))
    (kk : ∀ a b, a < t → x = nI a → (b = 24 ∨ b < t) → y = dq_bI b → s 4 60 1 = 111 → dq_cr w a → (b = 24 ∨ dq_cr w b) → (b = 24 ∨ (w 24 b = 6 ∧ ¬ dq_IN w a b)) → dq_JV n t l w ∧ dq_RT n w ∧ ∀ u, mx_E t (ax_on n (ax_deed n t 4 a b w).2) (mx_F s 0) u → K (ax_deed n t 4 a b w).1 u) : wf_X9_pack x y s K := by
  unfold wf_X9_pack
  have ht := I.t24
  have f139 : ∀ e : Int32, ¬ e = 0 → K 0 (mx_F s e) → wf_X9_pack_139 K x y e s := fun e he h => by
    unfold wf_X9_pack_139
    exact km_goesN he (dq_0' h)
  have fault : ∀ e : Int32, ¬ e = 0 → K 0 (mx_F s e) → wf_X9_pack_37 K x y e s := fun e he h => by
    unfold wf_X9_pack_37
    refine dq_rf he ?_
    unfold wf_X9_pack_70
    refine br_t rfl ?_
    unfold wf_X9_pack_109
    exact br_f he (f139 e he h)
  -- things, a world
  have run : ∀ a b, a < t → x = nI a → (b = 24 ∨ b < t) → y = dq_bI b → s 4 60 1 = 111 → wf_X9_pack_37 K x y 0 s := by
    intro a b ha e hb ey on
    have k3 := k3 a b ha e hb ey on
    have k4 := k4 a b ha e hb ey on
    have kk := kk a b ha e hb ey on
    have nc : ¬ (dq_cr w a ∧ (b = 24 ∨ dq_cr w b)) → wf_X9_pack_70 K x y 0 0 s := fun g => by
      unfold wf_X9_pack_70
      refine br_t rfl ?_
      unfold wf_X9_pack_109
      exact br_t rfl (dq_0' (f139 3 (by decide) (k3 g)))
    have ok : dq_cr w a → (b = 24 ∨ dq_cr w b) → (b = 24 ∨ (w 24 b = 6 ∧ ¬ dq_IN w a b)) → wf_X9_pack_109 K x y 0 1 0 s := by
      intro c1 c2 c3
      obtain ⟨JV, RT, k⟩ := kk c1 c2 c3
      unfold wf_X9_pack_109
      refine br_t rfl (dq_1' (br_t rfl ?_))
      unfold wf_X9_pack_139
      have R1 : mr_R w (mx_F s 0 4) := mx_F_R R
      have DV : dq_DV t 4 a b w := Or.inr (Or.inr (Or.inr (Or.inl ⟨rfl, ha, by
        rcases hb with q | q
        · exact Or.inl q
        · rcases c3 with r | r
          · exact Or.inl r
          · exact Or.inr ⟨q, r.2⟩⟩)))
      have I1 : dq_IV n t l (ax_deed n t 4 a b w).2 := ax_deed_I I DV
      have hv : ∀ v, v = (if b = 24 then -1 else (-3) - nI b) → v < 0 → ∃ m, wf_X9_pack_172 K m x 0 0 (dq_st (mx_F s 0) 4 82 a v) := by
        intro v hv hv0
        have ew : (ax_deed n t 4 a b w).2 = dq_set w 25 a v := by rw [hv]; rfl
        have ea : (ax_deed n t 4 a b w).1 = dq_sum (fun i => dq_set w 25 a v 25 i = v) (fun _ => 1) t := by rw [hv]; rfl
        have P1 : mx_P (dq_set w 25 a v) (mx_F s 0) (dq_st (mx_F s 0) 4 82 a v) := by
          have q := R1.p82 (k := a) (v := v) (by omega)
          rw [mt_V_n hv0] at q
          exact (mx_P.rf R1).st q (by unfold mk_g; omega)
        rw [ew] at I1
        have ex82 : dq_st (mx_F s 0) 4 82 a v 4 82 x.toNatClampNeg = v := by rw [e, nI_clamp (by omega), dq_st_p, dq_set_eq]
        exact dq_lp (fun m i z => wf_X9_pack_172 K m x z (nI i) (dq_st (mx_F s 0) 4 82 a v)) (dq_sum (fun i => dq_set w 25 a v 25 i = v) (fun _ => 1)) t (fun m => by
          show wf_X9_pack_172 K (m + 1) x (dq_sum (fun i => dq_set w 25 a v 25 i = v) (fun _ => 1) t) (nI t) _
          unfold wf_X9_pack_172
          rw [P1.1.n15, I1.ht]
          refine br_t (nI_le (Nat.le_refl _) (by omega)) ?_
          rw [← ea]
          rw [← ew] at P1
          exact km_fin JV RT DV P1 ((mx_F_1 (s := s) (e := 0) (k := 1) (by decide)).trans on) k) (fun m i hi h => by
          have h : wf_X9_pack_172 K m x (dq_sum (fun i => dq_set w 25 a v 25 i = v) (fun _ => 1) (i + 1)) (nI (i + 1)) (dq_st (mx_F s 0) 4 82 a v) := h
          show wf_X9_pack_172 K (m + 1) x (dq_sum (fun i => dq_set w 25 a v 25 i = v) (fun _ => 1) i) (nI i) _
          unfold wf_X9_pack_172
          rw [P1.1.n15, I1.ht]
          refine br_f (nI_ge hi (by omega)) ⟨vp_in_nI (by omega) (by decide), by rw [e]; exact vp_in_nI (by omega) (by decide), ?_⟩
          rw [ex82, nI_clamp (by omega), P1.1.r82 (k := i) (by omega)]
          refine dq_rb (fun g => ?_) (fun g => ?_)
          · rw [dq_sum_f (P := fun i => dq_set w 25 a v 25 i = v) (fun q => g ((mt_V_eqn hv0).2 q))] at h
            exact nm_r (Int32.add_zero _) (nm_r (nI_1 i) h)
          · rw [dq_sum_t (P := fun i => dq_set w 25 a v 25 i = v) ((mt_V_eqn hv0).1 g)] at h
            exact nm_e (nm_r (nI_1 i) h)) (Nat.zero_le t)
      have vx : vp_in x 24 := by rw [e]; exact vp_in_nI (by omega) (by decide)
      have ec : x.toNatClampNeg = a := by rw [e, nI_clamp (by omega)]
      refine km_goes0 (dq_1' (dq_rb (fun g => ⟨vx, ?_⟩) (fun g => ⟨vx, ?_⟩)))
      · have hb2 : b < t := by
          rcases hb with q | q
          · rw [q] at ey; exact absurd ey g
          · exact q
        have ey2 : y = nI b := by rw [ey, dq_bI_of (by omega)]
        rw [ec, ey2]
        exact mx_put (hv ((-3) - nI b) (by rw [if_neg (by omega)]) (dq_bag_neg (by omega)))
      · have hb2 : b = 24 := by
          rcases hb with q | q
          · exact q
          · rw [ey, dq_bI_of (by omega)] at g
            exact absurd g (dq_m1' (by omega))
        rw [ec]
        exact mx_put (hv (-1) (by rw [if_pos hb2]) (by decide))
    have bad : dq_cr w a → (b = 24 ∨ dq_cr w b) → ¬ (b = 24 ∨ (w 24 b = 6 ∧ ¬ dq_IN w a b)) → wf_X9_pack_109 K x y 0 1 1 s := fun c1 c2 c3 => by
      unfold wf_X9_pack_109
      exact br_t rfl (dq_1' (br_f (by decide) (f139 4 (by decide) (k4 c1 c2 c3))))
    unfold wf_X9_pack_37
    refine dq_rt rfl ?_
    rw [e] at nc ok bad ⊢
    refine km_outermost R I (by omega) (dq_rb (fun c1 => nc fun q => c1 (mt_V_m1.2 q.1)) (fun c1 => ?_))
    have c1 : dq_cr w a := mt_V_m1.1 c1
    refine br_c (fun g => ?_) (fun g => ?_)
    · have hb2 : b = 24 := by
        rcases hb with q | q
        · exact q
        · rw [ey, dq_bI_of (by omega)] at g
          exact absurd g (dq_m1' (by omega))
      unfold wf_X9_pack_70
      exact br_f (by decide) (br_t g (ok c1 (Or.inl hb2) (Or.inl hb2)))
    · have hb2 : b < t := by
        rcases hb with q | q
        · rw [q] at ey; exact absurd ey g
        · exact q
      have ey2 : y = nI b := by rw [ey, dq_bI_of (by omega)]
      rw [ey2] at nc ok bad g ⊢
      refine km_outermost R I (by omega) (dq_rb (fun c2 => nc fun q => ?_) (fun c2 => ?_))
      · rcases q.2 with r | r
        · omega
        · exact c2 (mt_V_m1.2 r)
      · have c2 : b = 24 ∨ dq_cr w b := Or.inr (mt_V_m1.1 c2)
        unfold wf_X9_pack_70
        refine br_f (by decide) (br_f g (km_isBag R (by omega) (fun g2 => dq_1 (br_c (fun g3 => bad c1 c2 ?_) (fun g3 => km_isWithin R I (by omega) (by omega) (fun g4 => dq_1 (bad c1 c2 ?_)) (fun g4 => dq_0 (ok c1 c2 ?_))))) (fun g2 => dq_0 (bad c1 c2 ?_))))
        · rintro (r | r)
          · omega
          · have := (nI_eq (by omega) (by omega)).1 g3
            exact r.2 ⟨0, this, fun k hk => absurd hk (Nat.not_lt_zero _)⟩
        · have ne : b ≠ a := fun q => g3 (congrArg nI q)
          rintro (r | r)
          · omega
          · exact r.2 ((mt_wi_IN ne).1 g4)
        · have ne : b ≠ a := fun q => g3 (congrArg nI q)
          exact Or.inr ⟨g2, fun q => g4 ((mt_wi_IN ne).2 q)⟩
        · rintro (r | r)
          · omega
          · exact g2 r.1
  have go : ∀ (z : Int32), y = -1 ∨ mr_th t y → ∀ a, a < t → x = nI a → wf_X9_isOn s (fun r4 s3 => ((¬ r4 = 0 → wf_X9_pack_37 K x y 0 s3) ∧ (r4 = 0 → wf_X9_pack_37 K x y 2 s3))) := by
    intro z hy a ha e
    refine km_isOn (fun on => dq_1' ?_) (fun g => dq_0' (fault 2 (by decide) (k2 ⟨⟨a, ha, e⟩, hy⟩ g)))
    rcases hy with q | ⟨b, hb, q⟩
    · exact run a 24 ha e (Or.inl rfl) (by rw [q, dq_bI_24]) on
    · exact run a b ha e (Or.inr hb) (by rw [q, dq_bI_of (by omega)]) on
  refine km_isThing R I (fun a ha e => dq_1 (br_c (fun g => go 0 (Or.inl g) a ha e) (fun g => km_isThing R I (fun b hb ey => dq_1' (go 0 (Or.inr ⟨b, hb, ey⟩) a ha e)) (fun h => dq_0' (fault 1 (by decide) (k1 ?_)))))) (fun h => dq_0 (fault 1 (by decide) (k1 fun q => h q.1)))
  rintro ⟨_, q | q⟩
  · exact g q
  · exact h q
theorem km_hurl {x y : Int32} (R : mr_R w (s 4)) (I : dq_IV n t l w) (k1 : ¬ mr_th t x → K 0 (mx_F s 1)) (k2 : mr_th t x → ¬ mr_in y 0 3 → K 0 (mx_F s 2)) (k3 : mr_th t x → mr_in y 0 3 → ¬ s 4 60 1 = 111 → K 0 (mx_F s 3))
    (k4 : ∀ a, a < t → x = nI a → mr_in y 0 3 → s 4 60 1 = 111 → ¬ w 25 a = -1 → K 0 (mx_F s 4))
    (kk : ∀ a b, a < t → x = nI a → b < 4 → y = nI b → s 4 60 1 = 111 → w 25 a = -1 → dq_JV n t l w ∧ dq_RT n w ∧ ∀ u, mx_E t (ax_on n (ax_deed n t 6 a b w).2) (mx_F s 0) u → K (ax_deed n t 6 a b w).1 u) : wf_X9_hurl x y s K := by
  unfold wf_X9_hurl
  have ht := I.t24
  have fault : ∀ e : Int32, ¬ e = 0 → K 0 (mx_F s e) → wf_X9_hurl_51 K x y e s := fun e he h => by
    unfold wf_X9_hurl_51
    exact km_goesN he (dq_0' h)
  refine km_isThing R I (fun a ha e => dq_1' (km_in (fun hy => dq_1' (km_isOn (fun on => dq_1' ⟨?_, ?_⟩) (fun g => dq_0' (fault 3 (by decide) (k3 ⟨a, ha, e⟩ hy g))))) (fun hy => dq_0' (fault 2 (by decide) (k2 ⟨a, ha, e⟩ hy))))) (fun h => dq_0' (fault 1 (by decide) (k1 h)))
  · rw [e]; exact vp_in_nI (by omega) (by decide)
  have e82 : s 4 82 x.toNatClampNeg = mt_V (w 25 a) := by rw [e, nI_clamp (by omega), R.r82 (by omega)]
  rw [e82]
  refine br_c (fun g => ?_) (fun g => fault 4 (by decide) (k4 a ha e hy on (fun q => g (mt_V_m1.2 q))))
  obtain ⟨b, hb3, ey⟩ := mr_in_n (N := 3) rfl hy
  have hb : b < 4 := by omega
  obtain ⟨JV, RT, k⟩ := kk a b ha e hb ey on (mt_V_m1.1 g)
  subst e
  subst ey
  have R1 : mr_R w (mx_F s 0 4) := mx_F_R R
  have hp := (I.pl 0 (by decide)).1
  have on1 : mx_F s 0 4 60 1 = 111 := (mx_F_1 (s := s) (e := 0) (k := 1) (by decide)).trans on
  have e76 : mx_F s 0 4 76 (0 : Int32).toNatClampNeg = nI (mt_T (dq_pl w 0)) := mr_place R1 I.pl (b := 0) (by decide)
  have DV : dq_DV t 6 a b w := Or.inr (Or.inr (Or.inr (Or.inr (Or.inr (Or.inl ⟨rfl, ha, hb⟩)))))
  unfold wf_X9_hurl_51
  refine km_goes0 (dq_1' ⟨dq_v0 (by decide) (by decide), ?_⟩)
  show ∀ v13 : Int32, v13 = mx_F s 0 4 76 (0 : Int32).toNatClampNeg → _
  rw [e76]
  refine nm_e ?_
  -- where it ends
  have land : ∀ c j, c < 144 → j ≤ 5 → (1 ≤ j → dq_pl w 0 ≠ c) → (ax_deed n t 6 a b w).1 = nI j → (ax_deed n t 6 a b w).2 = ax_land n t a c (if j = 0 then 8 else dq_la w c n) w → wf_X9_hurl_121 K (nI a) (nI (mt_T c)) (nI j) (mx_F s 0) := by
    intro c j hc hj hne e1 e2
    rw [e1] at k
    have hk := mr_kind R1 I (x := a) (by omega)
    have P1 : mx_P (dq_set w 25 a (nI c)) (mx_F s 0) (dq_st (mx_F s 0) 4 82 a (nI (mt_T c))) := by
      have q := R1.p82 (k := a) (v := nI c) (by omega)
      rw [mt_V_c hc] at q
      exact (mx_P.rf R1).st q (by unfold mk_g; omega)
    have I1 : dq_IV n t l (dq_set w 25 a (nI c)) := I.s25 (Or.inr (Or.inr ⟨c, hc, rfl⟩))
    have U1 : dq_IU n (dq_set w 25 a (nI c)) := JV.2.1.st (by decide)
    have H1 : dq_KV n (dq_set w 25 a (nI c)) := JV.2.2.st (by omega)
    have ekd : dq_kd (dq_set w 25 a (nI c)) a = dq_kd w a := by unfold dq_kd; rw [dq_set_q (by decide)]
    have e12 : dq_set w 25 a (nI c) 12 = w 12 := dq_set_r (by decide)
    have ela : ∀ m, dq_la (dq_set w 25 a (nI c)) c m = dq_la w c m := by
      intro m
      induction m with
      | zero => rfl
      | succ m ih =>
        show dq_if (dq_la (dq_set w 25 a (nI c)) c m = 8) (dq_if (dq_lv (dq_set w 25 a (nI c)) m ∧ dq_pl (dq_set w 25 a (nI c)) m = c) m 8) (dq_la (dq_set w 25 a (nI c)) c m) = dq_if (dq_la w c m = 8) (dq_if (dq_lv w m ∧ dq_pl w m = c) m 8) (dq_la w c m)
        have q1 : dq_lv (dq_set w 25 a (nI c)) m = dq_lv w m := by unfold dq_lv; rw [dq_set_q (by decide)]
        have q2 : dq_pl (dq_set w 25 a (nI c)) m = dq_pl w m := by unfold dq_pl; rw [dq_set_q (by decide)]
        rw [ih, q1, q2]
    have end' : ∀ v u, (ax_deed n t 6 a b w).2 = v → mx_P v (mx_F s 0) u → wf_X9_hurl_192 K (nI j) u := by
      intro v u hv P
      unfold wf_X9_hurl_192
      rw [← hv] at P
      exact km_fin JV RT DV P on1 k
    -- who is hit: bb
    have what : ∀ bb, (if j = 0 then 8 else dq_la w c n) = bb → (bb ≠ 8 → bb < 8 ∧ dq_pl w bb = c) → wf_X9_hurl_144 K (nI a) (nI (mt_T c)) (nI j) (dq_n8 bb) (dq_st (mx_F s 0) 4 82 a (nI (mt_T c))) := by
      intro bb hbb hb8
      rw [hbb] at e2
      unfold ax_land at e2
      have hk2 := mr_kind P1.1 I1 (x := a) (by omega)
      rw [ekd] at hk2
      unfold wf_X9_hurl_144
      refine ⟨vp_in_nI (by omega) (by decide), ?_⟩
      rw [nI_clamp (by omega), hk2.1]
      refine km_isPotion hk2.2 (fun c1 => dq_1 ?_) (fun c1 => dq_0 ⟨vp_in_nI (by omega) (by decide), ?_⟩)
      · rw [dq_if_t c1] at e2
        refine km_breaks P1.1 I1 H1.2.1 (by omega) hc (fun u P2 => end' _ u ?_ (P1.tr P2))
        rw [e2, ekd, e12]
      · rw [dq_if_f c1] at e2
        rw [hk2.1]
        have e7 : nI (dq_kd w a) = 7 ↔ dq_kd w a = 7 := nI_eq (b := 7) (by have := hk2.2; omega) (by decide)
        refine dq_rb (fun c2 => end' _ _ ?_ P1) (fun c2 => ?_)
        · rw [e2, dq_if_f (fun q => c2 (e7.2 q.1))]
        · by_cases c3 : bb = 8
          · rw [dq_if_f (fun q => q.2 c3)] at e2
            rw [c3]
            exact br_t rfl (end' _ _ e2 P1)
          · obtain ⟨h1, h2⟩ := hb8 c3
            rw [dq_if_t ⟨e7.1 c2, c3⟩] at e2
            rw [dq_n8_of h1]
            refine br_f (dq_m1' (by omega)) (km_strikes P1.1 I1 h1 (fun u P2 => end' _ u ?_ (P1.tr P2)))
            have : dq_pl (dq_set w 25 a (nI c)) bb = c := by unfold dq_pl; rw [dq_set_q (by decide)]; exact h2
            rw [e2, this]
    unfold wf_X9_hurl_121
    refine ⟨vp_in_nI (by omega) (by decide), mx_putI (by omega) ?_⟩
    by_cases j0 : j = 0
    · subst j0
      exact br_t (by decide) (what 8 (if_pos rfl) (fun h => absurd rfl h))
    · refine br_f (nI_nle (by omega) (by omega)) (km_livingAt P1.1 I1 U1.ua hc ?_)
      rw [ela]
      exact what _ (if_neg j0) (fun h => by
        have := dq_la_in I h
        have := I.h8
        exact ⟨by omega, (dq_la_in I h).2.2.2⟩)
  -- the flight
  have fly : ∀ q j c, j + q = 5 → c < 144 → (j = 0 → c = dq_pl w 0) → (1 ≤ j → ((b = 1 ∨ b = 2) → dq_pl w 0 < c) ∧ ((b = 0 ∨ b = 3) → c < dq_pl w 0)) → (1 ≤ j → dq_la w c n = 8) →
      (ax_deed n t 6 a b w).1 = nI (j + (dq_hu w n b q c).2.1) → (ax_deed n t 6 a b w).2 = ax_land n t a (dq_hu w n b q c).1 (dq_hu w n b q c).2.2 w →
      wf_X9_hurl_73 K (fun (w14 : Int32) (w15 : Int32) (w16 : Int32) (s17 : dk_S) => wf_X9_hurl_121 K w14 w15 w16 s17) (q + 1) (nI a) (nI b) (nI (mt_T c)) (nI j) (mx_F s 0) := by
    have dne : ∀ j c, (1 ≤ j → ((b = 1 ∨ b = 2) → dq_pl w 0 < c) ∧ ((b = 0 ∨ b = 3) → c < dq_pl w 0)) → 1 ≤ j → dq_pl w 0 ≠ c := by
      intro j c h h1
      have := h h1
      omega
    intro q
    induction q with
    | zero =>
      intro j c hj hc h0 hd hl e1 e2
      unfold wf_X9_hurl_73
      have hj5 : j = 5 := by omega
      refine br_t (by rw [hj5]; decide) (land c j hc (by omega) (dne j c hd) e1 ?_)
      rw [e2, if_neg (by omega), hl (by omega)]
      rfl
    | succ q ih =>
      intro j c hj hc h0 hd hl e1 e2
      have hn := dq_nb_le c hc b hb
      have es : dq_hu w n b (q + 1) c = dq_if (dq_free (dq_sg w (dq_nb c b))) (dq_if (1 ≤ dq_la w (dq_nb c b) n ∧ dq_la w (dq_nb c b) n < 8) (dq_nb c b, 1, dq_la w (dq_nb c b) n) ((dq_hu w n b q (dq_nb c b)).1, (dq_hu w n b q (dq_nb c b)).2.1 + 1, (dq_hu w n b q (dq_nb c b)).2.2)) (c, 0, 8) := rfl
      rw [es] at e1 e2
      have stay : (if j = 0 then 8 else dq_la w c n) = 8 := by
        by_cases g : j = 0
        · rw [if_pos g]
        · rw [if_neg g]; exact hl (by omega)
      unfold wf_X9_hurl_73
      refine br_f (nI_ge (b := 5) (by omega) (by omega)) (km_beside hc hb (km_isFree R1 hn (fun f => dq_1 ?_) (fun f => dq_0 ?_)))
      · have hc2 := dq_free_in hn f
        rw [dq_if_t f] at e1 e2
        have hd2 : 1 ≤ j + 1 → ((b = 1 ∨ b = 2) → dq_pl w 0 < dq_nb c b) ∧ ((b = 0 ∨ b = 3) → dq_nb c b < dq_pl w 0) := by
          intro _
          have d1 := dq_nb_dir c hc b hb hc2
          by_cases g : j = 0
          · have := h0 g
            rw [← this]; exact d1
          · have := hd (by omega)
            refine ⟨fun h => ?_, fun h => ?_⟩
            · have := d1.1 h
              have := this
              have := (hd (by omega)).1 h
              omega
            · have := d1.2 h
              have := (hd (by omega)).2 h
              omega
        -- to the next cell
        have next : wf_X9_hurl_73 K (fun (w14 : Int32) (w15 : Int32) (w16 : Int32) (s17 : dk_S) => wf_X9_hurl_121 K w14 w15 w16 s17) (q + 1) (nI a) (nI b) (nI (mt_T (dq_nb c b))) (nI (j + 1)) (mx_F s 0) := by
          by_cases g : 1 ≤ dq_la w (dq_nb c b) n ∧ dq_la w (dq_nb c b) n < 8
          · rw [dq_if_t g] at e1 e2
            have ld := land (dq_nb c b) (j + 1) hc2 (by omega) (dne (j + 1) _ hd2) e1 (by rw [e2, if_neg (by omega)])
            have hn2 := dq_nb_le _ hc2 b hb
            unfold wf_X9_hurl_73
            refine br_c (fun _ => ld) (fun _ => km_beside hc2 hb (km_isFree R1 hn2 (fun f2 => dq_1 (br_f (fun z => ?_) (km_livingAt R1 I JV.2.1.ua hc2 ?_))) (fun f2 => dq_0 ld)))
            · have := (nI_eq (b := 0) (by omega) (by decide)).1 z
              omega
            · rw [dq_n8_of g.2]
              exact dq_rf (dq_m1' (by omega)) ld
          · rw [dq_if_f g] at e1 e2
            have l8 : dq_la w (dq_nb c b) n = 8 := by
              have a1 := dq_la_9 I (dq_nb c b)
              have a2 := dq_la_0 I RT.1 (dne (j + 1) _ hd2 (by omega))
              omega
            refine ih (j + 1) (dq_nb c b) (by omega) hc2 (fun h => by omega) hd2 (fun _ => l8) ?_ e2
            rw [e1]
            congr 1
            show j + ((dq_hu w n b q (dq_nb c b)).2.1 + 1) = j + 1 + (dq_hu w n b q (dq_nb c b)).2.1
            omega
        have beside2 : ∀ u, u = mx_F s 0 → wf_X9_beside (nI (mt_T c)) (nI b) u (fun r29 s28 => ∀ v30 : Int32, v30 = nI j + 1 → wf_X9_hurl_73 K (fun (w14 : Int32) (w15 : Int32) (w16 : Int32) (s17 : dk_S) => wf_X9_hurl_121 K w14 w15 w16 s17) (q + 1) (nI a) (nI b) r29 v30 s28) := by
          intro u hu
          subst hu
          refine km_beside hc hb (nm_r (nI_1 j) ?_)
          rw [mt_pI_in hc2]
          exact next
        refine br_c (fun _ => beside2 _ rfl) (fun z => ?_)
        have hj1 : 1 ≤ j := by
          refine Nat.one_le_iff_ne_zero.mpr fun g => z ?_
          rw [g]; rfl
        refine km_livingAt R1 I JV.2.1.ua hc ?_
        rw [hl hj1]
        exact dq_rt rfl (beside2 _ rfl)
      · rw [dq_if_f f] at e1 e2
        exact land c j hc (by omega) (dne j c hd) e1 (by rw [e2, stay])
  have q := fly 5 0 (dq_pl w 0) rfl hp (fun _ => rfl) (fun h => absurd h (by decide)) (fun h => absurd h (by decide)) (by rw [Nat.zero_add]; rfl) rfl
  exact ⟨6, q⟩
end DQXK
