/-! what is known of a keep that has begun, and over an act and a begin -/
def lq (n m : Nat) (st : Int32) (T W0 : dq_W) (D : Nat → Nat × Nat × Nat) (B : Nat → Int32) (sp : Int32) : Prop := dq_P n 9 1 m m st T W0 D B sp ∧ ¬ st = 110 ∧ dp_W0 W0 ∧ dp_HF (dq_ch n 9 W0 D m) ∧ dp_CW 9 (dq_ch n 9 W0 D m)
section LQA
variable {n m : Nat} {st sp : Int32} {T W0 : dq_W} {D : Nat → Nat × Nat × Nat} {B : Nat → Int32}
theorem lq_RP (h : lq n m st T W0 D B sp) : dq_RP n 9 1 m W0 D := (h.1.2.2.2 h.2.1).1
theorem lq_shw (h : lq n m st T W0 D B sp) : dq_shw n 9 m st T W0 D = dq_nw n 9 m W0 D := dq_if_f h.2.1
theorem lq_hands {w : dq_W} (hp : dq_pl w 0 < 144) : dp_T w (ax_hands 9 w) := dp_T.rf.mv (dp_cell hp)
theorem lq_T (h : lq n m st T W0 D B sp) : dp_T (dq_ch n 9 W0 D m) (dq_shw n 9 m st T W0 D) := by
  rw [lq_shw h]
  have I := ((lq_RP h).at m (Nat.le_refl _)).1.1.1
  unfold dq_nw
  by_cases g : dq_lv (dq_ch n 9 W0 D m) 0
  · rw [dq_if_t g]; exact dp_T.rf
  · rw [dq_if_f g]; exact lq_hands (I.pl 0 (by decide)).1
theorem lq_row (h : lq n m st T W0 D B sp) {q : Nat} (hq : q ≠ 25) : dq_shw n 9 m st T W0 D q = dq_ch n 9 W0 D m q := by
  rw [lq_shw h]
  unfold dq_nw
  by_cases g : dq_lv (dq_ch n 9 W0 D m) 0
  · rw [dq_if_t g]
  · rw [dq_if_f g]; exact funext fun k => dq_mv_o (Or.inl hq)
theorem lq_U (h : lq n m st T W0 D B sp) : dq_IU n (dq_shw n 9 m st T W0 D) := by
  have U := ((lq_RP h).at m (Nat.le_refl _)).1.1.2.1
  unfold dq_IU dq_lv dq_pl at U ⊢
  rw [lq_row h (show 18 ≠ 25 by decide), lq_row h (show 14 ≠ 25 by decide), lq_row h (show 2 ≠ 25 by decide)]
  exact U
theorem lq_F (h : lq n m st T W0 D B sp) : dq_free (dq_shw n 9 m st T W0 D 2 (dq_pl (dq_shw n 9 m st T W0 D) 0)) := by
  have U := h.2.2.2.1
  unfold dp_HF dq_pl at U
  unfold dq_pl
  rw [lq_row h (show 14 ≠ 25 by decide), lq_row h (show 2 ≠ 25 by decide)]
  exact U
theorem lq_wt (h : lq n m st T W0 D B sp) : ∀ x, x < 9 → dj_R 0 9 (dq_wt (dq_shw n 9 m st T W0 D) x) := fun x hx => by
  obtain ⟨⟨JV, JX⟩, _⟩ := (lq_RP h).at m (Nat.le_refl _)
  rw [(lq_T h).wt]
  exact dp_wt JV.1 JX x hx
theorem lq_CW (h : lq n m st T W0 D B sp) : dp_CW 9 (dq_shw n 9 m st T W0 D) := by
  obtain ⟨⟨JV, JX⟩, _⟩ := (lq_RP h).at m (Nat.le_refl _)
  exact dp_CW.T JV.1 JX (lq_T h) h.2.2.2.2
theorem lq_tk (h : lq n m st T W0 D B sp) : ∃ τ, 1 ≤ τ ∧ τ ≤ 4000 * (m + 1) ∧ dq_shw n 9 m st T W0 D 0 5 = nI τ := by
  obtain ⟨τ, h1, h2, h3⟩ := dp_tk_ch h.2.2.1 (lq_RP h) m (Nat.le_refl _)
  exact ⟨τ, h1, h2, by rw [lq_shw h]; exact dp_nw5 h3⟩
theorem lq_tk' (h : lq n m st T W0 D B sp) {τ : Nat} (e : dq_ch n 9 W0 D m 0 5 = nI τ) : dq_shw n 9 m st T W0 D 0 5 = nI τ := by rw [lq_shw h]; exact dp_nw5 e
theorem lq_0 {st' : Int32} (g : st' = dp_st n 9 m W0 D) : (st' = 111 ∧ dq_lv (dq_ch n 9 W0 D m) 0) ∨ (st' = 100 ∧ dq_ch n 9 W0 D m 18 0 ≤ 0) := by
  subst g
  unfold dp_st
  by_cases c : dq_lv (dq_ch n 9 W0 D m) 0
  · rw [dq_if_t c]; exact Or.inl ⟨rfl, c⟩
  · rw [dq_if_f c]; exact Or.inr ⟨rfl, Classical.not_not.mp c⟩
/-- what an act leaves -/
def lq_A (n m : Nat) (T W0 : dq_W) (D : Nat → Nat × Nat × Nat) (B : Nat → Int32) (sp : Int32) (w : dk_S → (Int32 → dk_S → Prop) → (String → dk_S → Prop) → Prop) : Prop :=
  ∃ (x : Int32) (m' : Nat) (st' : Int32) (D' : Nat → Nat × Nat × Nat) (B' : Nat → Int32) (sp' : Int32), lq n m' st' T W0 D' B' sp' ∧ (m' = m ∨ m' = m + 1) ∧
    (∃ τ τ', τ ≤ τ' ∧ τ' ≤ 4000 * (m + 2) ∧ dq_shw n 9 m 111 T W0 D 0 5 = nI τ ∧ dq_shw n 9 m' st' T W0 D' 0 5 = nI τ' ∧ (-1001 < x ∨ τ' = τ)) ∧ (st' = 111 ∨ (st' = 100 ∧ dq_shw n 9 m' st' T W0 D' 18 0 ≤ 0)) ∧
    ∀ r A s K, dq_Kf n 9 m r 111 T W0 A D B sp s → (∀ r' A' v, dq_Kf n 9 m' r' st' T W0 A' D' B' sp' v → K x v) → w s K (ac_X K)
theorem lq_same {x : Int32} {w : dk_S → (Int32 → dk_S → Prop) → (String → dk_S → Prop) → Prop} (h : lq n m 111 T W0 D B sp)
    (k : ∀ r A s K, dq_Kf n 9 m r 111 T W0 A D B sp s → (∀ v, dq_Kf n 9 m r 111 T W0 A D B sp v → K x v) → w s K (ac_X K)) : lq_A n m T W0 D B sp w := by
  obtain ⟨τ, h1, h2, h3⟩ := lq_tk h
  exact ⟨x, m, 111, D, B, sp, h, Or.inl rfl, ⟨τ, τ, Nat.le_refl _, by omega, h3, h3, Or.inr rfl⟩, Or.inl rfl, fun r A s K Kf kk => k r A s K Kf (fun v hv => kk r A v hv)⟩
theorem lq_of {w : dk_S → (Int32 → dk_S → Prop) → (String → dk_S → Prop) → Prop} (h : lq n m 111 T W0 D B sp) (hm : m < 60) (hA : dp_A n 9 m T W0 D B sp w) : lq_A n m T W0 D B sp w := by
  obtain ⟨P, _, h0, HF, CW⟩ := h
  have h : lq n m 111 T W0 D B sp := ⟨P, by decide, h0, HF, CW⟩
  rcases hA with ⟨E, hE, k⟩ | k | ⟨d, a, b, x, hd, hno, hcw, hx, k⟩
  · rcases hE with rfl | rfl
    · exact lq_same (x := -1001) h (fun r A s K Kf kk => k r A s K _ Kf (Or.inl ⟨rfl, kk s Kf⟩))
    · exact lq_same (x := -1002) h (fun r A s K Kf kk => k r A s K _ Kf (Or.inr ⟨rfl, kk s Kf⟩))
  · exact lq_same (x := 98) h (fun r A s K Kf kk => k r A s K _ Kf kk)
  · obtain ⟨RP, _, hRT, ho⟩ := P.2.2.2 (by decide)
    have RT := hRT rfl
    obtain ⟨⟨JV, JX⟩, _⟩ := RP.at m (Nat.le_refl _)
    have RP' := RP.next (by omega) RT hd hno
    have P' := dp_P_of P.1 P.2.1.1 P.2.1.2 RP' ho
    have e1 : dq_ch n 9 W0 (dq_up3 D m d a b) (m + 1) = ax_wait n 4000 (dq_set (ax_deed n 9 d a b (dq_ch n 9 W0 D m)).2 19 0 ((ax_deed n 9 d a b (dq_ch n 9 W0 D m)).2 19 0 - 12)) := dq_ch_up1
    have I' := ax_deed_I JV.1 hd
    have X1 := JX.deed (n := n) (t := 9) (by omega) hd
    have HF' : dp_HF (dq_ch n 9 W0 (dq_up3 D m d a b) (m + 1)) := by
      rw [e1]
      exact dp_HF.wait 4000 ((dp_HF.deed JV.1 HF hd).st (by decide))
    have CW' : dp_CW 9 (dq_ch n 9 W0 (dq_up3 D m d a b) (m + 1)) := by
      rw [e1]
      exact dp_CW.T I' X1 (dp_T.wait 4000 (dp_T.rf.st (by decide))) (hcw CW)
    obtain ⟨τ, g1, g2, g3⟩ := dp_tk_ch h0 RP m (Nat.le_refl _)
    have e5 : dq_set (ax_deed n 9 d a b (dq_ch n 9 W0 D m)).2 19 0 ((ax_deed n 9 d a b (dq_ch n 9 W0 D m)).2 19 0 - 12) 0 5 = nI τ := by
      rw [dq_set_q (by decide), dp_tk_deed hd]; exact g3
    obtain ⟨τ', t1, t2, t3⟩ := dp_tk_wait (n := n) 4000 e5
    rw [← e1] at t3
    have off : ¬ dp_st n 9 (m + 1) W0 (dq_up3 D m d a b) = 110 := by
      rcases lq_0 (n := n) (m := m + 1) (W0 := W0) (D := dq_up3 D m d a b) rfl with ⟨q, _⟩ | ⟨q, _⟩
      · rw [q]; decide
      · rw [q]; decide
    have h' : lq n (m + 1) (dp_st n 9 (m + 1) W0 (dq_up3 D m d a b)) T W0 (dq_up3 D m d a b) (dp_B n 9 (m + 1) W0 (dq_up3 D m d a b) B) (dp_sp n 9 (m + 1) W0 (dq_up3 D m d a b) sp) := ⟨P', off, h0, HF', CW'⟩
    refine ⟨x, m + 1, _, _, _, _, h', Or.inr rfl, ⟨τ, τ', t1, by omega, lq_tk' h g3, lq_tk' h' t3, Or.inl hx⟩, ?_, fun r A s K Kf kk => k r A s K _ Kf (fun v hv => kk r A v hv)⟩
    rcases lq_0 (n := n) (m := m + 1) (W0 := W0) (D := dq_up3 D m d a b) rfl with ⟨q, _⟩ | ⟨q, q2⟩
    · exact Or.inl q
    · exact Or.inr ⟨q, by rw [lq_row h' (show 18 ≠ 25 by decide)]; exact q2⟩
theorem lq_bI {a : Nat} (h : a < 3) : ∃ b, (b = 24 ∨ b < 9) ∧ nI a - 1 = dq_bI b := by
  have cs : a = 0 ∨ a = 1 ∨ a = 2 := by omega
  rcases cs with rfl | rfl | rfl
  · exact ⟨24, Or.inl rfl, by decide⟩
  · exact ⟨0, Or.inr (by decide), by decide⟩
  · exact ⟨1, Or.inr (by decide), by decide⟩
/-- each act of the law is one of the keep's -/
theorem lq_w (v : Int32) (h : lq n m 111 T W0 D B sp) (hm : m < 60) : dp_A n 9 m T W0 D B sp (ac_w v) := by
  obtain ⟨P, _, h0, HF, CW⟩ := h
  obtain ⟨hk, _⟩ := dl_lo_c v (N := 14) (by decide) (by decide)
  have hk : (dl_lo v 14).toNatClampNeg < 14 := hk
  obtain ⟨t1, t2⟩ := dl_lo_c (v >>> (4 &&& 31)) (N := 9) (by decide) (by decide)
  obtain ⟨a1, a2⟩ := dl_lo_c (v >>> (4 &&& 31)) (N := 4) (by decide) (by decide)
  obtain ⟨b1, b2⟩ := dl_lo_c (v >>> (8 &&& 31)) (N := 4) (by decide) (by decide)
  obtain ⟨c1, c2⟩ := dl_lo_c (v >>> (8 &&& 31)) (N := 3) (by decide) (by decide)
  obtain ⟨d1, d2⟩ := dl_lo_c (v >>> (4 &&& 31)) (N := 12) (by decide) (by decide)
  have t1 : (dl_lo (v >>> (4 &&& 31)) 9).toNatClampNeg < 9 := t1
  have t2 : dl_lo (v >>> (4 &&& 31)) 9 = nI (dl_lo (v >>> (4 &&& 31)) 9).toNatClampNeg := t2
  have a1 : (dl_lo (v >>> (4 &&& 31)) 4).toNatClampNeg < 4 := a1
  have a2 : dl_lo (v >>> (4 &&& 31)) 4 = nI (dl_lo (v >>> (4 &&& 31)) 4).toNatClampNeg := a2
  have b1 : (dl_lo (v >>> (8 &&& 31)) 4).toNatClampNeg < 4 := b1
  have b2 : dl_lo (v >>> (8 &&& 31)) 4 = nI (dl_lo (v >>> (8 &&& 31)) 4).toNatClampNeg := b2
  have c1 : (dl_lo (v >>> (8 &&& 31)) 3).toNatClampNeg < 3 := c1
  have c2 : dl_lo (v >>> (8 &&& 31)) 3 = nI (dl_lo (v >>> (8 &&& 31)) 3).toNatClampNeg := c2
  have d1 : (dl_lo (v >>> (4 &&& 31)) 12).toNatClampNeg < 12 := d1
  have d2 : dl_lo (v >>> (4 &&& 31)) 12 = nI (dl_lo (v >>> (4 &&& 31)) 12).toNatClampNeg := d2
  unfold ac_w ac_L
  rw [t2, a2, b2, c2, d2]
  generalize (dl_lo v 14).toNatClampNeg = k at hk
  generalize (dl_lo (v >>> (4 &&& 31)) 9).toNatClampNeg = t at t1
  generalize (dl_lo (v >>> (4 &&& 31)) 4).toNatClampNeg = a at a1
  generalize (dl_lo (v >>> (8 &&& 31)) 4).toNatClampNeg = b at b1
  generalize (dl_lo (v >>> (8 &&& 31)) 3).toNatClampNeg = c at c1
  generalize (dl_lo (v >>> (4 &&& 31)) 12).toNatClampNeg = d at d1
  have cs : k = 0 ∨ k = 1 ∨ k = 2 ∨ k = 3 ∨ k = 4 ∨ k = 5 ∨ k = 6 ∨ k = 7 ∨ k = 8 ∨ k = 9 ∨ k = 10 ∨ k = 11 ∨ k = 12 ∨ k = 13 := by omega
  rcases cs with rfl | rfl | rfl | rfl | rfl | rfl | rfl | rfl | rfl | rfl | rfl | rfl | rfl | rfl
  · exact dp_go a1 P (by omega)
  · exact dp_go a1 P (by omega)
  · exact dp_go a1 P (by omega)
  · exact dp_go a1 P (by omega)
  · exact dp_rest h0 P (by omega)
  · exact dp_take t1 P (by omega)
  · exact dp_take t1 P (by omega)
  · exact dp_take t1 P (by omega)
  · exact dp_drop t1 P (by omega)
  · obtain ⟨b', h1, h2⟩ := lq_bI c1
    show dp_A n 9 m T W0 D B sp (wf_X8_pack (nI t) (nI c - 1))
    rw [h2]
    exact dp_pack t1 h1 P (by omega)
  · exact dp_drink t1 P (by omega)
  · exact dp_hurl t1 b1 P (by omega)
  · show dp_A n 9 m T W0 D B sp (wf_X8_shout ((1 : Int32) + nI d))
    rw [Int32.add_comm, nI_1]
    exact dp_shout (by omega) (by omega) P (by omega)
  · exact dp_pray P (by omega)
theorem lq_act (v : Int32) (h : lq n m 111 T W0 D B sp) (hm : m < 60) : lq_A n m T W0 D B sp (ac_w v) := lq_of h hm (lq_w v h hm)
/-- a world begins, or none -/
theorem lq_begin {j : Nat} (hj : j < 1000) (nc : dl_NC T) (P : dq_P n 9 1 m m st T W0 D B sp) (off : ¬ st = 111) :
    (¬ dq_fw T n ∧ ∀ r A s K, dq_Kf n 9 m r st T W0 A D B sp s → K (-1) s → wf_X8_begin (nI j) s K (fun M u => M = eIS ∧ K (-1) u)) ∨
    dq_fw T n ∧ ∃ (st' : Int32) (W : dq_W) (B' : Nat → Int32) (sp' : Int32) (τ : Nat), lq n 0 st' T W dp_D0 B' sp' ∧ (st' = 111 ∨ st' = 100) ∧ 1 ≤ τ ∧ τ ≤ 4000 ∧ dq_shw n 9 0 st' T W dp_D0 0 5 = nI τ ∧
      ∀ r A s K X, dq_Kf n 9 m r st T W0 A D B sp s → (∀ r' A' v, dq_Kf n 9 0 r' st' T W A' dp_D0 B' sp' v → K (nI τ) v) → wf_X8_begin (nI j) s K X := by
  by_cases fw : dq_fw T n
  · refine Or.inr ⟨fw, ?_⟩
    obtain ⟨RP, ho⟩ := dp_RP0 (j := j) fw P
    have h1 := P.1.1.h1
    have W2 : dp_W T B sp j 2 = T 2 := dz_W_r (by decide) (by decide)
    have W14 : dp_W T B sp j 14 = T 14 := dz_W_r (by decide) (by decide)
    have W19 : dp_W T B sp j 19 = T 19 := dz_W_r (by decide) (by decide)
    have W05 : dp_W T B sp j 0 5 = T 0 5 := dz_W_0.trans (dq_set_ne (Or.inr (by decide)))
    obtain ⟨z0, z1, _⟩ := P.1.2.1
    have h0 : dp_W0 (dp_W T B sp j) := ⟨by rw [W05]; exact z0.1, fun k hk => by rw [W19]; exact (z1 k hk).1⟩
    have hf : dp_HF (dp_W T B sp j) := by
      have := (fw 0 (by omega)).1
      unfold dp_HF dq_pl
      unfold dq_pl at this
      rw [W2, W14]; exact this
    have JV := RP.1.1
    have hc : dp_CW 9 (dp_W T B sp j) := by
      refine dp_CW.none (fun x hx => ?_) JV.1.tp (by decide)
      have e25 : dq_set T 0 6 (nI (j % 6)) 25 x ≠ -1 := by rw [dq_set_q (by decide)]; exact nc x hx
      show ax_bones B sp (dq_set T 0 6 (nI (j % 6))) 25 x ≠ -1
      unfold ax_bones
      by_cases g : ∃ c, c < 144 ∧ sp = nI c ∧ dq_free (dq_set T 0 6 (nI (j % 6)) 2 c)
      · rw [dq_if_t g]
        unfold ax_lay
        by_cases g2 : 25 = 25 ∧ x < 24 ∧ B x ≠ -2
        · rw [if_pos g2]
          by_cases g3 : B x = -1
          · rw [if_pos g3]
            obtain ⟨c, hc, e, _⟩ := g
            rw [e]; exact (dp_cell hc).2
          · rw [if_neg g3]; exact g3
        · rw [if_neg g2]; exact e25
      · rw [dq_if_f g]; exact e25
    have HF' : dp_HF (dq_ch n 9 (dp_W T B sp j) dp_D0 0) := dp_HF.wait 4000 hf
    have CW' : dp_CW 9 (dq_ch n 9 (dp_W T B sp j) dp_D0 0) := dp_CW.T JV.1 RP.1.2.1 (dp_T.wait 4000 dp_T.rf) hc
    have P' := dp_P_of P.1 P.2.1.1 P.2.1.2 RP ho
    have cs := lq_0 (n := n) (m := 0) (W0 := dp_W T B sp j) (D := dp_D0) rfl
    have off' : ¬ dp_st n 9 0 (dp_W T B sp j) dp_D0 = 110 := by
      rcases cs with ⟨q, _⟩ | ⟨q, _⟩
      · rw [q]; decide
      · rw [q]; decide
    have h' : lq n 0 (dp_st n 9 0 (dp_W T B sp j) dp_D0) T (dp_W T B sp j) dp_D0 (dp_B n 9 0 (dp_W T B sp j) dp_D0 B) (dp_sp n 9 0 (dp_W T B sp j) dp_D0 sp) := ⟨P', off', h0, HF', CW'⟩
    obtain ⟨τ, t1, t2, t3⟩ := dp_tk_ch h0 RP 0 (Nat.le_refl _)
    refine ⟨_, _, _, _, τ, h', ?_, t1, by omega, lq_tk' h' t3, fun r A s K X Kf kk => ?_⟩
    · rcases cs with ⟨q, _⟩ | ⟨q, _⟩
      · exact Or.inl q
      · exact Or.inr q
    · refine dp_begin1 (by omega) off fw P Kf (fun v hv => ?_)
      rw [dp_nw5 t3]
      exact kk 0 _ v hv
  · exact Or.inl ⟨fw, fun r A s K Kf kk => dp_begin0 (nI_pos (by omega)) off fw P Kf ⟨rfl, kk⟩⟩
end LQA
