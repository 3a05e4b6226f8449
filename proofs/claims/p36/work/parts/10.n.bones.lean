/-! bones, likeness, the log -/
noncomputable def dq_bp (w : dq_W) (t i : Nat) : Int32 := dq_if (i < t ∧ dq_cr w i) (w 25 i) (-2)
def ax_lay (B : Nat → Int32) (sp : Int32) (i : Nat) (w : dq_W) : dq_W := fun q k => if q = 25 ∧ k < i ∧ B k ≠ -2 then (if B k = -1 then sp else B k) else w q k
noncomputable def ax_bones (B : Nat → Int32) (sp : Int32) (w : dq_W) : dq_W := dq_if (∃ c, c < 144 ∧ sp = nI c ∧ dq_free (w 2 c)) (ax_lay B sp 24 w) w
section DQN
variable {p n t l : Nat} {s : dk_S} {w : dq_W} {K : Int32 → dk_S → Prop} {J : dk_S → Prop}
theorem kw_note (hp0 : p ≠ 0) (H : dq_WR w (s p)) (I : dq_IV n t l w) (k : ∀ u, (∀ i, i < 24 → u 0 46 i = dq_bp w t i) → (∀ a b, a ≠ 0 ∨ (b ≠ 45 ∧ b ≠ 46) → u a b = s a b) → u 0 45 1 = nI (dq_pl w 0) → J u) : wf_X0_note p s J := by
  unfold wf_X0_note
  have ht := I.t24
  refine kw_heroSpot H I.pl (nm_e ?_)
  refine loop_0 (fun m i u => wf_X0_note_10 p J m (nI i) u) (fun i u => (∀ j, j < i → u 0 46 j = dq_bp w t j) ∧ (∀ a b, a ≠ 0 ∨ (b ≠ 45 ∧ b ≠ 46) → u a b = s a b) ∧ u 0 45 1 = nI (dq_pl w 0)) 24 _ ⟨fun j hj => absurd hj (Nat.not_lt_zero _), fun a b hab => dq_row_r (by omega), by rw [dq_row_self]; rfl⟩ ?_ ?_
  · rintro m u ⟨h1, h2, h3⟩
    show wf_X0_note_10 p J (m + 1) (nI 24) u
    unfold wf_X0_note_10
    exact br_t (by decide) (k u h1 h2 h3)
  · rintro m i u hi ⟨h1, h2, h3⟩ h
    show wf_X0_note_10 p J (m + 1) (nI i) u
    unfold wf_X0_note_10
    have hup : u p = s p := funext fun b => h2 p b (Or.inl hp0)
    have Hu : dq_WR w (u p) := by rw [hup]; exact H
    have stp : ∀ v, v = dq_bp w t i → ∀ B : Int32 → dk_S → Prop, (∀ x y, B x y = wf_X0_note_10 p J m x y) → wf_X8_put 0 46 24 (nI i) v u (fun s10 => ∀ v11 : Int32, v11 = nI i + 1 → B v11 s10) := by
      intro v hv B hB
      refine kx_put hi (by decide) (nm_r (nI_1 i) ?_)
      rw [hB]
      refine h _ ⟨fun j hj => ?_, fun a b hab => ?_, ?_⟩
      · rw [dq_st_p]
        by_cases e : j = i
        · rw [e, dq_set_eq, hv]
        · rw [dq_set_ne (Or.inr e)]; exact h1 j (by omega)
      · unfold dq_st
        rw [dq_row_r (by omega)]; exact h2 a b hab
      · rw [dq_st_p, dq_set_q (by decide)]; exact h3
    have no : ¬ (i < t ∧ dq_cr w i) → wf_X0_note_44 p J (wf_X0_note_10 p J m) (nI i) 0 u := by
      intro hno
      unfold wf_X0_note_44
      exact dq_0 (stp _ (dq_if_f hno).symm _ (fun _ _ => rfl))
    refine br_f (nI_ge (b := 24) hi (by decide)) ?_
    rw [Hu.1 23 2 (by decide) (by decide), I.ht]
    refine br_c (fun c1 => no fun g => ?_) (fun c1 => kw_outerPlace Hu I hi ⟨fun c2 => no fun g => c2 g.2, fun c2 => ?_⟩)
    · have := (nI_leI (by omega) (by omega)).1 c1; omega
    · have hit : i < t := Nat.lt_of_not_le fun g => c1 ((nI_leI (by omega) (by omega)).2 g)
      unfold wf_X0_note_44
      refine dq_1 (kw_at24 Hu hi (by omega) (stp _ ?_ _ (fun _ _ => rfl)))
      exact (dq_if_t ⟨hit, c2⟩).symm
theorem ax_lay_o {B : Nat → Int32} {sp : Int32} {i q k : Nat} (h : q ≠ 25 ∨ i ≤ k) : ax_lay B sp i w q k = w q k := if_neg (by omega)
theorem ax_lay_t {B : Nat → Int32} {sp : Int32} {i : Nat} (h : B i ≠ -2) : dq_set (ax_lay B sp i w) 25 i (if B i = -1 then sp else B i) = ax_lay B sp (i + 1) w := by
  funext q k
  by_cases e : q = 25 ∧ k = i
  · obtain ⟨rfl, rfl⟩ := e
    rw [dq_set_eq]
    exact (if_pos ⟨rfl, by omega, h⟩).symm
  · rw [dq_set_ne (by omega)]
    by_cases c : q = 25 ∧ k < i ∧ B k ≠ -2
    · exact (if_pos c).trans (if_pos ⟨c.1, by omega, c.2.2⟩).symm
    · exact (if_neg c).trans (if_neg (fun g => c ⟨g.1, by omega, g.2.2⟩)).symm
theorem ax_lay_f {B : Nat → Int32} {sp : Int32} {i : Nat} (h : B i = -2) : ax_lay B sp i w = ax_lay B sp (i + 1) w := by
  funext q k
  by_cases c : q = 25 ∧ k < i ∧ B k ≠ -2
  · exact (if_pos c).trans (if_pos ⟨c.1, by omega, c.2.2⟩).symm
  · refine (if_neg c).trans (if_neg (fun g => c ⟨g.1, ?_, g.2.2⟩)).symm
    have : k ≠ i := fun e => g.2.2 (e ▸ h)
    omega
theorem kw_layIn {B : Nat → Int32} {sp : Int32} (hp0 : p ≠ 0) (H : dq_WR w (s p)) (hS : dq_SG w) (hsp : s 0 45 1 = sp) (hsp2 : sp = -1 ∨ ∃ c, c < 144 ∧ sp = nI c) (hB : ∀ i, i < 24 → s 0 46 i = B i) (k : ∀ u, dq_WR (ax_bones B sp w) (u p) → dq_fr p s u → J u) : wf_X0_layIn p s J := by
  unfold wf_X0_layIn
  unfold ax_bones at k
  rw [hsp]
  rcases hsp2 with e | ⟨c, hc, e⟩
  · have hno : ¬ ∃ c, c < 144 ∧ sp = nI c ∧ dq_free (w 2 c) := fun ⟨c, h1, h2, _⟩ => by
      rw [e] at h2; exact dq_m1 (by omega) h2
    rw [dq_if_f hno] at k
    exact br_t e (k s H dq_fr.rf)
  · refine br_f (by rw [e]; exact dq_m1' (by omega)) ?_
    rw [e, ← dq_pI_in hc]
    refine kw_isFreeAt H hS (by omega) (fun f => dq_1' ?_) (fun f => dq_0' ?_)
    · rw [dq_sg_in hc] at f
      rw [dq_if_t ⟨c, hc, e, f⟩] at k
      refine loop_0 (fun m i u => wf_X0_layIn_25 p J m (nI i) u) (fun i u => dq_WR (ax_lay B sp i w) (u p) ∧ dq_fr p s u) 24 s ⟨?_, dq_fr.rf⟩ ?_ ?_
      · have : ax_lay B sp 0 w = w := by funext q j; exact ax_lay_o (Or.inr (Nat.zero_le _))
        rw [this]; exact H
      · rintro m u ⟨h1, h2⟩
        show wf_X0_layIn_25 p J (m + 1) (nI 24) u
        unfold wf_X0_layIn_25
        exact br_t (by decide) (k u h1 h2)
      · rintro m i u hi ⟨h1, h2⟩ h
        show wf_X0_layIn_25 p J (m + 1) (nI i) u
        unfold wf_X0_layIn_25
        have e0 : u 0 = s 0 := h2 0 (Ne.symm hp0)
        refine br_f (nI_ge (b := 24) hi (by decide)) (kx_at hi (by decide) ?_)
        rw [e0, hB i hi]
        refine br_c (fun c1 => nm_r (nI_1 i) (h u ⟨by rw [← ax_lay_f c1]; exact h1, h2⟩)) (fun c1 => ⟨fun c2 => ?_, fun c2 => ?_⟩)
        · refine kw_put h1 hi (by decide) (by omega) (fun u2 h3 h4 => nm_r (nI_1 i) (h u2 ⟨?_, h2.tr h4⟩))
          rw [← ax_lay_t c1, if_neg c2]; exact h3
        · rw [hsp]
          refine kw_put h1 hi (by decide) (by omega) (fun u2 h3 h4 => nm_r (nI_1 i) (h u2 ⟨?_, h2.tr h4⟩))
          rw [← ax_lay_t c1, if_pos c2]; exact h3
    · rw [dq_sg_in hc] at f
      have hno : ¬ ∃ c, c < 144 ∧ sp = nI c ∧ dq_free (w 2 c) := by
        rintro ⟨c', h1, h2, h3⟩
        have : c' = c := (nI_eq (by omega) (by omega)).1 (h2.symm.trans e)
        rw [this] at h3
        exact f h3
      rw [dq_if_f hno] at k
      exact k s H dq_fr.rf
noncomputable def ax_hands (t : Nat) (w : dq_W) : dq_W := dq_mv (-1) (nI (dq_pl w 0)) t w
theorem kw_layHands (H : dq_WR w (s p)) (I : dq_IV n t l w) (k : ∀ u, dq_WR (ax_hands t w) (u p) → dq_fr p s u → J u) : wf_X7_layHands p s J := by
  unfold wf_X7_layHands
  exact kw_heroSpot H I.pl (kw_moveAll H I k)
theorem ax_hands_I (I : dq_IV n t l w) : dq_IV n t l (ax_hands t w) := I.mv (Or.inr (Or.inr ⟨_, (I.pl 0 (by omega)).1, rfl⟩))
theorem kx_isLikeV {o : Nat} (hS : dq_SG (s p)) (hSo : dq_SG (s o)) (he : ∀ c, c < 144 → s p 2 c = s o 2 c) (k : K 1 s) : wf_X1_isLike p o s K := by
  unfold wf_X1_isLike
  refine dq_ls (fun m i => wf_X1_isLike_2 p o K m (nI i) s) (fun _ => True) 144 ?_ ?_
  · intro m h
    show wf_X1_isLike_2 p o K (m + 1) (nI 144) s
    unfold wf_X1_isLike_2
    exact br_t (by decide) k
  · intro m i hi hp h
    show wf_X1_isLike_2 p o K (m + 1) (nI i) s
    unfold wf_X1_isLike_2
    refine br_f (nI_ge (b := 144) hi (by decide)) ?_
    have e : dq_pI i = nI i := dq_pI_in hi
    have q := kx_signAt (c := i) (K := fun r3 s2 => wf_X1_signAt o (nI i) s2 (fun r5 s4 => ((r3 = r5 → ∀ v6 : Int32, v6 = nI i + 1 → wf_X1_isLike_2 p o K m v6 s4) ∧ (¬ r3 = r5 → K 0 s4)))) hS (by omega) (by
      have q2 := kx_signAt (c := i) (K := fun r5 s4 => ((dq_sg (s p) i = r5 → ∀ v6 : Int32, v6 = nI i + 1 → wf_X1_isLike_2 p o K m v6 s4) ∧ (¬ dq_sg (s p) i = r5 → K 0 s4))) hSo (by omega) (br_t (by rw [dq_sg_in hi, dq_sg_in hi]; exact he i hi) (nm_r (nI_1 i) (h trivial)))
      rw [e] at q2
      exact q2)
    rw [e] at q
    exact q
theorem kw_isLike {o : Nat} (H : dq_WR w (s p)) (Ho : dq_WR w (s o)) (I : dq_IV n t l w) (k : K 1 s) : wf_X7_isLike p o s K := by
  unfold wf_X7_isLike
  have h8 := I.h8
  have ht := I.t24
  refine ⟨fun g => absurd ?_ g, fun _ => kx_isLikeV (dq_SG_e H.1 I.sg) (dq_SG_e Ho.1 I.sg) (fun c hc => ?_) (dq_1 (kx_isLikeC (n := n) ?_ h8 ?_ (fun i hi => ⟨?_, ?_⟩) (dq_1 (kx_isLikeT (t := t) ?_ ht ?_ (fun i hi => ?_) (dq_1 k)))))⟩
  · rw [H.f0 (by omega) (by omega), Ho.f0 (by omega) (by omega)]
  · rw [H.1 2 c (Nat.zero_le _) hc, Ho.1 2 c (Nat.zero_le _) hc]
  · rw [H.1 13 9 (by decide) (by decide), I.hn]
  · rw [Ho.1 13 9 (by decide) (by decide), I.hn]
  · rw [H.1.g8 (by omega) (by omega), Ho.1.g8 (by omega) (by omega)]
  · rw [H.1.g8 (by omega) (by omega), Ho.1.g8 (by omega) (by omega)]
  · rw [H.1 23 2 (by decide) (by decide), I.ht]
  · rw [Ho.1 23 2 (by decide) (by decide), I.ht]
  · rw [H.1 25 i (Nat.zero_le _) (show i < 24 by omega), Ho.1 25 i (Nat.zero_le _) (show i < 24 by omega)]
theorem kx_logAdd {m : Nat} {x y z : Int32} (hm : s 0 41 3 = nI m) (hm2 : m < 512) (k : ∀ u, (∀ a b, a ≠ 0 ∨ (b ≠ 41 ∧ b ≠ 42 ∧ b ≠ 43 ∧ b ≠ 44) → u a b = s a b) → u 0 41 3 = nI (m + 1) → u 0 42 m = x → u 0 43 m = y → u 0 44 m = z → (∀ q i, 42 ≤ q → q ≤ 44 → i < m → u 0 q i = s 0 q i) → J u) : wf_X5_add x y z s J := by
  unfold wf_X5_add
  rw [hm]
  have e1 : ∀ {q v}, q ≠ 41 → dq_st s 0 q m v 0 41 3 = nI m := fun h => by rw [dq_st_p, dq_set_q (Ne.symm h)]; exact hm
  refine br_f (nI_ge (b := 512) hm2 (by decide)) (kx_put hm2 (by decide) ?_)
  rw [e1 (by decide)]
  refine kx_put hm2 (by decide) ?_
  have e2 : dq_st (dq_st s 0 42 m x) 0 43 m y 0 41 3 = nI m := by rw [dq_st_p, dq_set_q (by decide), e1 (by decide)]
  rw [e2]
  refine kx_put hm2 (by decide) (nm_e ?_)
  have e3 : dq_st (dq_st (dq_st s 0 42 m x) 0 43 m y) 0 44 m z 0 41 3 = nI m := by rw [dq_st_p, dq_set_q (by decide), e2]
  rw [e3]
  have r : ∀ q, q ≠ 41 → dk_row (dq_st (dq_st (dq_st s 0 42 m x) 0 43 m y) 0 44 m z) 0 41 (upd (dq_st (dq_st (dq_st s 0 42 m x) 0 43 m y) 0 44 m z 0 41) 3 (nI m + 1)) 0 q = dq_set (dq_set (dq_set (s 0) 42 m x) 43 m y) 44 m z q := fun q hq => by
    rw [dq_row_r (Or.inr hq), dq_st_p, dq_st_p, dq_st_p]
  refine k _ (fun a b hab => ?_) ?_ ?_ ?_ ?_ (fun q i h1 h2 hi => ?_)
  · rw [dq_row_r (by omega)]
    unfold dq_st
    rw [dq_row_r (by omega), dq_row_r (by omega), dq_row_r (by omega)]
  · rw [dq_row_self]
    show upd _ 3 _ 3 = _
    unfold upd
    rw [if_pos rfl, nI_1]
  · rw [r 42 (by decide), dq_set_q (by decide), dq_set_q (by decide), dq_set_eq]
  · rw [r 43 (by decide), dq_set_q (by decide), dq_set_eq]
  · rw [r 44 (by decide), dq_set_eq]
  · rw [r q (by omega), dq_set_ne (by omega), dq_set_ne (by omega), dq_set_ne (by omega)]
end DQN
