/-! what a world does -/
noncomputable def ax_strike (b : Nat) (v : Int32) (w : dq_W) : dq_W := dq_if (dq_lv (dq_set w 18 b (w 18 b - v)) b) (dq_set w 18 b (w 18 b - v)) (dq_set (dq_set w 18 b (w 18 b - v)) 0 7 (w 0 7 + dq_if (dq_wk w b) (-2) 1))
/-- a beast that hears a noise -/
def dq_hd (w : dq_W) (c : Nat) (m : Nat) (i : Nat) : Prop := 1 ≤ i ∧ dq_lv w i ∧ 0 ≤ dq_D (dq_tl w 3 7) c (dq_pl w i) ∧ dq_D (dq_tl w 3 7) c (dq_pl w i) ≤ m
noncomputable def ax_noise (c m i : Nat) (w : dq_W) : dq_W := fun q k => dq_if (q = 22 ∧ k < i ∧ dq_hd w c m k) (nI c) (w q k)
noncomputable def ax_ears (w : dq_W) (c m i : Nat) : Int32 := dq_sum (dq_hd w c m) (fun _ => 1) i
def ax_use (x : Nat) (w : dq_W) : dq_W := dq_set (dq_set w 25 x (-2)) 0 9 (w 0 9 ||| (1 <<< (w 24 x &&& 31)))
noncomputable def ax_work (d b : Nat) (w : dq_W) : dq_W := dq_if (w 10 d = 98) (dq_if (b = 0) (dq_set w 0 8 (w 11 d)) w) (dq_if (w 10 d = 100) (dq_set w 18 b (w 18 b - w 11 d)) (dq_if (w 10 d = 104) (dq_set w 18 b (if w 18 b + w 11 d < w 17 b then w 18 b + w 11 d else w 17 b)) (dq_if (w 10 d = 115) (dq_set (dq_set w 20 b (w 11 d)) 21 b 12) w)))
/-- a thing that burns -/
def dq_bu (w : dq_W) (c0 : Nat) (r : Int32) (i : Nat) : Prop := ∃ c, c < 144 ∧ w 25 i = nI c ∧ ¬ r < nI (dq_gp c c0) ∧ w 9 (dq_kd w i) = 1
noncomputable def ax_burn (t c0 : Nat) (r : Int32) (w : dq_W) : Nat → dq_W
  | 0 => w
  | i + 1 => dq_if (dq_bu (ax_burn t c0 r w i) c0 r i) (dq_mv ((-3) - nI i) (ax_burn t c0 r w i 25 i) t (dq_set (ax_burn t c0 r w i) 25 i (-2))) (ax_burn t c0 r w i)
noncomputable def ax_burnBy (t d c0 : Nat) (r : Int32) (w : dq_W) : dq_W := dq_if (w 10 d = 102) (ax_burn t c0 r w t) w
noncomputable def ax_sh (d c0 : Nat) (r : Int32) (w : dq_W) : Nat → dq_W
  | 0 => w
  | i + 1 => dq_if (dq_lv (ax_sh d c0 r w i) i ∧ ¬ r < nI (dq_gp (dq_pl (ax_sh d c0 r w i) i) c0)) (ax_work d i (ax_sh d c0 r w i)) (ax_sh d c0 r w i)
noncomputable def ax_shatter (n x c0 : Nat) (w : dq_W) : dq_W := ax_sh (dq_kd w x) c0 (w 12 (dq_kd w x)) (ax_use x w) n
noncomputable def ax_pray (w : dq_W) : dq_W := dq_if (dq_wk w 0 ∧ ¬ w 0 7 < 0) (dq_set (dq_set w 18 0 (w 17 0)) 0 7 (w 0 7 - 5)) (dq_set w 0 7 (w 0 7 - 1))
section DQIV2
variable {n t l : Nat} {w f : dq_W}
theorem ax_strike_I {b : Nat} {v : Int32} (I : dq_IV n t l w) : dq_IV n t l (ax_strike b v w) := by
  unfold ax_strike
  by_cases h : dq_lv (dq_set w 18 b (w 18 b - v)) b
  · rw [dq_if_t h]; exact I.st (by decide)
  · rw [dq_if_f h]; exact (I.st (by decide)).st (by decide)
theorem ax_noise_o {c m i q k : Nat} (h : q ≠ 22 ∨ i ≤ k) : ax_noise c m i w q k = w q k := dq_if_f (fun g => by omega)
theorem ax_noise_I {c m i : Nat} (hc : c < 144) (I : dq_IV n t l w) : dq_IV n t l (ax_noise c m i w) := by
  have e : ∀ q, q ≠ 22 → ax_noise c m i w q = w q := fun q hq => funext fun k => ax_noise_o (Or.inl hq)
  refine ⟨⟨by rw [e 13 (by decide)]; exact I.hn, I.h1, I.h8⟩, ⟨by rw [e 23 (by decide)]; exact I.ht, I.t24⟩, ⟨by rw [e 26 (by decide)]; exact I.hl, I.l4⟩, fun c hc => by rw [e 2 (by decide)]; exact I.sg c hc, fun j hj => ?_, fun x hx => ?_, fun k hk => ?_, fun j hj => ?_, fun k hk => ?_, fun x hx => ?_, ?_⟩
  · unfold dq_pl; rw [e 14 (by decide)]; exact I.pl j hj
  · unfold dq_kd; rw [e 24 (by decide)]; exact I.kd x hx
  · rw [e 27 (by decide)]; exact I.lp k hk
  · unfold ax_noise
    by_cases g : 22 = 22 ∧ j < i ∧ dq_hd w c m j
    · rw [dq_if_t g]; exact Or.inr ⟨c, hc, rfl⟩
    · rw [dq_if_f g]; exact I.am j hj
  · rw [e 10 (by decide)]; exact I.ef k hk
  · rw [e 25 (by decide)]; exact I.tp x hx
  · obtain ⟨r, hr⟩ := I.ac
    refine ⟨r, fun x hx => ?_⟩
    rw [dq_bg_c (w := w) (by rw [e 25 (by decide)])]
    exact hr x hx
theorem ax_noise_s {c m i : Nat} (h : dq_hd w c m i) : dq_set (ax_noise c m i w) 22 i (nI c) = ax_noise c m (i + 1) w := by
  funext q k
  by_cases e : q = 22 ∧ k = i
  · obtain ⟨rfl, rfl⟩ := e
    rw [dq_set_eq]
    exact (dq_if_t ⟨rfl, by omega, h⟩).symm
  · rw [dq_set_ne (by omega)]
    exact dq_if_c ⟨fun g => ⟨g.1, by omega, g.2.2⟩, fun g => ⟨g.1, by omega, g.2.2⟩⟩
theorem ax_noise_n {c m i : Nat} (h : ¬ dq_hd w c m i) : ax_noise c m i w = ax_noise c m (i + 1) w := by
  funext q k
  refine dq_if_c ⟨fun g => ⟨g.1, by omega, g.2.2⟩, fun g => ⟨g.1, ?_, g.2.2⟩⟩
  have : k ≠ i := fun e => h (e ▸ g.2.2)
  omega
theorem ax_noise_0 {c m : Nat} : ax_noise c m 1 w = w := by
  funext q k
  exact dq_if_f (fun g => by have := g.2.2.1; omega)
theorem ax_use_I {x : Nat} (I : dq_IV n t l w) : dq_IV n t l (ax_use x w) := (I.s25 (Or.inr (Or.inl rfl))).st (by decide)
theorem ax_work_I {d b : Nat} (I : dq_IV n t l w) : dq_IV n t l (ax_work d b w) := by
  unfold ax_work
  by_cases h1 : w 10 d = 98
  · rw [dq_if_t h1]
    by_cases h : b = 0
    · rw [dq_if_t h]; exact I.st (by decide)
    · rw [dq_if_f h]; exact I
  · rw [dq_if_f h1]
    by_cases h2 : w 10 d = 100
    · rw [dq_if_t h2]; exact I.st (by decide)
    · rw [dq_if_f h2]
      by_cases h3 : w 10 d = 104
      · rw [dq_if_t h3]; exact I.st (by decide)
      · rw [dq_if_f h3]
        by_cases h4 : w 10 d = 115
        · rw [dq_if_t h4]; exact (I.st (by decide)).st (by decide)
        · rw [dq_if_f h4]; exact I
theorem ax_burn_I {c0 : Nat} {r : Int32} (I : dq_IV n t l w) : ∀ i, dq_IV n t l (ax_burn t c0 r w i)
  | 0 => I
  | i + 1 => by
    have ih := ax_burn_I (c0 := c0) (r := r) I i
    show dq_IV n t l (dq_if (dq_bu (ax_burn t c0 r w i) c0 r i) (dq_mv ((-3) - nI i) (ax_burn t c0 r w i 25 i) t (dq_set (ax_burn t c0 r w i) 25 i (-2))) (ax_burn t c0 r w i))
    by_cases h : dq_bu (ax_burn t c0 r w i) c0 r i
    · rw [dq_if_t h]
      obtain ⟨c, hc, e, _⟩ := h
      rw [e]
      exact (ih.s25 (Or.inr (Or.inl rfl))).mv (Or.inr (Or.inr ⟨c, hc, rfl⟩))
    · rw [dq_if_f h]; exact ih
theorem ax_burnBy_I {d c0 : Nat} {r : Int32} (I : dq_IV n t l w) : dq_IV n t l (ax_burnBy t d c0 r w) := by
  unfold ax_burnBy
  by_cases h : w 10 d = 102
  · rw [dq_if_t h]; exact ax_burn_I I t
  · rw [dq_if_f h]; exact I
theorem ax_sh_I {d c0 : Nat} {r : Int32} (I : dq_IV n t l w) : ∀ i, dq_IV n t l (ax_sh d c0 r w i)
  | 0 => I
  | i + 1 => by
    have ih := ax_sh_I (d := d) (c0 := c0) (r := r) I i
    show dq_IV n t l (dq_if (dq_lv (ax_sh d c0 r w i) i ∧ ¬ r < nI (dq_gp (dq_pl (ax_sh d c0 r w i) i) c0)) (ax_work d i (ax_sh d c0 r w i)) (ax_sh d c0 r w i))
    by_cases h : dq_lv (ax_sh d c0 r w i) i ∧ ¬ r < nI (dq_gp (dq_pl (ax_sh d c0 r w i) i) c0)
    · rw [dq_if_t h]; exact ax_work_I ih
    · rw [dq_if_f h]; exact ih
theorem ax_shatter_I {x c0 : Nat} (I : dq_IV n t l w) : dq_IV n t l (ax_shatter n x c0 w) := ax_sh_I (ax_use_I I) n
theorem ax_pray_I (I : dq_IV n t l w) : dq_IV n t l (ax_pray w) := by
  unfold ax_pray
  by_cases h : dq_wk w 0 ∧ ¬ w 0 7 < 0
  · rw [dq_if_t h]; exact (I.st (by decide)).st (by decide)
  · rw [dq_if_f h]; exact I.st (by decide)
end DQIV2
section DQA
variable {p n t l : Nat} {s : dk_S} {w : dq_W} {K : Int32 → dk_S → Prop} {J : dk_S → Prop}
theorem kw_strike {b : Nat} {v : Int32} (H : dq_WR w (s p)) (hb : b < 8) (k : ∀ u, dq_WR (ax_strike b v w) (u p) → dq_fr p s u → J u) : wf_X7_strike p (nI b) v s J := by
  unfold wf_X7_strike
  unfold ax_strike at k
  have e7 : dq_set w 18 b (w 18 b - v) 0 7 = w 0 7 := dq_set_q (by decide)
  refine kw_isWeak H hb (fun hw => ?_) (fun hw => ?_)
  · refine kw_harm H hb (fun u h1 h2 => kw_lives h1 hb (fun hl => dq_1' (k u ?_ h2)) (fun hl => dq_0' (dq_1 (kw_fld h1 (fun u2 h3 h4 => k u2 ?_ (h2.tr h4))))))
    · rw [dq_if_t hl]; exact h1
    · rw [h1.f0 (by omega) (by omega), e7] at h3
      rw [dq_if_f hl, dq_if_t hw]; exact h3
  · refine kw_harm H hb (fun u h1 h2 => kw_lives h1 hb (fun hl => dq_1' (k u ?_ h2)) (fun hl => dq_0' (dq_0 (kw_fld h1 (fun u2 h3 h4 => k u2 ?_ (h2.tr h4))))))
    · rw [dq_if_t hl]; exact h1
    · rw [h1.f0 (by omega) (by omega), e7] at h3
      rw [dq_if_f hl, dq_if_f hw]; exact h3
theorem kw_makeNoise {c m : Nat} (H : dq_WR w (s p)) (I : dq_IV n t l w) (hc : c < 144) (hm : m < 2 ^ 31) (k : ∀ u, dq_WR (ax_noise c m n w) (u p) → dq_fr p s u → K (ax_ears w c m n) u) : wf_X7_makeNoise p (nI c) (nI m) s K := by
  unfold wf_X7_makeNoise
  have h8 := I.h8
  have h1n := I.h1
  refine kx_flood (sh := 3) (Or.inl rfl) (dq_SG_e H.1 I.sg) hc (by decide) (by decide) hm (fun u z g1 g2 g3 g4 => ?_)
  rw [dq_tl_e H.1] at g3 g4
  have heard : ∀ i, i < n → 1 ≤ i → dq_lv w i → (dq_hd w c m i ↔ (0 ≤ z (dq_pl w i) ∧ z (dq_pl w i) ≤ m)) := by
    intro i hi hi1 hl
    have hp := (I.pl i (by omega)).1
    constructor
    · rintro ⟨_, _, q1, q2⟩
      rcases dq_D_s (dq_tl w 3 7) c (dq_pl w i) with ⟨e1, _⟩ | ⟨e1, e2, e3⟩
      · omega
      · have q := g4 _ _ e2 (Or.inl (by omega))
        have q5 := g3 _ hp
        have := q.2.2
        rcases q5 with q5 | q5
        · exact absurd q5 q.2.1
        · exact ⟨q5.1, by omega⟩
    · rintro ⟨q1, q2⟩
      rcases g3 _ hp with q | ⟨q3, q4, q5⟩
      · omega
      · rcases dq_D_s (dq_tl w 3 7) c (dq_pl w i) with ⟨e1, e2⟩ | ⟨e1, e2, e3⟩
        · exact absurd q5 (e2 _)
        · have := e3 _ q5
          exact ⟨hi1, hl, e1, by omega⟩
  have hW : dq_WR w (u p) := by
    refine ⟨fun q c l1 l2 => ?_, H.2.same ?_ (fun c hc => ?_) (fun c hc => rfl)⟩
    · have hq : q ≠ 5 ∧ q ≠ 3 ∧ q ≠ 4 := by
        refine ⟨?_, ?_, ?_⟩ <;> rintro rfl <;> exact absurd l2 (by simp [dq_hi])
      rw [g1 p q (Or.inr hq)]
      exact H.1 q c l1 l2
    · rw [g1 p 1 (Or.inr (by decide))]
    · rw [g1 p 6 (Or.inr (by decide))]
  have hfr : dq_fr p s u := fun a ha => funext fun q => g1 a q (Or.inl ha)
  have e1 : ax_ears w c m 1 = 0 := (dq_sum_f (fun g => by have := g.1; omega) : dq_sum (dq_hd w c m) (fun _ => 1) (0 + 1) = dq_sum (dq_hd w c m) (fun _ => 1) 0)
  refine ⟨n + 1, ?_⟩
  rw [← e1]
  refine loop_i (fun m' i u' => wf_X7_makeNoise_24 p K m' (nI c) (nI m) (ax_ears w c m i) (nI i) u') (fun i u' => 1 ≤ i ∧ dq_WR (ax_noise c m i w) (u' p) ∧ dq_fr p s u' ∧ u' p 5 = u p 5) n ?_ ?_ (n + 1) 1 u h1n (by omega) ⟨by omega, by rw [ax_noise_0]; exact hW, hfr, rfl⟩
  · rintro m' u' ⟨_, q1, q2, q3⟩
    show wf_X7_makeNoise_24 p K (m' + 1) (nI c) (nI m) (ax_ears w c m n) (nI n) u'
    unfold wf_X7_makeNoise_24
    rw [q1.1 13 9 (by decide) (by decide), ax_noise_o (by omega), I.hn]
    exact br_t (nI_le (Nat.le_refl _) (by omega)) (k u' q1 q2)
  · rintro m' i u' hi ⟨q0, q1, q2, q3⟩ h
    show wf_X7_makeNoise_24 p K (m' + 1) (nI c) (nI m) (ax_ears w c m i) (nI i) u'
    unfold wf_X7_makeNoise_24
    rw [q1.1 13 9 (by decide) (by decide), ax_noise_o (by omega), I.hn]
    refine br_f (nI_ge hi (by omega)) (kw_at8 q1 (by omega) (by omega) ?_)
    rw [ax_noise_o (by omega), (I.pl i (by omega)).2]
    have hp := (I.pl i (by omega)).1
    refine kx_at hp (by decide) ?_
    rw [q3, g2 _ hp]
    have zb : -1 ≤ z (dq_pl w i) ∧ z (dq_pl w i) ≤ 1300 := by rcases g3 _ hp with q | q <;> omega
    have el : dq_lv (ax_noise c m i w) i = dq_lv w i := by unfold dq_lv; rw [ax_noise_o (by omega)]
    have no : ¬ dq_hd w c m i → wf_X7_makeNoise_99 p K (wf_X7_makeNoise_24 p K m') (nI c) (nI m) (ax_ears w c m i) (nI i) u' := by
      intro hno
      unfold wf_X7_makeNoise_99
      have h := h u' ⟨by omega, by rw [← ax_noise_n hno]; exact q1, q2, q3⟩
      have e : ax_ears w c m (i + 1) = ax_ears w c m i := dq_sum_f hno
      rw [e] at h
      exact nm_r (nI_1 i) h
    refine kw_lives q1 (by omega) (fun hl => dq_1 ?_) (fun hl => dq_0 (no fun g => hl (by rw [el]; exact g.2.1)))
    rw [el] at hl
    have hh := heard i hi q0 hl
    refine br_c (fun c1 => no fun g => ?_) (fun c1 => br_c (fun c2 => no fun g => ?_) (fun c2 => ?_))
    · have := (hh.1 g).1
      have := (dq_ilt (a := z (dq_pl w i)) (b := 0) (by omega) (by omega) (by omega) (by omega)).1 c1
      omega
    · have := (hh.1 g).2
      rw [dq_iN] at c2
      have := (dq_ilt (by omega) (by omega) (by omega) (by omega)).1 c2
      omega
    · have hy : dq_hd w c m i := hh.2 ⟨by
        refine Int.not_lt.mp fun g => c1 ?_
        exact (dq_ilt (a := z (dq_pl w i)) (b := 0) (by omega) (by omega) (by omega) (by omega)).2 g, by
        refine Int.not_lt.mp fun g => c2 ?_
        rw [dq_iN]
        exact (dq_ilt (by omega) (by omega) (by omega) (by omega)).2 g⟩
      refine kx_put (by omega) (by decide) (nm_e ?_)
      unfold wf_X7_makeNoise_99
      have h := h (dq_st u' p 22 i (nI c)) ⟨by omega, by rw [← ax_noise_s hy, dq_st_p]; exact q1.set (by omega), q2.tr dq_st_fr, by rw [dq_st_p, dq_set_r (by decide)]; exact q3⟩
      have e : ax_ears w c m (i + 1) = ax_ears w c m i + 1 := dq_sum_t hy
      rw [e] at h
      exact nm_r (nI_1 i) h
theorem kw_useUp {x : Nat} (H : dq_WR w (s p)) (hx : x < 24) (k : ∀ u, dq_WR (ax_use x w) (u p) → dq_fr p s u → J u) : wf_X7_useUp p (nI x) s J := by
  unfold wf_X7_useUp
  refine kw_put H hx (by decide) (by omega) (fun u h1 h2 => kw_at24 h1 hx (by omega) (kw_fld h1 (fun u2 h3 h4 => k u2 ?_ (h2.tr h4))))
  rw [h1.f0 (by omega) (by omega), dq_set_q (by decide), dq_set_q (by decide)] at h3
  exact h3
theorem kw_work {d b : Nat} (H : dq_WR w (s p)) (hd : d < 8) (hb : b < 8) (k : ∀ u, dq_WR (ax_work d b w) (u p) → dq_fr p s u → J u) : wf_X7_work p (nI d) (nI b) s J := by
  unfold wf_X7_work
  unfold ax_work at k
  refine kw_at8 H hd (by omega) (kw_at8 H hd (by omega) (br_c (fun c1 => ?_) (fun c1 => br_c (fun c2 => ?_) (fun c2 => br_c (fun c3 => ?_) (fun c3 => br_c (fun c4 => ?_) (fun c4 => ?_))))))
  · rw [dq_if_t c1] at k
    refine ⟨fun c2 => ?_, fun c2 => ?_⟩
    · have hb0 : b ≠ 0 := fun g => c2 (by rw [g]; rfl)
      rw [dq_if_f hb0] at k
      refine kw_fld H (fun u h1 h2 => k u ?_ h2)
      rw [H.f0 (by omega) (by omega), dq_set_same] at h1
      exact h1
    · have hb0 : b = 0 := (nI_eq (b := 0) (by omega) (by omega)).1 c2
      rw [dq_if_t hb0] at k
      exact kw_fld H (fun u h1 h2 => k u h1 h2)
  · rw [dq_if_f c1, dq_if_t c2] at k
    exact kw_harm H hb k
  · rw [dq_if_f c1, dq_if_f c2, dq_if_t c3] at k
    exact kw_heal H hb k
  · rw [dq_if_f c1, dq_if_f c2, dq_if_f c3, dq_if_t c4] at k
    exact kw_hasten H hb k
  · rw [dq_if_f c1, dq_if_f c2, dq_if_f c3, dq_if_f c4] at k
    exact k s H dq_fr.rf
theorem kw_burnBy {d c0 : Nat} {r : Int32} (H : dq_WR w (s p)) (I : dq_IV n t l w) (hd : d < 8) (hc : c0 < 144) (k : ∀ u, dq_WR (ax_burnBy t d c0 r w) (u p) → dq_fr p s u → J u) : wf_X7_burnBy p (nI d) (nI c0) r s J := by
  unfold wf_X7_burnBy
  unfold ax_burnBy at k
  have ht := I.t24
  refine kw_effectOf H I hd (br_c (fun c1 => ?_) (fun c1 => ?_))
  · rw [dq_if_t c1] at k
    refine loop_0 (fun m i u => wf_X7_burnBy_17 p J m (nI c0) r (nI i) u) (fun i u => dq_WR (ax_burn t c0 r w i) (u p) ∧ dq_fr p s u) t s ⟨H, dq_fr.rf⟩ ?_ ?_
    · rintro m u ⟨h1, h2⟩
      show wf_X7_burnBy_17 p J (m + 1) (nI c0) r (nI t) u
      unfold wf_X7_burnBy_17
      rw [h1.1 23 2 (by decide) (by decide), (ax_burn_I I t).ht]
      exact br_t (nI_le (Nat.le_refl _) (by omega)) (k u h1 h2)
    · rintro m i u hi ⟨h1, h2⟩ h
      show wf_X7_burnBy_17 p J (m + 1) (nI c0) r (nI i) u
      unfold wf_X7_burnBy_17
      have Ii := ax_burn_I (c0 := c0) (r := r) I i
      rw [h1.1 23 2 (by decide) (by decide), Ii.ht]
      have no : ¬ dq_bu (ax_burn t c0 r w i) c0 r i → ∀ v, dq_WR (ax_burn t c0 r w i) (v p) → dq_fr p s v → wf_X7_burnBy_108 p J (wf_X7_burnBy_17 p J m) (nI c0) r (nI i) v := by
        intro hno v h3 h4
        unfold wf_X7_burnBy_108
        have e : ax_burn t c0 r w (i + 1) = ax_burn t c0 r w i := dq_if_f hno
        exact nm_r (nI_1 i) (h v ⟨by rw [e]; exact h3, h4⟩)
      refine br_f (nI_ge hi (by omega)) (kw_at24 h1 (by omega) (by omega) (br_c (fun c2 => no (fun g => ?_) u h1 h2) (fun c2 => ?_)))
      · obtain ⟨c, hc, e, _⟩ := g
        rw [e] at c2
        exact nI_pos (by omega) c2
      · have hcell : ∃ c, c < 144 ∧ ax_burn t c0 r w i 25 i = nI c := by
          rcases Ii.tp i (by omega) with g | g | g | ⟨b, hb, g⟩
          · rw [g] at c2; exact absurd (by decide) c2
          · rw [g] at c2; exact absurd (by decide) c2
          · exact g
          · rw [g] at c2; exact absurd (dq_bag_neg (by omega)) c2
        obtain ⟨c, hc2, e⟩ := hcell
        rw [e]
        refine kx_gap hc2 hc (br_c (fun c3 => no (fun g => ?_) u h1 h2) (fun c3 => kw_at24 h1 (by omega) (by omega) ?_))
        · obtain ⟨c', hc', e', g, _⟩ := g
          have : c' = c := (nI_eq (by omega) (by omega)).1 (e'.symm.trans e)
          rw [this] at g
          exact g c3
        · obtain ⟨k1, k2⟩ := Ii.kd i (by omega)
          rw [k2]
          refine kw_isWooden h1 k1 (fun c4 => dq_1 ?_) (fun c4 => dq_0 (no (fun g => ?_) u h1 h2))
          · have hy : dq_bu (ax_burn t c0 r w i) c0 r i := ⟨c, hc2, e, c3, c4⟩
            refine kw_put h1 (by omega) (by decide) (by omega) (fun u2 h3 h4 => kw_moveAll h3 (Ii.s25 (Or.inr (Or.inl rfl))) (fun u3 h5 h6 => ?_))
            unfold wf_X7_burnBy_108
            have e2 : ax_burn t c0 r w (i + 1) = dq_mv ((-3) - nI i) (ax_burn t c0 r w i 25 i) t (dq_set (ax_burn t c0 r w i) 25 i (-2)) := dq_if_t hy
            exact nm_r (nI_1 i) (h u3 ⟨by rw [e2, e]; exact h5, (h2.tr h4).tr h6⟩)
          · obtain ⟨_, _, _, _, g⟩ := g
            exact c4 g
  · rw [dq_if_f c1] at k
    exact k s H dq_fr.rf
theorem kw_shatter {x c0 : Nat} (H : dq_WR w (s p)) (I : dq_IV n t l w) (hx : x < 24) (hc : c0 < 144) (k : ∀ u, dq_WR (ax_shatter n x c0 w) (u p) → dq_fr p s u → J u) : wf_X7_shatter p (nI x) (nI c0) s J := by
  unfold wf_X7_shatter
  unfold ax_shatter at k
  have h8 := I.h8
  obtain ⟨k1, k2⟩ := I.kd x hx
  refine kw_at24 H hx (by omega) ?_
  rw [k2]
  refine kw_at8 H k1 (by omega) (kw_useUp H hx (fun u0 f1 f2 => ?_))
  have I0 : dq_IV n t l (ax_use x w) := ax_use_I I
  refine loop_0 (fun m i u => wf_X7_shatter_33 p J m (nI c0) (nI (dq_kd w x)) (w 12 (dq_kd w x)) (nI i) u) (fun i u => dq_WR (ax_sh (dq_kd w x) c0 (w 12 (dq_kd w x)) (ax_use x w) i) (u p) ∧ dq_fr p s u) n u0 ⟨f1, f2⟩ ?_ ?_
  · rintro m u ⟨h1, h2⟩
    show wf_X7_shatter_33 p J (m + 1) (nI c0) (nI (dq_kd w x)) (w 12 (dq_kd w x)) (nI n) u
    unfold wf_X7_shatter_33
    rw [h1.1 13 9 (by decide) (by decide), (ax_sh_I I0 n).hn]
    exact br_t (nI_le (Nat.le_refl _) (by omega)) (k u h1 h2)
  · rintro m i u hi ⟨h1, h2⟩ h
    show wf_X7_shatter_33 p J (m + 1) (nI c0) (nI (dq_kd w x)) (w 12 (dq_kd w x)) (nI i) u
    unfold wf_X7_shatter_33
    have Ii := ax_sh_I (d := dq_kd w x) (c0 := c0) (r := w 12 (dq_kd w x)) I0 i
    rw [h1.1 13 9 (by decide) (by decide), Ii.hn]
    have hp := Ii.pl i (by omega)
    have no : ¬ (dq_lv (ax_sh (dq_kd w x) c0 (w 12 (dq_kd w x)) (ax_use x w) i) i ∧ ¬ w 12 (dq_kd w x) < nI (dq_gp (dq_pl (ax_sh (dq_kd w x) c0 (w 12 (dq_kd w x)) (ax_use x w) i) i) c0)) → wf_X7_shatter_33 p J m (nI c0) (nI (dq_kd w x)) (w 12 (dq_kd w x)) (nI (i + 1)) u := by
      intro hno
      have e : ax_sh (dq_kd w x) c0 (w 12 (dq_kd w x)) (ax_use x w) (i + 1) = ax_sh (dq_kd w x) c0 (w 12 (dq_kd w x)) (ax_use x w) i := dq_if_f hno
      exact h u ⟨by rw [e]; exact h1, h2⟩
    refine br_f (nI_ge hi (by omega)) (kw_lives h1 (by omega) (fun c1 => dq_1 (kw_at8 h1 (by omega) (by omega) ?_)) (fun c1 => dq_0 (nm_r (nI_1 i) (no fun g => c1 g.1))))
    rw [hp.2]
    refine kx_gap hp.1 hc (br_c (fun c2 => nm_r (nI_1 i) (no fun g => g.2 c2)) (fun c2 => kw_work h1 k1 (by omega) (fun u2 h3 h4 => nm_r (nI_1 i) ?_)))
    have e : ax_sh (dq_kd w x) c0 (w 12 (dq_kd w x)) (ax_use x w) (i + 1) = ax_work (dq_kd w x) i (ax_sh (dq_kd w x) c0 (w 12 (dq_kd w x)) (ax_use x w) i) := dq_if_t ⟨c1, c2⟩
    exact h u2 ⟨by rw [e]; exact h3, h2.tr h4⟩
theorem kw_heroPrays (H : dq_WR w (s p)) (k : ∀ u, dq_WR (ax_pray w) (u p) → dq_fr p s u → K (ax_pray w 0 7) u) : wf_X7_heroPrays p s K := by
  unfold wf_X7_heroPrays
  unfold ax_pray at k
  have no : ¬ (dq_wk w 0 ∧ ¬ w 0 7 < 0) → wf_X7_heroPrays_53 p K s := by
    intro hno
    unfold wf_X7_heroPrays_53
    rw [dq_if_f hno] at k
    refine kw_fld (J := fun s9 => K (s9 p 0 7) s9) H (fun u h1 h2 => ?_)
    rw [H.f0 (by omega) (by omega)] at h1
    have e := h1.f0 (k := 7) (by omega) (by omega)
    rw [e]
    exact k u h1 h2
  refine kw_isWeak (b := 0) H (by omega) (fun c1 => dq_1 (br_c (fun c2 => no fun g => g.2 ?_) (fun c2 => ?_))) (fun c1 => dq_0 (no fun g => c1 g.1))
  · rw [H.f0 (by omega) (by omega)] at c2; exact c2
  · rw [H.f0 (by omega) (by omega)] at c2
    rw [dq_if_t ⟨c1, c2⟩] at k
    refine kw_at8 (k := 0) H (by omega) (by omega) (kw_put8 (k := 0) H (by omega) (by omega) (fun u h1 h2 => kw_fld (J := fun s6 => K (s6 p 0 7) s6) h1 (fun u2 h3 h4 => ?_)))
    rw [h1.f0 (by omega) (by omega), dq_set_q (by decide)] at h3
    have e := h3.f0 (k := 7) (by omega) (by omega)
    rw [e]
    exact k u2 h3 (h2.tr h4)
end DQA
