/-! the hero's deeds -/
def dq_ky (w : dq_W) (t : Nat) (v : Int32) : Prop := (v = 48 ∨ v = 49 ∨ v = 50) ∧ ∃ i, i < t ∧ w 24 i = v - 48 ∧ dq_cr w i
def dq_hs (w : dq_W) (t : Nat) (v : Int32) : Prop := ∃ i, i < t ∧ w 24 i = v ∧ w 25 i = -1
/-- go: the answer and the world -/
noncomputable def ax_go (n t a : Nat) (w : dq_W) : Int32 × dq_W :=
  dq_if (1 ≤ dq_la w (dq_nb (dq_pl w 0) a) n ∧ dq_la w (dq_nb (dq_pl w 0) a) n < 8) (97, ax_noise (dq_nb (dq_pl w 0) a) 6 n (ax_strike (dq_la w (dq_nb (dq_pl w 0) a) n) (dq_if (dq_hs w t 7) 7 3) w))
    (dq_if (dq_sg w (dq_nb (dq_pl w 0) a) = 43 ∨ dq_ky w t (dq_sg w (dq_nb (dq_pl w 0) a))) (111, dq_set w 2 (dq_nb (dq_pl w 0) a) 47)
      (dq_if (dq_free (dq_sg w (dq_nb (dq_pl w 0) a))) (109, dq_set w 14 0 (nI (dq_nb (dq_pl w 0) a))) (-1000000, w)))
/-- a flight: where it ends, how far, who is hit (8: nobody) -/
noncomputable def dq_hu (w : dq_W) (n a : Nat) : Nat → Nat → Nat × Nat × Nat
  | 0, c => (c, 0, 8)
  | k + 1, c => dq_if (dq_free (dq_sg w (dq_nb c a))) (dq_if (1 ≤ dq_la w (dq_nb c a) n ∧ dq_la w (dq_nb c a) n < 8) (dq_nb c a, 1, dq_la w (dq_nb c a) n) ((dq_hu w n a k (dq_nb c a)).1, (dq_hu w n a k (dq_nb c a)).2.1 + 1, (dq_hu w n a k (dq_nb c a)).2.2)) (c, 0, 8)
/-- what a thing does where its flight ends -/
noncomputable def ax_land (n t x c b : Nat) (w : dq_W) : dq_W :=
  dq_if (3 ≤ dq_kd w x ∧ dq_kd w x ≤ 5) (ax_noise c 6 n (ax_burnBy t (dq_kd w x) c (w 12 (dq_kd w x)) (ax_shatter n x c (dq_set w 25 x (nI c)))))
    (dq_if (dq_kd w x = 7 ∧ b ≠ 8) (ax_noise c 6 n (ax_strike b 4 (dq_set w 25 x (nI c)))) (dq_set w 25 x (nI c)))
noncomputable def ax_hurl (n t x a : Nat) (w : dq_W) : Int32 × dq_W :=
  (nI (dq_hu w n a 5 (dq_pl w 0)).2.1, ax_land n t x (dq_hu w n a 5 (dq_pl w 0)).1 (dq_hu w n a 5 (dq_pl w 0)).2.2 w)
noncomputable def ax_drink (t x : Nat) (w : dq_W) : dq_W := ax_burnBy t (dq_kd w x) (dq_pl w 0) 0 (ax_work (dq_kd w x) 0 (ax_use x w))
/-- a deed: the answer and the world, before the hero's turn is spent -/
noncomputable def ax_deed (n t d a b : Nat) (w : dq_W) : Int32 × dq_W :=
  match d with
  | 0 => ax_go n t a w
  | 1 => (0, w)
  | 2 => (dq_cw (dq_set w 25 a (-1)) t, dq_set w 25 a (-1))
  | 3 => (dq_cw (dq_set w 25 a (nI (dq_pl w 0))) t, dq_set w 25 a (nI (dq_pl w 0)))
  | 4 => (dq_sum (fun i => dq_set w 25 a (if b = 24 then -1 else (-3) - nI b) 25 i = (if b = 24 then -1 else (-3) - nI b)) (fun _ => 1) t, dq_set w 25 a (if b = 24 then -1 else (-3) - nI b))
  | 5 => (ax_drink t a w 18 0, ax_drink t a w)
  | 6 => ax_hurl n t a b w
  | 7 => (ax_ears w (dq_pl w 0) a n, ax_noise (dq_pl w 0) a n w)
  | 8 => (ax_pray w 0 7, ax_pray w)
  | _ => (0, w)
/-- what is needed of a deed's numbers -/
def dq_DV (t d a b : Nat) (w : dq_W) : Prop := (d = 0 ∧ a < 4) ∨ d = 1 ∨ ((d = 2 ∨ d = 3) ∧ a < t) ∨ (d = 4 ∧ a < t ∧ (b = 24 ∨ (b < t ∧ ¬ dq_IN w a b))) ∨ (d = 5 ∧ a < t) ∨ (d = 6 ∧ a < t ∧ b < 4) ∨ (d = 7 ∧ a < 100) ∨ d = 8
noncomputable def ax_perform (n t d a b : Nat) (w : dq_W) : Int32 × dq_W := ((ax_deed n t d a b w).1, dq_if ((ax_deed n t d a b w).1 = -1000000) (ax_deed n t d a b w).2 (dq_set (ax_deed n t d a b w).2 19 0 ((ax_deed n t d a b w).2 19 0 - 12)))
theorem dq_sgn47 : dq_sgn 47 := Or.inr (Or.inr (Or.inr (Or.inr (Or.inl rfl))))
section DQH
variable {p n t l : Nat} {s : dk_S} {w : dq_W} {K : Int32 → dk_S → Prop} {J : dk_S → Prop}
theorem dq_la_in (I : dq_IV n t l w) {c : Nat} (h : dq_la w c n ≠ 8) : c < 144 ∧ dq_la w c n < n ∧ dq_lv w (dq_la w c n) ∧ dq_pl w (dq_la w c n) = c := by
  rcases dq_la_s (f := w) (c := c) n I.h8 with g | ⟨g1, g2, g3⟩
  · exact absurd g h
  · refine ⟨?_, g1, g2, g3⟩
    have := I.h8
    have := (I.pl (dq_la w c n) (by omega)).1
    omega
theorem dq_la_9 (I : dq_IV n t l w) (c : Nat) : dq_la w c n ≤ 8 := by
  have := I.h8
  rcases dq_la_s (f := w) (c := c) n I.h8 with g | ⟨g1, _⟩ <;> omega
theorem dq_n8_le {j : Nat} (h : j ≤ 8) : dq_n8 j ≤ 0 ↔ ¬ (1 ≤ j ∧ j < 8) := by
  by_cases e : j = 8
  · subst e
    exact ⟨fun _ => by omega, fun _ => by decide⟩
  · rw [dq_n8_of (by omega)]
    by_cases e2 : j = 0
    · subst e2
      exact ⟨fun _ => by omega, fun _ => by decide⟩
    · exact ⟨fun g => absurd g (nI_nle (by omega) (by omega)), fun g => absurd ⟨by omega, by omega⟩ g⟩
theorem kw_heroGoes {a : Nat} (H : dq_WR w (s p)) (I : dq_IV n t l w) (ha : a < 4) (k : ∀ u, dq_WR (ax_go n t a w).2 (u p) → dq_fr p s u → K (ax_go n t a w).1 u) : wf_X7_heroGoes p (nI a) s K := by
  unfold wf_X7_heroGoes
  unfold ax_go at k
  have h8 := I.h8
  have hp := (I.pl 0 (by omega)).1
  have hc := dq_nb_le _ hp a ha
  generalize hcd : dq_nb (dq_pl w 0) a = c at *
  refine kw_heroSpot H I.pl (dq_beside hp ha ?_)
  rw [hcd]
  refine kw_livingAt H I hc (kw_signAt H I.sg hc ?_)
  have hla := dq_la_9 I c
  have go115 : ¬ (1 ≤ dq_la w c n ∧ dq_la w c n < 8) → ¬ (dq_sg w c = 43 ∨ dq_ky w t (dq_sg w c)) → wf_X7_heroGoes_115 p K (dq_pI c) (dq_sg w c) s := by
    intro n1 n2
    rw [dq_if_f n1, dq_if_f n2] at k
    unfold wf_X7_heroGoes_115
    refine kx_isFree (fun f => dq_1 ?_) (fun f => dq_0 ?_)
    · rw [dq_if_t f] at k
      have hc2 := dq_free_in hc f
      rw [dq_pI_in hc2]
      exact kw_put8 (k := 0) H (by omega) (by omega) k
    · rw [dq_if_f f] at k
      exact k s H dq_fr.rf
  refine br_c (fun c1 => ?_) (fun c1 => ?_)
  · have n1 := (dq_n8_le hla).1 c1
    have open_ : (dq_sg w c = 43 ∨ dq_ky w t (dq_sg w c)) → ∀ (J' : dk_S → Prop), (∀ u, J' u = K 111 u) → wf_X1_change p (dq_pI c) 47 s J' := by
      intro ho J' hJ
      have hc2 : c < 144 := by
        rcases Nat.lt_or_ge c 144 with g | g
        · exact g
        · have : c = 144 := by omega
          rw [this, dq_sg_out] at ho
          rcases ho with g | ⟨g, _⟩
          · exact absurd g (by decide)
          · exact absurd g (by decide)
      rw [dq_if_f n1, dq_if_t ho] at k
      exact kw_change H hc2 dq_sgn47 (fun u h1 h2 => by rw [hJ]; exact k u h1 h2)
    refine br_c (fun c2 => open_ (Or.inl c2) _ (fun _ => rfl)) (fun c2 => br_c (fun c3 => go115 n1 ?_) (fun c3 => br_c (fun c4 => go115 n1 ?_) (fun c4 => kw_isCarriedKey H I (fun c5 => dq_1 (open_ (Or.inr ⟨?_, c5⟩) _ (fun _ => rfl))) (fun c5 => dq_0 (go115 n1 ?_)))))
    · rintro (g | ⟨g | g | g, _⟩)
      · exact c2 g
      · rw [g] at c3; exact absurd c3 (by decide)
      · rw [g] at c3; exact absurd c3 (by decide)
      · rw [g] at c3; exact absurd c3 (by decide)
    · rintro (g | ⟨g | g | g, _⟩)
      · exact c2 g
      · rw [g] at c4; exact absurd c4 (by decide)
      · rw [g] at c4; exact absurd c4 (by decide)
      · rw [g] at c4; exact absurd c4 (by decide)
    · rcases dq_sg_sgn I.sg (n := c) with g | g | g | g | g | g | g | g
      · rw [g] at c3; exact absurd (by decide) c3
      · rw [g] at c3; exact absurd (by decide) c3
      · rw [g] at c4; exact absurd (by decide) c4
      · exact absurd g c2
      · rw [g] at c3; exact absurd (by decide) c3
      · exact Or.inl g
      · exact Or.inr (Or.inl g)
      · exact Or.inr (Or.inr g)
    · rintro (g | ⟨_, g⟩)
      · exact c2 g
      · exact c5 g
  · have y1 : 1 ≤ dq_la w c n ∧ dq_la w c n < 8 := by
      by_cases g : 1 ≤ dq_la w c n ∧ dq_la w c n < 8
      · exact g
      · exact absurd ((dq_n8_le hla).2 g) c1
    rw [dq_if_t y1] at k
    obtain ⟨hc2, _⟩ := dq_la_in I (c := c) (by omega)
    rw [dq_n8_of y1.2]
    refine kw_hasInHands H I (fun c5 => dq_1 ?_) (fun c5 => dq_0 ?_)
    · rw [dq_if_t (show dq_hs w t 7 from c5)] at k
      refine kw_strike H y1.2 (fun u h1 h2 => ?_)
      rw [dq_pI_in hc2]
      exact kw_makeNoise (m := 6) h1 (ax_strike_I I) hc2 (by decide) (fun u2 h3 h4 => k u2 h3 (h2.tr h4))
    · rw [dq_if_f (show ¬ dq_hs w t 7 from c5)] at k
      refine kw_strike H y1.2 (fun u h1 h2 => ?_)
      rw [dq_pI_in hc2]
      exact kw_makeNoise (m := 6) h1 (ax_strike_I I) hc2 (by decide) (fun u2 h3 h4 => k u2 h3 (h2.tr h4))
theorem dq_hu_in {a : Nat} (I : dq_IV n t l w) (ha : a < 4) : ∀ k c, c < 144 → (dq_hu w n a k c).1 < 144 ∧ (dq_hu w n a k c).2.1 ≤ k ∧ ((dq_hu w n a k c).2.2 = 8 ∨ (1 ≤ (dq_hu w n a k c).2.2 ∧ (dq_hu w n a k c).2.2 < 8 ∧ (dq_hu w n a k c).2.2 = dq_la w (dq_hu w n a k c).1 n))
  | 0, c, hc => ⟨hc, Nat.le_refl _, Or.inl rfl⟩
  | k + 1, c, hc => by
    unfold dq_hu
    have hn := dq_nb_le c hc a ha
    by_cases f : dq_free (dq_sg w (dq_nb c a))
    · rw [dq_if_t f]
      have hn2 := dq_free_in hn f
      by_cases g : 1 ≤ dq_la w (dq_nb c a) n ∧ dq_la w (dq_nb c a) n < 8
      · rw [dq_if_t g]
        exact ⟨hn2, by show 1 ≤ k + 1; omega, Or.inr ⟨g.1, g.2, rfl⟩⟩
      · rw [dq_if_f g]
        obtain ⟨i1, i2, i3⟩ := dq_hu_in I ha k _ hn2
        exact ⟨i1, by show _ + 1 ≤ k + 1; omega, i3⟩
    · rw [dq_if_f f]
      exact ⟨hc, Nat.zero_le _, Or.inl rfl⟩
theorem ax_land_I {x c b : Nat} (I : dq_IV n t l w) (hc : c < 144) : dq_IV n t l (ax_land n t x c b w) := by
  unfold ax_land
  have I1 : dq_IV n t l (dq_set w 25 x (nI c)) := I.s25 (Or.inr (Or.inr ⟨c, hc, rfl⟩))
  by_cases h : 3 ≤ dq_kd w x ∧ dq_kd w x ≤ 5
  · rw [dq_if_t h]; exact ax_noise_I hc (ax_burnBy_I (ax_shatter_I I1))
  · rw [dq_if_f h]
    by_cases h2 : dq_kd w x = 7 ∧ b ≠ 8
    · rw [dq_if_t h2]; exact ax_noise_I hc (ax_strike_I I1)
    · rw [dq_if_f h2]; exact I1
theorem ax_sh_12 {d c0 : Nat} {r : Int32} : ∀ i, ax_sh d c0 r w i 12 = w 12
  | 0 => rfl
  | i + 1 => by
    have ih := ax_sh_12 (d := d) (c0 := c0) (r := r) i
    show dq_if (dq_lv (ax_sh d c0 r w i) i ∧ ¬ r < nI (dq_gp (dq_pl (ax_sh d c0 r w i) i) c0)) (ax_work d i (ax_sh d c0 r w i)) (ax_sh d c0 r w i) 12 = w 12
    by_cases h : dq_lv (ax_sh d c0 r w i) i ∧ ¬ r < nI (dq_gp (dq_pl (ax_sh d c0 r w i) i) c0)
    · rw [dq_if_t h]
      unfold ax_work
      by_cases h1 : ax_sh d c0 r w i 10 d = 98
      · rw [dq_if_t h1]
        by_cases h : i = 0
        · rw [dq_if_t h, dq_set_r (by decide)]; exact ih
        · rw [dq_if_f h]; exact ih
      · rw [dq_if_f h1]
        by_cases h2 : ax_sh d c0 r w i 10 d = 100
        · rw [dq_if_t h2, dq_set_r (by decide)]; exact ih
        · rw [dq_if_f h2]
          by_cases h3 : ax_sh d c0 r w i 10 d = 104
          · rw [dq_if_t h3, dq_set_r (by decide)]; exact ih
          · rw [dq_if_f h3]
            by_cases h4 : ax_sh d c0 r w i 10 d = 115
            · rw [dq_if_t h4, dq_set_r (by decide), dq_set_r (by decide)]; exact ih
            · rw [dq_if_f h4]; exact ih
    · rw [dq_if_f h]; exact ih
theorem kw_heroHurls {x a : Nat} (H : dq_WR w (s p)) (I : dq_IV n t l w) (hx : x < 24) (ha : a < 4) (k : ∀ u, dq_WR (ax_hurl n t x a w).2 (u p) → dq_fr p s u → K (ax_hurl n t x a w).1 u) : wf_X7_heroHurls p (nI x) (nI a) s K := by
  unfold wf_X7_heroHurls
  have h8 := I.h8
  have hp := (I.pl 0 (by omega)).1
  obtain ⟨k1, k2⟩ := I.kd x hx
  refine kw_heroSpot H I.pl ?_
  obtain ⟨e1, e2, e3⟩ := dq_hu_in I ha 5 _ hp
  -- what is behind the flight
  have land : ∀ (hit : Int32), (hit = 0 ↔ (dq_hu w n a 5 (dq_pl w 0)).2.2 = 8) → wf_X7_heroHurls_70 p K (nI x) (nI (dq_hu w n a 5 (dq_pl w 0)).2.1) (nI (dq_hu w n a 5 (dq_pl w 0)).1) hit s := by
    intro hit hhit
    unfold ax_hurl at k
    generalize hr : dq_hu w n a 5 (dq_pl w 0) = r at *
    unfold ax_land at k
    unfold wf_X7_heroHurls_70
    have I1 : dq_IV n t l (dq_set w 25 x (nI r.1)) := I.s25 (Or.inr (Or.inr ⟨r.1, e1, rfl⟩))
    refine kw_put H hx (by decide) (by omega) (fun u h1 h2 => kw_at24 h1 hx (by omega) ?_)
    have ek : dq_kd (dq_set w 25 x (nI r.1)) x = dq_kd w x := by unfold dq_kd; rw [dq_set_q (by decide)]
    rw [dq_set_q (by decide), k2]
    refine kx_isPotion k1 (fun c1 => dq_1 ?_) (fun c1 => dq_0 ⟨fun c2 => ?_, fun c2 => br_c (fun c3 => ?_) (fun c3 => ?_)⟩)
    · rw [dq_if_t c1] at k
      refine kw_shatter h1 I1 hx e1 (fun u2 h3 h4 => kw_at8 h3 k1 (by omega) ?_)
      have e12 : ax_shatter n x r.1 (dq_set w 25 x (nI r.1)) 12 = w 12 := by
        unfold ax_shatter
        rw [ax_sh_12]
        unfold ax_use
        rw [dq_set_r (by decide), dq_set_r (by decide), dq_set_r (by decide)]
      rw [e12]
      exact kw_burnBy h3 (ax_shatter_I I1) k1 e1 (fun u3 h5 h6 => kw_makeNoise (m := 6) h5 (ax_burnBy_I (ax_shatter_I I1)) e1 (by decide) (fun u4 h7 h8 => k u4 h7 (((h2.tr h4).tr h6).tr h8)))
    · rw [dq_if_f c1, dq_if_f (fun g => c2 (congrArg nI g.1))] at k
      exact k u h1 h2
    · rw [dq_if_f c1, dq_if_f (fun g => g.2 (hhit.1 c3))] at k
      exact k u h1 h2
    · have e7 : dq_kd w x = 7 := (nI_eq (b := 7) (by omega) (by omega)).1 c2
      have hb8 : r.2.2 ≠ 8 := fun g => c3 (hhit.2 g)
      rw [dq_if_f c1, dq_if_t ⟨e7, hb8⟩] at k
      have e4 : 1 ≤ r.2.2 ∧ r.2.2 < 8 ∧ r.2.2 = dq_la w r.1 n := by
        rcases e3 with g | g
        · exact absurd g hb8
        · exact g
      have ela : dq_la (dq_set w 25 x (nI r.1)) r.1 n = r.2.2 := by
        rw [e4.2.2]
        have key : ∀ i, dq_la (dq_set w 25 x (nI r.1)) r.1 i = dq_la w r.1 i := by
          intro i
          induction i with
          | zero => rfl
          | succ i ih =>
            show dq_if _ (dq_if (dq_lv (dq_set w 25 x (nI r.1)) i ∧ dq_pl (dq_set w 25 x (nI r.1)) i = r.1) i 8) _ = dq_if _ (dq_if (dq_lv w i ∧ dq_pl w i = r.1) i 8) _
            rw [ih]
            unfold dq_lv dq_pl
            rw [dq_set_q (by decide), dq_set_q (by decide)]
        exact key n
      rw [← dq_pI_in e1]
      refine kw_livingAt h1 I1 (by omega) ?_
      rw [ela, dq_n8_of e4.2.1, dq_pI_in e1]
      exact kw_strike h1 e4.2.1 (fun u2 h3 h4 => kw_makeNoise (m := 6) h3 (ax_strike_I I1) e1 (by decide) (fun u3 h5 h6 => k u3 h5 ((h2.tr h4).tr h6)))
  clear k
  -- the flight
  have key : ∀ m j c, j + m = 5 → c < 144 → dq_hu w n a 5 (dq_pl w 0) = ((dq_hu w n a m c).1, j + (dq_hu w n a m c).2.1, (dq_hu w n a m c).2.2) → wf_X7_heroHurls_11 p K (fun (w3 : Int32) (w4 : Int32) (w5 : Int32) (w6 : Int32) (s7 : dk_S) => wf_X7_heroHurls_70 p K w3 w4 w5 w6 s7) (m + 1) (nI x) (nI a) (nI j) (nI c) 0 s := by
    intro m
    induction m with
    | zero =>
      intro j c hj hc he
      rw [he] at land
      unfold wf_X7_heroHurls_11
      exact br_t (nI_le (a := 5) (by omega) (by omega)) (land 0 ⟨fun _ => rfl, fun _ => rfl⟩)
    | succ m ih =>
      intro j c hj hc he
      unfold wf_X7_heroHurls_11
      have hn := dq_nb_le c hc a ha
      refine br_f (nI_ge (b := 5) (by omega) (by decide)) ⟨fun g => absurd rfl g, fun _ => dq_beside hc ha (kw_isFreeAt H I.sg hn (fun f => dq_1 (dq_beside hc ha ?_)) (fun f => dq_0 ?_))⟩
      · have hn2 := dq_free_in hn f
        refine nm_r (nI_1 j) (kw_livingAt H I hn ?_)
        have hla := dq_la_9 I (dq_nb c a)
        rw [dq_pI_in hn2]
        have e0 : dq_hu w n a (m + 1) c = dq_if (1 ≤ dq_la w (dq_nb c a) n ∧ dq_la w (dq_nb c a) n < 8) (dq_nb c a, 1, dq_la w (dq_nb c a) n) ((dq_hu w n a m (dq_nb c a)).1, (dq_hu w n a m (dq_nb c a)).2.1 + 1, (dq_hu w n a m (dq_nb c a)).2.2) := dq_if_t f
        refine br_c (fun c1 => ih (j + 1) _ (by omega) hn2 ?_) (fun c1 => ?_)
        · rw [dq_if_f ((dq_n8_le hla).1 c1)] at e0
          rw [he, e0]
          show (_, _, _) = (_, _, _)
          rw [show j + ((dq_hu w n a m (dq_nb c a)).2.1 + 1) = j + 1 + (dq_hu w n a m (dq_nb c a)).2.1 by omega]
        · have y1 : 1 ≤ dq_la w (dq_nb c a) n ∧ dq_la w (dq_nb c a) n < 8 := by
            by_cases g : 1 ≤ dq_la w (dq_nb c a) n ∧ dq_la w (dq_nb c a) n < 8
            · exact g
            · exact absurd ((dq_n8_le hla).2 g) c1
          rw [dq_if_t y1] at e0
          rw [he, e0] at land
          have land : ∀ (hit : Int32), (hit = 0 ↔ dq_la w (dq_nb c a) n = 8) → wf_X7_heroHurls_70 p K (nI x) (nI (j + 1)) (nI (dq_nb c a)) hit s := land
          have q := land 1 ⟨fun g => absurd g (by decide), fun g => by omega⟩
          cases m with
          | zero =>
            unfold wf_X7_heroHurls_11
            exact br_t (nI_le (a := 5) (by omega) (by omega)) q
          | succ m =>
            unfold wf_X7_heroHurls_11
            exact br_f (nI_ge (b := 5) (by omega) (by decide)) ⟨fun _ => q, fun g => absurd g (by decide)⟩
      · have e0 : dq_hu w n a (m + 1) c = (c, 0, 8) := dq_if_f f
        rw [he, e0] at land
        exact land 0 ⟨fun _ => rfl, fun _ => rfl⟩
  exact ⟨6, key 5 0 _ rfl hp (by rw [Nat.zero_add])⟩
theorem ax_deed_I {d a b : Nat} (I : dq_IV n t l w) (hd : dq_DV t d a b w) : dq_IV n t l (ax_deed n t d a b w).2 := by
  have ht := I.t24
  have hp := (I.pl 0 (by omega)).1
  rcases hd with ⟨rfl, ha⟩ | rfl | ⟨rfl | rfl, ha⟩ | ⟨rfl, ha, hb⟩ | ⟨rfl, ha⟩ | ⟨rfl, ha, hb⟩ | ⟨rfl, ha⟩ | rfl
  · show dq_IV n t l (ax_go n t a w).2
    unfold ax_go
    have hc := dq_nb_le _ hp a ha
    by_cases h1 : 1 ≤ dq_la w (dq_nb (dq_pl w 0) a) n ∧ dq_la w (dq_nb (dq_pl w 0) a) n < 8
    · rw [dq_if_t h1]
      obtain ⟨hc2, _⟩ := dq_la_in I (c := dq_nb (dq_pl w 0) a) (by omega)
      exact ax_noise_I hc2 (ax_strike_I I)
    · rw [dq_if_f h1]
      by_cases h2 : dq_sg w (dq_nb (dq_pl w 0) a) = 43 ∨ dq_ky w t (dq_sg w (dq_nb (dq_pl w 0) a))
      · rw [dq_if_t h2]; exact I.s2 dq_sgn47
      · rw [dq_if_f h2]
        by_cases h3 : dq_free (dq_sg w (dq_nb (dq_pl w 0) a))
        · rw [dq_if_t h3]; exact I.s14 (dq_free_in hc h3)
        · rw [dq_if_f h3]; exact I
  · exact I
  · exact I.s25 (Or.inl rfl)
  · exact I.s25 (Or.inr (Or.inr ⟨_, hp, rfl⟩))
  · show dq_IV n t l (dq_set w 25 a (if b = 24 then -1 else (-3) - nI b))
    rcases hb with rfl | ⟨hb, hn⟩
    · exact I.s25 (Or.inl rfl)
    · rw [if_neg (by omega)]
      exact I.bag (by omega) hb hn
  · exact ax_burnBy_I (ax_work_I (ax_use_I I))
  · exact ax_land_I I (dq_hu_in I hb 5 _ hp).1
  · exact ax_noise_I hp I
  · exact ax_pray_I I
theorem ax_perform_I {d a b : Nat} (I : dq_IV n t l w) (hd : dq_DV t d a b w) : dq_IV n t l (ax_perform n t d a b w).2 := by
  have := ax_deed_I I hd
  show dq_IV n t l (dq_if _ _ _)
  by_cases h : (ax_deed n t d a b w).1 = -1000000
  · rw [dq_if_t h]; exact this
  · rw [dq_if_f h]; exact this.st (by decide)
theorem kw_perform {d a b : Nat} (H : dq_WR w (s p)) (I : dq_IV n t l w) (hd : dq_DV t d a b w) (k : ∀ u, dq_WR (ax_perform n t d a b w).2 (u p) → dq_fr p s u → K (ax_perform n t d a b w).1 u) : wf_X7_perform p (nI d) (nI a) (dq_bI b) s K := by
  unfold wf_X7_perform
  have ht := I.t24
  have hp := (I.pl 0 (by omega)).1
  have fin : ∀ u, dq_WR (ax_deed n t d a b w).2 (u p) → dq_fr p s u → wf_X7_perform_192 p K (ax_deed n t d a b w).1 u := by
    intro u h1 h2
    unfold wf_X7_perform_192
    have k : ∀ u, dq_WR (dq_if ((ax_deed n t d a b w).1 = -1000000) (ax_deed n t d a b w).2 (dq_set (ax_deed n t d a b w).2 19 0 ((ax_deed n t d a b w).2 19 0 - 12))) (u p) → dq_fr p s u → K (ax_deed n t d a b w).1 u := k
    refine br_c (fun c1 => k u ?_ h2) (fun c1 => kw_spendTurn (b := 0) h1 (by omega) (fun u2 h3 h4 => k u2 ?_ (h2.tr h4)))
    · rw [dq_if_t c1]; exact h1
    · rw [dq_if_f c1]; exact h3
  clear k
  rcases hd with ⟨rfl, ha⟩ | rfl | ⟨rfl | rfl, ha⟩ | ⟨rfl, ha, hb⟩ | ⟨rfl, ha⟩ | ⟨rfl, ha, hb⟩ | ⟨rfl, ha⟩ | rfl
  · exact br_t rfl (kw_heroGoes H I ha fin)
  · exact br_f (by decide) (br_t rfl (fin s H dq_fr.rf))
  · exact br_f (by decide) (br_f (by decide) (br_t rfl (kw_put H (by omega) (by decide) (by omega) (fun u h1 h2 => kw_carriedWeight h1 (I.s25 (Or.inl rfl)) (fin u h1 h2)))))
  · exact br_f (by decide) (br_f (by decide) (br_f (by decide) (br_t rfl (kw_heroSpot H I.pl (kw_put H (by omega) (by decide) (by omega) (fun u h1 h2 => kw_carriedWeight h1 (I.s25 (Or.inr (Or.inr ⟨_, hp, rfl⟩))) (fin u h1 h2)))))))
  · refine br_f (by decide) (br_f (by decide) (br_f (by decide) (br_f (by decide) (br_t rfl ?_))))
    have pack : ∀ v : Int32, v = (if b = 24 then -1 else (-3) - nI b) → wf_X7_heroPacks p (nI a) v s (fun r18 s17 => wf_X7_perform_192 p K r18 s17) := by
      intro v hv
      subst hv
      unfold wf_X7_heroPacks
      have I2 := ax_deed_I I (d := 4) (a := a) (b := b) (Or.inr (Or.inr (Or.inr (Or.inl ⟨rfl, ha, hb⟩))))
      exact kw_put H (by omega) (by decide) (by omega) (fun u h1 h2 => kw_countAt h1 I2 (fin u h1 h2))
    rcases hb with rfl | ⟨hb, hn⟩
    · exact ⟨fun g => absurd rfl g, fun _ => pack _ rfl⟩
    · rw [dq_bI_of (by omega)]
      exact ⟨fun _ => pack _ (if_neg (by omega)).symm, fun g => absurd g (dq_m1' (by omega))⟩
  · refine br_f (by decide) (br_f (by decide) (br_f (by decide) (br_f (by decide) (br_f (by decide) (br_t rfl ?_)))))
    unfold wf_X7_heroDrinks
    obtain ⟨k1, k2⟩ := I.kd a (by omega)
    refine kw_at24 H (by omega) (by omega) ?_
    rw [k2]
    have I1 : dq_IV n t l (ax_work (dq_kd w a) 0 (ax_use a w)) := ax_work_I (ax_use_I I)
    refine kw_useUp H (by omega) (fun u h1 h2 => kw_work (b := 0) h1 k1 (by omega) (fun u2 h3 h4 => kw_heroSpot h3 I1.pl ?_))
    have ep : dq_pl (ax_work (dq_kd w a) 0 (ax_use a w)) 0 = dq_pl w 0 := by
      unfold dq_pl ax_work
      have e0 : ax_use a w 14 0 = w 14 0 := by unfold ax_use; rw [dq_set_q (by decide), dq_set_q (by decide)]
      by_cases h1 : ax_use a w 10 (dq_kd w a) = 98
      · rw [dq_if_t h1, dq_if_t rfl, dq_set_q (by decide), e0]
      · rw [dq_if_f h1]
        by_cases h2 : ax_use a w 10 (dq_kd w a) = 100
        · rw [dq_if_t h2, dq_set_q (by decide), e0]
        · rw [dq_if_f h2]
          by_cases h3 : ax_use a w 10 (dq_kd w a) = 104
          · rw [dq_if_t h3, dq_set_q (by decide), e0]
          · rw [dq_if_f h3]
            by_cases h4 : ax_use a w 10 (dq_kd w a) = 115
            · rw [dq_if_t h4, dq_set_q (by decide), dq_set_q (by decide), e0]
            · rw [dq_if_f h4, e0]
    rw [ep]
    exact kw_burnBy h3 I1 k1 hp (fun u3 h5 h6 => kw_at8 (k := 0) h5 (by omega) (by omega) (fin u3 h5 ((h2.tr h4).tr h6)))
  · refine br_f (by decide) (br_f (by decide) (br_f (by decide) (br_f (by decide) (br_f (by decide) (br_f (by decide) (br_t rfl ?_))))))
    rw [dq_bI_of (by omega)]
    exact kw_heroHurls H I (by omega) hb fin
  · refine br_f (by decide) (br_f (by decide) (br_f (by decide) (br_f (by decide) (br_f (by decide) (br_f (by decide) (br_f (by decide) (br_t rfl ?_)))))))
    exact kw_heroSpot H I.pl (kw_makeNoise H I hp (by omega) fin)
  · exact br_f (by decide) (br_f (by decide) (br_f (by decide) (br_f (by decide) (br_f (by decide) (br_f (by decide) (br_f (by decide) (br_f (by decide) (br_t rfl (kw_heroPrays H fin)))))))))
end DQH
