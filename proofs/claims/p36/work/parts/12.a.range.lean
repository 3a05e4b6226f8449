/-! what stays in range over the deeds of a world -/
def dq_kp (w w' : dq_W) : Prop := w' 8 = w 8 ∧ w' 17 = w 17 ∧ w' 0 7 = w 0 7 ∧ w' 0 6 = w 0 6
def dq_JX (o : Int32) (i : Nat) (w : dq_W) : Prop := (∀ d, d < 8 → dj_R 0 9 (w 8 d)) ∧ (∀ k, k < 8 → dj_R 0 99 (w 17 k)) ∧ dj_R (-5 * (i : Int)) i (w 0 7) ∧ w 0 6 = o
section DQR
variable {n t l : Nat} {w v : dq_W} {o : Int32}
theorem dq_kp.rf : dq_kp w w := ⟨rfl, rfl, rfl, rfl⟩
theorem dq_kp.tr {u : dq_W} (h : dq_kp w v) (g : dq_kp v u) : dq_kp w u := ⟨g.1.trans h.1, g.2.1.trans h.2.1, g.2.2.1.trans h.2.2.1, g.2.2.2.trans h.2.2.2⟩
theorem dq_kp.put (h : dq_kp w v) {q k : Nat} {x : Int32} (hq : q ≠ 8 ∧ q ≠ 17 ∧ (q ≠ 0 ∨ (k ≠ 7 ∧ k ≠ 6))) : dq_kp w (dq_set v q k x) :=
  ⟨(dq_set_r (Ne.symm hq.1)).trans h.1, (dq_set_r (Ne.symm hq.2.1)).trans h.2.1, (dq_set_ne (by omega)).trans h.2.2.1, (dq_set_ne (by omega)).trans h.2.2.2⟩
theorem dq_kp.ite {c : Prop} {a b : dq_W} (h : c → dq_kp w a) (g : ¬ c → dq_kp w b) : dq_kp w (dq_if c a b) := by
  by_cases e : c
  · rw [dq_if_t e]; exact h e
  · rw [dq_if_f e]; exact g e
theorem dq_kp.rows (h : ∀ q, q = 8 ∨ q = 17 ∨ q = 0 → v q = w q) : dq_kp w v := ⟨h 8 (by omega), h 17 (by omega), by rw [h 0 (by omega)], by rw [h 0 (by omega)]⟩
theorem dq_kp.noise {c m i : Nat} (h : dq_kp w v) : dq_kp w (ax_noise c m i v) := h.tr (dq_kp.rows fun q hq => ax_noise_r (by omega))
theorem dq_kp.burn {c0 i : Nat} {r : Int32} (h : dq_kp w v) : dq_kp w (ax_burn t c0 r v i) := h.tr (dq_kp.rows fun q hq => ax_burn_o (by omega) i)
theorem dq_kp.burnBy {d c0 : Nat} {r : Int32} (h : dq_kp w v) : dq_kp w (ax_burnBy t d c0 r v) := dq_kp.ite (fun _ => h.burn) (fun _ => h)
theorem dq_kp.work {d b : Nat} (h : dq_kp w v) : dq_kp w (ax_work d b v) := by
  unfold ax_work
  exact dq_kp.ite (fun _ => dq_kp.ite (fun _ => h.put (by decide)) (fun _ => h)) (fun _ => dq_kp.ite (fun _ => h.put (by omega)) (fun _ => dq_kp.ite (fun _ => h.put (by omega)) (fun _ => dq_kp.ite (fun _ => (h.put (by omega)).put (by omega)) (fun _ => h))))
theorem dq_kp.sh {d c0 : Nat} {r : Int32} (h : dq_kp w v) : ∀ i, dq_kp w (ax_sh d c0 r v i)
  | 0 => h
  | i + 1 => dq_kp.ite (fun _ => (dq_kp.sh h i).work) (fun _ => dq_kp.sh h i)
theorem dq_kp.use {x : Nat} (h : dq_kp w v) : dq_kp w (ax_use x v) := (h.put (by omega)).put (by decide)
theorem dq_kp.shatter {x c0 : Nat} (h : dq_kp w v) : dq_kp w (ax_shatter n x c0 v) := dq_kp.sh h.use n
theorem dq_kp.tick (h : dq_kp w v) : dq_kp w (ax_tick n v) := h.tr ⟨funext fun k => ax_tick_o (by omega), funext fun k => ax_tick_o (by omega), ax_tick_o (by omega), ax_tick_o (by omega)⟩
theorem dq_kp.move {b : Nat} (h : dq_kp w v) : dq_kp w (ax_move n b v) := by
  have h1 : dq_kp w (ax_aimed b v) := dq_kp.ite (fun _ => h.put (by omega)) (fun _ => h)
  unfold ax_move
  refine dq_kp.ite (fun _ => h1) (fun _ => ?_)
  have h2 : dq_kp w (ax_turn n b (ax_aimed b v 22 b).toNatClampNeg (ax_aimed b v)) := by
    unfold ax_turn ax_goto
    exact dq_kp.ite (fun _ => h1.put (by omega)) (fun _ => dq_kp.ite (fun _ => (h1.put (by omega)).noise) (fun _ => dq_kp.ite (fun _ => h1.put (by omega)) (fun _ => h1.put (by omega))))
  unfold ax_lose
  exact dq_kp.ite (fun _ => h2.put (by omega)) (fun _ => h2)
theorem dq_kp.step (h : dq_kp w v) : dq_kp w (ax_step n v) := dq_kp.ite (fun _ => h.tick) (fun _ => (h.put (by omega)).move)
theorem dq_kp.wait : ∀ (k : Nat) {v : dq_W}, dq_kp w v → dq_kp w (ax_wait n k v)
  | 0, _, h => h
  | k + 1, v, h => by
    unfold ax_wait
    exact dq_kp.ite (fun _ => h) (fun _ => dq_kp.wait k h.step)
theorem dq_JX.kp {i : Nat} (J : dq_JX o i w) (h : dq_kp w v) : dq_JX o i v := by
  obtain ⟨a, b, c, d⟩ := J
  refine ⟨?_, ?_, ?_, ?_⟩
  · rw [h.1]; exact a
  · rw [h.2.1]; exact b
  · rw [h.2.2.1]; exact c
  · rw [h.2.2.2]; exact d
theorem dj_R.wide {lo hi lo' hi' : Int} {x : Int32} (h : dj_R lo hi x) (h1 : lo' ≤ lo) (h2 : hi ≤ hi') : dj_R lo' hi' x := ⟨Int.le_trans h1 h.1, Int.le_trans h.2 h2⟩
theorem dj_R.add {lo hi lo' hi' c : Int} {x : Int32} (h : dj_R lo hi x) (h1 : lo' ≤ lo + c) (h2 : hi + c ≤ hi') (h3 : -1000000 ≤ lo') (h4 : hi' ≤ 1000000) : dj_R lo' hi' (x + dq_iI c) := by
  obtain ⟨z, a, b, e, _⟩ := h.of
  rw [e, show dq_iI z + dq_iI c = dq_iI (z + c) from (Int32.ofInt_add z c).symm]
  exact dj_R.mk (by omega) (by omega) (by omega) (by omega)
theorem dj_R.sub {lo hi lo' hi' c : Int} {x : Int32} (h : dj_R lo hi x) (h1 : lo' ≤ lo - c) (h2 : hi - c ≤ hi') (h3 : -1000000 ≤ lo') (h4 : hi' ≤ 1000000) : dj_R lo' hi' (x - dq_iI c) := by
  obtain ⟨z, a, b, e, _⟩ := h.of
  rw [e, show dq_iI z - dq_iI c = dq_iI (z - c) from (Int32.ofInt_sub z c).symm]
  exact dj_R.mk (by omega) (by omega) (by omega) (by omega)
theorem dq_JX.up {i : Nat} (J : dq_JX o i w) : dq_JX o (i + 1) w := ⟨J.1, J.2.1, J.2.2.1.wide (by omega) (by omega), J.2.2.2⟩
theorem dq_JX.set {i : Nat} {c : Int} (J : dq_JX o i w) (hi : i ≤ 1000) (h1 : -5 ≤ c) (h2 : c ≤ 1) (e : v = dq_set w 0 7 (w 0 7 + dq_iI c)) : dq_JX o (i + 1) v := by
  rw [e]
  refine ⟨?_, ?_, ?_, ?_⟩
  · rw [dq_set_r (by decide)]; exact J.1
  · rw [dq_set_r (by decide)]; exact J.2.1
  · rw [dq_set_eq]; exact J.2.2.1.add (by omega) (by omega) (by omega) (by omega)
  · rw [dq_set_ne (by decide)]; exact J.2.2.2
theorem dq_JX.strike {i b : Nat} {x : Int32} (J : dq_JX o i w) (hi : i ≤ 1000) : dq_JX o (i + 1) (ax_strike b x w) := by
  have h : dq_kp w (dq_set w 18 b (w 18 b - x)) := dq_kp.rf.put (by omega)
  unfold ax_strike
  by_cases g : dq_lv (dq_set w 18 b (w 18 b - x)) b
  · rw [dq_if_t g]; exact (J.kp h).up
  · rw [dq_if_f g]
    have J1 := J.kp h
    by_cases g2 : dq_wk w b
    · rw [dq_if_t g2]
      exact J1.set (c := -2) hi (by decide) (by decide) (by rw [h.2.2.1]; rfl)
    · rw [dq_if_f g2]
      exact J1.set (c := 1) hi (by decide) (by decide) (by rw [h.2.2.1]; rfl)
theorem dq_JX.land {i x c b : Nat} (J : dq_JX o i w) (hi : i ≤ 1000) : dq_JX o (i + 1) (ax_land n t x c b w) := by
  have h : dq_kp w (dq_set w 25 x (nI c)) := dq_kp.rf.put (by omega)
  unfold ax_land
  by_cases g : 3 ≤ dq_kd w x ∧ dq_kd w x ≤ 5
  · rw [dq_if_t g]; exact (J.kp (h.shatter.burnBy.noise)).up
  · rw [dq_if_f g]
    by_cases g2 : dq_kd w x = 7 ∧ b ≠ 8
    · rw [dq_if_t g2]
      exact ((J.kp h).strike hi).kp dq_kp.rf.noise
    · rw [dq_if_f g2]; exact (J.kp h).up
theorem dq_JX.deed {i d a b : Nat} (J : dq_JX o i w) (hi : i ≤ 1000) (hd : dq_DV t d a b w) : dq_JX o (i + 1) (ax_deed n t d a b w).2 := by
  have all : d < 9 := by rcases hd with g | g | g | g | g | g | g | g <;> omega
  have cs : d = 0 ∨ d = 1 ∨ d = 2 ∨ d = 3 ∨ d = 4 ∨ d = 5 ∨ d = 6 ∨ d = 7 ∨ d = 8 := by omega
  rcases cs with rfl | rfl | rfl | rfl | rfl | rfl | rfl | rfl | rfl
  · show dq_JX o (i + 1) (ax_go n t a w).2
    unfold ax_go
    by_cases g : 1 ≤ dq_la w (dq_nb (dq_pl w 0) a) n ∧ dq_la w (dq_nb (dq_pl w 0) a) n < 8
    · rw [dq_if_t g]; exact (J.strike hi).kp dq_kp.rf.noise
    · rw [dq_if_f g]
      by_cases g2 : dq_sg w (dq_nb (dq_pl w 0) a) = 43 ∨ dq_ky w t (dq_sg w (dq_nb (dq_pl w 0) a))
      · rw [dq_if_t g2]; exact (J.kp (dq_kp.rf.put (by omega))).up
      · rw [dq_if_f g2]
        by_cases g3 : dq_free (dq_sg w (dq_nb (dq_pl w 0) a))
        · rw [dq_if_t g3]; exact (J.kp (dq_kp.rf.put (by omega))).up
        · rw [dq_if_f g3]; exact J.up
  · exact J.up
  · exact (J.kp (dq_kp.rf.put (by omega))).up
  · exact (J.kp (dq_kp.rf.put (by omega))).up
  · exact (J.kp (dq_kp.rf.put (by omega))).up
  · exact (J.kp (dq_kp.rf.use.work.burnBy)).up
  · exact J.land hi
  · exact (J.kp dq_kp.rf.noise).up
  · show dq_JX o (i + 1) (ax_pray w)
    unfold ax_pray
    by_cases g : dq_wk w 0 ∧ ¬ w 0 7 < 0
    · rw [dq_if_t g]
      have h : dq_kp w (dq_set w 18 0 (w 17 0)) := dq_kp.rf.put (by omega)
      refine (J.kp h).set (c := -5) hi (by decide) (by decide) ?_
      rw [h.2.2.1]
      rw [show w 0 7 - 5 = w 0 7 + dq_iI (-5) from Int32.sub_eq_add_neg _ _]
    · rw [dq_if_f g]
      refine J.set (c := -1) hi (by decide) (by decide) ?_
      rw [show w 0 7 - 1 = w 0 7 + dq_iI (-1) from Int32.sub_eq_add_neg _ _]
theorem dq_sum_R {P : Nat → Prop} {g : Nat → Int32} {c : Int} (hc : 0 ≤ c) (hc2 : c ≤ 1000) : ∀ m, m ≤ 100 → (∀ i, i < m → dj_R 0 c (g i)) → dj_R 0 (m * c) (dq_sum P g m)
  | 0, _, _ => ⟨show (0 : Int) ≤ (0 : Int32).toInt by decide, by
    rw [show ((0 : Nat) : Int) * c = 0 from Int.zero_mul c]
    show (0 : Int32).toInt ≤ 0
    decide⟩
  | m + 1, hm, h => by
    have ih := dq_sum_R (P := P) hc hc2 m (by omega) (fun i hi => h i (by omega))
    have e : ((m + 1 : Nat) : Int) * c = m * c + c := by rw [Int.natCast_add, Int.add_mul]; simp
    have hm2 : (m : Int) * c ≤ 100 * 1000 := Int.mul_le_mul (by omega) hc2 hc (by decide)
    rw [e]
    show dj_R 0 (m * c + c) (@ite _ (P m) (Classical.propDecidable _) (dq_sum P g m + g m) (dq_sum P g m))
    by_cases q : P m
    · rw [if_pos q]
      obtain ⟨y, y1, y2, ey, _⟩ := (h m (by omega)).of
      rw [ey]
      exact ih.add (by omega) (by omega) (by omega) (by omega)
    · rw [if_neg q]; exact ih.wide (Int.le_refl _) (by omega)
theorem dj_R.ne {lo hi : Int} {x : Int32} (h : dj_R lo hi x) (h0 : -1000000 < lo) : x ≠ -1000000 := fun e => by
  have := h.1
  rw [e] at this
  have : (-1000000 : Int32).toInt = -1000000 := rfl
  omega
/-- an answer that takes no turn *comes* from going alone, and changes nothing -/
theorem ax_deed_no {i d a b : Nat} (J : dq_JX o i w) (JV : dq_JV n t l w) (h0 : dq_lv w 0) (hi : i ≤ 1000) (hd : dq_DV t d a b w) (e : (ax_deed n t d a b w).1 = -1000000) : d = 0 ∧ (ax_deed n t d a b w).2 = w := by
  have cs : d = 0 ∨ d = 1 ∨ d = 2 ∨ d = 3 ∨ d = 4 ∨ d = 5 ∨ d = 6 ∨ d = 7 ∨ d = 8 := by rcases hd with g | g | g | g | g | g | g | g <;> omega
  have t24 := JV.1.t24
  have cw : ∀ v : dq_W, (∀ q, q ≠ 25 → v q = w q) → dq_cw v t ≠ -1000000 := fun v hv => by
    refine (dq_sum_R (c := 9) (by decide) (by decide) t (by omega) fun j hj => ?_).ne (by decide)
    have := J.1 (dq_kd w j) (JV.1.kd j (by omega)).1
    unfold dq_wt dq_kd
    rw [hv 8 (by decide), hv 24 (by decide)]
    exact this
  have s1 : ∀ (P : Nat → Prop) m, m ≤ 24 → dq_sum P (fun _ => 1) m ≠ -1000000 := fun P m hm =>
    (dq_sum_R (c := 1) (by decide) (by decide) m (by omega) fun j hj => ⟨by decide, by decide⟩).ne (by decide)
  rcases cs with rfl | rfl | rfl | rfl | rfl | rfl | rfl | rfl | rfl
  · refine ⟨rfl, ?_⟩
    revert e
    show (ax_go n t a w).1 = -1000000 → (ax_go n t a w).2 = w
    unfold ax_go
    by_cases g : 1 ≤ dq_la w (dq_nb (dq_pl w 0) a) n ∧ dq_la w (dq_nb (dq_pl w 0) a) n < 8
    · rw [dq_if_t g]; intro e; exact absurd (show (97 : Int32) = -1000000 from e) (by decide)
    · rw [dq_if_f g]
      by_cases g2 : dq_sg w (dq_nb (dq_pl w 0) a) = 43 ∨ dq_ky w t (dq_sg w (dq_nb (dq_pl w 0) a))
      · rw [dq_if_t g2]; intro e; exact absurd (show (111 : Int32) = -1000000 from e) (by decide)
      · rw [dq_if_f g2]
        by_cases g3 : dq_free (dq_sg w (dq_nb (dq_pl w 0) a))
        · rw [dq_if_t g3]; intro e; exact absurd (show (109 : Int32) = -1000000 from e) (by decide)
        · rw [dq_if_f g3]; intro _; rfl
  · exact absurd e (by show ¬ (0 : Int32) = -1000000; decide)
  · exact absurd e (cw _ fun q hq => dq_set_r hq)
  · exact absurd e (cw _ fun q hq => dq_set_r hq)
  · exact absurd e (s1 _ t t24)
  · have a24 : a < 24 := by rcases hd with g | g | g | g | g | g | g | g <;> omega
    have kd := (JV.1.kd a a24).1
    refine absurd e ?_
    show ¬ ax_drink t a w 18 0 = -1000000
    unfold ax_drink ax_burnBy
    have e1 : ∀ c : Prop, ∀ f : dq_W, dq_if c (ax_burn t (dq_pl w 0) 0 f t) f 18 = f 18 := fun c f => by
      by_cases q : c
      · rw [dq_if_t q, ax_burn_o (by decide)]
      · rw [dq_if_f q]
    rw [e1]
    have u18 : ax_use a w 18 = w 18 := by unfold ax_use; rw [dq_set_r (by decide), dq_set_r (by decide)]
    have u11 : ax_use a w 11 = w 11 := by unfold ax_use; rw [dq_set_r (by decide), dq_set_r (by decide)]
    have u17 : ax_use a w 17 = w 17 := by unfold ax_use; rw [dq_set_r (by decide), dq_set_r (by decide)]
    have h11 := JV.2.2.2.2.2.2.2 (dq_kd w a) kd
    have h17 := J.2.1 0 (by decide)
    obtain ⟨z, z1, z2, ez, _⟩ := h11.of
    have hm : (-1000000 : Int32).toInt = -1000000 := rfl
    have hp : 0 < (w 18 0).toInt := by
      unfold dq_lv at h0
      rw [Int32.le_iff_toInt_le] at h0
      have : (0 : Int32).toInt = 0 := rfl
      omega
    have hlt := Int32.toInt_lt (w 18 0)
    have no : ¬ w 18 0 = -1000000 := fun q => by rw [q, hm] at hp; omega
    have e2 : w 18 0 = dq_iI (w 18 0).toInt := dq_of_int rfl
    unfold ax_work
    by_cases c1 : ax_use a w 10 (dq_kd w a) = 98
    · rw [dq_if_t c1, dq_if_t rfl, dq_set_q (by decide), u18]; exact no
    · rw [dq_if_f c1]
      by_cases c2 : ax_use a w 10 (dq_kd w a) = 100
      · rw [dq_if_t c2, dq_set_eq, u18, u11, ez, e2, dq_isub]
        intro q
        have := congrArg Int32.toInt q
        rw [dq_iT (by omega) (by omega), hm] at this
        omega
      · rw [dq_if_f c2]
        by_cases c3 : ax_use a w 10 (dq_kd w a) = 104
        · rw [dq_if_t c3, dq_set_eq, u18, u11, u17]
          by_cases c4 : w 18 0 + w 11 (dq_kd w a) < w 17 0
          · rw [if_pos c4, ez, e2, dq_iadd]
            intro q
            have q2 := congrArg Int32.toInt q
            rw [hm] at q2
            by_cases b : (w 18 0).toInt + z < 2147483648
            · rw [dq_iT (by omega) b] at q2; omega
            · have e3 : dq_iI ((w 18 0).toInt + z) = dq_iI ((w 18 0).toInt + z - 4294967296) := by
                have : dq_iI 4294967296 = 0 := by decide
                rw [← dq_isub, this]; simp
              rw [e3, dq_iT (by omega) (by omega)] at q2
              omega
          · rw [if_neg c4]
            exact h17.ne (by decide)
        · rw [dq_if_f c3]
          by_cases c5 : ax_use a w 10 (dq_kd w a) = 115
          · rw [dq_if_t c5, dq_set_q (by decide), dq_set_q (by decide), u18]; exact no
          · rw [dq_if_f c5, u18]; exact no
  · refine absurd e ?_
    show ¬ nI (dq_hu w n b 5 (dq_pl w 0)).2.1 = -1000000
    have : ∀ k c, (dq_hu w n b k c).2.1 ≤ k := by
      intro k
      induction k with
      | zero => intro c; exact Nat.le_refl _
      | succ k ih =>
        intro c
        unfold dq_hu
        by_cases g : dq_free (dq_sg w (dq_nb c b))
        · rw [dq_if_t g]
          by_cases g2 : 1 ≤ dq_la w (dq_nb c b) n ∧ dq_la w (dq_nb c b) n < 8
          · rw [dq_if_t g2]; show 1 ≤ k + 1; omega
          · rw [dq_if_f g2]; show (dq_hu w n b k (dq_nb c b)).2.1 + 1 ≤ k + 1; have := ih (dq_nb c b); omega
        · rw [dq_if_f g]; exact Nat.zero_le _
    have h5 := this 5 (dq_pl w 0)
    intro q
    have q2 := congrArg Int32.toInt q
    rw [nI_toInt (by omega)] at q2
    have hm : (-1000000 : Int32).toInt = -1000000 := rfl
    omega
  · exact absurd e (s1 _ n (by have := JV.1.h8; omega))
  · have J2 := J.deed (n := n) (t := t) hi hd
    exact absurd e (J2.2.2.1.ne (by omega))
end DQR
