/-! health stays in range -/
def dq_HH (w : dq_W) : Prop := (∀ k, k < 8 → dj_R (-100) 99 (w 18 k)) ∧ (∀ k, k < 8 → dj_R 0 9 (w 16 k)) ∧ (∀ k, k < 8 → dj_R 0 99 (w 17 k)) ∧ (∀ d, d < 8 → dj_R 1 20 (w 11 d))
section DQH
variable {n t l : Nat} {w v : dq_W}
theorem dq_HH.cg (H : dq_HH w) (h : ∀ q, q = 11 ∨ q = 16 ∨ q = 17 ∨ q = 18 → v q = w q) : dq_HH v := by
  unfold dq_HH
  rw [h 11 (by omega), h 16 (by omega), h 17 (by omega), h 18 (by omega)]
  exact H
theorem dq_HH.st (H : dq_HH w) {q k : Nat} {x : Int32} (hq : ¬ (q = 11 ∨ q = 16 ∨ q = 17 ∨ q = 18)) : dq_HH (dq_set w q k x) := H.cg fun a ha => dq_set_r (by omega)
theorem dq_HH.hp (H : dq_HH w) {b : Nat} {x : Int32} (hx : dj_R (-100) 99 x) : dq_HH (dq_set w 18 b x) := by
  have e : ∀ q, q ≠ 18 → dq_set w 18 b x q = w q := fun q h => dq_set_r h
  refine ⟨fun k hk => ?_, ?_, ?_, ?_⟩
  · by_cases g : k = b
    · rw [g, dq_set_eq]; exact hx
    · rw [dq_set_ne (Or.inr g)]; exact H.1 k hk
  · rw [e 16 (by decide)]; exact H.2.1
  · rw [e 17 (by decide)]; exact H.2.2.1
  · rw [e 11 (by decide)]; exact H.2.2.2
theorem dq_HH.lv (H : dq_HH w) {b : Nat} (hb : b < 8) (hl : dq_lv w b) : dj_R 1 99 (w 18 b) := by
  refine ⟨?_, (H.1 b hb).2⟩
  unfold dq_lv at hl
  rw [Int32.le_iff_toInt_le] at hl
  have : (0 : Int32).toInt = 0 := rfl
  omega
theorem dj_R.subR {a b c d lo hi : Int} {x y : Int32} (h : dj_R a b x) (g : dj_R c d y) (h1 : lo ≤ a - d) (h2 : b - c ≤ hi) (h3 : -1000000 ≤ lo) (h4 : hi ≤ 1000000) : dj_R lo hi (x - y) := by
  obtain ⟨z, z1, z2, ez, _⟩ := g.of
  rw [ez]
  exact h.sub (by omega) (by omega) h3 h4
theorem dq_HH.harm (H : dq_HH w) {b : Nat} {x : Int32} (hb : b < 8) (hl : dq_lv w b) (hx : dj_R 0 20 x) : dq_HH (dq_set w 18 b (w 18 b - x)) :=
  H.hp ((H.lv hb hl).subR hx (by decide) (by decide) (by decide) (by decide))
theorem dq_HH.strike (H : dq_HH w) {b : Nat} {x : Int32} (hb : b < 8) (hl : dq_lv w b) (hx : dj_R 0 20 x) : dq_HH (ax_strike b x w) := by
  have H1 := H.harm hb hl hx
  unfold ax_strike
  by_cases g : dq_lv (dq_set w 18 b (w 18 b - x)) b
  · rw [dq_if_t g]; exact H1
  · rw [dq_if_f g]; exact H1.st (by decide)
theorem dq_HH.noise (H : dq_HH w) {c m i : Nat} : dq_HH (ax_noise c m i w) := H.cg fun q hq => ax_noise_r (by omega)
theorem dq_HH.burnBy (H : dq_HH w) {d c0 : Nat} {r : Int32} : dq_HH (ax_burnBy t d c0 r w) := by
  unfold ax_burnBy
  by_cases g : w 10 d = 102
  · rw [dq_if_t g]; exact H.cg fun q hq => ax_burn_o (by omega) t
  · rw [dq_if_f g]; exact H
theorem dq_HH.use (H : dq_HH w) {x : Nat} : dq_HH (ax_use x w) := (H.st (by decide)).st (by decide)
theorem dq_HH.work (H : dq_HH w) {d b : Nat} (hd : d < 8) (hb : b < 8) (hl : dq_lv w b) : dq_HH (ax_work d b w) := by
  have h11 := H.2.2.2 d hd
  unfold ax_work
  by_cases c1 : w 10 d = 98
  · rw [dq_if_t c1]
    by_cases c0 : b = 0
    · rw [dq_if_t c0]; exact H.st (by decide)
    · rw [dq_if_f c0]; exact H
  · rw [dq_if_f c1]
    by_cases c2 : w 10 d = 100
    · rw [dq_if_t c2]; exact H.harm hb hl (h11.wide (by decide) (by decide))
    · rw [dq_if_f c2]
      by_cases c3 : w 10 d = 104
      · rw [dq_if_t c3]
        refine H.hp ?_
        by_cases c4 : w 18 b + w 11 d < w 17 b
        · rw [if_pos c4]
          obtain ⟨z, z1, z2, ez, _⟩ := h11.of
          have h2 : dj_R 2 119 (w 18 b + w 11 d) := by
            rw [ez]
            exact (H.lv hb hl).add (by omega) (by omega) (by decide) (by decide)
          rw [Int32.lt_iff_toInt_lt] at c4
          have h17 := (H.2.2.1 b hb).2
          exact ⟨Int.le_trans (by decide) h2.1, by omega⟩
        · rw [if_neg c4]; exact (H.2.2.1 b hb).wide (by decide) (by decide)
      · rw [dq_if_f c3]
        by_cases c5 : w 10 d = 115
        · rw [dq_if_t c5]; exact (H.st (by decide)).st (by decide)
        · rw [dq_if_f c5]; exact H
theorem dq_HH.sh (H : dq_HH w) {d c0 : Nat} {r : Int32} (hd : d < 8) : ∀ i, i ≤ 8 → dq_HH (ax_sh d c0 r w i)
  | 0, _ => H
  | i + 1, hi => by
    have ih := dq_HH.sh (c0 := c0) (r := r) H hd i (by omega)
    show dq_HH (dq_if _ _ _)
    by_cases g : dq_lv (ax_sh d c0 r w i) i ∧ ¬ r < nI (dq_gp (dq_pl (ax_sh d c0 r w i) i) c0)
    · rw [dq_if_t g]; exact ih.work hd (by omega) g.1
    · rw [dq_if_f g]; exact ih
theorem dq_HH.land (H : dq_HH w) {x c b : Nat} (h8 : n ≤ 8) (hb8 : b ≤ 8) (hb : b ≠ 8 → dq_lv w b) : dq_HH (ax_land n t x c b w) := by
  have H1 : dq_HH (dq_set w 25 x (nI c)) := H.st (by decide)
  have ek : dq_kd (dq_set w 25 x (nI c)) x = dq_kd w x := by unfold dq_kd; rw [dq_set_q (by decide)]
  unfold ax_land
  by_cases g : 3 ≤ dq_kd w x ∧ dq_kd w x ≤ 5
  · rw [dq_if_t g]
    refine dq_HH.noise (dq_HH.burnBy ?_)
    unfold ax_shatter
    exact H1.use.sh (by rw [ek]; omega) n h8
  · rw [dq_if_f g]
    by_cases g2 : dq_kd w x = 7 ∧ b ≠ 8
    · rw [dq_if_t g2]
      have hl : dq_lv (dq_set w 25 x (nI c)) b := by
        unfold dq_lv
        rw [dq_set_q (by decide)]; exact hb g2.2
      exact (H1.strike (by omega) hl ⟨by decide, by decide⟩).noise
    · rw [dq_if_f g2]; exact H1
theorem dq_HH.deed {d a b : Nat} (H : dq_HH w) (I : dq_IV n t l w) (h0 : dq_lv w 0) (hd : dq_DV t d a b w) : dq_HH (ax_deed n t d a b w).2 := by
  have h8 := I.h8
  have ht := I.t24
  rcases hd with ⟨rfl, ha⟩ | rfl | ⟨rfl | rfl, ha⟩ | ⟨rfl, ha, hb⟩ | ⟨rfl, ha⟩ | ⟨rfl, ha, hb⟩ | ⟨rfl, ha⟩ | rfl
  · show dq_HH (ax_go n t a w).2
    have hp := (I.pl 0 (by decide)).1
    have hn := dq_nb_le _ hp a ha
    unfold ax_go
    by_cases g : 1 ≤ dq_la w (dq_nb (dq_pl w 0) a) n ∧ dq_la w (dq_nb (dq_pl w 0) a) n < 8
    · rw [dq_if_t g]
      have hl := (dq_la_in I (c := dq_nb (dq_pl w 0) a) (by omega)).2.2.1
      refine dq_HH.noise (H.strike g.2 hl ?_)
      by_cases g2 : dq_hs w t 7
      · rw [dq_if_t g2]; exact ⟨by decide, by decide⟩
      · rw [dq_if_f g2]; exact ⟨by decide, by decide⟩
    · rw [dq_if_f g]
      by_cases g2 : dq_sg w (dq_nb (dq_pl w 0) a) = 43 ∨ dq_ky w t (dq_sg w (dq_nb (dq_pl w 0) a))
      · rw [dq_if_t g2]; exact H.st (by decide)
      · rw [dq_if_f g2]
        by_cases g3 : dq_free (dq_sg w (dq_nb (dq_pl w 0) a))
        · rw [dq_if_t g3]; exact H.st (by decide)
        · rw [dq_if_f g3]; exact H
  · exact H
  · exact H.st (by decide)
  · exact H.st (by decide)
  · exact H.st (by decide)
  · show dq_HH (ax_drink t a w)
    unfold ax_drink
    have hk := (I.kd a (by omega)).1
    exact dq_HH.burnBy (H.use.work hk (by decide) (by unfold dq_lv ax_use; rw [dq_set_q (by decide), dq_set_q (by decide)]; exact h0))
  · show dq_HH (ax_hurl n t a b w).2
    unfold ax_hurl
    have hp := (I.pl 0 (by decide)).1
    have hin := dq_hu_in I hb 5 _ hp
    rcases hin.2.2 with e | ⟨_, e2, e3⟩
    · exact H.land h8 (by omega) (fun hne => absurd e hne)
    · refine H.land h8 (by omega) (fun hne => ?_)
      rw [e3]
      exact (dq_la_in I (by rw [← e3]; omega)).2.2.1
  · exact H.noise
  · show dq_HH (ax_pray w)
    unfold ax_pray
    by_cases g : dq_wk w 0 ∧ ¬ w 0 7 < 0
    · rw [dq_if_t g]; exact (H.hp ((H.2.2.1 0 (by decide)).wide (by decide) (by decide))).st (by decide)
    · rw [dq_if_f g]; exact H.st (by decide)
theorem dq_HH.move (H : dq_HH w) {b : Nat} (hb : b < 8) (h0 : dq_lv w 0) : dq_HH (ax_move n b w) := by
  have H1 : dq_HH (ax_aimed b w) ∧ (ax_aimed b w) 18 = w 18 := by
    unfold ax_aimed
    by_cases g : dq_see w (dq_pl w b) (dq_pl w 0)
    · rw [dq_if_t g]; exact ⟨H.st (by decide), dq_set_r (by decide)⟩
    · rw [dq_if_f g]; exact ⟨H, rfl⟩
  unfold ax_move
  by_cases g : ax_aimed b w 22 b = -1
  · rw [dq_if_t g]; exact H1.1
  · rw [dq_if_f g]
    have l0 : dq_lv (ax_aimed b w) 0 := by
      unfold dq_lv
      rw [H1.2]; exact h0
    have H2 : dq_HH (ax_turn n b (ax_aimed b w 22 b).toNatClampNeg (ax_aimed b w)) := by
      unfold ax_turn
      by_cases g1 : dq_wk (ax_aimed b w) b
      · rw [dq_if_t g1]; exact H1.1.st (by decide)
      · rw [dq_if_f g1]
        by_cases g2 : dq_nbr (dq_pl (ax_aimed b w) b) (dq_pl (ax_aimed b w) 0)
        · rw [dq_if_t g2]
          exact (H1.1.harm (by decide) l0 ((H1.1.2.1 b hb).wide (by decide) (by decide))).noise
        · rw [dq_if_f g2]
          unfold ax_goto
          by_cases g3 : dq_sg (ax_aimed b w) (dq_nr (ax_aimed b w) n (ax_aimed b w 22 b).toNatClampNeg (dq_pl (ax_aimed b w) b) 4) = 43
          · rw [dq_if_t g3]; exact H1.1.st (by decide)
          · rw [dq_if_f g3]; exact H1.1.st (by decide)
    unfold ax_lose
    by_cases g4 : dq_pl (ax_turn n b (ax_aimed b w 22 b).toNatClampNeg (ax_aimed b w)) b = (ax_aimed b w 22 b).toNatClampNeg ∧ ¬ dq_see (ax_turn n b (ax_aimed b w 22 b).toNatClampNeg (ax_aimed b w)) (dq_pl (ax_turn n b (ax_aimed b w 22 b).toNatClampNeg (ax_aimed b w)) b) (dq_pl w 0)
    · rw [dq_if_t g4]; exact H2.st (by decide)
    · rw [dq_if_f g4]; exact H2
theorem dq_nx_lt8 : ∀ i, i ≤ 8 → dq_nx w i ≠ 8 → dq_nx w i < 8
  | 0, _, h => absurd rfl h
  | i + 1, hi, h => by
    have ih := dq_nx_lt8 i (by omega)
    by_cases g : w 18 i ≤ 0
    · have e : dq_nx w (i + 1) = dq_nx w i := if_pos g
      rw [e] at h ⊢; exact ih h
    · by_cases g2 : w 19 i ≤ dq_ms w (dq_nx w i)
      · have e : dq_nx w (i + 1) = dq_nx w i := (if_neg g).trans (if_pos g2)
        rw [e] at h ⊢; exact ih h
      · have e : dq_nx w (i + 1) = i := (if_neg g).trans (if_neg g2)
        rw [e]; omega
theorem dq_HH.step (H : dq_HH w) (h8 : n ≤ 8) (h0 : dq_lv w 0) : dq_HH (ax_step n w) := by
  unfold ax_step
  by_cases g : dq_nx w n = 8
  · rw [dq_if_t g]; exact H.cg fun q hq => funext fun k => ax_tick_o (by omega)
  · rw [dq_if_f g]
    refine (H.st (by decide)).move (dq_nx_lt8 n h8 g) ?_
    unfold dq_lv
    rw [dq_set_q (by decide)]; exact h0
theorem dq_HH.wait (h8 : n ≤ 8) : ∀ (k : Nat) {w : dq_W}, dq_HH w → dq_HH (ax_wait n k w)
  | 0, _, H => H
  | k + 1, w, H => by
    unfold ax_wait
    by_cases g : dq_wd w n
    · rw [dq_if_t g]; exact H
    · rw [dq_if_f g]
      exact dq_HH.wait h8 k (H.step h8 (Classical.byContradiction fun q => g (Or.inl q)))
end DQH
