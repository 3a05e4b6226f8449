/-! the hero's cell is free; ticks; what is carried: over a deed and what goes on behind it -/
def dp_HF (w : dq_W) : Prop := dq_free (w 2 (dq_pl w 0))
section DPB
variable {n t l : Nat} {w f : dq_W}
theorem dp_HF.cg (h : dp_HF w) (e14 : f 14 = w 14) (e2 : f 2 = w 2) : dp_HF f := by
  unfold dp_HF dq_pl at h ⊢
  rw [e14, e2]; exact h
theorem dp_HF.st (h : dp_HF w) {q k : Nat} {v : Int32} (hq : q ≠ 14 ∧ q ≠ 2) : dp_HF (dq_set w q k v) := h.cg (dq_set_r (Ne.symm hq.1)) (dq_set_r (Ne.symm hq.2))
theorem dp_HF.s14 {b : Nat} {v : Int32} (h : dp_HF w) (hb : b ≠ 0) : dp_HF (dq_set w 14 b v) := by
  have e : dq_pl (dq_set w 14 b v) 0 = dq_pl w 0 := by unfold dq_pl; rw [dq_set_ne (Or.inr (Ne.symm hb))]
  unfold dp_HF at h ⊢
  rw [e, dq_set_q (by decide)]; exact h
theorem dp_HF.s2 {c : Nat} (h : dp_HF w) : dp_HF (dq_set w 2 c 47) := by
  have e : dq_pl (dq_set w 2 c 47) 0 = dq_pl w 0 := by unfold dq_pl; rw [dq_set_q (by decide)]
  unfold dp_HF at h ⊢
  rw [e]
  by_cases g : dq_pl w 0 = c
  · rw [g, dq_set_eq]; exact Or.inr (Or.inr rfl)
  · rw [dq_set_ne (Or.inr g)]; exact h
theorem dp_HF.ite {c : Prop} {a b : dq_W} (h : c → dp_HF a) (g : ¬ c → dp_HF b) : dp_HF (dq_if c a b) := by
  by_cases e : c
  · rw [dq_if_t e]; exact h e
  · rw [dq_if_f e]; exact g e
theorem dp_HF.noise {c m i : Nat} (h : dp_HF w) : dp_HF (ax_noise c m i w) := h.cg (ax_noise_r (by decide)) (ax_noise_r (by decide))
theorem dp_HF.move {b : Nat} (h : dp_HF w) (hb : b ≠ 0) : dp_HF (ax_move n b w) := by
  have h1 : dp_HF (ax_aimed b w) := h.cg (ax_aimed_r (by decide)) (ax_aimed_r (by decide))
  unfold ax_move
  refine dp_HF.ite (fun _ => h1) (fun _ => ?_)
  have h2 : dp_HF (ax_turn n b (ax_aimed b w 22 b).toNatClampNeg (ax_aimed b w)) := by
    unfold ax_turn ax_goto
    exact dp_HF.ite (fun _ => h1.s14 hb) (fun _ => dp_HF.ite (fun _ => (h1.st (by decide)).noise) (fun _ => dp_HF.ite (fun _ => h1.s2) (fun _ => h1.s14 hb)))
  exact h2.cg (ax_lose_r (by decide)) (ax_lose_r (by decide))
theorem dp_HF.tick (h : dp_HF w) : dp_HF (ax_tick n w) := h.cg (funext fun k => ax_tick_o (by omega)) (funext fun k => ax_tick_o (by omega))
theorem dp_HF.wait : ∀ (k : Nat) {w : dq_W}, dp_HF w → dp_HF (ax_wait n k w)
  | 0, _, h => h
  | k + 1, w, h => by
    unfold ax_wait
    by_cases g : dq_wd w n
    · rw [dq_if_t g]; exact h
    · rw [dq_if_f g]
      refine dp_HF.wait k ?_
      unfold ax_step
      exact dp_HF.ite (fun _ => h.tick) (fun _ => (h.st (by decide)).move (fun e => g (Or.inr e)))
theorem dp_HF.strike {b : Nat} {v : Int32} (h : dp_HF w) : dp_HF (ax_strike b v w) := h.cg (ax_strike_r (by omega)) (ax_strike_r (by omega))
theorem dp_HF.use {x : Nat} (h : dp_HF w) : dp_HF (ax_use x w) := (h.st (by decide)).st (by decide)
theorem dp_HF.work {d b : Nat} (h : dp_HF w) : dp_HF (ax_work d b w) := h.cg (ax_work_o (by decide)) (ax_work_o (by decide))
theorem dp_HF.burnBy {d c0 : Nat} {r : Int32} (h : dp_HF w) : dp_HF (ax_burnBy t d c0 r w) := dp_HF.ite (fun _ => h.cg (ax_burn_o (by omega) _) (ax_burn_o (by omega) _)) (fun _ => h)
theorem dp_HF.sh {d c0 : Nat} {r : Int32} (h : dp_HF w) : ∀ i, dp_HF (ax_sh d c0 r w i)
  | 0 => h
  | i + 1 => dp_HF.ite (fun _ => (dp_HF.sh h i).work) (fun _ => dp_HF.sh h i)
theorem dp_HF.land {x c b : Nat} (h : dp_HF w) : dp_HF (ax_land n t x c b w) := by
  unfold ax_land
  exact dp_HF.ite (fun _ => (dp_HF.sh (dp_HF.use (h.st (by decide))) n).burnBy.noise) (fun _ => dp_HF.ite (fun _ => (dp_HF.strike (h.st (by decide))).noise) (fun _ => h.st (by decide)))
theorem dp_HF.deed {d a b : Nat} (I : dq_IV n t l w) (h : dp_HF w) (hd : dq_DV t d a b w) : dp_HF (ax_deed n t d a b w).2 := by
  have cs : d = 0 ∨ d = 1 ∨ d = 2 ∨ d = 3 ∨ d = 4 ∨ d = 5 ∨ d = 6 ∨ d = 7 ∨ d = 8 := by rcases hd with g | g | g | g | g | g | g | g <;> omega
  rcases cs with rfl | rfl | rfl | rfl | rfl | rfl | rfl | rfl | rfl
  · have ha : a < 4 := by rcases hd with g | g | g | g | g | g | g | g <;> omega
    have hn := dq_nb_le (dq_pl w 0) (I.pl 0 (by decide)).1 a ha
    show dp_HF (ax_go n t a w).2
    unfold ax_go
    by_cases g : 1 ≤ dq_la w (dq_nb (dq_pl w 0) a) n ∧ dq_la w (dq_nb (dq_pl w 0) a) n < 8
    · rw [dq_if_t g]; exact h.strike.noise
    · rw [dq_if_f g]
      by_cases g2 : dq_sg w (dq_nb (dq_pl w 0) a) = 43 ∨ dq_ky w t (dq_sg w (dq_nb (dq_pl w 0) a))
      · rw [dq_if_t g2]; exact h.s2
      · rw [dq_if_f g2]
        by_cases g3 : dq_free (dq_sg w (dq_nb (dq_pl w 0) a))
        · rw [dq_if_t g3]
          have hc := dq_free_in hn g3
          rw [dq_sg_in hc] at g3
          have e : ∀ c, c < 144 → dq_pl (dq_set w 14 0 (nI c)) 0 = c := fun c hc => by unfold dq_pl; rw [dq_set_eq, nI_clamp (by omega)]
          show dp_HF (dq_set w 14 0 (nI (dq_nb (dq_pl w 0) a)))
          unfold dp_HF
          rw [e _ hc, dq_set_q (by decide)]; exact g3
        · rw [dq_if_f g3]; exact h
  · exact h
  · exact h.st (by decide)
  · exact h.st (by decide)
  · exact h.st (by decide)
  · exact h.use.work.burnBy
  · exact h.land
  · exact h.noise
  · show dp_HF (ax_pray w)
    unfold ax_pray
    exact dp_HF.ite (fun _ => (h.st (by decide)).st (by decide)) (fun _ => h.st (by decide))
/-! things -/
theorem dp_T.noise {c m i : Nat} (h : dp_T w f) : dp_T w (ax_noise c m i f) := h.tr (dp_T.cg fun q hq => ax_noise_r (by omega))
theorem dp_T.strike {b : Nat} {v : Int32} (h : dp_T w f) : dp_T w (ax_strike b v f) := h.tr (dp_T.cg fun q hq => ax_strike_r (by omega))
theorem dp_T.work {d b : Nat} (h : dp_T w f) : dp_T w (ax_work d b f) := h.tr (dp_T.cg fun q hq => ax_work_o (by omega))
theorem dp_T.use {x : Nat} (h : dp_T w f) : dp_T w (ax_use x f) := (h.s25 dp_gone).st (by decide)
theorem dp_T.sh {d c0 : Nat} {r : Int32} (h : dp_T w f) : ∀ i, dp_T w (ax_sh d c0 r f i)
  | 0 => h
  | i + 1 => dp_T.ite (fun _ => (dp_T.sh h i).work) (fun _ => dp_T.sh h i)
theorem dp_T.burn {c0 : Nat} {r : Int32} (h : dp_T w f) : ∀ i, dp_T w (ax_burn t c0 r f i)
  | 0 => h
  | i + 1 => dp_T.ite (fun q => by
      obtain ⟨c, hc, e, _⟩ := q
      rw [e]
      exact ((dp_T.burn h i).s25 dp_gone).mv (dp_cell hc)) (fun _ => dp_T.burn h i)
theorem dp_T.burnBy {d c0 : Nat} {r : Int32} (h : dp_T w f) : dp_T w (ax_burnBy t d c0 r f) := dp_T.ite (fun _ => h.burn _) (fun _ => h)
theorem dp_T.land {x c b : Nat} (hc : c < 144) (h : dp_T w f) : dp_T w (ax_land n t x c b f) := by
  unfold ax_land
  exact dp_T.ite (fun _ => (dp_T.sh (dp_T.use (h.s25 (dp_cell hc))) n).burnBy.noise) (fun _ => dp_T.ite (fun _ => (dp_T.strike (h.s25 (dp_cell hc))).noise) (fun _ => h.s25 (dp_cell hc)))
theorem dp_T.deed {d a b : Nat} (I : dq_IV n t l w) (hd : dq_DV t d a b w) (h2 : d ≠ 2) (h4 : d ≠ 4) : dp_T w (ax_deed n t d a b w).2 := by
  have cs : d = 0 ∨ d = 1 ∨ d = 3 ∨ d = 5 ∨ d = 6 ∨ d = 7 ∨ d = 8 := by rcases hd with g | g | g | g | g | g | g | g <;> omega
  have hp := (I.pl 0 (by decide)).1
  rcases cs with rfl | rfl | rfl | rfl | rfl | rfl | rfl
  · show dp_T w (ax_go n t a w).2
    unfold ax_go
    by_cases g : 1 ≤ dq_la w (dq_nb (dq_pl w 0) a) n ∧ dq_la w (dq_nb (dq_pl w 0) a) n < 8
    · rw [dq_if_t g]; exact dp_T.rf.strike.noise
    · rw [dq_if_f g]
      by_cases g2 : dq_sg w (dq_nb (dq_pl w 0) a) = 43 ∨ dq_ky w t (dq_sg w (dq_nb (dq_pl w 0) a))
      · rw [dq_if_t g2]; exact dp_T.rf.st (by decide)
      · rw [dq_if_f g2]
        by_cases g3 : dq_free (dq_sg w (dq_nb (dq_pl w 0) a))
        · rw [dq_if_t g3]; exact dp_T.rf.st (by decide)
        · rw [dq_if_f g3]; exact dp_T.rf
  · exact dp_T.rf
  · exact dp_T.rf.s25 (dp_cell hp)
  · exact dp_T.rf.use.work.burnBy
  · have hb : b < 4 := by rcases hd with g | g | g | g | g | g | g | g <;> omega
    exact dp_T.land (dq_hu_in I hb 5 _ hp).1 dp_T.rf
  · exact dp_T.rf.noise
  · show dp_T w (ax_pray w)
    unfold ax_pray
    exact dp_T.ite (fun _ => (dp_T.rf.st (by decide)).st (by decide)) (fun _ => dp_T.rf.st (by decide))
theorem dp_T.move {b : Nat} (h : dp_T w f) : dp_T w (ax_move n b f) := h.tr (dp_T.cg fun q hq => ax_move_r (by omega))
theorem dp_T.tick (h : dp_T w f) : dp_T w (ax_tick n f) := h.tr (dp_T.cg fun q hq => funext fun k => ax_tick_o (by omega))
theorem dp_T.wait : ∀ (k : Nat) {f : dq_W}, dp_T w f → dp_T w (ax_wait n k f)
  | 0, _, h => h
  | k + 1, f, h => by
    unfold ax_wait ax_step
    exact dp_T.ite (fun _ => h) (fun _ => dp_T.wait k (dp_T.ite (fun _ => h.tick) (fun _ => (h.st (by omega)).move)))
/-! ticks -/
theorem dp_tk_step {τ : Nat} (h : w 0 5 = nI τ) : ∃ σ, τ ≤ σ ∧ σ ≤ τ + 1 ∧ ax_step n w 0 5 = nI σ := by
  unfold ax_step
  by_cases g : dq_nx w n = 8
  · rw [dq_if_t g]
    refine ⟨τ + 1, by omega, by omega, ?_⟩
    unfold ax_tick
    rw [dq_set_eq, h]
    exact nI_1 τ
  · rw [dq_if_f g]
    refine ⟨τ, by omega, by omega, ?_⟩
    have : ax_move n (dq_nx w n) (dq_set w 19 (dq_nx w n) (w 19 (dq_nx w n) - 12)) 0 = dq_set w 19 (dq_nx w n) (w 19 (dq_nx w n) - 12) 0 := ax_move_r (by decide)
    rw [this, dq_set_q (by decide)]; exact h
theorem dp_tk_wait : ∀ (k : Nat) {w : dq_W} {τ : Nat}, w 0 5 = nI τ → ∃ σ, τ ≤ σ ∧ σ ≤ τ + k ∧ ax_wait n k w 0 5 = nI σ
  | 0, _, τ, h => ⟨τ, by omega, by omega, h⟩
  | k + 1, w, τ, h => by
    unfold ax_wait
    by_cases g : dq_wd w n
    · rw [dq_if_t g]; exact ⟨τ, by omega, by omega, h⟩
    · rw [dq_if_f g]
      obtain ⟨σ, h1, h2, h3⟩ := dp_tk_step (n := n) h
      obtain ⟨ρ, g1, g2, g3⟩ := dp_tk_wait k h3
      exact ⟨ρ, by omega, by omega, g3⟩
/-- nobody has an energy: a tick -/
theorem dp_nx0 : ∀ i, i ≤ 8 → (∀ k, k < i → w 19 k = 0) → dq_nx w i = 8
  | 0, _, _ => rfl
  | i + 1, hi, h => by
    have ih := dp_nx0 i (by omega) (fun k hk => h k (by omega))
    rw [dq_nx_s, ih]
    by_cases c : w 18 i ≤ 0
    · rw [if_pos c]
    · rw [if_neg c, if_pos]
      rw [h i (by omega)]
      show (0 : Int32) ≤ 11
      decide
theorem dp_tk_1 {k : Nat} (h8 : n ≤ 8) (h0 : w 0 5 = 0) (hl : dq_lv w 0) (h : ∀ k, k < n → w 19 k = 0) : ∃ σ, 1 ≤ σ ∧ σ ≤ k + 1 ∧ ax_wait n (k + 1) w 0 5 = nI σ := by
  have hx := dp_nx0 n h8 h
  have nw : ¬ dq_wd w n := by
    rintro (q | q)
    · exact q hl
    · rw [hx] at q; omega
  unfold ax_wait
  rw [dq_if_f nw]
  have e : ax_step n w 0 5 = nI 1 := by
    unfold ax_step
    rw [dq_if_t hx]
    unfold ax_tick
    rw [dq_set_eq, h0]; rfl
  obtain ⟨σ, h1, h2, h3⟩ := dp_tk_wait (n := n) k e
  exact ⟨σ, h1, by omega, h3⟩
theorem dp_tk_deed {d a b : Nat} (hd : dq_DV t d a b w) : (ax_deed n t d a b w).2 0 5 = w 0 5 := by
  have cs : d = 0 ∨ d = 1 ∨ d = 2 ∨ d = 3 ∨ d = 4 ∨ d = 5 ∨ d = 6 ∨ d = 7 ∨ d = 8 := by rcases hd with g | g | g | g | g | g | g | g <;> omega
  have st : ∀ (v : dq_W) (b : Nat) (x : Int32), ax_strike b x v 0 5 = v 0 5 := fun v b x => by
    unfold ax_strike
    by_cases g : dq_lv (dq_set v 18 b (v 18 b - x)) b
    · rw [dq_if_t g, dq_set_q (by decide)]
    · rw [dq_if_f g, dq_set_ne (Or.inr (by decide)), dq_set_q (by decide)]
  have z : ∀ (k : Nat) (v : Int32), dq_set w 25 k v 0 5 = w 0 5 := fun k v => dq_set_q (by decide)
  have no : ∀ (v : dq_W) (c m i : Nat), ax_noise c m i v 0 5 = v 0 5 := fun v c m i => by rw [ax_noise_r (by decide)]
  have wk : ∀ (v : dq_W) (d b : Nat), ax_work d b v 0 5 = v 0 5 := fun v d b => by
    unfold ax_work
    by_cases g : v 10 d = 98
    · rw [dq_if_t g]
      by_cases g2 : b = 0
      · rw [dq_if_t g2, dq_set_ne (Or.inr (by decide))]
      · rw [dq_if_f g2]
    · rw [dq_if_f g]
      by_cases g2 : v 10 d = 100
      · rw [dq_if_t g2, dq_set_q (by decide)]
      · rw [dq_if_f g2]
        by_cases g3 : v 10 d = 104
        · rw [dq_if_t g3, dq_set_q (by decide)]
        · rw [dq_if_f g3]
          by_cases g4 : v 10 d = 115
          · rw [dq_if_t g4, dq_set_q (by decide), dq_set_q (by decide)]
          · rw [dq_if_f g4]
  have us : ∀ (v : dq_W) (x : Nat), ax_use x v 0 5 = v 0 5 := fun v x => by
    unfold ax_use
    rw [dq_set_ne (Or.inr (by decide)), dq_set_q (by decide)]
  have bu : ∀ (v : dq_W) (d c0 : Nat) (r : Int32), ax_burnBy t d c0 r v 0 5 = v 0 5 := fun v d c0 r => by
    unfold ax_burnBy
    by_cases g : v 10 d = 102
    · rw [dq_if_t g, ax_burn_o (by omega)]
    · rw [dq_if_f g]
  have sh : ∀ (v : dq_W) (d c0 : Nat) (r : Int32) (i : Nat), ax_sh d c0 r v i 0 5 = v 0 5 := fun v d c0 r i => by
    induction i with
    | zero => rfl
    | succ i ih =>
      show dq_if _ (ax_work d i (ax_sh d c0 r v i)) (ax_sh d c0 r v i) 0 5 = v 0 5
      by_cases g : dq_lv (ax_sh d c0 r v i) i ∧ ¬ r < nI (dq_gp (dq_pl (ax_sh d c0 r v i) i) c0)
      · rw [dq_if_t g, wk]; exact ih
      · rw [dq_if_f g]; exact ih
  rcases cs with rfl | rfl | rfl | rfl | rfl | rfl | rfl | rfl | rfl
  · show (ax_go n t a w).2 0 5 = w 0 5
    unfold ax_go
    by_cases g : 1 ≤ dq_la w (dq_nb (dq_pl w 0) a) n ∧ dq_la w (dq_nb (dq_pl w 0) a) n < 8
    · rw [dq_if_t g]
      show ax_noise _ _ _ (ax_strike _ _ w) 0 5 = _
      rw [no, st]
    · rw [dq_if_f g]
      by_cases g2 : dq_sg w (dq_nb (dq_pl w 0) a) = 43 ∨ dq_ky w t (dq_sg w (dq_nb (dq_pl w 0) a))
      · rw [dq_if_t g2]; exact dq_set_q (w := w) (q := 2) (k := dq_nb (dq_pl w 0) a) (a := 0) (b := 5) (v := 47) (by decide)
      · rw [dq_if_f g2]
        by_cases g3 : dq_free (dq_sg w (dq_nb (dq_pl w 0) a))
        · rw [dq_if_t g3]; exact dq_set_q (w := w) (q := 14) (k := 0) (a := 0) (b := 5) (v := nI (dq_nb (dq_pl w 0) a)) (by decide)
        · rw [dq_if_f g3]
  · rfl
  · exact z a (-1)
  · exact z a (nI (dq_pl w 0))
  · exact z a (if b = 24 then -1 else (-3) - nI b)
  · show ax_burnBy _ _ _ _ (ax_work _ _ (ax_use _ w)) 0 5 = _
    rw [bu, wk, us]
  · show ax_land _ _ _ _ _ w 0 5 = _
    unfold ax_land
    by_cases g : 3 ≤ dq_kd w a ∧ dq_kd w a ≤ 5
    · rw [dq_if_t g, no, bu]
      show ax_sh _ _ _ (ax_use _ _) _ 0 5 = _
      rw [sh, us, dq_set_q (by decide)]
    · rw [dq_if_f g]
      by_cases g2 : dq_kd w a = 7 ∧ (dq_hu w n b 5 (dq_pl w 0)).2.2 ≠ 8
      · rw [dq_if_t g2, no, st, dq_set_q (by decide)]
      · rw [dq_if_f g2, dq_set_q (by decide)]
  · show ax_noise _ _ _ w 0 5 = _
    rw [no]
  · show ax_pray w 0 5 = _
    unfold ax_pray
    by_cases g : dq_wk w 0 ∧ ¬ w 0 7 < 0
    · rw [dq_if_t g, dq_set_ne (Or.inr (by decide)), dq_set_q (by decide)]
    · rw [dq_if_f g, dq_set_ne (Or.inr (by decide))]
end DPB
