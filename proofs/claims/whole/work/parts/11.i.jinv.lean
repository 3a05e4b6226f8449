/-! what holds of a world that is on; it comes to rest -/
def dj_R (lo hi : Int) (x : Int32) : Prop := lo ≤ x.toInt ∧ x.toInt ≤ hi
def dq_RG (n : Nat) (w : dq_W) : Prop := (∀ k, k < n → dj_R 0 35 (w 19 k)) ∧ (∀ k, k < n → dj_R 1 24 (w 15 k)) ∧ (∀ k, k < 8 → 0 < w 21 k → dj_R 1 24 (w 20 k)) ∧ (∀ d, d < 8 → dj_R 1 20 (w 11 d))
def dq_KV (n : Nat) (w : dq_W) : Prop := dq_NN w ∧ dq_WD w ∧ dq_RG n w
def dq_JV (n t l : Nat) (w : dq_W) : Prop := dq_IV n t l w ∧ dq_IU n w ∧ dq_KV n w
/-- the hero's turn -/
def dq_RT (n : Nat) (w : dq_W) : Prop := dq_lv w 0 ∧ dq_nx w n = 0
section DQJ
variable {n t l : Nat} {w f : dq_W}
theorem dq_KV.cg (H : dq_KV n w) (h : ∀ q, q = 9 ∨ q = 11 ∨ q = 15 ∨ q = 19 ∨ q = 20 ∨ q = 21 → f q = w q) (h0 : f 0 8 = w 0 8) : dq_KV n f := by
  obtain ⟨⟨a1, a2⟩, b, c1, c2, c3, c4⟩ := H
  have e9 := h 9 (by omega)
  have e11 := h 11 (by omega)
  have e15 := h 15 (by omega)
  have e19 := h 19 (by omega)
  have e20 := h 20 (by omega)
  have e21 := h 21 (by omega)
  refine ⟨⟨by rw [h0]; exact a1, fun k hk => by rw [e21]; exact a2 k hk⟩, fun d hd => by rw [e9]; exact b d hd, fun k hk => by rw [e19]; exact c1 k hk, fun k hk => by rw [e15]; exact c2 k hk, fun k hk => by rw [e20, e21]; exact c3 k hk, fun d hd => by rw [e11]; exact c4 d hd⟩
theorem dq_KV.st (H : dq_KV n w) {q k : Nat} {v : Int32} (hq : ¬ (q = 9 ∨ q = 11 ∨ q = 15 ∨ q = 19 ∨ q = 20 ∨ q = 21 ∨ (q = 0 ∧ k = 8))) : dq_KV n (dq_set w q k v) :=
  H.cg (fun a ha => dq_set_r (by rintro rfl; omega)) (dq_set_ne (by omega))
theorem dq_IU.cg (U : dq_IU n w) (h18 : f 18 = w 18) (h14 : f 14 = w 14) (h2 : f 2 = w 2) : dq_IU n f :=
  U.sub (fun i _ h => by unfold dq_lv at h ⊢; rw [← h18]; exact h) (fun i _ => by unfold dq_pl; rw [h14]) (fun c h => by rw [h2]; exact h)
theorem dq_IU.st (U : dq_IU n w) {q k : Nat} {v : Int32} (hq : q ≠ 18 ∧ q ≠ 14 ∧ q ≠ 2) : dq_IU n (dq_set w q k v) :=
  U.cg (dq_set_r (Ne.symm hq.1)) (dq_set_r (Ne.symm hq.2.1)) (dq_set_r (Ne.symm hq.2.2))
/-- the health of one that lives changes -/
theorem dq_IU.s18 (U : dq_IU n w) {b : Nat} {v : Int32} (hb : dq_lv w b) : dq_IU n (dq_set w 18 b v) :=
  U.sub (fun i _ h => by
    by_cases e : i = b
    · rw [e]; exact hb
    · unfold dq_lv at h ⊢; rw [dq_set_ne (Or.inr e)] at h; exact h) (fun i _ => by unfold dq_pl; rw [dq_set_q (by decide)]) (fun c h => by rw [dq_set_q (by decide)]; exact h)
theorem dq_IU.s2 (U : dq_IU n w) {c : Nat} : dq_IU n (dq_set w 2 c 47) :=
  U.sub (fun i _ h => by unfold dq_lv at h ⊢; rw [dq_set_q (by decide)] at h; exact h) (fun i _ => by unfold dq_pl; rw [dq_set_q (by decide)]) (fun d h => by
    by_cases e : d = c
    · rw [e, dq_set_eq]; exact Or.inr (Or.inr rfl)
    · rw [dq_set_ne (Or.inr e)]; exact h)
theorem dq_la_no {c : Nat} (h8 : n ≤ 8) (h : dq_la w c n = 8) : ∀ i, i < n → dq_lv w i → dq_pl w i ≠ c := by
  intro i hi hl he
  obtain ⟨m, ⟨m1, m2, m3⟩, hm⟩ := dq_min (fun i => i < n ∧ dq_lv w i ∧ dq_pl w i = c) i ⟨hi, hl, he⟩
  have := dq_la_y (f := w) (c := c) (k := m) (by omega) m2 m3 (fun j hj h1 h2 => by
    have := hm j ⟨by omega, h1, h2⟩
    omega) n m1
  omega
/-- one goes to a free cell where nobody lives -/
theorem dq_IU.s14 (U : dq_IU n w) {b c : Nat} (hc : c < 144) (hf : dq_free (w 2 c)) (hn : ∀ i, i < n → i ≠ b → dq_lv w i → dq_pl w i ≠ c) : dq_IU n (dq_set w 14 b (nI c)) := by
  have elv : ∀ i, dq_lv (dq_set w 14 b (nI c)) i = dq_lv w i := fun i => by unfold dq_lv; rw [dq_set_q (by decide)]
  have e2 : ∀ d, dq_set w 14 b (nI c) 2 d = w 2 d := fun d => dq_set_q (by decide)
  have epb : dq_pl (dq_set w 14 b (nI c)) b = c := by unfold dq_pl; rw [dq_set_eq, nI_clamp (by omega)]
  have epn : ∀ i, i ≠ b → dq_pl (dq_set w 14 b (nI c)) i = dq_pl w i := fun i h => by unfold dq_pl; rw [dq_set_ne (Or.inr h)]
  intro i hi hl
  rw [elv] at hl
  rw [e2]
  by_cases e : i = b
  · subst e
    rw [epb]
    refine ⟨hf, fun j hj hlj he => ?_⟩
    rw [elv] at hlj
    by_cases e2 : j = i
    · exact e2
    · rw [epn j e2] at he
      exact absurd he (hn j hj e2 hlj)
  · rw [epn i e]
    refine ⟨(U i hi hl).1, fun j hj hlj he => ?_⟩
    rw [elv] at hlj
    by_cases e2 : j = b
    · subst e2
      rw [epb] at he
      exact absurd he.symm (hn i hi e hl)
    · rw [epn j e2] at he
      exact (U i hi hl).2 j hj hlj he
/-! numbers -/
theorem dj_R.of {lo hi : Int} {x : Int32} (h : dj_R lo hi x) : ∃ z : Int, lo ≤ z ∧ z ≤ hi ∧ x = dq_iI z ∧ x.toInt = z := ⟨x.toInt, h.1, h.2, dq_of_int rfl, rfl⟩
theorem dj_R.mk {lo hi z : Int} (h1 : lo ≤ z) (h2 : z ≤ hi) (h3 : -1000000 ≤ z) (h4 : z ≤ 1000000) : dj_R lo hi (dq_iI z) := by
  unfold dj_R
  rw [dq_iT (by omega) (by omega)]
  exact ⟨h1, h2⟩
theorem dq_nx_8 : ∀ i, i ≤ 8 → dq_nx w i = 8 → ∀ j, j < i → dq_lv w j → w 19 j ≤ 11
  | 0, _, _, j, h, _ => absurd h (Nat.not_lt_zero _)
  | i + 1, hi, h, j, hj, hl => by
    rw [dq_nx_s] at h
    by_cases c1 : w 18 i ≤ 0
    · rw [if_pos c1] at h
      have : j ≠ i := fun e => hl (e ▸ c1)
      exact dq_nx_8 i (by omega) h j (by omega) hl
    · rw [if_neg c1] at h
      by_cases c2 : w 19 i ≤ dq_ms w (dq_nx w i)
      · rw [if_pos c2] at h
        by_cases e : j = i
        · rw [h] at c2
          rw [e]; exact c2
        · exact dq_nx_8 i (by omega) h j (by omega) hl
      · rw [if_neg c2] at h
        omega
theorem dq_nx_lv : ∀ i, i ≤ 8 → dq_nx w i ≠ 8 → dq_nx w i < i ∧ dq_lv w (dq_nx w i)
  | 0, _, h => absurd rfl h
  | i + 1, hi, h => by
    rw [dq_nx_s] at h ⊢
    by_cases c1 : w 18 i ≤ 0
    · rw [if_pos c1] at h ⊢
      have := dq_nx_lv i (by omega) h
      exact ⟨by omega, this.2⟩
    · rw [if_neg c1] at h ⊢
      by_cases c2 : w 19 i ≤ dq_ms w (dq_nx w i)
      · rw [if_pos c2] at h ⊢
        have := dq_nx_lv i (by omega) h
        exact ⟨by omega, this.2⟩
      · rw [if_neg c2]
        exact ⟨by omega, c1⟩
/-! a tick -/
theorem ax_tick_o {q k : Nat} (h : q ≠ 19 ∧ q ≠ 21 ∧ (q ≠ 0 ∨ (k ≠ 8 ∧ k ≠ 5))) : ax_tick n w q k = w q k := by
  unfold ax_tick
  rw [dq_set_ne (by omega), dq_set_ne (by omega), dq_gain_o (Or.inl ⟨h.1, h.2.1⟩)]
theorem ax_tick_19 {k : Nat} (hk : k < n) (hl : dq_lv w k) : ax_tick n w 19 k = w 19 k + (if w 21 k ≤ 0 then w 15 k else w 20 k) := by
  unfold ax_tick
  rw [dq_set_q (by decide), dq_set_q (by decide), dq_gain_19 hk hl]
theorem ax_tick_19d {k : Nat} (hl : ¬ dq_lv w k) : ax_tick n w 19 k = w 19 k := by
  unfold ax_tick
  rw [dq_set_q (by decide), dq_set_q (by decide), dq_gain_19d (Classical.not_not.mp hl)]
theorem dq_gainI (H : dq_KV n w) {k : Nat} (hk : k < n) (h8 : n ≤ 8) : dj_R 1 24 (if w 21 k ≤ 0 then w 15 k else w 20 k) := by
  obtain ⟨⟨a1, a2⟩, b, c1, c2, c3, c4⟩ := H
  by_cases g : w 21 k ≤ 0
  · rw [if_pos g]; exact c2 k hk
  · rw [if_neg g]
    refine c3 k (by omega) ?_
    rw [Int32.lt_iff_toInt_lt]
    rw [Int32.le_iff_toInt_le] at g
    omega
theorem ax_tick_J (J : dq_JV n t l w) (hx : dq_nx w n = 8) : dq_JV n t l (ax_tick n w) := by
  obtain ⟨I, U, H⟩ := J
  have h8 := I.h8
  have G := fun k hk => dq_gainI H (k := k) hk h8
  obtain ⟨⟨a1, a2⟩, b, c1, c2, c3, c4⟩ := H
  have r : ∀ q, q ≠ 19 → q ≠ 21 → q ≠ 0 → ax_tick n w q = w q := fun q h1 h2 h3 => funext fun k => ax_tick_o ⟨h1, h2, Or.inl h3⟩
  refine ⟨ax_tick_I I, U.cg (r 18 (by decide) (by decide) (by decide)) (r 14 (by decide) (by decide) (by decide)) (r 2 (by decide) (by decide) (by decide)), ⟨?_, fun k hk => ?_⟩, fun d hd => ?_, fun k hk => ?_, fun k hk => ?_, fun k hk h => ?_, fun d hd => ?_⟩
  · have e : ax_tick n w 0 8 = (if (0 : Int32) < w 0 8 - 1 then w 0 8 - 1 else 0) := by
      unfold ax_tick
      rw [dq_set_ne (Or.inr (by decide)), dq_set_eq]
    rw [e]
    by_cases g : (0 : Int32) < w 0 8 - 1
    · rw [if_pos g]
      rw [Int32.lt_iff_toInt_lt] at g ⊢
      omega
    · rw [if_neg g]; decide
  · by_cases g : k < n
    · have e : ax_tick n w 21 k = (if (0 : Int32) < w 21 k - 1 then w 21 k - 1 else 0) := by
        unfold ax_tick
        rw [dq_set_q (by decide), dq_set_q (by decide), dq_gain_21 g]
      rw [e]
      by_cases g : (0 : Int32) < w 21 k - 1
      · rw [if_pos g]
        rw [Int32.lt_iff_toInt_lt] at g ⊢
        omega
      · rw [if_neg g]; decide
    · have e : ax_tick n w 21 k = w 21 k := by
        unfold ax_tick
        rw [dq_set_q (by decide), dq_set_q (by decide), dq_gain_o (Or.inr (by omega))]
      rw [e]; exact a2 k hk
  · rw [r 9 (by decide) (by decide) (by decide)]; exact b d hd
  · by_cases g : dq_lv w k
    · rw [ax_tick_19 hk g]
      obtain ⟨z1, p1, p2, p3, p4⟩ := (c1 k hk).of
      obtain ⟨z2, q1, q2, q3, _⟩ := (G k hk).of
      have hle := dq_nx_8 n h8 hx k hk g
      rw [Int32.le_iff_toInt_le, p4] at hle
      have e11 : (11 : Int32).toInt = 11 := rfl
      rw [q3, p3, dq_iadd]
      exact dj_R.mk (by omega) (by omega) (by omega) (by omega)
    · rw [ax_tick_19d g]; exact c1 k hk
  · rw [r 15 (by decide) (by decide) (by decide)]; exact c2 k hk
  · rw [r 20 (by decide) (by decide) (by decide)]
    refine c3 k hk ?_
    by_cases g : k < n
    · have e : ax_tick n w 21 k = (if (0 : Int32) < w 21 k - 1 then w 21 k - 1 else 0) := by
        unfold ax_tick
        rw [dq_set_q (by decide), dq_set_q (by decide), dq_gain_21 g]
      rw [e, dq_dec (a2 k hk)] at h
      by_cases g2 : w 21 k ≤ 0
      · rw [if_pos g2, Int32.sub_zero] at h; exact h
      · rw [Int32.lt_iff_toInt_lt]
        rw [Int32.le_iff_toInt_le] at g2
        omega
    · have e : ax_tick n w 21 k = w 21 k := by
        unfold ax_tick
        rw [dq_set_q (by decide), dq_set_q (by decide), dq_gain_o (Or.inr (by omega))]
      rw [e] at h; exact h
  · rw [r 11 (by decide) (by decide) (by decide)]; exact c4 d hd
/-! a beast's turn -/
theorem ax_noise_r {c m i q : Nat} (h : q ≠ 22) : ax_noise c m i w q = w q := funext fun _ => ax_noise_o (Or.inl h)
theorem ax_aimed_r {b q : Nat} (h : q ≠ 22) : ax_aimed b w q = w q := by
  unfold ax_aimed
  by_cases g : dq_see w (dq_pl w b) (dq_pl w 0)
  · rw [dq_if_t g, dq_set_r h]
  · rw [dq_if_f g]
theorem ax_lose_r {b a h q : Nat} (hq : q ≠ 22) : ax_lose b a h w q = w q := by
  unfold ax_lose
  by_cases g : dq_pl w b = a ∧ ¬ dq_see w (dq_pl w b) h
  · rw [dq_if_t g, dq_set_r hq]
  · rw [dq_if_f g]
theorem ax_goto_r {b c q : Nat} (h : q ≠ 2 ∧ q ≠ 14) : ax_goto b c w q = w q := by
  unfold ax_goto
  by_cases g : dq_sg w c = 43
  · rw [dq_if_t g, dq_set_r h.1]
  · rw [dq_if_f g, dq_set_r h.2]
theorem ax_turn_r {b a q : Nat} (h : q ≠ 2 ∧ q ≠ 14 ∧ q ≠ 18 ∧ q ≠ 22) : ax_turn n b a w q = w q := by
  unfold ax_turn
  by_cases g : dq_wk w b
  · rw [dq_if_t g, dq_set_r h.2.1]
  · rw [dq_if_f g]
    by_cases g2 : dq_nbr (dq_pl w b) (dq_pl w 0)
    · rw [dq_if_t g2, ax_noise_r h.2.2.2, dq_set_r h.2.2.1]
    · rw [dq_if_f g2, ax_goto_r ⟨h.1, h.2.1⟩]
theorem ax_move_r {b q : Nat} (h : q ≠ 2 ∧ q ≠ 14 ∧ q ≠ 18 ∧ q ≠ 22) : ax_move n b w q = w q := by
  unfold ax_move
  by_cases g : ax_aimed b w 22 b = -1
  · rw [dq_if_t g, ax_aimed_r h.2.2.2]
  · rw [dq_if_f g, ax_lose_r h.2.2.2, ax_turn_r h, ax_aimed_r h.2.2.2]
theorem dq_fl_o {a h : Nat} (hh : h < 144) : ∀ v, v ≤ 4 → dq_fl w n a h v = h ∨ dq_op w n (dq_fl w n a h v)
  | 0, _ => Or.inl rfl
  | v + 1, hv => by
    have ih := dq_fl_o (a := a) hh v (by omega)
    have e : dq_fl w n a h (v + 1) = dq_if (dq_op w n (dq_nb h v) ∧ dq_D (dq_tl w 1 0) a (dq_fl w n a h v) < dq_D (dq_tl w 1 0) a (dq_nb h v)) (dq_nb h v) (dq_fl w n a h v) := rfl
    rw [e]
    by_cases c : dq_op w n (dq_nb h v) ∧ dq_D (dq_tl w 1 0) a (dq_fl w n a h v) < dq_D (dq_tl w 1 0) a (dq_nb h v)
    · rw [dq_if_t c]; exact Or.inr c.1
    · rw [dq_if_f c]; exact ih
theorem dq_nr_o {a h : Nat} (hh : h < 144) : ∀ v, v ≤ 4 → dq_nr w n a h v = h ∨ dq_op w n (dq_nr w n a h v) ∨ dq_sg w (dq_nr w n a h v) = 43
  | 0, _ => Or.inl rfl
  | v + 1, hv => by
    have ih := dq_nr_o (a := a) hh v (by omega)
    have e : dq_nr w n a h (v + 1) = dq_if ((dq_op w n (dq_nb h v) ∨ dq_sg w (dq_nb h v) = 43) ∧ 0 ≤ dq_D (dq_tl w 1 0) a (dq_nb h v) ∧ dq_D (dq_tl w 1 0) a (dq_nb h v) < dq_D (dq_tl w 1 0) a (dq_nr w n a h v)) (dq_nb h v) (dq_nr w n a h v) := rfl
    rw [e]
    by_cases c : (dq_op w n (dq_nb h v) ∨ dq_sg w (dq_nb h v) = 43) ∧ 0 ≤ dq_D (dq_tl w 1 0) a (dq_nb h v) ∧ dq_D (dq_tl w 1 0) a (dq_nb h v) < dq_D (dq_tl w 1 0) a (dq_nr w n a h v)
    · rw [dq_if_t c]; exact Or.inr c.1
    · rw [dq_if_f c]; exact ih
theorem ax_turn_U {b a : Nat} (I : dq_IV n t l w) (U : dq_IU n w) (hb : b < n) (hl : dq_lv w b) (h0 : dq_lv w 0) : dq_IU n (ax_turn n b a w) := by
  have h8 := I.h8
  have hp := (I.pl b (by omega)).1
  have self : dq_set w 14 b (nI (dq_pl w b)) = w := by
    have := (I.pl b (by omega)).2
    rw [← this]
    exact dq_set_same
  have go : ∀ c, c < 144 → dq_op w n c → dq_IU n (dq_set w 14 b (nI c)) := fun c hc ho => by
    have hf := ho.1
    rw [dq_sg_in hc] at hf
    exact U.s14 hc hf (fun i hi _ h => dq_la_no h8 ho.2 i hi h)
  unfold ax_turn
  by_cases g : dq_wk w b
  · rw [dq_if_t g]
    rcases dq_fl_o (w := w) (n := n) (a := a) hp 4 (Nat.le_refl _) with e | e
    · rw [e, self]; exact U
    · exact go _ (dq_fl_in hp 4 (Nat.le_refl _)) e
  · rw [dq_if_f g]
    by_cases g2 : dq_nbr (dq_pl w b) (dq_pl w 0)
    · rw [dq_if_t g2]
      exact (U.s18 h0).cg (ax_noise_r (by decide)) (ax_noise_r (by decide)) (ax_noise_r (by decide))
    · rw [dq_if_f g2]
      unfold ax_goto
      have hin := dq_nr_in (w := w) (n := n) (a := a) hp 4 (Nat.le_refl _)
      by_cases g3 : dq_sg w (dq_nr w n a (dq_pl w b) 4) = 43
      · rw [dq_if_t g3]; exact U.s2
      · rw [dq_if_f g3]
        rcases dq_nr_o (w := w) (n := n) (a := a) hp 4 (Nat.le_refl _) with e | e | e
        · rw [e, self]; exact U
        · exact go _ hin e
        · exact absurd e g3
theorem ax_move_J {b : Nat} (J : dq_JV n t l w) (hb : b < n) (hl : dq_lv w b) (h0 : dq_lv w 0) : dq_JV n t l (ax_move n b w) := by
  obtain ⟨I, U, H⟩ := J
  have h8 := I.h8
  refine ⟨ax_move_I I (by omega), ?_, H.cg (fun q hq => ax_move_r (by omega)) (by rw [ax_move_r (by decide)])⟩
  have U1 : dq_IU n (ax_aimed b w) := U.cg (ax_aimed_r (by decide)) (ax_aimed_r (by decide)) (ax_aimed_r (by decide))
  have I1 : dq_IV n t l (ax_aimed b w) := ax_aimed_I I
  have l1 : ∀ i, dq_lv w i → dq_lv (ax_aimed b w) i := fun i h => by unfold dq_lv at h ⊢; rw [ax_aimed_r (by decide)]; exact h
  unfold ax_move
  by_cases g : ax_aimed b w 22 b = -1
  · rw [dq_if_t g]; exact U1
  · rw [dq_if_f g]
    exact (ax_turn_U I1 U1 hb (l1 b hl) (l1 0 h0)).cg (ax_lose_r (by decide)) (ax_lose_r (by decide)) (ax_lose_r (by decide))
/-! it comes to rest -/
def dq_en (w : dq_W) (i : Nat) : Nat := (w 19 i).toInt.toNat
def dq_mu (n : Nat) (w : dq_W) : Nat := 300 * (12 - dq_en w 0) + dq_sm (fun i => if i = 0 then 0 else dq_en w i) n
theorem dq_en_35 (H : dq_KV n w) {i : Nat} (hi : i < n) : dq_en w i ≤ 35 := by
  have := H.2.2.1 i hi
  unfold dj_R at this
  unfold dq_en
  omega
theorem dq_mu_le (H : dq_KV n w) (h8 : n ≤ 8) : dq_mu n w ≤ 3880 := by
  have h := dq_sm_le (f := fun i => if i = 0 then 0 else dq_en w i) (m := 35) n (fun c hc => by
    have := dq_en_35 H hc
    show (if c = 0 then 0 else dq_en w c) ≤ 35
    by_cases e : c = 0
    · rw [if_pos e]; omega
    · rw [if_neg e]; exact this)
  unfold dq_mu
  have : 35 * n ≤ 280 := by omega
  omega
theorem ax_step_J (J : dq_JV n t l w) (h0 : dq_lv w 0) (hx : dq_nx w n ≠ 0) : dq_JV n t l (ax_step n w) ∧ dq_mu n (ax_step n w) < dq_mu n w := by
  have I := J.1
  have H := J.2.2
  have h8 := I.h8
  have h1 := I.h1
  unfold ax_step
  by_cases c : dq_nx w n = 8
  · rw [dq_if_t c]
    have J2 := ax_tick_J J c
    refine ⟨J2, ?_⟩
    have hle := dq_nx_8 n h8 c 0 (by omega) h0
    have e19 := ax_tick_19 (n := n) (w := w) (k := 0) (by omega) h0
    obtain ⟨z1, p1, p2, p3, p4⟩ := (H.2.2.1 0 (by omega)).of
    obtain ⟨z2, q1, q2, q3, _⟩ := (dq_gainI H (k := 0) (by omega) h8).of
    rw [Int32.le_iff_toInt_le, p4] at hle
    have e11 : (11 : Int32).toInt = 11 := rfl
    rw [e11] at hle
    have e2 : dq_en (ax_tick n w) 0 = (z1 + z2).toNat := by
      unfold dq_en
      rw [e19, q3, p3, dq_iadd, dq_iT (by omega) (by omega)]
    have e1 : dq_en w 0 = z1.toNat := by
      unfold dq_en
      rw [p4]
    have h := dq_sm_le (f := fun i => if i = 0 then 0 else dq_en (ax_tick n w) i) (m := 35) n (fun c hc => by
      have := dq_en_35 J2.2.2 hc
      show (if c = 0 then 0 else dq_en (ax_tick n w) c) ≤ 35
      by_cases e : c = 0
      · rw [if_pos e]; omega
      · rw [if_neg e]; exact this)
    unfold dq_mu
    rw [e1, e2]
    have : 35 * n ≤ 280 := by omega
    omega
  · rw [dq_if_f c]
    obtain ⟨b1, b2⟩ := dq_nx_lv (w := w) n h8 c
    have b3 := dq_nx_12 (w := w) n h8 c
    generalize dq_nx w n = b at *
    have e35 := H.2.2.1 b b1
    obtain ⟨z, p1, p2, p3, p4⟩ := e35.of
    rw [Int32.le_iff_toInt_le, p4] at b3
    have e11 : (11 : Int32).toInt = 11 := rfl
    rw [e11] at b3
    have en : w 19 b - 12 = dq_iI (z - 12) := by
      rw [p3, show (12 : Int32) = dq_iI 12 from rfl, dq_isub]
    have J1 : dq_JV n t l (dq_set w 19 b (w 19 b - 12)) := by
      refine ⟨I.st (by decide), J.2.1.st (by decide), ?_⟩
      obtain ⟨⟨a1, a2⟩, bb, c1, c2, c3, c4⟩ := H
      refine ⟨⟨by rw [dq_set_q (by decide)]; exact a1, fun k hk => by rw [dq_set_q (by decide)]; exact a2 k hk⟩, fun d hd => by rw [dq_set_q (by decide)]; exact bb d hd, fun k hk => ?_, fun k hk => by rw [dq_set_q (by decide)]; exact c2 k hk, fun k hk h => ?_, fun d hd => by rw [dq_set_q (by decide)]; exact c4 d hd⟩
      · by_cases e : k = b
        · rw [e, dq_set_eq, en]
          exact dj_R.mk (by omega) (by omega) (by omega) (by omega)
        · rw [dq_set_ne (Or.inr e)]; exact c1 k hk
      · rw [dq_set_q (by decide)] at h ⊢
        exact c3 k hk h
    have l1 : ∀ i, dq_lv w i → dq_lv (dq_set w 19 b (w 19 b - 12)) i := fun i h => by unfold dq_lv at h ⊢; rw [dq_set_q (by decide)]; exact h
    refine ⟨ax_move_J J1 b1 (l1 b b2) (l1 0 h0), ?_⟩
    have e19 : ∀ i, ax_move n b (dq_set w 19 b (w 19 b - 12)) 19 i = dq_set w 19 b (w 19 b - 12) 19 i := fun i => by rw [ax_move_r (by decide)]
    have ene : ∀ i, i ≠ b → dq_en (ax_move n b (dq_set w 19 b (w 19 b - 12))) i = dq_en w i := fun i hi => by
      unfold dq_en
      rw [e19, dq_set_ne (Or.inr hi)]
    have eb : dq_en (ax_move n b (dq_set w 19 b (w 19 b - 12))) b = (z - 12).toNat := by
      unfold dq_en
      rw [e19, dq_set_eq, en, dq_iT (by omega) (by omega)]
    have eb2 : dq_en w b = z.toNat := by
      unfold dq_en
      rw [p4]
    have hs := dq_sm_upd (f := fun i => if i = 0 then 0 else dq_en (ax_move n b (dq_set w 19 b (w 19 b - 12))) i) (g := fun i => if i = 0 then 0 else dq_en w i) (x := b) n b1 (fun i _ hi => by
      show (if i = 0 then 0 else dq_en (ax_move n b (dq_set w 19 b (w 19 b - 12))) i) = (if i = 0 then 0 else dq_en w i)
      rw [ene i hi])
    have hs : dq_sm (fun i => if i = 0 then 0 else dq_en (ax_move n b (dq_set w 19 b (w 19 b - 12))) i) n + (if b = 0 then 0 else dq_en w b) = dq_sm (fun i => if i = 0 then 0 else dq_en w i) n + (if b = 0 then 0 else dq_en (ax_move n b (dq_set w 19 b (w 19 b - 12))) b) := hs
    rw [if_neg hx, if_neg hx, eb, eb2] at hs
    unfold dq_mu
    rw [ene 0 (Ne.symm hx)]
    omega
theorem dq_rests_mu : ∀ (k : Nat) (w : dq_W), dq_JV n t l w → dq_mu n w ≤ k → dq_rests n k w
  | 0, w, J, h => by
    by_cases g : dq_wd w n
    · exact g
    · have g1 : dq_lv w 0 := Classical.not_not.mp fun q => g (Or.inl q)
      have g2 : dq_nx w n ≠ 0 := fun q => g (Or.inr q)
      have := (ax_step_J J g1 g2).2
      omega
  | k + 1, w, J, h => by
    by_cases g : dq_wd w n
    · exact Or.inl g
    · have g1 : dq_lv w 0 := Classical.not_not.mp fun q => g (Or.inl q)
      have g2 : dq_nx w n ≠ 0 := fun q => g (Or.inr q)
      obtain ⟨a, b⟩ := ax_step_J J g1 g2
      exact Or.inr (dq_rests_mu k _ a (by omega))
theorem dq_rests_J (J : dq_JV n t l w) : dq_rests n 4000 w := dq_rests_mu 4000 w J (by have := dq_mu_le J.2.2 J.1.h8; omega)
theorem ax_wait_J : ∀ (k : Nat) (w : dq_W), dq_JV n t l w → dq_JV n t l (ax_wait n k w)
  | 0, _, J => J
  | k + 1, w, J => by
    show dq_JV n t l (dq_if (dq_wd w n) w (ax_wait n k (ax_step n w)))
    by_cases g : dq_wd w n
    · rw [dq_if_t g]; exact J
    · rw [dq_if_f g]
      have g1 : dq_lv w 0 := Classical.not_not.mp fun q => g (Or.inl q)
      have g2 : dq_nx w n ≠ 0 := fun q => g (Or.inr q)
      exact ax_wait_J k _ (ax_step_J J g1 g2).1
theorem ax_wait_wd : ∀ (k : Nat) (w : dq_W), dq_rests n k w → dq_wd (ax_wait n k w) n
  | 0, _, h => h
  | k + 1, w, h => by
    show dq_wd (dq_if (dq_wd w n) w (ax_wait n k (ax_step n w))) n
    by_cases g : dq_wd w n
    · rw [dq_if_t g]; exact g
    · rw [dq_if_f g]
      exact ax_wait_wd k _ (h.resolve_left g)
theorem ax_wait_id {k : Nat} (g : dq_wd w n) : ax_wait n k w = w := by
  cases k with
  | zero => rfl
  | succ k => exact dq_if_t g
/-! the hero's deeds -/
theorem ax_strike_r {b q : Nat} {v : Int32} (h : q ≠ 18 ∧ q ≠ 0) : ax_strike b v w q = w q := by
  unfold ax_strike
  by_cases g : dq_lv (dq_set w 18 b (w 18 b - v)) b
  · rw [dq_if_t g, dq_set_r h.1]
  · rw [dq_if_f g, dq_set_r h.2, dq_set_r h.1]
theorem ax_strike_JK {b : Nat} {v : Int32} (U : dq_IU n w) (H : dq_KV n w) (hb : dq_lv w b) : dq_IU n (ax_strike b v w) ∧ dq_KV n (ax_strike b v w) := by
  unfold ax_strike
  by_cases g : dq_lv (dq_set w 18 b (w 18 b - v)) b
  · rw [dq_if_t g]
    exact ⟨U.s18 hb, H.st (by omega)⟩
  · rw [dq_if_f g]
    exact ⟨(U.s18 hb).st (by decide), (H.st (by omega)).st (by omega)⟩
theorem ax_noise_JK {c m i : Nat} (U : dq_IU n w) (H : dq_KV n w) : dq_IU n (ax_noise c m i w) ∧ dq_KV n (ax_noise c m i w) :=
  ⟨U.cg (ax_noise_r (by decide)) (ax_noise_r (by decide)) (ax_noise_r (by decide)), H.cg (fun q hq => ax_noise_r (by omega)) (ax_noise_o (Or.inl (by decide)))⟩
theorem ax_use_JK {x : Nat} (U : dq_IU n w) (H : dq_KV n w) : dq_IU n (ax_use x w) ∧ dq_KV n (ax_use x w) :=
  ⟨(U.st (by decide)).st (by decide), (H.st (by omega)).st (by omega)⟩
theorem ax_work_JK {d b : Nat} (hd : d < 8) (U : dq_IU n w) (H : dq_KV n w) (hb : dq_lv w b) : dq_IU n (ax_work d b w) ∧ dq_KV n (ax_work d b w) := by
  have h11 := H.2.2.2.2.2 d hd
  unfold ax_work
  by_cases c1 : w 10 d = 98
  · rw [dq_if_t c1]
    by_cases c2 : b = 0
    · rw [dq_if_t c2]
      refine ⟨U.st (by decide), ?_⟩
      obtain ⟨⟨a1, a2⟩, bb, r1, r2, r3, r4⟩ := H
      refine ⟨⟨?_, fun k hk => by rw [dq_set_q (by decide)]; exact a2 k hk⟩, fun d hd => by rw [dq_set_q (by decide)]; exact bb d hd, fun k hk => by rw [dq_set_q (by decide)]; exact r1 k hk, fun k hk => by rw [dq_set_q (by decide)]; exact r2 k hk, fun k hk h => ?_, fun d hd => by rw [dq_set_q (by decide)]; exact r4 d hd⟩
      · rw [dq_set_eq, Int32.lt_iff_toInt_lt]
        have := h11.1
        have e0 : (0 : Int32).toInt = 0 := rfl
        omega
      · rw [dq_set_q (by decide)] at h ⊢
        exact r3 k hk h
    · rw [dq_if_f c2]; exact ⟨U, H⟩
  · rw [dq_if_f c1]
    by_cases c2 : w 10 d = 100
    · rw [dq_if_t c2]; exact ⟨U.s18 hb, H.st (by omega)⟩
    · rw [dq_if_f c2]
      by_cases c3 : w 10 d = 104
      · rw [dq_if_t c3]; exact ⟨U.s18 hb, H.st (by omega)⟩
      · rw [dq_if_f c3]
        by_cases c4 : w 10 d = 115
        · rw [dq_if_t c4]
          refine ⟨(U.st (by decide)).st (by decide), ?_⟩
          obtain ⟨⟨a1, a2⟩, bb, r1, r2, r3, r4⟩ := H
          have o : ∀ q k, q ≠ 20 → q ≠ 21 → dq_set (dq_set w 20 b (w 11 d)) 21 b 12 q k = w q k := fun q k h1 h2 => by rw [dq_set_q h2, dq_set_q h1]
          refine ⟨⟨by rw [o 0 8 (by decide) (by decide)]; exact a1, fun k hk => ?_⟩, fun e he => by rw [o 9 e (by decide) (by decide)]; exact bb e he, fun k hk => by rw [o 19 k (by decide) (by decide)]; exact r1 k hk, fun k hk => by rw [o 15 k (by decide) (by decide)]; exact r2 k hk, fun k hk h => ?_, fun e he => by rw [o 11 e (by decide) (by decide)]; exact r4 e he⟩
          · by_cases e : k = b
            · rw [e, dq_set_eq]; decide
            · rw [dq_set_ne (Or.inr e), dq_set_q (by decide)]; exact a2 k hk
          · by_cases e : k = b
            · rw [e, dq_set_q (by decide), dq_set_eq]
              have := h11.1
              have := h11.2
              exact ⟨by omega, by omega⟩
            · rw [dq_set_ne (Or.inr e), dq_set_q (by decide)] at h
              rw [dq_set_q (by decide), dq_set_ne (Or.inr e)]
              exact r3 k hk h
        · rw [dq_if_f c4]; exact ⟨U, H⟩
theorem ax_burn_JK {c0 : Nat} {r : Int32} (U : dq_IU n w) (H : dq_KV n w) (i : Nat) : dq_IU n (ax_burn t c0 r w i) ∧ dq_KV n (ax_burn t c0 r w i) :=
  ⟨U.cg (ax_burn_o (by decide) i) (ax_burn_o (by decide) i) (ax_burn_o (by decide) i), H.cg (fun q hq => ax_burn_o (by omega) i) (by rw [ax_burn_o (by decide) i])⟩
theorem ax_burnBy_JK {d c0 : Nat} {r : Int32} (U : dq_IU n w) (H : dq_KV n w) : dq_IU n (ax_burnBy t d c0 r w) ∧ dq_KV n (ax_burnBy t d c0 r w) := by
  unfold ax_burnBy
  by_cases g : w 10 d = 102
  · rw [dq_if_t g]; exact ax_burn_JK U H t
  · rw [dq_if_f g]; exact ⟨U, H⟩
theorem ax_sh_JK {d c0 : Nat} {r : Int32} (hd : d < 8) (U : dq_IU n w) (H : dq_KV n w) : ∀ i, dq_IU n (ax_sh d c0 r w i) ∧ dq_KV n (ax_sh d c0 r w i)
  | 0 => ⟨U, H⟩
  | i + 1 => by
    obtain ⟨U1, H1⟩ := ax_sh_JK (c0 := c0) (r := r) hd U H i
    show dq_IU n (dq_if _ _ _) ∧ dq_KV n (dq_if _ _ _)
    by_cases g : dq_lv (ax_sh d c0 r w i) i ∧ ¬ r < nI (dq_gp (dq_pl (ax_sh d c0 r w i) i) c0)
    · rw [dq_if_t g]; exact ax_work_JK hd U1 H1 g.1
    · rw [dq_if_f g]; exact ⟨U1, H1⟩
theorem ax_land_JK {x c b : Nat} (I : dq_IV n t l w) (U : dq_IU n w) (H : dq_KV n w) (hx : x < 24) (hb : b ≠ 8 → dq_lv w b) : dq_IU n (ax_land n t x c b w) ∧ dq_KV n (ax_land n t x c b w) := by
  have U1 : dq_IU n (dq_set w 25 x (nI c)) := U.st (by decide)
  have H1 : dq_KV n (dq_set w 25 x (nI c)) := H.st (by omega)
  have ek : dq_kd (dq_set w 25 x (nI c)) x = dq_kd w x := by unfold dq_kd; rw [dq_set_q (by decide)]
  unfold ax_land
  by_cases g : 3 ≤ dq_kd w x ∧ dq_kd w x ≤ 5
  · rw [dq_if_t g]
    obtain ⟨U2, H2⟩ := ax_use_JK (x := x) U1 H1
    have S := ax_sh_JK (c0 := c) (r := dq_set w 25 x (nI c) 12 (dq_kd (dq_set w 25 x (nI c)) x)) (d := dq_kd (dq_set w 25 x (nI c)) x) (by rw [ek]; omega) U2 H2 n
    obtain ⟨U3, H3⟩ := S
    obtain ⟨U4, H4⟩ := ax_burnBy_JK (t := t) (d := dq_kd w x) (c0 := c) (r := w 12 (dq_kd w x)) U3 H3
    exact ax_noise_JK U4 H4
  · rw [dq_if_f g]
    by_cases g2 : dq_kd w x = 7 ∧ b ≠ 8
    · rw [dq_if_t g2]
      have hl : dq_lv (dq_set w 25 x (nI c)) b := by
        have := hb g2.2
        unfold dq_lv at this ⊢
        rw [dq_set_q (by decide)]; exact this
      obtain ⟨U2, H2⟩ := ax_strike_JK (v := 4) U1 H1 hl
      exact ax_noise_JK U2 H2
    · rw [dq_if_f g2]; exact ⟨U1, H1⟩
theorem ax_deed_JK {d a b : Nat} (I : dq_IV n t l w) (U : dq_IU n w) (H : dq_KV n w) (h0 : dq_lv w 0) (hd : dq_DV t d a b w) : dq_IU n (ax_deed n t d a b w).2 ∧ dq_KV n (ax_deed n t d a b w).2 := by
  have h8 := I.h8
  have ht := I.t24
  have s25 : ∀ x v, dq_IU n (dq_set w 25 x v) ∧ dq_KV n (dq_set w 25 x v) := fun x v => ⟨U.st (by decide), H.st (by omega)⟩
  rcases hd with ⟨rfl, ha⟩ | rfl | ⟨rfl | rfl, ha⟩ | ⟨rfl, ha, hb⟩ | ⟨rfl, ha⟩ | ⟨rfl, ha, hb⟩ | ⟨rfl, ha⟩ | rfl
  · show dq_IU n (ax_go n t a w).2 ∧ dq_KV n (ax_go n t a w).2
    have hp := (I.pl 0 (by decide)).1
    have hn := dq_nb_le _ hp a ha
    unfold ax_go
    by_cases g : 1 ≤ dq_la w (dq_nb (dq_pl w 0) a) n ∧ dq_la w (dq_nb (dq_pl w 0) a) n < 8
    · rw [dq_if_t g]
      have hl := (dq_la_in I (c := dq_nb (dq_pl w 0) a) (by omega)).2.2.1
      obtain ⟨U2, H2⟩ := ax_strike_JK (v := dq_if (dq_hs w t 7) 7 3) U H hl
      exact ax_noise_JK U2 H2
    · rw [dq_if_f g]
      by_cases g2 : dq_sg w (dq_nb (dq_pl w 0) a) = 43 ∨ dq_ky w t (dq_sg w (dq_nb (dq_pl w 0) a))
      · rw [dq_if_t g2]; exact ⟨U.s2, H.st (by omega)⟩
      · rw [dq_if_f g2]
        by_cases g3 : dq_free (dq_sg w (dq_nb (dq_pl w 0) a))
        · rw [dq_if_t g3]
          have hc := dq_free_in hn g3
          rw [dq_sg_in hc] at g3
          refine ⟨U.s14 hc g3 (fun i hi ne hl he => ?_), H.st (by omega)⟩
          obtain ⟨m, ⟨m1, m2, m3⟩, hm⟩ := dq_min (fun i => i < n ∧ dq_lv w i ∧ dq_pl w i = dq_nb (dq_pl w 0) a) i ⟨hi, hl, he⟩
          have e := dq_la_y (f := w) (c := dq_nb (dq_pl w 0) a) (k := m) (by omega) m2 m3 (fun j hj h1 h2 => by
            have := hm j ⟨by omega, h1, h2⟩
            omega) n m1
          have m0 : m ≠ 0 := fun e0 => by
            rw [e0] at m3
            exact dq_nb_ne _ hp a ha m3.symm
          omega
        · rw [dq_if_f g3]; exact ⟨U, H⟩
  · exact ⟨U, H⟩
  · exact s25 _ _
  · exact s25 _ _
  · exact s25 _ _
  · show dq_IU n (ax_drink t a w) ∧ dq_KV n (ax_drink t a w)
    unfold ax_drink
    obtain ⟨U2, H2⟩ := ax_use_JK (x := a) U H
    have hk := (I.kd a (by omega)).1
    obtain ⟨U3, H3⟩ := ax_work_JK (b := 0) hk U2 H2 (by unfold dq_lv ax_use; rw [dq_set_q (by decide), dq_set_q (by decide)]; exact h0)
    exact ax_burnBy_JK U3 H3
  · show dq_IU n (ax_hurl n t a b w).2 ∧ dq_KV n (ax_hurl n t a b w).2
    unfold ax_hurl
    have hp := (I.pl 0 (by decide)).1
    have hin := dq_hu_in I hb 5 _ hp
    refine ax_land_JK I U H (by omega) (fun hne => ?_)
    rcases hin.2.2 with e | ⟨_, e2, e3⟩
    · exact absurd e hne
    · rw [e3]
      exact (dq_la_in I (by rw [← e3]; omega)).2.2.1
  · exact ax_noise_JK U H
  · show dq_IU n (ax_pray w) ∧ dq_KV n (ax_pray w)
    unfold ax_pray
    by_cases g : dq_wk w 0 ∧ ¬ w 0 7 < 0
    · rw [dq_if_t g]; exact ⟨(U.s18 h0).st (by decide), (H.st (by omega)).st (by omega)⟩
    · rw [dq_if_f g]; exact ⟨U.st (by decide), H.st (by omega)⟩
/-- the hero's turn is spent -/
theorem dq_spend_J {v : dq_W} (J : dq_JV n t l v) (h12 : ¬ v 19 0 ≤ 11) : dq_JV n t l (dq_set v 19 0 (v 19 0 - 12)) := by
  obtain ⟨I, U, H⟩ := J
  have h1 := I.h1
  refine ⟨I.st (by decide), U.st (by decide), ?_⟩
  obtain ⟨z, p1, p2, p3, p4⟩ := (H.2.2.1 0 (by omega)).of
  rw [Int32.le_iff_toInt_le, p4] at h12
  have e11 : (11 : Int32).toInt = 11 := rfl
  rw [e11] at h12
  have en : v 19 0 - 12 = dq_iI (z - 12) := by
    rw [p3, show (12 : Int32) = dq_iI 12 from rfl, dq_isub]
  obtain ⟨⟨a1, a2⟩, bb, c1, c2, c3, c4⟩ := H
  refine ⟨⟨by rw [dq_set_q (by decide)]; exact a1, fun k hk => by rw [dq_set_q (by decide)]; exact a2 k hk⟩, fun d hd => by rw [dq_set_q (by decide)]; exact bb d hd, fun k hk => ?_, fun k hk => by rw [dq_set_q (by decide)]; exact c2 k hk, fun k hk h => ?_, fun d hd => by rw [dq_set_q (by decide)]; exact c4 d hd⟩
  · by_cases e : k = 0
    · rw [e, dq_set_eq, en]
      exact dj_R.mk (by omega) (by omega) (by omega) (by omega)
    · rw [dq_set_ne (Or.inr e)]; exact c1 k hk
  · rw [dq_set_q (by decide)] at h ⊢
    exact c3 k hk h
end DQJ
