/-! pure: what a world keeps, what is told, ranges (from whole's parts, without the reference) -/
def mr_in (a lo hi : Int32) : Prop := ¬ a < lo ∧ ¬ hi < a
theorem mr_in_n {a hi : Int32} {N : Nat} (e : hi.toInt = N) (h : mr_in a 0 hi) : ∃ j, j ≤ N ∧ a = nI j :=
  nI_of2 e h.1 (by
    have := h.2
    rw [Int32.lt_iff_toInt_lt] at this
    rw [Int32.le_iff_toInt_le]
    omega)
def mr_pl (x y : Int32) : Prop := mr_in x 0 11 ∧ mr_in y 0 11
theorem mr_pl_n {x y : Int32} (h : mr_pl x y) : ∃ a b, a < 12 ∧ b < 12 ∧ x = nI a ∧ y = nI b := by
  obtain ⟨a, ha, ea⟩ := mr_in_n (N := 11) rfl h.1
  obtain ⟨b, hb, eb⟩ := mr_in_n (N := 11) rfl h.2
  exact ⟨a, b, by omega, by omega, ea, eb⟩
section DQX
variable {n t l : Nat} {w : dq_W} {s : dk_S} {K : Int32 → dk_S → Prop} {J : dk_S → Prop}
def dq_sp (c : Nat) : Int32 := nI (100 * (c / 12) + c % 12)
end DQX
def dq_NN (w : dq_W) : Prop := ¬ w 0 8 < 0 ∧ ∀ k, k < 8 → ¬ w 21 k < 0
theorem dq_dec {x : Int32} (h : ¬ x < 0) : (if (0 : Int32) < x - 1 then x - 1 else 0) = (if x ≤ 0 then x - 0 else x - 1) := by
  obtain ⟨j, hj, rfl⟩ := nI_of h
  by_cases e : j = 0
  · subst e
    decide
  · have e1 : nI j - 1 = nI (j - 1) := by
      have := nI_pred (j - 1)
      rwa [show j - 1 + 1 = j by omega] at this
    rw [e1, if_neg (nI_nle (by omega) hj)]
    by_cases e2 : j = 1
    · subst e2
      decide
    · have z : (0 : Int32) < nI (j - 1) := nI_lt (a := 0) (by omega) (by omega)
      rw [if_pos z]
section DQT1
variable {f : dq_W} {i q k : Nat}
end DQT1
theorem dq_nx_12 {w : dq_W} : ∀ i, i ≤ 8 → dq_nx w i ≠ 8 → ¬ w 19 (dq_nx w i) ≤ 11
  | 0, _, h => absurd rfl h
  | i + 1, hi, h => by
    have ih := dq_nx_12 (w := w) i (by omega)
    rw [dq_nx_s] at h ⊢
    by_cases c1 : w 18 i ≤ 0
    · rw [if_pos c1] at h ⊢; exact ih h
    · rw [if_neg c1] at h ⊢
      by_cases c2 : w 19 i ≤ dq_ms w (dq_nx w i)
      · rw [if_pos c2] at h ⊢; exact ih h
      · rw [if_neg c2]
        by_cases c3 : dq_nx w i = 8
        · rw [c3] at c2
          exact c2
        · have i2 := ih c3
          have e : dq_ms w (dq_nx w i) = w 19 (dq_nx w i) := if_neg c3
          rw [e] at c2
          rw [Int32.le_iff_toInt_le] at c2 i2 ⊢
          omega
section DQXF
variable {n t l : Nat} {w : dq_W} {s : dk_S} {K : Int32 → dk_S → Prop} {J : dk_S → Prop}
end DQXF
def dq_WD (w : dq_W) : Prop := ∀ d, d < 8 → w 9 d = 0 ∨ w 9 d = 1
section DQXH
variable {n t l : Nat} {w : dq_W} {s : dk_S} {K : Int32 → dk_S → Prop} {J : dk_S → Prop}
theorem ax_burn_o {c0 : Nat} {r : Int32} {q : Nat} (hq : q ≠ 25) : ∀ i, ax_burn t c0 r w i q = w q
  | 0 => rfl
  | i + 1 => by
    have ih := ax_burn_o (c0 := c0) (r := r) hq i
    have e : ax_burn t c0 r w (i + 1) = dq_if (dq_bu (ax_burn t c0 r w i) c0 r i) (dq_mv ((-3) - nI i) (ax_burn t c0 r w i 25 i) t (dq_set (ax_burn t c0 r w i) 25 i (-2))) (ax_burn t c0 r w i) := rfl
    rw [e]
    by_cases g : dq_bu (ax_burn t c0 r w i) c0 r i
    · rw [dq_if_t g]
      funext k
      rw [dq_mv_o (Or.inl hq), dq_set_q hq, ih]
    · rw [dq_if_f g]; exact ih
theorem ax_work_o {d b q : Nat} (hq : q ≠ 0 ∧ q ≠ 18 ∧ q ≠ 20 ∧ q ≠ 21) : ax_work d b w q = w q := by
  unfold ax_work
  by_cases c1 : w 10 d = 98
  · rw [dq_if_t c1]
    by_cases c2 : b = 0
    · rw [dq_if_t c2, dq_set_r hq.1]
    · rw [dq_if_f c2]
  · rw [dq_if_f c1]
    by_cases c2 : w 10 d = 100
    · rw [dq_if_t c2, dq_set_r hq.2.1]
    · rw [dq_if_f c2]
      by_cases c3 : w 10 d = 104
      · rw [dq_if_t c3, dq_set_r hq.2.1]
      · rw [dq_if_f c3]
        by_cases c4 : w 10 d = 115
        · rw [dq_if_t c4, dq_set_r hq.2.2.2, dq_set_r hq.2.2.1]
        · rw [dq_if_f c4]
theorem ax_sh_o {d c0 : Nat} {r : Int32} {q : Nat} (hq : q ≠ 0 ∧ q ≠ 18 ∧ q ≠ 20 ∧ q ≠ 21) : ∀ i, ax_sh d c0 r w i q = w q
  | 0 => rfl
  | i + 1 => by
    have ih := ax_sh_o (d := d) (c0 := c0) (r := r) hq i
    have e : ax_sh d c0 r w (i + 1) = dq_if (dq_lv (ax_sh d c0 r w i) i ∧ ¬ r < nI (dq_gp (dq_pl (ax_sh d c0 r w i) i) c0)) (ax_work d i (ax_sh d c0 r w i)) (ax_sh d c0 r w i) := rfl
    rw [e]
    by_cases g : dq_lv (ax_sh d c0 r w i) i ∧ ¬ r < nI (dq_gp (dq_pl (ax_sh d c0 r w i) i) c0)
    · rw [dq_if_t g, ax_work_o hq]; exact ih
    · rw [dq_if_f g]; exact ih
end DQXH
def dj_R (lo hi : Int) (x : Int32) : Prop := lo ≤ x.toInt ∧ x.toInt ≤ hi
def dq_RG (n : Nat) (w : dq_W) : Prop := (∀ k, k < n → dj_R 0 35 (w 19 k)) ∧ (∀ k, k < n → dj_R 1 24 (w 15 k)) ∧ (∀ k, k < 8 → 0 < w 21 k → dj_R 1 24 (w 20 k)) ∧ (∀ d, d < 8 → dj_R 1 20 (w 11 d))
def dq_KV (n : Nat) (w : dq_W) : Prop := dq_NN w ∧ dq_WD w ∧ dq_RG n w
def dq_JV (n t l : Nat) (w : dq_W) : Prop := dq_IV n t l w ∧ dq_IU n w ∧ dq_KV n w
def dq_RT (n : Nat) (w : dq_W) : Prop := dq_lv w 0 ∧ dq_nx w n = 0
section DQJ
variable {n t l : Nat} {w f : dq_W}
theorem dq_KV.cg (H : dq_KV n w) (h : ∀ q, q = 9 ∨ q = 11 ∨ q = 15 ∨ q = 19 ∨ q = 20 ∨ q = 21 → f q = w q) (h0 : f 0 8 = w 0 8) : dq_KV n f := by
  obtain ⟨⟨a1, a2⟩, b, c1, c2, c3, c4⟩ := H
  have e9 := h 9 (by omega)
  have e11 := h 11 (by omega)
  have e15 := h 15 (by omega)
  have e19 := h 19 (by omega)
  have e20 := h 20 (by omega)
  have e21 := h 21 (by omega)
  refine ⟨⟨by rw [h0]; exact a1, fun k hk => by rw [e21]; exact a2 k hk⟩, fun d hd => by rw [e9]; exact b d hd, fun k hk => by rw [e19]; exact c1 k hk, fun k hk => by rw [e15]; exact c2 k hk, fun k hk => by rw [e20, e21]; exact c3 k hk, fun d hd => by rw [e11]; exact c4 d hd⟩
theorem dq_KV.st (H : dq_KV n w) {q k : Nat} {v : Int32} (hq : ¬ (q = 9 ∨ q = 11 ∨ q = 15 ∨ q = 19 ∨ q = 20 ∨ q = 21 ∨ (q = 0 ∧ k = 8))) : dq_KV n (dq_set w q k v) :=
  H.cg (fun a ha => dq_set_r (by rintro rfl; omega)) (dq_set_ne (by omega))
theorem dq_IU.cg (U : dq_IU n w) (h18 : f 18 = w 18) (h14 : f 14 = w 14) (h2 : f 2 = w 2) : dq_IU n f :=
  U.sub (fun i _ h => by unfold dq_lv at h ⊢; rw [← h18]; exact h) (fun i _ => by unfold dq_pl; rw [h14]) (fun c h => by rw [h2]; exact h)
theorem dq_IU.st (U : dq_IU n w) {q k : Nat} {v : Int32} (hq : q ≠ 18 ∧ q ≠ 14 ∧ q ≠ 2) : dq_IU n (dq_set w q k v) :=
  U.cg (dq_set_r (Ne.symm hq.1)) (dq_set_r (Ne.symm hq.2.1)) (dq_set_r (Ne.symm hq.2.2))
theorem dq_IU.s18 (U : dq_IU n w) {b : Nat} {v : Int32} (hb : dq_lv w b) : dq_IU n (dq_set w 18 b v) :=
  U.sub (fun i _ h => by
    by_cases e : i = b
    · rw [e]; exact hb
    · unfold dq_lv at h ⊢; rw [dq_set_ne (Or.inr e)] at h; exact h) (fun i _ => by unfold dq_pl; rw [dq_set_q (by decide)]) (fun c h => by rw [dq_set_q (by decide)]; exact h)
theorem dq_IU.s2 (U : dq_IU n w) {c : Nat} : dq_IU n (dq_set w 2 c 47) :=
  U.sub (fun i _ h => by unfold dq_lv at h ⊢; rw [dq_set_q (by decide)] at h; exact h) (fun i _ => by unfold dq_pl; rw [dq_set_q (by decide)]) (fun d h => by
    by_cases e : d = c
    · rw [e, dq_set_eq]; exact Or.inr (Or.inr rfl)
    · rw [dq_set_ne (Or.inr e)]; exact h)
theorem dq_la_no {c : Nat} (h8 : n ≤ 8) (h : dq_la w c n = 8) : ∀ i, i < n → dq_lv w i → dq_pl w i ≠ c := by
  intro i hi hl he
  obtain ⟨m, ⟨m1, m2, m3⟩, hm⟩ := dq_min (fun i => i < n ∧ dq_lv w i ∧ dq_pl w i = c) i ⟨hi, hl, he⟩
  have := dq_la_y (f := w) (c := c) (k := m) (by omega) m2 m3 (fun j hj h1 h2 => by
    have := hm j ⟨by omega, h1, h2⟩
    omega) n m1
  omega
theorem dq_IU.s14 (U : dq_IU n w) {b c : Nat} (hc : c < 144) (hf : dq_free (w 2 c)) (hn : ∀ i, i < n → i ≠ b → dq_lv w i → dq_pl w i ≠ c) : dq_IU n (dq_set w 14 b (nI c)) := by
  have elv : ∀ i, dq_lv (dq_set w 14 b (nI c)) i = dq_lv w i := fun i => by unfold dq_lv; rw [dq_set_q (by decide)]
  have e2 : ∀ d, dq_set w 14 b (nI c) 2 d = w 2 d := fun d => dq_set_q (by decide)
  have epb : dq_pl (dq_set w 14 b (nI c)) b = c := by unfold dq_pl; rw [dq_set_eq, nI_clamp (by omega)]
  have epn : ∀ i, i ≠ b → dq_pl (dq_set w 14 b (nI c)) i = dq_pl w i := fun i h => by unfold dq_pl; rw [dq_set_ne (Or.inr h)]
  intro i hi hl
  rw [elv] at hl
  rw [e2]
  by_cases e : i = b
  · subst e
    rw [epb]
    refine ⟨hf, fun j hj hlj he => ?_⟩
    rw [elv] at hlj
    by_cases e2 : j = i
    · exact e2
    · rw [epn j e2] at he
      exact absurd he (hn j hj e2 hlj)
  · rw [epn i e]
    refine ⟨(U i hi hl).1, fun j hj hlj he => ?_⟩
    rw [elv] at hlj
    by_cases e2 : j = b
    · subst e2
      rw [epb] at he
      exact absurd he.symm (hn i hi e hl)
    · rw [epn j e2] at he
      exact (U i hi hl).2 j hj hlj he
theorem dj_R.of {lo hi : Int} {x : Int32} (h : dj_R lo hi x) : ∃ z : Int, lo ≤ z ∧ z ≤ hi ∧ x = dq_iI z ∧ x.toInt = z := ⟨x.toInt, h.1, h.2, dq_of_int rfl, rfl⟩
theorem dj_R.mk {lo hi z : Int} (h1 : lo ≤ z) (h2 : z ≤ hi) (h3 : -1000000 ≤ z) (h4 : z ≤ 1000000) : dj_R lo hi (dq_iI z) := by
  unfold dj_R
  rw [dq_iT (by omega) (by omega)]
  exact ⟨h1, h2⟩
theorem dq_nx_8 : ∀ i, i ≤ 8 → dq_nx w i = 8 → ∀ j, j < i → dq_lv w j → w 19 j ≤ 11
  | 0, _, _, j, h, _ => absurd h (Nat.not_lt_zero _)
  | i + 1, hi, h, j, hj, hl => by
    rw [dq_nx_s] at h
    by_cases c1 : w 18 i ≤ 0
    · rw [if_pos c1] at h
      have : j ≠ i := fun e => hl (e ▸ c1)
      exact dq_nx_8 i (by omega) h j (by omega) hl
    · rw [if_neg c1] at h
      by_cases c2 : w 19 i ≤ dq_ms w (dq_nx w i)
      · rw [if_pos c2] at h
        by_cases e : j = i
        · rw [h] at c2
          rw [e]; exact c2
        · exact dq_nx_8 i (by omega) h j (by omega) hl
      · rw [if_neg c2] at h
        omega
theorem dq_nx_lv : ∀ i, i ≤ 8 → dq_nx w i ≠ 8 → dq_nx w i < i ∧ dq_lv w (dq_nx w i)
  | 0, _, h => absurd rfl h
  | i + 1, hi, h => by
    rw [dq_nx_s] at h ⊢
    by_cases c1 : w 18 i ≤ 0
    · rw [if_pos c1] at h ⊢
      have := dq_nx_lv i (by omega) h
      exact ⟨by omega, this.2⟩
    · rw [if_neg c1] at h ⊢
      by_cases c2 : w 19 i ≤ dq_ms w (dq_nx w i)
      · rw [if_pos c2] at h ⊢
        have := dq_nx_lv i (by omega) h
        exact ⟨by omega, this.2⟩
      · rw [if_neg c2]
        exact ⟨by omega, c1⟩
theorem ax_tick_o {q k : Nat} (h : q ≠ 19 ∧ q ≠ 21 ∧ (q ≠ 0 ∨ (k ≠ 8 ∧ k ≠ 5))) : ax_tick n w q k = w q k := by
  unfold ax_tick
  rw [dq_set_ne (by omega), dq_set_ne (by omega), dq_gain_o (Or.inl ⟨h.1, h.2.1⟩)]
theorem ax_tick_19 {k : Nat} (hk : k < n) (hl : dq_lv w k) : ax_tick n w 19 k = w 19 k + (if w 21 k ≤ 0 then w 15 k else w 20 k) := by
  unfold ax_tick
  rw [dq_set_q (by decide), dq_set_q (by decide), dq_gain_19 hk hl]
theorem ax_tick_19d {k : Nat} (hl : ¬ dq_lv w k) : ax_tick n w 19 k = w 19 k := by
  unfold ax_tick
  rw [dq_set_q (by decide), dq_set_q (by decide), dq_gain_19d (Classical.not_not.mp hl)]
theorem dq_gainI (H : dq_KV n w) {k : Nat} (hk : k < n) (h8 : n ≤ 8) : dj_R 1 24 (if w 21 k ≤ 0 then w 15 k else w 20 k) := by
  obtain ⟨⟨a1, a2⟩, b, c1, c2, c3, c4⟩ := H
  by_cases g : w 21 k ≤ 0
  · rw [if_pos g]; exact c2 k hk
  · rw [if_neg g]
    refine c3 k (by omega) ?_
    rw [Int32.lt_iff_toInt_lt]
    rw [Int32.le_iff_toInt_le] at g
    omega
theorem ax_tick_J (J : dq_JV n t l w) (hx : dq_nx w n = 8) : dq_JV n t l (ax_tick n w) := by
  obtain ⟨I, U, H⟩ := J
  have h8 := I.h8
  have G := fun k hk => dq_gainI H (k := k) hk h8
  obtain ⟨⟨a1, a2⟩, b, c1, c2, c3, c4⟩ := H
  have r : ∀ q, q ≠ 19 → q ≠ 21 → q ≠ 0 → ax_tick n w q = w q := fun q h1 h2 h3 => funext fun k => ax_tick_o ⟨h1, h2, Or.inl h3⟩
  refine ⟨ax_tick_I I, U.cg (r 18 (by decide) (by decide) (by decide)) (r 14 (by decide) (by decide) (by decide)) (r 2 (by decide) (by decide) (by decide)), ⟨?_, fun k hk => ?_⟩, fun d hd => ?_, fun k hk => ?_, fun k hk => ?_, fun k hk h => ?_, fun d hd => ?_⟩
  · have e : ax_tick n w 0 8 = (if (0 : Int32) < w 0 8 - 1 then w 0 8 - 1 else 0) := by
      unfold ax_tick
      rw [dq_set_ne (Or.inr (by decide)), dq_set_eq]
    rw [e]
    by_cases g : (0 : Int32) < w 0 8 - 1
    · rw [if_pos g]
      rw [Int32.lt_iff_toInt_lt] at g ⊢
      omega
    · rw [if_neg g]; decide
  · by_cases g : k < n
    · have e : ax_tick n w 21 k = (if (0 : Int32) < w 21 k - 1 then w 21 k - 1 else 0) := by
        unfold ax_tick
        rw [dq_set_q (by decide), dq_set_q (by decide), dq_gain_21 g]
      rw [e]
      by_cases g : (0 : Int32) < w 21 k - 1
      · rw [if_pos g]
        rw [Int32.lt_iff_toInt_lt] at g ⊢
        omega
      · rw [if_neg g]; decide
    · have e : ax_tick n w 21 k = w 21 k := by
        unfold ax_tick
        rw [dq_set_q (by decide), dq_set_q (by decide), dq_gain_o (Or.inr (by omega))]
      rw [e]; exact a2 k hk
  · rw [r 9 (by decide) (by decide) (by decide)]; exact b d hd
  · by_cases g : dq_lv w k
    · rw [ax_tick_19 hk g]
      obtain ⟨z1, p1, p2, p3, p4⟩ := (c1 k hk).of
      obtain ⟨z2, q1, q2, q3, _⟩ := (G k hk).of
      have hle := dq_nx_8 n h8 hx k hk g
      rw [Int32.le_iff_toInt_le, p4] at hle
      have e11 : (11 : Int32).toInt = 11 := rfl
      rw [q3, p3, dq_iadd]
      exact dj_R.mk (by omega) (by omega) (by omega) (by omega)
    · rw [ax_tick_19d g]; exact c1 k hk
  · rw [r 15 (by decide) (by decide) (by decide)]; exact c2 k hk
  · rw [r 20 (by decide) (by decide) (by decide)]
    refine c3 k hk ?_
    by_cases g : k < n
    · have e : ax_tick n w 21 k = (if (0 : Int32) < w 21 k - 1 then w 21 k - 1 else 0) := by
        unfold ax_tick
        rw [dq_set_q (by decide), dq_set_q (by decide), dq_gain_21 g]
      rw [e, dq_dec (a2 k hk)] at h
      by_cases g2 : w 21 k ≤ 0
      · rw [if_pos g2, Int32.sub_zero] at h; exact h
      · rw [Int32.lt_iff_toInt_lt]
        rw [Int32.le_iff_toInt_le] at g2
        omega
    · have e : ax_tick n w 21 k = w 21 k := by
        unfold ax_tick
        rw [dq_set_q (by decide), dq_set_q (by decide), dq_gain_o (Or.inr (by omega))]
      rw [e] at h; exact h
  · rw [r 11 (by decide) (by decide) (by decide)]; exact c4 d hd
theorem ax_noise_r {c m i q : Nat} (h : q ≠ 22) : ax_noise c m i w q = w q := funext fun _ => ax_noise_o (Or.inl h)
theorem ax_aimed_r {b q : Nat} (h : q ≠ 22) : ax_aimed b w q = w q := by
  unfold ax_aimed
  by_cases g : dq_see w (dq_pl w b) (dq_pl w 0)
  · rw [dq_if_t g, dq_set_r h]
  · rw [dq_if_f g]
theorem ax_lose_r {b a h q : Nat} (hq : q ≠ 22) : ax_lose b a h w q = w q := by
  unfold ax_lose
  by_cases g : dq_pl w b = a ∧ ¬ dq_see w (dq_pl w b) h
  · rw [dq_if_t g, dq_set_r hq]
  · rw [dq_if_f g]
theorem ax_goto_r {b c q : Nat} (h : q ≠ 2 ∧ q ≠ 14) : ax_goto b c w q = w q := by
  unfold ax_goto
  by_cases g : dq_sg w c = 43
  · rw [dq_if_t g, dq_set_r h.1]
  · rw [dq_if_f g, dq_set_r h.2]
theorem ax_turn_r {b a q : Nat} (h : q ≠ 2 ∧ q ≠ 14 ∧ q ≠ 18 ∧ q ≠ 22) : ax_turn n b a w q = w q := by
  unfold ax_turn
  by_cases g : dq_wk w b
  · rw [dq_if_t g, dq_set_r h.2.1]
  · rw [dq_if_f g]
    by_cases g2 : dq_nbr (dq_pl w b) (dq_pl w 0)
    · rw [dq_if_t g2, ax_noise_r h.2.2.2, dq_set_r h.2.2.1]
    · rw [dq_if_f g2, ax_goto_r ⟨h.1, h.2.1⟩]
theorem ax_move_r {b q : Nat} (h : q ≠ 2 ∧ q ≠ 14 ∧ q ≠ 18 ∧ q ≠ 22) : ax_move n b w q = w q := by
  unfold ax_move
  by_cases g : ax_aimed b w 22 b = -1
  · rw [dq_if_t g, ax_aimed_r h.2.2.2]
  · rw [dq_if_f g, ax_lose_r h.2.2.2, ax_turn_r h, ax_aimed_r h.2.2.2]
theorem dq_fl_o {a h : Nat} (hh : h < 144) : ∀ v, v ≤ 4 → dq_fl w n a h v = h ∨ dq_op w n (dq_fl w n a h v)
  | 0, _ => Or.inl rfl
  | v + 1, hv => by
    have ih := dq_fl_o (a := a) hh v (by omega)
    have e : dq_fl w n a h (v + 1) = dq_if (dq_op w n (dq_nb h v) ∧ dq_D (dq_tl w 1 0) a (dq_fl w n a h v) < dq_D (dq_tl w 1 0) a (dq_nb h v)) (dq_nb h v) (dq_fl w n a h v) := rfl
    rw [e]
    by_cases c : dq_op w n (dq_nb h v) ∧ dq_D (dq_tl w 1 0) a (dq_fl w n a h v) < dq_D (dq_tl w 1 0) a (dq_nb h v)
    · rw [dq_if_t c]; exact Or.inr c.1
    · rw [dq_if_f c]; exact ih
theorem dq_nr_o {a h : Nat} (hh : h < 144) : ∀ v, v ≤ 4 → dq_nr w n a h v = h ∨ dq_op w n (dq_nr w n a h v) ∨ dq_sg w (dq_nr w n a h v) = 43
  | 0, _ => Or.inl rfl
  | v + 1, hv => by
    have ih := dq_nr_o (a := a) hh v (by omega)
    have e : dq_nr w n a h (v + 1) = dq_if ((dq_op w n (dq_nb h v) ∨ dq_sg w (dq_nb h v) = 43) ∧ 0 ≤ dq_D (dq_tl w 1 0) a (dq_nb h v) ∧ dq_D (dq_tl w 1 0) a (dq_nb h v) < dq_D (dq_tl w 1 0) a (dq_nr w n a h v)) (dq_nb h v) (dq_nr w n a h v) := rfl
    rw [e]
    by_cases c : (dq_op w n (dq_nb h v) ∨ dq_sg w (dq_nb h v) = 43) ∧ 0 ≤ dq_D (dq_tl w 1 0) a (dq_nb h v) ∧ dq_D (dq_tl w 1 0) a (dq_nb h v) < dq_D (dq_tl w 1 0) a (dq_nr w n a h v)
    · rw [dq_if_t c]; exact Or.inr c.1
    · rw [dq_if_f c]; exact ih
theorem ax_turn_U {b a : Nat} (I : dq_IV n t l w) (U : dq_IU n w) (hb : b < n) (hl : dq_lv w b) (h0 : dq_lv w 0) : dq_IU n (ax_turn n b a w) := by
  have h8 := I.h8
  have hp := (I.pl b (by omega)).1
  have self : dq_set w 14 b (nI (dq_pl w b)) = w := by
    have := (I.pl b (by omega)).2
    rw [← this]
    exact dq_set_same
  have go : ∀ c, c < 144 → dq_op w n c → dq_IU n (dq_set w 14 b (nI c)) := fun c hc ho => by
    have hf := ho.1
    rw [dq_sg_in hc] at hf
    exact U.s14 hc hf (fun i hi _ h => dq_la_no h8 ho.2 i hi h)
  unfold ax_turn
  by_cases g : dq_wk w b
  · rw [dq_if_t g]
    rcases dq_fl_o (w := w) (n := n) (a := a) hp 4 (Nat.le_refl _) with e | e
    · rw [e, self]; exact U
    · exact go _ (dq_fl_in hp 4 (Nat.le_refl _)) e
  · rw [dq_if_f g]
    by_cases g2 : dq_nbr (dq_pl w b) (dq_pl w 0)
    · rw [dq_if_t g2]
      exact (U.s18 h0).cg (ax_noise_r (by decide)) (ax_noise_r (by decide)) (ax_noise_r (by decide))
    · rw [dq_if_f g2]
      unfold ax_goto
      have hin := dq_nr_in (w := w) (n := n) (a := a) hp 4 (Nat.le_refl _)
      by_cases g3 : dq_sg w (dq_nr w n a (dq_pl w b) 4) = 43
      · rw [dq_if_t g3]; exact U.s2
      · rw [dq_if_f g3]
        rcases dq_nr_o (w := w) (n := n) (a := a) hp 4 (Nat.le_refl _) with e | e | e
        · rw [e, self]; exact U
        · exact go _ hin e
        · exact absurd e g3
theorem ax_move_J {b : Nat} (J : dq_JV n t l w) (hb : b < n) (hl : dq_lv w b) (h0 : dq_lv w 0) : dq_JV n t l (ax_move n b w) := by
  obtain ⟨I, U, H⟩ := J
  have h8 := I.h8
  refine ⟨ax_move_I I (by omega), ?_, H.cg (fun q hq => ax_move_r (by omega)) (by rw [ax_move_r (by decide)])⟩
  have U1 : dq_IU n (ax_aimed b w) := U.cg (ax_aimed_r (by decide)) (ax_aimed_r (by decide)) (ax_aimed_r (by decide))
  have I1 : dq_IV n t l (ax_aimed b w) := ax_aimed_I I
  have l1 : ∀ i, dq_lv w i → dq_lv (ax_aimed b w) i := fun i h => by unfold dq_lv at h ⊢; rw [ax_aimed_r (by decide)]; exact h
  unfold ax_move
  by_cases g : ax_aimed b w 22 b = -1
  · rw [dq_if_t g]; exact U1
  · rw [dq_if_f g]
    exact (ax_turn_U I1 U1 hb (l1 b hl) (l1 0 h0)).cg (ax_lose_r (by decide)) (ax_lose_r (by decide)) (ax_lose_r (by decide))
def dq_en (w : dq_W) (i : Nat) : Nat := (w 19 i).toInt.toNat
def dq_mu (n : Nat) (w : dq_W) : Nat := 300 * (12 - dq_en w 0) + dq_sm (fun i => if i = 0 then 0 else dq_en w i) n
theorem dq_en_35 (H : dq_KV n w) {i : Nat} (hi : i < n) : dq_en w i ≤ 35 := by
  have := H.2.2.1 i hi
  unfold dj_R at this
  unfold dq_en
  omega
theorem dq_mu_le (H : dq_KV n w) (h8 : n ≤ 8) : dq_mu n w ≤ 3880 := by
  have h := dq_sm_le (f := fun i => if i = 0 then 0 else dq_en w i) (m := 35) n (fun c hc => by
    have := dq_en_35 H hc
    show (if c = 0 then 0 else dq_en w c) ≤ 35
    by_cases e : c = 0
    · rw [if_pos e]; omega
    · rw [if_neg e]; exact this)
  unfold dq_mu
  have : 35 * n ≤ 280 := by omega
  omega
theorem ax_step_J (J : dq_JV n t l w) (h0 : dq_lv w 0) (hx : dq_nx w n ≠ 0) : dq_JV n t l (ax_step n w) ∧ dq_mu n (ax_step n w) < dq_mu n w := by
  have I := J.1
  have H := J.2.2
  have h8 := I.h8
  have h1 := I.h1
  unfold ax_step
  by_cases c : dq_nx w n = 8
  · rw [dq_if_t c]
    have J2 := ax_tick_J J c
    refine ⟨J2, ?_⟩
    have hle := dq_nx_8 n h8 c 0 (by omega) h0
    have e19 := ax_tick_19 (n := n) (w := w) (k := 0) (by omega) h0
    obtain ⟨z1, p1, p2, p3, p4⟩ := (H.2.2.1 0 (by omega)).of
    obtain ⟨z2, q1, q2, q3, _⟩ := (dq_gainI H (k := 0) (by omega) h8).of
    rw [Int32.le_iff_toInt_le, p4] at hle
    have e11 : (11 : Int32).toInt = 11 := rfl
    rw [e11] at hle
    have e2 : dq_en (ax_tick n w) 0 = (z1 + z2).toNat := by
      unfold dq_en
      rw [e19, q3, p3, dq_iadd, dq_iT (by omega) (by omega)]
    have e1 : dq_en w 0 = z1.toNat := by
      unfold dq_en
      rw [p4]
    have h := dq_sm_le (f := fun i => if i = 0 then 0 else dq_en (ax_tick n w) i) (m := 35) n (fun c hc => by
      have := dq_en_35 J2.2.2 hc
      show (if c = 0 then 0 else dq_en (ax_tick n w) c) ≤ 35
      by_cases e : c = 0
      · rw [if_pos e]; omega
      · rw [if_neg e]; exact this)
    unfold dq_mu
    rw [e1, e2]
    have : 35 * n ≤ 280 := by omega
    omega
  · rw [dq_if_f c]
    obtain ⟨b1, b2⟩ := dq_nx_lv (w := w) n h8 c
    have b3 := dq_nx_12 (w := w) n h8 c
    generalize dq_nx w n = b at *
    have e35 := H.2.2.1 b b1
    obtain ⟨z, p1, p2, p3, p4⟩ := e35.of
    rw [Int32.le_iff_toInt_le, p4] at b3
    have e11 : (11 : Int32).toInt = 11 := rfl
    rw [e11] at b3
    have en : w 19 b - 12 = dq_iI (z - 12) := by
      rw [p3, show (12 : Int32) = dq_iI 12 from rfl, dq_isub]
    have J1 : dq_JV n t l (dq_set w 19 b (w 19 b - 12)) := by
      refine ⟨I.st (by decide), J.2.1.st (by decide), ?_⟩
      obtain ⟨⟨a1, a2⟩, bb, c1, c2, c3, c4⟩ := H
      refine ⟨⟨by rw [dq_set_q (by decide)]; exact a1, fun k hk => by rw [dq_set_q (by decide)]; exact a2 k hk⟩, fun d hd => by rw [dq_set_q (by decide)]; exact bb d hd, fun k hk => ?_, fun k hk => by rw [dq_set_q (by decide)]; exact c2 k hk, fun k hk h => ?_, fun d hd => by rw [dq_set_q (by decide)]; exact c4 d hd⟩
      · by_cases e : k = b
        · rw [e, dq_set_eq, en]
          exact dj_R.mk (by omega) (by omega) (by omega) (by omega)
        · rw [dq_set_ne (Or.inr e)]; exact c1 k hk
      · rw [dq_set_q (by decide)] at h ⊢
        exact c3 k hk h
    have l1 : ∀ i, dq_lv w i → dq_lv (dq_set w 19 b (w 19 b - 12)) i := fun i h => by unfold dq_lv at h ⊢; rw [dq_set_q (by decide)]; exact h
    refine ⟨ax_move_J J1 b1 (l1 b b2) (l1 0 h0), ?_⟩
    have e19 : ∀ i, ax_move n b (dq_set w 19 b (w 19 b - 12)) 19 i = dq_set w 19 b (w 19 b - 12) 19 i := fun i => by rw [ax_move_r (by decide)]
    have ene : ∀ i, i ≠ b → dq_en (ax_move n b (dq_set w 19 b (w 19 b - 12))) i = dq_en w i := fun i hi => by
      unfold dq_en
      rw [e19, dq_set_ne (Or.inr hi)]
    have eb : dq_en (ax_move n b (dq_set w 19 b (w 19 b - 12))) b = (z - 12).toNat := by
      unfold dq_en
      rw [e19, dq_set_eq, en, dq_iT (by omega) (by omega)]
    have eb2 : dq_en w b = z.toNat := by
      unfold dq_en
      rw [p4]
    have hs := dq_sm_upd (f := fun i => if i = 0 then 0 else dq_en (ax_move n b (dq_set w 19 b (w 19 b - 12))) i) (g := fun i => if i = 0 then 0 else dq_en w i) (x := b) n b1 (fun i _ hi => by
      show (if i = 0 then 0 else dq_en (ax_move n b (dq_set w 19 b (w 19 b - 12))) i) = (if i = 0 then 0 else dq_en w i)
      rw [ene i hi])
    have hs : dq_sm (fun i => if i = 0 then 0 else dq_en (ax_move n b (dq_set w 19 b (w 19 b - 12))) i) n + (if b = 0 then 0 else dq_en w b) = dq_sm (fun i => if i = 0 then 0 else dq_en w i) n + (if b = 0 then 0 else dq_en (ax_move n b (dq_set w 19 b (w 19 b - 12))) b) := hs
    rw [if_neg hx, if_neg hx, eb, eb2] at hs
    unfold dq_mu
    rw [ene 0 (Ne.symm hx)]
    omega
theorem dq_rests_mu : ∀ (k : Nat) (w : dq_W), dq_JV n t l w → dq_mu n w ≤ k → dq_rests n k w
  | 0, w, J, h => by
    by_cases g : dq_wd w n
    · exact g
    · have g1 : dq_lv w 0 := Classical.not_not.mp fun q => g (Or.inl q)
      have g2 : dq_nx w n ≠ 0 := fun q => g (Or.inr q)
      have := (ax_step_J J g1 g2).2
      omega
  | k + 1, w, J, h => by
    by_cases g : dq_wd w n
    · exact Or.inl g
    · have g1 : dq_lv w 0 := Classical.not_not.mp fun q => g (Or.inl q)
      have g2 : dq_nx w n ≠ 0 := fun q => g (Or.inr q)
      obtain ⟨a, b⟩ := ax_step_J J g1 g2
      exact Or.inr (dq_rests_mu k _ a (by omega))
theorem dq_rests_J (J : dq_JV n t l w) : dq_rests n 4000 w := dq_rests_mu 4000 w J (by have := dq_mu_le J.2.2 J.1.h8; omega)
theorem ax_wait_J : ∀ (k : Nat) (w : dq_W), dq_JV n t l w → dq_JV n t l (ax_wait n k w)
  | 0, _, J => J
  | k + 1, w, J => by
    show dq_JV n t l (dq_if (dq_wd w n) w (ax_wait n k (ax_step n w)))
    by_cases g : dq_wd w n
    · rw [dq_if_t g]; exact J
    · rw [dq_if_f g]
      have g1 : dq_lv w 0 := Classical.not_not.mp fun q => g (Or.inl q)
      have g2 : dq_nx w n ≠ 0 := fun q => g (Or.inr q)
      exact ax_wait_J k _ (ax_step_J J g1 g2).1
theorem ax_wait_wd : ∀ (k : Nat) (w : dq_W), dq_rests n k w → dq_wd (ax_wait n k w) n
  | 0, _, h => h
  | k + 1, w, h => by
    show dq_wd (dq_if (dq_wd w n) w (ax_wait n k (ax_step n w))) n
    by_cases g : dq_wd w n
    · rw [dq_if_t g]; exact g
    · rw [dq_if_f g]
      exact ax_wait_wd k _ (h.resolve_left g)
theorem ax_wait_id {k : Nat} (g : dq_wd w n) : ax_wait n k w = w := by
  cases k with
  | zero => rfl
  | succ k => exact dq_if_t g
theorem ax_strike_r {b q : Nat} {v : Int32} (h : q ≠ 18 ∧ q ≠ 0) : ax_strike b v w q = w q := by
  unfold ax_strike
  by_cases g : dq_lv (dq_set w 18 b (w 18 b - v)) b
  · rw [dq_if_t g, dq_set_r h.1]
  · rw [dq_if_f g, dq_set_r h.2, dq_set_r h.1]
theorem ax_strike_JK {b : Nat} {v : Int32} (U : dq_IU n w) (H : dq_KV n w) (hb : dq_lv w b) : dq_IU n (ax_strike b v w) ∧ dq_KV n (ax_strike b v w) := by
  unfold ax_strike
  by_cases g : dq_lv (dq_set w 18 b (w 18 b - v)) b
  · rw [dq_if_t g]
    exact ⟨U.s18 hb, H.st (by omega)⟩
  · rw [dq_if_f g]
    exact ⟨(U.s18 hb).st (by decide), (H.st (by omega)).st (by omega)⟩
theorem ax_noise_JK {c m i : Nat} (U : dq_IU n w) (H : dq_KV n w) : dq_IU n (ax_noise c m i w) ∧ dq_KV n (ax_noise c m i w) :=
  ⟨U.cg (ax_noise_r (by decide)) (ax_noise_r (by decide)) (ax_noise_r (by decide)), H.cg (fun q hq => ax_noise_r (by omega)) (ax_noise_o (Or.inl (by decide)))⟩
theorem ax_use_JK {x : Nat} (U : dq_IU n w) (H : dq_KV n w) : dq_IU n (ax_use x w) ∧ dq_KV n (ax_use x w) :=
  ⟨(U.st (by decide)).st (by decide), (H.st (by omega)).st (by omega)⟩
theorem ax_work_JK {d b : Nat} (hd : d < 8) (U : dq_IU n w) (H : dq_KV n w) (hb : dq_lv w b) : dq_IU n (ax_work d b w) ∧ dq_KV n (ax_work d b w) := by
  have h11 := H.2.2.2.2.2 d hd
  unfold ax_work
  by_cases c1 : w 10 d = 98
  · rw [dq_if_t c1]
    by_cases c2 : b = 0
    · rw [dq_if_t c2]
      refine ⟨U.st (by decide), ?_⟩
      obtain ⟨⟨a1, a2⟩, bb, r1, r2, r3, r4⟩ := H
      refine ⟨⟨?_, fun k hk => by rw [dq_set_q (by decide)]; exact a2 k hk⟩, fun d hd => by rw [dq_set_q (by decide)]; exact bb d hd, fun k hk => by rw [dq_set_q (by decide)]; exact r1 k hk, fun k hk => by rw [dq_set_q (by decide)]; exact r2 k hk, fun k hk h => ?_, fun d hd => by rw [dq_set_q (by decide)]; exact r4 d hd⟩
      · rw [dq_set_eq, Int32.lt_iff_toInt_lt]
        have := h11.1
        have e0 : (0 : Int32).toInt = 0 := rfl
        omega
      · rw [dq_set_q (by decide)] at h ⊢
        exact r3 k hk h
    · rw [dq_if_f c2]; exact ⟨U, H⟩
  · rw [dq_if_f c1]
    by_cases c2 : w 10 d = 100
    · rw [dq_if_t c2]; exact ⟨U.s18 hb, H.st (by omega)⟩
    · rw [dq_if_f c2]
      by_cases c3 : w 10 d = 104
      · rw [dq_if_t c3]; exact ⟨U.s18 hb, H.st (by omega)⟩
      · rw [dq_if_f c3]
        by_cases c4 : w 10 d = 115
        · rw [dq_if_t c4]
          refine ⟨(U.st (by decide)).st (by decide), ?_⟩
          obtain ⟨⟨a1, a2⟩, bb, r1, r2, r3, r4⟩ := H
          have o : ∀ q k, q ≠ 20 → q ≠ 21 → dq_set (dq_set w 20 b (w 11 d)) 21 b 12 q k = w q k := fun q k h1 h2 => by rw [dq_set_q h2, dq_set_q h1]
          refine ⟨⟨by rw [o 0 8 (by decide) (by decide)]; exact a1, fun k hk => ?_⟩, fun e he => by rw [o 9 e (by decide) (by decide)]; exact bb e he, fun k hk => by rw [o 19 k (by decide) (by decide)]; exact r1 k hk, fun k hk => by rw [o 15 k (by decide) (by decide)]; exact r2 k hk, fun k hk h => ?_, fun e he => by rw [o 11 e (by decide) (by decide)]; exact r4 e he⟩
          · by_cases e : k = b
            · rw [e, dq_set_eq]; decide
            · rw [dq_set_ne (Or.inr e), dq_set_q (by decide)]; exact a2 k hk
          · by_cases e : k = b
            · rw [e, dq_set_q (by decide), dq_set_eq]
              have := h11.1
              have := h11.2
              exact ⟨by omega, by omega⟩
            · rw [dq_set_ne (Or.inr e), dq_set_q (by decide)] at h
              rw [dq_set_q (by decide), dq_set_ne (Or.inr e)]
              exact r3 k hk h
        · rw [dq_if_f c4]; exact ⟨U, H⟩
theorem ax_burn_JK {c0 : Nat} {r : Int32} (U : dq_IU n w) (H : dq_KV n w) (i : Nat) : dq_IU n (ax_burn t c0 r w i) ∧ dq_KV n (ax_burn t c0 r w i) :=
  ⟨U.cg (ax_burn_o (by decide) i) (ax_burn_o (by decide) i) (ax_burn_o (by decide) i), H.cg (fun q hq => ax_burn_o (by omega) i) (by rw [ax_burn_o (by decide) i])⟩
theorem ax_burnBy_JK {d c0 : Nat} {r : Int32} (U : dq_IU n w) (H : dq_KV n w) : dq_IU n (ax_burnBy t d c0 r w) ∧ dq_KV n (ax_burnBy t d c0 r w) := by
  unfold ax_burnBy
  by_cases g : w 10 d = 102
  · rw [dq_if_t g]; exact ax_burn_JK U H t
  · rw [dq_if_f g]; exact ⟨U, H⟩
theorem ax_sh_JK {d c0 : Nat} {r : Int32} (hd : d < 8) (U : dq_IU n w) (H : dq_KV n w) : ∀ i, dq_IU n (ax_sh d c0 r w i) ∧ dq_KV n (ax_sh d c0 r w i)
  | 0 => ⟨U, H⟩
  | i + 1 => by
    obtain ⟨U1, H1⟩ := ax_sh_JK (c0 := c0) (r := r) hd U H i
    show dq_IU n (dq_if _ _ _) ∧ dq_KV n (dq_if _ _ _)
    by_cases g : dq_lv (ax_sh d c0 r w i) i ∧ ¬ r < nI (dq_gp (dq_pl (ax_sh d c0 r w i) i) c0)
    · rw [dq_if_t g]; exact ax_work_JK hd U1 H1 g.1
    · rw [dq_if_f g]; exact ⟨U1, H1⟩
theorem ax_land_JK {x c b : Nat} (I : dq_IV n t l w) (U : dq_IU n w) (H : dq_KV n w) (hx : x < 24) (hb : b ≠ 8 → dq_lv w b) : dq_IU n (ax_land n t x c b w) ∧ dq_KV n (ax_land n t x c b w) := by
  have U1 : dq_IU n (dq_set w 25 x (nI c)) := U.st (by decide)
  have H1 : dq_KV n (dq_set w 25 x (nI c)) := H.st (by omega)
  have ek : dq_kd (dq_set w 25 x (nI c)) x = dq_kd w x := by unfold dq_kd; rw [dq_set_q (by decide)]
  unfold ax_land
  by_cases g : 3 ≤ dq_kd w x ∧ dq_kd w x ≤ 5
  · rw [dq_if_t g]
    obtain ⟨U2, H2⟩ := ax_use_JK (x := x) U1 H1
    have S := ax_sh_JK (c0 := c) (r := dq_set w 25 x (nI c) 12 (dq_kd (dq_set w 25 x (nI c)) x)) (d := dq_kd (dq_set w 25 x (nI c)) x) (by rw [ek]; omega) U2 H2 n
    obtain ⟨U3, H3⟩ := S
    obtain ⟨U4, H4⟩ := ax_burnBy_JK (t := t) (d := dq_kd w x) (c0 := c) (r := w 12 (dq_kd w x)) U3 H3
    exact ax_noise_JK U4 H4
  · rw [dq_if_f g]
    by_cases g2 : dq_kd w x = 7 ∧ b ≠ 8
    · rw [dq_if_t g2]
      have hl : dq_lv (dq_set w 25 x (nI c)) b := by
        have := hb g2.2
        unfold dq_lv at this ⊢
        rw [dq_set_q (by decide)]; exact this
      obtain ⟨U2, H2⟩ := ax_strike_JK (v := 4) U1 H1 hl
      exact ax_noise_JK U2 H2
    · rw [dq_if_f g2]; exact ⟨U1, H1⟩
theorem ax_deed_JK {d a b : Nat} (I : dq_IV n t l w) (U : dq_IU n w) (H : dq_KV n w) (h0 : dq_lv w 0) (hd : dq_DV t d a b w) : dq_IU n (ax_deed n t d a b w).2 ∧ dq_KV n (ax_deed n t d a b w).2 := by
  have h8 := I.h8
  have ht := I.t24
  have s25 : ∀ x v, dq_IU n (dq_set w 25 x v) ∧ dq_KV n (dq_set w 25 x v) := fun x v => ⟨U.st (by decide), H.st (by omega)⟩
  rcases hd with ⟨rfl, ha⟩ | rfl | ⟨rfl | rfl, ha⟩ | ⟨rfl, ha, hb⟩ | ⟨rfl, ha⟩ | ⟨rfl, ha, hb⟩ | ⟨rfl, ha⟩ | rfl
  · show dq_IU n (ax_go n t a w).2 ∧ dq_KV n (ax_go n t a w).2
    have hp := (I.pl 0 (by decide)).1
    have hn := dq_nb_le _ hp a ha
    unfold ax_go
    by_cases g : 1 ≤ dq_la w (dq_nb (dq_pl w 0) a) n ∧ dq_la w (dq_nb (dq_pl w 0) a) n < 8
    · rw [dq_if_t g]
      have hl := (dq_la_in I (c := dq_nb (dq_pl w 0) a) (by omega)).2.2.1
      obtain ⟨U2, H2⟩ := ax_strike_JK (v := dq_if (dq_hs w t 7) 7 3) U H hl
      exact ax_noise_JK U2 H2
    · rw [dq_if_f g]
      by_cases g2 : dq_sg w (dq_nb (dq_pl w 0) a) = 43 ∨ dq_ky w t (dq_sg w (dq_nb (dq_pl w 0) a))
      · rw [dq_if_t g2]; exact ⟨U.s2, H.st (by omega)⟩
      · rw [dq_if_f g2]
        by_cases g3 : dq_free (dq_sg w (dq_nb (dq_pl w 0) a))
        · rw [dq_if_t g3]
          have hc := dq_free_in hn g3
          rw [dq_sg_in hc] at g3
          refine ⟨U.s14 hc g3 (fun i hi ne hl he => ?_), H.st (by omega)⟩
          obtain ⟨m, ⟨m1, m2, m3⟩, hm⟩ := dq_min (fun i => i < n ∧ dq_lv w i ∧ dq_pl w i = dq_nb (dq_pl w 0) a) i ⟨hi, hl, he⟩
          have e := dq_la_y (f := w) (c := dq_nb (dq_pl w 0) a) (k := m) (by omega) m2 m3 (fun j hj h1 h2 => by
            have := hm j ⟨by omega, h1, h2⟩
            omega) n m1
          have m0 : m ≠ 0 := fun e0 => by
            rw [e0] at m3
            exact dq_nb_ne _ hp a ha m3.symm
          omega
        · rw [dq_if_f g3]; exact ⟨U, H⟩
  · exact ⟨U, H⟩
  · exact s25 _ _
  · exact s25 _ _
  · exact s25 _ _
  · show dq_IU n (ax_drink t a w) ∧ dq_KV n (ax_drink t a w)
    unfold ax_drink
    obtain ⟨U2, H2⟩ := ax_use_JK (x := a) U H
    have hk := (I.kd a (by omega)).1
    obtain ⟨U3, H3⟩ := ax_work_JK (b := 0) hk U2 H2 (by unfold dq_lv ax_use; rw [dq_set_q (by decide), dq_set_q (by decide)]; exact h0)
    exact ax_burnBy_JK U3 H3
  · show dq_IU n (ax_hurl n t a b w).2 ∧ dq_KV n (ax_hurl n t a b w).2
    unfold ax_hurl
    have hp := (I.pl 0 (by decide)).1
    have hin := dq_hu_in I hb 5 _ hp
    refine ax_land_JK I U H (by omega) (fun hne => ?_)
    rcases hin.2.2 with e | ⟨_, e2, e3⟩
    · exact absurd e hne
    · rw [e3]
      exact (dq_la_in I (by rw [← e3]; omega)).2.2.1
  · exact ax_noise_JK U H
  · show dq_IU n (ax_pray w) ∧ dq_KV n (ax_pray w)
    unfold ax_pray
    by_cases g : dq_wk w 0 ∧ ¬ w 0 7 < 0
    · rw [dq_if_t g]; exact ⟨(U.s18 h0).st (by decide), (H.st (by omega)).st (by omega)⟩
    · rw [dq_if_f g]; exact ⟨U.st (by decide), H.st (by omega)⟩
theorem dq_spend_J {v : dq_W} (J : dq_JV n t l v) (h12 : ¬ v 19 0 ≤ 11) : dq_JV n t l (dq_set v 19 0 (v 19 0 - 12)) := by
  obtain ⟨I, U, H⟩ := J
  have h1 := I.h1
  refine ⟨I.st (by decide), U.st (by decide), ?_⟩
  obtain ⟨z, p1, p2, p3, p4⟩ := (H.2.2.1 0 (by omega)).of
  rw [Int32.le_iff_toInt_le, p4] at h12
  have e11 : (11 : Int32).toInt = 11 := rfl
  rw [e11] at h12
  have en : v 19 0 - 12 = dq_iI (z - 12) := by
    rw [p3, show (12 : Int32) = dq_iI 12 from rfl, dq_isub]
  obtain ⟨⟨a1, a2⟩, bb, c1, c2, c3, c4⟩ := H
  refine ⟨⟨by rw [dq_set_q (by decide)]; exact a1, fun k hk => by rw [dq_set_q (by decide)]; exact a2 k hk⟩, fun d hd => by rw [dq_set_q (by decide)]; exact bb d hd, fun k hk => ?_, fun k hk => by rw [dq_set_q (by decide)]; exact c2 k hk, fun k hk h => ?_, fun d hd => by rw [dq_set_q (by decide)]; exact c4 d hd⟩
  · by_cases e : k = 0
    · rw [e, dq_set_eq, en]
      exact dj_R.mk (by omega) (by omega) (by omega) (by omega)
    · rw [dq_set_ne (Or.inr e)]; exact c1 k hk
  · rw [dq_set_q (by decide)] at h ⊢
    exact c3 k hk h
end DQJ
noncomputable def ax_on (n : Nat) (v : dq_W) : dq_W := ax_wait n 4000 (dq_set v 19 0 (v 19 0 - 12))
def mr_th (t : Nat) (a : Int32) : Prop := ∃ x, x < t ∧ a = nI x
section DQXJ
variable {n t l : Nat} {w : dq_W} {s : dk_S} {K : Int32 → dk_S → Prop} {J : dk_S → Prop}
theorem ax_land_19 {x c b : Nat} : ax_land n t x c b w 19 = w 19 := by
  unfold ax_land
  by_cases g : 3 ≤ dq_kd w x ∧ dq_kd w x ≤ 5
  · rw [dq_if_t g, ax_noise_r (by decide)]
    unfold ax_burnBy
    have e : ax_shatter n x c (dq_set w 25 x (nI c)) 19 = w 19 := by
      unfold ax_shatter
      rw [ax_sh_o (by decide)]
      unfold ax_use
      rw [dq_set_r (by decide), dq_set_r (by decide), dq_set_r (by decide)]
    by_cases g2 : ax_shatter n x c (dq_set w 25 x (nI c)) 10 (dq_kd w x) = 102
    · rw [dq_if_t g2, ax_burn_o (by decide), e]
    · rw [dq_if_f g2, e]
  · rw [dq_if_f g]
    by_cases g2 : dq_kd w x = 7 ∧ b ≠ 8
    · rw [dq_if_t g2, ax_noise_r (by decide), ax_strike_r (by decide), dq_set_r (by decide)]
    · rw [dq_if_f g2, dq_set_r (by decide)]
theorem ax_drink_19 {x : Nat} : ax_drink t x w 19 = w 19 := by
  unfold ax_drink ax_burnBy
  have e : ax_work (dq_kd w x) 0 (ax_use x w) 19 = w 19 := by
    rw [ax_work_o (by decide)]
    unfold ax_use
    rw [dq_set_r (by decide), dq_set_r (by decide)]
  by_cases g2 : ax_work (dq_kd w x) 0 (ax_use x w) 10 (dq_kd w x) = 102
  · rw [dq_if_t g2, ax_burn_o (by decide), e]
  · rw [dq_if_f g2, e]
theorem ax_go_19 {a : Nat} : (ax_go n t a w).2 19 = w 19 := by
  unfold ax_go
  by_cases g : 1 ≤ dq_la w (dq_nb (dq_pl w 0) a) n ∧ dq_la w (dq_nb (dq_pl w 0) a) n < 8
  · rw [dq_if_t g]; exact (ax_noise_r (by decide)).trans (ax_strike_r (by decide))
  · rw [dq_if_f g]
    by_cases g2 : dq_sg w (dq_nb (dq_pl w 0) a) = 43 ∨ dq_ky w t (dq_sg w (dq_nb (dq_pl w 0) a))
    · rw [dq_if_t g2]
      show dq_set w 2 (dq_nb (dq_pl w 0) a) 47 19 = w 19
      exact dq_set_r (by decide)
    · rw [dq_if_f g2]
      by_cases g3 : dq_free (dq_sg w (dq_nb (dq_pl w 0) a))
      · rw [dq_if_t g3]
        show dq_set w 14 0 (nI (dq_nb (dq_pl w 0) a)) 19 = w 19
        exact dq_set_r (by decide)
      · rw [dq_if_f g3]
theorem ax_pray_19 : ax_pray w 19 = w 19 := by
  unfold ax_pray
  by_cases g : dq_wk w 0 ∧ ¬ w 0 7 < 0
  · rw [dq_if_t g, dq_set_r (by decide), dq_set_r (by decide)]
  · rw [dq_if_f g, dq_set_r (by decide)]
theorem ax_deed_19 {d a b : Nat} (hd : dq_DV t d a b w) : (ax_deed n t d a b w).2 19 = w 19 := by
  rcases hd with ⟨rfl, ha⟩ | rfl | ⟨rfl | rfl, ha⟩ | ⟨rfl, ha, hb⟩ | ⟨rfl, ha⟩ | ⟨rfl, ha, hb⟩ | ⟨rfl, ha⟩ | rfl
  · exact ax_go_19
  · rfl
  · show dq_set w 25 a (-1) 19 = w 19
    exact dq_set_r (by decide)
  · show dq_set w 25 a (nI (dq_pl w 0)) 19 = w 19
    exact dq_set_r (by decide)
  · show dq_set w 25 a (if b = 24 then -1 else (-3) - nI b) 19 = w 19
    exact dq_set_r (by decide)
  · exact ax_drink_19
  · exact ax_land_19
  · exact ax_noise_r (by decide)
  · exact ax_pray_19
theorem dq_RT.h12 (JV : dq_JV n t l w) (RT : dq_RT n w) : ¬ w 19 0 ≤ 11 := by
  have := dq_nx_12 (w := w) n JV.1.h8 (by rw [RT.2]; decide)
  rw [RT.2] at this
  exact this
theorem ax_deed_J {d a b : Nat} (JV : dq_JV n t l w) (RT : dq_RT n w) (hd : dq_DV t d a b w) : dq_JV n t l (ax_deed n t d a b w).2 ∧ ¬ (ax_deed n t d a b w).2 19 0 ≤ 11 := by
  have h := ax_deed_JK JV.1 JV.2.1 JV.2.2 RT.1 hd
  refine ⟨⟨ax_deed_I JV.1 hd, h.1, h.2⟩, ?_⟩
  rw [ax_deed_19 hd]
  exact dq_RT.h12 JV RT
end DQXJ
section DRH
variable {n t l : Nat} {w : dq_W}
end DRH
section DRK
variable {p n t l : Nat} {s : dk_S} {w : dq_W} {K : Int32 → dk_S → Prop} {J : dk_S → Prop}
theorem dq_Ab.rows {f g : dq_W} (H : dq_Ab w f) (h : ∀ q, q ≠ 3 → q ≠ 4 → q ≠ 5 → g q = f q) : dq_Ab w g := fun q k h1 h2 => by
  by_cases e : q = 3 ∨ q = 4 ∨ q = 5
  · exfalso
    rcases e with rfl | rfl | rfl
    · exact absurd h2 (Nat.not_lt_zero _)
    · exact absurd h2 (Nat.not_lt_zero _)
    · exact absurd h2 (Nat.not_lt_zero _)
  · rw [h q (by omega) (by omega) (by omega)]; exact H q k h1 h2
end DRK
def mr_Z (w : dq_W) : Prop := (w 0 5 = 0 ∧ w 0 7 = 0 ∧ w 0 8 = 0 ∧ w 0 9 = 0) ∧ (∀ k, k < 8 → w 19 k = 0 ∧ w 21 k = 0 ∧ w 22 k = -1 ∧ w 18 k = w 17 k) ∧ w 16 0 = 0
section DMC
variable {w m : dq_W}
end DMC
section DMT
variable {n t l : Nat} {w : dq_W} {s : dk_S} {K : Int32 → dk_S → Prop} {J : dk_S → Prop}
end DMT
def ax_tell (b : Nat) (c sp st h : Int32) (w : dq_W) : dq_W := dq_set (dq_set (dq_set (dq_set (dq_set w 14 b c) 15 b sp) 16 b st) 17 b h) 18 b h
def ax_kind (d : Nat) (a v : Int32) (w : dq_W) : dq_W := dq_set (dq_set w 8 d a) 9 d v
def ax_effect (d : Nat) (e m r : Int32) (w : dq_W) : dq_W := dq_set (dq_set (dq_set w 10 d e) 11 d m) 12 d r
def ax_thing (x : Nat) (d p : Int32) (w : dq_W) : dq_W := dq_set (dq_set (dq_set w 24 x d) 25 x p) 23 2 (nI x + 1)
def ax_lamp (i : Nat) (p r : Int32) (w : dq_W) : dq_W := dq_set (dq_set (dq_set w 27 i p) 28 i r) 26 2 (nI i + 1)
def ax_beast (b : Nat) (c sp st h : Int32) (w : dq_W) : dq_W := dq_set (ax_tell b c sp st h w) 13 9 (nI b + 1)
theorem mr_Z.put {w : dq_W} (Z : mr_Z w) {q k : Nat} {v : Int32} (hq : ¬ (q = 0 ∨ q = 16 ∨ q = 17 ∨ q = 18 ∨ q = 19 ∨ q = 21 ∨ q = 22)) : mr_Z (dq_set w q k v) := by
  have e : ∀ a, (a = 0 ∨ a = 16 ∨ a = 17 ∨ a = 18 ∨ a = 19 ∨ a = 21 ∨ a = 22) → dq_set w q k v a = w a := fun a ha => dq_set_r (by omega)
  unfold mr_Z
  rw [e 0 (by omega), e 16 (by omega), e 17 (by omega), e 18 (by omega), e 19 (by omega), e 21 (by omega), e 22 (by omega)]
  exact Z
theorem mr_Z.tell {w : dq_W} (Z : mr_Z w) {b : Nat} {c sp st h : Int32} (hs : b = 0 → st = 0) : mr_Z (ax_tell b c sp st h w) := by
  have e : ∀ a, (a = 0 ∨ a = 19 ∨ a = 21 ∨ a = 22) → ax_tell b c sp st h w a = w a := fun a ha => by
    unfold ax_tell
    rw [dq_set_r (by omega), dq_set_r (by omega), dq_set_r (by omega), dq_set_r (by omega), dq_set_r (by omega)]
  unfold mr_Z
  rw [e 0 (by omega), e 19 (by omega), e 21 (by omega), e 22 (by omega)]
  refine ⟨Z.1, fun k hk => ⟨(Z.2.1 k hk).1, (Z.2.1 k hk).2.1, (Z.2.1 k hk).2.2.1, ?_⟩, ?_⟩
  · by_cases g : k = b
    · have l : ax_tell b c sp st h w 18 k = h := by unfold ax_tell; rw [g]; exact dq_set_eq
      have r : ax_tell b c sp st h w 17 k = h := by unfold ax_tell; rw [g, dq_set_q (by decide)]; exact dq_set_eq
      rw [l, r]
    · have l : ax_tell b c sp st h w 18 k = w 18 k := by
        unfold ax_tell
        rw [dq_set_ne (Or.inr g), dq_set_q (by decide), dq_set_q (by decide), dq_set_q (by decide), dq_set_q (by decide)]
      have r : ax_tell b c sp st h w 17 k = w 17 k := by
        unfold ax_tell
        rw [dq_set_q (by decide), dq_set_ne (Or.inr g), dq_set_q (by decide), dq_set_q (by decide), dq_set_q (by decide)]
      rw [l, r]; exact (Z.2.1 k hk).2.2.2
  · unfold ax_tell
    rw [dq_set_q (by decide), dq_set_q (by decide)]
    by_cases g : b = 0
    · rw [g, dq_set_eq]; exact hs g
    · rw [dq_set_ne (Or.inr (Ne.symm g)), dq_set_q (by decide), dq_set_q (by decide)]; exact Z.2.2
theorem dq_SG.put {w : dq_W} (S : dq_SG w) {q k : Nat} {v : Int32} (hq : q ≠ 2) : dq_SG (dq_set w q k v) := fun c hc => by
  rw [dq_set_q (Ne.symm hq)]; exact S c hc
theorem dq_SG.dig {w : dq_W} (S : dq_SG w) {k : Nat} {v : Int32} (hv : dq_sgn v) : dq_SG (dq_set w 2 k v) := fun c hc => by
  by_cases e : c = k
  · rw [e, dq_set_eq]; exact hv
  · rw [dq_set_ne (Or.inr e)]; exact S c hc
section DMU
variable {n t l : Nat} {w : dq_W} {s u : dk_S} {K : Int32 → dk_S → Prop} {J : dk_S → Prop}
theorem mr_in_01 {a : Int32} {lo hi : Int32} {L N : Nat} (e : hi.toInt = N) (e0 : lo.toInt = L) (h : mr_in a lo hi) : ∃ j, L ≤ j ∧ j ≤ N ∧ a = nI j := by
  have g0 : ¬ a < 0 := fun q => h.1 (by
    rw [Int32.lt_iff_toInt_lt] at q ⊢
    have : (0 : Int32).toInt = 0 := rfl
    omega)
  obtain ⟨j, hj, ej⟩ := mr_in_n (N := N) e ⟨g0, h.2⟩
  refine ⟨j, ?_, hj, ej⟩
  have := h.1
  rw [ej, Int32.lt_iff_toInt_lt, e0, nI_toInt (by have := Int32.toInt_lt hi; omega)] at this
  omega
end DMU
theorem dq_ke {K : Int32 → dk_S → Prop} {x y : Int32} {s : dk_S} (e : x = y) (k : K y s) : K x s := by rw [e]; exact k
def mr_cr (n lo : Nat) (x : Int32) : Prop := ∃ c, lo ≤ c ∧ c < n ∧ x = nI c
section DMQ
variable {n t l : Nat} {w : dq_W} {s u : dk_S} {K : Int32 → dk_S → Prop} {J : dk_S → Prop}
end DMQ
def dq_fw (w : dq_W) (i : Nat) : Prop := ∀ k, k < i → dq_free (w 2 (dq_pl w k)) ∧ ∀ j, j < k → dq_pl w j ≠ dq_pl w k
def dq_BV (t : Nat) (B : Nat → Int32) : Prop := ∃ r : Nat → Nat, ∀ i, i < 24 → B i = -2 ∨ (i < t ∧ (B i = -1 ∨ ∃ b, b < t ∧ B i = (-3) - nI b ∧ B b ≠ -2 ∧ r b < r i))
def dq_SP (sp : Int32) : Prop := sp = -1 ∨ ∃ c, c < 144 ∧ sp = nI c
theorem dq_BV.out {t : Nat} {B : Nat → Int32} (V : dq_BV t B) {i : Nat} (hi : i < 24) (ht : t ≤ i) : B i = -2 := by
  obtain ⟨r, h⟩ := V
  rcases h i hi with e | ⟨g, _⟩
  · exact e
  · omega
theorem dq_sm_ge {r : Nat → Nat} : ∀ n i, i < n → r i ≤ dq_sm r n
  | 0, i, h => absurd h (Nat.not_lt_zero _)
  | n + 1, i, h => by
    show r i ≤ dq_sm r n + r n
    by_cases e : i = n
    · rw [e]; omega
    · have := dq_sm_ge (r := r) n i (show i < n by omega)
      omega
theorem ax_bones_I {w : dq_W} {n t l : Nat} {B : Nat → Int32} {sp : Int32} (I : dq_IV n t l w) (V : dq_BV t B) : dq_IV n t l (ax_bones B sp w) := by
  unfold ax_bones
  by_cases c : ∃ c, c < 144 ∧ sp = nI c ∧ dq_free (w 2 c)
  · rw [dq_if_t c]
    obtain ⟨c0, hc, ec, _⟩ := c
    have e25 : ∀ x, x < 24 → ax_lay B sp 24 w 25 x = if B x ≠ -2 then (if B x = -1 then sp else B x) else w 25 x := fun x hx => by
      unfold ax_lay
      by_cases g : B x ≠ -2
      · rw [if_pos ⟨rfl, hx, g⟩, if_pos g]
      · rw [if_neg (fun h => g h.2.2), if_neg g]
    have ht := I.t24
    obtain ⟨r, hr⟩ := V
    obtain ⟨r0, hr0⟩ := I.ac
    refine I.p25 (fun q hq => funext fun k => ax_lay_o (Or.inl hq)) (fun x hx => ?_) ⟨fun x => if x < 24 ∧ B x ≠ -2 then r x else dq_sm r 24 + 1 + r0 x, fun x hx hb => ?_⟩
    · rw [e25 x hx]
      by_cases g : B x ≠ -2
      · rw [if_pos g]
        rcases hr x hx with e | ⟨_, e | ⟨b, hb, e, _⟩⟩
        · exact absurd e g
        · rw [if_pos e]; exact Or.inr (Or.inr (Or.inl ⟨c0, hc, ec⟩))
        · have : B x ≠ -1 := by
            rw [e]; intro q
            have := dq_bg_yes (f := fun _ _ => (-3) - nI b) (x := 0) (show b < 24 by omega) rfl
            have h2 := dq_bg_no (f := fun _ _ => (-3) - nI b) (x := 0) (v := -1) q (by decide)
            omega
          rw [if_neg this, e]; exact Or.inr (Or.inr (Or.inr ⟨b, hb, rfl⟩))
      · rw [if_neg g]; exact I.tp x hx
    · by_cases g : B x ≠ -2
      · have e1 := e25 x hx
        rw [if_pos g] at e1
        rcases hr x hx with e | ⟨_, e | ⟨b, hb2, e, h2, h3⟩⟩
        · exact absurd e g
        · rw [if_pos e] at e1
          refine absurd (dq_bg_no e1 ?_) hb
          rw [ec]
          have := nI_pos (show c0 < 2 ^ 31 by omega)
          rw [Int32.lt_iff_toInt_lt] at *
          rw [nI_toInt (by omega)]
          have : (-3 : Int32).toInt = -3 := rfl
          omega
        · have hn : B x ≠ -1 := by
            rw [e]; intro q
            have := dq_bg_yes (f := fun _ _ => (-3) - nI b) (x := 0) (show b < 24 by omega) rfl
            have h2 := dq_bg_no (f := fun _ _ => (-3) - nI b) (x := 0) (v := -1) q (by decide)
            omega
          rw [if_neg hn, e] at e1
          rw [dq_bg_yes (show b < 24 by omega) e1]
          show (if b < 24 ∧ B b ≠ -2 then _ else _) < (if x < 24 ∧ B x ≠ -2 then _ else _)
          rw [if_pos ⟨by omega, h2⟩, if_pos ⟨hx, g⟩]; exact h3
      · have e1 := e25 x hx
        rw [if_neg g] at e1
        have e2 : dq_bg (ax_lay B sp 24 w) x = dq_bg w x := dq_bg_c e1
        rw [e2] at hb ⊢
        have h3 := hr0 x hx hb
        show (if dq_bg w x < 24 ∧ B (dq_bg w x) ≠ -2 then _ else _) < (if x < 24 ∧ B x ≠ -2 then _ else _)
        rw [if_neg (show ¬ (x < 24 ∧ B x ≠ -2) from fun q => g q.2)]
        by_cases g2 : dq_bg w x < 24 ∧ B (dq_bg w x) ≠ -2
        · rw [if_pos g2]
          have := dq_sm_ge (r := r) 24 _ g2.1
          omega
        · rw [if_neg g2]; omega
  · rw [dq_if_f c]; exact I
theorem dq_bp_V {w : dq_W} {n t l : Nat} (I : dq_IV n t l w) : dq_BV t (dq_bp w t) := by
  obtain ⟨r, hr⟩ := I.ac
  have ht := I.t24
  refine ⟨r, fun i hi => ?_⟩
  unfold dq_bp
  by_cases c : i < t ∧ dq_cr w i
  · rw [dq_if_t c]
    refine Or.inr ⟨c.1, ?_⟩
    have top : dq_bg w i = 24 → w 25 i = -1 := fun e => by
      have := c.2
      unfold dq_cr at this
      rw [dq_ou_top e] at this
      exact this
    rcases I.tp i hi with e | e | ⟨p, hp, e⟩ | ⟨b, hb, e⟩
    · exact Or.inl e
    · exact Or.inl (top (dq_bg_no e (by decide)))
    · refine Or.inl (top (dq_bg_no e ?_))
      have := nI_pos (show p < 2 ^ 31 by omega)
      rw [Int32.lt_iff_toInt_lt] at *
      rw [nI_toInt (by omega)]
      have : (-3 : Int32).toInt = -3 := rfl
      omega
    · have eb : dq_bg w i = b := dq_bg_yes (by omega) e
      have hcr : dq_cr w b := by
        have := c.2
        unfold dq_cr at this ⊢
        rw [dq_ou_bg I.tp ht I.ac hi (by omega), eb] at this
        exact this
      refine Or.inr ⟨b, hb, e, ?_, ?_⟩
      · rw [dq_if_t ⟨hb, hcr⟩]
        intro q
        unfold dq_cr at hcr
        rw [dq_ou_top (dq_bg_no q (by decide)), q] at hcr
        exact absurd hcr (by decide)
      · have := hr i hi (by omega)
        rw [eb] at this
        exact this
  · rw [dq_if_f c]; exact Or.inl rfl
section DMW
variable {n t l : Nat} {w : dq_W} {s u : dk_S} {K : Int32 → dk_S → Prop} {J : dk_S → Prop}
end DMW
