/-! beasts, and what goes on till it is the hero's turn -/
def dq_op (w : dq_W) (n c : Nat) : Prop := dq_free (dq_sg w c) ∧ dq_la w c n = 8
noncomputable def dq_fl (w : dq_W) (n a h : Nat) : Nat → Nat
  | 0 => h
  | v + 1 => dq_if (dq_op w n (dq_nb h v) ∧ dq_D (dq_tl w 1 0) a (dq_fl w n a h v) < dq_D (dq_tl w 1 0) a (dq_nb h v)) (dq_nb h v) (dq_fl w n a h v)
noncomputable def dq_nr (w : dq_W) (n a h : Nat) : Nat → Nat
  | 0 => h
  | v + 1 => dq_if ((dq_op w n (dq_nb h v) ∨ dq_sg w (dq_nb h v) = 43) ∧ 0 ≤ dq_D (dq_tl w 1 0) a (dq_nb h v) ∧ dq_D (dq_tl w 1 0) a (dq_nb h v) < dq_D (dq_tl w 1 0) a (dq_nr w n a h v)) (dq_nb h v) (dq_nr w n a h v)
noncomputable def ax_goto (b c : Nat) (w : dq_W) : dq_W := dq_if (dq_sg w c = 43) (dq_set w 2 c 47) (dq_set w 14 b (nI c))
noncomputable def ax_aimed (b : Nat) (w : dq_W) : dq_W := dq_if (dq_see w (dq_pl w b) (dq_pl w 0)) (dq_set w 22 b (nI (dq_pl w 0))) w
noncomputable def ax_turn (n b a : Nat) (w : dq_W) : dq_W :=
  dq_if (dq_wk w b) (dq_set w 14 b (nI (dq_fl w n a (dq_pl w b) 4)))
    (dq_if (dq_nbr (dq_pl w b) (dq_pl w 0)) (ax_noise (dq_pl w 0) 6 n (dq_set w 18 0 (w 18 0 - w 16 b))) (ax_goto b (dq_nr w n a (dq_pl w b) 4) w))
noncomputable def ax_lose (b a h : Nat) (w : dq_W) : dq_W := dq_if (dq_pl w b = a ∧ ¬ dq_see w (dq_pl w b) h) (dq_set w 22 b (-1)) w
noncomputable def ax_move (n b : Nat) (w : dq_W) : dq_W := dq_if (ax_aimed b w 22 b = -1) (ax_aimed b w) (ax_lose b (ax_aimed b w 22 b).toNatClampNeg (dq_pl w 0) (ax_turn n b (ax_aimed b w 22 b).toNatClampNeg (ax_aimed b w)))
noncomputable def ax_tick (n : Nat) (w : dq_W) : dq_W := dq_set (dq_set (dq_gain n w) 0 8 (if (0 : Int32) < w 0 8 - 1 then w 0 8 - 1 else 0)) 0 5 (w 0 5 + 1)
noncomputable def ax_step (n : Nat) (w : dq_W) : dq_W := dq_if (dq_nx w n = 8) (ax_tick n w) (ax_move n (dq_nx w n) (dq_set w 19 (dq_nx w n) (w 19 (dq_nx w n) - 12)))
def dq_wd (w : dq_W) (n : Nat) : Prop := ¬ dq_lv w 0 ∨ dq_nx w n = 0
noncomputable def ax_wait (n : Nat) : Nat → dq_W → dq_W
  | 0, w => w
  | k + 1, w => dq_if (dq_wd w n) w (ax_wait n k (ax_step n w))
section DQB
variable {p n t l : Nat} {s : dk_S} {w : dq_W} {K : Int32 → dk_S → Prop} {J : dk_S → Prop}
theorem dq_op_in {c : Nat} (hc : c ≤ 144) (h : dq_op w n c) : c < 144 := dq_free_in hc h.1
theorem kx_atM {q m : Nat} (k : K 0 s) : wf_X8_at p q m (-1) s K := by
  unfold wf_X8_at
  exact br_t (by decide) k
theorem kw_isOpenTo {c : Nat} (H : dq_WR w (s p)) (I : dq_IV n t l w) (hc : c ≤ 144) (k1 : dq_op w n c → K 1 s) (k0 : ¬ dq_op w n c → K 0 s) : wf_X7_isOpenTo p (dq_pI c) s K := by
  unfold wf_X7_isOpenTo
  refine kw_signAt H I.sg hc (kx_isFree (fun f => dq_1 (kw_livingAt H I hc ?_)) (fun f => dq_0 (k0 fun g => f g.1)))
  have := dq_la_9 I c
  by_cases e : dq_la w c n = 8
  · rw [e]
    exact ⟨fun g => absurd rfl g, fun _ => k1 ⟨f, e⟩⟩
  · rw [dq_n8_of (by omega)]
    exact ⟨fun _ => k0 fun g => e g.2, fun g => absurd g (dq_m1' (by omega))⟩
theorem dq_fl_in {a h : Nat} (hh : h < 144) : ∀ v, v ≤ 4 → dq_fl w n a h v < 144
  | 0, _ => hh
  | v + 1, hv => by
    have ih := dq_fl_in (a := a) hh v (by omega)
    show dq_if _ (dq_nb h v) (dq_fl w n a h v) < 144
    by_cases g : dq_op w n (dq_nb h v) ∧ dq_D (dq_tl w 1 0) a (dq_fl w n a h v) < dq_D (dq_tl w 1 0) a (dq_nb h v)
    · rw [dq_if_t g]; exact dq_op_in (dq_nb_le h hh v (by omega)) g.1
    · rw [dq_if_f g]; exact ih
theorem dq_nr_in {a h : Nat} (hh : h < 144) : ∀ v, v ≤ 4 → dq_nr w n a h v < 144
  | 0, _ => hh
  | v + 1, hv => by
    have ih := dq_nr_in (a := a) hh v (by omega)
    show dq_if _ (dq_nb h v) (dq_nr w n a h v) < 144
    by_cases g : (dq_op w n (dq_nb h v) ∨ dq_sg w (dq_nb h v) = 43) ∧ 0 ≤ dq_D (dq_tl w 1 0) a (dq_nb h v) ∧ dq_D (dq_tl w 1 0) a (dq_nb h v) < dq_D (dq_tl w 1 0) a (dq_nr w n a h v)
    · rw [dq_if_t g]
      have hn := dq_nb_le h hh v (by omega)
      rcases g.1 with g | g
      · exact dq_op_in hn g
      · rcases Nat.lt_or_ge (dq_nb h v) 144 with q | q
        · exact q
        · rw [show dq_nb h v = 144 by omega, dq_sg_out] at g
          exact absurd g (by decide)
    · rw [dq_if_f g]; exact ih
theorem kw_flee {b a : Nat} (H : dq_WR w (s p)) (I : dq_IV n t l w) (hb : b < 8) (h6 : ∀ c, c < 144 → s p 6 c = dq_iI (dq_D (dq_tl w 1 0) a c) ∧ dq_D (dq_tl w 1 0) a c ≤ 1300)
    (k : ∀ u, dq_WR (dq_set w 14 b (nI (dq_fl w n a (dq_pl w b) 4))) (u p) → dq_fr p s u → J u) : wf_X7_flee p (nI b) s J := by
  unfold wf_X7_flee
  have hp := I.pl b hb
  refine kw_at8 H hb (by omega) ?_
  rw [hp.2]
  refine dq_lp (fun m i x => wf_X7_flee_17 p J (fun (w3 : Int32) (w4 : Int32) (s5 : dk_S) => wf_X8_put p 14 8 w3 w4 s5 (fun s6 => J s6)) m (nI b) (nI (dq_pl w b)) (nI x) (nI i) s) (dq_fl w n a (dq_pl w b)) 4 (fun m => ?_) (fun m i hi h => ?_) (Nat.zero_le 4)
  · show wf_X7_flee_17 p J _ (m + 1) (nI b) (nI (dq_pl w b)) (nI (dq_fl w n a (dq_pl w b) 4)) (nI 4) s
    unfold wf_X7_flee_17
    exact br_t (nI_le (Nat.le_refl _) (by decide)) (kw_put8 H hb (by omega) k)
  · show wf_X7_flee_17 p J _ (m + 1) (nI b) (nI (dq_pl w b)) (nI (dq_fl w n a (dq_pl w b) i)) (nI i) s
    unfold wf_X7_flee_17
    have hn := dq_nb_le _ hp.1 i hi
    have hin := dq_fl_in (w := w) (n := n) (a := a) hp.1 i (by omega)
    have h : wf_X7_flee_17 p J _ m (nI b) (nI (dq_pl w b)) (nI (dq_fl w n a (dq_pl w b) (i + 1))) (nI (i + 1)) s := h
    refine br_f (nI_ge (b := 4) hi (by decide)) (dq_beside hp.1 hi (kw_isOpenTo H I hn (fun ho => dq_1 ?_) (fun ho => dq_0 ?_)))
    · have hn2 := dq_op_in hn ho
      rw [dq_pI_in hn2]
      refine kx_at hn2 (by decide) (kx_at hin (by decide) ?_)
      have b1 := h6 _ hn2
      have b2 := h6 _ hin
      rw [b1.1, b2.1]
      have g1 := dq_D_ge (tl := dq_tl w 1 0) (a := a) (c := dq_nb (dq_pl w b) i)
      have g2 := dq_D_ge (tl := dq_tl w 1 0) (a := a) (c := dq_fl w n a (dq_pl w b) i)
      have hc := dq_ile (a := dq_D (dq_tl w 1 0) a (dq_nb (dq_pl w b) i)) (b := dq_D (dq_tl w 1 0) a (dq_fl w n a (dq_pl w b) i)) (by omega) (by omega) (by omega) (by omega)
      refine br_c (fun c1 => nm_r (nI_1 i) ?_) (fun c1 => nm_r (nI_1 i) ?_)
      · have e : dq_fl w n a (dq_pl w b) (i + 1) = dq_fl w n a (dq_pl w b) i := dq_if_f (fun g => by have := hc.1 c1; omega)
        rw [e] at h; exact h
      · have e : dq_fl w n a (dq_pl w b) (i + 1) = dq_nb (dq_pl w b) i := dq_if_t ⟨ho, Int.not_le.mp fun q => c1 (hc.2 q)⟩
        rw [e] at h; exact h
    · have e : dq_fl w n a (dq_pl w b) (i + 1) = dq_fl w n a (dq_pl w b) i := dq_if_f (fun g => ho g.1)
      rw [e] at h
      exact nm_r (nI_1 i) h
theorem kw_goto {b c : Nat} (H : dq_WR w (s p)) (I : dq_IV n t l w) (hb : b < 8) (hc : c < 144) (k : ∀ u, dq_WR (ax_goto b c w) (u p) → dq_fr p s u → J u) : wf_X1_signAt p (nI c) s (fun r7 s6 => ((¬ r7 = 43 → wf_X8_put p 14 8 (nI b) (nI c) s6 (fun s8 => J s8)) ∧ (r7 = 43 → wf_X1_change p (nI c) 47 s6 (fun s9 => J s9)))) := by
  unfold ax_goto at k
  have e := dq_pI_in hc
  rw [← e]
  refine kw_signAt H I.sg (by omega) ⟨fun g => ?_, fun g => ?_⟩
  · rw [dq_if_f g] at k
    rw [e]
    exact kw_put8 H hb (by omega) k
  · rw [dq_if_t g] at k
    exact kw_change H hc dq_sgn47 k
theorem kw_near_loop {b a : Nat} {E : Int32 → Int32 → dk_S → Prop} (H : dq_WR w (s p)) (I : dq_IV n t l w) (hb : b < 8) (h6 : ∀ c, c < 144 → s p 6 c = dq_iI (dq_D (dq_tl w 1 0) a c) ∧ dq_D (dq_tl w 1 0) a c ≤ 1300)
    (hE : E (nI b) (nI (dq_nr w n a (dq_pl w b) 4)) s) : ∃ nn : Nat, wf_X7_comeNearer_17 p J E nn (nI b) (nI (dq_pl w b)) (nI (dq_pl w b)) 0 s := by
  have hp := I.pl b hb
  refine dq_lp (fun m i x => wf_X7_comeNearer_17 p J E m (nI b) (nI (dq_pl w b)) (nI x) (nI i) s) (dq_nr w n a (dq_pl w b)) 4 (fun m => ?_) (fun m i hi h => ?_) (Nat.zero_le 4)
  · show wf_X7_comeNearer_17 p J E (m + 1) (nI b) (nI (dq_pl w b)) (nI (dq_nr w n a (dq_pl w b) 4)) (nI 4) s
    unfold wf_X7_comeNearer_17
    exact br_t (nI_le (Nat.le_refl _) (by decide)) hE
  · show wf_X7_comeNearer_17 p J E (m + 1) (nI b) (nI (dq_pl w b)) (nI (dq_nr w n a (dq_pl w b) i)) (nI i) s
    unfold wf_X7_comeNearer_17
    have hn := dq_nb_le _ hp.1 i hi
    have hin := dq_nr_in (w := w) (n := n) (a := a) hp.1 i (by omega)
    have h : wf_X7_comeNearer_17 p J E m (nI b) (nI (dq_pl w b)) (nI (dq_nr w n a (dq_pl w b) (i + 1))) (nI (i + 1)) s := h
    have skip : ¬ ((dq_op w n (dq_nb (dq_pl w b) i) ∨ dq_sg w (dq_nb (dq_pl w b) i) = 43) ∧ 0 ≤ dq_D (dq_tl w 1 0) a (dq_nb (dq_pl w b) i) ∧ dq_D (dq_tl w 1 0) a (dq_nb (dq_pl w b) i) < dq_D (dq_tl w 1 0) a (dq_nr w n a (dq_pl w b) i)) → wf_X7_comeNearer_17 p J E m (nI b) (nI (dq_pl w b)) (nI (dq_nr w n a (dq_pl w b) i)) (nI (i + 1)) s := by
      intro hno
      have e : dq_nr w n a (dq_pl w b) (i + 1) = dq_nr w n a (dq_pl w b) i := dq_if_f hno
      rw [e] at h; exact h
    have yes : (dq_op w n (dq_nb (dq_pl w b) i) ∨ dq_sg w (dq_nb (dq_pl w b) i) = 43) → wf_X7_comeNearer_59 p J (wf_X7_comeNearer_17 p J E m) E (nI b) (nI (dq_pl w b)) (nI (dq_nr w n a (dq_pl w b) i)) (nI i) (dq_pI (dq_nb (dq_pl w b) i)) 1 s := by
      intro hy
      have hn2 : dq_nb (dq_pl w b) i < 144 := by
        rcases hy with g | g
        · exact dq_op_in hn g
        · rcases Nat.lt_or_ge (dq_nb (dq_pl w b) i) 144 with q | q
          · exact q
          · rw [show dq_nb (dq_pl w b) i = 144 by omega, dq_sg_out] at g
            exact absurd g (by decide)
      unfold wf_X7_comeNearer_59
      rw [dq_pI_in hn2]
      have b1 := h6 _ hn2
      have b2 := h6 _ hin
      have g1 := dq_D_ge (tl := dq_tl w 1 0) (a := a) (c := dq_nb (dq_pl w b) i)
      have g2 := dq_D_ge (tl := dq_tl w 1 0) (a := a) (c := dq_nr w n a (dq_pl w b) i)
      have hc := dq_ile (a := dq_D (dq_tl w 1 0) a (dq_nr w n a (dq_pl w b) i)) (b := dq_D (dq_tl w 1 0) a (dq_nb (dq_pl w b) i)) (by omega) (by omega) (by omega) (by omega)
      refine kx_at hn2 (by decide) (dq_1 ?_)
      rw [b1.1]
      have hc0 := dq_ilt (a := dq_D (dq_tl w 1 0) a (dq_nb (dq_pl w b) i)) (b := 0) (by omega) (by omega) (by omega) (by omega)
      refine br_c (fun c1 => ?_) (fun c1 => kx_at hin (by decide) ?_)
      · unfold wf_X7_comeNearer_104
        exact nm_r (nI_1 i) (skip fun g => by have := hc0.1 c1; omega)
      · rw [b2.1]
        refine br_c (fun c2 => ?_) (fun c2 => ?_)
        · unfold wf_X7_comeNearer_104
          exact nm_r (nI_1 i) (skip fun g => by have := hc.1 c2; omega)
        · unfold wf_X7_comeNearer_104
          have e : dq_nr w n a (dq_pl w b) (i + 1) = dq_nb (dq_pl w b) i := dq_if_t ⟨hy, Int.not_lt.mp fun q => c1 (hc0.2 q), Int.not_le.mp fun q => c2 (hc.2 q)⟩
          rw [e] at h
          exact nm_r (nI_1 i) h
    refine br_f (nI_ge (b := 4) hi (by decide)) (dq_beside hp.1 hi (kw_isOpenTo H I hn (fun ho => dq_1' (yes (Or.inl ho))) (fun ho => dq_0' (kw_signAt H I.sg hn ⟨fun g => ?_, fun g => yes (Or.inr g)⟩))))
    have hno : ¬ ((dq_op w n (dq_nb (dq_pl w b) i) ∨ dq_sg w (dq_nb (dq_pl w b) i) = 43) ∧ 0 ≤ dq_D (dq_tl w 1 0) a (dq_nb (dq_pl w b) i) ∧ dq_D (dq_tl w 1 0) a (dq_nb (dq_pl w b) i) < dq_D (dq_tl w 1 0) a (dq_nr w n a (dq_pl w b) i)) := by
      rintro ⟨q | q, _⟩
      · exact ho q
      · exact g q
    unfold wf_X7_comeNearer_59
    by_cases hn2 : dq_nb (dq_pl w b) i < 144
    · rw [dq_pI_in hn2]
      refine kx_at hn2 (by decide) (dq_0 ?_)
      unfold wf_X7_comeNearer_104
      exact nm_r (nI_1 i) (skip hno)
    · have e : dq_pI (dq_nb (dq_pl w b) i) = -1 := if_neg hn2
      rw [e]
      refine kx_atM (dq_0 ?_)
      unfold wf_X7_comeNearer_104
      exact nm_r (nI_1 i) (skip hno)
theorem kw_comeNearer {b a : Nat} (H : dq_WR w (s p)) (I : dq_IV n t l w) (hb : b < 8) (h6 : ∀ c, c < 144 → s p 6 c = dq_iI (dq_D (dq_tl w 1 0) a c) ∧ dq_D (dq_tl w 1 0) a c ≤ 1300)
    (k : ∀ u, dq_WR (ax_goto b (dq_nr w n a (dq_pl w b) 4) w) (u p) → dq_fr p s u → J u) : wf_X7_comeNearer p (nI b) s J := by
  unfold wf_X7_comeNearer
  have hp := I.pl b hb
  refine kw_at8 H hb (by omega) ?_
  rw [hp.2]
  exact kw_near_loop H I hb h6 (kw_goto H I hb (dq_nr_in hp.1 4 (by omega)) k)
theorem ax_aimed_I {b : Nat} (I : dq_IV n t l w) : dq_IV n t l (ax_aimed b w) := by
  have := I.h8
  unfold ax_aimed
  by_cases g : dq_see w (dq_pl w b) (dq_pl w 0)
  · rw [dq_if_t g]; exact I.s22 (Or.inr ⟨_, (I.pl 0 (by omega)).1, rfl⟩)
  · rw [dq_if_f g]; exact I
theorem ax_goto_I {b c : Nat} (I : dq_IV n t l w) (hc : c < 144) : dq_IV n t l (ax_goto b c w) := by
  unfold ax_goto
  by_cases g : dq_sg w c = 43
  · rw [dq_if_t g]; exact I.s2 dq_sgn47
  · rw [dq_if_f g]; exact I.s14 hc
theorem ax_turn_I {b a : Nat} (I : dq_IV n t l w) (hb : b < 8) : dq_IV n t l (ax_turn n b a w) := by
  have hp := (I.pl b hb).1
  unfold ax_turn
  by_cases g : dq_wk w b
  · rw [dq_if_t g]; exact I.s14 (dq_fl_in hp 4 (by omega))
  · rw [dq_if_f g]
    by_cases g2 : dq_nbr (dq_pl w b) (dq_pl w 0)
    · rw [dq_if_t g2]; exact ax_noise_I (I.pl 0 (by omega)).1 (I.st (by decide))
    · rw [dq_if_f g2]; exact ax_goto_I I (dq_nr_in hp 4 (by omega))
theorem ax_lose_I {b a h : Nat} (I : dq_IV n t l w) : dq_IV n t l (ax_lose b a h w) := by
  unfold ax_lose
  by_cases g : dq_pl w b = a ∧ ¬ dq_see w (dq_pl w b) h
  · rw [dq_if_t g]; exact I.s22 (Or.inl rfl)
  · rw [dq_if_f g]; exact I
theorem ax_move_I {b : Nat} (I : dq_IV n t l w) (hb : b < 8) : dq_IV n t l (ax_move n b w) := by
  unfold ax_move
  by_cases g : ax_aimed b w 22 b = -1
  · rw [dq_if_t g]; exact ax_aimed_I I
  · rw [dq_if_f g]; exact ax_lose_I (ax_turn_I (ax_aimed_I I) hb)
theorem ax_tick_I (I : dq_IV n t l w) : dq_IV n t l (ax_tick n w) := by
  have : dq_IV n t l (dq_gain n w) := I.cg fun q hq => funext fun k => dq_gain_o (by omega)
  exact (this.st (by decide)).st (by decide)
theorem ax_step_I (I : dq_IV n t l w) : dq_IV n t l (ax_step n w) := by
  unfold ax_step
  by_cases g : dq_nx w n = 8
  · rw [dq_if_t g]; exact ax_tick_I I
  · rw [dq_if_f g]
    have h8 := I.h8
    have := dq_nx_le (f := w) n I.h8
    exact ax_move_I (I.st (by decide)) (by omega)
theorem ax_wait_I : ∀ (k : Nat) (w : dq_W), dq_IV n t l w → dq_IV n t l (ax_wait n k w)
  | 0, _, I => I
  | k + 1, w, I => by
    show dq_IV n t l (dq_if _ _ _)
    by_cases g : dq_wd w n
    · rw [dq_if_t g]; exact I
    · rw [dq_if_f g]; exact ax_wait_I k _ (ax_step_I I)
theorem kw_moveBeast_132 {b a h : Nat} (H : dq_WR w (s p)) (I : dq_IV n t l w) (hb : b < 8) (ha : a < 144) (hh : h < 144) (k : ∀ u, dq_WR (ax_lose b a h w) (u p) → dq_fr p s u → J u) : wf_X7_moveBeast_132 p J (nI b) (nI h) (nI a) s := by
  unfold wf_X7_moveBeast_132
  unfold ax_lose at k
  have hp := I.pl b hb
  refine kw_at8 H hb (by omega) ?_
  rw [hp.2]
  refine ⟨fun c1 => ?_, fun c1 => kw_see H I.sg hp.1 hh (fun c2 => dq_1' ?_) (fun c2 => dq_0' ?_)⟩
  · rw [dq_if_f (fun g => c1 (congrArg nI g.1))] at k
    exact k s H dq_fr.rf
  · rw [dq_if_f (fun g => g.2 c2)] at k
    exact k s H dq_fr.rf
  · rw [dq_if_t ⟨(nI_eq (by omega) (by omega)).1 c1, c2⟩] at k
    exact kw_put8 H hb (by omega) k
theorem kw_moveBeast {b : Nat} (H : dq_WR w (s p)) (I : dq_IV n t l w) (hb : b < 8) (k : ∀ u, dq_WR (ax_move n b w) (u p) → dq_fr p s u → J u) : wf_X7_moveBeast p (nI b) s J := by
  unfold wf_X7_moveBeast
  have hp := I.pl b hb
  have hp0 := I.pl 0 (by omega)
  refine kw_heroSpot H I.pl (kw_at8 H hb (by omega) ?_)
  rw [hp.2]
  have rest : ∀ u, dq_WR (ax_aimed b w) (u p) → dq_fr p s u → wf_X7_moveBeast_41 p J (nI b) (nI (dq_pl w 0)) (nI (dq_pl w b)) u := by
    intro u h1 h2
    have I1 : dq_IV n t l (ax_aimed b w) := ax_aimed_I I
    have epl : ∀ j, dq_pl (ax_aimed b w) j = dq_pl w j := fun j => by
      unfold dq_pl ax_aimed
      by_cases g : dq_see w (dq_pl w b) (dq_pl w 0)
      · rw [dq_if_t g, dq_set_q (by decide)]
      · rw [dq_if_f g]
    unfold ax_move at k
    generalize hw1 : ax_aimed b w = w1 at *
    unfold wf_X7_moveBeast_41
    refine kw_at8 h1 hb (by omega) ?_
    rcases I1.am b hb with e | ⟨a, ha, e⟩
    · rw [dq_if_t e] at k
      rw [e]
      exact ⟨fun g => absurd rfl g, fun _ => k u h1 h2⟩
    · have ene : ¬ w1 22 b = -1 := by rw [e]; exact dq_m1' (by omega)
      rw [dq_if_f ene] at k
      rw [e] at k ⊢
      rw [nI_clamp (by omega)] at k
      refine ⟨fun _ => kx_aimAt h1 I1.sg ha (fun u2 h3 h6 h4 => ?_), fun g => absurd g (dq_m1' (by omega))⟩
      have fin : ∀ w2, ax_turn n b a w1 = w2 → ∀ u3, dq_WR w2 (u3 p) → dq_fr p u2 u3 → wf_X7_moveBeast_132 p J (nI b) (nI (dq_pl w 0)) (nI a) u3 := by
        intro w2 hw2 u3 h5 h7
        rw [hw2] at k
        exact kw_moveBeast_132 h5 (by rw [← hw2]; exact ax_turn_I I1 hb) hb ha hp0.1 (fun u4 h8 h9 => k u4 h8 (((h2.tr h4).tr h7).tr h9))
      unfold ax_turn at fin
      rw [epl, epl] at fin
      refine kw_isWeak h3 hb (fun c1 => dq_1 ?_) (fun c1 => dq_0 (kx_areNeighbours hp.1 hp0.1 (fun c2 => dq_1 ?_) (fun c2 => dq_0 ?_)))
      · refine kw_flee h3 I1 hb h6 (fun u3 h5 h7 => fin _ ?_ u3 h5 h7)
        rw [dq_if_t c1, epl]
      · refine kw_at8 h3 hb (by omega) (kw_harm (b := 0) h3 (by omega) (fun u3 h5 h7 => kw_makeNoise (m := 6) h5 (I1.st (by decide)) hp0.1 (by decide) (fun u4 h8 h9 => fin _ ?_ u4 h8 (h7.tr h9))))
        rw [dq_if_f c1, dq_if_t c2]
      · refine kw_comeNearer h3 I1 hb h6 (fun u3 h5 h7 => fin _ ?_ u3 h5 h7)
        rw [dq_if_f c1, dq_if_f c2, epl]
  unfold ax_aimed at rest
  refine kw_see H I.sg hp.1 hp0.1 (fun c1 => ?_) (fun c1 => ?_)
  · rw [dq_if_t c1] at rest
    exact dq_1 (kw_put8 H hb (by omega) (fun u h1 h2 => rest u h1 h2))
  · rw [dq_if_f c1] at rest
    exact dq_0 (rest s H dq_fr.rf)
/-- the world comes to rest within k steps -/
def dq_rests (n : Nat) : Nat → dq_W → Prop
  | 0, w => dq_wd w n
  | k + 1, w => dq_wd w n ∨ dq_rests n k (ax_step n w)
theorem kw_wait_2 : ∀ (k r : Nat) (w : dq_W) (s : dk_S), r + k < 1000000 → dq_WR w (s p) → dq_IV n t l w → dq_rests n k w → (∀ u, dq_WR (ax_wait n k w) (u p) → dq_fr p s u → J u) → wf_X7_waitForHero_2 p J (k + 1) (nI r) s := by
  have done : ∀ (m r : Nat) (w : dq_W) (s : dk_S), r < 1000000 → dq_WR w (s p) → dq_IV n t l w → dq_wd w n → J s → wf_X7_waitForHero_2 p J (m + 1) (nI r) s := by
    intro m r w s hr H I hd hJ
    unfold wf_X7_waitForHero_2
    refine br_f (nI_ge (b := 1000000) hr (by decide)) (kw_lives (b := 0) H (by omega) (fun c1 => dq_1 (kw_nextToAct H I ?_)) (fun c1 => dq_0 hJ))
    rcases hd with g | g
    · exact absurd c1 g
    · rw [g]
      exact ⟨fun q => absurd rfl q, fun _ => hJ⟩
  intro k
  induction k with
  | zero => intro r w s hr H I hd hJ; exact done 0 r w s (by omega) H I hd (hJ s H dq_fr.rf)
  | succ k ih =>
    intro r w s hr H I hd hJ
    by_cases g : dq_wd w n
    · refine done (k + 1) r w s (by omega) H I g (hJ s ?_ dq_fr.rf)
      show dq_WR (dq_if (dq_wd w n) w (ax_wait n k (ax_step n w))) (s p)
      rw [dq_if_t g]; exact H
    · have hJ : ∀ u, dq_WR (dq_if (dq_wd w n) w (ax_wait n k (ax_step n w))) (u p) → dq_fr p s u → J u := hJ
      rw [dq_if_f g] at hJ
      have hd2 : dq_rests n k (ax_step n w) := by
        rcases hd with q | q
        · exact absurd q g
        · exact q
      have hl : dq_lv w 0 := Classical.byContradiction fun q => g (Or.inl q)
      have hn0 : dq_nx w n ≠ 0 := fun q => g (Or.inr q)
      have hx := dq_nx_le (f := w) n I.h8
      have h8 := I.h8
      have Is := ax_step_I I
      unfold wf_X7_waitForHero_2
      refine br_f (nI_ge (b := 1000000) (by omega) (by decide)) (kw_lives (b := 0) H (by omega) (fun c1 => dq_1 (kw_nextToAct H I ?_)) (fun c1 => absurd hl c1))
      unfold ax_step at ih hJ hd2 Is
      by_cases e : dq_nx w n = 8
      · rw [dq_if_t e] at hJ hd2 Is
        rw [e]
        refine ⟨fun _ => ⟨fun q => absurd rfl q, fun _ => kw_gainEnergy H I (fun u h1 h2 => kw_fld h1 (fun u2 h3 h4 => kw_fld h3 (fun u3 h5 h6 => nm_r (nI_1 r) (ih (r + 1) _ u3 (by omega) ?_ Is hd2 (fun u4 h7 h9 => hJ u4 h7 (((h2.tr h4).tr h6).tr h9))))))⟩, fun q => absurd q (by decide)⟩
        rw [h1.f0 (by omega) (by omega), dq_gain_o (by omega)] at h5
        have e5 : u2 p 0 5 = w 0 5 := by rw [h3.f0 (by omega) (by omega), dq_set_ne (by omega), dq_gain_o (by omega)]
        rw [e5] at h5
        exact h5
      · rw [dq_if_f e] at hJ hd2 Is
        rw [dq_n8_of (by omega)]
        refine ⟨fun _ => ⟨fun _ => kw_spendTurn H (by omega) (fun u h1 h2 => kw_moveBeast h1 (I.st (by decide)) (by omega) (fun u2 h3 h4 => nm_r (nI_1 r) (ih (r + 1) _ u2 (by omega) h3 Is hd2 (fun u4 h7 h9 => hJ u4 h7 ((h2.tr h4).tr h9))))), fun q => absurd q (dq_m1' (by omega))⟩, fun q => absurd ((nI_eq (b := 0) (by omega) (by omega)).1 q) hn0⟩
theorem kw_waitForHero {k : Nat} (hk : k < 1000000) (H : dq_WR w (s p)) (I : dq_IV n t l w) (hr : dq_rests n k w) (hJ : ∀ u, dq_WR (ax_wait n k w) (u p) → dq_fr p s u → J u) : wf_X7_waitForHero p s J := by
  unfold wf_X7_waitForHero
  exact ⟨k + 1, kw_wait_2 k 0 w s (by omega) H I hr hJ⟩
end DQB
