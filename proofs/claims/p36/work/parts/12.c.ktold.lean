/-! the keep: what is told, and how a world is made -/
section DQT
variable {p n t l : Nat} {w : dq_W} {s u : dk_S} {K : Int32 → dk_S → Prop} {J : dk_S → Prop}
theorem kw_tell {b : Nat} {c v st h : Int32} (H : dq_WR w (s p)) (hb : b < 8) (k : ∀ u, dq_WR (ax_tell b c v st h w) (u p) → dq_fr p s u → J u) : wf_X2_tell p (nI b) c v st h s J := by
  unfold wf_X2_tell
  refine kw_put8 H hb (by decide) fun u1 H1 f1 => kw_put8 H1 hb (by decide) fun u2 H2 f2 => kw_put8 H2 hb (by decide) fun u3 H3 f3 => kw_put8 H3 hb (by decide) fun u4 H4 f4 => kw_put8 H4 hb (by decide) fun u5 H5 f5 => k u5 H5 ((((f1.tr f2).tr f3).tr f4).tr f5)
theorem kw_tellKind {d : Nat} {y z : Int32} (H : dq_WR w (s p)) (hd : d < 8) (hz : z = 0 ∨ z = 1) (k : ∀ u, dq_WR (ax_kind d y z w) (u p) → dq_fr p s u → J u) : wf_X3_tell p (nI d) y z s J := by
  unfold wf_X3_tell
  refine kw_put8 H hd (by decide) fun u1 H1 f1 => ?_
  rcases hz with rfl | rfl
  · exact ⟨fun _ => kw_put8 H1 hd (by decide) fun u2 H2 f2 => k u2 H2 (f1.tr f2), fun g => absurd rfl g⟩
  · exact ⟨fun g => absurd g (by decide), fun _ => kw_put8 H1 hd (by decide) fun u2 H2 f2 => k u2 H2 (f1.tr f2)⟩
theorem kw_tellEffect {d : Nat} {y z v : Int32} (H : dq_WR w (s p)) (hd : d < 8) (k : ∀ u, dq_WR (ax_effect d y z v w) (u p) → dq_fr p s u → J u) : wf_X3_tellEffect p (nI d) y z v s J := by
  unfold wf_X3_tellEffect
  exact kw_put8 H hd (by decide) fun u1 H1 f1 => kw_put8 H1 hd (by decide) fun u2 H2 f2 => kw_put8 H2 hd (by decide) fun u3 H3 f3 => k u3 H3 ((f1.tr f2).tr f3)
theorem kw_fldQ {q k : Nat} {v : Int32} (H : dq_WR w (s p)) (hq : q ≠ 1 ∧ q ≠ 2 ∧ q ≠ 6) (k1 : ∀ u, dq_WR (dq_set w q k v) (u p) → dq_fr p s u → J u) : ∀ u, u = dk_row s p q (upd (s p q) k v) → J u :=
  nm_e (k1 _ (by rw [dq_set_row]; exact H.set hq) dq_row_fr)
theorem kw_addThing {d v : Int32} (H : dq_WR w (s p)) (ht : w 23 2 = nI t) (t24 : t < 24) (k : ∀ u, dq_WR (ax_thing t d v w) (u p) → dq_fr p s u → K (nI t) u) : wf_X6_add p d v s K := by
  unfold wf_X6_add
  have e : s p 23 2 = nI t := (H.1 23 2 (by decide) (by decide)).trans ht
  refine nm_r e (kw_put H t24 (by decide) (by decide) fun u1 H1 f1 => kw_put H1 t24 (by decide) (by decide) fun u2 H2 f2 => kw_fldQ H2 (by decide) fun u3 H3 f3 => k u3 H3 ((f1.tr f2).tr f3))
theorem kw_addLamp {v r : Int32} (H : dq_WR w (s p)) (hl : w 26 2 = nI l) (l4 : l < 4) (k : ∀ u, dq_WR (ax_lamp l v r w) (u p) → dq_fr p s u → K (nI l + 1) u) : wf_X4_add p v r s K := by
  unfold wf_X4_add
  rw [(H.1 26 2 (by decide) (by decide)).trans hl]
  refine kw_put H l4 (by decide) (by decide) fun u1 H1 f1 => ?_
  have e1 : u1 p 26 2 = nI l := (H1.1 26 2 (by decide) (by decide)).trans ((dq_set_q (by decide)).trans hl)
  rw [e1]
  refine kw_put H1 l4 (by decide) (by decide) fun u2 H2 f2 => ?_
  have e2 : u2 p 26 2 = nI l := (H2.1 26 2 (by decide) (by decide)).trans ((dq_set_q (by decide)).trans ((dq_set_q (by decide)).trans hl))
  rw [e2]
  refine kw_fldQ H2 (by decide) fun u3 H3 f3 => ?_
  have e3 : u3 p 26 2 = nI l + 1 := (H3.1 26 2 (by decide) (by decide)).trans dq_set_eq
  rw [e3]
  exact k u3 H3 ((f1.tr f2).tr f3)
theorem dq_la_le {c j : Nat} (hj : j < 8) (h1 : dq_lv w j) (h2 : dq_pl w j = c) : ∀ i, i ≤ 8 → j < i → dq_la w c i ≤ j
  | 0, _, h => absurd h (Nat.not_lt_zero _)
  | i + 1, h8, h => by
    have e0 : dq_la w c (i + 1) = dq_if (dq_la w c i = 8) (dq_if (dq_lv w i ∧ dq_pl w i = c) i 8) (dq_la w c i) := rfl
    rw [e0]
    by_cases e : j = i
    · subst e
      by_cases g : dq_la w c j = 8
      · rw [dq_if_t g, dq_if_t ⟨h1, h2⟩]; exact Nat.le_refl _
      · rw [dq_if_f g]
        rcases dq_la_s (f := w) (c := c) j (by omega) with q | q
        · exact absurd q g
        · omega
    · have ih := dq_la_le hj h1 h2 i (by omega) (by omega)
      rw [dq_if_f (by omega)]; exact ih
def dq_AP (w : dq_W) (i : Nat) : Prop := ∀ k, k < i → ∀ j, j < k → dq_pl w j ≠ dq_pl w k
def dq_FR (w : dq_W) (i : Nat) : Prop := ∀ k, k < i → dq_free (w 2 (dq_pl w k))
theorem dq_fw_iff {i : Nat} : dq_fw w i ↔ dq_AP w i ∧ dq_FR w i := ⟨fun h => ⟨fun k hk => (h k hk).2, fun k hk => (h k hk).1⟩, fun h k hk => ⟨h.2 k hk, h.1 k hk⟩⟩
theorem kw_allStandApart (H : dq_WR w (s p)) (I : dq_IV n t l w) (hl : ∀ i, i < n → dq_lv w i) (k1 : dq_AP w n → K 1 s) (k0 : ¬ dq_AP w n → K 0 s) : wf_X2_allStandApart p s K := by
  unfold wf_X2_allStandApart
  have h8 := I.h8
  refine loop_0 (fun m i u => wf_X2_allStandApart_2 p K m (nI i) u) (fun i u => u = s ∧ dq_AP w i) n s ⟨rfl, fun k hk => absurd hk (Nat.not_lt_zero _)⟩ ?_ ?_
  · rintro m u ⟨rfl, h⟩
    show wf_X2_allStandApart_2 p K (m + 1) (nI n) u
    unfold wf_X2_allStandApart_2
    rw [(H.1 13 9 (by decide) (by decide)).trans I.hn]
    exact br_t (nI_le (Nat.le_refl _) (by omega)) (k1 h)
  · rintro m i u hi ⟨rfl, h⟩ next
    show wf_X2_allStandApart_2 p K (m + 1) (nI i) u
    unfold wf_X2_allStandApart_2
    rw [(H.1 13 9 (by decide) (by decide)).trans I.hn]
    refine br_f (nI_ge hi (by omega)) (kw_at8 H (by omega) (by decide) ?_)
    have hp := I.pl i (by omega)
    rw [hp.2, ← dq_pI_in hp.1]
    refine kw_livingAt H I (by omega) ?_
    have hla := dq_la_le (w := w) (j := i) (c := dq_pl w i) (by omega) (hl i hi) rfl n h8 hi
    rw [dq_n8_of (by omega)]
    refine ⟨fun q => nm_r (nI_1 i) (next u ⟨rfl, ?_⟩), fun q => k0 fun g => q ?_⟩
    · have q := (nI_eq (by omega) (by omega)).1 q
      intro k hk j hj
      by_cases e : k = i
      · subst e
        intro ep
        have := dq_la_le (w := w) (j := j) (c := dq_pl w k) (by omega) (hl j (by omega)) ep n h8 (by omega)
        omega
      · exact h k (by omega) j hj
    · rw [dq_la_y (by omega) (hl i hi) rfl (fun j hj _ => g i hi j hj) n hi]
theorem kw_allStandFree (H : dq_WR w (s p)) (I : dq_IV n t l w) (k1 : dq_FR w n → K 1 s) (k0 : ¬ dq_FR w n → K 0 s) : wf_X7_allStandFree p s K := by
  unfold wf_X7_allStandFree
  have h8 := I.h8
  refine loop_0 (fun m i u => wf_X7_allStandFree_2 p K m (nI i) u) (fun i u => u = s ∧ dq_FR w i) n s ⟨rfl, fun k hk => absurd hk (Nat.not_lt_zero _)⟩ ?_ ?_
  · rintro m u ⟨rfl, h⟩
    show wf_X7_allStandFree_2 p K (m + 1) (nI n) u
    unfold wf_X7_allStandFree_2
    rw [(H.1 13 9 (by decide) (by decide)).trans I.hn]
    exact br_t (nI_le (Nat.le_refl _) (by omega)) (k1 h)
  · rintro m i u hi ⟨rfl, h⟩ next
    show wf_X7_allStandFree_2 p K (m + 1) (nI i) u
    unfold wf_X7_allStandFree_2
    rw [(H.1 13 9 (by decide) (by decide)).trans I.hn]
    refine br_f (nI_ge hi (by omega)) (kw_at8 H (by omega) (by decide) ?_)
    have hp := I.pl i (by omega)
    rw [hp.2, ← dq_pI_in hp.1]
    have es : dq_sg w (dq_pl w i) = w 2 (dq_pl w i) := dq_sg_in hp.1
    refine kw_isFreeAt H I.sg (by omega) (fun q => dq_1' (nm_r (nI_1 i) (next u ⟨rfl, fun k hk => ?_⟩))) (fun q => dq_0' (k0 fun g => q ?_))
    · by_cases e : k = i
      · rw [e, ← es]; exact q
      · exact h k (by omega)
    · rw [es]; exact g i hi
theorem kx_make {T : dq_W} {B : Nat → Int32} {sp x o : Int32} (hp : p ≠ 0 ∧ p ≠ 1) (H : dq_WR T (s 1)) (I : dq_IV n t l T) (Z : mr_Z T) (hsp : s 0 45 1 = sp) (hsp2 : dq_SP sp) (hB : sp = -1 ∨ ∀ i, i < 24 → s 0 46 i = B i) (hx : x - x / 6 * 6 = o)
    (k : ∀ u, dq_WR (ax_bones B sp (dq_set T 0 6 o)) (u p) → dq_fr p s u → J u) : wf_X8_make p x s J := by
  unfold wf_X8_make
  refine kx_copyW (Ne.symm hp.2) (dq_SG_e H.1 I.sg) fun u1 f1 c1 c15 c05 c07 c08 c09 => nm_r rfl ?_
  rw [hx]
  have H1 : dq_WR (dq_set T 0 6 o) (dk_row u1 p 0 (upd (u1 p 0) 6 o) p) := by
    rw [dq_set_row]
    refine ⟨fun q j h1 h2 => ?_, Or.inl (by rw [dq_set_q (by decide)]; exact c15)⟩
    by_cases e : q = 0
    · subst e
      by_cases e6 : j = 6
      · rw [e6, dq_set_eq, dq_set_eq]
      · rw [dq_set_ne (Or.inr e6), dq_set_ne (Or.inr e6)]
        have h1 : 5 ≤ j := h1
        have h2 : j < 10 := h2
        have : j = 5 ∨ j = 7 ∨ j = 8 ∨ j = 9 := by omega
        rcases this with rfl | rfl | rfl | rfl
        · rw [c05, Z.1.1]
        · rw [c07, Z.1.2.1]
        · rw [c08, Z.1.2.2.1]
        · rw [c09, Z.1.2.2.2]
    · rw [dq_set_q e, dq_set_q e, c1 q e j h1 h2]
      exact H.1 q j h1 h2
  have f2 : dq_fr p s (dk_row u1 p 0 (upd (u1 p 0) 6 o)) := f1.tr dq_row_fr
  rcases hB with e | hB
  · have e1 : ax_bones B sp (dq_set T 0 6 o) = dq_set T 0 6 o := by
      refine dq_if_f ?_
      rintro ⟨c, hc, ec, _⟩
      rw [e] at ec
      exact dq_m1 (by omega) ec
    unfold wf_X0_layIn
    rw [f2 0 (Ne.symm hp.1), hsp, e]
    refine br_t rfl (k _ ?_ f2)
    rw [e1]; exact H1
  · exact kw_layIn hp.1 H1 (I.sg.put (by decide)) (by rw [f2 0 (Ne.symm hp.1)]; exact hsp) hsp2 (fun i hi => by rw [f2 0 (Ne.symm hp.1)]; exact hB i hi) fun u2 H2 f3 => k u2 H2 (f2.tr f3)
end DQT
