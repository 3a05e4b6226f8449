/-! each call, the two side by side: begin -/
section DCS
variable {c : Nat} {s u v w0 : dk_S} {T W0 A : dq_W} {D : Nat → Nat × Nat × Nat} {B : Nat → Int32} {st sp o : Int32} {n t l m r : Nat}
theorem dz_mod6 {j : Nat} (hj : j < 2 ^ 31) : nI j - nI j / 6 * 6 = nI (j % 6) := by
  have h6 : (6 : Int32) = nI 6 := rfl
  rw [h6, pk_div hj (by decide) (by decide), dq_iN, dq_iN, dq_iN, dq_iN, dq_imul, dq_isub]
  congr 1
  omega
theorem dz_W_r {q : Nat} (h : q ≠ 25) (h0 : q ≠ 0) : ax_bones B sp (dq_set T 0 6 o) q = T q := by
  have e : dq_set T 0 6 o q = T q := dq_set_r h0
  unfold ax_bones
  by_cases g : ∃ c, c < 144 ∧ sp = nI c ∧ dq_free (dq_set T 0 6 o 2 c)
  · rw [dq_if_t g]
    exact (funext fun k => ax_lay_o (Or.inl h)).trans e
  · rw [dq_if_f g]; exact e
theorem dz_W_0 {k : Nat} : ax_bones B sp (dq_set T 0 6 o) 0 k = dq_set T 0 6 o 0 k := by
  unfold ax_bones
  by_cases g : ∃ c, c < 144 ∧ sp = nI c ∧ dq_free (dq_set T 0 6 o 2 c)
  · rw [dq_if_t g]; exact ax_lay_o (Or.inl (by decide))
  · rw [dq_if_f g]
theorem dq_TW.lv (h : dq_TW n t l T) {i : Nat} (hi : i < n) : dq_lv T i := fun q => by
  have := (h.2.2.1 i hi).1
  rw [Int32.le_iff_toInt_le] at q
  have h0 : (0 : Int32).toInt = 0 := rfl
  omega
theorem dz_beginJ (P : dq_TW n t l T) (V : dq_BV t B) (fw : dq_fw T n) : (dq_JV n t l (ax_bones B sp (dq_set T 0 6 o)) ∧ dq_JX (ax_bones B sp (dq_set T 0 6 o) 0 6) 0 (ax_bones B sp (dq_set T 0 6 o)) ∧ dq_lv (ax_bones B sp (dq_set T 0 6 o)) 0) ∧ ax_bones B sp (dq_set T 0 6 o) 0 6 = o := by
  have r : ∀ q, q ≠ 25 → q ≠ 0 → ax_bones B sp (dq_set T 0 6 o) q = T q := fun q h h0 => dz_W_r h h0
  have r0 : ∀ k, k ≠ 6 → ax_bones B sp (dq_set T 0 6 o) 0 k = T 0 k := fun k hk => dz_W_0.trans (dq_set_ne (Or.inr hk))
  have I' : dq_IV n t l (ax_bones B sp (dq_set T 0 6 o)) := ax_bones_I (P.1.st (by decide)) V
  obtain ⟨z0, z1, _⟩ := P.2.1
  obtain ⟨a, b, c, d, e, f⟩ := P.2.2
  have h1 := P.1.h1
  have h8 := P.1.h8
  have pl : ∀ i, dq_pl (ax_bones B sp (dq_set T 0 6 o)) i = dq_pl T i := fun i => by unfold dq_pl; rw [r 14 (by decide) (by decide)]
  have z : (0 : Int32).toInt = 0 := rfl
  refine ⟨⟨⟨I', fun i hi hl => ⟨?_, fun j hj hl2 e2 => ?_⟩, ⟨?_, fun k hk => ?_⟩, fun k hk => ?_, fun k hk => ?_, fun k hk => ?_, fun k hk hlt => ?_, fun k hk => ?_⟩, ⟨fun k hk => ?_, fun k hk => ?_, ?_, rfl⟩, ?_⟩, dz_W_0.trans dq_set_eq⟩
  · rw [pl, r 2 (by decide) (by decide)]; exact (fw i hi).1
  · rw [pl, pl] at e2
    rcases Nat.lt_trichotomy j i with g | g | g
    · exact absurd e2 ((fw i hi).2 j g)
    · exact g
    · exact absurd e2.symm ((fw j hj).2 i g)
  · rw [r0 8 (by decide), z0.2.2.1]; decide
  · rw [r 21 (by decide) (by decide), (z1 k hk).2.1]; decide
  · rw [r 9 (by decide) (by decide)]; exact c k hk
  · rw [r 19 (by decide) (by decide), (z1 k (by omega)).1]; exact ⟨by decide, by decide⟩
  · rw [r 15 (by decide) (by decide)]; exact b k hk
  · rw [r 21 (by decide) (by decide), (z1 k hk).2.1] at hlt
    exact absurd hlt (by decide)
  · rw [r 11 (by decide) (by decide)]; exact d k hk
  · rw [r 8 (by decide) (by decide)]; exact e k hk
  · rw [r 17 (by decide) (by decide)]; exact f.1 k hk
  · rw [r0 7 (by decide), z0.2.1]; exact ⟨by decide, by decide⟩
  · have := P.lv (i := 0) (by omega)
    unfold dq_lv at this ⊢
    rw [r 18 (by decide) (by decide)]; exact this
theorem dq_TW.hh (P : dq_TW n t l T) : dq_HH T := by
  obtain ⟨_, z1, _⟩ := P.2.1
  obtain ⟨a, b, c, d, e, f⟩ := P.2.2
  refine ⟨fun k hk => ?_, f.2, f.1, d⟩
  rw [(z1 k hk).2.2.2]
  exact (f.1 k hk).wide (by decide) (by decide)
theorem dz_beginH (P : dq_TW n t l T) : dq_HH (ax_bones B sp (dq_set T 0 6 o)) := P.hh.cg fun q hq => dz_W_r (by omega) (by omega)
theorem dz_begin {x : Int32} (h : dq_I c s) : dz_C c (wf_X8_begin x) (wf_X9_begin x) [(eIA, 1), (eIS, 2)] s := by
  have hI := h
  obtain ⟨n, t, l, m, r, st, T, W0, A, D, B, sp, P, Kf, Mf⟩ := h
  have T4 : mr_T T (s 4) := ⟨Mf.1, P.1.2.1, P.1.1.sg⟩
  have lt0 : ∀ {y : Int32}, 0 ≤ y ↔ ¬ y < 0 := fun {y} => (mr_lt_le).symm
  have lvs : ∀ i, i < n → dq_lv T i := fun i hi => P.1.lv hi
  by_cases hx : x < 0
  · refine Or.inl ⟨eIA, 1, by simp, fun K X k => ?_, fun J k => km_begin (o := 0) T4 P.1.1 P.2.1.1 P.2.1.2 Mf.2.2.1 (fun _ => k _ hI.F mx_F_0) (fun g => absurd hx g) (fun g => absurd hx g)⟩
    unfold wf_X8_begin
    exact ⟨fun g => absurd hx (lt0.1 g), fun _ => k⟩
  · by_cases on : st = 111 ∨ ¬ dq_fw T n
    · refine Or.inl ⟨eIS, 2, by simp, fun K X k => ?_, fun J k => km_begin (o := 0) T4 P.1.1 P.2.1.1 P.2.1.2 Mf.2.2.1 (fun g => absurd g hx) (fun _ _ => k _ hI.F mx_F_0) (fun _ g1 g2 => absurd on fun q => q.elim (fun w => g1 (Mf.2.1.trans w)) (fun w => w g2))⟩
      unfold wf_X8_begin
      refine ⟨fun _ => kz_checkNoWorld (fun g => ?_) (fun _ => k), fun g => absurd (lt0.2 hx) g⟩
      have nf : ¬ dq_fw T n := on.elim (fun w => absurd (Kf.2.1.trans w) g) id
      refine kw_allStandApart Kf.1 P.1.1 lvs (fun g1 => dq_1 ?_) (fun _ => dq_0 k)
      exact kw_allStandFree Kf.1 P.1.1 (fun g2 => absurd (dq_fw_iff.2 ⟨g1, g2⟩) nf) (fun _ => dq_0' k)
    · have off : ¬ st = 111 := fun g => on (Or.inl g)
      have fw : dq_fw T n := Classical.byContradiction fun g => on (Or.inr g)
      obtain ⟨j, hj, ex⟩ := nI_of hx
      have eo : x - x / 6 * 6 = nI (j % 6) := by rw [ex]; exact dz_mod6 hj
      obtain ⟨⟨JV, JX, hl⟩, e6⟩ := dz_beginJ (sp := sp) (o := nI (j % 6)) P.1 P.2.1.1 fw
      have HHW := dz_beginH (B := B) (sp := sp) (o := nI (j % 6)) P.1
      -- the world that begins
      obtain ⟨W, hW⟩ : ∃ W, W = ax_bones B sp (dq_set T 0 6 (nI (j % 6))) := ⟨_, rfl⟩
      rw [← hW] at JV JX hl e6 HHW
      have RP : dq_RP n t l 0 W (fun _ => (0, 0, 0)) := ⟨⟨JV, JX, hl, HHW⟩, by decide, fun i hi => absurd hi (Nat.not_lt_zero _)⟩
      have ho : ∃ o, o < 6 ∧ W 0 6 = nI o := ⟨j % 6, Nat.mod_lt _ (by decide), e6⟩
      refine Or.inr ⟨dq_nw n t 0 W (fun _ => (0, 0, 0)) 0 5, dz_TK n t 0 0 T W W (fun _ => (0, 0, 0)) B sp s, fun K X k => ?_, fun v J hv k => ?_⟩
      · unfold wf_X8_begin
        refine ⟨fun _ => kz_checkNoWorld (fun _ => ?_) (fun g => absurd (Kf.2.1.symm.trans g) off), fun g => absurd (lt0.2 hx) g⟩
        have ap := dq_fw_iff.1 fw
        refine kw_allStandApart Kf.1 P.1.1 lvs (fun _ => dq_1 ?_) (fun g => absurd ap.1 g)
        refine kw_allStandFree Kf.1 P.1.1 (fun _ => dq_1' ?_) (fun g => absurd ap.2 g)
        refine kx_make (p := 2) (o := nI (j % 6)) (by decide) Kf.1 P.1.1 P.1.2.1 Kf.2.2.1.1 P.2.1.2 Kf.2.2.1.2 eo fun u1 H1 f1 => ?_
        rw [← hW] at H1
        refine kx_make (p := 3) (o := nI (j % 6)) (by decide) (by rw [f1 1 (by decide)]; exact Kf.1) P.1.1 P.1.2.1 (by rw [f1 0 (by decide)]; exact Kf.2.2.1.1) P.2.1.2 (by rw [f1 0 (by decide)]; exact Kf.2.2.1.2) eo fun u2 H2 f2 => nm_e (nm_e (nm_e ?_))
        rw [← hW] at H2
        have g0 : ∀ a, a ≠ 0 → dk_row (dk_row (dk_row u2 0 41 (upd (u2 0 41) 3 0)) 0 40 (upd (dk_row u2 0 41 (upd (u2 0 41) 3 0) 0 40) 6 0)) 0 40 (upd (dk_row (dk_row u2 0 41 (upd (u2 0 41) 3 0)) 0 40 (upd (dk_row u2 0 41 (upd (u2 0 41) 3 0) 0 40) 6 0) 0 40) 5 111) a = u2 a := fun a ha => by
          funext b
          rw [dq_row_r (Or.inl ha), dq_row_r (Or.inl ha), dq_row_r (Or.inl ha)]
        have g41 : dk_row (dk_row (dk_row u2 0 41 (upd (u2 0 41) 3 0)) 0 40 (upd (dk_row u2 0 41 (upd (u2 0 41) 3 0) 0 40) 6 0)) 0 40 (upd (dk_row (dk_row u2 0 41 (upd (u2 0 41) 3 0)) 0 40 (upd (dk_row u2 0 41 (upd (u2 0 41) 3 0) 0 40) 6 0) 0 40) 5 111) 0 41 3 = 0 := by
          rw [dq_row_r (Or.inr (by decide)), dq_row_r (Or.inr (by decide)), dq_set_row, dq_set_eq]
        have g5 : dk_row (dk_row (dk_row u2 0 41 (upd (u2 0 41) 3 0)) 0 40 (upd (dk_row u2 0 41 (upd (u2 0 41) 3 0) 0 40) 6 0)) 0 40 (upd (dk_row (dk_row u2 0 41 (upd (u2 0 41) 3 0)) 0 40 (upd (dk_row u2 0 41 (upd (u2 0 41) 3 0) 0 40) 6 0) 0 40) 5 111) 0 40 5 = 111 := by
          rw [dq_set_row, dq_set_eq]
        have g6 : dk_row (dk_row (dk_row u2 0 41 (upd (u2 0 41) 3 0)) 0 40 (upd (dk_row u2 0 41 (upd (u2 0 41) 3 0) 0 40) 6 0)) 0 40 (upd (dk_row (dk_row u2 0 41 (upd (u2 0 41) 3 0)) 0 40 (upd (dk_row u2 0 41 (upd (u2 0 41) 3 0) 0 40) 6 0) 0 40) 5 111) 0 40 6 = 0 := by
          rw [dq_set_row, dq_set_ne (by decide), dq_set_row, dq_set_eq]
        have gB : ∀ b, b ≠ 40 → b ≠ 41 → dk_row (dk_row (dk_row u2 0 41 (upd (u2 0 41) 3 0)) 0 40 (upd (dk_row u2 0 41 (upd (u2 0 41) 3 0) 0 40) 6 0)) 0 40 (upd (dk_row (dk_row u2 0 41 (upd (u2 0 41) 3 0)) 0 40 (upd (dk_row u2 0 41 (upd (u2 0 41) 3 0) 0 40) 6 0) 0 40) 5 111) 0 b = u2 0 b := fun b h1 h2 => by
          rw [dq_row_r (Or.inr h1), dq_row_r (Or.inr h1), dq_row_r (Or.inr h2)]
        revert g0 g41 g5 g6 gB
        generalize dk_row (dk_row (dk_row u2 0 41 (upd (u2 0 41) 3 0)) 0 40 (upd (dk_row u2 0 41 (upd (u2 0 41) 3 0) 0 40) 6 0)) 0 40 (upd (dk_row (dk_row u2 0 41 (upd (u2 0 41) 3 0)) 0 40 (upd (dk_row u2 0 41 (upd (u2 0 41) 3 0) 0 40) 6 0) 0 40) 5 111) = w1
        intro g0 g41 g5 g6 gB
        have Hw : dq_WR W (w1 2) := by rw [g0 2 (by decide), f2 2 (by decide)]; exact H1
        have Hw3 : dq_WR W (w1 3) := by rw [g0 3 (by decide)]; exact H2
        have Hw1 : dq_WR T (w1 1) := by rw [g0 1 (by decide), f2 1 (by decide), f1 1 (by decide)]; exact Kf.1
        have Hw4 : w1 4 = s 4 := by rw [g0 4 (by decide), f2 4 (by decide), f1 4 (by decide)]
        have HwB : w1 0 45 1 = sp ∧ (sp = -1 ∨ ∀ i, i < 24 → w1 0 46 i = B i) := by
          rw [gB 45 (by decide) (by decide), gB 46 (by decide) (by decide), f2 0 (by decide), f1 0 (by decide)]; exact Kf.2.2.1
        refine kw_waitForHero (k := 4000) (by decide) Hw JV.1 (dq_rests_J JV) fun u3 H3 f3 => ?_
        have H3 : dq_WR (dq_ch n t W (fun _ => (0, 0, 0)) 0) (u3 2) := H3
        have e3 : ∀ a, a ≠ 2 → u3 a = w1 a := f3
        have JC := (RP.at 0 (Nat.le_refl _)).1.1
        have kD : ∀ z : dk_S, z 0 41 = w1 0 41 → kq_D 0 (fun _ => (0, 0, 0)) z := fun z hz => ⟨by rw [hz]; exact g41, fun i hi => absurd hi (Nat.not_lt_zero _)⟩
        have AG : dq_AG n t 0 0 W (fun _ => (0, 0, 0)) W := ⟨Nat.le_refl _, Or.inl ⟨rfl, rfl⟩⟩
        refine kx_settle H3 JC.1 (fun hlv => ?_) (fun hlv u4 q1 q2 q3 q4 q5 q6 q7 => ?_)
        · have Hn : dq_WR (dq_nw n t 0 W (fun _ => (0, 0, 0))) (u3 2) := by rw [RP.nw_a hlv]; exact H3
          refine dq_ke (Hn.f0 (by decide) (by decide)) (k u3 ⟨by rw [e3 1 (by decide)]; exact Hw1, ⟨⟨Hn, kD u3 (by rw [e3 0 (by decide)])⟩, by rw [e3 3 (by decide)]; exact Hw3, by rw [e3 0 (by decide)]; exact g6, AG⟩, by rw [e3 4 (by decide)]; exact Hw4, Or.inl ⟨hlv, by rw [e3 0 (by decide)]; exact g5, by rw [e3 0 (by decide)]; exact HwB⟩⟩)
        · have en : dq_nw n t 0 W (fun _ => (0, 0, 0)) = ax_hands t (dq_ch n t W (fun _ => (0, 0, 0)) 0) := dq_if_f hlv
          have Hn : dq_WR (dq_nw n t 0 W (fun _ => (0, 0, 0))) (u4 2) := by rw [en]; exact q1
          refine dq_ke (Hn.f0 (by decide) (by decide)) (k u4 ⟨by rw [q7 1 (by decide) (by decide), e3 1 (by decide)]; exact Hw1, ⟨⟨Hn, kD u4 (by rw [q6 41 (by decide) (by decide) (by decide), e3 0 (by decide)])⟩, by rw [q7 3 (by decide) (by decide), e3 3 (by decide)]; exact Hw3, by rw [q5 6 (by decide), e3 0 (by decide)]; exact g6, AG⟩, by rw [q7 4 (by decide) (by decide), e3 4 (by decide)]; exact Hw4, Or.inr ⟨hlv, q4, q2, q3⟩⟩)
      · have e4 := hv.2.2.1
        have Tv : mr_T T (v 4) := by rw [e4]; exact T4
        have ev : v 4 60 1 = st := by rw [e4]; exact Mf.2.1
        refine km_begin (o := nI (j % 6)) Tv P.1.1 P.2.1.1 P.2.1.2 (by rw [e4]; exact Mf.2.2.1) (fun g => absurd g hx) (fun _ g => absurd g fun q => q.elim (fun w => off (ev.symm.trans w)) (fun w => w fw)) (fun _ _ _ => ?_)
        rw [← hW]
        refine ⟨⟨JV, hl⟩, fun v' u Bv E => ?_⟩
        obtain ⟨b1, b2, b3, b4, b5⟩ := Bv
        have E : mx_E t (dq_ch n t W (fun _ => (0, 0, 0)) 0) v' u := E
        obtain ⟨z1, z2, z3⟩ := dz_turn (c := c) P.1 P.2.1.1 P.2.1.2 RP (Nat.zero_le _) ho Mf.1 Mf.2.2.1 hv (fun a k hg hk => by
          rw [b4 a k hg (by omega)]
          have : mx_F v 0 4 a k = v 4 a k := mx_st_q (by omega)
          rw [this, e4]) (mx_F_fr.tr b5) b2 (by rw [b3, e6]; exact eo) (by rw [b4 60 0 (by unfold mk_g; omega) (by omega)]; exact mx_F_0) E
        exact dq_ke z3 (k u z1 z2)
end DCS
