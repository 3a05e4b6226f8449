/-! what is asked, and how a world begins -/
section DPF
variable {n t l m r : Nat} {st sp : Int32} {T W0 A : dq_W} {D : Nat → Nat × Nat × Nat} {B : Nat → Int32} {s u v : dk_S} {K : Int32 → dk_S → Prop} {X : String → dk_S → Prop}
theorem dp_Is (P : dq_P n t l m m st T W0 D B sp) : dq_IV n t l (dq_shw n t m st T W0 D) := by
  unfold dq_shw
  by_cases g : st = 110
  · rw [dq_if_t g]; exact P.1.1
  · rw [dq_if_f g]; exact (P.2.2.2 g).1.nw_I
theorem dp_state (P : dq_P n t l m m st T W0 D B sp) (Kf : dq_Kf n t m r st T W0 A D B sp s) (k : K st s) : wf_X8_state s K := by
  unfold wf_X8_state
  rw [Kf.2.1]
  refine ⟨?_, k⟩
  rcases P.2.2.1 with g | g | g | g <;> rw [g] <;> decide
theorem dp_tick (Kf : dq_Kf n t m r st T W0 A D B sp s) (k : K (dq_shw n t m st T W0 D 0 5) s) : wf_X8_tick s K := by
  unfold wf_X8_tick
  exact ⟨fun g => dq_ke ((dz_sh1 Kf g).f0 (by decide) (by decide)) k, fun g => dq_ke ((dz_sh2 Kf g).f0 (by decide) (by decide)) k⟩
theorem dp_cellQ {a b : Nat} (ha : a < 12) (hb : b < 12) (P : dq_P n t l m m st T W0 D B sp) (Kf : dq_Kf n t m r st T W0 A D B sp s) (k : K (dq_shw n t m st T W0 D 2 (12 * a + b)) s) : wf_X8_cell (nI a) (nI b) s K X := by
  have Is := dp_Is P
  unfold wf_X8_cell
  refine kz_checkPlace (fun _ => ?_) (fun g => absurd (mr_pl_of ha hb rfl rfl) g)
  have go : ∀ p, dq_WR (dq_shw n t m st T W0 D) (s p) → wf_X8_spot (nI a) (nI b) s (fun r3 s2 => wf_X1_signAt p r3 s2 (fun r5 s4 => (narrow .char (.int r5) = .int r5 ∧ K r5 s4))) := fun p H => by
    refine kz_spot ha hb ?_
    rw [← dq_pI_in (show 12 * a + b < 144 by omega)]
    refine kw_signAt H Is.sg (by omega) ?_
    rw [dq_sg_in (show 12 * a + b < 144 by omega)]
    exact ⟨dq_sgn_nar (Is.sg _ (by omega)), k⟩
  exact ⟨fun g => go 1 (dz_sh1 Kf g), fun g => go 2 (dz_sh2 Kf g)⟩
theorem dp_placeOf {i : Nat} (hi : i < n) (P : dq_P n t l m m st T W0 D B sp) (Kf : dq_Kf n t m r st T W0 A D B sp s) (k : K (dq_sp (dq_pl (dq_shw n t m st T W0 D) i)) s) : wf_X8_placeOf (nI i) s K X := by
  have Is := dp_Is P
  have n8 := P.1.1.h8
  unfold wf_X8_placeOf
  refine kz_checkCreature (lo := 0) (by decide) (dz_en P Kf) n8 (fun _ => ?_) (fun g => absurd (mr_cr_0 (Nat.zero_le _) hi rfl) g)
  have go : ∀ p, dq_WR (dq_shw n t m st T W0 D) (s p) → wf_X8_at p 14 8 (nI i) s (fun r3 s2 => wf_X8_shownPlace r3 s2 (fun r5 s4 => K r5 s4)) := fun p H => by
    refine kw_at8 H (show i < 8 by omega) (by decide) ?_
    have hp := Is.pl i (by omega)
    rw [hp.2]
    exact kz_shownPlace hp.1 k
  exact ⟨fun g => go 1 (dz_sh1 Kf g), fun g => go 2 (dz_sh2 Kf g)⟩
theorem dp_healthOf {i : Nat} (hi : i < n) (P : dq_P n t l m m st T W0 D B sp) (Kf : dq_Kf n t m r st T W0 A D B sp s) (k : K (dq_shw n t m st T W0 D 18 i) s) : wf_X8_healthOf (nI i) s K X := by
  have n8 := P.1.1.h8
  unfold wf_X8_healthOf
  refine kz_checkCreature (lo := 0) (by decide) (dz_en P Kf) n8 (fun _ => ?_) (fun g => absurd (mr_cr_0 (Nat.zero_le _) hi rfl) g)
  have go : ∀ p, dq_WR (dq_shw n t m st T W0 D) (s p) → wf_X8_at p 18 8 (nI i) s (fun r3 s2 => K r3 s2) := fun p H => kw_at8 H (show i < 8 by omega) (by decide) k
  exact ⟨fun g => go 1 (dz_sh1 Kf g), fun g => go 2 (dz_sh2 Kf g)⟩
/-- what whereIs shows of a place -/
def dp_wh (v : Int32) : Int32 := if v < 0 then v else dq_sp v.toNatClampNeg
theorem dp_whereIs {i : Nat} (hi : i < t) (P : dq_P n t l m m st T W0 D B sp) (Kf : dq_Kf n t m r st T W0 A D B sp s) (k : K (dp_wh (dq_shw n t m st T W0 D 25 i)) s) : wf_X8_whereIs (nI i) s K X := by
  have Is := dp_Is P
  have t24 := P.1.1.t24
  have lt0 : ∀ {y : Int32}, 0 ≤ y ↔ ¬ y < 0 := fun {y} => (mr_lt_le).symm
  unfold wf_X8_whereIs
  refine kz_checkThing (dz_et P Kf) t24 (fun _ => ?_) (fun g => absurd ⟨i, hi, rfl⟩ g)
  have kk : (0 ≤ dq_shw n t m st T W0 D 25 i → wf_X8_shownPlace (dq_shw n t m st T W0 D 25 i) s (fun r5 s4 => K r5 s4)) ∧ (¬ 0 ≤ dq_shw n t m st T W0 D 25 i → K (dq_shw n t m st T W0 D 25 i) s) := by
    rcases Is.tp i (by omega) with ha | ha | ⟨p, hp, ha⟩ | ⟨b, hb, ha⟩
    · rw [ha] at k ⊢
      exact ⟨fun g => absurd g (by decide), fun _ => k⟩
    · rw [ha] at k ⊢
      exact ⟨fun g => absurd g (by decide), fun _ => k⟩
    · rw [ha] at k ⊢
      have hnn : ¬ nI p < 0 := nI_pos (by omega)
      unfold dp_wh at k
      rw [if_neg hnn, nI_clamp (by omega)] at k
      exact ⟨fun _ => kz_shownPlace hp k, fun g => absurd (lt0.2 hnn) g⟩
    · rw [ha] at k ⊢
      have hneg := dq_bag_neg (show b < 24 by omega)
      unfold dp_wh at k
      rw [if_pos hneg] at k
      exact ⟨fun g => absurd hneg (lt0.1 g), fun _ => k⟩
  exact ⟨fun g => kw_at24 (dz_sh1 Kf g) (show i < 24 by omega) (Or.inr rfl) kk, fun g => kw_at24 (dz_sh2 Kf g) (show i < 24 by omega) (Or.inr rfl) kk⟩
theorem dp_weightOf {i : Nat} (hi : i < t) (P : dq_P n t l m m st T W0 D B sp) (Kf : dq_Kf n t m r st T W0 A D B sp s) (k : K (dq_sum (fun j => dq_wi (dq_shw n t m st T W0 D) i 24 j) (dq_wt (dq_shw n t m st T W0 D)) t) s) : wf_X8_weightOf (nI i) s K X := by
  have Is := dp_Is P
  have t24 := P.1.1.t24
  unfold wf_X8_weightOf
  refine kz_checkThing (dz_et P Kf) t24 (fun _ => ?_) (fun g => absurd ⟨i, hi, rfl⟩ g)
  exact ⟨fun g => kw_wholeWeight (show i < 24 by omega) (dz_sh1 Kf g) Is k, fun g => kw_wholeWeight (show i < 24 by omega) (dz_sh2 Kf g) Is k⟩
theorem dp_isSame (hn : ¬ st = 110) (P : dq_P n t l m m st T W0 D B sp) (Kf : dq_Kf n t m r st T W0 A D B sp s) (k : ∀ u, dq_Kf n t m m st T W0 (dq_nw n t m W0 D) D B sp u → K 1 u) : wf_X8_isSame s K X := by
  obtain ⟨RP, hm, hRT, ho⟩ := P.2.2.2 hn
  have kS := Kf.2.2.2 hn
  unfold wf_X8_isSame
  refine ⟨fun _ => kx_redo RP kS fun u kU f1 f2 f3 => ?_, fun g => absurd (Kf.2.1.symm.trans g) hn⟩
  refine kw_isLike kU.1.1 kU.2.1 RP.nw_I ⟨dq_nz1, k u ⟨?_, ?_, ?_, fun _ => kU⟩⟩
  · rw [f1 1 (by decide) (by decide)]; exact Kf.1
  · rw [f3]; exact Kf.2.1
  · rw [f2 45 (by decide), f2 46 (by decide)]; exact Kf.2.2.1
/-- no world begins -/
theorem dp_begin0 {x : Int32} (hx : ¬ x < 0) (off : ¬ st = 111) (nf : ¬ dq_fw T n) (P : dq_P n t l m m st T W0 D B sp) (Kf : dq_Kf n t m r st T W0 A D B sp s) (k : X eIS s) : wf_X8_begin x s K X := by
  have lt0 : ∀ {y : Int32}, 0 ≤ y ↔ ¬ y < 0 := fun {y} => (mr_lt_le).symm
  unfold wf_X8_begin
  refine ⟨fun _ => kz_checkNoWorld (fun g => ?_) (fun _ => k), fun g => absurd (lt0.2 hx) g⟩
  refine kw_allStandApart Kf.1 P.1.1 (fun i hi => P.1.lv hi) (fun g1 => dq_1 ?_) (fun _ => dq_0 k)
  exact kw_allStandFree Kf.1 P.1.1 (fun g2 => absurd (dq_fw_iff.2 ⟨g1, g2⟩) nf) (fun _ => dq_0' k)
/-- the world that begins -/
noncomputable def dp_W (T : dq_W) (B : Nat → Int32) (sp : Int32) (j : Nat) : dq_W := ax_bones B sp (dq_set T 0 6 (nI (j % 6)))
def dp_D0 : Nat → Nat × Nat × Nat := fun _ => (0, 0, 0)
theorem dp_RP0 {j : Nat} (fw : dq_fw T n) (P : dq_P n t l m m st T W0 D B sp) : dq_RP n t l 0 (dp_W T B sp j) dp_D0 ∧ ∃ o, o < 6 ∧ dp_W T B sp j 0 6 = nI o := by
  obtain ⟨⟨JV, JX, hl⟩, e6⟩ := dz_beginJ (sp := sp) (o := nI (j % 6)) P.1 P.2.1.1 fw
  exact ⟨⟨⟨JV, JX, hl, dz_beginH P.1⟩, by decide, fun i hi => absurd hi (Nat.not_lt_zero _)⟩, j % 6, Nat.mod_lt _ (by decide), e6⟩
theorem dp_begin1 {j : Nat} (hj : j < 2 ^ 31) (off : ¬ st = 111) (fw : dq_fw T n) (P : dq_P n t l m m st T W0 D B sp) (Kf : dq_Kf n t m r st T W0 A D B sp s)
    (k : ∀ v, dp_K n t 0 0 T (dp_W T B sp j) (dp_W T B sp j) dp_D0 B sp v → K (dq_nw n t 0 (dp_W T B sp j) dp_D0 0 5) v) : wf_X8_begin (nI j) s K X := by
  have lt0 : ∀ {y : Int32}, 0 ≤ y ↔ ¬ y < 0 := fun {y} => (mr_lt_le).symm
  have hx : ¬ nI j < 0 := nI_pos hj
  have eo : nI j - nI j / 6 * 6 = nI (j % 6) := dz_mod6 hj
  obtain ⟨RP, ho⟩ := dp_RP0 (j := j) fw P
  have JV := RP.1.1
  obtain ⟨W, hW⟩ : ∃ W, W = dp_W T B sp j := ⟨_, rfl⟩
  rw [← hW] at k RP JV ho
  unfold wf_X8_begin
  refine ⟨fun _ => kz_checkNoWorld (fun _ => ?_) (fun g => absurd (Kf.2.1.symm.trans g) off), fun g => absurd (lt0.2 hx) g⟩
  have ap := dq_fw_iff.1 fw
  refine kw_allStandApart Kf.1 P.1.1 (fun i hi => P.1.lv hi) (fun _ => dq_1 ?_) (fun g => absurd ap.1 g)
  refine kw_allStandFree Kf.1 P.1.1 (fun _ => dq_1' ?_) (fun g => absurd ap.2 g)
  refine kx_make (p := 2) (o := nI (j % 6)) (by decide) Kf.1 P.1.1 P.1.2.1 Kf.2.2.1.1 P.2.1.2 Kf.2.2.1.2 eo fun u1 H1 f1 => ?_
  have H1 : dq_WR W (u1 2) := by rw [hW]; exact H1
  refine kx_make (p := 3) (o := nI (j % 6)) (by decide) (by rw [f1 1 (by decide)]; exact Kf.1) P.1.1 P.1.2.1 (by rw [f1 0 (by decide)]; exact Kf.2.2.1.1) P.2.1.2 (by rw [f1 0 (by decide)]; exact Kf.2.2.1.2) eo fun u2 H2 f2 => nm_e (nm_e (nm_e ?_))
  have H2 : dq_WR W (u2 3) := by rw [hW]; exact H2
  have g0 : ∀ a, a ≠ 0 → dk_row (dk_row (dk_row u2 0 41 (upd (u2 0 41) 3 0)) 0 40 (upd (dk_row u2 0 41 (upd (u2 0 41) 3 0) 0 40) 6 0)) 0 40 (upd (dk_row (dk_row u2 0 41 (upd (u2 0 41) 3 0)) 0 40 (upd (dk_row u2 0 41 (upd (u2 0 41) 3 0) 0 40) 6 0) 0 40) 5 111) a = u2 a := fun a ha => by
    funext b
    rw [dq_row_r (Or.inl ha), dq_row_r (Or.inl ha), dq_row_r (Or.inl ha)]
  have g41 : dk_row (dk_row (dk_row u2 0 41 (upd (u2 0 41) 3 0)) 0 40 (upd (dk_row u2 0 41 (upd (u2 0 41) 3 0) 0 40) 6 0)) 0 40 (upd (dk_row (dk_row u2 0 41 (upd (u2 0 41) 3 0)) 0 40 (upd (dk_row u2 0 41 (upd (u2 0 41) 3 0) 0 40) 6 0) 0 40) 5 111) 0 41 3 = 0 := by
    rw [dq_row_r (Or.inr (by decide)), dq_row_r (Or.inr (by decide)), dq_set_row, dq_set_eq]
  have g5 : dk_row (dk_row (dk_row u2 0 41 (upd (u2 0 41) 3 0)) 0 40 (upd (dk_row u2 0 41 (upd (u2 0 41) 3 0) 0 40) 6 0)) 0 40 (upd (dk_row (dk_row u2 0 41 (upd (u2 0 41) 3 0)) 0 40 (upd (dk_row u2 0 41 (upd (u2 0 41) 3 0) 0 40) 6 0) 0 40) 5 111) 0 40 5 = 111 := by
    rw [dq_set_row, dq_set_eq]
  have g6 : dk_row (dk_row (dk_row u2 0 41 (upd (u2 0 41) 3 0)) 0 40 (upd (dk_row u2 0 41 (upd (u2 0 41) 3 0) 0 40) 6 0)) 0 40 (upd (dk_row (dk_row u2 0 41 (upd (u2 0 41) 3 0)) 0 40 (upd (dk_row u2 0 41 (upd (u2 0 41) 3 0) 0 40) 6 0) 0 40) 5 111) 0 40 6 = 0 := by
    rw [dq_set_row, dq_set_ne (by decide), dq_set_row, dq_set_eq]
  have gB : ∀ b, b ≠ 40 → b ≠ 41 → dk_row (dk_row (dk_row u2 0 41 (upd (u2 0 41) 3 0)) 0 40 (upd (dk_row u2 0 41 (upd (u2 0 41) 3 0) 0 40) 6 0)) 0 40 (upd (dk_row (dk_row u2 0 41 (upd (u2 0 41) 3 0)) 0 40 (upd (dk_row u2 0 41 (upd (u2 0 41) 3 0) 0 40) 6 0) 0 40) 5 111) 0 b = u2 0 b := fun b h1 h2 => by
    rw [dq_row_r (Or.inr h1), dq_row_r (Or.inr h1), dq_row_r (Or.inr h2)]
  revert g0 g41 g5 g6 gB
  generalize dk_row (dk_row (dk_row u2 0 41 (upd (u2 0 41) 3 0)) 0 40 (upd (dk_row u2 0 41 (upd (u2 0 41) 3 0) 0 40) 6 0)) 0 40 (upd (dk_row (dk_row u2 0 41 (upd (u2 0 41) 3 0)) 0 40 (upd (dk_row u2 0 41 (upd (u2 0 41) 3 0) 0 40) 6 0) 0 40) 5 111) = w1
  intro g0 g41 g5 g6 gB
  have Hw : dq_WR W (w1 2) := by rw [g0 2 (by decide), f2 2 (by decide)]; exact H1
  have Hw3 : dq_WR W (w1 3) := by rw [g0 3 (by decide)]; exact H2
  have Hw1 : dq_WR T (w1 1) := by rw [g0 1 (by decide), f2 1 (by decide), f1 1 (by decide)]; exact Kf.1
  have HwB : w1 0 45 1 = sp ∧ (sp = -1 ∨ ∀ i, i < 24 → w1 0 46 i = B i) := by
    rw [gB 45 (by decide) (by decide), gB 46 (by decide) (by decide), f2 0 (by decide), f1 0 (by decide)]; exact Kf.2.2.1
  refine kw_waitForHero (k := 4000) (by decide) Hw JV.1 (dq_rests_J JV) fun u3 H3 f3 => ?_
  have H3 : dq_WR (dq_ch n t W dp_D0 0) (u3 2) := H3
  have e3 : ∀ a, a ≠ 2 → u3 a = w1 a := f3
  have JC := (RP.at 0 (Nat.le_refl _)).1.1
  have kD : ∀ z : dk_S, z 0 41 = w1 0 41 → kq_D 0 dp_D0 z := fun z hz => ⟨by rw [hz]; exact g41, fun i hi => absurd hi (Nat.not_lt_zero _)⟩
  have AG : dq_AG n t 0 0 W dp_D0 W := ⟨Nat.le_refl _, Or.inl ⟨rfl, rfl⟩⟩
  refine kx_settle H3 JC.1 (fun hlv => ?_) (fun hlv u4 q1 q2 q3 q4 q5 q6 q7 => ?_)
  · have Hn : dq_WR (dq_nw n t 0 W dp_D0) (u3 2) := by rw [RP.nw_a hlv]; exact H3
    refine dq_ke (Hn.f0 (by decide) (by decide)) (k u3 (dp_K_of (by rw [e3 1 (by decide)]; exact Hw1) ⟨⟨Hn, kD u3 (by rw [e3 0 (by decide)])⟩, by rw [e3 3 (by decide)]; exact Hw3, by rw [e3 0 (by decide)]; exact g6, AG⟩ (Or.inl ⟨hlv, by rw [e3 0 (by decide)]; exact g5, by rw [e3 0 (by decide)]; exact HwB⟩)))
  · have en : dq_nw n t 0 W dp_D0 = ax_hands t (dq_ch n t W dp_D0 0) := dq_if_f hlv
    have Hn : dq_WR (dq_nw n t 0 W dp_D0) (u4 2) := by rw [en]; exact q1
    refine dq_ke (Hn.f0 (by decide) (by decide)) (k u4 (dp_K_of (by rw [q7 1 (by decide) (by decide), e3 1 (by decide)]; exact Hw1) ⟨⟨Hn, kD u4 (by rw [q6 41 (by decide) (by decide) (by decide), e3 0 (by decide)])⟩, by rw [q7 3 (by decide) (by decide), e3 3 (by decide)]; exact Hw3, by rw [q5 6 (by decide), e3 0 (by decide)]; exact g6, AG⟩ (Or.inr ⟨hlv, q4, q2, q3⟩)))
end DPF
