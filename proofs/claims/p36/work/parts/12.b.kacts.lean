/-! the log, and the world made again *by* it -/
noncomputable def dq_ch (n t : Nat) (W0 : dq_W) (D : Nat → Nat × Nat × Nat) : Nat → dq_W
  | 0 => ax_wait n 4000 W0
  | i + 1 => ax_on n (ax_deed n t (D i).1 (D i).2.1 (D i).2.2 (dq_ch n t W0 D i)).2
noncomputable def dq_an (n t : Nat) (W0 : dq_W) (D : Nat → Nat × Nat × Nat) (i : Nat) : Int32 := (ax_deed n t (D i).1 (D i).2.1 (D i).2.2 (dq_ch n t W0 D i)).1
def dq_RP (n t l m : Nat) (W0 : dq_W) (D : Nat → Nat × Nat × Nat) : Prop :=
  (dq_JV n t l W0 ∧ dq_JX (W0 0 6) 0 W0 ∧ dq_lv W0 0 ∧ dq_HH W0) ∧ m ≤ 512 ∧ ∀ i, i < m → dq_RT n (dq_ch n t W0 D i) ∧ dq_DV t (D i).1 (D i).2.1 (D i).2.2 (dq_ch n t W0 D i) ∧ dq_an n t W0 D i ≠ -1000000
noncomputable def dq_nw (n t m : Nat) (W0 : dq_W) (D : Nat → Nat × Nat × Nat) : dq_W := dq_if (dq_lv (dq_ch n t W0 D m) 0) (dq_ch n t W0 D m) (ax_hands t (dq_ch n t W0 D m))
def dq_AG (n t m r : Nat) (W0 : dq_W) (D : Nat → Nat × Nat × Nat) (A : dq_W) : Prop := r ≤ m ∧ ((A = W0 ∧ r = 0) ∨ A = dq_ch n t W0 D r ∨ (¬ dq_lv (dq_ch n t W0 D m) 0 ∧ r = m ∧ A = ax_hands t (dq_ch n t W0 D m)))
/-- the log's rows -/
def kq_D (m : Nat) (D : Nat → Nat × Nat × Nat) (s : dk_S) : Prop := s 0 41 3 = nI m ∧ ∀ i, i < m → s 0 42 i = nI (D i).1 ∧ s 0 43 i = nI (D i).2.1 ∧ s 0 44 i = dq_bI (D i).2.2
def kq_S (n t m r : Nat) (W0 A : dq_W) (D : Nat → Nat × Nat × Nat) (s : dk_S) : Prop :=
  (dq_WR (dq_nw n t m W0 D) (s 2) ∧ kq_D m D s) ∧ dq_WR A (s 3) ∧ s 0 40 6 = nI r ∧ dq_AG n t m r W0 D A
section DQK
variable {n t l m r : Nat} {w W0 A : dq_W} {D D' : Nat → Nat × Nat × Nat} {s u : dk_S} {K : Int32 → dk_S → Prop} {J : dk_S → Prop}
theorem dq_ch_e : ∀ k, (∀ i, i < k → D' i = D i) → dq_ch n t W0 D' k = dq_ch n t W0 D k
  | 0, _ => rfl
  | k + 1, h => by
    unfold dq_ch
    rw [dq_ch_e k fun i hi => h i (by omega), h k (by omega)]
theorem dq_RP.at (P : dq_RP n t l m W0 D) : ∀ i, i ≤ m → (dq_JV n t l (dq_ch n t W0 D i) ∧ dq_JX (W0 0 6) i (dq_ch n t W0 D i)) ∧ dq_wd (dq_ch n t W0 D i) n
  | 0, _ => ⟨⟨ax_wait_J _ _ P.1.1, P.1.2.1.kp (dq_kp.wait 4000 dq_kp.rf)⟩, ax_wait_wd _ _ (dq_rests_J P.1.1)⟩
  | i + 1, h => by
    have ih := P.at i (by omega)
    obtain ⟨RT, hd, _⟩ := P.2.2 i (by omega)
    have hm := P.2.1
    have J1 := ax_deed_J ih.1.1 RT hd
    have J2 := dq_spend_J J1.1 J1.2
    have X1 := ih.1.2.deed (n := n) (t := t) (by omega) hd
    show (dq_JV n t l (ax_on n _) ∧ dq_JX (W0 0 6) (i + 1) (ax_on n _)) ∧ dq_wd (ax_on n _) n
    unfold ax_on
    exact ⟨⟨ax_wait_J _ _ J2, X1.kp (dq_kp.wait 4000 (dq_kp.rf.put (by omega)))⟩, ax_wait_wd _ _ (dq_rests_J J2)⟩
theorem dq_RP.hh (P : dq_RP n t l m W0 D) : ∀ i, i ≤ m → dq_HH (dq_ch n t W0 D i)
  | 0, _ => dq_HH.wait P.1.1.1.h8 4000 P.1.2.2.2
  | i + 1, h => by
    have ih := P.hh i (by omega)
    obtain ⟨RT, hd, _⟩ := P.2.2 i (by omega)
    have I := (P.at i (by omega)).1.1.1
    show dq_HH (ax_on n _)
    unfold ax_on
    exact dq_HH.wait I.h8 4000 ((ih.deed I RT.1 hd).st (by decide))
theorem dq_hands_lv {b : Nat} : dq_lv (ax_hands t w) b = dq_lv w b := rfl
theorem dq_hands_pl {b : Nat} : dq_pl (ax_hands t w) b = dq_pl w b := rfl
theorem ax_hands_2 (hp : dq_pl w 0 < 144) : ax_hands t (ax_hands t w) = ax_hands t w := by
  funext q k
  show dq_mv (-1) (nI (dq_pl w 0)) t (dq_mv (-1) (nI (dq_pl w 0)) t w) q k = _
  show (if q = 25 ∧ k < t ∧ dq_mv (-1) (nI (dq_pl w 0)) t w 25 k = -1 then _ else dq_mv (-1) (nI (dq_pl w 0)) t w q k) = dq_mv (-1) (nI (dq_pl w 0)) t w q k
  rw [if_neg]
  rintro ⟨_, hk, e⟩
  unfold dq_mv at e
  by_cases g : w 25 k = -1
  · rw [if_pos ⟨rfl, hk, g⟩] at e
    exact dq_m1' (by omega) e
  · rw [if_neg fun h => g h.2.2] at e
    exact g e
theorem dq_RP.nw_I (P : dq_RP n t l m W0 D) : dq_IV n t l (dq_nw n t m W0 D) := by
  have I := (P.at m (Nat.le_refl _)).1.1.1
  unfold dq_nw
  by_cases g : dq_lv (dq_ch n t W0 D m) 0
  · rw [dq_if_t g]; exact I
  · rw [dq_if_f g]; exact ax_hands_I I
/-- what happens when the hero may have died -/
theorem kx_settle (H : dq_WR w (s 2)) (I : dq_IV n t l w) (k1 : dq_lv w 0 → J s)
    (k0 : ¬ dq_lv w 0 → ∀ u, dq_WR (ax_hands t w) (u 2) → (∀ i, i < 24 → u 0 46 i = dq_bp w t i) → u 0 45 1 = nI (dq_pl w 0) → u 0 40 5 = 100 → (∀ k, k ≠ 5 → u 0 40 k = s 0 40 k) → (∀ b, b ≠ 40 → b ≠ 45 → b ≠ 46 → u 0 b = s 0 b) → (∀ a, a ≠ 0 → a ≠ 2 → u a = s a) → J u) : wf_X8_settle s J := by
  unfold wf_X8_settle
  refine kw_lives (b := 0) H (by decide) (fun h => dq_1' (k1 h)) (fun h => dq_0' (kw_note (by decide) H I fun u1 b1 f1 sp1 => ?_))
  have e2 : u1 2 = s 2 := funext fun b => f1 2 b (Or.inl (by decide))
  have H1 : dq_WR w (u1 2) := by rw [e2]; exact H
  refine kw_layHands H1 I fun u2 H2 f2 => nm_e (k0 h _ ?_ (fun i hi => ?_) ?_ ?_ (fun k hk => ?_) (fun b h1 h2 h3 => ?_) (fun a h0 h2 => ?_))
  · have : dk_row u2 0 40 (upd (u2 0 40) 5 100) 2 = u2 2 := funext fun b => dq_row_r (Or.inl (by decide))
    rw [this]; exact H2
  · rw [dq_row_r (Or.inr (by decide)), f2 0 (by decide)]; exact b1 i hi
  · rw [dq_row_r (Or.inr (by decide)), f2 0 (by decide)]; exact sp1
  · rw [dq_set_row, dq_set_eq]
  · rw [dq_set_row, dq_set_ne (Or.inr hk), f2 0 (by decide), f1 0 40 (Or.inr (by decide))]
  · rw [dq_row_r (Or.inr h1), f2 0 (by decide), f1 0 b (Or.inr ⟨h2, h3⟩)]
  · funext b
    rw [dq_row_r (Or.inl h0), f2 a h2, f1 a b (Or.inl h0)]
theorem dq_RP.nw_a (P : dq_RP n t l m W0 D) (h : dq_lv (dq_ch n t W0 D m) 0) : dq_nw n t m W0 D = dq_ch n t W0 D m := dq_if_t h
def dq_up3 (D : Nat → Nat × Nat × Nat) (m d a b : Nat) : Nat → Nat × Nat × Nat := fun i => if i = m then (d, a, b) else D i
theorem dq_up3_m {d a b : Nat} : dq_up3 D m d a b m = (d, a, b) := if_pos rfl
theorem dq_up3_lt {d a b i : Nat} (h : i < m) : dq_up3 D m d a b i = D i := if_neg (by omega)
theorem dq_ch_up {d a b : Nat} {k : Nat} (h : k ≤ m) : dq_ch n t W0 (dq_up3 D m d a b) k = dq_ch n t W0 D k := dq_ch_e k fun i hi => dq_up3_lt (by omega)
theorem dq_ch_up1 {d a b : Nat} : dq_ch n t W0 (dq_up3 D m d a b) (m + 1) = ax_on n (ax_deed n t d a b (dq_ch n t W0 D m)).2 := by
  show ax_on n (ax_deed n t (dq_up3 D m d a b m).1 (dq_up3 D m d a b m).2.1 (dq_up3 D m d a b m).2.2 (dq_ch n t W0 (dq_up3 D m d a b) m)).2 = _
  rw [dq_up3_m, dq_ch_up (Nat.le_refl _)]
theorem dq_an_up {d a b i : Nat} (h : i < m) : dq_an n t W0 (dq_up3 D m d a b) i = dq_an n t W0 D i := by
  unfold dq_an
  rw [dq_up3_lt h, dq_ch_up (by omega)]
theorem dq_RP.next (P : dq_RP n t l m W0 D) {d a b : Nat} (hm : m < 512) (RT : dq_RT n (dq_ch n t W0 D m)) (hd : dq_DV t d a b (dq_ch n t W0 D m)) (hn : (ax_deed n t d a b (dq_ch n t W0 D m)).1 ≠ -1000000) : dq_RP n t l (m + 1) W0 (dq_up3 D m d a b) := by
  refine ⟨P.1, by omega, fun i hi => ?_⟩
  by_cases e : i = m
  · subst e
    unfold dq_an
    rw [dq_up3_m, dq_ch_up (Nat.le_refl _)]
    exact ⟨RT, hd, hn⟩
  · rw [dq_an_up (by omega), dq_up3_lt (by omega), dq_ch_up (by omega)]
    exact P.2.2 i (by omega)
theorem dq_AG.next (P : dq_RP n t l m W0 D) {d a b : Nat} (RT : dq_RT n (dq_ch n t W0 D m)) (h : dq_AG n t m r W0 D A) : dq_AG n t (m + 1) r W0 (dq_up3 D m d a b) A := by
  obtain ⟨hr, g⟩ := h
  refine ⟨by omega, ?_⟩
  rcases g with g | g | ⟨g, _⟩
  · exact Or.inl g
  · exact Or.inr (Or.inl (by rw [dq_ch_up hr]; exact g))
  · exact absurd RT.1 g
/-- an act *of* the hero whose turn it is -/
theorem kx_act {d a b : Nat} (P : dq_RP n t l m W0 D) (S : kq_S n t m r W0 A D s) (hm : m < 512) (RT : dq_RT n (dq_ch n t W0 D m)) (hd : dq_DV t d a b (dq_ch n t W0 D m))
    (k0 : (ax_deed n t d a b (dq_ch n t W0 D m)).1 = -1000000 → ∀ u, kq_S n t m r W0 A D u → dq_fr 2 s u → K (-1000000) u)
    (k1 : (ax_deed n t d a b (dq_ch n t W0 D m)).1 ≠ -1000000 → dq_RP n t l (m + 1) W0 (dq_up3 D m d a b) → ∀ u, kq_S n t (m + 1) r W0 A (dq_up3 D m d a b) u → (∀ a, a ≠ 0 → a ≠ 2 → u a = s a) →
      ((dq_lv (dq_ch n t W0 (dq_up3 D m d a b) (m + 1)) 0 ∧ u 0 40 5 = s 0 40 5 ∧ u 0 45 = s 0 45 ∧ u 0 46 = s 0 46) ∨ (¬ dq_lv (dq_ch n t W0 (dq_up3 D m d a b) (m + 1)) 0 ∧ u 0 40 5 = 100 ∧ (∀ i, i < 24 → u 0 46 i = dq_bp (dq_ch n t W0 (dq_up3 D m d a b) (m + 1)) t i) ∧ u 0 45 1 = nI (dq_pl (dq_ch n t W0 (dq_up3 D m d a b) (m + 1)) 0))) →
      K (ax_deed n t d a b (dq_ch n t W0 D m)).1 u) : wf_X8_act (nI d) (nI a) (dq_bI b) s K := by
  unfold wf_X8_act
  obtain ⟨⟨JV, JX⟩, _⟩ := P.at m (Nat.le_refl _)
  obtain ⟨⟨H2, hD1, hD2⟩, H3, h6, hA⟩ := S
  rw [P.nw_a RT.1] at H2
  refine kw_perform H2 JV.1 hd fun u1 H1 f1 => ?_
  have e0 : u1 0 = s 0 := f1 0 (by decide)
  by_cases hno : (ax_deed n t d a b (dq_ch n t W0 D m)).1 = -1000000
  · have ew := (ax_deed_no (l := l) JX JV RT.1 (by omega) hd hno).2
    have ep : (ax_perform n t d a b (dq_ch n t W0 D m)).2 = dq_ch n t W0 D m := (dq_if_t hno).trans ew
    rw [ep] at H1
    have k := k0 hno u1 ⟨⟨by rw [P.nw_a RT.1]; exact H1, by rw [kq_D, e0]; exact ⟨hD1, hD2⟩⟩, by rw [f1 3 (by decide)]; exact H3, by rw [e0]; exact h6, hA⟩ f1
    exact br_t hno (dq_ke hno k)
  · have ep : (ax_perform n t d a b (dq_ch n t W0 D m)).2 = dq_set (ax_deed n t d a b (dq_ch n t W0 D m)).2 19 0 ((ax_deed n t d a b (dq_ch n t W0 D m)).2 19 0 - 12) := dq_if_f hno
    rw [ep] at H1
    have P' := P.next hm RT hd hno
    have J1 := ax_deed_J JV RT hd
    have J2 := dq_spend_J J1.1 J1.2
    refine br_f hno (kx_logAdd (m := m) (by rw [e0]; exact hD1) hm fun u2 g1 g2 g3 g4 g5 g6 => ?_)
    have H2' : dq_WR (dq_set (ax_deed n t d a b (dq_ch n t W0 D m)).2 19 0 ((ax_deed n t d a b (dq_ch n t W0 D m)).2 19 0 - 12)) (u2 2) := by
      have : u2 2 = u1 2 := funext fun b => g1 2 b (Or.inl (by decide))
      rw [this]; exact H1
    refine kw_waitForHero (k := 4000) (by decide) H2' J2.1 (dq_rests_J J2) fun u3 H3' f3 => ?_
    have ec : ax_wait n 4000 (dq_set (ax_deed n t d a b (dq_ch n t W0 D m)).2 19 0 ((ax_deed n t d a b (dq_ch n t W0 D m)).2 19 0 - 12)) = dq_ch n t W0 (dq_up3 D m d a b) (m + 1) := dq_ch_up1.symm
    rw [ec] at H3'
    obtain ⟨⟨JV', _⟩, _⟩ := P'.at (m + 1) (Nat.le_refl _)
    have e3 : u3 0 = u2 0 := f3 0 (by decide)
    -- what is common
    have com : ∀ u, u 0 41 = u2 0 41 → u 0 42 = u2 0 42 → u 0 43 = u2 0 43 → u 0 44 = u2 0 44 → u 0 40 6 = s 0 40 6 → u 3 = s 3 → dq_WR (dq_nw n t (m + 1) W0 (dq_up3 D m d a b)) (u 2) → kq_S n t (m + 1) r W0 A (dq_up3 D m d a b) u := by
      intro u c1 c2 c3 c4 c5 c6 c7
      refine ⟨⟨c7, by rw [c1]; exact g2, fun i hi => ?_⟩, by rw [c6]; exact H3, by rw [c5]; exact h6, dq_AG.next P RT hA⟩
      rw [c2, c3, c4]
      by_cases e : i = m
      · subst e
        rw [dq_up3_m]
        exact ⟨g3, g4, g5⟩
      · rw [dq_up3_lt (by omega), g6 42 i (by decide) (by decide) (by omega), g6 43 i (by decide) (by decide) (by omega), g6 44 i (by decide) (by decide) (by omega), e0]
        exact hD2 i (by omega)
    have e23 : ∀ a, a ≠ 0 → a ≠ 2 → u3 a = s a := fun a h0 h2 => by
      rw [f3 a h2, ← f1 a h2]; exact funext fun b => g1 a b (Or.inl h0)
    have e40 : u2 0 40 = s 0 40 := by rw [← e0]; exact g1 0 40 (Or.inr (by decide))
    refine kx_settle H3' JV'.1 (fun hl => ?_) (fun hl u4 q1 q2 q3 q4 q5 q6 q7 => ?_)
    · refine k1 hno P' u3 (com u3 (by rw [e3]) (by rw [e3]) (by rw [e3]) (by rw [e3]) (by rw [e3, e40]) (e23 3 (by decide) (by decide)) ?_) e23 (Or.inl ⟨hl, by rw [e3, e40], ?_, ?_⟩)
      · rw [P'.nw_a hl]; exact H3'
      · rw [e3, ← e0]; exact g1 0 45 (Or.inr (by decide))
      · rw [e3, ← e0]; exact g1 0 46 (Or.inr (by decide))
    · refine k1 hno P' u4 (com u4 ?_ ?_ ?_ ?_ ?_ ?_ ?_) (fun a h0 h2 => by rw [q7 a h0 h2]; exact e23 a h0 h2) (Or.inr ⟨hl, q4, q2, q3⟩)
      · rw [q6 41 (by decide) (by decide) (by decide), e3]
      · rw [q6 42 (by decide) (by decide) (by decide), e3]
      · rw [q6 43 (by decide) (by decide) (by decide), e3]
      · rw [q6 44 (by decide) (by decide) (by decide), e3]
      · rw [q5 6 (by decide), e3, e40]
      · rw [q7 3 (by decide) (by decide)]; exact e23 3 (by decide) (by decide)
      · have : dq_nw n t (m + 1) W0 (dq_up3 D m d a b) = ax_hands t (dq_ch n t W0 (dq_up3 D m d a b) (m + 1)) := dq_if_f hl
        rw [this]; exact q1
/-- all deeds *of* the log are done again -/
theorem kx_redo (P : dq_RP n t l m W0 D) (S : kq_S n t m r W0 A D s) (k : ∀ u, kq_S n t m m W0 (dq_nw n t m W0 D) D u → (∀ a, a ≠ 0 → a ≠ 3 → u a = s a) → (∀ b, b ≠ 40 → u 0 b = s 0 b) → u 0 40 5 = s 0 40 5 → J u) : wf_X8_redo s J := by
  unfold wf_X8_redo
  obtain ⟨⟨H2, hD1, hD2⟩, H3, h6, hr, hA⟩ := S
  have hm := P.2.1
  -- the end, where all is done
  have fin : ∀ u, u 2 = s 2 → kq_D m D u → dq_WR (dq_nw n t m W0 D) (u 3) → u 0 40 6 = nI m → kq_S n t m m W0 (dq_nw n t m W0 D) D u := fun u c2 cD c3 c6 => by
    refine ⟨⟨by rw [c2]; exact H2, cD⟩, c3, c6, Nat.le_refl _, ?_⟩
    by_cases g : dq_lv (dq_ch n t W0 D m) 0
    · exact Or.inr (Or.inl (P.nw_a g))
    · exact Or.inr (Or.inr ⟨g, rfl, dq_if_f g⟩)
  have last : ∀ u, (dq_WR (dq_ch n t W0 D m) (u 3) ∨ (¬ dq_lv (dq_ch n t W0 D m) 0 ∧ dq_WR (ax_hands t (dq_ch n t W0 D m)) (u 3))) → (∀ a, a ≠ 0 → a ≠ 3 → u a = s a) → (∀ b, b ≠ 40 → u 0 b = s 0 b) → u 0 40 5 = s 0 40 5 → u 0 40 6 = nI m →
      wf_X2_lives 3 0 u (fun r4 s3 => ((¬ r4 = 0 → J s3) ∧ (r4 = 0 → wf_X7_layHands 3 s3 (fun s5 => J s5)))) := by
    intro u hu fa fb f5 f6
    have cD : ∀ v, v 0 = u 0 → kq_D m D v := fun v e => by
      unfold kq_D
      rw [e, fb 41 (by decide), fb 42 (by decide), fb 43 (by decide), fb 44 (by decide)]
      exact ⟨hD1, hD2⟩
    have IC := (P.at m (Nat.le_refl _)).1.1.1
    rcases hu with hu | ⟨g, hu⟩
    · refine kw_lives (b := 0) hu (by decide) (fun g => dq_1' (k u (fin u (fa 2 (by decide) (by decide)) (cD u rfl) (by rw [P.nw_a g]; exact hu) f6) fa fb f5)) (fun g => dq_0' (kw_layHands hu IC fun v Hv fv => ?_))
      have e0 : v 0 = u 0 := fv 0 (by decide)
      refine k v (fin v ?_ (cD v e0) ?_ (by rw [e0]; exact f6)) (fun a h0 h3 => by rw [fv a h3]; exact fa a h0 h3) (fun b hb => by rw [e0]; exact fb b hb) (by rw [e0]; exact f5)
      · rw [fv 2 (by decide)]; exact fa 2 (by decide) (by decide)
      · have : dq_nw n t m W0 D = ax_hands t (dq_ch n t W0 D m) := dq_if_f g
        rw [this]; exact Hv
    · refine kw_lives (b := 0) hu (by decide) (fun g2 => absurd g2 g) (fun _ => dq_0' (kw_layHands hu (ax_hands_I IC) fun v Hv fv => ?_))
      have e0 : v 0 = u 0 := fv 0 (by decide)
      rw [ax_hands_2 (IC.pl 0 (by decide)).1] at Hv
      refine k v (fin v ?_ (cD v e0) ?_ (by rw [e0]; exact f6)) (fun a h0 h3 => by rw [fv a h3]; exact fa a h0 h3) (fun b hb => by rw [e0]; exact fb b hb) (by rw [e0]; exact f5)
      · rw [fv 2 (by decide)]; exact fa 2 (by decide) (by decide)
      · have : dq_nw n t m W0 D = ax_hands t (dq_ch n t W0 D m) := dq_if_f g
        rw [this]; exact Hv
  -- from a world at rest on
  have run : ∀ u, dq_WR (dq_ch n t W0 D r) (u 3) → dq_fr 3 s u → ∃ nn, wf_X8_redo_7 J (fun (s2 : dk_S) => wf_X2_lives 3 0 s2 (fun r4 s3 => ((¬ r4 = 0 → J s3) ∧ (r4 = 0 → wf_X7_layHands 3 s3 (fun s5 => J s5))))) nn u := by
    intro u hu fu
    have eu : u 0 = s 0 := fu 0 (by decide)
    refine ⟨m - r + 1, loop_i (fun f i v => wf_X8_redo_7 J (fun (s2 : dk_S) => wf_X2_lives 3 0 s2 (fun r4 s3 => ((¬ r4 = 0 → J s3) ∧ (r4 = 0 → wf_X7_layHands 3 s3 (fun s5 => J s5))))) f v) (fun i v => dq_WR (dq_ch n t W0 D i) (v 3) ∧ (∀ a, a ≠ 0 → a ≠ 3 → v a = s a) ∧ (∀ b, b ≠ 40 → v 0 b = s 0 b) ∧ v 0 40 5 = s 0 40 5 ∧ v 0 40 6 = nI i) m ?_ ?_ (m - r + 1) r u hr (by omega) ⟨hu, fun a h0 h3 => fu a h3, fun b _ => by rw [eu], by rw [eu], by rw [eu]; exact h6⟩⟩
    · rintro f v ⟨a1, a2, a3, a4, a5⟩
      show wf_X8_redo_7 J _ (f + 1) v
      unfold wf_X8_redo_7
      rw [a3 41 (by decide), hD1, a5]
      exact br_t (nI_le (Nat.le_refl _) (by omega)) (last v (Or.inl a1) a2 a3 a4 a5)
    · rintro f i v hi ⟨a1, a2, a3, a4, a5⟩ next
      show wf_X8_redo_7 J _ (f + 1) v
      unfold wf_X8_redo_7
      obtain ⟨RT, hd, hn⟩ := P.2.2 i hi
      obtain ⟨⟨JV, JX⟩, _⟩ := P.at i (by omega)
      have d3 := hD2 i hi
      rw [a3 41 (by decide), hD1, a5]
      refine br_f (nI_ge hi (by omega)) (kx_at (show i < 512 by omega) (by decide) ?_)
      rw [a5]
      refine kx_at (show i < 512 by omega) (by decide) ?_
      rw [a5]
      refine kx_at (show i < 512 by omega) (by decide) ?_
      rw [a3 42 (by decide), a3 43 (by decide), a3 44 (by decide), d3.1, d3.2.1, d3.2.2]
      refine kw_perform a1 JV.1 hd fun v1 H1 f1 => ?_
      have ep : (ax_perform n t (D i).1 (D i).2.1 (D i).2.2 (dq_ch n t W0 D i)).2 = dq_set (ax_deed n t (D i).1 (D i).2.1 (D i).2.2 (dq_ch n t W0 D i)).2 19 0 ((ax_deed n t (D i).1 (D i).2.1 (D i).2.2 (dq_ch n t W0 D i)).2 19 0 - 12) := dq_if_f hn
      rw [ep] at H1
      have J1 := ax_deed_J JV RT hd
      have J2 := dq_spend_J J1.1 J1.2
      refine kw_waitForHero (k := 4000) (by decide) H1 J2.1 (dq_rests_J J2) fun v2 H2' f2 => nm_e ?_
      have e0 : v2 0 = v 0 := (f2 0 (by decide)).trans (f1 0 (by decide))
      rw [e0, a5, nI_1]
      refine next _ ⟨?_, fun a h0 h3 => ?_, fun b hb => ?_, ?_, ?_⟩
      · have : dk_row v2 0 40 (upd (v 0 40) 6 (nI (i + 1))) 3 = v2 3 := funext fun b => dq_row_r (Or.inl (by decide))
        rw [this]; exact H2'
      · funext b
        rw [dq_row_r (Or.inl h0), f2 a h3, f1 a h3, a2 a h0 h3]
      · rw [dq_row_r (Or.inr hb), e0]; exact a3 b hb
      · rw [dq_row_self]
        show upd (v 0 40) 6 (nI (i + 1)) 5 = _
        unfold upd
        rw [if_neg (by decide)]; exact a4
      · rw [dq_row_self]
        show upd (v 0 40) 6 (nI (i + 1)) 6 = _
        unfold upd
        exact if_pos rfl
  rcases hA with ⟨rfl, rfl⟩ | rfl | ⟨g, rfl, rfl⟩
  · exact kw_waitForHero (k := 4000) (by decide) H3 P.1.1.1 (dq_rests_J P.1.1) fun u Hu fu => run u Hu fu
  · exact kw_waitForHero (k := 0) (by decide) H3 (P.at r hr).1.1.1 (P.at r hr).2 fun u Hu fu => run u Hu fu
  · refine kw_waitForHero (k := 0) (by decide) H3 (ax_hands_I (P.at r hr).1.1.1) (Or.inl g) fun u Hu fu => ⟨1, ?_⟩
    have eu : u 0 = s 0 := fu 0 (by decide)
    unfold wf_X8_redo_7
    rw [eu, hD1, h6]
    exact br_t (nI_le (Nat.le_refl _) (by omega)) (last u (Or.inr ⟨g, Hu⟩) (fun a _ h3 => fu a h3) (fun b _ => by rw [eu]) (by rw [eu]) (by rw [eu]; exact h6))
end DQK
