/-! each act: refused, of no use, or done -/
def dp_A (n t m : Nat) (T W0 : dq_W) (D : Nat → Nat × Nat × Nat) (B : Nat → Int32) (sp : Int32) (w : dk_S → (Int32 → dk_S → Prop) → (String → dk_S → Prop) → Prop) : Prop :=
  (∃ E, (E = eNS ∨ E = eUO) ∧ ∀ r A s K X, dq_Kf n t m r 111 T W0 A D B sp s → X E s → w s K X) ∨
  (∀ r A s K X, dq_Kf n t m r 111 T W0 A D B sp s → (∀ v, dq_Kf n t m r 111 T W0 A D B sp v → K 98 v) → w s K X) ∨
  ∃ d a b x, dq_DV t d a b (dq_ch n t W0 D m) ∧ (ax_deed n t d a b (dq_ch n t W0 D m)).1 ≠ -1000000 ∧ (dp_CW t (dq_ch n t W0 D m) → dp_CW t (ax_deed n t d a b (dq_ch n t W0 D m)).2) ∧ -1001 < x ∧
    ∀ r A s K X, dq_Kf n t m r 111 T W0 A D B sp s → (∀ v, dp_K n t (m + 1) r T W0 A (dq_up3 D m d a b) B sp v → K x v) → w s K X
section DPD
variable {n t l m r : Nat} {st sp : Int32} {T W0 A : dq_W} {D : Nat → Nat × Nat × Nat} {B : Nat → Int32} {s u v : dk_S}
theorem dp_gt {a : Nat} (h : a < 2 ^ 31) : (-1001 : Int32) < nI a := by
  rw [Int32.lt_iff_toInt_lt, nI_toInt h]
  have : (-1001 : Int32).toInt = -1001 := rfl
  omega
theorem dp_gtR {lo hi : Int} {x : Int32} (h : dj_R lo hi x) (h1 : -1001 < lo) : (-1001 : Int32) < x := by
  rw [Int32.lt_iff_toInt_lt]
  have : (-1001 : Int32).toInt = -1001 := rfl
  have := h.1
  omega
theorem dp_sum1 {P : Nat → Prop} {k : Nat} (hk : k ≤ 24) : ∃ a, a ≤ 9 * k ∧ dq_sum P (fun _ => 1) k = nI a := dp_sum_N k hk (fun _ _ => ⟨by decide, by decide⟩)
/-- done, at no change of what is carried but to less -/
theorem dp_A_of {d a b : Nat} {x : Int32} {w : dk_S → (Int32 → dk_S → Prop) → (String → dk_S → Prop) → Prop} (P : dq_P n t l m m 111 T W0 D B sp) (hm : m < 512) (hd : dq_DV t d a b (dq_ch n t W0 D m)) (hno : (ax_deed n t d a b (dq_ch n t W0 D m)).1 ≠ -1000000) (h2 : d ≠ 2) (h4 : d ≠ 4) (hx : -1001 < x)
    (h : ∀ r A s K X, dq_Kf n t m r 111 T W0 A D B sp s → (∀ v, dp_K n t (m + 1) r T W0 A (dq_up3 D m d a b) B sp v → K x v) → w s K X) : dp_A n t m T W0 D B sp w := by
  obtain ⟨JV, JX, RT, HH⟩ := dp_JV P
  exact Or.inr (Or.inr ⟨d, a, b, x, hd, hno, fun H => H.T JV.1 JX (dp_T.deed JV.1 hd h2 h4), hx, h⟩)
theorem dp_go {a : Nat} (ha : a < 4) (P : dq_P n t l m m 111 T W0 D B sp) (hm : m < 512) : dp_A n t m T W0 D B sp (wf_X8_go (nI a)) := by
  have hd : dq_DV t 0 a 0 (dq_ch n t W0 D m) := Or.inl ⟨rfl, ha⟩
  by_cases hno : (ax_deed n t 0 a 0 (dq_ch n t W0 D m)).1 = -1000000
  · refine Or.inr (Or.inl fun r A s K X Kf k => ?_)
    unfold wf_X8_go
    refine kz_checkWay (fun _ => kz_checkWorld (fun _ => ?_) (fun g => absurd Kf.2.1 g)) (fun g => absurd (mr_in_3 ha rfl) g)
    exact dp_act0 P hm hd hno r A s Kf _ (fun v hv => ⟨fun g => absurd rfl g, fun _ => k v hv⟩)
  · have ans := (ax_go_ans (n := n) (t := t) (w := dq_ch n t W0 D m) (a := a)).resolve_left hno
    have e16 : ((ax_deed n t 0 a 0 (dq_ch n t W0 D m)).1.toUInt32 % 65536).toInt32 = (ax_deed n t 0 a 0 (dq_ch n t W0 D m)).1 := by
      rcases ans with g | g | g <;> rw [g] <;> decide
    refine dp_A_of (x := (ax_deed n t 0 a 0 (dq_ch n t W0 D m)).1) P hm hd hno (by decide) (by decide) (by rcases ans with g | g | g <;> rw [g] <;> decide) (fun r A s K X Kf k => ?_)
    unfold wf_X8_go
    refine kz_checkWay (fun _ => kz_checkWorld (fun _ => ?_) (fun g => absurd Kf.2.1 g)) (fun g => absurd (mr_in_3 ha rfl) g)
    refine (dp_act P hm hd hno).2 r A s Kf _ (fun v hv => ⟨fun _ => ?_, fun g => absurd g hno⟩)
    rw [e16]
    refine ⟨?_, k v hv⟩
    rcases ans with g | g | g <;> rw [g] <;> decide
theorem dp_K_nw {r : Nat} (hv : dp_K n t m r T W0 A D B sp v) : dq_WR (dq_nw n t m W0 D) (v 2) := by
  have : ¬ dp_st n t m W0 D = 110 := by
    unfold dp_st
    by_cases g : dq_lv (dq_ch n t W0 D m) 0
    · rw [dq_if_t g]; decide
    · rw [dq_if_f g]; decide
  exact (hv.2.2.2 this).1.1
theorem dp_rest (h0 : dp_W0 W0) (P : dq_P n t l m m 111 T W0 D B sp) (hm : m < 511) : dp_A n t m T W0 D B sp wf_X8_rest := by
  have hd : dq_DV t 1 0 0 (dq_ch n t W0 D m) := Or.inr (Or.inl rfl)
  have hno := dp_no P (by omega) hd (by decide)
  have act := dp_act P (by omega) hd hno
  have P' := act.1
  have hn : ¬ dp_st n t (m + 1) W0 (dq_up3 D m 1 0 0) = 110 := by
    unfold dp_st
    by_cases g : dq_lv (dq_ch n t W0 (dq_up3 D m 1 0 0) (m + 1)) 0
    · rw [dq_if_t g]; decide
    · rw [dq_if_f g]; decide
  obtain ⟨τ, h1, h2, h3⟩ := dp_tk_ch h0 (P'.2.2.2 hn).1 (m + 1) (Nat.le_refl _)
  refine dp_A_of (x := nI τ) P (by omega) hd hno (by decide) (by decide) (dp_gt (by omega)) (fun r A s K X Kf k => ?_)
  unfold wf_X8_rest
  refine kz_checkWorld (fun _ => act.2 r A s Kf _ (fun v hv => ?_)) (fun g => absurd Kf.2.1 g)
  exact dq_ke (((dp_K_nw hv).f0 (by decide) (by decide)).trans (dp_nw5 h3)) (k v hv)
theorem dp_pray (P : dq_P n t l m m 111 T W0 D B sp) (hm : m < 100) : dp_A n t m T W0 D B sp wf_X8_pray := by
  have hd : dq_DV t 8 0 0 (dq_ch n t W0 D m) := Or.inr (Or.inr (Or.inr (Or.inr (Or.inr (Or.inr (Or.inr rfl))))))
  have hno := dp_no P (by omega) hd (by decide)
  have act := dp_act P (by omega) hd hno
  have JX := (dp_JV P).2.1.deed (n := n) (by omega) hd
  refine dp_A_of (x := (ax_deed n t 8 0 0 (dq_ch n t W0 D m)).1) P (by omega) hd hno (by decide) (by decide) (dp_gtR JX.2.2.1 (by omega)) (fun r A s K X Kf k => ?_)
  unfold wf_X8_pray
  exact kz_checkWorld (fun _ => act.2 r A s Kf _ (fun v hv => k v hv)) (fun g => absurd Kf.2.1 g)
theorem dp_shout {a : Nat} (h1 : 1 ≤ a) (h30 : a ≤ 30) (P : dq_P n t l m m 111 T W0 D B sp) (hm : m < 512) : dp_A n t m T W0 D B sp (wf_X8_shout (nI a)) := by
  have hd : dq_DV t 7 a 0 (dq_ch n t W0 D m) := Or.inr (Or.inr (Or.inr (Or.inr (Or.inr (Or.inr (Or.inl ⟨rfl, by omega⟩))))))
  have hno := dp_no P hm hd (by decide)
  have act := dp_act P hm hd hno
  have hx : mr_in (nI a) 1 30 := ⟨nI_nlt (b := 1) h1 (by omega), nI_nlt (a := 30) h30 (by decide)⟩
  have n8 := P.1.1.h8
  obtain ⟨c, hc, ec⟩ := dp_sum1 (P := dq_hd (dq_ch n t W0 D m) (dq_pl (dq_ch n t W0 D m) 0) a) (k := n) (by omega)
  refine dp_A_of (x := nI c) P hm hd hno (by decide) (by decide) (dp_gt (by omega)) (fun r A s K X Kf k => ?_)
  unfold wf_X8_shout
  exact kz_checkRange (fun _ => kz_checkWorld (fun _ => act.2 r A s Kf _ (fun v hv => dq_ke ec (k v hv))) (fun g => absurd Kf.2.1 g)) (fun g => absurd hx g)
theorem dp_cwN {w : dq_W} {o : Int32} {i : Nat} (I : dq_IV n t l w) (J : dq_JX o i w) : ∃ a, a ≤ 216 ∧ dq_cw w t = nI a := by
  have ht := I.t24
  obtain ⟨a, h1, h2⟩ := dp_sum_N (P := dq_cr w) t ht (dp_wt I J)
  exact ⟨a, by omega, h2⟩
theorem dp_drop {a : Nat} (ha : a < t) (P : dq_P n t l m m 111 T W0 D B sp) (hm : m < 512) : dp_A n t m T W0 D B sp (wf_X8_drop (nI a)) := by
  have t24 := P.1.1.t24
  obtain ⟨JV, JX, RT, HH⟩ := dp_JV P
  by_cases h3 : dq_ch n t W0 D m 25 a = -1
  · have hd : dq_DV t 3 a 0 (dq_ch n t W0 D m) := Or.inr (Or.inr (Or.inl ⟨Or.inr rfl, ha⟩))
    have hno := dp_no P hm hd (by decide)
    have act := dp_act P hm hd hno
    obtain ⟨c, hc, ec⟩ := dp_cwN (ax_deed_I JV.1 hd) (JX.deed (n := n) (by omega) hd)
    refine dp_A_of (x := nI c) P hm hd hno (by decide) (by decide) (dp_gt (by omega)) (fun r A s K X Kf k => ?_)
    unfold wf_X8_drop
    refine kz_checkThing (dz_et P Kf) t24 (fun _ => kz_checkWorld (fun _ => ?_) (fun g => absurd Kf.2.1 g)) (fun g => absurd ⟨a, ha, rfl⟩ g)
    exact kz_checkInHands (dz_W2 P Kf) (show a < 24 by omega) (fun _ => act.2 r A s Kf _ (fun v hv => dq_ke ec (k v hv))) (fun g => absurd h3 g)
  · refine Or.inl ⟨eNS, Or.inl rfl, fun r A s K X Kf k => ?_⟩
    unfold wf_X8_drop
    refine kz_checkThing (dz_et P Kf) t24 (fun _ => kz_checkWorld (fun _ => ?_) (fun g => absurd Kf.2.1 g)) (fun g => absurd ⟨a, ha, rfl⟩ g)
    exact kz_checkInHands (dz_W2 P Kf) (show a < 24 by omega) (fun g => absurd g h3) (fun _ => k)
theorem dp_take {a : Nat} (ha : a < t) (P : dq_P n t l m m 111 T W0 D B sp) (hm : m < 512) : dp_A n t m T W0 D B sp (wf_X8_take (nI a)) := by
  have t24 := P.1.1.t24
  obtain ⟨JV, JX, RT, HH⟩ := dp_JV P
  have h14 := (JV.1.pl 0 (by decide)).2
  have pre : ∀ r A s, dq_Kf n t m r 111 T W0 A D B sp s → ∀ (K : Int32 → dk_S → Prop) (X : String → dk_S → Prop), (dq_ch n t W0 D m 25 a = dq_ch n t W0 D m 14 0 → (dq_cw (dq_ch n t W0 D m) t + dq_sum (fun i => dq_wi (dq_ch n t W0 D m) a 24 i) (dq_wt (dq_ch n t W0 D m)) t ≤ 30 → wf_X8_act 2 (nI a) 0 s (fun r12 s11 => K r12 s11)) ∧ (¬ dq_cw (dq_ch n t W0 D m) t + dq_sum (fun i => dq_wi (dq_ch n t W0 D m) a 24 i) (dq_wt (dq_ch n t W0 D m)) t ≤ 30 → X eUO s)) → (¬ dq_ch n t W0 D m 25 a = dq_ch n t W0 D m 14 0 → X eNS s) → wf_X8_take (nI a) s K X := fun r A s Kf K X k1 k2 => by
    have W2 := dz_W2 P Kf
    unfold wf_X8_take
    refine kz_checkThing (dz_et P Kf) t24 (fun _ => kz_checkWorld (fun _ => ?_) (fun g => absurd Kf.2.1 g)) (fun g => absurd ⟨a, ha, rfl⟩ g)
    refine kw_at24 W2 (show a < 24 by omega) (Or.inr rfl) (kw_heroSpot W2 JV.1.pl ?_)
    rw [← h14]
    exact ⟨fun g => kw_carriedWeight W2 JV.1 (kw_wholeWeight (show a < 24 by omega) W2 JV.1 (k1 g)), k2⟩
  by_cases h3 : dq_ch n t W0 D m 25 a = dq_ch n t W0 D m 14 0
  · by_cases h4 : dq_cw (dq_ch n t W0 D m) t + dq_sum (fun i => dq_wi (dq_ch n t W0 D m) a 24 i) (dq_wt (dq_ch n t W0 D m)) t ≤ 30
    · have hd : dq_DV t 2 a 0 (dq_ch n t W0 D m) := Or.inr (Or.inr (Or.inl ⟨Or.inl rfl, ha⟩))
      have hno := dp_no P hm hd (by decide)
      have act := dp_act P hm hd hno
      obtain ⟨c, hc, ec⟩ := dp_cwN (ax_deed_I JV.1 hd) (JX.deed (n := n) (by omega) hd)
      exact Or.inr (Or.inr ⟨2, a, 0, nI c, hd, hno, fun _ => dp_CW.take JV.1 JX h4, dp_gt (by omega), fun r A s K X Kf k => pre r A s Kf K X (fun _ => ⟨fun _ => act.2 r A s Kf _ (fun v hv => dq_ke ec (k v hv)), fun g => absurd h4 g⟩) (fun g => absurd h3 g)⟩)
    · exact Or.inl ⟨eUO, Or.inr rfl, fun r A s K X Kf k => pre r A s Kf K X (fun _ => ⟨fun g => absurd g h4, fun _ => k⟩) (fun g => absurd h3 g)⟩
  · exact Or.inl ⟨eNS, Or.inl rfl, fun r A s K X Kf k => pre r A s Kf K X (fun g => absurd g h3) (fun _ => k)⟩
theorem dp_drink {a : Nat} (ha : a < t) (P : dq_P n t l m m 111 T W0 D B sp) (hm : m < 512) : dp_A n t m T W0 D B sp (wf_X8_drink (nI a)) := by
  have t24 := P.1.1.t24
  obtain ⟨JV, JX, RT, HH⟩ := dp_JV P
  have kd := JV.1.kd a (show a < 24 by omega)
  have pre : ∀ r A s, dq_Kf n t m r 111 T W0 A D B sp s → ∀ (K : Int32 → dk_S → Prop) (X : String → dk_S → Prop), (dq_ch n t W0 D m 25 a = -1 → (3 ≤ dq_kd (dq_ch n t W0 D m) a ∧ dq_kd (dq_ch n t W0 D m) a ≤ 5 → wf_X8_act 5 (nI a) 0 s (fun r9 s8 => K r9 s8)) ∧ (¬ (3 ≤ dq_kd (dq_ch n t W0 D m) a ∧ dq_kd (dq_ch n t W0 D m) a ≤ 5) → X eUO s)) → (¬ dq_ch n t W0 D m 25 a = -1 → X eNS s) → wf_X8_drink (nI a) s K X := fun r A s Kf K X k1 k2 => by
    have W2 := dz_W2 P Kf
    unfold wf_X8_drink
    refine kz_checkThing (dz_et P Kf) t24 (fun _ => kz_checkWorld (fun _ => ?_) (fun g => absurd Kf.2.1 g)) (fun g => absurd ⟨a, ha, rfl⟩ g)
    refine kz_checkInHands W2 (show a < 24 by omega) (fun g => kw_at24 W2 (show a < 24 by omega) (Or.inl rfl) ?_) k2
    rw [kd.2]
    exact kx_isPotion kd.1 (fun g2 => dq_1' ((k1 g).1 g2)) (fun g2 => dq_0' ((k1 g).2 g2))
  by_cases h3 : dq_ch n t W0 D m 25 a = -1
  · by_cases h4 : 3 ≤ dq_kd (dq_ch n t W0 D m) a ∧ dq_kd (dq_ch n t W0 D m) a ≤ 5
    · have hd : dq_DV t 5 a 0 (dq_ch n t W0 D m) := Or.inr (Or.inr (Or.inr (Or.inr (Or.inl ⟨rfl, ha⟩))))
      have hno := dp_no P hm hd (by decide)
      have act := dp_act P hm hd hno
      have H2 := (HH.deed JV.1 RT.1 hd).1 0 (by decide)
      exact dp_A_of (x := (ax_deed n t 5 a 0 (dq_ch n t W0 D m)).1) P hm hd hno (by decide) (by decide) (dp_gtR H2 (by decide)) (fun r A s K X Kf k => pre r A s Kf K X (fun _ => ⟨fun _ => act.2 r A s Kf _ (fun v hv => k v hv), fun g => absurd h4 g⟩) (fun g => absurd h3 g))
    · exact Or.inl ⟨eUO, Or.inr rfl, fun r A s K X Kf k => pre r A s Kf K X (fun _ => ⟨fun g => absurd g h4, fun _ => k⟩) (fun g => absurd h3 g)⟩
  · exact Or.inl ⟨eNS, Or.inl rfl, fun r A s K X Kf k => pre r A s Kf K X (fun g => absurd g h3) (fun _ => k)⟩
theorem dp_hurl {a b : Nat} (ha : a < t) (hb : b < 4) (P : dq_P n t l m m 111 T W0 D B sp) (hm : m < 512) : dp_A n t m T W0 D B sp (wf_X8_hurl (nI a) (nI b)) := by
  have t24 := P.1.1.t24
  obtain ⟨JV, JX, RT, HH⟩ := dp_JV P
  have pre : ∀ r A s, dq_Kf n t m r 111 T W0 A D B sp s → ∀ (K : Int32 → dk_S → Prop) (X : String → dk_S → Prop), (dq_ch n t W0 D m 25 a = -1 → wf_X8_act 6 (nI a) (nI b) s (fun r6 s5 => K r6 s5)) → (¬ dq_ch n t W0 D m 25 a = -1 → X eNS s) → wf_X8_hurl (nI a) (nI b) s K X := fun r A s Kf K X k1 k2 => by
    unfold wf_X8_hurl
    refine kz_checkThing (dz_et P Kf) t24 (fun _ => kz_checkWay (fun _ => kz_checkWorld (fun _ => ?_) (fun g => absurd Kf.2.1 g)) (fun g => absurd (mr_in_3 hb rfl) g)) (fun g => absurd ⟨a, ha, rfl⟩ g)
    exact kz_checkInHands (dz_W2 P Kf) (show a < 24 by omega) k1 k2
  by_cases h3 : dq_ch n t W0 D m 25 a = -1
  · have hd : dq_DV t 6 a b (dq_ch n t W0 D m) := Or.inr (Or.inr (Or.inr (Or.inr (Or.inr (Or.inl ⟨rfl, ha, hb⟩)))))
    have hno := dp_no P hm hd (by decide)
    have act := (dp_act P hm hd hno).2
    rw [dq_bI_of (show b < 24 by omega)] at act
    have h5 := (dq_hu_in JV.1 hb 5 _ (JV.1.pl 0 (by decide)).1).2.1
    exact dp_A_of (x := nI (dq_hu (dq_ch n t W0 D m) n b 5 (dq_pl (dq_ch n t W0 D m) 0)).2.1) P hm hd hno (by decide) (by decide) (dp_gt (by omega)) (fun r A s K X Kf k => pre r A s Kf K X (fun _ => act r A s Kf _ (fun v hv => k v hv)) (fun g => absurd h3 g))
  · exact Or.inl ⟨eNS, Or.inl rfl, fun r A s K X Kf k => pre r A s Kf K X (fun g => absurd g h3) (fun _ => k)⟩
end DPD
