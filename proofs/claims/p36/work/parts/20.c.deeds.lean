/-! a deed: the keep's state behind it -/
noncomputable def dp_st (n t m : Nat) (W0 : dq_W) (D : Nat → Nat × Nat × Nat) : Int32 := dq_if (dq_lv (dq_ch n t W0 D m) 0) 111 100
noncomputable def dp_B (n t m : Nat) (W0 : dq_W) (D : Nat → Nat × Nat × Nat) (B : Nat → Int32) : Nat → Int32 := dq_if (dq_lv (dq_ch n t W0 D m) 0) B (dq_bp (dq_ch n t W0 D m) t)
noncomputable def dp_sp (n t m : Nat) (W0 : dq_W) (D : Nat → Nat × Nat × Nat) (sp : Int32) : Int32 := dq_if (dq_lv (dq_ch n t W0 D m) 0) sp (nI (dq_pl (dq_ch n t W0 D m) 0))
/-- the keep after the world has gone on: told T, the world begun W0, its deeds D -/
def dp_K (n t m r : Nat) (T W0 A : dq_W) (D : Nat → Nat × Nat × Nat) (B : Nat → Int32) (sp : Int32) (s : dk_S) : Prop := dq_Kf n t m r (dp_st n t m W0 D) T W0 A D (dp_B n t m W0 D B) (dp_sp n t m W0 D sp) s
section DPC
variable {n t l m r : Nat} {st sp : Int32} {T W0 A : dq_W} {D : Nat → Nat × Nat × Nat} {B : Nat → Int32} {s u v : dk_S}
theorem dp_P_of (P1 : dq_TW n t l T) (V : dq_BV t B) (hsp : dq_SP sp) (RP : dq_RP n t l m W0 D) (ho : ∃ o, o < 6 ∧ W0 0 6 = nI o) : dq_P n t l m m (dp_st n t m W0 D) T W0 D (dp_B n t m W0 D B) (dp_sp n t m W0 D sp) := by
  obtain ⟨⟨JV, _⟩, wd⟩ := RP.at m (Nat.le_refl _)
  unfold dp_st dp_B dp_sp
  by_cases g : dq_lv (dq_ch n t W0 D m) 0
  · rw [dq_if_t g, dq_if_t g, dq_if_t g]
    exact ⟨P1, ⟨V, hsp⟩, Or.inr (Or.inl rfl), fun _ => ⟨RP, Nat.le_refl _, fun _ => ⟨g, wd.resolve_left fun q => q g⟩, ho⟩⟩
  · rw [dq_if_f g, dq_if_f g, dq_if_f g]
    exact ⟨P1, ⟨dq_bp_V JV.1, Or.inr ⟨_, (JV.1.pl 0 (by decide)).1, rfl⟩⟩, Or.inr (Or.inr (Or.inl rfl)), fun _ => ⟨RP, Nat.le_refl _, fun q => absurd q (by decide), ho⟩⟩
theorem dp_K_of (h1 : dq_WR T (v 1)) (h2 : kq_S n t m r W0 A D v)
    (h : (dq_lv (dq_ch n t W0 D m) 0 ∧ v 0 40 5 = 111 ∧ (v 0 45 1 = sp ∧ (sp = -1 ∨ ∀ i, i < 24 → v 0 46 i = B i))) ∨ (¬ dq_lv (dq_ch n t W0 D m) 0 ∧ v 0 40 5 = 100 ∧ (∀ i, i < 24 → v 0 46 i = dq_bp (dq_ch n t W0 D m) t i) ∧ v 0 45 1 = nI (dq_pl (dq_ch n t W0 D m) 0))) : dp_K n t m r T W0 A D B sp v := by
  unfold dp_K dp_st dp_B dp_sp
  rcases h with ⟨g, a, b⟩ | ⟨g, a, b, c⟩
  · rw [dq_if_t g, dq_if_t g, dq_if_t g]
    exact ⟨h1, a, b, fun _ => h2⟩
  · rw [dq_if_f g, dq_if_f g, dq_if_f g]
    exact ⟨h1, a, ⟨c, Or.inr b⟩, fun _ => h2⟩
/-- an act -/
theorem dp_act {d a b : Nat} (P : dq_P n t l m m 111 T W0 D B sp) (hm : m < 512) (hd : dq_DV t d a b (dq_ch n t W0 D m)) (hno : (ax_deed n t d a b (dq_ch n t W0 D m)).1 ≠ -1000000) :
    dq_P n t l (m + 1) (m + 1) (dp_st n t (m + 1) W0 (dq_up3 D m d a b)) T W0 (dq_up3 D m d a b) (dp_B n t (m + 1) W0 (dq_up3 D m d a b) B) (dp_sp n t (m + 1) W0 (dq_up3 D m d a b) sp) ∧
    ∀ r A s, dq_Kf n t m r 111 T W0 A D B sp s → ∀ KK : Int32 → dk_S → Prop, (∀ v, dp_K n t (m + 1) r T W0 A (dq_up3 D m d a b) B sp v → KK (ax_deed n t d a b (dq_ch n t W0 D m)).1 v) → wf_X8_act (nI d) (nI a) (dq_bI b) s KK := by
  obtain ⟨RP, _, hRT, ho⟩ := P.2.2.2 (by decide)
  have RT := hRT rfl
  refine ⟨dp_P_of P.1 P.2.1.1 P.2.1.2 (RP.next hm RT hd hno) ho, fun r A s Kf KK k => ?_⟩
  refine kx_act RP (Kf.2.2.2 (by decide)) hm RT hd (fun g => absurd g hno) (fun _ RP' v kv fv hv => k v (dp_K_of ?_ kv ?_))
  · rw [fv 1 (by decide) (by decide)]; exact Kf.1
  · rcases hv with ⟨h1, h2, h3, h4⟩ | h
    · refine Or.inl ⟨h1, h2.trans Kf.2.1, ?_⟩
      rw [h3, h4]; exact Kf.2.2.1
    · exact Or.inr h
/-- an act that is none -/
theorem dp_act0 {d a b : Nat} (P : dq_P n t l m m 111 T W0 D B sp) (hm : m < 512) (hd : dq_DV t d a b (dq_ch n t W0 D m)) (hno : (ax_deed n t d a b (dq_ch n t W0 D m)).1 = -1000000) :
    ∀ r A s, dq_Kf n t m r 111 T W0 A D B sp s → ∀ KK : Int32 → dk_S → Prop, (∀ v, dq_Kf n t m r 111 T W0 A D B sp v → KK (-1000000) v) → wf_X8_act (nI d) (nI a) (dq_bI b) s KK := by
  obtain ⟨RP, _, hRT, ho⟩ := P.2.2.2 (by decide)
  have RT := hRT rfl
  intro r A s Kf KK k
  refine kx_act RP (Kf.2.2.2 (by decide)) hm RT hd (fun _ v kv fv => k v ⟨?_, ?_, ?_, fun _ => kv⟩) (fun g => absurd hno g)
  · rw [fv 1 (by decide)]; exact Kf.1
  · rw [fv 0 (by decide)]; exact Kf.2.1
  · rw [fv 0 (by decide)]; exact Kf.2.2.1
theorem dp_no {d a b : Nat} (P : dq_P n t l m m 111 T W0 D B sp) (hm : m < 512) (hd : dq_DV t d a b (dq_ch n t W0 D m)) (h0 : d ≠ 0) : (ax_deed n t d a b (dq_ch n t W0 D m)).1 ≠ -1000000 := fun g => by
  obtain ⟨RP, hmc, hRT, _⟩ := P.2.2.2 (by decide)
  obtain ⟨⟨JV, JX⟩, _⟩ := RP.at m (Nat.le_refl _)
  exact h0 (ax_deed_no JX JV (hRT rfl).1 (by omega) hd g).1
theorem dp_JV (P : dq_P n t l m m 111 T W0 D B sp) : dq_JV n t l (dq_ch n t W0 D m) ∧ dq_JX (W0 0 6) m (dq_ch n t W0 D m) ∧ dq_RT n (dq_ch n t W0 D m) ∧ dq_HH (dq_ch n t W0 D m) := by
  obtain ⟨RP, hmc, hRT, _⟩ := P.2.2.2 (by decide)
  obtain ⟨⟨JV, JX⟩, _⟩ := RP.at m (Nat.le_refl _)
  exact ⟨JV, JX, hRT rfl, RP.hh m (Nat.le_refl _)⟩
/-! ticks of the worlds of a log -/
def dp_W0 (W0 : dq_W) : Prop := W0 0 5 = 0 ∧ ∀ k, k < 8 → W0 19 k = 0
theorem dp_tk_ch (h0 : dp_W0 W0) (RP : dq_RP n t l m W0 D) : ∀ i, i ≤ m → ∃ τ, 1 ≤ τ ∧ τ ≤ 4000 * (i + 1) ∧ dq_ch n t W0 D i 0 5 = nI τ
  | 0, _ => by
    have I := RP.1.1.1
    obtain ⟨σ, h1, h2, h3⟩ := dp_tk_1 (n := n) (k := 3999) I.h8 h0.1 RP.1.2.2.1 (fun k hk => h0.2 k (by have := I.h8; omega))
    exact ⟨σ, h1, by omega, h3⟩
  | i + 1, h => by
    obtain ⟨τ, h1, h2, h3⟩ := dp_tk_ch h0 RP i (by omega)
    obtain ⟨RT, hd, _⟩ := RP.2.2 i (by omega)
    have e : dq_set (ax_deed n t (D i).1 (D i).2.1 (D i).2.2 (dq_ch n t W0 D i)).2 19 0 ((ax_deed n t (D i).1 (D i).2.1 (D i).2.2 (dq_ch n t W0 D i)).2 19 0 - 12) 0 5 = nI τ := by
      rw [dq_set_q (by decide), dp_tk_deed hd]; exact h3
    obtain ⟨σ, g1, g2, g3⟩ := dp_tk_wait (n := n) 4000 e
    exact ⟨σ, by omega, by omega, g3⟩
theorem dp_nw5 {τ : Nat} (h : dq_ch n t W0 D m 0 5 = nI τ) : dq_nw n t m W0 D 0 5 = nI τ := by
  unfold dq_nw
  by_cases g : dq_lv (dq_ch n t W0 D m) 0
  · rw [dq_if_t g]; exact h
  · rw [dq_if_f g]
    show dq_mv _ _ _ _ 0 5 = _
    rw [dq_mv_o (Or.inl (by decide))]; exact h
end DPC
