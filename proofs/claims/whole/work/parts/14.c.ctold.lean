/-! each call, the two side by side: what tells -/
def dz_C (c : Nat) (wK : dk_S → (Int32 → dk_S → Prop) → (String → dk_S → Prop) → Prop) (wM : dk_S → (Int32 → dk_S → Prop) → Prop) (tab : List (String × Int32)) (s : dk_S) : Prop :=
  (∃ E e, (E, e) ∈ tab ∧ (∀ K X, X E s → wK s K X) ∧ ∀ J, (∀ u, dq_I c u → u 4 60 0 = e → J 0 u) → wM s J) ∨
  ∃ (r : Int32) (PK : dk_S → Prop), (∀ K X, (∀ u, PK u → K r u) → wK s K X) ∧ ∀ v J, PK v → (∀ u, dq_I (c + 1) u → u 4 60 0 = 0 → J r u) → wM v J
abbrev eIO : String := "java/lang/IndexOutOfBoundsException"
abbrev eIA : String := "java/lang/IllegalArgumentException"
abbrev eIS : String := "java/lang/IllegalStateException"
abbrev eUO : String := "java/lang/UnsupportedOperationException"
abbrev eNS : String := "java/util/NoSuchElementException"
/-- behind a telling *of* the keep -/
def dz_PK (T' : dq_W) (B : Nat → Int32) (sp : Int32) (s v : dk_S) : Prop := dq_WR T' (v 1) ∧ v 0 40 5 = 110 ∧ (v 0 45 1 = sp ∧ ∀ i, i < 24 → v 0 46 i = B i) ∧ v 4 = s 4
section DCT
variable {c : Nat} {s u v : dk_S} {T T' : dq_W} {B : Nat → Int32} {sp : Int32} {n t l : Nat}
theorem dz_PK.mk (H : dq_WR T' (u 1)) (f : dq_fr 1 s u) (KB : s 0 45 1 = sp ∧ ∀ i, i < 24 → s 0 46 i = B i) : dz_PK T' B sp s (dk_row u 0 40 (upd (u 0 40) 5 110)) := by
  refine ⟨?_, ?_, ?_, ?_⟩
  · have : dk_row u 0 40 (upd (u 0 40) 5 110) 1 = u 1 := funext fun b => dq_row_r (Or.inl (by decide))
    rw [this]; exact H
  · rw [dq_set_row, dq_set_eq]
  · rw [dq_row_r (Or.inr (by decide)), dq_row_r (Or.inr (by decide)), f 0 (by decide)]; exact KB
  · have : dk_row u 0 40 (upd (u 0 40) 5 110) 4 = u 4 := funext fun b => dq_row_r (Or.inl (by decide))
    rw [this]; exact f 4 (by decide)
theorem dz_PK.mk2 (H : dq_WR T' (u 1)) (f : dq_fr 1 (dk_row s 0 40 (upd (s 0 40) 5 110)) u) (KB : s 0 45 1 = sp ∧ ∀ i, i < 24 → s 0 46 i = B i) : dz_PK T' B sp s u := by
  refine ⟨H, ?_, ?_, ?_⟩
  · rw [f 0 (by decide), dq_set_row, dq_set_eq]
  · rw [f 0 (by decide), dq_row_r (Or.inr (by decide)), dq_row_r (Or.inr (by decide))]; exact KB
  · rw [f 4 (by decide)]; exact funext fun b => dq_row_r (Or.inl (by decide))
theorem dz_PK.done (h : dz_PK T' B sp s v) (P : dq_TW n t l T') (V : dq_BV t B) (hsp : dq_SP sp) (MB : mr_B t B sp (s 4)) (N : mx_N T' (mx_F v 0) u) : dq_I (c + 1) u ∧ u 4 60 0 = 0 :=
  dq_I.told P V hsp h.1 h.2.1 h.2.2.1 (by rw [h.2.2.2]; exact MB) N
theorem mr_pl_of {x y : Int32} {a b : Nat} (ha : a < 12) (hb : b < 12) (e1 : x = nI a) (e2 : y = nI b) : mr_pl x y := by
  rw [e1, e2]
  exact ⟨⟨nI_pos (by omega), nI_nlt (b := a) (a := 11) (by omega) (by decide)⟩, nI_pos (by omega), nI_nlt (b := b) (a := 11) (by omega) (by decide)⟩
theorem dz_setKind {x y z : Int32} (hz : z = 0 ∨ z = 1) (h : dq_I c s) : dz_C c (wf_X8_setKind x y z) (wf_X9_setKind x y z) [(eIA, 1), (eIS, 2)] s := by
  have hI := h
  obtain ⟨n, t, l, m, r, st, T, W0, A, D, B, sp, P, Kf, Mf⟩ := h
  have T4 : mr_T T (s 4) := ⟨Mf.1, P.1.2.1, P.1.1.sg⟩
  by_cases h1 : mr_in x 0 7 ∧ mr_in y 0 9
  · by_cases on : st = 111
    · refine Or.inl ⟨eIS, 2, by simp, fun K X k => ?_, fun J k => km_setKind T4 hz (fun g => absurd h1 g) (fun _ _ _ => k _ hI.F mx_F_0) (fun _ _ _ _ g => absurd (Mf.2.1.trans on) g)⟩
      unfold wf_X8_setKind
      exact kz_checkRange (fun _ => kz_checkRange (fun _ => kz_checkNoWorld (fun g => absurd (Kf.2.1.trans on) g) (fun _ => k)) (fun g => absurd h1.2 g)) (fun g => absurd h1.1 g)
    · obtain ⟨d, hd, ex⟩ := mr_in_n (N := 7) rfl h1.1
      have hd8 : d < 8 := by omega
      refine Or.inr ⟨T 8 d, dz_PK (ax_kind d y z T) B sp s, fun K X k => ?_, fun v J hv k => ?_⟩
      · unfold wf_X8_setKind
        refine kz_checkRange (fun _ => kz_checkRange (fun _ => kz_checkNoWorld (fun _ => ?_) (fun g => absurd (Kf.2.1.symm.trans g) on)) (fun g => absurd h1.2 g)) (fun g => absurd h1.1 g)
        subst ex
        exact kw_at8 Kf.1 hd8 (by decide) (kw_tellKind Kf.1 hd8 hz fun u Hu f => nm_e (k _ (dz_PK.mk Hu f Kf.2.2.1)))
      · have Tv : mr_T T (v 4) := by rw [hv.2.2.2]; exact T4
        have ev : v 4 60 1 = st := by rw [hv.2.2.2]; exact Mf.2.1
        refine km_setKind Tv hz (fun g => absurd h1 g) (fun _ _ g => absurd (ev.symm.trans g) on) (fun d' hd' e' _ _ u N => ?_)
        have : d' = d := (nI_eq (by omega) (by omega)).1 (e'.symm.trans ex)
        subst this
        have q := hv.done (c := c) (P.1.kind h1.2 hz) P.2.1.1 P.2.1.2 Mf.2.2.1 N
        exact k u q.1 q.2
  · refine Or.inl ⟨eIA, 1, by simp, fun K X k => ?_, fun J k => km_setKind T4 hz (fun _ => k _ hI.F mx_F_0) (fun g1 g2 => absurd ⟨g1, g2⟩ h1) (fun d hd e g2 => absurd ⟨by rw [e]; exact ⟨nI_pos (by omega), nI_nlt (b := d) (a := 7) (by omega) (by decide)⟩, g2⟩ h1)⟩
    unfold wf_X8_setKind
    exact kz_checkRange (fun g1 => kz_checkRange (fun g2 => absurd ⟨g1, g2⟩ h1) (fun _ => k)) (fun _ => k)
theorem dz_setHero {x y p h0 : Int32} (h : dq_I c s) : dz_C c (wf_X8_setHero x y p h0) (wf_X9_setHero x y p h0) [(eIO, 1), (eIA, 2), (eIS, 3)] s := by
  have hI := h
  obtain ⟨n, t, l, m, r, st, T, W0, A, D, B, sp, P, Kf, Mf⟩ := h
  have T4 : mr_T T (s 4) := ⟨Mf.1, P.1.2.1, P.1.1.sg⟩
  by_cases hp : mr_pl x y
  · by_cases h1 : mr_in p 1 24 ∧ mr_in h0 1 99
    · by_cases on : st = 111
      · refine Or.inl ⟨eIS, 3, by simp, fun K X k => ?_, fun J k => km_setHero T4 (fun g => absurd hp g) (fun _ g => absurd h1 g) (fun _ _ _ _ => k _ hI.F mx_F_0) (fun _ _ _ _ _ _ _ _ g => absurd (Mf.2.1.trans on) g)⟩
        unfold wf_X8_setHero
        exact kz_checkPlace (fun _ => kz_checkRange (fun _ => kz_checkRange (fun _ => kz_checkNoWorld (fun g => absurd (Kf.2.1.trans on) g) (fun _ => k)) (fun g => absurd h1.2 g)) (fun g => absurd h1.1 g)) (fun g => absurd hp g)
      · obtain ⟨a, b, ha, hb, ex, ey⟩ := mr_pl_n hp
        refine Or.inr ⟨T 18 0, dz_PK (ax_tell 0 (nI (12 * a + b)) p 0 h0 T) B sp s, fun K X k => ?_, fun v J hv k => ?_⟩
        · unfold wf_X8_setHero
          refine kz_checkPlace (fun _ => kz_checkRange (fun _ => kz_checkRange (fun _ => kz_checkNoWorld (fun _ => ?_) (fun g => absurd (Kf.2.1.symm.trans g) on)) (fun g => absurd h1.2 g)) (fun g => absurd h1.1 g)) (fun g => absurd hp g)
          subst ex
          subst ey
          exact kw_at8 (k := 0) Kf.1 (by decide) (by decide) (kz_spot ha hb (kw_tell (b := 0) Kf.1 (by decide) fun u Hu f => nm_e (k _ (dz_PK.mk Hu f Kf.2.2.1))))
        · have Tv : mr_T T (v 4) := by rw [hv.2.2.2]; exact T4
          have ev : v 4 60 1 = st := by rw [hv.2.2.2]; exact Mf.2.1
          refine km_setHero Tv (fun g => absurd hp g) (fun _ g => absurd h1 g) (fun _ _ _ g => absurd (ev.symm.trans g) on) (fun a' b' ha' hb' e1 e2 _ _ _ u N => ?_)
          have q1 : a' = a := (nI_eq (by omega) (by omega)).1 (e1.symm.trans ex)
          have q2 : b' = b := (nI_eq (by omega) (by omega)).1 (e2.symm.trans ey)
          subst q1
          subst q2
          have q := hv.done (c := c) (P.1.tell (fun _ => rfl) (by omega) h1.1 (mr_in_R rfl rfl h1.2)) P.2.1.1 P.2.1.2 Mf.2.2.1 N
          exact k u q.1 q.2
    · refine Or.inl ⟨eIA, 2, by simp, fun K X k => ?_, fun J k => km_setHero T4 (fun g => absurd hp g) (fun _ _ => k _ hI.F mx_F_0) (fun _ g1 g2 => absurd ⟨g1, g2⟩ h1) (fun _ _ _ _ _ _ g1 g2 => absurd ⟨g1, g2⟩ h1)⟩
      unfold wf_X8_setHero
      exact kz_checkPlace (fun _ => kz_checkRange (fun g1 => kz_checkRange (fun g2 => absurd ⟨g1, g2⟩ h1) (fun _ => k)) (fun _ => k)) (fun g => absurd hp g)
  · refine Or.inl ⟨eIO, 1, by simp, fun K X k => ?_, fun J k => km_setHero T4 (fun _ => k _ hI.F mx_F_0) (fun g => absurd g hp) (fun g => absurd g hp) (fun a b ha hb e1 e2 => absurd (mr_pl_of ha hb e1 e2) hp)⟩
    unfold wf_X8_setHero
    exact kz_checkPlace (fun g => absurd g hp) (fun _ => k)
end DCT
