/-! each call, the two side by side: what tells -/
def dz_C (c : Nat) (wK : dk_S → (Int32 → dk_S → Prop) → (String → dk_S → Prop) → Prop) (wM : dk_S → (Int32 → dk_S → Prop) → Prop) (tab : List (String × Int32)) (s : dk_S) : Prop :=
  (∃ E e, (E, e) ∈ tab ∧ (∀ K X, X E s → wK s K X) ∧ ∀ J, (∀ u, dq_I c u → u 4 60 0 = e → J 0 u) → wM s J) ∨
  ∃ (r : Int32) (PK : dk_S → Prop), (∀ K X, (∀ u, PK u → K r u) → wK s K X) ∧ ∀ v J, PK v → (∀ u, dq_I (c + 1) u → u 4 60 0 = 0 → J r u) → wM v J
abbrev eIO : String := "java/lang/IndexOutOfBoundsException"
abbrev eIA : String := "java/lang/IllegalArgumentException"
abbrev eIS : String := "java/lang/IllegalStateException"
abbrev eUO : String := "java/lang/UnsupportedOperationException"
abbrev eNS : String := "java/util/NoSuchElementException"
/-- behind a telling *of* the keep -/
def dz_PK (T' : dq_W) (B : Nat → Int32) (sp : Int32) (s v : dk_S) : Prop := dq_WR T' (v 1) ∧ v 0 40 5 = 110 ∧ (v 0 45 1 = sp ∧ (sp = -1 ∨ ∀ i, i < 24 → v 0 46 i = B i)) ∧ v 4 = s 4
section DCT
variable {c : Nat} {s u v : dk_S} {T T' : dq_W} {B : Nat → Int32} {sp : Int32} {n t l : Nat}
theorem dz_PK.mk (H : dq_WR T' (u 1)) (f : dq_fr 1 s u) (KB : s 0 45 1 = sp ∧ (sp = -1 ∨ ∀ i, i < 24 → s 0 46 i = B i)) : dz_PK T' B sp s (dk_row u 0 40 (upd (u 0 40) 5 110)) := by
  refine ⟨?_, ?_, ?_, ?_⟩
  · have : dk_row u 0 40 (upd (u 0 40) 5 110) 1 = u 1 := funext fun b => dq_row_r (Or.inl (by decide))
    rw [this]; exact H
  · rw [dq_set_row, dq_set_eq]
  · rw [dq_row_r (Or.inr (by decide)), dq_row_r (Or.inr (by decide)), f 0 (by decide)]; exact KB
  · have : dk_row u 0 40 (upd (u 0 40) 5 110) 4 = u 4 := funext fun b => dq_row_r (Or.inl (by decide))
    rw [this]; exact f 4 (by decide)
theorem dz_PK.mk2 (H : dq_WR T' (u 1)) (f : dq_fr 1 (dk_row s 0 40 (upd (s 0 40) 5 110)) u) (KB : s 0 45 1 = sp ∧ (sp = -1 ∨ ∀ i, i < 24 → s 0 46 i = B i)) : dz_PK T' B sp s u := by
  refine ⟨H, ?_, ?_, ?_⟩
  · rw [f 0 (by decide), dq_set_row, dq_set_eq]
  · rw [f 0 (by decide), dq_row_r (Or.inr (by decide)), dq_row_r (Or.inr (by decide))]; exact KB
  · rw [f 4 (by decide)]; exact funext fun b => dq_row_r (Or.inl (by decide))
theorem dz_PK.done (h : dz_PK T' B sp s v) (P : dq_TW n t l T') (V : dq_BV t B) (hsp : dq_SP sp) (MB : mr_B t B sp (s 4)) (N : mx_N T' (mx_F v 0) u) : dq_I (c + 1) u ∧ u 4 60 0 = 0 :=
  dq_I.told P V hsp h.1 h.2.1 h.2.2.1 (by rw [h.2.2.2]; exact MB) N
theorem mr_pl_of {x y : Int32} {a b : Nat} (ha : a < 12) (hb : b < 12) (e1 : x = nI a) (e2 : y = nI b) : mr_pl x y := by
  rw [e1, e2]
  exact ⟨⟨nI_pos (by omega), nI_nlt (b := a) (a := 11) (by omega) (by decide)⟩, nI_pos (by omega), nI_nlt (b := b) (a := 11) (by omega) (by decide)⟩
theorem dz_setKind {x y z : Int32} (hz : z = 0 ∨ z = 1) (h : dq_I c s) : dz_C c (wf_X8_setKind x y z) (wf_X9_setKind x y z) [(eIA, 1), (eIS, 2)] s := by
  have hI := h
  obtain ⟨n, t, l, m, r, st, T, W0, A, D, B, sp, P, Kf, Mf⟩ := h
  have T4 : mr_T T (s 4) := ⟨Mf.1, P.1.2.1, P.1.1.sg⟩
  by_cases h1 : mr_in x 0 7 ∧ mr_in y 0 9
  · by_cases on : st = 111
    · refine Or.inl ⟨eIS, 2, by simp, fun K X k => ?_, fun J k => km_setKind T4 hz (fun g => absurd h1 g) (fun _ _ _ => k _ hI.F mx_F_0) (fun _ _ _ _ g => absurd (Mf.2.1.trans on) g)⟩
      unfold wf_X8_setKind
      exact kz_checkRange (fun _ => kz_checkRange (fun _ => kz_checkNoWorld (fun g => absurd (Kf.2.1.trans on) g) (fun _ => k)) (fun g => absurd h1.2 g)) (fun g => absurd h1.1 g)
    · obtain ⟨d, hd, ex⟩ := mr_in_n (N := 7) rfl h1.1
      have hd8 : d < 8 := by omega
      refine Or.inr ⟨T 8 d, dz_PK (ax_kind d y z T) B sp s, fun K X k => ?_, fun v J hv k => ?_⟩
      · unfold wf_X8_setKind
        refine kz_checkRange (fun _ => kz_checkRange (fun _ => kz_checkNoWorld (fun _ => ?_) (fun g => absurd (Kf.2.1.symm.trans g) on)) (fun g => absurd h1.2 g)) (fun g => absurd h1.1 g)
        subst ex
        exact kw_at8 Kf.1 hd8 (by decide) (kw_tellKind Kf.1 hd8 hz fun u Hu f => nm_e (k _ (dz_PK.mk Hu f Kf.2.2.1)))
      · have Tv : mr_T T (v 4) := by rw [hv.2.2.2]; exact T4
        have ev : v 4 60 1 = st := by rw [hv.2.2.2]; exact Mf.2.1
        refine km_setKind Tv hz (fun g => absurd h1 g) (fun _ _ g => absurd (ev.symm.trans g) on) (fun d' hd' e' _ _ u N => ?_)
        have : d' = d := (nI_eq (by omega) (by omega)).1 (e'.symm.trans ex)
        subst this
        have q := hv.done (c := c) (P.1.kind h1.2 hz) P.2.1.1 P.2.1.2 Mf.2.2.1 N
        exact k u q.1 q.2
  · refine Or.inl ⟨eIA, 1, by simp, fun K X k => ?_, fun J k => km_setKind T4 hz (fun _ => k _ hI.F mx_F_0) (fun g1 g2 => absurd ⟨g1, g2⟩ h1) (fun d hd e g2 => absurd ⟨by rw [e]; exact ⟨nI_pos (by omega), nI_nlt (b := d) (a := 7) (by omega) (by decide)⟩, g2⟩ h1)⟩
    unfold wf_X8_setKind
    exact kz_checkRange (fun g1 => kz_checkRange (fun g2 => absurd ⟨g1, g2⟩ h1) (fun _ => k)) (fun _ => k)
theorem dz_setHero {x y p h0 : Int32} (h : dq_I c s) : dz_C c (wf_X8_setHero x y p h0) (wf_X9_setHero x y p h0) [(eIO, 1), (eIA, 2), (eIS, 3)] s := by
  have hI := h
  obtain ⟨n, t, l, m, r, st, T, W0, A, D, B, sp, P, Kf, Mf⟩ := h
  have T4 : mr_T T (s 4) := ⟨Mf.1, P.1.2.1, P.1.1.sg⟩
  by_cases hp : mr_pl x y
  · by_cases h1 : mr_in p 1 24 ∧ mr_in h0 1 99
    · by_cases on : st = 111
      · refine Or.inl ⟨eIS, 3, by simp, fun K X k => ?_, fun J k => km_setHero T4 (fun g => absurd hp g) (fun _ g => absurd h1 g) (fun _ _ _ _ => k _ hI.F mx_F_0) (fun _ _ _ _ _ _ _ _ g => absurd (Mf.2.1.trans on) g)⟩
        unfold wf_X8_setHero
        exact kz_checkPlace (fun _ => kz_checkRange (fun _ => kz_checkRange (fun _ => kz_checkNoWorld (fun g => absurd (Kf.2.1.trans on) g) (fun _ => k)) (fun g => absurd h1.2 g)) (fun g => absurd h1.1 g)) (fun g => absurd hp g)
      · obtain ⟨a, b, ha, hb, ex, ey⟩ := mr_pl_n hp
        refine Or.inr ⟨T 18 0, dz_PK (ax_tell 0 (nI (12 * a + b)) p 0 h0 T) B sp s, fun K X k => ?_, fun v J hv k => ?_⟩
        · unfold wf_X8_setHero
          refine kz_checkPlace (fun _ => kz_checkRange (fun _ => kz_checkRange (fun _ => kz_checkNoWorld (fun _ => ?_) (fun g => absurd (Kf.2.1.symm.trans g) on)) (fun g => absurd h1.2 g)) (fun g => absurd h1.1 g)) (fun g => absurd hp g)
          subst ex
          subst ey
          exact kw_at8 (k := 0) Kf.1 (by decide) (by decide) (kz_spot ha hb (kw_tell (b := 0) Kf.1 (by decide) fun u Hu f => nm_e (k _ (dz_PK.mk Hu f Kf.2.2.1))))
        · have Tv : mr_T T (v 4) := by rw [hv.2.2.2]; exact T4
          have ev : v 4 60 1 = st := by rw [hv.2.2.2]; exact Mf.2.1
          refine km_setHero Tv (fun g => absurd hp g) (fun _ g => absurd h1 g) (fun _ _ _ g => absurd (ev.symm.trans g) on) (fun a' b' ha' hb' e1 e2 _ _ _ u N => ?_)
          have q1 : a' = a := (nI_eq (by omega) (by omega)).1 (e1.symm.trans ex)
          have q2 : b' = b := (nI_eq (by omega) (by omega)).1 (e2.symm.trans ey)
          subst q1
          subst q2
          have q := hv.done (c := c) (P.1.tell (fun _ => rfl) (by omega) h1.1 (mr_in_R rfl rfl h1.2) ⟨by decide, by decide⟩) P.2.1.1 P.2.1.2 Mf.2.2.1 N
          exact k u q.1 q.2
    · refine Or.inl ⟨eIA, 2, by simp, fun K X k => ?_, fun J k => km_setHero T4 (fun g => absurd hp g) (fun _ _ => k _ hI.F mx_F_0) (fun _ g1 g2 => absurd ⟨g1, g2⟩ h1) (fun _ _ _ _ _ _ g1 g2 => absurd ⟨g1, g2⟩ h1)⟩
      unfold wf_X8_setHero
      exact kz_checkPlace (fun _ => kz_checkRange (fun g1 => kz_checkRange (fun g2 => absurd ⟨g1, g2⟩ h1) (fun _ => k)) (fun _ => k)) (fun g => absurd hp g)
  · refine Or.inl ⟨eIO, 1, by simp, fun K X k => ?_, fun J k => km_setHero T4 (fun _ => k _ hI.F mx_F_0) (fun g => absurd g hp) (fun g => absurd g hp) (fun a b ha hb e1 e2 => absurd (mr_pl_of ha hb e1 e2) hp)⟩
    unfold wf_X8_setHero
    exact kz_checkPlace (fun g => absurd g hp) (fun _ => k)
theorem dz_addBeast {x y p q h0 : Int32} (h : dq_I c s) : dz_C c (wf_X8_addBeast x y p q h0) (wf_X9_addBeast x y p q h0) [(eIO, 1), (eIA, 2), (eIS, 3)] s := by
  have hI := h
  obtain ⟨n, t, l, m, r, st, T, W0, A, D, B, sp, P, Kf, Mf⟩ := h
  have T4 : mr_T T (s 4) := ⟨Mf.1, P.1.2.1, P.1.1.sg⟩
  have n8 := P.1.1.h8
  have en : s 1 13 9 = nI n := (Kf.1.1 13 9 (by decide) (by decide)).trans P.1.1.hn
  by_cases hp : mr_pl x y
  · by_cases h1 : mr_in p 1 24 ∧ mr_in q 0 9 ∧ mr_in h0 1 30
    · by_cases on : st = 111 ∨ n = 8
      · refine Or.inl ⟨eIS, 3, by simp, fun K X k => ?_, fun J k => km_addBeast T4 P.1.1.hn P.1.1.h1 n8 (fun g => absurd hp g) (fun _ g => absurd h1 g) (fun _ _ _ => k _ hI.F mx_F_0) (fun _ _ _ _ _ _ _ g g2 => ?_)⟩
        · unfold wf_X8_addBeast
          refine kz_checkPlace (fun _ => kz_checkRange (fun _ => kz_checkRange (fun _ => kz_checkRange (fun _ => kz_checkNoWorld (fun g => ?_) (fun _ => k)) (fun g => absurd h1.2.2 g)) (fun g => absurd h1.2.1 g)) (fun g => absurd h1.1 g)) (fun g => absurd hp g)
          rw [en]
          exact kz_checkRoom (m := 8) (by omega) (by decide) (fun g2 => on.elim (fun z => absurd (Kf.2.1.trans z) g) (fun z => by omega)) (fun _ => k)
        · rcases on with z | z
          · exact absurd (Mf.2.1.trans z) g
          · omega
      · have off : ¬ st = 111 := fun g => on (Or.inl g)
        have n7 : n < 8 := Nat.lt_of_le_of_ne n8 fun g => on (Or.inr g)
        obtain ⟨a, b, ha, hb, ex, ey⟩ := mr_pl_n hp
        refine Or.inr ⟨nI n, dz_PK (ax_beast n (nI (12 * a + b)) p q h0 T) B sp s, fun K X k => ?_, fun v J hv k => ?_⟩
        · unfold wf_X8_addBeast
          refine kz_checkPlace (fun _ => kz_checkRange (fun _ => kz_checkRange (fun _ => kz_checkRange (fun _ => kz_checkNoWorld (fun _ => ?_) (fun g => absurd (Kf.2.1.symm.trans g) off)) (fun g => absurd h1.2.2 g)) (fun g => absurd h1.2.1 g)) (fun g => absurd h1.1 g)) (fun g => absurd hp g)
          rw [en]
          refine kz_checkRoom (m := 8) (by omega) (by decide) (fun _ => nm_r en ?_) (fun g => absurd n7 g)
          subst ex
          subst ey
          refine kz_spot ha hb (kw_tell Kf.1 n7 fun u1 H1 f1 => ?_)
          refine kw_fldQ (q := 13) (k := 9) (v := nI n + 1) H1 (by decide) fun u2 H2 f2 => nm_e ?_
          have H3 : dq_WR (ax_beast n (nI (12 * a + b)) p q h0 T) (u2 1) := by
            unfold ax_beast
            exact H2
          exact k _ (dz_PK.mk H3 (f1.tr f2) Kf.2.2.1)
        · have Tv : mr_T T (v 4) := by rw [hv.2.2.2]; exact T4
          have ev : v 4 60 1 = st := by rw [hv.2.2.2]; exact Mf.2.1
          refine km_addBeast Tv P.1.1.hn P.1.1.h1 n8 (fun g => absurd hp g) (fun _ g => absurd h1 g) (fun _ _ g => absurd g (fun z => z.elim (fun z => off (ev.symm.trans z)) (fun z => by omega))) (fun a' b' ha' hb' e1 e2 _ _ _ u N => ?_)
          have q1 : a' = a := (nI_eq (by omega) (by omega)).1 (e1.symm.trans ex)
          have q2 : b' = b := (nI_eq (by omega) (by omega)).1 (e2.symm.trans ey)
          subst q1
          subst q2
          have z := hv.done (c := c) (P.1.beast n7 (by omega) h1.1 ((mr_in_R rfl rfl h1.2.2).wide (by decide) (by decide)) (mr_in_R rfl rfl h1.2.1)) P.2.1.1 P.2.1.2 Mf.2.2.1 N
          exact k u z.1 z.2
    · refine Or.inl ⟨eIA, 2, by simp, fun K X k => ?_, fun J k => km_addBeast T4 P.1.1.hn P.1.1.h1 n8 (fun g => absurd hp g) (fun _ _ => k _ hI.F mx_F_0) (fun _ g => absurd g h1) (fun _ _ _ _ _ _ g => absurd g h1)⟩
      unfold wf_X8_addBeast
      exact kz_checkPlace (fun _ => kz_checkRange (fun g1 => kz_checkRange (fun g2 => kz_checkRange (fun g3 => absurd ⟨g1, g2, g3⟩ h1) (fun _ => k)) (fun _ => k)) (fun _ => k)) (fun g => absurd hp g)
  · refine Or.inl ⟨eIO, 1, by simp, fun K X k => ?_, fun J k => km_addBeast T4 P.1.1.hn P.1.1.h1 n8 (fun _ => k _ hI.F mx_F_0) (fun g => absurd g hp) (fun g => absurd g hp) (fun a b ha hb e1 e2 => absurd (mr_pl_of ha hb e1 e2) hp)⟩
    unfold wf_X8_addBeast
    exact kz_checkPlace (fun g => absurd g hp) (fun _ => k)
theorem dz_addLamp {x y p : Int32} (h : dq_I c s) : dz_C c (wf_X8_addLamp x y p) (wf_X9_addLamp x y p) [(eIO, 1), (eIA, 2), (eIS, 3)] s := by
  have hI := h
  obtain ⟨n, t, l, m, r, st, T, W0, A, D, B, sp, P, Kf, Mf⟩ := h
  have T4 : mr_T T (s 4) := ⟨Mf.1, P.1.2.1, P.1.1.sg⟩
  have l4 := P.1.1.l4
  have el : s 1 26 2 = nI l := (Kf.1.1 26 2 (by decide) (by decide)).trans P.1.1.hl
  by_cases hp : mr_pl x y
  · by_cases h1 : mr_in p 0 9
    · by_cases on : st = 111 ∨ l = 4
      · refine Or.inl ⟨eIS, 3, by simp, fun K X k => ?_, fun J k => km_addLamp T4 P.1.1.hl l4 (fun g => absurd hp g) (fun _ g => absurd h1 g) (fun _ _ _ => k _ hI.F mx_F_0) (fun _ _ _ _ _ _ _ g g2 => ?_)⟩
        · unfold wf_X8_addLamp
          refine kz_checkPlace (fun _ => kz_checkRange (fun _ => kz_checkNoWorld (fun g => ?_) (fun _ => k)) (fun g => absurd h1 g)) (fun g => absurd hp g)
          rw [el]
          exact kz_checkRoom (m := 4) (by omega) (by decide) (fun g2 => on.elim (fun z => absurd (Kf.2.1.trans z) g) (fun z => by omega)) (fun _ => k)
        · rcases on with z | z
          · exact absurd (Mf.2.1.trans z) g
          · omega
      · have off : ¬ st = 111 := fun g => on (Or.inl g)
        have l3 : l < 4 := Nat.lt_of_le_of_ne l4 fun g => on (Or.inr g)
        obtain ⟨a, b, ha, hb, ex, ey⟩ := mr_pl_n hp
        refine Or.inr ⟨nI l + 1, dz_PK (ax_lamp l (nI (12 * a + b)) p T) B sp s, fun K X k => ?_, fun v J hv k => ?_⟩
        · unfold wf_X8_addLamp
          refine kz_checkPlace (fun _ => kz_checkRange (fun _ => kz_checkNoWorld (fun _ => ?_) (fun g => absurd (Kf.2.1.symm.trans g) off)) (fun g => absurd h1 g)) (fun g => absurd hp g)
          rw [el]
          refine kz_checkRoom (m := 4) (by omega) (by decide) (fun _ => nm_e ?_) (fun g => absurd l3 g)
          subst ex
          subst ey
          have H5 : dq_WR T (dk_row s 0 40 (upd (s 0 40) 5 110) 1) := by
            have : dk_row s 0 40 (upd (s 0 40) 5 110) 1 = s 1 := funext fun b => dq_row_r (Or.inl (by decide))
            rw [this]; exact Kf.1
          exact kz_spot ha hb (kw_addLamp H5 P.1.1.hl l3 fun u H f => k _ (dz_PK.mk2 H f Kf.2.2.1))
        · have Tv : mr_T T (v 4) := by rw [hv.2.2.2]; exact T4
          have ev : v 4 60 1 = st := by rw [hv.2.2.2]; exact Mf.2.1
          refine km_addLamp Tv P.1.1.hl l4 (fun g => absurd hp g) (fun _ g => absurd h1 g) (fun _ _ g => absurd g (fun z => z.elim (fun z => off (ev.symm.trans z)) (fun z => by omega))) (fun a' b' ha' hb' e1 e2 _ _ _ u N => ?_)
          have q1 : a' = a := (nI_eq (by omega) (by omega)).1 (e1.symm.trans ex)
          have q2 : b' = b := (nI_eq (by omega) (by omega)).1 (e2.symm.trans ey)
          subst q1
          subst q2
          have z := hv.done (c := c) (P.1.lamp l3 (by omega)) P.2.1.1 P.2.1.2 Mf.2.2.1 N
          exact k u z.1 z.2
    · refine Or.inl ⟨eIA, 2, by simp, fun K X k => ?_, fun J k => km_addLamp T4 P.1.1.hl l4 (fun g => absurd hp g) (fun _ _ => k _ hI.F mx_F_0) (fun _ g => absurd g h1) (fun _ _ _ _ _ _ g => absurd g h1)⟩
      unfold wf_X8_addLamp
      exact kz_checkPlace (fun _ => kz_checkRange (fun g1 => absurd g1 h1) (fun _ => k)) (fun g => absurd hp g)
  · refine Or.inl ⟨eIO, 1, by simp, fun K X k => ?_, fun J k => km_addLamp T4 P.1.1.hl l4 (fun _ => k _ hI.F mx_F_0) (fun g => absurd g hp) (fun g => absurd g hp) (fun a b ha hb e1 e2 => absurd (mr_pl_of ha hb e1 e2) hp)⟩
    unfold wf_X8_addLamp
    exact kz_checkPlace (fun g => absurd g hp) (fun _ => k)
theorem mr_in_7 {x : Int32} {d : Nat} (hd : d < 8) (e : x = nI d) : mr_in x 0 7 := by
  rw [e]; exact ⟨nI_pos (by omega), nI_nlt (b := d) (a := 7) (by omega) (by decide)⟩
theorem dz_addThing {x y z b : Int32} (h : dq_I c s) : dz_C c (wf_X8_addThing x y z b) (wf_X9_addThing x y z b) [(eIA, 1), (eIO, 2), (eUO, 3), (eIS, 4)] s := by
  have hI := h
  obtain ⟨n, t, l, m, r, st, T, W0, A, D, B, sp, P, Kf, Mf⟩ := h
  have T4 : mr_T T (s 4) := ⟨Mf.1, P.1.2.1, P.1.1.sg⟩
  have t24 := P.1.1.t24
  have et : s 1 23 2 = nI t := (Kf.1.1 23 2 (by decide) (by decide)).trans P.1.1.ht
  have mth : ∀ {i}, i < t → b = nI i → ¬ b = -1 := fun {i} hi e g => dq_m1' (i := i) (by omega) (e.symm.trans g)
  by_cases hx : mr_in x 0 7
  · by_cases hp : mr_pl y z
    · by_cases hb : b = -1 ∨ mr_th t b
      · by_cases h6 : b = -1 ∨ ∃ i, i < t ∧ b = nI i ∧ T 24 i = 6
        · -- the last part *of* the keep's call
          have tail : ∀ (K : Int32 → dk_S → Prop) (X : String → dk_S → Prop), wf_X8_addThing_30 K X x y z b s → wf_X8_addThing x y z b s K X := fun K X k => by
            unfold wf_X8_addThing
            refine kz_checkRange (fun _ => kz_checkPlace (fun _ => ⟨fun _ => k, fun g => ?_⟩) (fun g => absurd hp g)) (fun g => absurd hx g)
            rcases h6 with e | ⟨i, hi, e, e6⟩
            · exact absurd e g
            · refine kz_checkThing et t24 (fun _ => ?_) (fun q => absurd ⟨i, hi, e⟩ q)
              rw [e]
              rw [e] at k
              exact kz_checkBag Kf.1 (show i < 24 by omega) (fun _ => k) (fun q => absurd e6 q)
          by_cases on : st = 111 ∨ t = 24
          · refine Or.inl ⟨eIS, 4, by simp, fun K X k => tail K X ?_, fun J k => km_addThing T4 P.1.1.ht t24 (fun _ _ _ g => absurd h6 g) (fun g => absurd hx g) (fun _ g => absurd ⟨hp, hb⟩ g) (fun _ _ _ _ => k _ hI.F mx_F_0) (fun _ _ _ _ _ _ _ _ _ _ _ g g2 => ?_)⟩
            · unfold wf_X8_addThing_30
              refine kz_checkNoWorld (fun g => ?_) (fun _ => k)
              rw [et]
              exact kz_checkRoom (m := 24) (by omega) (by decide) (fun g2 => on.elim (fun w => absurd (Kf.2.1.trans w) g) (fun w => by omega)) (fun _ => k)
            · rcases on with w | w
              · exact absurd (Mf.2.1.trans w) g
              · omega
          · have off : ¬ st = 111 := fun g => on (Or.inl g)
            have t3 : t < 24 := Nat.lt_of_le_of_ne t24 fun g => on (Or.inr g)
            obtain ⟨ca, e, hc, he, ey, ez⟩ := mr_pl_n hp
            obtain ⟨d, hd, ex⟩ := mr_in_n (N := 7) rfl hx
            -- the place *of* the thing
            obtain ⟨p, hpv⟩ : ∃ p : Int32, (b = -1 ∧ p = nI (12 * ca + e)) ∨ ∃ i, i < t ∧ b = nI i ∧ T 24 i = 6 ∧ p = (-3) - nI i := by
              rcases h6 with g | ⟨i, hi, g, g6⟩
              · exact ⟨_, Or.inl ⟨g, rfl⟩⟩
              · exact ⟨_, Or.inr ⟨i, hi, g, g6, rfl⟩⟩
            refine Or.inr ⟨nI t, dz_PK (ax_thing t x p T) B sp s, fun K X k => tail K X ?_, fun v J hv k => ?_⟩
            · unfold wf_X8_addThing_30
              refine kz_checkNoWorld (fun _ => ?_) (fun g => absurd (Kf.2.1.symm.trans g) off)
              rw [et]
              refine kz_checkRoom (m := 24) (by omega) (by decide) (fun _ => nm_e ?_) (fun g => absurd t3 g)
              have H5 : dq_WR T (dk_row s 0 40 (upd (s 0 40) 5 110) 1) := by
                have : dk_row s 0 40 (upd (s 0 40) 5 110) 1 = s 1 := funext fun b => dq_row_r (Or.inl (by decide))
                rw [this]; exact Kf.1
              refine ⟨fun g => ?_, fun g => ?_⟩
              · rcases hpv with ⟨w, _⟩ | ⟨i, hi, w, _, ep⟩
                · exact absurd w g
                · rw [w, ← ep]
                  exact kw_addThing H5 P.1.1.ht t3 fun u H f => k _ (dz_PK.mk2 H f Kf.2.2.1)
              · rcases hpv with ⟨_, ep⟩ | ⟨i, hi, w, _, _⟩
                · rw [ey, ez]
                  refine kz_spot hc he ?_
                  rw [← ep]
                  exact kw_addThing H5 P.1.1.ht t3 fun u H f => k _ (dz_PK.mk2 H f Kf.2.2.1)
                · exact absurd g (mth hi w)
            · have Tv : mr_T T (v 4) := by rw [hv.2.2.2]; exact T4
              have ev : v 4 60 1 = st := by rw [hv.2.2.2]; exact Mf.2.1
              refine km_addThing Tv P.1.1.ht t24 (fun _ _ _ g => absurd h6 g) (fun g => absurd hx g) (fun _ g => absurd ⟨hp, hb⟩ g) (fun _ _ _ g => absurd g (fun w => w.elim (fun w => off (ev.symm.trans w)) (fun w => by omega))) (fun d' c' e' p' hd' hc' he' e1 e2 e3 hpv' _ _ u N => ?_)
              have q1 : c' = ca := (nI_eq (by omega) (by omega)).1 (e2.symm.trans ey)
              have q2 : e' = e := (nI_eq (by omega) (by omega)).1 (e3.symm.trans ez)
              subst q1
              subst q2
              have q3 : p' = p := by
                rcases hpv with ⟨g, g2⟩ | ⟨i, hi, g, _, g2⟩
                · rcases hpv' with ⟨_, w⟩ | ⟨j, hj, w, _, _⟩
                  · rw [g2, w]
                  · exact absurd g (mth hj w)
                · rcases hpv' with ⟨w, _⟩ | ⟨j, hj, w, _, w2⟩
                  · exact absurd w (mth hi g)
                  · have : j = i := (nI_eq (by omega) (by omega)).1 (w.symm.trans g)
                    rw [g2, w2, this]
              subst q3
              have TW' : dq_TW n (t + 1) l (ax_thing t x p' T) := by
                rw [ex]
                refine P.1.thing t3 (by omega) ?_
                rcases hpv with ⟨_, g2⟩ | ⟨i, hi, _, _, g2⟩
                · exact Or.inl ⟨_, by omega, g2⟩
                · exact Or.inr ⟨i, hi, g2⟩
              have w := hv.done (c := c) TW' (P.2.1.1.mono (Nat.le_succ t)) P.2.1.2 (Mf.2.2.1.mono (Nat.le_succ t)) N
              exact k u w.1 w.2
        · refine Or.inl ⟨eUO, 3, by simp, fun K X k => ?_, fun J k => km_addThing T4 P.1.1.ht t24 (fun _ _ _ _ => k _ hI.F mx_F_0) (fun g => absurd hx g) (fun _ g => absurd ⟨hp, hb⟩ g) (fun _ _ g => absurd g h6) (fun _ _ _ _ _ _ _ _ _ _ hv => absurd (hv.elim (fun w => Or.inl w.1) (fun ⟨i, hi, w, w2, _⟩ => Or.inr ⟨i, hi, w, w2⟩)) h6)⟩
          unfold wf_X8_addThing
          refine kz_checkRange (fun _ => kz_checkPlace (fun _ => ⟨fun g => absurd (Or.inl g) h6, fun g => kz_checkThing et t24 (fun gt => ?_) (fun q => hb.elim (fun w => absurd w g) (fun w => absurd w q))⟩) (fun g => absurd hp g)) (fun g => absurd hx g)
          obtain ⟨i, hi, e⟩ := gt
          rw [e]
          exact kz_checkBag Kf.1 (show i < 24 by omega) (fun w => absurd (Or.inr ⟨i, hi, e, w⟩) h6) (fun _ => k)
      · refine Or.inl ⟨eIO, 2, by simp, fun K X k => ?_, fun J k => km_addThing T4 P.1.1.ht t24 (fun _ _ g => absurd g hb) (fun g => absurd hx g) (fun _ _ => k _ hI.F mx_F_0) (fun _ _ g => absurd (g.elim Or.inl fun ⟨i, hi, w, _⟩ => Or.inr ⟨i, hi, w⟩) hb) (fun _ _ _ _ _ _ _ _ _ _ hv => absurd (hv.elim (fun w => Or.inl w.1) (fun ⟨i, hi, w, _⟩ => Or.inr ⟨i, hi, w⟩)) hb)⟩
        unfold wf_X8_addThing
        exact kz_checkRange (fun _ => kz_checkPlace (fun _ => ⟨fun g => absurd (Or.inl g) hb, fun _ => kz_checkThing et t24 (fun q => absurd (Or.inr q) hb) (fun _ => k)⟩) (fun g => absurd hp g)) (fun g => absurd hx g)
    · refine Or.inl ⟨eIO, 2, by simp, fun K X k => ?_, fun J k => km_addThing T4 P.1.1.ht t24 (fun _ g => absurd g hp) (fun g => absurd hx g) (fun _ _ => k _ hI.F mx_F_0) (fun _ g => absurd g hp) (fun _ _ _ _ _ hc he _ e2 e3 => absurd (mr_pl_of hc he e2 e3) hp)⟩
      unfold wf_X8_addThing
      exact kz_checkRange (fun _ => kz_checkPlace (fun g => absurd g hp) (fun _ => k)) (fun g => absurd hx g)
  · refine Or.inl ⟨eIA, 1, by simp, fun K X k => ?_, fun J k => km_addThing T4 P.1.1.ht t24 (fun g => absurd g hx) (fun _ => k _ hI.F mx_F_0) (fun g => absurd g hx) (fun g => absurd g hx) (fun _ _ _ _ hd _ _ e1 => absurd (mr_in_7 hd e1) hx)⟩
    unfold wf_X8_addThing
    exact kz_checkRange (fun g => absurd g hx) (fun _ => k)
end DCT
