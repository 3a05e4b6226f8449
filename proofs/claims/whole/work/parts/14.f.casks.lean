/-! each call, the two side by side: what is asked; leave, begin -/
section DCQ
variable {c : Nat} {s u v w0 : dk_S} {T W0 A : dq_W} {D : Nat → Nat × Nat × Nat} {B : Nat → Int32} {st sp : Int32} {n t l m r : Nat}
theorem dz_sh1 (Kf : dq_Kf n t m r st T W0 A D B sp s) (g : s 0 40 5 = 110) : dq_WR (dq_shw n t m st T W0 D) (s 1) := by
  have : st = 110 := Kf.2.1.symm.trans g
  unfold dq_shw
  rw [dq_if_t this]; exact Kf.1
theorem dz_sh2 (Kf : dq_Kf n t m r st T W0 A D B sp s) (g : ¬ s 0 40 5 = 110) : dq_WR (dq_shw n t m st T W0 D) (s 2) := by
  have : ¬ st = 110 := fun q => g (Kf.2.1.trans q)
  unfold dq_shw
  rw [dq_if_f this]; exact (Kf.2.2.2 this).1.1
theorem dz_en (P : dq_P n t l m c st T W0 D B sp) (Kf : dq_Kf n t m r st T W0 A D B sp s) : s 1 13 9 = nI n := (Kf.1.1 13 9 (by decide) (by decide)).trans P.1.1.hn
/-- nothing changes -/
theorem dz_same (hI : dq_I c s) {J : Int32 → dk_S → Prop} {x : Int32} (k : ∀ u, dq_I (c + 1) u → u 4 60 0 = 0 → J x u) {v : dk_S} (hv : v = s) : J x (mx_F v 0) := by
  subst hv
  exact k _ hI.F.up mx_F_0
theorem dz_state (h : dq_I c s) : dz_C c (fun s K _ => wf_X8_state s K) wf_X9_state [] s := by
  have hI := h
  obtain ⟨n, t, l, m, r, st, T, W0, A, D, B, sp, P, Kf, Mf⟩ := h
  refine Or.inr ⟨st, fun v => v = s, fun K X k => ?_, fun v J hv k => ?_⟩
  · show wf_X8_state s K
    unfold wf_X8_state
    rw [Kf.2.1]
    refine ⟨?_, k s rfl⟩
    rcases P.2.2.1 with g | g | g | g <;> rw [g] <;> decide
  · have e1 : v 4 60 1 = st := by rw [hv]; exact Mf.2.1
    refine km_state ?_ (dq_ke e1 (dz_same hI k hv))
    rw [e1]
    rcases P.2.2.1 with g | g | g | g
    · exact Or.inl g
    · exact Or.inr (Or.inl g)
    · exact Or.inr (Or.inr (Or.inl g))
    · exact Or.inr (Or.inr (Or.inr g))
theorem dz_tick (h : dq_I c s) : dz_C c (fun s K _ => wf_X8_tick s K) wf_X9_tick [] s := by
  have hI := h
  obtain ⟨n, t, l, m, r, st, T, W0, A, D, B, sp, P, Kf, Mf⟩ := h
  obtain ⟨Rs, Is⟩ := dz_shR P Mf
  refine Or.inr ⟨dq_shw n t m st T W0 D 0 5, fun v => v = s, fun K X k => ?_, fun v J hv k => ?_⟩
  · show wf_X8_tick s K
    unfold wf_X8_tick
    exact ⟨fun g => dq_ke ((dz_sh1 Kf g).f0 (by decide) (by decide)) (k s rfl), fun g => dq_ke ((dz_sh2 Kf g).f0 (by decide) (by decide)) (k s rfl)⟩
  · exact km_tick (dq_ke (by rw [hv]; exact Rs.n2) (dz_same hI k hv))
theorem dz_cell {x y : Int32} (h : dq_I c s) : dz_C c (wf_X8_cell x y) (wf_X9_cell x y) [(eIO, 1)] s := by
  have hI := h
  obtain ⟨n, t, l, m, r, st, T, W0, A, D, B, sp, P, Kf, Mf⟩ := h
  obtain ⟨Rs, Is⟩ := dz_shR P Mf
  by_cases hp : mr_pl x y
  · obtain ⟨a, b, ha, hb, ex, ey⟩ := mr_pl_n hp
    refine Or.inr ⟨dq_shw n t m st T W0 D 2 (12 * a + b), fun v => v = s, fun K X k => ?_, fun v J hv k => ?_⟩
    · unfold wf_X8_cell
      refine kz_checkPlace (fun _ => ?_) (fun g => absurd hp g)
      have go : ∀ p, dq_WR (dq_shw n t m st T W0 D) (s p) → wf_X8_spot x y s (fun r3 s2 => wf_X1_signAt p r3 s2 (fun r5 s4 => (narrow .char (.int r5) = .int r5 ∧ K r5 s4))) := fun p H => by
        rw [ex, ey]
        refine kz_spot ha hb ?_
        rw [← dq_pI_in (show 12 * a + b < 144 by omega)]
        refine kw_signAt H Is.sg (by omega) ?_
        rw [dq_sg_in (show 12 * a + b < 144 by omega)]
        exact ⟨dq_sgn_nar (Is.sg _ (by omega)), k s rfl⟩
      exact ⟨fun g => go 1 (dz_sh1 Kf g), fun g => go 2 (dz_sh2 Kf g)⟩
    · subst hv
      refine km_cell Rs Is.sg (fun g => absurd hp g) (fun a' b' ha' hb' e1 e2 => ?_)
      have q1 : a' = a := (nI_eq (by omega) (by omega)).1 (e1.symm.trans ex)
      have q2 : b' = b := (nI_eq (by omega) (by omega)).1 (e2.symm.trans ey)
      subst q1
      subst q2
      exact dz_same hI k rfl
  · refine Or.inl ⟨eIO, 1, by simp, fun K X k => ?_, fun J k => km_cell Rs Is.sg (fun _ => k _ hI.F mx_F_0) (fun a b ha hb e1 e2 => absurd (mr_pl_of ha hb e1 e2) hp)⟩
    unfold wf_X8_cell
    exact kz_checkPlace (fun g => absurd g hp) (fun _ => k)
theorem dz_see {x y z w : Int32} (h : dq_I c s) : dz_C c (wf_X8_see x y z w) (wf_X9_see x y z w) [(eIO, 1)] s := by
  have hI := h
  obtain ⟨n, t, l, m, r, st, T, W0, A, D, B, sp, P, Kf, Mf⟩ := h
  obtain ⟨Rs, Is⟩ := dz_shR P Mf
  by_cases hp : mr_pl x y ∧ mr_pl z w
  · obtain ⟨a, b, ha, hb, ex, ey⟩ := mr_pl_n hp.1
    obtain ⟨a2, b2, ha2, hb2, ez, ew⟩ := mr_pl_n hp.2
    refine Or.inr ⟨mb_al (dq_see (dq_shw n t m st T W0 D) (12 * a + b) (12 * a2 + b2)), fun v => v = s, fun K X k => ?_, fun v J hv k => ?_⟩
    · unfold wf_X8_see
      refine kz_checkPlace (fun _ => kz_checkPlace (fun _ => ?_) (fun g => absurd hp.2 g)) (fun g => absurd hp.1 g)
      have go : ∀ p, dq_WR (dq_shw n t m st T W0 D) (s p) → wf_X8_spot x y s (fun r4 s3 => wf_X8_spot z w s3 (fun r6 s5 => wf_X1_seeEachOther p r4 r6 s5 (fun r8 s7 => (narrow .boolean (.int r8) = .int r8 ∧ K r8 s7)))) := fun p H => by
        rw [ex, ey, ez, ew]
        refine kz_spot ha hb (kz_spot ha2 hb2 (kw_see H Is.sg (by omega) (by omega) (fun g => ⟨dq_nz1, ?_⟩) (fun g => ⟨dq_nz0, ?_⟩)))
        · exact dq_ke (mb_al_t g).symm (k s rfl)
        · exact dq_ke (mb_al_f g).symm (k s rfl)
      exact ⟨fun g => go 1 (dz_sh1 Kf g), fun g => go 2 (dz_sh2 Kf g)⟩
    · subst hv
      refine km_see Rs (fun g => absurd hp g) (fun a' b' c' d' ha' hb' hc' hd' e1 e2 e3 e4 => ?_)
      have q1 : a' = a := (nI_eq (by omega) (by omega)).1 (e1.symm.trans ex)
      have q2 : b' = b := (nI_eq (by omega) (by omega)).1 (e2.symm.trans ey)
      have q3 : c' = a2 := (nI_eq (by omega) (by omega)).1 (e3.symm.trans ez)
      have q4 : d' = b2 := (nI_eq (by omega) (by omega)).1 (e4.symm.trans ew)
      subst q1
      subst q2
      subst q3
      subst q4
      exact ⟨fun g => dq_ke (mb_al_t g).symm (dz_same hI k rfl), fun g => dq_ke (mb_al_f g).symm (dz_same hI k rfl)⟩
  · refine Or.inl ⟨eIO, 1, by simp, fun K X k => ?_, fun J k => km_see Rs (fun _ => k _ hI.F mx_F_0) (fun a b a2 b2 ha hb ha2 hb2 e1 e2 e3 e4 => absurd ⟨mr_pl_of ha hb e1 e2, mr_pl_of ha2 hb2 e3 e4⟩ hp)⟩
    unfold wf_X8_see
    exact kz_checkPlace (fun g1 => kz_checkPlace (fun g2 => absurd ⟨g1, g2⟩ hp) (fun _ => k)) (fun _ => k)
theorem dz_heroSees {x y : Int32} (h : dq_I c s) : dz_C c (wf_X8_heroSees x y) (wf_X9_heroSees x y) [(eIO, 1), (eIS, 2)] s := by
  have hI := h
  obtain ⟨n, t, l, m, r, st, T, W0, A, D, B, sp, P, Kf, Mf⟩ := h
  obtain ⟨Rs, Is⟩ := dz_shR P Mf
  by_cases hp : mr_pl x y
  · by_cases on : st = 111
    · subst on
      obtain ⟨a, b, ha, hb, ex, ey⟩ := mr_pl_n hp
      have W2 := dz_W2 P Kf
      obtain ⟨R, JV, RT⟩ := dz_onR P Mf rfl
      refine Or.inr ⟨mb_al (dq_sn (dq_ch n t W0 D m) l (12 * a + b)), fun v => v = s, fun K X k => ?_, fun v J hv k => ?_⟩
      · unfold wf_X8_heroSees
        refine kz_checkPlace (fun _ => kz_checkWorld (fun _ => ?_) (fun g => absurd Kf.2.1 g)) (fun g => absurd hp g)
        rw [ex, ey]
        exact kz_spot ha hb (kw_isSeenByHero W2 JV.1 (by omega) (fun g => ⟨dq_nz1, dq_ke (mb_al_t g).symm (k s rfl)⟩) (fun g => ⟨dq_nz0, dq_ke (mb_al_f g).symm (k s rfl)⟩))
      · subst hv
        refine km_heroSees (fun g => absurd hp g) (fun _ g => absurd Mf.2.1 g) R JV.1 (fun a' b' ha' hb' e1 e2 _ => ?_)
        have q1 : a' = a := (nI_eq (by omega) (by omega)).1 (e1.symm.trans ex)
        have q2 : b' = b := (nI_eq (by omega) (by omega)).1 (e2.symm.trans ey)
        subst q1
        subst q2
        exact ⟨fun g => dq_ke (mb_al_t g).symm (dz_same hI k rfl), fun g => dq_ke (mb_al_f g).symm (dz_same hI k rfl)⟩
    · refine Or.inl ⟨eIS, 2, by simp, fun K X k => ?_, fun J k => km_heroSees (fun g => absurd hp g) (fun _ _ => k _ hI.F mx_F_0) Rs Is (fun _ _ _ _ _ _ g => absurd (Mf.2.1.symm.trans g) on)⟩
      unfold wf_X8_heroSees
      exact kz_checkPlace (fun _ => kz_checkWorld (fun g => absurd (Kf.2.1.symm.trans g) on) (fun _ => k)) (fun g => absurd hp g)
  · refine Or.inl ⟨eIO, 1, by simp, fun K X k => ?_, fun J k => km_heroSees (fun _ => k _ hI.F mx_F_0) (fun g => absurd g hp) Rs Is (fun a b ha hb e1 e2 => absurd (mr_pl_of ha hb e1 e2) hp)⟩
    unfold wf_X8_heroSees
    exact kz_checkPlace (fun g => absurd g hp) (fun _ => k)
theorem mr_cr_0 {n lo : Nat} {x : Int32} {i : Nat} (hl : lo ≤ i) (hi : i < n) (e : x = nI i) : mr_cr n lo x := ⟨i, hl, hi, e⟩
theorem dz_placeOf {x : Int32} (h : dq_I c s) : dz_C c (wf_X8_placeOf x) (wf_X9_placeOf x) [(eIO, 1)] s := by
  have hI := h
  obtain ⟨n, t, l, m, r, st, T, W0, A, D, B, sp, P, Kf, Mf⟩ := h
  obtain ⟨Rs, Is⟩ := dz_shR P Mf
  have n8 := P.1.1.h8
  by_cases hx : mr_cr n 0 x
  · obtain ⟨i, _, hi, ex⟩ := hx
    refine Or.inr ⟨dq_sp (dq_pl (dq_shw n t m st T W0 D) i), fun v => v = s, fun K X k => ?_, fun v J hv k => ?_⟩
    · unfold wf_X8_placeOf
      refine kz_checkCreature (lo := 0) (by decide) (dz_en P Kf) n8 (fun _ => ?_) (fun g => absurd (mr_cr_0 (Nat.zero_le _) hi ex) g)
      have go : ∀ p, dq_WR (dq_shw n t m st T W0 D) (s p) → wf_X8_at p 14 8 x s (fun r3 s2 => wf_X8_shownPlace r3 s2 (fun r5 s4 => K r5 s4)) := fun p H => by
        rw [ex]
        refine kw_at8 H (show i < 8 by omega) (by decide) ?_
        have hp := Is.pl i (by omega)
        rw [hp.2]
        exact kz_shownPlace hp.1 (k s rfl)
      exact ⟨fun g => go 1 (dz_sh1 Kf g), fun g => go 2 (dz_sh2 Kf g)⟩
    · subst hv
      refine km_placeOf Rs Is (fun g => absurd (mr_cr_0 (Nat.zero_le _) hi ex) g) (fun i' hi' e => ?_)
      have : i' = i := (nI_eq (by omega) (by omega)).1 (e.symm.trans ex)
      subst this
      exact dz_same hI k rfl
  · refine Or.inl ⟨eIO, 1, by simp, fun K X k => ?_, fun J k => km_placeOf Rs Is (fun _ => k _ hI.F mx_F_0) (fun i hi e => absurd (mr_cr_0 (Nat.zero_le _) hi e) hx)⟩
    unfold wf_X8_placeOf
    exact kz_checkCreature (lo := 0) (by decide) (dz_en P Kf) n8 (fun g => absurd g hx) (fun _ => k)
theorem dz_healthOf {x : Int32} (h : dq_I c s) : dz_C c (wf_X8_healthOf x) (wf_X9_healthOf x) [(eIO, 1)] s := by
  have hI := h
  obtain ⟨n, t, l, m, r, st, T, W0, A, D, B, sp, P, Kf, Mf⟩ := h
  obtain ⟨Rs, Is⟩ := dz_shR P Mf
  have n8 := P.1.1.h8
  by_cases hx : mr_cr n 0 x
  · obtain ⟨i, _, hi, ex⟩ := hx
    refine Or.inr ⟨dq_shw n t m st T W0 D 18 i, fun v => v = s, fun K X k => ?_, fun v J hv k => ?_⟩
    · unfold wf_X8_healthOf
      refine kz_checkCreature (lo := 0) (by decide) (dz_en P Kf) n8 (fun _ => ?_) (fun g => absurd (mr_cr_0 (Nat.zero_le _) hi ex) g)
      have go : ∀ p, dq_WR (dq_shw n t m st T W0 D) (s p) → wf_X8_at p 18 8 x s (fun r3 s2 => K r3 s2) := fun p H => by
        rw [ex]
        exact kw_at8 H (show i < 8 by omega) (by decide) (k s rfl)
      exact ⟨fun g => go 1 (dz_sh1 Kf g), fun g => go 2 (dz_sh2 Kf g)⟩
    · subst hv
      refine km_healthOf Rs Is (fun g => absurd (mr_cr_0 (Nat.zero_le _) hi ex) g) (fun i' hi' e => ?_)
      have : i' = i := (nI_eq (by omega) (by omega)).1 (e.symm.trans ex)
      subst this
      exact dz_same hI k rfl
  · refine Or.inl ⟨eIO, 1, by simp, fun K X k => ?_, fun J k => km_healthOf Rs Is (fun _ => k _ hI.F mx_F_0) (fun i hi e => absurd (mr_cr_0 (Nat.zero_le _) hi e) hx)⟩
    unfold wf_X8_healthOf
    exact kz_checkCreature (lo := 0) (by decide) (dz_en P Kf) n8 (fun g => absurd g hx) (fun _ => k)
theorem dz_aimOf {x : Int32} (h : dq_I c s) : dz_C c (wf_X8_aimOf x) (wf_X9_aimOf x) [(eIO, 1), (eNS, 2)] s := by
  have hI := h
  obtain ⟨n, t, l, m, r, st, T, W0, A, D, B, sp, P, Kf, Mf⟩ := h
  obtain ⟨Rs, Is⟩ := dz_shR P Mf
  have n8 := P.1.1.h8
  by_cases hx : mr_cr n 1 x
  · obtain ⟨i, h1, hi, ex⟩ := hx
    have uq : ∀ {i'}, i' < n → x = nI i' → i' = i := fun {i'} _ e => (nI_eq (by omega) (by omega)).1 (e.symm.trans ex)
    have pre : ∀ (K : Int32 → dk_S → Prop) (X : String → dk_S → Prop), (∀ p, dq_WR (dq_shw n t m st T W0 D) (s p) → ((¬ dq_shw n t m st T W0 D 22 i = -1 → wf_X8_shownPlace (dq_shw n t m st T W0 D 22 i) s (fun r5 s4 => K r5 s4)) ∧ (dq_shw n t m st T W0 D 22 i = -1 → X eNS s))) → wf_X8_aimOf x s K X := fun K X k => by
      unfold wf_X8_aimOf
      refine kz_checkCreature (lo := 1) (by decide) (dz_en P Kf) n8 (fun _ => ?_) (fun g => absurd (mr_cr_0 h1 hi ex) g)
      rw [ex]
      exact ⟨fun g => kw_at8 (dz_sh1 Kf g) (show i < 8 by omega) (by decide) (k 1 (dz_sh1 Kf g)), fun g => kw_at8 (dz_sh2 Kf g) (show i < 8 by omega) (by decide) (k 2 (dz_sh2 Kf g))⟩
    rcases Is.am i (by omega) with ha | ⟨p, hp, ha⟩
    · refine Or.inl ⟨eNS, 2, by simp, fun K X k => pre K X (fun _ _ => ⟨fun g => absurd ha g, fun _ => k⟩), fun J k => km_aimOf Rs Is (fun g => absurd (mr_cr_0 h1 hi ex) g) (fun _ _ _ _ _ => k _ hI.F mx_F_0) (fun i' p _ hi' e hp e2 => ?_)⟩
      rw [uq hi' e, ha] at e2
      exact absurd e2 (dq_m1 (by omega))
    · have hne : ¬ dq_shw n t m st T W0 D 22 i = -1 := fun g => dq_m1' (show p < 2 ^ 31 by omega) (ha.symm.trans g)
      refine Or.inr ⟨dq_sp p, fun v => v = s, fun K X k => pre K X (fun _ _ => ⟨fun _ => ?_, fun g => absurd g hne⟩), fun v J hv k => ?_⟩
      · rw [ha]; exact kz_shownPlace hp (k s rfl)
      · subst hv
        refine km_aimOf Rs Is (fun g => absurd (mr_cr_0 h1 hi ex) g) (fun i' _ hi' e e2 => ?_) (fun i' p' _ hi' e hp' e2 => ?_)
        · rw [uq hi' e] at e2; exact absurd e2 hne
        · rw [uq hi' e, ha] at e2
          have : p' = p := ((nI_eq (by omega) (by omega)).1 e2).symm
          subst this
          exact dz_same hI k rfl
  · refine Or.inl ⟨eIO, 1, by simp, fun K X k => ?_, fun J k => km_aimOf Rs Is (fun _ => k _ hI.F mx_F_0) (fun i h1 hi e => absurd (mr_cr_0 h1 hi e) hx) (fun i _ h1 hi e => absurd (mr_cr_0 h1 hi e) hx)⟩
    unfold wf_X8_aimOf
    exact kz_checkCreature (lo := 1) (by decide) (dz_en P Kf) n8 (fun g => absurd g hx) (fun _ => k)
theorem dz_whereIs {x : Int32} (h : dq_I c s) : dz_C c (wf_X8_whereIs x) (wf_X9_whereIs x) [(eIO, 1)] s := by
  have hI := h
  obtain ⟨n, t, l, m, r, st, T, W0, A, D, B, sp, P, Kf, Mf⟩ := h
  obtain ⟨Rs, Is⟩ := dz_shR P Mf
  have et := dz_et P Kf
  have t24 := P.1.1.t24
  have lt0 : ∀ {y : Int32}, 0 ≤ y ↔ ¬ y < 0 := fun {y} => (mr_lt_le).symm
  by_cases hx : mr_th t x
  · obtain ⟨i, hi, ex⟩ := hx
    have uq : ∀ {i'}, i' < t → x = nI i' → i' = i := fun {i'} _ e => (nI_eq (by omega) (by omega)).1 (e.symm.trans ex)
    have pre : ∀ (K : Int32 → dk_S → Prop) (X : String → dk_S → Prop), ((0 ≤ dq_shw n t m st T W0 D 25 i → wf_X8_shownPlace (dq_shw n t m st T W0 D 25 i) s (fun r5 s4 => K r5 s4)) ∧ (¬ 0 ≤ dq_shw n t m st T W0 D 25 i → K (dq_shw n t m st T W0 D 25 i) s)) → wf_X8_whereIs x s K X := fun K X k => by
      unfold wf_X8_whereIs
      refine kz_checkThing et t24 (fun _ => ?_) (fun g => absurd ⟨i, hi, ex⟩ g)
      rw [ex]
      exact ⟨fun g => kw_at24 (dz_sh1 Kf g) (show i < 24 by omega) (Or.inr rfl) k, fun g => kw_at24 (dz_sh2 Kf g) (show i < 24 by omega) (Or.inr rfl) k⟩
    rcases dq_TP_neg Is (show i < 24 by omega) with ha | ⟨p, hp, ha⟩
    · refine Or.inr ⟨dq_shw n t m st T W0 D 25 i, fun v => v = s, fun K X k => pre K X ⟨fun g => absurd ha (lt0.1 g), fun _ => k s rfl⟩, fun v J hv k => ?_⟩
      subst hv
      refine km_whereIs Rs Is (fun g => absurd ⟨i, hi, ex⟩ g) (fun i' hi' e _ => ?_) (fun i' p hi' e hp e2 => ?_)
      · rw [uq hi' e]; exact dz_same hI k rfl
      · rw [uq hi' e] at e2
        rw [e2] at ha
        exact absurd ha (nI_pos (by omega))
    · have hnn : ¬ dq_shw n t m st T W0 D 25 i < 0 := by rw [ha]; exact nI_pos (by omega)
      refine Or.inr ⟨dq_sp p, fun v => v = s, fun K X k => pre K X ⟨fun _ => ?_, fun g => absurd (lt0.2 hnn) g⟩, fun v J hv k => ?_⟩
      · rw [ha]; exact kz_shownPlace hp (k s rfl)
      · subst hv
        refine km_whereIs Rs Is (fun g => absurd ⟨i, hi, ex⟩ g) (fun i' hi' e e2 => ?_) (fun i' p' hi' e hp' e2 => ?_)
        · rw [uq hi' e] at e2; exact absurd e2 hnn
        · rw [uq hi' e, ha] at e2
          have : p' = p := ((nI_eq (by omega) (by omega)).1 e2).symm
          subst this
          exact dz_same hI k rfl
  · refine Or.inl ⟨eIO, 1, by simp, fun K X k => ?_, fun J k => km_whereIs Rs Is (fun _ => k _ hI.F mx_F_0) (fun i hi e => absurd ⟨i, hi, e⟩ hx) (fun i _ hi e => absurd ⟨i, hi, e⟩ hx)⟩
    unfold wf_X8_whereIs
    exact kz_checkThing et t24 (fun g => absurd g hx) (fun _ => k)
theorem dz_weightOf {x : Int32} (h : dq_I c s) : dz_C c (wf_X8_weightOf x) (wf_X9_weightOf x) [(eIO, 1)] s := by
  have hI := h
  obtain ⟨n, t, l, m, r, st, T, W0, A, D, B, sp, P, Kf, Mf⟩ := h
  obtain ⟨Rs, Is⟩ := dz_shR P Mf
  have et := dz_et P Kf
  have t24 := P.1.1.t24
  by_cases hx : mr_th t x
  · obtain ⟨i, hi, ex⟩ := hx
    refine Or.inr ⟨dq_sum (fun j => dq_wi (dq_shw n t m st T W0 D) i 24 j) (dq_wt (dq_shw n t m st T W0 D)) t, fun v => v = s, fun K X k => ?_, fun v J hv k => ?_⟩
    · unfold wf_X8_weightOf
      refine kz_checkThing et t24 (fun _ => ?_) (fun g => absurd ⟨i, hi, ex⟩ g)
      rw [ex]
      exact ⟨fun g => kw_wholeWeight (show i < 24 by omega) (dz_sh1 Kf g) Is (k s rfl), fun g => kw_wholeWeight (show i < 24 by omega) (dz_sh2 Kf g) Is (k s rfl)⟩
    · subst hv
      refine km_weightOf Rs Is (fun g => absurd ⟨i, hi, ex⟩ g) (fun i' hi' e => ?_)
      have : i' = i := (nI_eq (by omega) (by omega)).1 (e.symm.trans ex)
      subst this
      exact dz_same hI k rfl
  · refine Or.inl ⟨eIO, 1, by simp, fun K X k => ?_, fun J k => km_weightOf Rs Is (fun _ => k _ hI.F mx_F_0) (fun i hi e => absurd ⟨i, hi, e⟩ hx)⟩
    unfold wf_X8_weightOf
    exact kz_checkThing et t24 (fun g => absurd g hx) (fun _ => k)
end DCQ
