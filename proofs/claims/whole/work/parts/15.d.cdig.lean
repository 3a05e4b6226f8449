/-! each call, the two side by side: dig, setEffect -/
theorem tx_sgn {x : Int32} : x ∈ dk_txB.getD 0 [] ↔ dq_sgn x := by
  show x ∈ ([35, 46, 126, 43, 47, 48, 49, 50] : List Int32) ↔ _
  unfold dq_sgn
  simp only [List.mem_cons, List.not_mem_nil, or_false]
theorem tx_eff {x : Int32} : x ∈ dk_txB.getD 1 [] ↔ dq_eff x := by
  show x ∈ ([104, 100, 115, 98, 102] : List Int32) ↔ _
  unfold dq_eff
  simp only [List.mem_cons, List.not_mem_nil, or_false]
theorem kz_ix {P A Bq : Prop} {r : Int32} (e : r < 0 ↔ ¬ P) (k1 : P → A) (k0 : ¬ P → Bq) : (0 ≤ r → A) ∧ (¬ 0 ≤ r → Bq) :=
  ⟨fun h => k1 (Classical.byContradiction fun g => mr_lt_le.2 h (e.2 g)), fun h => k0 (e.1 (Classical.byContradiction fun g => h (mr_lt_le.1 g)))⟩
section DCD
variable {c : Nat} {s u v : dk_S} {n t l : Nat}
theorem dz_dig {x y z : Int32} (h : dq_I c s) : dz_C c (wf_X8_dig x y z) (wf_X9_dig x y z) [(eIO, 1), (eIA, 2), (eIS, 3)] s := by
  have hI := h
  obtain ⟨n, t, l, m, r, st, T, W0, A, D, B, sp, P, Kf, Mf⟩ := h
  have T4 : mr_T T (s 4) := ⟨Mf.1, P.1.2.1, P.1.1.sg⟩
  by_cases hp : mr_pl x y
  · by_cases hz : dq_sgn z
    · by_cases on : st = 111
      · refine Or.inl ⟨eIS, 3, by simp, fun K X k => ?_, fun J k => km_dig T4 (fun g => absurd hp g) (fun _ g => absurd hz g) (fun _ _ _ => k _ hI.F mx_F_0) (fun _ _ _ _ _ _ _ g => absurd (Mf.2.1.trans on) g)⟩
        unfold wf_X8_dig
        exact kz_checkPlace (fun _ => fun r e => kz_ix e (fun _ => kz_checkNoWorld (fun g => absurd (Kf.2.1.trans on) g) (fun _ => k)) (fun g => absurd (tx_sgn.2 hz) g)) (fun g => absurd hp g)
      · obtain ⟨a, b, ha, hb, ex, ey⟩ := mr_pl_n hp
        have hab : 12 * a + b < 144 := by omega
        refine Or.inr ⟨T 2 (12 * a + b), dz_PK (dq_set T 2 (12 * a + b) z) B sp s, fun K X k => ?_, fun v J hv k => ?_⟩
        · unfold wf_X8_dig
          refine kz_checkPlace (fun _ => fun r e => kz_ix e (fun _ => kz_checkNoWorld (fun _ => ?_) (fun g => absurd (Kf.2.1.symm.trans g) on)) (fun g => absurd (tx_sgn.2 hz) g)) (fun g => absurd hp g)
          subst ex
          subst ey
          refine kz_spot ha hb ?_
          rw [← dq_pI_in hab]
          refine kw_signAt Kf.1 P.1.1.sg (by omega) (kz_spot ha hb ?_)
          rw [dq_sg_in hab, ← dq_pI_in hab]
          exact kw_change Kf.1 hab hz fun u Hu f => nm_e ⟨dq_sgn_nar (P.1.1.sg _ hab), k _ (dz_PK.mk Hu f Kf.2.2.1)⟩
        · have Tv : mr_T T (v 4) := by rw [hv.2.2.2]; exact T4
          have ev : v 4 60 1 = st := by rw [hv.2.2.2]; exact Mf.2.1
          refine km_dig Tv (fun g => absurd hp g) (fun _ g => absurd hz g) (fun _ _ g => absurd (ev.symm.trans g) on) (fun a' b' ha' hb' e1 e2 _ _ u N => ?_)
          have q1 : a' = a := (nI_eq (by omega) (by omega)).1 (e1.symm.trans ex)
          have q2 : b' = b := (nI_eq (by omega) (by omega)).1 (e2.symm.trans ey)
          subst q1
          subst q2
          have q := hv.done (c := c) (P.1.dig hz) P.2.1.1 P.2.1.2 Mf.2.2.1 N
          exact k u q.1 q.2
    · refine Or.inl ⟨eIA, 2, by simp, fun K X k => ?_, fun J k => km_dig T4 (fun g => absurd hp g) (fun _ _ => k _ hI.F mx_F_0) (fun _ g => absurd g hz) (fun _ _ _ _ _ _ g => absurd g hz)⟩
      unfold wf_X8_dig
      exact kz_checkPlace (fun _ => fun r e => kz_ix e (fun g => absurd (tx_sgn.1 g) hz) (fun _ => k)) (fun g => absurd hp g)
  · refine Or.inl ⟨eIO, 1, by simp, fun K X k => ?_, fun J k => km_dig T4 (fun _ => k _ hI.F mx_F_0) (fun g => absurd g hp) (fun g => absurd g hp) (fun a b ha hb e1 e2 => absurd (mr_pl_of ha hb e1 e2) hp)⟩
    unfold wf_X8_dig
    exact kz_checkPlace (fun g => absurd g hp) (fun _ => k)
theorem dz_setEffect {x y z w : Int32} (h : dq_I c s) : dz_C c (wf_X8_setEffect x y z w) (wf_X9_setEffect x y z w) [(eIA, 1), (eIS, 2)] s := by
  have hI := h
  obtain ⟨n, t, l, m, r, st, T, W0, A, D, B, sp, P, Kf, Mf⟩ := h
  have T4 : mr_T T (s 4) := ⟨Mf.1, P.1.2.1, P.1.1.sg⟩
  have r35 : ∀ {d : Nat}, 3 ≤ d → d ≤ 5 → x = nI d → mr_in x 3 5 := fun {d} h1 h2 e => by rw [e]; exact ⟨nI_nlt (b := 3) h1 (by omega), nI_nlt (a := 5) h2 (by decide)⟩
  by_cases h1 : mr_in x 3 5 ∧ dq_eff y ∧ mr_in z 1 20 ∧ mr_in w 0 3
  · by_cases on : st = 111
    · refine Or.inl ⟨eIS, 2, by simp, fun K X k => ?_, fun J k => km_setEffect T4 P.1.1.ef (fun g => absurd h1 g) (fun _ _ => k _ hI.F mx_F_0) (fun _ _ _ _ _ g => absurd (Mf.2.1.trans on) g)⟩
      unfold wf_X8_setEffect
      exact kz_checkRange (fun _ => fun r e => kz_ix e (fun _ => kz_checkRange (fun _ => kz_checkRange (fun _ => kz_checkNoWorld (fun g => absurd (Kf.2.1.trans on) g) (fun _ => k)) (fun g => absurd h1.2.2.2 g)) (fun g => absurd h1.2.2.1 g)) (fun g => absurd (tx_eff.2 h1.2.1) g)) (fun g => absurd h1.1 g)
    · obtain ⟨d, d3, d5, ex⟩ := mr_in_01 (L := 3) (N := 5) rfl rfl h1.1
      have hd8 : d < 8 := by omega
      refine Or.inr ⟨T 10 d, dz_PK (ax_effect d y z w T) B sp s, fun K X k => ?_, fun v J hv k => ?_⟩
      · unfold wf_X8_setEffect
        refine kz_checkRange (fun _ => fun r e => kz_ix e (fun _ => kz_checkRange (fun _ => kz_checkRange (fun _ => kz_checkNoWorld (fun _ => ?_) (fun g => absurd (Kf.2.1.symm.trans g) on)) (fun g => absurd h1.2.2.2 g)) (fun g => absurd h1.2.2.1 g)) (fun g => absurd (tx_eff.2 h1.2.1) g)) (fun g => absurd h1.1 g)
        subst ex
        exact kw_effectOf Kf.1 P.1.1 hd8 (kw_tellEffect Kf.1 hd8 fun u Hu f => nm_e ⟨dq_eff_n (P.1.1.ef d hd8), k _ (dz_PK.mk Hu f Kf.2.2.1)⟩)
      · have Tv : mr_T T (v 4) := by rw [hv.2.2.2]; exact T4
        have ev : v 4 60 1 = st := by rw [hv.2.2.2]; exact Mf.2.1
        refine km_setEffect Tv P.1.1.ef (fun g => absurd h1 g) (fun _ g => absurd (ev.symm.trans g) on) (fun d' h3' h5' e' _ _ u N => ?_)
        have : d' = d := (nI_eq (by omega) (by omega)).1 (e'.symm.trans ex)
        subst this
        have q := hv.done (c := c) (P.1.effect h1.2.1 h1.2.2.1) P.2.1.1 P.2.1.2 Mf.2.2.1 N
        exact k u q.1 q.2
  · refine Or.inl ⟨eIA, 1, by simp, fun K X k => ?_, fun J k => km_setEffect T4 P.1.1.ef (fun _ => k _ hI.F mx_F_0) (fun g => absurd g h1) (fun d d3 d5 e g => absurd ⟨r35 d3 d5 e, g⟩ h1)⟩
    unfold wf_X8_setEffect
    exact kz_checkRange (fun g1 => fun r e => kz_ix e (fun g2 => kz_checkRange (fun g3 => kz_checkRange (fun g4 => absurd ⟨g1, tx_eff.1 g2, g3, g4⟩ h1) (fun _ => k)) (fun _ => k)) (fun _ => k)) (fun _ => k)
end DCD
