/-! what is told, the keep alone -/
theorem tx_sgn {x : Int32} : x ∈ dk_txB.getD 0 [] ↔ dq_sgn x := by
  show x ∈ ([35, 46, 126, 43, 47, 48, 49, 50] : List Int32) ↔ _
  unfold dq_sgn
  simp only [List.mem_cons, List.not_mem_nil, or_false]
theorem tx_eff {x : Int32} : x ∈ dk_txB.getD 1 [] ↔ dq_eff x := by
  show x ∈ ([104, 100, 115, 98, 102] : List Int32) ↔ _
  unfold dq_eff
  simp only [List.mem_cons, List.not_mem_nil, or_false]
theorem kz_ix {P A Bq : Prop} {r : Int32} (e : r < 0 ↔ ¬ P) (k1 : P → A) (k0 : ¬ P → Bq) : (0 ≤ r → A) ∧ (¬ 0 ≤ r → Bq) :=
  ⟨fun h => k1 (Classical.byContradiction fun g => mr_lt_le.2 h (e.2 g)), fun h => k0 (e.1 (Classical.byContradiction fun g => h (mr_lt_le.1 g)))⟩
/-- the keep ahead of its first world: told T, no bones -/
def dp_S (T : dq_W) (s : dk_S) : Prop := dq_WR T (s 1) ∧ s 0 40 5 = 110 ∧ s 0 45 1 = -1
section DPG
variable {n t l : Nat} {T T' : dq_W} {s u v : dk_S} {K : Int32 → dk_S → Prop} {X : String → dk_S → Prop}
theorem dp_S.off (S : dp_S T s) : ¬ s 0 40 5 = 111 := by rw [S.2.1]; decide
theorem dp_S.mk (S : dp_S T s) (H : dq_WR T' (u 1)) (f : dq_fr 1 s u) : dp_S T' (dk_row u 0 40 (upd (u 0 40) 5 110)) := by
  refine ⟨?_, ?_, ?_⟩
  · have : dk_row u 0 40 (upd (u 0 40) 5 110) 1 = u 1 := funext fun b => dq_row_r (Or.inl (by decide))
    rw [this]; exact H
  · rw [dq_set_row, dq_set_eq]
  · rw [dq_row_r (Or.inr (by decide)), f 0 (by decide)]; exact S.2.2
theorem dp_S.mk2 (S : dp_S T s) (H : dq_WR T' (u 1)) (f : dq_fr 1 (dk_row s 0 40 (upd (s 0 40) 5 110)) u) : dp_S T' u := by
  refine ⟨H, ?_, ?_⟩
  · rw [f 0 (by decide), dq_set_row, dq_set_eq]
  · rw [f 0 (by decide), dq_row_r (Or.inr (by decide))]; exact S.2.2
theorem dp_S.H5 (S : dp_S T s) : dq_WR T (dk_row s 0 40 (upd (s 0 40) 5 110) 1) := by
  have : dk_row s 0 40 (upd (s 0 40) 5 110) 1 = s 1 := funext fun b => dq_row_r (Or.inl (by decide))
  rw [this]; exact S.1
theorem dp_dig {a b : Nat} {z : Int32} (ha : a < 12) (hb : b < 12) (hz : dq_sgn z) (P : dq_TW n t l T) (S : dp_S T s) (k : ∀ x v, dp_S (dq_set T 2 (12 * a + b) z) v → K x v) : wf_X8_dig (nI a) (nI b) z s K X := by
  have hab : 12 * a + b < 144 := by omega
  unfold wf_X8_dig
  refine kz_checkPlace (fun _ => fun r e => kz_ix e (fun _ => kz_checkNoWorld (fun _ => ?_) (fun g => absurd g S.off)) (fun g => absurd (tx_sgn.2 hz) g)) (fun g => absurd (mr_pl_of ha hb rfl rfl) g)
  refine kz_spot ha hb ?_
  rw [← dq_pI_in hab]
  refine kw_signAt S.1 P.1.sg (by omega) (kz_spot ha hb ?_)
  rw [dq_sg_in hab, ← dq_pI_in hab]
  exact kw_change S.1 hab hz fun u Hu f => nm_e ⟨dq_sgn_nar (P.1.sg _ hab), k _ _ (S.mk Hu f)⟩
theorem dp_setKind {d : Nat} {y z : Int32} (hd : d < 8) (hy : mr_in y 0 9) (hz : z = 0 ∨ z = 1) (S : dp_S T s) (k : ∀ x v, dp_S (ax_kind d y z T) v → K x v) : wf_X8_setKind (nI d) y z s K X := by
  unfold wf_X8_setKind
  refine kz_checkRange (fun _ => kz_checkRange (fun _ => kz_checkNoWorld (fun _ => ?_) (fun g => absurd g S.off)) (fun g => absurd hy g)) (fun g => absurd ⟨nI_pos (by omega), nI_nlt (b := d) (a := 7) (by omega) (by decide)⟩ g)
  exact kw_at8 S.1 hd (by decide) (kw_tellKind S.1 hd hz fun u Hu f => nm_e (k _ _ (S.mk Hu f)))
theorem dp_setEffect {d : Nat} {y z w : Int32} (h3 : 3 ≤ d) (h5 : d ≤ 5) (hy : dq_eff y) (hz : mr_in z 1 20) (hw : mr_in w 0 3) (P : dq_TW n t l T) (S : dp_S T s) (k : ∀ x v, dp_S (ax_effect d y z w T) v → K x v) : wf_X8_setEffect (nI d) y z w s K X := by
  have hx : mr_in (nI d) 3 5 := ⟨nI_nlt (b := 3) h3 (by omega), nI_nlt (a := 5) h5 (by decide)⟩
  unfold wf_X8_setEffect
  refine kz_checkRange (fun _ => fun r e => kz_ix e (fun _ => kz_checkRange (fun _ => kz_checkRange (fun _ => kz_checkNoWorld (fun _ => ?_) (fun g => absurd g S.off)) (fun g => absurd hw g)) (fun g => absurd hz g)) (fun g => absurd (tx_eff.2 hy) g)) (fun g => absurd hx g)
  exact kw_effectOf S.1 P.1 (show d < 8 by omega) (kw_tellEffect S.1 (show d < 8 by omega) fun u Hu f => nm_e ⟨dq_eff_n (P.1.ef d (by omega)), k _ _ (S.mk Hu f)⟩)
theorem dp_setHero {a b : Nat} {p h0 : Int32} (ha : a < 12) (hb : b < 12) (hp : mr_in p 1 24) (hh : mr_in h0 1 99) (S : dp_S T s) (k : ∀ x v, dp_S (ax_tell 0 (nI (12 * a + b)) p 0 h0 T) v → K x v) : wf_X8_setHero (nI a) (nI b) p h0 s K X := by
  unfold wf_X8_setHero
  refine kz_checkPlace (fun _ => kz_checkRange (fun _ => kz_checkRange (fun _ => kz_checkNoWorld (fun _ => ?_) (fun g => absurd g S.off)) (fun g => absurd hh g)) (fun g => absurd hp g)) (fun g => absurd (mr_pl_of ha hb rfl rfl) g)
  exact kw_at8 (k := 0) S.1 (by decide) (by decide) (kz_spot ha hb (kw_tell (b := 0) S.1 (by decide) fun u Hu f => nm_e (k _ _ (S.mk Hu f))))
theorem dp_addBeast {a b : Nat} {p q h0 : Int32} (ha : a < 12) (hb : b < 12) (hp : mr_in p 1 24) (hq : mr_in q 0 9) (hh : mr_in h0 1 30) (n8 : n < 8) (P : dq_TW n t l T) (S : dp_S T s) (k : ∀ x v, dp_S (ax_beast n (nI (12 * a + b)) p q h0 T) v → K x v) : wf_X8_addBeast (nI a) (nI b) p q h0 s K X := by
  have en : s 1 13 9 = nI n := (S.1.1 13 9 (by decide) (by decide)).trans P.1.hn
  unfold wf_X8_addBeast
  refine kz_checkPlace (fun _ => kz_checkRange (fun _ => kz_checkRange (fun _ => kz_checkRange (fun _ => kz_checkNoWorld (fun _ => ?_) (fun g => absurd g S.off)) (fun g => absurd hh g)) (fun g => absurd hq g)) (fun g => absurd hp g)) (fun g => absurd (mr_pl_of ha hb rfl rfl) g)
  rw [en]
  refine kz_checkRoom (m := 8) (by omega) (by decide) (fun _ => nm_r en ?_) (fun g => absurd n8 g)
  refine kz_spot ha hb (kw_tell S.1 n8 fun u1 H1 f1 => ?_)
  refine kw_fldQ (q := 13) (k := 9) (v := nI n + 1) H1 (by decide) fun u2 H2 f2 => nm_e ?_
  have H3 : dq_WR (ax_beast n (nI (12 * a + b)) p q h0 T) (u2 1) := by
    unfold ax_beast
    exact H2
  exact k _ _ (S.mk H3 (f1.tr f2))
theorem dp_addLamp {a b : Nat} {p : Int32} (ha : a < 12) (hb : b < 12) (hp : mr_in p 0 9) (l3 : l < 4) (P : dq_TW n t l T) (S : dp_S T s) (k : ∀ x v, dp_S (ax_lamp l (nI (12 * a + b)) p T) v → K x v) : wf_X8_addLamp (nI a) (nI b) p s K X := by
  have el : s 1 26 2 = nI l := (S.1.1 26 2 (by decide) (by decide)).trans P.1.hl
  unfold wf_X8_addLamp
  refine kz_checkPlace (fun _ => kz_checkRange (fun _ => kz_checkNoWorld (fun _ => ?_) (fun g => absurd g S.off)) (fun g => absurd hp g)) (fun g => absurd (mr_pl_of ha hb rfl rfl) g)
  rw [el]
  refine kz_checkRoom (m := 4) (by omega) (by decide) (fun _ => nm_e ?_) (fun g => absurd l3 g)
  exact kz_spot ha hb (kw_addLamp S.H5 P.1.hl l3 fun u H f => k _ _ (S.mk2 H f))
theorem dp_addThing {d a e : Nat} {b p : Int32} (hd : d < 8) (ha : a < 12) (he : e < 12) (t3 : t < 24) (hpv : (b = -1 ∧ p = nI (12 * a + e)) ∨ ∃ i, i < t ∧ b = nI i ∧ T 24 i = 6 ∧ p = (-3) - nI i) (P : dq_TW n t l T) (S : dp_S T s) (k : ∀ x v, dp_S (ax_thing t (nI d) p T) v → K x v) : wf_X8_addThing (nI d) (nI a) (nI e) b s K X := by
  have t24 := P.1.t24
  have et : s 1 23 2 = nI t := (S.1.1 23 2 (by decide) (by decide)).trans P.1.ht
  have mth : ∀ {i}, i < t → b = nI i → ¬ b = -1 := fun {i} hi e g => dq_m1' (i := i) (by omega) (e.symm.trans g)
  have hx : mr_in (nI d) 0 7 := ⟨nI_pos (by omega), nI_nlt (b := d) (a := 7) (by omega) (by decide)⟩
  have tail : wf_X8_addThing_30 K X (nI d) (nI a) (nI e) b s → wf_X8_addThing (nI d) (nI a) (nI e) b s K X := fun k => by
    unfold wf_X8_addThing
    refine kz_checkRange (fun _ => kz_checkPlace (fun _ => ⟨fun _ => k, fun g => ?_⟩) (fun g => absurd (mr_pl_of ha he rfl rfl) g)) (fun g => absurd hx g)
    rcases hpv with ⟨w, _⟩ | ⟨i, hi, w, e6, _⟩
    · exact absurd w g
    · refine kz_checkThing et t24 (fun _ => ?_) (fun q => absurd ⟨i, hi, w⟩ q)
      rw [w]
      rw [w] at k
      exact kz_checkBag S.1 (show i < 24 by omega) (fun _ => k) (fun q => absurd e6 q)
  refine tail ?_
  unfold wf_X8_addThing_30
  refine kz_checkNoWorld (fun _ => ?_) (fun g => absurd g S.off)
  rw [et]
  refine kz_checkRoom (m := 24) (by omega) (by decide) (fun _ => nm_e ?_) (fun g => absurd t3 g)
  refine ⟨fun g => ?_, fun g => ?_⟩
  · rcases hpv with ⟨w, _⟩ | ⟨i, hi, w, _, ep⟩
    · exact absurd w g
    · rw [w, ← ep]
      exact kw_addThing S.H5 P.1.ht t3 fun u H f => k _ _ (S.mk2 H f)
  · rcases hpv with ⟨_, ep⟩ | ⟨i, hi, w, _, _⟩
    · refine kz_spot ha he ?_
      rw [← ep]
      exact kw_addThing S.H5 P.1.ht t3 fun u H f => k _ _ (S.mk2 H f)
    · exact absurd g (mth hi w)
end DPG
