/-! a call of both, as the law makes it -/
def dl_tab (tab : List (String × Int32)) : Bool := tab.all (fun q => (q.2 != 0) && tab.all (fun q2 => (q.1 != q2.1) || (q.2 == q2.2)))
theorem dl_tab0 {tab : List (String × Int32)} (h : dl_tab tab = true) {E : String} {e : Int32} (he : (E, e) ∈ tab) : e ≠ 0 := by
  have h1 := List.all_eq_true.mp h _ he
  simp only [Bool.and_eq_true, bne_iff_ne, ne_eq] at h1
  exact h1.1
theorem dl_tab1 {tab : List (String × Int32)} (h : dl_tab tab = true) {E : String} {e e2 : Int32} (he : (E, e) ∈ tab) (he2 : (E, e2) ∈ tab) : e = e2 := by
  have h1 := List.all_eq_true.mp h _ he
  simp only [Bool.and_eq_true] at h1
  have h2 := List.all_eq_true.mp h1.2 _ he2
  simpa using h2
/-- behind both: the number thrown, or the answer -/
def dl_J (c : Nat) (r : Int32) (b : Int32 → Prop) (x : Int32) (u : dk_S) : Prop := dq_I (c + 1) u ∧ u 4 60 0 = r ∧ (r = 0 → b x)
theorem dl_both {c : Nat} {wK : dk_S → (Int32 → dk_S → Prop) → (String → dk_S → Prop) → Prop} {wM : dk_S → (Int32 → dk_S → Prop) → Prop} {tab : List (String × Int32)} {s : dk_S} (h : dz_C c wK wM tab s) (ht : dl_tab tab = true) :
    ∃ (K : Int32 → dk_S → Prop) (X : String → dk_S → Prop), wK s K X ∧ (∀ E σ', X E σ' → ∃ r, (E, r) ∈ tab) ∧ ∀ (g : Int32 → Int64) (fD : Nat → UInt64) (r : Int32) (σ' : dk_S) (fO' : Nat → Int64) (fD' : Nat → UInt64), dw_P K X g tab fD r σ' fO' fD' → wM σ' (dl_J c r (fun x => fO' 0 = g x)) := by
  rcases h with ⟨E, e, he, hK, hM⟩ | ⟨r, PK, hK, hM⟩
  · refine ⟨fun _ _ => False, fun E' u => E' = E ∧ u = s, hK _ _ ⟨rfl, rfl⟩, fun E' σ' hx => ⟨e, by rw [hx.1]; exact he⟩, fun g fD r σ' fO' fD' hp => ?_⟩
    rcases hp.2 with ⟨v, -, hf, -⟩ | ⟨E', hE', rfl, rfl⟩
    · exact hf.elim
    · have e1 := dl_tab1 ht hE' he
      subst e1
      exact hM _ fun u hu h0 => ⟨hu.up, h0, fun z => absurd z (dl_tab0 ht hE')⟩
  · refine ⟨fun r' u => r' = r ∧ PK u, fun _ _ => False, hK _ _ (fun u hu => ⟨rfl, hu⟩), fun E σ' hx => hx.elim, fun g fD r' σ' fO' fD' hp => ?_⟩
    rcases hp.2 with ⟨v, h0, ⟨rfl, hPK⟩, hf⟩ | ⟨E', -, hx⟩
    · exact hM σ' _ hPK fun u hu hz => ⟨hu, hz.trans h0.symm, fun _ => hf⟩
    · exact hx.elim
/-- .. where the answer is a float or a double -/
def dl_JF {V : Type} (c : Nat) (r : Int32) (N : V → Prop) (b : V → Prop) (x : V) (u : dk_S) : Prop := dq_I (c + 1) u ∧ u 4 60 0 = r ∧ (r = 0 → N x ∧ b x)
theorem dl_bothF {V : Type} {c : Nat} {N : V → Prop} {wK : dk_S → (V → dk_S → Prop) → (String → dk_S → Prop) → Prop} {wM : dk_S → (V → dk_S → Prop) → Prop} {z : V} {E : String} {s : dk_S} (h : dz_CF c N wK wM z E s) :
    ∃ (K : V → dk_S → Prop) (X : String → dk_S → Prop), wK s K X ∧ (∀ E' σ', X E' σ' → ∃ r, (E', r) ∈ [(E, (1 : Int32))]) ∧ (∀ r σ', K r σ' → N r) ∧ ∀ (g : V → UInt64) (fO : Nat → Int64) (r : Int32) (σ' : dk_S) (fO' : Nat → Int64) (fD' : Nat → UInt64), dw_PF K X g [(E, (1 : Int32))] fO r σ' fO' fD' → wM σ' (dl_JF c r N (fun x => fD' 0 = g x)) := by
  rcases h with ⟨hK, hM⟩ | ⟨r, hN, hK, hM⟩
  · refine ⟨fun _ _ => False, fun E' u => E' = E ∧ u = s, hK _ _ ⟨rfl, rfl⟩, fun E' σ' hx => ⟨1, by rw [hx.1]; exact List.mem_cons_self⟩, fun _ _ h => h.elim, fun g fO r σ' fO' fD' hp => ?_⟩
    rcases hp.2 with ⟨v, -, hf, -⟩ | ⟨E', hE', rfl, rfl⟩
    · exact hf.elim
    · have e1 : r = 1 := by simpa using hE'
      subst e1
      exact hM _ fun u hu h0 => ⟨hu.up, h0, fun z => absurd z (by decide)⟩
  · refine ⟨fun r' u => r' = r ∧ u = s, fun _ _ => False, hK _ _ ⟨rfl, rfl⟩, fun E σ' hx => hx.elim, fun r' σ' h => by rw [h.1]; exact hN, fun g fO r' σ' fO' fD' hp => ?_⟩
    rcases hp.2 with ⟨v, h0, ⟨rfl, rfl⟩, hf⟩ | ⟨E', -, hx⟩
    · exact hM _ fun u hu hz => ⟨hu, hz.trans h0.symm, fun _ => ⟨hN, hf⟩⟩
    · exact hx.elim
