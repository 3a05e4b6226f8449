/-! ways: walks, what a flood keeps -/
/-- what it costs to come into a cell of a sign: 0, no way -/
def dq_tlv (v : Int32) (sh : Nat) (lk : Int32) : Nat := if v = 43 then sh else if dq_free v then 1 else if (v = 48 ∨ v = 49 ∨ v = 50) ∧ (lk >>> ((v - 48) &&& 31)) &&& 1 = 1 then sh else 0
def dq_tl (f : dq_W) (sh : Nat) (lk : Int32) (c : Nat) : Nat := dq_tlv (dq_sg f c) sh lk
theorem dq_tlv_le {v lk : Int32} {sh : Nat} (h : 1 ≤ sh) : dq_tlv v sh lk ≤ sh := by
  unfold dq_tlv
  by_cases h1 : v = 43
  · rw [if_pos h1]; omega
  · rw [if_neg h1]
    by_cases h2 : dq_free v
    · rw [if_pos h2]; exact h
    · rw [if_neg h2]
      by_cases h3 : (v = 48 ∨ v = 49 ∨ v = 50) ∧ (lk >>> ((v - 48) &&& 31)) &&& 1 = 1
      · rw [if_pos h3]; omega
      · rw [if_neg h3]; omega
theorem dq_tl_out {f : dq_W} {sh : Nat} {lk : Int32} : dq_tl f sh lk 144 = 0 := by
  unfold dq_tl
  rw [dq_sg_out]
  unfold dq_tlv
  rw [if_neg (by decide), if_neg (by decide), if_neg (fun g => absurd g.1 (by decide))]
theorem kx_tollOf {v lk : Int32} {sh : Nat} {s : dk_S} {K : Int32 → dk_S → Prop} (k : K (nI (dq_tlv v sh lk)) s) : wf_X1_tollOf v (nI sh) lk s K := by
  unfold wf_X1_tollOf
  unfold dq_tlv at k
  refine br_c (fun h => ?_) (fun h => ?_)
  · rw [if_pos h] at k; exact k
  · rw [if_neg h] at k
    refine br_c (fun h1 => ?_) (fun h1 => br_c (fun h2 => ?_) (fun h2 => ?_))
    · rw [if_pos (show dq_free v from Or.inl h1)] at k; exact k
    · rw [if_pos (show dq_free v from Or.inr (Or.inr h2))] at k; exact k
    · have lock : ∀ (_ : v = 48 ∨ v = 49 ∨ v = 50), (¬ ((lk >>> ((v - 48) &&& 31)) &&& 1) = 1 → K 0 s) ∧ (((lk >>> ((v - 48) &&& 31)) &&& 1) = 1 → K (nI sh) s) := by
        intro hv
        have nf : ¬ dq_free v := by
          rcases hv with e | e | e <;> subst e <;> decide
        rw [if_neg nf] at k
        refine ⟨fun g => ?_, fun g => ?_⟩
        · rw [if_neg (fun q => g q.2)] at k; exact k
        · rw [if_pos ⟨hv, g⟩] at k; exact k
      refine br_c (fun h3 => lock (Or.inl h3)) (fun h3 => br_c (fun h4 => lock (Or.inr (Or.inl h4))) (fun h4 => br_c (fun h5 => lock (Or.inr (Or.inr h5))) (fun h5 => br_c (fun h6 => ?_) (fun h6 => ?_))))
      · rw [if_pos (show dq_free v from Or.inr (Or.inl h6))] at k; exact k
      · rw [if_neg (show ¬ dq_free v from by rintro (g | g | g) <;> contradiction), if_neg (by rintro ⟨g | g | g, -⟩ <;> contradiction)] at k
        exact k
/-- walks of n steps that cost d in all -/
def dq_wa (tl : Nat → Nat) (a : Nat) : Nat → Nat → Nat → Prop
  | 0, d, c => d = 0 ∧ c = a
  | n + 1, d, c => ∃ b w d', b < 144 ∧ w < 4 ∧ dq_nb b w = c ∧ c < 144 ∧ 0 < tl c ∧ dq_wa tl a n d' b ∧ d = d' + tl c
def dq_R (tl : Nat → Nat) (a d c : Nat) : Prop := ∃ n, dq_wa tl a n d c
theorem dq_R_0 {tl : Nat → Nat} {a : Nat} : dq_R tl a 0 a := ⟨0, rfl, rfl⟩
theorem dq_R_s {tl : Nat → Nat} {a d b w : Nat} (h : dq_R tl a d b) (hb : b < 144) (hw : w < 4) (hc : dq_nb b w < 144) (ht : 0 < tl (dq_nb b w)) : dq_R tl a (d + tl (dq_nb b w)) (dq_nb b w) := by
  obtain ⟨n, h⟩ := h
  exact ⟨n + 1, b, w, d, hb, hw, rfl, hc, ht, h, rfl⟩
/-- a row that holds 0 at the source and is closed holds no more than any walk costs -/
theorem dq_R_cl {tl : Nat → Nat} {a mo : Nat} {z : Nat → Int} (h0 : z a = 0) (hc : ∀ c, c < 144 → z c ≠ -1 → ∀ w, w < 4 → dq_nb c w < 144 → 0 < tl (dq_nb c w) → z c < mo → z (dq_nb c w) ≠ -1 ∧ z (dq_nb c w) ≤ z c + tl (dq_nb c w)) (hp : ∀ c, c < 144 → -1 ≤ z c) (ha : a < 144) :
    ∀ n d c, dq_wa tl a n d c → (d ≤ mo ∨ ∀ b, b < 144 → z b < mo) → c < 144 ∧ z c ≠ -1 ∧ z c ≤ d
  | 0, d, c, h, _ => by
    obtain ⟨h1, h2⟩ := h
    subst h1 h2
    exact ⟨ha, by omega, by omega⟩
  | n + 1, d, c, h, hd => by
    obtain ⟨b, w, d', hb, hw, hn, hc2, ht, hr, hd2⟩ := h
    obtain ⟨_, i1, i2⟩ := dq_R_cl h0 hc hp ha n d' b hr (by
      rcases hd with g | g
      · exact Or.inl (by omega)
      · exact Or.inr g)
    have := hc b hb i1 w hw (by rw [hn]; exact hc2) (by rw [hn]; exact ht) (by
      rcases hd with g | g
      · omega
      · exact g b hb)
    rw [hn] at this
    exact ⟨hc2, this.1, by omega⟩
/-- sums of numbers -/
def dq_sm (f : Nat → Nat) : Nat → Nat
  | 0 => 0
  | n + 1 => dq_sm f n + f n
theorem dq_sm_eq {f g : Nat → Nat} : ∀ n, (∀ c, c < n → f c = g c) → dq_sm f n = dq_sm g n
  | 0, _ => rfl
  | n + 1, h => by
    show dq_sm f n + f n = dq_sm g n + g n
    rw [dq_sm_eq n (fun c hc => h c (by omega)), h n (by omega)]
theorem dq_sm_upd {f g : Nat → Nat} {x : Nat} : ∀ n, x < n → (∀ c, c < n → c ≠ x → f c = g c) → dq_sm f n + g x = dq_sm g n + f x
  | 0, h, _ => absurd h (Nat.not_lt_zero _)
  | n + 1, h, he => by
    show dq_sm f n + f n + g x = dq_sm g n + g n + f x
    by_cases e : x = n
    · subst e
      have := dq_sm_eq (f := f) (g := g) x (fun c hc => he c (by omega) (by omega))
      omega
    · have := dq_sm_upd (f := f) (g := g) n (by omega) (fun c hc hne => he c (by omega) hne)
      have := he n (by omega) (by omega)
      omega
theorem dq_sm_le {f : Nat → Nat} {m : Nat} : ∀ n, (∀ c, c < n → f c ≤ m) → dq_sm f n ≤ m * n
  | 0, _ => by simp [dq_sm]
  | n + 1, h => by
    show dq_sm f n + f n ≤ m * (n + 1)
    have := dq_sm_le (f := f) n (fun c hc => h c (by omega))
    have := h n (by omega)
    rw [Nat.mul_add]
    omega
/-- what is still to be put into the queue -/
def dq_pt (z e : Nat → Int) (c : Nat) : Nat := if z c = -1 then 3 else (e c).toNat
/-- seen cells: their cost and their delay -/
def dq_FB (tl : Nat → Nat) (a : Nat) (z e : Nat → Int) (q : Nat → Nat) (T : Nat) : Prop :=
  T + dq_sm (dq_pt z e) 144 ≤ 430 ∧ (∀ c, c < 144 → z c = -1 ∨ (0 ≤ e c ∧ e c ≤ z c ∧ z c ≤ 3 * T ∧ dq_R tl a (z c).toNat c)) ∧ (∀ i, i < T → q i < 144 ∧ z (q i) ≠ -1) ∧ z a = 0
/-- all ways out of a cell lead to cells that cost no more than by it -/
def dq_FC (tl : Nat → Nat) (mo : Nat) (z : Nat → Int) (c w : Nat) : Prop := dq_nb c w < 144 → 0 < tl (dq_nb c w) → z c < mo → z (dq_nb c w) ≠ -1 ∧ z (dq_nb c w) ≤ z c + tl (dq_nb c w)
/-- the queue between two cells -/
def dq_FI (tl : Nat → Nat) (a mo : Nat) (z e : Nat → Int) (q : Nat → Nat) (h T : Nat) : Prop :=
  dq_FB tl a z e q T ∧ h ≤ T ∧ (∀ i j, h ≤ i → i < j → j < T → q i ≠ q j) ∧
  (∀ i j, h ≤ i → i ≤ j → j < T → z (q i) - e (q i) ≤ z (q j) - e (q j) ∧ z (q j) - e (q j) ≤ z (q i) - e (q i) + 1) ∧
  (∀ n, n < 144 → z n ≠ -1 → ∀ i, h ≤ i → i < T → z n ≤ z (q i) - e (q i) + tl n) ∧
  (∀ c, c < 144 → z c ≠ -1 → (∃ i, h ≤ i ∧ i < T ∧ q i = c) ∨ ∀ w, w < 4 → dq_FC tl mo z c w)
/-- the queue while the ways out of the cell at h are looked at; w of them have been -/
def dq_FJ (tl : Nat → Nat) (a mo : Nat) (z e : Nat → Int) (q : Nat → Nat) (h T w : Nat) : Prop :=
  dq_FB tl a z e q T ∧ h < T ∧ (∀ i j, h ≤ i → i < j → j < T → q i ≠ q j) ∧ e (q h) = 0 ∧
  (∀ i j, h ≤ i → i ≤ j → j < T → z (q i) - e (q i) ≤ z (q j) - e (q j) ∧ z (q j) - e (q j) ≤ z (q h) + 1) ∧
  (∀ n, n < 144 → z n ≠ -1 → z n ≤ z (q h) + tl n) ∧
  (∀ c, c < 144 → z c ≠ -1 → c ≠ q h → (∃ i, h < i ∧ i < T ∧ q i = c) ∨ ∀ w, w < 4 → dq_FC tl mo z c w) ∧
  (∀ v, v < w → dq_FC tl mo z (q h) v)
theorem dq_FI_J {tl : Nat → Nat} {a mo : Nat} {z e : Nat → Int} {q : Nat → Nat} {h T : Nat} (H : dq_FI tl a mo z e q h T) (hT : h < T) (he : e (q h) = 0) : dq_FJ tl a mo z e q h T 0 := by
  obtain ⟨B, h1, D, E, F, G⟩ := H
  refine ⟨B, hT, D, he, fun i j hi hj hT2 => ⟨(E i j hi hj hT2).1, ?_⟩, fun n hn hz => ?_, fun c hc hz hne => ?_, fun v hv => absurd hv (Nat.not_lt_zero _)⟩
  · have := (E h j (Nat.le_refl _) (by omega) hT2).2
    omega
  · have := F n hn hz h (Nat.le_refl _) hT
    omega
  · rcases G c hc hz with ⟨i, hi, hi2, hq⟩ | g
    · refine Or.inl ⟨i, ?_, hi2, hq⟩
      rcases Nat.lt_or_ge h i with g | g
      · exact g
      · exact absurd (show c = q h by rw [← hq]; congr 1; omega) hne
    · exact Or.inr g
theorem dq_FJ_I {tl : Nat → Nat} {a mo : Nat} {z e : Nat → Int} {q : Nat → Nat} {h T w : Nat} (H : dq_FJ tl a mo z e q h T w) (hw : w = 4 ∨ mo ≤ z (q h)) : dq_FI tl a mo z e q (h + 1) T := by
  obtain ⟨B, hT, D, he, E, F, G, C⟩ := H
  refine ⟨B, hT, fun i j hi hj hT2 => D i j (by omega) hj hT2, fun i j hi hj hT2 => ⟨(E i j (by omega) hj hT2).1, ?_⟩, fun n hn hz i hi hiT => ?_, fun c hc hz => ?_⟩
  · have h1 := (E i j (by omega) hj hT2).2
    have h2 := (E h i (Nat.le_refl _) (by omega) (by omega)).1
    omega
  · have h1 := F n hn hz
    have h2 := (E h i (Nat.le_refl _) (by omega) hiT).1
    omega
  · by_cases e1 : c = q h
    · refine Or.inr fun v hv => ?_
      rcases hw with rfl | hw
      · rw [e1]; exact C v hv
      · intro _ _ g
        rw [e1] at g
        omega
    · rcases G c hc hz e1 with ⟨i, h1, h2, h3⟩ | g
      · exact Or.inl ⟨i, h1, h2, h3⟩
      · exact Or.inr g
/-- a cell that waits goes to the end -/
theorem dq_FI_wait {tl : Nat → Nat} {a mo : Nat} {z e e' : Nat → Int} {q q' : Nat → Nat} {h T : Nat} (H : dq_FI tl a mo z e q h T) (hT : h < T) (he : 0 < e (q h))
    (qT : ∀ i, i < T → q' i = q i) (qTT : q' T = q h) (e1 : e' (q h) = e (q h) - 1) (e2 : ∀ c, c ≠ q h → e' c = e c) : dq_FI tl a mo z e' q' (h + 1) (T + 1) := by
  obtain ⟨⟨A, B, C, Z⟩, h1, D, E, F, G⟩ := H
  have hqh := C h hT
  have hne : ∀ i, h < i → i < T → q i ≠ q h := fun i hi hi2 => (D h i (Nat.le_refl _) hi hi2).symm
  have key : ∀ i, h < i → i < T → e' (q i) = e (q i) := fun i hi hi2 => e2 _ (hne i hi hi2)
  refine ⟨⟨?_, fun c hc => ?_, fun i hi => ?_, Z⟩, by omega, fun i j hi hj hT2 => ?_, fun i j hi hj hT2 => ?_, fun n hn hz i hi hiT => ?_, fun c hc hz => ?_⟩
  · have := dq_sm_upd (f := dq_pt z e) (g := dq_pt z e') (x := q h) 144 hqh.1 (fun c _ hc => by
      unfold dq_pt; rw [e2 c hc])
    have p1 : dq_pt z e (q h) = (e (q h)).toNat := if_neg hqh.2
    have p2 : dq_pt z e' (q h) = (e' (q h)).toNat := if_neg hqh.2
    omega
  · rcases B c hc with g | ⟨g1, g2, g3, g4⟩
    · exact Or.inl g
    · refine Or.inr ?_
      by_cases ec : c = q h
      · subst ec
        exact ⟨by omega, by omega, by omega, g4⟩
      · rw [e2 c ec]
        exact ⟨g1, g2, by omega, g4⟩
  · by_cases ei : i = T
    · rw [ei, qTT]; exact hqh
    · rw [qT i (by omega)]; exact C i (by omega)
  · rw [qT i (by omega)]
    by_cases ej : j = T
    · rw [ej, qTT]; exact hne i (by omega) (by omega)
    · rw [qT j (by omega)]; exact D i j (by omega) hj (by omega)
  · by_cases ej : j = T
    · by_cases ei : i = T
      · rw [ei, ej]; exact ⟨Int.le_refl _, by omega⟩
      · rw [ej, qTT, qT i (by omega), e1, key i (by omega) (by omega)]
        have := E h i (Nat.le_refl _) (by omega) (by omega)
        omega
    · rw [qT i (by omega), qT j (by omega), key i (by omega) (by omega), key j (by omega) (by omega)]
      exact E i j (by omega) hj (by omega)
  · have h2 := F n hn hz h (Nat.le_refl _) hT
    by_cases ei : i = T
    · rw [ei, qTT, e1]; omega
    · rw [qT i (by omega), key i (by omega) (by omega)]
      exact F n hn hz i (by omega) (by omega)
  · rcases G c hc hz with ⟨i, h1, h2, h3⟩ | g
    · by_cases ei : i = h
      · exact Or.inl ⟨T, by omega, by omega, by rw [qTT, ← h3, ei]⟩
      · exact Or.inl ⟨i, by omega, by omega, by rw [qT i h2]; exact h3⟩
    · exact Or.inr g
/-- a way that leads to nothing new -/
theorem dq_FJ_old {tl : Nat → Nat} {a mo : Nat} {z e : Nat → Int} {q : Nat → Nat} {h T w : Nat} (H : dq_FJ tl a mo z e q h T w) (hn : tl (dq_nb (q h) w) = 0 ∨ (dq_nb (q h) w < 144 ∧ z (dq_nb (q h) w) ≠ -1)) : dq_FJ tl a mo z e q h T (w + 1) := by
  obtain ⟨B, hT, D, he, E, F, G, C⟩ := H
  refine ⟨B, hT, D, he, E, F, G, fun v hv => ?_⟩
  by_cases ev : v = w
  · subst ev
    intro h1 h2 h3
    rcases hn with g | ⟨g1, g2⟩
    · omega
    · exact ⟨g2, F _ g1 g2⟩
  · exact C v (by omega)
/-- a way that leads to a new cell -/
theorem dq_FJ_new {tl : Nat → Nat} {a mo : Nat} {z e z' e' : Nat → Int} {q q' : Nat → Nat} {h T w x : Nat} (H : dq_FJ tl a mo z e q h T w) (hw : w < 4) (ht3 : tl x ≤ 3) (hx : dq_nb (q h) w = x) (hx1 : x < 144) (ht : 0 < tl x) (hz : z x = -1)
    (zx : z' x = z (q h) + tl x) (zo : ∀ c, c ≠ x → z' c = z c) (ex : e' x = (tl x : Int) - 1) (eo : ∀ c, c ≠ x → e' c = e c) (qT : ∀ i, i < T → q' i = q i) (qTT : q' T = x) :
    dq_FJ tl a mo z' e' q' h (T + 1) (w + 1) := by
  obtain ⟨⟨A, B, C0, Z⟩, hT, D, he, E, F, G, C⟩ := H
  have hqh := C0 h hT
  have qx : ∀ i, i < T → q i ≠ x := fun i hi g => (C0 i hi).2 (g ▸ hz)
  have hB : 0 ≤ z (q h) ∧ z (q h) ≤ 3 * T ∧ dq_R tl a (z (q h)).toNat (q h) := by
    rcases B _ hqh.1 with g | g
    · exact absurd g hqh.2
    · exact ⟨by omega, g.2.2.1, g.2.2.2⟩
  have hzx : ∀ i, i < T → z' (q i) = z (q i) := fun i hi => zo _ (qx i hi)
  have hex : ∀ i, i < T → e' (q i) = e (q i) := fun i hi => eo _ (qx i hi)
  have hqT : q' h = q h := qT h hT
  have hca : a ≠ x := fun g => by rw [← g, Z] at hz; omega
  have clo : ∀ c v, c < 144 → c ≠ x → dq_FC tl mo z c v → dq_FC tl mo z' c v := by
    intro c v hc hcx hf h1 h2 h3
    rw [zo c hcx] at h3 ⊢
    have g := hf h1 h2 h3
    have nx : dq_nb c v ≠ x := fun g2 => g.1 (g2 ▸ hz)
    rw [zo _ nx]
    exact g
  refine ⟨⟨?_, fun c hc => ?_, fun i hi => ?_, ?_⟩, by omega, fun i j hi hj hT2 => ?_, ?_, fun i j hi hj hT2 => ?_, fun n hn hzn => ?_, fun c hc hzc hne => ?_, fun v hv => ?_⟩
  · have := dq_sm_upd (f := dq_pt z e) (g := dq_pt z' e') (x := x) 144 hx1 (fun c _ hc => by
      unfold dq_pt; rw [zo c hc, eo c hc])
    have p1 : dq_pt z e x = 3 := if_pos hz
    have p2 : dq_pt z' e' x = (e' x).toNat := if_neg (by omega)
    omega
  · by_cases ec : c = x
    · refine Or.inr ?_
      rw [ec, zx, ex]
      refine ⟨by omega, by omega, by omega, ?_⟩
      have := dq_R_s hB.2.2 hqh.1 hw (by rw [hx]; exact hx1) (by rw [hx]; exact ht)
      rw [hx] at this
      have e1 : (z (q h) + (tl x : Int)).toNat = (z (q h)).toNat + tl x := by omega
      rw [e1]; exact this
    · rw [zo c ec, eo c ec]
      rcases B c hc with g | ⟨g1, g2, g3, g4⟩
      · exact Or.inl g
      · exact Or.inr ⟨g1, g2, by omega, g4⟩
  · by_cases ei : i = T
    · rw [ei, qTT, zx]; exact ⟨hx1, by omega⟩
    · rw [qT i (by omega), hzx i (by omega)]; exact C0 i (by omega)
  · rw [zo a hca]; exact Z
  · rw [qT i (by omega)]
    by_cases ej : j = T
    · rw [ej, qTT]; exact qx i (by omega)
    · rw [qT j (by omega)]; exact D i j hi hj (by omega)
  · rw [hqT, hex h hT]; exact he
  · rw [hqT, hzx h hT]
    by_cases ej : j = T
    · by_cases ei : i = T
      · rw [ei, ej, qTT, zx, ex]; exact ⟨Int.le_refl _, by omega⟩
      · rw [ej, qTT, zx, ex, qT i (by omega), hzx i (by omega), hex i (by omega)]
        have := (E i i hi (Nat.le_refl _) (by omega)).2
        omega
    · rw [qT i (by omega), qT j (by omega), hzx i (by omega), hex i (by omega), hzx j (by omega), hex j (by omega)]
      exact E i j hi hj (by omega)
  · rw [hqT, hzx h hT]
    by_cases en : n = x
    · rw [en, zx]; omega
    · rw [zo n en] at hzn ⊢
      exact F n hn hzn
  · rw [hqT] at hne
    by_cases ec : c = x
    · exact Or.inl ⟨T, hT, by omega, by rw [qTT, ec]⟩
    · rw [zo c ec] at hzc
      rcases G c hc hzc hne with ⟨i, h1, h2, h3⟩ | g
      · exact Or.inl ⟨i, h1, by omega, by rw [qT i h2]; exact h3⟩
      · exact Or.inr fun v hv => clo c v hc ec (g v hv)
  · rw [hqT]
    by_cases ev : v = w
    · subst ev
      intro h1 h2 h3
      rw [hx, zx, hzx h hT]
      exact ⟨by omega, by omega⟩
    · exact clo (q h) v hqh.1 (qx h hT) (C v (by omega))
/-- at the start -/
theorem dq_FI_0 {tl : Nat → Nat} {a mo : Nat} (ha : a < 144) {z e : Nat → Int} {q : Nat → Nat} (za : z a = 0) (zo : ∀ c, c ≠ a → z c = -1) (he : e a = 0) (hq : q 0 = a) : dq_FI tl a mo z e q 0 1 := by
  have seen : ∀ n, z n ≠ -1 → n = a := fun n h => by
    by_cases g : n = a
    · exact g
    · exact absurd (zo n g) h
  refine ⟨⟨?_, fun c hc => ?_, fun i hi => ?_, za⟩, by omega, fun i j hi hj hT => by omega, fun i j hi hj hT => ?_, fun n hn hz i hi hiT => ?_, fun c hc hz => ?_⟩
  · have h1 := dq_sm_upd (f := dq_pt z e) (g := fun _ => 3) (x := a) 144 ha (fun c _ hc => if_pos (zo c hc))
    have h2 := dq_sm_le (f := fun _ => 3) (m := 3) 144 (fun _ _ => Nat.le_refl _)
    have p1 : dq_pt z e a = (e a).toNat := if_neg (by omega)
    have h1 : dq_sm (dq_pt z e) 144 + 3 = dq_sm (fun _ => 3) 144 + dq_pt z e a := h1
    omega
  · by_cases g : c = a
    · refine Or.inr ?_
      rw [g, za, he]
      exact ⟨by omega, by omega, by omega, dq_R_0⟩
    · exact Or.inl (zo c g)
  · have : i = 0 := by omega
    rw [this, hq, za]
    exact ⟨ha, by decide⟩
  · have e1 : i = 0 := by omega
    have e2 : j = 0 := by omega
    rw [e1, e2]
    omega
  · have e1 : i = 0 := by omega
    have := seen n hz
    rw [e1, hq, this, he, za]
    omega
  · exact Or.inl ⟨0, Nat.le_refl _, by omega, by rw [hq]; exact (seen c hz).symm⟩
/-- at the end -/
theorem dq_FI_e {tl : Nat → Nat} {a mo : Nat} (ha : a < 144) {z e : Nat → Int} {q : Nat → Nat} {T : Nat} (H : dq_FI tl a mo z e q T T) :
    (∀ c, c < 144 → z c = -1 ∨ (0 ≤ z c ∧ z c ≤ 1300 ∧ dq_R tl a (z c).toNat c)) ∧ (∀ c d, dq_R tl a d c → d ≤ mo ∨ 1300 < mo → c < 144 ∧ z c ≠ -1 ∧ z c ≤ d) := by
  obtain ⟨⟨A, B, C, Z⟩, h1, D, E, F, G⟩ := H
  refine ⟨fun c hc => ?_, ?_⟩
  · rcases B c hc with g | ⟨g1, g2, g3, g4⟩
    · exact Or.inl g
    · exact Or.inr ⟨by omega, by omega, g4⟩
  · rintro c d ⟨n, hn⟩ hd
    refine dq_R_cl Z (fun c hc hz w hw => ?_) (fun c hc => ?_) ha n d c hn (hd.imp_right fun g b hb => ?_)
    · rcases G c hc hz with ⟨i, g1, g2, g3⟩ | g
      · omega
      · exact g w hw
    · rcases B c hc with g | g <;> omega
    · rcases B b hb with g | g <;> omega
