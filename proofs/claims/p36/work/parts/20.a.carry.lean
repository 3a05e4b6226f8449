/-! what is carried, and its weight -/
def dp_CW (t : Nat) (w : dq_W) : Prop := dq_cw w t ≤ 30
section DPA
variable {n t l : Nat} {w f : dq_W}
/-! sums -/
theorem dp_sum_N {P : Nat → Prop} {g : Nat → Int32} : ∀ k, k ≤ 24 → (∀ i, i < k → dj_R 0 9 (g i)) → ∃ a, a ≤ 9 * k ∧ dq_sum P g k = nI a
  | 0, _, _ => ⟨0, Nat.le_refl _, rfl⟩
  | k + 1, hk, h => by
    obtain ⟨a, a1, a2⟩ := dp_sum_N (P := P) k (by omega) (fun i hi => h i (by omega))
    by_cases c : P k
    · obtain ⟨z, z1, z2, z3, _⟩ := (h k (by omega)).of
      refine ⟨a + z.toNat, by omega, ?_⟩
      rw [dq_sum_t c, a2, z3, dq_iN, dq_iN, dq_iadd]
      congr 1
      omega
    · exact ⟨a, by omega, by rw [dq_sum_f c, a2]⟩
/-- what is in the one is in one of two others -/
theorem dp_sum_3 {P Q S : Nat → Prop} {g : Nat → Int32} : ∀ k, k ≤ 24 → (∀ i, i < k → dj_R 0 9 (g i)) → (∀ i, i < k → P i → Q i ∨ S i) → ∃ a b c, a ≤ b + c ∧ b ≤ 9 * k ∧ c ≤ 9 * k ∧ dq_sum P g k = nI a ∧ dq_sum Q g k = nI b ∧ dq_sum S g k = nI c
  | 0, _, _, _ => ⟨0, 0, 0, Nat.le_refl _, Nat.le_refl _, Nat.le_refl _, rfl, rfl, rfl⟩
  | k + 1, hk, h, hs => by
    obtain ⟨a, b, c, h1, h2, h3, e1, e2, e3⟩ := dp_sum_3 (P := P) (Q := Q) (S := S) k (by omega) (fun i hi => h i (by omega)) (fun i hi => hs i (by omega))
    obtain ⟨z, z1, z2, z3, _⟩ := (h k (by omega)).of
    have up : ∀ {X : Nat → Prop} {x : Nat}, dq_sum X g k = nI x → X k → dq_sum X g (k + 1) = nI (x + z.toNat) := fun {X x} e q => by
      rw [dq_sum_t q, e, z3, dq_iN, dq_iN, dq_iadd]
      congr 1
      omega
    have no : ∀ {X : Nat → Prop} {x : Nat}, dq_sum X g k = nI x → ¬ X k → dq_sum X g (k + 1) = nI x := fun {X x} e q => by rw [dq_sum_f q, e]
    by_cases c1 : P k
    · by_cases c2 : Q k
      · by_cases c3 : S k
        · exact ⟨_, _, _, by omega, by omega, by omega, up e1 c1, up e2 c2, up e3 c3⟩
        · exact ⟨_, _, _, by omega, by omega, by omega, up e1 c1, up e2 c2, no e3 c3⟩
      · by_cases c3 : S k
        · exact ⟨_, _, _, by omega, by omega, by omega, up e1 c1, no e2 c2, up e3 c3⟩
        · exact absurd (hs k (by omega) c1) (fun q => q.elim c2 c3)
    · by_cases c2 : Q k
      · by_cases c3 : S k
        · exact ⟨_, _, _, by omega, by omega, by omega, no e1 c1, up e2 c2, up e3 c3⟩
        · exact ⟨_, _, _, by omega, by omega, by omega, no e1 c1, up e2 c2, no e3 c3⟩
      · by_cases c3 : S k
        · exact ⟨_, _, _, by omega, by omega, by omega, no e1 c1, no e2 c2, up e3 c3⟩
        · exact ⟨_, _, _, by omega, by omega, by omega, no e1 c1, no e2 c2, no e3 c3⟩
theorem dp_le30 {a : Nat} (h : a ≤ 1000) : nI a ≤ 30 ↔ a ≤ 30 := by
  rw [show (30 : Int32) = nI 30 from rfl, dq_iN, dq_iN, dq_ile (by omega) (by omega) (by omega) (by omega)]
  omega
theorem dp_sum_w {P Q : Nat → Prop} {g : Nat → Int32} {k : Nat} (hk : k ≤ 24) (h : ∀ i, i < k → dj_R 0 9 (g i)) (hs : ∀ i, i < k → P i → Q i) (h30 : dq_sum Q g k ≤ 30) : dq_sum P g k ≤ 30 := by
  obtain ⟨a, b, c, h1, h2, h3, e1, e2, e3⟩ := dp_sum_3 (P := P) (Q := Q) (S := fun _ => False) k hk h (fun i hi q => Or.inl (hs i hi q))
  have z : ∀ k, dq_sum (fun _ => False) g k = 0 := fun k => by
    induction k with
    | zero => rfl
    | succ k ih => rw [dq_sum_f (fun q => q), ih]
  rw [z] at e3
  have : c = 0 := ((nI_eq (a := 0) (b := c) (by omega) (by omega)).1 e3).symm
  rw [e2, dp_le30 (by omega)] at h30
  rw [e1, dp_le30 (by omega)]
  omega
theorem dp_sum_s {P Q S : Nat → Prop} {g : Nat → Int32} {k : Nat} (hk : k ≤ 24) (h : ∀ i, i < k → dj_R 0 9 (g i)) (hs : ∀ i, i < k → P i → Q i ∨ S i) (h30 : dq_sum Q g k + dq_sum S g k ≤ 30) : dq_sum P g k ≤ 30 := by
  obtain ⟨a, b, c, h1, h2, h3, e1, e2, e3⟩ := dp_sum_3 (P := P) (Q := Q) (S := S) k hk h hs
  rw [e2, e3, dq_iN, dq_iN, dq_iadd] at h30
  have e : dq_iI ((b : Int) + c) = nI (b + c) := by rw [dq_iN]; rfl
  rw [e, dp_le30 (by omega)] at h30
  rw [e1, dp_le30 (by omega)]
  omega
theorem dp_sum_0 {P : Nat → Prop} {g : Nat → Int32} : ∀ k, (∀ i, i < k → ¬ P i) → dq_sum P g k = 0
  | 0, _ => rfl
  | k + 1, h => by rw [dq_sum_f (h k (by omega)), dp_sum_0 k (fun i hi => h i (by omega))]
/-- two that have nothing in common -/
theorem dp_sum_or {P Q : Nat → Prop} {g : Nat → Int32} : ∀ k, (∀ i, i < k → ¬ (P i ∧ Q i)) → dq_sum P g k + dq_sum Q g k = dq_sum (fun i => P i ∨ Q i) g k
  | 0, _ => by show (0 : Int32) + 0 = 0; decide
  | k + 1, h => by
    have ih := dp_sum_or (P := P) (Q := Q) (g := g) k (fun i hi => h i (by omega))
    have hk := h k (by omega)
    by_cases c1 : P k
    · have c2 : ¬ Q k := fun q => hk ⟨c1, q⟩
      rw [dq_sum_t c1, dq_sum_f c2, dq_sum_t (P := fun i => P i ∨ Q i) (Or.inl c1), ← ih, Int32.add_assoc, Int32.add_comm (g k), ← Int32.add_assoc]
    · by_cases c2 : Q k
      · rw [dq_sum_f c1, dq_sum_t c2, dq_sum_t (P := fun i => P i ∨ Q i) (Or.inr c2), ← ih, Int32.add_assoc]
      · rw [dq_sum_f c1, dq_sum_f c2, dq_sum_f (P := fun i => P i ∨ Q i) (fun q => q.elim c1 c2), ih]
/-- a sum over those of P, each of a sum over its own -/
theorem dp_sum_2 {P : Nat → Prop} {Q : Nat → Nat → Prop} {g : Nat → Int32} {m : Nat} (hu : ∀ i, i < m → ∀ a b, P a → P b → Q a i → Q b i → a = b) : ∀ k, dq_sum P (fun a => dq_sum (Q a) g m) k = dq_sum (fun i => ∃ a, a < k ∧ P a ∧ Q a i) g m
  | 0 => (dp_sum_0 m (fun i _ => by rintro ⟨a, h, _⟩; exact absurd h (Nat.not_lt_zero _))).symm
  | k + 1 => by
    have ih := dp_sum_2 (g := g) hu k
    by_cases c : P k
    · rw [dq_sum_t c, ih, dp_sum_or m (fun i hi => by
        rintro ⟨⟨a, h1, h2, h3⟩, h4⟩
        have := hu i hi a k h2 c h3 h4
        omega)]
      refine dq_sum_e m (fun i hi => ⟨?_, ?_⟩) (fun _ _ => rfl)
      · rintro (⟨a, h1, h2⟩ | h)
        · exact ⟨a, by omega, h2⟩
        · exact ⟨k, by omega, c, h⟩
      · rintro ⟨a, h1, h2⟩
        by_cases e : a = k
        · subst e; exact Or.inr h2.2
        · exact Or.inl ⟨a, by omega, h2⟩
    · rw [dq_sum_f c, ih]
      refine dq_sum_e m (fun i hi => ⟨?_, ?_⟩) (fun _ _ => rfl)
      · rintro ⟨a, h1, h2⟩
        exact ⟨a, by omega, h2⟩
      · rintro ⟨a, h1, h2⟩
        have : a ≠ k := fun e => c (e ▸ h2.1)
        exact ⟨a, by omega, h2⟩
/-! the outermost -/
theorem dp_in_ou : ∀ (i j x y : Nat), dq_in f y x i → dq_bg f y = 24 → i ≤ j → dq_ou f j x = y
  | 0, j, x, y, h, hb, _ => by
    have e : x = y := h.1
    subst e
    cases j with
    | zero => rfl
    | succ j => rw [dq_ou_s, if_pos hb]
  | i + 1, j, x, y, h, hb, hj => by
    cases j with
    | zero => omega
    | succ j =>
      have h0 : dq_bg f x ≠ 24 := h.2 0 (by omega)
      rw [dq_ou_s, if_neg h0]
      exact dp_in_ou i j _ y ⟨by rw [← dq_up_s]; exact h.1, fun k hk => by rw [← dq_up_s]; exact h.2 (k + 1) (by omega)⟩ hb (by omega)
theorem dp_up_lt (hP : dq_TP f t) (ht : t ≤ 24) {x : Nat} (hx : x < t) : ∀ i, (∀ k, k < i → dq_bg f (dq_up f x k) ≠ 24) → dq_up f x i < t
  | 0, _ => hx
  | i + 1, h => by
    have ih := dp_up_lt hP ht hx i (fun k hk => h k (by omega))
    exact dq_bg_lt hP ht (by omega) (h i (by omega))
/-- what is carried weighs what all that is in the hands weighs -/
theorem dp_hands (I : dq_IV n t l w) (g : Nat → Int32) : dq_sum (fun a => w 25 a = -1) (fun a => dq_sum (fun i => dq_wi w a 24 i) g t) t = dq_sum (dq_cr w) g t := by
  have ht := I.t24
  have top : ∀ a, w 25 a = -1 → dq_bg w a = 24 := fun a h => dq_bg_no h (by decide)
  rw [dp_sum_2 (fun i hi a b ha hb h1 h2 => ?_) t]
  · refine dq_sum_e t (fun i hi => ⟨?_, fun h => ?_⟩) (fun _ _ => rfl)
    · rintro ⟨a, h1, h2, h3⟩
      obtain ⟨k, hk, hin⟩ := (dq_wi_in 24 i).1 h3
      unfold dq_cr
      rw [dp_in_ou k 24 i a hin (top a h2) hk]
      exact h2
    · obtain ⟨k, h1, h2, h3, h4⟩ := dq_ou_up (f := w) 24 i
      have hlt : dq_ou w 24 i < t := by rw [h2]; exact dp_up_lt I.tp ht hi k h3
      exact ⟨dq_ou w 24 i, hlt, h, (dq_wi_in 24 i).2 ⟨k, h1, h2.symm, h3⟩⟩
  · obtain ⟨k, hk, q1⟩ := (dq_wi_in 24 i).1 h1
    obtain ⟨k2, hk2, q2⟩ := (dq_wi_in 24 i).1 h2
    rw [← dp_in_ou k 24 i a q1 (top a ha) hk, ← dp_in_ou k2 24 i b q2 (top b hb) hk2]
/-! one thing is put elsewhere -/
theorem dp_put_ou {a : Nat} {v : Int32} : ∀ (j x : Nat), ¬ dq_wi w a j x → dq_ou (dq_set w 25 a v) j x = dq_ou w j x ∧ dq_ou w j x ≠ a
  | 0, x, h => ⟨rfl, h⟩
  | j + 1, x, h => by
    have hx : x ≠ a := fun e => h (Or.inl e)
    have hb : dq_bg (dq_set w 25 a v) x = dq_bg w x := dq_bg_c (dq_set_ne (Or.inr hx))
    rw [dq_ou_s, dq_ou_s, hb]
    by_cases g : dq_bg w x = 24
    · rw [if_pos g, if_pos g]; exact ⟨rfl, hx⟩
    · rw [if_neg g, if_neg g]
      exact dp_put_ou j _ (fun q => h (Or.inr ⟨g, q⟩))
theorem dp_put_cr {a x : Nat} {v : Int32} (h : dq_cr (dq_set w 25 a v) x) : dq_cr w x ∨ dq_wi w a 24 x := by
  by_cases g : dq_wi w a 24 x
  · exact Or.inr g
  · obtain ⟨e1, e2⟩ := dp_put_ou (v := v) 24 x g
    unfold dq_cr at h ⊢
    rw [e1, dq_set_ne (Or.inr e2)] at h
    exact Or.inl h
theorem dp_in_cr (I : dq_IV n t l w) {a x : Nat} (hx : x < 24) (h : dq_wi w a 24 x) (ha : dq_cr w a) : dq_cr w x := by
  have ht := I.t24
  obtain ⟨k, _, hin⟩ := (dq_wi_in 24 x).1 h
  have e : ∀ k x, x < 24 → dq_in w a x k → dq_ou w 24 x = dq_ou w 24 a := by
    intro k
    induction k with
    | zero => intro x _ q; rw [show x = a from q.1]
    | succ k ih =>
      intro x hx q
      have h0 : dq_bg w x ≠ 24 := q.2 0 (by omega)
      rw [dq_ou_bg I.tp ht I.ac hx h0]
      have := dq_bg_lt I.tp ht hx h0
      exact ih _ (by omega) ⟨by rw [← dq_up_s]; exact q.1, fun i hi => by rw [← dq_up_s]; exact q.2 (i + 1) (by omega)⟩
  unfold dq_cr at ha ⊢
  rw [e k x hx hin]
  exact ha
/-- things go nowhere but where they aren't carried -/
def dp_T (w f : dq_W) : Prop := (f 8 = w 8 ∧ f 24 = w 24) ∧ ∀ x, f 25 x = w 25 x ∨ (-3 < f 25 x ∧ f 25 x ≠ -1)
theorem dp_T.rf : dp_T w w := ⟨⟨rfl, rfl⟩, fun _ => Or.inl rfl⟩
theorem dp_T.tr {g : dq_W} (h : dp_T w f) (k : dp_T f g) : dp_T w g := ⟨⟨k.1.1.trans h.1.1, k.1.2.trans h.1.2⟩, fun x => by
  rcases k.2 x with q | q
  · rw [q]; exact h.2 x
  · exact Or.inr q⟩
theorem dp_T.cg (h : ∀ q, q = 8 ∨ q = 24 ∨ q = 25 → f q = w q) : dp_T w f := ⟨⟨h 8 (by omega), h 24 (by omega)⟩, fun x => Or.inl (by rw [h 25 (by omega)])⟩
theorem dp_T.ite {c : Prop} {a b : dq_W} (h : c → dp_T w a) (g : ¬ c → dp_T w b) : dp_T w (dq_if c a b) := by
  by_cases e : c
  · rw [dq_if_t e]; exact h e
  · rw [dq_if_f e]; exact g e
theorem dp_T.st (h : dp_T w f) {q k : Nat} {v : Int32} (hq : q ≠ 8 ∧ q ≠ 24 ∧ q ≠ 25) : dp_T w (dq_set f q k v) := h.tr (dp_T.cg fun a ha => dq_set_r (by omega))
theorem dp_T.s25 (h : dp_T w f) {k : Nat} {v : Int32} (hv : -3 < v ∧ v ≠ -1) : dp_T w (dq_set f 25 k v) := h.tr ⟨⟨dq_set_r (by decide), dq_set_r (by decide)⟩, fun x => by
  by_cases e : x = k
  · rw [e, dq_set_eq]; exact Or.inr hv
  · rw [dq_set_ne (Or.inr e)]; exact Or.inl rfl⟩
theorem dp_T.mv (h : dp_T w f) {a b : Int32} {i : Nat} (hv : -3 < b ∧ b ≠ -1) : dp_T w (dq_mv a b i f) := h.tr ⟨⟨funext fun k => dq_mv_o (Or.inl (by decide)), funext fun k => dq_mv_o (Or.inl (by decide))⟩, fun x => by
  unfold dq_mv
  by_cases e : 25 = 25 ∧ x < i ∧ f 25 x = a
  · rw [if_pos e]; exact Or.inr hv
  · rw [if_neg e]; exact Or.inl rfl⟩
theorem dp_cell {c : Nat} (h : c < 144) : (-3 : Int32) < nI c ∧ nI c ≠ -1 := ⟨dq_cell_bag h, dq_m1' (by omega)⟩
theorem dp_gone : (-3 : Int32) < -2 ∧ (-2 : Int32) ≠ -1 := by decide
theorem dp_T.ou (h : dp_T w f) : ∀ (j x : Nat), f 25 (dq_ou f j x) = -1 → dq_ou w j x = dq_ou f j x
  | 0, _, _ => rfl
  | j + 1, x, q => by
    rw [dq_ou_s] at q ⊢
    rw [dq_ou_s]
    rcases h.2 x with g | g
    · have hb : dq_bg f x = dq_bg w x := dq_bg_c g
      rw [hb] at q ⊢
      by_cases c : dq_bg w x = 24
      · rw [if_pos c, if_pos c]
      · rw [if_neg c] at q ⊢
        rw [if_neg c]
        exact dp_T.ou h j _ q
    · have hb : dq_bg f x = 24 := dq_bg_no rfl g.1
      rw [if_pos hb] at q
      exact absurd q g.2
theorem dp_T.cr (h : dp_T w f) {x : Nat} (q : dq_cr f x) : dq_cr w x := by
  unfold dq_cr at q ⊢
  have e := h.ou 24 x q
  rw [e]
  rcases h.2 (dq_ou f 24 x) with g | g
  · rw [← g]; exact q
  · exact absurd q g.2
theorem dp_T.wt (h : dp_T w f) {x : Nat} : dq_wt f x = dq_wt w x := by
  unfold dq_wt dq_kd
  rw [h.1.1, h.1.2]
theorem dp_wt (I : dq_IV n t l w) {o : Int32} {i : Nat} (J : dq_JX o i w) : ∀ x, x < t → dj_R 0 9 (dq_wt w x) := fun x hx => J.1 _ (I.kd x (by have := I.t24; omega)).1
theorem dp_CW.T (I : dq_IV n t l w) {o : Int32} {i : Nat} (J : dq_JX o i w) (h : dp_T w f) (H : dp_CW t w) : dp_CW t f := by
  unfold dp_CW dq_cw at H ⊢
  rw [dq_sum_e t (fun _ _ => Iff.rfl) (fun x _ => h.wt)]
  exact dp_sum_w I.t24 (dp_wt I J) (fun x _ q => h.cr q) H
theorem dp_CW.take (I : dq_IV n t l w) {o : Int32} {i a : Nat} (J : dq_JX o i w) (h30 : dq_cw w t + dq_sum (fun i => dq_wi w a 24 i) (dq_wt w) t ≤ 30) : dp_CW t (dq_set w 25 a (-1)) := by
  unfold dp_CW dq_cw
  unfold dq_cw at h30
  have e : ∀ x, dq_wt (dq_set w 25 a (-1)) x = dq_wt w x := fun x => by
    unfold dq_wt dq_kd
    rw [dq_set_q (show (8 : Nat) ≠ 25 by decide), dq_set_q (show (24 : Nat) ≠ 25 by decide)]
  rw [dq_sum_e t (fun _ _ => Iff.rfl) (fun x _ => e x)]
  exact dp_sum_s I.t24 (dp_wt I J) (fun x _ q => dp_put_cr q) h30
theorem dp_CW.pack (I : dq_IV n t l w) {o v : Int32} {i a : Nat} (J : dq_JX o i w) (ha : dq_cr w a) (H : dp_CW t w) : dp_CW t (dq_set w 25 a v) := by
  unfold dp_CW dq_cw at H ⊢
  have e : ∀ x, dq_wt (dq_set w 25 a v) x = dq_wt w x := fun x => by
    unfold dq_wt dq_kd
    rw [dq_set_q (show (8 : Nat) ≠ 25 by decide), dq_set_q (show (24 : Nat) ≠ 25 by decide)]
  rw [dq_sum_e t (fun _ _ => Iff.rfl) (fun x _ => e x)]
  have ht := I.t24
  exact dp_sum_w I.t24 (dp_wt I J) (fun x hx q => (dp_put_cr q).elim id fun g => dp_in_cr I (by omega) g ha) H
theorem dp_CW.none (h : ∀ x, x < 24 → w 25 x ≠ -1) (hP : dq_TP w t) (ht : t ≤ 24) : dp_CW t w := by
  unfold dp_CW dq_cw
  rw [dp_sum_0 (P := dq_cr w) t (fun x hx q => h _ (dq_ou_lt hP ht 24 x (by omega)) q)]
  decide
end DPA
