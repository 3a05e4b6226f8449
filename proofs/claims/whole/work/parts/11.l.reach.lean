/-! what the hero could come to: both sides -/
def rh_h (m e : Nat) : Prop := m / 2 ^ e % 2 = 1
def rh_c (m : Nat) : Nat := m % 2 + m / 2 % 2 + m / 4 % 2
def rh_s (m m' : Nat) : Prop := ∀ e, e < 3 → rh_h m e → rh_h m' e
theorem rh_or0 : ∀ m, m < 8 → ∀ e, e < 3 → nI m ||| (1 <<< (nI e &&& 31)) = nI (m ||| 2 ^ e) ∧ m ||| 2 ^ e < 8 := by decide +kernel
theorem rh_or1 : ∀ m, m < 8 → ∀ e, e < 3 → ∀ i, i < 3 → ((m ||| 2 ^ e) / 2 ^ i % 2 = 1 ↔ (i = e ∨ m / 2 ^ i % 2 = 1)) := by decide +kernel
theorem rh_bit0 : ∀ m, m < 8 → ∀ e, e < 3 → ((nI m >>> ((((48 : Int32) + nI e) - 48) &&& 31)) &&& 1 = 1 ↔ m / 2 ^ e % 2 = 1) := by decide +kernel
theorem rh_cnt0 (m : Nat) (hm : m < 8) (k : Nat) (hk : k < 8) (h0 : m / 1 % 2 = 1 → k / 1 % 2 = 1) (h1 : m / 2 % 2 = 1 → k / 2 % 2 = 1) (h2 : m / 4 % 2 = 1 → k / 4 % 2 = 1) (hne : m ≠ k) : rh_c m < rh_c k := by
  unfold rh_c
  have am : m = m % 2 + 2 * (m / 2 % 2) + 4 * (m / 4 % 2) := by omega
  have ak : k = k % 2 + 2 * (k / 2 % 2) + 4 * (k / 4 % 2) := by omega
  rw [Nat.div_one, Nat.div_one] at h0
  have l0 : m % 2 ≤ k % 2 := by
    by_cases g : m % 2 = 1
    · have := h0 g; omega
    · omega
  have l1 : m / 2 % 2 ≤ k / 2 % 2 := by
    by_cases g : m / 2 % 2 = 1
    · have := h1 g; omega
    · omega
  have l2 : m / 4 % 2 ≤ k / 4 % 2 := by
    by_cases g : m / 4 % 2 = 1
    · have := h2 g; omega
    · omega
  generalize m % 2 = a at *
  generalize m / 2 % 2 = b at *
  generalize m / 4 % 2 = c at *
  generalize k % 2 = a' at *
  generalize k / 2 % 2 = b' at *
  generalize k / 4 % 2 = c' at *
  omega
theorem rh_cnt {m k : Nat} (hm : m < 8) (hk : k < 8) (h : rh_s m k) (hne : m ≠ k) : rh_c m < rh_c k := rh_cnt0 m hm k hk (fun g => h 0 (by decide) g) (fun g => h 1 (by decide) g) (fun g => h 2 (by decide) g) hne
theorem rh_c3 : ∀ m, m < 8 → rh_c m ≤ 3 := by decide +kernel
/-- a number of a set of locks -/
theorem rh_ex (P : Nat → Prop) : ∃ m, m < 8 ∧ ∀ e, e < 3 → (rh_h m e ↔ P e) := by
  have h0 : ∀ a b c : Nat, a < 2 → b < 2 → c < 2 → a + 2 * b + 4 * c < 8 ∧ ((a + 2 * b + 4 * c) / 2 ^ 0 % 2 = a) ∧ ((a + 2 * b + 4 * c) / 2 ^ 1 % 2 = b) ∧ ((a + 2 * b + 4 * c) / 2 ^ 2 % 2 = c) := by
    intro a b c h1 h2 h3
    have e0 : (2 : Nat) ^ 0 = 1 := rfl
    have e1 : (2 : Nat) ^ 1 = 2 := rfl
    have e2 : (2 : Nat) ^ 2 = 4 := rfl
    rw [e0, e1, e2]
    omega
  have d : ∀ e, ∃ a : Nat, a < 2 ∧ (a = 1 ↔ P e) := fun e => by
    by_cases h : P e
    · exact ⟨1, by decide, fun _ => h, fun _ => rfl⟩
    · exact ⟨0, by decide, fun g => absurd g (by decide), fun g => absurd g h⟩
  obtain ⟨a, a1, a2⟩ := d 0
  obtain ⟨b, b1, b2⟩ := d 1
  obtain ⟨c, c1, c2⟩ := d 2
  obtain ⟨q0, q1, q2, q3⟩ := h0 a b c a1 b1 c1
  refine ⟨a + 2 * b + 4 * c, q0, fun e he => ?_⟩
  have h3 : e = 0 ∨ e = 1 ∨ e = 2 := by omega
  unfold rh_h
  rcases h3 with rfl | rfl | rfl
  · rw [q1]; exact a2
  · rw [q2]; exact b2
  · rw [q3]; exact c2
def rh_tl (w : dq_W) (m : Nat) (c : Nat) : Nat := dq_tl w 1 (nI m) c
/-- one can come to c from the hero's cell, with the keys m -/
def rh_R (w : dq_W) (m c : Nat) : Prop := ∃ d, dq_R (dq_tl w 1 (nI m)) (dq_pl w 0) d c
/-- a thing is at hand -/
def rh_A (w : dq_W) (z : Nat → Prop) (i : Nat) : Prop := dq_cr w i ∨ ∃ c, c < 144 ∧ w 25 (dq_ou w 24 i) = nI c ∧ z c
/-- the key of a lock is -/
def rh_K (w : dq_W) (t : Nat) (z : Nat → Prop) (e : Nat) : Prop := ∃ i, i < t ∧ dq_kd w i = e ∧ rh_A w z i
section DRH
variable {n t l : Nat} {w : dq_W}
/-- what a cell's sign asks of the keys -/
def rh_M (w : dq_W) (P : Nat → Prop) (c : Nat) : Prop := dq_free (w 2 c) ∨ w 2 c = 43 ∨ ∃ e, e < 3 ∧ w 2 c = 48 + nI e ∧ P e
theorem rh_lock : ∀ e, e < 3 → ((48 : Int32) + nI e = 48 ∨ (48 : Int32) + nI e = 49 ∨ (48 : Int32) + nI e = 50) ∧ ¬ ((48 : Int32) + nI e = 43) ∧ ¬ dq_free ((48 : Int32) + nI e) ∧ (48 : Int32) + nI e - 48 = nI e := by decide +kernel
theorem rh_tl_i (hS : dq_SG w) {m c : Nat} (hm : m < 8) (hc : c < 144) : (rh_M w (rh_h m) c → dq_tl w 1 (nI m) c = 1) ∧ (¬ rh_M w (rh_h m) c → dq_tl w 1 (nI m) c = 0) := by
  have e : dq_tl w 1 (nI m) c = dq_tlv (w 2 c) 1 (nI m) := by unfold dq_tl; rw [dq_sg_in hc]
  rw [e]
  unfold rh_M dq_tlv
  by_cases h1 : w 2 c = 43
  · rw [if_pos h1]
    exact ⟨fun _ => rfl, fun g => absurd (Or.inr (Or.inl h1)) g⟩
  · rw [if_neg h1]
    by_cases h2 : dq_free (w 2 c)
    · rw [if_pos h2]
      exact ⟨fun _ => rfl, fun g => absurd (Or.inl h2) g⟩
    · rw [if_neg h2]
      by_cases h3 : ∃ e, e < 3 ∧ w 2 c = 48 + nI e
      · obtain ⟨x, hx, hv⟩ := h3
        have b := rh_bit0 m hm x hx
        have lk := rh_lock x hx
        rw [hv]
        by_cases h4 : m / 2 ^ x % 2 = 1
        · rw [if_pos ⟨lk.1, b.2 h4⟩]
          exact ⟨fun _ => rfl, fun g => absurd (Or.inr (Or.inr ⟨x, hx, rfl, h4⟩)) g⟩
        · rw [if_neg (fun g => h4 (b.1 g.2))]
          refine ⟨fun g => ?_, fun _ => rfl⟩
          rcases g with g | g | ⟨y, hy, g1, g2⟩
          · exact absurd g lk.2.2.1
          · exact absurd g lk.2.1
          · have e1 : nI x = nI y := by
              have : (48 : Int32) + nI x - 48 = (48 : Int32) + nI y - 48 := by rw [g1]
              rw [lk.2.2.2, (rh_lock y hy).2.2.2] at this
              exact this
            have : x = y := (nI_eq (by omega) (by omega)).1 e1
            subst this
            exact absurd g2 h4
      · have : ¬ (w 2 c = 48 ∨ w 2 c = 49 ∨ w 2 c = 50) := by
          rintro (g | g | g)
          · exact h3 ⟨0, by decide, g⟩
          · exact h3 ⟨1, by decide, g⟩
          · exact h3 ⟨2, by decide, g⟩
        rw [if_neg (fun g => this g.1)]
        refine ⟨fun g => ?_, fun _ => rfl⟩
        rcases g with g | g | ⟨y, hy, g1, _⟩
        · exact absurd g h2
        · exact absurd g h1
        · exact absurd ⟨y, hy, g1⟩ h3
theorem rh_M_mono {P Q : Nat → Prop} (h : ∀ e, e < 3 → P e → Q e) {c : Nat} (g : rh_M w P c) : rh_M w Q c := by
  rcases g with g | g | ⟨e, h1, h2, h3⟩
  · exact Or.inl g
  · exact Or.inr (Or.inl g)
  · exact Or.inr (Or.inr ⟨e, h1, h2, h e h1 h3⟩)
/-- a set that is closed holds what one can come to -/
theorem rh_cl (hS : dq_SG w) {m : Nat} (hm : m < 8) {z : Nat → Prop} (h0 : z (dq_pl w 0)) (hc : ∀ c, c < 144 → z c → ∀ v, v < 4 → dq_nb c v < 144 → rh_M w (rh_h m) (dq_nb c v) → z (dq_nb c v)) : ∀ k d c, dq_wa (dq_tl w 1 (nI m)) (dq_pl w 0) k d c → z c
  | 0, d, c, h => by rw [h.2]; exact h0
  | k + 1, d, c, ⟨b, v, d', h1, h2, h3, h4, h5, h6, h7⟩ => by
    have ih := rh_cl hS hm h0 hc k d' b h6
    have q := hc b h1 ih v h2 (by rw [h3]; exact h4)
    rw [h3] at q
    refine q (Classical.not_not.mp fun g => ?_)
    have := (rh_tl_i hS hm h4).2 g
    omega
theorem rh_R_in (I : dq_IV n t l w) {m c : Nat} (h : rh_R w m c) : c < 144 := by
  obtain ⟨d, k, h⟩ := h
  exact mf_wa_in (I.pl 0 (by decide)).1 k d c h
theorem rh_R_s (hS : dq_SG w) {m b v : Nat} (hm : m < 8) (h : rh_R w m b) (hb : b < 144) (hv : v < 4) (hc : dq_nb b v < 144) (hM : rh_M w (rh_h m) (dq_nb b v)) : rh_R w m (dq_nb b v) := by
  obtain ⟨d, h⟩ := h
  exact ⟨_, dq_R_s h hb hv hc (by rw [(rh_tl_i hS hm hc).1 hM]; decide)⟩
theorem rh_R_0 {m : Nat} : rh_R w m (dq_pl w 0) := ⟨0, dq_R_0⟩
theorem rh_mono (hS : dq_SG w) {m k : Nat} (hm : m < 8) (hk : k < 8) (I : dq_IV n t l w) (h : rh_s m k) {c : Nat} (g : rh_R w m c) : rh_R w k c := by
  obtain ⟨d, j, g⟩ := g
  exact rh_cl hS hm (z := rh_R w k) rh_R_0 (fun c hc hz v hv hn hM => rh_R_s hS hk hz hc hv hn (rh_M_mono h hM)) j d c g
theorem rh_K_mono {z y : Nat → Prop} (h : ∀ c, c < 144 → z c → y c) {e : Nat} (g : rh_K w t z e) : rh_K w t y e := by
  obtain ⟨i, h1, h2, h3⟩ := g
  refine ⟨i, h1, h2, ?_⟩
  rcases h3 with q | ⟨c, q1, q2, q3⟩
  · exact Or.inl q
  · exact Or.inr ⟨c, q1, q2, h c q1 q3⟩
/-- the keys that are found with the keys m -/
def rh_F (w : dq_W) (t m m' : Nat) : Prop := m' < 8 ∧ ∀ e, e < 3 → (rh_h m' e ↔ rh_K w t (rh_R w m) e)
/-- the least set of keys that finds itself -/
def rh_L (w : dq_W) (t M : Nat) : Prop := M < 8 ∧ rh_F w t M M ∧ ∀ N N', N < 8 → rh_F w t N N' → rh_s N' N → rh_s M N
/-- a set of cells that is closed, by its own keys, and holds no more -/
theorem rh_same (I : dq_IV n t l w) {M : Nat} (hL : rh_L w t M) {z : Nat → Prop} (h0 : z (dq_pl w 0)) (hz : ∀ c, c < 144 → z c → rh_R w M c)
    (hc : ∀ c, c < 144 → z c → ∀ v, v < 4 → dq_nb c v < 144 → rh_M w (rh_K w t z) (dq_nb c v) → z (dq_nb c v)) {c : Nat} (hc2 : c < 144) : z c ↔ rh_R w M c := by
  refine ⟨hz c hc2, fun g => ?_⟩
  obtain ⟨N, hN, hNe⟩ := rh_ex (rh_K w t z)
  have cl : ∀ c, c < 144 → z c → ∀ v, v < 4 → dq_nb c v < 144 → rh_M w (rh_h N) (dq_nb c v) → z (dq_nb c v) := fun c h1 h2 v h3 h4 h5 => hc c h1 h2 v h3 h4 (rh_M_mono (fun e he h => (hNe e he).1 h) h5)
  obtain ⟨N', hN', hNe'⟩ := rh_ex (rh_K w t (rh_R w N))
  have RN : ∀ c, rh_R w N c → z c := fun c ⟨d, k, h⟩ => rh_cl I.sg hN h0 cl k d c h
  have sub : rh_s N' N := fun e he h => (hNe e he).2 (rh_K_mono (fun c _ h => RN c h) ((hNe' e he).1 h))
  have := hL.2.2 N N' hN ⟨hN', hNe'⟩ sub
  exact RN c (rh_mono I.sg hL.1 hN I this g)
end DRH
section DRK
variable {p n t l : Nat} {s : dk_S} {w : dq_W} {K : Int32 → dk_S → Prop} {J : dk_S → Prop}
/-- the locks at hand, of the first i things -/
def rh_G (w : dq_W) (z : Nat → Prop) (i m : Nat) : Prop := m < 8 ∧ ∀ e, e < 3 → (rh_h m e ↔ ∃ j, j < i ∧ dq_kd w j = e ∧ rh_A w z j)
theorem kw_keysAtHand {z : Nat → Prop} {q : Nat} (H : dq_Ab w (s p)) (I : dq_IV n t l w) (hz : ∀ c, c < 144 → (z c ↔ ¬ s p q c < 0)) (k : ∀ m, rh_G w z t m → K (nI m) s) : wf_X6_keysAtHand p p q 144 s K := by
  unfold wf_X6_keysAtHand
  have ht := I.t24
  have hn : s p 23 2 = nI t := by rw [H 23 2 (by decide) (by decide)]; exact I.ht
  have run := loop_0 (σ := Nat) (fun m i x => wf_X6_keysAtHand_4 p p q 144 K m (nI x) (nI i) s) (fun i x => rh_G w z i x) t 0 ⟨by decide, fun e he => ⟨fun g => by
      unfold rh_h at g
      rw [Nat.zero_div] at g
      exact absurd g (by decide), fun ⟨j, h, _⟩ => absurd h (Nat.not_lt_zero j)⟩⟩ (fun m x h => by
    show wf_X6_keysAtHand_4 p p q 144 K (m + 1) (nI x) (nI t) s
    unfold wf_X6_keysAtHand_4
    rw [hn]
    exact br_t (nI_le (Nat.le_refl _) (by omega)) (k x h)) (fun m i x hi h next => by
    show wf_X6_keysAtHand_4 p p q 144 K (m + 1) (nI x) (nI i) s
    unfold wf_X6_keysAtHand_4
    rw [hn]
    have hk := I.kd i (by omega)
    have e24 : s p 24 i = nI (dq_kd w i) := by rw [H 24 i (Nat.zero_le _) (show i < 24 by omega)]; exact hk.2
    have hk8 := hk.1
    have no : ¬ (dq_kd w i < 3 ∧ rh_A w z i) → wf_X6_keysAtHand_64 p p q 144 K (wf_X6_keysAtHand_4 p p q 144 K m) (nI x) (nI i) s := fun g => by
      unfold wf_X6_keysAtHand_64
      refine nm_r (nI_1 i) (next x ⟨h.1, fun e he => ?_⟩)
      rw [h.2 e he]
      constructor
      · rintro ⟨j, h1, h2⟩; exact ⟨j, by omega, h2⟩
      · rintro ⟨j, h1, h2, h3⟩
        by_cases ej : j = i
        · rw [ej] at h2 h3
          exact absurd ⟨by omega, h3⟩ g
        · exact ⟨j, by omega, h2, h3⟩
    have yes : dq_kd w i < 3 → rh_A w z i → wf_X6_keysAtHand_51 p p q 144 K (wf_X6_keysAtHand_4 p p q 144 K m) (nI x) (nI i) s := fun g1 g2 => by
      unfold wf_X6_keysAtHand_51
      have o := rh_or0 x h.1 _ g1
      refine kx_at (by omega) (by decide) (nm_r (e' := nI (x ||| 2 ^ dq_kd w i)) (by rw [e24]; exact o.1) ?_)
      unfold wf_X6_keysAtHand_64
      refine nm_r (nI_1 i) (next _ ⟨o.2, fun e he => ?_⟩)
      unfold rh_h
      rw [rh_or1 x h.1 _ g1 e he]
      have := h.2 e he
      unfold rh_h at this
      rw [this]
      constructor
      · rintro (r | ⟨j, h1, h2⟩)
        · exact ⟨i, by omega, r.symm, g2⟩
        · exact ⟨j, by omega, h2⟩
      · rintro ⟨j, h1, h2, h3⟩
        by_cases ej : j = i
        · rw [ej] at h2
          exact Or.inl h2.symm
        · exact Or.inr ⟨j, by omega, h2, h3⟩
    have hou := dq_ou_lt (f := w) I.tp ht 24 i (by omega)
    refine br_f (nI_ge hi (by omega)) ?_
    have Hs : dq_TP (s p) t := dq_TP_e H I.tp
    refine kx_outerPlace Hs ht (by omega) ?_
    have eou : s p 25 (dq_ou (s p) 24 i) = w 25 (dq_ou w 24 i) := by
      rw [dq_ou_e H I.tp ht 24 i (by omega)]
      exact H 25 _ (Nat.zero_le _) hou
    rw [eou]
    refine kx_at (by omega) (by decide) ?_
    rw [e24]
    refine br_c (fun g => no fun r => ?_) (fun g => ?_)
    · have := (nI_leI (a := 3) (by decide) (by omega)).1 g
      omega
    · have g3 : dq_kd w i < 3 := Nat.lt_of_not_le fun r => g ((nI_leI (a := 3) (by decide) (by omega)).2 r)
      refine br_c (fun g4 => yes g3 (Or.inl g4)) (fun g4 => br_c (fun g5 => no ?_) (fun g5 => ?_))
      · rintro ⟨_, r | ⟨c, r1, r2, _⟩⟩
        · exact g4 r
        · rw [r2] at g5
          exact nI_pos (by omega) g5
      · obtain ⟨c, hc, ec⟩ : ∃ c, c < 144 ∧ w 25 (dq_ou w 24 i) = nI c := by
          rcases dq_TP_neg I hou with r | r
          · exact absurd r g5
          · exact r
        rw [ec]
        refine kx_at hc (by decide) (br_c (fun g6 => no ?_) (fun g6 => yes g3 (Or.inr ⟨c, hc, ec, (hz c hc).2 g6⟩)))
        rintro ⟨_, r | ⟨d, r1, r2, r3⟩⟩
        · exact g4 r
        · have : d = c := (nI_eq (by omega) (by omega)).1 (r2.symm.trans ec)
          rw [this] at r3
          exact (hz c hc).1 r3 g6)
  exact run
theorem dq_Ab.rows {f g : dq_W} (H : dq_Ab w f) (h : ∀ q, q ≠ 3 → q ≠ 4 → q ≠ 5 → g q = f q) : dq_Ab w g := fun q k h1 h2 => by
  by_cases e : q = 3 ∨ q = 4 ∨ q = 5
  · exfalso
    rcases e with rfl | rfl | rfl
    · exact absurd h2 (Nat.not_lt_zero _)
    · exact absurd h2 (Nat.not_lt_zero _)
    · exact absurd h2 (Nat.not_lt_zero _)
  · rw [h q (by omega) (by omega) (by omega)]; exact H q k h1 h2
theorem kw_heroCouldReach {c : Nat} (H : dq_WR w (s p)) (I : dq_IV n t l w) (hc : c < 144) (k : ∀ M, rh_L w t M → (rh_R w M c → ∀ u, dq_WR w (u p) → dq_fr p s u → K 1 u) ∧ (¬ rh_R w M c → ∀ u, dq_WR w (u p) → dq_fr p s u → K 0 u)) : wf_X7_heroCouldReach p (nI c) s K := by
  unfold wf_X7_heroCouldReach
  have hS := I.sg
  have hp := I.pl 0 (by decide)
  have key : ∀ d r m u, r + d = 4 → m < 8 → r ≤ rh_c m → (∀ m', rh_F w t m m' → rh_s m m') → (∀ N N', N < 8 → rh_F w t N N' → rh_s N' N → rh_s m N) → dq_WR w (u p) → dq_fr p s u →
      wf_X7_heroCouldReach_4 p K (fun (w1 : Int32) (s2 : dk_S) => wf_X7_heroCouldReach_65 p K w1 s2) (fun (w3 : Int32) (s4 : dk_S) => wf_X7_heroCouldReach_65 p K w3 s4) (d + 1) (nI c) (nI m) (nI r) u := by
    intro d
    induction d with
    | zero =>
      intro r m u hr hm hcm
      have := rh_c3 m hm
      omega
    | succ d ih =>
      intro r m u hr hm hcm hsub hleast Hu hf
      unfold wf_X7_heroCouldReach_4
      refine br_f (nI_nlt (a := 3) (by omega) (by omega)) (kw_heroSpot Hu I.pl ?_)
      refine kx_flood (mo := 1000000) (Or.inl rfl) (dq_SG_e Hu.1 hS) hp.1 (by decide) (by decide) (by decide) (fun u2 z f1 f2 f3 f4 => ?_)
      rw [dq_tl_e Hu.1] at f3 f4
      have row : ∀ q, q ≠ 3 → q ≠ 4 → q ≠ 5 → u2 p q = u p q := fun q h1 h2 h3 => f1 p q (Or.inr ⟨h3, h1, h2⟩)
      have Hu2 : dq_WR w (u2 p) := ⟨Hu.1.rows row, Hu.2.same (by rw [row 1 (by decide) (by decide) (by decide)]) (fun c _ => by rw [row 6 (by decide) (by decide) (by decide)]) (fun c _ => rfl)⟩
      have hf2 : dq_fr p s u2 := hf.tr (fun a ha => funext fun b => f1 a b (Or.inl ha))
      have zR : ∀ c, c < 144 → (rh_R w m c ↔ ¬ u2 p 5 c < 0) := fun c hc => by
        rw [f2 c hc]
        have h3 := f3 c hc
        have e0 : dq_iI (z c) < 0 ↔ z c < 0 := by
          have := dq_ilt (a := z c) (b := 0) (by omega) (by omega) (by decide) (by decide)
          exact this
        rw [e0]
        constructor
        · rintro ⟨d, hd⟩
          have := (f4 c d hd (Or.inr (by decide))).2.1
          omega
        · intro g
          rcases h3 with q | ⟨q1, q2, q3⟩
          · omega
          · exact ⟨_, q3⟩
      refine kw_keysAtHand (z := rh_R w m) Hu2.1 I zR (fun m' G => ?_)
      have F : rh_F w t m m' := G
      have m8 := F.1
      refine dq_rb (fun g => nm_r (nI_1 r) ?_) (fun g => ?_)
      · have ne : m' ≠ m := fun q => g (congrArg nI q)
        have s1 := hsub m' F
        refine ih (r + 1) m' u2 (by omega) m8 ?_ ?_ ?_ Hu2 hf2
        · have := rh_cnt hm m8 s1 (Ne.symm ne)
          omega
        · intro m2 F2 e he h
          exact (F2.2 e he).2 (rh_K_mono (fun c _ q => rh_mono hS hm m8 I s1 q) ((F.2 e he).1 h))
        · intro N N' hN FN hs e he h
          refine hs e he ((FN.2 e he).2 (rh_K_mono (fun c _ q => rh_mono hS hm hN I (hleast N N' hN FN hs) q) ((F.2 e he).1 h)))
      · have e : m' = m := (nI_eq (by omega) (by omega)).1 g
        rw [e] at F
        have kk := k m ⟨hm, F, hleast⟩
        unfold wf_X7_heroCouldReach_65
        refine kx_at hc (by decide) (br_c (fun g2 => kk.2 (fun q => (zR c hc).1 q g2) u2 Hu2 hf2) (fun g2 => kk.1 ((zR c hc).2 g2) u2 Hu2 hf2))
  refine ⟨5, key 4 0 0 s rfl (by decide) (Nat.zero_le _) (fun m' _ e he h => ?_) (fun N N' _ _ _ e he h => ?_) H dq_fr.rf⟩
  · unfold rh_h at h
    rw [Nat.zero_div] at h
    exact absurd h (by decide)
  · unfold rh_h at h
    rw [Nat.zero_div] at h
    exact absurd h (by decide)
end DRK
