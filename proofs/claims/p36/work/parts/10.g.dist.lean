/-! distances; a world and its caches -/
noncomputable def dq_if {α : Type} (c : Prop) (x y : α) : α := @ite _ c (Classical.propDecidable c) x y
theorem dq_if_t {α : Type} {c : Prop} {x y : α} (h : c) : dq_if c x y = x := @if_pos _ (Classical.propDecidable c) h _ _ _
theorem dq_if_f {α : Type} {c : Prop} {x y : α} (h : ¬ c) : dq_if c x y = y := @if_neg _ (Classical.propDecidable c) h _ _ _
theorem dq_if_c {α : Type} {c d : Prop} {x y : α} (h : c ↔ d) : dq_if c x y = dq_if d x y := by rw [propext h]
theorem dq_min : ∀ (P : Nat → Prop) (d : Nat), P d → ∃ m, P m ∧ ∀ e, P e → m ≤ e := by
  intro P d
  induction d using Nat.strongRecOn with
  | ind d ih =>
    intro h
    by_cases g : ∃ e, e < d ∧ P e
    · obtain ⟨e, h1, h2⟩ := g
      exact ih e h1 h2
    · exact ⟨d, h, fun e he => Nat.le_of_not_lt fun q => g ⟨e, q, he⟩⟩
def dq_Dp (tl : Nat → Nat) (a c : Nat) (z : Int) : Prop := (z = -1 ∧ ∀ d, ¬ dq_R tl a d c) ∨ (0 ≤ z ∧ dq_R tl a z.toNat c ∧ ∀ d, dq_R tl a d c → z ≤ d)
noncomputable def dq_D (tl : Nat → Nat) (a c : Nat) : Int := Classical.epsilon (dq_Dp tl a c)
theorem dq_D_s (tl : Nat → Nat) (a c : Nat) : dq_Dp tl a c (dq_D tl a c) := by
  refine Classical.epsilon_spec (p := dq_Dp tl a c) ?_
  by_cases h : ∃ d, dq_R tl a d c
  · obtain ⟨d, h⟩ := h
    obtain ⟨m, h1, h2⟩ := dq_min (fun d => dq_R tl a d c) d h
    exact ⟨m, Or.inr ⟨by omega, by rw [Int.toNat_natCast]; exact h1, fun d hd => by have := h2 d hd; omega⟩⟩
  · exact ⟨-1, Or.inl ⟨rfl, fun d hd => h ⟨d, hd⟩⟩⟩
theorem dq_D_u {tl : Nat → Nat} {a c : Nat} {z : Int} (h : dq_Dp tl a c z) : z = dq_D tl a c := by
  rcases dq_D_s tl a c with ⟨e1, e2⟩ | ⟨e1, e2, e3⟩
  · rcases h with ⟨f1, _⟩ | ⟨_, f2, _⟩
    · omega
    · exact absurd f2 (e2 _)
  · rcases h with ⟨_, f2⟩ | ⟨f1, f2, f3⟩
    · exact absurd e2 (f2 _)
    · have := f3 _ e2
      have := e3 _ f2
      omega
theorem dq_D_ge {tl : Nat → Nat} {a c : Nat} : -1 ≤ dq_D tl a c := by
  rcases dq_D_s tl a c with ⟨e1, _⟩ | ⟨e1, _⟩ <;> omega
theorem dq_R_tl {tl tl' : Nat → Nat} (h : ∀ c, c < 144 → tl c = tl' c) {a : Nat} : ∀ n d c, dq_wa tl a n d c → dq_wa tl' a n d c
  | 0, _, _, g => g
  | n + 1, d, c, ⟨b, w, d', h1, h2, h3, h4, h5, h6, h7⟩ => ⟨b, w, d', h1, h2, h3, h4, by rw [← h c h4]; exact h5, dq_R_tl h n d' b h6, by rw [← h c h4]; exact h7⟩
theorem dq_R_tli {tl tl' : Nat → Nat} (h : ∀ c, c < 144 → tl c = tl' c) {a d c : Nat} : dq_R tl a d c ↔ dq_R tl' a d c :=
  ⟨fun ⟨n, g⟩ => ⟨n, dq_R_tl h n d c g⟩, fun ⟨n, g⟩ => ⟨n, dq_R_tl (fun c hc => (h c hc).symm) n d c g⟩⟩
theorem dq_D_tl {tl tl' : Nat → Nat} (h : ∀ c, c < 144 → tl c = tl' c) {a c : Nat} : dq_D tl a c = dq_D tl' a c := by
  refine dq_D_u ?_
  rcases dq_D_s tl a c with ⟨e1, e2⟩ | ⟨e1, e2, e3⟩
  · exact Or.inl ⟨e1, fun d hd => e2 d ((dq_R_tli h).2 hd)⟩
  · exact Or.inr ⟨e1, (dq_R_tli h).1 e2, fun d hd => e3 d ((dq_R_tli h).2 hd)⟩
theorem dq_sg_e {w f : dq_W} (h : dq_Ab w f) (n : Nat) : dq_sg f n = dq_sg w n := by
  unfold dq_sg
  by_cases g : n < 144
  · rw [if_pos g, if_pos g]; exact h 2 n (Nat.zero_le _) g
  · rw [if_neg g, if_neg g]
theorem dq_tl_e {w f : dq_W} (h : dq_Ab w f) (sh : Nat) (lk : Int32) : dq_tl f sh lk = dq_tl w sh lk := by
  funext c
  unfold dq_tl
  rw [dq_sg_e h]
theorem dq_SG_e {w f : dq_W} (h : dq_Ab w f) (hS : dq_SG w) : dq_SG f := fun c hc => by
  rw [h 2 c (Nat.zero_le _) hc]; exact hS c hc
theorem dq_see_e {w f : dq_W} (h : dq_Ab w f) {a b : Nat} : dq_see f a b ↔ dq_see w a b :=
  ⟨fun g c hc h1 h2 h3 => by rw [← h 2 c (Nat.zero_le _) hc]; exact g c hc h1 h2 h3, fun g c hc h1 h2 h3 => by rw [h 2 c (Nat.zero_le _) hc]; exact g c hc h1 h2 h3⟩
/-- the steps that are kept for an aim are right -/
def dq_CK (w f : dq_W) : Prop := f 1 5 = -1 ∨ ∃ a, a < 144 ∧ f 1 5 = nI a ∧ ∀ c, c < 144 → f 6 c = dq_iI (dq_D (dq_tl w 1 0) a c) ∧ dq_D (dq_tl w 1 0) a c ≤ 1300
def dq_WR (w f : dq_W) : Prop := dq_Ab w f ∧ dq_CK w f
theorem dq_CK.same {w w' f f' : dq_W} (h : dq_CK w f) (h1 : f' 1 5 = f 1 5) (h6 : ∀ c, c < 144 → f' 6 c = f 6 c) (h2 : ∀ c, c < 144 → w' 2 c = w 2 c) : dq_CK w' f' := by
  have e : ∀ c, c < 144 → dq_tl w 1 0 c = dq_tl w' 1 0 c := fun c hc => by
    unfold dq_tl
    rw [dq_sg_in hc, dq_sg_in hc, h2 c hc]
  rcases h with g | ⟨a, ha, g1, g2⟩
  · exact Or.inl (by rw [h1]; exact g)
  · refine Or.inr ⟨a, ha, by rw [h1]; exact g1, fun c hc => ?_⟩
    rw [h6 c hc, ← dq_D_tl e]; exact g2 c hc
theorem dq_WR.set {w f : dq_W} (h : dq_WR w f) {q k : Nat} {v : Int32} (hq : q ≠ 1 ∧ q ≠ 2 ∧ q ≠ 6) : dq_WR (dq_set w q k v) (dq_set f q k v) :=
  ⟨h.1.set q k v, h.2.same (dq_set_q (by omega)) (fun c _ => dq_set_q (by omega)) (fun c _ => dq_set_q (by omega))⟩
theorem dq_WR.sgn {w f : dq_W} (h : dq_WR w f) {c : Nat} {v : Int32} : dq_WR (dq_set w 2 c v) (dq_set (dq_set f 2 c v) 1 5 (-1)) :=
  ⟨(h.1.set 2 c v).out (Or.inr (Nat.zero_le _)), Or.inl dq_set_eq⟩
/-- what is at a place and where the hero is -/
def dq_pl (f : dq_W) (k : Nat) : Nat := (f 14 k).toNatClampNeg
def dq_PL (f : dq_W) : Prop := ∀ k, k < 8 → dq_pl f k < 144 ∧ f 14 k = nI (dq_pl f k)
section DQG
variable {p : Nat} {s : dk_S} {w : dq_W} {K : Int32 → dk_S → Prop} {J : dk_S → Prop}
theorem kx_aimAt {a : Nat} (H : dq_WR w (s p)) (hS : dq_SG w) (ha : a < 144) (k : ∀ u, dq_WR w (u p) → (∀ c, c < 144 → u p 6 c = dq_iI (dq_D (dq_tl w 1 0) a c) ∧ dq_D (dq_tl w 1 0) a c ≤ 1300) → dq_fr p s u → J u) : wf_X1_aimAt p (nI a) s J := by
  unfold wf_X1_aimAt
  refine br_c (fun h => ?_) (fun h => ?_)
  · refine k s H ?_ dq_fr.rf
    rcases H.2 with g | ⟨b, hb, g1, g2⟩
    · rw [g] at h; exact absurd h (dq_m1 (by omega))
    · have : b = a := (nI_eq (by omega) (by omega)).1 (g1.symm.trans h)
      rw [← this]; exact g2
  · refine kx_flood (sh := 1) (mo := 1000000) (Or.inr rfl) (dq_SG_e H.1 hS) ha (by decide) (by decide) (by decide) (fun u z h1 h2 h3 h4 => nm_e ?_)
    have hD : ∀ c, c < 144 → z c = dq_D (dq_tl w 1 0) a c := by
      intro c hc
      refine dq_D_u ?_
      rw [dq_tl_e H.1] at h3 h4
      rcases h3 c hc with g | ⟨g1, g2, g3⟩
      · exact Or.inl ⟨g, fun d hd => absurd g (h4 c d hd (Or.inr (by decide))).2.1⟩
      · exact Or.inr ⟨g1, g3, fun d hd => (h4 c d hd (Or.inr (by decide))).2.2⟩
    have e6 : ∀ c, c < 144 → dk_row u p 1 (upd (u p 1) 5 (nI a)) p 6 c = dq_iI (dq_D (dq_tl w 1 0) a c) ∧ dq_D (dq_tl w 1 0) a c ≤ 1300 := fun c hc => by
      rw [dq_set_row, dq_set_q (by decide), h2 c hc, hD c hc]
      refine ⟨rfl, ?_⟩
      rw [← hD c hc]
      rcases h3 c hc with g | g <;> omega
    refine k _ ⟨?_, Or.inr ⟨a, ha, ?_, e6⟩⟩ e6 ?_
    · rw [dq_set_row]
      refine dq_Ab.out ?_ (Or.inr (Nat.zero_le _))
      intro q c l1 l2
      have hq : q ≠ 6 ∧ q ≠ 3 ∧ q ≠ 4 := by
        refine ⟨?_, ?_, ?_⟩ <;> rintro rfl <;> exact absurd l2 (by simp [dq_hi])
      rw [h1 p q (Or.inr hq)]
      exact H.1 q c l1 l2
    · rw [dq_set_row, dq_set_eq]
    · intro b hb
      funext q
      rw [dq_row_r (Or.inl hb)]
      exact h1 b q (Or.inl hb)
end DQG
