/-! a keep that may write less -/
def dk_GA (G : dk_G) (A : Nat → Prop) : dk_G := (G.1, G.2.1, G.2.2.1, G.2.2.2.1, A, G.2.2.2.2.2)
theorem dk_Z.nar {G G' : dk_G} {U : State} {H : Heap} (h : dk_Z G U H) (e : G'.2.2.2.2.2 = G.2.2.2.2.2) (hAB : ∀ q, dk_A G' q → dk_A G q) : dk_Z G' U H := by
  unfold dk_Z dk_tL dk_tN dk_tX dk_aK dk_aV
  rw [e]
  exact ⟨h.1.narrow hAB, h.2.1.narrow hAB, h.2.2.1.narrow hAB, h.2.2.2.1.narrow hAB, h.2.2.2.2.1.narrow hAB, h.2.2.2.2.2.narrow hAB⟩
