/-! each call, the two side by side: livingShare, meanHealth -/
def dz_CF {V : Type} (c : Nat) (N : V → Prop) (wK : dk_S → (V → dk_S → Prop) → (String → dk_S → Prop) → Prop) (wM : dk_S → (V → dk_S → Prop) → Prop) (z : V) (E : String) (s : dk_S) : Prop :=
  ((∀ K X, X E s → wK s K X) ∧ ∀ J, (∀ u, dq_I c u → u 4 60 0 = 1 → J z u) → wM s J) ∨
  ∃ r : V, N r ∧ (∀ K X, K r s → wK s K X) ∧ ∀ J, (∀ u, dq_I (c + 1) u → u 4 60 0 = 0 → J r u) → wM s J
section DCF
variable {c : Nat} {s : dk_S}
theorem dz_livingShare (h : dq_I c s) : dz_CF c (fun r => vf_n64 (FP.f2d r) ∧ FP.dcmp (FP.f2d r) (FP.f2d r) = some .eq) wf_X8_livingShare wf_X9_livingShare FP.fconst0 "java/lang/ArithmeticException" s := by
  have hI := h
  obtain ⟨n, t, l, m, r, st, T, W0, A, D, B, sp, P, Kf, Mf⟩ := h
  obtain ⟨Rs, Is⟩ := dz_shR P Mf
  have h8 := Is.h8
  have h1 := Is.h1
  obtain ⟨j, hj⟩ : ∃ j, n = j + 1 := ⟨n - 1, by omega⟩
  have en : ∀ p, dq_WR (dq_shw n t m st T W0 D) (s p) → s p 13 9 - 1 = nI j := fun p H => by
    rw [(H.1 13 9 (by decide) (by decide)).trans Is.hn, hj, nI_pred]
  have epred : nI n - 1 = nI j := by rw [hj, nI_pred]
  have hlc := dq_lc_le (w := dq_shw n t m st T W0 D) (lo := 1) n
  by_cases hn : n = 1
  · refine Or.inl ⟨fun K X k => ?_, fun J k => km_livingShare Rs Is (fun _ => k _ hI.F mx_F_0) (fun g => absurd hn g)⟩
    unfold wf_X8_livingShare
    have hj0 : j = 0 := by omega
    refine ⟨fun g => nm_r (en 1 (dz_sh1 Kf g)) ⟨fun q => ?_, fun _ => k⟩, fun g => nm_r (en 2 (dz_sh2 Kf g)) ⟨fun q => ?_, fun _ => k⟩⟩ <;> rw [hj0] at q <;> exact absurd q (by decide)
  · have fin : vf_n32 (FP.fdiv (FP.i2f (nI (dq_lc (dq_shw n t m st T W0 D) 1 n))) (FP.i2f (nI j))) := fd_f (by omega) (by omega) (by omega)
    refine Or.inr ⟨FP.fdiv (FP.i2f (nI (dq_lc (dq_shw n t m st T W0 D) 1 n))) (FP.i2f (nI j)), ⟨fd_w (by omega) (by omega) (by omega), fd_q (by omega) (by omega) (by omega)⟩, fun K X k => ?_, fun J k => km_livingShare Rs Is (fun g => absurd g hn) (fun _ => ?_)⟩
    · unfold wf_X8_livingShare
      have hpos : (0 : Int32) < nI j := nI_lt (a := 0) (by omega) (by omega)
      exact ⟨fun g => nm_r (en 1 (dz_sh1 Kf g)) ⟨fun _ => kw_living (lo := 1) h1 (dz_sh1 Kf g) Is ⟨fin, k⟩, fun q => absurd hpos q⟩, fun g => nm_r (en 2 (dz_sh2 Kf g)) ⟨fun _ => kw_living (lo := 1) h1 (dz_sh2 Kf g) Is ⟨fin, k⟩, fun q => absurd hpos q⟩⟩
    · rw [epred]
      exact ⟨fin, k _ hI.F.up mx_F_0⟩
theorem dz_meanHealth (h : dq_I c s) : dz_CF c (fun r => FP.dcmp r r = some .eq) wf_X8_meanHealth wf_X9_meanHealth FP.dconst0 "java/lang/ArithmeticException" s := by
  have hI := h
  obtain ⟨n, t, l, m, r, st, T, W0, A, D, B, sp, P, Kf, Mf⟩ := h
  obtain ⟨Rs, Is⟩ := dz_shR P Mf
  have h8 := Is.h8
  have HH : dq_HH (dq_shw n t m st T W0 D) := by
    unfold dq_shw
    by_cases g : st = 110
    · rw [dq_if_t g]; exact P.1.hh
    · rw [dq_if_f g]
      have RP := (P.2.2.2 g).1
      have H0 := RP.hh m (Nat.le_refl _)
      unfold dq_nw
      by_cases g2 : dq_lv (dq_ch n t W0 D m) 0
      · rw [dq_if_t g2]; exact H0
      · rw [dq_if_f g2]; exact H0.cg fun q hq => funext fun k => dq_mv_o (Or.inl (by omega))
  have hlc := dq_lc_le (w := dq_shw n t m st T W0 D) (lo := 0) n
  have hlh := dq_lh_le HH n h8
  by_cases hn : dq_lc (dq_shw n t m st T W0 D) 0 n = 0
  · refine Or.inl ⟨fun K X k => ?_, fun J k => km_meanHealth Rs Is (fun _ => k _ hI.F mx_F_0) (fun g => absurd hn g)⟩
    unfold wf_X8_meanHealth
    refine ⟨fun g => kw_living (lo := 0) (Nat.zero_le _) (dz_sh1 Kf g) Is ⟨fun q => ?_, fun _ => k⟩, fun g => kw_living (lo := 0) (Nat.zero_le _) (dz_sh2 Kf g) Is ⟨fun q => ?_, fun _ => k⟩⟩ <;> rw [hn] at q <;> exact absurd q (by decide)
  · have fin : vf_n64 (FP.ddiv (FP.i2d (nI (dq_lh (dq_shw n t m st T W0 D) n))) (FP.i2d (nI (dq_lc (dq_shw n t m st T W0 D) 0 n)))) := fd_d (by omega) (by omega) (by omega)
    have hpos : (0 : Int32) < nI (dq_lc (dq_shw n t m st T W0 D) 0 n) := nI_lt (a := 0) (by omega) (by omega)
    refine Or.inr ⟨FP.ddiv (FP.i2d (nI (dq_lh (dq_shw n t m st T W0 D) n))) (FP.i2d (nI (dq_lc (dq_shw n t m st T W0 D) 0 n))), fd_r (by omega) (by omega) (by omega), fun K X k => ?_, fun J k => km_meanHealth Rs Is (fun g => absurd g hn) (fun _ => ⟨fin, k _ hI.F.up mx_F_0⟩)⟩
    unfold wf_X8_meanHealth
    exact ⟨fun g => kw_living (lo := 0) (Nat.zero_le _) (dz_sh1 Kf g) Is ⟨fun _ => kw_healthOfLiving (dz_sh1 Kf g) Is ⟨fin, k⟩, fun q => absurd hpos q⟩, fun g => kw_living (lo := 0) (Nat.zero_le _) (dz_sh2 Kf g) Is ⟨fun _ => kw_healthOfLiving (dz_sh2 Kf g) Is ⟨fin, k⟩, fun q => absurd hpos q⟩⟩
end DCF
