/-! the reference: livingShare, meanHealth -/
section DMV
variable {n t l : Nat} {w : dq_W} {s : dk_S}
theorem km_livingShare {K : UInt32 → dk_S → Prop} (R : mr_R w (s 4)) (I : dq_IV n t l w) (k0 : n = 1 → K FP.fconst0 (mx_F s 1)) (kk : n ≠ 1 → vf_n32 (FP.fdiv (FP.i2f (nI (dq_lc w 1 n))) (FP.i2f (nI n - 1))) ∧ K (FP.fdiv (FP.i2f (nI (dq_lc w 1 n))) (FP.i2f (nI n - 1))) (mx_F s 0)) : wf_X9_livingShare s K := by
  unfold wf_X9_livingShare
  have h8 := I.h8
  have h1 := I.h1
  have en : s 4 60 10 = nI n := R.n10.trans I.hn
  have e0 : (0 : Int32) = nI (dq_lc w 1 1) := by rw [dq_lc_0 1 (Nat.le_refl _)]; rfl
  rw [e0]
  refine ⟨n - 1 + 1, loop_i (fun f i u => wf_X9_livingShare_4 K (fun (w1 : Int32) (s2 : dk_S) => ((¬ (s2 4 60 10) = 1 → wf_X9_livingShare_48 K w1 (nI (dq_lc w 1 1)) s2) ∧ ((s2 4 60 10) = 1 → wf_X9_livingShare_48 K w1 1 s2))) f (nI (dq_lc w 1 i)) (nI i) u) (fun i u => u = s ∧ 1 ≤ i) n ?_ ?_ (n - 1 + 1) 1 s h1 (by omega) ⟨rfl, Nat.le_refl _⟩⟩
  · rintro f u ⟨rfl, _⟩
    show wf_X9_livingShare_4 K _ (f + 1) (nI (dq_lc w 1 n)) (nI n) u
    unfold wf_X9_livingShare_4
    rw [en]
    refine br_t (nI_le (Nat.le_refl _) (by omega)) ?_
    have e1 : nI (dq_lc w 1 1) = 0 := e0.symm
    rw [e1]
    refine ⟨fun g => ?_, fun g => ?_⟩
    · have hn : n ≠ 1 := fun q => g (by rw [q]; rfl)
      unfold wf_X9_livingShare_48
      refine km_goes0 (dq_1 ?_)
      have e10 : dq_st u 4 60 0 0 4 60 10 = nI n := (mx_st_q (by decide)).trans en
      rw [e10]
      exact kk hn
    · unfold wf_X9_livingShare_48
      have hn : n = 1 := (nI_eq (b := 1) (by omega) (by decide)).1 g
      exact km_goesN (by decide) (dq_0 (k0 hn))
  · rintro f i u hi ⟨rfl, hi1⟩ next
    show wf_X9_livingShare_4 K _ (f + 1) (nI (dq_lc w 1 i)) (nI i) u
    unfold wf_X9_livingShare_4
    rw [en]
    have ec : dq_lc w 1 (i + 1) = dq_lc w 1 i + dq_if (1 ≤ i ∧ dq_lv w i) 1 0 := rfl
    have g := next u ⟨rfl, by omega⟩
    rw [ec] at g
    refine br_f (nI_ge hi (by omega)) (km_lives R (by omega) (fun hl => dq_1 ?_) (fun hl => dq_0 ?_))
    · rw [dq_if_t ⟨hi1, hl⟩] at g
      exact nm_r (nI_1 _) (nm_r (nI_1 i) g)
    · rw [dq_if_f (fun q => hl q.2)] at g
      exact nm_r (nI_add _ 0) (nm_r (nI_1 i) g)
end DMV
