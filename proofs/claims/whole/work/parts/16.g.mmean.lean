/-! the reference: meanHealth -/
section DMM
variable {n t l : Nat} {w : dq_W} {s : dk_S}
theorem km_meanHealth {K : UInt64 → dk_S → Prop} (R : mr_R w (s 4)) (I : dq_IV n t l w) (k0 : dq_lc w 0 n = 0 → K FP.dconst0 (mx_F s 1)) (kk : dq_lc w 0 n ≠ 0 → vf_n64 (FP.ddiv (FP.i2d (nI (dq_lh w n))) (FP.i2d (nI (dq_lc w 0 n)))) ∧ K (FP.ddiv (FP.i2d (nI (dq_lh w n))) (FP.i2d (nI (dq_lc w 0 n)))) (mx_F s 0)) : wf_X9_meanHealth s K := by
  unfold wf_X9_meanHealth
  have h8 := I.h8
  have hlc := dq_lc_le (w := w) (lo := 0) n
  have en : s 4 60 10 = nI n := R.n10.trans I.hn
  refine loop_0 (fun f i u => wf_X9_meanHealth_6 K (fun (w1 : Int32) (w2 : Int32) (s3 : dk_S) => ((¬ w2 = 0 → wf_X9_meanHealth_67 K w1 w2 0 s3) ∧ (w2 = 0 → wf_X9_meanHealth_67 K w1 w2 1 s3))) f (nI (dq_lh w i)) (nI (dq_lc w 0 i)) (nI i) u) (fun i u => u = s) n s rfl ?_ ?_
  · rintro f u rfl
    show wf_X9_meanHealth_6 K _ (f + 1) (nI (dq_lh w n)) (nI (dq_lc w 0 n)) (nI n) u
    unfold wf_X9_meanHealth_6
    rw [en]
    refine br_t (nI_le (Nat.le_refl _) (by omega)) ⟨fun g => ?_, fun g => ?_⟩
    · unfold wf_X9_meanHealth_67
      exact km_goes0 (dq_1 (kk fun q => g (by rw [q]; rfl)))
    · unfold wf_X9_meanHealth_67
      exact km_goesN (by decide) (dq_0 (k0 ((nI_eq (b := 0) (by omega) (by decide)).1 g)))
  · rintro f i u hi rfl next
    show wf_X9_meanHealth_6 K _ (f + 1) (nI (dq_lh w i)) (nI (dq_lc w 0 i)) (nI i) u
    unfold wf_X9_meanHealth_6
    rw [en]
    have ec : dq_lc w 0 (i + 1) = dq_lc w 0 i + dq_if (0 ≤ i ∧ dq_lv w i) 1 0 := rfl
    have eh : dq_lh w (i + 1) = dq_lh w i + dq_if (dq_lv w i) (w 18 i).toInt.toNat 0 := rfl
    have g := next u rfl
    rw [ec, eh] at g
    refine br_f (nI_ge hi (by omega)) (km_lives R (by omega) (fun hl => dq_1 ⟨vp_in_nI (show i < 8 by omega) (by decide), ?_⟩) (fun hl => dq_0 ?_))
    · have e77 : u 4 77 (nI i).toNatClampNeg = nI (w 18 i).toInt.toNat := by
        rw [nI_clamp (by omega), R.r77 (by omega), ← dq_lh_pos]
        refine (if_pos ?_).symm
        unfold dq_lv at hl
        rw [Int32.le_iff_toInt_le] at hl
        rw [Int32.lt_iff_toInt_lt]
        omega
      rw [e77]
      unfold wf_X9_meanHealth_33
      rw [dq_if_t hl, dq_if_t (show 0 ≤ i ∧ dq_lv w i from ⟨Nat.zero_le _, hl⟩)] at g
      exact nm_r (nI_add _ _) (km_lives R (by omega) (fun _ => dq_1 (nm_r (nI_1 _) (nm_r (nI_1 i) g))) (fun q => absurd hl q))
    · unfold wf_X9_meanHealth_33
      rw [dq_if_f hl, dq_if_f (show ¬ (0 ≤ i ∧ dq_lv w i) from fun q => hl q.2)] at g
      exact nm_r (nI_add _ 0) (km_lives R (by omega) (fun q => absurd q hl) (fun _ => dq_0 (nm_r (nI_add _ 0) (nm_r (nI_1 i) g))))
end DMM
