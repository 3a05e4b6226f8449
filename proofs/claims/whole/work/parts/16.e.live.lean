/-! how many live, and their health -/
noncomputable def dq_lc (w : dq_W) (lo : Nat) : Nat → Nat
  | 0 => 0
  | i + 1 => dq_lc w lo i + dq_if (lo ≤ i ∧ dq_lv w i) 1 0
noncomputable def dq_lh (w : dq_W) : Nat → Nat
  | 0 => 0
  | i + 1 => dq_lh w i + dq_if (dq_lv w i) (w 18 i).toInt.toNat 0
section DLV
variable {p n t l : Nat} {w : dq_W} {s : dk_S} {K : Int32 → dk_S → Prop}
theorem dq_lc_le {lo : Nat} : ∀ i, dq_lc w lo i ≤ i
  | 0 => Nat.le_refl _
  | i + 1 => by
    have ih := dq_lc_le (lo := lo) i
    show dq_lc w lo i + dq_if (lo ≤ i ∧ dq_lv w i) 1 0 ≤ i + 1
    by_cases g : lo ≤ i ∧ dq_lv w i
    · rw [dq_if_t g]; omega
    · rw [dq_if_f g]; omega
theorem dq_lc_0 {lo : Nat} : ∀ i, i ≤ lo → dq_lc w lo i = 0
  | 0, _ => rfl
  | i + 1, h => by
    show dq_lc w lo i + dq_if (lo ≤ i ∧ dq_lv w i) 1 0 = 0
    rw [dq_lc_0 i (by omega), dq_if_f (by omega)]
theorem dq_lh_le (H : dq_HH w) : ∀ i, i ≤ 8 → dq_lh w i ≤ 99 * i
  | 0, _ => Nat.le_refl _
  | i + 1, h => by
    have ih := dq_lh_le H i (by omega)
    show dq_lh w i + dq_if (dq_lv w i) (w 18 i).toInt.toNat 0 ≤ 99 * (i + 1)
    have := (H.1 i (by omega)).2
    by_cases g : dq_lv w i
    · rw [dq_if_t g]; omega
    · rw [dq_if_f g]; omega
theorem kw_living {lo : Nat} (hlo : lo ≤ n) (H : dq_WR w (s p)) (I : dq_IV n t l w) (k : K (nI (dq_lc w lo n)) s) : wf_X2_living p (nI lo) s K := by
  unfold wf_X2_living
  have h8 := I.h8
  have en : s p 13 9 = nI n := (H.1 13 9 (by decide) (by decide)).trans I.hn
  have e0 : (0 : Int32) = nI (dq_lc w lo lo) := by rw [dq_lc_0 lo (Nat.le_refl _)]; rfl
  rw [e0]
  refine ⟨n - lo + 1, loop_i (fun f i u => wf_X2_living_4 p K f (nI (dq_lc w lo i)) (nI i) u) (fun i u => u = s ∧ lo ≤ i) n ?_ ?_ (n - lo + 1) lo s hlo (by omega) ⟨rfl, Nat.le_refl _⟩⟩
  · rintro f u ⟨rfl, _⟩
    show wf_X2_living_4 p K (f + 1) (nI (dq_lc w lo n)) (nI n) u
    unfold wf_X2_living_4
    rw [en]
    exact br_t (nI_le (Nat.le_refl _) (by omega)) k
  · rintro f i u hi ⟨rfl, hlo2⟩ next
    show wf_X2_living_4 p K (f + 1) (nI (dq_lc w lo i)) (nI i) u
    unfold wf_X2_living_4
    rw [en]
    have ec : dq_lc w lo (i + 1) = dq_lc w lo i + dq_if (lo ≤ i ∧ dq_lv w i) 1 0 := rfl
    have g := next u ⟨rfl, by omega⟩
    rw [ec] at g
    refine br_f (nI_ge hi (by omega)) (kw_lives H (by omega) (fun hl => dq_1 ?_) (fun hl => dq_0 ?_))
    · rw [dq_if_t ⟨hlo2, hl⟩] at g
      exact nm_r (nI_1 _) (nm_r (nI_1 i) g)
    · rw [dq_if_f (fun q => hl q.2)] at g
      exact nm_r (nI_1 i) g
theorem dq_lh_pos {x : Int32} : (if (0 : Int32) < x then x else 0) = nI x.toInt.toNat := by
  by_cases g : (0 : Int32) < x
  · rw [if_pos g]
    rw [Int32.lt_iff_toInt_lt] at g
    have h0 : (0 : Int32).toInt = 0 := rfl
    rw [dq_iN, show ((x.toInt.toNat : Nat) : Int) = x.toInt by omega]
    exact dq_of_int rfl
  · rw [if_neg g]
    rw [Int32.lt_iff_toInt_lt] at g
    have h0 : (0 : Int32).toInt = 0 := rfl
    rw [show x.toInt.toNat = 0 by omega]; rfl
theorem kw_healthOfLiving (H : dq_WR w (s p)) (I : dq_IV n t l w) (k : K (nI (dq_lh w n)) s) : wf_X2_healthOfLiving p s K := by
  unfold wf_X2_healthOfLiving
  have h8 := I.h8
  have en : s p 13 9 = nI n := (H.1 13 9 (by decide) (by decide)).trans I.hn
  refine dq_lp (fun m i x => wf_X2_healthOfLiving_4 p K m x (nI i) s) (fun i => nI (dq_lh w i)) n (fun m => ?_) (fun m i hi g => ?_) (Nat.zero_le _)
  · show wf_X2_healthOfLiving_4 p K (m + 1) (nI (dq_lh w n)) (nI n) s
    unfold wf_X2_healthOfLiving_4
    rw [en]
    exact br_t (nI_le (Nat.le_refl _) (by omega)) k
  · have g : wf_X2_healthOfLiving_4 p K m (nI (dq_lh w (i + 1))) (nI (i + 1)) s := g
    show wf_X2_healthOfLiving_4 p K (m + 1) (nI (dq_lh w i)) (nI i) s
    unfold wf_X2_healthOfLiving_4
    rw [en]
    refine br_f (nI_ge hi (by omega)) (kw_at8 H (by omega) (by decide) ?_)
    have e1 : nI (dq_lh w i) + (if (0 : Int32) < w 18 i then w 18 i else 0) = nI (dq_lh w (i + 1)) := by
      rw [dq_lh_pos, nI_add]
      show nI (dq_lh w i + (w 18 i).toInt.toNat) = nI (dq_lh w i + dq_if (dq_lv w i) (w 18 i).toInt.toNat 0)
      by_cases c : dq_lv w i
      · rw [dq_if_t c]
      · rw [dq_if_f c]
        unfold dq_lv at c
        have c2 : w 18 i ≤ 0 := Classical.byContradiction fun q => c q
        rw [Int32.le_iff_toInt_le] at c2
        have h0 : (0 : Int32).toInt = 0 := rfl
        rw [show (w 18 i).toInt.toNat = 0 by omega]
    exact nm_r e1 (nm_r (nI_1 i) g)
end DLV
