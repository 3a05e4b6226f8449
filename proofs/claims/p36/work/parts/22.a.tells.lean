/-! what the law tells: a told world that depends on the script alone -/
theorem dl_and (a b : Nat) : nI a &&& nI b = nI (a &&& b) := by
  apply Int32.toBitVec_inj.1
  show BitVec.ofNat 32 a &&& BitVec.ofNat 32 b = BitVec.ofNat 32 (a &&& b)
  apply BitVec.eq_of_getLsbD_eq
  intro i hi
  simp [hi]
theorem dl_msk (x : Int32) : ∃ k, k < 2 ^ 31 ∧ x &&& 2147483647 = nI k := by
  have e : x = nI x.toBitVec.toNat := by
    apply Int32.toBitVec_inj.1
    show x.toBitVec = BitVec.ofNat 32 x.toBitVec.toNat
    simp
  refine ⟨x.toBitVec.toNat % 2 ^ 31, Nat.mod_lt _ (by omega), ?_⟩
  have : (2147483647 : Int32) = nI (2 ^ 31 - 1) := rfl
  rw [this]
  conv => lhs; rw [e]
  rw [dl_and, Nat.and_two_pow_sub_one_eq_mod]
theorem dl_lo_in (v : Int32) {N : Nat} (h1 : 1 ≤ N) (h2 : N < 2 ^ 31) : ∃ j, j < N ∧ dl_lo v (nI N) = nI j := by
  obtain ⟨k, hk, e⟩ := dl_msk v
  refine ⟨k % N, Nat.mod_lt _ (by omega), ?_⟩
  unfold dl_lo
  rw [e, pk_div hk (by omega) h2, pk_mul, pk_sub (Nat.div_mul_le_self k N)]
  congr 1
  have := Nat.div_add_mod k N
  rw [Nat.mul_comm] at this
  omega
theorem dl_mod {j d : Nat} (hj : j < 2 ^ 31) (h0 : 0 < d) (hd : d < 2 ^ 31) : nI j - nI j / nI d * nI d = nI (j % d) := by
  rw [pk_div hj h0 hd, pk_mul, pk_sub (Nat.div_mul_le_self j d)]
  congr 1
  have := Nat.div_add_mod j d
  rw [Nat.mul_comm] at this
  omega
theorem dl_add (a b : Nat) : nI a + nI b = nI (a + b) := (Int32.ofNat_add a b).symm
theorem dl_in {a lo hi : Nat} (h1 : lo ≤ a) (h2 : a ≤ hi) (h3 : hi < 2 ^ 31) : mr_in (nI a) (nI lo) (nI hi) := ⟨nI_nlt h1 (by omega), nI_nlt h2 h3⟩
theorem dl_vp {j n : Nat} (h : j < n) (hn : n < 2 ^ 31) : vp_in (nI j) n := vp_in_nI h hn
theorem dl_ch_sgn : ∀ j, j < 21 → dq_sgn (dl_ch 2 (nI j)) := by
  intro j hj
  have h : ∀ j, j < 21 → (dl_ch 2 (nI j) = 35 ∨ dl_ch 2 (nI j) = 46 ∨ dl_ch 2 (nI j) = 126 ∨ dl_ch 2 (nI j) = 43 ∨ dl_ch 2 (nI j) = 47 ∨ dl_ch 2 (nI j) = 48 ∨ dl_ch 2 (nI j) = 49 ∨ dl_ch 2 (nI j) = 50) := by decide +kernel
  exact h j hj
theorem dl_ch_eff : ∀ j, j < 5 → dq_eff (dl_ch 1 (nI j)) := by
  intro j hj
  refine tx_eff.1 ?_
  have h : ∀ j, j < 5 → dl_ch 1 (nI j) ∈ dk_txB.getD 1 [] := by decide +kernel
  exact h j hj
/-! cells -/
def dl_z (G : dk_G) (i : Nat) : Int32 := if i = 0 then 46 else dl_ch 2 (dl_lo ((dl_cl G (nI i / 4)) >>> ((7 * (nI i - nI i / 4 * 4)) &&& 31)) 21)
def dl_T1 (G : dk_G) (T : dq_W) : Nat → dq_W
  | 0 => T
  | i + 1 => dq_set (dl_T1 G T i) 2 (12 * (i % 6) + i / 6) (dl_z G i)
/-! kinds -/
def dl_v2 (G : dk_G) (i : Nat) : Int32 := dl_cl G (10 + nI i)
def dl_T2 (G : dk_G) (T : dq_W) : Nat → dq_W
  | 0 => T
  | i + 1 => if 3 ≤ i ∧ i < 6 then ax_effect i (dl_ch 1 (dl_lo (dl_v2 G i >>> (6 &&& 31)) 5)) ((1 : Int32) + (dl_lo (dl_v2 G i >>> (9 &&& 31)) 20)) (dl_lo (dl_v2 G i >>> (14 &&& 31)) 4) (ax_kind i (dl_lo (dl_v2 G i) 10) (if dl_lo (dl_v2 G i >>> (4 &&& 31)) 2 = 0 then 1 else 0) (dl_T2 G T i)) else ax_kind i (dl_lo (dl_v2 G i) 10) (if dl_lo (dl_v2 G i >>> (4 &&& 31)) 2 = 0 then 1 else 0) (dl_T2 G T i)
/-! beasts -/
def dl_v4 (G : dk_G) (b : Nat) : Int32 := dl_cl G (20 + nI b)
def dl_T4 (G : dk_G) (T : dq_W) : Nat → dq_W
  | 0 => T
  | b + 1 => ax_beast (b + 1) (nI (12 * (dl_lo (dl_v4 G b) 6).toNatClampNeg + (dl_lo (dl_v4 G b >>> (3 &&& 31)) 6).toNatClampNeg)) ((1 : Int32) + (dl_lo (dl_v4 G b >>> (6 &&& 31)) 24)) (dl_lo (dl_v4 G b >>> (11 &&& 31)) 5) ((1 : Int32) + (dl_lo (dl_v4 G b >>> (14 &&& 31)) 30)) (dl_T4 G T b)
/-! things -/
def dl_v5 (G : dk_G) (i : Nat) : Int32 := dl_cl G (24 + nI i)
def dl_kd (G : dk_G) (i : Nat) : Nat := if i < 2 then 6 else (dl_lo (dl_v5 G i >>> (2 &&& 31)) 8).toNatClampNeg
def dl_pv (G : dk_G) (i : Nat) : Int32 := if 2 < i ∧ dl_lo (dl_v5 G i) 4 = 0 then (-3 : Int32) - dl_lo (dl_v5 G i >>> (9 &&& 31)) 2 else nI (12 * (dl_lo (dl_v5 G i >>> (5 &&& 31)) 3).toNatClampNeg + (dl_lo (dl_v5 G i >>> (7 &&& 31)) 2).toNatClampNeg)
def dl_T5 (G : dk_G) (T : dq_W) : Nat → dq_W
  | 0 => T
  | i + 1 => ax_thing i (nI (dl_kd G i)) (dl_pv G i) (dl_T5 G T i)
section DLT
variable {G : dk_G} {n t l : Nat} {T : dq_W} {s : dk_S} {K : dk_S → Prop} {X : String → dk_S → Prop}
theorem dl_z_sgn (i : Nat) : dq_sgn (dl_z G i) := by
  unfold dl_z
  by_cases g : i = 0
  · rw [if_pos g]; exact Or.inr (Or.inl rfl)
  · rw [if_neg g]
    obtain ⟨j, hj, e⟩ := dl_lo_in (dl_cl G (nI i / 4) >>> (7 * (nI i - nI i / 4 * 4) &&& 31)) (N := 21) (by decide) (by decide)
    rw [show (21 : Int32) = nI 21 from rfl, e]
    exact dl_ch_sgn j hj
theorem dl_T1_W (h : dq_TW n t l T) : ∀ i, dq_TW n t l (dl_T1 G T i)
  | 0 => h
  | i + 1 => (dl_T1_W h i).dig (dl_z_sgn i)
theorem dl_tells_2 {E : dk_S → Prop} (h : dq_TW n t l T) (S : dp_S T s) (k : ∀ u, dp_S (dl_T1 G T 36) u → E u) : ∃ nn, wf_L_tells_2 G K X E nn 0 s := by
  refine loop_0 (fun m i u => wf_L_tells_2 G K X E m (nI i) u) (fun i u => dp_S (dl_T1 G T i) u) 36 s S ?_ ?_
  · intro m u Su
    show wf_L_tells_2 G K X E (m + 1) (nI 36) u
    unfold wf_L_tells_2
    exact br_t (by decide) (k u Su)
  · intro m i u hi Su next
    show wf_L_tells_2 G K X E (m + 1) (nI i) u
    unfold wf_L_tells_2
    have e4 : nI i / 4 = nI (i / 4) := pk_div (d := 4) (by omega) (by decide) (by decide)
    have e6 : nI i / 6 = nI (i / 6) := pk_div (d := 6) (by omega) (by decide) (by decide)
    have m6 : nI i - nI i / 6 * 6 = nI (i % 6) := dl_mod (d := 6) (by omega) (by decide) (by decide)
    have dig : ∀ z, z = dl_z G i → wf_X8_dig (nI i - nI i / 6 * 6) (nI i / 6) z u (fun r106 s105 => ∀ v107 : Int32, v107 = nI i + 1 → wf_L_tells_2 G K X E m v107 s105) X := fun z ez => by
      rw [m6, e6, ez]
      exact dp_dig (by omega) (by omega) (dl_z_sgn i) (dl_T1_W h i) Su (fun _ v Sv => nm_r (nI_1 i) (next v Sv))
    refine br_f (nI_ge (b := 36) hi (by omega)) ⟨by rw [e4]; exact nI_pos (by omega), nm_e ⟨fun c => ⟨?_, ?_⟩, fun c => ?_⟩⟩
    · obtain ⟨j, hj, e⟩ := dl_lo_in (dl_cl G (nI i / 4) >>> (7 * (nI i - nI i / 4 * 4) &&& 31)) (N := 21) (by decide) (by decide)
      rw [show (21 : Int32) = nI 21 from rfl, e]
      exact dl_vp hj (by decide)
    · refine dig _ ?_
      unfold dl_z
      rw [if_neg (fun q => c (by rw [q]; rfl))]
    · refine dig _ ?_
      unfold dl_z
      rw [if_pos ((nI_eq (b := 0) (by omega) (by decide)).1 c)]
theorem dl_kw (v : Int32) : (if dl_lo (v >>> (4 &&& 31)) 2 = 0 then (1 : Int32) else 0) = 0 ∨ (if dl_lo (v >>> (4 &&& 31)) 2 = 0 then (1 : Int32) else 0) = 1 := by
  by_cases g : dl_lo (v >>> (4 &&& 31)) 2 = 0
  · rw [if_pos g]; exact Or.inr rfl
  · rw [if_neg g]; exact Or.inl rfl
theorem dl_lo_R (v : Int32) {N a : Nat} (h1 : 1 ≤ N) (h2 : N < 1000) (ha : a < 1000) : mr_in (nI a + dl_lo v (nI N)) (nI a) (nI (a + N - 1)) := by
  obtain ⟨j, hj, e⟩ := dl_lo_in v h1 (by omega)
  rw [e, dl_add]
  exact dl_in (by omega) (by omega) (by omega)
theorem dl_lo_R0 (v : Int32) {N : Nat} (h1 : 1 ≤ N) (h2 : N < 1000) : mr_in (dl_lo v (nI N)) 0 (nI (N - 1)) := by
  obtain ⟨j, hj, e⟩ := dl_lo_in v h1 (by omega)
  rw [e]
  exact dl_in (lo := 0) (by omega) (by omega) (by omega)
theorem dl_eff (G : dk_G) (i : Nat) : dq_eff (dl_ch 1 (dl_lo (dl_v2 G i >>> (6 &&& 31)) 5)) := by
  obtain ⟨j, hj, e⟩ := dl_lo_in (dl_v2 G i >>> (6 &&& 31)) (N := 5) (by decide) (by decide)
  rw [show (5 : Int32) = nI 5 from rfl, e]
  exact dl_ch_eff j hj
theorem dl_T2_W (h : dq_TW n t l T) : ∀ i, dq_TW n t l (dl_T2 G T i)
  | 0 => h
  | i + 1 => by
    have ih := dl_T2_W h i
    have h1 : dq_TW n t l (ax_kind i (dl_lo (dl_v2 G i) 10) (if dl_lo (dl_v2 G i >>> (4 &&& 31)) 2 = 0 then 1 else 0) (dl_T2 G T i)) := ih.kind (dl_lo_R0 _ (N := 10) (by decide) (by decide)) (dl_kw _)
    show dq_TW n t l (if 3 ≤ i ∧ i < 6 then _ else _)
    by_cases g : 3 ≤ i ∧ i < 6
    · rw [if_pos g]; exact h1.effect (dl_eff G i) (dl_lo_R _ (N := 20) (a := 1) (by decide) (by decide) (by decide))
    · rw [if_neg g]; exact h1
theorem dl_tells_65 {E : dk_S → Prop} (h : dq_TW n t l T) (S : dp_S T s) (k : ∀ u, dp_S (dl_T2 G T 8) u → E u) : ∃ nn, wf_L_tells_65 G K X E nn 0 s := by
  refine loop_0 (fun m i u => wf_L_tells_65 G K X E m (nI i) u) (fun i u => dp_S (dl_T2 G T i) u) 8 s S ?_ ?_
  · intro m u Su
    show wf_L_tells_65 G K X E (m + 1) (nI 8) u
    unfold wf_L_tells_65
    exact br_t (by decide) (k u Su)
  · intro m i u hi Su next
    show wf_L_tells_65 G K X E (m + 1) (nI i) u
    unfold wf_L_tells_65
    have ih := dl_T2_W (G := G) h i
    have t103 : ∀ y, y = (if dl_lo (dl_v2 G i >>> (4 &&& 31)) 2 = 0 then (1 : Int32) else 0) → wf_L_tells_103 G K X (wf_L_tells_65 G K X E m) E (nI i) (dl_v2 G i) y (dl_lo (dl_v2 G i) 10) (nI i) u := fun y ey => by
      unfold wf_L_tells_103
      have hy : mr_in (dl_lo (dl_v2 G i) 10) 0 9 := dl_lo_R0 _ (N := 10) (by decide) (by decide)
      refine dp_setKind hi hy (by rw [ey]; exact dl_kw _) Su (fun _ v Sv => ?_)
      have done : ¬ (3 ≤ i ∧ i < 6) → ∀ v120 : Int32, v120 = nI i + 1 → wf_L_tells_65 G K X E m v120 v := fun g => nm_r (nI_1 i) (next v (by
        show dp_S (if 3 ≤ i ∧ i < 6 then _ else _) v
        rw [if_neg g, ← ey]; exact Sv))
      refine ⟨fun c => done fun g => ?_, fun c => ⟨fun c2 => done fun g => ?_, fun c2 => ⟨?_, ?_⟩⟩⟩
      · have : nI i ≤ nI 2 := c
        rw [← mr_lt_le, nI_ltI (by decide) (by omega)] at this
        omega
      · have : nI 6 ≤ nI i := c2
        rw [← mr_lt_le, nI_ltI (by omega) (by decide)] at this
        omega
      · obtain ⟨j, hj, e⟩ := dl_lo_in (dl_v2 G i >>> (6 &&& 31)) (N := 5) (by decide) (by decide)
        rw [show (5 : Int32) = nI 5 from rfl, e]
        exact dl_vp hj (by decide)
      · have c : ¬ nI i ≤ nI 2 := c
        have c2 : ¬ nI 6 ≤ nI i := c2
        rw [← mr_lt_le, nI_ltI (by decide) (by omega)] at c
        rw [← mr_lt_le, nI_ltI (by omega) (by decide)] at c2
        have g : 3 ≤ i ∧ i < 6 := by omega
        have P1 : dq_TW n t l (ax_kind i (dl_lo (dl_v2 G i) 10) y (dl_T2 G T i)) := ih.kind hy (by rw [ey]; exact dl_kw _)
        refine dp_setEffect g.1 (by omega) (dl_eff G i) (dl_lo_R _ (N := 20) (a := 1) (by decide) (by decide) (by decide)) (dl_lo_R0 _ (N := 4) (by decide) (by decide)) P1 Sv (fun _ w Sw => nm_r (nI_1 i) (next w ?_))
        show dp_S (if 3 ≤ i ∧ i < 6 then _ else _) w
        rw [if_pos g, ← ey]; exact Sw
    refine br_f (nI_ge (b := 8) hi (by omega)) ⟨?_, nm_e ⟨fun c => t103 0 (if_neg c).symm, fun c => t103 1 (if_pos c).symm⟩⟩
    rw [show (10 : Int32) = nI 10 from rfl, dl_add]
    exact nI_pos (by omega)
end DLT
