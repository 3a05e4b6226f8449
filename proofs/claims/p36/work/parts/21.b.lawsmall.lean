/-! charAt on a text; cell and low of the law -/
def dl_cl (G : dk_G) (a : Int32) : Int32 := if Int32.ofNat (dk_tN G) ≤ a then 40503 * a + 3911 else dk_tX G a.toNatClampNeg
def dl_lo (v n : Int32) : Int32 := (v &&& 2147483647) - (v &&& 2147483647) / n * n
def dl_ch (q : Nat) (i : Int32) : Int32 := (dk_txB.getD q []).getD i.toNatClampNeg 0
theorem dl_ch_ok : ∀ q, q < 3 → ∀ j, j < dk_txL.getD q 0 → (((dk_txB.getD q []).getD j 0 &&& 255).toUInt32 % 65536).toInt32 = (dk_txB.getD q []).getD j 0 ∧ narrow .char (.int ((dk_txB.getD q []).getD j 0)) = .int ((dk_txB.getD q []).getD j 0) := by decide +kernel
theorem dl_len : ∀ q, q < 3 → dk_txL.getD q 0 ≤ 21 := by decide
section DLA
variable {G : dk_G} {l : Launch} {s : dk_S} {K : Int32 → dk_S → Prop} {J : dk_S → Prop} {q : Nat}
theorem dk_gfm {p : Program} {e : Env} {R : Room} {s0 : State} {m : MethodId} {args : Array Value} {below : List Frame} {meth : Method} {c : Code} {cells slots : Nat} {Q : State → Prop} {cc : ByteArray} {nL : Nat} {own : String} {pc n : Nat} {L : List (Option Value)} {st : List Value} {σ : dk_S}
    (C : dk_C G p R s0 m args c cells slots cc nL own) {i : Nat} (hl : Cond.fieldLink own i "jdk/internal/util/Preconditions" "SIOOBE_FORMATTER" "Ljava/util/function/BiFunction;" ∈ dk_ws) (d : decode cc pc = .ok (.getstatic i, 3)) (hn : pc + 3 = n)
    (k : ∀ v : Value, (v = .null ∨ ∃ t, v = .ref t) → dk_W G p l e R s0 m args below meth c cells slots Q n L (v :: st) σ) : dk_W G p l e R s0 m args below meth c cells slots Q pc L st σ := fun H locs ls hL hP hS => by
  subst hn
  rcases C.2.2.2.2.2.2.2.1.2.2.1 with h | ⟨t, h⟩
  · exact va_gets C.1 C.2.1 h hS C.2.2.2.1 (C.2.2.2.2.1 _ hl) (fun _ h => h) d (k _ (Or.inl rfl) H locs ls hL hP hS)
  · exact va_gets C.1 C.2.1 h hS C.2.2.2.1 (C.2.2.2.2.1 _ hl) (fun _ h => h) d (k _ (Or.inr ⟨t, rfl⟩) H locs ls hL hP hS)
theorem cc_J3_checkIndex {i n : Int32} {v : Value} (hv : v = .null ∨ ∃ t, v = .ref t) (hD : dk_D G) (h0 : ¬ i < 0) (h1 : i < n) (h : K i s) : dk_M G l 1 yJ3_checkIndex_8e157 cJ3_checkIndex_8e157 3 (some .int) [.int i, .int n, v] s (dk_ki K) := by
  rcases hv with rfl | ⟨t, rfl⟩
  · refine dk_of hD (by decide) [some (.int i), some (.int n), some .null] (fun q hq => hq) rfl (Nat.le_of_ble_eq_true rfl) (fun P e S0 m args bel meth c C hr hlk => ?_)
    refine dk_iload_n (i := 0) C dJ3_checkIndex_8e157_0 (n := 1) rfl rfl rfl ?_
    refine dk_if_lt (t := 9) C dJ3_checkIndex_8e157_1 (n := 4) rfl (by decide) (fun c1 => absurd c1 h0) (fun _ => ?_)
    refine dk_iload_n (i := 0) C dJ3_checkIndex_8e157_4 (n := 5) rfl rfl rfl ?_
    refine dk_iload_n (i := 1) C dJ3_checkIndex_8e157_5 (n := 6) rfl rfl rfl ?_
    refine dk_icmp_lt (t := 16) C dJ3_checkIndex_8e157_6 (n := 9) rfl (by decide) (fun _ => ?_) (fun c1 => absurd h1 c1)
    refine dk_iload_n (i := 0) C dJ3_checkIndex_8e157_16 (n := 17) rfl rfl rfl ?_
    exact dk_iret C hr hlk rfl dJ3_checkIndex_8e157_17 ⟨_, rfl, h⟩
  · refine dk_of hD (by decide) [some (.int i), some (.int n), some (.ref t)] (fun q hq => hq) rfl (Nat.le_of_ble_eq_true rfl) (fun P e S0 m args bel meth c C hr hlk => ?_)
    refine dk_iload_n (i := 0) C dJ3_checkIndex_8e157_0 (n := 1) rfl rfl rfl ?_
    refine dk_if_lt (t := 9) C dJ3_checkIndex_8e157_1 (n := 4) rfl (by decide) (fun c1 => absurd c1 h0) (fun _ => ?_)
    refine dk_iload_n (i := 0) C dJ3_checkIndex_8e157_4 (n := 5) rfl rfl rfl ?_
    refine dk_iload_n (i := 1) C dJ3_checkIndex_8e157_5 (n := 6) rfl rfl rfl ?_
    refine dk_icmp_lt (t := 16) C dJ3_checkIndex_8e157_6 (n := 9) rfl (by decide) (fun _ => ?_) (fun c1 => absurd h1 c1)
    refine dk_iload_n (i := 0) C dJ3_checkIndex_8e157_16 (n := 17) rfl rfl rfl ?_
    exact dk_iret C hr hlk rfl dJ3_checkIndex_8e157_17 ⟨_, rfl, h⟩
theorem cc_J0_checkIndex {i n : Int32} (hD : dk_D G) (h0 : ¬ i < 0) (h1 : i < n) (h : J s) : dk_M G l 2 yJ0_checkIndex_df160 cJ0_checkIndex_df160 2 none [.int i, .int n] s (dk_kv J) := by
  refine dk_of hD (by decide) [some (.int i), some (.int n)] (fun q hq => hq) rfl (Nat.le_of_ble_eq_true rfl) (fun P e S0 m args bel meth c C hr hlk => ?_)
  refine dk_iload_n (i := 0) C dJ0_checkIndex_df160_0 (n := 1) rfl rfl rfl ?_
  refine dk_iload_n (i := 1) C dJ0_checkIndex_df160_1 (n := 2) rfl rfl rfl ?_
  refine dk_gfm C dk_wf_J0_1053 dJ0_checkIndex_df160_2 (n := 5) rfl (fun v hv => ?_)
  refine dk_callSi C [] (cc_J3_checkIndex (K := fun r σ => r = i ∧ σ = s) hv C.D h0 h1 ⟨rfl, rfl⟩) yy_J3_checkIndex_8e157 dk_wm_J0_1059 dJ0_checkIndex_df160_5 (fun r s2 g => ?_) rfl ⟨Nat.le_of_ble_eq_true rfl, Nat.le_of_ble_eq_true rfl⟩ rfl (Nat.le_of_ble_eq_true rfl) rfl (n := 8) rfl
  rw [g.1, g.2]
  refine dk_pop C dJ0_checkIndex_df160_8 (n := 9) rfl rfl ?_
  exact dk_vret C hr hlk dJ0_checkIndex_df160_9 ⟨rfl, h⟩
theorem cc_J1_charAt {i : Int32} (hD : dk_D G) (hq : q < 3) (hi : vp_in i (dk_txL.getD q 0)) (h : K (dl_ch q i) s) : dk_M G l 3 yJ1_charAt_3b067 cJ1_charAt_3b067 2 (some .char) [.ref (dk_aV G q), .int i] s (dk_ki K) := by
  have h0 : ¬ i < 0 := fun g => hi (Or.inl g)
  obtain ⟨j, hj, rfl⟩ := nI_of h0
  have hl : j < dk_txL.getD q 0 := Nat.lt_of_not_le fun g => hi (Or.inr (by rw [nI_clamp hj]; exact g))
  have h21 := dl_len q hq
  obtain ⟨e1, e2⟩ := dl_ch_ok q hq j hl
  have ej : (nI j).toNatClampNeg = j := nI_clamp hj
  unfold dl_ch at h
  rw [ej] at h
  refine dk_of hD (by decide) [some (.ref (dk_aV G q)), some (.int (nI j))] (fun q hq => hq) rfl (Nat.le_of_ble_eq_true rfl) (fun P e S0 m args bel meth c C hr hlk => ?_)
  refine dk_iload_n (i := 1) C dJ1_charAt_3b067_0 (n := 1) rfl rfl rfl ?_
  refine dk_aload_n (i := 0) C dJ1_charAt_3b067_1 (n := 2) rfl rfl rfl ?_
  refine dk_slen C hq dJ1_charAt_3b067_2 (n := 3) rfl ?_
  refine dk_callSv C [] (cc_J0_checkIndex (J := fun σ => σ = s) C.D h0 (nI_lt hl (by omega)) rfl) yy_J0_checkIndex_df160 dk_wm_J1_9 dJ1_charAt_3b067_3 (fun s2 g => ?_) rfl ⟨Nat.le_of_ble_eq_true rfl, Nat.le_of_ble_eq_true rfl⟩ rfl (Nat.le_of_ble_eq_true rfl) rfl (n := 6) rfl
  rw [g]
  refine dk_aload_n (i := 0) C dJ1_charAt_3b067_6 (n := 7) rfl rfl rfl ?_
  refine dk_iload_n (i := 1) C dJ1_charAt_3b067_7 (n := 8) rfl rfl rfl ?_
  refine dk_sbld C hq hi dJ1_charAt_3b067_8 (n := 9) rfl ?_
  rw [ej]
  refine dk_sipush (v := 255) C dJ1_charAt_3b067_9 (n := 12) rfl (by decide) ?_
  refine dk_iand C dJ1_charAt_3b067_12 (n := 13) rfl ?_
  refine dk_i2c C dJ1_charAt_3b067_13 (n := 14) rfl e1 ?_
  exact dk_iret C hr hlk e2 dJ1_charAt_3b067_14 ⟨_, rfl, h⟩
theorem cc_J0_isLatin3 (hD : dk_D G) (hq : q < 3) (h : K 1 s) : dk_M G l 1 yJ0_isLatin1_aae02 cJ0_isLatin1_aae02 1 (some .boolean) [.ref (dk_aK G q)] s (dk_ki K) := by
  refine dk_of hD (by decide) [some (.ref (dk_aK G q))] (fun q hq => hq) rfl (Nat.le_of_ble_eq_true rfl) (fun P e S0 m args bel meth c C hr hlk => ?_)
  refine dk_gcs C dk_wf_J0_38 dJ0_isLatin1_aae02_0 (n := 3) rfl ?_
  refine dk_if_eq (t := 17) C dJ0_isLatin1_aae02_3 (n := 6) rfl (by decide) (fun c1 => absurd c1 (by decide)) (fun _ => ?_)
  refine dk_aload_n (i := 0) C dJ0_isLatin1_aae02_6 (n := 7) rfl rfl rfl ?_
  refine dk_scod C hq dk_wf_J0_15 dJ0_isLatin1_aae02_7 (n := 10) rfl ?_
  refine dk_if_ne (t := 17) C dJ0_isLatin1_aae02_10 (n := 13) rfl (by decide) (fun c1 => absurd rfl c1) (fun _ => ?_)
  refine dk_iconst (v := 1) C dJ0_isLatin1_aae02_13 (n := 14) rfl (by decide) ?_
  refine dk_goto (t := 18) C dJ0_isLatin1_aae02_14 (by decide) ?_
  exact dk_iret C hr hlk dk_nz1 dJ0_isLatin1_aae02_18 ⟨_, rfl, h⟩
theorem cc_J0_charAt {i : Int32} (hD : dk_D G) (hq : q < 3) (hi : vp_in i (dk_txL.getD q 0)) (h : K (dl_ch q i) s) : dk_M G l 4 yJ0_charAt_5068e cJ0_charAt_5068e 2 (some .char) [.ref (dk_aK G q), .int i] s (dk_ki K) := by
  refine dk_of hD (by decide) [some (.ref (dk_aK G q)), some (.int i)] (fun q hq => hq) rfl (Nat.le_of_ble_eq_true rfl) (fun P e S0 m args bel meth c C hr hlk => ?_)
  refine dk_aload_n (i := 0) C dJ0_charAt_5068e_0 (n := 1) rfl rfl rfl ?_
  refine dk_callK C [] (cc_J0_isLatin3 (K := fun r σ => r = 1 ∧ σ = s) C.D hq ⟨rfl, rfl⟩) hq rfl yy_J0_isLatin1_aae02 dk_wm_J0_492 dJ0_charAt_5068e_1 (fun r s2 g => ?_) rfl ⟨Nat.le_of_ble_eq_true rfl, Nat.le_of_ble_eq_true rfl⟩ rfl (Nat.le_of_ble_eq_true rfl) rfl (n := 4) rfl
  rw [g.1, g.2]
  refine dk_if_eq (t := 16) C dJ0_charAt_5068e_4 (n := 7) rfl (by decide) (fun c1 => absurd c1 (by decide)) (fun _ => ?_)
  refine dk_aload_n (i := 0) C dJ0_charAt_5068e_7 (n := 8) rfl rfl rfl ?_
  refine dk_sval C hq dk_wf_J0_9 dJ0_charAt_5068e_8 (n := 11) rfl ?_
  refine dk_iload_n (i := 1) C dJ0_charAt_5068e_11 (n := 12) rfl rfl rfl ?_
  refine dk_callSi C [] (cc_J1_charAt (K := fun r σ => r = dl_ch q i ∧ σ = s) C.D hq hi ⟨rfl, rfl⟩) yy_J1_charAt_3b067 dk_wm_J0_495 dJ0_charAt_5068e_12 (fun r s2 g => ?_) rfl ⟨Nat.le_of_ble_eq_true rfl, Nat.le_of_ble_eq_true rfl⟩ rfl (Nat.le_of_ble_eq_true rfl) rfl (n := 15) rfl
  rw [g.1, g.2]
  have h0 : ¬ i < 0 := fun g => hi (Or.inl g)
  obtain ⟨j, hj, ej⟩ := nI_of h0
  have hl : i.toNatClampNeg < dk_txL.getD q 0 := Nat.lt_of_not_le fun g => hi (Or.inr g)
  exact dk_iret C hr hlk (dl_ch_ok q hq _ hl).2 dJ0_charAt_5068e_15 ⟨_, rfl, h⟩
theorem cc_L_cell {a1 : Int32} (hD : dk_D G) (hN : dk_tN G ≤ 260) (h0 : ¬ a1 < 0) (h : K (dl_cl G a1) s) : dk_M G l 1 yL_cell cL_cell 2 (some .int) [.ref (dk_tL G), .int a1] s (dk_ki K) := by
  refine dk_of hD (by decide) [some (.ref (dk_tL G)), some (.int a1)] (fun q hq => hq) rfl (Nat.le_of_ble_eq_true rfl) (fun P e S0 m args bel meth c C hr hlk => ?_)
  refine dk_iload_n (i := 1) C dL_cell_0 (n := 1) rfl rfl rfl ?_
  refine dk_aload_n (i := 0) C dL_cell_1 (n := 2) rfl rfl rfl ?_
  refine dk_lkLen C dL_cell_2 (n := 3) rfl ?_
  refine dk_icmp_ge (t := 12) C dL_cell_3 (n := 6) rfl (by decide) (fun c1 => ?_) (fun c1 => ?_)
  · rw [dl_cl, if_pos c1] at h
    refine dk_ldc (v := 40503) C dL_cell_12 (n := 14) rfl dk_wk_L_7 ?_
    refine dk_iload_n (i := 1) C dL_cell_14 (n := 15) rfl rfl rfl ?_
    refine dk_imul C dL_cell_15 (n := 16) rfl ?_
    refine dk_sipush (v := 3911) C dL_cell_16 (n := 19) rfl (by decide) ?_
    refine dk_iadd C dL_cell_19 (n := 20) rfl ?_
    exact dk_iret C hr hlk rfl dL_cell_20 ⟨_, rfl, h⟩
  · rw [dl_cl, if_neg c1] at h
    obtain ⟨j, hj, rfl⟩ := nI_of h0
    have hl : j < dk_tN G := (nI_ltI hj (by omega)).1 (Classical.byContradiction fun g => c1 (mr_lt_le.1 g))
    refine dk_aload_n (i := 0) C dL_cell_6 (n := 7) rfl rfl rfl ?_
    refine dk_iload_n (i := 1) C dL_cell_7 (n := 8) rfl rfl rfl ?_
    refine dk_lkLd C (vp_in_nI hl (by omega)) dL_cell_8 (n := 9) rfl ?_
    refine dk_goto (t := 20) C dL_cell_9 (by decide) ?_
    exact dk_iret C hr hlk rfl dL_cell_20 ⟨_, rfl, h⟩
theorem cc_L_low {a0 a1 : Int32} (hD : dk_D G) (h0 : ¬ a1 = 0) (h : K (dl_lo a0 a1) s) : dk_M G l 1 yL_low cL_low 2 (some .int) [.int a0, .int a1] s (dk_ki K) := by
  refine dk_of hD (by decide) [some (.int a0), some (.int a1)] (fun q hq => hq) rfl (Nat.le_of_ble_eq_true rfl) (fun P e S0 m args bel meth c C hr hlk => ?_)
  refine dk_iload_n (i := 0) C dL_low_0 (n := 1) rfl rfl rfl ?_
  refine dk_ldc (v := 2147483647) C dL_low_1 (n := 3) rfl dk_wk_L_8 ?_
  refine dk_iand C dL_low_3 (n := 4) rfl ?_
  refine dk_iload_n (i := 1) C dL_low_4 (n := 5) rfl rfl rfl ?_
  refine dk_irem C dL_low_5 (n := 6) rfl h0 ?_
  exact dk_iret C hr hlk rfl dL_low_6 ⟨_, rfl, h⟩
end DLA
