/-! J7_fill_53178 -/
def wf_J7_fill_53178_5 (p0 : Nat) (q0 : Nat) (n0 : Nat) (K : dk_S → Prop) : Nat → Int32 → Int32 → Int32 → dk_S → Prop
  | 0, _, _, _, _ => False
  | n + 1, x1, x2, x3, s => ((x3 ≤ x2 → K s) ∧ (¬ x3 ≤ x2 → (vp_in x2 n0 ∧ (∀ s3 : dk_S, s3 = dk_row s p0 q0 (upd (s p0 q0) x2.toNatClampNeg x1) → ∀ v4 : Int32, v4 = x2 + 1 → wf_J7_fill_53178_5 p0 q0 n0 K n x1 v4 x3 s3))))
def wf_J7_fill_53178 (p0 : Nat) (q0 : Nat) (n0 : Nat) (a1 : Int32) (s : dk_S) (K : dk_S → Prop) : Prop :=
  ∀ v1 : Int32, v1 = (Int32.ofNat n0) → ∃ n2 : Nat, wf_J7_fill_53178_5 p0 q0 n0 K n2 a1 0 v1 s
set_option maxRecDepth 20000 in
set_option maxHeartbeats 4000000 in
theorem ww_J7_fill_53178_5 {G : dk_G} {P : Program} {l : Launch} {e : Env} {S0 : State} {m : MethodId} {args : Array Value} {bel : List Frame} {meth : Method} {c : Code} {p0 : Nat} {q0 : Nat} {n0 : Nat} (C : dk_C G P (dk_rm 1) S0 m args c 0 0 cJ7_fill_53178 4 RJ7) (hr : meth.sig.returnType = none) (hlk : meth.locks = false) (hs0 : dk_shp q0 = .inl (0, n0)) (hd0 : (p0, q0) ∈ dk_dom G) {K : dk_S → Prop}  : ∀ (n : Nat) (x1 : Int32) (x2 : Int32) (x3 : Int32) (s : dk_S), wf_J7_fill_53178_5 p0 q0 n0 K n x1 x2 x3 s → dk_W G P l e (dk_rm 1) S0 m args bel meth c 0 0 (MQ bel (dk_Qc G (dk_kv K)) args S0 0 0 (dk_A G)) 5 [some (dk_r G p0 q0), some (.int x1), some (.int x2), some (.int x3)] [] s := by
  intro n
  induction n with
  | zero => intro x1 x2 x3 s h; exact False.elim h
  | succ n hB =>
    intro x1 x2 x3 s h
    unfold wf_J7_fill_53178_5 at h
    refine dk_iload_n (i := 2) C dJ7_fill_53178_5 (n := 6) rfl rfl rfl ?_
    refine dk_iload_n (i := 3) C dJ7_fill_53178_6 (n := 7) rfl rfl rfl ?_
    refine dk_icmp_ge (t := 20) C dJ7_fill_53178_7 (n := 10) rfl (by decide) (fun c5 => ?_) (fun c5 => ?_)
    · have h := h.1 c5
      exact dk_vret C hr hlk dJ7_fill_53178_20 ⟨rfl, h⟩
    · have h := h.2 c5
      refine dk_aload_n (i := 0) C dJ7_fill_53178_10 (n := 11) rfl rfl rfl ?_
      refine dk_iload_n (i := 2) C dJ7_fill_53178_11 (n := 12) rfl rfl rfl ?_
      refine dk_iload_n (i := 1) C dJ7_fill_53178_12 (n := 13) rfl rfl rfl ?_
      refine dk_iast C hs0 h.1 hd0 dJ7_fill_53178_13 (n := 14) rfl ?_
      refine dk_nameS (fun s3 es3 => ?_)
      have h := h.2 s3 es3
      obtain ⟨v4, ev4⟩ : ∃ y : Int32, y = x2 + 1 := ⟨_, rfl⟩
      have h := h v4 ev4
      refine dk_iinc (i := 2) (v := v4) (L' := [some (dk_r G p0 q0), some (.int x1), some (.int v4), some (.int x3)]) C dJ7_fill_53178_14 (n := 17) rfl rfl (by rw [ev4]; rfl) (dk_nc_of rfl) (Nat.le_of_ble_eq_true rfl) rfl ?_
      refine dk_goto (t := 5) C dJ7_fill_53178_17 (by decide) ?_
      refine dk_sub (L0 := [some (dk_r G p0 q0), some (.int x1), some (.int v4), some (.int x3)]) ⟨rfl, ⟨rfl, ⟨rfl, ⟨rfl, trivial⟩⟩⟩⟩ ?_
      exact hB x1 v4 x3 s3 h
set_option maxRecDepth 20000 in
set_option maxHeartbeats 4000000 in
theorem cc_J7_fill_53178 {G : dk_G} {l : Launch} {p0 : Nat} {q0 : Nat} {n0 : Nat} {a1 : Int32} (hD : dk_D G) (hs0 : dk_shp q0 = .inl (0, n0)) (hd0 : (p0, q0) ∈ dk_dom G) {s : dk_S} {K : dk_S → Prop} (h : wf_J7_fill_53178 p0 q0 n0 a1 s K) : dk_M G l 1 yJ7_fill_53178 cJ7_fill_53178 4 none [dk_r G p0 q0, .int a1] s (dk_kv K) := by
  refine dk_of hD (by decide) [some (dk_r G p0 q0), some (.int a1), none, none] (fun q hq => hq) rfl (Nat.le_of_ble_eq_true rfl) (fun P e S0 m args bel meth c C hr hlk => ?_)
  unfold wf_J7_fill_53178 at h
  refine dk_iconst (v := 0) C dJ7_fill_53178_0 (n := 1) rfl (by decide) ?_
  refine dk_istore_n (i := 2) (L' := [some (dk_r G p0 q0), some (.int a1), some (.int 0), none]) C dJ7_fill_53178_1 (n := 2) rfl rfl (dk_nc_of rfl) (Nat.le_of_ble_eq_true rfl) rfl ?_
  refine dk_aload_n (i := 0) C dJ7_fill_53178_2 (n := 3) rfl rfl rfl ?_
  refine dk_alen (v := (Int32.ofNat n0)) C hs0 rfl rfl hd0 dJ7_fill_53178_3 (n := 4) rfl ?_
  refine dk_name (fun v1 ev1 => ?_)
  have h := h v1 ev1
  refine dk_istore_n (i := 3) (L' := [some (dk_r G p0 q0), some (.int a1), some (.int 0), some (.int v1)]) C dJ7_fill_53178_4 (n := 5) rfl rfl (dk_nc_of rfl) (Nat.le_of_ble_eq_true rfl) rfl ?_
  obtain ⟨n2, h⟩ := h
  refine dk_sub (L0 := [some (dk_r G p0 q0), some (.int a1), some (.int 0), some (.int v1)]) ⟨rfl, ⟨rfl, ⟨rfl, ⟨rfl, trivial⟩⟩⟩⟩ ?_
  refine ww_J7_fill_53178_5 C hr hlk hs0 hd0  n2 a1 0 v1 s h
/-! X8_at -/
def wf_X8_at (p0 : Nat) (q0 : Nat) (n0 : Nat) (a1 : Int32) (s : dk_S) (K : Int32 → dk_S → Prop) : Prop :=
  ((a1 < 0 → K 0 s) ∧ (¬ a1 < 0 → (((Int32.ofNat n0) ≤ a1 → K 0 s) ∧ (¬ (Int32.ofNat n0) ≤ a1 → (vp_in a1 n0 ∧ K (s p0 q0 a1.toNatClampNeg) s)))))
set_option maxRecDepth 20000 in
set_option maxHeartbeats 4000000 in
theorem cc_X8_at {G : dk_G} {l : Launch} {p0 : Nat} {q0 : Nat} {n0 : Nat} {a1 : Int32} (hD : dk_D G) (hs0 : dk_shp q0 = .inl (0, n0)) (hd0 : (p0, q0) ∈ dk_dom G) {s : dk_S} {K : Int32 → dk_S → Prop} (h : wf_X8_at p0 q0 n0 a1 s K) : dk_M G l 1 yX8_at cX8_at 2 (some .int) [dk_r G p0 q0, .int a1] s (dk_ki K) := by
  refine dk_of hD (by decide) [some (dk_r G p0 q0), some (.int a1)] (fun q hq => hq) rfl (Nat.le_of_ble_eq_true rfl) (fun P e S0 m args bel meth c C hr hlk => ?_)
  unfold wf_X8_at at h
  refine dk_iload_n (i := 1) C dX8_at_0 (n := 1) rfl rfl rfl ?_
  refine dk_if_lt (t := 16) C dX8_at_1 (n := 4) rfl (by decide) (fun c2 => ?_) (fun c2 => ?_)
  · have h := h.1 c2
    refine dk_iconst (v := 0) C dX8_at_16 (n := 17) rfl (by decide) ?_
    exact dk_iret C hr hlk rfl dX8_at_17 ⟨_, rfl, h⟩
  · have h := h.2 c2
    refine dk_iload_n (i := 1) C dX8_at_4 (n := 5) rfl rfl rfl ?_
    refine dk_aload_n (i := 0) C dX8_at_5 (n := 6) rfl rfl rfl ?_
    refine dk_alen (v := (Int32.ofNat n0)) C hs0 rfl rfl hd0 dX8_at_6 (n := 7) rfl ?_
    refine dk_icmp_ge (t := 16) C dX8_at_7 (n := 10) rfl (by decide) (fun c1 => ?_) (fun c1 => ?_)
    · have h := h.1 c1
      refine dk_iconst (v := 0) C dX8_at_16 (n := 17) rfl (by decide) ?_
      exact dk_iret C hr hlk rfl dX8_at_17 ⟨_, rfl, h⟩
    · have h := h.2 c1
      refine dk_aload_n (i := 0) C dX8_at_10 (n := 11) rfl rfl rfl ?_
      refine dk_iload_n (i := 1) C dX8_at_11 (n := 12) rfl rfl rfl ?_
      refine dk_iald C hs0 h.1 hd0 dX8_at_12 (n := 13) rfl ?_
      have h := h.2
      refine dk_goto (t := 17) C dX8_at_13 (by decide) ?_
      exact dk_iret C hr hlk rfl dX8_at_17 ⟨_, rfl, h⟩
/-! X8_put -/
def wf_X8_put (p0 : Nat) (q0 : Nat) (n0 : Nat) (a1 : Int32) (a2 : Int32) (s : dk_S) (K : dk_S → Prop) : Prop :=
  ((a1 < 0 → K s) ∧ (¬ a1 < 0 → (((Int32.ofNat n0) ≤ a1 → K s) ∧ (¬ (Int32.ofNat n0) ≤ a1 → (vp_in a1 n0 ∧ (∀ s1 : dk_S, s1 = dk_row s p0 q0 (upd (s p0 q0) a1.toNatClampNeg a2) → K s1))))))
set_option maxRecDepth 20000 in
set_option maxHeartbeats 4000000 in
theorem cc_X8_put {G : dk_G} {l : Launch} {p0 : Nat} {q0 : Nat} {n0 : Nat} {a1 : Int32} {a2 : Int32} (hD : dk_D G) (hs0 : dk_shp q0 = .inl (0, n0)) (hd0 : (p0, q0) ∈ dk_dom G) {s : dk_S} {K : dk_S → Prop} (h : wf_X8_put p0 q0 n0 a1 a2 s K) : dk_M G l 1 yX8_put cX8_put 3 none [dk_r G p0 q0, .int a1, .int a2] s (dk_kv K) := by
  refine dk_of hD (by decide) [some (dk_r G p0 q0), some (.int a1), some (.int a2)] (fun q hq => hq) rfl (Nat.le_of_ble_eq_true rfl) (fun P e S0 m args bel meth c C hr hlk => ?_)
  unfold wf_X8_put at h
  refine dk_iload_n (i := 1) C dX8_put_0 (n := 1) rfl rfl rfl ?_
  refine dk_if_lt (t := 14) C dX8_put_1 (n := 4) rfl (by decide) (fun c3 => ?_) (fun c3 => ?_)
  · have h := h.1 c3
    exact dk_vret C hr hlk dX8_put_14 ⟨rfl, h⟩
  · have h := h.2 c3
    refine dk_iload_n (i := 1) C dX8_put_4 (n := 5) rfl rfl rfl ?_
    refine dk_aload_n (i := 0) C dX8_put_5 (n := 6) rfl rfl rfl ?_
    refine dk_alen (v := (Int32.ofNat n0)) C hs0 rfl rfl hd0 dX8_put_6 (n := 7) rfl ?_
    refine dk_icmp_ge (t := 14) C dX8_put_7 (n := 10) rfl (by decide) (fun c2 => ?_) (fun c2 => ?_)
    · have h := h.1 c2
      exact dk_vret C hr hlk dX8_put_14 ⟨rfl, h⟩
    · have h := h.2 c2
      refine dk_aload_n (i := 0) C dX8_put_10 (n := 11) rfl rfl rfl ?_
      refine dk_iload_n (i := 1) C dX8_put_11 (n := 12) rfl rfl rfl ?_
      refine dk_iload_n (i := 2) C dX8_put_12 (n := 13) rfl rfl rfl ?_
      refine dk_iast C hs0 h.1 hd0 dX8_put_13 (n := 14) rfl ?_
      refine dk_nameS (fun s1 es1 => ?_)
      have h := h.2 s1 es1
      exact dk_vret C hr hlk dX8_put_14 ⟨rfl, h⟩
/-! X8_isFree -/
def wf_X8_isFree (a0 : Int32) (s : dk_S) (K : Int32 → dk_S → Prop) : Prop :=
  ((a0 = 46 → K 1 s) ∧ (¬ a0 = 46 → ((a0 = 126 → K 1 s) ∧ (¬ a0 = 126 → ((¬ a0 = 47 → K 0 s) ∧ (a0 = 47 → K 1 s))))))
set_option maxRecDepth 20000 in
set_option maxHeartbeats 4000000 in
theorem cc_X8_isFree {G : dk_G} {l : Launch} {a0 : Int32} (hD : dk_D G)  {s : dk_S} {K : Int32 → dk_S → Prop} (h : wf_X8_isFree a0 s K) : dk_M G l 1 yX8_isFree cX8_isFree 1 (some .boolean) [.int a0] s (dk_ki K) := by
  refine dk_of hD (by decide) [some (.int a0)] (fun q hq => hq) rfl (Nat.le_of_ble_eq_true rfl) (fun P e S0 m args bel meth c C hr hlk => ?_)
  unfold wf_X8_isFree at h
  refine dk_iload_n (i := 0) C dX8_isFree_0 (n := 1) rfl rfl rfl ?_
  refine dk_bipush (v := 46) C dX8_isFree_1 (n := 3) rfl (by decide) ?_
  refine dk_icmp_eq (t := 18) C dX8_isFree_3 (n := 6) rfl (by decide) (fun c3 => ?_) (fun c3 => ?_)
  · have h := h.1 c3
    refine dk_iconst (v := 1) C dX8_isFree_18 (n := 19) rfl (by decide) ?_
    refine dk_goto (t := 23) C dX8_isFree_19 (by decide) ?_
    exact dk_iret C hr hlk dk_nz1 dX8_isFree_23 ⟨_, rfl, h⟩
  · have h := h.2 c3
    refine dk_iload_n (i := 0) C dX8_isFree_6 (n := 7) rfl rfl rfl ?_
    refine dk_bipush (v := 126) C dX8_isFree_7 (n := 9) rfl (by decide) ?_
    refine dk_icmp_eq (t := 18) C dX8_isFree_9 (n := 12) rfl (by decide) (fun c2 => ?_) (fun c2 => ?_)
    · have h := h.1 c2
      refine dk_iconst (v := 1) C dX8_isFree_18 (n := 19) rfl (by decide) ?_
      refine dk_goto (t := 23) C dX8_isFree_19 (by decide) ?_
      exact dk_iret C hr hlk dk_nz1 dX8_isFree_23 ⟨_, rfl, h⟩
    · have h := h.2 c2
      refine dk_iload_n (i := 0) C dX8_isFree_12 (n := 13) rfl rfl rfl ?_
      refine dk_bipush (v := 47) C dX8_isFree_13 (n := 15) rfl (by decide) ?_
      refine dk_icmp_ne (t := 22) C dX8_isFree_15 (n := 18) rfl (by decide) (fun c1 => ?_) (fun c1 => ?_)
      · have h := h.1 c1
        refine dk_iconst (v := 0) C dX8_isFree_22 (n := 23) rfl (by decide) ?_
        exact dk_iret C hr hlk dk_nz0 dX8_isFree_23 ⟨_, rfl, h⟩
      · have h := h.2 c1
        refine dk_iconst (v := 1) C dX8_isFree_18 (n := 19) rfl (by decide) ?_
        refine dk_goto (t := 23) C dX8_isFree_19 (by decide) ?_
        exact dk_iret C hr hlk dk_nz1 dX8_isFree_23 ⟨_, rfl, h⟩
/-! X8_spot -/
def wf_X8_spot (a0 : Int32) (a1 : Int32) (s : dk_S) (K : Int32 → dk_S → Prop) : Prop :=
  K ((12 * a0) + a1) s
set_option maxRecDepth 20000 in
set_option maxHeartbeats 4000000 in
theorem cc_X8_spot {G : dk_G} {l : Launch} {a0 : Int32} {a1 : Int32} (hD : dk_D G)  {s : dk_S} {K : Int32 → dk_S → Prop} (h : wf_X8_spot a0 a1 s K) : dk_M G l 1 yX8_spot cX8_spot 2 (some .int) [.int a0, .int a1] s (dk_ki K) := by
  refine dk_of hD (by decide) [some (.int a0), some (.int a1)] (fun q hq => hq) rfl (Nat.le_of_ble_eq_true rfl) (fun P e S0 m args bel meth c C hr hlk => ?_)
  unfold wf_X8_spot at h
  refine dk_bipush (v := 12) C dX8_spot_0 (n := 2) rfl (by decide) ?_
  refine dk_iload_n (i := 0) C dX8_spot_2 (n := 3) rfl rfl rfl ?_
  refine dk_imul C dX8_spot_3 (n := 4) rfl ?_
  refine dk_iload_n (i := 1) C dX8_spot_4 (n := 5) rfl rfl rfl ?_
  refine dk_iadd C dX8_spot_5 (n := 6) rfl ?_
  exact dk_iret C hr hlk rfl dX8_spot_6 ⟨_, rfl, h⟩
/-! X8_beside -/
def wf_X8_beside (a0 : Int32) (a1 : Int32) (s : dk_S) (K : Int32 → dk_S → Prop) : Prop :=
  ((a1 = 0 → ((¬ (a0 - a0 / 12 * 12) = 0 → K (a0 - 1) s) ∧ ((a0 - a0 / 12 * 12) = 0 → K (-1) s))) ∧ (¬ a1 = 0 → ((a1 = 1 → ((144 ≤ (a0 + 12) → K (-1) s) ∧ (¬ 144 ≤ (a0 + 12) → K (a0 + 12) s))) ∧ (¬ a1 = 1 → ((a1 = 2 → ((¬ (a0 - a0 / 12 * 12) = 11 → K (a0 + 1) s) ∧ ((a0 - a0 / 12 * 12) = 11 → K (-1) s))) ∧ (¬ a1 = 2 → ((a1 = 3 → ((a0 < 12 → K (-1) s) ∧ (¬ a0 < 12 → K (a0 - 12) s))) ∧ (¬ a1 = 3 → K (-1) s))))))))
set_option maxRecDepth 20000 in
set_option maxHeartbeats 4000000 in
theorem cc_X8_beside {G : dk_G} {l : Launch} {a0 : Int32} {a1 : Int32} (hD : dk_D G)  {s : dk_S} {K : Int32 → dk_S → Prop} (h : wf_X8_beside a0 a1 s K) : dk_M G l 1 yX8_beside cX8_beside 2 (some .int) [.int a0, .int a1] s (dk_ki K) := by
  refine dk_of hD (by decide) [some (.int a0), some (.int a1)] (fun q hq => hq) rfl (Nat.le_of_ble_eq_true rfl) (fun P e S0 m args bel meth c C hr hlk => ?_)
  unfold wf_X8_beside at h
  refine dk_iload_n (i := 1) C dX8_beside_0 (n := 1) rfl rfl rfl ?_
  by_cases c2 : a1 = 0
  · have h := h.1 c2
    refine dk_tabIn (off := 31) (t := 32) C dX8_beside_1 (by rw [c2]; decide) (by rw [c2]; decide) (by rw [c2]; decide) (by decide) ?_
    refine dk_iload_n (i := 0) C dX8_beside_32 (n := 33) rfl rfl rfl ?_
    refine dk_bipush (v := 12) C dX8_beside_33 (n := 35) rfl (by decide) ?_
    refine dk_irem C dX8_beside_35 (n := 36) rfl (by decide) ?_
    refine dk_if_ne (t := 43) C dX8_beside_36 (n := 39) rfl (by decide) (fun c1 => ?_) (fun c1 => ?_)
    · have h := h.1 c1
      refine dk_iload_n (i := 0) C dX8_beside_43 (n := 44) rfl rfl rfl ?_
      refine dk_iconst (v := 1) C dX8_beside_44 (n := 45) rfl (by decide) ?_
      refine dk_isub C dX8_beside_45 (n := 46) rfl ?_
      exact dk_iret C hr hlk rfl dX8_beside_46 ⟨_, rfl, h⟩
    · have h := h.2 c1
      refine dk_iconst (v := (-1)) C dX8_beside_39 (n := 40) rfl (by decide) ?_
      refine dk_goto (t := 46) C dX8_beside_40 (by decide) ?_
      exact dk_iret C hr hlk rfl dX8_beside_46 ⟨_, rfl, h⟩
  have h := h.2 c2
  by_cases c4 : a1 = 1
  · have h := h.1 c4
    refine dk_tabIn (off := 46) (t := 47) C dX8_beside_1 (by rw [c4]; decide) (by rw [c4]; decide) (by rw [c4]; decide) (by decide) ?_
    refine dk_iload_n (i := 0) C dX8_beside_47 (n := 48) rfl rfl rfl ?_
    refine dk_bipush (v := 12) C dX8_beside_48 (n := 50) rfl (by decide) ?_
    refine dk_iadd C dX8_beside_50 (n := 51) rfl ?_
    refine dk_sipush (v := 144) C dX8_beside_51 (n := 54) rfl (by decide) ?_
    refine dk_icmp_ge (t := 64) C dX8_beside_54 (n := 57) rfl (by decide) (fun c3 => ?_) (fun c3 => ?_)
    · have h := h.1 c3
      refine dk_iconst (v := (-1)) C dX8_beside_64 (n := 65) rfl (by decide) ?_
      exact dk_iret C hr hlk rfl dX8_beside_65 ⟨_, rfl, h⟩
    · have h := h.2 c3
      refine dk_iload_n (i := 0) C dX8_beside_57 (n := 58) rfl rfl rfl ?_
      refine dk_bipush (v := 12) C dX8_beside_58 (n := 60) rfl (by decide) ?_
      refine dk_iadd C dX8_beside_60 (n := 61) rfl ?_
      refine dk_goto (t := 65) C dX8_beside_61 (by decide) ?_
      exact dk_iret C hr hlk rfl dX8_beside_65 ⟨_, rfl, h⟩
  have h := h.2 c4
  by_cases c6 : a1 = 2
  · have h := h.1 c6
    refine dk_tabIn (off := 65) (t := 66) C dX8_beside_1 (by rw [c6]; decide) (by rw [c6]; decide) (by rw [c6]; decide) (by decide) ?_
    refine dk_iload_n (i := 0) C dX8_beside_66 (n := 67) rfl rfl rfl ?_
    refine dk_bipush (v := 12) C dX8_beside_67 (n := 69) rfl (by decide) ?_
    refine dk_irem C dX8_beside_69 (n := 70) rfl (by decide) ?_
    refine dk_bipush (v := 11) C dX8_beside_70 (n := 72) rfl (by decide) ?_
    refine dk_icmp_ne (t := 79) C dX8_beside_72 (n := 75) rfl (by decide) (fun c5 => ?_) (fun c5 => ?_)
    · have h := h.1 c5
      refine dk_iload_n (i := 0) C dX8_beside_79 (n := 80) rfl rfl rfl ?_
      refine dk_iconst (v := 1) C dX8_beside_80 (n := 81) rfl (by decide) ?_
      refine dk_iadd C dX8_beside_81 (n := 82) rfl ?_
      exact dk_iret C hr hlk rfl dX8_beside_82 ⟨_, rfl, h⟩
    · have h := h.2 c5
      refine dk_iconst (v := (-1)) C dX8_beside_75 (n := 76) rfl (by decide) ?_
      refine dk_goto (t := 82) C dX8_beside_76 (by decide) ?_
      exact dk_iret C hr hlk rfl dX8_beside_82 ⟨_, rfl, h⟩
  have h := h.2 c6
  by_cases c8 : a1 = 3
  · have h := h.1 c8
    refine dk_tabIn (off := 82) (t := 83) C dX8_beside_1 (by rw [c8]; decide) (by rw [c8]; decide) (by rw [c8]; decide) (by decide) ?_
    refine dk_iload_n (i := 0) C dX8_beside_83 (n := 84) rfl rfl rfl ?_
    refine dk_bipush (v := 12) C dX8_beside_84 (n := 86) rfl (by decide) ?_
    refine dk_icmp_lt (t := 96) C dX8_beside_86 (n := 89) rfl (by decide) (fun c7 => ?_) (fun c7 => ?_)
    · have h := h.1 c7
      refine dk_iconst (v := (-1)) C dX8_beside_96 (n := 97) rfl (by decide) ?_
      exact dk_iret C hr hlk rfl dX8_beside_97 ⟨_, rfl, h⟩
    · have h := h.2 c7
      refine dk_iload_n (i := 0) C dX8_beside_89 (n := 90) rfl rfl rfl ?_
      refine dk_bipush (v := 12) C dX8_beside_90 (n := 92) rfl (by decide) ?_
      refine dk_isub C dX8_beside_92 (n := 93) rfl ?_
      refine dk_goto (t := 97) C dX8_beside_93 (by decide) ?_
      exact dk_iret C hr hlk rfl dX8_beside_97 ⟨_, rfl, h⟩
  have h := h.2 c8
  refine dk_tabOut (t := 98) C dX8_beside_1 (by have q0 := lv_neT c2 (show (0 : Int32).toInt = 0 from rfl); have q1 := lv_neT c4 (show (1 : Int32).toInt = 1 from rfl); have q2 := lv_neT c6 (show (2 : Int32).toInt = 2 from rfl); have q3 := lv_neT c8 (show (3 : Int32).toInt = 3 from rfl); omega) (by decide) ?_
  refine dk_iconst (v := (-1)) C dX8_beside_98 (n := 99) rfl (by decide) ?_
  exact dk_iret C hr hlk rfl dX8_beside_99 ⟨_, rfl, h⟩
/-! X8_copyRow -/
def wf_X8_copyRow (p0 : Nat) (q0 : Nat) (n0 : Nat) (p1 : Nat) (q1 : Nat) (n1 : Nat) (s : dk_S) (K : dk_S → Prop) : Prop :=
  (¬ (if (Int32.ofNat n1) < (Int32.ofNat n0) then (Int32.ofNat n1) else (Int32.ofNat n0)) < 0 ∧ (if (Int32.ofNat n1) < (Int32.ofNat n0) then (Int32.ofNat n1) else (Int32.ofNat n0)).toNatClampNeg ≤ n0 ∧ (if (Int32.ofNat n1) < (Int32.ofNat n0) then (Int32.ofNat n1) else (Int32.ofNat n0)).toNatClampNeg ≤ n1 ∧ (∀ i, i < (if (Int32.ofNat n1) < (Int32.ofNat n0) then (Int32.ofNat n1) else (Int32.ofNat n0)).toNatClampNeg → fits .int (.int (s p0 q0 i)) = true) ∧ (∀ s1 : dk_S, s1 = dk_row s p1 q1 (va_cpy (s p0 q0) (s p1 q1) 0 0 (if (Int32.ofNat n1) < (Int32.ofNat n0) then (Int32.ofNat n1) else (Int32.ofNat n0)).toNatClampNeg) → K s1))
set_option maxRecDepth 20000 in
set_option maxHeartbeats 4000000 in
theorem cc_X8_copyRow {G : dk_G} {l : Launch} {p0 : Nat} {q0 : Nat} {n0 : Nat} {p1 : Nat} {q1 : Nat} {n1 : Nat} (hD : dk_D G) (hs0 : dk_shp q0 = .inl (0, n0)) (hd0 : (p0, q0) ∈ dk_dom G) (hs1 : dk_shp q1 = .inl (0, n1)) (hd1 : (p1, q1) ∈ dk_dom G) {s : dk_S} {K : dk_S → Prop} (h : wf_X8_copyRow p0 q0 n0 p1 q1 n1 s K) : dk_M G l 2 yX8_copyRow cX8_copyRow 2 none [dk_r G p0 q0, dk_r G p1 q1] s (dk_kv K) := by
  refine dk_of hD (by decide) [some (dk_r G p0 q0), some (dk_r G p1 q1)] (fun q hq => hq) rfl (Nat.le_of_ble_eq_true rfl) (fun P e S0 m args bel meth c C hr hlk => ?_)
  unfold wf_X8_copyRow at h
  refine dk_aload_n (i := 0) C dX8_copyRow_0 (n := 1) rfl rfl rfl ?_
  refine dk_iconst (v := 0) C dX8_copyRow_1 (n := 2) rfl (by decide) ?_
  refine dk_aload_n (i := 1) C dX8_copyRow_2 (n := 3) rfl rfl rfl ?_
  refine dk_iconst (v := 0) C dX8_copyRow_3 (n := 4) rfl (by decide) ?_
  refine dk_aload_n (i := 0) C dX8_copyRow_4 (n := 5) rfl rfl rfl ?_
  refine dk_alen (v := (Int32.ofNat n0)) C hs0 rfl rfl hd0 dX8_copyRow_5 (n := 6) rfl ?_
  refine dk_aload_n (i := 1) C dX8_copyRow_6 (n := 7) rfl rfl rfl ?_
  refine dk_alen (v := (Int32.ofNat n1)) C hs1 rfl rfl hd1 dX8_copyRow_7 (n := 8) rfl ?_
  refine dk_mmin C dk_wm_X8_316 dk_wm_min_s dk_wm_i dk_wm_min_c (Nat.le_of_ble_eq_true rfl) (Nat.le_of_ble_eq_true rfl) rfl dX8_copyRow_8 (n := 11) rfl ?_
  refine dk_copy (ty := .int) C hs0 hs1 rfl rfl h.1 h.2.1 h.2.2.1 h.2.2.2.1 dk_wm_X8_319 dk_wc_n dk_wc_s dk_wc_i (Nat.le_of_ble_eq_true rfl) (by decide) rfl hd0 hd1 dX8_copyRow_11 (n := 14) rfl ?_
  refine dk_nameS (fun s1 es1 => ?_)
  have h := h.2.2.2.2 s1 es1
  exact dk_vret C hr hlk dX8_copyRow_14 ⟨rfl, h⟩
/-! X8_gap -/
def wf_X8_gap (a0 : Int32) (a1 : Int32) (s : dk_S) (K : Int32 → dk_S → Prop) : Prop :=
  ∀ v1 : Int32, v1 = (if 0 ≤ ((a0 / 12) - (a1 / 12)) then ((a0 / 12) - (a1 / 12)) else 0 - ((a0 / 12) - (a1 / 12))) → ∀ v2 : Int32, v2 = (if 0 ≤ ((a0 - a0 / 12 * 12) - (a1 - a1 / 12 * 12)) then ((a0 - a0 / 12 * 12) - (a1 - a1 / 12 * 12)) else 0 - ((a0 - a0 / 12 * 12) - (a1 - a1 / 12 * 12))) → K (if v1 < v2 then v2 else v1) s
set_option maxRecDepth 20000 in
set_option maxHeartbeats 4000000 in
theorem cc_X8_gap {G : dk_G} {l : Launch} {a0 : Int32} {a1 : Int32} (hD : dk_D G)  {s : dk_S} {K : Int32 → dk_S → Prop} (h : wf_X8_gap a0 a1 s K) : dk_M G l 2 yX8_gap cX8_gap 4 (some .int) [.int a0, .int a1] s (dk_ki K) := by
  refine dk_of hD (by decide) [some (.int a0), some (.int a1), none, none] (fun q hq => hq) rfl (Nat.le_of_ble_eq_true rfl) (fun P e S0 m args bel meth c C hr hlk => ?_)
  unfold wf_X8_gap at h
  refine dk_iload_n (i := 0) C dX8_gap_0 (n := 1) rfl rfl rfl ?_
  refine dk_bipush (v := 12) C dX8_gap_1 (n := 3) rfl (by decide) ?_
  refine dk_idiv C dX8_gap_3 (n := 4) rfl (by decide) ?_
  refine dk_iload_n (i := 1) C dX8_gap_4 (n := 5) rfl rfl rfl ?_
  refine dk_bipush (v := 12) C dX8_gap_5 (n := 7) rfl (by decide) ?_
  refine dk_idiv C dX8_gap_7 (n := 8) rfl (by decide) ?_
  refine dk_isub C dX8_gap_8 (n := 9) rfl ?_
  refine dk_mabs C dk_wm_X8_308 dk_wm_abs_s dk_wm_i dk_wm_abs_c (Nat.le_of_ble_eq_true rfl) (Nat.le_of_ble_eq_true rfl) rfl dX8_gap_9 (n := 12) rfl ?_
  refine dk_name (fun v1 ev1 => ?_)
  have h := h v1 ev1
  refine dk_istore_n (i := 2) (L' := [some (.int a0), some (.int a1), some (.int v1), none]) C dX8_gap_12 (n := 13) rfl rfl (dk_nc_of rfl) (Nat.le_of_ble_eq_true rfl) rfl ?_
  refine dk_iload_n (i := 0) C dX8_gap_13 (n := 14) rfl rfl rfl ?_
  refine dk_bipush (v := 12) C dX8_gap_14 (n := 16) rfl (by decide) ?_
  refine dk_irem C dX8_gap_16 (n := 17) rfl (by decide) ?_
  refine dk_iload_n (i := 1) C dX8_gap_17 (n := 18) rfl rfl rfl ?_
  refine dk_bipush (v := 12) C dX8_gap_18 (n := 20) rfl (by decide) ?_
  refine dk_irem C dX8_gap_20 (n := 21) rfl (by decide) ?_
  refine dk_isub C dX8_gap_21 (n := 22) rfl ?_
  refine dk_mabs C dk_wm_X8_308 dk_wm_abs_s dk_wm_i dk_wm_abs_c (Nat.le_of_ble_eq_true rfl) (Nat.le_of_ble_eq_true rfl) rfl dX8_gap_22 (n := 25) rfl ?_
  refine dk_name (fun v2 ev2 => ?_)
  have h := h v2 ev2
  refine dk_istore_n (i := 3) (L' := [some (.int a0), some (.int a1), some (.int v1), some (.int v2)]) C dX8_gap_25 (n := 26) rfl rfl (dk_nc_of rfl) (Nat.le_of_ble_eq_true rfl) rfl ?_
  refine dk_iload_n (i := 2) C dX8_gap_26 (n := 27) rfl rfl rfl ?_
  refine dk_iload_n (i := 3) C dX8_gap_27 (n := 28) rfl rfl rfl ?_
  refine dk_mmax C dk_wm_X8_313 dk_wm_max_s dk_wm_i dk_wm_max_c (Nat.le_of_ble_eq_true rfl) (Nat.le_of_ble_eq_true rfl) rfl dX8_gap_28 (n := 31) rfl ?_
  exact dk_iret C hr hlk rfl dX8_gap_31 ⟨_, rfl, h⟩
/-! X8_areNeighbours -/
def wf_X8_areNeighbours (a0 : Int32) (a1 : Int32) (s : dk_S) (K : Int32 → dk_S → Prop) : Prop :=
  ∀ v1 : Int32, v1 = (a0 / 12) - (a1 / 12) → ∀ v2 : Int32, v2 = (a0 - a0 / 12 * 12) - (a1 - a1 / 12 * 12) → ((¬ ((v1 * v1) + (v2 * v2)) = 1 → K 0 s) ∧ (((v1 * v1) + (v2 * v2)) = 1 → K 1 s))
set_option maxRecDepth 20000 in
set_option maxHeartbeats 4000000 in
theorem cc_X8_areNeighbours {G : dk_G} {l : Launch} {a0 : Int32} {a1 : Int32} (hD : dk_D G)  {s : dk_S} {K : Int32 → dk_S → Prop} (h : wf_X8_areNeighbours a0 a1 s K) : dk_M G l 1 yX8_areNeighbours cX8_areNeighbours 4 (some .boolean) [.int a0, .int a1] s (dk_ki K) := by
  refine dk_of hD (by decide) [some (.int a0), some (.int a1), none, none] (fun q hq => hq) rfl (Nat.le_of_ble_eq_true rfl) (fun P e S0 m args bel meth c C hr hlk => ?_)
  unfold wf_X8_areNeighbours at h
  refine dk_iload_n (i := 0) C dX8_areNeighbours_0 (n := 1) rfl rfl rfl ?_
  refine dk_bipush (v := 12) C dX8_areNeighbours_1 (n := 3) rfl (by decide) ?_
  refine dk_idiv C dX8_areNeighbours_3 (n := 4) rfl (by decide) ?_
  refine dk_iload_n (i := 1) C dX8_areNeighbours_4 (n := 5) rfl rfl rfl ?_
  refine dk_bipush (v := 12) C dX8_areNeighbours_5 (n := 7) rfl (by decide) ?_
  refine dk_idiv C dX8_areNeighbours_7 (n := 8) rfl (by decide) ?_
  refine dk_isub C dX8_areNeighbours_8 (n := 9) rfl ?_
  refine dk_name (fun v1 ev1 => ?_)
  have h := h v1 ev1
  refine dk_istore_n (i := 2) (L' := [some (.int a0), some (.int a1), some (.int v1), none]) C dX8_areNeighbours_9 (n := 10) rfl rfl (dk_nc_of rfl) (Nat.le_of_ble_eq_true rfl) rfl ?_
  refine dk_iload_n (i := 0) C dX8_areNeighbours_10 (n := 11) rfl rfl rfl ?_
  refine dk_bipush (v := 12) C dX8_areNeighbours_11 (n := 13) rfl (by decide) ?_
  refine dk_irem C dX8_areNeighbours_13 (n := 14) rfl (by decide) ?_
  refine dk_iload_n (i := 1) C dX8_areNeighbours_14 (n := 15) rfl rfl rfl ?_
  refine dk_bipush (v := 12) C dX8_areNeighbours_15 (n := 17) rfl (by decide) ?_
  refine dk_irem C dX8_areNeighbours_17 (n := 18) rfl (by decide) ?_
  refine dk_isub C dX8_areNeighbours_18 (n := 19) rfl ?_
  refine dk_name (fun v2 ev2 => ?_)
  have h := h v2 ev2
  refine dk_istore_n (i := 3) (L' := [some (.int a0), some (.int a1), some (.int v1), some (.int v2)]) C dX8_areNeighbours_19 (n := 20) rfl rfl (dk_nc_of rfl) (Nat.le_of_ble_eq_true rfl) rfl ?_
  refine dk_iload_n (i := 2) C dX8_areNeighbours_20 (n := 21) rfl rfl rfl ?_
  refine dk_iload_n (i := 2) C dX8_areNeighbours_21 (n := 22) rfl rfl rfl ?_
  refine dk_imul C dX8_areNeighbours_22 (n := 23) rfl ?_
  refine dk_iload_n (i := 3) C dX8_areNeighbours_23 (n := 24) rfl rfl rfl ?_
  refine dk_iload_n (i := 3) C dX8_areNeighbours_24 (n := 25) rfl rfl rfl ?_
  refine dk_imul C dX8_areNeighbours_25 (n := 26) rfl ?_
  refine dk_iadd C dX8_areNeighbours_26 (n := 27) rfl ?_
  refine dk_iconst (v := 1) C dX8_areNeighbours_27 (n := 28) rfl (by decide) ?_
  refine dk_icmp_ne (t := 35) C dX8_areNeighbours_28 (n := 31) rfl (by decide) (fun c3 => ?_) (fun c3 => ?_)
  · have h := h.1 c3
    refine dk_iconst (v := 0) C dX8_areNeighbours_35 (n := 36) rfl (by decide) ?_
    exact dk_iret C hr hlk dk_nz0 dX8_areNeighbours_36 ⟨_, rfl, h⟩
  · have h := h.2 c3
    refine dk_iconst (v := 1) C dX8_areNeighbours_31 (n := 32) rfl (by decide) ?_
    refine dk_goto (t := 36) C dX8_areNeighbours_32 (by decide) ?_
    exact dk_iret C hr hlk dk_nz1 dX8_areNeighbours_36 ⟨_, rfl, h⟩
