/-! the methods as predicate transformers over the store -/
def wf_J7_fill_53178_5 (p0 : Nat) (q0 : Nat) (n0 : Nat) (K : dk_S → Prop) : Nat → Int32 → Int32 → Int32 → dk_S → Prop
  | 0, _, _, _, _ => False
  | n + 1, x1, x2, x3, s => ((x3 ≤ x2 → K s) ∧ (¬ x3 ≤ x2 → (vp_in x2 n0 ∧ (∀ s3 : dk_S, s3 = dk_row s p0 q0 (upd (s p0 q0) x2.toNatClampNeg x1) → ∀ v4 : Int32, v4 = x2 + 1 → wf_J7_fill_53178_5 p0 q0 n0 K n x1 v4 x3 s3))))
def wf_J7_fill_53178 (p0 : Nat) (q0 : Nat) (n0 : Nat) (a1 : Int32) (s : dk_S) (K : dk_S → Prop) : Prop :=
  ∀ v1 : Int32, v1 = (Int32.ofNat n0) → ∃ nn2 : Nat, wf_J7_fill_53178_5 p0 q0 n0 K nn2 a1 0 v1 s
def wf_X8_at (p0 : Nat) (q0 : Nat) (n0 : Nat) (a1 : Int32) (s : dk_S) (K : Int32 → dk_S → Prop) : Prop :=
  ((a1 < 0 → K 0 s) ∧ (¬ a1 < 0 → (((Int32.ofNat n0) ≤ a1 → K 0 s) ∧ (¬ (Int32.ofNat n0) ≤ a1 → (vp_in a1 n0 ∧ K (s p0 q0 a1.toNatClampNeg) s)))))
def wf_X8_at_L (a1 : Int32) (s : dk_S) (K : Int32 → dk_S → Prop) : Prop :=
  ((a1 < 0 → K 0 s) ∧ (¬ a1 < 0 → ((18 ≤ a1 → K 0 s) ∧ (¬ 18 ≤ a1 → (vp_in a1 18 ∧ K (dk_looks a1.toNatClampNeg) s)))))
def wf_X7_heroSpot (p0 : Nat) (s : dk_S) (K : Int32 → dk_S → Prop) : Prop :=
  wf_X8_at p0 14 8 0 s (fun r2 s1 => K r2 s1)
def wf_X6_bagOf (p0 : Nat) (a1 : Int32) (s : dk_S) (K : Int32 → dk_S → Prop) : Prop :=
  wf_X8_at p0 25 24 a1 s (fun r2 s1 => (((-3) < r2 → K (-1) s1) ∧ (¬ (-3) < r2 → K ((-3) - r2) s1)))
def wf_X6_outerPlace_4 (p0 : Nat) (K : Int32 → dk_S → Prop) : Nat → Int32 → Int32 → dk_S → Prop
  | 0, _, _, _ => False
  | n + 1, x2, x3, s => ((24 ≤ x3 → wf_X8_at p0 25 24 x2 s (fun r3 s2 => K r3 s2)) ∧ (¬ 24 ≤ x3 → wf_X6_bagOf p0 x2 s (fun r5 s4 => ((r5 = (-1) → wf_X8_at p0 25 24 x2 s4 (fun r7 s6 => K r7 s6)) ∧ (¬ r5 = (-1) → wf_X6_bagOf p0 x2 s4 (fun r9 s8 => ∀ v10 : Int32, v10 = x3 + 1 → wf_X6_outerPlace_4 p0 K n r9 v10 s8))))))
def wf_X6_outerPlace (p0 : Nat) (a1 : Int32) (s : dk_S) (K : Int32 → dk_S → Prop) : Prop :=
  ∃ nn1 : Nat, wf_X6_outerPlace_4 p0 K nn1 a1 0 s
def wf_X8_put (p0 : Nat) (q0 : Nat) (n0 : Nat) (a1 : Int32) (a2 : Int32) (s : dk_S) (K : dk_S → Prop) : Prop :=
  ((a1 < 0 → K s) ∧ (¬ a1 < 0 → (((Int32.ofNat n0) ≤ a1 → K s) ∧ (¬ (Int32.ofNat n0) ≤ a1 → (vp_in a1 n0 ∧ (∀ s1 : dk_S, s1 = dk_row s p0 q0 (upd (s p0 q0) a1.toNatClampNeg a2) → K s1))))))
def wf_X0_note_44 (p1 : Nat) (K : dk_S → Prop) (B : Int32 → dk_S → Prop) (x2 : Int32) (y0 : Int32) (s : dk_S) : Prop :=
  ((y0 = 0 → wf_X8_put 0 46 24 x2 (-2) s (fun s10 => ∀ v11 : Int32, v11 = x2 + 1 → B v11 s10)) ∧ (¬ y0 = 0 → wf_X8_at p1 25 24 x2 s (fun r13 s12 => wf_X8_put 0 46 24 x2 r13 s12 (fun s14 => ∀ v15 : Int32, v15 = x2 + 1 → B v15 s14))))
def wf_X0_note_10 (p1 : Nat) (K : dk_S → Prop) : Nat → Int32 → dk_S → Prop
  | 0, _, _ => False
  | n + 1, x2, s => ((24 ≤ x2 → K s) ∧ (¬ 24 ≤ x2 → (((s p1 23 2) ≤ x2 → wf_X0_note_44 p1 K (wf_X0_note_10 p1 K n) x2 0 s) ∧ (¬ (s p1 23 2) ≤ x2 → wf_X6_outerPlace p1 x2 s (fun r6 s5 => ((¬ r6 = (-1) → wf_X0_note_44 p1 K (wf_X0_note_10 p1 K n) x2 0 s5) ∧ (r6 = (-1) → wf_X0_note_44 p1 K (wf_X0_note_10 p1 K n) x2 1 s5)))))))
def wf_X0_note (p1 : Nat) (s : dk_S) (K : dk_S → Prop) : Prop :=
  wf_X7_heroSpot p1 s (fun r2 s1 => ∀ s3 : dk_S, s3 = dk_row s1 0 45 (upd (s1 0 45) 1 r2) → ∃ nn4 : Nat, wf_X0_note_10 p1 K nn4 0 s3)
def wf_X1_signAt (p0 : Nat) (a1 : Int32) (s : dk_S) (K : Int32 → dk_S → Prop) : Prop :=
  ((a1 < 0 → K 35 s) ∧ (¬ a1 < 0 → ((144 ≤ a1 → K 35 s) ∧ (¬ 144 ≤ a1 → (vp_in a1 144 ∧ (narrow .char (.int (s p0 2 a1.toNatClampNeg)) = .int (s p0 2 a1.toNatClampNeg) ∧ K (s p0 2 a1.toNatClampNeg) s))))))
def wf_X8_isFree (a0 : Int32) (s : dk_S) (K : Int32 → dk_S → Prop) : Prop :=
  ((a0 = 46 → K 1 s) ∧ (¬ a0 = 46 → ((a0 = 126 → K 1 s) ∧ (¬ a0 = 126 → ((¬ a0 = 47 → K 0 s) ∧ (a0 = 47 → K 1 s))))))
def wf_X1_isFreeAt (p0 : Nat) (a1 : Int32) (s : dk_S) (K : Int32 → dk_S → Prop) : Prop :=
  wf_X1_signAt p0 a1 s (fun r2 s1 => wf_X8_isFree r2 s1 (fun r4 s3 => (narrow .boolean (.int r4) = .int r4 ∧ K r4 s3)))
def wf_X0_layIn_25 (p1 : Nat) (K : dk_S → Prop) : Nat → Int32 → dk_S → Prop
  | 0, _, _ => False
  | n + 1, x2, s => ((24 ≤ x2 → K s) ∧ (¬ 24 ≤ x2 → wf_X8_at 0 46 24 x2 s (fun r7 s6 => ((r7 = (-2) → ∀ v8 : Int32, v8 = x2 + 1 → wf_X0_layIn_25 p1 K n v8 s6) ∧ (¬ r7 = (-2) → ((¬ r7 = (-1) → wf_X8_put p1 25 24 x2 r7 s6 (fun s9 => ∀ v10 : Int32, v10 = x2 + 1 → wf_X0_layIn_25 p1 K n v10 s9)) ∧ (r7 = (-1) → wf_X8_put p1 25 24 x2 (s6 0 45 1) s6 (fun s11 => ∀ v12 : Int32, v12 = x2 + 1 → wf_X0_layIn_25 p1 K n v12 s11))))))))
def wf_X0_layIn (p1 : Nat) (s : dk_S) (K : dk_S → Prop) : Prop :=
  (((s 0 45 1) = (-1) → K s) ∧ (¬ (s 0 45 1) = (-1) → wf_X1_isFreeAt p1 (s 0 45 1) s (fun r2 s1 => ((¬ r2 = 0 → ∃ nn3 : Nat, wf_X0_layIn_25 p1 K nn3 0 s1) ∧ (r2 = 0 → K s1)))))
def wf_X1_copy (p0 : Nat) (p1 : Nat) (s : dk_S) (K : dk_S → Prop) : Prop :=
  (¬ (if (144 : Int32) < (144 : Int32) then (144 : Int32) else (144 : Int32)) < 0 ∧ (if (144 : Int32) < (144 : Int32) then (144 : Int32) else (144 : Int32)).toNatClampNeg ≤ 144 ∧ (if (144 : Int32) < (144 : Int32) then (144 : Int32) else (144 : Int32)).toNatClampNeg ≤ 144 ∧ (∀ i, i < (if (144 : Int32) < (144 : Int32) then (144 : Int32) else (144 : Int32)).toNatClampNeg → fits .char (.int (s p1 2 i)) = true) ∧ (∀ s1 : dk_S, s1 = dk_row s p0 2 (va_cpy (s p1 2) (s p0 2) 0 0 (if (144 : Int32) < (144 : Int32) then (144 : Int32) else (144 : Int32)).toNatClampNeg) → ∀ s2 : dk_S, s2 = dk_row s1 p0 1 (upd (s1 p0 1) 5 (-1)) → K s2))
def wf_X1_change (p0 : Nat) (a1 : Int32) (a2 : Int32) (s : dk_S) (K : dk_S → Prop) : Prop :=
  ((a1 < 0 → ∀ s1 : dk_S, s1 = dk_row s p0 1 (upd (s p0 1) 5 (-1)) → K s1) ∧ (¬ a1 < 0 → ((144 ≤ a1 → ∀ s2 : dk_S, s2 = dk_row s p0 1 (upd (s p0 1) 5 (-1)) → K s2) ∧ (¬ 144 ≤ a1 → (vp_in a1 144 ∧ (∀ s3 : dk_S, s3 = dk_row s p0 2 (upd (s p0 2) a1.toNatClampNeg (vp_nar .char a2)) → ∀ s4 : dk_S, s4 = dk_row s3 p0 1 (upd (s3 p0 1) 5 (-1)) → K s4))))))
def wf_X8_spot (a0 : Int32) (a1 : Int32) (s : dk_S) (K : Int32 → dk_S → Prop) : Prop :=
  K ((12 * a0) + a1) s
def wf_X1_seeEachOther_161 (p0 : Nat) (K : Int32 → dk_S → Prop) (B : Int32 → Int32 → Int32 → Int32 → Int32 → Int32 → Int32 → Int32 → Int32 → Int32 → Int32 → dk_S → Prop) (E167 : Int32 → Int32 → Int32 → Int32 → Int32 → Int32 → Int32 → Int32 → Int32 → Int32 → dk_S → Prop) (x1 : Int32) (x2 : Int32) (x3 : Int32) (x4 : Int32) (x5 : Int32) (x6 : Int32) (x7 : Int32) (x8 : Int32) (x9 : Int32) (x10 : Int32) (x11 : Int32) (s : dk_S) : Prop :=
  ∀ v35 : Int32, v35 = x11 + 1 → B x1 x2 x3 x4 x5 x6 x7 x8 x9 x10 v35 s
def wf_X1_seeEachOther_92 (p0 : Nat) (K : Int32 → dk_S → Prop) (E167 : Int32 → Int32 → Int32 → Int32 → Int32 → Int32 → Int32 → Int32 → Int32 → Int32 → dk_S → Prop) : Nat → Int32 → Int32 → Int32 → Int32 → Int32 → Int32 → Int32 → Int32 → Int32 → Int32 → Int32 → dk_S → Prop
  | 0, _, _, _, _, _, _, _, _, _, _, _, _ => False
  | n + 1, x1, x2, x3, x4, x5, x6, x7, x8, x9, x10, x11, s => ((x9 < x11 → E167 x1 x2 x3 x4 x5 x6 x7 x8 x9 x10 s) ∧ (¬ x9 < x11 → wf_X8_spot x10 x11 s (fun r26 s25 => ∀ v27 : Int32, v27 = (if 0 ≤ ((x5 * (x11 - x4)) - (x6 * (x10 - x3))) then ((x5 * (x11 - x4)) - (x6 * (x10 - x3))) else 0 - ((x5 * (x11 - x4)) - (x6 * (x10 - x3)))) → ((x7 ≤ (2 * v27) → wf_X1_seeEachOther_161 p0 K (wf_X1_seeEachOther_92 p0 K E167 n) E167 x1 x2 x3 x4 x5 x6 x7 x8 x9 x10 x11 s25) ∧ (¬ x7 ≤ (2 * v27) → ((r26 = x1 → wf_X1_seeEachOther_161 p0 K (wf_X1_seeEachOther_92 p0 K E167 n) E167 x1 x2 x3 x4 x5 x6 x7 x8 x9 x10 x11 s25) ∧ (¬ r26 = x1 → ((r26 = x2 → wf_X1_seeEachOther_161 p0 K (wf_X1_seeEachOther_92 p0 K E167 n) E167 x1 x2 x3 x4 x5 x6 x7 x8 x9 x10 x11 s25) ∧ (¬ r26 = x2 → wf_X1_isFreeAt p0 r26 s25 (fun r29 s28 => ((¬ r29 = 0 → wf_X1_seeEachOther_161 p0 K (wf_X1_seeEachOther_92 p0 K E167 n) E167 x1 x2 x3 x4 x5 x6 x7 x8 x9 x10 x11 s28) ∧ (r29 = 0 → K 0 s28))))))))))))
def wf_X1_seeEachOther_73 (p0 : Nat) (K : Int32 → dk_S → Prop) : Nat → Int32 → Int32 → Int32 → Int32 → Int32 → Int32 → Int32 → Int32 → Int32 → Int32 → dk_S → Prop
  | 0, _, _, _, _, _, _, _, _, _, _, _ => False
  | n + 1, x1, x2, x3, x4, x5, x6, x7, x8, x9, x10, s => ((x8 < x10 → K 1 s) ∧ (¬ x8 < x10 → ∀ v10 : Int32, v10 = (if (x4 + x6) < x4 then (x4 + x6) else x4) → ∃ nn23 : Nat, wf_X1_seeEachOther_92 p0 K (fun (w11 : Int32) (w12 : Int32) (w13 : Int32) (w14 : Int32) (w15 : Int32) (w16 : Int32) (w17 : Int32) (w18 : Int32) (w19 : Int32) (w20 : Int32) (s21 : dk_S) => ∀ v22 : Int32, v22 = w20 + 1 → wf_X1_seeEachOther_73 p0 K n w11 w12 w13 w14 w15 w16 w17 w18 w19 v22 s21) nn23 x1 x2 x3 x4 x5 x6 x7 x8 x9 x10 v10 s))
def wf_X1_seeEachOther (p0 : Nat) (a1 : Int32) (a2 : Int32) (s : dk_S) (K : Int32 → dk_S → Prop) : Prop :=
  ∀ v1 : Int32, v1 = a1 / 12 → ∀ v2 : Int32, v2 = a1 - a1 / 12 * 12 → ∀ v3 : Int32, v3 = (a2 / 12) - v1 → ∀ v4 : Int32, v4 = (a2 - a2 / 12 * 12) - v2 → ∀ v5 : Int32, v5 = (if 0 ≤ v3 then v3 else 0 - v3) + (if 0 ≤ v4 then v4 else 0 - v4) → ∀ v6 : Int32, v6 = (if v1 < (v1 + v3) then (v1 + v3) else v1) → ∀ v7 : Int32, v7 = (if v2 < (v2 + v4) then (v2 + v4) else v2) → ∀ v8 : Int32, v8 = (if (v1 + v3) < v1 then (v1 + v3) else v1) → ∃ nn9 : Nat, wf_X1_seeEachOther_73 p0 K nn9 a1 a2 v1 v2 v3 v4 v5 v6 v7 v8 s
def wf_X8_beside (a0 : Int32) (a1 : Int32) (s : dk_S) (K : Int32 → dk_S → Prop) : Prop :=
  ((a1 = 0 → ((¬ (a0 - a0 / 12 * 12) = 0 → K (a0 - 1) s) ∧ ((a0 - a0 / 12 * 12) = 0 → K (-1) s))) ∧ (¬ a1 = 0 → ((a1 = 1 → ((144 ≤ (a0 + 12) → K (-1) s) ∧ (¬ 144 ≤ (a0 + 12) → K (a0 + 12) s))) ∧ (¬ a1 = 1 → ((a1 = 2 → ((¬ (a0 - a0 / 12 * 12) = 11 → K (a0 + 1) s) ∧ ((a0 - a0 / 12 * 12) = 11 → K (-1) s))) ∧ (¬ a1 = 2 → ((a1 = 3 → ((a0 < 12 → K (-1) s) ∧ (¬ a0 < 12 → K (a0 - 12) s))) ∧ (¬ a1 = 3 → K (-1) s))))))))
def wf_X1_tollOf (a0 : Int32) (a1 : Int32) (a2 : Int32) (s : dk_S) (K : Int32 → dk_S → Prop) : Prop :=
  ((a0 = 43 → K a1 s) ∧ (¬ a0 = 43 → ((a0 = 46 → K 1 s) ∧ (¬ a0 = 46 → ((a0 = 47 → K 1 s) ∧ (¬ a0 = 47 → ((a0 = 48 → ((¬ ((a2 >>> ((a0 - 48) &&& 31)) &&& 1) = 1 → K 0 s) ∧ (((a2 >>> ((a0 - 48) &&& 31)) &&& 1) = 1 → K a1 s))) ∧ (¬ a0 = 48 → ((a0 = 49 → ((¬ ((a2 >>> ((a0 - 48) &&& 31)) &&& 1) = 1 → K 0 s) ∧ (((a2 >>> ((a0 - 48) &&& 31)) &&& 1) = 1 → K a1 s))) ∧ (¬ a0 = 49 → ((a0 = 50 → ((¬ ((a2 >>> ((a0 - 48) &&& 31)) &&& 1) = 1 → K 0 s) ∧ (((a2 >>> ((a0 - 48) &&& 31)) &&& 1) = 1 → K a1 s))) ∧ (¬ a0 = 50 → ((a0 = 126 → K 1 s) ∧ (¬ a0 = 126 → K 0 s))))))))))))))
def wf_X1_flood_115 (p0 : Nat) (p1 : Nat) (q1 : Nat) (n1 : Nat) (K : dk_S → Prop) (E215 : Int32 → Int32 → Int32 → Int32 → Int32 → dk_S → Prop) : Nat → Int32 → Int32 → Int32 → Int32 → Int32 → Int32 → Int32 → Int32 → Int32 → dk_S → Prop
  | 0, _, _, _, _, _, _, _, _, _, _ => False
  | n + 1, x3, x4, x5, x6, x7, x8, x9, x10, x11, s => ((4 ≤ x11 → E215 x3 x4 x5 x6 x7 s) ∧ (¬ 4 ≤ x11 → ((¬ x10 = 0 → E215 x3 x4 x5 x6 x7 s) ∧ (x10 = 0 → ((x5 ≤ x9 → E215 x3 x4 x5 x6 x7 s) ∧ (¬ x5 ≤ x9 → wf_X8_beside x8 x11 s (fun r34 s33 => wf_X1_signAt p0 r34 s33 (fun r36 s35 => wf_X1_tollOf r36 x3 x4 s35 (fun r38 s37 => ((r38 ≤ 0 → ∀ v39 : Int32, v39 = x11 + 1 → wf_X1_flood_115 p0 p1 q1 n1 K E215 n x3 x4 x5 x6 x7 x8 x9 x10 v39 s37) ∧ (¬ r38 ≤ 0 → wf_X8_at p1 q1 n1 r34 s37 (fun r41 s40 => ((¬ r41 = (-1) → ∀ v42 : Int32, v42 = x11 + 1 → wf_X1_flood_115 p0 p1 q1 n1 K E215 n x3 x4 x5 x6 x7 x8 x9 x10 v42 s40) ∧ (r41 = (-1) → wf_X8_put p1 q1 n1 r34 (x9 + r38) s40 (fun s43 => wf_X8_put p0 4 144 r34 (r38 - 1) s43 (fun s44 => wf_X8_put p0 3 432 x6 r34 s44 (fun s45 => ∀ v46 : Int32, v46 = x6 + 1 → ∀ v47 : Int32, v47 = x11 + 1 → wf_X1_flood_115 p0 p1 q1 n1 K E215 n x3 x4 x5 v46 x7 x8 x9 x10 v47 s45)))))))))))))))))
def wf_X1_flood_35 (p0 : Nat) (p1 : Nat) (q1 : Nat) (n1 : Nat) (K : dk_S → Prop) : Nat → Int32 → Int32 → Int32 → Int32 → Int32 → dk_S → Prop
  | 0, _, _, _, _, _, _ => False
  | n + 1, x3, x4, x5, x6, x7, s => ((x6 ≤ x7 → K s) ∧ (¬ x6 ≤ x7 → ((432 ≤ x7 → K s) ∧ (¬ 432 ≤ x7 → (vp_in x7 432 ∧ ∀ v6 : Int32, v6 = s p0 3 x7.toNatClampNeg → wf_X8_at p1 q1 n1 v6 s (fun r8 s7 => wf_X8_at p0 4 144 v6 s7 (fun r10 s9 => ((r10 ≤ 0 → ∃ nn18 : Nat, wf_X1_flood_115 p0 p1 q1 n1 K (fun (w11 : Int32) (w12 : Int32) (w13 : Int32) (w14 : Int32) (w15 : Int32) (s16 : dk_S) => ∀ v17 : Int32, v17 = w15 + 1 → wf_X1_flood_35 p0 p1 q1 n1 K n w11 w12 w13 w14 v17 s16) nn18 x3 x4 x5 x6 x7 v6 r8 r10 0 s9) ∧ (¬ r10 ≤ 0 → wf_X8_put p0 4 144 v6 (r10 - 1) s9 (fun s19 => wf_X8_put p0 3 432 x6 v6 s19 (fun s20 => ∀ v21 : Int32, v21 = x6 + 1 → ∃ nn29 : Nat, wf_X1_flood_115 p0 p1 q1 n1 K (fun (w22 : Int32) (w23 : Int32) (w24 : Int32) (w25 : Int32) (w26 : Int32) (s27 : dk_S) => ∀ v28 : Int32, v28 = w26 + 1 → wf_X1_flood_35 p0 p1 q1 n1 K n w22 w23 w24 w25 v28 s27) nn29 x3 x4 x5 v21 x7 v6 r8 r10 0 s20)))))))))))
def wf_X1_flood (p0 : Nat) (p1 : Nat) (q1 : Nat) (n1 : Nat) (a2 : Int32) (a3 : Int32) (a4 : Int32) (a5 : Int32) (s : dk_S) (K : dk_S → Prop) : Prop :=
  wf_J7_fill_53178 p1 q1 n1 (-1) s (fun s1 => wf_X8_put p1 q1 n1 a2 0 s1 (fun s2 => wf_X8_put p0 4 144 a2 0 s2 (fun s3 => wf_X8_put p0 3 432 0 a2 s3 (fun s4 => ∃ nn5 : Nat, wf_X1_flood_35 p0 p1 q1 n1 K nn5 a3 a4 a5 1 0 s4))))
def wf_X1_aimAt (p0 : Nat) (a1 : Int32) (s : dk_S) (K : dk_S → Prop) : Prop :=
  (((s p0 1 5) = a1 → K s) ∧ (¬ (s p0 1 5) = a1 → wf_X1_flood p0 p0 6 144 a1 1 0 1000000 s (fun s1 => ∀ s2 : dk_S, s2 = dk_row s1 p0 1 (upd (s1 p0 1) 5 a1) → K s2)))
def wf_X1_isLike_2 (p0 : Nat) (p1 : Nat) (K : Int32 → dk_S → Prop) : Nat → Int32 → dk_S → Prop
  | 0, _, _ => False
  | n + 1, x2, s => ((144 ≤ x2 → K 1 s) ∧ (¬ 144 ≤ x2 → wf_X1_signAt p0 x2 s (fun r3 s2 => wf_X1_signAt p1 x2 s2 (fun r5 s4 => ((r3 = r5 → ∀ v6 : Int32, v6 = x2 + 1 → wf_X1_isLike_2 p0 p1 K n v6 s4) ∧ (¬ r3 = r5 → K 0 s4))))))
def wf_X1_isLike (p0 : Nat) (p1 : Nat) (s : dk_S) (K : Int32 → dk_S → Prop) : Prop :=
  ∃ nn1 : Nat, wf_X1_isLike_2 p0 p1 K nn1 0 s
def wf_X8_copyRow (p0 : Nat) (q0 : Nat) (n0 : Nat) (p1 : Nat) (q1 : Nat) (n1 : Nat) (s : dk_S) (K : dk_S → Prop) : Prop :=
  (¬ (if (Int32.ofNat n1) < (Int32.ofNat n0) then (Int32.ofNat n1) else (Int32.ofNat n0)) < 0 ∧ (if (Int32.ofNat n1) < (Int32.ofNat n0) then (Int32.ofNat n1) else (Int32.ofNat n0)).toNatClampNeg ≤ n0 ∧ (if (Int32.ofNat n1) < (Int32.ofNat n0) then (Int32.ofNat n1) else (Int32.ofNat n0)).toNatClampNeg ≤ n1 ∧ (∀ i, i < (if (Int32.ofNat n1) < (Int32.ofNat n0) then (Int32.ofNat n1) else (Int32.ofNat n0)).toNatClampNeg → fits .int (.int (s p0 q0 i)) = true) ∧ (∀ s1 : dk_S, s1 = dk_row s p1 q1 (va_cpy (s p0 q0) (s p1 q1) 0 0 (if (Int32.ofNat n1) < (Int32.ofNat n0) then (Int32.ofNat n1) else (Int32.ofNat n0)).toNatClampNeg) → K s1))
def wf_X2_copy (p0 : Nat) (p1 : Nat) (s : dk_S) (K : dk_S → Prop) : Prop :=
  wf_X8_copyRow p1 14 8 p0 14 8 s (fun s1 => wf_X8_copyRow p1 15 8 p0 15 8 s1 (fun s2 => wf_X8_copyRow p1 16 8 p0 16 8 s2 (fun s3 => wf_X8_copyRow p1 17 8 p0 17 8 s3 (fun s4 => wf_X8_copyRow p1 18 8 p0 18 8 s4 (fun s5 => wf_X8_copyRow p1 19 8 p0 19 8 s5 (fun s6 => wf_X8_copyRow p1 20 8 p0 20 8 s6 (fun s7 => wf_X8_copyRow p1 21 8 p0 21 8 s7 (fun s8 => wf_X8_copyRow p1 22 8 p0 22 8 s8 (fun s9 => ∀ s10 : dk_S, s10 = dk_row s9 p0 13 (upd (s9 p0 13) 9 (s9 p1 13 9)) → K s10)))))))))
def wf_X2_tell (p0 : Nat) (a1 : Int32) (a2 : Int32) (a3 : Int32) (a4 : Int32) (a5 : Int32) (s : dk_S) (K : dk_S → Prop) : Prop :=
  wf_X8_put p0 14 8 a1 a2 s (fun s1 => wf_X8_put p0 15 8 a1 a3 s1 (fun s2 => wf_X8_put p0 16 8 a1 a4 s2 (fun s3 => wf_X8_put p0 17 8 a1 a5 s3 (fun s4 => wf_X8_put p0 18 8 a1 a5 s4 (fun s5 => K s5)))))
def wf_X2_lives (p0 : Nat) (a1 : Int32) (s : dk_S) (K : Int32 → dk_S → Prop) : Prop :=
  wf_X8_at p0 18 8 a1 s (fun r2 s1 => ((r2 ≤ 0 → K 0 s1) ∧ (¬ r2 ≤ 0 → K 1 s1)))
def wf_X2_living_4 (p0 : Nat) (K : Int32 → dk_S → Prop) : Nat → Int32 → Int32 → dk_S → Prop
  | 0, _, _, _ => False
  | n + 1, x2, x3, s => (((s p0 13 9) ≤ x3 → K x2 s) ∧ (¬ (s p0 13 9) ≤ x3 → wf_X2_lives p0 x3 s (fun r3 s2 => ((r3 = 0 → ∀ v4 : Int32, v4 = x3 + 1 → wf_X2_living_4 p0 K n x2 v4 s2) ∧ (¬ r3 = 0 → ∀ v5 : Int32, v5 = x2 + 1 → ∀ v6 : Int32, v6 = x3 + 1 → wf_X2_living_4 p0 K n v5 v6 s2)))))
def wf_X2_living (p0 : Nat) (a1 : Int32) (s : dk_S) (K : Int32 → dk_S → Prop) : Prop :=
  ∃ nn1 : Nat, wf_X2_living_4 p0 K nn1 0 a1 s
def wf_X2_healthOfLiving_4 (p0 : Nat) (K : Int32 → dk_S → Prop) : Nat → Int32 → Int32 → dk_S → Prop
  | 0, _, _, _ => False
  | n + 1, x1, x2, s => (((s p0 13 9) ≤ x2 → K x1 s) ∧ (¬ (s p0 13 9) ≤ x2 → wf_X8_at p0 18 8 x2 s (fun r3 s2 => ∀ v4 : Int32, v4 = x1 + (if (0 : Int32) < r3 then r3 else (0 : Int32)) → ∀ v5 : Int32, v5 = x2 + 1 → wf_X2_healthOfLiving_4 p0 K n v4 v5 s2)))
def wf_X2_healthOfLiving (p0 : Nat) (s : dk_S) (K : Int32 → dk_S → Prop) : Prop :=
  ∃ nn1 : Nat, wf_X2_healthOfLiving_4 p0 K nn1 0 0 s
def wf_X2_livingAt_2 (p0 : Nat) (K : Int32 → dk_S → Prop) : Nat → Int32 → Int32 → dk_S → Prop
  | 0, _, _, _ => False
  | n + 1, x1, x2, s => (((s p0 13 9) ≤ x2 → K (-1) s) ∧ (¬ (s p0 13 9) ≤ x2 → wf_X8_at p0 18 8 x2 s (fun r3 s2 => ((r3 ≤ 0 → ∀ v4 : Int32, v4 = x2 + 1 → wf_X2_livingAt_2 p0 K n x1 v4 s2) ∧ (¬ r3 ≤ 0 → wf_X8_at p0 14 8 x2 s2 (fun r6 s5 => ((¬ r6 = x1 → ∀ v7 : Int32, v7 = x2 + 1 → wf_X2_livingAt_2 p0 K n x1 v7 s5) ∧ (r6 = x1 → K x2 s5))))))))
def wf_X2_livingAt (p0 : Nat) (a1 : Int32) (s : dk_S) (K : Int32 → dk_S → Prop) : Prop :=
  ∃ nn1 : Nat, wf_X2_livingAt_2 p0 K nn1 a1 0 s
def wf_X2_allStandApart_2 (p0 : Nat) (K : Int32 → dk_S → Prop) : Nat → Int32 → dk_S → Prop
  | 0, _, _ => False
  | n + 1, x1, s => (((s p0 13 9) ≤ x1 → K 1 s) ∧ (¬ (s p0 13 9) ≤ x1 → wf_X8_at p0 14 8 x1 s (fun r3 s2 => wf_X2_livingAt p0 r3 s2 (fun r5 s4 => ((r5 = x1 → ∀ v6 : Int32, v6 = x1 + 1 → wf_X2_allStandApart_2 p0 K n v6 s4) ∧ (¬ r5 = x1 → K 0 s4))))))
def wf_X2_allStandApart (p0 : Nat) (s : dk_S) (K : Int32 → dk_S → Prop) : Prop :=
  ∃ nn1 : Nat, wf_X2_allStandApart_2 p0 K nn1 0 s
def wf_X2_isWeak (p0 : Nat) (a1 : Int32) (s : dk_S) (K : Int32 → dk_S → Prop) : Prop :=
  wf_X8_at p0 18 8 a1 s (fun r2 s1 => wf_X8_at p0 17 8 a1 s1 (fun r4 s3 => ((r4 ≤ (3 * r2) → K 0 s3) ∧ (¬ r4 ≤ (3 * r2) → K 1 s3))))
def wf_X2_harm (p0 : Nat) (a1 : Int32) (a2 : Int32) (s : dk_S) (K : dk_S → Prop) : Prop :=
  wf_X8_at p0 18 8 a1 s (fun r2 s1 => wf_X8_put p0 18 8 a1 (r2 - a2) s1 (fun s3 => K s3))
def wf_X2_heal (p0 : Nat) (a1 : Int32) (a2 : Int32) (s : dk_S) (K : dk_S → Prop) : Prop :=
  wf_X8_at p0 17 8 a1 s (fun r2 s1 => wf_X8_at p0 18 8 a1 s1 (fun r4 s3 => wf_X8_put p0 18 8 a1 (if (r4 + a2) < r2 then (r4 + a2) else r2) s3 (fun s5 => K s5)))
def wf_X2_hasten (p0 : Nat) (a1 : Int32) (a2 : Int32) (s : dk_S) (K : dk_S → Prop) : Prop :=
  wf_X8_put p0 20 8 a1 a2 s (fun s1 => wf_X8_put p0 21 8 a1 12 s1 (fun s2 => K s2))
def wf_X2_gainEnergy_67 (p0 : Nat) (K : dk_S → Prop) (B : Int32 → dk_S → Prop) (x1 : Int32) (s : dk_S) : Prop :=
  wf_X8_at p0 21 8 x1 s (fun r14 s13 => wf_X8_put p0 21 8 x1 (if (0 : Int32) < (r14 - 1) then (r14 - 1) else (0 : Int32)) s13 (fun s15 => ∀ v16 : Int32, v16 = x1 + 1 → B v16 s15))
def wf_X2_gainEnergy_48 (p0 : Nat) (K : dk_S → Prop) (B : Int32 → dk_S → Prop) (x1 : Int32) (y0 : Int32) (s : dk_S) : Prop :=
  wf_X8_at p0 19 8 x1 s (fun r18 s17 => wf_X8_put p0 19 8 x1 (r18 + y0) s17 (fun s19 => wf_X2_gainEnergy_67 p0 K B x1 s19))
def wf_X2_gainEnergy_2 (p0 : Nat) (K : dk_S → Prop) : Nat → Int32 → dk_S → Prop
  | 0, _, _ => False
  | n + 1, x1, s => (((s p0 13 9) ≤ x1 → K s) ∧ (¬ (s p0 13 9) ≤ x1 → wf_X2_lives p0 x1 s (fun r3 s2 => ((r3 = 0 → wf_X2_gainEnergy_67 p0 K (wf_X2_gainEnergy_2 p0 K n) x1 s2) ∧ (¬ r3 = 0 → wf_X8_at p0 21 8 x1 s2 (fun r5 s4 => ((r5 ≤ 0 → wf_X8_at p0 15 8 x1 s4 (fun r7 s6 => wf_X2_gainEnergy_48 p0 K (wf_X2_gainEnergy_2 p0 K n) x1 r7 s6)) ∧ (¬ r5 ≤ 0 → wf_X8_at p0 20 8 x1 s4 (fun r9 s8 => wf_X2_gainEnergy_48 p0 K (wf_X2_gainEnergy_2 p0 K n) x1 r9 s8)))))))))
def wf_X2_gainEnergy (p0 : Nat) (s : dk_S) (K : dk_S → Prop) : Prop :=
  ∃ nn1 : Nat, wf_X2_gainEnergy_2 p0 K nn1 0 s
def wf_X2_spendTurn (p0 : Nat) (a1 : Int32) (s : dk_S) (K : dk_S → Prop) : Prop :=
  wf_X8_at p0 19 8 a1 s (fun r2 s1 => wf_X8_put p0 19 8 a1 (r2 - 12) s1 (fun s3 => K s3))
def wf_X2_nextToAct_7 (p0 : Nat) (K : Int32 → dk_S → Prop) : Nat → Int32 → Int32 → Int32 → dk_S → Prop
  | 0, _, _, _, _ => False
  | n + 1, x1, x2, x3, s => (((s p0 13 9) ≤ x3 → K x1 s) ∧ (¬ (s p0 13 9) ≤ x3 → wf_X2_lives p0 x3 s (fun r3 s2 => ((r3 = 0 → ∀ v4 : Int32, v4 = x3 + 1 → wf_X2_nextToAct_7 p0 K n x1 x2 v4 s2) ∧ (¬ r3 = 0 → wf_X8_at p0 19 8 x3 s2 (fun r6 s5 => ((r6 ≤ x2 → ∀ v7 : Int32, v7 = x3 + 1 → wf_X2_nextToAct_7 p0 K n x1 x2 v7 s5) ∧ (¬ r6 ≤ x2 → wf_X8_at p0 19 8 x3 s5 (fun r9 s8 => ∀ v10 : Int32, v10 = x3 + 1 → wf_X2_nextToAct_7 p0 K n x3 r9 v10 s8)))))))))
def wf_X2_nextToAct (p0 : Nat) (s : dk_S) (K : Int32 → dk_S → Prop) : Prop :=
  ∃ nn1 : Nat, wf_X2_nextToAct_7 p0 K nn1 (-1) 11 0 s
def wf_X2_isLike_2 (p0 : Nat) (p1 : Nat) (K : Int32 → dk_S → Prop) (E56 : dk_S → Prop) : Nat → Int32 → dk_S → Prop
  | 0, _, _ => False
  | n + 1, x2, s => (((s p0 13 9) ≤ x2 → E56 s) ∧ (¬ (s p0 13 9) ≤ x2 → wf_X8_at p0 14 8 x2 s (fun r5 s4 => wf_X8_at p1 14 8 x2 s4 (fun r7 s6 => ((¬ r5 = r7 → K 0 s6) ∧ (r5 = r7 → wf_X8_at p0 18 8 x2 s6 (fun r9 s8 => wf_X8_at p1 18 8 x2 s8 (fun r11 s10 => ((r9 = r11 → ∀ v12 : Int32, v12 = x2 + 1 → wf_X2_isLike_2 p0 p1 K E56 n v12 s10) ∧ (¬ r9 = r11 → K 0 s10))))))))))
def wf_X2_isLike (p0 : Nat) (p1 : Nat) (s : dk_S) (K : Int32 → dk_S → Prop) : Prop :=
  ∃ nn3 : Nat, wf_X2_isLike_2 p0 p1 K (fun (s1 : dk_S) => ((¬ (s1 p0 13 9) = (s1 p1 13 9) → K 0 s1) ∧ ((s1 p0 13 9) = (s1 p1 13 9) → K 1 s1))) nn3 0 s
def wf_X3_copy (p0 : Nat) (p1 : Nat) (s : dk_S) (K : dk_S → Prop) : Prop :=
  wf_X8_copyRow p1 8 8 p0 8 8 s (fun s1 => wf_X8_copyRow p1 9 8 p0 9 8 s1 (fun s2 => wf_X8_copyRow p1 10 8 p0 10 8 s2 (fun s3 => wf_X8_copyRow p1 11 8 p0 11 8 s3 (fun s4 => wf_X8_copyRow p1 12 8 p0 12 8 s4 (fun s5 => K s5)))))
def wf_X3_tell (p0 : Nat) (a1 : Int32) (a2 : Int32) (a3 : Int32) (s : dk_S) (K : dk_S → Prop) : Prop :=
  wf_X8_put p0 8 8 a1 a2 s (fun s1 => ((a3 = 0 → wf_X8_put p0 9 8 a1 0 s1 (fun s2 => K s2)) ∧ (¬ a3 = 0 → wf_X8_put p0 9 8 a1 1 s1 (fun s3 => K s3))))
def wf_X3_tellEffect (p0 : Nat) (a1 : Int32) (a2 : Int32) (a3 : Int32) (a4 : Int32) (s : dk_S) (K : dk_S → Prop) : Prop :=
  wf_X8_put p0 10 8 a1 a2 s (fun s1 => wf_X8_put p0 11 8 a1 a3 s1 (fun s2 => wf_X8_put p0 12 8 a1 a4 s2 (fun s3 => K s3)))
def wf_X3_effectOf (p0 : Nat) (a1 : Int32) (s : dk_S) (K : Int32 → dk_S → Prop) : Prop :=
  wf_X8_at p0 10 8 a1 s (fun r2 s1 => (narrow .char (.int ((r2.toUInt32 % 65536).toInt32)) = .int ((r2.toUInt32 % 65536).toInt32) ∧ K ((r2.toUInt32 % 65536).toInt32) s1))
def wf_X3_isWooden (p0 : Nat) (a1 : Int32) (s : dk_S) (K : Int32 → dk_S → Prop) : Prop :=
  wf_X8_at p0 9 8 a1 s (fun r2 s1 => ((¬ r2 = 1 → K 0 s1) ∧ (r2 = 1 → K 1 s1)))
def wf_X4_copy (p0 : Nat) (p1 : Nat) (s : dk_S) (K : dk_S → Prop) : Prop :=
  wf_X8_copyRow p1 27 4 p0 27 4 s (fun s1 => wf_X8_copyRow p1 28 4 p0 28 4 s1 (fun s2 => ∀ s3 : dk_S, s3 = dk_row s2 p0 26 (upd (s2 p0 26) 2 (s2 p1 26 2)) → K s3))
def wf_X4_add (p0 : Nat) (a1 : Int32) (a2 : Int32) (s : dk_S) (K : Int32 → dk_S → Prop) : Prop :=
  wf_X8_put p0 27 4 (s p0 26 2) a1 s (fun s1 => wf_X8_put p0 28 4 (s1 p0 26 2) a2 s1 (fun s2 => ∀ s3 : dk_S, s3 = dk_row s2 p0 26 (upd (s2 p0 26) 2 ((s2 p0 26 2) + 1)) → K (s3 p0 26 2) s3))
def wf_X4_light_2 (p0 : Nat) (p2 : Nat) (K : Int32 → dk_S → Prop) : Nat → Int32 → Int32 → dk_S → Prop
  | 0, _, _, _ => False
  | n + 1, x1, x3, s => (((s p0 26 2) ≤ x3 → K 0 s) ∧ (¬ (s p0 26 2) ≤ x3 → wf_X8_at p0 27 4 x3 s (fun r3 s2 => ∀ v4 : Int32, v4 = (r3 / 12) - (x1 / 12) → ∀ v5 : Int32, v5 = (r3 - r3 / 12 * 12) - (x1 - x1 / 12 * 12) → wf_X8_at p0 28 4 x3 s2 (fun r7 s6 => (((r7 * r7) < ((v4 * v4) + (v5 * v5)) → ∀ v8 : Int32, v8 = x3 + 1 → wf_X4_light_2 p0 p2 K n x1 v8 s6) ∧ (¬ (r7 * r7) < ((v4 * v4) + (v5 * v5)) → wf_X1_seeEachOther p2 r3 x1 s6 (fun r10 s9 => ((r10 = 0 → ∀ v11 : Int32, v11 = x3 + 1 → wf_X4_light_2 p0 p2 K n x1 v11 s9) ∧ (¬ r10 = 0 → K 1 s9)))))))))
def wf_X4_light (p0 : Nat) (a1 : Int32) (p2 : Nat) (s : dk_S) (K : Int32 → dk_S → Prop) : Prop :=
  ∃ nn1 : Nat, wf_X4_light_2 p0 p2 K nn1 a1 0 s
def wf_X5_add (a1 : Int32) (a2 : Int32) (a3 : Int32) (s : dk_S) (K : dk_S → Prop) : Prop :=
  ((512 ≤ (s 0 41 3) → K s) ∧ (¬ 512 ≤ (s 0 41 3) → wf_X8_put 0 42 512 (s 0 41 3) a1 s (fun s1 => wf_X8_put 0 43 512 (s1 0 41 3) a2 s1 (fun s2 => wf_X8_put 0 44 512 (s2 0 41 3) a3 s2 (fun s3 => ∀ s4 : dk_S, s4 = dk_row s3 0 41 (upd (s3 0 41) 3 ((s3 0 41 3) + 1)) → K s4)))))
def wf_X6_copy (p0 : Nat) (p1 : Nat) (s : dk_S) (K : dk_S → Prop) : Prop :=
  wf_X8_copyRow p1 24 24 p0 24 24 s (fun s1 => wf_X8_copyRow p1 25 24 p0 25 24 s1 (fun s2 => ∀ s3 : dk_S, s3 = dk_row s2 p0 23 (upd (s2 p0 23) 2 (s2 p1 23 2)) → K s3))
def wf_X6_add (p0 : Nat) (a1 : Int32) (a2 : Int32) (s : dk_S) (K : Int32 → dk_S → Prop) : Prop :=
  ∀ v1 : Int32, v1 = s p0 23 2 → wf_X8_put p0 24 24 v1 a1 s (fun s2 => wf_X8_put p0 25 24 v1 a2 s2 (fun s3 => ∀ s4 : dk_S, s4 = dk_row s3 p0 23 (upd (s3 p0 23) 2 (v1 + 1)) → K v1 s4))
def wf_X6_isWithin_5 (p0 : Nat) (K : Int32 → dk_S → Prop) : Nat → Int32 → Int32 → Int32 → dk_S → Prop
  | 0, _, _, _, _ => False
  | n + 1, x2, x3, x4, s => ((24 < x4 → K 0 s) ∧ (¬ 24 < x4 → ((x3 = (-1) → K 0 s) ∧ (¬ x3 = (-1) → ((¬ x3 = x2 → wf_X6_bagOf p0 x3 s (fun r3 s2 => ∀ v4 : Int32, v4 = x4 + 1 → wf_X6_isWithin_5 p0 K n x2 r3 v4 s2)) ∧ (x3 = x2 → K 1 s))))))
def wf_X6_isWithin (p0 : Nat) (a1 : Int32) (a2 : Int32) (s : dk_S) (K : Int32 → dk_S → Prop) : Prop :=
  ∃ nn1 : Nat, wf_X6_isWithin_5 p0 K nn1 a2 a1 0 s
def wf_X6_wholeWeight_5 (p0 : Nat) (p2 : Nat) (K : Int32 → dk_S → Prop) : Nat → Int32 → Int32 → Int32 → dk_S → Prop
  | 0, _, _, _, _ => False
  | n + 1, x1, x3, x4, s => (((s p0 23 2) ≤ x4 → K x3 s) ∧ (¬ (s p0 23 2) ≤ x4 → wf_X6_isWithin p0 x4 x1 s (fun r3 s2 => ((r3 = 0 → ∀ v4 : Int32, v4 = x4 + 1 → wf_X6_wholeWeight_5 p0 p2 K n x1 x3 v4 s2) ∧ (¬ r3 = 0 → wf_X8_at p0 24 24 x4 s2 (fun r6 s5 => wf_X8_at p2 8 8 r6 s5 (fun r8 s7 => ∀ v9 : Int32, v9 = x3 + r8 → ∀ v10 : Int32, v10 = x4 + 1 → wf_X6_wholeWeight_5 p0 p2 K n x1 v9 v10 s7)))))))
def wf_X6_wholeWeight (p0 : Nat) (a1 : Int32) (p2 : Nat) (s : dk_S) (K : Int32 → dk_S → Prop) : Prop :=
  ∃ nn1 : Nat, wf_X6_wholeWeight_5 p0 p2 K nn1 a1 0 0 s
def wf_X6_carriedWeight_4 (p0 : Nat) (p1 : Nat) (K : Int32 → dk_S → Prop) : Nat → Int32 → Int32 → dk_S → Prop
  | 0, _, _, _ => False
  | n + 1, x2, x3, s => (((s p0 23 2) ≤ x3 → K x2 s) ∧ (¬ (s p0 23 2) ≤ x3 → wf_X6_outerPlace p0 x3 s (fun r3 s2 => ((¬ r3 = (-1) → ∀ v4 : Int32, v4 = x3 + 1 → wf_X6_carriedWeight_4 p0 p1 K n x2 v4 s2) ∧ (r3 = (-1) → wf_X8_at p0 24 24 x3 s2 (fun r6 s5 => wf_X8_at p1 8 8 r6 s5 (fun r8 s7 => ∀ v9 : Int32, v9 = x2 + r8 → ∀ v10 : Int32, v10 = x3 + 1 → wf_X6_carriedWeight_4 p0 p1 K n v9 v10 s7)))))))
def wf_X6_carriedWeight (p0 : Nat) (p1 : Nat) (s : dk_S) (K : Int32 → dk_S → Prop) : Prop :=
  ∃ nn1 : Nat, wf_X6_carriedWeight_4 p0 p1 K nn1 0 0 s
def wf_X6_countAt_4 (p0 : Nat) (K : Int32 → dk_S → Prop) : Nat → Int32 → Int32 → Int32 → dk_S → Prop
  | 0, _, _, _, _ => False
  | n + 1, x1, x2, x3, s => (((s p0 23 2) ≤ x3 → K x2 s) ∧ (¬ (s p0 23 2) ≤ x3 → wf_X8_at p0 25 24 x3 s (fun r3 s2 => ((¬ r3 = x1 → ∀ v4 : Int32, v4 = x3 + 1 → wf_X6_countAt_4 p0 K n x1 x2 v4 s2) ∧ (r3 = x1 → ∀ v5 : Int32, v5 = x2 + 1 → ∀ v6 : Int32, v6 = x3 + 1 → wf_X6_countAt_4 p0 K n x1 v5 v6 s2)))))
def wf_X6_countAt (p0 : Nat) (a1 : Int32) (s : dk_S) (K : Int32 → dk_S → Prop) : Prop :=
  ∃ nn1 : Nat, wf_X6_countAt_4 p0 K nn1 a1 0 0 s
def wf_X6_moveAll_2 (p0 : Nat) (K : dk_S → Prop) : Nat → Int32 → Int32 → Int32 → dk_S → Prop
  | 0, _, _, _, _ => False
  | n + 1, x1, x2, x3, s => (((s p0 23 2) ≤ x3 → K s) ∧ (¬ (s p0 23 2) ≤ x3 → wf_X8_at p0 25 24 x3 s (fun r3 s2 => ((¬ r3 = x1 → ∀ v4 : Int32, v4 = x3 + 1 → wf_X6_moveAll_2 p0 K n x1 x2 v4 s2) ∧ (r3 = x1 → wf_X8_put p0 25 24 x3 x2 s2 (fun s5 => ∀ v6 : Int32, v6 = x3 + 1 → wf_X6_moveAll_2 p0 K n x1 x2 v6 s5))))))
def wf_X6_moveAll (p0 : Nat) (a1 : Int32) (a2 : Int32) (s : dk_S) (K : dk_S → Prop) : Prop :=
  ∃ nn1 : Nat, wf_X6_moveAll_2 p0 K nn1 a1 a2 0 s
def wf_X6_hasInHands_2 (p0 : Nat) (K : Int32 → dk_S → Prop) : Nat → Int32 → Int32 → dk_S → Prop
  | 0, _, _, _ => False
  | n + 1, x1, x2, s => (((s p0 23 2) ≤ x2 → K 0 s) ∧ (¬ (s p0 23 2) ≤ x2 → wf_X8_at p0 24 24 x2 s (fun r3 s2 => ((¬ r3 = x1 → ∀ v4 : Int32, v4 = x2 + 1 → wf_X6_hasInHands_2 p0 K n x1 v4 s2) ∧ (r3 = x1 → wf_X8_at p0 25 24 x2 s2 (fun r6 s5 => ((¬ r6 = (-1) → ∀ v7 : Int32, v7 = x2 + 1 → wf_X6_hasInHands_2 p0 K n x1 v7 s5) ∧ (r6 = (-1) → K 1 s5))))))))
def wf_X6_hasInHands (p0 : Nat) (a1 : Int32) (s : dk_S) (K : Int32 → dk_S → Prop) : Prop :=
  ∃ nn1 : Nat, wf_X6_hasInHands_2 p0 K nn1 a1 0 s
def wf_X6_keysAtHand_64 (p0 : Nat) (p1 : Nat) (q1 : Nat) (n1 : Nat) (K : Int32 → dk_S → Prop) (B : Int32 → Int32 → dk_S → Prop) (x2 : Int32) (x3 : Int32) (s : dk_S) : Prop :=
  ∀ v13 : Int32, v13 = x3 + 1 → B x2 v13 s
def wf_X6_keysAtHand_51 (p0 : Nat) (p1 : Nat) (q1 : Nat) (n1 : Nat) (K : Int32 → dk_S → Prop) (B : Int32 → Int32 → dk_S → Prop) (x2 : Int32) (x3 : Int32) (s : dk_S) : Prop :=
  wf_X8_at p0 24 24 x3 s (fun r15 s14 => ∀ v16 : Int32, v16 = x2 ||| (1 <<< (r15 &&& 31)) → wf_X6_keysAtHand_64 p0 p1 q1 n1 K B v16 x3 s14)
def wf_X6_keysAtHand_4 (p0 : Nat) (p1 : Nat) (q1 : Nat) (n1 : Nat) (K : Int32 → dk_S → Prop) : Nat → Int32 → Int32 → dk_S → Prop
  | 0, _, _, _ => False
  | n + 1, x2, x3, s => (((s p0 23 2) ≤ x3 → K x2 s) ∧ (¬ (s p0 23 2) ≤ x3 → wf_X6_outerPlace p0 x3 s (fun r3 s2 => wf_X8_at p0 24 24 x3 s2 (fun r5 s4 => ((3 ≤ r5 → wf_X6_keysAtHand_64 p0 p1 q1 n1 K (wf_X6_keysAtHand_4 p0 p1 q1 n1 K n) x2 x3 s4) ∧ (¬ 3 ≤ r5 → ((r3 = (-1) → wf_X6_keysAtHand_51 p0 p1 q1 n1 K (wf_X6_keysAtHand_4 p0 p1 q1 n1 K n) x2 x3 s4) ∧ (¬ r3 = (-1) → ((r3 < 0 → wf_X6_keysAtHand_64 p0 p1 q1 n1 K (wf_X6_keysAtHand_4 p0 p1 q1 n1 K n) x2 x3 s4) ∧ (¬ r3 < 0 → wf_X8_at p1 q1 n1 r3 s4 (fun r7 s6 => ((r7 < 0 → wf_X6_keysAtHand_64 p0 p1 q1 n1 K (wf_X6_keysAtHand_4 p0 p1 q1 n1 K n) x2 x3 s6) ∧ (¬ r7 < 0 → wf_X6_keysAtHand_51 p0 p1 q1 n1 K (wf_X6_keysAtHand_4 p0 p1 q1 n1 K n) x2 x3 s6)))))))))))))
def wf_X6_keysAtHand (p0 : Nat) (p1 : Nat) (q1 : Nat) (n1 : Nat) (s : dk_S) (K : Int32 → dk_S → Prop) : Prop :=
  ∃ nn1 : Nat, wf_X6_keysAtHand_4 p0 p1 q1 n1 K nn1 0 0 s
def wf_X6_isCarriedKey_2 (p0 : Nat) (K : Int32 → dk_S → Prop) : Nat → Int32 → Int32 → dk_S → Prop
  | 0, _, _, _ => False
  | n + 1, x1, x2, s => (((s p0 23 2) ≤ x2 → K 0 s) ∧ (¬ (s p0 23 2) ≤ x2 → wf_X8_at p0 24 24 x2 s (fun r3 s2 => ((¬ r3 = x1 → ∀ v4 : Int32, v4 = x2 + 1 → wf_X6_isCarriedKey_2 p0 K n x1 v4 s2) ∧ (r3 = x1 → wf_X6_outerPlace p0 x2 s2 (fun r6 s5 => ((¬ r6 = (-1) → ∀ v7 : Int32, v7 = x2 + 1 → wf_X6_isCarriedKey_2 p0 K n x1 v7 s5) ∧ (r6 = (-1) → K 1 s5))))))))
def wf_X6_isCarriedKey (p0 : Nat) (a1 : Int32) (s : dk_S) (K : Int32 → dk_S → Prop) : Prop :=
  ∃ nn1 : Nat, wf_X6_isCarriedKey_2 p0 K nn1 a1 0 s
def wf_X6_isLike_2 (p0 : Nat) (p1 : Nat) (K : Int32 → dk_S → Prop) (E37 : dk_S → Prop) : Nat → Int32 → dk_S → Prop
  | 0, _, _ => False
  | n + 1, x2, s => (((s p0 23 2) ≤ x2 → E37 s) ∧ (¬ (s p0 23 2) ≤ x2 → wf_X8_at p0 25 24 x2 s (fun r5 s4 => wf_X8_at p1 25 24 x2 s4 (fun r7 s6 => ((r5 = r7 → ∀ v8 : Int32, v8 = x2 + 1 → wf_X6_isLike_2 p0 p1 K E37 n v8 s6) ∧ (¬ r5 = r7 → K 0 s6))))))
def wf_X6_isLike (p0 : Nat) (p1 : Nat) (s : dk_S) (K : Int32 → dk_S → Prop) : Prop :=
  ∃ nn3 : Nat, wf_X6_isLike_2 p0 p1 K (fun (s1 : dk_S) => ((¬ (s1 p0 23 2) = (s1 p1 23 2) → K 0 s1) ∧ ((s1 p0 23 2) = (s1 p1 23 2) → K 1 s1))) nn3 0 s
def wf_X7_copy (p0 : Nat) (p1 : Nat) (s : dk_S) (K : dk_S → Prop) : Prop :=
  wf_X1_copy p0 p1 s (fun s1 => wf_X3_copy p0 p1 s1 (fun s2 => wf_X2_copy p0 p1 s2 (fun s3 => wf_X6_copy p0 p1 s3 (fun s4 => wf_X4_copy p0 p1 s4 (fun s5 => ∀ s6 : dk_S, s6 = dk_row s5 p0 0 (upd (s5 p0 0) 5 0) → ∀ s7 : dk_S, s7 = dk_row s6 p0 0 (upd (s6 p0 0) 7 0) → ∀ s8 : dk_S, s8 = dk_row s7 p0 0 (upd (s7 p0 0) 8 0) → ∀ s9 : dk_S, s9 = dk_row s8 p0 0 (upd (s8 p0 0) 9 0) → K s9)))))
def wf_X7_allStandFree_2 (p0 : Nat) (K : Int32 → dk_S → Prop) : Nat → Int32 → dk_S → Prop
  | 0, _, _ => False
  | n + 1, x1, s => (((s p0 13 9) ≤ x1 → K 1 s) ∧ (¬ (s p0 13 9) ≤ x1 → wf_X8_at p0 14 8 x1 s (fun r3 s2 => wf_X1_isFreeAt p0 r3 s2 (fun r5 s4 => ((¬ r5 = 0 → ∀ v6 : Int32, v6 = x1 + 1 → wf_X7_allStandFree_2 p0 K n v6 s4) ∧ (r5 = 0 → K 0 s4))))))
def wf_X7_allStandFree (p0 : Nat) (s : dk_S) (K : Int32 → dk_S → Prop) : Prop :=
  ∃ nn1 : Nat, wf_X7_allStandFree_2 p0 K nn1 0 s
def wf_X8_gap (a0 : Int32) (a1 : Int32) (s : dk_S) (K : Int32 → dk_S → Prop) : Prop :=
  ∀ v1 : Int32, v1 = (if 0 ≤ ((a0 / 12) - (a1 / 12)) then ((a0 / 12) - (a1 / 12)) else 0 - ((a0 / 12) - (a1 / 12))) → ∀ v2 : Int32, v2 = (if 0 ≤ ((a0 - a0 / 12 * 12) - (a1 - a1 / 12 * 12)) then ((a0 - a0 / 12 * 12) - (a1 - a1 / 12 * 12)) else 0 - ((a0 - a0 / 12 * 12) - (a1 - a1 / 12 * 12))) → K (if v1 < v2 then v2 else v1) s
def wf_X7_isSeenByHero (p0 : Nat) (a1 : Int32) (s : dk_S) (K : Int32 → dk_S → Prop) : Prop :=
  wf_X7_heroSpot p0 s (fun r2 s1 => (((s1 p0 0 8) ≤ 0 → wf_X1_seeEachOther p0 r2 a1 s1 (fun r4 s3 => ((r4 = 0 → K 0 s3) ∧ (¬ r4 = 0 → wf_X8_gap r2 a1 s3 (fun r6 s5 => ((r6 ≤ 1 → K 1 s5) ∧ (¬ r6 ≤ 1 → wf_X4_light p0 a1 p0 s5 (fun r8 s7 => ((r8 = 0 → K 0 s7) ∧ (¬ r8 = 0 → K 1 s7)))))))))) ∧ (¬ (s1 p0 0 8) ≤ 0 → ((¬ a1 = r2 → K 0 s1) ∧ (a1 = r2 → K 1 s1)))))
def wf_X8_isPotion (a0 : Int32) (s : dk_S) (K : Int32 → dk_S → Prop) : Prop :=
  ((a0 < 3 → K 0 s) ∧ (¬ a0 < 3 → ((5 < a0 → K 0 s) ∧ (¬ 5 < a0 → K 1 s))))
def wf_X7_nameOfKind_23 (p0 : Nat) (K : Int32 → dk_S → Prop) (x1 : Int32) (y0 : Int32) (s : dk_S) : Prop :=
  ((y0 = 0 → K x1 s) ∧ (¬ y0 = 0 → wf_X8_at_L (((3 * (s p0 0 6)) + x1) - 3) s (fun r5 s6 => K (100 + r5) s6)))
def wf_X7_nameOfKind (p0 : Nat) (a1 : Int32) (s : dk_S) (K : Int32 → dk_S → Prop) : Prop :=
  wf_X8_isPotion a1 s (fun r2 s1 => ((r2 = 0 → wf_X7_nameOfKind_23 p0 K a1 0 s1) ∧ (¬ r2 = 0 → ((¬ (((s1 p0 0 9) >>> (a1 &&& 31)) &&& 1) = 0 → wf_X7_nameOfKind_23 p0 K a1 0 s1) ∧ ((((s1 p0 0 9) >>> (a1 &&& 31)) &&& 1) = 0 → wf_X7_nameOfKind_23 p0 K a1 1 s1)))))
def wf_X7_heroCouldReach_65 (p0 : Nat) (K : Int32 → dk_S → Prop) (x1 : Int32) (s : dk_S) : Prop :=
  wf_X8_at p0 5 144 x1 s (fun r7 s6 => ((r7 < 0 → K 0 s6) ∧ (¬ r7 < 0 → K 1 s6)))
def wf_X7_heroCouldReach_4 (p0 : Nat) (K : Int32 → dk_S → Prop) (E53 : Int32 → dk_S → Prop) (E65 : Int32 → dk_S → Prop) : Nat → Int32 → Int32 → Int32 → dk_S → Prop
  | 0, _, _, _, _ => False
  | n + 1, x1, x2, x3, s => ((3 < x3 → E65 x1 s) ∧ (¬ 3 < x3 → wf_X7_heroSpot p0 s (fun r10 s9 => wf_X1_flood p0 p0 5 144 r10 1 x2 1000000 s9 (fun s11 => wf_X6_keysAtHand p0 p0 5 144 s11 (fun r13 s12 => ((¬ r13 = x2 → ∀ v14 : Int32, v14 = x3 + 1 → wf_X7_heroCouldReach_4 p0 K E53 E65 n x1 r13 v14 s12) ∧ (r13 = x2 → E53 x1 s12)))))))
def wf_X7_heroCouldReach (p0 : Nat) (a1 : Int32) (s : dk_S) (K : Int32 → dk_S → Prop) : Prop :=
  ∃ nn5 : Nat, wf_X7_heroCouldReach_4 p0 K (fun (w1 : Int32) (s2 : dk_S) => wf_X7_heroCouldReach_65 p0 K w1 s2) (fun (w3 : Int32) (s4 : dk_S) => wf_X7_heroCouldReach_65 p0 K w3 s4) nn5 a1 0 0 s
def wf_X7_isLike (p0 : Nat) (p1 : Nat) (s : dk_S) (K : Int32 → dk_S → Prop) : Prop :=
  ((¬ (s p0 0 5) = (s p1 0 5) → K 0 s) ∧ ((s p0 0 5) = (s p1 0 5) → wf_X1_isLike p0 p1 s (fun r2 s1 => ((r2 = 0 → K 0 s1) ∧ (¬ r2 = 0 → wf_X2_isLike p0 p1 s1 (fun r4 s3 => ((r4 = 0 → K 0 s3) ∧ (¬ r4 = 0 → wf_X6_isLike p0 p1 s3 (fun r6 s5 => ((r6 = 0 → K 0 s5) ∧ (¬ r6 = 0 → K 1 s5)))))))))))
def wf_X7_strike (p0 : Nat) (a1 : Int32) (a2 : Int32) (s : dk_S) (K : dk_S → Prop) : Prop :=
  wf_X2_isWeak p0 a1 s (fun r2 s1 => wf_X2_harm p0 a1 a2 s1 (fun s3 => wf_X2_lives p0 a1 s3 (fun r5 s4 => ((¬ r5 = 0 → K s4) ∧ (r5 = 0 → ((r2 = 0 → ∀ s6 : dk_S, s6 = dk_row s4 p0 0 (upd (s4 p0 0) 7 ((s4 p0 0 7) + 1)) → K s6) ∧ (¬ r2 = 0 → ∀ s7 : dk_S, s7 = dk_row s4 p0 0 (upd (s4 p0 0) 7 ((s4 p0 0 7) + (-2))) → K s7)))))))
def wf_X7_makeNoise_99 (p0 : Nat) (K : Int32 → dk_S → Prop) (B : Int32 → Int32 → Int32 → Int32 → dk_S → Prop) (x1 : Int32) (x2 : Int32) (x3 : Int32) (x4 : Int32) (s : dk_S) : Prop :=
  ∀ v15 : Int32, v15 = x4 + 1 → B x1 x2 x3 v15 s
def wf_X7_makeNoise_24 (p0 : Nat) (K : Int32 → dk_S → Prop) : Nat → Int32 → Int32 → Int32 → Int32 → dk_S → Prop
  | 0, _, _, _, _, _ => False
  | n + 1, x1, x2, x3, x4, s => (((s p0 13 9) ≤ x4 → K x3 s) ∧ (¬ (s p0 13 9) ≤ x4 → wf_X8_at p0 14 8 x4 s (fun r4 s3 => wf_X8_at p0 5 144 r4 s3 (fun r6 s5 => wf_X2_lives p0 x4 s5 (fun r8 s7 => ((r8 = 0 → wf_X7_makeNoise_99 p0 K (wf_X7_makeNoise_24 p0 K n) x1 x2 x3 x4 s7) ∧ (¬ r8 = 0 → ((r6 < 0 → wf_X7_makeNoise_99 p0 K (wf_X7_makeNoise_24 p0 K n) x1 x2 x3 x4 s7) ∧ (¬ r6 < 0 → ((x2 < r6 → wf_X7_makeNoise_99 p0 K (wf_X7_makeNoise_24 p0 K n) x1 x2 x3 x4 s7) ∧ (¬ x2 < r6 → wf_X8_put p0 22 8 x4 x1 s7 (fun s9 => ∀ v10 : Int32, v10 = x3 + 1 → wf_X7_makeNoise_99 p0 K (wf_X7_makeNoise_24 p0 K n) x1 x2 v10 x4 s9))))))))))))
def wf_X7_makeNoise (p0 : Nat) (a1 : Int32) (a2 : Int32) (s : dk_S) (K : Int32 → dk_S → Prop) : Prop :=
  wf_X1_flood p0 p0 5 144 a1 3 7 a2 s (fun s1 => ∃ nn2 : Nat, wf_X7_makeNoise_24 p0 K nn2 a1 a2 0 1 s1)
def wf_X7_heroGoes_115 (p0 : Nat) (K : Int32 → dk_S → Prop) (x2 : Int32) (x4 : Int32) (s : dk_S) : Prop :=
  wf_X8_isFree x4 s (fun r28 s27 => ((r28 = 0 → K (-1000000) s27) ∧ (¬ r28 = 0 → wf_X8_put p0 14 8 0 x2 s27 (fun s29 => K 109 s29))))
def wf_X7_heroGoes (p0 : Nat) (a1 : Int32) (s : dk_S) (K : Int32 → dk_S → Prop) : Prop :=
  wf_X7_heroSpot p0 s (fun r2 s1 => wf_X8_beside r2 a1 s1 (fun r4 s3 => wf_X2_livingAt p0 r4 s3 (fun r6 s5 => wf_X1_signAt p0 r4 s5 (fun r8 s7 => ((r6 ≤ 0 → ((r8 = 43 → wf_X1_change p0 r4 47 s7 (fun s9 => K 111 s9)) ∧ (¬ r8 = 43 → ((r8 < 48 → wf_X7_heroGoes_115 p0 K r4 r8 s7) ∧ (¬ r8 < 48 → ((50 < r8 → wf_X7_heroGoes_115 p0 K r4 r8 s7) ∧ (¬ 50 < r8 → wf_X6_isCarriedKey p0 (r8 - 48) s7 (fun r11 s10 => ((r11 = 0 → wf_X7_heroGoes_115 p0 K r4 r8 s10) ∧ (¬ r11 = 0 → wf_X1_change p0 r4 47 s10 (fun s12 => K 111 s12))))))))))) ∧ (¬ r6 ≤ 0 → wf_X6_hasInHands p0 7 s7 (fun r18 s17 => ((r18 = 0 → wf_X7_strike p0 r6 3 s17 (fun s19 => wf_X7_makeNoise p0 r4 6 s19 (fun r21 s20 => K 97 s20))) ∧ (¬ r18 = 0 → wf_X7_strike p0 r6 7 s17 (fun s22 => wf_X7_makeNoise p0 r4 6 s22 (fun r24 s23 => K 97 s23)))))))))))
def wf_X7_heroPacks (p0 : Nat) (a1 : Int32) (a2 : Int32) (s : dk_S) (K : Int32 → dk_S → Prop) : Prop :=
  wf_X8_put p0 25 24 a1 a2 s (fun s1 => wf_X6_countAt p0 a2 s1 (fun r3 s2 => K r3 s2))
def wf_X7_useUp (p0 : Nat) (a1 : Int32) (s : dk_S) (K : dk_S → Prop) : Prop :=
  wf_X8_put p0 25 24 a1 (-2) s (fun s1 => wf_X8_at p0 24 24 a1 s1 (fun r3 s2 => ∀ s4 : dk_S, s4 = dk_row s2 p0 0 (upd (s2 p0 0) 9 ((s1 p0 0 9) ||| (1 <<< (r3 &&& 31)))) → K s4))
def wf_X7_work (p0 : Nat) (a1 : Int32) (a2 : Int32) (s : dk_S) (K : dk_S → Prop) : Prop :=
  wf_X8_at p0 11 8 a1 s (fun r2 s1 => wf_X8_at p0 10 8 a1 s1 (fun r4 s3 => ((r4 = 98 → ((¬ a2 = 0 → ∀ s5 : dk_S, s5 = dk_row s3 p0 0 (upd (s3 p0 0) 8 (s3 p0 0 8)) → K s5) ∧ (a2 = 0 → ∀ s6 : dk_S, s6 = dk_row s3 p0 0 (upd (s3 p0 0) 8 r2) → K s6))) ∧ (¬ r4 = 98 → ((r4 = 100 → wf_X2_harm p0 a2 r2 s3 (fun s9 => K s9)) ∧ (¬ r4 = 100 → ((r4 = 104 → wf_X2_heal p0 a2 r2 s3 (fun s11 => K s11)) ∧ (¬ r4 = 104 → ((r4 = 115 → wf_X2_hasten p0 a2 r2 s3 (fun s13 => K s13)) ∧ (¬ r4 = 115 → K s3))))))))))
def wf_X7_burnBy_108 (p0 : Nat) (K : dk_S → Prop) (B : Int32 → Int32 → Int32 → dk_S → Prop) (x2 : Int32) (x3 : Int32) (x4 : Int32) (s : dk_S) : Prop :=
  ∀ v19 : Int32, v19 = x4 + 1 → B x2 x3 v19 s
def wf_X7_burnBy_17 (p0 : Nat) (K : dk_S → Prop) : Nat → Int32 → Int32 → Int32 → dk_S → Prop
  | 0, _, _, _, _ => False
  | n + 1, x2, x3, x4, s => (((s p0 23 2) ≤ x4 → K s) ∧ (¬ (s p0 23 2) ≤ x4 → wf_X8_at p0 25 24 x4 s (fun r6 s5 => ((r6 < 0 → wf_X7_burnBy_108 p0 K (wf_X7_burnBy_17 p0 K n) x2 x3 x4 s5) ∧ (¬ r6 < 0 → wf_X8_gap r6 x2 s5 (fun r8 s7 => ((x3 < r8 → wf_X7_burnBy_108 p0 K (wf_X7_burnBy_17 p0 K n) x2 x3 x4 s7) ∧ (¬ x3 < r8 → wf_X8_at p0 24 24 x4 s7 (fun r10 s9 => wf_X3_isWooden p0 r10 s9 (fun r12 s11 => ((r12 = 0 → wf_X7_burnBy_108 p0 K (wf_X7_burnBy_17 p0 K n) x2 x3 x4 s11) ∧ (¬ r12 = 0 → wf_X8_put p0 25 24 x4 (-2) s11 (fun s13 => wf_X6_moveAll p0 ((-3) - x4) r6 s13 (fun s14 => wf_X7_burnBy_108 p0 K (wf_X7_burnBy_17 p0 K n) x2 x3 x4 s14))))))))))))))
def wf_X7_burnBy (p0 : Nat) (a1 : Int32) (a2 : Int32) (a3 : Int32) (s : dk_S) (K : dk_S → Prop) : Prop :=
  wf_X3_effectOf p0 a1 s (fun r2 s1 => ((r2 = 102 → ∃ nn3 : Nat, wf_X7_burnBy_17 p0 K nn3 a2 a3 0 s1) ∧ (¬ r2 = 102 → K s1)))
def wf_X7_heroDrinks (p0 : Nat) (a1 : Int32) (s : dk_S) (K : Int32 → dk_S → Prop) : Prop :=
  wf_X8_at p0 24 24 a1 s (fun r2 s1 => wf_X7_useUp p0 a1 s1 (fun s3 => wf_X7_work p0 r2 0 s3 (fun s4 => wf_X7_heroSpot p0 s4 (fun r6 s5 => wf_X7_burnBy p0 r2 r6 0 s5 (fun s7 => wf_X8_at p0 18 8 0 s7 (fun r9 s8 => K r9 s8))))))
def wf_X7_shatter_33 (p0 : Nat) (K : dk_S → Prop) : Nat → Int32 → Int32 → Int32 → Int32 → dk_S → Prop
  | 0, _, _, _, _, _ => False
  | n + 1, x2, x3, x4, x5, s => (((s p0 13 9) ≤ x5 → K s) ∧ (¬ (s p0 13 9) ≤ x5 → wf_X2_lives p0 x5 s (fun r8 s7 => ((r8 = 0 → ∀ v9 : Int32, v9 = x5 + 1 → wf_X7_shatter_33 p0 K n x2 x3 x4 v9 s7) ∧ (¬ r8 = 0 → wf_X8_at p0 14 8 x5 s7 (fun r11 s10 => wf_X8_gap r11 x2 s10 (fun r13 s12 => ((x4 < r13 → ∀ v14 : Int32, v14 = x5 + 1 → wf_X7_shatter_33 p0 K n x2 x3 x4 v14 s12) ∧ (¬ x4 < r13 → wf_X7_work p0 x3 x5 s12 (fun s15 => ∀ v16 : Int32, v16 = x5 + 1 → wf_X7_shatter_33 p0 K n x2 x3 x4 v16 s15))))))))))
def wf_X7_shatter (p0 : Nat) (a1 : Int32) (a2 : Int32) (s : dk_S) (K : dk_S → Prop) : Prop :=
  wf_X8_at p0 24 24 a1 s (fun r2 s1 => wf_X8_at p0 12 8 r2 s1 (fun r4 s3 => wf_X7_useUp p0 a1 s3 (fun s5 => ∃ nn6 : Nat, wf_X7_shatter_33 p0 K nn6 a2 r2 r4 0 s5)))
def wf_X7_heroHurls_70 (p0 : Nat) (K : Int32 → dk_S → Prop) (x1 : Int32) (x3 : Int32) (x4 : Int32) (x5 : Int32) (s : dk_S) : Prop :=
  wf_X8_put p0 25 24 x1 x4 s (fun s9 => wf_X8_at p0 24 24 x1 s9 (fun r11 s10 => wf_X8_isPotion r11 s10 (fun r13 s12 => ((r13 = 0 → ((¬ r11 = 7 → K x3 s12) ∧ (r11 = 7 → ((x5 = 0 → K x3 s12) ∧ (¬ x5 = 0 → wf_X2_livingAt p0 x4 s12 (fun r15 s14 => wf_X7_strike p0 r15 4 s14 (fun s16 => wf_X7_makeNoise p0 x4 6 s16 (fun r18 s17 => K x3 s17)))))))) ∧ (¬ r13 = 0 → wf_X7_shatter p0 x1 x4 s12 (fun s21 => wf_X8_at p0 12 8 r11 s21 (fun r23 s22 => wf_X7_burnBy p0 r11 x4 r23 s22 (fun s24 => wf_X7_makeNoise p0 x4 6 s24 (fun r26 s25 => K x3 s25)))))))))
def wf_X7_heroHurls_11 (p0 : Nat) (K : Int32 → dk_S → Prop) (E70 : Int32 → Int32 → Int32 → Int32 → dk_S → Prop) : Nat → Int32 → Int32 → Int32 → Int32 → Int32 → dk_S → Prop
  | 0, _, _, _, _, _, _ => False
  | n + 1, x1, x2, x3, x4, x5, s => ((5 ≤ x3 → E70 x1 x3 x4 x5 s) ∧ (¬ 5 ≤ x3 → ((¬ x5 = 0 → E70 x1 x3 x4 x5 s) ∧ (x5 = 0 → wf_X8_beside x4 x2 s (fun r29 s28 => wf_X1_isFreeAt p0 r29 s28 (fun r31 s30 => ((r31 = 0 → E70 x1 x3 x4 x5 s30) ∧ (¬ r31 = 0 → wf_X8_beside x4 x2 s30 (fun r33 s32 => ∀ v34 : Int32, v34 = x3 + 1 → wf_X2_livingAt p0 r33 s32 (fun r36 s35 => ((r36 ≤ 0 → wf_X7_heroHurls_11 p0 K E70 n x1 x2 v34 r33 0 s35) ∧ (¬ r36 ≤ 0 → wf_X7_heroHurls_11 p0 K E70 n x1 x2 v34 r33 1 s35))))))))))))
def wf_X7_heroHurls (p0 : Nat) (a1 : Int32) (a2 : Int32) (s : dk_S) (K : Int32 → dk_S → Prop) : Prop :=
  wf_X7_heroSpot p0 s (fun r2 s1 => ∃ nn8 : Nat, wf_X7_heroHurls_11 p0 K (fun (w3 : Int32) (w4 : Int32) (w5 : Int32) (w6 : Int32) (s7 : dk_S) => wf_X7_heroHurls_70 p0 K w3 w4 w5 w6 s7) nn8 a1 a2 0 r2 0 s1)
def wf_X7_heroPrays_53 (p0 : Nat) (K : Int32 → dk_S → Prop)  (s : dk_S) : Prop :=
  ∀ s9 : dk_S, s9 = dk_row s p0 0 (upd (s p0 0) 7 ((s p0 0 7) - 1)) → K (s9 p0 0 7) s9
def wf_X7_heroPrays (p0 : Nat) (s : dk_S) (K : Int32 → dk_S → Prop) : Prop :=
  wf_X2_isWeak p0 0 s (fun r2 s1 => ((r2 = 0 → wf_X7_heroPrays_53 p0 K s1) ∧ (¬ r2 = 0 → (((s1 p0 0 7) < 0 → wf_X7_heroPrays_53 p0 K s1) ∧ (¬ (s1 p0 0 7) < 0 → wf_X8_at p0 17 8 0 s1 (fun r4 s3 => wf_X8_put p0 18 8 0 r4 s3 (fun s5 => ∀ s6 : dk_S, s6 = dk_row s5 p0 0 (upd (s5 p0 0) 7 ((s5 p0 0 7) - 5)) → K (s6 p0 0 7) s6)))))))
def wf_X7_perform_192 (p0 : Nat) (K : Int32 → dk_S → Prop) (x4 : Int32) (s : dk_S) : Prop :=
  ((x4 = (-1000000) → K x4 s) ∧ (¬ x4 = (-1000000) → wf_X2_spendTurn p0 0 s (fun s35 => K x4 s35)))
def wf_X7_perform (p0 : Nat) (a1 : Int32) (a2 : Int32) (a3 : Int32) (s : dk_S) (K : Int32 → dk_S → Prop) : Prop :=
  ((a1 = 0 → wf_X7_heroGoes p0 a2 s (fun r2 s1 => wf_X7_perform_192 p0 K r2 s1)) ∧ (¬ a1 = 0 → ((a1 = 1 → wf_X7_perform_192 p0 K 0 s) ∧ (¬ a1 = 1 → ((a1 = 2 → wf_X8_put p0 25 24 a2 (-1) s (fun s5 => wf_X6_carriedWeight p0 p0 s5 (fun r7 s6 => wf_X7_perform_192 p0 K r7 s6))) ∧ (¬ a1 = 2 → ((a1 = 3 → wf_X7_heroSpot p0 s (fun r10 s9 => wf_X8_put p0 25 24 a2 r10 s9 (fun s11 => wf_X6_carriedWeight p0 p0 s11 (fun r13 s12 => wf_X7_perform_192 p0 K r13 s12)))) ∧ (¬ a1 = 3 → ((a1 = 4 → ((¬ a3 = (-1) → wf_X7_heroPacks p0 a2 ((-3) - a3) s (fun r16 s15 => wf_X7_perform_192 p0 K r16 s15)) ∧ (a3 = (-1) → wf_X7_heroPacks p0 a2 (-1) s (fun r18 s17 => wf_X7_perform_192 p0 K r18 s17)))) ∧ (¬ a1 = 4 → ((a1 = 5 → wf_X7_heroDrinks p0 a2 s (fun r22 s21 => wf_X7_perform_192 p0 K r22 s21)) ∧ (¬ a1 = 5 → ((a1 = 6 → wf_X7_heroHurls p0 a2 a3 s (fun r25 s24 => wf_X7_perform_192 p0 K r25 s24)) ∧ (¬ a1 = 6 → ((a1 = 7 → wf_X7_heroSpot p0 s (fun r28 s27 => wf_X7_makeNoise p0 r28 a2 s27 (fun r30 s29 => wf_X7_perform_192 p0 K r30 s29))) ∧ (¬ a1 = 7 → ((a1 = 8 → wf_X7_heroPrays p0 s (fun r33 s32 => wf_X7_perform_192 p0 K r33 s32)) ∧ (¬ a1 = 8 → wf_X7_perform_192 p0 K 0 s))))))))))))))))))
def wf_X7_layHands (p0 : Nat) (s : dk_S) (K : dk_S → Prop) : Prop :=
  wf_X7_heroSpot p0 s (fun r2 s1 => wf_X6_moveAll p0 (-1) r2 s1 (fun s3 => K s3))
def wf_X7_isOpenTo (p0 : Nat) (a1 : Int32) (s : dk_S) (K : Int32 → dk_S → Prop) : Prop :=
  wf_X1_signAt p0 a1 s (fun r2 s1 => wf_X8_isFree r2 s1 (fun r4 s3 => ((r4 = 0 → K 0 s3) ∧ (¬ r4 = 0 → wf_X2_livingAt p0 a1 s3 (fun r6 s5 => ((¬ r6 = (-1) → K 0 s5) ∧ (r6 = (-1) → K 1 s5)))))))
def wf_X7_flee_17 (p0 : Nat) (K : dk_S → Prop) (E75 : Int32 → Int32 → dk_S → Prop) : Nat → Int32 → Int32 → Int32 → Int32 → dk_S → Prop
  | 0, _, _, _, _, _ => False
  | n + 1, x1, x2, x3, x4, s => ((4 ≤ x4 → E75 x1 x3 s) ∧ (¬ 4 ≤ x4 → wf_X8_beside x2 x4 s (fun r9 s8 => wf_X7_isOpenTo p0 r9 s8 (fun r11 s10 => ((r11 = 0 → ∀ v12 : Int32, v12 = x4 + 1 → wf_X7_flee_17 p0 K E75 n x1 x2 x3 v12 s10) ∧ (¬ r11 = 0 → wf_X8_at p0 6 144 r9 s10 (fun r14 s13 => wf_X8_at p0 6 144 x3 s13 (fun r16 s15 => ((r14 ≤ r16 → ∀ v17 : Int32, v17 = x4 + 1 → wf_X7_flee_17 p0 K E75 n x1 x2 x3 v17 s15) ∧ (¬ r14 ≤ r16 → ∀ v18 : Int32, v18 = x4 + 1 → wf_X7_flee_17 p0 K E75 n x1 x2 r9 v18 s15))))))))))
def wf_X7_flee (p0 : Nat) (a1 : Int32) (s : dk_S) (K : dk_S → Prop) : Prop :=
  wf_X8_at p0 14 8 a1 s (fun r2 s1 => ∃ nn7 : Nat, wf_X7_flee_17 p0 K (fun (w3 : Int32) (w4 : Int32) (s5 : dk_S) => wf_X8_put p0 14 8 w3 w4 s5 (fun s6 => K s6)) nn7 a1 r2 r2 0 s1)
def wf_X8_areNeighbours (a0 : Int32) (a1 : Int32) (s : dk_S) (K : Int32 → dk_S → Prop) : Prop :=
  ∀ v1 : Int32, v1 = (a0 / 12) - (a1 / 12) → ∀ v2 : Int32, v2 = (a0 - a0 / 12 * 12) - (a1 - a1 / 12 * 12) → ((¬ ((v1 * v1) + (v2 * v2)) = 1 → K 0 s) ∧ (((v1 * v1) + (v2 * v2)) = 1 → K 1 s))
def wf_X7_comeNearer_104 (p0 : Nat) (K : dk_S → Prop) (B : Int32 → Int32 → Int32 → Int32 → dk_S → Prop) (E110 : Int32 → Int32 → dk_S → Prop) (x1 : Int32) (x2 : Int32) (x3 : Int32) (x4 : Int32) (s : dk_S) : Prop :=
  ∀ v28 : Int32, v28 = x4 + 1 → B x1 x2 x3 v28 s
def wf_X7_comeNearer_59 (p0 : Nat) (K : dk_S → Prop) (B : Int32 → Int32 → Int32 → Int32 → dk_S → Prop) (E110 : Int32 → Int32 → dk_S → Prop) (x1 : Int32) (x2 : Int32) (x3 : Int32) (x4 : Int32) (x5 : Int32) (y0 : Int32) (s : dk_S) : Prop :=
  wf_X8_at p0 6 144 x5 s (fun r22 s21 => ((y0 = 0 → wf_X7_comeNearer_104 p0 K B E110 x1 x2 x3 x4 s21) ∧ (¬ y0 = 0 → ((r22 < 0 → wf_X7_comeNearer_104 p0 K B E110 x1 x2 x3 x4 s21) ∧ (¬ r22 < 0 → wf_X8_at p0 6 144 x3 s21 (fun r24 s23 => ((r24 ≤ r22 → wf_X7_comeNearer_104 p0 K B E110 x1 x2 x3 x4 s23) ∧ (¬ r24 ≤ r22 → wf_X7_comeNearer_104 p0 K B E110 x1 x2 x5 x4 s23))))))))
def wf_X7_comeNearer_17 (p0 : Nat) (K : dk_S → Prop) (E110 : Int32 → Int32 → dk_S → Prop) : Nat → Int32 → Int32 → Int32 → Int32 → dk_S → Prop
  | 0, _, _, _, _, _ => False
  | n + 1, x1, x2, x3, x4, s => ((4 ≤ x4 → E110 x1 x3 s) ∧ (¬ 4 ≤ x4 → wf_X8_beside x2 x4 s (fun r13 s12 => wf_X7_isOpenTo p0 r13 s12 (fun r15 s14 => ((¬ r15 = 0 → wf_X7_comeNearer_59 p0 K (wf_X7_comeNearer_17 p0 K E110 n) E110 x1 x2 x3 x4 r13 1 s14) ∧ (r15 = 0 → wf_X1_signAt p0 r13 s14 (fun r17 s16 => ((¬ r17 = 43 → wf_X7_comeNearer_59 p0 K (wf_X7_comeNearer_17 p0 K E110 n) E110 x1 x2 x3 x4 r13 0 s16) ∧ (r17 = 43 → wf_X7_comeNearer_59 p0 K (wf_X7_comeNearer_17 p0 K E110 n) E110 x1 x2 x3 x4 r13 1 s16)))))))))
def wf_X7_comeNearer (p0 : Nat) (a1 : Int32) (s : dk_S) (K : dk_S → Prop) : Prop :=
  wf_X8_at p0 14 8 a1 s (fun r2 s1 => ∃ nn11 : Nat, wf_X7_comeNearer_17 p0 K (fun (w3 : Int32) (w4 : Int32) (s5 : dk_S) => wf_X1_signAt p0 w4 s5 (fun r7 s6 => ((¬ r7 = 43 → wf_X8_put p0 14 8 w3 w4 s6 (fun s8 => K s8)) ∧ (r7 = 43 → wf_X1_change p0 w4 47 s6 (fun s9 => K s9))))) nn11 a1 r2 r2 0 s1)
def wf_X7_moveBeast_132 (p0 : Nat) (K : dk_S → Prop) (x1 : Int32) (x2 : Int32) (x4 : Int32) (s : dk_S) : Prop :=
  wf_X8_at p0 14 8 x1 s (fun r27 s26 => ((¬ r27 = x4 → K s26) ∧ (r27 = x4 → wf_X1_seeEachOther p0 r27 x2 s26 (fun r29 s28 => ((¬ r29 = 0 → K s28) ∧ (r29 = 0 → wf_X8_put p0 22 8 x1 (-1) s28 (fun s30 => K s30)))))))
def wf_X7_moveBeast_41 (p0 : Nat) (K : dk_S → Prop) (x1 : Int32) (x2 : Int32) (x3 : Int32) (s : dk_S) : Prop :=
  wf_X8_at p0 22 8 x1 s (fun r10 s9 => ((¬ r10 = (-1) → wf_X1_aimAt p0 r10 s9 (fun s11 => wf_X2_isWeak p0 x1 s11 (fun r13 s12 => ((r13 = 0 → wf_X8_areNeighbours x3 x2 s12 (fun r15 s14 => ((r15 = 0 → wf_X7_comeNearer p0 x1 s14 (fun s16 => wf_X7_moveBeast_132 p0 K x1 x2 r10 s16)) ∧ (¬ r15 = 0 → wf_X8_at p0 16 8 x1 s14 (fun r18 s17 => wf_X2_harm p0 0 r18 s17 (fun s19 => wf_X7_makeNoise p0 x2 6 s19 (fun r21 s20 => wf_X7_moveBeast_132 p0 K x1 x2 r10 s20))))))) ∧ (¬ r13 = 0 → wf_X7_flee p0 x1 s12 (fun s23 => wf_X7_moveBeast_132 p0 K x1 x2 r10 s23)))))) ∧ (r10 = (-1) → K s9)))
def wf_X7_moveBeast (p0 : Nat) (a1 : Int32) (s : dk_S) (K : dk_S → Prop) : Prop :=
  wf_X7_heroSpot p0 s (fun r2 s1 => wf_X8_at p0 14 8 a1 s1 (fun r4 s3 => wf_X1_seeEachOther p0 r4 r2 s3 (fun r6 s5 => ((r6 = 0 → wf_X7_moveBeast_41 p0 K a1 r2 r4 s5) ∧ (¬ r6 = 0 → wf_X8_put p0 22 8 a1 r2 s5 (fun s7 => wf_X7_moveBeast_41 p0 K a1 r2 r4 s7))))))
def wf_X7_waitForHero_2 (p0 : Nat) (K : dk_S → Prop) : Nat → Int32 → dk_S → Prop
  | 0, _, _ => False
  | n + 1, x1, s => ((1000000 ≤ x1 → K s) ∧ (¬ 1000000 ≤ x1 → wf_X2_lives p0 0 s (fun r3 s2 => ((r3 = 0 → K s2) ∧ (¬ r3 = 0 → wf_X2_nextToAct p0 s2 (fun r5 s4 => ((¬ r5 = 0 → ((¬ r5 = (-1) → wf_X2_spendTurn p0 r5 s4 (fun s6 => wf_X7_moveBeast p0 r5 s6 (fun s7 => ∀ v8 : Int32, v8 = x1 + 1 → wf_X7_waitForHero_2 p0 K n v8 s7))) ∧ (r5 = (-1) → wf_X2_gainEnergy p0 s4 (fun s9 => ∀ s10 : dk_S, s10 = dk_row s9 p0 0 (upd (s9 p0 0) 8 (if (0 : Int32) < ((s9 p0 0 8) - 1) then ((s9 p0 0 8) - 1) else (0 : Int32))) → ∀ s11 : dk_S, s11 = dk_row s10 p0 0 (upd (s10 p0 0) 5 ((s10 p0 0 5) + 1)) → ∀ v12 : Int32, v12 = x1 + 1 → wf_X7_waitForHero_2 p0 K n v12 s11)))) ∧ (r5 = 0 → K s4))))))))
def wf_X7_waitForHero (p0 : Nat) (s : dk_S) (K : dk_S → Prop) : Prop :=
  ∃ nn1 : Nat, wf_X7_waitForHero_2 p0 K nn1 0 s
def wf_X8_state  (s : dk_S) (K : Int32 → dk_S → Prop) : Prop :=
  (narrow .char (.int (s 0 40 5)) = .int (s 0 40 5) ∧ K (s 0 40 5) s)
def wf_X8_tick  (s : dk_S) (K : Int32 → dk_S → Prop) : Prop :=
  ((s 0 40 5 = 110 → K (s 1 0 5) s) ∧ (¬ s 0 40 5 = 110 → K (s 2 0 5) s))
def wf_X8_make (p1 : Nat) (a2 : Int32) (s : dk_S) (K : dk_S → Prop) : Prop :=
  wf_X7_copy p1 1 s (fun s1 => ∀ s2 : dk_S, s2 = dk_row s1 p1 0 (upd (s1 p1 0) 6 (a2 - a2 / 6 * 6)) → wf_X0_layIn p1 s2 (fun s3 => K s3))
def wf_X8_settle  (s : dk_S) (K : dk_S → Prop) : Prop :=
  wf_X2_lives 2 0 s (fun r2 s1 => ((¬ r2 = 0 → K s1) ∧ (r2 = 0 → wf_X0_note 2 s1 (fun s3 => wf_X7_layHands 2 s3 (fun s4 => ∀ s5 : dk_S, s5 = dk_row s4 0 40 (upd (s4 0 40) 5 100) → K s5)))))
def wf_X8_act (a1 : Int32) (a2 : Int32) (a3 : Int32) (s : dk_S) (K : Int32 → dk_S → Prop) : Prop :=
  wf_X7_perform 2 a1 a2 a3 s (fun r2 s1 => ((r2 = (-1000000) → K r2 s1) ∧ (¬ r2 = (-1000000) → wf_X5_add a1 a2 a3 s1 (fun s3 => wf_X7_waitForHero 2 s3 (fun s4 => wf_X8_settle s4 (fun s5 => K r2 s5))))))
def wf_X8_redo_7  (K : dk_S → Prop) (E91 : dk_S → Prop) : Nat → dk_S → Prop
  | 0, _ => False
  | n + 1, s => (((s 0 41 3) ≤ (s 0 40 6) → E91 s) ∧ (¬ (s 0 41 3) ≤ (s 0 40 6) → wf_X8_at 0 42 512 (s 0 40 6) s (fun r9 s8 => wf_X8_at 0 43 512 (s8 0 40 6) s8 (fun r11 s10 => wf_X8_at 0 44 512 (s10 0 40 6) s10 (fun r13 s12 => wf_X7_perform 3 r9 r11 r13 s12 (fun r15 s14 => wf_X7_waitForHero 3 s14 (fun s16 => ∀ s17 : dk_S, s17 = dk_row s16 0 40 (upd (s16 0 40) 6 ((s16 0 40 6) + 1)) → wf_X8_redo_7 K E91 n s17)))))))
def wf_X8_redo  (s : dk_S) (K : dk_S → Prop) : Prop :=
  wf_X7_waitForHero 3 s (fun s1 => ∃ nn7 : Nat, wf_X8_redo_7 K (fun (s2 : dk_S) => wf_X2_lives 3 0 s2 (fun r4 s3 => ((¬ r4 = 0 → K s3) ∧ (r4 = 0 → wf_X7_layHands 3 s3 (fun s5 => K s5))))) nn7 s1)
def wf_X8_shownPlace (a0 : Int32) (s : dk_S) (K : Int32 → dk_S → Prop) : Prop :=
  K ((100 * (a0 / 12)) + (a0 - a0 / 12 * 12)) s
def wf_X9_thrown  (s : dk_S) (K : Int32 → dk_S → Prop) : Prop :=
  K (s 4 60 0) s
def wf_X9_in (a0 : Int32) (a1 : Int32) (a2 : Int32) (s : dk_S) (K : Int32 → dk_S → Prop) : Prop :=
  ((a0 < a1 → K 0 s) ∧ (¬ a0 < a1 → ((a2 < a0 → K 0 s) ∧ (¬ a2 < a0 → K 1 s))))
def wf_X9_goesOn (a1 : Int32) (s : dk_S) (K : Int32 → dk_S → Prop) : Prop :=
  ∀ s1 : dk_S, s1 = dk_row s 4 60 (upd (s 4 60) 0 a1) → ((¬ a1 = 0 → K 0 s1) ∧ (a1 = 0 → K 1 s1))
def wf_X9_isPlace (a0 : Int32) (a1 : Int32) (s : dk_S) (K : Int32 → dk_S → Prop) : Prop :=
  wf_X9_in a0 0 11 s (fun r2 s1 => ((r2 = 0 → K 0 s1) ∧ (¬ r2 = 0 → wf_X9_in a1 0 11 s1 (fun r4 s3 => ((r4 = 0 → K 0 s3) ∧ (¬ r4 = 0 → K 1 s3))))))
def wf_X9_at (a0 : Int32) (a1 : Int32) (s : dk_S) (K : Int32 → dk_S → Prop) : Prop :=
  K ((12 * a1) + a0) s
def wf_X9_xOf (a0 : Int32) (s : dk_S) (K : Int32 → dk_S → Prop) : Prop :=
  K (a0 - a0 / 12 * 12) s
def wf_X9_yOf (a0 : Int32) (s : dk_S) (K : Int32 → dk_S → Prop) : Prop :=
  K (a0 / 12) s
def wf_X9_told (a0 : Int32) (s : dk_S) (K : Int32 → dk_S → Prop) : Prop :=
  wf_X9_xOf a0 s (fun r2 s1 => wf_X9_yOf a0 s1 (fun r4 s3 => K ((100 * r2) + r4) s3))
def wf_X9_far (a0 : Int32) (s : dk_S) (K : Int32 → dk_S → Prop) : Prop :=
  ((0 ≤ a0 → K a0 s) ∧ (¬ 0 ≤ a0 → K (-a0) s))
def wf_X9_isOn  (s : dk_S) (K : Int32 → dk_S → Prop) : Prop :=
  ((¬ (s 4 60 1) = 111 → K 0 s) ∧ ((s 4 60 1) = 111 → K 1 s))
def wf_X9_beside_47  (K : Int32 → dk_S → Prop) (x2 : Int32) (y0 : Int32) (y1 : Int32) (s : dk_S) : Prop :=
  ∀ v10 : Int32, v10 = y1 + y0 → wf_X9_isPlace x2 v10 s (fun r12 s11 => ((r12 = 0 → K (-1) s11) ∧ (¬ r12 = 0 → wf_X9_at x2 v10 s11 (fun r14 s13 => K r14 s13))))
def wf_X9_beside_23  (K : Int32 → dk_S → Prop) (x0 : Int32) (x1 : Int32) (y0 : Int32) (y1 : Int32) (s : dk_S) : Prop :=
  ∀ v5 : Int32, v5 = y1 + y0 → wf_X9_yOf x0 s (fun r7 s6 => ((¬ x1 = 2 → ((¬ x1 = 0 → wf_X9_beside_47 K v5 0 r7 s6) ∧ (x1 = 0 → wf_X9_beside_47 K v5 (-1) r7 s6))) ∧ (x1 = 2 → wf_X9_beside_47 K v5 1 r7 s6)))
def wf_X9_beside (a0 : Int32) (a1 : Int32) (s : dk_S) (K : Int32 → dk_S → Prop) : Prop :=
  wf_X9_xOf a0 s (fun r2 s1 => ((¬ a1 = 1 → ((¬ a1 = 3 → wf_X9_beside_23 K a0 a1 0 r2 s1) ∧ (a1 = 3 → wf_X9_beside_23 K a0 a1 (-1) r2 s1))) ∧ (a1 = 1 → wf_X9_beside_23 K a0 a1 1 r2 s1)))
def wf_X9_isFreeKind (a0 : Int32) (s : dk_S) (K : Int32 → dk_S → Prop) : Prop :=
  ((a0 = 46 → K 1 s) ∧ (¬ a0 = 46 → ((a0 = 126 → K 1 s) ∧ (¬ a0 = 126 → ((¬ a0 = 47 → K 0 s) ∧ (a0 = 47 → K 1 s))))))
def wf_X9_isFree (a1 : Int32) (s : dk_S) (K : Int32 → dk_S → Prop) : Prop :=
  ((a1 = (-1) → K 0 s) ∧ (¬ a1 = (-1) → (vp_in a1 144 ∧ wf_X9_isFreeKind (s 4 75 a1.toNatClampNeg) s (fun r2 s1 => ((r2 = 0 → K 0 s1) ∧ (¬ r2 = 0 → K 1 s1))))))
def wf_X9_becomesAsTold_119  (K : dk_S → Prop) (E138 : dk_S → Prop) : Nat → Int32 → dk_S → Prop
  | 0, _, _ => False
  | n + 1, x1, s => ((8 ≤ x1 → E138 s) ∧ (¬ 8 ≤ x1 → (vp_in x1 8 ∧ (∀ s12 : dk_S, s12 = dk_row s 4 83 (upd (s 4 83) x1.toNatClampNeg (vp_nar .boolean 0)) → ∀ v13 : Int32, v13 = x1 + 1 → wf_X9_becomesAsTold_119 K E138 n v13 s12))))
def wf_X9_becomesAsTold_93  (K : dk_S → Prop) (E117 : dk_S → Prop) : Nat → Int32 → dk_S → Prop
  | 0, _, _ => False
  | n + 1, x1, s => ((24 ≤ x1 → E117 s) ∧ (¬ 24 ≤ x1 → (vp_in x1 24 ∧ (vp_in x1 24 ∧ (∀ s15 : dk_S, s15 = dk_row s 4 82 (upd (s 4 82) x1.toNatClampNeg (s 4 72 x1.toNatClampNeg)) → ∀ v16 : Int32, v16 = x1 + 1 → wf_X9_becomesAsTold_93 K E117 n v16 s15)))))
def wf_X9_becomesAsTold_34  (K : dk_S → Prop) (E91 : dk_S → Prop) : Nat → Int32 → dk_S → Prop
  | 0, _, _ => False
  | n + 1, x1, s => ((8 ≤ x1 → E91 s) ∧ (¬ 8 ≤ x1 → (vp_in x1 8 ∧ (vp_in x1 8 ∧ (∀ s18 : dk_S, s18 = dk_row s 4 76 (upd (s 4 76) x1.toNatClampNeg (s 4 67 x1.toNatClampNeg)) → (vp_in x1 8 ∧ (vp_in x1 8 ∧ (∀ s19 : dk_S, s19 = dk_row s18 4 77 (upd (s18 4 77) x1.toNatClampNeg (s18 4 70 x1.toNatClampNeg)) → (vp_in x1 8 ∧ (∀ s20 : dk_S, s20 = dk_row s19 4 78 (upd (s19 4 78) x1.toNatClampNeg 0) → (vp_in x1 8 ∧ (∀ s21 : dk_S, s21 = dk_row s20 4 80 (upd (s20 4 80) x1.toNatClampNeg 0) → (vp_in x1 8 ∧ (∀ s22 : dk_S, s22 = dk_row s21 4 81 (upd (s21 4 81) x1.toNatClampNeg (-1)) → ∀ v23 : Int32, v23 = x1 + 1 → wf_X9_becomesAsTold_34 K E91 n v23 s22))))))))))))))
def wf_X9_becomesAsTold_7  (K : dk_S → Prop) (E32 : dk_S → Prop) : Nat → Int32 → dk_S → Prop
  | 0, _, _ => False
  | n + 1, x1, s => ((144 ≤ x1 → E32 s) ∧ (¬ 144 ≤ x1 → (vp_in x1 144 ∧ (vp_in x1 144 ∧ (∀ s25 : dk_S, s25 = dk_row s 4 75 (upd (s 4 75) x1.toNatClampNeg (vp_nar .char (s 4 61 x1.toNatClampNeg))) → ∀ v26 : Int32, v26 = x1 + 1 → wf_X9_becomesAsTold_7 K E32 n v26 s25)))))
def wf_X9_becomesAsTold  (s : dk_S) (K : dk_S → Prop) : Prop :=
  ∀ s1 : dk_S, s1 = dk_row s 4 60 (upd (s 4 60) 2 0) → ∃ nn11 : Nat, wf_X9_becomesAsTold_7 K (fun (s2 : dk_S) => ∃ nn10 : Nat, wf_X9_becomesAsTold_34 K (fun (s3 : dk_S) => ∃ nn9 : Nat, wf_X9_becomesAsTold_93 K (fun (s4 : dk_S) => ∃ nn8 : Nat, wf_X9_becomesAsTold_119 K (fun (s5 : dk_S) => ∀ s6 : dk_S, s6 = dk_row s5 4 60 (upd (s5 4 60) 30 0) → ∀ s7 : dk_S, s7 = dk_row s6 4 60 (upd (s6 4 60) 31 0) → K s7) nn8 0 s4) nn9 0 s3) nn10 0 s2) nn11 0 s1
def wf_X9_tells  (s : dk_S) (K : dk_S → Prop) : Prop :=
  ∀ s1 : dk_S, s1 = dk_row s 4 60 (upd (s 4 60) 1 110) → wf_X9_becomesAsTold s1 (fun s2 => K s2)
def wf_X9_isCell_48  (K : Int32 → dk_S → Prop)  (s : dk_S) : Prop :=
  K 1 s
def wf_X9_isCell (a0 : Int32) (s : dk_S) (K : Int32 → dk_S → Prop) : Prop :=
  ((a0 = 35 → wf_X9_isCell_48 K s) ∧ (¬ a0 = 35 → ((a0 = 46 → wf_X9_isCell_48 K s) ∧ (¬ a0 = 46 → ((a0 = 126 → wf_X9_isCell_48 K s) ∧ (¬ a0 = 126 → ((a0 = 43 → wf_X9_isCell_48 K s) ∧ (¬ a0 = 43 → ((a0 = 47 → wf_X9_isCell_48 K s) ∧ (¬ a0 = 47 → ((a0 = 48 → wf_X9_isCell_48 K s) ∧ (¬ a0 = 48 → ((a0 = 49 → wf_X9_isCell_48 K s) ∧ (¬ a0 = 49 → ((¬ a0 = 50 → K 0 s) ∧ (a0 = 50 → wf_X9_isCell_48 K s))))))))))))))))
def wf_X9_dig_36  (K : Int32 → dk_S → Prop) (x1 : Int32) (x2 : Int32) (x3 : Int32) (y0 : Int32) (s : dk_S) : Prop :=
  wf_X9_goesOn y0 s (fun r11 s10 => ((¬ r11 = 0 → wf_X9_at x1 x2 s10 (fun r13 s12 => (vp_in r13 144 ∧ ∀ v14 : Int32, v14 = s12 4 61 r13.toNatClampNeg → wf_X9_at x1 x2 s12 (fun r16 s15 => (vp_in r16 144 ∧ (∀ s17 : dk_S, s17 = dk_row s15 4 61 (upd (s15 4 61) r16.toNatClampNeg (vp_nar .char x3)) → wf_X9_tells s17 (fun s18 => (narrow .char (.int v14) = .int v14 ∧ K v14 s18)))))))) ∧ (r11 = 0 → K 0 s10)))
def wf_X9_dig (a1 : Int32) (a2 : Int32) (a3 : Int32) (s : dk_S) (K : Int32 → dk_S → Prop) : Prop :=
  wf_X9_isPlace a1 a2 s (fun r2 s1 => ((¬ r2 = 0 → wf_X9_isCell a3 s1 (fun r4 s3 => ((¬ r4 = 0 → wf_X9_isOn s3 (fun r6 s5 => ((r6 = 0 → wf_X9_dig_36 K a1 a2 a3 0 s5) ∧ (¬ r6 = 0 → wf_X9_dig_36 K a1 a2 a3 3 s5)))) ∧ (r4 = 0 → wf_X9_dig_36 K a1 a2 a3 2 s3)))) ∧ (r2 = 0 → wf_X9_dig_36 K a1 a2 a3 1 s1)))
def wf_X9_setKind_37  (K : Int32 → dk_S → Prop) (x1 : Int32) (x2 : Int32) (x3 : Int32) (y0 : Int32) (s : dk_S) : Prop :=
  wf_X9_goesOn y0 s (fun r11 s10 => ((¬ r11 = 0 → (vp_in x1 8 ∧ ∀ v12 : Int32, v12 = s10 4 62 x1.toNatClampNeg → (vp_in x1 8 ∧ (∀ s13 : dk_S, s13 = dk_row s10 4 62 (upd (s10 4 62) x1.toNatClampNeg x2) → (vp_in x1 8 ∧ (∀ s14 : dk_S, s14 = dk_row s13 4 63 (upd (s13 4 63) x1.toNatClampNeg (vp_nar .boolean x3)) → wf_X9_tells s14 (fun s15 => K v12 s15))))))) ∧ (r11 = 0 → K 0 s10)))
def wf_X9_setKind (a1 : Int32) (a2 : Int32) (a3 : Int32) (s : dk_S) (K : Int32 → dk_S → Prop) : Prop :=
  wf_X9_in a1 0 7 s (fun r2 s1 => ((r2 = 0 → wf_X9_setKind_37 K a1 a2 a3 1 s1) ∧ (¬ r2 = 0 → wf_X9_in a2 0 9 s1 (fun r4 s3 => ((¬ r4 = 0 → wf_X9_isOn s3 (fun r6 s5 => ((r6 = 0 → wf_X9_setKind_37 K a1 a2 a3 0 s5) ∧ (¬ r6 = 0 → wf_X9_setKind_37 K a1 a2 a3 2 s5)))) ∧ (r4 = 0 → wf_X9_setKind_37 K a1 a2 a3 1 s3))))))
def wf_X9_isEffect_30  (K : Int32 → dk_S → Prop)  (s : dk_S) : Prop :=
  K 1 s
def wf_X9_isEffect (a0 : Int32) (s : dk_S) (K : Int32 → dk_S → Prop) : Prop :=
  ((a0 = 104 → wf_X9_isEffect_30 K s) ∧ (¬ a0 = 104 → ((a0 = 100 → wf_X9_isEffect_30 K s) ∧ (¬ a0 = 100 → ((a0 = 115 → wf_X9_isEffect_30 K s) ∧ (¬ a0 = 115 → ((a0 = 98 → wf_X9_isEffect_30 K s) ∧ (¬ a0 = 98 → ((¬ a0 = 102 → K 0 s) ∧ (a0 = 102 → wf_X9_isEffect_30 K s))))))))))
def wf_X9_isPotion (a0 : Int32) (s : dk_S) (K : Int32 → dk_S → Prop) : Prop :=
  wf_X9_in a0 3 5 s (fun r2 s1 => (narrow .boolean (.int r2) = .int r2 ∧ K r2 s1))
def wf_X9_setEffect_63  (K : Int32 → dk_S → Prop) (x1 : Int32) (x2 : Int32) (x3 : Int32) (x4 : Int32) (y0 : Int32) (s : dk_S) : Prop :=
  wf_X9_goesOn y0 s (fun r18 s17 => ((¬ r18 = 0 → (vp_in x1 8 ∧ ∀ v19 : Int32, v19 = s17 4 64 x1.toNatClampNeg → (vp_in x1 8 ∧ (∀ s20 : dk_S, s20 = dk_row s17 4 64 (upd (s17 4 64) x1.toNatClampNeg (vp_nar .char x2)) → (vp_in x1 8 ∧ (∀ s21 : dk_S, s21 = dk_row s20 4 65 (upd (s20 4 65) x1.toNatClampNeg x3) → (vp_in x1 8 ∧ (∀ s22 : dk_S, s22 = dk_row s21 4 66 (upd (s21 4 66) x1.toNatClampNeg x4) → wf_X9_tells s22 (fun s23 => (narrow .char (.int v19) = .int v19 ∧ K v19 s23)))))))))) ∧ (r18 = 0 → K 0 s17)))
def wf_X9_setEffect_39  (K : Int32 → dk_S → Prop) (x1 : Int32) (x2 : Int32) (x3 : Int32) (x4 : Int32) (y0 : Int32) (s : dk_S) : Prop :=
  ((¬ y0 = 0 → wf_X9_isOn s (fun r14 s13 => ((r14 = 0 → wf_X9_setEffect_63 K x1 x2 x3 x4 0 s13) ∧ (¬ r14 = 0 → wf_X9_setEffect_63 K x1 x2 x3 x4 2 s13)))) ∧ (y0 = 0 → wf_X9_setEffect_63 K x1 x2 x3 x4 1 s))
def wf_X9_setEffect (a1 : Int32) (a2 : Int32) (a3 : Int32) (a4 : Int32) (s : dk_S) (K : Int32 → dk_S → Prop) : Prop :=
  wf_X9_isPotion a1 s (fun r2 s1 => ((r2 = 0 → wf_X9_setEffect_39 K a1 a2 a3 a4 0 s1) ∧ (¬ r2 = 0 → wf_X9_isEffect a2 s1 (fun r4 s3 => ((r4 = 0 → wf_X9_setEffect_39 K a1 a2 a3 a4 0 s3) ∧ (¬ r4 = 0 → wf_X9_in a3 1 20 s3 (fun r6 s5 => ((r6 = 0 → wf_X9_setEffect_39 K a1 a2 a3 a4 0 s5) ∧ (¬ r6 = 0 → wf_X9_in a4 0 3 s5 (fun r8 s7 => ((r8 = 0 → wf_X9_setEffect_39 K a1 a2 a3 a4 0 s7) ∧ (¬ r8 = 0 → wf_X9_setEffect_39 K a1 a2 a3 a4 1 s7))))))))))))
def wf_X9_setHero_50  (K : Int32 → dk_S → Prop) (x1 : Int32) (x2 : Int32) (x3 : Int32) (x4 : Int32) (y0 : Int32) (s : dk_S) : Prop :=
  wf_X9_goesOn y0 s (fun r14 s13 => ((¬ r14 = 0 → (vp_in 0 8 ∧ ∀ v15 : Int32, v15 = s13 4 70 (0 : Int32).toNatClampNeg → wf_X9_at x1 x2 s13 (fun r17 s16 => (vp_in 0 8 ∧ (∀ s18 : dk_S, s18 = dk_row s16 4 67 (upd (s16 4 67) (0 : Int32).toNatClampNeg r17) → (vp_in 0 8 ∧ (∀ s19 : dk_S, s19 = dk_row s18 4 68 (upd (s18 4 68) (0 : Int32).toNatClampNeg x3) → (vp_in 0 8 ∧ (∀ s20 : dk_S, s20 = dk_row s19 4 70 (upd (s19 4 70) (0 : Int32).toNatClampNeg x4) → wf_X9_tells s20 (fun s21 => K v15 s21)))))))))) ∧ (r14 = 0 → K 0 s13)))
def wf_X9_setHero (a1 : Int32) (a2 : Int32) (a3 : Int32) (a4 : Int32) (s : dk_S) (K : Int32 → dk_S → Prop) : Prop :=
  wf_X9_isPlace a1 a2 s (fun r2 s1 => ((¬ r2 = 0 → wf_X9_in a3 1 24 s1 (fun r4 s3 => ((r4 = 0 → wf_X9_setHero_50 K a1 a2 a3 a4 2 s3) ∧ (¬ r4 = 0 → wf_X9_in a4 1 99 s3 (fun r6 s5 => ((¬ r6 = 0 → wf_X9_isOn s5 (fun r8 s7 => ((r8 = 0 → wf_X9_setHero_50 K a1 a2 a3 a4 0 s7) ∧ (¬ r8 = 0 → wf_X9_setHero_50 K a1 a2 a3 a4 3 s7)))) ∧ (r6 = 0 → wf_X9_setHero_50 K a1 a2 a3 a4 2 s5))))))) ∧ (r2 = 0 → wf_X9_setHero_50 K a1 a2 a3 a4 1 s1)))
def wf_X9_addBeast_82  (K : Int32 → dk_S → Prop) (x1 : Int32) (x2 : Int32) (x3 : Int32) (x4 : Int32) (x5 : Int32) (y0 : Int32) (s : dk_S) : Prop :=
  wf_X9_goesOn y0 s (fun r19 s18 => ((¬ r19 = 0 → wf_X9_at x1 x2 s18 (fun r21 s20 => (vp_in (s18 4 60 10) 8 ∧ (∀ s22 : dk_S, s22 = dk_row s20 4 67 (upd (s20 4 67) (s18 4 60 10).toNatClampNeg r21) → (vp_in (s22 4 60 10) 8 ∧ (∀ s23 : dk_S, s23 = dk_row s22 4 68 (upd (s22 4 68) (s22 4 60 10).toNatClampNeg x3) → (vp_in (s23 4 60 10) 8 ∧ (∀ s24 : dk_S, s24 = dk_row s23 4 69 (upd (s23 4 69) (s23 4 60 10).toNatClampNeg x4) → (vp_in (s24 4 60 10) 8 ∧ (∀ s25 : dk_S, s25 = dk_row s24 4 70 (upd (s24 4 70) (s24 4 60 10).toNatClampNeg x5) → ∀ s26 : dk_S, s26 = dk_row s25 4 60 (upd (s25 4 60) 10 ((s25 4 60 10) + 1)) → wf_X9_tells s26 (fun s27 => K ((s27 4 60 10) - 1) s27))))))))))) ∧ (r19 = 0 → K 0 s18)))
def wf_X9_addBeast_37  (K : Int32 → dk_S → Prop) (x1 : Int32) (x2 : Int32) (x3 : Int32) (x4 : Int32) (x5 : Int32) (y0 : Int32) (s : dk_S) : Prop :=
  wf_X9_isPlace x1 x2 s (fun r11 s10 => ((¬ r11 = 0 → ((¬ y0 = 0 → wf_X9_isOn s10 (fun r13 s12 => ((¬ r13 = 0 → wf_X9_addBeast_82 K x1 x2 x3 x4 x5 3 s12) ∧ (r13 = 0 → ((¬ (s12 4 60 10) = 8 → wf_X9_addBeast_82 K x1 x2 x3 x4 x5 0 s12) ∧ ((s12 4 60 10) = 8 → wf_X9_addBeast_82 K x1 x2 x3 x4 x5 3 s12)))))) ∧ (y0 = 0 → wf_X9_addBeast_82 K x1 x2 x3 x4 x5 2 s10))) ∧ (r11 = 0 → wf_X9_addBeast_82 K x1 x2 x3 x4 x5 1 s10)))
def wf_X9_addBeast (a1 : Int32) (a2 : Int32) (a3 : Int32) (a4 : Int32) (a5 : Int32) (s : dk_S) (K : Int32 → dk_S → Prop) : Prop :=
  wf_X9_in a3 1 24 s (fun r2 s1 => ((r2 = 0 → wf_X9_addBeast_37 K a1 a2 a3 a4 a5 0 s1) ∧ (¬ r2 = 0 → wf_X9_in a4 0 9 s1 (fun r4 s3 => ((r4 = 0 → wf_X9_addBeast_37 K a1 a2 a3 a4 a5 0 s3) ∧ (¬ r4 = 0 → wf_X9_in a5 1 30 s3 (fun r6 s5 => ((r6 = 0 → wf_X9_addBeast_37 K a1 a2 a3 a4 a5 0 s5) ∧ (¬ r6 = 0 → wf_X9_addBeast_37 K a1 a2 a3 a4 a5 1 s5)))))))))
def wf_X9_isThing (a1 : Int32) (s : dk_S) (K : Int32 → dk_S → Prop) : Prop :=
  wf_X9_in a1 0 ((s 4 60 15) - 1) s (fun r2 s1 => (narrow .boolean (.int r2) = .int r2 ∧ K r2 s1))
def wf_X9_addThing_146  (K : Int32 → dk_S → Prop) (y0 : Int32) (y1 : Int32) (s : dk_S) : Prop :=
  (vp_in y1 24 ∧ (∀ s25 : dk_S, s25 = dk_row s 4 72 (upd (s 4 72) y1.toNatClampNeg y0) → ∀ s26 : dk_S, s26 = dk_row s25 4 60 (upd (s25 4 60) 15 ((s25 4 60 15) + 1)) → wf_X9_tells s26 (fun s27 => K ((s27 4 60 15) - 1) s27)))
def wf_X9_addThing_96  (K : Int32 → dk_S → Prop) (x1 : Int32) (x2 : Int32) (x3 : Int32) (x4 : Int32) (y0 : Int32) (s : dk_S) : Prop :=
  wf_X9_goesOn y0 s (fun r19 s18 => ((¬ r19 = 0 → (vp_in (s18 4 60 15) 24 ∧ (∀ s20 : dk_S, s20 = dk_row s18 4 71 (upd (s18 4 71) (s18 4 60 15).toNatClampNeg x1) → ((¬ x4 = (-1) → wf_X9_addThing_146 K ((-3) - x4) (s20 4 60 15) s20) ∧ (x4 = (-1) → wf_X9_at x2 x3 s20 (fun r22 s21 => wf_X9_addThing_146 K r22 (s20 4 60 15) s21)))))) ∧ (r19 = 0 → K 0 s18)))
def wf_X9_addThing_75  (K : Int32 → dk_S → Prop) (x1 : Int32) (x2 : Int32) (x3 : Int32) (x4 : Int32) (s : dk_S) : Prop :=
  wf_X9_isOn s (fun r15 s14 => ((¬ r15 = 0 → wf_X9_addThing_96 K x1 x2 x3 x4 4 s14) ∧ (r15 = 0 → ((¬ (s14 4 60 15) = 24 → wf_X9_addThing_96 K x1 x2 x3 x4 0 s14) ∧ ((s14 4 60 15) = 24 → wf_X9_addThing_96 K x1 x2 x3 x4 4 s14)))))
def wf_X9_addThing_28  (K : Int32 → dk_S → Prop) (x1 : Int32) (x2 : Int32) (x3 : Int32) (x4 : Int32) (y0 : Int32) (s : dk_S) : Prop :=
  wf_X9_in x1 0 7 s (fun r9 s8 => ((¬ r9 = 0 → ((¬ y0 = 0 → ((x4 = (-1) → wf_X9_addThing_75 K x1 x2 x3 x4 s8) ∧ (¬ x4 = (-1) → (vp_in x4 24 ∧ (((s8 4 71 x4.toNatClampNeg) = 6 → wf_X9_addThing_75 K x1 x2 x3 x4 s8) ∧ (¬ (s8 4 71 x4.toNatClampNeg) = 6 → wf_X9_addThing_96 K x1 x2 x3 x4 3 s8)))))) ∧ (y0 = 0 → wf_X9_addThing_96 K x1 x2 x3 x4 2 s8))) ∧ (r9 = 0 → wf_X9_addThing_96 K x1 x2 x3 x4 1 s8)))
def wf_X9_addThing (a1 : Int32) (a2 : Int32) (a3 : Int32) (a4 : Int32) (s : dk_S) (K : Int32 → dk_S → Prop) : Prop :=
  wf_X9_isPlace a2 a3 s (fun r2 s1 => ((r2 = 0 → wf_X9_addThing_28 K a1 a2 a3 a4 0 s1) ∧ (¬ r2 = 0 → ((a4 = (-1) → wf_X9_addThing_28 K a1 a2 a3 a4 1 s1) ∧ (¬ a4 = (-1) → wf_X9_isThing a4 s1 (fun r4 s3 => ((r4 = 0 → wf_X9_addThing_28 K a1 a2 a3 a4 0 s3) ∧ (¬ r4 = 0 → wf_X9_addThing_28 K a1 a2 a3 a4 1 s3))))))))
def wf_X9_addLamp_47  (K : Int32 → dk_S → Prop) (x1 : Int32) (x2 : Int32) (x3 : Int32) (y0 : Int32) (s : dk_S) : Prop :=
  wf_X9_goesOn y0 s (fun r12 s11 => ((¬ r12 = 0 → wf_X9_at x1 x2 s11 (fun r14 s13 => (vp_in (s11 4 60 18) 4 ∧ (∀ s15 : dk_S, s15 = dk_row s13 4 73 (upd (s13 4 73) (s11 4 60 18).toNatClampNeg r14) → (vp_in (s15 4 60 18) 4 ∧ (∀ s16 : dk_S, s16 = dk_row s15 4 74 (upd (s15 4 74) (s15 4 60 18).toNatClampNeg x3) → ∀ s17 : dk_S, s17 = dk_row s16 4 60 (upd (s16 4 60) 18 ((s16 4 60 18) + 1)) → wf_X9_tells s17 (fun s18 => K (s18 4 60 18) s18))))))) ∧ (r12 = 0 → K 0 s11)))
def wf_X9_addLamp (a1 : Int32) (a2 : Int32) (a3 : Int32) (s : dk_S) (K : Int32 → dk_S → Prop) : Prop :=
  wf_X9_isPlace a1 a2 s (fun r2 s1 => ((¬ r2 = 0 → wf_X9_in a3 0 9 s1 (fun r4 s3 => ((¬ r4 = 0 → wf_X9_isOn s3 (fun r6 s5 => ((¬ r6 = 0 → wf_X9_addLamp_47 K a1 a2 a3 3 s5) ∧ (r6 = 0 → ((¬ (s5 4 60 18) = 4 → wf_X9_addLamp_47 K a1 a2 a3 0 s5) ∧ ((s5 4 60 18) = 4 → wf_X9_addLamp_47 K a1 a2 a3 3 s5)))))) ∧ (r4 = 0 → wf_X9_addLamp_47 K a1 a2 a3 2 s3)))) ∧ (r2 = 0 → wf_X9_addLamp_47 K a1 a2 a3 1 s1)))
def wf_X9_crosses_282  (K : Int32 → dk_S → Prop) (x15 : Int32) (y0 : Int32) (s : dk_S) : Prop :=
  ((y0 ≤ x15 → K 0 s) ∧ (¬ y0 ≤ x15 → K 1 s))
def wf_X9_crosses_256  (K : Int32 → dk_S → Prop) (x7 : Int32) (x8 : Int32) (x16 : Int32) (y0 : Int32) (s : dk_S) : Prop :=
  ((x16 ≤ ((2 * x7) * x8) → wf_X9_crosses_282 K y0 x16 s) ∧ (¬ x16 ≤ ((2 * x7) * x8) → wf_X9_crosses_282 K y0 ((2 * x7) * x8) s))
def wf_X9_crosses_227  (K : Int32 → dk_S → Prop) (x7 : Int32) (x8 : Int32) (x12 : Int32) (x14 : Int32) (y0 : Int32) (s : dk_S) : Prop :=
  ((x14 ≤ x12 → ((0 ≤ y0 → wf_X9_crosses_256 K x7 x8 x14 y0 s) ∧ (¬ 0 ≤ y0 → wf_X9_crosses_256 K x7 x8 x14 0 s))) ∧ (¬ x14 ≤ x12 → ((0 ≤ y0 → wf_X9_crosses_256 K x7 x8 x12 y0 s) ∧ (¬ 0 ≤ y0 → wf_X9_crosses_256 K x7 x8 x12 0 s))))
def wf_X9_crosses_211  (K : Int32 → dk_S → Prop) (x7 : Int32) (x8 : Int32) (x11 : Int32) (x12 : Int32) (x13 : Int32) (y0 : Int32) (s : dk_S) : Prop :=
  ((x11 ≤ x13 → wf_X9_crosses_227 K x7 x8 x12 y0 x13 s) ∧ (¬ x11 ≤ x13 → wf_X9_crosses_227 K x7 x8 x12 y0 x11 s))
def wf_X9_crosses_185  (K : Int32 → dk_S → Prop) (x4 : Int32) (x7 : Int32) (x8 : Int32) (x10 : Int32) (x11 : Int32) (x12 : Int32) (y0 : Int32) (s : dk_S) : Prop :=
  ((¬ x4 = 0 → wf_X9_crosses_211 K x7 x8 x11 x12 y0 (((2 * x10) + 1) * x7) s) ∧ (x4 = 0 → wf_X9_crosses_211 K x7 x8 x11 x12 y0 ((2 * x7) * x8) s))
def wf_X9_crosses_165  (K : Int32 → dk_S → Prop) (x4 : Int32) (x7 : Int32) (x8 : Int32) (x10 : Int32) (x11 : Int32) (y0 : Int32) (s : dk_S) : Prop :=
  ((¬ x4 = 0 → wf_X9_crosses_185 K x4 x7 x8 x10 x11 y0 (((2 * x10) - 1) * x7) s) ∧ (x4 = 0 → wf_X9_crosses_185 K x4 x7 x8 x10 x11 y0 0 s))
def wf_X9_crosses_140  (K : Int32 → dk_S → Prop) (x3 : Int32) (x4 : Int32) (x7 : Int32) (x8 : Int32) (x9 : Int32) (x10 : Int32) (y0 : Int32) (s : dk_S) : Prop :=
  ((¬ x3 = 0 → wf_X9_crosses_165 K x4 x7 x8 x10 y0 (((2 * x9) + 1) * x8) s) ∧ (x3 = 0 → wf_X9_crosses_165 K x4 x7 x8 x10 y0 ((2 * x7) * x8) s))
def wf_X9_crosses_121  (K : Int32 → dk_S → Prop) (x3 : Int32) (x4 : Int32) (x7 : Int32) (x8 : Int32) (x9 : Int32) (y0 : Int32) (s : dk_S) : Prop :=
  ((¬ x3 = 0 → wf_X9_crosses_140 K x3 x4 x7 x8 x9 y0 (((2 * x9) - 1) * x8) s) ∧ (x3 = 0 → wf_X9_crosses_140 K x3 x4 x7 x8 x9 y0 0 s))
def wf_X9_crosses_106  (K : Int32 → dk_S → Prop) (x3 : Int32) (x4 : Int32) (x6 : Int32) (x7 : Int32) (x8 : Int32) (y0 : Int32) (s : dk_S) : Prop :=
  ((0 ≤ x4 → wf_X9_crosses_121 K x3 x4 x7 x8 y0 x6 s) ∧ (¬ 0 ≤ x4 → wf_X9_crosses_121 K x3 x4 x7 x8 y0 (-x6) s))
def wf_X9_crosses_92  (K : Int32 → dk_S → Prop) (x3 : Int32) (x4 : Int32) (x5 : Int32) (x6 : Int32) (x7 : Int32) (y0 : Int32) (s : dk_S) : Prop :=
  ((0 ≤ x3 → wf_X9_crosses_106 K x3 x4 x6 x7 y0 x5 s) ∧ (¬ 0 ≤ x3 → wf_X9_crosses_106 K x3 x4 x6 x7 y0 (-x5) s))
def wf_X9_crosses_76  (K : Int32 → dk_S → Prop) (x3 : Int32) (x4 : Int32) (x5 : Int32) (x6 : Int32) (y0 : Int32) (s : dk_S) : Prop :=
  ((¬ x4 = 0 → wf_X9_far x4 s (fun r32 s31 => wf_X9_crosses_92 K x3 x4 x5 x6 y0 r32 s31)) ∧ (x4 = 0 → wf_X9_crosses_92 K x3 x4 x5 x6 y0 1 s))
def wf_X9_crosses_52  (K : Int32 → dk_S → Prop) (x3 : Int32) (x4 : Int32) (x5 : Int32) (x6 : Int32) (s : dk_S) : Prop :=
  ((¬ x4 = 0 → ((¬ x3 = 0 → wf_X9_far x3 s (fun r24 s23 => wf_X9_crosses_76 K x3 x4 x5 x6 r24 s23)) ∧ (x3 = 0 → wf_X9_crosses_76 K x3 x4 x5 x6 1 s))) ∧ (x4 = 0 → ((x6 = 0 → ((¬ x3 = 0 → wf_X9_far x3 s (fun r27 s26 => wf_X9_crosses_76 K x3 x4 x5 x6 r27 s26)) ∧ (x3 = 0 → wf_X9_crosses_76 K x3 x4 x5 x6 1 s))) ∧ (¬ x6 = 0 → K 0 s))))
def wf_X9_crosses (a0 : Int32) (a1 : Int32) (a2 : Int32) (s : dk_S) (K : Int32 → dk_S → Prop) : Prop :=
  wf_X9_xOf a1 s (fun r2 s1 => wf_X9_xOf a0 s1 (fun r4 s3 => ∀ v5 : Int32, v5 = r2 - r4 → wf_X9_yOf a1 s3 (fun r7 s6 => wf_X9_yOf a0 s6 (fun r9 s8 => ∀ v10 : Int32, v10 = r7 - r9 → wf_X9_xOf a2 s8 (fun r12 s11 => wf_X9_xOf a0 s11 (fun r14 s13 => ∀ v15 : Int32, v15 = r12 - r14 → wf_X9_yOf a2 s13 (fun r17 s16 => wf_X9_yOf a0 s16 (fun r19 s18 => ∀ v20 : Int32, v20 = r17 - r19 → ((¬ v5 = 0 → wf_X9_crosses_52 K v5 v10 v15 v20 s18) ∧ (v5 = 0 → ((¬ v15 = 0 → K 0 s18) ∧ (v15 = 0 → wf_X9_crosses_52 K v5 v10 v15 v20 s18))))))))))))
def wf_X9_sees_48  (K : Int32 → dk_S → Prop) (B : Int32 → Int32 → Int32 → Int32 → dk_S → Prop) (x1 : Int32) (x2 : Int32) (x4 : Int32) (s : dk_S) : Prop :=
  ∀ v13 : Int32, v13 = x4 + 1 → B x1 x2 1 v13 s
def wf_X9_sees_5  (K : Int32 → dk_S → Prop) : Nat → Int32 → Int32 → Int32 → Int32 → dk_S → Prop
  | 0, _, _, _, _, _ => False
  | n + 1, x1, x2, x3, x4, s => ((144 ≤ x4 → (narrow .boolean (.int x3) = .int x3 ∧ K x3 s)) ∧ (¬ 144 ≤ x4 → ((x3 = 0 → (narrow .boolean (.int x3) = .int x3 ∧ K x3 s)) ∧ (¬ x3 = 0 → ((x4 = x1 → wf_X9_sees_48 K (wf_X9_sees_5 K n) x1 x2 x4 s) ∧ (¬ x4 = x1 → ((x4 = x2 → wf_X9_sees_48 K (wf_X9_sees_5 K n) x1 x2 x4 s) ∧ (¬ x4 = x2 → wf_X9_isFree x4 s (fun r3 s2 => ((¬ r3 = 0 → wf_X9_sees_48 K (wf_X9_sees_5 K n) x1 x2 x4 s2) ∧ (r3 = 0 → wf_X9_crosses x1 x2 x4 s2 (fun r5 s4 => ((¬ r5 = 0 → ∀ v6 : Int32, v6 = x4 + 1 → wf_X9_sees_5 K n x1 x2 0 v6 s4) ∧ (r5 = 0 → wf_X9_sees_48 K (wf_X9_sees_5 K n) x1 x2 x4 s4))))))))))))))
def wf_X9_sees (a1 : Int32) (a2 : Int32) (s : dk_S) (K : Int32 → dk_S → Prop) : Prop :=
  ∃ nn1 : Nat, wf_X9_sees_5 K nn1 a1 a2 1 0 s
def wf_X9_isLit_4  (K : Int32 → dk_S → Prop) : Nat → Int32 → Int32 → Int32 → dk_S → Prop
  | 0, _, _, _, _ => False
  | n + 1, x1, x2, x3, s => (((s 4 60 18) ≤ x3 → (narrow .boolean (.int x2) = .int x2 ∧ K x2 s)) ∧ (¬ (s 4 60 18) ≤ x3 → ((¬ x2 = 0 → (narrow .boolean (.int x2) = .int x2 ∧ K x2 s)) ∧ (x2 = 0 → wf_X9_xOf x1 s (fun r3 s2 => (vp_in x3 4 ∧ wf_X9_xOf (s2 4 73 x3.toNatClampNeg) s2 (fun r5 s4 => ∀ v6 : Int32, v6 = r3 - r5 → wf_X9_yOf x1 s4 (fun r8 s7 => (vp_in x3 4 ∧ wf_X9_yOf (s7 4 73 x3.toNatClampNeg) s7 (fun r10 s9 => ∀ v11 : Int32, v11 = r8 - r10 → (vp_in x3 4 ∧ (vp_in x3 4 ∧ ((((s9 4 74 x3.toNatClampNeg) * (s9 4 74 x3.toNatClampNeg)) < ((v6 * v6) + (v11 * v11)) → ∀ v12 : Int32, v12 = x3 + 1 → wf_X9_isLit_4 K n x1 0 v12 s9) ∧ (¬ ((s9 4 74 x3.toNatClampNeg) * (s9 4 74 x3.toNatClampNeg)) < ((v6 * v6) + (v11 * v11)) → (vp_in x3 4 ∧ wf_X9_sees (s9 4 73 x3.toNatClampNeg) x1 s9 (fun r14 s13 => ((r14 = 0 → ∀ v15 : Int32, v15 = x3 + 1 → wf_X9_isLit_4 K n x1 0 v15 s13) ∧ (¬ r14 = 0 → ∀ v16 : Int32, v16 = x3 + 1 → wf_X9_isLit_4 K n x1 1 v16 s13))))))))))))))))))
def wf_X9_isLit (a1 : Int32) (s : dk_S) (K : Int32 → dk_S → Prop) : Prop :=
  ∃ nn1 : Nat, wf_X9_isLit_4 K nn1 a1 0 0 s
def wf_X9_around (a0 : Int32) (a1 : Int32) (s : dk_S) (K : Int32 → dk_S → Prop) : Prop :=
  wf_X9_xOf a0 s (fun r2 s1 => wf_X9_xOf a1 s1 (fun r4 s3 => wf_X9_far (r2 - r4) s3 (fun r6 s5 => wf_X9_yOf a0 s5 (fun r8 s7 => wf_X9_yOf a1 s7 (fun r10 s9 => wf_X9_far (r8 - r10) s9 (fun r12 s11 => ((r6 ≤ r12 → K r12 s11) ∧ (¬ r6 ≤ r12 → K r6 s11))))))))
def wf_X9_heroSeesCell (a1 : Int32) (s : dk_S) (K : Int32 → dk_S → Prop) : Prop :=
  (((s 4 60 30) ≤ 0 → (vp_in 0 8 ∧ wf_X9_sees (s 4 76 (0 : Int32).toNatClampNeg) a1 s (fun r2 s1 => ((r2 = 0 → K 0 s1) ∧ (¬ r2 = 0 → (vp_in 0 8 ∧ wf_X9_around (s1 4 76 (0 : Int32).toNatClampNeg) a1 s1 (fun r4 s3 => ((r4 ≤ 1 → K 1 s3) ∧ (¬ r4 ≤ 1 → wf_X9_isLit a1 s3 (fun r6 s5 => ((r6 = 0 → K 0 s5) ∧ (¬ r6 = 0 → K 1 s5)))))))))))) ∧ (¬ (s 4 60 30) ≤ 0 → (vp_in 0 8 ∧ ((¬ a1 = (s 4 76 (0 : Int32).toNatClampNeg) → K 0 s) ∧ (a1 = (s 4 76 (0 : Int32).toNatClampNeg) → K 1 s)))))
def wf_X9_isDoor (a0 : Int32) (s : dk_S) (K : Int32 → dk_S → Prop) : Prop :=
  ((a0 = 43 → K 1 s) ∧ (¬ a0 = 43 → wf_X9_in a0 48 50 s (fun r2 s1 => ((r2 = 0 → K 0 s1) ∧ (¬ r2 = 0 → K 1 s1)))))
def wf_X9_findsSteps_206  (K : dk_S → Prop) (B : Int32 → Int32 → Int32 → Int32 → Int32 → Int32 → dk_S → Prop) (E230 : Int32 → Int32 → Int32 → Int32 → dk_S → Prop) (x2 : Int32) (x3 : Int32) (x4 : Int32) (x5 : Int32) (x6 : Int32) (x7 : Int32) (x9 : Int32) (y0 : Int32) (y1 : Int32) (s : dk_S) : Prop :=
  (vp_in y1 144 ∧ (∀ s40 : dk_S, s40 = dk_row s 4 86 (upd (s 4 86) y1.toNatClampNeg y0) → ((¬ x4 = 0 → ∀ v41 : Int32, v41 = x7 + 1 → B x2 x3 1 x5 x6 v41 s40) ∧ (x4 = 0 → ((x9 = 0 → ∀ v42 : Int32, v42 = x7 + 1 → B x2 x3 0 x5 x6 v42 s40) ∧ (¬ x9 = 0 → ∀ v43 : Int32, v43 = x7 + 1 → B x2 x3 1 x5 x6 v43 s40))))))
def wf_X9_findsSteps_173  (K : dk_S → Prop) (B : Int32 → Int32 → Int32 → Int32 → Int32 → Int32 → dk_S → Prop) (E230 : Int32 → Int32 → Int32 → Int32 → dk_S → Prop) (x2 : Int32) (x3 : Int32) (x4 : Int32) (x5 : Int32) (x6 : Int32) (x7 : Int32) (x8 : Int32) (y0 : Int32) (s : dk_S) : Prop :=
  ((y0 = 0 → (vp_in x5 144 ∧ wf_X9_findsSteps_206 K B E230 x2 x3 x4 x5 x6 x7 y0 (s 4 86 x5.toNatClampNeg) x5 s)) ∧ (¬ y0 = 0 → (vp_in x8 144 ∧ wf_X9_findsSteps_206 K B E230 x2 x3 x4 x5 x6 x7 y0 ((s 4 86 x8.toNatClampNeg) + x6) x5 s)))
def wf_X9_findsSteps_108  (K : dk_S → Prop) (E230 : Int32 → Int32 → Int32 → Int32 → dk_S → Prop) : Nat → Int32 → Int32 → Int32 → Int32 → Int32 → Int32 → dk_S → Prop
  | 0, _, _, _, _, _, _, _ => False
  | n + 1, x2, x3, x4, x5, x6, x7, s => ((4 ≤ x7 → E230 x2 x3 x4 x5 s) ∧ (¬ 4 ≤ x7 → wf_X9_beside x5 x7 s (fun r33 s32 => ((r33 = (-1) → wf_X9_findsSteps_173 K (wf_X9_findsSteps_108 K E230 n) E230 x2 x3 x4 x5 x6 x7 r33 0 s32) ∧ (¬ r33 = (-1) → (vp_in r33 144 ∧ ((100000 ≤ (s32 4 86 r33.toNatClampNeg) → wf_X9_findsSteps_173 K (wf_X9_findsSteps_108 K E230 n) E230 x2 x3 x4 x5 x6 x7 r33 0 s32) ∧ (¬ 100000 ≤ (s32 4 86 r33.toNatClampNeg) → ((100000 ≤ x6 → wf_X9_findsSteps_173 K (wf_X9_findsSteps_108 K E230 n) E230 x2 x3 x4 x5 x6 x7 r33 0 s32) ∧ (¬ 100000 ≤ x6 → (vp_in r33 144 ∧ (vp_in x5 144 ∧ (((s32 4 86 x5.toNatClampNeg) ≤ ((s32 4 86 r33.toNatClampNeg) + x6) → wf_X9_findsSteps_173 K (wf_X9_findsSteps_108 K E230 n) E230 x2 x3 x4 x5 x6 x7 r33 0 s32) ∧ (¬ (s32 4 86 x5.toNatClampNeg) ≤ ((s32 4 86 r33.toNatClampNeg) + x6) → wf_X9_findsSteps_173 K (wf_X9_findsSteps_108 K E230 n) E230 x2 x3 x4 x5 x6 x7 r33 1 s32))))))))))))))
def wf_X9_findsSteps_103  (K : dk_S → Prop) (B : Int32 → Int32 → Int32 → Int32 → dk_S → Prop) (E236 : Int32 → Int32 → Int32 → dk_S → Prop) (x2 : Int32) (x3 : Int32) (x4 : Int32) (x5 : Int32) (y0 : Int32) (s : dk_S) : Prop :=
  ∃ nn31 : Nat, wf_X9_findsSteps_108 K (fun (w25 : Int32) (w26 : Int32) (w27 : Int32) (w28 : Int32) (s29 : dk_S) => ∀ v30 : Int32, v30 = w28 + 1 → B w25 w26 w27 v30 s29) nn31 x2 x3 x4 x5 y0 0 s
def wf_X9_findsSteps_47  (K : dk_S → Prop) (E236 : Int32 → Int32 → Int32 → dk_S → Prop) : Nat → Int32 → Int32 → Int32 → Int32 → dk_S → Prop
  | 0, _, _, _, _, _ => False
  | n + 1, x2, x3, x4, x5, s => ((144 ≤ x5 → E236 x2 x3 x4 s) ∧ (¬ 144 ≤ x5 → wf_X9_isFree x5 s (fun r18 s17 => ((r18 = 0 → (vp_in x5 144 ∧ ((¬ (s17 4 75 x5.toNatClampNeg) = 43 → (vp_in x5 144 ∧ wf_X9_isDoor (s17 4 75 x5.toNatClampNeg) s17 (fun r20 s19 => ((r20 = 0 → wf_X9_findsSteps_103 K (wf_X9_findsSteps_47 K E236 n) E236 x2 x3 x4 x5 100000 s19) ∧ (¬ r20 = 0 → wf_X9_findsSteps_103 K (wf_X9_findsSteps_47 K E236 n) E236 x2 x3 x4 x5 x3 s19))))) ∧ ((s17 4 75 x5.toNatClampNeg) = 43 → wf_X9_findsSteps_103 K (wf_X9_findsSteps_47 K E236 n) E236 x2 x3 x4 x5 x2 s17)))) ∧ (¬ r18 = 0 → wf_X9_findsSteps_103 K (wf_X9_findsSteps_47 K E236 n) E236 x2 x3 x4 x5 1 s17)))))
def wf_X9_findsSteps_36  (K : dk_S → Prop) : Nat → Int32 → Int32 → Int32 → dk_S → Prop
  | 0, _, _, _, _ => False
  | n + 1, x2, x3, x4, s => ((x4 = 0 → K s) ∧ (¬ x4 = 0 → ∃ nn12 : Nat, wf_X9_findsSteps_47 K (fun (w8 : Int32) (w9 : Int32) (w10 : Int32) (s11 : dk_S) => wf_X9_findsSteps_36 K n w8 w9 w10 s11) nn12 x2 x3 0 0 s))
def wf_X9_findsSteps_3  (K : dk_S → Prop) (E26 : Int32 → Int32 → Int32 → dk_S → Prop) : Nat → Int32 → Int32 → Int32 → Int32 → dk_S → Prop
  | 0, _, _, _, _, _ => False
  | n + 1, x1, x2, x3, x4, s => ((144 ≤ x4 → E26 x1 x2 x3 s) ∧ (¬ 144 ≤ x4 → (vp_in x4 144 ∧ (∀ s14 : dk_S, s14 = dk_row s 4 86 (upd (s 4 86) x4.toNatClampNeg 100000) → ∀ v15 : Int32, v15 = x4 + 1 → wf_X9_findsSteps_3 K E26 n x1 x2 x3 v15 s14))))
def wf_X9_findsSteps (a1 : Int32) (a2 : Int32) (a3 : Int32) (s : dk_S) (K : dk_S → Prop) : Prop :=
  ∃ nn7 : Nat, wf_X9_findsSteps_3 K (fun (w1 : Int32) (w2 : Int32) (w3 : Int32) (s4 : dk_S) => (vp_in w1 144 ∧ (∀ s5 : dk_S, s5 = dk_row s4 4 86 (upd (s4 4 86) w1.toNatClampNeg 0) → ∃ nn6 : Nat, wf_X9_findsSteps_36 K nn6 w2 w3 1 s5))) nn7 a1 a2 a3 0 s
def wf_X9_lives (a1 : Int32) (s : dk_S) (K : Int32 → dk_S → Prop) : Prop :=
  (vp_in a1 8 ∧ (((s 4 77 a1.toNatClampNeg) ≤ 0 → K 0 s) ∧ (¬ (s 4 77 a1.toNatClampNeg) ≤ 0 → K 1 s)))
def wf_X9_sounds_12  (K : Int32 → dk_S → Prop) : Nat → Int32 → Int32 → Int32 → Int32 → dk_S → Prop
  | 0, _, _, _, _, _ => False
  | n + 1, x1, x2, x3, x4, s => (((s 4 60 10) ≤ x4 → K x3 s) ∧ (¬ (s 4 60 10) ≤ x4 → wf_X9_lives x4 s (fun r4 s3 => ((r4 = 0 → ∀ v5 : Int32, v5 = x4 + 1 → wf_X9_sounds_12 K n x1 x2 x3 v5 s3) ∧ (¬ r4 = 0 → (vp_in x4 8 ∧ (vp_in (s3 4 76 x4.toNatClampNeg) 144 ∧ ((x2 < (s3 4 86 (s3 4 76 x4.toNatClampNeg).toNatClampNeg) → ∀ v6 : Int32, v6 = x4 + 1 → wf_X9_sounds_12 K n x1 x2 x3 v6 s3) ∧ (¬ x2 < (s3 4 86 (s3 4 76 x4.toNatClampNeg).toNatClampNeg) → (vp_in x4 8 ∧ (∀ s7 : dk_S, s7 = dk_row s3 4 81 (upd (s3 4 81) x4.toNatClampNeg x1) → ∀ v8 : Int32, v8 = x3 + 1 → ∀ v9 : Int32, v9 = x4 + 1 → wf_X9_sounds_12 K n x1 x2 v8 v9 s7)))))))))))
def wf_X9_sounds (a1 : Int32) (a2 : Int32) (s : dk_S) (K : Int32 → dk_S → Prop) : Prop :=
  wf_X9_findsSteps a1 3 3 s (fun s1 => ∃ nn2 : Nat, wf_X9_sounds_12 K nn2 a1 a2 0 1 s1)
def wf_X9_isBag (a1 : Int32) (s : dk_S) (K : Int32 → dk_S → Prop) : Prop :=
  (vp_in a1 24 ∧ ((¬ (s 4 71 a1.toNatClampNeg) = 6 → K 0 s) ∧ ((s 4 71 a1.toNatClampNeg) = 6 → K 1 s)))
def wf_X9_isWithin_7  (K : Int32 → dk_S → Prop) (E34 : Int32 → dk_S → Prop) : Nat → Int32 → Int32 → dk_S → Prop
  | 0, _, _, _ => False
  | n + 1, x2, x3, s => (((-3) < x3 → E34 x3 s) ∧ (¬ (-3) < x3 → ((((-3) - x3) = x2 → E34 x3 s) ∧ (¬ ((-3) - x3) = x2 → (vp_in ((-3) - x3) 24 ∧ ∀ v6 : Int32, v6 = s 4 82 ((-3) - x3).toNatClampNeg → wf_X9_isWithin_7 K E34 n x2 v6 s)))))
def wf_X9_isWithin (a1 : Int32) (a2 : Int32) (s : dk_S) (K : Int32 → dk_S → Prop) : Prop :=
  (vp_in a1 24 ∧ ∀ v1 : Int32, v1 = s 4 82 a1.toNatClampNeg → ∃ nn5 : Nat, wf_X9_isWithin_7 K (fun (w2 : Int32) (s3 : dk_S) => (((-3) < w2 → K 0 s3) ∧ (¬ (-3) < w2 → K 1 s3))) nn5 a2 v1 s)
def wf_X9_outermost_7  (K : Int32 → dk_S → Prop) : Nat → Int32 → dk_S → Prop
  | 0, _, _ => False
  | n + 1, x2, s => (((-3) < x2 → K x2 s) ∧ (¬ (-3) < x2 → (vp_in ((-3) - x2) 24 ∧ ∀ v3 : Int32, v3 = s 4 82 ((-3) - x2).toNatClampNeg → wf_X9_outermost_7 K n v3 s)))
def wf_X9_outermost (a1 : Int32) (s : dk_S) (K : Int32 → dk_S → Prop) : Prop :=
  (vp_in a1 24 ∧ ∀ v1 : Int32, v1 = s 4 82 a1.toNatClampNeg → ∃ nn2 : Nat, wf_X9_outermost_7 K nn2 v1 s)
def wf_X9_wholeWeight_14  (K : Int32 → dk_S → Prop) : Nat → Int32 → Int32 → Int32 → dk_S → Prop
  | 0, _, _, _, _ => False
  | n + 1, x1, x2, x3, s => (((s 4 60 15) ≤ x3 → K x2 s) ∧ (¬ (s 4 60 15) ≤ x3 → ((x3 = x1 → ∀ v3 : Int32, v3 = x2 + 0 → ∀ v4 : Int32, v4 = x3 + 1 → wf_X9_wholeWeight_14 K n x1 v3 v4 s) ∧ (¬ x3 = x1 → wf_X9_isWithin x3 x1 s (fun r6 s5 => ((r6 = 0 → ∀ v7 : Int32, v7 = x2 + 0 → ∀ v8 : Int32, v8 = x3 + 1 → wf_X9_wholeWeight_14 K n x1 v7 v8 s5) ∧ (¬ r6 = 0 → (vp_in x3 24 ∧ (vp_in (s5 4 71 x3.toNatClampNeg) 8 ∧ ∀ v9 : Int32, v9 = x2 + (s5 4 62 (s5 4 71 x3.toNatClampNeg).toNatClampNeg) → ∀ v10 : Int32, v10 = x3 + 1 → wf_X9_wholeWeight_14 K n x1 v9 v10 s5)))))))))
def wf_X9_wholeWeight (a1 : Int32) (s : dk_S) (K : Int32 → dk_S → Prop) : Prop :=
  (vp_in a1 24 ∧ (vp_in (s 4 71 a1.toNatClampNeg) 8 ∧ ∀ v1 : Int32, v1 = s 4 62 (s 4 71 a1.toNatClampNeg).toNatClampNeg → ∃ nn2 : Nat, wf_X9_wholeWeight_14 K nn2 a1 v1 0 s))
def wf_X9_carriedWeight_4  (K : Int32 → dk_S → Prop) : Nat → Int32 → Int32 → dk_S → Prop
  | 0, _, _, _ => False
  | n + 1, x1, x2, s => (((s 4 60 15) ≤ x2 → K x1 s) ∧ (¬ (s 4 60 15) ≤ x2 → wf_X9_outermost x2 s (fun r3 s2 => ((¬ r3 = (-1) → ∀ v4 : Int32, v4 = x1 + 0 → ∀ v5 : Int32, v5 = x2 + 1 → wf_X9_carriedWeight_4 K n v4 v5 s2) ∧ (r3 = (-1) → (vp_in x2 24 ∧ (vp_in (s2 4 71 x2.toNatClampNeg) 8 ∧ ∀ v6 : Int32, v6 = x1 + (s2 4 62 (s2 4 71 x2.toNatClampNeg).toNatClampNeg) → ∀ v7 : Int32, v7 = x2 + 1 → wf_X9_carriedWeight_4 K n v6 v7 s2)))))))
def wf_X9_carriedWeight  (s : dk_S) (K : Int32 → dk_S → Prop) : Prop :=
  ∃ nn1 : Nat, wf_X9_carriedWeight_4 K nn1 0 0 s
def wf_X9_carries_4  (K : Int32 → dk_S → Prop) : Nat → Int32 → Int32 → Int32 → dk_S → Prop
  | 0, _, _, _, _ => False
  | n + 1, x1, x2, x3, s => (((s 4 60 15) ≤ x3 → (narrow .boolean (.int x2) = .int x2 ∧ K x2 s)) ∧ (¬ (s 4 60 15) ≤ x3 → ((¬ x2 = 0 → ∀ v2 : Int32, v2 = x3 + 1 → wf_X9_carries_4 K n x1 1 v2 s) ∧ (x2 = 0 → (vp_in x3 24 ∧ ((¬ (s 4 71 x3.toNatClampNeg) = x1 → ∀ v3 : Int32, v3 = x3 + 1 → wf_X9_carries_4 K n x1 0 v3 s) ∧ ((s 4 71 x3.toNatClampNeg) = x1 → (vp_in x3 24 ∧ ((¬ (s 4 82 x3.toNatClampNeg) = (-1) → ∀ v4 : Int32, v4 = x3 + 1 → wf_X9_carries_4 K n x1 0 v4 s) ∧ ((s 4 82 x3.toNatClampNeg) = (-1) → ∀ v5 : Int32, v5 = x3 + 1 → wf_X9_carries_4 K n x1 1 v5 s))))))))))
def wf_X9_carries (a1 : Int32) (s : dk_S) (K : Int32 → dk_S → Prop) : Prop :=
  ∃ nn1 : Nat, wf_X9_carries_4 K nn1 a1 0 0 s
def wf_X9_carriesAnywhere_4  (K : Int32 → dk_S → Prop) : Nat → Int32 → Int32 → Int32 → dk_S → Prop
  | 0, _, _, _, _ => False
  | n + 1, x1, x2, x3, s => (((s 4 60 15) ≤ x3 → (narrow .boolean (.int x2) = .int x2 ∧ K x2 s)) ∧ (¬ (s 4 60 15) ≤ x3 → ((¬ x2 = 0 → ∀ v2 : Int32, v2 = x3 + 1 → wf_X9_carriesAnywhere_4 K n x1 1 v2 s) ∧ (x2 = 0 → (vp_in x3 24 ∧ ((¬ (s 4 71 x3.toNatClampNeg) = x1 → ∀ v3 : Int32, v3 = x3 + 1 → wf_X9_carriesAnywhere_4 K n x1 0 v3 s) ∧ ((s 4 71 x3.toNatClampNeg) = x1 → wf_X9_outermost x3 s (fun r5 s4 => ((¬ r5 = (-1) → ∀ v6 : Int32, v6 = x3 + 1 → wf_X9_carriesAnywhere_4 K n x1 0 v6 s4) ∧ (r5 = (-1) → ∀ v7 : Int32, v7 = x3 + 1 → wf_X9_carriesAnywhere_4 K n x1 1 v7 s4))))))))))
def wf_X9_carriesAnywhere (a1 : Int32) (s : dk_S) (K : Int32 → dk_S → Prop) : Prop :=
  ∃ nn1 : Nat, wf_X9_carriesAnywhere_4 K nn1 a1 0 0 s
def wf_X9_speedOf (a1 : Int32) (s : dk_S) (K : Int32 → dk_S → Prop) : Prop :=
  (vp_in a1 8 ∧ (((s 4 80 a1.toNatClampNeg) ≤ 0 → (vp_in a1 8 ∧ K (s 4 68 a1.toNatClampNeg) s)) ∧ (¬ (s 4 80 a1.toNatClampNeg) ≤ 0 → (vp_in a1 8 ∧ K (s 4 79 a1.toNatClampNeg) s))))
def wf_X9_isWorldOver_61  (K : Int32 → dk_S → Prop) (E106 : dk_S → Prop) : Nat → Int32 → dk_S → Prop
  | 0, _, _ => False
  | n + 1, x1, s => (((s 4 60 15) ≤ x1 → E106 s) ∧ (¬ (s 4 60 15) ≤ x1 → (vp_in x1 24 ∧ ((¬ (s 4 82 x1.toNatClampNeg) = (-1) → (vp_in x1 24 ∧ (vp_in x1 24 ∧ (∀ s8 : dk_S, s8 = dk_row s 4 82 (upd (s 4 82) x1.toNatClampNeg (s 4 82 x1.toNatClampNeg)) → ∀ v9 : Int32, v9 = x1 + 1 → wf_X9_isWorldOver_61 K E106 n v9 s8)))) ∧ ((s 4 82 x1.toNatClampNeg) = (-1) → (vp_in 0 8 ∧ (vp_in x1 24 ∧ (∀ s10 : dk_S, s10 = dk_row s 4 82 (upd (s 4 82) x1.toNatClampNeg (s 4 76 (0 : Int32).toNatClampNeg)) → ∀ v11 : Int32, v11 = x1 + 1 → wf_X9_isWorldOver_61 K E106 n v11 s10))))))))
def wf_X9_isWorldOver_40  (K : Int32 → dk_S → Prop) (B : Int32 → dk_S → Prop) (E59 : dk_S → Prop) (x1 : Int32) (y0 : Int32) (y1 : Int32) (s : dk_S) : Prop :=
  (vp_in y1 24 ∧ (∀ s18 : dk_S, s18 = dk_row s 4 84 (upd (s 4 84) y1.toNatClampNeg (vp_nar .boolean y0)) → (vp_in x1 24 ∧ (vp_in x1 24 ∧ (∀ s19 : dk_S, s19 = dk_row s18 4 85 (upd (s18 4 85) x1.toNatClampNeg (s18 4 82 x1.toNatClampNeg)) → ∀ v20 : Int32, v20 = x1 + 1 → B v20 s19)))))
def wf_X9_isWorldOver_13  (K : Int32 → dk_S → Prop) (E59 : dk_S → Prop) : Nat → Int32 → dk_S → Prop
  | 0, _, _ => False
  | n + 1, x1, s => (((s 4 60 15) ≤ x1 → E59 s) ∧ (¬ (s 4 60 15) ≤ x1 → wf_X9_outermost x1 s (fun r15 s14 => ((¬ r15 = (-1) → wf_X9_isWorldOver_40 K (wf_X9_isWorldOver_13 K E59 n) E59 x1 0 x1 s14) ∧ (r15 = (-1) → wf_X9_isWorldOver_40 K (wf_X9_isWorldOver_13 K E59 n) E59 x1 1 x1 s14)))))
def wf_X9_isWorldOver  (s : dk_S) (K : Int32 → dk_S → Prop) : Prop :=
  (vp_in 0 8 ∧ (((s 4 77 (0 : Int32).toNatClampNeg) ≤ 0 → ∃ nn6 : Nat, wf_X9_isWorldOver_13 K (fun (s1 : dk_S) => ∃ nn5 : Nat, wf_X9_isWorldOver_61 K (fun (s2 : dk_S) => (vp_in 0 8 ∧ ∀ s3 : dk_S, s3 = dk_row s2 4 60 (upd (s2 4 60) 32 (s2 4 76 (0 : Int32).toNatClampNeg)) → ∀ s4 : dk_S, s4 = dk_row s3 4 60 (upd (s3 4 60) 1 100) → K 1 s4)) nn5 0 s1) nn6 0 s) ∧ (¬ (s 4 77 (0 : Int32).toNatClampNeg) ≤ 0 → K 0 s)))
def wf_X9_nextTurn_36  (K : Int32 → dk_S → Prop) (B : Int32 → Int32 → dk_S → Prop) (x1 : Int32) (x2 : Int32) (y0 : Int32) (s : dk_S) : Prop :=
  ((y0 = 0 → ∀ v7 : Int32, v7 = x2 + 1 → B x1 v7 s) ∧ (¬ y0 = 0 → ((x1 = (-1) → ∀ v8 : Int32, v8 = x2 + 1 → B x2 v8 s) ∧ (¬ x1 = (-1) → (vp_in x2 8 ∧ (vp_in x1 8 ∧ (((s 4 78 x2.toNatClampNeg) ≤ (s 4 78 x1.toNatClampNeg) → ∀ v9 : Int32, v9 = x2 + 1 → B x1 v9 s) ∧ (¬ (s 4 78 x2.toNatClampNeg) ≤ (s 4 78 x1.toNatClampNeg) → ∀ v10 : Int32, v10 = x2 + 1 → B x2 v10 s))))))))
def wf_X9_nextTurn_4  (K : Int32 → dk_S → Prop) : Nat → Int32 → Int32 → dk_S → Prop
  | 0, _, _, _ => False
  | n + 1, x1, x2, s => (((s 4 60 10) ≤ x2 → K x1 s) ∧ (¬ (s 4 60 10) ≤ x2 → wf_X9_lives x2 s (fun r3 s2 => ((r3 = 0 → wf_X9_nextTurn_36 K (wf_X9_nextTurn_4 K n) x1 x2 0 s2) ∧ (¬ r3 = 0 → (vp_in x2 8 ∧ (((s2 4 78 x2.toNatClampNeg) < 12 → wf_X9_nextTurn_36 K (wf_X9_nextTurn_4 K n) x1 x2 0 s2) ∧ (¬ (s2 4 78 x2.toNatClampNeg) < 12 → wf_X9_nextTurn_36 K (wf_X9_nextTurn_4 K n) x1 x2 1 s2))))))))
def wf_X9_nextTurn  (s : dk_S) (K : Int32 → dk_S → Prop) : Prop :=
  ∃ nn1 : Nat, wf_X9_nextTurn_4 K nn1 (-1) 0 s
def wf_X9_ticks_54  (K : dk_S → Prop) (E91 : dk_S → Prop) : Nat → Int32 → dk_S → Prop
  | 0, _, _ => False
  | n + 1, x1, s => (((s 4 60 10) ≤ x1 → E91 s) ∧ (¬ (s 4 60 10) ≤ x1 → (vp_in x1 8 ∧ (vp_in x1 8 ∧ (((s 4 80 x1.toNatClampNeg) ≤ 0 → (vp_in x1 8 ∧ (∀ s9 : dk_S, s9 = dk_row s 4 80 (upd (s 4 80) x1.toNatClampNeg ((s 4 80 x1.toNatClampNeg) - 0)) → ∀ v10 : Int32, v10 = x1 + 1 → wf_X9_ticks_54 K E91 n v10 s9))) ∧ (¬ (s 4 80 x1.toNatClampNeg) ≤ 0 → (vp_in x1 8 ∧ (∀ s11 : dk_S, s11 = dk_row s 4 80 (upd (s 4 80) x1.toNatClampNeg ((s 4 80 x1.toNatClampNeg) - 1)) → ∀ v12 : Int32, v12 = x1 + 1 → wf_X9_ticks_54 K E91 n v12 s11))))))))
def wf_X9_ticks_12  (K : dk_S → Prop) (E52 : dk_S → Prop) : Nat → Int32 → dk_S → Prop
  | 0, _, _ => False
  | n + 1, x1, s => (((s 4 60 10) ≤ x1 → E52 s) ∧ (¬ (s 4 60 10) ≤ x1 → (vp_in x1 8 ∧ wf_X9_lives x1 s (fun r16 s15 => ((r16 = 0 → (vp_in x1 8 ∧ (∀ s17 : dk_S, s17 = dk_row s15 4 78 (upd (s15 4 78) x1.toNatClampNeg ((s 4 78 x1.toNatClampNeg) + 0)) → ∀ v18 : Int32, v18 = x1 + 1 → wf_X9_ticks_12 K E52 n v18 s17))) ∧ (¬ r16 = 0 → wf_X9_speedOf x1 s15 (fun r20 s19 => (vp_in x1 8 ∧ (∀ s21 : dk_S, s21 = dk_row s19 4 78 (upd (s19 4 78) x1.toNatClampNeg ((s 4 78 x1.toNatClampNeg) + r20)) → ∀ v22 : Int32, v22 = x1 + 1 → wf_X9_ticks_12 K E52 n v22 s21)))))))))
def wf_X9_ticks  (s : dk_S) (K : dk_S → Prop) : Prop :=
  ∀ s1 : dk_S, s1 = dk_row s 4 60 (upd (s 4 60) 2 ((s 4 60 2) + 1)) → ∃ nn8 : Nat, wf_X9_ticks_12 K (fun (s2 : dk_S) => ∃ nn7 : Nat, wf_X9_ticks_54 K (fun (s3 : dk_S) => (((s3 4 60 30) ≤ 0 → ∀ s4 : dk_S, s4 = dk_row s3 4 60 (upd (s3 4 60) 30 ((s3 4 60 30) - 0)) → K s4) ∧ (¬ (s3 4 60 30) ≤ 0 → ∀ s5 : dk_S, s5 = dk_row s3 4 60 (upd (s3 4 60) 30 ((s3 4 60 30) - 1)) → K s5))) nn7 0 s2) nn8 0 s1
def wf_X9_isBeside (a1 : Int32) (a2 : Int32) (s : dk_S) (K : Int32 → dk_S → Prop) : Prop :=
  wf_X9_xOf a1 s (fun r2 s1 => wf_X9_xOf a2 s1 (fun r4 s3 => wf_X9_far (r2 - r4) s3 (fun r6 s5 => wf_X9_yOf a1 s5 (fun r8 s7 => wf_X9_yOf a2 s7 (fun r10 s9 => wf_X9_far (r8 - r10) s9 (fun r12 s11 => ((¬ (r6 + r12) = 1 → K 0 s11) ∧ ((r6 + r12) = 1 → K 1 s11))))))))
def wf_X9_livingAt_4  (K : Int32 → dk_S → Prop) : Nat → Int32 → Int32 → Int32 → dk_S → Prop
  | 0, _, _, _, _ => False
  | n + 1, x1, x2, x3, s => (((s 4 60 10) ≤ x3 → K x2 s) ∧ (¬ (s 4 60 10) ≤ x3 → wf_X9_lives x3 s (fun r3 s2 => ((r3 = 0 → ∀ v4 : Int32, v4 = x3 + 1 → wf_X9_livingAt_4 K n x1 x2 v4 s2) ∧ (¬ r3 = 0 → (vp_in x3 8 ∧ ((¬ (s2 4 76 x3.toNatClampNeg) = x1 → ∀ v5 : Int32, v5 = x3 + 1 → wf_X9_livingAt_4 K n x1 x2 v5 s2) ∧ ((s2 4 76 x3.toNatClampNeg) = x1 → ∀ v6 : Int32, v6 = x3 + 1 → wf_X9_livingAt_4 K n x1 x3 v6 s2))))))))
def wf_X9_livingAt (a1 : Int32) (s : dk_S) (K : Int32 → dk_S → Prop) : Prop :=
  ∃ nn1 : Nat, wf_X9_livingAt_4 K nn1 a1 (-1) 0 s
def wf_X9_isOpenFor (a1 : Int32) (s : dk_S) (K : Int32 → dk_S → Prop) : Prop :=
  wf_X9_isFree a1 s (fun r2 s1 => ((r2 = 0 → K 0 s1) ∧ (¬ r2 = 0 → wf_X9_livingAt a1 s1 (fun r4 s3 => ((¬ r4 = (-1) → K 0 s3) ∧ (r4 = (-1) → K 1 s3))))))
def wf_X9_chosen_142  (K : Int32 → dk_S → Prop) (B : Int32 → Int32 → Int32 → Int32 → dk_S → Prop) (x1 : Int32) (x2 : Int32) (x3 : Int32) (x4 : Int32) (s : dk_S) : Prop :=
  ∀ v19 : Int32, v19 = x4 + 1 → B x1 x2 x3 v19 s
def wf_X9_chosen_99  (K : Int32 → dk_S → Prop) (B : Int32 → Int32 → Int32 → Int32 → dk_S → Prop) (x1 : Int32) (x2 : Int32) (x3 : Int32) (x4 : Int32) (x5 : Int32) (x6 : Int32) (y0 : Int32) (s : dk_S) : Prop :=
  ((x6 = 0 → wf_X9_chosen_142 K B x1 x2 x3 x4 s) ∧ (¬ x6 = 0 → ((x2 = 0 → (vp_in x5 144 ∧ ((y0 ≤ (s 4 86 x5.toNatClampNeg) → wf_X9_chosen_142 K B x1 x2 x3 x4 s) ∧ (¬ y0 ≤ (s 4 86 x5.toNatClampNeg) → ∀ v13 : Int32, v13 = x4 + 1 → B x1 x2 x5 v13 s)))) ∧ (¬ x2 = 0 → (vp_in x5 144 ∧ (((s 4 86 x5.toNatClampNeg) ≤ y0 → wf_X9_chosen_142 K B x1 x2 x3 x4 s) ∧ (¬ (s 4 86 x5.toNatClampNeg) ≤ y0 → ∀ v15 : Int32, v15 = x4 + 1 → B x1 x2 x5 v15 s)))))))
def wf_X9_chosen_72  (K : Int32 → dk_S → Prop) (B : Int32 → Int32 → Int32 → Int32 → dk_S → Prop) (x1 : Int32) (x2 : Int32) (x3 : Int32) (x4 : Int32) (x5 : Int32) (y0 : Int32) (s : dk_S) : Prop :=
  ((¬ x3 = (-1) → (vp_in x3 144 ∧ wf_X9_chosen_99 K B x1 x2 x3 x4 x5 y0 (s 4 86 x3.toNatClampNeg) s)) ∧ (x3 = (-1) → (vp_in x1 8 ∧ (vp_in (s 4 76 x1.toNatClampNeg) 144 ∧ wf_X9_chosen_99 K B x1 x2 x3 x4 x5 y0 (s 4 86 (s 4 76 x1.toNatClampNeg).toNatClampNeg) s))))
def wf_X9_chosen_5  (K : Int32 → dk_S → Prop) : Nat → Int32 → Int32 → Int32 → Int32 → dk_S → Prop
  | 0, _, _, _, _, _ => False
  | n + 1, x1, x2, x3, x4, s => ((4 ≤ x4 → K x3 s) ∧ (¬ 4 ≤ x4 → (vp_in x1 8 ∧ wf_X9_beside (s 4 76 x1.toNatClampNeg) x4 s (fun r3 s2 => ((r3 = (-1) → wf_X9_chosen_72 K (wf_X9_chosen_5 K n) x1 x2 x3 x4 r3 0 s2) ∧ (¬ r3 = (-1) → (vp_in r3 144 ∧ ((100000 ≤ (s2 4 86 r3.toNatClampNeg) → wf_X9_chosen_72 K (wf_X9_chosen_5 K n) x1 x2 x3 x4 r3 0 s2) ∧ (¬ 100000 ≤ (s2 4 86 r3.toNatClampNeg) → wf_X9_isOpenFor r3 s2 (fun r5 s4 => ((¬ r5 = 0 → wf_X9_chosen_72 K (wf_X9_chosen_5 K n) x1 x2 x3 x4 r3 1 s4) ∧ (r5 = 0 → ((¬ x2 = 0 → wf_X9_chosen_72 K (wf_X9_chosen_5 K n) x1 x2 x3 x4 r3 0 s4) ∧ (x2 = 0 → (vp_in r3 144 ∧ ((¬ (s4 4 75 r3.toNatClampNeg) = 43 → wf_X9_chosen_72 K (wf_X9_chosen_5 K n) x1 x2 x3 x4 r3 0 s4) ∧ ((s4 4 75 r3.toNatClampNeg) = 43 → wf_X9_chosen_72 K (wf_X9_chosen_5 K n) x1 x2 x3 x4 r3 1 s4)))))))))))))))))
def wf_X9_chosen (a1 : Int32) (a2 : Int32) (s : dk_S) (K : Int32 → dk_S → Prop) : Prop :=
  ∃ nn1 : Nat, wf_X9_chosen_5 K nn1 a1 a2 (-1) 0 s
def wf_X9_goes (a1 : Int32) (a2 : Int32) (s : dk_S) (K : dk_S → Prop) : Prop :=
  ((¬ a2 = (-1) → (vp_in a2 144 ∧ ((¬ (s 4 75 a2.toNatClampNeg) = 43 → (vp_in a1 8 ∧ (∀ s1 : dk_S, s1 = dk_row s 4 76 (upd (s 4 76) a1.toNatClampNeg a2) → K s1))) ∧ ((s 4 75 a2.toNatClampNeg) = 43 → (vp_in a2 144 ∧ (∀ s2 : dk_S, s2 = dk_row s 4 75 (upd (s 4 75) a2.toNatClampNeg (vp_nar .char 47)) → K s2)))))) ∧ (a2 = (-1) → K s))
def wf_X9_beastTurns_143  (K : dk_S → Prop) (x1 : Int32) (s : dk_S) : Prop :=
  (vp_in x1 8 ∧ (vp_in x1 8 ∧ ((¬ (s 4 76 x1.toNatClampNeg) = (s 4 81 x1.toNatClampNeg) → K s) ∧ ((s 4 76 x1.toNatClampNeg) = (s 4 81 x1.toNatClampNeg) → (vp_in x1 8 ∧ (vp_in 0 8 ∧ wf_X9_sees (s 4 76 x1.toNatClampNeg) (s 4 76 (0 : Int32).toNatClampNeg) s (fun r22 s21 => ((¬ r22 = 0 → K s21) ∧ (r22 = 0 → (vp_in x1 8 ∧ (∀ s23 : dk_S, s23 = dk_row s21 4 81 (upd (s21 4 81) x1.toNatClampNeg (-1)) → K s23)))))))))))
def wf_X9_beastTurns_77  (K : dk_S → Prop) (x1 : Int32) (y0 : Int32) (s : dk_S) : Prop :=
  ((¬ y0 = 0 → wf_X9_chosen x1 y0 s (fun r9 s8 => wf_X9_goes x1 r9 s8 (fun s10 => wf_X9_beastTurns_143 K x1 s10))) ∧ (y0 = 0 → (vp_in x1 8 ∧ (vp_in 0 8 ∧ wf_X9_isBeside (s 4 76 x1.toNatClampNeg) (s 4 76 (0 : Int32).toNatClampNeg) s (fun r12 s11 => ((r12 = 0 → wf_X9_chosen x1 y0 s11 (fun r14 s13 => wf_X9_goes x1 r14 s13 (fun s15 => wf_X9_beastTurns_143 K x1 s15))) ∧ (¬ r12 = 0 → (vp_in 0 8 ∧ (vp_in x1 8 ∧ (vp_in 0 8 ∧ (∀ s16 : dk_S, s16 = dk_row s11 4 77 (upd (s11 4 77) (0 : Int32).toNatClampNeg ((s11 4 77 (0 : Int32).toNatClampNeg) - (s11 4 69 x1.toNatClampNeg))) → (vp_in 0 8 ∧ wf_X9_sounds (s16 4 76 (0 : Int32).toNatClampNeg) 6 s16 (fun r18 s17 => wf_X9_beastTurns_143 K x1 s17)))))))))))))
def wf_X9_beastTurns_31  (K : dk_S → Prop) (x1 : Int32) (s : dk_S) : Prop :=
  (vp_in x1 8 ∧ ((¬ (s 4 81 x1.toNatClampNeg) = (-1) → (vp_in x1 8 ∧ wf_X9_findsSteps (s 4 81 x1.toNatClampNeg) 1 100000 s (fun s5 => (vp_in x1 8 ∧ (vp_in x1 8 ∧ (((s5 4 70 x1.toNatClampNeg) ≤ (3 * (s5 4 77 x1.toNatClampNeg)) → wf_X9_beastTurns_77 K x1 0 s5) ∧ (¬ (s5 4 70 x1.toNatClampNeg) ≤ (3 * (s5 4 77 x1.toNatClampNeg)) → wf_X9_beastTurns_77 K x1 1 s5))))))) ∧ ((s 4 81 x1.toNatClampNeg) = (-1) → K s)))
def wf_X9_beastTurns (a1 : Int32) (s : dk_S) (K : dk_S → Prop) : Prop :=
  (vp_in a1 8 ∧ (vp_in 0 8 ∧ wf_X9_sees (s 4 76 a1.toNatClampNeg) (s 4 76 (0 : Int32).toNatClampNeg) s (fun r2 s1 => ((r2 = 0 → wf_X9_beastTurns_31 K a1 s1) ∧ (¬ r2 = 0 → (vp_in 0 8 ∧ (vp_in a1 8 ∧ (∀ s3 : dk_S, s3 = dk_row s1 4 81 (upd (s1 4 81) a1.toNatClampNeg (s1 4 76 (0 : Int32).toNatClampNeg)) → wf_X9_beastTurns_31 K a1 s3))))))))
def wf_X9_goesToHero_0  (K : dk_S → Prop) : Nat → dk_S → Prop
  | 0, _ => False
  | n + 1, s => wf_X9_isOn s (fun r3 s2 => ((r3 = 0 → K s2) ∧ (¬ r3 = 0 → wf_X9_nextTurn s2 (fun r5 s4 => ((¬ r5 = 0 → ((¬ r5 = (-1) → (vp_in r5 8 ∧ (vp_in r5 8 ∧ (∀ s6 : dk_S, s6 = dk_row s4 4 78 (upd (s4 4 78) r5.toNatClampNeg ((s4 4 78 r5.toNatClampNeg) - 12)) → wf_X9_beastTurns r5 s6 (fun s7 => wf_X9_isWorldOver s7 (fun r9 s8 => wf_X9_goesToHero_0 K n s8)))))) ∧ (r5 = (-1) → wf_X9_ticks s4 (fun s10 => wf_X9_goesToHero_0 K n s10)))) ∧ (r5 = 0 → K s4))))))
def wf_X9_goesToHero  (s : dk_S) (K : dk_S → Prop) : Prop :=
  ∃ nn1 : Nat, wf_X9_goesToHero_0 K nn1 s
def wf_X9_ends  (s : dk_S) (K : dk_S → Prop) : Prop :=
  (vp_in 0 8 ∧ (vp_in 0 8 ∧ (∀ s1 : dk_S, s1 = dk_row s 4 78 (upd (s 4 78) (0 : Int32).toNatClampNeg ((s 4 78 (0 : Int32).toNatClampNeg) - 12)) → wf_X9_isWorldOver s1 (fun r3 s2 => ((¬ r3 = 0 → K s2) ∧ (r3 = 0 → wf_X9_goesToHero s2 (fun s4 => K s4)))))))
def wf_X9_isSetWell_41  (K : Int32 → dk_S → Prop) (E77 : Int32 → Int32 → dk_S → Prop) : Nat → Int32 → Int32 → Int32 → dk_S → Prop
  | 0, _, _, _, _ => False
  | n + 1, x1, x2, x3, s => ((x2 ≤ x3 → E77 x1 x2 s) ∧ (¬ x2 ≤ x3 → ((x1 = 0 → ∀ v22 : Int32, v22 = x3 + 1 → wf_X9_isSetWell_41 K E77 n 0 x2 v22 s) ∧ (¬ x1 = 0 → (vp_in x3 8 ∧ (vp_in x2 8 ∧ (((s 4 67 x3.toNatClampNeg) = (s 4 67 x2.toNatClampNeg) → ∀ v23 : Int32, v23 = x3 + 1 → wf_X9_isSetWell_41 K E77 n 0 x2 v23 s) ∧ (¬ (s 4 67 x3.toNatClampNeg) = (s 4 67 x2.toNatClampNeg) → ∀ v24 : Int32, v24 = x3 + 1 → wf_X9_isSetWell_41 K E77 n 1 x2 v24 s))))))))
def wf_X9_isSetWell_4  (K : Int32 → dk_S → Prop) : Nat → Int32 → Int32 → dk_S → Prop
  | 0, _, _, _ => False
  | n + 1, x1, x2, s => (((s 4 60 10) ≤ x2 → (narrow .boolean (.int x1) = .int x1 ∧ K x1 s)) ∧ (¬ (s 4 60 10) ≤ x2 → ((x1 = 0 → ∃ nn6 : Nat, wf_X9_isSetWell_41 K (fun (w2 : Int32) (w3 : Int32) (s4 : dk_S) => ∀ v5 : Int32, v5 = w3 + 1 → wf_X9_isSetWell_4 K n w2 v5 s4) nn6 0 x2 0 s) ∧ (¬ x1 = 0 → (vp_in x2 8 ∧ (vp_in (s 4 67 x2.toNatClampNeg) 144 ∧ wf_X9_isFreeKind (s 4 61 (s 4 67 x2.toNatClampNeg).toNatClampNeg) s (fun r8 s7 => ((r8 = 0 → ∃ nn13 : Nat, wf_X9_isSetWell_41 K (fun (w9 : Int32) (w10 : Int32) (s11 : dk_S) => ∀ v12 : Int32, v12 = w10 + 1 → wf_X9_isSetWell_4 K n w9 v12 s11) nn13 0 x2 0 s7) ∧ (¬ r8 = 0 → ∃ nn18 : Nat, wf_X9_isSetWell_41 K (fun (w14 : Int32) (w15 : Int32) (s16 : dk_S) => ∀ v17 : Int32, v17 = w15 + 1 → wf_X9_isSetWell_4 K n w14 v17 s16) nn18 1 x2 0 s7)))))))))
def wf_X9_isSetWell  (s : dk_S) (K : Int32 → dk_S → Prop) : Prop :=
  ∃ nn1 : Nat, wf_X9_isSetWell_4 K nn1 1 0 s
def wf_X9_begin_82  (K : Int32 → dk_S → Prop) : Nat → Int32 → Int32 → dk_S → Prop
  | 0, _, _, _ => False
  | n + 1, x2, x3, s => (((s 4 60 15) ≤ x3 → wf_X9_goesToHero s (fun s21 => K (s21 4 60 2) s21)) ∧ (¬ (s 4 60 15) ≤ x3 → ((x2 = 0 → wf_X9_goesToHero s (fun s22 => K (s22 4 60 2) s22)) ∧ (¬ x2 = 0 → (vp_in x3 24 ∧ (((s 4 84 x3.toNatClampNeg) = 0 → ∀ v23 : Int32, v23 = x3 + 1 → wf_X9_begin_82 K n x2 v23 s) ∧ (¬ (s 4 84 x3.toNatClampNeg) = 0 → (vp_in x3 24 ∧ ((¬ (s 4 85 x3.toNatClampNeg) = (-1) → (vp_in x3 24 ∧ (vp_in x3 24 ∧ (∀ s24 : dk_S, s24 = dk_row s 4 82 (upd (s 4 82) x3.toNatClampNeg (s 4 85 x3.toNatClampNeg)) → ∀ v25 : Int32, v25 = x3 + 1 → wf_X9_begin_82 K n x2 v25 s24)))) ∧ ((s 4 85 x3.toNatClampNeg) = (-1) → (vp_in x3 24 ∧ (∀ s26 : dk_S, s26 = dk_row s 4 82 (upd (s 4 82) x3.toNatClampNeg (s 4 60 32)) → ∀ v27 : Int32, v27 = x3 + 1 → wf_X9_begin_82 K n x2 v27 s26))))))))))))
def wf_X9_begin_28  (K : Int32 → dk_S → Prop) (x1 : Int32) (y0 : Int32) (s : dk_S) : Prop :=
  wf_X9_goesOn y0 s (fun r9 s8 => ((¬ r9 = 0 → wf_X9_becomesAsTold s8 (fun s10 => ∀ s11 : dk_S, s11 = dk_row s10 4 60 (upd (s10 4 60) 3 x1) → ∀ s12 : dk_S, s12 = dk_row s11 4 60 (upd (s11 4 60) 1 111) → (((s12 4 60 32) = (-1) → ∃ nn13 : Nat, wf_X9_begin_82 K nn13 0 0 s12) ∧ (¬ (s12 4 60 32) = (-1) → (vp_in (s12 4 60 32) 144 ∧ wf_X9_isFreeKind (s12 4 61 (s12 4 60 32).toNatClampNeg) s12 (fun r15 s14 => ((r15 = 0 → ∃ nn16 : Nat, wf_X9_begin_82 K nn16 0 0 s14) ∧ (¬ r15 = 0 → ∃ nn17 : Nat, wf_X9_begin_82 K nn17 1 0 s14)))))))) ∧ (r9 = 0 → K 0 s8)))
def wf_X9_begin (a1 : Int32) (s : dk_S) (K : Int32 → dk_S → Prop) : Prop :=
  ((0 ≤ a1 → wf_X9_isOn s (fun r2 s1 => ((¬ r2 = 0 → wf_X9_begin_28 K a1 2 s1) ∧ (r2 = 0 → wf_X9_isSetWell s1 (fun r4 s3 => ((¬ r4 = 0 → wf_X9_begin_28 K a1 0 s3) ∧ (r4 = 0 → wf_X9_begin_28 K a1 2 s3))))))) ∧ (¬ 0 ≤ a1 → wf_X9_begin_28 K a1 1 s))
def wf_X9_leave_13  (K : Int32 → dk_S → Prop) (y0 : Int32) (s : dk_S) : Prop :=
  wf_X9_goesOn y0 s (fun r5 s4 => ((¬ r5 = 0 → ∀ s6 : dk_S, s6 = dk_row s4 4 60 (upd (s4 4 60) 1 108) → K (s6 4 60 2) s6) ∧ (r5 = 0 → K 0 s4)))
def wf_X9_leave  (s : dk_S) (K : Int32 → dk_S → Prop) : Prop :=
  wf_X9_isOn s (fun r2 s1 => ((r2 = 0 → wf_X9_leave_13 K 1 s1) ∧ (¬ r2 = 0 → wf_X9_leave_13 K 0 s1)))
def wf_X9_strikes_60  (K : dk_S → Prop) (x1 : Int32) (s : dk_S) : Prop :=
  (vp_in x1 8 ∧ wf_X9_sounds (s 4 76 x1.toNatClampNeg) 6 s (fun r10 s9 => K s9))
def wf_X9_strikes_22  (K : dk_S → Prop) (x1 : Int32) (x2 : Int32) (y0 : Int32) (s : dk_S) : Prop :=
  (vp_in x1 8 ∧ (vp_in x1 8 ∧ (∀ s2 : dk_S, s2 = dk_row s 4 77 (upd (s 4 77) x1.toNatClampNeg ((s 4 77 x1.toNatClampNeg) - x2)) → wf_X9_lives x1 s2 (fun r4 s3 => ((¬ r4 = 0 → wf_X9_strikes_60 K x1 s3) ∧ (r4 = 0 → ((y0 = 0 → ∀ s5 : dk_S, s5 = dk_row s3 4 60 (upd (s3 4 60) 31 ((s3 4 60 31) + 1)) → wf_X9_strikes_60 K x1 s5) ∧ (¬ y0 = 0 → ∀ s6 : dk_S, s6 = dk_row s3 4 60 (upd (s3 4 60) 31 ((s3 4 60 31) + (-2))) → wf_X9_strikes_60 K x1 s6))))))))
def wf_X9_strikes (a1 : Int32) (a2 : Int32) (s : dk_S) (K : dk_S → Prop) : Prop :=
  (vp_in a1 8 ∧ (vp_in a1 8 ∧ (((s 4 70 a1.toNatClampNeg) ≤ (3 * (s 4 77 a1.toNatClampNeg)) → wf_X9_strikes_22 K a1 a2 0 s) ∧ (¬ (s 4 70 a1.toNatClampNeg) ≤ (3 * (s 4 77 a1.toNatClampNeg)) → wf_X9_strikes_22 K a1 a2 1 s))))
def wf_X9_works (a1 : Int32) (a2 : Int32) (s : dk_S) (K : dk_S → Prop) : Prop :=
  (vp_in a1 8 ∧ ∀ v1 : Int32, v1 = s 4 65 a1.toNatClampNeg → (vp_in a1 8 ∧ ((¬ (s 4 64 a1.toNatClampNeg) = 104 → (vp_in a1 8 ∧ ((¬ (s 4 64 a1.toNatClampNeg) = 100 → (vp_in a1 8 ∧ ((¬ (s 4 64 a1.toNatClampNeg) = 115 → (vp_in a1 8 ∧ ((¬ (s 4 64 a1.toNatClampNeg) = 98 → K s) ∧ ((s 4 64 a1.toNatClampNeg) = 98 → ((¬ a2 = 0 → K s) ∧ (a2 = 0 → ∀ s2 : dk_S, s2 = dk_row s 4 60 (upd (s 4 60) 30 v1) → K s2)))))) ∧ ((s 4 64 a1.toNatClampNeg) = 115 → (vp_in a2 8 ∧ (∀ s5 : dk_S, s5 = dk_row s 4 79 (upd (s 4 79) a2.toNatClampNeg v1) → (vp_in a2 8 ∧ (∀ s6 : dk_S, s6 = dk_row s5 4 80 (upd (s5 4 80) a2.toNatClampNeg 12) → K s6)))))))) ∧ ((s 4 64 a1.toNatClampNeg) = 100 → (vp_in a2 8 ∧ (vp_in a2 8 ∧ (∀ s8 : dk_S, s8 = dk_row s 4 77 (upd (s 4 77) a2.toNatClampNeg ((s 4 77 a2.toNatClampNeg) - v1)) → K s8))))))) ∧ ((s 4 64 a1.toNatClampNeg) = 104 → (vp_in a2 8 ∧ (vp_in a2 8 ∧ ((((s 4 77 a2.toNatClampNeg) + v1) ≤ (s 4 70 a2.toNatClampNeg) → (vp_in a2 8 ∧ (vp_in a2 8 ∧ (∀ s10 : dk_S, s10 = dk_row s 4 77 (upd (s 4 77) a2.toNatClampNeg ((s 4 77 a2.toNatClampNeg) + v1)) → K s10)))) ∧ (¬ ((s 4 77 a2.toNatClampNeg) + v1) ≤ (s 4 70 a2.toNatClampNeg) → (vp_in a2 8 ∧ (vp_in a2 8 ∧ (∀ s11 : dk_S, s11 = dk_row s 4 77 (upd (s 4 77) a2.toNatClampNeg (s 4 70 a2.toNatClampNeg)) → K s11)))))))))))
def wf_X9_burns_65  (K : dk_S → Prop) (E117 : Int32 → Int32 → Int32 → dk_S → Prop) : Nat → Int32 → Int32 → Int32 → Int32 → dk_S → Prop
  | 0, _, _, _, _, _ => False
  | n + 1, x1, x2, x3, x5, s => (((s 4 60 15) ≤ x5 → E117 x1 x2 x3 s) ∧ (¬ (s 4 60 15) ≤ x5 → (vp_in x5 24 ∧ ((¬ (s 4 82 x5.toNatClampNeg) = ((-3) - x3) → (vp_in x5 24 ∧ (vp_in x5 24 ∧ (∀ s17 : dk_S, s17 = dk_row s 4 82 (upd (s 4 82) x5.toNatClampNeg (s 4 82 x5.toNatClampNeg)) → ∀ v18 : Int32, v18 = x5 + 1 → wf_X9_burns_65 K E117 n x1 x2 x3 v18 s17)))) ∧ ((s 4 82 x5.toNatClampNeg) = ((-3) - x3) → (vp_in x3 24 ∧ (vp_in x5 24 ∧ (∀ s19 : dk_S, s19 = dk_row s 4 82 (upd (s 4 82) x5.toNatClampNeg (s 4 82 x3.toNatClampNeg)) → ∀ v20 : Int32, v20 = x5 + 1 → wf_X9_burns_65 K E117 n x1 x2 x3 v20 s19))))))))
def wf_X9_burns_52  (K : dk_S → Prop) (B : Int32 → Int32 → Int32 → dk_S → Prop) (x1 : Int32) (x2 : Int32) (x3 : Int32) (y0 : Int32) (s : dk_S) : Prop :=
  ((¬ y0 = 0 → ∃ nn14 : Nat, wf_X9_burns_65 K (fun (w8 : Int32) (w9 : Int32) (w10 : Int32) (s11 : dk_S) => (vp_in w10 24 ∧ (∀ s12 : dk_S, s12 = dk_row s11 4 82 (upd (s11 4 82) w10.toNatClampNeg (-2)) → ∀ v13 : Int32, v13 = w10 + 1 → B w8 w9 v13 s12))) nn14 x1 x2 x3 0 s) ∧ (y0 = 0 → ∀ v15 : Int32, v15 = x3 + 1 → B x1 x2 v15 s))
def wf_X9_burns_2  (K : dk_S → Prop) : Nat → Int32 → Int32 → Int32 → dk_S → Prop
  | 0, _, _, _, _ => False
  | n + 1, x1, x2, x3, s => (((s 4 60 15) ≤ x3 → K s) ∧ (¬ (s 4 60 15) ≤ x3 → (vp_in x3 24 ∧ (((s 4 82 x3.toNatClampNeg) < 0 → wf_X9_burns_52 K (wf_X9_burns_2 K n) x1 x2 x3 0 s) ∧ (¬ (s 4 82 x3.toNatClampNeg) < 0 → (vp_in x3 24 ∧ (vp_in (s 4 71 x3.toNatClampNeg) 8 ∧ (((s 4 63 (s 4 71 x3.toNatClampNeg).toNatClampNeg) = 0 → wf_X9_burns_52 K (wf_X9_burns_2 K n) x1 x2 x3 0 s) ∧ (¬ (s 4 63 (s 4 71 x3.toNatClampNeg).toNatClampNeg) = 0 → (vp_in x3 24 ∧ wf_X9_around (s 4 82 x3.toNatClampNeg) x1 s (fun r3 s2 => ((x2 < r3 → wf_X9_burns_52 K (wf_X9_burns_2 K n) x1 x2 x3 0 s2) ∧ (¬ x2 < r3 → wf_X9_burns_52 K (wf_X9_burns_2 K n) x1 x2 x3 1 s2)))))))))))))
def wf_X9_burns (a1 : Int32) (a2 : Int32) (s : dk_S) (K : dk_S → Prop) : Prop :=
  ∃ nn1 : Nat, wf_X9_burns_2 K nn1 a1 a2 0 s
def wf_X9_breaks_25  (K : dk_S → Prop) (E76 : Int32 → Int32 → dk_S → Prop) : Nat → Int32 → Int32 → Int32 → dk_S → Prop
  | 0, _, _, _, _ => False
  | n + 1, x2, x3, x4, s => (((s 4 60 10) ≤ x4 → E76 x2 x3 s) ∧ (¬ (s 4 60 10) ≤ x4 → wf_X9_lives x4 s (fun r15 s14 => ((r15 = 0 → ∀ v16 : Int32, v16 = x4 + 1 → wf_X9_breaks_25 K E76 n x2 x3 v16 s14) ∧ (¬ r15 = 0 → (vp_in x4 8 ∧ wf_X9_around (s14 4 76 x4.toNatClampNeg) x2 s14 (fun r18 s17 => (vp_in x3 8 ∧ (((s17 4 66 x3.toNatClampNeg) < r18 → ∀ v19 : Int32, v19 = x4 + 1 → wf_X9_breaks_25 K E76 n x2 x3 v19 s17) ∧ (¬ (s17 4 66 x3.toNatClampNeg) < r18 → wf_X9_works x3 x4 s17 (fun s20 => ∀ v21 : Int32, v21 = x4 + 1 → wf_X9_breaks_25 K E76 n x2 x3 v21 s20)))))))))))
def wf_X9_breaks (a1 : Int32) (a2 : Int32) (s : dk_S) (K : dk_S → Prop) : Prop :=
  (vp_in a1 24 ∧ ∀ v1 : Int32, v1 = s 4 71 a1.toNatClampNeg → (vp_in a1 24 ∧ (∀ s2 : dk_S, s2 = dk_row s 4 82 (upd (s 4 82) a1.toNatClampNeg (-2)) → (vp_in v1 8 ∧ (∀ s3 : dk_S, s3 = dk_row s2 4 83 (upd (s2 4 83) v1.toNatClampNeg (vp_nar .boolean 1)) → ∃ nn13 : Nat, wf_X9_breaks_25 K (fun (w4 : Int32) (w5 : Int32) (s6 : dk_S) => (vp_in w5 8 ∧ ((¬ (s6 4 64 w5.toNatClampNeg) = 102 → wf_X9_sounds w4 6 s6 (fun r8 s7 => K s7)) ∧ ((s6 4 64 w5.toNatClampNeg) = 102 → (vp_in w5 8 ∧ wf_X9_burns w4 (s6 4 66 w5.toNatClampNeg) s6 (fun s9 => wf_X9_sounds w4 6 s9 (fun r11 s10 => K s10))))))) nn13 a2 v1 0 s3)))))
def wf_X9_hasKeyFor (a1 : Int32) (s : dk_S) (K : Int32 → dk_S → Prop) : Prop :=
  wf_X9_in a1 48 50 s (fun r2 s1 => ((r2 = 0 → K 0 s1) ∧ (¬ r2 = 0 → wf_X9_carriesAnywhere (a1 - 48) s1 (fun r4 s3 => ((r4 = 0 → K 0 s3) ∧ (¬ r4 = 0 → K 1 s3))))))
def wf_X9_go_159  (K : Int32 → dk_S → Prop) (x4 : Int32) (s : dk_S) : Prop :=
  ((x4 = 98 → (narrow .char (.int x4) = .int x4 ∧ K x4 s)) ∧ (¬ x4 = 98 → wf_X9_ends s (fun s31 => (narrow .char (.int x4) = .int x4 ∧ K x4 s31))))
def wf_X9_go_140  (K : Int32 → dk_S → Prop) (x2 : Int32) (x4 : Int32) (s : dk_S) : Prop :=
  wf_X9_isFree x2 s (fun r27 s26 => ((r27 = 0 → wf_X9_go_159 K x4 s26) ∧ (¬ r27 = 0 → (vp_in 0 8 ∧ (∀ s28 : dk_S, s28 = dk_row s26 4 76 (upd (s26 4 76) (0 : Int32).toNatClampNeg x2) → wf_X9_go_159 K 109 s28)))))
def wf_X9_go_125  (K : Int32 → dk_S → Prop) (x2 : Int32) (s : dk_S) : Prop :=
  (vp_in x2 144 ∧ (∀ s30 : dk_S, s30 = dk_row s 4 75 (upd (s 4 75) x2.toNatClampNeg (vp_nar .char 47)) → wf_X9_go_159 K 111 s30))
def wf_X9_go_59  (K : Int32 → dk_S → Prop) (x2 : Int32) (y0 : Int32) (s : dk_S) : Prop :=
  ((y0 = (-1) → ((x2 = (-1) → wf_X9_go_140 K x2 98 s) ∧ (¬ x2 = (-1) → (vp_in x2 144 ∧ (((s 4 75 x2.toNatClampNeg) = 43 → wf_X9_go_125 K x2 s) ∧ (¬ (s 4 75 x2.toNatClampNeg) = 43 → (vp_in x2 144 ∧ wf_X9_hasKeyFor (s 4 75 x2.toNatClampNeg) s (fun r16 s15 => ((r16 = 0 → wf_X9_go_140 K x2 98 s15) ∧ (¬ r16 = 0 → wf_X9_go_125 K x2 s15)))))))))) ∧ (¬ y0 = (-1) → wf_X9_carries 7 s (fun r21 s20 => ((r21 = 0 → wf_X9_strikes y0 3 s20 (fun s22 => wf_X9_go_159 K 97 s22)) ∧ (¬ r21 = 0 → wf_X9_strikes y0 7 s20 (fun s23 => wf_X9_go_159 K 97 s23))))))
def wf_X9_go_26  (K : Int32 → dk_S → Prop) (x1 : Int32) (y0 : Int32) (s : dk_S) : Prop :=
  wf_X9_goesOn y0 s (fun r8 s7 => ((¬ r8 = 0 → (vp_in 0 8 ∧ wf_X9_beside (s7 4 76 (0 : Int32).toNatClampNeg) x1 s7 (fun r10 s9 => ((¬ r10 = (-1) → wf_X9_livingAt r10 s9 (fun r12 s11 => wf_X9_go_59 K r10 r12 s11)) ∧ (r10 = (-1) → wf_X9_go_59 K r10 (-1) s9))))) ∧ (r8 = 0 → K 0 s7)))
def wf_X9_go (a1 : Int32) (s : dk_S) (K : Int32 → dk_S → Prop) : Prop :=
  wf_X9_in a1 0 3 s (fun r2 s1 => ((¬ r2 = 0 → wf_X9_isOn s1 (fun r4 s3 => ((¬ r4 = 0 → wf_X9_go_26 K a1 0 s3) ∧ (r4 = 0 → wf_X9_go_26 K a1 2 s3)))) ∧ (r2 = 0 → wf_X9_go_26 K a1 1 s1)))
def wf_X9_rest_13  (K : Int32 → dk_S → Prop) (y0 : Int32) (s : dk_S) : Prop :=
  wf_X9_goesOn y0 s (fun r5 s4 => ((¬ r5 = 0 → wf_X9_ends s4 (fun s6 => K (s6 4 60 2) s6)) ∧ (r5 = 0 → K 0 s4)))
def wf_X9_rest  (s : dk_S) (K : Int32 → dk_S → Prop) : Prop :=
  wf_X9_isOn s (fun r2 s1 => ((r2 = 0 → wf_X9_rest_13 K 1 s1) ∧ (¬ r2 = 0 → wf_X9_rest_13 K 0 s1)))
def wf_X9_take_62  (K : Int32 → dk_S → Prop) (x1 : Int32) (y0 : Int32) (s : dk_S) : Prop :=
  wf_X9_goesOn y0 s (fun r14 s13 => ((¬ r14 = 0 → (vp_in x1 24 ∧ (∀ s15 : dk_S, s15 = dk_row s13 4 82 (upd (s13 4 82) x1.toNatClampNeg (-1)) → wf_X9_carriedWeight s15 (fun r17 s16 => wf_X9_ends s16 (fun s18 => K r17 s18))))) ∧ (r14 = 0 → K 0 s13)))
def wf_X9_take (a1 : Int32) (s : dk_S) (K : Int32 → dk_S → Prop) : Prop :=
  wf_X9_isThing a1 s (fun r2 s1 => ((¬ r2 = 0 → wf_X9_isOn s1 (fun r4 s3 => ((¬ r4 = 0 → (vp_in a1 24 ∧ (vp_in 0 8 ∧ (((s3 4 82 a1.toNatClampNeg) = (s3 4 76 (0 : Int32).toNatClampNeg) → wf_X9_carriedWeight s3 (fun r6 s5 => wf_X9_wholeWeight a1 s5 (fun r8 s7 => (((r6 + r8) ≤ 30 → wf_X9_take_62 K a1 0 s7) ∧ (¬ (r6 + r8) ≤ 30 → wf_X9_take_62 K a1 4 s7))))) ∧ (¬ (s3 4 82 a1.toNatClampNeg) = (s3 4 76 (0 : Int32).toNatClampNeg) → wf_X9_take_62 K a1 3 s3))))) ∧ (r4 = 0 → wf_X9_take_62 K a1 2 s3)))) ∧ (r2 = 0 → wf_X9_take_62 K a1 1 s1)))
def wf_X9_handFault (a1 : Int32) (s : dk_S) (K : Int32 → dk_S → Prop) : Prop :=
  wf_X9_isThing a1 s (fun r2 s1 => ((¬ r2 = 0 → wf_X9_isOn s1 (fun r4 s3 => ((¬ r4 = 0 → (vp_in a1 24 ∧ (((s3 4 82 a1.toNatClampNeg) = (-1) → K 0 s3) ∧ (¬ (s3 4 82 a1.toNatClampNeg) = (-1) → K 3 s3)))) ∧ (r4 = 0 → K 2 s3)))) ∧ (r2 = 0 → K 1 s1)))
def wf_X9_drop (a1 : Int32) (s : dk_S) (K : Int32 → dk_S → Prop) : Prop :=
  wf_X9_handFault a1 s (fun r2 s1 => wf_X9_goesOn r2 s1 (fun r4 s3 => ((¬ r4 = 0 → (vp_in 0 8 ∧ (vp_in a1 24 ∧ (∀ s5 : dk_S, s5 = dk_row s3 4 82 (upd (s3 4 82) a1.toNatClampNeg (s3 4 76 (0 : Int32).toNatClampNeg)) → wf_X9_carriedWeight s5 (fun r7 s6 => wf_X9_ends s6 (fun s8 => K r7 s8)))))) ∧ (r4 = 0 → K 0 s3))))
def wf_X9_pack_172  (K : Int32 → dk_S → Prop) : Nat → Int32 → Int32 → Int32 → dk_S → Prop
  | 0, _, _, _, _ => False
  | n + 1, x1, x6, x7, s => (((s 4 60 15) ≤ x7 → wf_X9_ends s (fun s42 => K x6 s42)) ∧ (¬ (s 4 60 15) ≤ x7 → (vp_in x7 24 ∧ (vp_in x1 24 ∧ ((¬ (s 4 82 x7.toNatClampNeg) = (s 4 82 x1.toNatClampNeg) → ∀ v43 : Int32, v43 = x6 + 0 → ∀ v44 : Int32, v44 = x7 + 1 → wf_X9_pack_172 K n x1 v43 v44 s) ∧ ((s 4 82 x7.toNatClampNeg) = (s 4 82 x1.toNatClampNeg) → ∀ v45 : Int32, v45 = x6 + 1 → ∀ v46 : Int32, v46 = x7 + 1 → wf_X9_pack_172 K n x1 v45 v46 s))))))
def wf_X9_pack_139  (K : Int32 → dk_S → Prop) (x1 : Int32) (x2 : Int32) (y0 : Int32) (s : dk_S) : Prop :=
  wf_X9_goesOn y0 s (fun r35 s34 => ((¬ r35 = 0 → ((¬ x2 = (-1) → (vp_in x1 24 ∧ (∀ s36 : dk_S, s36 = dk_row s34 4 82 (upd (s34 4 82) x1.toNatClampNeg ((-3) - x2)) → ∃ nn37 : Nat, wf_X9_pack_172 K nn37 x1 0 0 s36))) ∧ (x2 = (-1) → (vp_in x1 24 ∧ (∀ s38 : dk_S, s38 = dk_row s34 4 82 (upd (s34 4 82) x1.toNatClampNeg (-1)) → ∃ nn39 : Nat, wf_X9_pack_172 K nn39 x1 0 0 s38))))) ∧ (r35 = 0 → K 0 s34)))
def wf_X9_pack_109  (K : Int32 → dk_S → Prop) (x1 : Int32) (x2 : Int32) (x3 : Int32) (x4 : Int32) (y0 : Int32) (s : dk_S) : Prop :=
  ((x3 = 0 → ((¬ x4 = 0 → ((y0 = 0 → wf_X9_pack_139 K x1 x2 0 s) ∧ (¬ y0 = 0 → wf_X9_pack_139 K x1 x2 4 s))) ∧ (x4 = 0 → wf_X9_pack_139 K x1 x2 3 s))) ∧ (¬ x3 = 0 → wf_X9_pack_139 K x1 x2 x3 s))
def wf_X9_pack_70  (K : Int32 → dk_S → Prop) (x1 : Int32) (x2 : Int32) (x3 : Int32) (y0 : Int32) (s : dk_S) : Prop :=
  ((y0 = 0 → wf_X9_pack_109 K x1 x2 x3 y0 0 s) ∧ (¬ y0 = 0 → ((x2 = (-1) → wf_X9_pack_109 K x1 x2 x3 y0 0 s) ∧ (¬ x2 = (-1) → wf_X9_isBag x2 s (fun r23 s22 => ((r23 = 0 → wf_X9_pack_109 K x1 x2 x3 y0 1 s22) ∧ (¬ r23 = 0 → ((x2 = x1 → wf_X9_pack_109 K x1 x2 x3 y0 1 s22) ∧ (¬ x2 = x1 → wf_X9_isWithin x2 x1 s22 (fun r25 s24 => ((r25 = 0 → wf_X9_pack_109 K x1 x2 x3 y0 0 s24) ∧ (¬ r25 = 0 → wf_X9_pack_109 K x1 x2 x3 y0 1 s24))))))))))))
def wf_X9_pack_37  (K : Int32 → dk_S → Prop) (x1 : Int32) (x2 : Int32) (y0 : Int32) (s : dk_S) : Prop :=
  ((¬ y0 = 0 → wf_X9_pack_70 K x1 x2 y0 0 s) ∧ (y0 = 0 → wf_X9_outermost x1 s (fun r15 s14 => ((¬ r15 = (-1) → wf_X9_pack_70 K x1 x2 y0 0 s14) ∧ (r15 = (-1) → ((x2 = (-1) → wf_X9_pack_70 K x1 x2 y0 1 s14) ∧ (¬ x2 = (-1) → wf_X9_outermost x2 s14 (fun r17 s16 => ((¬ r17 = (-1) → wf_X9_pack_70 K x1 x2 y0 0 s16) ∧ (r17 = (-1) → wf_X9_pack_70 K x1 x2 y0 1 s16))))))))))
def wf_X9_pack (a1 : Int32) (a2 : Int32) (s : dk_S) (K : Int32 → dk_S → Prop) : Prop :=
  wf_X9_isThing a1 s (fun r2 s1 => ((r2 = 0 → wf_X9_pack_37 K a1 a2 1 s1) ∧ (¬ r2 = 0 → ((a2 = (-1) → wf_X9_isOn s1 (fun r4 s3 => ((¬ r4 = 0 → wf_X9_pack_37 K a1 a2 0 s3) ∧ (r4 = 0 → wf_X9_pack_37 K a1 a2 2 s3)))) ∧ (¬ a2 = (-1) → wf_X9_isThing a2 s1 (fun r7 s6 => ((¬ r7 = 0 → wf_X9_isOn s6 (fun r9 s8 => ((¬ r9 = 0 → wf_X9_pack_37 K a1 a2 0 s8) ∧ (r9 = 0 → wf_X9_pack_37 K a1 a2 2 s8)))) ∧ (r7 = 0 → wf_X9_pack_37 K a1 a2 1 s6))))))))
def wf_X9_drink_86  (K : Int32 → dk_S → Prop)  (s : dk_S) : Prop :=
  (vp_in 0 8 ∧ ∀ v16 : Int32, v16 = s 4 77 (0 : Int32).toNatClampNeg → wf_X9_ends s (fun s17 => K v16 s17))
def wf_X9_drink_28  (K : Int32 → dk_S → Prop) (x1 : Int32) (y0 : Int32) (s : dk_S) : Prop :=
  wf_X9_goesOn y0 s (fun r8 s7 => ((¬ r8 = 0 → (vp_in x1 24 ∧ ∀ v9 : Int32, v9 = s7 4 71 x1.toNatClampNeg → (vp_in x1 24 ∧ (∀ s10 : dk_S, s10 = dk_row s7 4 82 (upd (s7 4 82) x1.toNatClampNeg (-2)) → (vp_in v9 8 ∧ (∀ s11 : dk_S, s11 = dk_row s10 4 83 (upd (s10 4 83) v9.toNatClampNeg (vp_nar .boolean 1)) → wf_X9_works v9 0 s11 (fun s12 => (vp_in v9 8 ∧ ((¬ (s12 4 64 v9.toNatClampNeg) = 102 → wf_X9_drink_86 K s12) ∧ ((s12 4 64 v9.toNatClampNeg) = 102 → (vp_in 0 8 ∧ wf_X9_burns (s12 4 76 (0 : Int32).toNatClampNeg) 0 s12 (fun s13 => wf_X9_drink_86 K s13)))))))))))) ∧ (r8 = 0 → K 0 s7)))
def wf_X9_drink (a1 : Int32) (s : dk_S) (K : Int32 → dk_S → Prop) : Prop :=
  wf_X9_handFault a1 s (fun r2 s1 => ((¬ r2 = 0 → wf_X9_drink_28 K a1 r2 s1) ∧ (r2 = 0 → (vp_in a1 24 ∧ wf_X9_isPotion (s1 4 71 a1.toNatClampNeg) s1 (fun r4 s3 => ((¬ r4 = 0 → wf_X9_drink_28 K a1 r2 s3) ∧ (r4 = 0 → wf_X9_drink_28 K a1 4 s3)))))))
def wf_X9_hurl_192  (K : Int32 → dk_S → Prop) (x5 : Int32) (s : dk_S) : Prop :=
  wf_X9_ends s (fun s47 => K x5 s47)
def wf_X9_hurl_144  (K : Int32 → dk_S → Prop) (x1 : Int32) (x4 : Int32) (x5 : Int32) (y0 : Int32) (s : dk_S) : Prop :=
  (vp_in x1 24 ∧ wf_X9_isPotion (s 4 71 x1.toNatClampNeg) s (fun r41 s40 => ((r41 = 0 → (vp_in x1 24 ∧ ((¬ (s40 4 71 x1.toNatClampNeg) = 7 → wf_X9_hurl_192 K x5 s40) ∧ ((s40 4 71 x1.toNatClampNeg) = 7 → ((y0 = (-1) → wf_X9_hurl_192 K x5 s40) ∧ (¬ y0 = (-1) → wf_X9_strikes y0 4 s40 (fun s42 => wf_X9_hurl_192 K x5 s42))))))) ∧ (¬ r41 = 0 → wf_X9_breaks x1 x4 s40 (fun s45 => wf_X9_hurl_192 K x5 s45)))))
def wf_X9_hurl_121  (K : Int32 → dk_S → Prop) (x1 : Int32) (x4 : Int32) (x5 : Int32) (s : dk_S) : Prop :=
  (vp_in x1 24 ∧ (∀ s20 : dk_S, s20 = dk_row s 4 82 (upd (s 4 82) x1.toNatClampNeg x4) → ((x5 ≤ 0 → wf_X9_hurl_144 K x1 x4 x5 (-1) s20) ∧ (¬ x5 ≤ 0 → wf_X9_livingAt x4 s20 (fun r22 s21 => wf_X9_hurl_144 K x1 x4 x5 r22 s21)))))
def wf_X9_hurl_73  (K : Int32 → dk_S → Prop) (E121 : Int32 → Int32 → Int32 → dk_S → Prop) : Nat → Int32 → Int32 → Int32 → Int32 → dk_S → Prop
  | 0, _, _, _, _, _ => False
  | n + 1, x1, x2, x4, x5, s => ((5 ≤ x5 → E121 x1 x4 x5 s) ∧ (¬ 5 ≤ x5 → wf_X9_beside x4 x2 s (fun r25 s24 => wf_X9_isFree r25 s24 (fun r27 s26 => ((r27 = 0 → E121 x1 x4 x5 s26) ∧ (¬ r27 = 0 → ((x5 = 0 → wf_X9_beside x4 x2 s26 (fun r29 s28 => ∀ v30 : Int32, v30 = x5 + 1 → wf_X9_hurl_73 K E121 n x1 x2 r29 v30 s28)) ∧ (¬ x5 = 0 → wf_X9_livingAt x4 s26 (fun r32 s31 => ((¬ r32 = (-1) → E121 x1 x4 x5 s31) ∧ (r32 = (-1) → wf_X9_beside x4 x2 s31 (fun r34 s33 => ∀ v35 : Int32, v35 = x5 + 1 → wf_X9_hurl_73 K E121 n x1 x2 r34 v35 s33))))))))))))
def wf_X9_hurl_51  (K : Int32 → dk_S → Prop) (x1 : Int32) (x2 : Int32) (y0 : Int32) (s : dk_S) : Prop :=
  wf_X9_goesOn y0 s (fun r12 s11 => ((¬ r12 = 0 → (vp_in 0 8 ∧ ∀ v13 : Int32, v13 = s11 4 76 (0 : Int32).toNatClampNeg → ∃ nn18 : Nat, wf_X9_hurl_73 K (fun (w14 : Int32) (w15 : Int32) (w16 : Int32) (s17 : dk_S) => wf_X9_hurl_121 K w14 w15 w16 s17) nn18 x1 x2 v13 0 s11)) ∧ (r12 = 0 → K 0 s11)))
def wf_X9_hurl (a1 : Int32) (a2 : Int32) (s : dk_S) (K : Int32 → dk_S → Prop) : Prop :=
  wf_X9_isThing a1 s (fun r2 s1 => ((¬ r2 = 0 → wf_X9_in a2 0 3 s1 (fun r4 s3 => ((¬ r4 = 0 → wf_X9_isOn s3 (fun r6 s5 => ((¬ r6 = 0 → (vp_in a1 24 ∧ (((s5 4 82 a1.toNatClampNeg) = (-1) → wf_X9_hurl_51 K a1 a2 0 s5) ∧ (¬ (s5 4 82 a1.toNatClampNeg) = (-1) → wf_X9_hurl_51 K a1 a2 4 s5)))) ∧ (r6 = 0 → wf_X9_hurl_51 K a1 a2 3 s5)))) ∧ (r4 = 0 → wf_X9_hurl_51 K a1 a2 2 s3)))) ∧ (r2 = 0 → wf_X9_hurl_51 K a1 a2 1 s1)))
def wf_X9_shout_27  (K : Int32 → dk_S → Prop) (x1 : Int32) (y0 : Int32) (s : dk_S) : Prop :=
  wf_X9_goesOn y0 s (fun r8 s7 => ((¬ r8 = 0 → (vp_in 0 8 ∧ wf_X9_sounds (s7 4 76 (0 : Int32).toNatClampNeg) x1 s7 (fun r10 s9 => wf_X9_ends s9 (fun s11 => K r10 s11)))) ∧ (r8 = 0 → K 0 s7)))
def wf_X9_shout (a1 : Int32) (s : dk_S) (K : Int32 → dk_S → Prop) : Prop :=
  wf_X9_in a1 1 30 s (fun r2 s1 => ((¬ r2 = 0 → wf_X9_isOn s1 (fun r4 s3 => ((¬ r4 = 0 → wf_X9_shout_27 K a1 0 s3) ∧ (r4 = 0 → wf_X9_shout_27 K a1 2 s3)))) ∧ (r2 = 0 → wf_X9_shout_27 K a1 1 s1)))
def wf_X9_pray_90  (K : Int32 → dk_S → Prop) (y0 : Int32) (y1 : Int32) (s : dk_S) : Prop :=
  ∀ s12 : dk_S, s12 = dk_row s 4 60 (upd (s 4 60) 31 (y1 - y0)) → ∀ v13 : Int32, v13 = s12 4 60 31 → wf_X9_ends s12 (fun s14 => K v13 s14)
def wf_X9_pray_75  (K : Int32 → dk_S → Prop) (x1 : Int32) (y0 : Int32) (y1 : Int32) (s : dk_S) : Prop :=
  (vp_in y1 8 ∧ (∀ s10 : dk_S, s10 = dk_row s 4 77 (upd (s 4 77) y1.toNatClampNeg y0) → ((x1 = 0 → wf_X9_pray_90 K 1 (s10 4 60 31) s10) ∧ (¬ x1 = 0 → wf_X9_pray_90 K 5 (s10 4 60 31) s10))))
def wf_X9_pray_50  (K : Int32 → dk_S → Prop) (y0 : Int32) (s : dk_S) : Prop :=
  ((y0 = 0 → (vp_in 0 8 ∧ wf_X9_pray_75 K y0 (s 4 77 (0 : Int32).toNatClampNeg) 0 s)) ∧ (¬ y0 = 0 → (vp_in 0 8 ∧ wf_X9_pray_75 K y0 (s 4 70 (0 : Int32).toNatClampNeg) 0 s)))
def wf_X9_pray_13  (K : Int32 → dk_S → Prop) (y0 : Int32) (s : dk_S) : Prop :=
  wf_X9_goesOn y0 s (fun r5 s4 => ((¬ r5 = 0 → (vp_in 0 8 ∧ (vp_in 0 8 ∧ (((s4 4 70 (0 : Int32).toNatClampNeg) ≤ (3 * (s4 4 77 (0 : Int32).toNatClampNeg)) → wf_X9_pray_50 K 0 s4) ∧ (¬ (s4 4 70 (0 : Int32).toNatClampNeg) ≤ (3 * (s4 4 77 (0 : Int32).toNatClampNeg)) → (((s4 4 60 31) < 0 → wf_X9_pray_50 K 0 s4) ∧ (¬ (s4 4 60 31) < 0 → wf_X9_pray_50 K 1 s4))))))) ∧ (r5 = 0 → K 0 s4)))
def wf_X9_pray  (s : dk_S) (K : Int32 → dk_S → Prop) : Prop :=
  wf_X9_isOn s (fun r2 s1 => ((r2 = 0 → wf_X9_pray_13 K 1 s1) ∧ (¬ r2 = 0 → wf_X9_pray_13 K 0 s1)))
def wf_X9_state  (s : dk_S) (K : Int32 → dk_S → Prop) : Prop :=
  ∀ s1 : dk_S, s1 = dk_row s 4 60 (upd (s 4 60) 0 0) → (narrow .char (.int (s1 4 60 1)) = .int (s1 4 60 1) ∧ K (s1 4 60 1) s1)
def wf_X9_tick  (s : dk_S) (K : Int32 → dk_S → Prop) : Prop :=
  ∀ s1 : dk_S, s1 = dk_row s 4 60 (upd (s 4 60) 0 0) → K (s1 4 60 2) s1
def wf_X9_cell_14  (K : Int32 → dk_S → Prop) (x1 : Int32) (x2 : Int32) (y0 : Int32) (s : dk_S) : Prop :=
  wf_X9_goesOn y0 s (fun r5 s4 => ((r5 = 0 → K 0 s4) ∧ (¬ r5 = 0 → wf_X9_at x1 x2 s4 (fun r7 s6 => (vp_in r7 144 ∧ (narrow .char (.int (s6 4 75 r7.toNatClampNeg)) = .int (s6 4 75 r7.toNatClampNeg) ∧ K (s6 4 75 r7.toNatClampNeg) s6))))))
def wf_X9_cell (a1 : Int32) (a2 : Int32) (s : dk_S) (K : Int32 → dk_S → Prop) : Prop :=
  wf_X9_isPlace a1 a2 s (fun r2 s1 => ((r2 = 0 → wf_X9_cell_14 K a1 a2 1 s1) ∧ (¬ r2 = 0 → wf_X9_cell_14 K a1 a2 0 s1)))
def wf_X9_see_23  (K : Int32 → dk_S → Prop) (x1 : Int32) (x2 : Int32) (x3 : Int32) (x4 : Int32) (y0 : Int32) (s : dk_S) : Prop :=
  wf_X9_goesOn y0 s (fun r8 s7 => ((r8 = 0 → K 0 s7) ∧ (¬ r8 = 0 → wf_X9_at x1 x2 s7 (fun r10 s9 => wf_X9_at x3 x4 s9 (fun r12 s11 => wf_X9_sees r10 r12 s11 (fun r14 s13 => ((r14 = 0 → K 0 s13) ∧ (¬ r14 = 0 → K 1 s13))))))))
def wf_X9_see (a1 : Int32) (a2 : Int32) (a3 : Int32) (a4 : Int32) (s : dk_S) (K : Int32 → dk_S → Prop) : Prop :=
  wf_X9_isPlace a1 a2 s (fun r2 s1 => ((r2 = 0 → wf_X9_see_23 K a1 a2 a3 a4 1 s1) ∧ (¬ r2 = 0 → wf_X9_isPlace a3 a4 s1 (fun r4 s3 => ((r4 = 0 → wf_X9_see_23 K a1 a2 a3 a4 1 s3) ∧ (¬ r4 = 0 → wf_X9_see_23 K a1 a2 a3 a4 0 s3))))))
def wf_X9_heroSees_25  (K : Int32 → dk_S → Prop) (x1 : Int32) (x2 : Int32) (y0 : Int32) (s : dk_S) : Prop :=
  wf_X9_goesOn y0 s (fun r8 s7 => ((r8 = 0 → K 0 s7) ∧ (¬ r8 = 0 → wf_X9_at x1 x2 s7 (fun r10 s9 => wf_X9_heroSeesCell r10 s9 (fun r12 s11 => ((r12 = 0 → K 0 s11) ∧ (¬ r12 = 0 → K 1 s11)))))))
def wf_X9_heroSees (a1 : Int32) (a2 : Int32) (s : dk_S) (K : Int32 → dk_S → Prop) : Prop :=
  wf_X9_isPlace a1 a2 s (fun r2 s1 => ((¬ r2 = 0 → wf_X9_isOn s1 (fun r4 s3 => ((¬ r4 = 0 → wf_X9_heroSees_25 K a1 a2 0 s3) ∧ (r4 = 0 → wf_X9_heroSees_25 K a1 a2 2 s3)))) ∧ (r2 = 0 → wf_X9_heroSees_25 K a1 a2 1 s1)))
def wf_X9_placeOf_20  (K : Int32 → dk_S → Prop) (x1 : Int32) (y0 : Int32) (s : dk_S) : Prop :=
  wf_X9_goesOn y0 s (fun r5 s4 => ((r5 = 0 → K 0 s4) ∧ (¬ r5 = 0 → (vp_in x1 8 ∧ wf_X9_told (s4 4 76 x1.toNatClampNeg) s4 (fun r7 s6 => K r7 s6)))))
def wf_X9_placeOf (a1 : Int32) (s : dk_S) (K : Int32 → dk_S → Prop) : Prop :=
  wf_X9_in a1 0 ((s 4 60 10) - 1) s (fun r2 s1 => ((r2 = 0 → wf_X9_placeOf_20 K a1 1 s1) ∧ (¬ r2 = 0 → wf_X9_placeOf_20 K a1 0 s1)))
def wf_X9_healthOf_20  (K : Int32 → dk_S → Prop) (x1 : Int32) (y0 : Int32) (s : dk_S) : Prop :=
  wf_X9_goesOn y0 s (fun r5 s4 => ((r5 = 0 → K 0 s4) ∧ (¬ r5 = 0 → (vp_in x1 8 ∧ K (s4 4 77 x1.toNatClampNeg) s4))))
def wf_X9_healthOf (a1 : Int32) (s : dk_S) (K : Int32 → dk_S → Prop) : Prop :=
  wf_X9_in a1 0 ((s 4 60 10) - 1) s (fun r2 s1 => ((r2 = 0 → wf_X9_healthOf_20 K a1 1 s1) ∧ (¬ r2 = 0 → wf_X9_healthOf_20 K a1 0 s1)))
def wf_X9_aimOf_36  (K : Int32 → dk_S → Prop) (x1 : Int32) (y0 : Int32) (s : dk_S) : Prop :=
  wf_X9_goesOn y0 s (fun r6 s5 => ((r6 = 0 → K 0 s5) ∧ (¬ r6 = 0 → (vp_in x1 8 ∧ wf_X9_told (s5 4 81 x1.toNatClampNeg) s5 (fun r8 s7 => K r8 s7)))))
def wf_X9_aimOf (a1 : Int32) (s : dk_S) (K : Int32 → dk_S → Prop) : Prop :=
  wf_X9_in a1 1 ((s 4 60 10) - 1) s (fun r2 s1 => ((¬ r2 = 0 → (vp_in a1 8 ∧ ((¬ (s1 4 81 a1.toNatClampNeg) = (-1) → wf_X9_aimOf_36 K a1 0 s1) ∧ ((s1 4 81 a1.toNatClampNeg) = (-1) → wf_X9_aimOf_36 K a1 2 s1)))) ∧ (r2 = 0 → wf_X9_aimOf_36 K a1 1 s1)))
def wf_X9_whereIs_14  (K : Int32 → dk_S → Prop) (x1 : Int32) (y0 : Int32) (s : dk_S) : Prop :=
  wf_X9_goesOn y0 s (fun r5 s4 => ((r5 = 0 → K 0 s4) ∧ (¬ r5 = 0 → (vp_in x1 24 ∧ (((s4 4 82 x1.toNatClampNeg) < 0 → (vp_in x1 24 ∧ K (s4 4 82 x1.toNatClampNeg) s4)) ∧ (¬ (s4 4 82 x1.toNatClampNeg) < 0 → (vp_in x1 24 ∧ wf_X9_told (s4 4 82 x1.toNatClampNeg) s4 (fun r7 s6 => K r7 s6))))))))
def wf_X9_whereIs (a1 : Int32) (s : dk_S) (K : Int32 → dk_S → Prop) : Prop :=
  wf_X9_isThing a1 s (fun r2 s1 => ((r2 = 0 → wf_X9_whereIs_14 K a1 1 s1) ∧ (¬ r2 = 0 → wf_X9_whereIs_14 K a1 0 s1)))
def wf_X9_weightOf_14  (K : Int32 → dk_S → Prop) (x1 : Int32) (y0 : Int32) (s : dk_S) : Prop :=
  wf_X9_goesOn y0 s (fun r5 s4 => ((r5 = 0 → K 0 s4) ∧ (¬ r5 = 0 → wf_X9_wholeWeight x1 s4 (fun r7 s6 => K r7 s6))))
def wf_X9_weightOf (a1 : Int32) (s : dk_S) (K : Int32 → dk_S → Prop) : Prop :=
  wf_X9_isThing a1 s (fun r2 s1 => ((r2 = 0 → wf_X9_weightOf_14 K a1 1 s1) ∧ (¬ r2 = 0 → wf_X9_weightOf_14 K a1 0 s1)))
def wf_X9_lookOf_44  (K : Int32 → dk_S → Prop) (x1 : Int32) (x3 : Int32) (y0 : Int32) (s : dk_S) : Prop :=
  ((¬ x1 = 3 → ((¬ x1 = 4 → K ((3 - x3) - y0) s) ∧ (x1 = 4 → K y0 s))) ∧ (x1 = 3 → K x3 s))
def wf_X9_lookOf_21  (K : Int32 → dk_S → Prop) (x1 : Int32) (x2 : Int32) (x3 : Int32) (y0 : Int32) (s : dk_S) : Prop :=
  ∀ v4 : Int32, v4 = (3 - x3) - y0 → ((¬ (x2 - x2 / 2 * 2) = 0 → wf_X9_lookOf_44 K x1 x3 v4 s) ∧ ((x2 - x2 / 2 * 2) = 0 → wf_X9_lookOf_44 K x1 x3 y0 s))
def wf_X9_lookOf (a1 : Int32) (s : dk_S) (K : Int32 → dk_S → Prop) : Prop :=
  ∀ v1 : Int32, v1 = (s 4 60 3) - (s 4 60 3) / 6 * 6 → ∀ v2 : Int32, v2 = v1 / 2 → ((¬ v2 = 0 → wf_X9_lookOf_21 K a1 v1 v2 0 s) ∧ (v2 = 0 → wf_X9_lookOf_21 K a1 v1 v2 1 s))
def wf_X9_nameOf_25  (K : Int32 → dk_S → Prop) (x1 : Int32) (y0 : Int32) (s : dk_S) : Prop :=
  wf_X9_goesOn y0 s (fun r8 s7 => ((¬ r8 = 0 → (vp_in x1 24 ∧ ∀ v9 : Int32, v9 = s7 4 71 x1.toNatClampNeg → wf_X9_isPotion v9 s7 (fun r11 s10 => ((r11 = 0 → K v9 s10) ∧ (¬ r11 = 0 → (vp_in v9 8 ∧ ((¬ (s10 4 83 v9.toNatClampNeg) = 0 → K v9 s10) ∧ ((s10 4 83 v9.toNatClampNeg) = 0 → wf_X9_lookOf v9 s10 (fun r13 s12 => K (100 + r13) s12))))))))) ∧ (r8 = 0 → K 0 s7)))
def wf_X9_nameOf (a1 : Int32) (s : dk_S) (K : Int32 → dk_S → Prop) : Prop :=
  wf_X9_isThing a1 s (fun r2 s1 => ((¬ r2 = 0 → wf_X9_isOn s1 (fun r4 s3 => ((¬ r4 = 0 → wf_X9_nameOf_25 K a1 0 s3) ∧ (r4 = 0 → wf_X9_nameOf_25 K a1 2 s3)))) ∧ (r2 = 0 → wf_X9_nameOf_25 K a1 1 s1)))
def wf_X9_hasFound_58  (K : Int32 → dk_S → Prop) (B : Int32 → Int32 → Int32 → dk_S → Prop) (x1 : Int32) (x3 : Int32) (s : dk_S) : Prop :=
  ∀ v11 : Int32, v11 = x3 + 1 → B x1 0 v11 s
def wf_X9_hasFound_54  (K : Int32 → dk_S → Prop) (B : Int32 → Int32 → Int32 → dk_S → Prop) (x1 : Int32) (x3 : Int32) (s : dk_S) : Prop :=
  ∀ v10 : Int32, v10 = x3 + 1 → B x1 1 v10 s
def wf_X9_hasFound_4  (K : Int32 → dk_S → Prop) : Nat → Int32 → Int32 → Int32 → dk_S → Prop
  | 0, _, _, _, _ => False
  | n + 1, x1, x2, x3, s => (((s 4 60 15) ≤ x3 → (narrow .boolean (.int x2) = .int x2 ∧ K x2 s)) ∧ (¬ (s 4 60 15) ≤ x3 → wf_X9_outermost x3 s (fun r3 s2 => ((¬ x2 = 0 → wf_X9_hasFound_54 K (wf_X9_hasFound_4 K n) x1 x3 s2) ∧ (x2 = 0 → (vp_in x3 24 ∧ ((¬ (s2 4 71 x3.toNatClampNeg) = x1 → wf_X9_hasFound_58 K (wf_X9_hasFound_4 K n) x1 x3 s2) ∧ ((s2 4 71 x3.toNatClampNeg) = x1 → ((r3 = (-1) → wf_X9_hasFound_54 K (wf_X9_hasFound_4 K n) x1 x3 s2) ∧ (¬ r3 = (-1) → ((r3 < 0 → wf_X9_hasFound_58 K (wf_X9_hasFound_4 K n) x1 x3 s2) ∧ (¬ r3 < 0 → (vp_in r3 144 ∧ (((s2 4 87 r3.toNatClampNeg) = 0 → wf_X9_hasFound_58 K (wf_X9_hasFound_4 K n) x1 x3 s2) ∧ (¬ (s2 4 87 r3.toNatClampNeg) = 0 → wf_X9_hasFound_54 K (wf_X9_hasFound_4 K n) x1 x3 s2)))))))))))))))
def wf_X9_hasFound (a1 : Int32) (s : dk_S) (K : Int32 → dk_S → Prop) : Prop :=
  ∃ nn1 : Nat, wf_X9_hasFound_4 K nn1 a1 0 0 s
def wf_X9_spreads_145  (K : Int32 → dk_S → Prop) (B : Int32 → Int32 → Int32 → Int32 → dk_S → Prop) (E167 : Int32 → Int32 → dk_S → Prop) (x1 : Int32) (x2 : Int32) (x3 : Int32) (x4 : Int32) (x6 : Int32) (y0 : Int32) (y1 : Int32) (s : dk_S) : Prop :=
  (vp_in y1 144 ∧ (∀ s37 : dk_S, s37 = dk_row s 4 87 (upd (s 4 87) y1.toNatClampNeg (vp_nar .boolean y0)) → ((¬ x1 = 0 → ∀ v38 : Int32, v38 = x4 + 1 → B 1 x2 x3 v38 s37) ∧ (x1 = 0 → ((x6 = 0 → ∀ v39 : Int32, v39 = x4 + 1 → B 0 x2 x3 v39 s37) ∧ (¬ x6 = 0 → ∀ v40 : Int32, v40 = x4 + 1 → B 1 x2 x3 v40 s37))))))
def wf_X9_spreads_119  (K : Int32 → dk_S → Prop) (B : Int32 → Int32 → Int32 → Int32 → dk_S → Prop) (E167 : Int32 → Int32 → dk_S → Prop) (x1 : Int32) (x2 : Int32) (x3 : Int32) (x4 : Int32) (y0 : Int32) (s : dk_S) : Prop :=
  (vp_in x2 144 ∧ ((¬ (s 4 87 x2.toNatClampNeg) = 0 → wf_X9_spreads_145 K B E167 x1 x2 x3 x4 y0 1 x2 s) ∧ ((s 4 87 x2.toNatClampNeg) = 0 → ((y0 = 0 → wf_X9_spreads_145 K B E167 x1 x2 x3 x4 y0 0 x2 s) ∧ (¬ y0 = 0 → wf_X9_spreads_145 K B E167 x1 x2 x3 x4 y0 1 x2 s)))))
def wf_X9_spreads_71  (K : Int32 → dk_S → Prop) (E167 : Int32 → Int32 → dk_S → Prop) : Nat → Int32 → Int32 → Int32 → Int32 → dk_S → Prop
  | 0, _, _, _, _, _ => False
  | n + 1, x1, x2, x3, x4, s => ((4 ≤ x4 → E167 x1 x2 s) ∧ (¬ 4 ≤ x4 → ((x3 = 0 → E167 x1 x2 s) ∧ (¬ x3 = 0 → (vp_in x2 144 ∧ ((¬ (s 4 87 x2.toNatClampNeg) = 0 → E167 x1 x2 s) ∧ ((s 4 87 x2.toNatClampNeg) = 0 → wf_X9_beside x2 x4 s (fun r29 s28 => ((r29 = (-1) → wf_X9_spreads_119 K (wf_X9_spreads_71 K E167 n) E167 x1 x2 x3 x4 0 s28) ∧ (¬ r29 = (-1) → (vp_in r29 144 ∧ (((s28 4 87 r29.toNatClampNeg) = 0 → wf_X9_spreads_119 K (wf_X9_spreads_71 K E167 n) E167 x1 x2 x3 x4 0 s28) ∧ (¬ (s28 4 87 r29.toNatClampNeg) = 0 → wf_X9_spreads_119 K (wf_X9_spreads_71 K E167 n) E167 x1 x2 x3 x4 1 s28)))))))))))))
def wf_X9_spreads_62  (K : Int32 → dk_S → Prop) (B : Int32 → Int32 → dk_S → Prop) (x1 : Int32) (x2 : Int32) (s : dk_S) : Prop :=
  ∃ nn27 : Nat, wf_X9_spreads_71 K (fun (w23 : Int32) (w24 : Int32) (s25 : dk_S) => ∀ v26 : Int32, v26 = w24 + 1 → B w23 v26 s25) nn27 x1 x2 1 0 s
def wf_X9_spreads_4  (K : Int32 → dk_S → Prop) : Nat → Int32 → Int32 → dk_S → Prop
  | 0, _, _, _ => False
  | n + 1, x1, x2, s => ((144 ≤ x2 → (narrow .boolean (.int x1) = .int x1 ∧ K x1 s)) ∧ (¬ 144 ≤ x2 → wf_X9_isFree x2 s (fun r3 s2 => ((¬ r3 = 0 → wf_X9_spreads_62 K (wf_X9_spreads_4 K n) x1 x2 s2) ∧ (r3 = 0 → (vp_in x2 144 ∧ (((s2 4 75 x2.toNatClampNeg) = 43 → wf_X9_spreads_62 K (wf_X9_spreads_4 K n) x1 x2 s2) ∧ (¬ (s2 4 75 x2.toNatClampNeg) = 43 → (vp_in x2 144 ∧ wf_X9_in (s2 4 75 x2.toNatClampNeg) 48 50 s2 (fun r5 s4 => ((r5 = 0 → ∃ nn10 : Nat, wf_X9_spreads_71 K (fun (w6 : Int32) (w7 : Int32) (s8 : dk_S) => ∀ v9 : Int32, v9 = w7 + 1 → wf_X9_spreads_4 K n w6 v9 s8) nn10 x1 x2 0 0 s4) ∧ (¬ r5 = 0 → (vp_in x2 144 ∧ wf_X9_hasFound ((s4 4 75 x2.toNatClampNeg) - 48) s4 (fun r12 s11 => ((r12 = 0 → ∃ nn17 : Nat, wf_X9_spreads_71 K (fun (w13 : Int32) (w14 : Int32) (s15 : dk_S) => ∀ v16 : Int32, v16 = w14 + 1 → wf_X9_spreads_4 K n w13 v16 s15) nn17 x1 x2 0 0 s11) ∧ (¬ r12 = 0 → wf_X9_spreads_62 K (wf_X9_spreads_4 K n) x1 x2 s11))))))))))))))))
def wf_X9_spreads  (s : dk_S) (K : Int32 → dk_S → Prop) : Prop :=
  ∃ nn1 : Nat, wf_X9_spreads_4 K nn1 0 0 s
def wf_X9_isReachable_71  (K : Int32 → dk_S → Prop) (E83 : Int32 → Int32 → dk_S → Prop) : Nat → Int32 → Int32 → Int32 → dk_S → Prop
  | 0, _, _, _, _ => False
  | n + 1, x1, x2, x3, s => ((x3 = 0 → E83 x1 x2 s) ∧ (¬ x3 = 0 → wf_X9_spreads s (fun r21 s20 => wf_X9_isReachable_71 K E83 n x1 x2 r21 s20)))
def wf_X9_isReachable_35  (K : Int32 → dk_S → Prop) (E69 : Int32 → Int32 → dk_S → Prop) : Nat → Int32 → Int32 → Int32 → dk_S → Prop
  | 0, _, _, _, _ => False
  | n + 1, x1, x2, x3, s => ((144 ≤ x3 → E69 x1 x2 s) ∧ (¬ 144 ≤ x3 → (vp_in 0 8 ∧ ((¬ x3 = (s 4 76 (0 : Int32).toNatClampNeg) → (vp_in x3 144 ∧ (∀ s23 : dk_S, s23 = dk_row s 4 87 (upd (s 4 87) x3.toNatClampNeg (vp_nar .boolean 0)) → ∀ v24 : Int32, v24 = x3 + 1 → wf_X9_isReachable_35 K E69 n x1 x2 v24 s23))) ∧ (x3 = (s 4 76 (0 : Int32).toNatClampNeg) → (vp_in x3 144 ∧ (∀ s25 : dk_S, s25 = dk_row s 4 87 (upd (s 4 87) x3.toNatClampNeg (vp_nar .boolean 1)) → ∀ v26 : Int32, v26 = x3 + 1 → wf_X9_isReachable_35 K E69 n x1 x2 v26 s25)))))))
def wf_X9_isReachable_25  (K : Int32 → dk_S → Prop) (x1 : Int32) (x2 : Int32) (y0 : Int32) (s : dk_S) : Prop :=
  wf_X9_goesOn y0 s (fun r8 s7 => ((¬ r8 = 0 → ∃ nn18 : Nat, wf_X9_isReachable_35 K (fun (w9 : Int32) (w10 : Int32) (s11 : dk_S) => ∃ nn17 : Nat, wf_X9_isReachable_71 K (fun (w12 : Int32) (w13 : Int32) (s14 : dk_S) => wf_X9_at w12 w13 s14 (fun r16 s15 => (vp_in r16 144 ∧ (narrow .boolean (.int (s15 4 87 r16.toNatClampNeg)) = .int (s15 4 87 r16.toNatClampNeg) ∧ K (s15 4 87 r16.toNatClampNeg) s15)))) nn17 w9 w10 1 s11) nn18 x1 x2 0 s7) ∧ (r8 = 0 → K 0 s7)))
def wf_X9_isReachable (a1 : Int32) (a2 : Int32) (s : dk_S) (K : Int32 → dk_S → Prop) : Prop :=
  wf_X9_isPlace a1 a2 s (fun r2 s1 => ((¬ r2 = 0 → wf_X9_isOn s1 (fun r4 s3 => ((¬ r4 = 0 → wf_X9_isReachable_25 K a1 a2 0 s3) ∧ (r4 = 0 → wf_X9_isReachable_25 K a1 a2 2 s3)))) ∧ (r2 = 0 → wf_X9_isReachable_25 K a1 a2 1 s1)))
def wf_X9_isSame  (s : dk_S) (K : Int32 → dk_S → Prop) : Prop :=
  ((¬ (s 4 60 1) = 110 → wf_X9_goesOn 0 s (fun r2 s1 => (narrow .boolean (.int r2) = .int r2 ∧ K r2 s1))) ∧ ((s 4 60 1) = 110 → wf_X9_goesOn 1 s (fun r4 s3 => (narrow .boolean (.int r4) = .int r4 ∧ K r4 s3))))
