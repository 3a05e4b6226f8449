/-! what the statement says *of* the start -/
theorem dk_win_RX8 : Cond.instantiable RX8 7 ∈ dk_ws := dk_w 56 (by decide +kernel) (by decide +kernel)
theorem dk_wkl_L_28 : Cond.classLink RL 28 RX8 ∈ dk_ws := dk_w 55 (by decide +kernel) (by decide +kernel)
theorem dk_wc_X8_init : Cond.code yX8_init cX8_init 1 none ∈ dk_ws := dk_w 59 (by decide +kernel) (by decide +kernel)
theorem dk_wt_X8_init : Cond.instanceMethod yX8_init ∈ dk_ws := dk_w 58 (by decide +kernel) (by decide +kernel)
def ds_tm (i : Nat) : Term := if i = 0 then .string "DelveKeep" 48 else if i = 1 then .string "DelveKeep" 102 else .string "DelveKeepLaw" 15
theorem ds_f2 : ∀ i, i < 3 → Cond.exactly (ds_tm i) "java/lang/String" ∈ flatC (Jvm.Cond.and given_1 narrow_1) := by decide +kernel
theorem ds_f3 : ∀ i, i < 3 → Cond.eq (.field (ds_tm i) "java/lang/String" "coder" "B") (.int 0) ∈ flatC (Jvm.Cond.and given_1 narrow_1) := by decide +kernel
theorem ds_f4 : ∀ i, i < 3 → Cond.arrayOf (.field (ds_tm i) "java/lang/String" "value" "[B") .byte ∈ flatC (Jvm.Cond.and given_1 narrow_1) := by decide +kernel
theorem ds_f5 : ∀ i, i < 3 → Cond.eq (.length (.field (ds_tm i) "java/lang/String" "value" "[B")) (.int (Int32.ofNat (dk_txL.getD i 0))) ∈ flatC (Jvm.Cond.and given_1 narrow_1) := by decide +kernel
theorem ds_f6 : ∀ i, i < 3 → ∀ j, j < dk_txL.getD i 0 → Cond.eq (.elem (.field (ds_tm i) "java/lang/String" "value" "[B") (.int (Int32.ofNat j))) (.int ((dk_txB.getD i []).getD j 0)) ∈ flatC (Jvm.Cond.and given_1 narrow_1) := by decide +kernel
theorem ds_f7 : ∀ i, i < 3 → ∀ j, j < 3 → i ≠ j → Cond.not (Cond.eq (ds_tm i) (ds_tm j)) ∈ flatC (Jvm.Cond.and given_1 narrow_1) ∨ Cond.not (Cond.eq (ds_tm j) (ds_tm i)) ∈ flatC (Jvm.Cond.and given_1 narrow_1) := by decide +kernel
theorem ds_f8 : ∀ q ∈ dk_ncL, Cond.not (.castable q.1 q.2) ∈ flatC (Jvm.Cond.and given_1 narrow_1) := by decide +kernel
theorem ds_f9 : ∀ i, i < 3 → dk_txL.getD i 0 < 2 ^ 31 := by decide
theorem ds_f0 : Cond.eq (.string "DelveKeepLaw" 37) (ds_tm 1) ∈ flatC (Jvm.Cond.and given_1 narrow_1) := by decide +kernel
/-- classes and array classes, as the tables have them -/
theorem ds_arr {args : Array Value} {s : State} {ty : FieldType} (h : (Cond.arrayClass ty).before args s = true) (hr : ∀ cA, s.vm.findClass ("[" ++ ty.toString) = some cA → va_RA s cA ty) : ∃ cA : ClassId, ArrOfT s cA ty ∧ va_RA s cA ty := by
  obtain ⟨cA, kA, comp, h1, h2, h3⟩ := Cond.arrayClass_spec h
  exact ⟨cA, fun n z => ⟨fun k h => (by cases h), kA, h2, comp, h3⟩, hr cA h1⟩
theorem ds_cls {args : Array Value} {s : State} (hw : ∀ w ∈ dk_ws, w.before args s = true) : ∃ D : va_G, ∀ (c : Nat) (q : vw_C), dk_cl[c]? = some q → u_Kn s q.1 q.2.1 q.2.2 (D.1 c) (D.2 c) := by
  have h : ∀ c : Nat, ∃ x : ClassId × (Nat → Nat), ∀ q : vw_C, dk_cl[c]? = some q → u_Kn s q.1 q.2.1 q.2.2 x.1 x.2 := by
    intro c
    match c with
    | 0 =>
      obtain ⟨cC, iS, h⟩ := u_known (C := RX0) (T := TX0) (N := 2) (n := 2) hw dk_ui0 (hw _ dk_win_RX0)
      exact ⟨(cC, iS), fun q hq => by cases hq; exact h⟩
    | 1 =>
      obtain ⟨cC, iS, h⟩ := u_known (C := RX1) (T := TX1) (N := 6) (n := 6) hw dk_ui1 (hw _ dk_win_RX1)
      exact ⟨(cC, iS), fun q hq => by cases hq; exact h⟩
    | 2 =>
      obtain ⟨cC, iS, h⟩ := u_known (C := RX2) (T := TX2) (N := 10) (n := 10) hw dk_ui2 (hw _ dk_win_RX2)
      exact ⟨(cC, iS), fun q hq => by cases hq; exact h⟩
    | 3 =>
      obtain ⟨cC, iS, h⟩ := u_known (C := RX3) (T := TX3) (N := 5) (n := 5) hw dk_ui3 (hw _ dk_win_RX3)
      exact ⟨(cC, iS), fun q hq => by cases hq; exact h⟩
    | 4 =>
      obtain ⟨cC, iS, h⟩ := u_known (C := RX4) (T := TX4) (N := 3) (n := 3) hw dk_ui4 (hw _ dk_win_RX4)
      exact ⟨(cC, iS), fun q hq => by cases hq; exact h⟩
    | 5 =>
      obtain ⟨cC, iS, h⟩ := u_known (C := RX5) (T := TX5) (N := 4) (n := 4) hw dk_ui5 (hw _ dk_win_RX5)
      exact ⟨(cC, iS), fun q hq => by cases hq; exact h⟩
    | 6 =>
      obtain ⟨cC, iS, h⟩ := u_known (C := RX6) (T := TX6) (N := 3) (n := 3) hw dk_ui6 (hw _ dk_win_RX6)
      exact ⟨(cC, iS), fun q hq => by cases hq; exact h⟩
    | 7 =>
      obtain ⟨cC, iS, h⟩ := u_known (C := RX7) (T := TX7) (N := 10) (n := 10) hw dk_ui7 (hw _ dk_win_RX7)
      exact ⟨(cC, iS), fun q hq => by cases hq; exact h⟩
    | 8 =>
      obtain ⟨cC, iS, h⟩ := u_known (C := RX8) (T := TX8) (N := 7) (n := 7) hw dk_ui8 (hw _ dk_win_RX8)
      exact ⟨(cC, iS), fun q hq => by cases hq; exact h⟩
    | c + 9 => exact ⟨(0, fun _ => 0), fun q hq => by simp [dk_cl] at hq⟩
  obtain ⟨f, hf⟩ := Classical.axiomOfChoice h
  exact ⟨(fun c => (f c).1, fun c => (f c).2), hf⟩
def ds_A (s : State) : Nat → Prop := fun q => s.heap.size ≤ q
theorem ds_base {args : Array Value} {s : State} {b L : Nat} {xs : Nat → Int32} (hts : ∀ w ∈ lw_tbl, w.before args s = true) (hgv : (Jvm.Cond.and given_1 narrow_1).before args s = true) (hX : va_X b L xs s s.heap) (hbl : b < s.heap.size) :
    ∃ (D : va_G) (cA : Nat → ClassId) (aK aV : Nat → Nat), ∀ (ad : Nat → Nat → Nat) (dom : List (Nat × Nat)),
      dk_V (D, cA, ad, dom, ds_A s, (b, L, xs), aK, aV) s ∧ dk_Z (D, cA, ad, dom, ds_A s, (b, L, xs), aK, aV) s s.heap := by
  have hw : ∀ w ∈ dk_ws, w.before args s = true := fun w h => hts w (List.mem_filter.mp h).1
  have hf := flat_of_before _ hgv
  have hA : ∀ a : Nat, a < s.heap.size → ¬ ds_A s a := fun a h g => by have : s.heap.size ≤ a := g; omega
  obtain ⟨D, hD⟩ := ds_cls hw
  obtain ⟨cI, hI1, hI2⟩ := ds_arr (hw _ dk_wa_int) (fun _ h => h)
  obtain ⟨cC, hC1, hC2⟩ := ds_arr (hw _ dk_wa_char) (fun _ h => h)
  have hT : va_T .int b L (fun k => .int (xs k)) (ds_A s) s s.heap := by
    obtain ⟨scr, h1, h2, h3, h4, h5⟩ := hX
    exact ⟨scr, h1, h2, h3, Nat.le_of_eq h4.symm, by rw [h4], h5, hA b hbl⟩
  obtain ⟨aK, aV, hS, hev⟩ := vk_Sof (s := s) (args := args) (N := 3) (tm := ds_tm) (len := dk_txL) (byt := dk_txB) (A := ds_A s) ds_f9 (fun i hi => hf _ (ds_f2 i hi)) (fun i hi => hf _ (ds_f3 i hi)) (fun i hi => hf _ (ds_f4 i hi)) (fun i hi => hf _ (ds_f5 i hi)) (fun i hi j hj => hf _ (ds_f6 i hi j hj))
    (fun i j hi hj hij => (ds_f7 i hi j hj hij).imp (hf _) (hf _)) hA
  have e0 := hev 0 (by decide)
  have e1 := hev 1 (by decide)
  have e2 := hev 2 (by decide)
  have e3 : (Term.string "DelveKeepLaw" 37).eval args s none [] s = some (.ref (aK 1)) := Cond.eq_refs (hf _ ds_f0) e1 rfl
  refine ⟨D, fun k => if k = 0 then cI else cC, aK, aV, fun ad dom => ⟨⟨⟨hD, fun k q hq => ?_⟩, fun w h => va_Nw.of (dk_nw_on w h) (hts w (List.mem_filter.mp h).1), vk_R.of (hts _ (List.mem_of_getElem? (i := 451) (by decide +kernel))) e0, vk_R.of (hts _ (List.mem_of_getElem? (i := 582) (by decide +kernel))) e1, ⟨vk_R.of (hts _ (List.mem_of_getElem? (i := 337) (by decide +kernel))) e2, vk_R.of (hts _ (List.mem_of_getElem? (i := 577) (by decide +kernel))) e3⟩, fun q hq => va_Nc.of (hf _ (ds_f8 q hq))⟩, ⟨?_, ?_, ?_, hT, ?_, hS⟩⟩⟩
  · match k, hq with
    | 0, hq => cases hq; exact ⟨hI1, hI2⟩
    | 1, hq => cases hq; exact ⟨hC1, hC2⟩
    | k + 2, hq => simp [dk_tys] at hq
  · exact vx_Zqof (hts _ (List.mem_of_getElem? (i := 412) (by decide +kernel))) (hts _ (List.mem_of_getElem? (i := 43) (by decide +kernel))) (hf _ (by decide +kernel)) hA
  · exact vx_Zqof (hts _ (List.mem_of_getElem? (i := 414) (by decide +kernel))) (hts _ (List.mem_of_getElem? (i := 43) (by decide +kernel))) (hf _ (by decide +kernel)) hA
  · exact va_Zqof (hts _ (List.mem_of_getElem? (i := 355) (by decide +kernel))) (hts _ (List.mem_of_getElem? (i := 41) (by decide +kernel))) (hf _ (by decide +kernel)) hA
  · exact va_Zof (hts _ (List.mem_of_getElem? (i := 347) (by decide +kernel))) (hts _ (List.mem_of_getElem? (i := 39) (by decide +kernel))) (va_eqt (hf _ (by decide +kernel))) hA
