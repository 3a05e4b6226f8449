/-! what the statement says *of* the start -/
theorem dk_win_RX8 : Cond.instantiable RX8 7 ∈ dk_ws := dk_w 100 (by decide +kernel) (by decide +kernel)
theorem dk_win_RX9 : Cond.instantiable RX9 37 ∈ dk_ws := dk_w 1297 (by decide +kernel) (by decide +kernel)
theorem dk_wkl_L_8 : Cond.classLink RL 8 RX8 ∈ dk_ws := dk_w 99 (by decide +kernel) (by decide +kernel)
theorem dk_wc_X8_init : Cond.code yX8_init cX8_init 1 none ∈ dk_ws := dk_w 103 (by decide +kernel) (by decide +kernel)
theorem dk_wm_L_130 : Cond.methodLink RL 130 yX8_init ∈ dk_ws := dk_w 101 (by decide +kernel) (by decide +kernel)
theorem dk_wt_X8_init : Cond.instanceMethod yX8_init ∈ dk_ws := dk_w 102 (by decide +kernel) (by decide +kernel)
theorem dk_wkl_L_131 : Cond.classLink RL 131 RX9 ∈ dk_ws := dk_w 1296 (by decide +kernel) (by decide +kernel)
theorem dk_wc_X9_init : Cond.code yX9_init cX9_init 2 none ∈ dk_ws := dk_w 1300 (by decide +kernel) (by decide +kernel)
theorem dk_wm_L_133 : Cond.methodLink RL 133 yX9_init ∈ dk_ws := dk_w 1298 (by decide +kernel) (by decide +kernel)
theorem dk_wt_X9_init : Cond.instanceMethod yX9_init ∈ dk_ws := dk_w 1299 (by decide +kernel) (by decide +kernel)
theorem dk_wa_long : Cond.arrayClass .long ∈ dk_ws := dk_w 1761 (by decide +kernel) (by decide +kernel)
theorem dk_wa_double : Cond.arrayClass .double ∈ dk_ws := dk_w 1762 (by decide +kernel) (by decide +kernel)
def ds_tm (i : Nat) : Term := if i = 0 then .string "DelveKeep" 48 else .string "DelveKeep" 102
theorem ds_f1 : ∀ j, j < 18 → Cond.eq (.elem (.static "DelveKeep" "LOOKS" "[I") (.int (Int32.ofNat j))) (.int (dk_looks j)) ∈ flatC (Jvm.Cond.and given_1 narrow_1) := by decide +kernel
theorem ds_f2 : ∀ i, i < 2 → Cond.exactly (ds_tm i) "java/lang/String" ∈ flatC (Jvm.Cond.and given_1 narrow_1) := by decide +kernel
theorem ds_f3 : ∀ i, i < 2 → Cond.eq (.field (ds_tm i) "java/lang/String" "coder" "B") (.int 0) ∈ flatC (Jvm.Cond.and given_1 narrow_1) := by decide +kernel
theorem ds_f4 : ∀ i, i < 2 → Cond.arrayOf (.field (ds_tm i) "java/lang/String" "value" "[B") .byte ∈ flatC (Jvm.Cond.and given_1 narrow_1) := by decide +kernel
theorem ds_f5 : ∀ i, i < 2 → Cond.eq (.length (.field (ds_tm i) "java/lang/String" "value" "[B")) (.int (Int32.ofNat (dk_txL.getD i 0))) ∈ flatC (Jvm.Cond.and given_1 narrow_1) := by decide +kernel
theorem ds_f6 : ∀ i, i < 2 → ∀ j, j < dk_txL.getD i 0 → Cond.eq (.elem (.field (ds_tm i) "java/lang/String" "value" "[B") (.int (Int32.ofNat j))) (.int ((dk_txB.getD i []).getD j 0)) ∈ flatC (Jvm.Cond.and given_1 narrow_1) := by decide +kernel
theorem ds_f7 : Cond.not (Cond.eq (ds_tm 0) (ds_tm 1)) ∈ flatC (Jvm.Cond.and given_1 narrow_1) := by decide +kernel
theorem ds_f8 : ∀ q ∈ dk_ncL, Cond.not (.castable q.1 q.2) ∈ flatC (Jvm.Cond.and given_1 narrow_1) := by decide +kernel
theorem ds_f9 : ∀ i, i < 2 → dk_txL.getD i 0 < 2 ^ 31 := by decide
/-- classes and array classes, as the tables have them -/
theorem ds_arr {args : Array Value} {s : State} {ty : FieldType} (h : (Cond.arrayClass ty).before args s = true) (hr : ∀ cA, s.vm.findClass ("[" ++ ty.toString) = some cA → va_RA s cA ty) : ∃ cA : ClassId, ArrOfT s cA ty ∧ va_RA s cA ty := by
  obtain ⟨cA, kA, comp, h1, h2, h3⟩ := Cond.arrayClass_spec h
  exact ⟨cA, fun n z => ⟨fun k h => (by cases h), kA, h2, comp, h3⟩, hr cA h1⟩
theorem ds_cls {args : Array Value} {s : State} (hw : ∀ w ∈ dk_ws, w.before args s = true) : ∃ D : va_G, ∀ (c : Nat) (q : vw_C), dk_cl[c]? = some q → u_Kn s q.1 q.2.1 q.2.2 (D.1 c) (D.2 c) := by
  have h : ∀ c : Nat, ∃ x : ClassId × (Nat → Nat), ∀ q : vw_C, dk_cl[c]? = some q → u_Kn s q.1 q.2.1 q.2.2 x.1 x.2 := by
    intro c
    match c with
    | 0 =>
      obtain ⟨cC, iS, h⟩ := u_known (C := RX0) (T := TX0) (N := 2) (n := 2) hw dk_ui0 (hw _ dk_win_RX0)
      exact ⟨(cC, iS), fun q hq => by cases hq; exact h⟩
    | 1 =>
      obtain ⟨cC, iS, h⟩ := u_known (C := RX1) (T := TX1) (N := 6) (n := 6) hw dk_ui1 (hw _ dk_win_RX1)
      exact ⟨(cC, iS), fun q hq => by cases hq; exact h⟩
    | 2 =>
      obtain ⟨cC, iS, h⟩ := u_known (C := RX2) (T := TX2) (N := 10) (n := 10) hw dk_ui2 (hw _ dk_win_RX2)
      exact ⟨(cC, iS), fun q hq => by cases hq; exact h⟩
    | 3 =>
      obtain ⟨cC, iS, h⟩ := u_known (C := RX3) (T := TX3) (N := 5) (n := 5) hw dk_ui3 (hw _ dk_win_RX3)
      exact ⟨(cC, iS), fun q hq => by cases hq; exact h⟩
    | 4 =>
      obtain ⟨cC, iS, h⟩ := u_known (C := RX4) (T := TX4) (N := 3) (n := 3) hw dk_ui4 (hw _ dk_win_RX4)
      exact ⟨(cC, iS), fun q hq => by cases hq; exact h⟩
    | 5 =>
      obtain ⟨cC, iS, h⟩ := u_known (C := RX5) (T := TX5) (N := 4) (n := 4) hw dk_ui5 (hw _ dk_win_RX5)
      exact ⟨(cC, iS), fun q hq => by cases hq; exact h⟩
    | 6 =>
      obtain ⟨cC, iS, h⟩ := u_known (C := RX6) (T := TX6) (N := 3) (n := 3) hw dk_ui6 (hw _ dk_win_RX6)
      exact ⟨(cC, iS), fun q hq => by cases hq; exact h⟩
    | 7 =>
      obtain ⟨cC, iS, h⟩ := u_known (C := RX7) (T := TX7) (N := 10) (n := 10) hw dk_ui7 (hw _ dk_win_RX7)
      exact ⟨(cC, iS), fun q hq => by cases hq; exact h⟩
    | 8 =>
      obtain ⟨cC, iS, h⟩ := u_known (C := RX8) (T := TX8) (N := 7) (n := 7) hw dk_ui8 (hw _ dk_win_RX8)
      exact ⟨(cC, iS), fun q hq => by cases hq; exact h⟩
    | 9 =>
      obtain ⟨cC, iS, h⟩ := u_known (C := RX9) (T := TX9) (N := 37) (n := 37) hw dk_ui9 (hw _ dk_win_RX9)
      exact ⟨(cC, iS), fun q hq => by cases hq; exact h⟩
    | c + 10 => exact ⟨(0, fun _ => 0), fun q hq => by simp [dk_cl] at hq⟩
  obtain ⟨f, hf⟩ := Classical.axiomOfChoice h
  exact ⟨(fun c => (f c).1, fun c => (f c).2), hf⟩
def ds_A (s : State) : Nat → Prop := fun q => s.heap.size ≤ q
theorem ds_base {args : Array Value} {s : State} (hts : ∀ w ∈ lw_tbl, w.before args s = true) (hgv : (Jvm.Cond.and given_1 narrow_1).before args s = true) :
    ∃ (D : va_G) (cA : Nat → ClassId) (cO cD : ClassId) (tL : Nat) (aK aV : Nat → Nat), ∀ (ad : Nat → Nat → Nat) (dom : List (Nat × Nat)),
      dk_V (D, cA, ad, dom, ds_A s, tL, aK, aV) s ∧ dk_Z (D, cA, ad, dom, ds_A s, tL, aK, aV) s s.heap ∧ va_K D dk_cl [(cO, .long), (cD, .double)] s := by
  have hw : ∀ w ∈ dk_ws, w.before args s = true := fun w h => hts w (List.mem_filter.mp h).1
  have hf := flat_of_before _ hgv
  have hA : ∀ a : Nat, a < s.heap.size → ¬ ds_A s a := fun a h g => by have : s.heap.size ≤ a := g; omega
  obtain ⟨D, hD⟩ := ds_cls hw
  obtain ⟨cI, hI1, hI2⟩ := ds_arr (hw _ dk_wa_int) (fun _ h => h)
  obtain ⟨cC, hC1, hC2⟩ := ds_arr (hw _ dk_wa_char) (fun _ h => h)
  obtain ⟨cZ, hZ1, hZ2⟩ := ds_arr (hw _ dk_wa_boolean) (fun _ h => h)
  obtain ⟨cO, hO1, hO2⟩ := ds_arr (hw _ dk_wa_long) (fun _ h => h)
  obtain ⟨cD, hD1, hD2⟩ := ds_arr (hw _ dk_wa_double) (fun _ h => h)
  obtain ⟨tL, htL, hT⟩ := va_Tof (s := s) (args := args) (tm := .static "DelveKeep" "LOOKS" "[I") (ty := .int) (N := 18) (f := fun k => .int (dk_looks k)) (A := ds_A s) (by decide) (hf _ (by decide +kernel)) (va_eqt (hf _ (by decide +kernel))) (fun j hj => va_eqt (hf _ (ds_f1 j hj))) hA
  obtain ⟨aK, aV, hS, hev⟩ := vk_Sof (s := s) (args := args) (N := 2) (tm := ds_tm) (len := dk_txL) (byt := dk_txB) (A := ds_A s) ds_f9 (fun i hi => hf _ (ds_f2 i hi)) (fun i hi => hf _ (ds_f3 i hi)) (fun i hi => hf _ (ds_f4 i hi)) (fun i hi => hf _ (ds_f5 i hi)) (fun i hi j hj => hf _ (ds_f6 i hi j hj))
    (fun i j hi hj hij => by
      have h1 : i = 0 ∨ i = 1 := by omega
      have h2 : j = 0 ∨ j = 1 := by omega
      rcases h1 with rfl | rfl <;> rcases h2 with rfl | rfl
      · exact absurd rfl hij
      · exact Or.inl (hf _ ds_f7)
      · exact Or.inr (hf _ ds_f7)
      · exact absurd rfl hij) hA
  have e0 := hev 0 (by decide)
  have e1 := hev 1 (by decide)
  refine ⟨D, fun k => if k = 0 then cI else if k = 1 then cC else cZ, cO, cD, tL, aK, aV, fun ad dom => ⟨⟨⟨hD, fun k q hq => ?_⟩, fun w h => va_Nw.of (dk_nw_on w h) (hts w (List.mem_filter.mp h).1), vk_R.of (hts _ (List.mem_of_getElem? (i := 484) (by decide +kernel))) e0, vk_R.of (hts _ (List.mem_of_getElem? (i := 640) (by decide +kernel))) e1, fun q hq => va_Nc.of (hf _ (ds_f8 q hq))⟩, ⟨?_, ?_, ?_, hT, ?_, hS⟩, hD, fun k q hq => ?_⟩⟩
  · match k, hq with
    | 0, hq => cases hq; exact ⟨hI1, hI2⟩
    | 1, hq => cases hq; exact ⟨hC1, hC2⟩
    | 2, hq => cases hq; exact ⟨hZ1, hZ2⟩
    | k + 3, hq => simp [dk_tys] at hq
  · exact vx_Zqof (hts _ (List.mem_of_getElem? (i := 392) (by decide +kernel))) (hts _ (List.mem_of_getElem? (i := 81) (by decide +kernel))) (hf _ (by decide +kernel)) hA
  · exact vx_Zqof (hts _ (List.mem_of_getElem? (i := 394) (by decide +kernel))) (hts _ (List.mem_of_getElem? (i := 81) (by decide +kernel))) (hf _ (by decide +kernel)) hA
  · exact va_Zref (hts _ (List.mem_of_getElem? (i := 1212) (by decide +kernel))) (hw _ dk_wn_RX8) htL hA
  · exact va_Zof (hts _ (List.mem_of_getElem? (i := 498) (by decide +kernel))) (hts _ (List.mem_of_getElem? (i := 86) (by decide +kernel))) (va_eqt (hf _ (by decide +kernel))) hA
  · match k, hq with
    | 0, hq => cases hq; exact ⟨hO1, hO2⟩
    | 1, hq => cases hq; exact ⟨hD1, hD2⟩
    | k + 2, hq => simp at hq
