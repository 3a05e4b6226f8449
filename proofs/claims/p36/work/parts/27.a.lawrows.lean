/-! more rows of the law's own methods; two keeps -/
section LZA
variable {G : dk_G} {F : Nat → Prop} {b0 : Nat} {p : Program} {l : Launch} {e : Env} {R : Room} {s : State} {m : MethodId} {args : Array Value} {below : List Frame} {meth : Method} {c : Code} {cells slots : Nat} {Q : State → Prop}
variable {cc : ByteArray} {nL : Nat} {own : String} {pc n : Nat} {L : List (Option Value)} {st : List Value} {σ : dk_S} {E : va_W}
theorem lz_low (C : lz_C G F b0 p s m args c cc nL own) (hO : lz_O G E) {i : Nat} {x y : Int32} (hl : Cond.methodLink own i yL_low ∈ dk_ws) (hy : ¬ y = 0) (hR : 2 ≤ R.frames ∧ 61 ≤ R.locals) (hRc : cells ≤ R.cells ∧ slots ≤ R.slots) (hcat : (st.map fun v => v.category).sum ≤ 8) (hLn : L.length = nL) (d : decode cc pc = .ok (.invokestatic i, 3)) (hn : pc + 3 = n)
    (k : lz_W G F b0 p l e R s m args below meth c cells slots Q n L (.int (dl_lo x y) :: st) σ E) : lz_W G F b0 p l e R s m args below meth c cells slots Q pc L (.int y :: .int x :: st) σ E := by
  refine lz_callS C hO st (cc_L_low (K := fun r σ' => r = dl_lo x y ∧ σ' = σ) C.2.2.2.2.2.2.2.2.1 hy ⟨rfl, rfl⟩) yy_L_low hl rfl hR hRc rfl hcat hLn d hn (fun v σ' h => ?_)
  obtain ⟨r, rfl, rfl, rfl⟩ := h
  exact k
theorem lz_cell (C : lz_C G F b0 p s m args c cc nL own) (hO : lz_O G E) (hN : dk_tN G ≤ 260) {i : Nat} {x : Int32} (hl : Cond.methodLink own i yL_cell ∈ dk_ws) (hx : ¬ x < 0) (hR : 2 ≤ R.frames ∧ 61 ≤ R.locals) (hRc : cells ≤ R.cells ∧ slots ≤ R.slots) (hcat : (st.map fun v => v.category).sum ≤ 8) (hLn : L.length = nL) (d : decode cc pc = .ok (.invokestatic i, 3)) (hn : pc + 3 = n)
    (k : lz_W G F b0 p l e R s m args below meth c cells slots Q n L (.int (dl_cl G x) :: st) σ E) : lz_W G F b0 p l e R s m args below meth c cells slots Q pc L (.int x :: .ref (dk_tL G) :: st) σ E := by
  refine lz_callS C hO st (cc_L_cell (K := fun r σ' => r = dl_cl G x ∧ σ' = σ) C.2.2.2.2.2.2.2.2.1 hN hx ⟨rfl, rfl⟩) yy_L_cell hl rfl hR hRc rfl hcat hLn d hn (fun v σ' h => ?_)
  obtain ⟨r, rfl, rfl, rfl⟩ := h
  exact k
/-- a question that throws not, and changes nothing -/
theorem lz_askX (C : lz_C G F b0 p s m args c cc nL own) (hO : lz_O G E) (hri : dk_RI G) {i lv mL na : Nat} {y : MethodName} {cy : ByteArray} {ret : Option FieldType} {As : List Value} {x : Int32} (st' : List Value)
    (hM : dk_MX G l lv y cy mL ret (dk_r G 0 40 :: As) σ (dk_ki fun r σ' => r = x ∧ σ' = σ) (fun _ _ => False)) (hY : dk_YV y cy mL ret na) (hcl : y.cls = RX8) (hl : Cond.methodLink own i y ∈ dk_ws) (hna : As.length = na) (hR : lv + 1 ≤ R.frames ∧ 8 + (mL + 11) + 40 * lv ≤ R.locals) (hRc : cells + 1 ≤ R.cells ∧ slots + 6 ≤ R.slots)
    (hst : st = As.reverse ++ dk_r G 0 40 :: st') (hcat : (st'.map fun v => v.category).sum ≤ 8) (hLn : L.length = nL) (d : decode cc pc = .ok (.invokevirtual i, 3)) (hn : pc + 3 = n)
    (k : lz_W G F b0 p l e R s m args below meth c cells slots Q n L (.int x :: st') σ E) : lz_W G F b0 p l e R s m args below meth c cells slots Q pc L st σ E := by
  refine lz_callX C hO st' hM hY hl hna hR hRc dk_sh40 (T := TX8) (N := 7) (by rw [hcl]; rfl) (hri.1 40 (by decide) (by decide)) hst hcat hLn d hn (fun _ _ h => h.elim) (fun v σ' h => ?_)
  obtain ⟨r, rfl, rfl, rfl⟩ := h
  exact k
theorem lz_askV (C : lz_C G F b0 p s m args c cc nL own) (hO : lz_O G E) (hri : dk_RI G) {i lv mL na : Nat} {y : MethodName} {cy : ByteArray} {ret : Option FieldType} {As : List Value} {x : Int32} (st' : List Value)
    (hM : dk_M G l lv y cy mL ret (dk_r G 0 40 :: As) σ (dk_ki fun r σ' => r = x ∧ σ' = σ)) (hY : dk_YV y cy mL ret na) (hcl : y.cls = RX8) (hl : Cond.methodLink own i y ∈ dk_ws) (hna : As.length = na) (hR : lv + 1 ≤ R.frames ∧ 8 + (mL + 11) + 40 * lv ≤ R.locals) (hRc : cells ≤ R.cells ∧ slots ≤ R.slots)
    (hst : st = As.reverse ++ dk_r G 0 40 :: st') (hcat : (st'.map fun v => v.category).sum ≤ 8) (hLn : L.length = nL) (d : decode cc pc = .ok (.invokevirtual i, 3)) (hn : pc + 3 = n)
    (k : lz_W G F b0 p l e R s m args below meth c cells slots Q n L (.int x :: st') σ E) : lz_W G F b0 p l e R s m args below meth c cells slots Q pc L st σ E := by
  refine lz_callV C hO st' hM hY hl hna hR hRc dk_sh40 (T := TX8) (N := 7) (by rw [hcl]; rfl) (hri.1 40 (by decide) (by decide)) hst hcat hLn d hn (fun v σ' h => ?_)
  obtain ⟨r, rfl, rfl, rfl⟩ := h
  exact k
/-! an int array beside the keep -/
theorem dk_GA_wsl {A : Nat → Prop} : dk_wsl (dk_GA G A) σ = dk_wsl G σ := List.map_congr_left fun x _ => by
  show (dk_ad G x.1 x.2, dk_ce (dk_GA G A) (dk_shp x.2) x.1 (σ x.1 x.2)) = (dk_ad G x.1 x.2, dk_ce G (dk_shp x.2) x.1 (σ x.1 x.2))
  rw [dn_ce_c (G := dk_GA G A) (G' := G) (fun _ => rfl) (fun _ _ => rfl)]
theorem lz_GA_V {A : Nat → Prop} (h : dk_V G s) : dk_V (dk_GA G A) s := by
  unfold dk_V dk_tys dk_cA dk_aK at h ⊢
  exact h
theorem lz_GA {A : Nat → Prop} {b1 : Nat} (C : lz_C G F b0 p s m args c cc nL own) (hb : ∀ q, b1 ≤ q → A q) (hD : dk_D (dk_GA G A)) (hF : ∀ q, A q → F q) : lz_C (dk_GA G A) F b1 p s m args c cc nL own := by
  have hV : dk_V (dk_GA G A) s := lz_GA_V C.2.2.2.2.2.1
  have hZ : dk_Z (dk_GA (dk_GA G A) F) s s.heap := C.2.2.2.2.2.2.2.1.nar rfl (fun _ h => h)
  exact ⟨C.1, C.2.1, C.2.2.1, C.2.2.2.1, C.2.2.2.2.1, hV, hb, hZ, hD, hF⟩
theorem lz_GA_D {A : Nat → Prop} {z : Nat} {H : Heap} (C : lz_C G F b0 p s m args c cc nL own) (hP : va_P G.1 dk_cl (dk_wsl G σ) H) (hz : H.size = z) (hA : ∀ q, dk_A G q → q < z → A q) : dk_D (dk_GA G A) := fun σ' => by
  have hlt : ∀ (j : Nat) (q : Nat × va_E), (dk_wsl G σ')[j]? = some q → q.1 < z := fun j q hq => by
    simp only [dk_wsl, List.getElem?_map] at hq
    cases hx : (dk_dom G)[j]? with
    | none => rw [hx] at hq; cases hq
    | some x =>
      rw [hx] at hq; cases hq
      have h9 : (dk_wsl G σ)[j]? = some (dk_cel G σ x) := by simp only [dk_wsl, List.getElem?_map, hx]; rfl
      have h8 := (hP j _ h9).lt
      rw [hz] at h8
      exact h8
  rw [dk_GA_wsl]
  exact ⟨(C.2.2.2.2.2.2.2.2.1 σ').1, fun j q hq => hA _ ((C.2.2.2.2.2.2.2.2.1 σ').2 j q hq) (hlt j q hq)⟩
theorem lz_newa (C : lz_C G F s.heap.size p s m args c cc nL own) (kd : Nat) {N : Nat} {v : Int32} {atype : ArrayType} {ty : FieldType} (hty : newarray.typeOf atype = ty) (hk : (dk_tys G)[kd]? = some (dk_cA G kd, ty)) (hdef : defaultValue ty = .int 0) (hF : ∀ q, s.heap.size ≤ q → F q) (hw : Cond.arrayClass ty ∈ dk_ws) (hv : ¬ v < 0) (hN : v.toNatClampNeg = N) (hby : N * componentBytes ty ≤ 536870912) (hR : 1 ≤ R.cells ∧ N ≤ R.slots) (d : decode cc pc = .ok (.newarray atype, 2)) (hn : pc + 2 = n)
    (k : lz_C (dk_GA G fun q => dk_A G q ∧ q ≠ s.heap.size) F (s.heap.size + 1) p s m args c cc nL own → lz_W (dk_GA G fun q => dk_A G q ∧ q ≠ s.heap.size) F (s.heap.size + 1) p l e R s m args below meth c (0 + 1) (0 + N) Q n L (.ref s.heap.size :: st) σ [(s.heap.size, .inl (dk_cA G kd, N, .inl fun _ => 0))]) :
    lz_W G F s.heap.size p l e R s m args below meth c 0 0 Q pc L (.int v :: st) σ [] := fun H locs ls hL hP hE hS => by
  subst hn; subst hty
  intro T hT X
  have h1 : T.heap.size ≤ s.heap.size + 0 := X.same.2.2.1
  have hz : H.size = s.heap.size := by rw [hT] at h1; have := hS.2; omega
  have hR1 : 0 + 1 ≤ R.cells := by omega
  have hR2 : 0 + N ≤ R.slots := by omega
  have hRA := (C.2.2.2.2.2.1.1.2 kd _ hk).2
  have D' : dk_D (dk_GA G fun q => dk_A G q ∧ q ≠ s.heap.size) := lz_GA_D C hP hz (fun q h1 h2 => ⟨h1, by omega⟩)
  have C' : lz_C (dk_GA G fun q => dk_A G q ∧ q ≠ s.heap.size) F (s.heap.size + 1) p s m args c cc nL own :=
    lz_GA C (fun q hq => ⟨C.2.2.2.2.2.2.1 q (by omega), by omega⟩) D' (fun q hq => C.2.2.2.2.2.2.2.2.2 q hq.1)
  suffices key : W p l e R s m args below meth c H locs 0 0 Q (F0 m pc ls (.int v :: st)) from key T hT X
  refine va_newaK C.1 C.2.1 (C.2.2.2.2.1 _ hw) rfl d rfl hv hN hby hR1 hR2 hz (fun H1 cA e1 z1 o1 hAr hNm => ?_)
  have hc : cA = dk_cA G kd := by
    have h9 : s.vm.findClass ("[" ++ (newarray.typeOf atype).toString) = some (dk_cA G kd) := by cases atype <;> exact hRA
    exact Option.some.inj (hNm.symm.trans h9)
  subst hc
  refine k C' H1 locs ls hL (by rw [dk_GA_wsl]; exact hP.kept fun j q hq => o1 q.1 (by have := (hP j q hq).lt; omega)) (fun j q hq => ?_) ⟨⟨by omega, fun x h1 h2 => (o1 x (by omega)).trans (hS.1.2.1 x h1 h2), hS.1.2.2⟩, by omega⟩
  have hj : j = 0 := by
    have := (List.getElem?_eq_some_iff.mp hq).1
    simp only [List.length_cons, List.length_nil] at this
    omega
  subst hj
  cases hq
  show H1[_]? = some (vp_cell _ _)
  rw [vp_cell_i, e1, hdef]
theorem lz_iastE (C : lz_C G F b0 p s m args c cc nL own) {q0 N : Nat} {f : Nat → Int32} {i x : Int32} (hO : ¬ dk_A G q0) (hF : F q0) (hi : vp_in i N) (d : decode cc pc = .ok (.iastore, 1)) (hn : pc + 1 = n)
    (k : ∀ f' : Nat → Int32, lz_W G F b0 p l e R s m args below meth c cells slots Q n L st σ [(q0, .inl (dk_cA G 0, N, .inl f'))]) : lz_W G F b0 p l e R s m args below meth c cells slots Q pc L (.int x :: .int i :: .ref q0 :: st) σ [(q0, .inl (dk_cA G 0, N, .inl f))] := fun H locs ls hL hP hE hS => by
  subst hn
  have hK0 : (dk_tys G)[0]? = some (dk_cA G 0, .int) := rfl
  refine W.iast C.1 C.2.1 (hE 0 _ rfl) ((C.2.2.2.2.2.1.1.2 0 _ hK0).1 N (fun j => .int (f j))) (fun q => by cases q) (by show ¬ (i < 0 ∨ (arrV _ _ _).slots.size ≤ _); rw [arrV_size]; exact hi) rfl rfl d fun H1 e1 z oq => ?_
  refine k (upd f i.toNatClampNeg x) H1 _ ls hL (hP.kept fun j q hq => oq q.1 fun h => hO (by have h9 := (C.2.2.2.2.2.2.2.2.1 σ).2 j q hq; rw [h] at h9; exact h9)) (fun j q hq => ?_) ⟨hS.1.put z oq hF, by rw [z]; exact hS.2⟩
  have hj : j = 0 := by
    have := (List.getElem?_eq_some_iff.mp hq).1
    simp only [List.length_cons, List.length_nil] at this
    omega
  subst hj
  cases hq
  show H1[_]? = some (vp_cell _ _)
  rw [e1, vp_cell_i, vp_cell_i, arrV_store]
  congr 2
  funext j
  by_cases g : j = i.toNatClampNeg
  · subst g
    simp [updV, upd]
  · simp [updV, upd, g]
theorem lz_ialdE (C : lz_C G F b0 p s m args c cc nL own) {q0 N : Nat} {f : Nat → Int32} {i : Int32} (hi : vp_in i N) (d : decode cc pc = .ok (.iaload, 1)) (hn : pc + 1 = n)
    (k : ∀ x : Int32, lz_W G F b0 p l e R s m args below meth c cells slots Q n L (.int x :: st) σ [(q0, .inl (dk_cA G 0, N, .inl f))]) : lz_W G F b0 p l e R s m args below meth c cells slots Q pc L (.int i :: .ref q0 :: st) σ [(q0, .inl (dk_cA G 0, N, .inl f))] := fun H locs ls hL hP hE hS => by
  subst hn
  exact va_iald C.1 C.2.1 C.2.2.2.2.2.1.1 hE 0 0 rfl rfl hi d (k _ H locs ls hL hP hE hS)
end LZA
