/-! THE CLAIM OUT OF ONE WALK OF THE LAW'S BODY. Your part is whole_start (and what it stands on); all else here is the same for every law, but numbers. -/
def R_law : String := "DelveKeepLaw"
def lw_P (b : Addr) (xs : List Int32) (args : Array Value) (s : State) : Prop := args = #[.ref b] ∧ s.IntsAt b xs ∧ xs.length ≤ 3072 ∧ (Jvm.Cond.and given_1 narrow_1).before args s = true
/-- what a walk over the start with the record d0 says of its end, said of the start itself -/
theorem lw_closed {s t : State} {o : Outcome} {d0 : Drawn} {L : List Loc} {k n : Nat} (hd0 : s.drawn.sameBut d0 lw_cs) (hv : ∃ v, o = .returned v) (hW : (s.setDrawn d0).WarmedH t.vm) (hs : (s.setDrawn d0).sameButNew ({ t with vm := s.vm } : State) L k n) : State.butDraws s t lw_cs (fun t1 => Framed s o t1 L k n) := by
  have h2 : t.drawn = d0 := congrArg State.drawn hs.1
  refine ⟨⟨hv, hW, State.sameButNew.setDrawn hs s.drawn⟩, ?_, by decide⟩
  rw [h2]
  exact hd0
def lw_Q (_ : Array Value) (s : State) (o : Outcome) (t : State) : Prop := o = .returned (some (.int 1)) ∧ State.butDraws s t lw_cs (fun t1 => Framed s o t1 [] 3218 124999)
def lw_Z (below : List Frame) (a : Array Value) (s : State) : State → Prop := fun t => ∃ o, t.status = .running ∧ Ended t below o ∧ lw_Q a s o t
/-- the law's own end, with 1 on the stack, nothing written that was there before, its room as the claim has it; d0: the record of draws at this point (at the entry s.drawn: begin with 'refine W.base ?_' and 'have hd0 := Drawn.sameBut.refl s.drawn lw_cs') -/
theorem lw_ret {p : Program} {l : Launch} {e : Env} {s : State} {m : MethodId} {below : List Frame} {meth : Method} {c : Code} {b : Nat} {d0 : Drawn} (hd0 : s.drawn.sameBut d0 lw_cs) (hx : p.tables.exec = Jvm.exec) (hb : c.code = code) (hr : meth.sig.returnType = ret) (hlocks : meth.locks = false) {pc : Nat} {H : Heap} {ls : Array Slot} (hdg : decode code pc = .ok (.ireturn, 1)) : W p l e room_1 (s.setDrawn d0) m #[Value.ref b] below meth c H [] 3218 124999 (lw_Z below #[Value.ref b] s) (F0 m pc ls [.int 1]) := by
  intro T hT X
  obtain ⟨fs, hret, hrun, hended, hW, hframe⟩ := X.leave (v := some (.int 1)) (hlocks := hlocks) (fun h => by rw [hr] at h; cases h)
  have hmeth' : T.vm.method? m = some meth := X.method'
  refine ⟨T.setFrames fs, ?_, .returned (some (.int 1)), hrun, hended, rfl, lw_closed hd0 ⟨_, rfl⟩ hW hframe⟩
  jvm_step X.here [X.here.top, hx, hb, hdg, hmeth', hr, ret, narrow_b1]
  (try refine ⟨rfl, ?_⟩); (try refine ⟨rfl, ?_⟩)
  first | (intro acts; rw [hret _ acts rfl rfl rfl]) | rw [hret _ _ rfl rfl rfl]
  exact Steps.refl _
/-- what holds at the law's entry: the machine, the code, the tables' words (any of lw_tbl by 'hts w (by decide +kernel)'), the script of L ints xs at the cell b, what the Statement gives of the start (any of its parts by flat_of_before) -/
def lw_At (p : Program) (s : State) (m : MethodId) (meth : Method) (c : Code) (b L : Nat) (xs : Nat → Int32) : Prop :=
  p.tables.exec = Jvm.exec ∧ c.code = code ∧ meth.sig.returnType = ret ∧ c.maxLocals = 9 ∧ s.vm.findClass R_law = some m.cls ∧ (∀ w ∈ lw_tbl, w.before #[Value.ref b] s = true) ∧ va_X b L xs s s.heap ∧ b < s.heap.size ∧ meth.locks = false ∧ (Jvm.Cond.and given_1 narrow_1).before #[Value.ref b] s = true
-- ===== YOUR PART BEGINS =====
set_option maxRecDepth 20000 in
set_option maxHeartbeats 4000000 in
/-- from the entry, for every script of at most 3072 ints, the law comes to its end with true -/
theorem whole_start {p : Program} {e : Env} {s : State} {m : MethodId} {below : List Frame} {meth : Method} {c : Code} (l : Launch) (hflags : l.flags = flags0) {b L : Nat} {xs : Nat → Int32} (hL : L ≤ 3072) (C0 : lw_At p s m meth c b L xs) : W p l e room_1 s m #[Value.ref b] below meth c s.heap [] 0 0 (lw_Z below #[Value.ref b] s) (entryFrame m ([Value.ref b] : List Value).toArray 9) := by
  obtain ⟨hx, hb, hr, hml, hown, hts, hX, hbl, hlocks, hgv⟩ := id C0
  have hst : l.stackTraces = false := by
    unfold Launch.stackTraces
    rw [hflags]
    decide +kernel
  have hw : ∀ w ∈ dk_ws, w.before #[Value.ref b] s = true := fun w h => hts w (List.mem_filter.mp h).1
  obtain ⟨D, cA, cO, cD, tL, aK, aV, hB⟩ := ds_base hts hgv
  obtain ⟨N, hN⟩ : ∃ N, s.heap.size = N := ⟨_, rfl⟩
  obtain ⟨G, hGe⟩ : ∃ G : dk_G, G = (D, cA, dl_ad N, dl_dom, dl_AA N, tL, aK, aV) := ⟨_, rfl⟩
  have hG : dl_isG G N := by rw [hGe]; exact ⟨rfl, rfl, rfl⟩
  obtain ⟨hV, hZ, hK⟩ := hB (dl_ad N) dl_dom
  have hV' : dk_V G s := by rw [hGe]; exact hV
  have hZ' : dk_Z (dk_GA G (dn_A N)) s s.heap := by
    rw [hGe]
    refine hZ.nar rfl (fun q hq => ?_)
    have h9 : N ≤ q := hq
    show s.heap.size ≤ q
    omega
  have hKO : va_K G.1 dk_cl [(cO, .long), (cD, .double)] s := by rw [hGe]; exact hK
  have hRL : s.vm.findClass RL = some m.cls := hown
  have C : dm_C G N p s m #[Value.ref b] c cL_law 9 RL := ⟨hx, hb, hml, hRL, hw, hV', hZ', hN⟩
  have hl := lv_entry ([.ref b]) (n := 9) (Nat.le_of_ble_eq_true rfl)
  rw [lg_entry_eq]
  refine (?_ : dn_W N G p l e room_1 s m #[Value.ref b] below meth c 0 0 (lw_Z below #[Value.ref b] s) 0 [some (.ref b), none, none, none, none, none, none, none, none] [] []) s.heap [] _ (dk_L.of hl rfl (fun q hq => hq)) (fun k q h => by simp [dn_ws] at h) va_S.rf
  have a0 := dl_ad0 hG
  have a4 : dk_ad G 4 60 = N + 94 := by rw [dl_ad4 hG]
  -- new DelveKeep()
  refine dm_new (ci := 8) (a := dk_ad G 0 40) (fs := [.null, .null, .null, .null, .null, .int 0, .int 0]) C dk_ui8 tyX8 tyX8_ok dk_wkl_L_8 dk_win_RX8 dk_wn_RX8 rfl (fun j hj => ?_) ⟨by decide, by decide⟩ dL_law_0 (n := 3) rfl rfl (by rw [a0]; rfl) ?_
  · rcases (show j = 0 ∨ j = 1 ∨ j = 2 ∨ j = 3 ∨ j = 4 ∨ j = 5 ∨ j = 6 by omega) with rfl | rfl | rfl | rfl | rfl | rfl | rfl <;> rfl
  refine dm_dup C dL_law_3 (n := 4) rfl ?_
  refine dm_call (a := dk_ad G 0 40) (es0 := []) C rfl (cn_X8_init (by rw [dl_ad1 hG, a0]) (by rw [dl_ad2 hG, a0]) (by rw [dl_ad3 hG, a0]) (by rw [dl_ad0' hG (by decide), a0]) (by rw [dl_ad0' hG (by decide), a0]) (dl_H1 hG) (dl_H2 hG) (dl_H3 hG) (dl_H5 hG) (dl_H0 hG)) rfl dk_wn_RX8 dk_wc_X8_init dk_wm_L_130 dk_wt_X8_init ⟨by decide, by decide, by decide⟩ ⟨by decide, by decide⟩ ⟨by decide, by decide⟩ (Nat.le_of_ble_eq_true rfl) rfl dL_law_4 (n := 7) rfl rfl (by rw [a0]) (fun esK hesK hlK => ?_)
  obtain ⟨f1, f2, f3, ⟨hf1, hf2, hf3⟩, heK⟩ := hesK
  refine dm_astore_n (i := 1) (L' := [some (.ref b), some (.ref (dk_ad G 0 40)), none, none, none, none, none, none, none]) C dL_law_7 (n := 8) rfl rfl (dk_nc_of rfl) (Nat.le_of_ble_eq_true rfl) rfl ?_
  -- new DelveKeepModel()
  refine dm_new (ci := 9) (a := dk_ad G 4 60) (fs := [.int 0, .int 0, .int 0, .int 0, .null, .null, .null, .null, .null, .null, .int 0, .null, .null, .null, .null, .int 0, .null, .null, .int 0, .null, .null, .null, .null, .null, .null, .null, .null, .null, .null, .null, .int 0, .int 0, .int 0, .null, .null, .null, .null]) C dk_ui9 tyX9 tyX9_ok dk_wkl_L_131 dk_win_RX9 dk_wn_RX9 rfl (fun j hj => ?_) ⟨by decide, by decide⟩ dL_law_8 (n := 11) rfl (by simp [hlK]) (by rw [a4]) ?_
  · rcases (show j = 0 ∨ j = 1 ∨ j = 2 ∨ j = 3 ∨ j = 4 ∨ j = 5 ∨ j = 6 ∨ j = 7 ∨ j = 8 ∨ j = 9 ∨ j = 10 ∨ j = 11 ∨ j = 12 ∨ j = 13 ∨ j = 14 ∨ j = 15 ∨ j = 16 ∨ j = 17 ∨ j = 18 ∨ j = 19 ∨ j = 20 ∨ j = 21 ∨ j = 22 ∨ j = 23 ∨ j = 24 ∨ j = 25 ∨ j = 26 ∨ j = 27 ∨ j = 28 ∨ j = 29 ∨ j = 30 ∨ j = 31 ∨ j = 32 ∨ j = 33 ∨ j = 34 ∨ j = 35 ∨ j = 36 by omega) with rfl | rfl | rfl | rfl | rfl | rfl | rfl | rfl | rfl | rfl | rfl | rfl | rfl | rfl | rfl | rfl | rfl | rfl | rfl | rfl | rfl | rfl | rfl | rfl | rfl | rfl | rfl | rfl | rfl | rfl | rfl | rfl | rfl | rfl | rfl | rfl | rfl <;> rfl
  refine dm_dup C dL_law_11 (n := 12) rfl ?_
  refine dm_call (a := dk_ad G 4 60) (es0 := [] ++ esK) C rfl (cn_X9_init (dl_H9 hG)) rfl dk_wn_RX9 dk_wc_X9_init dk_wm_L_133 dk_wt_X9_init ⟨by decide, by decide, by decide⟩ ⟨by decide, by decide⟩ ⟨by decide, by decide⟩ (Nat.le_of_ble_eq_true rfl) rfl dL_law_12 (n := 15) rfl (by simp [hlK]) (by rw [a4]) (fun esM hesM hlM => ?_)
  obtain ⟨fM, hfM, heM⟩ := hesM
  refine dm_astore_n (i := 2) (L' := [some (.ref b), some (.ref (dk_ad G 0 40)), some (.ref (dk_ad G 4 60)), none, none, none, none, none, none]) C dL_law_15 (n := 16) rfl rfl (dk_nc_of rfl) (Nat.le_of_ble_eq_true rfl) rfl ?_
  refine dm_iconst (v := 1) C dL_law_16 (n := 17) rfl (by decide) ?_
  refine dm_newa (a := N + 122) (ty := .long) (cA0 := cO) (x := (1, .inr (.inl (fun _ => 0)))) C rfl (hKO.2 0 _ rfl).2 (fun _ => rfl) dk_wa_long (by decide) ⟨by decide, by decide⟩ dL_law_17 (n := 19) rfl (by simp [hlK, hlM]) rfl ?_
  refine dm_astore_n (i := 3) (L' := [some (.ref b), some (.ref (dk_ad G 0 40)), some (.ref (dk_ad G 4 60)), some (.ref (N + 122)), none, none, none, none, none]) C dL_law_19 (n := 20) rfl rfl (dk_nc_of rfl) (Nat.le_of_ble_eq_true rfl) rfl ?_
  refine dm_iconst (v := 1) C dL_law_20 (n := 21) rfl (by decide) ?_
  refine dm_newa (a := N + 123) (ty := .double) (cA0 := cD) (x := (1, .inr (.inr (.inr (.inl (fun _ => 0)))))) C rfl (hKO.2 1 _ rfl).2 (fun _ => rfl) dk_wa_double (by decide) ⟨by decide, by decide⟩ dL_law_21 (n := 23) rfl (by simp [hlK, hlM]) rfl ?_
  refine dm_astore (i := 4) (L' := [some (.ref b), some (.ref (dk_ad G 0 40)), some (.ref (dk_ad G 4 60)), some (.ref (N + 122)), some (.ref (N + 123)), none, none, none, none]) C dL_law_23 (n := 25) rfl (dk_nc_of rfl) (Nat.le_of_ble_eq_true rfl) rfl ?_
  -- on with the store
  have hes : (([] ++ esK) ++ esM : List va_E) = dl_es G (dl_s0 f1 f2 f3 fM) := by
    rw [List.nil_append, heK, heM]
    exact dl_es0
  rw [hes]
  have CW : dw_C G (N, N + 122, N + 123, cO, cD) p s m #[Value.ref b] c cL_law 9 RL := ⟨hx, hb, hml, hRL, hw, hV', hZ', dl_D hG, dl_GO hG, hKO, Nat.le_of_eq hN.symm⟩
  have hbA : ¬ dl_A (N, N + 122, N + 123, cO, cD) b := fun z => by
    have h9 : N ≤ b := z
    omega
  refine (fun H locs ls hLs hP hS => ?_ : dn_W N G p l e room_1 s m #[Value.ref b] below meth c 124 6083 (lw_Z below #[Value.ref b] s) 25 _ [] _)
  obtain ⟨hP1, hO1⟩ := dl_split hG hP
  refine (?_ : dw_W G (N, N + 122, N + 123, cO, cD) p l e room_1 s m #[Value.ref b] below meth c 124 6083 (lw_Z below #[Value.ref b] s) 25 [some (.ref b), some (.ref (dk_ad G 0 40)), some (.ref (dk_ad G 4 60)), some (.ref (N + 122)), some (.ref (N + 123)), none, none, none, none] [] (dl_s0 f1 f2 f3 fM) (fun _ => 0) (fun _ => 0)) H locs ls hLs hP1 hO1 hS
  refine dw_iconst (v := 0) CW dL_law_25 (n := 26) rfl (by decide) ?_
  refine dw_istore (i := 5) (L' := dl_L G (N, N + 122, N + 123, cO, cD) b 0) CW dL_law_26 (n := 28) rfl (dk_nc_of rfl) (Nat.le_of_ble_eq_true rfl) rfl ?_
  refine dl_loop (c0 := 124) (s0 := 6083) (dl_D hG) hst (dl_RI hG) (dl_MI hG) (dl_GO hG) CW hX hbl hbA hL (by decide) (by decide) (fun i k σ fO fD hk => ?_) 512 0 (by omega) (by decide) _ _ _ (dl_I0 hf1 hfM)
  intro H locs ls hL hP hO hS
  refine W.widen (k := 3218) (n := 124999) (by omega) (by omega) ?_
  refine va_forget (fun q hq => ?_) ?_
  · have h9 : N ≤ q.base := hS.2.2 q hq
    omega
  refine lv_iconst (v := 1) hx hb dL_law_2303 (by decide) ?_
  refine W.base ?_
  exact lw_ret (Drawn.sameBut.refl s.drawn lw_cs) hx hb hr hlocks dL_law_2304
-- ===== YOUR PART ENDS =====
set_option maxHeartbeats 4000000 in
theorem lw_walk (l : Launch) (hflags : l.flags = flags0) (b : Addr) (xs : List Int32) : MetFree l x (headSpec (Jvm.Cond.code x code maxLocals ret :: tables_1) room_1) (lw_P b xs) (fun _ _ _ _ _ => True) lw_Q := by
  refine MetFree.of_bodyS (code := code) (maxLocals := maxLocals) (ret := ret) (by decide) ?_ ?_
  · intro args s m h hn
    obtain ⟨meth, c, h1, h2, h3, h4, h5, h6, -, -⟩ := Cond.code_spec hn (atoms_spec (ws := Jvm.Cond.code x code maxLocals ret :: tables_1) h _ List.mem_cons_self)
    exact ⟨meth, c, h1, h2, h3, h4, h5, h6⟩
  · intro p e s m args below meth c s₁ B hml0 hP _
    obtain ⟨rfl, hx, hbd, hgv⟩ := hP
    obtain ⟨scr, harrAt, hlist, hof, hsmall⟩ := hx
    obtain ⟨hcb, hkn, -, -⟩ := State.arrayAt?_spec harrAt
    have hown : s.vm.findClass R_law = some m.cls := findClass_of_methodNamed B.named
    have hts0 : ∀ c ∈ (Jvm.Cond.code x code maxLocals ret :: tables_1), c.before #[Value.ref b] s = true := atoms_spec (ws := Jvm.Cond.code x code maxLocals ret :: tables_1) B.pre
    have hts : ∀ w ∈ lw_tbl, w.before #[Value.ref b] s = true := k2_hts_sels lw_privs (fun w hw => hts0 w (List.mem_cons_of_mem _ hw)) lw_privs_ok
    have hml : c.maxLocals = 9 := B.maxLocals_eq (hts0 _ List.mem_cons_self)
    have X₀ : Stand p l e room_1 s m #[Value.ref b] below meth c s₁ [] 0 0 := Stand.of_body B
    have hh0 : s₁.heap = s.heap := by rw [B.state]; rfl
    have hsz : scr.slots.size = xs.length := by rw [← Array.length_toList, hlist, List.length_map]
    have hval : ∀ j : Nat, j < xs.length → scr.slots[j]? = some (.int (xs.getD j 0)) := fun j hj => by
      rw [← Array.getElem?_toList, hlist]
      simp [hj]
    have hbl : b < s.heap.size := (Array.getElem?_eq_some_iff.mp hcb).1
    have hX : va_X b xs.length (fun j => xs.getD j 0) s s.heap := ⟨scr, hcb, hof, hkn, hsz, hval⟩
    have K : W p l e room_1 s m #[Value.ref b] below meth c s₁.heap [] 0 0 (lw_Z below #[Value.ref b] s) (entryFrame m ([Value.ref b] : List Value).toArray 9) := by
      rw [hh0]
      exact whole_start l hflags hbd ⟨B.exec, B.bytes, B.returns, hml, hown, hts, hX, hbl, B.notSynchronized, hgv⟩
    obtain ⟨t, a1, o, b1, b2, b3⟩ := K s₁ rfl X₀
    exact ⟨t, o, a1, b1, b2, b3⟩
theorem lw_pre_spec {args : Array Value} {s : State} (h : (Jvm.Cond.and given_1 narrow_1).before args s = true) (hr : rest_1_c.before args s = true) : ∃ (b : Addr) (xs : List Int32), lw_P b xs args s := by
  have hs := flat_of_before _ h
  have hq := flat_of_before _ hr
  have hc : (Cond.count 1).before args s = true := hs _ (by decide +kernel)
  have harr : (Cond.arrayOf (.arg 0) .int).before args s = true := hs _ (by decide +kernel)
  have hle : (Cond.le (.length (.arg 0)) (.int 3072)).before args s = true := hs _ (by decide +kernel)
  have hlen : (Cond.isInt (.length (.arg 0))).before args s = true := hq _ (by decide +kernel)
  have hall : (Cond.all (.arg 0) (.isInt (.elem (.arg 0) (.index 0)))).before args s = true := hq _ (by decide +kernel)
  obtain ⟨b, xs, hb, hx⟩ := State.ints_of_pre rfl harr hlen hall
  have hsm : xs.length < 2 ^ 31 := hx.choose_spec.2.2.2
  have hev : (Term.length (.arg 0)).eval args s none [] s = some (.int xs.length.toInt32) := hx.length_eval hb
  have hv := Cond.le_ints hev (show (Term.int 3072).eval args s none [] s = some (.int 3072) from rfl)
  have hd : xs.length.toInt32 ≤ 3072 := by
    simpa [Cond.before, Cond.holds, hv] using hle
  have hN : xs.length ≤ 3072 := (Int32.ofNat_le_ofNat hsm (by decide)).mp (show Int32.ofNat xs.length ≤ Int32.ofNat 3072 from hd)
  exact ⟨b, xs, Cond.one_arg hc (show args[0]? = some (.ref b) from hb), hx, hN, h⟩
theorem lw_comes (l : Launch) (hflags : l.flags = flags0) : Comes l x (Jvm.Cond.code x code maxLocals ret :: tables_1) room_1 (fun tb e args s => Calls_1 tb e args s ∧ rest_1 tb e args s ∧ Pre_1 tb e args s)
    (fun _ _ args s o t => lw_Q args s o t) := by
  intro p e ha hc hk s m args below hf hfit hheap happ hpre
  obtain ⟨b, xs, hP⟩ := lw_pre_spec hpre.2.2 hpre.2.1
  obtain ⟨k, o, h1, h2, h3, hQ⟩ := lw_walk l hflags b xs p e ha hc hk s m args below hf ((Spec.applies_iff_loose hf).mp happ).1 hP trivial
  exact ⟨k, o, h1, h2, h3, hQ⟩
theorem lw_frame {s t : State} {o : Outcome} {args : Array Value} (h : State.butDraws s t lw_cs (fun t1 => Framed s o t1 [] 3218 124999)) :
    State.butDraws s t [Jvm.Choice.named "NaN.bits"] (fun t1 => Framed s o t1 (fieldLocs frame_1_writes args s ++ arrayLocs frame_1_arrays args s ++ staticLocs frame_1_statics s) 3218 124999) := h
theorem lw_limb (L : Cond) (hL : ∀ (args : Array Value) (s t : State), L.after args s (.returned (some (.int 1))) t = true) :
    ArmFor flags0 classFile x code maxLocals ret World_1 tables_1 room_1 Calls_1 rest_1 Pre_1
      (fun tb e a s o t => postC L tb e a s o t ∧ State.butDraws s t [Jvm.Choice.named "NaN.bits"] (fun t1 => Framed s o t1 (fieldLocs frame_1_writes a s ++ arrayLocs frame_1_arrays a s ++ staticLocs frame_1_statics s) 3218 124999)) := by
  intro l hflags _ _ p e ha hc hk s m args below hf hfit hheap happ hpre
  obtain ⟨k, o, h1, h2, h3, rfl, hF⟩ := lw_comes l hflags p e ha hc hk s m args below hf hfit hheap happ hpre
  exact ⟨k, _, h1, h2, h3, hL args s _, lw_frame hF⟩
theorem i_vc : Claimed_1_1 ∧ Claimed_1_2 := ⟨lw_limb limb_1_1 (fun args s t => by simp [limb_1_1, Cond.after, Cond.holds, Cond.value]), lw_limb limb_1_2 (fun args s t => Cond.after_iff.mpr (by
  first | (rw [show limb_1_2 = Cond.eq .result (.int 1) from rfl, Cond.eq_ints (x := 1) (y := 1) rfl rfl]; simp; done) | (simp [limb_1_2, Cond.value, Term.eval]; done)))⟩
