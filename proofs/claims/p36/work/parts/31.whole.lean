/-! THE CLAIM OUT OF ONE WALK OF THE LAW'S BODY. Your part is whole_start (and what it stands on); all else here is the same for every law, but numbers. -/
def R_law : String := "DelveKeepLaw"
def lw_P (b : Addr) (xs : List Int32) (args : Array Value) (s : State) : Prop := args = #[.ref b] ∧ s.IntsAt b xs ∧ xs.length ≤ 260 ∧ (Jvm.Cond.and given_1 narrow_1).before args s = true
def lw_Q (_ : Array Value) (s : State) (o : Outcome) (t : State) : Prop := o = .returned (some (.int 1)) ∧ Framed s o t [] 600086 7301442
def lw_Z (below : List Frame) (a : Array Value) (s : State) : State → Prop := fun t => ∃ o, t.status = .running ∧ Ended t below o ∧ lw_Q a s o t
/-- the law's own end, with 1 on the stack, nothing written that was there before, its room as the claim has it -/
theorem lw_ret {p : Program} {l : Launch} {e : Env} {s : State} {m : MethodId} {below : List Frame} {meth : Method} {c : Code} {b : Nat} (hx : p.tables.exec = Jvm.exec) (hb : c.code = code) (hr : meth.sig.returnType = ret) (hlocks : meth.locks = false) {pc : Nat} {H : Heap} {ls : Array Slot} (hdg : decode code pc = .ok (.ireturn, 1)) : W p l e room_1 s m #[Value.ref b] below meth c H [] 600086 7301442 (lw_Z below #[Value.ref b] s) (F0 m pc ls [.int 1]) := by
  intro T hT X
  obtain ⟨fs, hret, hrun, hended, hW, hframe⟩ := X.leave (v := some (.int 1)) (hlocks := hlocks) (fun h => by rw [hr] at h; cases h)
  have hmeth' : T.vm.method? m = some meth := X.method'
  refine ⟨T.setFrames fs, ?_, .returned (some (.int 1)), hrun, hended, rfl, ⟨_, rfl⟩, hW, hframe⟩
  jvm_step X.here [X.here.top, hx, hb, hdg, hmeth', hr, ret, narrow_b1]
  (try refine ⟨rfl, ?_⟩); (try refine ⟨rfl, ?_⟩)
  first | (intro acts; rw [hret _ acts rfl rfl rfl]) | rw [hret _ _ rfl rfl rfl]
  exact Steps.refl _
/-- what holds at the law's entry: the machine, the code, the tables' words (any of lw_tbl by 'hts w (by decide +kernel)'), the script of L ints xs at the cell b, what the Statement gives of the start (any of its parts by flat_of_before) -/
def lw_At (p : Program) (s : State) (m : MethodId) (meth : Method) (c : Code) (b L : Nat) (xs : Nat → Int32) : Prop :=
  p.tables.exec = Jvm.exec ∧ c.code = code ∧ meth.sig.returnType = ret ∧ c.maxLocals = 7 ∧ s.vm.findClass R_law = some m.cls ∧ (∀ w ∈ lw_tbl, w.before #[Value.ref b] s = true) ∧ va_X b L xs s s.heap ∧ b < s.heap.size ∧ meth.locks = false ∧ (Jvm.Cond.and given_1 narrow_1).before #[Value.ref b] s = true
-- ===== YOUR PART BEGINS =====
-- ===== YOUR PART BEGINS =====
set_option maxRecDepth 20000 in
set_option maxHeartbeats 4000000 in
/-- from the entry, for every script of at most 260 ints, the law comes to its end with true -/
theorem whole_start {p : Program} {e : Env} {s : State} {m : MethodId} {below : List Frame} {meth : Method} {c : Code} (l : Launch) (hflags : l.flags = flags0) {b L : Nat} {xs : Nat → Int32} (hL : L ≤ 260) (C0 : lw_At p s m meth c b L xs) : W p l e room_1 s m #[Value.ref b] below meth c s.heap [] 0 0 (lw_Z below #[Value.ref b] s) (entryFrame m ([Value.ref b] : List Value).toArray 7) := by
  obtain ⟨hx, hb, hr, hml, hown, hts, hX, hbl, hlocks, hgv⟩ := id C0
  have hst : l.stackTraces = false := by
    unfold Launch.stackTraces
    rw [hflags]
    decide +kernel
  have hw : ∀ w ∈ dk_ws, w.before #[Value.ref b] s = true := fun w h => hts w (List.mem_filter.mp h).1
  obtain ⟨D, cA, aK, aV, hB⟩ := ds_base hts hgv hX hbl
  obtain ⟨N, hN⟩ : ∃ N, s.heap.size = N := ⟨_, rfl⟩
  obtain ⟨G1, hG1⟩ : ∃ G : dk_G, G = (D, cA, dl_ad N, dl_dom, dl_A1 N, (b, L, xs), aK, aV) := ⟨_, rfl⟩
  obtain ⟨G2, hG2⟩ : ∃ G : dk_G, G = (D, cA, dl_ad (N + 94), dl_dom, dl_A2 N, (b, L, xs), aK, aV) := ⟨_, rfl⟩
  have g1 : dl_isG G1 N := by rw [hG1]; exact ⟨rfl, rfl, fun q h1 h2 => Or.inl ⟨h1, h2⟩⟩
  have g2 : dl_isG G2 (N + 94) := by rw [hG2]; exact ⟨rfl, rfl, fun q h1 h2 => h1⟩
  have x1 : dk_A G1 = dl_A1 N := by rw [hG1]; rfl
  have x2 : dk_A G2 = dl_A2 N := by rw [hG2]; rfl
  have e12 : G2.1 = G1.1 := by rw [hG1, hG2]
  have hG : l2_G G1 G2 := dl_two g1 g2 x1 x2 e12 (by rw [hG1, hG2]) (by rw [hG1, hG2])
  have eb : dk_tL G1 = b := by rw [hG1]; rfl
  have eN : dk_tN G1 ≤ 260 := by rw [hG1]; exact hL
  have hV1 : dk_V G1 s := by rw [hG1]; exact (hB (dl_ad N) dl_dom).1
  have hV2 : dk_V G2 s := by rw [hG2]; exact (hB (dl_ad (N + 94)) dl_dom).1
  have hZ1 : dk_Z (dk_GA G1 (dn_A N)) s s.heap := by
    rw [hG1]
    refine (hB (dl_ad N) dl_dom).2.nar rfl (fun q hq => ?_)
    have h9 : N ≤ q := hq
    show s.heap.size ≤ q
    omega
  have hZ2 : dk_Z (dk_GA G2 (dn_A N)) s s.heap := by
    rw [hG2]
    refine (hB (dl_ad (N + 94)) dl_dom).2.nar rfl (fun q hq => ?_)
    have h9 : N ≤ q := hq
    show s.heap.size ≤ q
    omega
  have hRL : s.vm.findClass RL = some m.cls := hown
  have C1 : dm_C G1 N p s m #[Value.ref b] c cL_law 7 RL := ⟨hx, hb, hml, hRL, hw, hV1, hZ1, hN⟩
  have C2 : dm_C G2 N p s m #[Value.ref b] c cL_law 7 RL := ⟨hx, hb, hml, hRL, hw, hV2, hZ2, hN⟩
  have hl := lv_entry ([.ref b]) (n := 7) (Nat.le_of_ble_eq_true rfl)
  rw [lg_entry_eq]
  refine (?_ : dn_W N G1 p l e room_1 s m #[Value.ref b] below meth c 0 0 (lw_Z below #[Value.ref b] s) 0 [some (.ref b), none, none, none, none, none, none] [] []) s.heap [] _ (dk_L.of hl rfl (fun q hq => hq)) (fun k q h => by simp [dn_ws] at h) va_S.rf
  have a1 := dl_ad0 g1
  have a2 := dl_ad0 g2
  refine dm_new (ci := 8) (a := dk_ad G1 0 40) (fs := [.null, .null, .null, .null, .null, .int 0, .int 0]) C1 dk_ui8 tyX8 tyX8_ok dk_wkl_L_28 dk_win_RX8 dk_wn_RX8 rfl (fun j hj => ?_) ⟨by decide, by decide⟩ dL_law_0 (n := 3) rfl rfl (by rw [a1]; rfl) ?_
  · rcases (show j = 0 ∨ j = 1 ∨ j = 2 ∨ j = 3 ∨ j = 4 ∨ j = 5 ∨ j = 6 by omega) with rfl | rfl | rfl | rfl | rfl | rfl | rfl <;> rfl
  refine dm_dup C1 dL_law_3 (n := 4) rfl ?_
  refine dm_call (a := dk_ad G1 0 40) (es0 := []) C1 rfl (cn_X8_init (by rw [dl_ad1 g1, a1]) (by rw [dl_ad2 g1, a1]) (by rw [dl_ad3 g1, a1]) (by rw [dl_ad0' g1 (by decide), a1]) (by rw [dl_ad0' g1 (by decide), a1]) (dl_H1 g1) (dl_H2 g1) (dl_H3 g1) (dl_H5 g1) (dl_H0 g1)) rfl dk_wn_RX8 dk_wc_X8_init dk_wm_L_140 dk_wt_X8_init ⟨by decide, by decide, by decide⟩ ⟨by decide, by decide⟩ ⟨by decide, by decide⟩ (Nat.le_of_ble_eq_true rfl) rfl dL_law_4 (n := 7) rfl rfl (by rw [a1]) (fun es1 hes1 hl1 => ?_)
  obtain ⟨f1, f2, f3, ⟨hf1, _, _⟩, he1⟩ := hes1
  refine dm_astore_n (i := 1) (L' := [some (.ref b), some (dk_r G1 0 40), none, none, none, none, none]) C1 dL_law_7 (n := 8) rfl rfl (dk_nc_of rfl) (Nat.le_of_ble_eq_true rfl) rfl ?_
  refine dn_W_sw e12 ?_
  refine dm_new (ci := 8) (a := dk_ad G2 0 40) (fs := [.null, .null, .null, .null, .null, .int 0, .int 0]) C2 dk_ui8 tyX8 tyX8_ok dk_wkl_L_28 dk_win_RX8 dk_wn_RX8 rfl (fun j hj => ?_) ⟨by decide, by decide⟩ dL_law_8 (n := 11) rfl (by simp [hl1]) (by rw [a2]) ?_
  · rcases (show j = 0 ∨ j = 1 ∨ j = 2 ∨ j = 3 ∨ j = 4 ∨ j = 5 ∨ j = 6 by omega) with rfl | rfl | rfl | rfl | rfl | rfl | rfl <;> rfl
  refine dm_dup C2 dL_law_11 (n := 12) rfl ?_
  refine dm_call (a := dk_ad G2 0 40) (es0 := [] ++ es1) C2 rfl (cn_X8_init (by rw [dl_ad1 g2, a2]) (by rw [dl_ad2 g2, a2]) (by rw [dl_ad3 g2, a2]) (by rw [dl_ad0' g2 (by decide), a2]) (by rw [dl_ad0' g2 (by decide), a2]) (dl_H1 g2) (dl_H2 g2) (dl_H3 g2) (dl_H5 g2) (dl_H0 g2)) rfl dk_wn_RX8 dk_wc_X8_init dk_wm_L_140 dk_wt_X8_init ⟨by decide, by decide, by decide⟩ ⟨by decide, by decide⟩ ⟨by decide, by decide⟩ (Nat.le_of_ble_eq_true rfl) rfl dL_law_12 (n := 15) rfl (by simp [hl1]) (by rw [a2]) (fun es2 hes2 hl2 => ?_)
  obtain ⟨k1, k2, k3, ⟨hk1, _, _⟩, he2⟩ := hes2
  refine dm_astore_n (i := 2) (L' := [some (.ref b), some (dk_r G1 0 40), some (dk_r G2 0 40), none, none, none, none]) C2 dL_law_15 (n := 16) rfl rfl (dk_nc_of rfl) (Nat.le_of_ble_eq_true rfl) rfl ?_
  have hes : (([] ++ es1) ++ es2 : List va_E) = dl_es G1 (dl_s0 f1 f2 f3) ++ dl_es G2 (dl_s0 k1 k2 k3) := by
    rw [List.nil_append, he1, he2, dl_es0, dl_es0]
  rw [hes]
  have F1 : ∀ q, dk_A G1 q → dn_A N q := fun q h => by
    rw [x1] at h
    show N ≤ q
    rcases h with h | h
    · exact h.1
    · have h9 : N + 188 ≤ q := h
      omega
  have F2 : ∀ q, dk_A G2 q → dn_A N q := fun q h => by
    rw [x2] at h
    have h9 : N + 94 ≤ q := h
    show N ≤ q
    omega
  have W1 : lz_C G1 (dn_A N) (N + 188) p s m #[Value.ref b] c cL_law 7 RL := ⟨hx, hb, hml, hRL, hw, hV1, fun q hq => by rw [x1]; exact Or.inr hq, hZ1, dl_D g1, F1⟩
  have W2 : lz_C G2 (dn_A N) (N + 188) p s m #[Value.ref b] c cL_law 7 RL := ⟨hx, hb, hml, hRL, hw, hV2, fun q hq => by rw [x2]; show N + 94 ≤ q; omega, hZ2, dl_D g2, F2⟩
  refine (fun H locs ls hLs hP hS => ?_ : dn_W N G2 p l e room_1 s m #[Value.ref b] below meth c 188 10424 (lw_Z below #[Value.ref b] s) 16 _ [] _)
  obtain ⟨hP1, hP2, hsz⟩ := dl_split g1 g2 hP
  rw [e12] at hP1 hP2
  refine cc_L_law_16 (G1 := G1) (G2 := G2) (F := dn_A N) (b0 := N + 188) (cells := 188) (slots := 10424) W1 W2 hG hst eN ⟨rfl, rfl, rfl, rfl⟩ dl_TW0 dl_NC0 (dl_I0 hf1) (dl_I0 hk1) (by decide) (by decide) (fun pc Lx cells slots τ1 τ2 hd hc hs => ?_) H locs ls (by rw [eb]; exact hLs) hP1 hP2 ⟨hS, hsz⟩
  intro H locs ls hL hP hE hS
  refine W.widen (k := 600086) (n := 7301442) (by omega) (by omega) ?_
  refine va_forget (fun q hq => ?_) ?_
  · have h9 : N ≤ q.base := hS.1.2.2 q hq
    omega
  exact lw_ret hx hb hr hlocks hd
-- ===== YOUR PART ENDS =====
-- ===== YOUR PART ENDS =====
set_option maxHeartbeats 4000000 in
theorem lw_walk (l : Launch) (hflags : l.flags = flags0) (b : Addr) (xs : List Int32) : MetFree l x (headSpec (Jvm.Cond.code x code maxLocals ret :: tables_1) room_1) (lw_P b xs) (fun _ _ _ _ _ => True) lw_Q := by
  refine MetFree.of_bodyS (code := code) (maxLocals := maxLocals) (ret := ret) (by decide) ?_ ?_
  · intro args s m h hn
    obtain ⟨meth, c, h1, h2, h3, h4, h5, h6, -, -⟩ := Cond.code_spec hn (atoms_spec (ws := Jvm.Cond.code x code maxLocals ret :: tables_1) h _ List.mem_cons_self)
    exact ⟨meth, c, h1, h2, h3, h4, h5, h6⟩
  · intro p e s m args below meth c s₁ B hml0 hP _
    obtain ⟨rfl, hx, hbd, hgv⟩ := hP
    obtain ⟨scr, harrAt, hlist, hof, hsmall⟩ := hx
    obtain ⟨hcb, hkn, -, -⟩ := State.arrayAt?_spec harrAt
    have hown : s.vm.findClass R_law = some m.cls := findClass_of_methodNamed B.named
    have hts0 : ∀ c ∈ (Jvm.Cond.code x code maxLocals ret :: tables_1), c.before #[Value.ref b] s = true := atoms_spec (ws := Jvm.Cond.code x code maxLocals ret :: tables_1) B.pre
    have hts : ∀ w ∈ lw_tbl, w.before #[Value.ref b] s = true := k2_hts_sels lw_privs (fun w hw => hts0 w (List.mem_cons_of_mem _ hw)) lw_privs_ok
    have hml : c.maxLocals = 7 := B.maxLocals_eq (hts0 _ List.mem_cons_self)
    have X₀ : Stand p l e room_1 s m #[Value.ref b] below meth c s₁ [] 0 0 := Stand.of_body B
    have hh0 : s₁.heap = s.heap := by rw [B.state]; rfl
    have hsz : scr.slots.size = xs.length := by rw [← Array.length_toList, hlist, List.length_map]
    have hval : ∀ j : Nat, j < xs.length → scr.slots[j]? = some (.int (xs.getD j 0)) := fun j hj => by
      rw [← Array.getElem?_toList, hlist]
      simp [hj]
    have hbl : b < s.heap.size := (Array.getElem?_eq_some_iff.mp hcb).1
    have hX : va_X b xs.length (fun j => xs.getD j 0) s s.heap := ⟨scr, hcb, hof, hkn, hsz, hval⟩
    have K : W p l e room_1 s m #[Value.ref b] below meth c s₁.heap [] 0 0 (lw_Z below #[Value.ref b] s) (entryFrame m ([Value.ref b] : List Value).toArray 7) := by
      rw [hh0]
      exact whole_start l hflags hbd ⟨B.exec, B.bytes, B.returns, hml, hown, hts, hX, hbl, B.notSynchronized, hgv⟩
    obtain ⟨t, a1, o, b1, b2, b3⟩ := K s₁ rfl X₀
    exact ⟨t, o, a1, b1, b2, b3⟩
theorem lw_pre_spec {args : Array Value} {s : State} (h : (Jvm.Cond.and given_1 narrow_1).before args s = true) (hr : rest_1_c.before args s = true) : ∃ (b : Addr) (xs : List Int32), lw_P b xs args s := by
  have hs := flat_of_before _ h
  have hq := flat_of_before _ hr
  have hc : (Cond.count 1).before args s = true := hs _ (by decide +kernel)
  have harr : (Cond.arrayOf (.arg 0) .int).before args s = true := hs _ (by decide +kernel)
  have hle : (Cond.le (.length (.arg 0)) (.int 260)).before args s = true := hs _ (by decide +kernel)
  have hlen : (Cond.isInt (.length (.arg 0))).before args s = true := hq _ (by decide +kernel)
  have hall : (Cond.all (.arg 0) (.isInt (.elem (.arg 0) (.index 0)))).before args s = true := hq _ (by decide +kernel)
  obtain ⟨b, xs, hb, hx⟩ := State.ints_of_pre rfl harr hlen hall
  have hsm : xs.length < 2 ^ 31 := hx.choose_spec.2.2.2
  have hev : (Term.length (.arg 0)).eval args s none [] s = some (.int xs.length.toInt32) := hx.length_eval hb
  have hv := Cond.le_ints hev (show (Term.int 260).eval args s none [] s = some (.int 260) from rfl)
  have hd : xs.length.toInt32 ≤ 260 := by
    simpa [Cond.before, Cond.holds, hv] using hle
  have hN : xs.length ≤ 260 := (Int32.ofNat_le_ofNat hsm (by decide)).mp (show Int32.ofNat xs.length ≤ Int32.ofNat 260 from hd)
  exact ⟨b, xs, Cond.one_arg hc (show args[0]? = some (.ref b) from hb), hx, hN, h⟩
theorem lw_comes (l : Launch) (hflags : l.flags = flags0) : Comes l x (Jvm.Cond.code x code maxLocals ret :: tables_1) room_1 (fun tb e args s => Calls_1 tb e args s ∧ rest_1 tb e args s ∧ Pre_1 tb e args s)
    (fun _ _ args s o t => lw_Q args s o t) := by
  intro p e ha hc hk s m args below hf hfit hheap happ hpre
  obtain ⟨b, xs, hP⟩ := lw_pre_spec hpre.2.2 hpre.2.1
  obtain ⟨k, o, h1, h2, h3, hQ⟩ := lw_walk l hflags b xs p e ha hc hk s m args below hf ((Spec.applies_iff_loose hf).mp happ).1 hP trivial
  exact ⟨k, o, h1, h2, h3, hQ⟩
theorem lw_frame {s t : State} {o : Outcome} {args : Array Value} (h : Framed s o t [] 600086 7301442) :
    Framed s o t (fieldLocs frame_1_writes args s ++ arrayLocs frame_1_arrays args s ++ staticLocs frame_1_statics s) 600086 7301442 := h
theorem lw_limb (L : Cond) (hL : ∀ (args : Array Value) (s t : State), L.after args s (.returned (some (.int 1))) t = true) :
    ArmFor flags0 classFile x code maxLocals ret World_1 tables_1 room_1 Calls_1 rest_1 Pre_1
      (fun tb e a s o t => postC L tb e a s o t ∧ Framed s o t (fieldLocs frame_1_writes a s ++ arrayLocs frame_1_arrays a s ++ staticLocs frame_1_statics s) 600086 7301442) := by
  intro l hflags _ _ p e ha hc hk s m args below hf hfit hheap happ hpre
  obtain ⟨k, o, h1, h2, h3, rfl, hF⟩ := lw_comes l hflags p e ha hc hk s m args below hf hfit hheap happ hpre
  exact ⟨k, _, h1, h2, h3, hL args s _, lw_frame hF⟩
theorem i_vc : Claimed_1_1 ∧ Claimed_1_2 := ⟨lw_limb limb_1_1 (fun args s t => by simp [limb_1_1, Cond.after, Cond.holds, Cond.value]), lw_limb limb_1_2 (fun args s t => Cond.after_iff.mpr (by
  first | (rw [show limb_1_2 = Cond.eq .result (.int 1) from rfl, Cond.eq_ints (x := 1) (y := 1) rfl rfl]; simp; done) | (simp [limb_1_2, Cond.value, Term.eval]; done)))⟩
