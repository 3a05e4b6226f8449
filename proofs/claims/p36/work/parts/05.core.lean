abbrev dk_cl : List vw_C := [(RX0, TX0, 2), (RX1, TX1, 6), (RX2, TX2, 10), (RX3, TX3, 5), (RX4, TX4, 3), (RX5, TX5, 4), (RX6, TX6, 3), (RX7, TX7, 10), (RX8, TX8, 7)]
def dk_shpL : List ((Nat × Nat) ⊕ (Nat × List (Option (Nat → Nat × Nat)))) := [
  .inr (7, [some (fun p => (p, 1)), some (fun p => (p, 7)), some (fun p => (p, 13)), some (fun p => (p, 23)), some (fun p => (p, 26)), none, none, none, none, none]),
  .inr (1, [some (fun p => (p, 2)), some (fun p => (p, 3)), some (fun p => (p, 4)), some (fun p => (p, 5)), some (fun p => (p, 6)), none]),
  .inl (1, 144),
  .inl (0, 432),
  .inl (0, 144),
  .inl (0, 144),
  .inl (0, 144),
  .inr (3, [some (fun p => (p, 8)), some (fun p => (p, 9)), some (fun p => (p, 10)), some (fun p => (p, 11)), some (fun p => (p, 12))]),
  .inl (0, 8),
  .inl (0, 8),
  .inl (0, 8),
  .inl (0, 8),
  .inl (0, 8),
  .inr (2, [some (fun p => (p, 14)), some (fun p => (p, 15)), some (fun p => (p, 16)), some (fun p => (p, 17)), some (fun p => (p, 18)), some (fun p => (p, 19)), some (fun p => (p, 20)), some (fun p => (p, 21)), some (fun p => (p, 22)), none]),
  .inl (0, 8),
  .inl (0, 8),
  .inl (0, 8),
  .inl (0, 8),
  .inl (0, 8),
  .inl (0, 8),
  .inl (0, 8),
  .inl (0, 8),
  .inl (0, 8),
  .inr (6, [some (fun p => (p, 24)), some (fun p => (p, 25)), none]),
  .inl (0, 24),
  .inl (0, 24),
  .inr (4, [some (fun p => (p, 27)), some (fun p => (p, 28)), none]),
  .inl (0, 4),
  .inl (0, 4),
  .inl (0, 0),
  .inl (0, 0),
  .inl (0, 0),
  .inl (0, 0),
  .inl (0, 0),
  .inl (0, 0),
  .inl (0, 0),
  .inl (0, 0),
  .inl (0, 0),
  .inl (0, 0),
  .inl (0, 0),
  .inr (8, [some (fun _ => (1, 0)), some (fun _ => (2, 0)), some (fun _ => (3, 0)), some (fun _ => (0, 41)), some (fun _ => (0, 45)), none, none]),
  .inr (5, [some (fun p => (p, 42)), some (fun p => (p, 43)), some (fun p => (p, 44)), none]),
  .inl (0, 512),
  .inl (0, 512),
  .inl (0, 512),
  .inr (0, [some (fun p => (p, 46)), none]),
  .inl (0, 24)]
def dk_txL : List Nat := [8, 5, 21]
def dk_txB : List (List Int32) := [[35, 46, 126, 43, 47, 48, 49, 50], [104, 100, 115, 98, 102], [46, 46, 46, 46, 126, 46, 46, 46, 47, 43, 46, 48, 35, 46, 46, 35, 49, 46, 35, 46, 43]]
/-! the core: a store of int rows by (instance, part), static shapes, a frame judgement over it -/
abbrev dk_H : Type := (Nat × Nat) ⊕ (Nat × List (Option (Nat → Nat × Nat)))
/-- what is fixed: class numbers and slots, array classes, addresses, which objects there are, what may be written, where the script and the three texts lie -/
abbrev dk_G : Type := va_G × (Nat → ClassId) × (Nat → Nat → Nat) × List (Nat × Nat) × (Nat → Prop) × (Nat × Nat × (Nat → Int32)) × (Nat → Nat) × (Nat → Nat)
def dk_cA (G : dk_G) (k : Nat) : ClassId := G.2.1 k
def dk_ad (G : dk_G) (p q : Nat) : Nat := G.2.2.1 p q
def dk_dom (G : dk_G) : List (Nat × Nat) := G.2.2.2.1
def dk_A (G : dk_G) : Nat → Prop := G.2.2.2.2.1
def dk_tL (G : dk_G) : Nat := G.2.2.2.2.2.1.1
def dk_tN (G : dk_G) : Nat := G.2.2.2.2.2.1.2.1
def dk_tX (G : dk_G) : Nat → Int32 := G.2.2.2.2.2.1.2.2
def dk_aK (G : dk_G) : Nat → Nat := G.2.2.2.2.2.2.1
def dk_aV (G : dk_G) : Nat → Nat := G.2.2.2.2.2.2.2
abbrev dk_r (G : dk_G) (p q : Nat) : Value := .ref (dk_ad G p q)
abbrev dk_i (x : Int32) : Value := .int x
def dk_shp (q : Nat) : dk_H := dk_shpL.getD q (.inl (0, 0))
def dk_fv (G : dk_G) (p : Nat) (f : Nat → Int32) : Nat → List (Option (Nat → Nat × Nat)) → List Value
  | _, [] => []
  | k, none :: t => .int (f k) :: dk_fv G p f (k + 1) t
  | k, some r :: t => dk_r G (r p).1 (r p).2 :: dk_fv G p f (k + 1) t
def dk_ce (G : dk_G) (h : dk_H) (p : Nat) (f : Nat → Int32) : va_E := match h with
  | .inl (kd, n) => .inl (dk_cA G kd, n, .inl f)
  | .inr (c, fs) => .inr (c, dk_fv G p f 0 fs)
def dk_cel (G : dk_G) (σ : dk_S) (x : Nat × Nat) : Nat × va_E := (dk_ad G x.1 x.2, dk_ce G (dk_shp x.2) x.1 (σ x.1 x.2))
def dk_wsl (G : dk_G) (σ : dk_S) : va_W := (dk_dom G).map (dk_cel G σ)
def dk_tys (G : dk_G) : List (ClassId × FieldType) := [(dk_cA G 0, .int), (dk_cA G 1, .char)]
def dk_ws : List Cond := lw_tbl.filter goodWord
def dk_isN : Cond → Bool
  | .methodLinkNest _ _ _ _ => true
  | .fieldLinkNest _ _ _ _ _ _ => true
  | .declares _ => true
  | .castable _ _ => true
  | _ => false
def dk_nw : List Cond := lw_tbl.filter dk_isN
theorem dk_w {w : Cond} (i : Nat) (h : lw_tbl[i]? = some w) (hg : goodWord w = true) : w ∈ dk_ws := List.mem_filter.mpr ⟨List.mem_of_getElem? h, hg⟩
theorem dk_n {w : Cond} (i : Nat) (h : lw_tbl[i]? = some w) (hg : dk_isN w = true) : w ∈ dk_nw := List.mem_filter.mpr ⟨List.mem_of_getElem? h, hg⟩
theorem dk_ws_good : ∀ w ∈ dk_ws, (w.onTables && w.keeps) = true ∨ ∃ ty, w = .arrayClass ty := fun w h => good_of_word (List.mem_filter.mp h).2
theorem dk_fv_int (G : dk_G) (p : Nat) (f : Nat → Int32) : ∀ (fs : List (Option (Nat → Nat × Nat))) (k0 k : Nat), fs[k]? = some none → (dk_fv G p f k0 fs)[k]? = some (.int (f (k0 + k)))
  | [], _, _, h => by simp at h
  | none :: t, k0, 0, _ => by simp [dk_fv]
  | some r :: t, k0, 0, h => by simp at h
  | none :: t, k0, k + 1, h => by
    have := dk_fv_int G p f t (k0 + 1) k (by simpa using h)
    simpa [dk_fv, Nat.add_assoc, Nat.add_comm 1 k] using this
  | some r :: t, k0, k + 1, h => by
    have := dk_fv_int G p f t (k0 + 1) k (by simpa using h)
    simpa [dk_fv, Nat.add_assoc, Nat.add_comm 1 k] using this
theorem dk_fv_ref (G : dk_G) (p : Nat) (f : Nat → Int32) : ∀ (fs : List (Option (Nat → Nat × Nat))) (k0 k : Nat) (r : Nat → Nat × Nat), fs[k]? = some (some r) → (dk_fv G p f k0 fs)[k]? = some (dk_r G (r p).1 (r p).2)
  | [], _, _, _, h => by simp at h
  | none :: t, k0, 0, _, h => by simp at h
  | some r :: t, k0, 0, _, h => by simp at h; subst h; simp [dk_fv]
  | none :: t, k0, k + 1, r, h => by
    have := dk_fv_ref G p f t (k0 + 1) k r (by simpa using h)
    simpa [dk_fv] using this
  | some r0 :: t, k0, k + 1, r, h => by
    have := dk_fv_ref G p f t (k0 + 1) k r (by simpa using h)
    simpa [dk_fv] using this
theorem dk_fv_len (G : dk_G) (p : Nat) (f : Nat → Int32) : ∀ (fs : List (Option (Nat → Nat × Nat))) (k0 : Nat), (dk_fv G p f k0 fs).length = fs.length
  | [], _ => rfl
  | none :: t, k0 => by simp [dk_fv, dk_fv_len G p f t]
  | some r :: t, k0 => by simp [dk_fv, dk_fv_len G p f t]
theorem dk_fv_out (G : dk_G) (p : Nat) (f : Nat → Int32) (x : Int32) : ∀ (fs : List (Option (Nat → Nat × Nat))) (k0 j : Nat), j < k0 → dk_fv G p (upd f j x) k0 fs = dk_fv G p f k0 fs
  | [], _, _, _ => rfl
  | none :: t, k0, j, h => by
    have e : upd f j x k0 = f k0 := by simp [upd]; omega
    simp [dk_fv, dk_fv_out G p f x t (k0 + 1) j (by omega), e]
  | some r :: t, k0, j, h => by simp [dk_fv, dk_fv_out G p f x t (k0 + 1) j (by omega)]
theorem dk_fv_set (G : dk_G) (p : Nat) (f : Nat → Int32) (x : Int32) : ∀ (fs : List (Option (Nat → Nat × Nat))) (k0 k : Nat), fs[k]? = some none → (dk_fv G p f k0 fs).set k (.int x) = dk_fv G p (upd f (k0 + k) x) k0 fs
  | [], _, _, h => by simp at h
  | none :: t, k0, 0, _ => by
    have e : upd f k0 x k0 = x := by simp [upd]
    simp [dk_fv, dk_fv_out G p f x t (k0 + 1) k0 (by omega), e]
  | some r :: t, k0, 0, h => by simp at h
  | none :: t, k0, k + 1, h => by
    have := dk_fv_set G p f x t (k0 + 1) k (by simpa using h)
    have e : upd f (k0 + (k + 1)) x k0 = f k0 := by simp [upd]
    simp [dk_fv, this, e, Nat.add_assoc, Nat.add_comm 1 k]
  | some r :: t, k0, k + 1, h => by
    have := dk_fv_set G p f x t (k0 + 1) k (by simpa using h)
    simp [dk_fv, this, Nat.add_assoc, Nat.add_comm 1 k]
/-- the objects lie apart, where may be written -/
def dk_D (G : dk_G) : Prop := ∀ σ : dk_S, va_D (dk_A G) (dk_wsl G σ)
theorem dk_pos {G : dk_G} {x : Nat × Nat} (h : x ∈ dk_dom G) (σ : dk_S) : ∃ i : Nat, (dk_dom G)[i]? = some x ∧ (dk_wsl G σ)[i]? = some (dk_cel G σ x) := by
  obtain ⟨i, hi⟩ := List.getElem?_of_mem h
  exact ⟨i, hi, by simp [dk_wsl, hi]⟩
theorem dk_set {G : dk_G} (hD : dk_D G) {i p q : Nat} (σ : dk_S) (hi : (dk_dom G)[i]? = some (p, q)) (f : Nat → Int32) :
    (dk_wsl G σ).set i (dk_ad G p q, dk_ce G (dk_shp q) p f) = dk_wsl G (dk_row σ p q f) := by
  apply List.ext_getElem?
  intro j
  have hl : i < (dk_wsl G σ).length := by simp [dk_wsl]; exact (List.getElem?_eq_some_iff.mp hi).1
  by_cases hj : j = i
  · subst hj
    rw [List.getElem?_set_self hl]
    simp [dk_wsl, hi, dk_cel, dk_row]
  · rw [List.getElem?_set_ne (Ne.symm hj)]
    simp only [dk_wsl, List.getElem?_map]
    cases hy : (dk_dom G)[j]? with
    | none => rfl
    | some y =>
      have hne : ¬ (y.1 = p ∧ y.2 = q) := by
        intro he
        have hy2 : y = (p, q) := Prod.ext he.1 he.2
        refine hj ((hD σ).1 j i (dk_cel G σ y) (dk_cel G σ (p, q)) (by simp [dk_wsl, hy]) (by simp [dk_wsl, hi]) (by rw [hy2]))
      simp [dk_cel, dk_row, hne]
/-- what is told of the outside: statics, the script, texts -/
def dk_Z (G : dk_G) (U : State) (H : Heap) : Prop :=
  vx_Zq Bundle.tN "UNASSIGNED_STACK" Bundle.steD (dk_A G) U H ∧ vx_Zq Bundle.tN "SUPPRESSED_SENTINEL" Bundle.listD (dk_A G) U H ∧
  va_Zq "jdk/internal/util/Preconditions" "SIOOBE_FORMATTER" "Ljava/util/function/BiFunction;" (dk_A G) U H ∧ va_T .int (dk_tL G) (dk_tN G) (fun k => .int (dk_tX G k)) (dk_A G) U H ∧
  va_Z "java/lang/String" "COMPACT_STRINGS" "Z" (.int 1) (dk_A G) U H ∧ vk_S 3 dk_txL dk_txB (dk_aK G) (dk_aV G) (dk_A G) U H
theorem dk_Z.moved {G : dk_G} {u U : State} {H : Heap} (hvm : u.vm.Alike U.vm) (h : dk_Z G u H) : dk_Z G U H :=
  ⟨h.1.moved hvm, h.2.1.moved hvm, h.2.2.1.moved hvm, h.2.2.2.1.moved hvm, h.2.2.2.2.1.moved hvm, h.2.2.2.2.2.moved hvm⟩
theorem dk_Z.kept {G : dk_G} {U : State} {H H1 : Heap} (h : dk_Z G U H) (hq : ∀ a : Nat, a < H.size → ¬ dk_A G a → H1[a]? = H[a]?) : dk_Z G U H1 :=
  ⟨h.1.kept hq, h.2.1.kept hq, h.2.2.1.kept hq, h.2.2.2.1.kept hq, h.2.2.2.2.1.kept hq, h.2.2.2.2.2.kept hq⟩
def dk_ncN : List String := ["java/lang/IndexOutOfBoundsException", "java/lang/IllegalArgumentException", "java/lang/IllegalStateException", "java/lang/UnsupportedOperationException", "java/util/NoSuchElementException"]
def dk_ncM : List String := ["java/lang/IllegalStateException", "java/util/NoSuchElementException", "java/lang/UnsupportedOperationException"]
def dk_ncL : List (String × String) := dk_ncM.flatMap (fun b => (dk_ncN.filter (fun a => a != b)).map (fun a => (a, b)))
/-- .. and of the tables, beside the words -/
def dk_V (G : dk_G) (U : State) : Prop := va_K G.1 dk_cl (dk_tys G) U ∧ (∀ w ∈ dk_nw, va_Nw w U) ∧ vk_R "DelveKeep" 48 "#.~+/012" (dk_aK G 0) U ∧ vk_R "DelveKeep" 102 "hdsbf" (dk_aK G 1) U ∧ (vk_R "DelveKeepLaw" 15 "....~.../+.0#..#1.#.+" (dk_aK G 2) U ∧ vk_R "DelveKeepLaw" 37 "hdsbf" (dk_aK G 1) U) ∧ ∀ q ∈ dk_ncL, va_Nc q.1 q.2 U
theorem dk_nw_on : ∀ w ∈ dk_nw, w.onTables = true := by
  intro w h
  have h1 := (List.mem_filter.mp h).2
  cases w <;> first | rfl | (simp [dk_isN] at h1)
theorem dk_nw_warm {s U : State} (hW : s.WarmedH U.vm) {w : Cond} (h : w ∈ dk_nw) (hZ : va_Nw w s) : va_Nw w U := by
  have h1 := (List.mem_filter.mp h).2
  cases w <;> first | (simp [dk_isN] at h1; done) | exact va_Nw.warmM hW hZ | exact va_Nw.warmF hW hZ | exact va_Nw.warmD hW hZ | exact va_Nw.warmC hW hZ
theorem dk_V.warm {G : dk_G} {s U : State} (hW : s.WarmedH U.vm) (h : dk_V G s) : dk_V G U :=
  ⟨h.1.moved hW.alike, fun w hw => dk_nw_warm hW hw (h.2.1 w hw), h.2.2.1.warm hW, h.2.2.2.1.warm hW, ⟨h.2.2.2.2.1.1.warm hW, h.2.2.2.2.1.2.warm hW⟩, fun q hq => (h.2.2.2.2.2 q hq).moved hW.alike⟩
theorem dk_V.same {G : dk_G} {u U : State} (hv : U.vm = u.vm) (h : dk_V G u) : dk_V G U :=
  ⟨h.1.moved (by rw [hv]; exact Vm.Alike.refl _), fun w hw => (h.2.1 w hw).same (dk_nw_on w hw) hv.symm, h.2.2.1.same hv, h.2.2.2.1.same hv, ⟨h.2.2.2.2.1.1.same hv, h.2.2.2.2.1.2.same hv⟩, fun q hq => (h.2.2.2.2.2 q hq).moved (by rw [hv]; exact Vm.Alike.refl _)⟩
/-- the world that a method finds -/
def dk_B (G : dk_G) (σ : dk_S) (U : State) : Prop := va_P G.1 dk_cl (dk_wsl G σ) U.heap ∧ dk_V G U ∧ (∀ q, U.heap.size ≤ q → dk_A G q) ∧ dk_Z G U U.heap
theorem dk_blind {G : dk_G} {σ : dk_S} {As : List Value} : FrameBlind (va_Pc As (dk_B G σ)) := fun a U g mk h =>
  ⟨h.1, h.2.1, h.2.2.1.same (u := U) (U := U.calling g mk a) rfl, h.2.2.2.1, h.2.2.2.2.moved (u := U) (U := U.calling g mk a) (Vm.Alike.refl U.vm)⟩
def dk_rm (k : Nat) : Room := { frames := k, cells := 0, slots := 0, locals := 40 * k }
/-- what a walk rests on -/
def dk_C (G : dk_G) (p : Program) (R : Room) (s : State) (m : MethodId) (args : Array Value) (c : Code) (cells slots : Nat) (cc : ByteArray) (nL : Nat) (own : String) : Prop :=
  p.tables.exec = Jvm.exec ∧ c.code = cc ∧ c.maxLocals = nL ∧ s.vm.findClass own = some m.cls ∧ (∀ w ∈ dk_ws, w.before args s = true) ∧ dk_V G s ∧ (∀ q, s.heap.size ≤ q → dk_A G q) ∧ dk_Z G s s.heap ∧ dk_D G ∧ cells ≤ R.cells ∧ slots ≤ R.slots
def dk_ll : Nat → List (Option Value) → List (Nat × Value)
  | _, [] => []
  | k, none :: t => dk_ll (k + 1) t
  | k, some v :: t => (k, v) :: dk_ll (k + 1) t
theorem dk_ll_in : ∀ (L : List (Option Value)) (k0 k : Nat) (v : Value), L[k]? = some (some v) → (k0 + k, v) ∈ dk_ll k0 L
  | [], _, _, _, h => by simp at h
  | none :: t, k0, 0, v, h => by simp at h
  | some w :: t, k0, 0, v, h => by simp at h; subst h; simp [dk_ll]
  | none :: t, k0, k + 1, v, h => by
    have := dk_ll_in t (k0 + 1) k v (by simpa using h)
    simp only [dk_ll]
    rw [show k0 + (k + 1) = k0 + 1 + k by omega]
    exact this
  | some w :: t, k0, k + 1, v, h => by
    have := dk_ll_in t (k0 + 1) k v (by simpa using h)
    simp only [dk_ll]
    rw [show k0 + (k + 1) = k0 + 1 + k by omega]
    exact List.mem_cons_of_mem _ this
theorem dk_ll_of : ∀ (L : List (Option Value)) (k0 : Nat) (q : Nat × Value), q ∈ dk_ll k0 L → ∃ k, q.1 = k0 + k ∧ L[k]? = some (some q.2)
  | [], _, _, h => by simp [dk_ll] at h
  | none :: t, k0, q, h => by
    obtain ⟨k, h1, h2⟩ := dk_ll_of t (k0 + 1) q h
    exact ⟨k + 1, by omega, by simpa using h2⟩
  | some w :: t, k0, q, h => by
    simp only [dk_ll, List.mem_cons] at h
    rcases h with rfl | h
    · exact ⟨0, rfl, by simp⟩
    · obtain ⟨k, h1, h2⟩ := dk_ll_of t (k0 + 1) q h
      exact ⟨k + 1, by omega, by simpa using h2⟩
/-- the locals hold the list -/
def dk_L (L : List (Option Value)) (ls : Array Slot) : Prop := lv_has ls L.length (dk_ll 0 L)
theorem dk_L.at {L : List (Option Value)} {ls : Array Slot} (h : dk_L L ls) {i : Nat} {v : Value} (hi : L[i]? = some (some v)) : ls[i]? = some (.val v) := by
  have := h.2.2 (i, v) (by have := dk_ll_in L 0 i v hi; simpa using this)
  exact this
theorem dk_L.of {L : List (Option Value)} {ls : Array Slot} {nL : Nat} {l : List (Nat × Value)} (h : lv_has ls nL l) (hn : L.length = nL) (hl : ∀ q ∈ dk_ll 0 L, q ∈ l) : dk_L L ls := ⟨by rw [hn]; exact h.1, h.2.1, fun q hq => h.2.2 q (hl q hq)⟩
/-- fewer known locals -/
def dk_le : List (Option Value) → List (Option Value) → Prop
  | [], [] => True
  | none :: t, _ :: t' => dk_le t t'
  | some v :: t, w :: t' => w = some v ∧ dk_le t t'
  | _, _ => False
theorem dk_le_len : ∀ (L L' : List (Option Value)), dk_le L L' → L.length = L'.length
  | [], [], _ => rfl
  | none :: t, _ :: t', h => by simp [dk_le_len t t' h]
  | some v :: t, w :: t', h => by simp [dk_le_len t t' h.2]
  | [], _ :: _, h => False.elim h
  | none :: _, [], h => False.elim h
  | some _ :: _, [], h => False.elim h
theorem dk_le_at : ∀ (L L' : List (Option Value)) (k : Nat) (v : Value), dk_le L L' → L[k]? = some (some v) → L'[k]? = some (some v)
  | [], [], _, _, _, h => by simp at h
  | none :: t, _ :: t', 0, _, _, h => by simp at h
  | none :: t, _ :: t', k + 1, v, h, h2 => by
    have := dk_le_at t t' k v h (by simpa using h2)
    simpa using this
  | some v0 :: t, w :: t', 0, v, h, h2 => by
    simp at h2
    subst h2
    simp [h.1]
  | some v0 :: t, w :: t', k + 1, v, h, h2 => by
    have := dk_le_at t t' k v h.2 (by simpa using h2)
    simpa using this
  | [], _ :: _, _, _, h, _ => False.elim h
  | none :: _, [], _, _, h, _ => False.elim h
  | some _ :: _, [], _, _, h, _ => False.elim h
theorem dk_L.sub {L L' : List (Option Value)} {ls : Array Slot} (h : dk_L L' ls) (hl : dk_le L L') : dk_L L ls := by
  refine ⟨by rw [dk_le_len L L' hl]; exact h.1, h.2.1, fun q hq => ?_⟩
  obtain ⟨k, e, hk⟩ := dk_ll_of L 0 q hq
  have h1 := h.at (dk_le_at L L' k _ hl hk)
  rw [e, Nat.zero_add]
  exact h1
/-- the local ahead of i is no long or double -/
def dk_nc (L : List (Option Value)) (i : Nat) : Prop := ∀ (j : Nat) (v : Value), j + 1 = i → L[j]? = some (some v) → v.category = 1
theorem dk_L.set {L : List (Option Value)} {ls' : Array Slot} {i : Nat} {v : Value} (hn : dk_nc L i) (hi : i < L.length)
    (h : lv_has ls' L.length ((i, v) :: (dk_ll 0 L).filter (fun q => !(q.1 == i) && !(q.1 + 1 == i && q.2.category == 2)))) : dk_L (L.set i (some v)) ls' := by
  refine ⟨by rw [List.length_set]; exact h.1, h.2.1, fun q hq => h.2.2 q ?_⟩
  obtain ⟨k, e, hk⟩ := dk_ll_of _ 0 q hq
  rw [Nat.zero_add] at e
  by_cases hki : k = i
  · subst hki
    rw [List.getElem?_set_self hi] at hk
    have : q = (k, v) := Prod.ext e (by simpa using hk.symm)
    rw [this]
    exact List.mem_cons_self
  · rw [List.getElem?_set_ne (Ne.symm hki)] at hk
    refine List.mem_cons_of_mem _ (List.mem_filter.mpr ⟨by have := dk_ll_in L 0 k q.2 hk; rw [Nat.zero_add, ← e] at this; exact this, ?_⟩)
    rw [e]
    have hne : (k == i) = false := by simp [hki]
    rw [hne]
    by_cases h1 : k + 1 = i
    · have := hn k q.2 h1 hk
      simp [this]
    · simp [h1]
