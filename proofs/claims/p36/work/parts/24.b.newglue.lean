/-! new objects: between cells and the store of rows -/
/-- the parts a .. a + n - 1 of instance p lie one behind another -/
def dn_H (G : dk_G) (p a n : Nat) : Prop := ∀ q, a ≤ q → q < a + n → dk_ad G p q = dk_ad G p a + (q - a)
def dn_dom (p a n : Nat) : List (Nat × Nat) := (List.range' a n).map (fun q => (p, q))
def dn_es (G : dk_G) (p a n : Nat) (f : dq_W) : List va_E := (List.range' a n).map (fun q => dk_ce G (dk_shp q) p (f q))
theorem dn_H.sub {G : dk_G} {p a n a' n' : Nat} (h : dn_H G p a n) (h1 : a ≤ a') (h2 : a' + n' ≤ a + n) (h3 : 0 < n') : dn_H G p a' n' := fun q hq1 hq2 => by
  rw [h q (by omega) (by omega), h a' h1 (by omega)]; omega
theorem dn_fv_c {G G' : dk_G} (ha : ∀ p q, dk_ad G p q = dk_ad G' p q) (p : Nat) (f : Nat → Int32) : ∀ (fs : List (Option (Nat → Nat × Nat))) (k : Nat), dk_fv G p f k fs = dk_fv G' p f k fs
  | [], _ => rfl
  | none :: t, k => by simp only [dk_fv]; rw [dn_fv_c ha p f t (k + 1)]
  | some r :: t, k => by
    simp only [dk_fv]
    rw [dn_fv_c ha p f t (k + 1), show dk_r G (r p).1 (r p).2 = dk_r G' (r p).1 (r p).2 from congrArg Value.ref (ha _ _)]
theorem dn_ce_c {G G' : dk_G} (hA : ∀ k, dk_cA G k = dk_cA G' k) (ha : ∀ p q, dk_ad G p q = dk_ad G' p q) (h : dk_H) (p : Nat) (f : Nat → Int32) : dk_ce G h p f = dk_ce G' h p f := by
  cases h with
  | inl x => obtain ⟨kd, n⟩ := x; show Sum.inl _ = Sum.inl _; rw [hA]
  | inr x => obtain ⟨ci, fs⟩ := x; show Sum.inr _ = Sum.inr _; rw [dn_fv_c ha]
theorem dn_es_c {G : dk_G} {p a n : Nat} {f g : dq_W} (h : ∀ q, a ≤ q → q < a + n → f q = g q) : dn_es G p a n f = dn_es G p a n g :=
  List.map_congr_left fun q hq => by
    obtain ⟨h1, h2⟩ := List.mem_range'_1.mp hq
    rw [h q h1 h2]
theorem dn_es_len {G : dk_G} {p a n : Nat} {f : dq_W} : (dn_es G p a n f).length = n := by simp [dn_es]
theorem dn_es_app {G : dk_G} {p a n m : Nat} {f : dq_W} : dn_es G p a (n + m) f = dn_es G p a n f ++ dn_es G p (a + n) m f := by
  unfold dn_es
  rw [← List.map_append, List.range'_append_1]
theorem dn_dom_mem {p a n q : Nat} (h1 : a ≤ q) (h2 : q < a + n) : (p, q) ∈ dn_dom p a n := List.mem_map.mpr ⟨q, List.mem_range'_1.mpr ⟨h1, h2⟩, rfl⟩
theorem dn_wsl {G : dk_G} {p a n h0 : Nat} {A : Nat → Prop} {σ : dk_S} {f : dq_W} (hb : dn_H G p a n) (h0e : h0 = dk_ad G p a) (hf : ∀ q, a ≤ q → q < a + n → f q = σ p q) : dn_ws h0 (dn_es G p a n f) = dk_wsl (G.1, G.2.1, G.2.2.1, dn_dom p a n, A, G.2.2.2.2.2) σ := by
  subst h0e
  apply List.ext_getElem?
  intro i
  rw [dn_get]
  show _ = ((dn_dom p a n).map _)[i]?
  unfold dn_es dn_dom
  rw [List.getElem?_map, List.getElem?_map, List.getElem?_map]
  cases hq : (List.range' a n)[i]? with
  | none => rfl
  | some q =>
    obtain ⟨hi, rfl⟩ := List.getElem?_eq_some_iff.mp hq
    rw [List.getElem_range'] at *
    have hi' : i < n := by simpa using hi
    show some (dk_ad G p a + i, dk_ce G (dk_shp (a + 1 * i)) p (f (a + 1 * i))) = some (dk_ad G p (a + 1 * i), dk_ce _ (dk_shp (a + 1 * i)) p (σ p (a + 1 * i)))
    rw [hb (a + 1 * i) (by omega) (by omega), hf (a + 1 * i) (by omega) (by omega), show a + 1 * i - a = i by omega]
    congr 2
    exact dn_ce_c (G := G) (G' := (G.1, G.2.1, G.2.2.1, List.map (fun q => (p, q)) (List.range' a n), A, G.2.2.2.2.2)) (fun _ => rfl) (fun _ _ => rfl) _ _ _
theorem dn_DC {G : dk_G} {p a n : Nat} (hb : dn_H G p a n) : dk_D (dn_GC G (dk_ad G p a) (dn_dom p a n)) := fun σ => by
  have h := dn_wsl (A := dn_A (dk_ad G p a)) (σ := σ) (f := σ p) hb rfl (fun _ _ _ => rfl)
  have h2 := dn_D (dk_ad G p a) (dn_es G p a n (σ p))
  rw [h] at h2
  exact h2
section DNG
variable {G : dk_G} {p : Program} {l : Launch} {e : Env} {R : Room} {s : State} {m : MethodId} {args : Array Value} {below : List Frame} {meth : Method} {c : Code} {cells slots : Nat} {Q : State → Prop}
variable {cc : ByteArray} {nL : Nat} {own : String} {pc n : Nat} {L L' : List (Option Value)} {st st' : List Value} {es es' : List va_E} {h0 : Nat} {i a k : Nat}
theorem dn_eq (h : es = es') (k : dn_W h0 G p l e R s m args below meth c cells slots Q pc L st es') : dn_W h0 G p l e R s m args below meth c cells slots Q pc L st es := h ▸ k
/-- on with the rows of the store -/
theorem dn_rows {f : dq_W} {σ : dk_S} (hb : dn_H G i a k) (he : es = dn_es G i a k f) (hf : ∀ q, a ≤ q → q < a + k → f q = σ i q) (kk : dk_W (dn_GC G (dk_ad G i a) (dn_dom i a k)) p l e R s m args below meth c cells slots Q pc L st σ) : dn_W (dk_ad G i a) G p l e R s m args below meth c cells slots Q pc L st es :=
  dn_toK (by rw [he]; exact dn_wsl hb rfl hf) kk
theorem dn_retK (C : dn_C G (dk_ad G i a) p s m args meth c cc nL own) {σ : dk_S} {sl : Nat} {Post : List va_E → Prop} (hb : dn_H G i a (k + 1)) (hc : cells ≤ k) (hs : slots ≤ sl) (d : decode cc pc = .ok (.return_, 1)) (hp : Post (dn_es G i a (k + 1) (σ i))) : dk_W (dn_GC G (dk_ad G i a) (dn_dom i a (k + 1))) p l e R s m args below meth c cells slots (MQ below (dn_Q G (dk_ad G i a) k Post) args s k sl (dn_A (dk_ad G i a))) pc L [] σ := fun H locs ls hL hP hS =>
  W.widen hc hs (W.vret C.1 C.2.1 C.2.2.2.2.2.2.2.2.2.1 (fun t ht hW => ⟨⟨dn_es G i a (k + 1) (σ i), rfl, hp, dn_es_len, by
    rw [ht, dn_wsl (A := dn_A (dk_ad G i a)) (σ := σ) (f := σ i) hb rfl (fun _ _ _ => rfl)]; exact hP⟩, hS.F ht⟩) hS.2.2 d C.2.2.2.2.2.2.2.2.2.2)
end DNG
/-- a world as it is made -/
def dn_T0 : dq_W := fun q k => if q = 1 then -1 else if q = 2 then 35 else if q = 8 then 1 else if q = 11 then 1 else if q = 10 then 104 else if q = 13 then 1 else if q = 15 then (if k = 0 then 12 else 0) else if q = 17 then (if k = 0 then 30 else 0) else if q = 18 then (if k = 0 then 30 else 0) else if q = 22 then -1 else 0
/-- .. its parts a .. a + n - 1 -/
def dn_F (a n : Nat) (f : dq_W) : Prop := (∀ q k, a ≤ q → q < a + n → dq_lo q ≤ k → k < dq_hi q → f q k = dn_T0 q k) ∧ (a ≤ 1 → 1 < a + n → f 1 5 = -1)
def dn_Po (G : dk_G) (p a n : Nat) (F : dq_W → Prop) : List va_E → Prop := fun es => ∃ f, F f ∧ es = dn_es G p a n f
