/-! the law: what its cases share -/
abbrev dl_L (G : dk_G) (O : dl_T) (b i : Nat) : List (Option Value) := [some (.ref b), some (dk_r G 0 40), some (dk_r G 4 60), some (.ref O.2.1), some (.ref O.2.2.1), some (.int (nI i)), none, none, none]
theorem dl_in {i j Ls : Nat} (hi : i + 6 ≤ Ls) (hLs : Ls ≤ 3072) (hj : j < 6) {v : Int32} (e : v = nI j) : vp_in (nI i + v) Ls := by
  subst e
  rw [nI_add]
  exact vp_in_nI (by omega) (by omega)
theorem dl_thr {u : dk_S} {r : Int32} (h0 : u 4 60 0 = r) : wf_X9_thrown u (fun x w => x = r ∧ w = u) := by
  unfold wf_X9_thrown
  exact ⟨h0, rfl⟩
theorem dl_cmp0 {x y : Int64} (h : x = y) : lg_cmp x y = 0 := by
  subst h
  unfold lg_cmp
  simp
theorem dk_L.set2 {L : List (Option Value)} {ls' : Array Slot} {i : Nat} {v : Value} (hn : dk_nc L i) (hi : i + 1 < L.length) (h8 : L[i + 1]? = some none)
    (h : lv_has ls' L.length ((i, v) :: (dk_ll 0 L).filter (fun q => !(q.1 == i) && (!(q.1 == i + 1) && !(q.1 + 1 == i && q.2.category == 2))))) : dk_L (L.set i (some v)) ls' := by
  refine ⟨by rw [List.length_set]; exact h.1, h.2.1, fun q hq => h.2.2 q ?_⟩
  obtain ⟨k, e, hk⟩ := dk_ll_of _ 0 q hq
  rw [Nat.zero_add] at e
  by_cases hki : k = i
  · subst hki
    rw [List.getElem?_set_self (by omega)] at hk
    have : q = (k, v) := Prod.ext e (by simpa using hk.symm)
    rw [this]
    exact List.mem_cons_self
  · rw [List.getElem?_set_ne (Ne.symm hki)] at hk
    refine List.mem_cons_of_mem _ (List.mem_filter.mpr ⟨by have := dk_ll_in L 0 k q.2 hk; rw [Nat.zero_add, ← e] at this; exact this, ?_⟩)
    rw [e]
    have hne : (k == i) = false := by simp [hki]
    have hne2 : (k == i + 1) = false := by
      by_cases h9 : k = i + 1
      · rw [h9, h8] at hk; cases hk
      · simp [h9]
    rw [hne, hne2]
    by_cases h1 : k + 1 = i
    · have := hn k q.2 h1 hk
      simp [this]
    · simp [h1]
section DWD
variable {G : dk_G} {O : dl_T} {p : Program} {l : Launch} {e : Env} {R : Room} {s : State} {m : MethodId} {args : Array Value} {below : List Frame} {meth : Method} {c : Code} {cells slots : Nat} {Q : State → Prop}
variable {cc : ByteArray} {nL : Nat} {own : String} {pc n : Nat} {L L' : List (Option Value)} {st st' : List Value} {σ : dk_S} {fO : Nat → Int64} {fD : Nat → UInt64}
theorem dw_dstore (C : dw_C G O p s m args c cc nL own) {x : UInt64} {i : Nat} (d : decode cc pc = .ok (.dstore i, 2)) (hn : pc + 2 = n) (hc : dk_nc L i) (hl : i + 1 < L.length) (h8 : L[i + 1]? = some none) (hs : L.set i (some (.double x)) = L') (k : dw_W G O p l e R s m args below meth c cells slots Q n L' st σ fO fD) : dw_W G O p l e R s m args below meth c cells slots Q pc L (.double x :: st) σ fO fD := fun H locs ls hL hP hO hS => by
  subst hn; subst hs
  exact lv_dstore C.1 C.2.1 d hL hl rfl (fun ls' h => k H locs ls' (dk_L.set2 hc hl h8 h) hP hO hS)
end DWD
