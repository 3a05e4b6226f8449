/-! a keep's objects at their places; what holds *of* it when it is new -/
def dl_ad (N : Nat) : Nat → Nat → Nat := fun p q => if p = 0 then (if q = 40 then N else N + 88 + (q - 41)) else if p = 1 then N + 1 + q else if p = 2 then N + 30 + q else N + 59 + q
def dl_dom : List (Nat × Nat) := (((([(0, 40)] ++ dn_dom 1 0 29) ++ dn_dom 2 0 29) ++ dn_dom 3 0 29) ++ dn_dom 0 41 4) ++ dn_dom 0 45 2
/-- it is a frame *of* this kind -/
def dl_isG (G : dk_G) (N : Nat) : Prop := G.2.2.1 = dl_ad N ∧ G.2.2.2.1 = dl_dom ∧ ∀ q, N ≤ q → q < N + 94 → dk_A G q
def dl_es (G : dk_G) (σ : dk_S) : List va_E := (((([dk_ce G (dk_shp 40) 0 (σ 0 40)] ++ dn_es G 1 0 29 (σ 1)) ++ dn_es G 2 0 29 (σ 2)) ++ dn_es G 3 0 29 (σ 3)) ++ dn_es G 0 41 4 (σ 0)) ++ dn_es G 0 45 2 (σ 0)
section DLA
variable {G : dk_G} {N : Nat}
theorem dl_ad0 (h : dl_isG G N) : dk_ad G 0 40 = N := by
  show G.2.2.1 0 40 = N
  rw [h.1]; rfl
theorem dl_ad0' (h : dl_isG G N) {q : Nat} (hq : 41 ≤ q) : dk_ad G 0 q = N + 88 + (q - 41) := by
  show G.2.2.1 0 q = _
  rw [h.1]
  show (if (0 : Nat) = 0 then (if q = 40 then N else N + 88 + (q - 41)) else _) = _
  rw [if_pos rfl, if_neg (by omega)]
theorem dl_ad1 (h : dl_isG G N) {q : Nat} : dk_ad G 1 q = N + 1 + q := by
  show G.2.2.1 1 q = _
  rw [h.1]; rfl
theorem dl_ad2 (h : dl_isG G N) {q : Nat} : dk_ad G 2 q = N + 30 + q := by
  show G.2.2.1 2 q = _
  rw [h.1]; rfl
theorem dl_ad3 (h : dl_isG G N) {q : Nat} : dk_ad G 3 q = N + 59 + q := by
  show G.2.2.1 3 q = _
  rw [h.1]; rfl
theorem dl_H1 (h : dl_isG G N) : dn_H G 1 0 29 := fun q _ _ => by rw [dl_ad1 h, dl_ad1 h]; omega
theorem dl_H2 (h : dl_isG G N) : dn_H G 2 0 29 := fun q _ _ => by rw [dl_ad2 h, dl_ad2 h]; omega
theorem dl_H3 (h : dl_isG G N) : dn_H G 3 0 29 := fun q _ _ => by rw [dl_ad3 h, dl_ad3 h]; omega
theorem dl_H5 (h : dl_isG G N) : dn_H G 0 41 4 := fun q h1 _ => by rw [dl_ad0' h h1, dl_ad0' h (by omega)]
theorem dl_H0 (h : dl_isG G N) : dn_H G 0 45 2 := fun q h1 _ => by rw [dl_ad0' h (by omega), dl_ad0' h (by omega)]; omega
theorem dl_piece {p a n h0 : Nat} {σ : dk_S} (hb : dn_H G p a n) (h0e : h0 = dk_ad G p a) : dn_ws h0 (dn_es G p a n (σ p)) = (dn_dom p a n).map (dk_cel G σ) :=
  (dn_wsl (A := dk_A G) (σ := σ) hb h0e (fun _ _ _ => rfl)).trans (List.map_congr_left fun x _ => Prod.ext rfl (dn_ce_c (G := (G.1, G.2.1, G.2.2.1, dn_dom p a n, dk_A G, G.2.2.2.2.2)) (G' := G) (fun _ => rfl) (fun _ _ => rfl) _ _ _))
theorem dl_es_len {σ : dk_S} : (dl_es G σ).length = 94 := by simp [dl_es, dn_es_len]
theorem dl_wsl (h : dl_isG G N) (σ : dk_S) : dn_ws N (dl_es G σ) = dk_wsl G σ := by
  have e0 : dn_ws N [dk_ce G (dk_shp 40) 0 (σ 0 40)] = [((0, 40) : Nat × Nat)].map (dk_cel G σ) := by
    show [(N, dk_ce G (dk_shp 40) 0 (σ 0 40))] = [(dk_ad G 0 40, dk_ce G (dk_shp 40) 0 (σ 0 40))]
    rw [dl_ad0 h]
  have e1 : dn_ws (N + 1) (dn_es G 1 0 29 (σ 1)) = (dn_dom 1 0 29).map (dk_cel G σ) := dl_piece (dl_H1 h) (by rw [dl_ad1 h])
  have e2 : dn_ws (N + 30) (dn_es G 2 0 29 (σ 2)) = (dn_dom 2 0 29).map (dk_cel G σ) := dl_piece (dl_H2 h) (by rw [dl_ad2 h])
  have e3 : dn_ws (N + 59) (dn_es G 3 0 29 (σ 3)) = (dn_dom 3 0 29).map (dk_cel G σ) := dl_piece (dl_H3 h) (by rw [dl_ad3 h])
  have e4 : dn_ws (N + 88) (dn_es G 0 41 4 (σ 0)) = (dn_dom 0 41 4).map (dk_cel G σ) := dl_piece (dl_H5 h) (by rw [dl_ad0' h (by decide)])
  have e5 : dn_ws (N + 92) (dn_es G 0 45 2 (σ 0)) = (dn_dom 0 45 2).map (dk_cel G σ) := dl_piece (dl_H0 h) (by rw [dl_ad0' h (by decide)])
  have hd : dk_wsl G σ = dl_dom.map (dk_cel G σ) := by
    show (G.2.2.2.1).map _ = _
    rw [h.2.1]
  rw [hd]
  unfold dl_es dl_dom
  rw [dn_app, dn_app, dn_app, dn_app, dn_app]
  simp only [List.length_append, dn_es_len, List.length_cons, List.length_nil, List.map_append]
  rw [e0]
  rw [show N + (0 + 1) = N + 1 by omega, show N + (0 + 1 + 29) = N + 30 by omega, show N + (0 + 1 + 29 + 29) = N + 59 by omega, show N + (0 + 1 + 29 + 29 + 29) = N + 88 by omega, show N + (0 + 1 + 29 + 29 + 29 + 4) = N + 92 by omega, e1, e2, e3, e4, e5]
theorem dl_D (h : dl_isG G N) : dk_D G := fun σ => by
  rw [← dl_wsl h σ]
  refine (dn_D N (dl_es G σ)).weaken (fun k q hk _ => ?_)
  have h1 := dn_of hk
  have h2 := (List.getElem?_eq_some_iff.mp h1.2).1
  rw [dl_es_len] at h2
  exact h.2.2 _ (by omega) (by omega)
theorem dl_mem (h : dl_isG G N) {x : Nat × Nat} (hx : x ∈ dl_dom) : x ∈ dk_dom G := by
  show x ∈ G.2.2.2.1
  rw [h.2.1]; exact hx
theorem dl_RI (h : dl_isG G N) : dk_RI G := by
  refine ⟨fun q h1 h2 => dl_mem h ?_, fun q hq => dl_mem h ?_, fun q hq => dl_mem h ?_, fun q hq => dl_mem h ?_⟩
  · by_cases q1 : q = 40
    · subst q1; simp [dl_dom]
    · by_cases q2 : q < 45
      · have := dn_dom_mem (p := 0) (a := 41) (n := 4) (q := q) (by omega) (by omega)
        simp [dl_dom, this]
      · have := dn_dom_mem (p := 0) (a := 45) (n := 2) (q := q) (by omega) (by omega)
        simp [dl_dom, this]
  · have := dn_dom_mem (p := 1) (a := 0) (n := 29) (q := q) (by omega) (by omega)
    simp [dl_dom, this]
  · have := dn_dom_mem (p := 2) (a := 0) (n := 29) (q := q) (by omega) (by omega)
    simp [dl_dom, this]
  · have := dn_dom_mem (p := 3) (a := 0) (n := 29) (q := q) (by omega) (by omega)
    simp [dl_dom, this]
theorem dl_at (h : dl_isG G N) {σ : dk_S} {k : Nat} {q : Nat × va_E} (hk : (dk_wsl G σ)[k]? = some q) : N ≤ q.1 ∧ q.1 < N + 94 := by
  rw [← dl_wsl h σ] at hk
  have h1 := dn_of hk
  have h2 := (List.getElem?_eq_some_iff.mp h1.2).1
  rw [dl_es_len] at h2
  omega
end DLA
theorem dn_T0_Z : mr_Z dn_T0 := by
  refine ⟨⟨rfl, rfl, rfl, rfl⟩, fun k _ => ⟨rfl, rfl, rfl, rfl⟩, rfl⟩
theorem dn_T0_S : dq_SG dn_T0 := fun c _ => Or.inl rfl
theorem dn_T0_W {f : dq_W} (h : dn_F 0 29 f) : dq_WR dn_T0 f := by
  refine ⟨fun q k h1 h2 => ?_, Or.inl (h.2 (by decide) (by decide))⟩
  by_cases hq : q < 29
  · exact h.1 q k (Nat.zero_le _) (by omega) h1 h2
  · exfalso
    have : dq_hi q = 0 := by
      unfold dq_hi
      rw [if_neg (by omega), if_neg (by omega), if_neg (by omega), if_neg (by omega), if_neg (by omega), if_neg (by omega), if_neg (by omega), if_neg (by omega), if_neg (by omega), if_neg (by omega)]
    omega
theorem dn_T0_I : dq_IV 1 0 0 dn_T0 := by
  have z : ∀ x : Int32, x = 0 → x.toNatClampNeg = 0 := fun x h => by rw [h]; rfl
  refine ⟨⟨rfl, by decide, by decide⟩, ⟨rfl, by decide⟩, ⟨rfl, by decide⟩, dn_T0_S, fun k _ => ?_, fun k _ => ?_, fun k _ => ?_, fun k _ => Or.inl rfl, fun k _ => Or.inl rfl, fun k _ => Or.inr (Or.inr (Or.inl ⟨0, by decide, rfl⟩)), ⟨fun _ => 0, fun k _ hk => absurd (dq_bg_no (v := 0) rfl (by decide)) hk⟩⟩
  · unfold dq_pl
    rw [show dn_T0 14 k = 0 from rfl]
    exact ⟨by decide, rfl⟩
  · unfold dq_kd
    rw [show dn_T0 24 k = 0 from rfl]
    exact ⟨by decide, rfl⟩
  · rw [show dn_T0 27 k = 0 from rfl]
    exact ⟨by decide, rfl⟩
theorem dn_T0_R : dq_TR 1 dn_T0 := by
  refine ⟨fun i hi => ?_, fun i hi => ?_, fun d _ => Or.inl rfl, fun d _ => ?_, fun d _ => ?_, fun k _ => ?_, fun k _ => ?_⟩
  · have : i = 0 := by omega
    subst this
    show dj_R 1 99 30
    exact ⟨by decide, by decide⟩
  · have : i = 0 := by omega
    subst this
    show dj_R 1 24 12
    exact ⟨by decide, by decide⟩
  · show dj_R 1 20 1
    exact ⟨by decide, by decide⟩
  · show dj_R 0 9 1
    exact ⟨by decide, by decide⟩
  · show dj_R 0 99 (if k = 0 then 30 else 0)
    by_cases h : k = 0
    · rw [if_pos h]; exact ⟨by decide, by decide⟩
    · rw [if_neg h]; exact ⟨by decide, by decide⟩
  · show dj_R 0 9 0
    exact ⟨by decide, by decide⟩
def dl_s0 (f1 f2 f3 : dq_W) : dk_S := fun p => if p = 1 then f1 else if p = 2 then f2 else if p = 3 then f3 else fun q k => if q = 40 then (if k = 5 then 110 else 0) else if q = 45 then -1 else 0
theorem dl_I0 {f1 f2 f3 : dq_W} (h1 : dn_F 0 29 f1) : dp_S dn_T0 (dl_s0 f1 f2 f3) := ⟨dn_T0_W h1, rfl, rfl⟩
theorem dl_TW0 : dq_TW 1 0 0 dn_T0 := ⟨dn_T0_I, dn_T0_Z, dn_T0_R⟩
theorem dl_NC0 : dl_NC dn_T0 := fun i _ => by
  rw [show dn_T0 25 i = 0 from rfl]
  decide
theorem dl_es0 {G : dk_G} {f1 f2 f3 : dq_W} : ((((([.inr (8, [.ref (dk_ad G 1 0), .ref (dk_ad G 2 0), .ref (dk_ad G 3 0), .ref (dk_ad G 0 41), .ref (dk_ad G 0 45), .int 110, .int 0])] : List va_E) ++ dn_es G 1 0 29 f1) ++ dn_es G 2 0 29 f2) ++ dn_es G 3 0 29 f3) ++ dn_es G 0 41 4 (fun _ _ => 0)) ++ dn_es G 0 45 2 (fun q _ => if q = 45 then -1 else 0) = dl_es G (dl_s0 f1 f2 f3) := by
  have e4 : dn_es G 0 41 4 (fun _ _ => 0) = dn_es G 0 41 4 (dl_s0 f1 f2 f3 0) := dn_es_c fun q h1 h2 => by
    funext k
    show (0 : Int32) = if q = 40 then _ else if q = 45 then -1 else 0
    rw [if_neg (by omega), if_neg (by omega)]
  have e5 : dn_es G 0 45 2 (fun q _ => if q = 45 then -1 else 0) = dn_es G 0 45 2 (dl_s0 f1 f2 f3 0) := dn_es_c fun q h1 h2 => by
    funext k
    show (if q = 45 then (-1 : Int32) else 0) = if q = 40 then _ else if q = 45 then -1 else 0
    rw [if_neg (show ¬ q = 40 by omega)]
  unfold dl_es
  rw [← e4, ← e5]
  rfl
theorem dn_W_sw {G1 G2 : dk_G} {h0 : Nat} {p : Program} {l : Launch} {e : Env} {R : Room} {s : State} {m : MethodId} {args : Array Value} {below : List Frame} {meth : Method} {c : Code} {cells slots : Nat} {Q : State → Prop} {pc : Nat} {L : List (Option Value)} {st : List Value} {es : List va_E} (e1 : G2.1 = G1.1) (k : dn_W h0 G2 p l e R s m args below meth c cells slots Q pc L st es) : dn_W h0 G1 p l e R s m args below meth c cells slots Q pc L st es := fun H locs ls hL hP hS =>
  k H locs ls hL (by rw [e1]; exact hP) hS
/-- two keeps, one behind another -/
def dl_A1 (N : Nat) : Nat → Prop := fun q => (N ≤ q ∧ q < N + 94) ∨ N + 188 ≤ q
def dl_A2 (N : Nat) : Nat → Prop := fun q => N + 94 ≤ q
theorem dl_two {G1 G2 : dk_G} {N : Nat} (h1 : dl_isG G1 N) (h2 : dl_isG G2 (N + 94)) (a1 : dk_A G1 = dl_A1 N) (a2 : dk_A G2 = dl_A2 N) (e1 : G2.1 = G1.1) (e2 : G2.2.1 = G1.2.1) (e3 : G2.2.2.2.2.2 = G1.2.2.2.2.2) : l2_G G1 G2 := by
  refine ⟨⟨e1, e2, e3⟩, fun σ k q hk => ?_, fun σ k q hk => ?_, ⟨dl_D h1, dl_D h2⟩, dl_RI h1, dl_RI h2⟩
  · have := dl_at h2 hk
    rw [a1]
    show ¬ ((N ≤ q.1 ∧ q.1 < N + 94) ∨ N + 188 ≤ q.1)
    omega
  · have := dl_at h1 hk
    rw [a2]
    show ¬ (N + 94 ≤ q.1)
    omega
theorem dl_split {G1 G2 : dk_G} {N : Nat} (h1 : dl_isG G1 N) (h2 : dl_isG G2 (N + 94)) {D : va_G} {σ1 σ2 : dk_S} {H : Heap} (hP : va_P D dk_cl (dn_ws N (dl_es G1 σ1 ++ dl_es G2 σ2)) H) :
    va_P D dk_cl (dk_wsl G1 σ1) H ∧ va_P D dk_cl (dk_wsl G2 σ2) H ∧ N + 188 ≤ H.size := by
  have hlast : ∃ x, (dl_es G1 σ1 ++ dl_es G2 σ2)[187]? = some x := ⟨_, List.getElem?_eq_getElem (by rw [List.length_append, dl_es_len, dl_es_len]; decide)⟩
  obtain ⟨x, hx⟩ := hlast
  have hs := (hP 187 _ (dn_at hx)).lt
  rw [dn_app, dl_es_len, dl_wsl h1 σ1, dl_wsl h2 σ2] at hP
  refine ⟨fun k q hq => hP k q ?_, fun k q hq => hP ((dk_wsl G1 σ1).length + k) q ?_, by have : N + 187 < H.size := hs; omega⟩
  · rw [List.getElem?_append_left (List.getElem?_eq_some_iff.mp hq).1]; exact hq
  · rw [List.getElem?_append_right (by omega), show (dk_wsl G1 σ1).length + k - (dk_wsl G1 σ1).length = k by omega]; exact hq
