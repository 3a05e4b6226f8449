/-! each call, the two side by side: take, drink, hurl, pack -/
section DCB
variable {c : Nat} {s u v w0 : dk_S} {T W0 A : dq_W} {D : Nat → Nat × Nat × Nat} {B : Nat → Int32} {st sp : Int32} {n t l m r : Nat}
theorem dz_take {x : Int32} (hc : c < 512) (h : dq_I c s) : dz_C c (wf_X8_take x) (wf_X9_take x) [(eIO, 1), (eIS, 2), (eNS, 3), (eUO, 4)] s := by
  have hI := h
  obtain ⟨n, t, l, m, r, st, T, W0, A, D, B, sp, P, Kf, Mf⟩ := h
  obtain ⟨Rs, Is⟩ := dz_shR P Mf
  have et := dz_et P Kf
  have t24 := P.1.1.t24
  by_cases hx : mr_th t x
  · by_cases on : st = 111
    · subst on
      obtain ⟨a, ha, ex⟩ := hx
      have W2 := dz_W2 P Kf
      obtain ⟨R, JV, RT⟩ := dz_onR P Mf rfl
      have uq : ∀ {a'}, a' < t → x = nI a' → a' = a := fun {a'} _ e => (nI_eq (by omega) (by omega)).1 (e.symm.trans ex)
      have h14 := (JV.1.pl 0 (by decide)).2
      -- up to the place *of* the thing
      have pre : ∀ (K : Int32 → dk_S → Prop) (X : String → dk_S → Prop), (dq_ch n t W0 D m 25 a = dq_ch n t W0 D m 14 0 → (dq_cw (dq_ch n t W0 D m) t + dq_sum (fun i => dq_wi (dq_ch n t W0 D m) a 24 i) (dq_wt (dq_ch n t W0 D m)) t ≤ 30 → wf_X8_act 2 (nI a) 0 s (fun r12 s11 => K r12 s11)) ∧ (¬ dq_cw (dq_ch n t W0 D m) t + dq_sum (fun i => dq_wi (dq_ch n t W0 D m) a 24 i) (dq_wt (dq_ch n t W0 D m)) t ≤ 30 → X eUO s)) → (¬ dq_ch n t W0 D m 25 a = dq_ch n t W0 D m 14 0 → X eNS s) → wf_X8_take x s K X := fun K X k1 k2 => by
        unfold wf_X8_take
        refine kz_checkThing et t24 (fun _ => kz_checkWorld (fun _ => ?_) (fun g => absurd Kf.2.1 g)) (fun g => absurd ⟨a, ha, ex⟩ g)
        subst ex
        refine kw_at24 W2 (show a < 24 by omega) (Or.inr rfl) (kw_heroSpot W2 JV.1.pl ?_)
        rw [← h14]
        exact ⟨fun g => kw_carriedWeight W2 JV.1 (kw_wholeWeight (show a < 24 by omega) W2 JV.1 (k1 g)), k2⟩
      by_cases h3 : dq_ch n t W0 D m 25 a = dq_ch n t W0 D m 14 0
      · by_cases h4 : dq_cw (dq_ch n t W0 D m) t + dq_sum (fun i => dq_wi (dq_ch n t W0 D m) a 24 i) (dq_wt (dq_ch n t W0 D m)) t ≤ 30
        · have hd : dq_DV t 2 a 0 (dq_ch n t W0 D m) := Or.inr (Or.inr (Or.inl ⟨Or.inl rfl, ha⟩))
          have hno := dz_no P hc hd (by decide)
          obtain ⟨q1, q2⟩ := dz_do P Kf Mf hc hd
          have q2 := q2 hno
          refine Or.inr ⟨(ax_deed n t 2 a 0 (dq_ch n t W0 D m)).1, dz_TK n t (m + 1) r T W0 A (dq_up3 D m 2 a 0) B sp s, fun K X k => pre K X (fun _ => ⟨fun _ => q1 _ (fun g => absurd g hno) (fun _ v hv => k v hv), fun g => absurd h4 g⟩) (fun g => absurd h3 g), fun v J hv k => ?_⟩
          obtain ⟨R, JV, RT⟩ := dz_onR P Mf hv.2.2.1
          refine km_take (w := dq_ch n t W0 D m) (fun g => absurd ⟨a, ha, ex⟩ g) R JV.1 (fun _ g => absurd (dz_on1 Mf hv.2.2.1) g) (fun a' ha' e _ g => ?_) (fun a' ha' e _ _ g => ?_) (fun a' ha' e _ _ _ => ⟨JV, RT, fun u E => ?_⟩)
          · rw [uq ha' e] at g; exact absurd h3 g
          · rw [uq ha' e] at g; exact absurd h4 g
          · have := uq ha' e
            subst this
            obtain ⟨z1, z2, z3⟩ := q2 v u hv E
            exact k u z1 z2
        · refine Or.inl ⟨eUO, 4, by simp, fun K X k => pre K X (fun _ => ⟨fun g => absurd g h4, fun _ => k⟩) (fun g => absurd h3 g), fun J k => km_take (fun g => absurd ⟨a, ha, ex⟩ g) R JV.1 (fun _ g => absurd Mf.2.1 g) (fun a' ha' e _ g => ?_) (fun _ _ _ _ _ _ => k _ hI.F mx_F_0) (fun a' ha' e _ _ g => ?_)⟩
          · rw [uq ha' e] at g; exact absurd h3 g
          · rw [uq ha' e] at g; exact absurd g h4
      · refine Or.inl ⟨eNS, 3, by simp, fun K X k => pre K X (fun g => absurd g h3) (fun _ => k), fun J k => km_take (fun g => absurd ⟨a, ha, ex⟩ g) R JV.1 (fun _ g => absurd Mf.2.1 g) (fun _ _ _ _ _ => k _ hI.F mx_F_0) (fun a' ha' e _ g => ?_) (fun a' ha' e _ g => ?_)⟩
        · rw [uq ha' e] at g; exact absurd g h3
        · rw [uq ha' e] at g; exact absurd g h3
    · refine Or.inl ⟨eIS, 2, by simp, fun K X k => ?_, fun J k => km_take (fun g => absurd hx g) Rs Is (fun _ _ => k _ hI.F mx_F_0) (fun _ _ _ g => absurd (Mf.2.1.symm.trans g) on) (fun _ _ _ g => absurd (Mf.2.1.symm.trans g) on) (fun _ _ _ g => absurd (Mf.2.1.symm.trans g) on)⟩
      unfold wf_X8_take
      exact kz_checkThing et t24 (fun _ => kz_checkWorld (fun g => absurd (Kf.2.1.symm.trans g) on) (fun _ => k)) (fun g => absurd hx g)
  · refine Or.inl ⟨eIO, 1, by simp, fun K X k => ?_, fun J k => km_take (fun _ => k _ hI.F mx_F_0) Rs Is (fun g => absurd g hx) (fun a ha e => absurd ⟨a, ha, e⟩ hx) (fun a ha e => absurd ⟨a, ha, e⟩ hx) (fun a ha e => absurd ⟨a, ha, e⟩ hx)⟩
    unfold wf_X8_take
    exact kz_checkThing et t24 (fun g => absurd g hx) (fun _ => k)
theorem dz_drink {x : Int32} (hc : c < 512) (h : dq_I c s) : dz_C c (wf_X8_drink x) (wf_X9_drink x) [(eIO, 1), (eIS, 2), (eNS, 3), (eUO, 4)] s := by
  have hI := h
  obtain ⟨n, t, l, m, r, st, T, W0, A, D, B, sp, P, Kf, Mf⟩ := h
  obtain ⟨Rs, Is⟩ := dz_shR P Mf
  have et := dz_et P Kf
  have t24 := P.1.1.t24
  by_cases hx : mr_th t x
  · by_cases on : st = 111
    · subst on
      obtain ⟨a, ha, ex⟩ := hx
      have W2 := dz_W2 P Kf
      obtain ⟨R, JV, RT⟩ := dz_onR P Mf rfl
      have uq : ∀ {a'}, a' < t → x = nI a' → a' = a := fun {a'} _ e => (nI_eq (by omega) (by omega)).1 (e.symm.trans ex)
      have kd := JV.1.kd a (show a < 24 by omega)
      have pre : ∀ (K : Int32 → dk_S → Prop) (X : String → dk_S → Prop), (dq_ch n t W0 D m 25 a = -1 → (3 ≤ dq_kd (dq_ch n t W0 D m) a ∧ dq_kd (dq_ch n t W0 D m) a ≤ 5 → wf_X8_act 5 (nI a) 0 s (fun r9 s8 => K r9 s8)) ∧ (¬ (3 ≤ dq_kd (dq_ch n t W0 D m) a ∧ dq_kd (dq_ch n t W0 D m) a ≤ 5) → X eUO s)) → (¬ dq_ch n t W0 D m 25 a = -1 → X eNS s) → wf_X8_drink x s K X := fun K X k1 k2 => by
        unfold wf_X8_drink
        refine kz_checkThing et t24 (fun _ => kz_checkWorld (fun _ => ?_) (fun g => absurd Kf.2.1 g)) (fun g => absurd ⟨a, ha, ex⟩ g)
        subst ex
        refine kz_checkInHands W2 (show a < 24 by omega) (fun g => kw_at24 W2 (show a < 24 by omega) (Or.inl rfl) ?_) k2
        rw [kd.2]
        exact kx_isPotion kd.1 (fun g2 => dq_1' ((k1 g).1 g2)) (fun g2 => dq_0' ((k1 g).2 g2))
      by_cases h3 : dq_ch n t W0 D m 25 a = -1
      · by_cases h4 : 3 ≤ dq_kd (dq_ch n t W0 D m) a ∧ dq_kd (dq_ch n t W0 D m) a ≤ 5
        · have hd : dq_DV t 5 a 0 (dq_ch n t W0 D m) := Or.inr (Or.inr (Or.inr (Or.inr (Or.inl ⟨rfl, ha⟩))))
          have hno := dz_no P hc hd (by decide)
          obtain ⟨q1, q2⟩ := dz_do P Kf Mf hc hd
          have q2 := q2 hno
          refine Or.inr ⟨(ax_deed n t 5 a 0 (dq_ch n t W0 D m)).1, dz_TK n t (m + 1) r T W0 A (dq_up3 D m 5 a 0) B sp s, fun K X k => pre K X (fun _ => ⟨fun _ => q1 _ (fun g => absurd g hno) (fun _ v hv => k v hv), fun g => absurd h4 g⟩) (fun g => absurd h3 g), fun v J hv k => ?_⟩
          obtain ⟨R, JV, RT⟩ := dz_onR P Mf hv.2.2.1
          refine km_drink (w := dq_ch n t W0 D m) R JV.1 (fun g => absurd ⟨a, ha, ex⟩ g) (fun _ g => absurd (dz_on1 Mf hv.2.2.1) g) (fun a' ha' e _ g => ?_) (fun a' ha' e _ _ g => ?_) (fun a' ha' e _ _ _ => ⟨JV, RT, fun u E => ?_⟩)
          · rw [uq ha' e] at g; exact absurd h3 g
          · rw [uq ha' e] at g; exact absurd h4 g
          · have := uq ha' e
            subst this
            obtain ⟨z1, z2, z3⟩ := q2 v u hv E
            exact k u z1 z2
        · refine Or.inl ⟨eUO, 4, by simp, fun K X k => pre K X (fun _ => ⟨fun g => absurd g h4, fun _ => k⟩) (fun g => absurd h3 g), fun J k => km_drink R JV.1 (fun g => absurd ⟨a, ha, ex⟩ g) (fun _ g => absurd Mf.2.1 g) (fun a' ha' e _ g => ?_) (fun _ _ _ _ _ _ => k _ hI.F mx_F_0) (fun a' ha' e _ _ g => ?_)⟩
          · rw [uq ha' e] at g; exact absurd h3 g
          · rw [uq ha' e] at g; exact absurd g h4
      · refine Or.inl ⟨eNS, 3, by simp, fun K X k => pre K X (fun g => absurd g h3) (fun _ => k), fun J k => km_drink R JV.1 (fun g => absurd ⟨a, ha, ex⟩ g) (fun _ g => absurd Mf.2.1 g) (fun _ _ _ _ _ => k _ hI.F mx_F_0) (fun a' ha' e _ g => ?_) (fun a' ha' e _ g => ?_)⟩
        · rw [uq ha' e] at g; exact absurd g h3
        · rw [uq ha' e] at g; exact absurd g h3
    · refine Or.inl ⟨eIS, 2, by simp, fun K X k => ?_, fun J k => km_drink Rs Is (fun g => absurd hx g) (fun _ _ => k _ hI.F mx_F_0) (fun _ _ _ g => absurd (Mf.2.1.symm.trans g) on) (fun _ _ _ g => absurd (Mf.2.1.symm.trans g) on) (fun _ _ _ g => absurd (Mf.2.1.symm.trans g) on)⟩
      unfold wf_X8_drink
      exact kz_checkThing et t24 (fun _ => kz_checkWorld (fun g => absurd (Kf.2.1.symm.trans g) on) (fun _ => k)) (fun g => absurd hx g)
  · refine Or.inl ⟨eIO, 1, by simp, fun K X k => ?_, fun J k => km_drink Rs Is (fun _ => k _ hI.F mx_F_0) (fun g => absurd g hx) (fun a ha e => absurd ⟨a, ha, e⟩ hx) (fun a ha e => absurd ⟨a, ha, e⟩ hx) (fun a ha e => absurd ⟨a, ha, e⟩ hx)⟩
    unfold wf_X8_drink
    exact kz_checkThing et t24 (fun g => absurd g hx) (fun _ => k)
theorem dz_hurl {x y : Int32} (hc : c < 512) (h : dq_I c s) : dz_C c (wf_X8_hurl x y) (wf_X9_hurl x y) [(eIO, 1), (eIA, 2), (eIS, 3), (eNS, 4)] s := by
  have hI := h
  obtain ⟨n, t, l, m, r, st, T, W0, A, D, B, sp, P, Kf, Mf⟩ := h
  obtain ⟨Rs, Is⟩ := dz_shR P Mf
  have et := dz_et P Kf
  have t24 := P.1.1.t24
  by_cases hx : mr_th t x
  · by_cases hy : mr_in y 0 3
    · by_cases on : st = 111
      · subst on
        obtain ⟨a, ha, ex⟩ := hx
        obtain ⟨b, hb, ey⟩ := mr_in_n (N := 3) rfl hy
        have W2 := dz_W2 P Kf
        obtain ⟨R, JV, RT⟩ := dz_onR P Mf rfl
        have uq : ∀ {a'}, a' < t → x = nI a' → a' = a := fun {a'} _ e => (nI_eq (by omega) (by omega)).1 (e.symm.trans ex)
        have pre : ∀ (K : Int32 → dk_S → Prop) (X : String → dk_S → Prop), (dq_ch n t W0 D m 25 a = -1 → wf_X8_act 6 (nI a) (nI b) s (fun r6 s5 => K r6 s5)) → (¬ dq_ch n t W0 D m 25 a = -1 → X eNS s) → wf_X8_hurl x y s K X := fun K X k1 k2 => by
          unfold wf_X8_hurl
          refine kz_checkThing et t24 (fun _ => kz_checkWay (fun _ => kz_checkWorld (fun _ => ?_) (fun g => absurd Kf.2.1 g)) (fun g => absurd hy g)) (fun g => absurd ⟨a, ha, ex⟩ g)
          subst ex
          subst ey
          exact kz_checkInHands W2 (show a < 24 by omega) k1 k2
        by_cases h3 : dq_ch n t W0 D m 25 a = -1
        · have hd : dq_DV t 6 a b (dq_ch n t W0 D m) := Or.inr (Or.inr (Or.inr (Or.inr (Or.inr (Or.inl ⟨rfl, ha, by omega⟩)))))
          have hno := dz_no P hc hd (by decide)
          obtain ⟨q1, q2⟩ := dz_do P Kf Mf hc hd
          have q2 := q2 hno
          have eb : dq_bI b = nI b := dq_bI_of (by omega)
          rw [eb] at q1
          refine Or.inr ⟨(ax_deed n t 6 a b (dq_ch n t W0 D m)).1, dz_TK n t (m + 1) r T W0 A (dq_up3 D m 6 a b) B sp s, fun K X k => pre K X (fun _ => q1 _ (fun g => absurd g hno) (fun _ v hv => k v hv)) (fun g => absurd h3 g), fun v J hv k => ?_⟩
          obtain ⟨R, JV, RT⟩ := dz_onR P Mf hv.2.2.1
          refine km_hurl (w := dq_ch n t W0 D m) R JV.1 (fun g => absurd ⟨a, ha, ex⟩ g) (fun _ g => absurd hy g) (fun _ _ g => absurd (dz_on1 Mf hv.2.2.1) g) (fun a' ha' e _ _ g => ?_) (fun a' b' ha' e hb' e2 _ _ => ⟨JV, RT, fun u E => ?_⟩)
          · rw [uq ha' e] at g; exact absurd h3 g
          · have q3 := uq ha' e
            have q4 : b' = b := (nI_eq (by omega) (by omega)).1 (e2.symm.trans ey)
            subst q3
            subst q4
            obtain ⟨z1, z2, z3⟩ := q2 v u hv E
            exact k u z1 z2
        · refine Or.inl ⟨eNS, 4, by simp, fun K X k => pre K X (fun g => absurd g h3) (fun _ => k), fun J k => km_hurl R JV.1 (fun g => absurd ⟨a, ha, ex⟩ g) (fun _ g => absurd hy g) (fun _ _ g => absurd Mf.2.1 g) (fun _ _ _ _ _ _ => k _ hI.F mx_F_0) (fun a' b' ha' e _ _ _ g => ?_)⟩
          rw [uq ha' e] at g; exact absurd g h3
      · refine Or.inl ⟨eIS, 3, by simp, fun K X k => ?_, fun J k => km_hurl Rs Is (fun g => absurd hx g) (fun _ g => absurd hy g) (fun _ _ _ => k _ hI.F mx_F_0) (fun _ _ _ _ g => absurd (Mf.2.1.symm.trans g) on) (fun _ _ _ _ _ _ g => absurd (Mf.2.1.symm.trans g) on)⟩
        unfold wf_X8_hurl
        exact kz_checkThing et t24 (fun _ => kz_checkWay (fun _ => kz_checkWorld (fun g => absurd (Kf.2.1.symm.trans g) on) (fun _ => k)) (fun g => absurd hy g)) (fun g => absurd hx g)
    · refine Or.inl ⟨eIA, 2, by simp, fun K X k => ?_, fun J k => km_hurl Rs Is (fun g => absurd hx g) (fun _ _ => k _ hI.F mx_F_0) (fun _ g => absurd g hy) (fun _ _ _ g => absurd g hy) (fun _ b _ _ hb e => absurd (mr_in_3 hb e) hy)⟩
      unfold wf_X8_hurl
      exact kz_checkThing et t24 (fun _ => kz_checkWay (fun g => absurd g hy) (fun _ => k)) (fun g => absurd hx g)
  · refine Or.inl ⟨eIO, 1, by simp, fun K X k => ?_, fun J k => km_hurl Rs Is (fun _ => k _ hI.F mx_F_0) (fun g => absurd g hx) (fun g => absurd g hx) (fun a ha e => absurd ⟨a, ha, e⟩ hx) (fun a _ ha e => absurd ⟨a, ha, e⟩ hx)⟩
    unfold wf_X8_hurl
    exact kz_checkThing et t24 (fun g => absurd g hx) (fun _ => k)
theorem dz_pack {x y : Int32} (hc : c < 512) (h : dq_I c s) : dz_C c (wf_X8_pack x y) (wf_X9_pack x y) [(eIO, 1), (eIS, 2), (eNS, 3), (eUO, 4)] s := by
  have hI := h
  obtain ⟨n, t, l, m, r, st, T, W0, A, D, B, sp, P, Kf, Mf⟩ := h
  obtain ⟨Rs, Is⟩ := dz_shR P Mf
  have et := dz_et P Kf
  have t24 := P.1.1.t24
  by_cases hxy : mr_th t x ∧ (y = -1 ∨ mr_th t y)
  · obtain ⟨a, ha, ex⟩ := hxy.1
    -- which bag
    obtain ⟨b, hb, ey⟩ : ∃ b, (b = 24 ∨ b < t) ∧ y = dq_bI b := by
      rcases hxy.2 with e | ⟨b, hb, e⟩
      · exact ⟨24, Or.inl rfl, e⟩
      · exact ⟨b, Or.inr hb, by rw [dq_bI_of (by omega)]; exact e⟩
    have b1 : y = -1 ↔ b = 24 := by
      rcases hb with g | g
      · rw [ey, g]; exact ⟨fun _ => rfl, fun _ => rfl⟩
      · rw [ey, dq_bI_of (by omega)]
        exact ⟨fun q => absurd q (dq_m1' (by omega)), fun q => by omega⟩
    have uq : ∀ {a'}, a' < t → x = nI a' → a' = a := fun {a'} _ e => (nI_eq (by omega) (by omega)).1 (e.symm.trans ex)
    have uqb : ∀ {b'}, (b' = 24 ∨ b' < t) → y = dq_bI b' → b' = b := fun {b'} hb' e => by
      rcases hb' with g | g
      · have : y = -1 := by rw [e, g]; rfl
        rw [b1.1 this]; exact g
      · rcases hb with w | w
        · have : y = -1 := by rw [ey, w]; rfl
          rw [e, dq_bI_of (by omega)] at this
          exact absurd this (dq_m1' (by omega))
        · rw [ey, dq_bI_of (by omega), dq_bI_of (by omega)] at e
          exact ((nI_eq (by omega) (by omega)).1 e).symm
    have head : ∀ (K : Int32 → dk_S → Prop) (X : String → dk_S → Prop), wf_X8_pack_15 K X x y s → wf_X8_pack x y s K X := fun K X k => by
      unfold wf_X8_pack
      exact kz_checkThing et t24 (fun _ => ⟨fun _ => k, fun g => kz_checkThing et t24 (fun _ => k) (fun q => hxy.2.elim (fun w => absurd w g) (fun w => absurd w q))⟩) (fun g => absurd hxy.1 g)
    by_cases on : st = 111
    · subst on
      have W2 := dz_W2 P Kf
      obtain ⟨R, JV, RT⟩ := dz_onR P Mf rfl
      have T24 : ∀ {i}, i < 24 → T 24 i = dq_ch n t W0 D m 24 i := fun {i} hi => ((Mf.1.1 71 i hi).symm.trans (R.r71 hi))
      have win : b < t → (dq_wi (dq_ch n t W0 D m) a 24 b ↔ dq_IN (dq_ch n t W0 D m) a b) := fun g => dq_wi_IN JV.1.tp t24 JV.1.ac (by omega)
      have pre : ∀ (K : Int32 → dk_S → Prop) (X : String → dk_S → Prop), (dq_cr (dq_ch n t W0 D m) a → (b = 24 ∨ dq_cr (dq_ch n t W0 D m) b) → (b = 24 ∨ (dq_ch n t W0 D m 24 b = 6 ∧ ¬ dq_IN (dq_ch n t W0 D m) a b)) → wf_X8_act 4 (nI a) (dq_bI b) s (fun r6 s5 => K r6 s5)) → (dq_cr (dq_ch n t W0 D m) a → (b = 24 ∨ dq_cr (dq_ch n t W0 D m) b) → ¬ (b = 24 ∨ (dq_ch n t W0 D m 24 b = 6 ∧ ¬ dq_IN (dq_ch n t W0 D m) a b)) → X eUO s) → (¬ (dq_cr (dq_ch n t W0 D m) a ∧ (b = 24 ∨ dq_cr (dq_ch n t W0 D m) b)) → X eNS s) → wf_X8_pack x y s K X := fun K X k1 k2 k3 => by
        refine head K X ?_
        unfold wf_X8_pack_15
        refine kz_checkWorld (fun _ => ?_) (fun g => absurd Kf.2.1 g)
        rw [ex]
        refine kz_checkCarried W2 JV.1 (show a < 24 by omega) (fun ca => ⟨fun e => ?_, fun e => ?_⟩) (fun g => k3 fun q => g q.1)
        · rw [ey]
          have e24 := b1.1 e
          exact k1 ca (Or.inl e24) (Or.inl e24)
        · have hbt : b < t := hb.resolve_left fun q => e (b1.2 q)
          have eb : y = nI b := by rw [ey]; exact dq_bI_of (by omega)
          rw [eb]
          refine kz_checkCarried W2 JV.1 (show b < 24 by omega) (fun cb => kz_checkBag Kf.1 (show b < 24 by omega) (fun g6 => ?_) (fun g6 => k2 ca (Or.inr cb) fun q => ?_)) (fun g => k3 fun q => q.2.elim (fun w => by omega) g)
          · refine kw_isWithin W2 JV.1 (show b < 24 by omega) (show a < 24 by omega) (fun gi => dq_1 (k2 ca (Or.inr cb) fun q => ?_)) (fun gi => dq_0 ?_)
            · rcases q with q | q
              · omega
              · exact q.2 ((win hbt).1 gi)
            · have e2 : nI b = dq_bI b := (dq_bI_of (by omega)).symm
              rw [e2]
              exact k1 ca (Or.inr cb) (Or.inr ⟨(T24 (show b < 24 by omega)).symm.trans g6, fun q => gi ((win hbt).2 q)⟩)
          · rcases q with q | q
            · omega
            · exact g6 ((T24 (show b < 24 by omega)).trans q.1)
      by_cases h3 : dq_cr (dq_ch n t W0 D m) a ∧ (b = 24 ∨ dq_cr (dq_ch n t W0 D m) b)
      · by_cases h4 : b = 24 ∨ (dq_ch n t W0 D m 24 b = 6 ∧ ¬ dq_IN (dq_ch n t W0 D m) a b)
        · have hd : dq_DV t 4 a b (dq_ch n t W0 D m) := Or.inr (Or.inr (Or.inr (Or.inl ⟨rfl, ha, by
            rcases hb with q | q
            · exact Or.inl q
            · rcases h4 with w | w
              · exact Or.inl w
              · exact Or.inr ⟨q, w.2⟩⟩)))
          have hno := dz_no P hc hd (by decide)
          obtain ⟨q1, q2⟩ := dz_do P Kf Mf hc hd
          have q2 := q2 hno
          refine Or.inr ⟨(ax_deed n t 4 a b (dq_ch n t W0 D m)).1, dz_TK n t (m + 1) r T W0 A (dq_up3 D m 4 a b) B sp s, fun K X k => pre K X (fun _ _ _ => q1 _ (fun g => absurd g hno) (fun _ v hv => k v hv)) (fun _ _ g => absurd h4 g) (fun g => absurd h3 g), fun v J hv k => ?_⟩
          obtain ⟨R, JV, RT⟩ := dz_onR P Mf hv.2.2.1
          refine km_pack (w := dq_ch n t W0 D m) R JV.1 (fun g => absurd hxy g) (fun _ g => absurd (dz_on1 Mf hv.2.2.1) g) (fun a' b' ha' e hb' e2 _ g => ?_) (fun a' b' ha' e hb' e2 _ _ _ g => ?_) (fun a' b' ha' e hb' e2 _ _ _ _ => ⟨JV, RT, fun u E => ?_⟩)
          · rw [uq ha' e, uqb hb' e2] at g; exact absurd h3 g
          · rw [uq ha' e, uqb hb' e2] at g; exact absurd h4 g
          · have q3 := uq ha' e
            have q4 := uqb hb' e2
            subst q3
            subst q4
            obtain ⟨z1, z2, z3⟩ := q2 v u hv E
            exact k u z1 z2
        · refine Or.inl ⟨eUO, 4, by simp, fun K X k => pre K X (fun _ _ g => absurd g h4) (fun _ _ _ => k) (fun g => absurd h3 g), fun J k => km_pack R JV.1 (fun g => absurd hxy g) (fun _ g => absurd Mf.2.1 g) (fun a' b' ha' e hb' e2 _ g => ?_) (fun _ _ _ _ _ _ _ _ _ _ => k _ hI.F mx_F_0) (fun a' b' ha' e hb' e2 _ _ _ g => ?_)⟩
          · rw [uq ha' e, uqb hb' e2] at g; exact absurd h3 g
          · rw [uq ha' e, uqb hb' e2] at g; exact absurd g h4
      · refine Or.inl ⟨eNS, 3, by simp, fun K X k => pre K X (fun g1 g2 => absurd ⟨g1, g2⟩ h3) (fun g1 g2 => absurd ⟨g1, g2⟩ h3) (fun _ => k), fun J k => km_pack R JV.1 (fun g => absurd hxy g) (fun _ g => absurd Mf.2.1 g) (fun _ _ _ _ _ _ _ _ => k _ hI.F mx_F_0) (fun a' b' ha' e hb' e2 _ g1 g2 => ?_) (fun a' b' ha' e hb' e2 _ g1 g2 => ?_)⟩
        · rw [uq ha' e] at g1
          rw [uqb hb' e2] at g2
          exact absurd ⟨g1, g2⟩ h3
        · rw [uq ha' e] at g1
          rw [uqb hb' e2] at g2
          exact absurd ⟨g1, g2⟩ h3
    · refine Or.inl ⟨eIS, 2, by simp, fun K X k => head K X ?_, fun J k => km_pack Rs Is (fun g => absurd hxy g) (fun _ _ => k _ hI.F mx_F_0) (fun _ _ _ _ _ _ g => absurd (Mf.2.1.symm.trans g) on) (fun _ _ _ _ _ _ g => absurd (Mf.2.1.symm.trans g) on) (fun _ _ _ _ _ _ g => absurd (Mf.2.1.symm.trans g) on)⟩
      unfold wf_X8_pack_15
      exact kz_checkWorld (fun g => absurd (Kf.2.1.symm.trans g) on) (fun _ => k)
  · have hb' : ∀ {a b}, a < t → x = nI a → (b = 24 ∨ b < t) → y = dq_bI b → False := fun {a b} ha e hb e2 => hxy ⟨⟨a, ha, e⟩, by
      rcases hb with g | g
      · rw [e2, g]; exact Or.inl rfl
      · exact Or.inr ⟨b, g, by rw [e2]; exact dq_bI_of (by omega)⟩⟩
    refine Or.inl ⟨eIO, 1, by simp, fun K X k => ?_, fun J k => km_pack Rs Is (fun _ => k _ hI.F mx_F_0) (fun g => absurd g hxy) (fun a b ha e hb e2 => (hb' ha e hb e2).elim) (fun a b ha e hb e2 => (hb' ha e hb e2).elim) (fun a b ha e hb e2 => (hb' ha e hb e2).elim)⟩
    unfold wf_X8_pack
    exact kz_checkThing et t24 (fun g1 => ⟨fun e => absurd ⟨g1, Or.inl e⟩ hxy, fun _ => kz_checkThing et t24 (fun g2 => absurd ⟨g1, Or.inr g2⟩ hxy) (fun _ => k)⟩) (fun _ => k)
end DCB
