/-! the reference: what is asked -/
theorem dq_ke {K : Int32 → dk_S → Prop} {x y : Int32} {s : dk_S} (e : x = y) (k : K y s) : K x s := by rw [e]; exact k
def mr_lky (o : Nat) : Int32 := if nI o / 2 = 0 then 1 else 0
def mr_lkf (o d : Nat) : Int32 := if nI d = 3 then nI o / 2 else if nI d = 4 then (if nI o - nI o / 2 * 2 = 0 then mr_lky o else 3 - nI o / 2 - mr_lky o) else 3 - nI o / 2 - (if nI o - nI o / 2 * 2 = 0 then mr_lky o else 3 - nI o / 2 - mr_lky o)
theorem mr_lk : ∀ o, o < 6 → ∀ d, d < 6 → 3 ≤ d → mr_lkf o d = dk_looks (3 * o + d - 3) := by decide +kernel
def mr_cr (n lo : Nat) (x : Int32) : Prop := ∃ c, lo ≤ c ∧ c < n ∧ x = nI c
theorem mr_cr_in {n lo : Nat} (n8 : n ≤ 8) (h1 : 1 ≤ n) (hl : lo ≤ 1) {x : Int32} : mr_in x (nI lo) (nI n - 1) ↔ mr_cr n lo x := by
  obtain ⟨j, rfl⟩ : ∃ j, n = j + 1 := ⟨n - 1, by omega⟩
  rw [nI_pred]
  constructor
  · intro h
    obtain ⟨c, h1, h2, e⟩ := mr_in_01 (L := lo) (N := j) (nI_toInt (by omega)) (nI_toInt (by omega)) h
    exact ⟨c, h1, by omega, e⟩
  · rintro ⟨c, h1, h2, rfl⟩
    exact ⟨nI_nlt h1 (by omega), nI_nlt (by omega) (by omega)⟩
section DMQ
variable {n t l : Nat} {w : dq_W} {s u : dk_S} {K : Int32 → dk_S → Prop} {J : dk_S → Prop}
theorem km_lookOf {o d : Nat} (ho : o < 6) (h3' : 3 ≤ d) (h5 : d ≤ 5) (e : s 4 60 3 - s 4 60 3 / 6 * 6 = nI o) (k : K (dk_looks (3 * o + d - 3)) s) : wf_X9_lookOf (nI d) s K := by
  unfold wf_X9_lookOf
  refine nm_r e (nm_e ?_)
  have k : K (mr_lkf o d) s := dq_ke (mr_lk o ho d (by omega) h3') k
  unfold mr_lkf mr_lky at k
  unfold wf_X9_lookOf_21 wf_X9_lookOf_44
  refine ⟨fun h => nm_e ⟨fun h2 => ⟨fun h3 => ⟨fun h4 => ?_, fun h4 => ?_⟩, fun h3 => ?_⟩, fun h2 => ⟨fun h3 => ⟨fun h4 => ?_, fun h4 => ?_⟩, fun h3 => ?_⟩⟩, fun h => nm_e ⟨fun h2 => ⟨fun h3 => ⟨fun h4 => ?_, fun h4 => ?_⟩, fun h3 => ?_⟩, fun h2 => ⟨fun h3 => ⟨fun h4 => ?_, fun h4 => ?_⟩, fun h3 => ?_⟩⟩⟩
  · rw [if_neg h3, if_neg h4, if_neg h2, if_neg h] at k; exact k
  · rw [if_neg h3, if_pos h4, if_neg h2, if_neg h] at k; exact k
  · rw [if_pos h3] at k; exact k
  · rw [if_neg h3, if_neg h4, if_pos h2, if_neg h] at k; exact k
  · rw [if_neg h3, if_pos h4, if_pos h2, if_neg h] at k; exact k
  · rw [if_pos h3] at k; exact k
  · rw [if_neg h3, if_neg h4, if_neg h2, if_pos h] at k; exact k
  · rw [if_neg h3, if_pos h4, if_neg h2, if_pos h] at k; exact k
  · rw [if_pos h3] at k; exact k
  · rw [if_neg h3, if_neg h4, if_pos h2, if_pos h] at k; exact k
  · rw [if_neg h3, if_pos h4, if_pos h2, if_pos h] at k; exact k
  · rw [if_pos h3] at k; exact k
theorem km_leave (k1 : ¬ s 4 60 1 = 111 → K 0 (mx_F s 1)) (kk : s 4 60 1 = 111 → K (s 4 60 2) (dq_st (mx_F s 0) 4 60 1 108)) : wf_X9_leave s K := by
  unfold wf_X9_leave wf_X9_leave_13
  refine km_isOn (fun on => dq_1 (km_goes0 (dq_1' (mx_put ?_)))) (fun g => dq_0 (km_goesN (by decide) (dq_0' (k1 g))))
  have e : dq_st (mx_F s 0) 4 60 1 108 4 60 2 = s 4 60 2 := (mx_st_q (by decide)).trans (mx_F_1 (by decide))
  exact dq_ke e (kk on)
theorem km_state (h : s 4 60 1 = 110 ∨ s 4 60 1 = 111 ∨ s 4 60 1 = 100 ∨ s 4 60 1 = 108) (k : K (s 4 60 1) (mx_F s 0)) : wf_X9_state s K := by
  unfold wf_X9_state
  refine mx_put ?_
  have e : dq_st s 4 60 0 0 4 60 1 = s 4 60 1 := mx_st_q (by decide)
  refine ⟨?_, dq_ke e k⟩
  rw [e]
  rcases h with h | h | h | h <;> rw [h] <;> decide
theorem km_tick (k : K (s 4 60 2) (mx_F s 0)) : wf_X9_tick s K := by
  unfold wf_X9_tick
  exact mx_put (dq_ke (mx_st_q (by decide)) k)
theorem km_cell {x y : Int32} (R : mr_R w (s 4)) (S : dq_SG w) (k1 : ¬ mr_pl x y → K 0 (mx_F s 1)) (kk : ∀ a b, a < 12 → b < 12 → x = nI a → y = nI b → K (w 2 (12 * a + b)) (mx_F s 0)) : wf_X9_cell x y s K := by
  unfold wf_X9_cell wf_X9_cell_14
  refine km_isPlace (fun h => dq_1 ?_) (fun h => dq_0 (km_goesN (by decide) (dq_0 (k1 h))))
  obtain ⟨a, b, ha, hb, ex, ey⟩ := mr_pl_n h
  have k4 := kk a b ha hb ex ey
  subst ex
  subst ey
  have hp : 12 * a + b < 144 := by omega
  have e : mx_F s 0 4 75 (nI (mt_T (12 * a + b))).toNatClampNeg = w 2 (12 * a + b) := by
    rw [nI_clamp (by have := mt_T_lt hp; omega)]; exact (mx_F_R R).r75' hp
  refine km_goes0 (dq_1 (km_at ha hb ⟨vp_in_nI (mt_T_lt hp) (by decide), ?_, dq_ke e k4⟩))
  rw [show dq_st s 4 60 0 0 = mx_F s 0 from rfl, e]
  exact dq_sgn_nar (S _ hp)
theorem km_see {x y x' y' : Int32} (R : mr_R w (s 4)) (k1 : ¬ (mr_pl x y ∧ mr_pl x' y') → K 0 (mx_F s 1)) (kk : ∀ a b a' b', a < 12 → b < 12 → a' < 12 → b' < 12 → x = nI a → y = nI b → x' = nI a' → y' = nI b' → (dq_see w (12 * a + b) (12 * a' + b') → K 1 (mx_F s 0)) ∧ (¬ dq_see w (12 * a + b) (12 * a' + b') → K 0 (mx_F s 0))) : wf_X9_see x y x' y' s K := by
  unfold wf_X9_see wf_X9_see_23
  refine km_isPlace (fun h => dq_1 (km_isPlace (fun h2 => dq_1 ?_) (fun h2 => dq_0 (km_goesN (by decide) (dq_0 (k1 fun q => h2 q.2)))))) (fun h => dq_0 (km_goesN (by decide) (dq_0 (k1 fun q => h q.1))))
  obtain ⟨a, b, ha, hb, ex, ey⟩ := mr_pl_n h
  obtain ⟨a', b', ha', hb', ex', ey'⟩ := mr_pl_n h2
  have k4 := kk a b a' b' ha hb ha' hb' ex ey ex' ey'
  subst ex
  subst ey
  subst ex'
  subst ey'
  exact km_goes0 (dq_1 (km_at ha hb (km_at ha' hb' (km_sees (mx_F_R R) (by omega) (by omega) (fun g => dq_1 (k4.1 g)) (fun g => dq_0 (k4.2 g))))))
theorem km_heroSees {x y : Int32} (k1 : ¬ mr_pl x y → K 0 (mx_F s 1)) (k2 : mr_pl x y → ¬ s 4 60 1 = 111 → K 0 (mx_F s 2)) (R : mr_R w (s 4)) (I : dq_IV n t l w) (kk : ∀ a b, a < 12 → b < 12 → x = nI a → y = nI b → s 4 60 1 = 111 → (dq_sn w l (12 * a + b) → K 1 (mx_F s 0)) ∧ (¬ dq_sn w l (12 * a + b) → K 0 (mx_F s 0))) : wf_X9_heroSees x y s K := by
  unfold wf_X9_heroSees wf_X9_heroSees_25
  refine km_isPlace (fun h => dq_1' (km_isOn (fun on => dq_1' ?_) (fun g => dq_0' (km_goesN (by decide) (dq_0 (k2 h g)))))) (fun h => dq_0' (km_goesN (by decide) (dq_0 (k1 h))))
  obtain ⟨a, b, ha, hb, ex, ey⟩ := mr_pl_n h
  have k4 := kk a b ha hb ex ey on
  subst ex
  subst ey
  exact km_goes0 (dq_1 (km_at ha hb (km_heroSeesCell (mx_F_R R) I (by omega) (fun g => dq_1 (k4.1 g)) (fun g => dq_0 (k4.2 g)))))
theorem km_placeOf {x : Int32} (R : mr_R w (s 4)) (I : dq_IV n t l w) (k1 : ¬ mr_cr n 0 x → K 0 (mx_F s 1)) (kk : ∀ c, c < n → x = nI c → K (dq_sp (dq_pl w c)) (mx_F s 0)) : wf_X9_placeOf x s K := by
  unfold wf_X9_placeOf wf_X9_placeOf_20
  rw [R.n10, I.hn]
  refine km_in (fun h => dq_1 ?_) (fun h => dq_0 (km_goesN (by decide) (dq_0 (k1 fun q => h ((mr_cr_in I.h8 I.h1 (by decide)).2 q)))))
  obtain ⟨c, _, hc, e⟩ := (mr_cr_in (lo := 0) I.h8 I.h1 (by decide)).1 h
  have k4 := kk c hc e
  have h8 := I.h8
  subst e
  refine km_goes0 (dq_1 ⟨vp_in_nI (show c < 8 by omega) (by decide), ?_⟩)
  have e : mx_F s 0 4 76 (nI c).toNatClampNeg = nI (mt_T (dq_pl w c)) := by
    rw [nI_clamp (by omega)]; exact mr_place (mx_F_R R) I.pl (by omega)
  rw [show dq_st s 4 60 0 0 = mx_F s 0 from rfl, e]
  exact km_told (I.pl c (by omega)).1 k4
theorem km_healthOf {x : Int32} (R : mr_R w (s 4)) (I : dq_IV n t l w) (k1 : ¬ mr_cr n 0 x → K 0 (mx_F s 1)) (kk : ∀ c, c < n → x = nI c → K (w 18 c) (mx_F s 0)) : wf_X9_healthOf x s K := by
  unfold wf_X9_healthOf wf_X9_healthOf_20
  rw [R.n10, I.hn]
  refine km_in (fun h => dq_1 ?_) (fun h => dq_0 (km_goesN (by decide) (dq_0 (k1 fun q => h ((mr_cr_in I.h8 I.h1 (by decide)).2 q)))))
  obtain ⟨c, _, hc, e⟩ := (mr_cr_in (lo := 0) I.h8 I.h1 (by decide)).1 h
  have k4 := kk c hc e
  have h8 := I.h8
  subst e
  refine km_goes0 (dq_1 ⟨vp_in_nI (show c < 8 by omega) (by decide), dq_ke ?_ k4⟩)
  rw [nI_clamp (by omega)]; exact (mx_F_R R).r77 (by omega)
theorem km_aimOf {x : Int32} (R : mr_R w (s 4)) (I : dq_IV n t l w) (k1 : ¬ mr_cr n 1 x → K 0 (mx_F s 1)) (k2 : ∀ c, 1 ≤ c → c < n → x = nI c → w 22 c = -1 → K 0 (mx_F s 2)) (kk : ∀ c p, 1 ≤ c → c < n → x = nI c → p < 144 → w 22 c = nI p → K (dq_sp p) (mx_F s 0)) : wf_X9_aimOf x s K := by
  unfold wf_X9_aimOf wf_X9_aimOf_36
  rw [R.n10, I.hn]
  refine km_in (fun h => dq_1' ?_) (fun h => dq_0' (km_goesN (by decide) (dq_0 (k1 fun q => h ((mr_cr_in I.h8 I.h1 (by decide)).2 q)))))
  obtain ⟨c, c1, hc, e⟩ := (mr_cr_in (lo := 1) I.h8 I.h1 (by decide)).1 h
  have h8 := I.h8
  have k2 := k2 c c1 hc e
  have kk := fun p => kk c p c1 hc e
  have e81 : s 4 81 x.toNatClampNeg = mt_V (w 22 c) := by
    rw [e, nI_clamp (by omega)]; exact R.r81 (by omega)
  have f81 : mx_F s 0 4 81 x.toNatClampNeg = mt_V (w 22 c) := by
    rw [e, nI_clamp (by omega)]; exact (mx_F_R R).r81 (by omega)
  have vi : vp_in x 8 := by rw [e]; exact vp_in_nI (show c < 8 by omega) (by decide)
  rw [e81]
  refine ⟨vi, fun q => ?_, fun q => km_goesN (by decide) (dq_0 (k2 (mt_V_m1.1 q)))⟩
  rcases I.am c (by omega) with r | ⟨p, hp, ep⟩
  · exact absurd (mt_V_m1.2 r) q
  · refine km_goes0 (dq_1 ⟨vi, ?_⟩)
    rw [show dq_st s 4 60 0 0 = mx_F s 0 from rfl, f81, ep, mt_V_c hp]
    exact km_told hp (kk p hp ep)
theorem km_whereIs {x : Int32} (R : mr_R w (s 4)) (I : dq_IV n t l w) (k1 : ¬ mr_th t x → K 0 (mx_F s 1)) (k2 : ∀ i, i < t → x = nI i → w 25 i < 0 → K (w 25 i) (mx_F s 0)) (kk : ∀ i p, i < t → x = nI i → p < 144 → w 25 i = nI p → K (dq_sp p) (mx_F s 0)) : wf_X9_whereIs x s K := by
  unfold wf_X9_whereIs wf_X9_whereIs_14
  refine km_isThing R I (fun i hi e => dq_1 ?_) (fun h => dq_0 (km_goesN (by decide) (dq_0 (k1 h))))
  have t24 := I.t24
  have k2 := k2 i hi e
  have kk := fun p => kk i p hi e
  have f82 : mx_F s 0 4 82 x.toNatClampNeg = mt_V (w 25 i) := by
    rw [e, nI_clamp (by omega)]; exact (mx_F_R R).r82 (by omega)
  have vi : vp_in x 24 := by rw [e]; exact vp_in_nI (show i < 24 by omega) (by decide)
  refine km_goes0 (dq_1 ⟨vi, ?_⟩)
  rw [show dq_st s 4 60 0 0 = mx_F s 0 from rfl, f82]
  refine ⟨fun g => ⟨vi, ?_⟩, fun g => ⟨vi, ?_⟩⟩
  · have g' := mt_V_neg.1 g
    rw [mt_V_n g']; exact k2 g'
  · rcases dq_TP_neg I (show i < 24 by omega) with r | ⟨p, hp, ep⟩
    · exact absurd (mt_V_neg.2 r) g
    · rw [ep, mt_V_c hp]; exact km_told hp (kk p hp ep)
theorem km_weightOf {x : Int32} (R : mr_R w (s 4)) (I : dq_IV n t l w) (k1 : ¬ mr_th t x → K 0 (mx_F s 1)) (kk : ∀ i, i < t → x = nI i → K (dq_sum (fun j => dq_wi w i 24 j) (dq_wt w) t) (mx_F s 0)) : wf_X9_weightOf x s K := by
  unfold wf_X9_weightOf wf_X9_weightOf_14
  refine km_isThing R I (fun i hi e => dq_1 ?_) (fun h => dq_0 (km_goesN (by decide) (dq_0 (k1 h))))
  have k4 := kk i hi e
  subst e
  exact km_goes0 (dq_1 (km_wholeWeight (mx_F_R R) I hi k4))
theorem km_nameOf {x : Int32} {o : Nat} (R : mr_R w (s 4)) (I : dq_IV n t l w) (k1 : ¬ mr_th t x → K 0 (mx_F s 1)) (k2 : mr_th t x → ¬ s 4 60 1 = 111 → K 0 (mx_F s 2))
    (kk : ∀ i, i < t → x = nI i → s 4 60 1 = 111 → (o < 6 ∧ s 4 60 3 - s 4 60 3 / 6 * 6 = nI o) ∧ (dq_uk w (dq_kd w i) → K (100 + dk_looks (3 * o + dq_kd w i - 3)) (mx_F s 0)) ∧ (¬ dq_uk w (dq_kd w i) → K (nI (dq_kd w i)) (mx_F s 0))) : wf_X9_nameOf x s K := by
  unfold wf_X9_nameOf wf_X9_nameOf_25
  refine km_isThing R I (fun i hi e => dq_1' (km_isOn (fun on => dq_1' ?_) (fun g => dq_0' (km_goesN (by decide) (dq_0' (k2 ⟨i, hi, e⟩ g)))))) (fun h => dq_0' (km_goesN (by decide) (dq_0' (k1 h))))
  obtain ⟨⟨ho, e3⟩, y1, y0⟩ := kk i hi e on
  have t24 := I.t24
  have ek := mr_kind (mx_F_R (e := 0) R) I (show i < 24 by omega)
  have e71 : mx_F s 0 4 71 x.toNatClampNeg = nI (dq_kd w i) := by
    rw [e, nI_clamp (by omega)]; exact ek.1
  have f83 : mx_F s 0 4 83 (nI (dq_kd w i)).toNatClampNeg = mt_kb w (dq_kd w i) := by
    rw [nI_clamp (by omega)]; exact (mx_F_R R).r83 ek.2
  have vi : vp_in x 24 := by rw [e]; exact vp_in_nI (show i < 24 by omega) (by decide)
  refine km_goes0 (dq_1' ⟨vi, nm_r e71 (km_isPotion ek.2 (fun hp => dq_1 ?_) (fun hp => dq_0 (y0 fun q => hp q.1)))⟩)
  rw [show dq_st s 4 60 0 0 = mx_F s 0 from rfl, f83]
  refine ⟨vp_in_nI ek.2 (by decide), fun q => y0 fun r => ?_, fun q => ?_⟩
  · refine q ?_
    unfold mt_kb
    exact dq_if_f (fun z => z r.2)
  · have hu : dq_uk w (dq_kd w i) := by
      refine ⟨hp, Classical.byContradiction fun z => ?_⟩
      have : mt_kb w (dq_kd w i) = 1 := dq_if_t z
      rw [this] at q
      exact absurd q (by decide)
    have e3' : mx_F s 0 4 60 3 - mx_F s 0 4 60 3 / 6 * 6 = nI o := by rw [mx_F_1 (by decide)]; exact e3
    exact km_lookOf (K := fun r13 s12 => K (100 + r13) s12) ho hp.1 hp.2 e3' (y1 hu)
theorem km_isSame (k1 : s 4 60 1 = 110 → K 0 (mx_F s 1)) (kk : ¬ s 4 60 1 = 110 → K 1 (mx_F s 0)) : wf_X9_isSame s K := by
  unfold wf_X9_isSame
  exact ⟨fun g => km_goes0 ⟨dq_nz1, kk g⟩, fun g => km_goesN (by decide) ⟨dq_nz0, k1 g⟩⟩
end DMQ
