/-! each call, the two side by side: nameOf, isReachable, isSame, leave, begin -/
section DCR
variable {c : Nat} {s u v w0 : dk_S} {T W0 A : dq_W} {D : Nat → Nat × Nat × Nat} {B : Nat → Int32} {st sp : Int32} {n t l m r : Nat}
theorem dz_nw6 (RP : dq_RP n t l m W0 D) : dq_ch n t W0 D m 0 6 = W0 0 6 := (RP.at m (Nat.le_refl _)).1.2.2.2.2
theorem dz_nameOf {x : Int32} (h : dq_I c s) : dz_C c (wf_X8_nameOf x) (wf_X9_nameOf x) [(eIO, 1), (eIS, 2)] s := by
  have hI := h
  obtain ⟨n, t, l, m, r, st, T, W0, A, D, B, sp, P, Kf, Mf⟩ := h
  obtain ⟨Rs, Is⟩ := dz_shR P Mf
  have et := dz_et P Kf
  have t24 := P.1.1.t24
  by_cases hx : mr_th t x
  · by_cases on : st = 111
    · subst on
      obtain ⟨i, hi, ex⟩ := hx
      have W2 := dz_W2 P Kf
      obtain ⟨R, JV, RT⟩ := dz_onR P Mf rfl
      obtain ⟨RP, _, _, o, ho, e6⟩ := P.2.2.2 (by decide)
      have eo : dq_ch n t W0 D m 0 6 = nI o := (dz_nw6 RP).trans e6
      have e3 := ((Mf.2.2.2.2 (by decide)).2).trans e6
      have kd := JV.1.kd i (show i < 24 by omega)
      refine Or.inr ⟨dq_if (dq_uk (dq_ch n t W0 D m) (dq_kd (dq_ch n t W0 D m) i)) (100 + dk_looks (3 * o + dq_kd (dq_ch n t W0 D m) i - 3)) (nI (dq_kd (dq_ch n t W0 D m) i)), fun v => v = s, fun K X k => ?_, fun v J hv k => ?_⟩
      · unfold wf_X8_nameOf
        refine kz_checkThing et t24 (fun _ => kz_checkWorld (fun _ => ?_) (fun g => absurd Kf.2.1 g)) (fun g => absurd ⟨i, hi, ex⟩ g)
        rw [ex]
        refine kw_at24 W2 (show i < 24 by omega) (Or.inl rfl) ?_
        rw [kd.2]
        exact kw_nameOfKind W2 kd.1 eo ho (fun g => dq_ke (dq_if_t g).symm (k s rfl)) (fun g => dq_ke (dq_if_f g).symm (k s rfl))
      · subst hv
        refine km_nameOf (o := o) R JV.1 (fun g => absurd ⟨i, hi, ex⟩ g) (fun _ g => absurd Mf.2.1 g) (fun i' hi' e _ => ?_)
        have : i' = i := (nI_eq (by omega) (by omega)).1 (e.symm.trans ex)
        subst this
        exact ⟨⟨ho, e3⟩, fun g => dq_ke (dq_if_t g).symm (dz_same hI k rfl), fun g => dq_ke (dq_if_f g).symm (dz_same hI k rfl)⟩
    · refine Or.inl ⟨eIS, 2, by simp, fun K X k => ?_, fun J k => km_nameOf (o := 0) Rs Is (fun g => absurd hx g) (fun _ _ => k _ hI.F mx_F_0) (fun _ _ _ g => absurd (Mf.2.1.symm.trans g) on)⟩
      unfold wf_X8_nameOf
      exact kz_checkThing et t24 (fun _ => kz_checkWorld (fun g => absurd (Kf.2.1.symm.trans g) on) (fun _ => k)) (fun g => absurd hx g)
  · refine Or.inl ⟨eIO, 1, by simp, fun K X k => ?_, fun J k => km_nameOf (o := 0) Rs Is (fun _ => k _ hI.F mx_F_0) (fun g => absurd g hx) (fun i hi e => absurd ⟨i, hi, e⟩ hx)⟩
    unfold wf_X8_nameOf
    exact kz_checkThing et t24 (fun g => absurd g hx) (fun _ => k)
/-- the keep's present world is kept anew, the reference has looked about -/
theorem dz_look (P : dq_P n t l m c 111 T W0 D B sp) (Kf : dq_Kf n t m r 111 T W0 A D B sp v) (Mf : dq_Mf n t m 111 T W0 D B sp v) (Pu : mx_P (dq_ch n t W0 D m) (mx_F v 0) u) : dq_I (c + 1) u ∧ u 4 60 0 = 0 := by
  obtain ⟨RP, hm, hRT, ho⟩ := P.2.2.2 (by decide)
  have Mv := Mf.F (e := 0)
  obtain ⟨Ru, ou, fu⟩ := Pu
  refine ⟨⟨n, t, l, m, r, 111, T, W0, A, D, B, sp, ⟨P.1, P.2.1, P.2.2.1, fun g => ⟨RP, by omega, hRT, ho⟩⟩, (Kf.fr mx_F_fr).fr fu, Mv.1.keep ou, ?_, ⟨?_, fun i hi => ?_, fun g i hi => ?_⟩, fun g => absurd g (by decide), fun _ => ⟨by rw [RP.nw_a (hRT rfl).1]; exact Ru, ?_⟩⟩, ?_⟩
  · rw [ou 60 1 (by unfold mk_g; omega)]; exact Mv.2.1
  · rw [ou 60 32 (by unfold mk_g; omega)]; exact Mv.2.2.1.1
  · rw [ou 84 i (by unfold mk_g; omega)]; exact Mv.2.2.1.2.1 i hi
  · rw [ou 84 i (by unfold mk_g; omega), ou 85 i (by unfold mk_g; omega)]; exact Mv.2.2.1.2.2 g i hi
  · rw [ou 60 3 (by unfold mk_g; omega)]; exact (Mv.2.2.2.2 (by decide)).2
  · rw [ou 60 0 (by unfold mk_g; omega)]; exact mx_F_0
/-- another row *of* the present world -/
theorem dz_K2 (P : dq_P n t l m c 111 T W0 D B sp) (Kf : dq_Kf n t m r 111 T W0 A D B sp s) (H : dq_WR (dq_ch n t W0 D m) (u 2)) (f : dq_fr 2 s u) : dq_Kf n t m r 111 T W0 A D B sp u := by
  obtain ⟨RP, hm, hRT, ho⟩ := P.2.2.2 (by decide)
  obtain ⟨k1, k2, k3, k4⟩ := Kf
  have k4 := k4 (by decide)
  refine ⟨by rw [f 1 (by decide)]; exact k1, by rw [f 0 (by decide)]; exact k2, by rw [f 0 (by decide)]; exact k3, fun _ => ⟨⟨by rw [RP.nw_a (hRT rfl).1]; exact H, ?_⟩, by rw [f 3 (by decide)]; exact k4.2.1, by rw [f 0 (by decide)]; exact k4.2.2.1, k4.2.2.2⟩⟩
  unfold kq_D
  rw [f 0 (by decide)]
  exact k4.1.2
theorem dz_isReachable {x y : Int32} (h : dq_I c s) : dz_C c (wf_X8_isReachable x y) (wf_X9_isReachable x y) [(eIO, 1), (eIS, 2)] s := by
  have hI := h
  obtain ⟨n, t, l, m, r, st, T, W0, A, D, B, sp, P, Kf, Mf⟩ := h
  obtain ⟨Rs, Is⟩ := dz_shR P Mf
  by_cases hp : mr_pl x y
  · by_cases on : st = 111
    · subst on
      obtain ⟨a, b, ha, hb, ex, ey⟩ := mr_pl_n hp
      have W2 := dz_W2 P Kf
      obtain ⟨R, JV, RT⟩ := dz_onR P Mf rfl
      refine Or.inr ⟨mb_al (∃ M, rh_L (dq_ch n t W0 D m) t M ∧ rh_R (dq_ch n t W0 D m) M (12 * a + b)), fun v => dq_Kf n t m r 111 T W0 A D B sp v ∧ v 4 = s 4 ∧ ∃ M, rh_L (dq_ch n t W0 D m) t M, fun K X k => ?_, fun v J hv k => ?_⟩
      · unfold wf_X8_isReachable
        refine kz_checkPlace (fun _ => kz_checkWorld (fun _ => ?_) (fun g => absurd Kf.2.1 g)) (fun g => absurd hp g)
        rw [ex, ey]
        refine kz_spot ha hb (kw_heroCouldReach W2 JV.1 (by omega) fun M hL => ⟨fun g u Hu f => ⟨dq_nz1, dq_ke (mb_al_t ⟨M, hL, g⟩).symm (k u ⟨dz_K2 P Kf Hu f, f 4 (by decide), M, hL⟩)⟩, fun g u Hu f => ⟨dq_nz0, dq_ke (mb_al_f ?_).symm (k u ⟨dz_K2 P Kf Hu f, f 4 (by decide), M, hL⟩)⟩⟩)
        rintro ⟨M', hL', g'⟩
        refine g (rh_mono JV.1.sg hL'.1 hL.1 JV.1 (hL'.2.2 M M hL.1 hL.2.1 (fun _ _ q => q)) g')
      · obtain ⟨Kv, e4, M, hL⟩ := hv
        have Mv := Mf.e e4
        obtain ⟨R, JV, RT⟩ := dz_onR P Mf e4
        refine km_isReachable R JV.1 (fun g => absurd hp g) (fun _ g => absurd (dz_on1 Mf e4) g) (fun a' b' ha' hb' e1 e2 _ => ?_)
        have q1 : a' = a := (nI_eq (by omega) (by omega)).1 (e1.symm.trans ex)
        have q2 : b' = b := (nI_eq (by omega) (by omega)).1 (e2.symm.trans ey)
        subst q1
        subst q2
        refine ⟨M, hL, fun g u Pu => ?_, fun g u Pu => ?_⟩
        · obtain ⟨z1, z2⟩ := dz_look P Kv Mv Pu
          exact dq_ke (mb_al_t ⟨M, hL, g⟩).symm (k u z1 z2)
        · obtain ⟨z1, z2⟩ := dz_look P Kv Mv Pu
          refine dq_ke (mb_al_f ?_).symm (k u z1 z2)
          rintro ⟨M', hL', g'⟩
          exact g (rh_mono JV.1.sg hL'.1 hL.1 JV.1 (hL'.2.2 M M hL.1 hL.2.1 (fun _ _ q => q)) g')
    · refine Or.inl ⟨eIS, 2, by simp, fun K X k => ?_, fun J k => km_isReachable Rs Is (fun g => absurd hp g) (fun _ _ => k _ hI.F mx_F_0) (fun _ _ _ _ _ _ g => absurd (Mf.2.1.symm.trans g) on)⟩
      unfold wf_X8_isReachable
      exact kz_checkPlace (fun _ => kz_checkWorld (fun g => absurd (Kf.2.1.symm.trans g) on) (fun _ => k)) (fun g => absurd hp g)
  · refine Or.inl ⟨eIO, 1, by simp, fun K X k => ?_, fun J k => km_isReachable Rs Is (fun _ => k _ hI.F mx_F_0) (fun g => absurd g hp) (fun a b ha hb e1 e2 => absurd (mr_pl_of ha hb e1 e2) hp)⟩
    unfold wf_X8_isReachable
    exact kz_checkPlace (fun g => absurd g hp) (fun _ => k)
theorem dz_isSame (h : dq_I c s) : dz_C c wf_X8_isSame wf_X9_isSame [(eIS, 1)] s := by
  have hI := h
  obtain ⟨n, t, l, m, r, st, T, W0, A, D, B, sp, P, Kf, Mf⟩ := h
  by_cases hn : st = 110
  · refine Or.inl ⟨eIS, 1, by simp, fun K X k => ?_, fun J k => km_isSame (fun _ => k _ hI.F mx_F_0) (fun g => absurd (Mf.2.1.trans hn) g)⟩
    unfold wf_X8_isSame
    exact ⟨fun g => absurd (Kf.2.1.trans hn) g, fun _ => k⟩
  · obtain ⟨RP, hm, hRT, ho⟩ := P.2.2.2 hn
    have kS := Kf.2.2.2 hn
    refine Or.inr ⟨1, fun v => dq_Kf n t m m st T W0 (dq_nw n t m W0 D) D B sp v ∧ v 4 = s 4, fun K X k => ?_, fun v J hv k => ?_⟩
    · unfold wf_X8_isSame
      refine ⟨fun _ => kx_redo RP kS fun u kU f1 f2 f3 => ?_, fun g => absurd (Kf.2.1.symm.trans g) hn⟩
      refine kw_isLike kU.1.1 kU.2.1 RP.nw_I ⟨dq_nz1, k u ⟨⟨?_, ?_, ?_, fun _ => kU⟩, f1 4 (by decide) (by decide)⟩⟩
      · rw [f1 1 (by decide) (by decide)]; exact Kf.1
      · rw [f3]; exact Kf.2.1
      · rw [f2 45 (by decide), f2 46 (by decide)]; exact Kf.2.2.1
    · obtain ⟨Kv, e4⟩ := hv
      have Mv := (Mf.e e4).F (e := 0)
      exact km_isSame (fun g => absurd ((Mf.e e4).2.1.symm.trans g) hn) (fun _ => k _ ⟨n, t, l, m, m, st, T, W0, _, D, B, sp, ⟨P.1, P.2.1, P.2.2.1, fun g => ⟨RP, by omega, hRT, ho⟩⟩, Kv.fr mx_F_fr, Mv⟩ mx_F_0)
theorem dz_leave (h : dq_I c s) : dz_C c wf_X8_leave wf_X9_leave [(eIS, 1)] s := by
  have hI := h
  obtain ⟨n, t, l, m, r, st, T, W0, A, D, B, sp, P, Kf, Mf⟩ := h
  by_cases on : st = 111
  · subst on
    obtain ⟨RP, hm, hRT, ho⟩ := P.2.2.2 (by decide)
    have kS := Kf.2.2.2 (by decide)
    have mR := Mf.2.2.2.2 (by decide)
    refine Or.inr ⟨dq_nw n t m W0 D 0 5, fun v => v = dk_row s 0 40 (upd (s 0 40) 5 108), fun K X k => ?_, fun v J hv k => ?_⟩
    · unfold wf_X8_leave
      refine kz_checkWorld (fun _ => nm_e ?_) (fun g => absurd Kf.2.1 g)
      have : dk_row s 0 40 (upd (s 0 40) 5 108) 2 0 5 = s 2 0 5 := by rw [dq_row_r (Or.inl (by decide))]
      exact dq_ke (this.trans (kS.1.1.f0 (by decide) (by decide))) (k _ rfl)
    · have e4 : v 4 = s 4 := by rw [hv]; exact funext fun b => dq_row_r (Or.inl (by decide))
      have ea : ∀ a, a ≠ 0 → v a = s a := fun a ha => by rw [hv]; exact funext fun b => dq_row_r (Or.inl ha)
      have eb : ∀ b, b ≠ 40 → v 0 b = s 0 b := fun b hb => by rw [hv]; exact dq_row_r (Or.inr hb)
      have e5 : v 0 40 5 = 108 := by rw [hv, dq_set_row, dq_set_eq]
      have e6 : v 0 40 6 = s 0 40 6 := by rw [hv, dq_set_row, dq_set_ne (by decide)]
      refine km_leave (fun g => absurd (dz_on1 Mf e4) g) (fun _ => dq_ke (y := dq_nw n t m W0 D 0 5) (by rw [e4]; exact mR.1.n2) ?_)
      have Mv := (Mf.e e4).F (e := 0)
      have fz : dq_fr 4 v (dq_st (mx_F v 0) 4 60 1 108) := mx_F_fr.tr dq_st_fr
      refine k _ ⟨n, t, l, m, r, 108, T, W0, A, D, B, sp, ⟨P.1, P.2.1, Or.inr (Or.inr (Or.inr rfl)), fun _ => ⟨RP, by omega, fun g => absurd g (by decide), ho⟩⟩, dq_Kf.fr ⟨by rw [ea 1 (by decide)]; exact Kf.1, e5, by rw [eb 45 (by decide), eb 46 (by decide)]; exact Kf.2.2.1, fun _ => ⟨⟨by rw [ea 2 (by decide)]; exact kS.1.1, ?_⟩, by rw [ea 3 (by decide)]; exact kS.2.1, e6.trans kS.2.2.1, kS.2.2.2⟩⟩ fz, ?_, mx_st_e, ⟨?_, fun i hi => ?_, fun g i hi => ?_⟩, fun g => absurd g (by decide), fun _ => ⟨?_, ?_⟩⟩ ?_
      · unfold kq_D
        rw [eb 41 (by decide), eb 42 (by decide), eb 43 (by decide), eb 44 (by decide)]
        exact kS.1.2
      · rw [dq_st_p]; exact Mv.1.out (Or.inr ⟨rfl, by decide⟩)
      · rw [mx_st_q (by decide)]; exact Mv.2.2.1.1
      · rw [mx_st_q (by omega)]; exact Mv.2.2.1.2.1 i hi
      · rw [mx_st_q (by omega), mx_st_q (by omega)]; exact Mv.2.2.1.2.2 g i hi
      · rw [dq_st_p]; exact (Mv.2.2.2.2 (by decide)).1.out (Or.inr ⟨rfl, by decide⟩)
      · rw [mx_st_q (by decide)]; exact (Mv.2.2.2.2 (by decide)).2
      · rw [mx_st_q (by decide)]; exact mx_F_0
  · refine Or.inl ⟨eIS, 1, by simp, fun K X k => ?_, fun J k => km_leave (fun _ => k _ hI.F mx_F_0) (fun g => absurd (Mf.2.1.symm.trans g) on)⟩
    unfold wf_X8_leave
    exact kz_checkWorld (fun g => absurd (Kf.2.1.symm.trans g) on) (fun _ => k)
end DCR
