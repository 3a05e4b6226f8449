/-! the reference: the world goes on; the acts -/
/-- the world behind an act -/
noncomputable def ax_on (n : Nat) (v : dq_W) : dq_W := ax_wait n 4000 (dq_set v 19 0 (v 19 0 - 12))
/-- where the reference is behind an act, or at the beginning: W the world at rest -/
def mx_E (t : Nat) (W : dq_W) (s u : dk_S) : Prop := (dq_lv W 0 ∧ mx_P W s u) ∨ (¬ dq_lv W 0 ∧ mx_D W t s u)
theorem mx_PD {w w' : dq_W} {t : Nat} {s u v : dk_S} (h : mx_P w s u) (k : mx_D w' t u v) : mx_D w' t s v := by
  obtain ⟨k1, k2, k3, k4, k5, k6, k7⟩ := k
  refine ⟨k1, h.2.2.tr k2, fun a j hg h1 h2 h3 => (k3 a j hg h1 h2 h3).trans (h.2.1 a j hg), k4, k5, k6, fun i hi => (k7 i hi).trans (h.2.1 84 i (by unfold mk_g; omega))⟩
theorem mx_PE {w w' : dq_W} {t : Nat} {s u v : dk_S} (h : mx_P w s u) (k : mx_E t w' u v) : mx_E t w' s v := by
  rcases k with ⟨k1, k2⟩ | ⟨k1, k2⟩
  · exact Or.inl ⟨k1, h.tr k2⟩
  · exact Or.inr ⟨k1, mx_PD h k2⟩
theorem mx_P.on {w : dq_W} {s u : dk_S} (h : mx_P w s u) {k : Nat} (hk : ¬ (k = 2 ∨ k = 30 ∨ k = 31)) : u 4 60 k = s 4 60 k := h.2.1 60 k (by unfold mk_g; omega)
def mr_th (t : Nat) (a : Int32) : Prop := ∃ x, x < t ∧ a = nI x
theorem mr_th_in {t : Nat} {a : Int32} (ht : t ≤ 24) : mr_in a 0 (nI t - 1) ↔ mr_th t a := by
  have e1 : nI t - 1 = dq_iI ((t : Int) - 1) := by rw [dq_iN, show (1 : Int32) = dq_iI 1 from rfl, dq_isub]
  rw [e1]
  constructor
  · rintro ⟨h1, h2⟩
    obtain ⟨j, hj, rfl⟩ := nI_of h1
    refine ⟨j, ?_, rfl⟩
    rw [dq_iN, dq_ilt (by omega) (by omega) (by omega) (by omega)] at h2
    omega
  · rintro ⟨x, hx, rfl⟩
    refine ⟨nI_pos (by omega), ?_⟩
    rw [dq_iN, dq_ilt (by omega) (by omega) (by omega) (by omega)]
    omega
section DQXJ
variable {n t l : Nat} {w : dq_W} {s : dk_S} {K : Int32 → dk_S → Prop} {J : dk_S → Prop}
theorem km_isOn (k1 : s 4 60 1 = 111 → K 1 s) (k0 : ¬ s 4 60 1 = 111 → K 0 s) : wf_X9_isOn s K := by
  unfold wf_X9_isOn
  exact dq_rb k0 k1
theorem km_isThing {a : Int32} (R : mr_R w (s 4)) (I : dq_IV n t l w) (k1 : ∀ x, x < t → a = nI x → K 1 s) (k0 : ¬ mr_th t a → K 0 s) : wf_X9_isThing a s K := by
  unfold wf_X9_isThing
  rw [R.n15, I.ht]
  have e := mr_th_in (a := a) I.t24
  exact km_in (fun h => ⟨dq_nz1, by obtain ⟨x, h1, h2⟩ := e.1 h; exact k1 x h1 h2⟩) (fun h => ⟨dq_nz0, k0 fun g => h (e.2 g)⟩)
theorem km_toHero : ∀ (k : Nat) (w : dq_W) (s : dk_S), mr_R w (s 4) → dq_JV n t l w → s 4 60 1 = 111 → dq_lv w 0 → dq_rests n k w → (∀ u, mx_E t (ax_wait n k w) s u → J u) → wf_X9_goesToHero_0 J (k + 2) s := by
  have stop : ∀ (m : Nat) (w : dq_W) (s : dk_S), mr_R w (s 4) → dq_JV n t l w → s 4 60 1 = 111 → dq_lv w 0 → dq_wd w n → J s → wf_X9_goesToHero_0 J (m + 1) s := by
    intro m w s R JV on hl hd hJ
    have hx : dq_nx w n = 0 := hd.resolve_left (fun g => g hl)
    unfold wf_X9_goesToHero_0
    refine km_isOn (fun _ => dq_1 (km_nextTurn R JV.1 ?_)) (fun g => absurd on g)
    rw [hx]
    exact dq_rt rfl hJ
  intro k
  induction k with
  | zero =>
    intro w s R JV on hl hr hJ
    exact stop 1 w s R JV on hl hr (hJ s (Or.inl ⟨hl, mx_P.rf R⟩))
  | succ k ih =>
    intro w s R JV on hl hr hJ
    by_cases g : dq_wd w n
    · have e : ax_wait n (k + 1) w = w := ax_wait_id g
      rw [e] at hJ
      exact stop (k + 2) w s R JV on hl g (hJ s (Or.inl ⟨hl, mx_P.rf R⟩))
    · have e : ax_wait n (k + 1) w = ax_wait n k (ax_step n w) := dq_if_f g
      rw [e] at hJ
      have hr2 : dq_rests n k (ax_step n w) := hr.resolve_left g
      have hx0 : dq_nx w n ≠ 0 := fun q => g (Or.inr q)
      have h8 := JV.1.h8
      have J2 := (ax_step_J JV hl hx0).1
      show wf_X9_goesToHero_0 J ((k + 2) + 1) s
      unfold wf_X9_goesToHero_0
      refine km_isOn (fun _ => dq_1 (km_nextTurn R JV.1 ?_)) (fun g => absurd on g)
      have es : ax_step n w = dq_if (dq_nx w n = 8) (ax_tick n w) (ax_move n (dq_nx w n) (dq_set w 19 (dq_nx w n) (w 19 (dq_nx w n) - 12))) := rfl
      by_cases c : dq_nx w n = 8
      · rw [dq_if_t c] at es
        rw [c]
        refine dq_rf (by decide) (dq_rt rfl (km_ticks R JV.1 JV.2.2.1 (fun u P => ?_)))
        rw [← es] at P
        refine ih _ u P.1 J2 (by rw [P.on (by decide)]; exact on) ?_ hr2 (fun u2 h => hJ u2 (mx_PE P h))
        rw [es]
        unfold dq_lv
        rw [ax_tick_o (by decide)]; exact hl
      · rw [dq_if_f c] at es
        obtain ⟨b1, b2⟩ := dq_nx_lv (w := w) n h8 c
        generalize hb : dq_nx w n = b at *
        rw [dq_n8_of (by omega)]
        refine dq_rf (fun q => hx0 ((nI_eq (b := 0) (by omega) (by decide)).1 q)) (dq_rf (dq_m1' (by omega)) ⟨vp_in_nI (by omega) (by decide), vp_in_nI (by omega) (by decide), ?_⟩)
        rw [nI_clamp (by omega), R.r78 (by omega)]
        have P1 : mx_P (dq_set w 19 b (w 19 b - 12)) s (dq_st s 4 78 b (w 19 b - 12)) := (mx_P.rf R).st (R.p78 (by omega)) (by unfold mk_g; omega)
        have I1 : dq_IV n t l (dq_set w 19 b (w 19 b - 12)) := JV.1.st (by decide)
        have U1 : dq_IU n (dq_set w 19 b (w 19 b - 12)) := JV.2.1.st (by decide)
        refine mx_put (km_beastTurns P1.1 I1 U1 (by omega) b1 (by unfold dq_lv; rw [dq_set_q (by decide)]; exact b2) (fun u P2 => ?_))
        rw [← es] at P2
        have P3 := P1.tr P2
        refine km_isWorldOver P3.1 J2.1 (fun hl2 => ?_) (fun hl2 u2 D => ?_)
        · exact ih _ u P3.1 J2 (by rw [P3.on (by decide)]; exact on) hl2 hr2 (fun u2 h => hJ u2 (mx_PE P3 h))
        · have ew : ax_wait n k (ax_step n w) = ax_step n w := ax_wait_id (Or.inl hl2)
          show wf_X9_goesToHero_0 J ((k + 1) + 1) u2
          unfold wf_X9_goesToHero_0
          refine km_isOn (fun q => ?_) (fun _ => dq_0 (hJ u2 ?_))
          · rw [D.2.2.2.1] at q
            exact absurd q (by decide)
          · rw [ew]
            exact mx_PE P3 (Or.inr ⟨hl2, D⟩)
theorem km_goesToHero (R : mr_R w (s 4)) (JV : dq_JV n t l w) (on : s 4 60 1 = 111) (hl : dq_lv w 0) (k : ∀ u, mx_E t (ax_wait n 4000 w) s u → J u) : wf_X9_goesToHero s J := by
  unfold wf_X9_goesToHero
  exact ⟨4002, km_toHero 4000 w s R JV on hl (dq_rests_J JV) k⟩
theorem km_ends {v : dq_W} (R : mr_R v (s 4)) (JV : dq_JV n t l v) (h12 : ¬ v 19 0 ≤ 11) (on : s 4 60 1 = 111) (k : ∀ u, mx_E t (ax_on n v) s u → J u) : wf_X9_ends s J := by
  unfold wf_X9_ends
  have e78 : s 4 78 (0 : Int32).toNatClampNeg = v 19 0 := R.r78 (k := 0) (by decide)
  refine ⟨dq_v0 (by decide) (by decide), dq_v0 (by decide) (by decide), ?_⟩
  rw [e78]
  have P1 : mx_P (dq_set v 19 0 (v 19 0 - 12)) s (dq_st s 4 78 0 (v 19 0 - 12)) := (mx_P.rf R).st (R.p78 (k := 0) (by decide)) (by unfold mk_g; omega)
  have J1 := dq_spend_J JV h12
  refine mx_put (a := 78) (k := 0) (km_isWorldOver P1.1 J1.1 (fun hl => dq_0' ?_) (fun hl u D => dq_1' (k u ?_)))
  · exact km_goesToHero P1.1 J1 (by rw [P1.on (by decide)]; exact on) hl (fun u h => k u (mx_PE P1 h))
  · have ew : ax_on n v = dq_set v 19 0 (v 19 0 - 12) := ax_wait_id (Or.inl hl)
    rw [ew]
    exact mx_PE P1 (Or.inr ⟨hl, D⟩)
/-- energies stay in a deed -/
theorem ax_land_19 {x c b : Nat} : ax_land n t x c b w 19 = w 19 := by
  unfold ax_land
  by_cases g : 3 ≤ dq_kd w x ∧ dq_kd w x ≤ 5
  · rw [dq_if_t g, ax_noise_r (by decide)]
    unfold ax_burnBy
    have e : ax_shatter n x c (dq_set w 25 x (nI c)) 19 = w 19 := by
      unfold ax_shatter
      rw [ax_sh_o (by decide)]
      unfold ax_use
      rw [dq_set_r (by decide), dq_set_r (by decide), dq_set_r (by decide)]
    by_cases g2 : ax_shatter n x c (dq_set w 25 x (nI c)) 10 (dq_kd w x) = 102
    · rw [dq_if_t g2, ax_burn_o (by decide), e]
    · rw [dq_if_f g2, e]
  · rw [dq_if_f g]
    by_cases g2 : dq_kd w x = 7 ∧ b ≠ 8
    · rw [dq_if_t g2, ax_noise_r (by decide), ax_strike_r (by decide), dq_set_r (by decide)]
    · rw [dq_if_f g2, dq_set_r (by decide)]
theorem ax_drink_19 {x : Nat} : ax_drink t x w 19 = w 19 := by
  unfold ax_drink ax_burnBy
  have e : ax_work (dq_kd w x) 0 (ax_use x w) 19 = w 19 := by
    rw [ax_work_o (by decide)]
    unfold ax_use
    rw [dq_set_r (by decide), dq_set_r (by decide)]
  by_cases g2 : ax_work (dq_kd w x) 0 (ax_use x w) 10 (dq_kd w x) = 102
  · rw [dq_if_t g2, ax_burn_o (by decide), e]
  · rw [dq_if_f g2, e]
theorem ax_go_19 {a : Nat} : (ax_go n t a w).2 19 = w 19 := by
  unfold ax_go
  by_cases g : 1 ≤ dq_la w (dq_nb (dq_pl w 0) a) n ∧ dq_la w (dq_nb (dq_pl w 0) a) n < 8
  · rw [dq_if_t g]; exact (ax_noise_r (by decide)).trans (ax_strike_r (by decide))
  · rw [dq_if_f g]
    by_cases g2 : dq_sg w (dq_nb (dq_pl w 0) a) = 43 ∨ dq_ky w t (dq_sg w (dq_nb (dq_pl w 0) a))
    · rw [dq_if_t g2]
      show dq_set w 2 (dq_nb (dq_pl w 0) a) 47 19 = w 19
      exact dq_set_r (by decide)
    · rw [dq_if_f g2]
      by_cases g3 : dq_free (dq_sg w (dq_nb (dq_pl w 0) a))
      · rw [dq_if_t g3]
        show dq_set w 14 0 (nI (dq_nb (dq_pl w 0) a)) 19 = w 19
        exact dq_set_r (by decide)
      · rw [dq_if_f g3]
theorem ax_pray_19 : ax_pray w 19 = w 19 := by
  unfold ax_pray
  by_cases g : dq_wk w 0 ∧ ¬ w 0 7 < 0
  · rw [dq_if_t g, dq_set_r (by decide), dq_set_r (by decide)]
  · rw [dq_if_f g, dq_set_r (by decide)]
theorem ax_deed_19 {d a b : Nat} (hd : dq_DV t d a b w) : (ax_deed n t d a b w).2 19 = w 19 := by
  rcases hd with ⟨rfl, ha⟩ | rfl | ⟨rfl | rfl, ha⟩ | ⟨rfl, ha, hb⟩ | ⟨rfl, ha⟩ | ⟨rfl, ha, hb⟩ | ⟨rfl, ha⟩ | rfl
  · exact ax_go_19
  · rfl
  · show dq_set w 25 a (-1) 19 = w 19
    exact dq_set_r (by decide)
  · show dq_set w 25 a (nI (dq_pl w 0)) 19 = w 19
    exact dq_set_r (by decide)
  · show dq_set w 25 a (if b = 24 then -1 else (-3) - nI b) 19 = w 19
    exact dq_set_r (by decide)
  · exact ax_drink_19
  · exact ax_land_19
  · exact ax_noise_r (by decide)
  · exact ax_pray_19
theorem dq_RT.h12 (JV : dq_JV n t l w) (RT : dq_RT n w) : ¬ w 19 0 ≤ 11 := by
  have := dq_nx_12 (w := w) n JV.1.h8 (by rw [RT.2]; decide)
  rw [RT.2] at this
  exact this
theorem ax_deed_J {d a b : Nat} (JV : dq_JV n t l w) (RT : dq_RT n w) (hd : dq_DV t d a b w) : dq_JV n t l (ax_deed n t d a b w).2 ∧ ¬ (ax_deed n t d a b w).2 19 0 ≤ 11 := by
  have h := ax_deed_JK JV.1 JV.2.1 JV.2.2 RT.1 hd
  refine ⟨⟨ax_deed_I JV.1 hd, h.1, h.2⟩, ?_⟩
  rw [ax_deed_19 hd]
  exact dq_RT.h12 JV RT
/-- an act's end -/
theorem km_fin {d a b : Nat} {s1 u : dk_S} (JV : dq_JV n t l w) (RT : dq_RT n w) (hd : dq_DV t d a b w) (P : mx_P (ax_deed n t d a b w).2 s1 u) (on : s1 4 60 1 = 111) (k : ∀ u', mx_E t (ax_on n (ax_deed n t d a b w).2) s1 u' → J u') : wf_X9_ends u J := by
  obtain ⟨h1, h2⟩ := ax_deed_J JV RT hd
  exact km_ends P.1 h1 h2 (by rw [P.on (by decide)]; exact on) (fun u' h => k u' (mx_PE P h))
/-- what is thrown is told first -/
def mx_F (s : dk_S) (e : Int32) : dk_S := dq_st s 4 60 0 e
theorem mx_F_R {e : Int32} (R : mr_R w (s 4)) : mr_R w (mx_F s e 4) := by
  unfold mx_F
  rw [dq_st_p]
  exact R.out (Or.inr ⟨rfl, by omega⟩)
theorem mx_F_1 {e : Int32} {k : Nat} (hk : k ≠ 0) : mx_F s e 4 60 k = s 4 60 k := by
  unfold mx_F
  rw [dq_st_p, dq_set_ne (Or.inr hk)]
theorem mx_F_q {e : Int32} {q k : Nat} (hq : q ≠ 60) : mx_F s e 4 q k = s 4 q k := by
  unfold mx_F
  rw [dq_st_p, dq_set_q hq]
theorem km_rest (kf : ¬ s 4 60 1 = 111 → K 0 (mx_F s 1)) (kk : s 4 60 1 = 111 → mr_R w (s 4) ∧ dq_JV n t l w ∧ dq_RT n w ∧ ∀ u, mx_E t (ax_on n (ax_deed n t 1 0 0 w).2) (mx_F s 0) u → K (u 4 60 2) u) : wf_X9_rest s K := by
  unfold wf_X9_rest
  refine km_isOn (fun on => dq_1 ?_) (fun h => dq_0 ?_)
  · obtain ⟨R, JV, RT, k⟩ := kk on
    unfold wf_X9_rest_13
    refine km_goes0 (dq_1' ?_)
    exact km_fin (d := 1) (a := 0) (b := 0) JV RT (Or.inr (Or.inl rfl)) (mx_P.rf (mx_F_R R)) ((mx_F_1 (s := s) (e := 0) (k := 1) (by decide)).trans on) k
  · unfold wf_X9_rest_13
    exact km_goesN (by decide) (dq_0' (kf h))
theorem km_shout {x : Int32} (k1 : ¬ mr_in x 1 30 → K 0 (mx_F s 1)) (k2 : mr_in x 1 30 → ¬ s 4 60 1 = 111 → K 0 (mx_F s 2)) (kk : ∀ a, 1 ≤ a → a ≤ 30 → x = nI a → s 4 60 1 = 111 → mr_R w (s 4) ∧ dq_JV n t l w ∧ dq_RT n w ∧ ∀ u, mx_E t (ax_on n (ax_deed n t 7 a 0 w).2) (mx_F s 0) u → K (ax_deed n t 7 a 0 w).1 u) : wf_X9_shout x s K := by
  unfold wf_X9_shout
  refine km_in (fun h => dq_1' (km_isOn (fun on => dq_1' ?_) (fun g => dq_0' ?_))) (fun h => dq_0' ?_)
  · obtain ⟨a, ha, e⟩ : ∃ a, (1 ≤ a ∧ a ≤ 30) ∧ x = nI a := by
      obtain ⟨h1, h2⟩ := h
      have e1 : (1 : Int32).toInt = 1 := rfl
      have e30 : (30 : Int32).toInt = 30 := rfl
      rw [Int32.lt_iff_toInt_lt] at h1 h2
      refine ⟨x.toInt.toNat, ⟨by omega, by omega⟩, ?_⟩
      rw [dq_iN]
      exact dq_of_int (by omega)
    obtain ⟨R, JV, RT, k⟩ := kk a ha.1 ha.2 e on
    subst e
    unfold wf_X9_shout_27
    have R1 : mr_R w (mx_F s 0 4) := mx_F_R R
    have hp := (JV.1.pl 0 (by decide)).1
    have e76 : mx_F s 0 4 76 (0 : Int32).toNatClampNeg = nI (mt_T (dq_pl w 0)) := mr_place R1 JV.1.pl (b := 0) (by decide)
    refine km_goes0 (dq_1' ⟨dq_v0 (by decide) (by decide), ?_⟩)
    show wf_X9_sounds (mx_F s 0 4 76 (0 : Int32).toNatClampNeg) (nI a) (mx_F s 0) _
    rw [e76]
    refine km_sounds R1 JV.1 hp (by omega) (fun u P => ?_)
    exact km_fin (d := 7) (a := a) (b := 0) JV RT (Or.inr (Or.inr (Or.inr (Or.inr (Or.inr (Or.inr (Or.inl ⟨rfl, by omega⟩))))))) P ((mx_F_1 (s := s) (e := 0) (k := 1) (by decide)).trans on) k
  · unfold wf_X9_shout_27
    exact km_goesN (by decide) (dq_0' (k2 h g))
  · unfold wf_X9_shout_27
    exact km_goesN (by decide) (dq_0' (k1 h))
theorem km_pray (kf : ¬ s 4 60 1 = 111 → K 0 (mx_F s 1)) (kk : s 4 60 1 = 111 → mr_R w (s 4) ∧ dq_JV n t l w ∧ dq_RT n w ∧ ∀ u, mx_E t (ax_on n (ax_deed n t 8 0 0 w).2) (mx_F s 0) u → K (ax_deed n t 8 0 0 w).1 u) : wf_X9_pray s K := by
  unfold wf_X9_pray
  refine km_isOn (fun on => dq_1 ?_) (fun h => dq_0 ?_)
  · obtain ⟨R, JV, RT, k⟩ := kk on
    have R1 : mr_R w (mx_F s 0 4) := mx_F_R R
    unfold wf_X9_pray_13
    refine km_goes0 (dq_1' ⟨dq_v0 (by decide) (by decide), dq_v0 (by decide) (by decide), ?_⟩)
    show (mx_F s 0 4 70 (0 : Int32).toNatClampNeg ≤ 3 * mx_F s 0 4 77 (0 : Int32).toNatClampNeg → _) ∧ (¬ mx_F s 0 4 70 (0 : Int32).toNatClampNeg ≤ 3 * mx_F s 0 4 77 (0 : Int32).toNatClampNeg → ((mx_F s 0 4 60 31 < 0 → _) ∧ (¬ mx_F s 0 4 60 31 < 0 → _)))
    have e70 : mx_F s 0 4 70 (0 : Int32).toNatClampNeg = w 17 0 := R1.r70 (k := 0) (by decide)
    have e77 : mx_F s 0 4 77 (0 : Int32).toNatClampNeg = w 18 0 := R1.r77 (k := 0) (by decide)
    have e31 : mx_F s 0 4 60 31 = w 0 7 := R1.n31
    have fin : ∀ v u, (ax_deed n t 8 0 0 w).2 = v → mx_P v (mx_F s 0) u → wf_X9_ends u (fun s14 => K (v 0 7) s14) := by
      intro v u hv P
      rw [← hv] at P ⊢
      exact km_fin (d := 8) (a := 0) (b := 0) JV RT (Or.inr (Or.inr (Or.inr (Or.inr (Or.inr (Or.inr (Or.inr rfl))))))) P ((mx_F_1 (s := s) (e := 0) (k := 1) (by decide)).trans on) k
    have no : ¬ (dq_wk w 0 ∧ ¬ w 0 7 < 0) → wf_X9_pray_50 K 0 (mx_F s 0) := by
      intro g
      have ev : (ax_deed n t 8 0 0 w).2 = dq_set w 0 7 (w 0 7 - 1) := dq_if_f g
      unfold wf_X9_pray_50
      refine br_t rfl ⟨dq_v0 (by decide) (by decide), ?_⟩
      unfold wf_X9_pray_75
      refine ⟨dq_v0 (by decide) (by decide), mx_put (a := 77) (k := 0) (br_t rfl ?_)⟩
      have P1 : mx_P w (mx_F s 0) (dq_st (mx_F s 0) 4 77 0 (mx_F s 0 4 77 (0 : Int32).toNatClampNeg)) := by
        refine ⟨?_, ?_, dq_st_fr⟩
        · rw [dq_st_p]
          have : dq_set (mx_F s 0 4) 77 0 (mx_F s 0 4 77 (0 : Int32).toNatClampNeg) = mx_F s 0 4 := dq_set_same (w := mx_F s 0 4) (q := 77) (k := 0)
          rw [this]; exact R1
        · rw [dq_st_p]
          exact mk_o.set (by unfold mk_g; omega)
      unfold wf_X9_pray_90
      have e31' : dq_st (mx_F s 0) 4 77 0 (mx_F s 0 4 77 (0 : Int32).toNatClampNeg) 4 60 31 = w 0 7 := P1.1.n31
      rw [e31']
      have P2 : mx_P (dq_set w 0 7 (w 0 7 - 1)) (mx_F s 0) (dq_st (dq_st (mx_F s 0) 4 77 0 (mx_F s 0 4 77 (0 : Int32).toNatClampNeg)) 4 60 31 (w 0 7 - 1)) := P1.st (P1.1.p0 (Or.inr (Or.inr ⟨rfl, rfl⟩))) (by unfold mk_g; omega)
      refine mx_put (nm_r (e' := w 0 7 - 1) (by rw [dq_st_p, dq_set_eq]) ?_)
      have q := fin _ _ ev P2
      have e : dq_set w 0 7 (w 0 7 - 1) 0 7 = w 0 7 - 1 := dq_set_eq
      rw [e] at q
      exact q
    have yes : dq_wk w 0 ∧ ¬ w 0 7 < 0 → wf_X9_pray_50 K 1 (mx_F s 0) := by
      intro g
      have ev : (ax_deed n t 8 0 0 w).2 = dq_set (dq_set w 18 0 (w 17 0)) 0 7 (w 0 7 - 5) := dq_if_t g
      unfold wf_X9_pray_50
      refine br_f (by decide) ⟨dq_v0 (by decide) (by decide), ?_⟩
      rw [e70]
      unfold wf_X9_pray_75
      refine ⟨dq_v0 (by decide) (by decide), mx_put (a := 77) (k := 0) (br_f (by decide) ?_)⟩
      have P1 : mx_P (dq_set w 18 0 (w 17 0)) (mx_F s 0) (dq_st (mx_F s 0) 4 77 0 (w 17 0)) := (mx_P.rf R1).st (R1.p77 (k := 0) (by decide)) (by unfold mk_g; omega)
      unfold wf_X9_pray_90
      have e31' : dq_st (mx_F s 0) 4 77 0 (w 17 0) 4 60 31 = w 0 7 := by rw [P1.1.n31, dq_set_q (by decide)]
      rw [e31']
      have P2 : mx_P (dq_set (dq_set w 18 0 (w 17 0)) 0 7 (w 0 7 - 5)) (mx_F s 0) (dq_st (dq_st (mx_F s 0) 4 77 0 (w 17 0)) 4 60 31 (w 0 7 - 5)) := P1.st (P1.1.p0 (Or.inr (Or.inr ⟨rfl, rfl⟩))) (by unfold mk_g; omega)
      refine mx_put (nm_r (e' := w 0 7 - 5) (by rw [dq_st_p, dq_set_eq]) ?_)
      have q := fin _ _ ev P2
      have e : dq_set (dq_set w 18 0 (w 17 0)) 0 7 (w 0 7 - 5) 0 7 = w 0 7 - 5 := dq_set_eq
      rw [e] at q
      exact q
    rw [e70, e77, e31]
    exact br_c (fun g => no fun q => q.1 g) (fun g => br_c (fun g2 => no fun q => q.2 g2) (fun g2 => yes ⟨g, g2⟩))
  · unfold wf_X9_pray_13
    exact km_goesN (by decide) (dq_0' (kf h))
theorem mt_V_i {x y : Int32} (hx : x < 0 ∨ ∃ c, c < 144 ∧ x = nI c) (hy : ∃ c, c < 144 ∧ y = nI c) : mt_V x = mt_V y ↔ x = y := by
  obtain ⟨d, hd, rfl⟩ := hy
  have hdT := mt_T_lt hd
  rw [mt_V_c hd]
  rcases hx with h | ⟨c, hc, rfl⟩
  · rw [mt_V_n h]
    constructor
    · intro g; rw [g] at h; exact absurd h (nI_pos (by omega))
    · intro g; rw [g] at h; exact absurd h (nI_pos (by omega))
  · have hcT := mt_T_lt hc
    rw [mt_V_c hc, nI_eq (by omega) (by omega), nI_eq (by omega) (by omega), mt_T_i hc hd]
theorem dq_TP_neg (I : dq_IV n t l w) {x : Nat} (hx : x < 24) : w 25 x < 0 ∨ ∃ c, c < 144 ∧ w 25 x = nI c := by
  rcases I.tp x hx with q | q | q | ⟨b, hb, q⟩
  · rw [q]; exact Or.inl (by decide)
  · rw [q]; exact Or.inl (by decide)
  · exact Or.inr q
  · rw [q]; exact Or.inl (dq_bag_neg (by have := I.t24; omega))
theorem km_take {x : Int32} (k1 : ¬ mr_th t x → K 0 (mx_F s 1)) (R : mr_R w (s 4)) (I : dq_IV n t l w) (k2 : mr_th t x → ¬ s 4 60 1 = 111 → K 0 (mx_F s 2))
    (k3 : ∀ a, a < t → x = nI a → s 4 60 1 = 111 → ¬ w 25 a = w 14 0 → K 0 (mx_F s 3)) (k4 : ∀ a, a < t → x = nI a → s 4 60 1 = 111 → w 25 a = w 14 0 → ¬ dq_cw w t + dq_sum (fun i => dq_wi w a 24 i) (dq_wt w) t ≤ 30 → K 0 (mx_F s 4))
    (kk : ∀ a, a < t → x = nI a → s 4 60 1 = 111 → w 25 a = w 14 0 → dq_cw w t + dq_sum (fun i => dq_wi w a 24 i) (dq_wt w) t ≤ 30 → dq_JV n t l w ∧ dq_RT n w ∧ ∀ u, mx_E t (ax_on n (ax_deed n t 2 a 0 w).2) (mx_F s 0) u → K (ax_deed n t 2 a 0 w).1 u) : wf_X9_take x s K := by
  unfold wf_X9_take
  have ht := I.t24
  have fault : ∀ e : Int32, ¬ e = 0 → K 0 (mx_F s e) → wf_X9_take_62 K x e s := fun e he h => by
    unfold wf_X9_take_62
    exact km_goesN he (dq_0' h)
  refine km_isThing R I (fun a ha e => dq_1' (km_isOn (fun on => dq_1' ⟨?_, dq_v0 (by decide) (by decide), ?_⟩) (fun g => dq_0' (fault 2 (by decide) (k2 ⟨a, ha, e⟩ g))))) (fun h => dq_0' (fault 1 (by decide) (k1 h)))
  · rw [e]; exact vp_in_nI (by omega) (by decide)
  · have hp := I.pl 0 (by decide)
    have e76 : s 4 76 (0 : Int32).toNatClampNeg = mt_V (w 14 0) := R.r76 (k := 0) (by decide)
    have iff := mt_V_i (dq_TP_neg I (x := a) (by omega)) ⟨_, hp.1, hp.2⟩
    rw [e76, e, nI_clamp (by omega), R.r82 (by omega)]
    rw [e] at fault
    refine br_c (fun g => km_carriedWeight R I (km_wholeWeight R I ha (br_c (fun g2 => ?_) (fun g2 => fault 4 (by decide) (k4 a ha e on (iff.1 g) g2))))) (fun g => fault 3 (by decide) (k3 a ha e on (fun q => g (iff.2 q))))
    obtain ⟨JV, RT, k⟩ := kk a ha e on (iff.1 g) g2
    have R1 : mr_R w (mx_F s 0 4) := mx_F_R R
    have P1 : mx_P (dq_set w 25 a (-1)) (mx_F s 0) (dq_st (mx_F s 0) 4 82 a (-1)) := by
      have q := R1.p82 (k := a) (v := -1) (by omega)
      rw [mt_V_1] at q
      exact (mx_P.rf R1).st q (by unfold mk_g; omega)
    have I1 : dq_IV n t l (dq_set w 25 a (-1)) := I.s25 (Or.inl rfl)
    unfold wf_X9_take_62
    refine km_goes0 (dq_1' ⟨vp_in_nI (by omega) (by decide), mx_putI (by omega) (km_carriedWeight P1.1 I1 ?_)⟩)
    exact km_fin (d := 2) (a := a) (b := 0) JV RT (Or.inr (Or.inr (Or.inl ⟨Or.inl rfl, ha⟩))) P1 ((mx_F_1 (s := s) (e := 0) (k := 1) (by decide)).trans on) k
theorem km_handFault {x : Int32} (R : mr_R w (s 4)) (I : dq_IV n t l w) (k1 : ¬ mr_th t x → K 1 s) (k2 : mr_th t x → ¬ s 4 60 1 = 111 → K 2 s) (k3 : ∀ a, a < t → x = nI a → s 4 60 1 = 111 → ¬ w 25 a = -1 → K 3 s) (kk : ∀ a, a < t → x = nI a → s 4 60 1 = 111 → w 25 a = -1 → K 0 s) : wf_X9_handFault x s K := by
  unfold wf_X9_handFault
  have ht := I.t24
  refine km_isThing R I (fun a ha e => dq_1' (km_isOn (fun on => dq_1' ⟨?_, ?_⟩) (fun g => dq_0' (k2 ⟨a, ha, e⟩ g)))) (fun h => dq_0' (k1 h))
  · rw [e]; exact vp_in_nI (by omega) (by decide)
  · have e82 : s 4 82 x.toNatClampNeg = mt_V (w 25 a) := by rw [e, nI_clamp (by omega), R.r82 (by omega)]
    rw [e82]
    exact br_c (fun g => kk a ha e on (mt_V_m1.1 g)) (fun g => k3 a ha e on (fun q => g (mt_V_m1.2 q)))
theorem km_drop {x : Int32} (R : mr_R w (s 4)) (I : dq_IV n t l w) (k1 : ¬ mr_th t x → K 0 (mx_F s 1)) (k2 : mr_th t x → ¬ s 4 60 1 = 111 → K 0 (mx_F s 2)) (k3 : ∀ a, a < t → x = nI a → s 4 60 1 = 111 → ¬ w 25 a = -1 → K 0 (mx_F s 3))
    (kk : ∀ a, a < t → x = nI a → s 4 60 1 = 111 → w 25 a = -1 → dq_JV n t l w ∧ dq_RT n w ∧ ∀ u, mx_E t (ax_on n (ax_deed n t 3 a 0 w).2) (mx_F s 0) u → K (ax_deed n t 3 a 0 w).1 u) : wf_X9_drop x s K := by
  unfold wf_X9_drop
  have ht := I.t24
  refine km_handFault R I (fun h => km_goesN (by decide) (dq_0' (k1 h))) (fun h g => km_goesN (by decide) (dq_0' (k2 h g))) (fun a ha e on g => km_goesN (by decide) (dq_0' (k3 a ha e on g))) (fun a ha e on g => ?_)
  obtain ⟨JV, RT, k⟩ := kk a ha e on g
  have R1 : mr_R w (mx_F s 0 4) := mx_F_R R
  have hp := I.pl 0 (by decide)
  subst e
  have P1 : mx_P (dq_set w 25 a (nI (dq_pl w 0))) (mx_F s 0) (dq_st (mx_F s 0) 4 82 a (nI (mt_T (dq_pl w 0)))) := by
    have q := R1.p82 (k := a) (v := nI (dq_pl w 0)) (by omega)
    rw [mt_V_c hp.1] at q
    exact (mx_P.rf R1).st q (by unfold mk_g; omega)
  have I1 : dq_IV n t l (dq_set w 25 a (nI (dq_pl w 0))) := I.s25 (Or.inr (Or.inr ⟨_, hp.1, rfl⟩))
  refine km_goes0 (dq_1' ⟨dq_v0 (by decide) (by decide), vp_in_nI (by omega) (by decide), ?_⟩)
  have e76 : dq_st s 4 60 0 0 4 76 (0 : Int32).toNatClampNeg = nI (mt_T (dq_pl w 0)) := mr_place R1 I.pl (b := 0) (by decide)
  rw [e76]
  refine mx_putI (by omega) (km_carriedWeight P1.1 I1 ?_)
  exact km_fin (d := 3) (a := a) (b := 0) JV RT (Or.inr (Or.inr (Or.inl ⟨Or.inr rfl, ha⟩))) P1 ((mx_F_1 (s := s) (e := 0) (k := 1) (by decide)).trans on) k
theorem km_isPotion {d : Nat} (hd : d < 8) (k1 : 3 ≤ d ∧ d ≤ 5 → K 1 s) (k0 : ¬ (3 ≤ d ∧ d ≤ 5) → K 0 s) : wf_X9_isPotion (nI d) s K := by
  unfold wf_X9_isPotion
  have e : mr_in (nI d) 3 5 ↔ (3 ≤ d ∧ d ≤ 5) := by
    have := km_inI (a := (d : Int)) (lo := 3) (hi := 5) (by omega) (by decide) (by decide)
    rw [dq_iN]
    rw [show (3 : Int32) = dq_iI 3 from rfl, show (5 : Int32) = dq_iI 5 from rfl, this]
    omega
  exact km_in (fun h => ⟨dq_nz1, k1 (e.1 h)⟩) (fun h => ⟨dq_nz0, k0 fun g => h (e.2 g)⟩)
theorem km_drink {x : Int32} (R : mr_R w (s 4)) (I : dq_IV n t l w) (k1 : ¬ mr_th t x → K 0 (mx_F s 1)) (k2 : mr_th t x → ¬ s 4 60 1 = 111 → K 0 (mx_F s 2)) (k3 : ∀ a, a < t → x = nI a → s 4 60 1 = 111 → ¬ w 25 a = -1 → K 0 (mx_F s 3))
    (k4 : ∀ a, a < t → x = nI a → s 4 60 1 = 111 → w 25 a = -1 → ¬ (3 ≤ dq_kd w a ∧ dq_kd w a ≤ 5) → K 0 (mx_F s 4))
    (kk : ∀ a, a < t → x = nI a → s 4 60 1 = 111 → w 25 a = -1 → (3 ≤ dq_kd w a ∧ dq_kd w a ≤ 5) → dq_JV n t l w ∧ dq_RT n w ∧ ∀ u, mx_E t (ax_on n (ax_deed n t 5 a 0 w).2) (mx_F s 0) u → K (ax_deed n t 5 a 0 w).1 u) : wf_X9_drink x s K := by
  unfold wf_X9_drink
  have ht := I.t24
  have fault : ∀ e : Int32, ¬ e = 0 → K 0 (mx_F s e) → wf_X9_drink_28 K x e s := fun e he h => by
    unfold wf_X9_drink_28
    exact km_goesN he (dq_0' h)
  refine km_handFault R I (fun h => dq_rf (by decide) (fault 1 (by decide) (k1 h))) (fun h g => dq_rf (by decide) (fault 2 (by decide) (k2 h g))) (fun a ha e on g => dq_rf (by decide) (fault 3 (by decide) (k3 a ha e on g))) (fun a ha e on g => dq_rt rfl ⟨?_, ?_⟩)
  · rw [e]; exact vp_in_nI (by omega) (by decide)
  · have hk := mr_kind R I (x := a) (by omega)
    rw [e, nI_clamp (by omega), hk.1]
    rw [e] at fault
    refine km_isPotion hk.2 (fun c => dq_1' ?_) (fun c => dq_0' (fault 4 (by decide) (k4 a ha e on g c)))
    obtain ⟨JV, RT, k⟩ := kk a ha e on g c
    have R1 : mr_R w (mx_F s 0 4) := mx_F_R R
    have hk1 := mr_kind R1 I (x := a) (by omega)
    have hk8 := hk1.2
    have P2 := km_use R1 I (x := a) (by omega)
    unfold wf_X9_drink_28
    refine km_goes0 (dq_1' ⟨vp_in_nI (by omega) (by decide), ?_⟩)
    show ∀ v9 : Int32, v9 = mx_F s 0 4 71 (nI a).toNatClampNeg → _
    rw [nI_clamp (by omega), hk1.1]
    refine nm_e ⟨vp_in_nI (by omega) (by decide), mx_put ⟨vp_in_nI hk8 (by decide), ?_⟩⟩
    rw [nI_clamp (by omega)]
    refine mx_put (v := 1) (km_works (b := 0) P2.1 hk8 (by decide) (fun u P3 => ⟨vp_in_nI hk8 (by decide), ?_⟩))
    have I3 : dq_IV n t l (ax_work (dq_kd w a) 0 (ax_use a w)) := ax_work_I (ax_use_I I)
    have P4 := P2.tr P3
    rw [P4.1.r64 hk8]
    have last : ∀ v u, (ax_deed n t 5 a 0 w).2 = v → mx_P v (mx_F s 0) u → wf_X9_drink_86 K u := by
      intro v u hv P
      have e77 : u 4 77 (0 : Int32).toNatClampNeg = v 18 0 := P.1.r77 (k := 0) (by decide)
      unfold wf_X9_drink_86
      refine ⟨dq_v0 (by decide) (by decide), nm_r e77 ?_⟩
      rw [← hv] at P ⊢
      exact km_fin (d := 5) (a := a) (b := 0) JV RT (Or.inr (Or.inr (Or.inr (Or.inr (Or.inl ⟨rfl, ha⟩))))) P ((mx_F_1 (s := s) (e := 0) (k := 1) (by decide)).trans on) k
    have hW1 : dq_WD (ax_work (dq_kd w a) 0 (ax_use a w)) := fun d hd => by
      rw [ax_work_o (by decide)]
      unfold ax_use
      rw [dq_set_q (by decide), dq_set_q (by decide)]
      exact JV.2.2.2.1 d hd
    have hp := (I.pl 0 (by decide)).1
    have e10 : ax_work (dq_kd w a) 0 (ax_use a w) 10 = w 10 := by
      rw [ax_work_o (by decide)]
      unfold ax_use
      rw [dq_set_r (by decide), dq_set_r (by decide)]
    have e14 : dq_pl (ax_work (dq_kd w a) 0 (ax_use a w)) 0 = dq_pl w 0 := by
      unfold dq_pl
      rw [ax_work_o (by decide)]
      unfold ax_use
      rw [dq_set_q (by decide), dq_set_q (by decide)]
    refine dq_rb (fun g2 => last _ u ?_ P4) (fun g2 => ⟨dq_v0 (by decide) (by decide), ?_⟩)
    · exact dq_if_f g2
    · have e76 : u 4 76 (0 : Int32).toNatClampNeg = nI (mt_T (dq_pl w 0)) := by
        have := mr_place P4.1 I3.pl (b := 0) (by decide)
        rw [e14] at this
        exact this
      rw [e76]
      refine km_burns P4.1 I3 hW1 hp (fun u2 P5 => last _ u2 ?_ (P4.tr P5))
      exact dq_if_t g2
end DQXJ
