/-! the checks of the law hold -/
section DLH
variable {G : dk_G} {n t l m r : Nat} {st sp : Int32} {T W0 A : dq_W} {D : Nat → Nat × Nat × Nat} {B : Nat → Int32} {s u v : dk_S} {K : Int32 → dk_S → Prop} {X : String → dk_S → Prop} {w : dq_W}
theorem dl_sp {c : Nat} : dq_sp c = nI (100 * (c / 12) + c % 12) := rfl
theorem dl_sp_d {c : Nat} (h : c < 144) : dq_sp c / 100 = nI (c / 12) ∧ dq_sp c - dq_sp c / 100 * 100 = nI (c % 12) := by
  have e : dq_sp c / 100 = nI (c / 12) := by
    rw [dl_sp]
    have := pk_div (a := 100 * (c / 12) + c % 12) (d := 100) (by omega) (by decide) (by decide)
    rw [show (100 : Int32) = nI 100 from rfl, this]
    congr 1
    omega
  refine ⟨e, ?_⟩
  rw [e, dl_sp, show (100 : Int32) = nI 100 from rfl, pk_mul, pk_sub (by omega)]
  congr 1
  omega
theorem dl_sp_eq {c d : Nat} (hc : c < 144) (hd : d < 144) : dq_sp c = dq_sp d ↔ c = d := by
  rw [dl_sp, dl_sp, nI_eq (by omega) (by omega)]
  omega

/-- living creatures stand apart, on free cells, as far as the law sees -/
theorem dl_areApart {b : Nat} (hb : n = b + 1) (P : dq_P n t l m m st T W0 D B sp) (Kf : dq_Kf n t m r st T W0 A D B sp s) (U : dq_IU n (dq_shw n t m st T W0 D)) (k : K 1 s) : wf_L_areApart G (nI b) s K X := by
  have Is := dp_Is P
  have n8 := P.1.1.h8
  obtain ⟨W, hW⟩ : ∃ W, W = dq_shw n t m st T W0 D := ⟨_, rfl⟩
  have place : ∀ {i : Nat} {KK : Int32 → dk_S → Prop}, i < n → KK (dq_sp (dq_pl W i)) s → wf_X8_placeOf (nI i) s KK X := fun hi q => dp_placeOf hi P Kf (hW ▸ q)
  have health : ∀ {i : Nat} {KK : Int32 → dk_S → Prop}, i < n → KK (W 18 i) s → wf_X8_healthOf (nI i) s KK X := fun hi q => dp_healthOf hi P Kf (hW ▸ q)
  rw [← hW] at Is U
  unfold wf_L_areApart
  refine loop_0 (fun f i u => wf_L_areApart_4 G K X f (nI b) 1 (nI i) u) (fun _ u => u = s) n s rfl ?_ ?_
  · rintro f u rfl
    show wf_L_areApart_4 G K X (f + 1) (nI b) 1 (nI n) u
    unfold wf_L_areApart_4
    exact br_t (nI_lt (by omega) (by omega)) ⟨dq_nz1, k⟩
  · rintro f i u hi rfl next
    show wf_L_areApart_4 G K X (f + 1) (nI b) 1 (nI i) u
    unfold wf_L_areApart_4
    have hp := (Is.pl i (by omega)).1
    -- the inner loop
    have inner : wf_L_areApart_65 G K X (wf_L_areApart_4 G K X f) (nI b) (nI i) (dq_sp (dq_pl W i)) u := by
      unfold wf_L_areApart_65
      refine loop_0 (fun f2 j u2 => wf_L_areApart_74 G K X (fun (w20 : Int32) (w21 : Int32) (w22 : Int32) (s23 : dk_S) => ∀ v24 : Int32, v24 = w22 + 1 → wf_L_areApart_4 G K X f w20 w21 v24 s23) f2 (nI b) 1 (nI i) (dq_sp (dq_pl W i)) (nI j) u2) (fun _ u2 => u2 = u) i u rfl ?_ ?_
      · rintro f2 u2 rfl
        show wf_L_areApart_74 G K X _ (f2 + 1) (nI b) 1 (nI i) (dq_sp (dq_pl W i)) (nI i) u2
        unfold wf_L_areApart_74
        exact br_t (nI_le (Nat.le_refl _) (by omega)) (nm_r (nI_1 i) (next u2 rfl))
      · rintro f2 j u2 hj rfl next2
        show wf_L_areApart_74 G K X _ (f2 + 1) (nI b) 1 (nI i) (dq_sp (dq_pl W i)) (nI j) u2
        unfold wf_L_areApart_74
        have go : wf_L_areApart_112 G K X (wf_L_areApart_74 G K X (fun (w20 : Int32) (w21 : Int32) (w22 : Int32) (s23 : dk_S) => ∀ v24 : Int32, v24 = w22 + 1 → wf_L_areApart_4 G K X f w20 w21 v24 s23) f2) (fun (w20 : Int32) (w21 : Int32) (w22 : Int32) (s23 : dk_S) => ∀ v24 : Int32, v24 = w22 + 1 → wf_L_areApart_4 G K X f w20 w21 v24 s23) (nI b) (nI i) (dq_sp (dq_pl W i)) (nI j) u2 := by
          unfold wf_L_areApart_112
          exact nm_r (nI_1 j) (next2 u2 rfl)
        refine br_f (nI_ge hj (by omega)) (br_f (by decide) (health hi ⟨fun _ => go, fun h1 => health (by omega) ⟨fun _ => go, fun h2 => place (by omega) ⟨fun h3 => ?_, fun _ => go⟩⟩⟩))
        have h3 := (dl_sp_eq (Is.pl j (by omega)).1 hp).1 h3
        have := (U i hi h1).2 j (by omega) h2 h3
        omega
    refine br_f (nI_nlt (by omega) (by omega)) (br_f (by decide) (place hi ?_))
    obtain ⟨e1, e2⟩ := dl_sp_d hp
    rw [e2, e1]
    refine dp_cellQ (by omega) (by omega) P Kf ?_
    rw [← hW, show 12 * (dq_pl W i / 12) + dq_pl W i % 12 = dq_pl W i by omega]
    refine health hi ⟨fun _ => inner, fun h1 => ⟨fun _ => inner, fun q1 => ⟨fun _ => inner, fun q2 => ⟨fun q3 => ?_, fun _ => inner⟩⟩⟩⟩
    rcases (U i hi h1).1 with g | g | g
    · exact absurd g q1
    · exact absurd g q2
    · exact absurd g q3
/-! things -/
theorem dl_up_8 (hP : dq_TP w 9) (hA : dq_AC w) {x : Nat} (hx : x < 9) {i : Nat} (h : ∀ k, k < i → dq_bg w (dq_up w x k) ≠ 24) : i ≤ 8 := by
  obtain ⟨r, hr⟩ := hA
  refine Nat.le_of_not_lt fun g => ?_
  obtain ⟨a, b, h1, h2, h3⟩ := dq_php 9 (dq_up w x) (fun k hk => dp_up_lt hP (by decide) hx k (fun k2 hk2 => h k2 (by omega)))
  have := dq_up_r hP (by decide) hr (by omega) b a h1 (fun k hk => h k (by omega))
  rw [h3] at this
  omega
theorem dl_wh_bg (hP : dq_TP w 9) {x : Nat} (hx : x < 9) : (dq_bg w x = 24 ∧ -3 < dp_wh (w 25 x) ∧ ¬ dp_wh (w 25 x) < -2 ∧ ¬ 1111 < dp_wh (w 25 x) ∧ (dp_wh (w 25 x) = -1 ↔ w 25 x = -1)) ∨ (dq_bg w x < 9 ∧ ¬ -3 < dp_wh (w 25 x) ∧ (-3) - dp_wh (w 25 x) = nI (dq_bg w x) ∧ (dp_wh (w 25 x) = -1 ↔ w 25 x = -1)) := by
  rcases hP x (by omega) with h | h | ⟨c, hc, h⟩ | ⟨b, hb, h⟩
  · refine Or.inl ⟨dq_bg_no h (by decide), ?_⟩
    rw [h]
    decide
  · refine Or.inl ⟨dq_bg_no h (by decide), ?_⟩
    rw [h]
    decide
  · refine Or.inl ⟨dq_bg_no h (dq_cell_bag hc), ?_⟩
    have e : dp_wh (w 25 x) = nI (100 * (c / 12) + c % 12) := by
      unfold dp_wh
      rw [h, if_neg (nI_pos (by omega)), nI_clamp (by omega), dl_sp]
    rw [e, h]
    have z := nI_toInt (n := 100 * (c / 12) + c % 12) (by omega)
    refine ⟨?_, ?_, ?_, fun g => absurd g (dq_m1' (by omega)), fun g => absurd g (dq_m1' (by omega))⟩
    · rw [Int32.lt_iff_toInt_lt, z]
      have : (-3 : Int32).toInt = -3 := rfl
      omega
    · rw [Int32.lt_iff_toInt_lt, z]
      have : (-2 : Int32).toInt = -2 := rfl
      omega
    · rw [Int32.lt_iff_toInt_lt, z]
      have : (1111 : Int32).toInt = 1111 := rfl
      omega
  · have e := dq_bg_yes (f := w) (x := x) (b := b) (by omega) h
    refine Or.inr ⟨by rw [e]; exact hb, ?_⟩
    have e2 : dp_wh (w 25 x) = (-3) - nI b := by
      unfold dp_wh
      rw [h, if_pos (dq_bag_neg (by omega))]
    rw [e2, e, h]
    exact ⟨dq_bag_le (by omega), dq_bag_sub (by omega), fun g => g, fun g => g⟩
theorem dl_areThings (ht : t = 9) (P : dq_P n t l m m st T W0 D B sp) (Kf : dq_Kf n t m r st T W0 A D B sp s) (JW : ∀ x, x < 9 → dj_R 0 9 (dq_wt (dq_shw n t m st T W0 D) x)) (CW : dp_CW 9 (dq_shw n t m st T W0 D)) (k : K 1 s) : wf_L_areThings G s K X := by
  subst ht
  have Is := dp_Is P
  obtain ⟨W, hW⟩ : ∃ W, W = dq_shw n 9 m st T W0 D := ⟨_, rfl⟩
  have where_ : ∀ {i : Nat} {KK : Int32 → dk_S → Prop}, i < 9 → KK (dp_wh (W 25 i)) s → wf_X8_whereIs (nI i) s KK X := fun hi q => dp_whereIs hi P Kf (hW ▸ q)
  have weigh : ∀ {i : Nat} {KK : Int32 → dk_S → Prop}, i < 9 → KK (dq_sum (fun j => dq_wi W i 24 j) (dq_wt W) 9) s → wf_X8_weightOf (nI i) s KK X := fun hi q => dp_weightOf hi P Kf (hW ▸ q)
  rw [← hW] at Is JW CW
  have hP := Is.tp
  unfold wf_L_areThings
  refine loop_0 (fun f i u => wf_L_areThings_6 G K X (fun (w1 : Int32) (w2 : Int32) (s3 : dk_S) => wf_L_areThings_121 G K X w1 w2 s3) f (dq_sum (fun a => W 25 a = -1) (fun a => dq_sum (fun j => dq_wi W a 24 j) (dq_wt W) 9) i) 1 (nI i) u) (fun _ u => u = s) 9 s rfl ?_ ?_
  · rintro f u rfl
    show wf_L_areThings_6 G K X _ (f + 1) _ 1 (nI 9) u
    unfold wf_L_areThings_6
    refine br_t (by decide) ?_
    rw [dp_hands Is (dq_wt W)]
    unfold wf_L_areThings_121
    exact br_f (by decide) (br_f (mr_lt_le.2 CW) k)
  · rintro f i u hi rfl next
    show wf_L_areThings_6 G K X _ (f + 1) _ 1 (nI i) u
    unfold wf_L_areThings_6
    refine br_f (nI_ge (b := 9) hi (by omega)) (br_f (by decide) (where_ hi ?_))
    -- behind the chain: it ends in c steps at y
    have fin : ∀ (c : Nat) (y : Nat), c < 10 → y < 9 → dq_bg W y = 24 → wf_L_areThings_61 G K X (wf_L_areThings_6 G K X (fun (w1 : Int32) (w2 : Int32) (s3 : dk_S) => wf_L_areThings_121 G K X w1 w2 s3) f) (fun (w1 : Int32) (w2 : Int32) (s3 : dk_S) => wf_L_areThings_121 G K X w1 w2 s3) (dq_sum (fun a => W 25 a = -1) (fun a => dq_sum (fun j => dq_wi W a 24 j) (dq_wt W) 9) i) (nI i) (dp_wh (W 25 i)) (nI c) (dp_wh (W 25 y)) u := fun c y hc hy hb => by
      unfold wf_L_areThings_61
      obtain ⟨a, ha, ea⟩ := dp_sum_N (P := fun j => dq_wi W i 24 j) (g := dq_wt W) 9 (by decide) JW
      rcases dl_wh_bg hP hy with ⟨_, q1, q2, q3, _⟩ | ⟨q, _⟩
      · refine br_f (nI_ge (b := 10) hc (by omega)) (weigh hi ?_)
        refine br_f (by rw [ea]; exact nI_pos (by omega)) (br_f q2 (br_f q3 ?_))
        unfold wf_L_areThings_96
        have hiff : dp_wh (W 25 i) = -1 ↔ W 25 i = -1 := by
          rcases dl_wh_bg hP hi with ⟨_, _, _, _, z⟩ | ⟨_, _, _, z⟩
          · exact z
          · exact z
        refine ⟨fun g => ?_, fun g => weigh hi ?_⟩
        · have g := fun q => g (hiff.2 q)
          have nx := next u rfl
          rw [dq_sum_f (P := fun a => W 25 a = -1) g] at nx
          rw [Int32.add_zero]
          exact nm_e (nm_r (nI_1 i) nx)
        · have g := hiff.1 g
          have nx := next u rfl
          rw [dq_sum_t (P := fun a => W 25 a = -1) g] at nx
          exact nm_e (nm_r (nI_1 i) nx)
      · omega
    -- the chain
    have chain : ∀ d c : Nat, c + d = 9 → (∀ k, k < c → dq_bg W (dq_up W i k) ≠ 24) → wf_L_areThings_30 G K X (fun (w9 : Int32) (w10 : Int32) (w11 : Int32) (w12 : Int32) (w13 : Int32) (s14 : dk_S) => wf_L_areThings_61 G K X (wf_L_areThings_6 G K X (fun (w1 : Int32) (w2 : Int32) (s3 : dk_S) => wf_L_areThings_121 G K X w1 w2 s3) f) (fun (w1 : Int32) (w2 : Int32) (s3 : dk_S) => wf_L_areThings_121 G K X w1 w2 s3) w9 w10 w11 w12 w13 s14) (d + 1) (dq_sum (fun a => W 25 a = -1) (fun a => dq_sum (fun j => dq_wi W a 24 j) (dq_wt W) 9) i) (nI i) (dp_wh (W 25 i)) (nI c) (dp_wh (W 25 (dq_up W i c))) u := by
      intro d
      induction d with
      | zero =>
        intro c hc hk
        have := dl_up_8 hP Is.ac hi hk
        omega
      | succ d ih =>
        intro c hc hk
        have hu := dp_up_lt hP (by decide) hi c hk
        unfold wf_L_areThings_30
        rcases dl_wh_bg hP hu with ⟨q0, q1, _⟩ | ⟨q0, q1, q2, _⟩
        · exact br_t q1 (fin c _ (by omega) hu q0)
        · refine br_f q1 (br_f (nI_ge (b := 10) (by omega) (by omega)) ?_)
          rw [q2]
          have hk2 : ∀ k, k < c + 1 → dq_bg W (dq_up W i k) ≠ 24 := fun k hk3 => by
            by_cases e : k = c
            · rw [e]; omega
            · exact hk k (by omega)
          exact where_ q0 (nm_r (nI_1 c) (ih (c + 1) (by omega) hk2))
    exact ⟨10, chain 9 0 (by decide) (fun k hk => absurd hk (Nat.not_lt_zero _))⟩
end DLH
