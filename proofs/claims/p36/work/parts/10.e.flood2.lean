/-! the flood itself -/
section DQF
variable {p q1 : Nat} {s : dk_S} {J : dk_S → Prop}
theorem kx_fill (hn : 144 < 2 ^ 31) {v : Int32} (k : ∀ u, (∀ c, c < 144 → u p q1 c = v) → (∀ a b, a ≠ p ∨ b ≠ q1 → u a b = s a b) → J u) : wf_J7_fill_53178 p q1 144 v s J := by
  unfold wf_J7_fill_53178
  refine nm_e (e := Int32.ofNat 144) (P := fun v1 => ∃ nn2 : Nat, wf_J7_fill_53178_5 p q1 144 J nn2 v 0 v1 s) ?_
  refine loop_0 (fun m i u => wf_J7_fill_53178_5 p q1 144 J m v (nI i) (nI 144) u) (fun i u => (∀ c, c < i → u p q1 c = v) ∧ (∀ a b, a ≠ p ∨ b ≠ q1 → u a b = s a b)) 144 s ⟨fun c hc => absurd hc (Nat.not_lt_zero _), fun a b _ => rfl⟩ ?_ ?_
  · rintro m u ⟨h1, h2⟩
    show wf_J7_fill_53178_5 p q1 144 J (m + 1) v (nI 144) (nI 144) u
    unfold wf_J7_fill_53178_5
    exact br_t (nI_le (Nat.le_refl _) hn) (k u h1 h2)
  · rintro m i u hi ⟨h1, h2⟩ h
    show wf_J7_fill_53178_5 p q1 144 J (m + 1) v (nI i) (nI 144) u
    unfold wf_J7_fill_53178_5
    refine br_f (nI_ge hi hn) ⟨vp_in_nI hi hn, ?_⟩
    rw [nI_clamp (by omega)]
    refine nm_e (nm_r (nI_1 i) (h _ ⟨fun c hc => ?_, fun a b hab => ?_⟩))
    · show dq_st u p q1 i v p q1 c = v
      rw [dq_st_p]
      by_cases e : c = i
      · rw [e, dq_set_eq]
      · rw [dq_set_ne (Or.inr e)]; exact h1 c (by omega)
    · rw [dq_row_r hab]; exact h2 a b hab
/-- what the flood's state holds: other rows as they were, the row, the delays of seen cells, the queue -/
def dq_FS (s : dk_S) (p q1 : Nat) (z e : Nat → Int) (q : Nat → Nat) (T : Nat) (u : dk_S) : Prop :=
  (∀ a b, a ≠ p ∨ (b ≠ q1 ∧ b ≠ 3 ∧ b ≠ 4) → u a b = s a b) ∧ (∀ c, c < 144 → u p q1 c = dq_iI (z c)) ∧ (∀ c, c < 144 → z c ≠ -1 → u p 4 c = dq_iI (e c)) ∧ (∀ i, i < T → u p 3 i = nI (q i))
theorem kx_flood {a sh mo : Nat} {lk : Int32} (hq : q1 = 5 ∨ q1 = 6) (hS : dq_SG (s p)) (ha : a < 144) (hsh : 1 ≤ sh) (hsh3 : sh ≤ 3) (hmo : mo < 2 ^ 31)
    (k : ∀ (u : dk_S) (z : Nat → Int), (∀ a b, a ≠ p ∨ (b ≠ q1 ∧ b ≠ 3 ∧ b ≠ 4) → u a b = s a b) → (∀ c, c < 144 → u p q1 c = dq_iI (z c)) →
      (∀ c, c < 144 → z c = -1 ∨ (0 ≤ z c ∧ z c ≤ 1300 ∧ dq_R (dq_tl (s p) sh lk) a (z c).toNat c)) → (∀ c d, dq_R (dq_tl (s p) sh lk) a d c → d ≤ mo ∨ 1300 < mo → c < 144 ∧ z c ≠ -1 ∧ z c ≤ d) → J u) :
    wf_X1_flood p p q1 144 (nI a) (nI sh) lk (nI mo) s J := by
  unfold wf_X1_flood
  refine kx_fill (by decide) (fun u0 f1 f2 => kx_put ha (by decide) (kx_put ha (by decide) (kx_putL (k := 0) rfl (by decide) (by decide) ?_)))
  have htl3 : ∀ c, dq_tl (s p) sh lk c ≤ 3 := fun c => Nat.le_trans (dq_tlv_le hsh) hsh3
  -- the outer loop
  have key : ∀ d h T z e q u, h + d = 432 → dq_FI (dq_tl (s p) sh lk) a mo z e q h T → dq_FS s p q1 z e q T u → wf_X1_flood_35 p p q1 144 J (d + 1) (nI sh) lk (nI mo) (nI T) (nI h) u := by
    intro d
    induction d with
    | zero =>
      intro h T z e q u hd HI HS
      have := HI.1.1
      have := HI.2.1
      omega
    | succ d ih =>
      intro h T z e q u hd HI HS
      have hT : T ≤ 430 := by have := HI.1.1; omega
      obtain ⟨S1, S2, S3, S4⟩ := HS
      have hsg : u p 2 = s p 2 := S1 p 2 (Or.inr ⟨by omega, by decide, by decide⟩)
      unfold wf_X1_flood_35
      by_cases hh : T ≤ h
      · have e1 : h = T := by have := HI.2.1; omega
        subst e1
        obtain ⟨r1, r2⟩ := dq_FI_e ha HI
        exact br_t (nI_le hh (by omega)) (k u z S1 S2 r1 r2)
      · have hlt : h < T := by omega
        obtain ⟨c1, c2⟩ := HI.1.2.2.1 h hlt
        refine br_f (nI_ge hlt (by omega)) (br_f (nI_ge (b := 432) (by omega) (by decide)) ⟨vp_in_nI (by omega) (by decide), ?_⟩)
        rw [nI_clamp (by omega)]
        refine nm_r (S4 h hlt) (kx_at c1 (by decide) (kx_at c1 (by decide) ?_))
        rw [S2 _ c1, S3 _ c1 c2]
        have hb : 0 ≤ e (q h) ∧ e (q h) ≤ z (q h) ∧ z (q h) ≤ 3 * T := by
          rcases HI.1.2.1 _ c1 with g | g
          · exact absurd g c2
          · exact ⟨g.1, g.2.1, g.2.2.1⟩
        -- the inner loop
        have inner : ∀ dw w T' z' e' q' u', w + dw = 4 → q' h = q h → z' (q h) = z (q h) → dq_FJ (dq_tl (s p) sh lk) a mo z' e' q' h T' w → dq_FS s p q1 z' e' q' T' u' →
            wf_X1_flood_115 p p q1 144 J (fun (w11 : Int32) (w12 : Int32) (w13 : Int32) (w14 : Int32) (w15 : Int32) (s16 : dk_S) => ∀ v17 : Int32, v17 = w15 + 1 → wf_X1_flood_35 p p q1 144 J (d + 1) w11 w12 w13 w14 v17 s16) (dw + 1) (nI sh) lk (nI mo) (nI T') (nI h) (nI (q h)) (dq_iI (z (q h))) (dq_iI 0) (nI w) u' := by
          intro dw
          induction dw with
          | zero =>
            intro w T' z' e' q' u' hw hqh hzh HJ HS'
            unfold wf_X1_flood_115
            exact br_t (nI_le (a := 4) (by omega) (by omega)) (nm_r (nI_1 h) (ih (h + 1) T' z' e' q' u' (by omega) (dq_FJ_I HJ (Or.inl (by omega))) HS'))
          | succ dw ihw =>
            intro w T' z' e' q' u' hw hqh hzh HJ HS'
            have hT' : T' ≤ 430 := by have := HJ.1.1; omega
            have hhT := HJ.2.1
            obtain ⟨U1, U2, U3, U4⟩ := HS'
            have hsg' : u' p 2 = s p 2 := U1 p 2 (Or.inr ⟨by omega, by decide, by decide⟩)
            have hS' : dq_SG (u' p) := fun c hc => by rw [hsg']; exact hS c hc
            have hsge : ∀ n, dq_sg (u' p) n = dq_sg (s p) n := fun n => by unfold dq_sg; rw [hsg']
            unfold wf_X1_flood_115
            refine br_f (nI_ge (b := 4) (by omega) (by decide)) ⟨fun g => absurd rfl g, fun _ => ?_⟩
            by_cases hm : (mo : Int) ≤ z (q h)
            · refine br_t ?_ (nm_r (nI_1 h) (ih (h + 1) T' z' e' q' u' (by omega) (dq_FJ_I HJ (Or.inr ?_)) ⟨U1, U2, U3, U4⟩))
              · rw [dq_iN]
                exact (dq_ile (by omega) (by omega) (by omega) (by omega)).2 hm
              · rw [hqh, hzh]; exact hm
            · refine br_f ?_ (dq_beside c1 (by omega) ?_)
              · rw [dq_iN]
                exact fun g => hm ((dq_ile (by omega) (by omega) (by omega) (by omega)).1 g)
              · have hnl := dq_nb_le (q h) c1 w (by omega)
                refine kx_signAt hS' hnl (kx_tollOf ?_)
                rw [hsge]
                have htl : dq_tlv (dq_sg (s p) (dq_nb (q h) w)) sh lk = dq_tl (s p) sh lk (dq_nb (q h) w) := rfl
                rw [htl]
                have ht3 := htl3 (dq_nb (q h) w)
                by_cases ht : dq_tl (s p) sh lk (dq_nb (q h) w) = 0
                · rw [ht]
                  exact br_t (show nI 0 ≤ 0 by decide) (nm_r (nI_1 w) (ihw (w + 1) T' z' e' q' u' (by omega) hqh hzh (dq_FJ_old HJ (Or.inl (by rw [hqh]; exact ht))) ⟨U1, U2, U3, U4⟩))
                · have hn144 : dq_nb (q h) w < 144 := by
                    rcases Nat.lt_or_ge (dq_nb (q h) w) 144 with g | g
                    · exact g
                    · exact absurd (by rw [show dq_nb (q h) w = 144 by omega]; exact dq_tl_out) ht
                  refine br_f (nI_nle (by omega) (by omega)) ?_
                  rw [dq_pI_in hn144]
                  refine kx_at hn144 (by decide) ?_
                  rw [U2 _ hn144]
                  have hzn : z' (dq_nb (q h) w) = -1 ∨ (0 ≤ z' (dq_nb (q h) w) ∧ z' (dq_nb (q h) w) ≤ 3 * T') := by
                    rcases HJ.1.2.1 _ hn144 with g | g
                    · exact Or.inl g
                    · exact Or.inr ⟨by omega, g.2.2.1⟩
                  by_cases hz : z' (dq_nb (q h) w) = -1
                  · refine ⟨fun g => absurd (by rw [hz]; rfl) g, fun _ => ?_⟩
                    refine kx_put hn144 (by decide) (kx_put hn144 (by decide) (kx_put (by omega) (by decide) (nm_r (nI_1 T') (nm_r (nI_1 w) ?_))))
                    refine ihw (w + 1) (T' + 1) (fun c => if c = dq_nb (q h) w then z (q h) + dq_tl (s p) sh lk (dq_nb (q h) w) else z' c) (fun c => if c = dq_nb (q h) w then (dq_tl (s p) sh lk (dq_nb (q h) w) : Int) - 1 else e' c) (fun i => if i = T' then dq_nb (q h) w else q' i) _ (by omega) ?_ ?_ (dq_FJ_new HJ (by omega) (htl3 _) (by rw [hqh]) hn144 (by omega) hz (by rw [hqh, hzh]; exact if_pos rfl) (fun c hc => if_neg hc) (if_pos rfl) (fun c hc => if_neg hc) (fun i hi => if_neg (by omega)) (if_pos rfl)) ?_
                    · show (if h = T' then dq_nb (q h) w else q' h) = q h
                      rw [if_neg (by omega)]; exact hqh
                    · show (if q h = dq_nb (q h) w then z (q h) + (dq_tl (s p) sh lk (dq_nb (q h) w) : Int) else z' (q h)) = z (q h)
                      rw [if_neg (fun g => dq_nb_ne (q h) c1 w (by omega) g.symm)]; exact hzh
                    · refine ⟨fun x y hxy => ?_, fun c hc => ?_, fun c hc hcz => ?_, fun i hi => ?_⟩
                      · unfold dq_st
                        rw [dq_row_r (by omega), dq_row_r (by omega), dq_row_r (by omega)]
                        exact U1 x y hxy
                      · rw [dq_st_p, dq_set_q (by omega), dq_st_p, dq_set_q (by omega), dq_st_p]
                        show dq_set (u' p) q1 (dq_nb (q h) w) _ q1 c = dq_iI (if c = dq_nb (q h) w then _ else _)
                        by_cases ec : c = dq_nb (q h) w
                        · rw [if_pos ec, ec, dq_set_eq, dq_iN, dq_iadd]
                        · rw [if_neg ec, dq_set_ne (Or.inr ec)]; exact U2 c hc
                      · rw [dq_st_p, dq_set_q (by omega), dq_st_p]
                        show dq_set _ 4 (dq_nb (q h) w) _ 4 c = dq_iI (if c = dq_nb (q h) w then _ else _)
                        by_cases ec : c = dq_nb (q h) w
                        · rw [if_pos ec, ec, dq_set_eq, dq_iN, show (1 : Int32) = dq_iI 1 from rfl, dq_isub]
                        · rw [if_neg ec, dq_set_ne (Or.inr ec), dq_st_p, dq_set_q (by omega)]
                          refine U3 c hc ?_
                          have hcz : (if c = dq_nb (q h) w then z (q h) + (dq_tl (s p) sh lk (dq_nb (q h) w) : Int) else z' c) ≠ -1 := hcz
                          rw [if_neg ec] at hcz
                          exact hcz
                      · rw [dq_st_p]
                        show dq_set _ 3 T' _ 3 i = nI (if i = T' then _ else _)
                        by_cases ei : i = T'
                        · rw [if_pos ei, ei, dq_set_eq]
                        · rw [if_neg ei, dq_set_ne (Or.inr ei), dq_st_p, dq_set_q (by omega), dq_st_p, dq_set_q (by omega)]
                          exact U4 i (by omega)
                  · refine ⟨fun _ => nm_r (nI_1 w) (ihw (w + 1) T' z' e' q' u' (by omega) hqh hzh (dq_FJ_old HJ (Or.inr (by rw [hqh]; exact ⟨hn144, hz⟩))) ⟨U1, U2, U3, U4⟩), fun g => absurd ?_ hz⟩
                    exact (dq_ieq (by omega) (by omega) (by omega) (by omega)).1 (show dq_iI (z' (dq_nb (q h) w)) = dq_iI (-1) from g)
        by_cases hw : e (q h) = 0
        · rw [hw]
          exact br_t (by decide) ⟨5, inner 4 0 T z e q u rfl rfl rfl (dq_FI_J HI hlt hw) ⟨S1, S2, S3, S4⟩⟩
        · refine br_f (fun g => hw ?_) (kx_put c1 (by decide) (kx_put (by omega) (by decide) (nm_r (nI_1 T) ⟨1, ?_⟩)))
          · have := (dq_ile (a := e (q h)) (b := 0) (by omega) (by omega) (by omega) (by omega)).1 g
            omega
          · unfold wf_X1_flood_115
            refine br_f (by decide) ⟨fun _ => nm_r (nI_1 h) (ih (h + 1) (T + 1) z (fun c => if c = q h then e c - 1 else e c) (fun i => if i = T then q h else q i) _ (by omega) (dq_FI_wait HI hlt (by omega) (fun i hi => if_neg (by omega)) (if_pos rfl) (if_pos rfl) (fun c hc => if_neg hc)) ⟨fun x y hxy => ?_, fun c hc => ?_, fun c hc hcz => ?_, fun i hi => ?_⟩), fun g => absurd ?_ hw⟩
            · unfold dq_st
              rw [dq_row_r (by omega), dq_row_r (by omega)]
              exact S1 x y hxy
            · rw [dq_st_p, dq_set_q (by omega), dq_st_p, dq_set_q (by omega)]
              exact S2 c hc
            · rw [dq_st_p, dq_set_q (by omega), dq_st_p]
              show dq_set _ 4 (q h) _ 4 c = dq_iI (if c = q h then e c - 1 else e c)
              by_cases ec : c = q h
              · rw [if_pos ec, ec, dq_set_eq, show (1 : Int32) = dq_iI 1 from rfl, dq_isub]
              · rw [if_neg ec, dq_set_ne (Or.inr ec)]
                exact S3 c hc hcz
            · rw [dq_st_p]
              show dq_set _ 3 T _ 3 i = nI (if i = T then q h else q i)
              by_cases ei : i = T
              · rw [if_pos ei, ei, dq_set_eq]
              · rw [if_neg ei, dq_set_ne (Or.inr ei), dq_st_p, dq_set_q (by omega)]
                exact S4 i (by omega)
            · exact (dq_ieq (by omega) (by omega) (by omega) (by omega)).1 (show dq_iI (e (q h)) = dq_iI 0 from g)
  refine ⟨433, key 432 0 1 (fun c => if c = a then 0 else -1) (fun _ => 0) (fun _ => a) _ rfl (dq_FI_0 ha (if_pos rfl) (fun c hc => if_neg hc) rfl rfl) ⟨fun x y hxy => ?_, fun c hc => ?_, fun c hc hcz => ?_, fun i hi => ?_⟩⟩
  · unfold dq_st
    rw [dq_row_r (by omega), dq_row_r (by omega), dq_row_r (by omega)]
    exact f2 x y (by omega)
  · rw [dq_st_p, dq_set_q (by omega), dq_st_p, dq_set_q (by omega), dq_st_p]
    show dq_set (u0 p) q1 a 0 q1 c = dq_iI (if c = a then 0 else -1)
    by_cases ec : c = a
    · rw [if_pos ec, ec, dq_set_eq]; rfl
    · rw [if_neg ec, dq_set_ne (Or.inr ec)]; exact f1 c hc
  · have hcz : (if c = a then (0 : Int) else -1) ≠ -1 := hcz
    have ec : c = a := by
      by_cases ec : c = a
      · exact ec
      · exact absurd (if_neg ec) hcz
    rw [dq_st_p, dq_set_q (by omega), dq_st_p, ec, dq_set_eq]; rfl
  · have : i = 0 := by omega
    rw [this, dq_st_p, dq_set_eq]
end DQF
