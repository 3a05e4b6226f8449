/-! the reference's least sums of steps -/
def mf_Z (z : Nat → Nat) (m : dq_W) : Prop := ∀ c, c < 144 → m 86 (mt_T c) = nI (z c)
def mf_G (tl : Nat → Nat) (a : Nat) (z : Nat → Nat) : Prop := z a = 0 ∧ ∀ c, c < 144 → z c = 100000 ∨ (z c < 100000 ∧ dq_R tl a (z c) c)
def mf_cl (tl : Nat → Nat) (z : Nat → Nat) (c v : Nat) : Prop := dq_nb c v < 144 → z (dq_nb c v) < 100000 → 0 < tl c → z c ≤ z (dq_nb c v) + tl c
def mf_I (w : dq_W) (tl : Nat → Nat) (a : Nat) (z0 : Nat → Nat) (P : Prop) (s0 u : dk_S) (f : Int32) : Prop := ∃ z, mx_P w s0 u ∧ mf_Z z (u 4) ∧ mf_G tl a z ∧ ((f = 0 ∧ (∀ c, c < 144 → z c = z0 c) ∧ P) ∨ (f = 1 ∧ dq_sm z 144 < dq_sm z0 144))
theorem mf_I.f01 {w : dq_W} {tl : Nat → Nat} {a : Nat} {z0 : Nat → Nat} {P : Prop} {s0 u : dk_S} {f : Int32} (h : mf_I w tl a z0 P s0 u f) : f = 0 ∨ f = 1 := by
  obtain ⟨z, h1, h2, h3, h4 | h4⟩ := h
  · exact Or.inl h4.1
  · exact Or.inr h4.1
/-- what a cell costs in the reference: 100000, no way -/
def mf_co (tl : Nat → Nat) (c co : Nat) : Prop := (tl c = 0 ∧ co = 100000) ∨ (0 < tl c ∧ tl c ≤ 3 ∧ co = tl c)
def ms_S (tl : Nat → Nat) (a : Nat) (m : dq_W) : Prop := ∀ c, c < 144 → (dq_D tl a c = -1 ∧ m 86 (mt_T c) = 100000) ∨ (0 ≤ dq_D tl a c ∧ dq_D tl a c < 100000 ∧ m 86 (mt_T c) = dq_iI (dq_D tl a c))
section DQFS
variable {w : dq_W} {s u s0 : dk_S} {K : dk_S → Prop} {tl : Nat → Nat} {a : Nat} {z0 : Nat → Nat} {Pc : Prop}
theorem km_fs_no {B : Int32 → Int32 → Int32 → Int32 → Int32 → Int32 → dk_S → Prop} {E : Int32 → Int32 → Int32 → Int32 → dk_S → Prop} {x2 x3 f co r : Int32} {c i : Nat} (hf : f = 0 ∨ f = 1) (hc : c < 144) (h : ∀ u', u' 4 = u 4 → dq_fr 4 u u' → B x2 x3 f (nI (mt_T c)) co (nI (i + 1)) u') : wf_X9_findsSteps_173 K B E x2 x3 f (nI (mt_T c)) co (nI i) r 0 u := by
  have hl := mt_T_lt hc
  unfold wf_X9_findsSteps_173
  refine br_t rfl ⟨vp_in_nI hl (by decide), ?_⟩
  unfold wf_X9_findsSteps_206
  refine ⟨vp_in_nI hl (by decide), ?_⟩
  rw [nI_clamp (by omega)]
  refine nm_e ?_
  have e := h (dq_st u 4 86 (mt_T c) (u 4 86 (mt_T c))) (by rw [dq_st_p, dq_set_same]) dq_st_fr
  rcases hf with rfl | rfl
  · exact dq_rt rfl (br_t rfl (nm_r (nI_1 i) e))
  · exact dq_rf (by decide) (nm_r (nI_1 i) e)
theorem km_fs_yes {B : Int32 → Int32 → Int32 → Int32 → Int32 → Int32 → dk_S → Prop} {E : Int32 → Int32 → Int32 → Int32 → dk_S → Prop} {x2 x3 f co : Int32} {c b i : Nat} (hc : c < 144) (hb : b < 144) (h : B x2 x3 1 (nI (mt_T c)) co (nI (i + 1)) (dq_st u 4 86 (mt_T c) (u 4 86 (mt_T b) + co))) : wf_X9_findsSteps_173 K B E x2 x3 f (nI (mt_T c)) co (nI i) (nI (mt_T b)) 1 u := by
  have hl := mt_T_lt hc
  have hlb := mt_T_lt hb
  unfold wf_X9_findsSteps_173
  refine br_f (by decide) ⟨vp_in_nI hlb (by decide), ?_⟩
  unfold wf_X9_findsSteps_206
  refine ⟨vp_in_nI hl (by decide), ?_⟩
  rw [nI_clamp (by omega), nI_clamp (by omega)]
  refine nm_e ⟨fun _ => nm_r (nI_1 i) h, fun _ => br_f (by decide) (nm_r (nI_1 i) h)⟩
theorem mf_G.le (h : mf_G tl a z0) {c : Nat} (hc : c < 144) : z0 c ≤ 100000 := by
  rcases h.2 c hc with g | g <;> omega
/-- the four ways of a cell -/
theorem km_fs_ways {E : Int32 → Int32 → Int32 → Int32 → dk_S → Prop} {x2 x3 f : Int32} {c co : Nat} (hc : c < 144) (hco : mf_co tl c co) (h : mf_I w tl a z0 Pc s0 u f)
    (k : ∀ u' f', mf_I w tl a z0 (Pc ∧ ∀ v, v < 4 → mf_cl tl z0 c v) s0 u' f' → E x2 x3 f' (nI (mt_T c)) u') : ∃ n, wf_X9_findsSteps_108 K E n x2 x3 f (nI (mt_T c)) (nI co) 0 u := by
  have hl := mt_T_lt hc
  have co5 : co ≤ 100000 := by rcases hco with g | g <;> omega
  refine loop_0 (σ := dk_S × Int32) (fun m i x => wf_X9_findsSteps_108 K E m x2 x3 x.2 (nI (mt_T c)) (nI co) (nI i) x.1) (fun i x => mf_I w tl a z0 (Pc ∧ ∀ v, v < i → mf_cl tl z0 c v) s0 x.1 x.2) 4 (u, f) ?_ ?_ ?_
  · obtain ⟨z, h1, h2, h3, h4⟩ := h
    refine ⟨z, h1, h2, h3, ?_⟩
    rcases h4 with ⟨g1, g2, g3⟩ | g
    · exact Or.inl ⟨g1, g2, g3, fun v hv => absurd hv (Nat.not_lt_zero _)⟩
    · exact Or.inr g
  · rintro m ⟨u1, f1⟩ H
    show wf_X9_findsSteps_108 K E (m + 1) x2 x3 f1 (nI (mt_T c)) (nI co) (nI 4) u1
    unfold wf_X9_findsSteps_108
    exact br_t (by decide) (k u1 f1 H)
  · rintro m i ⟨u1, f1⟩ hi H next
    show wf_X9_findsSteps_108 K E (m + 1) x2 x3 f1 (nI (mt_T c)) (nI co) (nI i) u1
    have hf := mf_I.f01 H
    have H : mf_I w tl a z0 (Pc ∧ ∀ v, v < i → mf_cl tl z0 c v) s0 u1 f1 := H
    obtain ⟨z, h1, h2, h3, h4⟩ := H
    have hn := dq_nb_le c hc i hi
    unfold wf_X9_findsSteps_108
    -- nothing to be done by this way
    have no : ∀ r, ((∀ d, d < 144 → z d = z0 d) → mf_cl tl z0 c i) → wf_X9_findsSteps_173 K (wf_X9_findsSteps_108 K E m) E x2 x3 f1 (nI (mt_T c)) (nI co) (nI i) r 0 u1 := by
      intro r hcl
      refine km_fs_no hf hc (fun u2 e1 e2 => next (u2, f1) ⟨z, ?_, ?_, h3, ?_⟩)
      · exact ⟨by show mr_R w (u2 4); rw [e1]; exact h1.1, by show mk_o (s0 4) (u2 4); rw [e1]; exact h1.2.1, h1.2.2.tr e2⟩
      · show mf_Z z (u2 4)
        rw [e1]; exact h2
      · rcases h4 with ⟨g1, g2, g3, g4⟩ | g
        · refine Or.inl ⟨g1, g2, g3, fun v hv => ?_⟩
          by_cases e : v = i
          · rw [e]; exact hcl g2
          · exact g4 v (by omega)
        · exact Or.inr g
    refine br_f (nI_ge (b := 4) hi (by decide)) (km_beside hc hi ?_)
    by_cases hb : dq_nb c i < 144
    · rw [mt_pI_in hb]
      have hlb := mt_T_lt hb
      have zb := h3.le hb
      have zc := h3.le hc
      refine br_f (dq_m1' (by omega)) ⟨vp_in_nI hlb (by decide), ?_⟩
      rw [nI_clamp (by omega), nI_clamp (by omega), h2 _ hb, h2 _ hc]
      refine br_c (fun g1 => no _ fun e hb2 hz => ?_) (fun g1 => br_c (fun g2 => no _ fun e hb2 hz ht => ?_) (fun g2 => ⟨vp_in_nI hlb (by decide), vp_in_nI hl (by decide), ?_⟩))
      · have := (nI_leI (a := 100000) (by decide) (by omega)).1 g1
        have := e _ hb
        omega
      · have := (nI_leI (a := 100000) (by decide) (by omega)).1 g2
        rcases hco with q | q <;> omega
      · have g2' : ¬ 100000 ≤ co := fun q => g2 ((nI_leI (a := 100000) (by decide) (by omega)).2 q)
        have g1' : ¬ 100000 ≤ z (dq_nb c i) := fun q => g1 ((nI_leI (a := 100000) (by decide) (by omega)).2 q)
        have hco2 : 0 < tl c ∧ tl c ≤ 3 ∧ co = tl c := by
          rcases hco with q | q
          · omega
          · exact q
        rw [nI_add]
        refine br_c (fun g3 => no _ fun e hb2 hz ht => ?_) (fun g3 => ?_)
        · have := (nI_leI (by omega) (by omega)).1 g3
          have := e _ hb
          have := e _ hc
          omega
        · have g3' : ¬ z c ≤ z (dq_nb c i) + co := fun q => g3 ((nI_leI (by omega) (by omega)).2 q)
          refine km_fs_yes hc hb ?_
          rw [h2 _ hb, nI_add]
          have hz' : ∀ d, d ≠ c → (fun d => if d = c then z (dq_nb c i) + co else z d) d = z d := fun d hd => if_neg hd
          have hzc : (fun d => if d = c then z (dq_nb c i) + co else z d) c = z (dq_nb c i) + co := if_pos rfl
          have nac : a ≠ c := fun g => by
            have := h3.1
            rw [g] at this
            omega
          refine next (_, 1) ⟨fun d => if d = c then z (dq_nb c i) + co else z d, h1.st (h1.1.out (Or.inl (by decide))) (by unfold mk_g; omega), ?_, ?_, Or.inr ⟨rfl, ?_⟩⟩
          · intro d hd
            show dq_st u1 4 86 (mt_T c) (nI (z (dq_nb c i) + co)) 4 86 (mt_T d) = _
            rw [dq_st_p]
            by_cases e : d = c
            · rw [e, dq_set_eq]
              exact congrArg nI hzc.symm
            · rw [dq_set_ne (Or.inr (fun g => e ((mt_T_i hd hc).1 g))), h2 d hd]
              exact congrArg nI (hz' d e).symm
          · refine ⟨(hz' a nac).trans h3.1, fun d hd => ?_⟩
            by_cases e : d = c
            · rw [e]
              have e2 : (if c = c then z (dq_nb c i) + co else z c) = z (dq_nb c i) + co := if_pos rfl
              show (if c = c then z (dq_nb c i) + co else z c) = 100000 ∨ ((if c = c then z (dq_nb c i) + co else z c) < 100000 ∧ dq_R tl a (if c = c then z (dq_nb c i) + co else z c) c)
              rw [e2]
              refine Or.inr ⟨by omega, ?_⟩
              have hbk := dq_nb_back c hc i hi hb
              have hR : dq_R tl a (z (dq_nb c i)) (dq_nb c i) := by
                rcases h3.2 _ hb with q | q
                · omega
                · exact q.2
              have r := dq_R_s (w := (i + 2) % 4) hR hb (by omega) (by rw [hbk]; exact hc) (by rw [hbk]; exact hco2.1)
              rw [hbk] at r
              rw [hco2.2.2]
              exact r
            · have e2 := hz' d e
              have e2 : (if d = c then z (dq_nb c i) + co else z d) = z d := e2
              show (if d = c then z (dq_nb c i) + co else z d) = 100000 ∨ ((if d = c then z (dq_nb c i) + co else z d) < 100000 ∧ dq_R tl a (if d = c then z (dq_nb c i) + co else z d) d)
              rw [e2]
              exact h3.2 d hd
          · have hs := dq_sm_upd (f := fun d => if d = c then z (dq_nb c i) + co else z d) (g := z) (x := c) 144 hc (fun d _ hd => hz' d hd)
            have hs : dq_sm (fun d => if d = c then z (dq_nb c i) + co else z d) 144 + z c = dq_sm z 144 + (fun d => if d = c then z (dq_nb c i) + co else z d) c := hs
            rw [hzc] at hs
            rcases h4 with ⟨_, g4, _⟩ | ⟨_, g4⟩
            · have := dq_sm_eq (f := z) (g := z0) 144 g4
              omega
            · omega
    · rw [mt_pI_out hb]
      exact br_t rfl (no _ fun _ q => absurd q hb)
/-- one pass over the cells -/
theorem km_fs_pass {cl lk : Nat} {E : Int32 → Int32 → Int32 → dk_S → Prop} (hS : dq_SG w) (R0 : mr_R w (s0 4)) (hco : ∀ c, c < 144 → mf_co tl c (if dq_free (w 2 c) then 1 else if w 2 c = 43 then cl else if w 2 c = 48 ∨ w 2 c = 49 ∨ w 2 c = 50 then lk else 100000))
    (h : mf_I w tl a z0 True s0 u 0) (k : ∀ u' f', mf_I w tl a z0 (∀ j, j < 144 → ∀ v, v < 4 → mf_cl tl z0 (mt_T j) v) s0 u' f' → E (nI cl) (nI lk) f' u') : ∃ n, wf_X9_findsSteps_47 K E n (nI cl) (nI lk) 0 0 u := by
  refine loop_0 (σ := dk_S × Int32) (fun m i x => wf_X9_findsSteps_47 K E m (nI cl) (nI lk) x.2 (nI i) x.1) (fun i x => mf_I w tl a z0 (∀ j, j < i → ∀ v, v < 4 → mf_cl tl z0 (mt_T j) v) s0 x.1 x.2) 144 (u, 0) ?_ ?_ ?_
  · obtain ⟨z, h1, h2, h3, h4⟩ := h
    refine ⟨z, h1, h2, h3, ?_⟩
    rcases h4 with ⟨g1, g2, g3⟩ | g
    · exact Or.inl ⟨g1, g2, fun j hj => absurd hj (Nat.not_lt_zero _)⟩
    · exact Or.inr g
  · rintro m ⟨u1, f1⟩ H
    show wf_X9_findsSteps_47 K E (m + 1) (nI cl) (nI lk) f1 (nI 144) u1
    unfold wf_X9_findsSteps_47
    exact br_t (by decide) (k u1 f1 H)
  · rintro m j ⟨u1, f1⟩ hj H next
    show wf_X9_findsSteps_47 K E (m + 1) (nI cl) (nI lk) f1 (nI j) u1
    have H : mf_I w tl a z0 (∀ i, i < j → ∀ v, v < 4 → mf_cl tl z0 (mt_T i) v) s0 u1 f1 := H
    have R : mr_R w (u1 4) := by
      obtain ⟨z, h1, _⟩ := H
      exact h1.1
    have hc := mt_T_lt hj
    have ej : nI j = nI (mt_T (mt_T j)) := by rw [mt_T_T hj]
    have cell : u1 4 75 j = w 2 (mt_T j) := R.r75 hj
    have go : ∀ co, mf_co tl (mt_T j) co → wf_X9_findsSteps_103 K (wf_X9_findsSteps_47 K E m) E (nI cl) (nI lk) f1 (nI j) (nI co) u1 := by
      intro co h1
      unfold wf_X9_findsSteps_103
      rw [ej]
      refine km_fs_ways hc h1 H (fun u2 f2 H2 => ?_)
      rw [mt_T_T hj]
      refine nm_r (nI_1 j) (next (u2, f2) ?_)
      obtain ⟨z, g1, g2, g3, g4⟩ := H2
      refine ⟨z, g1, g2, g3, ?_⟩
      rcases g4 with ⟨q1, q2, q3, q4⟩ | q
      · refine Or.inl ⟨q1, q2, fun i hi v hv => ?_⟩
        by_cases e : i = j
        · rw [e]; exact q4 v hv
        · exact q3 i (by omega) v hv
      · exact Or.inr q
    have hcj := hco (mt_T j) hc
    have ei : nI j = mt_pI (mt_T j) := by rw [mt_pI_in hc, mt_T_T hj]
    unfold wf_X9_findsSteps_47
    refine br_f (nI_ge (b := 144) hj (by decide)) ?_
    have q : wf_X9_isFree (mt_pI (mt_T j)) u1 (fun r18 s17 => ((r18 = 0 → (vp_in (nI j) 144 ∧ ((¬ (s17 4 75 (nI j).toNatClampNeg) = 43 → (vp_in (nI j) 144 ∧ wf_X9_isDoor (s17 4 75 (nI j).toNatClampNeg) s17 (fun r20 s19 => ((r20 = 0 → wf_X9_findsSteps_103 K (wf_X9_findsSteps_47 K E m) E (nI cl) (nI lk) f1 (nI j) 100000 s19) ∧ (¬ r20 = 0 → wf_X9_findsSteps_103 K (wf_X9_findsSteps_47 K E m) E (nI cl) (nI lk) f1 (nI j) (nI lk) s19))))) ∧ ((s17 4 75 (nI j).toNatClampNeg) = 43 → wf_X9_findsSteps_103 K (wf_X9_findsSteps_47 K E m) E (nI cl) (nI lk) f1 (nI j) (nI cl) s17)))) ∧ (¬ r18 = 0 → wf_X9_findsSteps_103 K (wf_X9_findsSteps_47 K E m) E (nI cl) (nI lk) f1 (nI j) 1 s17))) := by
      refine km_isFree R (by omega) (fun f => dq_1 ?_) (fun f => dq_0 ⟨vp_in_nI hj (by decide), ?_⟩)
      · rw [dq_sg_in hc] at f
        rw [if_pos f] at hcj
        exact go 1 hcj
      · rw [dq_sg_in hc] at f
        rw [if_neg f] at hcj
        rw [nI_clamp (by omega), cell]
        refine dq_rb (fun g => ⟨vp_in_nI hj (by decide), ?_⟩) (fun g => ?_)
        · rw [if_neg g] at hcj
          refine km_isDoor (fun d => dq_1 ?_) (fun d => dq_0 ?_)
          · rw [if_pos (d.resolve_left g)] at hcj
            exact go lk hcj
          · rw [if_neg (fun q => d (Or.inr q))] at hcj
            exact go 100000 hcj
        · rw [if_pos g] at hcj
          exact go cl hcj
    rw [← ei] at q
    exact q
/-- no way needs more than 144 steps -/
theorem mf_wa3 {tl : Nat → Nat} {a : Nat} (h3 : ∀ c, c < 144 → tl c ≤ 3) : ∀ n d c, dq_wa tl a n d c → d ≤ 3 * n
  | 0, d, c, h => by
    have := h.1
    omega
  | n + 1, d, c, ⟨b, v, d', h1, h2, h4, h5, h6, h7, h8⟩ => by
    have := mf_wa3 h3 n d' b h7
    have := h3 c h5
    omega
theorem mf_wa_in {tl : Nat → Nat} {a : Nat} (ha : a < 144) : ∀ n d c, dq_wa tl a n d c → c < 144
  | 0, d, c, h => by
    have := h.2
    omega
  | n + 1, d, c, ⟨b, v, d', h1, h2, h4, h5, h6, h7, h8⟩ => h5
def mf_lv (tl : Nat → Nat) (a k g : Nat) : Prop := g < 144 ∧ (∃ d, dq_wa tl a k d g) ∧ ∀ j, j < k → ¬ ∃ d, dq_wa tl a j d g
theorem mf_back {tl : Nat → Nat} {a m c : Nat} (h : mf_lv tl a m c) : ∀ i, i ≤ m → ∃ g, mf_lv tl a (m - i) g
  | 0, _ => ⟨c, h⟩
  | i + 1, hi => by
    obtain ⟨g, g1, ⟨d, g2⟩, g3⟩ := mf_back h i (by omega)
    obtain ⟨k, hk⟩ : ∃ k, m - i = k + 1 := ⟨m - i - 1, by omega⟩
    have hk2 : m - (i + 1) = k := by omega
    rw [hk] at g2 g3
    rw [hk2]
    obtain ⟨b, v, d', h1, h2, h4, h5, h6, h7, h8⟩ := g2
    refine ⟨b, h1, ⟨d', h7⟩, fun j hj => ?_⟩
    rintro ⟨e, he⟩
    exact g3 (j + 1) (by omega) ⟨e + tl g, b, v, e, h1, h2, h4, h5, h6, he, rfl⟩
theorem mf_short {tl : Nat → Nat} {a d c : Nat} (ha : a < 144) (h3 : ∀ c, c < 144 → tl c ≤ 3) (h : dq_R tl a d c) : ∃ d', d' ≤ 432 ∧ dq_R tl a d' c := by
  obtain ⟨n, h⟩ := h
  obtain ⟨m, ⟨e, he⟩, hm⟩ := dq_min (fun n => ∃ d, dq_wa tl a n d c) n ⟨d, h⟩
  have hl : mf_lv tl a m c := ⟨mf_wa_in ha m e c he, ⟨e, he⟩, fun j hj g => by have := hm j g; omega⟩
  have hm2 : m ≤ 144 := by
    refine Nat.le_of_not_lt fun g => ?_
    have hb : ∀ k, k ≤ m → mf_lv tl a k (Classical.epsilon (mf_lv tl a k)) := fun k hk => by
      refine Classical.epsilon_spec (p := mf_lv tl a k) ?_
      obtain ⟨x, hx⟩ := mf_back hl (m - k) (by omega)
      rw [show m - (m - k) = k by omega] at hx
      exact ⟨x, hx⟩
    obtain ⟨i, j, h1, h2, h4⟩ := dq_php 144 (fun k => Classical.epsilon (mf_lv tl a k)) (fun i hi => (hb i (by omega)).1)
    have h4 : Classical.epsilon (mf_lv tl a i) = Classical.epsilon (mf_lv tl a j) := h4
    have a1 := (hb i (by omega)).2.1
    rw [h4] at a1
    exact (hb j (by omega)).2.2 i h1 a1
  have := mf_wa3 h3 m e c he
  exact ⟨e, by omega, m, he⟩
/-- what is found when a pass changes nothing -/
theorem mf_end (ha : a < 144) (h3 : ∀ c, c < 144 → tl c ≤ 3) {z : Nat → Nat} (hG : mf_G tl a z) (hc : ∀ j, j < 144 → ∀ v, v < 4 → mf_cl tl z (mt_T j) v) {m : dq_W} (hZ : mf_Z z m) : ms_S tl a m := by
  have hcl : ∀ c, c < 144 → ∀ v, v < 4 → mf_cl tl z c v := fun c h v hv => by
    have := hc (mt_T c) (mt_T_lt h) v hv
    rw [mt_T_T h] at this
    exact this
  have z5 : ∀ c, c < 144 → z c ≤ 100000 := fun c h => hG.le h
  have A : ∀ n d c, dq_wa tl a n d c → d < 100000 → z c ≤ d := by
    intro n
    induction n with
    | zero =>
      intro d c h _
      obtain ⟨h1, h2⟩ := h
      subst h2
      rw [hG.1]; omega
    | succ n ih =>
      intro d c h hd
      obtain ⟨b, v, d', h1, h2, h4, h5, h6, h7, h8⟩ := h
      have i1 := ih d' b h7 (by omega)
      have hbk := dq_nb_back b h1 v h2 (by rw [h4]; exact h5)
      rw [h4] at hbk
      have q := hcl c h5 ((v + 2) % 4) (by omega)
      unfold mf_cl at q
      rw [hbk] at q
      have := q h1 (by omega) h6
      omega
  intro c h
  have B : ∀ d, dq_R tl a d c → z c ≠ 100000 ∧ z c ≤ d := by
    intro d hd
    obtain ⟨d', h1, n', h2⟩ := mf_short ha h3 hd
    have q1 := A n' d' c h2 (by omega)
    refine ⟨by omega, ?_⟩
    by_cases g : d < 100000
    · obtain ⟨n, hd⟩ := hd
      exact A n d c hd g
    · omega
  have key : dq_Dp tl a c (if z c = 100000 then -1 else (z c : Int)) := by
    by_cases e : z c = 100000
    · rw [if_pos e]
      exact Or.inl ⟨rfl, fun d hd => (B d hd).1 e⟩
    · rw [if_neg e]
      refine Or.inr ⟨by omega, ?_, fun d hd => by have := (B d hd).2; omega⟩
      rcases hG.2 c h with g | g
      · exact absurd g e
      · rw [Int.toNat_natCast]; exact g.2
  have e := dq_D_u key
  have := z5 c h
  by_cases g : z c = 100000
  · rw [if_pos g] at e
    refine Or.inl ⟨e.symm, ?_⟩
    rw [hZ c h, g]; rfl
  · rw [if_neg g] at e
    refine Or.inr ⟨by omega, by omega, ?_⟩
    rw [hZ c h, ← e, dq_iN]
theorem km_findsSteps {cl lk : Nat} (R : mr_R w (s 4)) (hS : dq_SG w) (ha : a < 144) (hco : ∀ c, c < 144 → mf_co tl c (if dq_free (w 2 c) then 1 else if w 2 c = 43 then cl else if w 2 c = 48 ∨ w 2 c = 49 ∨ w 2 c = 50 then lk else 100000))
    (k : ∀ u, mx_P w s u → ms_S tl a (u 4) → K u) : wf_X9_findsSteps (nI (mt_T a)) (nI cl) (nI lk) s K := by
  have hl := mt_T_lt ha
  have h3 : ∀ c, c < 144 → tl c ≤ 3 := fun c hc => by
    rcases hco c hc with q | q <;> omega
  unfold wf_X9_findsSteps
  refine loop_0 (fun m i u => wf_X9_findsSteps_3 K (fun (w1 : Int32) (w2 : Int32) (w3 : Int32) (s4 : dk_S) => (vp_in w1 144 ∧ (∀ s5 : dk_S, s5 = dk_row s4 4 86 (upd (s4 4 86) w1.toNatClampNeg 0) → ∃ nn6 : Nat, wf_X9_findsSteps_36 K nn6 w2 w3 1 s5))) m (nI (mt_T a)) (nI cl) (nI lk) (nI i) u) (fun i u => mx_P w s u ∧ ∀ j, j < i → u 4 86 j = 100000) 144 s ⟨mx_P.rf R, fun j hj => absurd hj (Nat.not_lt_zero _)⟩ ?_ ?_
  · rintro m u ⟨h1, h2⟩
    unfold wf_X9_findsSteps_3
    refine br_t (by decide) ⟨vp_in_nI hl (by decide), mx_putI (by omega) ?_⟩
    have P1 : mx_P w s (dq_st u 4 86 (mt_T a) 0) := h1.st (h1.1.out (Or.inl (by decide))) (by unfold mk_g; omega)
    have Z1 : mf_Z (fun c => if c = a then 0 else 100000) (dq_st u 4 86 (mt_T a) 0 4) := by
      intro c hc
      rw [dq_st_p]
      by_cases e : c = a
      · rw [e, dq_set_eq]
        show (0 : Int32) = nI (if a = a then 0 else 100000)
        rw [if_pos rfl]; rfl
      · rw [dq_set_ne (Or.inr (fun g => e ((mt_T_i hc ha).1 g))), h2 _ (mt_T_lt hc)]
        show (100000 : Int32) = nI (if c = a then 0 else 100000)
        rw [if_neg e]; rfl
    have G1 : mf_G tl a (fun c => if c = a then 0 else 100000) := by
      refine ⟨if_pos rfl, fun c hc => ?_⟩
      show (if c = a then 0 else 100000) = 100000 ∨ ((if c = a then 0 else 100000) < 100000 ∧ dq_R tl a (if c = a then 0 else 100000) c)
      by_cases e : c = a
      · rw [if_pos e, e]; exact Or.inr ⟨by decide, dq_R_0⟩
      · rw [if_neg e]; exact Or.inl rfl
    have run := loop_m (σ := dk_S × Int32) (fun n x => wf_X9_findsSteps_36 K n (nI cl) (nI lk) x.2 x.1)
      (fun x => mx_P w s x.1 ∧ ∃ z, mf_Z z (x.1 4) ∧ mf_G tl a z ∧ (x.2 = 1 ∨ (x.2 = 0 ∧ ∀ j, j < 144 → ∀ v, v < 4 → mf_cl tl z (mt_T j) v)))
      (fun x => 2 * dq_sm (fun c => (x.1 4 86 (mt_T c)).toNatClampNeg) 144 + (if x.2 = 0 then 0 else 1)) (fun n x H next => by
        obtain ⟨u1, f1⟩ := x
        obtain ⟨P2, z, Z2, G2, hf⟩ := H
        have P2 : mx_P w s u1 := P2
        have Z2 : mf_Z z (u1 4) := Z2
        have smz : ∀ (z' : Nat → Nat) (u' : dk_S), mf_Z z' (u' 4) → mf_G tl a z' → dq_sm (fun c => (u' 4 86 (mt_T c)).toNatClampNeg) 144 = dq_sm z' 144 := fun z' u' hz hg => dq_sm_eq 144 (fun c hc => by
          show (u' 4 86 (mt_T c)).toNatClampNeg = z' c
          have := hg.le hc
          rw [hz c hc, nI_clamp (by omega)])
        show wf_X9_findsSteps_36 K (n + 1) (nI cl) (nI lk) f1 u1
        unfold wf_X9_findsSteps_36
        rcases hf with rfl | ⟨rfl, hcl⟩
        · refine br_f (by decide) ?_
          refine km_fs_pass (z0 := z) (s0 := s) hS R hco ⟨z, P2, Z2, G2, Or.inl ⟨rfl, fun _ _ => rfl, trivial⟩⟩ (fun u2 f2 H2 => next (u2, f2) ?_ ?_)
          · obtain ⟨z', q1, q2, q3, q4⟩ := H2
            refine ⟨q1, z', q2, q3, ?_⟩
            rcases q4 with ⟨r1, r2, r3⟩ | ⟨r1, r2⟩
            · refine Or.inr ⟨r1, fun j hj v hv hb hz ht => ?_⟩
              have := r3 j hj v hv hb (by rw [← r2 _ hb]; exact hz) ht
              rw [r2 _ (mt_T_lt hj), r2 _ hb]
              exact this
            · exact Or.inl r1
          · obtain ⟨z', q1, q2, q3, q4⟩ := H2
            show 2 * dq_sm (fun c => (u2 4 86 (mt_T c)).toNatClampNeg) 144 + (if f2 = 0 then 0 else 1) < 2 * dq_sm (fun c => (u1 4 86 (mt_T c)).toNatClampNeg) 144 + 1
            rw [smz z' u2 q2 q3, smz z u1 Z2 G2]
            rcases q4 with ⟨r1, r2, r3⟩ | ⟨r1, r2⟩
            · rw [r1, dq_sm_eq 144 r2, if_pos rfl]; omega
            · rw [r1, if_neg (by decide)]; omega
        · exact br_t rfl (k u1 P2 (mf_end ha h3 G2 hcl Z2))) (dq_st u 4 86 (mt_T a) 0, 1) ⟨P1, _, Z1, G1, Or.inl rfl⟩
    exact run
  · rintro m i u hi ⟨h1, h2⟩ next
    unfold wf_X9_findsSteps_3
    refine br_f (nI_ge (b := 144) hi (by decide)) ⟨vp_in_nI hi (by decide), mx_putI (by omega) (nm_r (nI_1 i) (next _ ⟨h1.st (h1.1.out (Or.inl (by decide))) (by unfold mk_g; omega), fun j hj => ?_⟩))⟩
    rw [dq_st_p]
    by_cases e : j = i
    · rw [e, dq_set_eq]
    · rw [dq_set_ne (Or.inr e)]; exact h2 j (by omega)
/-- the two that are used -/
theorem mf_co_1 (hS : dq_SG w) : ∀ c, c < 144 → mf_co (dq_tl w 1 0) c (if dq_free (w 2 c) then 1 else if w 2 c = 43 then 1 else if w 2 c = 48 ∨ w 2 c = 49 ∨ w 2 c = 50 then 100000 else 100000) := by
  intro c hc
  have : ∀ v, dq_sgn v → (dq_tlv v 1 0 = 0 ∧ (if dq_free v then 1 else if v = 43 then 1 else if v = 48 ∨ v = 49 ∨ v = 50 then 100000 else 100000) = 100000) ∨ (0 < dq_tlv v 1 0 ∧ dq_tlv v 1 0 ≤ 3 ∧ (if dq_free v then 1 else if v = 43 then 1 else if v = 48 ∨ v = 49 ∨ v = 50 then 100000 else 100000) = dq_tlv v 1 0) := by
    intro v h
    rcases h with h | h | h | h | h | h | h | h <;> subst h <;> decide +kernel
  have e : dq_tl w 1 0 c = dq_tlv (w 2 c) 1 0 := by unfold dq_tl; rw [dq_sg_in hc]
  unfold mf_co
  rw [e]
  exact this _ (hS c hc)
theorem mf_co_3 (hS : dq_SG w) : ∀ c, c < 144 → mf_co (dq_tl w 3 7) c (if dq_free (w 2 c) then 1 else if w 2 c = 43 then 3 else if w 2 c = 48 ∨ w 2 c = 49 ∨ w 2 c = 50 then 3 else 100000) := by
  intro c hc
  have : ∀ v, dq_sgn v → (dq_tlv v 3 7 = 0 ∧ (if dq_free v then 1 else if v = 43 then 3 else if v = 48 ∨ v = 49 ∨ v = 50 then 3 else 100000) = 100000) ∨ (0 < dq_tlv v 3 7 ∧ dq_tlv v 3 7 ≤ 3 ∧ (if dq_free v then 1 else if v = 43 then 3 else if v = 48 ∨ v = 49 ∨ v = 50 then 3 else 100000) = dq_tlv v 3 7) := by
    intro v h
    rcases h with h | h | h | h | h | h | h | h <;> subst h <;> decide +kernel
  have e : dq_tl w 3 7 c = dq_tlv (w 2 c) 3 7 := by unfold dq_tl; rw [dq_sg_in hc]
  unfold mf_co
  rw [e]
  exact this _ (hS c hc)
end DQFS
