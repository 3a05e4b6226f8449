/-! the two, side by side -/
def dq_TR (n : Nat) (T : dq_W) : Prop := (∀ i, i < n → dj_R 1 99 (T 18 i)) ∧ (∀ i, i < n → dj_R 1 24 (T 15 i)) ∧ (∀ d, d < 8 → T 9 d = 0 ∨ T 9 d = 1) ∧ (∀ d, d < 8 → dj_R 1 20 (T 11 d)) ∧ (∀ d, d < 8 → dj_R 0 9 (T 8 d)) ∧ (∀ k, k < 8 → dj_R 0 99 (T 17 k)) ∧ (∀ k, k < 8 → dj_R 0 9 (T 16 k))
/-- a told world -/
def dq_TW (n t l : Nat) (T : dq_W) : Prop := dq_IV n t l T ∧ mr_Z T ∧ dq_TR n T
/-- a world that has begun -/
def dq_on (n t l m c : Nat) (st : Int32) (W0 : dq_W) (D : Nat → Nat × Nat × Nat) : Prop := dq_RP n t l m W0 D ∧ m ≤ c ∧ (st = 111 → dq_RT n (dq_ch n t W0 D m)) ∧ ∃ o, o < 6 ∧ W0 0 6 = nI o
def dq_P (n t l m c : Nat) (st : Int32) (T W0 : dq_W) (D : Nat → Nat × Nat × Nat) (B : Nat → Int32) (sp : Int32) : Prop := dq_TW n t l T ∧ (dq_BV t B ∧ dq_SP sp) ∧ (st = 110 ∨ st = 111 ∨ st = 100 ∨ st = 108) ∧ (¬ st = 110 → dq_on n t l m c st W0 D)
def dq_Kf (n t m r : Nat) (st : Int32) (T W0 A : dq_W) (D : Nat → Nat × Nat × Nat) (B : Nat → Int32) (sp : Int32) (s : dk_S) : Prop := dq_WR T (s 1) ∧ s 0 40 5 = st ∧ (s 0 45 1 = sp ∧ (sp = -1 ∨ ∀ i, i < 24 → s 0 46 i = B i)) ∧ (¬ st = 110 → kq_S n t m r W0 A D s)
def dq_Mf (n t m : Nat) (st : Int32) (T W0 : dq_W) (D : Nat → Nat × Nat × Nat) (B : Nat → Int32) (sp : Int32) (s : dk_S) : Prop := mr_C T (s 4) ∧ s 4 60 1 = st ∧ mr_B t B sp (s 4) ∧ (st = 110 → mr_R T (s 4)) ∧ (¬ st = 110 → mr_R (dq_nw n t m W0 D) (s 4) ∧ s 4 60 3 - s 4 60 3 / 6 * 6 = W0 0 6)
def dq_I (c : Nat) (s : dk_S) : Prop := ∃ n t l m r st T W0 A D B sp, dq_P n t l m c st T W0 D B sp ∧ dq_Kf n t m r st T W0 A D B sp s ∧ dq_Mf n t m st T W0 D B sp s
section DIN
variable {n t l m r c : Nat} {st sp : Int32} {T T' W0 A : dq_W} {D : Nat → Nat × Nat × Nat} {B : Nat → Int32} {s u v : dk_S}
theorem dq_Kf.fr (h : dq_Kf n t m r st T W0 A D B sp s) (f : dq_fr 4 s u) : dq_Kf n t m r st T W0 A D B sp u := by
  unfold dq_Kf kq_S kq_D
  rw [f 0 (by decide), f 1 (by decide), f 2 (by decide), f 3 (by decide)]
  exact h
theorem dq_Mf.e (h : dq_Mf n t m st T W0 D B sp s) (e : u 4 = s 4) : dq_Mf n t m st T W0 D B sp u := by
  unfold dq_Mf
  rw [e]; exact h
theorem mr_B.F {e : Int32} (h : mr_B t B sp (s 4)) : mr_B t B sp (mx_F s e 4) := by
  refine ⟨(mx_F_1 (by decide)).trans h.1, fun i hi => (mx_F_q (by decide)).trans (h.2.1 i hi), fun g i hi => ?_⟩
  rw [mx_F_q (by decide), mx_F_q (by decide)]
  exact h.2.2 g i hi
theorem dq_Mf.F {e : Int32} (h : dq_Mf n t m st T W0 D B sp s) : dq_Mf n t m st T W0 D B sp (mx_F s e) := by
  refine ⟨mx_F_C h.1, (mx_F_1 (by decide)).trans h.2.1, h.2.2.1.F, fun g => mx_F_R (h.2.2.2.1 g), fun g => ⟨mx_F_R (h.2.2.2.2 g).1, ?_⟩⟩
  rw [mx_F_1 (by decide)]; exact (h.2.2.2.2 g).2
theorem mx_F_fr {e : Int32} : dq_fr 4 s (mx_F s e) := dq_st_fr
theorem mx_F_0 {e : Int32} : mx_F s e 4 60 0 = e := mx_st_e
theorem dq_I.F {e : Int32} (h : dq_I c s) : dq_I c (mx_F s e) := by
  obtain ⟨n, t, l, m, r, st, T, W0, A, D, B, sp, P, Kf, Mf⟩ := h
  exact ⟨n, t, l, m, r, st, T, W0, A, D, B, sp, P, Kf.fr mx_F_fr, Mf.F⟩
theorem dq_I.up (h : dq_I c s) : dq_I (c + 1) s := by
  obtain ⟨n, t, l, m, r, st, T, W0, A, D, B, sp, ⟨P1, P2, P3, P4⟩, Kf, Mf⟩ := h
  exact ⟨n, t, l, m, r, st, T, W0, A, D, B, sp, ⟨P1, P2, P3, fun g => ⟨(P4 g).1, by have := (P4 g).2.1; omega, (P4 g).2.2⟩⟩, Kf, Mf⟩
/-- a telling: the worlds as told -/
theorem dq_I.told (P : dq_TW n t l T') (V : dq_BV t B) (hsp : dq_SP sp) (K1 : dq_WR T' (v 1)) (K5 : v 0 40 5 = 110) (KB : v 0 45 1 = sp ∧ (sp = -1 ∨ ∀ i, i < 24 → v 0 46 i = B i)) (MB : mr_B t B sp (v 4)) (N : mx_N T' (mx_F v 0) u) : dq_I c u ∧ u 4 60 0 = 0 := by
  obtain ⟨R, C, h1, f, hb, h0, h32⟩ := N
  have f' : dq_fr 4 v u := mx_F_fr.tr f
  refine ⟨⟨n, t, l, 0, 0, 110, T', T', T', fun _ => (0, 0, 0), B, sp, ⟨P, ⟨V, hsp⟩, Or.inl rfl, fun g => absurd rfl g⟩, ⟨?_, ?_, ?_, fun g => absurd rfl g⟩, C, h1, ⟨?_, fun i hi => ?_, fun g i hi => ?_⟩, fun _ => R, fun g => absurd rfl g⟩, h0.trans mx_F_0⟩
  · rw [f' 1 (by decide)]; exact K1
  · rw [f' 0 (by decide)]; exact K5
  · rw [f' 0 (by decide)]; exact KB
  · rw [h32]; exact MB.F.1
  · rw [(hb i).1]; exact MB.F.2.1 i hi
  · rw [(hb i).1, (hb i).2]; exact MB.F.2.2 g i hi
theorem mr_B.mono {t' : Nat} {m0 : dq_W} (h : mr_B t B sp m0) (g : t ≤ t') : mr_B t' B sp m0 := ⟨h.1, fun i hi => h.2.1 i (by omega), h.2.2⟩
/-! told worlds stay told worlds -/
theorem mr_in_R {x lo hi : Int32} {a b : Int} (ha : lo.toInt = a) (hb : hi.toInt = b) (h : mr_in x lo hi) : dj_R a b x := by
  obtain ⟨h1, h2⟩ := h
  rw [Int32.lt_iff_toInt_lt] at h1 h2
  exact ⟨by omega, by omega⟩
theorem dq_TR.cg (h : dq_TR n T) (e : ∀ q, q = 8 ∨ q = 9 ∨ q = 11 ∨ q = 15 ∨ q = 16 ∨ q = 17 ∨ q = 18 → T' q = T q) : dq_TR n T' := by
  unfold dq_TR
  rw [e 18 (by omega), e 15 (by omega), e 9 (by omega), e 11 (by omega), e 8 (by omega), e 17 (by omega), e 16 (by omega)]
  exact h
/-- one of a row's numbers is told anew -/
theorem dq_rng {N k : Nat} {f g : Nat → Int32} {Pr : Int32 → Prop} {x : Int32} (h : ∀ i, i < N → Pr (f i)) (hx : Pr x) (e : ∀ i, g i = if i = k then x else f i) : ∀ i, i < N → Pr (g i) := fun i hi => by
  rw [e i]
  by_cases q : i = k
  · rw [if_pos q]; exact hx
  · rw [if_neg q]; exact h i hi
theorem dq_TW.dig {k : Nat} {x : Int32} (h : dq_TW n t l T) (hx : dq_sgn x) : dq_TW n t l (dq_set T 2 k x) := ⟨h.1.s2 hx, h.2.1.put (by decide), h.2.2.cg fun q hq => dq_set_r (by omega)⟩
theorem dq_TW.kind {d : Nat} {y z : Int32} (h : dq_TW n t l T) (hy : mr_in y 0 9) (hz : z = 0 ∨ z = 1) : dq_TW n t l (ax_kind d y z T) := by
  refine ⟨(h.1.st (by decide)).st (by decide), (h.2.1.put (by decide)).put (by decide), ?_⟩
  have e : ∀ q, q ≠ 8 → q ≠ 9 → ax_kind d y z T q = T q := fun q h8 h9 => (dq_set_r h9).trans (dq_set_r h8)
  obtain ⟨a, b, c, d', e', f⟩ := h.2.2
  refine ⟨by rw [e 18 (by decide) (by decide)]; exact a, by rw [e 15 (by decide) (by decide)]; exact b, dq_rng (Pr := fun v => v = 0 ∨ v = 1) (f := T 9) (k := d) (x := z) c hz (fun i => ?_), by rw [e 11 (by decide) (by decide)]; exact d', dq_rng (k := d) (x := y) e' (mr_in_R rfl rfl hy) (fun i => ?_), by rw [e 17 (by decide) (by decide)]; exact f.1, by rw [e 16 (by decide) (by decide)]; exact f.2⟩
  · show dq_set (dq_set T 8 d y) 9 d z 9 i = _
    by_cases q : i = d
    · rw [if_pos q, q, dq_set_eq]
    · rw [if_neg q, dq_set_ne (Or.inr q), dq_set_q (by decide)]
  · show dq_set (dq_set T 8 d y) 9 d z 8 i = _
    rw [dq_set_q (by decide)]
    by_cases q : i = d
    · rw [if_pos q, q, dq_set_eq]
    · rw [if_neg q, dq_set_ne (Or.inr q)]
theorem dq_TW.effect {d : Nat} {y z x : Int32} (h : dq_TW n t l T) (hy : dq_eff y) (hz : mr_in z 1 20) : dq_TW n t l (ax_effect d y z x T) := by
  have e : ∀ q, q ≠ 10 → q ≠ 11 → q ≠ 12 → ax_effect d y z x T q = T q := fun q h1 h2 h3 => (dq_set_r h3).trans ((dq_set_r h2).trans (dq_set_r h1))
  obtain ⟨⟨i1, i2, i3, i4, i5, i6, i7, i8, i9, i10, i11⟩, Z, a, b, c, d', e', f⟩ := h
  refine ⟨⟨?_, ?_, ?_, ?_, ?_, ?_, ?_, ?_, ?_, ?_, ?_⟩, ((Z.put (by decide)).put (by decide)).put (by decide), by rw [e 18 (by decide) (by decide) (by decide)]; exact a, by rw [e 15 (by decide) (by decide) (by decide)]; exact b, by rw [e 9 (by decide) (by decide) (by decide)]; exact c, dq_rng (k := d) (x := z) d' (mr_in_R rfl rfl hz) (fun i => ?_), by rw [e 8 (by decide) (by decide) (by decide)]; exact e', by rw [e 17 (by decide) (by decide) (by decide)]; exact f.1, by rw [e 16 (by decide) (by decide) (by decide)]; exact f.2⟩
  · rw [e 13 (by decide) (by decide) (by decide)]; exact i1
  · rw [e 23 (by decide) (by decide) (by decide)]; exact i2
  · rw [e 26 (by decide) (by decide) (by decide)]; exact i3
  · unfold dq_SG; rw [e 2 (by decide) (by decide) (by decide)]; exact i4
  · unfold dq_PL dq_pl; rw [e 14 (by decide) (by decide) (by decide)]; exact i5
  · unfold dq_KD dq_kd; rw [e 24 (by decide) (by decide) (by decide)]; exact i6
  · unfold dq_LP; rw [e 27 (by decide) (by decide) (by decide)]; exact i7
  · unfold dq_AM; rw [e 22 (by decide) (by decide) (by decide)]; exact i8
  · refine dq_rng (k := d) (x := y) i9 hy (fun i => ?_)
    show dq_set (dq_set (dq_set T 10 d y) 11 d z) 12 d x 10 i = _
    rw [dq_set_q (by decide), dq_set_q (by decide)]
    by_cases q : i = d
    · rw [if_pos q, q, dq_set_eq]
    · rw [if_neg q, dq_set_ne (Or.inr q)]
  · unfold dq_TP; rw [e 25 (by decide) (by decide) (by decide)]; exact i10
  · unfold dq_AC dq_bg; rw [e 25 (by decide) (by decide) (by decide)]; exact i11
  · show dq_set (dq_set (dq_set T 10 d y) 11 d z) 12 d x 11 i = _
    rw [dq_set_q (by decide)]
    by_cases q : i = d
    · rw [if_pos q, q, dq_set_eq]
    · rw [if_neg q, dq_set_ne (Or.inr q), dq_set_q (by decide)]
theorem ax_tell_at {b q : Nat} {p x y z : Int32} : (∀ k, ax_tell b p x y z T 14 k = if k = b then p else T 14 k) ∧ (∀ k, ax_tell b p x y z T 15 k = if k = b then x else T 15 k) ∧ (∀ k, ax_tell b p x y z T 17 k = if k = b then z else T 17 k) ∧ (∀ k, ax_tell b p x y z T 18 k = if k = b then z else T 18 k) ∧ (¬ (14 ≤ q ∧ q ≤ 18) → ax_tell b p x y z T q = T q) := by
  unfold ax_tell
  refine ⟨fun k => ?_, fun k => ?_, fun k => ?_, fun k => ?_, fun h => ?_⟩
  · rw [dq_set_q (by decide), dq_set_q (by decide), dq_set_q (by decide), dq_set_q (by decide)]
    by_cases g : k = b
    · rw [if_pos g, g, dq_set_eq]
    · rw [if_neg g, dq_set_ne (Or.inr g)]
  · rw [dq_set_q (by decide), dq_set_q (by decide), dq_set_q (by decide)]
    by_cases g : k = b
    · rw [if_pos g, g, dq_set_eq]
    · rw [if_neg g, dq_set_ne (Or.inr g), dq_set_q (by decide)]
  · rw [dq_set_q (by decide)]
    by_cases g : k = b
    · rw [if_pos g, g, dq_set_eq]
    · rw [if_neg g, dq_set_ne (Or.inr g), dq_set_q (by decide), dq_set_q (by decide), dq_set_q (by decide)]
  · by_cases g : k = b
    · rw [if_pos g, g, dq_set_eq]
    · rw [if_neg g, dq_set_ne (Or.inr g), dq_set_q (by decide), dq_set_q (by decide), dq_set_q (by decide), dq_set_q (by decide)]
  · rw [dq_set_r (by omega), dq_set_r (by omega), dq_set_r (by omega), dq_set_r (by omega), dq_set_r (by omega)]
theorem ax_tell_16 {b : Nat} {p x y z : Int32} (k : Nat) : ax_tell b p x y z T 16 k = if k = b then y else T 16 k := by
  unfold ax_tell
  rw [dq_set_q (by decide), dq_set_q (by decide)]
  by_cases g : k = b
  · rw [if_pos g, g, dq_set_eq]
  · rw [if_neg g, dq_set_ne (Or.inr g), dq_set_q (by decide), dq_set_q (by decide)]
theorem dq_TW.tell {b p : Nat} {x y z : Int32} (h : dq_TW n t l T) (hs : b = 0 → y = 0) (hp : p < 144) (hx : mr_in x 1 24) (hz : dj_R 1 99 z) (hy : dj_R 0 9 y) : dq_TW n t l (ax_tell b (nI p) x y z T) := by
  refine ⟨(((h.1.s14 hp).st (by decide)).st (by decide)).st (by decide) |>.st (by decide), h.2.1.tell hs, ?_⟩
  obtain ⟨a, b', c, d', e', f⟩ := h.2.2
  have A := fun q => ax_tell_at (T := T) (b := b) (q := q) (p := nI p) (x := x) (y := y) (z := z)
  refine ⟨dq_rng a hz (A 0).2.2.2.1, dq_rng b' (mr_in_R rfl rfl hx) (A 0).2.1, by rw [(A 9).2.2.2.2 (by decide)]; exact c, by rw [(A 11).2.2.2.2 (by decide)]; exact d', by rw [(A 8).2.2.2.2 (by decide)]; exact e', dq_rng f.1 (hz.wide (by decide) (by decide)) (A 0).2.2.1, dq_rng f.2 hy ax_tell_16⟩
theorem dq_TW.beast {p : Nat} {x y z : Int32} (h : dq_TW n t l T) (n8 : n < 8) (hp : p < 144) (hx : mr_in x 1 24) (hz : dj_R 1 99 z) (hy : dj_R 0 9 y) : dq_TW (n + 1) t l (ax_beast n (nI p) x y z T) := by
  have h1 := h.1.h1
  have h2 := h.tell (b := n) (p := p) (x := x) (y := y) (z := z) (fun e => by omega) hp hx hz hy
  have e : ∀ q, q ≠ 13 → ax_beast n (nI p) x y z T q = ax_tell n (nI p) x y z T q := fun q hq => dq_set_r hq
  have A := fun q => ax_tell_at (T := T) (b := n) (q := q) (p := nI p) (x := x) (y := y) (z := z)
  obtain ⟨⟨i1, i2, i3, i4, i5, i6, i7, i8, i9, i10, i11⟩, Z, a, b, c, d', e', f⟩ := h2
  refine ⟨⟨⟨?_, by omega, by omega⟩, ?_, ?_, ?_, ?_, ?_, ?_, ?_, ?_, ?_, ?_⟩, Z.put (by decide), fun i hi => ?_, fun i hi => ?_, by rw [e 9 (by decide)]; exact c, by rw [e 11 (by decide)]; exact d', by rw [e 8 (by decide)]; exact e', by rw [e 17 (by decide)]; exact f.1, by rw [e 16 (by decide)]; exact f.2⟩
  · show dq_set _ 13 9 _ 13 9 = _
    rw [dq_set_eq, nI_1]
  · rw [e 23 (by decide)]; exact i2
  · rw [e 26 (by decide)]; exact i3
  · unfold dq_SG; rw [e 2 (by decide)]; exact i4
  · unfold dq_PL dq_pl; rw [e 14 (by decide)]; exact i5
  · unfold dq_KD dq_kd; rw [e 24 (by decide)]; exact i6
  · unfold dq_LP; rw [e 27 (by decide)]; exact i7
  · unfold dq_AM; rw [e 22 (by decide)]; exact i8
  · unfold dq_EF; rw [e 10 (by decide)]; exact i9
  · unfold dq_TP; rw [e 25 (by decide)]; exact i10
  · unfold dq_AC dq_bg; rw [e 25 (by decide)]; exact i11
  · rw [e 18 (by decide)]
    by_cases g : i = n
    · rw [(A 0).2.2.2.1, if_pos g]; exact hz
    · exact a i (by omega)
  · rw [e 15 (by decide)]
    by_cases g : i = n
    · rw [(A 0).2.1, if_pos g]; exact mr_in_R rfl rfl hx
    · exact b i (by omega)
theorem dq_TW.lamp {p : Nat} {x : Int32} (h : dq_TW n t l T) (l4 : l < 4) (hp : p < 144) : dq_TW n t (l + 1) (ax_lamp l (nI p) x T) := by
  have e : ∀ q, q ≠ 26 → q ≠ 27 → q ≠ 28 → ax_lamp l (nI p) x T q = T q := fun q h1 h2 h3 => (dq_set_r h1).trans ((dq_set_r h3).trans (dq_set_r h2))
  obtain ⟨⟨i1, i2, i3, i4, i5, i6, i7, i8, i9, i10, i11⟩, Z, R⟩ := h
  refine ⟨⟨?_, ?_, ⟨?_, by omega⟩, ?_, ?_, ?_, fun k hk => ?_, ?_, ?_, ?_, ?_⟩, ((Z.put (by decide)).put (by decide)).put (by decide), R.cg fun q hq => e q (by omega) (by omega) (by omega)⟩
  · rw [e 13 (by decide) (by decide) (by decide)]; exact i1
  · rw [e 23 (by decide) (by decide) (by decide)]; exact i2
  · show dq_set _ 26 2 _ 26 2 = _
    rw [dq_set_eq, nI_1]
  · unfold dq_SG; rw [e 2 (by decide) (by decide) (by decide)]; exact i4
  · unfold dq_PL dq_pl; rw [e 14 (by decide) (by decide) (by decide)]; exact i5
  · unfold dq_KD dq_kd; rw [e 24 (by decide) (by decide) (by decide)]; exact i6
  · have e27 : ax_lamp l (nI p) x T 27 k = if k = l then nI p else T 27 k := by
      show dq_set (dq_set (dq_set T 27 l (nI p)) 28 l x) 26 2 _ 27 k = _
      rw [dq_set_q (by decide), dq_set_q (by decide)]
      by_cases q : k = l
      · rw [if_pos q, q, dq_set_eq]
      · rw [if_neg q, dq_set_ne (Or.inr q)]
    rw [e27]
    by_cases q : k = l
    · rw [if_pos q, nI_clamp (by omega)]; exact ⟨hp, rfl⟩
    · rw [if_neg q]; exact i7 k hk
  · unfold dq_AM; rw [e 22 (by decide) (by decide) (by decide)]; exact i8
  · unfold dq_EF; rw [e 10 (by decide) (by decide) (by decide)]; exact i9
  · unfold dq_TP; rw [e 25 (by decide) (by decide) (by decide)]; exact i10
  · unfold dq_AC dq_bg; rw [e 25 (by decide) (by decide) (by decide)]; exact i11
theorem dq_TW.thing {d : Nat} {x : Int32} (h : dq_TW n t l T) (t4 : t < 24) (hd : d < 8) (hx : (∃ p, p < 144 ∧ x = nI p) ∨ ∃ i, i < t ∧ x = (-3) - nI i) : dq_TW n (t + 1) l (ax_thing t (nI d) x T) := by
  have e : ∀ q, q ≠ 23 → q ≠ 24 → q ≠ 25 → ax_thing t (nI d) x T q = T q := fun q h1 h2 h3 => (dq_set_r h1).trans ((dq_set_r h3).trans (dq_set_r h2))
  have e25 : ∀ k, ax_thing t (nI d) x T 25 k = if k = t then x else T 25 k := fun k => by
    show dq_set (dq_set (dq_set T 24 t (nI d)) 25 t x) 23 2 _ 25 k = _
    rw [dq_set_q (by decide)]
    by_cases q : k = t
    · rw [if_pos q, q, dq_set_eq]
    · rw [if_neg q, dq_set_ne (Or.inr q), dq_set_q (by decide)]
  have e24 : ∀ k, ax_thing t (nI d) x T 24 k = if k = t then nI d else T 24 k := fun k => by
    show dq_set (dq_set (dq_set T 24 t (nI d)) 25 t x) 23 2 _ 24 k = _
    rw [dq_set_q (by decide), dq_set_q (by decide)]
    by_cases q : k = t
    · rw [if_pos q, q, dq_set_eq]
    · rw [if_neg q, dq_set_ne (Or.inr q)]
  obtain ⟨⟨i1, i2, i3, i4, i5, i6, i7, i8, i9, i10, i11⟩, Z, R⟩ := h
  have TP' : dq_TP (ax_thing t (nI d) x T) (t + 1) := fun k hk => by
    rw [e25]
    by_cases q : k = t
    · rw [if_pos q]
      rcases hx with ⟨p, hp, g⟩ | ⟨i, hi, g⟩
      · exact Or.inr (Or.inr (Or.inl ⟨p, hp, g⟩))
      · exact Or.inr (Or.inr (Or.inr ⟨i, by omega, g⟩))
    · rw [if_neg q]
      rcases i10 k hk with g | g | g | ⟨b, hb, g⟩
      · exact Or.inl g
      · exact Or.inr (Or.inl g)
      · exact Or.inr (Or.inr (Or.inl g))
      · exact Or.inr (Or.inr (Or.inr ⟨b, by omega, g⟩))
  refine ⟨⟨?_, ⟨?_, by omega⟩, ?_, ?_, ?_, fun k hk => ?_, ?_, ?_, ?_, TP', ?_⟩, ((Z.put (by decide)).put (by decide)).put (by decide), R.cg fun q hq => e q (by omega) (by omega) (by omega)⟩
  · rw [e 13 (by decide) (by decide) (by decide)]; exact i1
  · show dq_set _ 23 2 _ 23 2 = _
    rw [dq_set_eq, nI_1]
  · rw [e 26 (by decide) (by decide) (by decide)]; exact i3
  · unfold dq_SG; rw [e 2 (by decide) (by decide) (by decide)]; exact i4
  · unfold dq_PL dq_pl; rw [e 14 (by decide) (by decide) (by decide)]; exact i5
  · unfold dq_kd
    rw [e24]
    by_cases q : k = t
    · rw [if_pos q, nI_clamp (by omega)]; exact ⟨hd, rfl⟩
    · rw [if_neg q]; exact i6 k hk
  · unfold dq_LP; rw [e 27 (by decide) (by decide) (by decide)]; exact i7
  · unfold dq_AM; rw [e 22 (by decide) (by decide) (by decide)]; exact i8
  · unfold dq_EF; rw [e 10 (by decide) (by decide) (by decide)]; exact i9
  · obtain ⟨r, hr⟩ := i11
    refine ⟨fun k => if k = t then dq_sm r 24 + 1 else r k, fun k hk hb => ?_⟩
    by_cases q : k = t
    · rcases hx with ⟨p, hp, g⟩ | ⟨i, hi, g⟩
      · refine absurd (dq_bg_no (f := ax_thing t (nI d) x T) (v := x) (by rw [e25, if_pos q]) ?_) hb
        rw [g]
        rw [Int32.lt_iff_toInt_lt, nI_toInt (by omega)]
        have : (-3 : Int32).toInt = -3 := rfl
        omega
      · have eb : dq_bg (ax_thing t (nI d) x T) k = i := dq_bg_yes (by omega) (by rw [e25, if_pos q, g])
        rw [eb]
        show (if i = t then _ else _) < (if k = t then _ else _)
        rw [if_neg (by omega), if_pos q]
        have := dq_sm_ge (r := r) 24 i (by omega)
        omega
    · have eb : dq_bg (ax_thing t (nI d) x T) k = dq_bg T k := dq_bg_c (by rw [e25, if_neg q])
      rw [eb] at hb ⊢
      have hlt : dq_bg T k ≠ t := by
        rcases i10 k hk with g | g | ⟨p, hp, g⟩ | ⟨b, hb2, g⟩
        · exact absurd (dq_bg_no g (by decide)) hb
        · exact absurd (dq_bg_no g (by decide)) hb
        · refine absurd (dq_bg_no g ?_) hb
          rw [Int32.lt_iff_toInt_lt, nI_toInt (by omega)]
          have : (-3 : Int32).toInt = -3 := rfl
          omega
        · rw [dq_bg_yes (by omega) g]; omega
      show (if dq_bg T k = t then _ else _) < (if k = t then _ else _)
      rw [if_neg hlt, if_neg q]
      exact hr k hk hb
end DIN
