/-! the keep of a world told or begun: its state by pure values -/
abbrev eIO : String := "java/lang/IndexOutOfBoundsException"
abbrev eIA : String := "java/lang/IllegalArgumentException"
abbrev eIS : String := "java/lang/IllegalStateException"
abbrev eUO : String := "java/lang/UnsupportedOperationException"
abbrev eNS : String := "java/util/NoSuchElementException"
def dq_TR (n : Nat) (T : dq_W) : Prop := (∀ i, i < n → dj_R 1 99 (T 18 i)) ∧ (∀ i, i < n → dj_R 1 24 (T 15 i)) ∧ (∀ d, d < 8 → T 9 d = 0 ∨ T 9 d = 1) ∧ (∀ d, d < 8 → dj_R 1 20 (T 11 d)) ∧ (∀ d, d < 8 → dj_R 0 9 (T 8 d)) ∧ (∀ k, k < 8 → dj_R 0 99 (T 17 k)) ∧ (∀ k, k < 8 → dj_R 0 9 (T 16 k))
def dq_TW (n t l : Nat) (T : dq_W) : Prop := dq_IV n t l T ∧ mr_Z T ∧ dq_TR n T
def dq_on (n t l m c : Nat) (st : Int32) (W0 : dq_W) (D : Nat → Nat × Nat × Nat) : Prop := dq_RP n t l m W0 D ∧ m ≤ c ∧ (st = 111 → dq_RT n (dq_ch n t W0 D m)) ∧ ∃ o, o < 6 ∧ W0 0 6 = nI o
def dq_P (n t l m c : Nat) (st : Int32) (T W0 : dq_W) (D : Nat → Nat × Nat × Nat) (B : Nat → Int32) (sp : Int32) : Prop := dq_TW n t l T ∧ (dq_BV t B ∧ dq_SP sp) ∧ (st = 110 ∨ st = 111 ∨ st = 100 ∨ st = 108) ∧ (¬ st = 110 → dq_on n t l m c st W0 D)
def dq_Kf (n t m r : Nat) (st : Int32) (T W0 A : dq_W) (D : Nat → Nat × Nat × Nat) (B : Nat → Int32) (sp : Int32) (s : dk_S) : Prop := dq_WR T (s 1) ∧ s 0 40 5 = st ∧ (s 0 45 1 = sp ∧ (sp = -1 ∨ ∀ i, i < 24 → s 0 46 i = B i)) ∧ (¬ st = 110 → kq_S n t m r W0 A D s)
section DIN
variable {n t l m r c : Nat} {st sp : Int32} {T T' W0 A : dq_W} {D : Nat → Nat × Nat × Nat} {B : Nat → Int32} {s u v : dk_S}
theorem mr_in_R {x lo hi : Int32} {a b : Int} (ha : lo.toInt = a) (hb : hi.toInt = b) (h : mr_in x lo hi) : dj_R a b x := by
  obtain ⟨h1, h2⟩ := h
  rw [Int32.lt_iff_toInt_lt] at h1 h2
  exact ⟨by omega, by omega⟩
theorem dq_TR.cg (h : dq_TR n T) (e : ∀ q, q = 8 ∨ q = 9 ∨ q = 11 ∨ q = 15 ∨ q = 16 ∨ q = 17 ∨ q = 18 → T' q = T q) : dq_TR n T' := by
  unfold dq_TR
  rw [e 18 (by omega), e 15 (by omega), e 9 (by omega), e 11 (by omega), e 8 (by omega), e 17 (by omega), e 16 (by omega)]
  exact h
theorem dq_rng {N k : Nat} {f g : Nat → Int32} {Pr : Int32 → Prop} {x : Int32} (h : ∀ i, i < N → Pr (f i)) (hx : Pr x) (e : ∀ i, g i = if i = k then x else f i) : ∀ i, i < N → Pr (g i) := fun i hi => by
  rw [e i]
  by_cases q : i = k
  · rw [if_pos q]; exact hx
  · rw [if_neg q]; exact h i hi
theorem dq_TW.dig {k : Nat} {x : Int32} (h : dq_TW n t l T) (hx : dq_sgn x) : dq_TW n t l (dq_set T 2 k x) := ⟨h.1.s2 hx, h.2.1.put (by decide), h.2.2.cg fun q hq => dq_set_r (by omega)⟩
theorem dq_TW.kind {d : Nat} {y z : Int32} (h : dq_TW n t l T) (hy : mr_in y 0 9) (hz : z = 0 ∨ z = 1) : dq_TW n t l (ax_kind d y z T) := by
  refine ⟨(h.1.st (by decide)).st (by decide), (h.2.1.put (by decide)).put (by decide), ?_⟩
  have e : ∀ q, q ≠ 8 → q ≠ 9 → ax_kind d y z T q = T q := fun q h8 h9 => (dq_set_r h9).trans (dq_set_r h8)
  obtain ⟨a, b, c, d', e', f⟩ := h.2.2
  refine ⟨by rw [e 18 (by decide) (by decide)]; exact a, by rw [e 15 (by decide) (by decide)]; exact b, dq_rng (Pr := fun v => v = 0 ∨ v = 1) (f := T 9) (k := d) (x := z) c hz (fun i => ?_), by rw [e 11 (by decide) (by decide)]; exact d', dq_rng (k := d) (x := y) e' (mr_in_R rfl rfl hy) (fun i => ?_), by rw [e 17 (by decide) (by decide)]; exact f.1, by rw [e 16 (by decide) (by decide)]; exact f.2⟩
  · show dq_set (dq_set T 8 d y) 9 d z 9 i = _
    by_cases q : i = d
    · rw [if_pos q, q, dq_set_eq]
    · rw [if_neg q, dq_set_ne (Or.inr q), dq_set_q (by decide)]
  · show dq_set (dq_set T 8 d y) 9 d z 8 i = _
    rw [dq_set_q (by decide)]
    by_cases q : i = d
    · rw [if_pos q, q, dq_set_eq]
    · rw [if_neg q, dq_set_ne (Or.inr q)]
theorem dq_TW.effect {d : Nat} {y z x : Int32} (h : dq_TW n t l T) (hy : dq_eff y) (hz : mr_in z 1 20) : dq_TW n t l (ax_effect d y z x T) := by
  have e : ∀ q, q ≠ 10 → q ≠ 11 → q ≠ 12 → ax_effect d y z x T q = T q := fun q h1 h2 h3 => (dq_set_r h3).trans ((dq_set_r h2).trans (dq_set_r h1))
  obtain ⟨⟨i1, i2, i3, i4, i5, i6, i7, i8, i9, i10, i11⟩, Z, a, b, c, d', e', f⟩ := h
  refine ⟨⟨?_, ?_, ?_, ?_, ?_, ?_, ?_, ?_, ?_, ?_, ?_⟩, ((Z.put (by decide)).put (by decide)).put (by decide), by rw [e 18 (by decide) (by decide) (by decide)]; exact a, by rw [e 15 (by decide) (by decide) (by decide)]; exact b, by rw [e 9 (by decide) (by decide) (by decide)]; exact c, dq_rng (k := d) (x := z) d' (mr_in_R rfl rfl hz) (fun i => ?_), by rw [e 8 (by decide) (by decide) (by decide)]; exact e', by rw [e 17 (by decide) (by decide) (by decide)]; exact f.1, by rw [e 16 (by decide) (by decide) (by decide)]; exact f.2⟩
  · rw [e 13 (by decide) (by decide) (by decide)]; exact i1
  · rw [e 23 (by decide) (by decide) (by decide)]; exact i2
  · rw [e 26 (by decide) (by decide) (by decide)]; exact i3
  · unfold dq_SG; rw [e 2 (by decide) (by decide) (by decide)]; exact i4
  · unfold dq_PL dq_pl; rw [e 14 (by decide) (by decide) (by decide)]; exact i5
  · unfold dq_KD dq_kd; rw [e 24 (by decide) (by decide) (by decide)]; exact i6
  · unfold dq_LP; rw [e 27 (by decide) (by decide) (by decide)]; exact i7
  · unfold dq_AM; rw [e 22 (by decide) (by decide) (by decide)]; exact i8
  · refine dq_rng (k := d) (x := y) i9 hy (fun i => ?_)
    show dq_set (dq_set (dq_set T 10 d y) 11 d z) 12 d x 10 i = _
    rw [dq_set_q (by decide), dq_set_q (by decide)]
    by_cases q : i = d
    · rw [if_pos q, q, dq_set_eq]
    · rw [if_neg q, dq_set_ne (Or.inr q)]
  · unfold dq_TP; rw [e 25 (by decide) (by decide) (by decide)]; exact i10
  · unfold dq_AC dq_bg; rw [e 25 (by decide) (by decide) (by decide)]; exact i11
  · show dq_set (dq_set (dq_set T 10 d y) 11 d z) 12 d x 11 i = _
    rw [dq_set_q (by decide)]
    by_cases q : i = d
    · rw [if_pos q, q, dq_set_eq]
    · rw [if_neg q, dq_set_ne (Or.inr q), dq_set_q (by decide)]
theorem ax_tell_at {b q : Nat} {p x y z : Int32} : (∀ k, ax_tell b p x y z T 14 k = if k = b then p else T 14 k) ∧ (∀ k, ax_tell b p x y z T 15 k = if k = b then x else T 15 k) ∧ (∀ k, ax_tell b p x y z T 17 k = if k = b then z else T 17 k) ∧ (∀ k, ax_tell b p x y z T 18 k = if k = b then z else T 18 k) ∧ (¬ (14 ≤ q ∧ q ≤ 18) → ax_tell b p x y z T q = T q) := by
  unfold ax_tell
  refine ⟨fun k => ?_, fun k => ?_, fun k => ?_, fun k => ?_, fun h => ?_⟩
  · rw [dq_set_q (by decide), dq_set_q (by decide), dq_set_q (by decide), dq_set_q (by decide)]
    by_cases g : k = b
    · rw [if_pos g, g, dq_set_eq]
    · rw [if_neg g, dq_set_ne (Or.inr g)]
  · rw [dq_set_q (by decide), dq_set_q (by decide), dq_set_q (by decide)]
    by_cases g : k = b
    · rw [if_pos g, g, dq_set_eq]
    · rw [if_neg g, dq_set_ne (Or.inr g), dq_set_q (by decide)]
  · rw [dq_set_q (by decide)]
    by_cases g : k = b
    · rw [if_pos g, g, dq_set_eq]
    · rw [if_neg g, dq_set_ne (Or.inr g), dq_set_q (by decide), dq_set_q (by decide), dq_set_q (by decide)]
  · by_cases g : k = b
    · rw [if_pos g, g, dq_set_eq]
    · rw [if_neg g, dq_set_ne (Or.inr g), dq_set_q (by decide), dq_set_q (by decide), dq_set_q (by decide), dq_set_q (by decide)]
  · rw [dq_set_r (by omega), dq_set_r (by omega), dq_set_r (by omega), dq_set_r (by omega), dq_set_r (by omega)]
theorem ax_tell_16 {b : Nat} {p x y z : Int32} (k : Nat) : ax_tell b p x y z T 16 k = if k = b then y else T 16 k := by
  unfold ax_tell
  rw [dq_set_q (by decide), dq_set_q (by decide)]
  by_cases g : k = b
  · rw [if_pos g, g, dq_set_eq]
  · rw [if_neg g, dq_set_ne (Or.inr g), dq_set_q (by decide), dq_set_q (by decide)]
theorem dq_TW.tell {b p : Nat} {x y z : Int32} (h : dq_TW n t l T) (hs : b = 0 → y = 0) (hp : p < 144) (hx : mr_in x 1 24) (hz : dj_R 1 99 z) (hy : dj_R 0 9 y) : dq_TW n t l (ax_tell b (nI p) x y z T) := by
  refine ⟨(((h.1.s14 hp).st (by decide)).st (by decide)).st (by decide) |>.st (by decide), h.2.1.tell hs, ?_⟩
  obtain ⟨a, b', c, d', e', f⟩ := h.2.2
  have A := fun q => ax_tell_at (T := T) (b := b) (q := q) (p := nI p) (x := x) (y := y) (z := z)
  refine ⟨dq_rng a hz (A 0).2.2.2.1, dq_rng b' (mr_in_R rfl rfl hx) (A 0).2.1, by rw [(A 9).2.2.2.2 (by decide)]; exact c, by rw [(A 11).2.2.2.2 (by decide)]; exact d', by rw [(A 8).2.2.2.2 (by decide)]; exact e', dq_rng f.1 (hz.wide (by decide) (by decide)) (A 0).2.2.1, dq_rng f.2 hy ax_tell_16⟩
theorem dq_TW.beast {p : Nat} {x y z : Int32} (h : dq_TW n t l T) (n8 : n < 8) (hp : p < 144) (hx : mr_in x 1 24) (hz : dj_R 1 99 z) (hy : dj_R 0 9 y) : dq_TW (n + 1) t l (ax_beast n (nI p) x y z T) := by
  have h1 := h.1.h1
  have h2 := h.tell (b := n) (p := p) (x := x) (y := y) (z := z) (fun e => by omega) hp hx hz hy
  have e : ∀ q, q ≠ 13 → ax_beast n (nI p) x y z T q = ax_tell n (nI p) x y z T q := fun q hq => dq_set_r hq
  have A := fun q => ax_tell_at (T := T) (b := n) (q := q) (p := nI p) (x := x) (y := y) (z := z)
  obtain ⟨⟨i1, i2, i3, i4, i5, i6, i7, i8, i9, i10, i11⟩, Z, a, b, c, d', e', f⟩ := h2
  refine ⟨⟨⟨?_, by omega, by omega⟩, ?_, ?_, ?_, ?_, ?_, ?_, ?_, ?_, ?_, ?_⟩, Z.put (by decide), fun i hi => ?_, fun i hi => ?_, by rw [e 9 (by decide)]; exact c, by rw [e 11 (by decide)]; exact d', by rw [e 8 (by decide)]; exact e', by rw [e 17 (by decide)]; exact f.1, by rw [e 16 (by decide)]; exact f.2⟩
  · show dq_set _ 13 9 _ 13 9 = _
    rw [dq_set_eq, nI_1]
  · rw [e 23 (by decide)]; exact i2
  · rw [e 26 (by decide)]; exact i3
  · unfold dq_SG; rw [e 2 (by decide)]; exact i4
  · unfold dq_PL dq_pl; rw [e 14 (by decide)]; exact i5
  · unfold dq_KD dq_kd; rw [e 24 (by decide)]; exact i6
  · unfold dq_LP; rw [e 27 (by decide)]; exact i7
  · unfold dq_AM; rw [e 22 (by decide)]; exact i8
  · unfold dq_EF; rw [e 10 (by decide)]; exact i9
  · unfold dq_TP; rw [e 25 (by decide)]; exact i10
  · unfold dq_AC dq_bg; rw [e 25 (by decide)]; exact i11
  · rw [e 18 (by decide)]
    by_cases g : i = n
    · rw [(A 0).2.2.2.1, if_pos g]; exact hz
    · exact a i (by omega)
  · rw [e 15 (by decide)]
    by_cases g : i = n
    · rw [(A 0).2.1, if_pos g]; exact mr_in_R rfl rfl hx
    · exact b i (by omega)
theorem dq_TW.lamp {p : Nat} {x : Int32} (h : dq_TW n t l T) (l4 : l < 4) (hp : p < 144) : dq_TW n t (l + 1) (ax_lamp l (nI p) x T) := by
  have e : ∀ q, q ≠ 26 → q ≠ 27 → q ≠ 28 → ax_lamp l (nI p) x T q = T q := fun q h1 h2 h3 => (dq_set_r h1).trans ((dq_set_r h3).trans (dq_set_r h2))
  obtain ⟨⟨i1, i2, i3, i4, i5, i6, i7, i8, i9, i10, i11⟩, Z, R⟩ := h
  refine ⟨⟨?_, ?_, ⟨?_, by omega⟩, ?_, ?_, ?_, fun k hk => ?_, ?_, ?_, ?_, ?_⟩, ((Z.put (by decide)).put (by decide)).put (by decide), R.cg fun q hq => e q (by omega) (by omega) (by omega)⟩
  · rw [e 13 (by decide) (by decide) (by decide)]; exact i1
  · rw [e 23 (by decide) (by decide) (by decide)]; exact i2
  · show dq_set _ 26 2 _ 26 2 = _
    rw [dq_set_eq, nI_1]
  · unfold dq_SG; rw [e 2 (by decide) (by decide) (by decide)]; exact i4
  · unfold dq_PL dq_pl; rw [e 14 (by decide) (by decide) (by decide)]; exact i5
  · unfold dq_KD dq_kd; rw [e 24 (by decide) (by decide) (by decide)]; exact i6
  · have e27 : ax_lamp l (nI p) x T 27 k = if k = l then nI p else T 27 k := by
      show dq_set (dq_set (dq_set T 27 l (nI p)) 28 l x) 26 2 _ 27 k = _
      rw [dq_set_q (by decide), dq_set_q (by decide)]
      by_cases q : k = l
      · rw [if_pos q, q, dq_set_eq]
      · rw [if_neg q, dq_set_ne (Or.inr q)]
    rw [e27]
    by_cases q : k = l
    · rw [if_pos q, nI_clamp (by omega)]; exact ⟨hp, rfl⟩
    · rw [if_neg q]; exact i7 k hk
  · unfold dq_AM; rw [e 22 (by decide) (by decide) (by decide)]; exact i8
  · unfold dq_EF; rw [e 10 (by decide) (by decide) (by decide)]; exact i9
  · unfold dq_TP; rw [e 25 (by decide) (by decide) (by decide)]; exact i10
  · unfold dq_AC dq_bg; rw [e 25 (by decide) (by decide) (by decide)]; exact i11
theorem dq_TW.thing {d : Nat} {x : Int32} (h : dq_TW n t l T) (t4 : t < 24) (hd : d < 8) (hx : (∃ p, p < 144 ∧ x = nI p) ∨ ∃ i, i < t ∧ x = (-3) - nI i) : dq_TW n (t + 1) l (ax_thing t (nI d) x T) := by
  have e : ∀ q, q ≠ 23 → q ≠ 24 → q ≠ 25 → ax_thing t (nI d) x T q = T q := fun q h1 h2 h3 => (dq_set_r h1).trans ((dq_set_r h3).trans (dq_set_r h2))
  have e25 : ∀ k, ax_thing t (nI d) x T 25 k = if k = t then x else T 25 k := fun k => by
    show dq_set (dq_set (dq_set T 24 t (nI d)) 25 t x) 23 2 _ 25 k = _
    rw [dq_set_q (by decide)]
    by_cases q : k = t
    · rw [if_pos q, q, dq_set_eq]
    · rw [if_neg q, dq_set_ne (Or.inr q), dq_set_q (by decide)]
  have e24 : ∀ k, ax_thing t (nI d) x T 24 k = if k = t then nI d else T 24 k := fun k => by
    show dq_set (dq_set (dq_set T 24 t (nI d)) 25 t x) 23 2 _ 24 k = _
    rw [dq_set_q (by decide), dq_set_q (by decide)]
    by_cases q : k = t
    · rw [if_pos q, q, dq_set_eq]
    · rw [if_neg q, dq_set_ne (Or.inr q)]
  obtain ⟨⟨i1, i2, i3, i4, i5, i6, i7, i8, i9, i10, i11⟩, Z, R⟩ := h
  have TP' : dq_TP (ax_thing t (nI d) x T) (t + 1) := fun k hk => by
    rw [e25]
    by_cases q : k = t
    · rw [if_pos q]
      rcases hx with ⟨p, hp, g⟩ | ⟨i, hi, g⟩
      · exact Or.inr (Or.inr (Or.inl ⟨p, hp, g⟩))
      · exact Or.inr (Or.inr (Or.inr ⟨i, by omega, g⟩))
    · rw [if_neg q]
      rcases i10 k hk with g | g | g | ⟨b, hb, g⟩
      · exact Or.inl g
      · exact Or.inr (Or.inl g)
      · exact Or.inr (Or.inr (Or.inl g))
      · exact Or.inr (Or.inr (Or.inr ⟨b, by omega, g⟩))
  refine ⟨⟨?_, ⟨?_, by omega⟩, ?_, ?_, ?_, fun k hk => ?_, ?_, ?_, ?_, TP', ?_⟩, ((Z.put (by decide)).put (by decide)).put (by decide), R.cg fun q hq => e q (by omega) (by omega) (by omega)⟩
  · rw [e 13 (by decide) (by decide) (by decide)]; exact i1
  · show dq_set _ 23 2 _ 23 2 = _
    rw [dq_set_eq, nI_1]
  · rw [e 26 (by decide) (by decide) (by decide)]; exact i3
  · unfold dq_SG; rw [e 2 (by decide) (by decide) (by decide)]; exact i4
  · unfold dq_PL dq_pl; rw [e 14 (by decide) (by decide) (by decide)]; exact i5
  · unfold dq_kd
    rw [e24]
    by_cases q : k = t
    · rw [if_pos q, nI_clamp (by omega)]; exact ⟨hd, rfl⟩
    · rw [if_neg q]; exact i6 k hk
  · unfold dq_LP; rw [e 27 (by decide) (by decide) (by decide)]; exact i7
  · unfold dq_AM; rw [e 22 (by decide) (by decide) (by decide)]; exact i8
  · unfold dq_EF; rw [e 10 (by decide) (by decide) (by decide)]; exact i9
  · obtain ⟨r, hr⟩ := i11
    refine ⟨fun k => if k = t then dq_sm r 24 + 1 else r k, fun k hk hb => ?_⟩
    by_cases q : k = t
    · rcases hx with ⟨p, hp, g⟩ | ⟨i, hi, g⟩
      · refine absurd (dq_bg_no (f := ax_thing t (nI d) x T) (v := x) (by rw [e25, if_pos q]) ?_) hb
        rw [g]
        rw [Int32.lt_iff_toInt_lt, nI_toInt (by omega)]
        have : (-3 : Int32).toInt = -3 := rfl
        omega
      · have eb : dq_bg (ax_thing t (nI d) x T) k = i := dq_bg_yes (by omega) (by rw [e25, if_pos q, g])
        rw [eb]
        show (if i = t then _ else _) < (if k = t then _ else _)
        rw [if_neg (by omega), if_pos q]
        have := dq_sm_ge (r := r) 24 i (by omega)
        omega
    · have eb : dq_bg (ax_thing t (nI d) x T) k = dq_bg T k := dq_bg_c (by rw [e25, if_neg q])
      rw [eb] at hb ⊢
      have hlt : dq_bg T k ≠ t := by
        rcases i10 k hk with g | g | ⟨p, hp, g⟩ | ⟨b, hb2, g⟩
        · exact absurd (dq_bg_no g (by decide)) hb
        · exact absurd (dq_bg_no g (by decide)) hb
        · refine absurd (dq_bg_no g ?_) hb
          rw [Int32.lt_iff_toInt_lt, nI_toInt (by omega)]
          have : (-3 : Int32).toInt = -3 := rfl
          omega
        · rw [dq_bg_yes (by omega) g]; omega
      show (if dq_bg T k = t then _ else _) < (if k = t then _ else _)
      rw [if_neg hlt, if_neg q]
      exact hr k hk hb
theorem mr_pl_of {x y : Int32} {a b : Nat} (ha : a < 12) (hb : b < 12) (e1 : x = nI a) (e2 : y = nI b) : mr_pl x y := by
  rw [e1, e2]
  exact ⟨⟨nI_pos (by omega), nI_nlt (b := a) (a := 11) (by omega) (by decide)⟩, nI_pos (by omega), nI_nlt (b := b) (a := 11) (by omega) (by decide)⟩
theorem dq_cr_ne {w : dq_W} {i : Nat} (h : dq_cr w i) : w 25 i ≠ -2 := fun q => by
  unfold dq_cr at h
  rw [dq_ou_top (dq_bg_no q (by decide)), q] at h
  exact absurd h (by decide)
noncomputable def dq_shw (n t m : Nat) (st : Int32) (T W0 : dq_W) (D : Nat → Nat × Nat × Nat) : dq_W := dq_if (st = 110) T (dq_nw n t m W0 D)
theorem mr_in_3 {x : Int32} {d : Nat} (hd : d < 4) (e : x = nI d) : mr_in x 0 3 := by
  rw [e]; exact ⟨nI_pos (by omega), nI_nlt (b := d) (a := 3) (by omega) (by decide)⟩
theorem ax_go_ans {w : dq_W} {a : Nat} : (ax_deed n t 0 a 0 w).1 = -1000000 ∨ (ax_deed n t 0 a 0 w).1 = 97 ∨ (ax_deed n t 0 a 0 w).1 = 111 ∨ (ax_deed n t 0 a 0 w).1 = 109 := by
  show (ax_go n t a w).1 = -1000000 ∨ (ax_go n t a w).1 = 97 ∨ (ax_go n t a w).1 = 111 ∨ (ax_go n t a w).1 = 109
  unfold ax_go
  by_cases g : 1 ≤ dq_la w (dq_nb (dq_pl w 0) a) n ∧ dq_la w (dq_nb (dq_pl w 0) a) n < 8
  · rw [dq_if_t g]; exact Or.inr (Or.inl rfl)
  · rw [dq_if_f g]
    by_cases g2 : dq_sg w (dq_nb (dq_pl w 0) a) = 43 ∨ dq_ky w t (dq_sg w (dq_nb (dq_pl w 0) a))
    · rw [dq_if_t g2]; exact Or.inr (Or.inr (Or.inl rfl))
    · rw [dq_if_f g2]
      by_cases g3 : dq_free (dq_sg w (dq_nb (dq_pl w 0) a))
      · rw [dq_if_t g3]; exact Or.inr (Or.inr (Or.inr rfl))
      · rw [dq_if_f g3]; exact Or.inl rfl
theorem dz_et (P : dq_P n t l m c st T W0 D B sp) (Kf : dq_Kf n t m r st T W0 A D B sp s) : s 1 23 2 = nI t := (Kf.1.1 23 2 (by decide) (by decide)).trans P.1.1.ht
theorem dz_W2 (P : dq_P n t l m c 111 T W0 D B sp) (Kf : dq_Kf n t m r 111 T W0 A D B sp s) : dq_WR (dq_ch n t W0 D m) (s 2) := by
  obtain ⟨RP, _, hRT, _⟩ := P.2.2.2 (by decide)
  have := (Kf.2.2.2 (by decide)).1.1
  rw [RP.nw_a (hRT rfl).1] at this
  exact this
theorem dz_sh1 (Kf : dq_Kf n t m r st T W0 A D B sp s) (g : s 0 40 5 = 110) : dq_WR (dq_shw n t m st T W0 D) (s 1) := by
  have : st = 110 := Kf.2.1.symm.trans g
  unfold dq_shw
  rw [dq_if_t this]; exact Kf.1
theorem dz_sh2 (Kf : dq_Kf n t m r st T W0 A D B sp s) (g : ¬ s 0 40 5 = 110) : dq_WR (dq_shw n t m st T W0 D) (s 2) := by
  have : ¬ st = 110 := fun q => g (Kf.2.1.trans q)
  unfold dq_shw
  rw [dq_if_f this]; exact (Kf.2.2.2 this).1.1
theorem dz_en (P : dq_P n t l m c st T W0 D B sp) (Kf : dq_Kf n t m r st T W0 A D B sp s) : s 1 13 9 = nI n := (Kf.1.1 13 9 (by decide) (by decide)).trans P.1.1.hn
theorem mr_cr_0 {n lo : Nat} {x : Int32} {i : Nat} (hl : lo ≤ i) (hi : i < n) (e : x = nI i) : mr_cr n lo x := ⟨i, hl, hi, e⟩
end DIN
section DCS
variable {c : Nat} {s u v w0 : dk_S} {T W0 A : dq_W} {D : Nat → Nat × Nat × Nat} {B : Nat → Int32} {st sp o : Int32} {n t l m r : Nat}
theorem dz_mod6 {j : Nat} (hj : j < 2 ^ 31) : nI j - nI j / 6 * 6 = nI (j % 6) := by
  have h6 : (6 : Int32) = nI 6 := rfl
  rw [h6, pk_div hj (by decide) (by decide), dq_iN, dq_iN, dq_iN, dq_iN, dq_imul, dq_isub]
  congr 1
  omega
theorem dz_W_r {q : Nat} (h : q ≠ 25) (h0 : q ≠ 0) : ax_bones B sp (dq_set T 0 6 o) q = T q := by
  have e : dq_set T 0 6 o q = T q := dq_set_r h0
  unfold ax_bones
  by_cases g : ∃ c, c < 144 ∧ sp = nI c ∧ dq_free (dq_set T 0 6 o 2 c)
  · rw [dq_if_t g]
    exact (funext fun k => ax_lay_o (Or.inl h)).trans e
  · rw [dq_if_f g]; exact e
theorem dz_W_0 {k : Nat} : ax_bones B sp (dq_set T 0 6 o) 0 k = dq_set T 0 6 o 0 k := by
  unfold ax_bones
  by_cases g : ∃ c, c < 144 ∧ sp = nI c ∧ dq_free (dq_set T 0 6 o 2 c)
  · rw [dq_if_t g]; exact ax_lay_o (Or.inl (by decide))
  · rw [dq_if_f g]
theorem dq_TW.lv (h : dq_TW n t l T) {i : Nat} (hi : i < n) : dq_lv T i := fun q => by
  have := (h.2.2.1 i hi).1
  rw [Int32.le_iff_toInt_le] at q
  have h0 : (0 : Int32).toInt = 0 := rfl
  omega
theorem dz_beginJ (P : dq_TW n t l T) (V : dq_BV t B) (fw : dq_fw T n) : (dq_JV n t l (ax_bones B sp (dq_set T 0 6 o)) ∧ dq_JX (ax_bones B sp (dq_set T 0 6 o) 0 6) 0 (ax_bones B sp (dq_set T 0 6 o)) ∧ dq_lv (ax_bones B sp (dq_set T 0 6 o)) 0) ∧ ax_bones B sp (dq_set T 0 6 o) 0 6 = o := by
  have r : ∀ q, q ≠ 25 → q ≠ 0 → ax_bones B sp (dq_set T 0 6 o) q = T q := fun q h h0 => dz_W_r h h0
  have r0 : ∀ k, k ≠ 6 → ax_bones B sp (dq_set T 0 6 o) 0 k = T 0 k := fun k hk => dz_W_0.trans (dq_set_ne (Or.inr hk))
  have I' : dq_IV n t l (ax_bones B sp (dq_set T 0 6 o)) := ax_bones_I (P.1.st (by decide)) V
  obtain ⟨z0, z1, _⟩ := P.2.1
  obtain ⟨a, b, c, d, e, f⟩ := P.2.2
  have h1 := P.1.h1
  have h8 := P.1.h8
  have pl : ∀ i, dq_pl (ax_bones B sp (dq_set T 0 6 o)) i = dq_pl T i := fun i => by unfold dq_pl; rw [r 14 (by decide) (by decide)]
  have z : (0 : Int32).toInt = 0 := rfl
  refine ⟨⟨⟨I', fun i hi hl => ⟨?_, fun j hj hl2 e2 => ?_⟩, ⟨?_, fun k hk => ?_⟩, fun k hk => ?_, fun k hk => ?_, fun k hk => ?_, fun k hk hlt => ?_, fun k hk => ?_⟩, ⟨fun k hk => ?_, fun k hk => ?_, ?_, rfl⟩, ?_⟩, dz_W_0.trans dq_set_eq⟩
  · rw [pl, r 2 (by decide) (by decide)]; exact (fw i hi).1
  · rw [pl, pl] at e2
    rcases Nat.lt_trichotomy j i with g | g | g
    · exact absurd e2 ((fw i hi).2 j g)
    · exact g
    · exact absurd e2.symm ((fw j hj).2 i g)
  · rw [r0 8 (by decide), z0.2.2.1]; decide
  · rw [r 21 (by decide) (by decide), (z1 k hk).2.1]; decide
  · rw [r 9 (by decide) (by decide)]; exact c k hk
  · rw [r 19 (by decide) (by decide), (z1 k (by omega)).1]; exact ⟨by decide, by decide⟩
  · rw [r 15 (by decide) (by decide)]; exact b k hk
  · rw [r 21 (by decide) (by decide), (z1 k hk).2.1] at hlt
    exact absurd hlt (by decide)
  · rw [r 11 (by decide) (by decide)]; exact d k hk
  · rw [r 8 (by decide) (by decide)]; exact e k hk
  · rw [r 17 (by decide) (by decide)]; exact f.1 k hk
  · rw [r0 7 (by decide), z0.2.1]; exact ⟨by decide, by decide⟩
  · have := P.lv (i := 0) (by omega)
    unfold dq_lv at this ⊢
    rw [r 18 (by decide) (by decide)]; exact this
theorem dq_TW.hh (P : dq_TW n t l T) : dq_HH T := by
  obtain ⟨_, z1, _⟩ := P.2.1
  obtain ⟨a, b, c, d, e, f⟩ := P.2.2
  refine ⟨fun k hk => ?_, f.2, f.1, d⟩
  rw [(z1 k hk).2.2.2]
  exact (f.1 k hk).wide (by decide) (by decide)
theorem dz_beginH (P : dq_TW n t l T) : dq_HH (ax_bones B sp (dq_set T 0 6 o)) := P.hh.cg fun q hq => dz_W_r (by omega) (by omega)
end DCS
