/-! pack -/
section DPE
variable {n t l m r : Nat} {st sp : Int32} {T W0 A : dq_W} {D : Nat → Nat × Nat × Nat} {B : Nat → Int32} {s u v : dk_S}
theorem dp_pack {a b : Nat} (ha : a < t) (hb : b = 24 ∨ b < t) (P : dq_P n t l m m 111 T W0 D B sp) (hm : m < 512) : dp_A n t m T W0 D B sp (wf_X8_pack (nI a) (dq_bI b)) := by
  have t24 := P.1.1.t24
  obtain ⟨JV, JX, RT, HH⟩ := dp_JV P
  have b1 : dq_bI b = -1 ↔ b = 24 := by
    rcases hb with g | g
    · rw [g]; exact ⟨fun _ => rfl, fun _ => rfl⟩
    · rw [dq_bI_of (by omega)]
      exact ⟨fun q => absurd q (dq_m1' (by omega)), fun q => by omega⟩
  have head : ∀ r A s, dq_Kf n t m r 111 T W0 A D B sp s → ∀ (K : Int32 → dk_S → Prop) (X : String → dk_S → Prop), wf_X8_pack_15 K X (nI a) (dq_bI b) s → wf_X8_pack (nI a) (dq_bI b) s K X := fun r A s Kf K X k => by
    unfold wf_X8_pack
    refine kz_checkThing (dz_et P Kf) t24 (fun _ => ⟨fun _ => k, fun g => kz_checkThing (dz_et P Kf) t24 (fun _ => k) (fun q => ?_)⟩) (fun g => absurd ⟨a, ha, rfl⟩ g)
    have hbt : b < t := hb.resolve_left fun e => g (b1.2 e)
    exact absurd ⟨b, hbt, dq_bI_of (by omega)⟩ q
  have win : b < t → (dq_wi (dq_ch n t W0 D m) a 24 b ↔ dq_IN (dq_ch n t W0 D m) a b) := fun g => dq_wi_IN JV.1.tp t24 JV.1.ac (by omega)
  have pre : ∀ r A s, dq_Kf n t m r 111 T W0 A D B sp s → ∀ (K : Int32 → dk_S → Prop) (X : String → dk_S → Prop), (dq_cr (dq_ch n t W0 D m) a → (b = 24 ∨ (T 24 b = 6 ∧ ¬ dq_IN (dq_ch n t W0 D m) a b)) → wf_X8_act 4 (nI a) (dq_bI b) s (fun r6 s5 => K r6 s5)) → (dq_cr (dq_ch n t W0 D m) a → (b = 24 ∨ dq_cr (dq_ch n t W0 D m) b) → ¬ (b = 24 ∨ (T 24 b = 6 ∧ ¬ dq_IN (dq_ch n t W0 D m) a b)) → X eUO s) → (¬ (dq_cr (dq_ch n t W0 D m) a ∧ (b = 24 ∨ dq_cr (dq_ch n t W0 D m) b)) → X eNS s) → wf_X8_pack (nI a) (dq_bI b) s K X := fun r A s Kf K X k1 k2 k3 => by
    have W2 := dz_W2 P Kf
    refine head r A s Kf K X ?_
    unfold wf_X8_pack_15
    refine kz_checkWorld (fun _ => ?_) (fun g => absurd Kf.2.1 g)
    refine kz_checkCarried W2 JV.1 (show a < 24 by omega) (fun ca => ⟨fun e => ?_, fun e => ?_⟩) (fun g => k3 fun q => g q.1)
    · exact k1 ca (Or.inl (b1.1 e))
    · have hbt : b < t := hb.resolve_left fun q => e (b1.2 q)
      have eb : dq_bI b = nI b := dq_bI_of (by omega)
      rw [eb]
      refine kz_checkCarried W2 JV.1 (show b < 24 by omega) (fun cb => kz_checkBag Kf.1 (show b < 24 by omega) (fun g6 => ?_) (fun g6 => k2 ca (Or.inr cb) fun q => ?_)) (fun g => k3 fun q => q.2.elim (fun w => by omega) g)
      · refine kw_isWithin W2 JV.1 (show b < 24 by omega) (show a < 24 by omega) (fun gi => dq_1 (k2 ca (Or.inr cb) fun q => ?_)) (fun gi => dq_0 ?_)
        · rcases q with q | q
          · omega
          · exact q.2 ((win hbt).1 gi)
        · rw [← eb]
          exact k1 ca (Or.inr ⟨g6, fun q => gi ((win hbt).2 q)⟩)
      · rcases q with q | q
        · omega
        · exact g6 q.1
  by_cases h3 : dq_cr (dq_ch n t W0 D m) a ∧ (b = 24 ∨ dq_cr (dq_ch n t W0 D m) b)
  · by_cases h4 : b = 24 ∨ (T 24 b = 6 ∧ ¬ dq_IN (dq_ch n t W0 D m) a b)
    · have hd : dq_DV t 4 a b (dq_ch n t W0 D m) := Or.inr (Or.inr (Or.inr (Or.inl ⟨rfl, ha, by
        rcases hb with q | q
        · exact Or.inl q
        · rcases h4 with w | w
          · exact Or.inl w
          · exact Or.inr ⟨q, w.2⟩⟩)))
      have hno := dp_no P hm hd (by decide)
      have act := dp_act P hm hd hno
      obtain ⟨c, hc, ec⟩ := dp_sum1 (P := fun i => dq_set (dq_ch n t W0 D m) 25 a (if b = 24 then -1 else (-3) - nI b) 25 i = (if b = 24 then -1 else (-3) - nI b)) t24
      exact Or.inr (Or.inr ⟨4, a, b, nI c, hd, hno, fun H => dp_CW.pack JV.1 JX h3.1 H, dp_gt (by omega), fun r A s K X Kf k => pre r A s Kf K X (fun _ _ => act.2 r A s Kf _ (fun v hv => dq_ke ec (k v hv))) (fun _ _ g => absurd h4 g) (fun g => absurd h3 g)⟩)
    · exact Or.inl ⟨eUO, Or.inr rfl, fun r A s K X Kf k => pre r A s Kf K X (fun _ g => absurd g h4) (fun _ _ _ => k) (fun g => absurd h3 g)⟩
  · by_cases h4 : dq_cr (dq_ch n t W0 D m) a
    · have h5 : ¬ (b = 24 ∨ dq_cr (dq_ch n t W0 D m) b) := fun q => h3 ⟨h4, q⟩
      refine Or.inl ⟨eNS, Or.inl rfl, fun r A s K X Kf k => ?_⟩
      have W2 := dz_W2 P Kf
      have hbt : b < t := hb.resolve_left fun q => h5 (Or.inl q)
      have eb : dq_bI b = nI b := dq_bI_of (by omega)
      refine head r A s Kf K X ?_
      unfold wf_X8_pack_15
      refine kz_checkWorld (fun _ => ?_) (fun g => absurd Kf.2.1 g)
      refine kz_checkCarried W2 JV.1 (show a < 24 by omega) (fun _ => ⟨fun e => absurd (Or.inl (b1.1 e)) h5, fun e => ?_⟩) (fun g => absurd h4 g)
      rw [eb]
      exact kz_checkCarried W2 JV.1 (show b < 24 by omega) (fun cb => absurd (Or.inr cb) h5) (fun _ => k)
    · exact Or.inl ⟨eNS, Or.inl rfl, fun r A s K X Kf k => pre r A s Kf K X (fun g => absurd g h4) (fun g => absurd g h4) (fun _ => k)⟩
end DPE
