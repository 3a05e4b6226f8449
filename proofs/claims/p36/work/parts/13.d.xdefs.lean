/-! the methods that may throw, as predicate transformers -/
def wf_X8_checkPlace (a0 : Int32) (a1 : Int32) (s : dk_S) (K : dk_S → Prop) (X : String → dk_S → Prop) : Prop :=
  ((a0 < 0 → X "java/lang/IndexOutOfBoundsException" s) ∧ (¬ a0 < 0 → ((12 ≤ a0 → X "java/lang/IndexOutOfBoundsException" s) ∧ (¬ 12 ≤ a0 → ((a1 < 0 → X "java/lang/IndexOutOfBoundsException" s) ∧ (¬ a1 < 0 → ((a1 < 12 → K s) ∧ (¬ a1 < 12 → X "java/lang/IndexOutOfBoundsException" s))))))))
def wf_X8_checkRange (a0 : Int32) (a1 : Int32) (a2 : Int32) (s : dk_S) (K : dk_S → Prop) (X : String → dk_S → Prop) : Prop :=
  ((a0 < a1 → X "java/lang/IllegalArgumentException" s) ∧ (¬ a0 < a1 → ((a0 ≤ a2 → K s) ∧ (¬ a0 ≤ a2 → X "java/lang/IllegalArgumentException" s))))
def wf_X8_checkNoWorld  (s : dk_S) (K : dk_S → Prop) (X : String → dk_S → Prop) : Prop :=
  ((¬ (s 0 40 5) = 111 → K s) ∧ ((s 0 40 5) = 111 → X "java/lang/IllegalStateException" s))
def wf_X8_checkRoom (a0 : Int32) (a1 : Int32) (s : dk_S) (K : dk_S → Prop) (X : String → dk_S → Prop) : Prop :=
  ((a0 < a1 → K s) ∧ (¬ a0 < a1 → X "java/lang/IllegalStateException" s))
def wf_X8_addBeast (a1 : Int32) (a2 : Int32) (a3 : Int32) (a4 : Int32) (a5 : Int32) (s : dk_S) (K : Int32 → dk_S → Prop) (X : String → dk_S → Prop) : Prop :=
  wf_X8_checkPlace a1 a2 s (fun s1 => wf_X8_checkRange a3 1 24 s1 (fun s2 => wf_X8_checkRange a4 0 9 s2 (fun s3 => wf_X8_checkRange a5 1 30 s3 (fun s4 => wf_X8_checkNoWorld s4 (fun s5 => wf_X8_checkRoom (s5 1 13 9) 8 s5 (fun s6 => ∀ v7 : Int32, v7 = s6 1 13 9 → wf_X8_spot a1 a2 s6 (fun r9 s8 => wf_X2_tell 1 v7 r9 a3 a4 a5 s8 (fun s10 => ∀ s11 : dk_S, s11 = dk_row s10 1 13 (upd (s10 1 13) 9 (v7 + 1)) → ∀ s12 : dk_S, s12 = dk_row s11 0 40 (upd (s11 0 40) 5 110) → K v7 s12))) X) X) X) X) X) X
def wf_X8_addLamp (a1 : Int32) (a2 : Int32) (a3 : Int32) (s : dk_S) (K : Int32 → dk_S → Prop) (X : String → dk_S → Prop) : Prop :=
  wf_X8_checkPlace a1 a2 s (fun s1 => wf_X8_checkRange a3 0 9 s1 (fun s2 => wf_X8_checkNoWorld s2 (fun s3 => wf_X8_checkRoom (s3 1 26 2) 4 s3 (fun s4 => ∀ s5 : dk_S, s5 = dk_row s4 0 40 (upd (s4 0 40) 5 110) → wf_X8_spot a1 a2 s5 (fun r7 s6 => wf_X4_add 1 r7 a3 s6 (fun r9 s8 => K r9 s8))) X) X) X) X
def wf_X8_checkThing (a1 : Int32) (s : dk_S) (K : dk_S → Prop) (X : String → dk_S → Prop) : Prop :=
  ((a1 < 0 → X "java/lang/IndexOutOfBoundsException" s) ∧ (¬ a1 < 0 → ((a1 < (s 1 23 2) → K s) ∧ (¬ a1 < (s 1 23 2) → X "java/lang/IndexOutOfBoundsException" s))))
def wf_X8_checkBag (a1 : Int32) (s : dk_S) (K : dk_S → Prop) (X : String → dk_S → Prop) : Prop :=
  wf_X8_at 1 24 24 a1 s (fun r2 s1 => ((r2 = 6 → K s1) ∧ (¬ r2 = 6 → X "java/lang/UnsupportedOperationException" s1)))
def wf_X8_addThing_30  (K : Int32 → dk_S → Prop) (X : String → dk_S → Prop) (x1 : Int32) (x2 : Int32) (x3 : Int32) (x4 : Int32) (s : dk_S) : Prop :=
  wf_X8_checkNoWorld s (fun s6 => wf_X8_checkRoom (s6 1 23 2) 24 s6 (fun s7 => ∀ s8 : dk_S, s8 = dk_row s7 0 40 (upd (s7 0 40) 5 110) → ((¬ x4 = (-1) → wf_X6_add 1 x1 ((-3) - x4) s8 (fun r10 s9 => K r10 s9)) ∧ (x4 = (-1) → wf_X8_spot x2 x3 s8 (fun r12 s11 => wf_X6_add 1 x1 r12 s11 (fun r14 s13 => K r14 s13))))) X) X
def wf_X8_addThing (a1 : Int32) (a2 : Int32) (a3 : Int32) (a4 : Int32) (s : dk_S) (K : Int32 → dk_S → Prop) (X : String → dk_S → Prop) : Prop :=
  wf_X8_checkRange a1 0 7 s (fun s1 => wf_X8_checkPlace a2 a3 s1 (fun s2 => ((a4 = (-1) → wf_X8_addThing_30 K X a1 a2 a3 a4 s2) ∧ (¬ a4 = (-1) → wf_X8_checkThing a4 s2 (fun s3 => wf_X8_checkBag a4 s3 (fun s4 => wf_X8_addThing_30 K X a1 a2 a3 a4 s4) X) X))) X) X
def wf_X8_begin (a1 : Int32) (s : dk_S) (K : Int32 → dk_S → Prop) (X : String → dk_S → Prop) : Prop :=
  ((0 ≤ a1 → wf_X8_checkNoWorld s (fun s1 => wf_X2_allStandApart 1 s1 (fun r3 s2 => ((r3 = 0 → X "java/lang/IllegalStateException" s2) ∧ (¬ r3 = 0 → wf_X7_allStandFree 1 s2 (fun r5 s4 => ((¬ r5 = 0 → wf_X8_make 2 a1 s4 (fun s6 => wf_X8_make 3 a1 s6 (fun s7 => ∀ s8 : dk_S, s8 = dk_row s7 0 41 (upd (s7 0 41) 3 0) → ∀ s9 : dk_S, s9 = dk_row s8 0 40 (upd (s8 0 40) 6 0) → ∀ s10 : dk_S, s10 = dk_row s9 0 40 (upd (s9 0 40) 5 111) → wf_X7_waitForHero 2 s10 (fun s11 => wf_X8_settle s11 (fun s12 => K (s12 2 0 5) s12))))) ∧ (r5 = 0 → X "java/lang/IllegalStateException" s4))))))) X) ∧ (¬ 0 ≤ a1 → X "java/lang/IllegalArgumentException" s))
def wf_X8_cell (a1 : Int32) (a2 : Int32) (s : dk_S) (K : Int32 → dk_S → Prop) (X : String → dk_S → Prop) : Prop :=
  wf_X8_checkPlace a1 a2 s (fun s1 => ((s1 0 40 5 = 110 → wf_X8_spot a1 a2 s1 (fun r3 s2 => wf_X1_signAt 1 r3 s2 (fun r5 s4 => (narrow .char (.int r5) = .int r5 ∧ K r5 s4)))) ∧ (¬ s1 0 40 5 = 110 → wf_X8_spot a1 a2 s1 (fun r7 s6 => wf_X1_signAt 2 r7 s6 (fun r9 s8 => (narrow .char (.int r9) = .int r9 ∧ K r9 s8)))))) X
def wf_X8_checkCarried (a1 : Int32) (s : dk_S) (K : dk_S → Prop) (X : String → dk_S → Prop) : Prop :=
  wf_X6_outerPlace 2 a1 s (fun r2 s1 => ((r2 = (-1) → K s1) ∧ (¬ r2 = (-1) → X "java/util/NoSuchElementException" s1)))
def wf_X8_checkCreature (a1 : Int32) (a2 : Int32) (s : dk_S) (K : dk_S → Prop) (X : String → dk_S → Prop) : Prop :=
  ((a1 < a2 → X "java/lang/IndexOutOfBoundsException" s) ∧ (¬ a1 < a2 → ((a1 < (s 1 13 9) → K s) ∧ (¬ a1 < (s 1 13 9) → X "java/lang/IndexOutOfBoundsException" s))))
def wf_X8_checkInHands (a1 : Int32) (s : dk_S) (K : dk_S → Prop) (X : String → dk_S → Prop) : Prop :=
  wf_X8_at 2 25 24 a1 s (fun r2 s1 => ((r2 = (-1) → K s1) ∧ (¬ r2 = (-1) → X "java/util/NoSuchElementException" s1)))
def wf_X8_checkWay (a0 : Int32) (s : dk_S) (K : dk_S → Prop) (X : String → dk_S → Prop) : Prop :=
  wf_X8_checkRange a0 0 3 s (fun s1 => K s1) X
def wf_X8_checkWorld  (s : dk_S) (K : dk_S → Prop) (X : String → dk_S → Prop) : Prop :=
  (((s 0 40 5) = 111 → K s) ∧ (¬ (s 0 40 5) = 111 → X "java/lang/IllegalStateException" s))
def wf_X8_drink (a1 : Int32) (s : dk_S) (K : Int32 → dk_S → Prop) (X : String → dk_S → Prop) : Prop :=
  wf_X8_checkThing a1 s (fun s1 => wf_X8_checkWorld s1 (fun s2 => wf_X8_checkInHands a1 s2 (fun s3 => wf_X8_at 2 24 24 a1 s3 (fun r5 s4 => wf_X8_isPotion r5 s4 (fun r7 s6 => ((¬ r7 = 0 → wf_X8_act 5 a1 0 s6 (fun r9 s8 => K r9 s8)) ∧ (r7 = 0 → X "java/lang/UnsupportedOperationException" s6))))) X) X) X
def wf_X8_drop (a1 : Int32) (s : dk_S) (K : Int32 → dk_S → Prop) (X : String → dk_S → Prop) : Prop :=
  wf_X8_checkThing a1 s (fun s1 => wf_X8_checkWorld s1 (fun s2 => wf_X8_checkInHands a1 s2 (fun s3 => wf_X8_act 3 a1 0 s3 (fun r5 s4 => K r5 s4)) X) X) X
def wf_X8_go (a1 : Int32) (s : dk_S) (K : Int32 → dk_S → Prop) (X : String → dk_S → Prop) : Prop :=
  wf_X8_checkWay a1 s (fun s1 => wf_X8_checkWorld s1 (fun s2 => wf_X8_act 0 a1 0 s2 (fun r4 s3 => ((¬ r4 = (-1000000) → (narrow .char (.int ((r4.toUInt32 % 65536).toInt32)) = .int ((r4.toUInt32 % 65536).toInt32) ∧ K ((r4.toUInt32 % 65536).toInt32) s3)) ∧ (r4 = (-1000000) → K 98 s3)))) X) X
def wf_X8_healthOf (a1 : Int32) (s : dk_S) (K : Int32 → dk_S → Prop) (X : String → dk_S → Prop) : Prop :=
  wf_X8_checkCreature a1 0 s (fun s1 => ((s1 0 40 5 = 110 → wf_X8_at 1 18 8 a1 s1 (fun r3 s2 => K r3 s2)) ∧ (¬ s1 0 40 5 = 110 → wf_X8_at 2 18 8 a1 s1 (fun r5 s4 => K r5 s4)))) X
def wf_X8_hurl (a1 : Int32) (a2 : Int32) (s : dk_S) (K : Int32 → dk_S → Prop) (X : String → dk_S → Prop) : Prop :=
  wf_X8_checkThing a1 s (fun s1 => wf_X8_checkWay a2 s1 (fun s2 => wf_X8_checkWorld s2 (fun s3 => wf_X8_checkInHands a1 s3 (fun s4 => wf_X8_act 6 a1 a2 s4 (fun r6 s5 => K r6 s5)) X) X) X) X
def wf_X8_isSame  (s : dk_S) (K : Int32 → dk_S → Prop) (X : String → dk_S → Prop) : Prop :=
  ((¬ (s 0 40 5) = 110 → wf_X8_redo s (fun s1 => wf_X7_isLike 2 3 s1 (fun r3 s2 => (narrow .boolean (.int r3) = .int r3 ∧ K r3 s2)))) ∧ ((s 0 40 5) = 110 → X "java/lang/IllegalStateException" s))
def wf_X8_pack_15  (K : Int32 → dk_S → Prop) (X : String → dk_S → Prop) (x1 : Int32) (x2 : Int32) (s : dk_S) : Prop :=
  wf_X8_checkWorld s (fun s4 => wf_X8_checkCarried x1 s4 (fun s5 => ((x2 = (-1) → wf_X8_act 4 x1 x2 s5 (fun r7 s6 => K r7 s6)) ∧ (¬ x2 = (-1) → wf_X8_checkCarried x2 s5 (fun s8 => wf_X8_checkBag x2 s8 (fun s9 => wf_X6_isWithin 2 x2 x1 s9 (fun r11 s10 => ((r11 = 0 → wf_X8_act 4 x1 x2 s10 (fun r13 s12 => K r13 s12)) ∧ (¬ r11 = 0 → X "java/lang/UnsupportedOperationException" s10)))) X) X))) X) X
def wf_X8_pack (a1 : Int32) (a2 : Int32) (s : dk_S) (K : Int32 → dk_S → Prop) (X : String → dk_S → Prop) : Prop :=
  wf_X8_checkThing a1 s (fun s1 => ((a2 = (-1) → wf_X8_pack_15 K X a1 a2 s1) ∧ (¬ a2 = (-1) → wf_X8_checkThing a2 s1 (fun s2 => wf_X8_pack_15 K X a1 a2 s2) X))) X
def wf_X8_placeOf (a1 : Int32) (s : dk_S) (K : Int32 → dk_S → Prop) (X : String → dk_S → Prop) : Prop :=
  wf_X8_checkCreature a1 0 s (fun s1 => ((s1 0 40 5 = 110 → wf_X8_at 1 14 8 a1 s1 (fun r3 s2 => wf_X8_shownPlace r3 s2 (fun r5 s4 => K r5 s4))) ∧ (¬ s1 0 40 5 = 110 → wf_X8_at 2 14 8 a1 s1 (fun r7 s6 => wf_X8_shownPlace r7 s6 (fun r9 s8 => K r9 s8))))) X
def wf_X8_pray  (s : dk_S) (K : Int32 → dk_S → Prop) (X : String → dk_S → Prop) : Prop :=
  wf_X8_checkWorld s (fun s1 => wf_X8_act 8 0 0 s1 (fun r3 s2 => K r3 s2)) X
def wf_X8_rest  (s : dk_S) (K : Int32 → dk_S → Prop) (X : String → dk_S → Prop) : Prop :=
  wf_X8_checkWorld s (fun s1 => wf_X8_act 1 0 0 s1 (fun r3 s2 => K (s2 2 0 5) s2)) X
def wf_X8_setHero (a1 : Int32) (a2 : Int32) (a3 : Int32) (a4 : Int32) (s : dk_S) (K : Int32 → dk_S → Prop) (X : String → dk_S → Prop) : Prop :=
  wf_X8_checkPlace a1 a2 s (fun s1 => wf_X8_checkRange a3 1 24 s1 (fun s2 => wf_X8_checkRange a4 1 99 s2 (fun s3 => wf_X8_checkNoWorld s3 (fun s4 => wf_X8_at 1 18 8 0 s4 (fun r6 s5 => wf_X8_spot a1 a2 s5 (fun r8 s7 => wf_X2_tell 1 0 r8 a3 0 a4 s7 (fun s9 => ∀ s10 : dk_S, s10 = dk_row s9 0 40 (upd (s9 0 40) 5 110) → K r6 s10)))) X) X) X) X
def wf_X8_setKind (a1 : Int32) (a2 : Int32) (a3 : Int32) (s : dk_S) (K : Int32 → dk_S → Prop) (X : String → dk_S → Prop) : Prop :=
  wf_X8_checkRange a1 0 7 s (fun s1 => wf_X8_checkRange a2 0 9 s1 (fun s2 => wf_X8_checkNoWorld s2 (fun s3 => wf_X8_at 1 8 8 a1 s3 (fun r5 s4 => wf_X3_tell 1 a1 a2 a3 s4 (fun s6 => ∀ s7 : dk_S, s7 = dk_row s6 0 40 (upd (s6 0 40) 5 110) → K r5 s7))) X) X) X
def wf_X8_shout (a1 : Int32) (s : dk_S) (K : Int32 → dk_S → Prop) (X : String → dk_S → Prop) : Prop :=
  wf_X8_checkRange a1 1 30 s (fun s1 => wf_X8_checkWorld s1 (fun s2 => wf_X8_act 7 a1 0 s2 (fun r4 s3 => K r4 s3)) X) X
def wf_X8_take (a1 : Int32) (s : dk_S) (K : Int32 → dk_S → Prop) (X : String → dk_S → Prop) : Prop :=
  wf_X8_checkThing a1 s (fun s1 => wf_X8_checkWorld s1 (fun s2 => wf_X8_at 2 25 24 a1 s2 (fun r4 s3 => wf_X7_heroSpot 2 s3 (fun r6 s5 => ((r4 = r6 → wf_X6_carriedWeight 2 2 s5 (fun r8 s7 => wf_X6_wholeWeight 2 a1 2 s7 (fun r10 s9 => (((r8 + r10) ≤ 30 → wf_X8_act 2 a1 0 s9 (fun r12 s11 => K r12 s11)) ∧ (¬ (r8 + r10) ≤ 30 → X "java/lang/UnsupportedOperationException" s9))))) ∧ (¬ r4 = r6 → X "java/util/NoSuchElementException" s5))))) X) X
def wf_X8_weightOf (a1 : Int32) (s : dk_S) (K : Int32 → dk_S → Prop) (X : String → dk_S → Prop) : Prop :=
  wf_X8_checkThing a1 s (fun s1 => ((s1 0 40 5 = 110 → wf_X6_wholeWeight 1 a1 1 s1 (fun r3 s2 => K r3 s2)) ∧ (¬ s1 0 40 5 = 110 → wf_X6_wholeWeight 2 a1 2 s1 (fun r5 s4 => K r5 s4)))) X
def wf_X8_whereIs (a1 : Int32) (s : dk_S) (K : Int32 → dk_S → Prop) (X : String → dk_S → Prop) : Prop :=
  wf_X8_checkThing a1 s (fun s1 => ((s1 0 40 5 = 110 → wf_X8_at 1 25 24 a1 s1 (fun r3 s2 => ((0 ≤ r3 → wf_X8_shownPlace r3 s2 (fun r5 s4 => K r5 s4)) ∧ (¬ 0 ≤ r3 → K r3 s2)))) ∧ (¬ s1 0 40 5 = 110 → wf_X8_at 2 25 24 a1 s1 (fun r8 s7 => ((0 ≤ r8 → wf_X8_shownPlace r8 s7 (fun r10 s9 => K r10 s9)) ∧ (¬ 0 ≤ r8 → K r8 s7)))))) X
