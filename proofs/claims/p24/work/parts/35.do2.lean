/-! What is done, second part; the bits of glue -/
def btx (x : Int32) (i : Nat) : Bool := x.toBitVec.getLsbD i
theorem btx_sh : ∀ n : Fin 32, (((cI ((n : Nat) : Int)).toUInt32 &&& Int32.toUInt32 31).toBitVec % 32).toNat = (n : Nat) := by decide +kernel
theorem btx_pw : ∀ n : Fin 32, (cI 1 <<< (cI ((n : Nat) : Int) &&& 31)).toBitVec = BitVec.twoPow 32 (n : Nat) := by decide +kernel
theorem btx_1 : ∀ i : Fin 32, btx (cI 1) (i : Nat) = decide ((i : Nat) = 0) := by decide +kernel
theorem btx_ushr {q : Int} (hq : 0 ≤ q ∧ q < 32) (x : Int32) (i : Nat) : btx ((x.toUInt32 >>> ((cI q).toUInt32 &&& Int32.toUInt32 31)).toInt32) i = btx x (q.toNat + i) := by
  have h := btx_sh ⟨q.toNat, by omega⟩
  have e : ((q.toNat : Nat) : Int) = q := by omega
  simp only [e] at h
  show (x.toUInt32 >>> ((cI q).toUInt32 &&& Int32.toUInt32 31)).toBitVec.getLsbD i = x.toUInt32.toBitVec.getLsbD (q.toNat + i)
  rw [UInt32.toBitVec_shiftRight]
  show (x.toUInt32.toBitVec >>> (((cI q).toUInt32 &&& Int32.toUInt32 31).toBitVec % 32).toNat).getLsbD i = _
  rw [h, BitVec.getLsbD_ushiftRight]
theorem cGb_bt {v q : Int} (hq : 0 ≤ q ∧ q < 32) : cGb v q = 1 ↔ btx (cI v) q.toNat = true := by
  unfold cGb
  rw [cI_back]
  generalize hy : ((cI v).toUInt32 >>> ((cI q).toUInt32 &&& Int32.toUInt32 31)).toInt32 = y
  have hb : btx y 0 = btx (cI v) q.toNat := by rw [← hy, btx_ushr hq]; rfl
  have hy1 : ∀ z : Int32, (z = y &&& cI 1) → z = if btx y 0 = true then cI 1 else cI 0 := by
    intro z hz
    refine Int32.toBitVec_inj.mp (BitVec.eq_of_getLsbD_eq (fun i hi => ?_))
    have h1 := btx_1 ⟨i, hi⟩
    unfold btx at h1 ⊢
    rw [hz, Int32.toBitVec_and, BitVec.getLsbD_and, h1]
    by_cases hc : y.toBitVec.getLsbD 0 = true
    · rw [if_pos hc, h1]
      by_cases h0 : i = 0
      · subst h0; rw [hc]; rfl
      · simp [h0]
    · rw [if_neg hc]
      have hz0 : (cI 0).toBitVec.getLsbD i = false := by
        have : (cI 0).toBitVec = 0#32 := by decide
        rw [this]; exact BitVec.getLsbD_zero
      rw [hz0]
      by_cases h0 : i = 0
      · subst h0; simp at hc; simp [hc]
      · simp [h0]
  rw [hy1 _ rfl, hb]
  by_cases hc : btx (cI v) q.toNat = true
  · rw [if_pos hc]; exact ⟨fun _ => hc, fun _ => by decide⟩
  · rw [if_neg hc]; exact ⟨fun h => absurd h (by decide), fun h => absurd h hc⟩
theorem cGb_or {v b q : Int} (hb : 0 ≤ b ∧ b < 32) (hq : 0 ≤ q ∧ q < 32) : cGb (cOrb v b) q = 1 ↔ cGb v q = 1 ∨ q = b := by
  rw [cGb_bt hq, cGb_bt hq]
  unfold cOrb
  rw [cI_back, cI_back]
  have h := btx_pw ⟨b.toNat, by omega⟩
  have e : ((b.toNat : Nat) : Int) = b := by omega
  simp only [e] at h
  unfold btx
  rw [Int32.toBitVec_or, BitVec.getLsbD_or, h, BitVec.getLsbD_twoPow]
  simp only [Bool.or_eq_true, Bool.and_eq_true, decide_eq_true_eq]
  constructor
  · rintro (h1 | ⟨-, h2⟩)
    · exact Or.inl h1
    · exact Or.inr (by omega)
  · rintro (h1 | h1)
    · exact Or.inl h1
    · exact Or.inr ⟨by omega, by omega⟩
/-- two cells are glued to each other: what is glued then -/
theorem cGl_stick {S : cS} {a b p q : Int} (hw : cPw S) (ha : 0 ≤ a ∧ a < S 1 2) (hb : 0 ≤ b ∧ b < S 1 2) (hab : ¬ a = b) :
    cGl (setS (setS S 7 a (cOrb (S 7 a) b)) 7 b (cOrb (setS S 7 a (cOrb (S 7 a) b) 7 b) a)) p q ↔ cGl S p q ∨ (p = a ∧ q = b) ∨ (p = b ∧ q = a) := by
  unfold cGl
  rw [setS_o (by omega), setS_o (by omega), setS_at, setS_i (fun h => hab h.symm), setS_at]
  by_cases hr : (0 ≤ p ∧ p < S 1 2) ∧ (0 ≤ q ∧ q < S 1 2)
  · obtain ⟨hp, hq⟩ := hr
    have hq32 : 0 ≤ q ∧ q < 32 := by omega
    by_cases hpb : p = b
    · subst hpb
      rw [if_pos rfl, cGb_or (by omega) hq32]
      constructor
      · rintro ⟨h1, h2, h3 | h3⟩
        · exact Or.inl ⟨h1, h2, h3⟩
        · exact Or.inr (Or.inr ⟨rfl, h3⟩)
      · rintro (⟨h1, h2, h3⟩ | ⟨h1, h2⟩ | ⟨h1, h2⟩)
        · exact ⟨h1, h2, Or.inl h3⟩
        · exact absurd h1.symm hab
        · exact ⟨hp, hq, Or.inr h2⟩
    · rw [if_neg hpb]
      by_cases hpa : p = a
      · subst hpa
        rw [if_pos rfl, cGb_or (by omega) hq32]
        constructor
        · rintro ⟨h1, h2, h3 | h3⟩
          · exact Or.inl ⟨h1, h2, h3⟩
          · exact Or.inr (Or.inl ⟨rfl, h3⟩)
        · rintro (⟨h1, h2, h3⟩ | ⟨h1, h2⟩ | ⟨h1, h2⟩)
          · exact ⟨h1, h2, Or.inl h3⟩
          · exact ⟨hp, hq, Or.inr h2⟩
          · exact absurd h1 hpb
      · rw [if_neg hpa]
        constructor
        · intro h; exact Or.inl h
        · rintro (h | ⟨h1, -⟩ | ⟨h1, -⟩)
          · exact h
          · exact absurd h1 hpa
          · exact absurd h1 hpb
  · constructor
    · rintro ⟨h1, h2, -⟩; exact absurd ⟨h1, h2⟩ hr
    · rintro (⟨h1, h2, -⟩ | ⟨h1, h2⟩ | ⟨h1, h2⟩)
      · exact absurd ⟨h1, h2⟩ hr
      · subst h1; subst h2; exact absurd ⟨ha, hb⟩ hr
      · subst h1; subst h2; exact absurd ⟨hb, ha⟩ hr
set_option maxRecDepth 20000 in
theorem p_unfold {xs : Nat → Int32} {Ls : Nat} {S : cS} {t : Nat} (hW : cWd S) (hpast : 1 ≤ S 0 5 → cGood (vw S (22 + 6 * (S 0 5 - 1).toNat)) ∧ vw S (22 + 6 * (S 0 5 - 1).toNat) 0 0 = S 1 2 ∧ (0 ≤ S 21 (S 0 5 - 1) ∧ S 21 (S 0 5 - 1) < 1000)) : cZ xs Ls 3 45 0 [(0, .ref 0)] [] S t (cQI (fun r S' t' => t' = t ∧ ((r = -1 ∧ S' = setS S 0 7 (S 0 7 + 1)) ∨ (1 ≤ S 0 5 ∧ r = S 0 5 - 1 ∧ cUnfR S S')))) := by
  obtain ⟨hw, hpb, hn, hs, hh, hp, hfo⟩ := id hW
  have hd := hW.bd
  obtain ⟨hw1, hw2, hw3, hw4, hw5, hw6⟩ := id hw
  obtain ⟨hs1, hs2, hs3, hs4, hs5⟩ := id hs
  obtain ⟨hd1, hd2, hd3⟩ := id hd
  refine cz_aload rfl rfl ?_
  refine cz_getB rfl rfl ?_
  refine cz_icst rfl cc_1 ?_
  refine cz_iclt rfl (by omega) (by omega) (fun hb5 => ?_) (fun hb5 => ?_)
  · skip
    refine cz_aload rfl rfl ?_
    refine cz_dup rfl rfl ?_
    refine cz_getB rfl rfl ?_
    refine cz_icst rfl cc_1 ?_
    refine cz_iadd rfl ?_
    refine cz_putB rfl (by decide) ?_
    refine cz_icst rfl cc_m1 ?_
    refine cz_retI rfl ?_
    exact cQI.mk ⟨rfl, Or.inl ⟨rfl, rfl⟩⟩
  · skip
    refine cz_aload rfl rfl ?_
    refine cz_cV1I rfl rfl rfl cIs0 (Nat.le_of_ble_eq_true rfl) (p_isHeldByGlue hW (by omega) (hpast (by omega)).1.bd (hpast (by omega)).2.1 (hpast (by omega)).2.2) (fun r9 S9 t9 hq9 => ?_)
    obtain ⟨hr9, hS9, ht9⟩ := hq9
    rw [hS9, ht9]
    refine cz_ifeq rfl (by omega) (fun hb12 => ?_) (fun hb12 => ?_)
    · skip
      refine cz_aload rfl rfl ?_
      refine cz_getB rfl rfl ?_
      refine cz_aload rfl rfl ?_
      refine cz_getB rfl rfl ?_
      refine cz_cV2V rfl rfl rfl cIs1 (Nat.le_of_ble_eq_true rfl) (p_smooth hw hpb (by omega)) (fun S35 t35 hq35 => ?_)
      obtain ⟨ht35, g1, g2⟩ := hq35
      subst ht35
      refine cz_aload rfl rfl ?_
      refine cz_dup rfl rfl ?_
      refine cz_getB rfl rfl ?_
      refine cz_icst rfl cc_1 ?_
      refine cz_isub rfl ?_
      refine cz_putB rfl (by decide) ?_
      refine cz_name (fun S7 hS7 => ?_)
      have t05 : S7 0 5 = S 0 5 - 1 := by rw [hS7, setS_at, if_pos (by omega), g1 0 (by omega) (by omega)]
      have t06 : S7 0 6 = S 0 6 := by rw [hS7, setS_at, if_neg (by omega), g1 0 (by omega) (by omega)]
      have t07 : S7 0 7 = S 0 7 := by rw [hS7, setS_at, if_neg (by omega), g1 0 (by omega) (by omega)]
      have tfr : ∀ a2, ¬ a2 = 0 → S7 a2 = S35 a2 := fun a2 h1 => by rw [hS7, setS_o h1]
      have hbp : cFm (22 + 6 * (S7 0 5).toNat) := cFmQ (by omega)
      have hbl := hbp.lt
      have hdis : 8 + 6 ≤ 22 + 6 * (S7 0 5).toNat ∨ 22 + 6 * (S7 0 5).toNat + 6 ≤ 8 := by omega
      refine cz_aload rfl rfl ?_
      refine cz_getB rfl rfl ?_
      refine cz_aload rfl rfl ?_
      refine cz_getB rfl rfl ?_
      refine cz_aload rfl rfl ?_
      refine cz_getB rfl rfl ?_
      refine cz_aaldQ rfl (by omega) ?_
      refine cz_cV2V rfl rfl rfl (cIsF cFm8) (Nat.le_of_ble_eq_true rfl) (p_copyFrom cFm8 hbp hdis) (fun S61 t61 hq61 => ?_)
      obtain ⟨ht61, c1, c2, c3, c4, c5⟩ := hq61
      subst ht61
      refine cz_aload rfl rfl ?_
      refine cz_getB rfl rfl ?_
      refine cz_retI rfl ?_
      have tb : vw S7 (22 + 6 * (S7 0 5).toNat) = vw S (22 + 6 * (S7 0 5).toNat) := vw_eq fun a2 _ _ => by rw [tfr a2 (by omega), g1 a2 (by omega) (by omega)]
      rw [tb, t05] at c2 c3 c4 c5
      have xf : ∀ a2, ¬ (8 ≤ a2 ∧ a2 < 14) → S61 a2 = S7 a2 := fun a2 h => c1 a2 (by omega)
      refine cQI.mk ⟨rfl, Or.inr ⟨by omega, by rw [xf 0 (by omega), t05], ?_⟩⟩
      unfold cUnfR
      refine ⟨by rw [xf 0 (by omega), t05], by rw [xf 0 (by omega), t06], by rw [xf 0 (by omega), t07], ?_, ?_, ⟨c2, c3, c4, c5⟩, ?_⟩
      · intro a2 a0 a1 h2 h3
        rw [xf a2 (by omega), tfr a2 (by omega), g1 a2 h2 h3]
      · intro a2 a0 a1
        rw [xf a2 (by omega), tfr a2 (by omega), g1 a2 (by omega) (by omega)]
      · intro p p0 p1
        rw [xf 2 (by omega), xf 3 (by omega), tfr 2 (by omega), tfr 3 (by omega)]
        exact g2 p p0 p1
    · skip
      refine cz_aload rfl rfl ?_
      refine cz_dup rfl rfl ?_
      refine cz_getB rfl rfl ?_
      refine cz_icst rfl cc_1 ?_
      refine cz_iadd rfl ?_
      refine cz_putB rfl (by decide) ?_
      refine cz_icst rfl cc_m1 ?_
      refine cz_retI rfl ?_
      exact cQI.mk ⟨rfl, Or.inl ⟨rfl, rfl⟩⟩
set_option maxRecDepth 20000 in
theorem p_turn {xs : Nat → Int32} {Ls : Nat} {S : cS} {t : Nat} (hW : cWd S) (hG : cGood (vw S 8)) : cZ xs Ls 5 46 0 [(0, .ref 0)] [] S t (cQI (fun r S' t' => t' = t ∧ r = cNb (vw S 8) ∧ cFr 8 S S' ∧ cTurned (vw S 8) (vw S' 8))) := by
  obtain ⟨hw, hpb, hn, hs, hh, hp, hfo⟩ := id hW
  have hd := hW.bd
  obtain ⟨hw1, hw2, hw3, hw4, hw5, hw6⟩ := id hw
  obtain ⟨hs1, hs2, hs3, hs4, hs5⟩ := id hs
  obtain ⟨hd1, hd2, hd3⟩ := id hd
  refine cz_aload rfl rfl ?_
  refine cz_getB rfl rfl ?_
  refine cz_cV1V rfl rfl rfl (cIsF cFm8) (Nat.le_of_ble_eq_true rfl) (p_turnOver cFm8 hs ⟨hd1, hd2⟩ hp hh) (fun S4 t4 hq4 => ?_)
  obtain ⟨ht4, g1, g2, g3, g4⟩ := hq4
  subst ht4
  have hT : cTurned (vw S 8) (vw S4 8) := ⟨g2, g3, g4⟩
  have hGG := (cTurned_good hG hT).1
  refine cz_aload rfl rfl ?_
  refine cz_getB rfl rfl ?_
  refine cz_cV1P rfl rfl rfl (cIsF cFm8) (Nat.le_of_ble_eq_true rfl) (p_frontsAbove cFm8 hGG.2.1 hGG.bd hGG.hb) ?_
  refine cz_retI rfl ?_
  exact cQI.mk ⟨rfl, (cTurned_n hG hT).1, g1, hT⟩
set_option maxRecDepth 20000 in
theorem p_round {xs : Nat → Int32} {Ls : Nat} {S : cS} {t : Nat} (hW : cWd S) (hG : cGood (vw S 8)) : cZ xs Ls 4 47 0 [(0, .ref 0)] [] S t (cQI (fun r S' t' => t' = t ∧ r = cTop (vw S 8) (vw S 8 0 1 - 1) (vw S 8 0 2 - 1) ∧ cFr 8 S S' ∧ cRounded (vw S 8) (vw S' 8))) := by
  obtain ⟨hw, hpb, hn, hs, hh, hp, hfo⟩ := id hW
  have hd := hW.bd
  obtain ⟨hw1, hw2, hw3, hw4, hw5, hw6⟩ := id hw
  obtain ⟨hs1, hs2, hs3, hs4, hs5⟩ := id hs
  obtain ⟨hd1, hd2, hd3⟩ := id hd
  refine cz_aload rfl rfl ?_
  refine cz_getB rfl rfl ?_
  refine cz_cV1V rfl rfl rfl (cIsF cFm8) (Nat.le_of_ble_eq_true rfl) (p_turnRound cFm8 hs ⟨hd1, hd2⟩ hp) (fun S4 t4 hq4 => ?_)
  obtain ⟨ht4, g1, g2, g3, g4⟩ := hq4
  subst ht4
  have hT : cRounded (vw S 8) (vw S4 8) := ⟨g2, g3, g4⟩
  have hGG := (cRounded_good hG hT).1
  refine cz_aload rfl rfl ?_
  refine cz_getB rfl rfl ?_
  refine cz_icst rfl cc_0 ?_
  refine cz_icst rfl cc_0 ?_
  refine cz_cV3P rfl rfl rfl (cIsF cFm8) (Nat.le_of_ble_eq_true rfl) (p_highestAt cFm8 hGG.2.1 hGG.bd hGG.hb (by omega) (by omega)) ?_
  refine cz_retI rfl ?_
  exact cQI.mk ⟨rfl, cRounded_top hG hT, g1, hT⟩
set_option maxRecDepth 20000 in
theorem p_ink {xs : Nat → Int32} {Ls : Nat} {S : cS} {t : Nat} (hW : cWd S) {x y : Int} (hxy : cHas (vw S 8) x y) : cZ xs Ls 3 48 0 [(0, .ref 0), (1, .int (cI x)), (2, .int (cI y))] [] S t (cQI (fun r S' t' => t' = t ∧ r = bI (cDry S (cOs (vw S 8) (cTop (vw S 8) x y) 1)) ∧ S' = if cDry S (cOs (vw S 8) (cTop (vw S 8) x y) 1) then setS S 5 (cOs (vw S 8) (cTop (vw S 8) x y) 1) 2 else S)) := by
  obtain ⟨hw, hpb, hn, hs, hh, hp, hfo⟩ := id hW
  have hd := hW.bd
  obtain ⟨hw1, hw2, hw3, hw4, hw5, hw6⟩ := id hw
  obtain ⟨hs1, hs2, hs3, hs4, hs5⟩ := id hs
  obtain ⟨hd1, hd2, hd3⟩ := id hd
  have hc1 := cAt_b (F := vw S 8) (by omega) x y (cHt (vw S 8) x y - 1)
  have hc3 : cTop (vw S 8) x y = cAt (vw S 8) x y (cHt (vw S 8) x y - 1) := rfl
  have ho1 := cOs_b (vw S 8) (cTop (vw S 8) x y) 1
  refine cz_aload rfl rfl ?_
  refine cz_iload rfl rfl ?_
  refine cz_iload rfl rfl ?_
  refine cz_cV3PV rfl rfl rfl cIs0 (Nat.le_of_ble_eq_true rfl) (p_requirePlace hs (by omega) (by omega) hxy) ?_
  refine cz_aload rfl rfl ?_
  refine cz_getB rfl rfl ?_
  refine cz_aload rfl rfl ?_
  refine cz_aload rfl rfl ?_
  refine cz_getB rfl rfl ?_
  refine cz_iload rfl rfl ?_
  refine cz_iload rfl rfl ?_
  refine cz_cV3P rfl rfl rfl (cIsF cFm8) (Nat.le_of_ble_eq_true rfl) (p_highestAt cFm8 hs hd hh (by omega) (by omega)) ?_
  refine cz_icst rfl cc_1 ?_
  refine cz_cV3P rfl rfl rfl cIs0 (Nat.le_of_ble_eq_true rfl) (p_outerSide hd (by omega) (by omega)) ?_
  refine cz_cV2I rfl rfl rfl cIs1 (Nat.le_of_ble_eq_true rfl) (p_wet hw hpb (by omega)) (fun r24 S24 t24 hq24 => ?_)
  obtain ⟨hr24, ht24, hS24⟩ := hq24
  have hro := (bI_or : bI (cDry S (cOs (vw S 8) (cTop (vw S 8) x y) 1)) = 0 ∨ _)
  rw [← hr24] at hro
  refine cz_retZ rfl (by omega) ?_
  exact cQI.mk ⟨ht24, hr24, hS24⟩
set_option maxRecDepth 20000 in
theorem p_dry {xs : Nat → Int32} {Ls : Nat} {S : cS} {t : Nat} (hW : cWd S) : cZ xs Ls 2 49 0 [(0, .ref 0)] [] S t (cQI (fun r S' t' => r = csum (fun i => bI (cWet S i)) (2 * S 1 2).toNat ∧ t' = t ∧ (∀ a, ¬ a = 5 → S' a = S a) ∧ ∀ p, 0 ≤ p → p < 64 → S' 5 p = if p < 2 * S 1 2 ∧ S 5 p = 2 then 1 else S 5 p)) := by
  obtain ⟨hw, hpb, hn, hs, hh, hp, hfo⟩ := id hW
  have hd := hW.bd
  obtain ⟨hw1, hw2, hw3, hw4, hw5, hw6⟩ := id hw
  obtain ⟨hs1, hs2, hs3, hs4, hs5⟩ := id hs
  obtain ⟨hd1, hd2, hd3⟩ := id hd
  refine cz_aload rfl rfl ?_
  refine cz_getB rfl rfl ?_
  refine cz_cV1I rfl rfl rfl cIs1 (Nat.le_of_ble_eq_true rfl) (p_dryAll hw hpb) (fun r4 S4 t4 hq4 => ?_)
  refine cz_retI rfl ?_
  exact cQI.mk hq4
set_option maxRecDepth 20000 in
theorem p_punch_loop {xs : Nat → Int32} {Ls : Nat} {S : cS} {t : Nat} (hW : cWd S) {x y : Int} (hxy : cHas (vw S 8) x y) : ∀ (n : Nat) (i : Int) (S1 : cS), 0 ≤ i → i + n = S 1 2 → (∀ a, ¬ a = 6 → S1 a = S a) → (∀ p, 0 ≤ p → p < S 1 2 → S1 6 p = S 6 p + if p < i then bI (cLies (vw S 8) p x y) else 0) →
    cZ xs Ls 2 50 8 [(0, .ref 0), (1, .int (cI x)), (2, .int (cI y)), (3, .int (cI i))] [] S1 t (cQI (fun r S' t' => t' = t ∧ r = cHt (vw S 8) x y ∧ (∀ a, ¬ a = 6 → S' a = S a) ∧ ∀ p, 0 ≤ p → p < S 1 2 → S' 6 p = S 6 p + bI (cLies (vw S 8) p x y))) := by
  obtain ⟨hw, hpb, hn, hs, hh, hp, hfo⟩ := id hW
  have hd := hW.bd
  obtain ⟨hw1, hw2, hw3, hw4, hw5, hw6⟩ := id hw
  obtain ⟨hs1, hs2, hs3, hs4, hs5⟩ := id hs
  obtain ⟨hd1, hd2, hd3⟩ := id hd
  intro n
  induction n with
  | zero =>
    intro i S1 hi0 hi h1 h2
    have e1 : S1 1 = S 1 := h1 1 (by omega)
    have e4 : S1 1 2 = S 1 2 := by rw [e1]
    have e8 : vw S1 8 = vw S 8 := vw_eq fun a _ _ => h1 a (by omega)
    refine cz_iload rfl rfl ?_
    refine cz_aload rfl rfl ?_
    refine cz_getB rfl rfl ?_
    refine cz_getP rfl rfl ?_
    refine cz_icge rfl (by omega) (by omega) (fun hb16 => ?_) (fun hb16 => ?_)
    rotate_left
    · exfalso; omega
    refine cz_aload rfl rfl ?_
    refine cz_getB rfl rfl ?_
    refine cz_iload rfl rfl ?_
    refine cz_iload rfl rfl ?_
    refine cz_cV3P rfl rfl rfl (cIsF cFm8) (Nat.le_of_ble_eq_true rfl) (p_heightAt cFm8 (by rw [e8]; exact hs) (by omega) (by omega)) ?_
    refine cz_retI rfl ?_
    exact cQI.mk ⟨rfl, by rw [e8], h1, fun p p0 p1 => by rw [h2 p p0 p1, if_pos (by omega)]⟩
  | succ n ih =>
    intro i S1 hi0 hi h1 h2
    have e1 : S1 1 = S 1 := h1 1 (by omega)
    have e4 : S1 1 2 = S 1 2 := by rw [e1]
    have e8 : vw S1 8 = vw S 8 := vw_eq fun a _ _ => h1 a (by omega)
    have hq := hd3 i hi0 (by omega)
    rw [← e8] at hq
    refine cz_iload rfl rfl ?_
    refine cz_aload rfl rfl ?_
    refine cz_getB rfl rfl ?_
    refine cz_getP rfl rfl ?_
    refine cz_icge rfl (by omega) (by omega) (fun hb16 => ?_) (fun hb16 => ?_)
    · exfalso; omega
    refine cz_aload rfl rfl ?_
    refine cz_getB rfl rfl ?_
    refine cz_iload rfl rfl ?_
    refine cz_iload rfl rfl ?_
    refine cz_iload rfl rfl ?_
    refine cz_cV4P rfl rfl rfl (cIsF cFm8) (Nat.le_of_ble_eq_true rfl) (p_liesAt cFm8 (by rw [e8]; exact hd) (by rw [e8]; omega) (by omega) (by omega)) ?_
    refine cz_ifeq rfl (by exact bI_ran) (fun hb29 => ?_) (fun hb29 => ?_)
    · replace hb29 := bI_0 hb29
      refine cz_iinc (l' := [(0, _), (1, _), (2, _), (3, _)]) rfl cc_1 rfl rfl ?_
      refine cz_goto rfl ?_
      refine ih (i + 1) _ (by omega) (by omega) ?_ ?_
      · intro a ha
        first
        | rw [setS_o ha]; exact h1 a ha
        | exact h1 a ha
      · intro p p0 p1
        have h3 := h2 p p0 p1
        rw [e8] at hb29
        first
        | rw [setS_at]
          by_cases hpe : p = i
          · subst hpe
            rw [if_neg (by omega)] at h3
            rw [if_pos rfl, if_pos (by omega), bI_pos hb29, h3]
            omega
          · rw [if_neg hpe, h3]
            by_cases hpi : p < i
            · rw [if_pos hpi, if_pos (by omega)]
            · rw [if_neg hpi, if_neg (by omega)]
        | rw [h3]
          by_cases hpe : p = i
          · subst hpe
            rw [if_neg (by omega), if_pos (by omega), bI_neg hb29]
          · by_cases hpi : p < i
            · rw [if_pos hpi, if_pos (by omega)]
            · rw [if_neg hpi, if_neg (by omega)]
    · replace hb29 := bI_n0 hb29
      refine cz_aload rfl rfl ?_
      refine cz_getB rfl rfl ?_
      refine cz_getP rfl rfl ?_
      refine cz_iload rfl rfl ?_
      refine cz_dup2 rfl rfl rfl ?_
      refine cz_ialdA (a := 6) (n := 32) (by decide) rfl (by omega) rfl (by omega) ?_
      refine cz_icst rfl cc_1 ?_
      refine cz_iadd rfl ?_
      refine cz_iastA (a := 6) (n := 32) (by decide) rfl (by omega) rfl (by omega) ?_
      refine cz_iinc (l' := [(0, _), (1, _), (2, _), (3, _)]) rfl cc_1 rfl rfl ?_
      refine cz_goto rfl ?_
      refine ih (i + 1) _ (by omega) (by omega) ?_ ?_
      · intro a ha
        first
        | rw [setS_o ha]; exact h1 a ha
        | exact h1 a ha
      · intro p p0 p1
        have h3 := h2 p p0 p1
        rw [e8] at hb29
        first
        | rw [setS_at]
          by_cases hpe : p = i
          · subst hpe
            rw [if_neg (by omega)] at h3
            rw [if_pos rfl, if_pos (by omega), bI_pos hb29, h3]
            omega
          · rw [if_neg hpe, h3]
            by_cases hpi : p < i
            · rw [if_pos hpi, if_pos (by omega)]
            · rw [if_neg hpi, if_neg (by omega)]
        | rw [h3]
          by_cases hpe : p = i
          · subst hpe
            rw [if_neg (by omega), if_pos (by omega), bI_neg hb29]
          · by_cases hpi : p < i
            · rw [if_pos hpi, if_pos (by omega)]
            · rw [if_neg hpi, if_neg (by omega)]
set_option maxRecDepth 20000 in
theorem p_punch {xs : Nat → Int32} {Ls : Nat} {S : cS} {t : Nat} (hW : cWd S) {x y : Int} (hxy : cHas (vw S 8) x y) : cZ xs Ls 2 50 0 [(0, .ref 0), (1, .int (cI x)), (2, .int (cI y))] [] S t (cQI (fun r S' t' => t' = t ∧ r = cHt (vw S 8) x y ∧ (∀ a, ¬ a = 6 → S' a = S a) ∧ ∀ p, 0 ≤ p → p < S 1 2 → S' 6 p = S 6 p + bI (cLies (vw S 8) p x y))) := by
  obtain ⟨hw, hpb, hn, hs, hh, hp, hfo⟩ := id hW
  have hd := hW.bd
  obtain ⟨hw1, hw2, hw3, hw4, hw5, hw6⟩ := id hw
  obtain ⟨hs1, hs2, hs3, hs4, hs5⟩ := id hs
  obtain ⟨hd1, hd2, hd3⟩ := id hd
  refine cz_aload rfl rfl ?_
  refine cz_iload rfl rfl ?_
  refine cz_iload rfl rfl ?_
  refine cz_cV3PV rfl rfl rfl cIs0 (Nat.le_of_ble_eq_true rfl) (p_requirePlace hs (by omega) (by omega) hxy) ?_
  refine cz_icst rfl cc_0 ?_
  refine cz_st1 (l' := [(0, _), (1, _), (2, _), (3, _)]) rfl rfl rfl ?_
  exact p_punch_loop hW hxy (S 1 2).toNat 0 S (by omega) (by omega) (fun _ _ => rfl) (fun p p0 p1 => by rw [if_neg (by omega)]; omega)
set_option maxRecDepth 20000 in
theorem p_glue_loop {xs : Nat → Int32} {Ls : Nat} {S : cS} {t : Nat} (hW : cWd S) (hG : cGood (vw S 8)) {x y : Int} (hxy : cHas (vw S 8) x y) : ∀ (n : Nat) (i r : Int) (S1 : cS), 1 ≤ i → i + n = cHt (vw S 8) x y → r = (i - 1) - csum (cGlu S x y) (i - 1).toNat → (∀ a, ¬ a = 7 → S1 a = S a) → (∀ j, 0 ≤ j → j < cHt (vw S 8) x y - 1 → (cGl S1 (cAt (vw S 8) x y j) (cAt (vw S 8) x y (j + 1)) ↔ (cGl S (cAt (vw S 8) x y j) (cAt (vw S 8) x y (j + 1)) ∨ j < i - 1))) →
    cZ xs Ls 2 51 11 [(0, .ref 0), (1, .int (cI x)), (2, .int (cI y)), (3, .int (cI r)), (4, .int (cI i))] [] S1 t (cQI (fun r S' t' => t' = t ∧ r = (cHt (vw S 8) x y - 1) - csum (cGlu S x y) (cHt (vw S 8) x y - 1).toNat ∧ (∀ a, ¬ a = 7 → S' a = S a) ∧ ∀ j, 0 ≤ j → j < cHt (vw S 8) x y - 1 → cGlu S' x y j = 1)) := by
  obtain ⟨hw, hpb, hn, hs, hh, hp, hfo⟩ := id hW
  have hd := hW.bd
  obtain ⟨hw1, hw2, hw3, hw4, hw5, hw6⟩ := id hw
  obtain ⟨hs1, hs2, hs3, hs4, hs5⟩ := id hs
  obtain ⟨hd1, hd2, hd3⟩ := id hd
  have hhb := cHt_b hs hh x y
  intro n
  induction n with
  | zero =>
    intro i r S1 hi0 hi hr h1 h2
    have e1 : S1 1 = S 1 := h1 1 (by omega)
    have e8 : vw S1 8 = vw S 8 := vw_eq fun a _ _ => h1 a (by omega)
    have e3 : i = cHt (vw S 8) x y := by omega
    have e9 : cHt (vw S1 8) x y = cHt (vw S 8) x y := by rw [e8]
    refine cz_iload rfl rfl ?_
    refine cz_aload rfl rfl ?_
    refine cz_getB rfl rfl ?_
    refine cz_iload rfl rfl ?_
    refine cz_iload rfl rfl ?_
    refine cz_cV3P rfl rfl rfl (cIsF cFm8) (Nat.le_of_ble_eq_true rfl) (p_heightAt cFm8 (by rw [e8]; exact hs) (by omega) (by omega)) ?_
    refine cz_icge rfl (by omega) (by omega) (fun hb22 => ?_) (fun hb22 => ?_)
    rotate_left
    · exfalso; omega
    refine cz_iload rfl rfl ?_
    refine cz_retI rfl ?_
    rw [e3] at hr
    refine cQI.mk ⟨rfl, hr, h1, fun j j0 j1 => ?_⟩
    unfold cGlu
    rw [e8]
    exact bI_pos ((h2 j j0 j1).mpr (Or.inr (by omega)))
  | succ n ih =>
    intro i r S1 hi0 hi hr h1 h2
    have e1 : S1 1 = S 1 := h1 1 (by omega)
    have e8 : vw S1 8 = vw S 8 := vw_eq fun a _ _ => h1 a (by omega)
    have e9 : cHt (vw S1 8) x y = cHt (vw S 8) x y := by rw [e8]
    have hw1' : cPw S1 := by unfold cPw; rw [e1]; exact hw
    have hs1' : cSh (vw S1 8) := by rw [e8]; exact hs
    have hd1' : cBd (vw S1 8) := by rw [e8]; exact hd
    have e12 : S1 1 2 = S 1 2 := by rw [e1]
    obtain ⟨p1, p2, p3, p4⟩ := hG.at hxy (l := i - 1) (by omega) (by omega)
    obtain ⟨q1, q2, q3, q4⟩ := hG.at hxy (l := i) (by omega) (by omega)
    have hlow : cAt (vw S1 8) x y (i - 1) = (cAt (vw S 8) x y (i - 1)) := by rw [e8]
    have hupp : cAt (vw S1 8) x y i = (cAt (vw S 8) x y i) := by rw [e8]
    have hne : ¬ (cAt (vw S 8) x y (i - 1)) = (cAt (vw S 8) x y i) := by
      intro h
      rw [h] at p4
      omega
    have hdist : ∀ j m, 0 ≤ j → j < cHt (vw S 8) x y → 0 ≤ m → m < cHt (vw S 8) x y → (cAt (vw S 8) x y j) = (cAt (vw S 8) x y m) → j = m := by
      intro j m a1 a2 b1 b2 he
      have g1 := (hG.at hxy a1 a2).2.2.2
      have g2 := (hG.at hxy b1 b2).2.2.2
      rw [he] at g1
      omega
    have hnn : (i + 1 - 1).toNat = (i - 1).toNat + 1 := by omega
    have hni : (((i - 1).toNat : Nat) : Int) = i - 1 := by omega
    have hstep : csum (cGlu S x y) (i + 1 - 1).toNat = csum (cGlu S x y) (i - 1).toNat + bI (cGl S (cAt (vw S 8) x y (i - 1)) (cAt (vw S 8) x y i)) := by
      rw [hnn]
      show csum (cGlu S x y) (i - 1).toNat + cGlu S x y (((i - 1).toNat : Nat) : Int) = _
      rw [hni]
      unfold cGlu
      rw [Int.sub_add_cancel]
    have hst := h2 (i - 1) (by omega) (by omega)
    rw [Int.sub_add_cancel] at hst
    have hst2 : cGl S1 (cAt (vw S 8) x y (i - 1)) (cAt (vw S 8) x y i) ↔ cGl S (cAt (vw S 8) x y (i - 1)) (cAt (vw S 8) x y i) := by
      rw [hst]
      exact ⟨fun h => h.elim id (fun h => by omega), fun h => Or.inl h⟩
    refine cz_iload rfl rfl ?_
    refine cz_aload rfl rfl ?_
    refine cz_getB rfl rfl ?_
    refine cz_iload rfl rfl ?_
    refine cz_iload rfl rfl ?_
    refine cz_cV3P rfl rfl rfl (cIsF cFm8) (Nat.le_of_ble_eq_true rfl) (p_heightAt cFm8 hs1' (by omega) (by omega)) ?_
    refine cz_icge rfl (by omega) (by omega) (fun hb22 => ?_) (fun hb22 => ?_)
    · exfalso; omega
    refine cz_aload rfl rfl ?_
    refine cz_getB rfl rfl ?_
    refine cz_iload rfl rfl ?_
    refine cz_iload rfl rfl ?_
    refine cz_iload rfl rfl ?_
    refine cz_icst rfl cc_1 ?_
    refine cz_isub rfl ?_
    refine cz_cV4P rfl rfl rfl (cIsF cFm8) (Nat.le_of_ble_eq_true rfl) (p_cellAt cFm8 hd1' (by omega) (by omega) (by omega)) ?_
    refine cz_st1 (l' := [(0, _), (1, _), (2, _), (3, _), (4, _), (5, _)]) rfl rfl rfl ?_
    refine cz_aload rfl rfl ?_
    refine cz_getB rfl rfl ?_
    refine cz_iload rfl rfl ?_
    refine cz_iload rfl rfl ?_
    refine cz_iload rfl rfl ?_
    refine cz_cV4P rfl rfl rfl (cIsF cFm8) (Nat.le_of_ble_eq_true rfl) (p_cellAt cFm8 hd1' (by omega) (by omega) (by omega)) ?_
    refine cz_st1 (l' := [(0, _), (1, _), (2, _), (3, _), (4, _), (5, _), (6, _)]) rfl rfl rfl ?_
    refine cz_aload rfl rfl ?_
    refine cz_getB rfl rfl ?_
    refine cz_iload rfl rfl ?_
    refine cz_iload rfl rfl ?_
    refine cz_cV3P rfl rfl rfl cIs1 (Nat.le_of_ble_eq_true rfl) (p_areGlued hw1' (by rw [hlow]; omega) (by rw [hupp]; omega)) ?_
    refine cz_ifne rfl (by exact bI_ran) (fun hb64 => ?_) (fun hb64 => ?_)
    · replace hb64 := bI_n0 hb64
      refine cz_iinc (l' := [(0, _), (1, _), (2, _), (3, _), (4, _), (5, _), (6, _)]) rfl cc_1 rfl rfl ?_
      refine cz_goto rfl ?_
      refine cz_weak (fun i => i == 0 || i == 1 || i == 2 || i == 3 || i == 4) (l' := [(0, _), (1, _), (2, _), (3, _), (4, _)]) rfl ?_
      first
      | refine ih (i + 1) _ _ (by omega) (by omega) ?_ ?_ ?_
        · rw [hstep, bI_neg (fun h => hb64 (hst2.mpr h))]
          omega
        · intro a ha
          rw [hS75, setS_o ha, setS_o ha]
          exact h1 a ha
        · intro j j0 j1
          rw [hS75, cGl_stick hw1' (by omega) (by omega) hne, h2 j j0 j1]
          constructor
          · rintro ((h | h) | ⟨h3, h4⟩ | ⟨h3, h4⟩)
            · exact Or.inl h
            · exact Or.inr (by omega)
            · have := hdist j (i - 1) j0 (by omega) (by omega) (by omega) h3
              exact Or.inr (by omega)
            · exfalso
              have g1 := hdist j i j0 (by omega) (by omega) (by omega) h3
              have g2 := hdist (j + 1) (i - 1) (by omega) (by omega) (by omega) (by omega) h4
              omega
          · rintro (h | h)
            · exact Or.inl (Or.inl h)
            · by_cases hji : j = i - 1
              · subst hji
                rw [Int.sub_add_cancel]
                exact Or.inr (Or.inl ⟨rfl, rfl⟩)
              · exact Or.inl (Or.inr (by omega))
      | rw [hlow, hupp] at hb64
        have hgl := Classical.not_not.mp (by first | exact hb64 | exact fun h => h hb64)
        refine ih (i + 1) _ _ (by omega) (by omega) ?_ h1 ?_
        · rw [hstep, bI_pos (hst2.mp hb64)]
          omega
        · intro j j0 j1
          rw [h2 j j0 j1]
          constructor
          · rintro (h | h)
            · exact Or.inl h
            · exact Or.inr (by omega)
          · rintro (h | h)
            · exact Or.inl h
            · by_cases hji : j = i - 1
              · subst hji
                rw [Int.sub_add_cancel]
                exact Or.inl (hst2.mp hb64)
              · exact Or.inr (by omega)
    · replace hb64 := bI_nn hb64
      refine cz_aload rfl rfl ?_
      refine cz_getB rfl rfl ?_
      refine cz_iload rfl rfl ?_
      refine cz_iload rfl rfl ?_
      refine cz_cV3V rfl rfl rfl cIs1 (Nat.le_of_ble_eq_true rfl) (p_stick hw1' (by rw [hlow]; omega) (by rw [hupp]; omega)) (fun S75 t75 hq75 => ?_)
      obtain ⟨ht75, hS75⟩ := hq75
      subst ht75
      rw [hlow, hupp] at hb64 hS75
      rw [if_pos (by omega)] at hS75
      refine cz_iinc (l' := [(0, _), (1, _), (2, _), (3, _), (4, _), (5, _), (6, _)]) rfl cc_1 rfl rfl ?_
      refine cz_iinc (l' := [(0, _), (1, _), (2, _), (3, _), (4, _), (5, _), (6, _)]) rfl cc_1 rfl rfl ?_
      refine cz_goto rfl ?_
      refine cz_weak (fun i => i == 0 || i == 1 || i == 2 || i == 3 || i == 4) (l' := [(0, _), (1, _), (2, _), (3, _), (4, _)]) rfl ?_
      first
      | refine ih (i + 1) _ _ (by omega) (by omega) ?_ ?_ ?_
        · rw [hstep, bI_neg (fun h => hb64 (hst2.mpr h))]
          omega
        · intro a ha
          rw [hS75, setS_o ha, setS_o ha]
          exact h1 a ha
        · intro j j0 j1
          rw [hS75, cGl_stick hw1' (by omega) (by omega) hne, h2 j j0 j1]
          constructor
          · rintro ((h | h) | ⟨h3, h4⟩ | ⟨h3, h4⟩)
            · exact Or.inl h
            · exact Or.inr (by omega)
            · have := hdist j (i - 1) j0 (by omega) (by omega) (by omega) h3
              exact Or.inr (by omega)
            · exfalso
              have g1 := hdist j i j0 (by omega) (by omega) (by omega) h3
              have g2 := hdist (j + 1) (i - 1) (by omega) (by omega) (by omega) (by omega) h4
              omega
          · rintro (h | h)
            · exact Or.inl (Or.inl h)
            · by_cases hji : j = i - 1
              · subst hji
                rw [Int.sub_add_cancel]
                exact Or.inr (Or.inl ⟨rfl, rfl⟩)
              · exact Or.inl (Or.inr (by omega))
      | rw [hlow, hupp] at hb64
        have hgl := Classical.not_not.mp (by first | exact hb64 | exact fun h => h hb64)
        refine ih (i + 1) _ _ (by omega) (by omega) ?_ h1 ?_
        · rw [hstep, bI_pos (hst2.mp hb64)]
          omega
        · intro j j0 j1
          rw [h2 j j0 j1]
          constructor
          · rintro (h | h)
            · exact Or.inl h
            · exact Or.inr (by omega)
          · rintro (h | h)
            · exact Or.inl h
            · by_cases hji : j = i - 1
              · subst hji
                rw [Int.sub_add_cancel]
                exact Or.inl (hst2.mp hb64)
              · exact Or.inr (by omega)
set_option maxRecDepth 20000 in
theorem p_glue {xs : Nat → Int32} {Ls : Nat} {S : cS} {t : Nat} (hW : cWd S) (hG : cGood (vw S 8)) {x y : Int} (hxy : cHas (vw S 8) x y) : cZ xs Ls 2 51 0 [(0, .ref 0), (1, .int (cI x)), (2, .int (cI y))] [] S t (cQI (fun r S' t' => t' = t ∧ r = (cHt (vw S 8) x y - 1) - csum (cGlu S x y) (cHt (vw S 8) x y - 1).toNat ∧ (∀ a, ¬ a = 7 → S' a = S a) ∧ ∀ j, 0 ≤ j → j < cHt (vw S 8) x y - 1 → cGlu S' x y j = 1)) := by
  obtain ⟨hw, hpb, hn, hs, hh, hp, hfo⟩ := id hW
  have hd := hW.bd
  obtain ⟨hw1, hw2, hw3, hw4, hw5, hw6⟩ := id hw
  obtain ⟨hs1, hs2, hs3, hs4, hs5⟩ := id hs
  obtain ⟨hd1, hd2, hd3⟩ := id hd
  have hh1 := hG.2.2.2.2.2.2.1 x y hxy
  refine cz_aload rfl rfl ?_
  refine cz_iload rfl rfl ?_
  refine cz_iload rfl rfl ?_
  refine cz_cV3PV rfl rfl rfl cIs0 (Nat.le_of_ble_eq_true rfl) (p_requirePlace hs (by omega) (by omega) hxy) ?_
  refine cz_icst rfl cc_0 ?_
  refine cz_st1 (l' := [(0, _), (1, _), (2, _), (3, _)]) rfl rfl rfl ?_
  refine cz_icst rfl cc_1 ?_
  refine cz_st1 (l' := [(0, _), (1, _), (2, _), (3, _), (4, _)]) rfl rfl rfl ?_
  refine p_glue_loop hW hG hxy (cHt (vw S 8) x y - 1).toNat 1 0 S (by omega) (by omega) rfl (fun _ _ => rfl) ?_
  intro j j0 j1
  exact ⟨fun h => Or.inl h, fun h => h.elim id (fun h => by omega)⟩
