/-! The class: what it asks before it does, and its private methods -/
set_option maxRecDepth 20000 in
theorem p_requireLine {xs : Nat → Int32} {Ls : Nat} {S : cS} {t : Nat} (hs : cSh (vw S 8)) {x y : Int} (hxR : -2147483648 ≤ x ∧ x < 2147483648) (hyR : -2147483648 ≤ y ∧ y < 2147483648) (hl : cLine (vw S 8) x y) : cZ xs Ls 1 63 0 [(0, .ref 0), (1, .int (cI x)), (2, .int (cI y))] [] S t (cPV S t) := by
  refine cz_aload rfl rfl ?_
  refine cz_getB rfl rfl ?_
  refine cz_iload rfl rfl ?_
  refine cz_iload rfl rfl ?_
  refine cz_cV3P rfl rfl rfl (cIsF cFm8) (Nat.le_of_ble_eq_true rfl) (p_hasLine cFm8 hs hxR hyR) ?_
  refine cz_ifne rfl (by exact bI_ran) (fun hb9 => ?_) (fun hb9 => ?_)
  · replace hb9 := bI_n0 hb9
    refine cz_ret0 rfl ?_
    exact ⟨rfl, rfl, rfl⟩
  · replace hb9 := bI_nn hb9
    exact absurd hl hb9
set_option maxRecDepth 20000 in
theorem p_requirePlace {xs : Nat → Int32} {Ls : Nat} {S : cS} {t : Nat} (hs : cSh (vw S 8)) {x y : Int} (hxR : -2147483648 ≤ x ∧ x < 2147483648) (hyR : -2147483648 ≤ y ∧ y < 2147483648) (hl : cHas (vw S 8) x y) : cZ xs Ls 1 64 0 [(0, .ref 0), (1, .int (cI x)), (2, .int (cI y))] [] S t (cPV S t) := by
  refine cz_aload rfl rfl ?_
  refine cz_getB rfl rfl ?_
  refine cz_iload rfl rfl ?_
  refine cz_iload rfl rfl ?_
  refine cz_cV3P rfl rfl rfl (cIsF cFm8) (Nat.le_of_ble_eq_true rfl) (p_hasPlace cFm8 hs hxR hyR) ?_
  refine cz_ifne rfl (by exact bI_ran) (fun hb9 => ?_) (fun hb9 => ?_)
  · replace hb9 := bI_n0 hb9
    refine cz_ret0 rfl ?_
    exact ⟨rfl, rfl, rfl⟩
  · replace hb9 := bI_nn hb9
    exact absurd hl hb9
set_option maxRecDepth 20000 in
theorem p_requireCell {xs : Nat → Int32} {Ls : Nat} {S : cS} {t : Nat} (hw : cPw S) {x : Int} (hl : 0 ≤ x ∧ x < S 1 2) : cZ xs Ls 1 65 0 [(0, .ref 0), (1, .int (cI x))] [] S t (cPV S t) := by
  obtain ⟨hw1, hw2, hw3, hw4, hw5, hw6⟩ := id hw
  refine cz_aload rfl rfl ?_
  refine cz_getB rfl rfl ?_
  refine cz_iload rfl rfl ?_
  refine cz_cV2P rfl rfl rfl cIs1 (Nat.le_of_ble_eq_true rfl) (p_hasCell hw (by omega)) ?_
  refine cz_ifne rfl (by exact bI_ran) (fun hb8 => ?_) (fun hb8 => ?_)
  · replace hb8 := bI_n0 hb8
    refine cz_ret0 rfl ?_
    exact ⟨rfl, rfl, rfl⟩
  · replace hb8 := bI_nn hb8
    exact absurd hl hb8
set_option maxRecDepth 20000 in
theorem p_requireWhat {xs : Nat → Int32} {Ls : Nat} {S : cS} {t : Nat} {x y : Int} (hl : 0 ≤ x ∧ x ≤ y) (hy : y < 1000) : cZ xs Ls 0 66 0 [(0, .int (cI x)), (1, .int (cI y))] [] S t (cPV S t) := by
  refine cz_iload rfl rfl ?_
  refine cz_iflt rfl (by omega) (fun hb1 => ?_) (fun hb1 => ?_)
  · exfalso; omega
  refine cz_iload rfl rfl ?_
  refine cz_iload rfl rfl ?_
  refine cz_icle rfl (by omega) (by omega) (fun hb6 => ?_) (fun hb6 => ?_)
  rotate_left
  · exfalso; omega
  refine cz_ret0 rfl ?_
  exact ⟨rfl, rfl, rfl⟩
set_option maxRecDepth 20000 in
theorem p_outerSide {xs : Nat → Int32} {Ls : Nat} {S : cS} {t : Nat} (hd : cBd (vw S 8)) {c u : Int} (hcR : -2147483648 ≤ c ∧ c < 2147483648) (hu : u = 0 ∨ u = 1) : cZ xs Ls 2 72 0 [(0, .ref 0), (1, .int (cI c)), (2, .int (cI u))] [] S t (cP (cOs (vw S 8) c u) S t) := by
  refine cz_iload rfl rfl ?_
  refine cz_aload rfl rfl ?_
  refine cz_getB rfl rfl ?_
  refine cz_iload rfl rfl ?_
  refine cz_cV2P rfl rfl rfl (cIsF cFm8) (Nat.le_of_ble_eq_true rfl) (p_isFrontUp cFm8 hd hcR) ?_
  refine cz_iload rfl rfl ?_
  refine cz_icne rfl (by exact bI_ran) (by omega) (fun hb10 => ?_) (fun hb10 => ?_)
  · skip
    refine cz_icst rfl cc_0 ?_
    refine cz_cS2P rfl rfl rfl rfl (Nat.le_of_ble_eq_true rfl) (p_sideOf (by omega)) ?_
    refine cz_retI rfl ?_
    exact cP.mk (by unfold cOs; first | rw [bI_pos (P := bI (cUp (vw S 8) c) = u) (by omega)] | rw [bI_neg (P := bI (cUp (vw S 8) c) = u) (by omega)])
  · skip
    refine cz_icst rfl cc_1 ?_
    refine cz_goto rfl ?_
    refine cz_cS2P rfl rfl rfl rfl (Nat.le_of_ble_eq_true rfl) (p_sideOf (by omega)) ?_
    refine cz_retI rfl ?_
    exact cP.mk (by unfold cOs; first | rw [bI_pos (P := bI (cUp (vw S 8) c) = u) (by omega)] | rw [bI_neg (P := bI (cUp (vw S 8) c) = u) (by omega)])
set_option maxRecDepth 20000 in
theorem p_isBlot {xs : Nat → Int32} {Ls : Nat} {S : cS} {t : Nat} (hW : cWd S) {c m : Int} (hc : -1 ≤ c ∧ c < 32) (hm : -1 ≤ m ∧ m < 32) {k : Int} (hk : 0 ≤ k ∧ k < 1000) : cZ xs Ls 3 71 0 [(0, .ref 0), (1, .int (cI c)), (2, .int (cI m)), (3, .int (cI k))] [] S t (cP (bI (cBl S c m k)) S t) := by
  obtain ⟨hw, hpb, hn, hs, hh, hp, hfo⟩ := id hW
  have hd := hW.bd
  obtain ⟨hw1, hw2, hw3, hw4, hw5, hw6⟩ := id hw
  obtain ⟨hs1, hs2, hs3, hs4, hs5⟩ := id hs
  obtain ⟨hd1, hd2, hd3⟩ := id hd
  have ho1 := cOs_b (vw S 8) c (cOv k)
  have ho2 := cOs_b (vw S 8) m (cOv k)
  refine cz_iload rfl rfl ?_
  refine cz_icst rfl cc_m1 ?_
  refine cz_icne rfl (by omega) (by omega) (fun hb2 => ?_) (fun hb2 => ?_)
  · skip
    refine cz_iload rfl rfl ?_
    refine cz_cS1P rfl rfl rfl rfl (Nat.le_of_ble_eq_true rfl) (p_isOver hk) ?_
    refine cz_st1 (l' := [(0, _), (1, _), (2, _), (3, _), (4, _)]) rfl rfl rfl ?_
    refine cz_aload rfl rfl ?_
    refine cz_getB rfl rfl ?_
    refine cz_aload rfl rfl ?_
    refine cz_iload rfl rfl ?_
    refine cz_iload rfl rfl ?_
    refine cz_cV3P rfl rfl rfl cIs0 (Nat.le_of_ble_eq_true rfl) (p_outerSide hd (by omega) (cOv_or k)) ?_
    refine cz_cV2P rfl rfl rfl cIs1 (Nat.le_of_ble_eq_true rfl) (p_isWet hw hpb (by have := cOs_b (vw S 8) c (cOv k); omega)) ?_
    refine cz_aload rfl rfl ?_
    refine cz_getB rfl rfl ?_
    refine cz_aload rfl rfl ?_
    refine cz_iload rfl rfl ?_
    refine cz_iload rfl rfl ?_
    refine cz_cV3P rfl rfl rfl cIs0 (Nat.le_of_ble_eq_true rfl) (p_outerSide hd (by omega) (cOv_or k)) ?_
    refine cz_cV2P rfl rfl rfl cIs1 (Nat.le_of_ble_eq_true rfl) (p_isWet hw hpb (by have := cOs_b (vw S 8) m (cOv k); omega)) ?_
    refine cz_iceq rfl (by exact bI_ran) (by exact bI_ran) (fun hb41 => ?_) (fun hb41 => ?_)
    · skip
      refine cz_icst rfl cc_0 ?_
      refine cz_retZ rfl (by omega) ?_
      by_cases ha : cWet S (cOs (vw S 8) c (cOv k))
      · by_cases hbb : cWet S (cOs (vw S 8) m (cOv k))
        · first
          | exact cP.mk (bI_neg (fun hh => hh.2.elim (fun h => h.2 hbb) (fun h => h.1 ha))).symm
          | (exfalso; rw [bI_pos ha, bI_pos hbb] at hb41; omega)
        · first
          | exact cP.mk (bI_pos ⟨by omega, Or.inl ⟨ha, hbb⟩⟩).symm
          | (exfalso; rw [bI_pos ha, bI_neg hbb] at hb41; omega)
          | exact cP.mk (bI_neg (fun hh => hh.1 (by omega))).symm
      · by_cases hbb : cWet S (cOs (vw S 8) m (cOv k))
        · first
          | exact cP.mk (bI_pos ⟨by omega, Or.inr ⟨ha, hbb⟩⟩).symm
          | (exfalso; rw [bI_neg ha, bI_pos hbb] at hb41; omega)
          | exact cP.mk (bI_neg (fun hh => hh.1 (by omega))).symm
        · first
          | exact cP.mk (bI_neg (fun hh => hh.2.elim (fun h => ha h.1) (fun h => hbb h.2))).symm
          | (exfalso; rw [bI_neg ha, bI_neg hbb] at hb41; omega)
    · skip
      refine cz_icst rfl cc_1 ?_
      refine cz_goto rfl ?_
      refine cz_retZ rfl (by omega) ?_
      by_cases ha : cWet S (cOs (vw S 8) c (cOv k))
      · by_cases hbb : cWet S (cOs (vw S 8) m (cOv k))
        · first
          | exact cP.mk (bI_neg (fun hh => hh.2.elim (fun h => h.2 hbb) (fun h => h.1 ha))).symm
          | (exfalso; rw [bI_pos ha, bI_pos hbb] at hb41; omega)
        · first
          | exact cP.mk (bI_pos ⟨by omega, Or.inl ⟨ha, hbb⟩⟩).symm
          | (exfalso; rw [bI_pos ha, bI_neg hbb] at hb41; omega)
          | exact cP.mk (bI_neg (fun hh => hh.1 (by omega))).symm
      · by_cases hbb : cWet S (cOs (vw S 8) m (cOv k))
        · first
          | exact cP.mk (bI_pos ⟨by omega, Or.inr ⟨ha, hbb⟩⟩).symm
          | (exfalso; rw [bI_neg ha, bI_pos hbb] at hb41; omega)
          | exact cP.mk (bI_neg (fun hh => hh.1 (by omega))).symm
        · first
          | exact cP.mk (bI_neg (fun hh => hh.2.elim (fun h => ha h.1) (fun h => hbb h.2))).symm
          | (exfalso; rw [bI_neg ha, bI_neg hbb] at hb41; omega)
  · skip
    refine cz_icst rfl cc_0 ?_
    refine cz_retZ rfl (by omega) ?_
    by_cases ha : cWet S (cOs (vw S 8) c (cOv k))
    · by_cases hbb : cWet S (cOs (vw S 8) m (cOv k))
      · first
        | exact cP.mk (bI_neg (fun hh => hh.2.elim (fun h => h.2 hbb) (fun h => h.1 ha))).symm
        | (exfalso; rw [bI_pos ha, bI_pos hbb] at hb41; omega)
      · first
        | exact cP.mk (bI_pos ⟨by omega, Or.inl ⟨ha, hbb⟩⟩).symm
        | (exfalso; rw [bI_pos ha, bI_neg hbb] at hb41; omega)
        | exact cP.mk (bI_neg (fun hh => hh.1 (by omega))).symm
    · by_cases hbb : cWet S (cOs (vw S 8) m (cOv k))
      · first
        | exact cP.mk (bI_pos ⟨by omega, Or.inr ⟨ha, hbb⟩⟩).symm
        | (exfalso; rw [bI_neg ha, bI_pos hbb] at hb41; omega)
        | exact cP.mk (bI_neg (fun hh => hh.1 (by omega))).symm
      · first
        | exact cP.mk (bI_neg (fun hh => hh.2.elim (fun h => ha h.1) (fun h => hbb h.2))).symm
        | (exfalso; rw [bI_neg ha, bI_neg hbb] at hb41; omega)
set_option maxRecDepth 20000 in
theorem p_cellThatMeets {xs : Nat → Int32} {Ls : Nat} {S : cS} {t : Nat} (hW : cWd S) {c : Int} (hc : 0 ≤ c ∧ c < S 1 2) {k : Int} (hk : 0 ≤ k ∧ k < 1000) : cZ xs Ls 4 70 0 [(0, .ref 0), (1, .int (cI c)), (2, .int (cI k))] [] S t (cP (cMeet (vw S 8) c k) S t) := by
  obtain ⟨hw, hpb, hn, hs, hh, hp, hfo⟩ := id hW
  have hd := hW.bd
  obtain ⟨hw1, hw2, hw3, hw4, hw5, hw6⟩ := id hw
  obtain ⟨hs1, hs2, hs3, hs4, hs5⟩ := id hs
  obtain ⟨hd1, hd2, hd3⟩ := id hd
  have hq := hd3 c (by omega) (by omega)
  have hm1 := cMc_b hk hq.1
  have hm2 := cMr_b hk hq.2.1
  refine cz_iload rfl rfl ?_
  refine cz_cS1P rfl rfl rfl rfl (Nat.le_of_ble_eq_true rfl) (p_isOver hk) ?_
  refine cz_st1 (l' := [(0, _), (1, _), (2, _), (3, _)]) rfl rfl rfl ?_
  refine cz_aload rfl rfl ?_
  refine cz_getB rfl rfl ?_
  refine cz_iload rfl rfl ?_
  refine cz_iload rfl rfl ?_
  refine cz_cV3P rfl rfl rfl (cIsF cFm8) (Nat.le_of_ble_eq_true rfl) (p_goes cFm8 hd (by omega) hk) ?_
  refine cz_ifeq rfl (by exact bI_ran) (fun hb14 => ?_) (fun hb14 => ?_)
  · replace hb14 := bI_0 hb14
    refine cz_icst rfl cc_m1 ?_
    refine cz_retI rfl ?_
    exact cP.mk (by unfold cMeet; rw [if_neg]; first | exact fun h => hb14 h.1 | exact fun h => hb26 h.2)
  · replace hb14 := bI_n0 hb14
    refine cz_aload rfl rfl ?_
    refine cz_getB rfl rfl ?_
    refine cz_iload rfl rfl ?_
    refine cz_iload rfl rfl ?_
    refine cz_cV3P rfl rfl rfl (cIsF cFm8) (Nat.le_of_ble_eq_true rfl) (p_isOutermost cFm8 hs hd hh (by omega) (cOv_or k)) ?_
    refine cz_ifne rfl (by exact bI_ran) (fun hb26 => ?_) (fun hb26 => ?_)
    · replace hb26 := bI_n0 hb26
      refine cz_aload rfl rfl ?_
      refine cz_getB rfl rfl ?_
      refine cz_iload rfl rfl ?_
      refine cz_iload rfl rfl ?_
      refine cz_cV3P rfl rfl rfl (cIsF cFm8) (Nat.le_of_ble_eq_true rfl) (p_mc cFm8 hd (by omega) hk) ?_
      refine cz_st1 (l' := [(0, _), (1, _), (2, _), (3, _), (4, _)]) rfl rfl rfl ?_
      refine cz_aload rfl rfl ?_
      refine cz_getB rfl rfl ?_
      refine cz_iload rfl rfl ?_
      refine cz_iload rfl rfl ?_
      refine cz_cV3P rfl rfl rfl (cIsF cFm8) (Nat.le_of_ble_eq_true rfl) (p_mr cFm8 hd (by omega) hk) ?_
      refine cz_st1 (l' := [(0, _), (1, _), (2, _), (3, _), (4, _), (5, _)]) rfl rfl rfl ?_
      refine cz_iload rfl rfl ?_
      refine cz_ifeq rfl (by exact bI_ran) (fun hb54 => ?_) (fun hb54 => ?_)
      · replace hb54 := bI_0 hb54
        refine cz_aload rfl rfl ?_
        refine cz_getB rfl rfl ?_
        refine cz_iload rfl rfl ?_
        refine cz_iload rfl rfl ?_
        refine cz_icst rfl cc_0 ?_
        refine cz_cV4P rfl rfl rfl (cIsF cFm8) (Nat.le_of_ble_eq_true rfl) (p_cellAt cFm8 hd (by omega) (by omega) (by omega)) ?_
        refine cz_retI rfl ?_
        exact cP.mk (by unfold cMeet; rw [if_pos ⟨hb14, hb26⟩]; first | rw [if_pos hb54] | rw [if_neg hb54])
      · replace hb54 := bI_n0 hb54
        refine cz_aload rfl rfl ?_
        refine cz_getB rfl rfl ?_
        refine cz_iload rfl rfl ?_
        refine cz_iload rfl rfl ?_
        refine cz_cV3P rfl rfl rfl (cIsF cFm8) (Nat.le_of_ble_eq_true rfl) (p_highestAt cFm8 hs hd hh (by omega) (by omega)) ?_
        refine cz_goto rfl ?_
        refine cz_retI rfl ?_
        exact cP.mk (by unfold cMeet; rw [if_pos ⟨hb14, hb26⟩]; first | rw [if_pos hb54] | rw [if_neg hb54])
    · replace hb26 := bI_nn hb26
      refine cz_icst rfl cc_m1 ?_
      refine cz_retI rfl ?_
      exact cP.mk (by unfold cMeet; rw [if_neg]; first | exact fun h => hb14 h.1 | exact fun h => hb26 h.2)
set_option maxRecDepth 20000 in
theorem p_creasePair {xs : Nat → Int32} {Ls : Nat} {S : cS} {t : Nat} (hW : cWd S) (hsz : S 1 2 = S 1 0 * S 1 1) {c d k : Int} (hc : 0 ≤ c ∧ c < S 1 2) (hdd : d = 0 ∨ d = 1) (hk : 0 ≤ k ∧ k < 1000) : cZ xs Ls 3 68 0 [(0, .ref 0), (1, .int (cI c)), (2, .int (cI d)), (3, .int (cI k))] [] S t (cQI (fun r S' t' => t' = t ∧ r = bI (cNewC S c d k) ∧ (cNewC S c d k → ∃ kd, (kd = 1 ∨ kd = 2) ∧ S' = setS (setS (setS S 2 (2 * c + d) kd) 3 (2 * c + d) (S 0 5)) 4 (2 * c + d) (S 4 (2 * c + d) + 1)) ∧ (¬ cNewC S c d k → S' = S))) := by
  obtain ⟨hw, hpb, hn, hs, hh, hp, hfo⟩ := id hW
  have hd := hW.bd
  obtain ⟨hw1, hw2, hw3, hw4, hw5, hw6⟩ := id hw
  obtain ⟨hs1, hs2, hs3, hs4, hs5⟩ := id hs
  obtain ⟨hd1, hd2, hd3⟩ := id hd
  have hbe := cBes_b hw hsz (c := c) (d := d) hc
  have hpi := hpb (2 * c + d) (by omega) (by omega)
  refine cz_aload rfl rfl ?_
  refine cz_getB rfl rfl ?_
  refine cz_iload rfl rfl ?_
  refine cz_iload rfl rfl ?_
  refine cz_cV3P rfl rfl rfl cIs1 (Nat.le_of_ble_eq_true rfl) (p_cellBeside hw hc hdd) ?_
  refine cz_st1 (l' := [(0, _), (1, _), (2, _), (3, _), (4, _)]) rfl rfl rfl ?_
  refine cz_iload rfl rfl ?_
  refine cz_iload rfl rfl ?_
  refine cz_cS2P rfl rfl rfl rfl (Nat.le_of_ble_eq_true rfl) (p_pairOf hdd) ?_
  refine cz_st1 (l' := [(0, _), (1, _), (2, _), (3, _), (4, _), (5, _)]) rfl rfl rfl ?_
  refine cz_iload rfl rfl ?_
  refine cz_icst rfl cc_m1 ?_
  refine cz_iceq rfl (by omega) (by omega) (fun hb21 => ?_) (fun hb21 => ?_)
  · skip
    refine cz_icst rfl cc_0 ?_
    refine cz_retZ rfl (by omega) ?_
    have hnn : ¬ cNewC S c d k := by first | exact fun h => h.1 hb21 | exact fun h => hb34 h.2.1 | exact fun h => hb48 h.2.2
    exact cQI.mk ⟨rfl, (bI_neg hnn).symm, fun h => absurd h hnn, fun _ => rfl⟩
  · skip
    refine cz_aload rfl rfl ?_
    refine cz_getB rfl rfl ?_
    refine cz_getP rfl rfl ?_
    refine cz_iload rfl rfl ?_
    refine cz_ialdA (a := 2) (n := 64) (by decide) rfl (by omega) rfl (by omega) ?_
    refine cz_ifne rfl (by omega) (fun hb34 => ?_) (fun hb34 => ?_)
    · skip
      refine cz_icst rfl cc_0 ?_
      refine cz_retZ rfl (by omega) ?_
      have hnn : ¬ cNewC S c d k := by first | exact fun h => h.1 hb21 | exact fun h => hb34 h.2.1 | exact fun h => hb48 h.2.2
      exact cQI.mk ⟨rfl, (bI_neg hnn).symm, fun h => absurd h hnn, fun _ => rfl⟩
    · skip
      refine cz_aload rfl rfl ?_
      refine cz_getB rfl rfl ?_
      refine cz_iload rfl rfl ?_
      refine cz_iload rfl rfl ?_
      refine cz_iload rfl rfl ?_
      refine cz_cV4P rfl rfl rfl (cIsF cFm8) (Nat.le_of_ble_eq_true rfl) (p_isLineBetween cFm8 hd (by omega) (by omega) hk) ?_
      refine cz_ifne rfl (by exact bI_ran) (fun hb48 => ?_) (fun hb48 => ?_)
      · replace hb48 := bI_n0 hb48
        refine cz_aload rfl rfl ?_
        refine cz_getB rfl rfl ?_
        refine cz_iload rfl rfl ?_
        refine cz_iload rfl rfl ?_
        refine cz_cV3P rfl rfl rfl (cIsF cFm8) (Nat.le_of_ble_eq_true rfl) (p_goes cFm8 hd (by omega) hk) ?_
        refine cz_ifeq rfl (by exact bI_ran) (fun hb62 => ?_) (fun hb62 => ?_)
        · replace hb62 := bI_0 hb62
          refine cz_iload rfl rfl ?_
          refine cz_st1 (l' := [(0, _), (1, _), (2, _), (3, _), (4, _), (5, _), (6, _)]) rfl rfl rfl ?_
          refine cz_aload rfl rfl ?_
          refine cz_getB rfl rfl ?_
          refine cz_iload rfl rfl ?_
          refine cz_cV2P rfl rfl rfl (cIsF cFm8) (Nat.le_of_ble_eq_true rfl) (p_isFrontUp cFm8 hd (by omega)) ?_
          refine cz_iload rfl rfl ?_
          refine cz_cS1P rfl rfl rfl rfl (Nat.le_of_ble_eq_true rfl) (p_isOver hk) ?_
          refine cz_icne rfl (by exact bI_ran) (by exact bI_ran) (fun hb86 => ?_) (fun hb86 => ?_)
          · skip
            refine cz_icst rfl cc_2 ?_
            refine cz_st1 (l' := [(0, _), (1, _), (2, _), (3, _), (4, _), (5, _), (6, _), (7, _)]) rfl rfl rfl ?_
            refine cz_aload rfl rfl ?_
            refine cz_getB rfl rfl ?_
            refine cz_iload rfl rfl ?_
            refine cz_iload rfl rfl ?_
            refine cz_aload rfl rfl ?_
            refine cz_getB rfl rfl ?_
            refine cz_cV4V rfl rfl rfl cIs1 (Nat.le_of_ble_eq_true rfl) (p_press (by omega)) (fun S108 t108 hq108 => ?_)
            obtain ⟨ht, hS⟩ := hq108
            have hnew : cNewC S c d k := ⟨hb21, Decidable.not_not.mp hb34, hb48⟩
            refine cz_icst rfl cc_1 ?_
            refine cz_retZ rfl (by omega) ?_
            refine cQI.mk ⟨ht, (bI_pos hnew).symm, fun _ => ⟨_, ?_, hS⟩, fun h => absurd hnew h⟩
            first | exact Or.inl rfl | exact Or.inr rfl
          · skip
            refine cz_icst rfl cc_1 ?_
            refine cz_goto rfl ?_
            refine cz_st1 (l' := [(0, _), (1, _), (2, _), (3, _), (4, _), (5, _), (6, _), (7, _)]) rfl rfl rfl ?_
            refine cz_aload rfl rfl ?_
            refine cz_getB rfl rfl ?_
            refine cz_iload rfl rfl ?_
            refine cz_iload rfl rfl ?_
            refine cz_aload rfl rfl ?_
            refine cz_getB rfl rfl ?_
            refine cz_cV4V rfl rfl rfl cIs1 (Nat.le_of_ble_eq_true rfl) (p_press (by omega)) (fun S108 t108 hq108 => ?_)
            obtain ⟨ht, hS⟩ := hq108
            have hnew : cNewC S c d k := ⟨hb21, Decidable.not_not.mp hb34, hb48⟩
            refine cz_icst rfl cc_1 ?_
            refine cz_retZ rfl (by omega) ?_
            refine cQI.mk ⟨ht, (bI_pos hnew).symm, fun _ => ⟨_, ?_, hS⟩, fun h => absurd hnew h⟩
            first | exact Or.inl rfl | exact Or.inr rfl
        · replace hb62 := bI_n0 hb62
          refine cz_iload rfl rfl ?_
          refine cz_goto rfl ?_
          refine cz_st1 (l' := [(0, _), (1, _), (2, _), (3, _), (4, _), (5, _), (6, _)]) rfl rfl rfl ?_
          refine cz_aload rfl rfl ?_
          refine cz_getB rfl rfl ?_
          refine cz_iload rfl rfl ?_
          refine cz_cV2P rfl rfl rfl (cIsF cFm8) (Nat.le_of_ble_eq_true rfl) (p_isFrontUp cFm8 hd (by omega)) ?_
          refine cz_iload rfl rfl ?_
          refine cz_cS1P rfl rfl rfl rfl (Nat.le_of_ble_eq_true rfl) (p_isOver hk) ?_
          refine cz_icne rfl (by exact bI_ran) (by exact bI_ran) (fun hb86 => ?_) (fun hb86 => ?_)
          · skip
            refine cz_icst rfl cc_2 ?_
            refine cz_st1 (l' := [(0, _), (1, _), (2, _), (3, _), (4, _), (5, _), (6, _), (7, _)]) rfl rfl rfl ?_
            refine cz_aload rfl rfl ?_
            refine cz_getB rfl rfl ?_
            refine cz_iload rfl rfl ?_
            refine cz_iload rfl rfl ?_
            refine cz_aload rfl rfl ?_
            refine cz_getB rfl rfl ?_
            refine cz_cV4V rfl rfl rfl cIs1 (Nat.le_of_ble_eq_true rfl) (p_press (by omega)) (fun S108 t108 hq108 => ?_)
            obtain ⟨ht, hS⟩ := hq108
            have hnew : cNewC S c d k := ⟨hb21, Decidable.not_not.mp hb34, hb48⟩
            refine cz_icst rfl cc_1 ?_
            refine cz_retZ rfl (by omega) ?_
            refine cQI.mk ⟨ht, (bI_pos hnew).symm, fun _ => ⟨_, ?_, hS⟩, fun h => absurd hnew h⟩
            first | exact Or.inl rfl | exact Or.inr rfl
          · skip
            refine cz_icst rfl cc_1 ?_
            refine cz_goto rfl ?_
            refine cz_st1 (l' := [(0, _), (1, _), (2, _), (3, _), (4, _), (5, _), (6, _), (7, _)]) rfl rfl rfl ?_
            refine cz_aload rfl rfl ?_
            refine cz_getB rfl rfl ?_
            refine cz_iload rfl rfl ?_
            refine cz_iload rfl rfl ?_
            refine cz_aload rfl rfl ?_
            refine cz_getB rfl rfl ?_
            refine cz_cV4V rfl rfl rfl cIs1 (Nat.le_of_ble_eq_true rfl) (p_press (by omega)) (fun S108 t108 hq108 => ?_)
            obtain ⟨ht, hS⟩ := hq108
            have hnew : cNewC S c d k := ⟨hb21, Decidable.not_not.mp hb34, hb48⟩
            refine cz_icst rfl cc_1 ?_
            refine cz_retZ rfl (by omega) ?_
            refine cQI.mk ⟨ht, (bI_pos hnew).symm, fun _ => ⟨_, ?_, hS⟩, fun h => absurd hnew h⟩
            first | exact Or.inl rfl | exact Or.inr rfl
      · replace hb48 := bI_nn hb48
        refine cz_icst rfl cc_0 ?_
        refine cz_retZ rfl (by omega) ?_
        have hnn : ¬ cNewC S c d k := by first | exact fun h => h.1 hb21 | exact fun h => hb34 h.2.1 | exact fun h => hb48 h.2.2
        exact cQI.mk ⟨rfl, (bI_neg hnn).symm, fun h => absurd h hnn, fun _ => rfl⟩
/-- a pair of a cell with the next (d 0), with that below (d 1), as it is behind a fold -/
def cPressed (S S' : cS) (k c d : Int) : Prop :=
  (cNewC S c d k → (S' 2 (2 * c + d) = 1 ∨ S' 2 (2 * c + d) = 2) ∧ S' 3 (2 * c + d) = S 0 5 ∧ S' 4 (2 * c + d) = S 4 (2 * c + d) + 1) ∧ (¬ cNewC S c d k → S' 2 (2 * c + d) = S 2 (2 * c + d) ∧ S' 3 (2 * c + d) = S 3 (2 * c + d) ∧ S' 4 (2 * c + d) = S 4 (2 * c + d))
theorem cPr_step {S S1 S2 : cS} {k c d : Int} (e1 : S1 1 = S 1) (e8 : vw S1 8 = vw S 8) (e0 : S1 0 = S 0) (h2 : S1 2 (2 * c + d) = S 2 (2 * c + d)) (h3 : S1 3 (2 * c + d) = S 3 (2 * c + d)) (h4 : S1 4 (2 * c + d) = S 4 (2 * c + d))
    (g1 : cNewC S1 c d k → ∃ kd, (kd = 1 ∨ kd = 2) ∧ S2 = setS (setS (setS S1 2 (2 * c + d) kd) 3 (2 * c + d) (S1 0 5)) 4 (2 * c + d) (S1 4 (2 * c + d) + 1)) (g2 : ¬ cNewC S1 c d k → S2 = S1) :
    (cNewC S1 c d k ↔ cNewC S c d k) ∧ cPressed S S2 k c d ∧ (∀ a, ¬ a = 2 → ¬ a = 3 → ¬ a = 4 → S2 a = S1 a) ∧ ∀ a p, ¬ p = 2 * c + d → S2 a p = S1 a p := by
  have hb : cBes S1 c d = cBes S c d := by unfold cBes; rw [e1]
  have hiff : cNewC S1 c d k ↔ cNewC S c d k := by unfold cNewC; rw [hb, h2, e8]
  refine ⟨hiff, ?_⟩
  by_cases hN : cNewC S c d k
  · obtain ⟨kd, hkd, hS⟩ := g1 (hiff.mpr hN)
    refine ⟨⟨fun _ => ⟨?_, ?_, ?_⟩, fun h => absurd hN h⟩, fun a ha hb hc => ?_, fun a p hp => ?_⟩
    · rw [hS, setS_o (by omega), setS_o (by omega), setS_e]; exact hkd
    · rw [hS, setS_o (by omega), setS_e, e0]
    · rw [hS, setS_e, h4]
    · rw [hS, setS_o hc, setS_o hb, setS_o ha]
    · rw [hS]
      unfold setS
      rw [if_neg (fun h => hp h.2), if_neg (fun h => hp h.2), if_neg (fun h => hp h.2)]
  · have hS := g2 (fun h => hN (hiff.mp h))
    subst hS
    exact ⟨⟨fun h => absurd h hN, fun _ => ⟨h2, h3, h4⟩⟩, fun _ _ _ _ => rfl, fun _ _ _ => rfl⟩
set_option maxRecDepth 20000 in
theorem p_creaseAlong_loop {xs : Nat → Int32} {Ls : Nat} {S : cS} {t : Nat} (hW : cWd S) (hsz : S 1 2 = S 1 0 * S 1 1) (hfo1 : 1 ≤ S 0 5) (hfree : ∀ p, 0 ≤ p → p < 64 → S 4 p ≤ 900) {k : Int} (hk : 0 ≤ k ∧ k < 1000) : ∀ (n : Nat) (i r : Int) (S1 : cS), 0 ≤ i → i + n = S 1 2 → r = csum (cNcr S k) i.toNat → (∀ a, ¬ a = 2 → ¬ a = 3 → ¬ a = 4 → S1 a = S a) → (∀ c d, 0 ≤ c → c < S 1 2 → (d = 0 ∨ d = 1) → (c < i → cPressed S S1 k c d) ∧ (i ≤ c → S1 2 (2 * c + d) = S 2 (2 * c + d) ∧ S1 3 (2 * c + d) = S 3 (2 * c + d) ∧ S1 4 (2 * c + d) = S 4 (2 * c + d))) → (∀ p, 2 * S 1 2 ≤ p → p < 64 → S1 2 p = S 2 p ∧ S1 3 p = S 3 p ∧ S1 4 p = S 4 p) →
    cZ xs Ls 4 67 4 [(0, .ref 0), (1, .int (cI k)), (2, .int (cI r)), (3, .int (cI i))] [] S1 t (cQI (fun r S' t' => t' = t ∧ r = csum (cNcr S k) (S 1 2).toNat ∧ (∀ a, ¬ a = 2 → ¬ a = 3 → ¬ a = 4 → S' a = S a) ∧ (∀ c d, 0 ≤ c → c < S 1 2 → (d = 0 ∨ d = 1) → cPressed S S' k c d) ∧ (∀ p, 2 * S 1 2 ≤ p → p < 64 → S' 2 p = S 2 p ∧ S' 3 p = S 3 p ∧ S' 4 p = S 4 p))) := by
  obtain ⟨hw, hpb, hn, hs, hh, hp, hfo⟩ := id hW
  have hd := hW.bd
  obtain ⟨hw1, hw2, hw3, hw4, hw5, hw6⟩ := id hw
  obtain ⟨hs1, hs2, hs3, hs4, hs5⟩ := id hs
  obtain ⟨hd1, hd2, hd3⟩ := id hd
  intro n
  induction n with
  | zero =>
    intro i r S1 hi0 hi hr h1 h2 h3
    have e0 : S1 0 = S 0 := h1 0 (by omega) (by omega) (by omega)
    have e1 : S1 1 = S 1 := h1 1 (by omega) (by omega) (by omega)
    have e5 : S1 5 = S 5 := h1 5 (by omega) (by omega) (by omega)
    have e8 : vw S1 8 = vw S 8 := vw_eq fun a _ _ => h1 a (by omega) (by omega) (by omega)
    have e3 : i = S 1 2 := by omega
    have e4 : S1 1 2 = S 1 2 := by rw [e1]
    subst e3
    refine cz_iload rfl rfl ?_
    refine cz_aload rfl rfl ?_
    refine cz_getB rfl rfl ?_
    refine cz_getP rfl rfl ?_
    refine cz_icge rfl (by omega) (by omega) (fun hb12 => ?_) (fun hb12 => ?_)
    rotate_left
    · exfalso; omega
    refine cz_iload rfl rfl ?_
    refine cz_retI rfl ?_
    exact cQI.mk ⟨rfl, hr, h1, fun c d a1 a2 a3 => (h2 c d a1 a2 a3).1 a2, h3⟩
  | succ n ih =>
    intro i r S1 hi0 hi hr h1 h2 h3
    have e0 : S1 0 = S 0 := h1 0 (by omega) (by omega) (by omega)
    have e1 : S1 1 = S 1 := h1 1 (by omega) (by omega) (by omega)
    have e5 : S1 5 = S 5 := h1 5 (by omega) (by omega) (by omega)
    have e8 : vw S1 8 = vw S 8 := vw_eq fun a _ _ => h1 a (by omega) (by omega) (by omega)
    have e4 : S1 1 2 = S 1 2 := by rw [e1]
    have hnn : (i + 1).toNat = i.toNat + 1 := by omega
    have hni : ((i.toNat : Nat) : Int) = i := by omega
    have hstep : csum (cNcr S k) (i + 1).toNat = r + (bI (cNewC S i 0 k) + bI (cNewC S i 1 k)) := by
      rw [hnn, hr]
      show csum (cNcr S k) i.toNat + cNcr S k ((i.toNat : Nat) : Int) = _
      rw [hni]
      rfl
    have hpbg : ∀ S2 : cS, S2 0 = S 0 → S2 5 = S 5 → (∀ c d, 0 ≤ c → c < S 1 2 → (d = 0 ∨ d = 1) → cPressed S S2 k c d ∨ (S2 2 (2 * c + d) = S 2 (2 * c + d) ∧ S2 3 (2 * c + d) = S 3 (2 * c + d) ∧ S2 4 (2 * c + d) = S 4 (2 * c + d))) → (∀ p, 2 * S 1 2 ≤ p → p < 64 → S2 2 p = S 2 p ∧ S2 3 p = S 3 p ∧ S2 4 p = S 4 p) → cPb S2 := by
      intro S2 f0 f5 f2 f3 p hp0 hp1
      have hq := hpb p hp0 hp1
      have hq4 := hfree p hp0 hp1
      rw [f5]
      by_cases hpn : p < 2 * S 1 2
      · have hpe : p = 2 * (p / 2) + p % 2 := by omega
        have f4 := f2 (p / 2) (p % 2) (by omega) (by omega) (by omega)
        rw [← hpe] at f4
        rcases f4 with f4 | ⟨g1, g2, g3⟩
        · by_cases hN : cNewC S (p / 2) (p % 2) k
          · obtain ⟨g1, g2, g3⟩ := f4.1 hN
            rw [← hpe] at g1 g2 g3
            rw [g2, g3]
            omega
          · obtain ⟨g1, g2, g3⟩ := f4.2 hN
            rw [← hpe] at g1 g2 g3
            rw [g1, g2, g3]
            exact hq
        · rw [g1, g2, g3]; exact hq
      · obtain ⟨g1, g2, g3⟩ := f3 p (by omega) hp1
        rw [g1, g2, g3]; exact hq
    have hWg : ∀ S2 : cS, S2 0 = S 0 → S2 1 = S 1 → vw S2 8 = vw S 8 → cPb S2 → cWd S2 := by
      intro S2 f0 f1 f8 fb
      unfold cWd cPw
      rw [f0, f1, f8]
      exact ⟨hw, fb, hn, hs, hh, hp, hfo⟩
    have hpb1 : cPb S1 := hpbg S1 e0 e5 (fun c d a1 a2 a3 => by
      by_cases hci : c < i
      · exact Or.inl ((h2 c d a1 a2 a3).1 hci)
      · exact Or.inr ((h2 c d a1 a2 a3).2 (by omega))) h3
    have hW1 := hWg S1 e0 e1 e8 hpb1
    have hsz1 : S1 1 2 = S1 1 0 * S1 1 1 := by rw [e1]; exact hsz
    refine cz_iload rfl rfl ?_
    refine cz_aload rfl rfl ?_
    refine cz_getB rfl rfl ?_
    refine cz_getP rfl rfl ?_
    refine cz_icge rfl (by omega) (by omega) (fun hb12 => ?_) (fun hb12 => ?_)
    · exfalso; omega
    refine cz_aload rfl rfl ?_
    refine cz_iload rfl rfl ?_
    refine cz_icst rfl cc_0 ?_
    refine cz_iload rfl rfl ?_
    refine cz_cV4I rfl rfl rfl cIs0 (Nat.le_of_ble_eq_true rfl) (p_creasePair hW1 hsz1 (by omega) (by omega) hk) (fun r19 S19 t19 hq19 => ?_)
    obtain ⟨ht19, hr19, g1, g2⟩ := hq19
    subst ht19
    obtain ⟨q1, q2, q3⟩ := (h2 i 0 hi0 (by omega) (Or.inl rfl)).2 (Int.le_refl i)
    obtain ⟨v1, v2, v3⟩ := (h2 i 1 hi0 (by omega) (Or.inr rfl)).2 (Int.le_refl i)
    obtain ⟨hif, hpr, hfr, hpt⟩ := cPr_step e1 e8 e0 q1 q2 q3 g1 g2
    rw [bI_iff hif] at hr19
    have hrr19 : -2147483648 ≤ r19 ∧ r19 < 2147483648 := by rw [hr19]; exact bI_ran
    have f0 : S19 0 = S 0 := by rw [hfr 0 (by omega) (by omega) (by omega)]; exact e0
    have f1 : S19 1 = S 1 := by rw [hfr 1 (by omega) (by omega) (by omega)]; exact e1
    have f5 : S19 5 = S 5 := by rw [hfr 5 (by omega) (by omega) (by omega)]; exact e5
    have f8 : vw S19 8 = vw S 8 := by rw [← e8]; exact vw_eq fun a _ _ => hfr a (by omega) (by omega) (by omega)
    have hpb19 : cPb S19 := hpbg S19 f0 f5 (fun c d a1 a2 a3 => by
      by_cases hci : c < i
      · have hne : ¬ 2 * c + d = 2 * i + 0 := by omega
        have := (h2 c d a1 a2 a3).1 hci
        unfold cPressed at this ⊢
        rw [hpt 2 _ hne, hpt 3 _ hne, hpt 4 _ hne]
        exact Or.inl this
      · by_cases hce : c = i ∧ d = 0
        · obtain ⟨rfl, rfl⟩ := hce
          exact Or.inl hpr
        · have hne : ¬ 2 * c + d = 2 * i + 0 := by omega
          rw [hpt 2 _ hne, hpt 3 _ hne, hpt 4 _ hne]
          exact Or.inr ((h2 c d a1 a2 a3).2 (by omega))) (fun p hp0 hp1 => by
      have hne : ¬ p = 2 * i + 0 := by omega
      rw [hpt 2 _ hne, hpt 3 _ hne, hpt 4 _ hne]
      exact h3 p hp0 hp1)
    have hW19 := hWg S19 f0 f1 f8 hpb19
    have hsz19 : S19 1 2 = S19 1 0 * S19 1 1 := by rw [f1]; exact hsz
    have hmid : ∀ c2, c2 = r + bI (cNewC S i 0 k) → cZ xs Ls 4 67 28 [(0, .ref 0), (1, .int (cI k)), (2, .int (cI c2)), (3, .int (cI i))] [] S19 t19 (cQI (fun r S' t' => t' = t19 ∧ r = csum (cNcr S k) (S 1 2).toNat ∧ (∀ a, ¬ a = 2 → ¬ a = 3 → ¬ a = 4 → S' a = S a) ∧ (∀ c d, 0 ≤ c → c < S 1 2 → (d = 0 ∨ d = 1) → cPressed S S' k c d) ∧ (∀ p, 2 * S 1 2 ≤ p → p < 64 → S' 2 p = S 2 p ∧ S' 3 p = S 3 p ∧ S' 4 p = S 4 p))) := by
      intro c2 hc2
      refine cz_aload rfl rfl ?_
      refine cz_iload rfl rfl ?_
      refine cz_icst rfl cc_1 ?_
      refine cz_iload rfl rfl ?_
      refine cz_cV4I rfl rfl rfl cIs0 (Nat.le_of_ble_eq_true rfl) (p_creasePair hW19 hsz19 (by rw [f1]; omega) (by omega) hk) (fun r32 S32 t32 hq32 => ?_)
      obtain ⟨ht32, hr32, g3, g4⟩ := hq32
      subst ht32
      have hne1 : ¬ 2 * i + 1 = 2 * i + 0 := by omega
      obtain ⟨hif2, hpr2, hfr2, hpt2⟩ := cPr_step f1 f8 f0 ((hpt 2 _ hne1).trans v1) ((hpt 3 _ hne1).trans v2) ((hpt 4 _ hne1).trans v3) g3 g4
      rw [bI_iff hif2] at hr32
      have hrr32 : -2147483648 ≤ r32 ∧ r32 < 2147483648 := by rw [hr32]; exact bI_ran
      have hfin : (∀ a, ¬ a = 2 → ¬ a = 3 → ¬ a = 4 → S32 a = S a) ∧ (∀ c d, 0 ≤ c → c < S 1 2 → (d = 0 ∨ d = 1) → (c < i + 1 → cPressed S S32 k c d) ∧ (i + 1 ≤ c → S32 2 (2 * c + d) = S 2 (2 * c + d) ∧ S32 3 (2 * c + d) = S 3 (2 * c + d) ∧ S32 4 (2 * c + d) = S 4 (2 * c + d))) ∧ (∀ p, 2 * S 1 2 ≤ p → p < 64 → S32 2 p = S 2 p ∧ S32 3 p = S 3 p ∧ S32 4 p = S 4 p) := by
        refine ⟨fun a ha hb hc => by rw [hfr2 a ha hb hc, hfr a ha hb hc]; exact h1 a ha hb hc, fun c d a1 a2 a3 => ⟨fun hci => ?_, fun hci => ?_⟩, fun p hp0 hp1 => ?_⟩
        · by_cases hce : c = i
          · subst hce
            rcases a3 with a3 | a3
            · subst a3
              have hne : ¬ 2 * c + 0 = 2 * c + 1 := by omega
              unfold cPressed at hpr ⊢
              rw [hpt2 2 _ hne, hpt2 3 _ hne, hpt2 4 _ hne]
              exact hpr
            · subst a3
              exact hpr2
          · have hne : ¬ 2 * c + d = 2 * i + 0 := by omega
            have hne2 : ¬ 2 * c + d = 2 * i + 1 := by omega
            have := (h2 c d a1 a2 a3).1 (by omega)
            unfold cPressed at this ⊢
            rw [hpt2 2 _ hne2, hpt2 3 _ hne2, hpt2 4 _ hne2, hpt 2 _ hne, hpt 3 _ hne, hpt 4 _ hne]
            exact this
        · have hne : ¬ 2 * c + d = 2 * i + 0 := by omega
          have hne2 : ¬ 2 * c + d = 2 * i + 1 := by omega
          rw [hpt2 2 _ hne2, hpt2 3 _ hne2, hpt2 4 _ hne2, hpt 2 _ hne, hpt 3 _ hne, hpt 4 _ hne]
          exact (h2 c d a1 a2 a3).2 (by omega)
        · have hne : ¬ p = 2 * i + 0 := by omega
          have hne2 : ¬ p = 2 * i + 1 := by omega
          rw [hpt2 2 _ hne2, hpt2 3 _ hne2, hpt2 4 _ hne2, hpt 2 _ hne, hpt 3 _ hne, hpt 4 _ hne]
          exact h3 p hp0 hp1
      obtain ⟨fin1, fin2, fin3⟩ := hfin
      have hb1 := (bI_or : bI (cNewC S i 1 k) = 0 ∨ bI (cNewC S i 1 k) = 1)
      refine cz_ifeq rfl (by omega) (fun hb35 => ?_) (fun hb35 => ?_)
      · skip
        refine cz_iinc (l' := [(0, _), (1, _), (2, _), (3, _)]) rfl cc_1 rfl rfl ?_
        refine cz_goto rfl ?_
        refine ih (i + 1) _ _ (by omega) (by omega) ?_ fin1 fin2 fin3
        rw [hstep]
        omega
      · skip
        refine cz_iinc (l' := [(0, _), (1, _), (2, _), (3, _)]) rfl cc_1 rfl rfl ?_
        refine cz_iinc (l' := [(0, _), (1, _), (2, _), (3, _)]) rfl cc_1 rfl rfl ?_
        refine cz_goto rfl ?_
        refine ih (i + 1) _ _ (by omega) (by omega) ?_ fin1 fin2 fin3
        rw [hstep]
        omega
    have hb0 := (bI_or : bI (cNewC S i 0 k) = 0 ∨ bI (cNewC S i 0 k) = 1)
    refine cz_ifeq rfl (by omega) (fun hb22 => ?_) (fun hb22 => ?_)
    · skip
      exact hmid _ (by omega)
    · skip
      refine cz_iinc (l' := [(0, _), (1, _), (2, _), (3, _)]) rfl cc_1 rfl rfl ?_
      exact hmid _ (by omega)
