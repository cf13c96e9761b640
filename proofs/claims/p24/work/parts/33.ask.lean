/-! What is asked: the public methods that change nothing -/
set_option maxRecDepth 20000 in
theorem p_at {xs : Nat → Int32} {Ls : Nat} {S : cS} {t : Nat} (hW : cWd S) {x y l : Int} (hxy : cHas (vw S 8) x y) (hl : 0 ≤ l ∧ l < cHt (vw S 8) x y) : cZ xs Ls 2 53 0 [(0, .ref 0), (1, .int (cI x)), (2, .int (cI y)), (3, .int (cI l))] [] S t (cP (cAt (vw S 8) x y l) S t) := by
  obtain ⟨hw, hpb, hn, hs, hh, hp, hfo⟩ := id hW
  have hd := hW.bd
  obtain ⟨hw1, hw2, hw3, hw4, hw5, hw6⟩ := id hw
  obtain ⟨hs1, hs2, hs3, hs4, hs5⟩ := id hs
  obtain ⟨hd1, hd2, hd3⟩ := id hd
  have hb := cHt_b hs hh x y
  refine cz_aload rfl rfl ?_
  refine cz_iload rfl rfl ?_
  refine cz_iload rfl rfl ?_
  refine cz_cV3PV rfl rfl rfl cIs0 (Nat.le_of_ble_eq_true rfl) (p_requirePlace hs (by omega) (by omega) hxy) ?_
  refine cz_iload rfl rfl ?_
  refine cz_iflt rfl (by omega) (fun hb7 => ?_) (fun hb7 => ?_)
  · exfalso; omega
  refine cz_iload rfl rfl ?_
  refine cz_aload rfl rfl ?_
  refine cz_getB rfl rfl ?_
  refine cz_iload rfl rfl ?_
  refine cz_iload rfl rfl ?_
  refine cz_cV3P rfl rfl rfl (cIsF cFm8) (Nat.le_of_ble_eq_true rfl) (p_heightAt cFm8 hs (by omega) (by omega)) ?_
  refine cz_iclt rfl (by omega) (by omega) (fun hb20 => ?_) (fun hb20 => ?_)
  rotate_left
  · exfalso; omega
  refine cz_aload rfl rfl ?_
  refine cz_getB rfl rfl ?_
  refine cz_iload rfl rfl ?_
  refine cz_iload rfl rfl ?_
  refine cz_iload rfl rfl ?_
  refine cz_cV4P rfl rfl rfl (cIsF cFm8) (Nat.le_of_ble_eq_true rfl) (p_cellAt cFm8 hd (by omega) (by omega) (by omega)) ?_
  refine cz_retI rfl ?_
  exact cP.mk rfl
set_option maxRecDepth 20000 in
theorem p_ofPlace {xs : Nat → Int32} {Ls : Nat} {S : cS} {t : Nat} (hW : cWd S) {x y w : Int} (hxy : cHas (vw S 8) x y) (hw0 : 0 ≤ w ∧ w ≤ 6) : cZ xs Ls 3 52 0 [(0, .ref 0), (1, .int (cI x)), (2, .int (cI y)), (3, .int (cI w))] [] S t (cP (cOL S x y w) S t) := by
  obtain ⟨hw, hpb, hn, hs, hh, hp, hfo⟩ := id hW
  have hd := hW.bd
  obtain ⟨hw1, hw2, hw3, hw4, hw5, hw6⟩ := id hw
  obtain ⟨hs1, hs2, hs3, hs4, hs5⟩ := id hs
  obtain ⟨hd1, hd2, hd3⟩ := id hd
  have hb := cHt_b hs hh x y
  have hc1 := cAt_b (F := vw S 8) (by omega) x y (cHt (vw S 8) x y - 1)
  have hc2 := cAt_b (F := vw S 8) (by omega) x y 0
  have hc3 : cTop (vw S 8) x y = cAt (vw S 8) x y (cHt (vw S 8) x y - 1) := rfl
  obtain hcase | hcase | hcase | hcase | hcase | hcase | hcase : w = 0 ∨ w = 1 ∨ w = 2 ∨ w = 3 ∨ w = 4 ∨ w = 5 ∨ w = 6 := by omega
  · subst hcase
    refine cz_aload rfl rfl ?_
    refine cz_iload rfl rfl ?_
    refine cz_iload rfl rfl ?_
    refine cz_cV3PV rfl rfl rfl cIs0 (Nat.le_of_ble_eq_true rfl) (p_requirePlace hs (by omega) (by omega) hxy) ?_
    refine cz_iload rfl rfl ?_
    refine cz_icst rfl cc_6 ?_
    refine cz_cS2PV rfl rfl rfl rfl (Nat.le_of_ble_eq_true rfl) (p_requireWhat (by omega) (by omega)) ?_
    refine cz_iload rfl rfl ?_
    refine cz_tab rfl (by omega) (by omega) rfl ?_
    refine cz_aload rfl rfl ?_
    refine cz_getB rfl rfl ?_
    refine cz_iload rfl rfl ?_
    refine cz_iload rfl rfl ?_
    refine cz_cV3P rfl rfl rfl (cIsF cFm8) (Nat.le_of_ble_eq_true rfl) (p_heightAt cFm8 hs (by omega) (by omega)) ?_
    refine cz_retI rfl ?_
    exact cP.mk rfl
  · subst hcase
    refine cz_aload rfl rfl ?_
    refine cz_iload rfl rfl ?_
    refine cz_iload rfl rfl ?_
    refine cz_cV3PV rfl rfl rfl cIs0 (Nat.le_of_ble_eq_true rfl) (p_requirePlace hs (by omega) (by omega) hxy) ?_
    refine cz_iload rfl rfl ?_
    refine cz_icst rfl cc_6 ?_
    refine cz_cS2PV rfl rfl rfl rfl (Nat.le_of_ble_eq_true rfl) (p_requireWhat (by omega) (by omega)) ?_
    refine cz_iload rfl rfl ?_
    refine cz_tab rfl (by omega) (by omega) rfl ?_
    refine cz_aload rfl rfl ?_
    refine cz_getB rfl rfl ?_
    refine cz_iload rfl rfl ?_
    refine cz_iload rfl rfl ?_
    refine cz_cV3P rfl rfl rfl (cIsF cFm8) (Nat.le_of_ble_eq_true rfl) (p_highestAt cFm8 hs hd hh (by omega) (by omega)) ?_
    refine cz_retI rfl ?_
    exact cP.mk rfl
  · subst hcase
    refine cz_aload rfl rfl ?_
    refine cz_iload rfl rfl ?_
    refine cz_iload rfl rfl ?_
    refine cz_cV3PV rfl rfl rfl cIs0 (Nat.le_of_ble_eq_true rfl) (p_requirePlace hs (by omega) (by omega) hxy) ?_
    refine cz_iload rfl rfl ?_
    refine cz_icst rfl cc_6 ?_
    refine cz_cS2PV rfl rfl rfl rfl (Nat.le_of_ble_eq_true rfl) (p_requireWhat (by omega) (by omega)) ?_
    refine cz_iload rfl rfl ?_
    refine cz_tab rfl (by omega) (by omega) rfl ?_
    refine cz_aload rfl rfl ?_
    refine cz_getB rfl rfl ?_
    refine cz_aload rfl rfl ?_
    refine cz_getB rfl rfl ?_
    refine cz_iload rfl rfl ?_
    refine cz_iload rfl rfl ?_
    refine cz_cV3P rfl rfl rfl (cIsF cFm8) (Nat.le_of_ble_eq_true rfl) (p_highestAt cFm8 hs hd hh (by omega) (by omega)) ?_
    refine cz_cV2P rfl rfl rfl (cIsF cFm8) (Nat.le_of_ble_eq_true rfl) (p_isFrontUp cFm8 hd (by omega)) ?_
    refine cz_cS1P rfl rfl rfl rfl (Nat.le_of_ble_eq_true rfl) (p_numberOf bI_or) ?_
    refine cz_retI rfl ?_
    exact cP.mk rfl
  · subst hcase
    refine cz_aload rfl rfl ?_
    refine cz_iload rfl rfl ?_
    refine cz_iload rfl rfl ?_
    refine cz_cV3PV rfl rfl rfl cIs0 (Nat.le_of_ble_eq_true rfl) (p_requirePlace hs (by omega) (by omega) hxy) ?_
    refine cz_iload rfl rfl ?_
    refine cz_icst rfl cc_6 ?_
    refine cz_cS2PV rfl rfl rfl rfl (Nat.le_of_ble_eq_true rfl) (p_requireWhat (by omega) (by omega)) ?_
    refine cz_iload rfl rfl ?_
    refine cz_tab rfl (by omega) (by omega) rfl ?_
    refine cz_aload rfl rfl ?_
    refine cz_getB rfl rfl ?_
    refine cz_iload rfl rfl ?_
    refine cz_iload rfl rfl ?_
    refine cz_icst rfl cc_0 ?_
    refine cz_cV4P rfl rfl rfl (cIsF cFm8) (Nat.le_of_ble_eq_true rfl) (p_cellAt cFm8 hd (by omega) (by omega) (by omega)) ?_
    refine cz_retI rfl ?_
    exact cP.mk rfl
  · subst hcase
    refine cz_aload rfl rfl ?_
    refine cz_iload rfl rfl ?_
    refine cz_iload rfl rfl ?_
    refine cz_cV3PV rfl rfl rfl cIs0 (Nat.le_of_ble_eq_true rfl) (p_requirePlace hs (by omega) (by omega) hxy) ?_
    refine cz_iload rfl rfl ?_
    refine cz_icst rfl cc_6 ?_
    refine cz_cS2PV rfl rfl rfl rfl (Nat.le_of_ble_eq_true rfl) (p_requireWhat (by omega) (by omega)) ?_
    refine cz_iload rfl rfl ?_
    refine cz_tab rfl (by omega) (by omega) rfl ?_
    refine cz_aload rfl rfl ?_
    refine cz_getB rfl rfl ?_
    refine cz_aload rfl rfl ?_
    refine cz_getB rfl rfl ?_
    refine cz_iload rfl rfl ?_
    refine cz_iload rfl rfl ?_
    refine cz_icst rfl cc_0 ?_
    refine cz_cV4P rfl rfl rfl (cIsF cFm8) (Nat.le_of_ble_eq_true rfl) (p_cellAt cFm8 hd (by omega) (by omega) (by omega)) ?_
    refine cz_cV2P rfl rfl rfl (cIsF cFm8) (Nat.le_of_ble_eq_true rfl) (p_isFrontUp cFm8 hd (by omega)) ?_
    refine cz_cS1P rfl rfl rfl rfl (Nat.le_of_ble_eq_true rfl) (p_numberOf bI_or) ?_
    refine cz_retI rfl ?_
    exact cP.mk rfl
  · subst hcase
    refine cz_aload rfl rfl ?_
    refine cz_iload rfl rfl ?_
    refine cz_iload rfl rfl ?_
    refine cz_cV3PV rfl rfl rfl cIs0 (Nat.le_of_ble_eq_true rfl) (p_requirePlace hs (by omega) (by omega) hxy) ?_
    refine cz_iload rfl rfl ?_
    refine cz_icst rfl cc_6 ?_
    refine cz_cS2PV rfl rfl rfl rfl (Nat.le_of_ble_eq_true rfl) (p_requireWhat (by omega) (by omega)) ?_
    refine cz_iload rfl rfl ?_
    refine cz_tab rfl (by omega) (by omega) rfl ?_
    refine cz_aload rfl rfl ?_
    refine cz_iload rfl rfl ?_
    refine cz_iload rfl rfl ?_
    refine cz_cV3P rfl rfl rfl cIs0 (Nat.le_of_ble_eq_true rfl) (p_holesAt hW (by omega) (by omega)) ?_
    refine cz_retI rfl ?_
    exact cP.mk rfl
  · subst hcase
    refine cz_aload rfl rfl ?_
    refine cz_iload rfl rfl ?_
    refine cz_iload rfl rfl ?_
    refine cz_cV3PV rfl rfl rfl cIs0 (Nat.le_of_ble_eq_true rfl) (p_requirePlace hs (by omega) (by omega) hxy) ?_
    refine cz_iload rfl rfl ?_
    refine cz_icst rfl cc_6 ?_
    refine cz_cS2PV rfl rfl rfl rfl (Nat.le_of_ble_eq_true rfl) (p_requireWhat (by omega) (by omega)) ?_
    refine cz_iload rfl rfl ?_
    refine cz_tabD rfl (by omega) (by omega) ?_
    refine cz_aload rfl rfl ?_
    refine cz_iload rfl rfl ?_
    refine cz_iload rfl rfl ?_
    refine cz_cV3P rfl rfl rfl cIs0 (Nat.le_of_ble_eq_true rfl) (p_gluedAt hW (by omega) (by omega)) ?_
    refine cz_retI rfl ?_
    exact cP.mk rfl

set_option maxRecDepth 20000 in
theorem p_ofCell {xs : Nat → Int32} {Ls : Nat} {S : cS} {t : Nat} (hW : cWd S) {c w : Int} (hc : 0 ≤ c ∧ c < S 1 2) (hw0 : 0 ≤ w ∧ w ≤ 7) : cZ xs Ls 3 54 0 [(0, .ref 0), (1, .int (cI c)), (2, .int (cI w))] [] S t (cP (cOC S c w) S t) := by
  obtain ⟨hw, hpb, hn, hs, hh, hp, hfo⟩ := id hW
  have hd := hW.bd
  obtain ⟨hw1, hw2, hw3, hw4, hw5, hw6⟩ := id hw
  obtain ⟨hs1, hs2, hs3, hs4, hs5⟩ := id hs
  obtain ⟨hd1, hd2, hd3⟩ := id hd
  obtain hcase | hcase | hcase | hcase | hcase | hcase | hcase | hcase : w = 0 ∨ w = 1 ∨ w = 2 ∨ w = 3 ∨ w = 4 ∨ w = 5 ∨ w = 6 ∨ w = 7 := by omega
  · subst hcase
    refine cz_aload rfl rfl ?_
    refine cz_iload rfl rfl ?_
    refine cz_cV2PV rfl rfl rfl cIs0 (Nat.le_of_ble_eq_true rfl) (p_requireCell hw hc) ?_
    refine cz_iload rfl rfl ?_
    refine cz_icst rfl cc_7 ?_
    refine cz_cS2PV rfl rfl rfl rfl (Nat.le_of_ble_eq_true rfl) (p_requireWhat (by omega) (by omega)) ?_
    refine cz_iload rfl rfl ?_
    refine cz_tab rfl (by omega) (by omega) rfl ?_
    refine cz_aload rfl rfl ?_
    refine cz_getB rfl rfl ?_
    refine cz_getF cFm8 rfl rfl ?_
    refine cz_iload rfl rfl ?_
    refine cz_ialdF (j := 1) cFm8 (by decide) rfl (by omega) ?_
    refine cz_retI rfl ?_
    exact cP.mk rfl
  · subst hcase
    refine cz_aload rfl rfl ?_
    refine cz_iload rfl rfl ?_
    refine cz_cV2PV rfl rfl rfl cIs0 (Nat.le_of_ble_eq_true rfl) (p_requireCell hw hc) ?_
    refine cz_iload rfl rfl ?_
    refine cz_icst rfl cc_7 ?_
    refine cz_cS2PV rfl rfl rfl rfl (Nat.le_of_ble_eq_true rfl) (p_requireWhat (by omega) (by omega)) ?_
    refine cz_iload rfl rfl ?_
    refine cz_tab rfl (by omega) (by omega) rfl ?_
    refine cz_aload rfl rfl ?_
    refine cz_getB rfl rfl ?_
    refine cz_getF cFm8 rfl rfl ?_
    refine cz_iload rfl rfl ?_
    refine cz_ialdF (j := 2) cFm8 (by decide) rfl (by omega) ?_
    refine cz_retI rfl ?_
    exact cP.mk rfl
  · subst hcase
    refine cz_aload rfl rfl ?_
    refine cz_iload rfl rfl ?_
    refine cz_cV2PV rfl rfl rfl cIs0 (Nat.le_of_ble_eq_true rfl) (p_requireCell hw hc) ?_
    refine cz_iload rfl rfl ?_
    refine cz_icst rfl cc_7 ?_
    refine cz_cS2PV rfl rfl rfl rfl (Nat.le_of_ble_eq_true rfl) (p_requireWhat (by omega) (by omega)) ?_
    refine cz_iload rfl rfl ?_
    refine cz_tab rfl (by omega) (by omega) rfl ?_
    refine cz_aload rfl rfl ?_
    refine cz_getB rfl rfl ?_
    refine cz_getF cFm8 rfl rfl ?_
    refine cz_iload rfl rfl ?_
    refine cz_ialdF (j := 3) cFm8 (by decide) rfl (by omega) ?_
    refine cz_retI rfl ?_
    exact cP.mk rfl
  · subst hcase
    refine cz_aload rfl rfl ?_
    refine cz_iload rfl rfl ?_
    refine cz_cV2PV rfl rfl rfl cIs0 (Nat.le_of_ble_eq_true rfl) (p_requireCell hw hc) ?_
    refine cz_iload rfl rfl ?_
    refine cz_icst rfl cc_7 ?_
    refine cz_cS2PV rfl rfl rfl rfl (Nat.le_of_ble_eq_true rfl) (p_requireWhat (by omega) (by omega)) ?_
    refine cz_iload rfl rfl ?_
    refine cz_tab rfl (by omega) (by omega) rfl ?_
    refine cz_aload rfl rfl ?_
    refine cz_getB rfl rfl ?_
    refine cz_iload rfl rfl ?_
    refine cz_cV2P rfl rfl rfl (cIsF cFm8) (Nat.le_of_ble_eq_true rfl) (p_isFrontUp cFm8 hd (by omega)) ?_
    refine cz_cS1P rfl rfl rfl rfl (Nat.le_of_ble_eq_true rfl) (p_numberOf bI_or) ?_
    refine cz_retI rfl ?_
    exact cP.mk rfl
  · subst hcase
    refine cz_aload rfl rfl ?_
    refine cz_iload rfl rfl ?_
    refine cz_cV2PV rfl rfl rfl cIs0 (Nat.le_of_ble_eq_true rfl) (p_requireCell hw hc) ?_
    refine cz_iload rfl rfl ?_
    refine cz_icst rfl cc_7 ?_
    refine cz_cS2PV rfl rfl rfl rfl (Nat.le_of_ble_eq_true rfl) (p_requireWhat (by omega) (by omega)) ?_
    refine cz_iload rfl rfl ?_
    refine cz_tab rfl (by omega) (by omega) rfl ?_
    refine cz_aload rfl rfl ?_
    refine cz_getB rfl rfl ?_
    refine cz_getP rfl rfl ?_
    refine cz_iload rfl rfl ?_
    refine cz_ialdA (a := 6) (n := 32) (by decide) rfl (by omega) rfl (by omega) ?_
    refine cz_retI rfl ?_
    exact cP.mk rfl
  · subst hcase
    refine cz_aload rfl rfl ?_
    refine cz_iload rfl rfl ?_
    refine cz_cV2PV rfl rfl rfl cIs0 (Nat.le_of_ble_eq_true rfl) (p_requireCell hw hc) ?_
    refine cz_iload rfl rfl ?_
    refine cz_icst rfl cc_7 ?_
    refine cz_cS2PV rfl rfl rfl rfl (Nat.le_of_ble_eq_true rfl) (p_requireWhat (by omega) (by omega)) ?_
    refine cz_iload rfl rfl ?_
    refine cz_tab rfl (by omega) (by omega) rfl ?_
    refine cz_aload rfl rfl ?_
    refine cz_getB rfl rfl ?_
    refine cz_getP rfl rfl ?_
    refine cz_iload rfl rfl ?_
    refine cz_icst rfl cc_1 ?_
    refine cz_cS2P rfl rfl rfl rfl (Nat.le_of_ble_eq_true rfl) (p_sideOf (by omega)) ?_
    refine cz_ialdA (a := 5) (n := 64) (by decide) rfl (by omega) rfl (by omega) ?_
    refine cz_retI rfl ?_
    exact cP.mk rfl
  · subst hcase
    refine cz_aload rfl rfl ?_
    refine cz_iload rfl rfl ?_
    refine cz_cV2PV rfl rfl rfl cIs0 (Nat.le_of_ble_eq_true rfl) (p_requireCell hw hc) ?_
    refine cz_iload rfl rfl ?_
    refine cz_icst rfl cc_7 ?_
    refine cz_cS2PV rfl rfl rfl rfl (Nat.le_of_ble_eq_true rfl) (p_requireWhat (by omega) (by omega)) ?_
    refine cz_iload rfl rfl ?_
    refine cz_tab rfl (by omega) (by omega) rfl ?_
    refine cz_aload rfl rfl ?_
    refine cz_getB rfl rfl ?_
    refine cz_getP rfl rfl ?_
    refine cz_iload rfl rfl ?_
    refine cz_icst rfl cc_0 ?_
    refine cz_cS2P rfl rfl rfl rfl (Nat.le_of_ble_eq_true rfl) (p_sideOf (by omega)) ?_
    refine cz_ialdA (a := 5) (n := 64) (by decide) rfl (by omega) rfl (by omega) ?_
    refine cz_retI rfl ?_
    exact cP.mk rfl
  · subst hcase
    refine cz_aload rfl rfl ?_
    refine cz_iload rfl rfl ?_
    refine cz_cV2PV rfl rfl rfl cIs0 (Nat.le_of_ble_eq_true rfl) (p_requireCell hw hc) ?_
    refine cz_iload rfl rfl ?_
    refine cz_icst rfl cc_7 ?_
    refine cz_cS2PV rfl rfl rfl rfl (Nat.le_of_ble_eq_true rfl) (p_requireWhat (by omega) (by omega)) ?_
    refine cz_iload rfl rfl ?_
    refine cz_tabD rfl (by omega) (by omega) ?_
    refine cz_aload rfl rfl ?_
    refine cz_getB rfl rfl ?_
    refine cz_iload rfl rfl ?_
    refine cz_cV2P rfl rfl rfl cIs1 (Nat.le_of_ble_eq_true rfl) (p_creasesOf hw hpb (by omega)) ?_
    refine cz_retI rfl ?_
    exact cP.mk rfl

set_option maxRecDepth 20000 in
theorem p_ofPair {xs : Nat → Int32} {Ls : Nat} {S : cS} {t : Nat} (hW : cWd S) (hsz : S 1 2 = S 1 0 * S 1 1) {c d w : Int} (hc : 0 ≤ c ∧ c < S 1 2) (hdd : d = 0 ∨ d = 1) (hw0 : 0 ≤ w ∧ w ≤ 1) : cZ xs Ls 2 55 0 [(0, .ref 0), (1, .int (cI c)), (2, .int (cI d)), (3, .int (cI w))] [] S t (cP (cOP S c d w) S t) := by
  obtain ⟨hw, hpb, hn, hs, hh, hp, hfo⟩ := id hW
  have hd := hW.bd
  obtain ⟨hw1, hw2, hw3, hw4, hw5, hw6⟩ := id hw
  obtain ⟨hs1, hs2, hs3, hs4, hs5⟩ := id hs
  obtain ⟨hd1, hd2, hd3⟩ := id hd
  have hbe := cBes_b hw hsz (c := c) (d := d) hc
  refine cz_aload rfl rfl ?_
  refine cz_iload rfl rfl ?_
  refine cz_cV2PV rfl rfl rfl cIs0 (Nat.le_of_ble_eq_true rfl) (p_requireCell hw hc) ?_
  refine cz_iload rfl rfl ?_
  refine cz_icst rfl cc_1 ?_
  refine cz_cS2PV rfl rfl rfl rfl (Nat.le_of_ble_eq_true rfl) (p_requireWhat (by omega) (by omega)) ?_
  refine cz_aload rfl rfl ?_
  refine cz_getB rfl rfl ?_
  refine cz_iload rfl rfl ?_
  refine cz_iload rfl rfl ?_
  refine cz_cV3P rfl rfl rfl cIs1 (Nat.le_of_ble_eq_true rfl) (p_cellBeside hw hc hdd) ?_
  refine cz_icst rfl cc_m1 ?_
  refine cz_icne rfl (by omega) (by omega) (fun hb20 => ?_) (fun hb20 => ?_)
  · skip
    refine cz_iload rfl rfl ?_
    refine cz_iload rfl rfl ?_
    refine cz_cS2P rfl rfl rfl rfl (Nat.le_of_ble_eq_true rfl) (p_pairOf hdd) ?_
    refine cz_st1 (l' := [(0, _), (1, _), (2, _), (3, _), (4, _)]) rfl rfl rfl ?_
    refine cz_iload rfl rfl ?_
    refine cz_ifne rfl (by omega) (fun hb33 => ?_) (fun hb33 => ?_)
    · skip
      refine cz_aload rfl rfl ?_
      refine cz_getB rfl rfl ?_
      refine cz_getP rfl rfl ?_
      refine cz_iload rfl rfl ?_
      refine cz_ialdA (a := 4) (n := 64) (by decide) rfl (by omega) rfl (by omega) ?_
      refine cz_retI rfl ?_
      exact cP.mk (by unfold cOP; rw [if_neg (by omega)]; first | rw [if_pos (by omega)] | rw [if_neg (by omega)])
    · skip
      refine cz_aload rfl rfl ?_
      refine cz_getB rfl rfl ?_
      refine cz_getP rfl rfl ?_
      refine cz_iload rfl rfl ?_
      refine cz_ialdA (a := 2) (n := 64) (by decide) rfl (by omega) rfl (by omega) ?_
      refine cz_goto rfl ?_
      refine cz_retI rfl ?_
      exact cP.mk (by unfold cOP; rw [if_neg (by omega)]; first | rw [if_pos (by omega)] | rw [if_neg (by omega)])
  · skip
    refine cz_icst rfl cc_m1 ?_
    refine cz_retI rfl ?_
    exact cP.mk (by unfold cOP; rw [if_pos (by omega)])
set_option maxRecDepth 20000 in
theorem p_many {xs : Nat → Int32} {Ls : Nat} {S : cS} {t : Nat} (hW : cWd S) {w : Int} (hw0 : 0 ≤ w ∧ w ≤ 15) : cZ xs Ls 5 56 0 [(0, .ref 0), (1, .int (cI w))] [] S t (cP (cMny S w) S t) := by
  obtain ⟨hw, hpb, hn, hs, hh, hp, hfo⟩ := id hW
  have hd := hW.bd
  obtain ⟨hw1, hw2, hw3, hw4, hw5, hw6⟩ := id hw
  obtain ⟨hs1, hs2, hs3, hs4, hs5⟩ := id hs
  obtain ⟨hd1, hd2, hd3⟩ := id hd
  obtain hcase | hcase | hcase | hcase | hcase | hcase | hcase | hcase | hcase | hcase | hcase | hcase | hcase | hcase | hcase | hcase : w = 0 ∨ w = 1 ∨ w = 2 ∨ w = 3 ∨ w = 4 ∨ w = 5 ∨ w = 6 ∨ w = 7 ∨ w = 8 ∨ w = 9 ∨ w = 10 ∨ w = 11 ∨ w = 12 ∨ w = 13 ∨ w = 14 ∨ w = 15 := by omega
  · subst hcase
    refine cz_iload rfl rfl ?_
    refine cz_icst rfl cc_15 ?_
    refine cz_cS2PV rfl rfl rfl rfl (Nat.le_of_ble_eq_true rfl) (p_requireWhat (by omega) (by omega)) ?_
    refine cz_iload rfl rfl ?_
    refine cz_tab rfl (by omega) (by omega) rfl ?_
    refine cz_aload rfl rfl ?_
    refine cz_getB rfl rfl ?_
    refine cz_getP rfl rfl ?_
    refine cz_retI rfl ?_
    exact cP.mk rfl
  · subst hcase
    refine cz_iload rfl rfl ?_
    refine cz_icst rfl cc_15 ?_
    refine cz_cS2PV rfl rfl rfl rfl (Nat.le_of_ble_eq_true rfl) (p_requireWhat (by omega) (by omega)) ?_
    refine cz_iload rfl rfl ?_
    refine cz_tab rfl (by omega) (by omega) rfl ?_
    refine cz_aload rfl rfl ?_
    refine cz_getB rfl rfl ?_
    refine cz_getP rfl rfl ?_
    refine cz_retI rfl ?_
    exact cP.mk rfl
  · subst hcase
    refine cz_iload rfl rfl ?_
    refine cz_icst rfl cc_15 ?_
    refine cz_cS2PV rfl rfl rfl rfl (Nat.le_of_ble_eq_true rfl) (p_requireWhat (by omega) (by omega)) ?_
    refine cz_iload rfl rfl ?_
    refine cz_tab rfl (by omega) (by omega) rfl ?_
    refine cz_aload rfl rfl ?_
    refine cz_getB rfl rfl ?_
    refine cz_getF cFm8 rfl rfl ?_
    refine cz_retI rfl ?_
    exact cP.mk rfl
  · subst hcase
    refine cz_iload rfl rfl ?_
    refine cz_icst rfl cc_15 ?_
    refine cz_cS2PV rfl rfl rfl rfl (Nat.le_of_ble_eq_true rfl) (p_requireWhat (by omega) (by omega)) ?_
    refine cz_iload rfl rfl ?_
    refine cz_tab rfl (by omega) (by omega) rfl ?_
    refine cz_aload rfl rfl ?_
    refine cz_getB rfl rfl ?_
    refine cz_getF cFm8 rfl rfl ?_
    refine cz_retI rfl ?_
    exact cP.mk rfl
  · subst hcase
    refine cz_iload rfl rfl ?_
    refine cz_icst rfl cc_15 ?_
    refine cz_cS2PV rfl rfl rfl rfl (Nat.le_of_ble_eq_true rfl) (p_requireWhat (by omega) (by omega)) ?_
    refine cz_iload rfl rfl ?_
    refine cz_tab rfl (by omega) (by omega) rfl ?_
    refine cz_aload rfl rfl ?_
    refine cz_getB rfl rfl ?_
    refine cz_retI rfl ?_
    exact cP.mk rfl
  · subst hcase
    refine cz_iload rfl rfl ?_
    refine cz_icst rfl cc_15 ?_
    refine cz_cS2PV rfl rfl rfl rfl (Nat.le_of_ble_eq_true rfl) (p_requireWhat (by omega) (by omega)) ?_
    refine cz_iload rfl rfl ?_
    refine cz_tab rfl (by omega) (by omega) rfl ?_
    refine cz_aload rfl rfl ?_
    refine cz_getB rfl rfl ?_
    refine cz_icst rfl cc_1 ?_
    refine cz_cV2P rfl rfl rfl cIs1 (Nat.le_of_ble_eq_true rfl) (p_countCreases hw hpb (by omega)) ?_
    refine cz_retI rfl ?_
    exact cP.mk rfl
  · subst hcase
    refine cz_iload rfl rfl ?_
    refine cz_icst rfl cc_15 ?_
    refine cz_cS2PV rfl rfl rfl rfl (Nat.le_of_ble_eq_true rfl) (p_requireWhat (by omega) (by omega)) ?_
    refine cz_iload rfl rfl ?_
    refine cz_tab rfl (by omega) (by omega) rfl ?_
    refine cz_aload rfl rfl ?_
    refine cz_getB rfl rfl ?_
    refine cz_icst rfl cc_2 ?_
    refine cz_cV2P rfl rfl rfl cIs1 (Nat.le_of_ble_eq_true rfl) (p_countCreases hw hpb (by omega)) ?_
    refine cz_retI rfl ?_
    exact cP.mk rfl
  · subst hcase
    refine cz_iload rfl rfl ?_
    refine cz_icst rfl cc_15 ?_
    refine cz_cS2PV rfl rfl rfl rfl (Nat.le_of_ble_eq_true rfl) (p_requireWhat (by omega) (by omega)) ?_
    refine cz_iload rfl rfl ?_
    refine cz_tab rfl (by omega) (by omega) rfl ?_
    refine cz_aload rfl rfl ?_
    refine cz_getB rfl rfl ?_
    refine cz_cV1P rfl rfl rfl cIs1 (Nat.le_of_ble_eq_true rfl) (p_sumOfMarks hw) ?_
    refine cz_retI rfl ?_
    exact cP.mk rfl
  · subst hcase
    refine cz_iload rfl rfl ?_
    refine cz_icst rfl cc_15 ?_
    refine cz_cS2PV rfl rfl rfl rfl (Nat.le_of_ble_eq_true rfl) (p_requireWhat (by omega) (by omega)) ?_
    refine cz_iload rfl rfl ?_
    refine cz_tab rfl (by omega) (by omega) rfl ?_
    refine cz_aload rfl rfl ?_
    refine cz_getB rfl rfl ?_
    refine cz_icst rfl cc_2 ?_
    refine cz_cV2P rfl rfl rfl cIs1 (Nat.le_of_ble_eq_true rfl) (p_countSides hw hpb (by omega)) ?_
    refine cz_retI rfl ?_
    exact cP.mk rfl
  · subst hcase
    refine cz_iload rfl rfl ?_
    refine cz_icst rfl cc_15 ?_
    refine cz_cS2PV rfl rfl rfl rfl (Nat.le_of_ble_eq_true rfl) (p_requireWhat (by omega) (by omega)) ?_
    refine cz_iload rfl rfl ?_
    refine cz_tab rfl (by omega) (by omega) rfl ?_
    refine cz_aload rfl rfl ?_
    refine cz_getB rfl rfl ?_
    refine cz_icst rfl cc_1 ?_
    refine cz_cV2P rfl rfl rfl cIs1 (Nat.le_of_ble_eq_true rfl) (p_countSides hw hpb (by omega)) ?_
    refine cz_retI rfl ?_
    exact cP.mk rfl
  · subst hcase
    refine cz_iload rfl rfl ?_
    refine cz_icst rfl cc_15 ?_
    refine cz_cS2PV rfl rfl rfl rfl (Nat.le_of_ble_eq_true rfl) (p_requireWhat (by omega) (by omega)) ?_
    refine cz_iload rfl rfl ?_
    refine cz_tab rfl (by omega) (by omega) rfl ?_
    refine cz_aload rfl rfl ?_
    refine cz_getB rfl rfl ?_
    refine cz_cV1P rfl rfl rfl cIs1 (Nat.le_of_ble_eq_true rfl) (p_sumOfHoles hw) ?_
    refine cz_retI rfl ?_
    exact cP.mk rfl
  · subst hcase
    refine cz_iload rfl rfl ?_
    refine cz_icst rfl cc_15 ?_
    refine cz_cS2PV rfl rfl rfl rfl (Nat.le_of_ble_eq_true rfl) (p_requireWhat (by omega) (by omega)) ?_
    refine cz_iload rfl rfl ?_
    refine cz_tab rfl (by omega) (by omega) rfl ?_
    refine cz_aload rfl rfl ?_
    refine cz_getB rfl rfl ?_
    refine cz_cV1P rfl rfl rfl (cIsF cFm8) (Nat.le_of_ble_eq_true rfl) (p_highestPile cFm8 hh) ?_
    refine cz_retI rfl ?_
    exact cP.mk rfl
  · subst hcase
    refine cz_iload rfl rfl ?_
    refine cz_icst rfl cc_15 ?_
    refine cz_cS2PV rfl rfl rfl rfl (Nat.le_of_ble_eq_true rfl) (p_requireWhat (by omega) (by omega)) ?_
    refine cz_iload rfl rfl ?_
    refine cz_tab rfl (by omega) (by omega) rfl ?_
    refine cz_aload rfl rfl ?_
    refine cz_getB rfl rfl ?_
    refine cz_cV1P rfl rfl rfl (cIsF cFm8) (Nat.le_of_ble_eq_true rfl) (p_frontsAbove cFm8 hs hd hh) ?_
    refine cz_retI rfl ?_
    exact cP.mk rfl
  · subst hcase
    refine cz_iload rfl rfl ?_
    refine cz_icst rfl cc_15 ?_
    refine cz_cS2PV rfl rfl rfl rfl (Nat.le_of_ble_eq_true rfl) (p_requireWhat (by omega) (by omega)) ?_
    refine cz_iload rfl rfl ?_
    refine cz_tab rfl (by omega) (by omega) rfl ?_
    refine cz_aload rfl rfl ?_
    refine cz_getB rfl rfl ?_
    refine cz_cV1P rfl rfl rfl (cIsF cFm8) (Nat.le_of_ble_eq_true rfl) (p_frontsBelow cFm8 hs hd hh) ?_
    refine cz_retI rfl ?_
    exact cP.mk rfl
  · subst hcase
    refine cz_iload rfl rfl ?_
    refine cz_icst rfl cc_15 ?_
    refine cz_cS2PV rfl rfl rfl rfl (Nat.le_of_ble_eq_true rfl) (p_requireWhat (by omega) (by omega)) ?_
    refine cz_iload rfl rfl ?_
    refine cz_tab rfl (by omega) (by omega) rfl ?_
    refine cz_aload rfl rfl ?_
    refine cz_getB rfl rfl ?_
    refine cz_retI rfl ?_
    exact cP.mk rfl
  · subst hcase
    refine cz_iload rfl rfl ?_
    refine cz_icst rfl cc_15 ?_
    refine cz_cS2PV rfl rfl rfl rfl (Nat.le_of_ble_eq_true rfl) (p_requireWhat (by omega) (by omega)) ?_
    refine cz_iload rfl rfl ?_
    refine cz_tabD rfl (by omega) (by omega) ?_
    refine cz_aload rfl rfl ?_
    refine cz_getB rfl rfl ?_
    refine cz_retI rfl ?_
    exact cP.mk rfl

set_option maxRecDepth 20000 in
theorem p_fewest {xs : Nat → Int32} {Ls : Nat} {S : cS} {t : Nat} (hW : cWd S) : cZ xs Ls 1 60 0 [(0, .ref 0)] [] S t (cP (cHv (vw S 8 0 1) + cHv (vw S 8 0 2)) S t) := by
  obtain ⟨hw, hpb, hn, hs, hh, hp, hfo⟩ := id hW
  have hd := hW.bd
  obtain ⟨hw1, hw2, hw3, hw4, hw5, hw6⟩ := id hw
  obtain ⟨hs1, hs2, hs3, hs4, hs5⟩ := id hs
  obtain ⟨hd1, hd2, hd3⟩ := id hd
  refine cz_aload rfl rfl ?_
  refine cz_getB rfl rfl ?_
  refine cz_getF cFm8 rfl rfl ?_
  refine cz_cS1P rfl rfl rfl rfl (Nat.le_of_ble_eq_true rfl) (p_halvings (by omega)) ?_
  refine cz_aload rfl rfl ?_
  refine cz_getB rfl rfl ?_
  refine cz_getF cFm8 rfl rfl ?_
  refine cz_cS1P rfl rfl rfl rfl (Nat.le_of_ble_eq_true rfl) (p_halvings (by omega)) ?_
  refine cz_iadd rfl ?_
  refine cz_retI rfl ?_
  exact cP.mk rfl
def cSx (S : cS) (a i : Int) : Int := if a = 0 then vw S 8 1 i else vw S 8 2 i
theorem cNear_b {a b : Int} (h : 0 ≤ a ∧ a ≤ 28 * b) (hb : 1 ≤ b ∧ b ≤ 32) : 0 ≤ cNear a b ∧ cNear a b ≤ 29 := by
  have d0 : 0 ≤ a / b := Int.ediv_nonneg h.1 (by omega)
  have d1 : a / b ≤ 28 := by
    have : a / b < 29 := Int.ediv_lt_of_lt_mul (by omega) (by omega)
    omega
  unfold cNear
  split <;> omega
set_option maxRecDepth 20000 in
theorem p_weight_loop {xs : Nat → Int32} {Ls : Nat} {S : cS} {t : Nat} (hW : cWd S) {a : Int} (ha : a = 0 ∨ a = 1) : ∀ (n : Nat) (i r : Int), 0 ≤ i → i + n = S 1 2 → r = csum (cSx S a) i.toNat → 0 ≤ r → r ≤ 7 * i →
    cZ xs Ls 1 57 23 [(0, .ref 0), (1, .int (cI a)), (2, .int (cI r)), (3, .int (cI i))] [] S t (cPD (cWv (cNear (4 * csum (cSx S a) (S 1 2).toNat) (S 1 2))) S t) := by
  obtain ⟨hw, hpb, hn, hs, hh, hp, hfo⟩ := id hW
  have hd := hW.bd
  obtain ⟨hw1, hw2, hw3, hw4, hw5, hw6⟩ := id hw
  obtain ⟨hs1, hs2, hs3, hs4, hs5⟩ := id hs
  obtain ⟨hd1, hd2, hd3⟩ := id hd
  intro n
  induction n with
  | zero =>
    intro i r hi0 hi hr hr0 hr1
    have e3 : i = S 1 2 := by omega
    subst e3
    have hnb := cNear_b (a := 4 * r) (b := S 1 2) (by omega) (by omega)
    rw [← hr]
    refine cz_iload rfl rfl ?_
    refine cz_aload rfl rfl ?_
    refine cz_getB rfl rfl ?_
    refine cz_getP rfl rfl ?_
    refine cz_icge rfl (by omega) (by omega) (fun hb31 => ?_) (fun hb31 => ?_)
    rotate_left
    · exfalso; omega
    refine cz_icst rfl cc_4 ?_
    refine cz_iload rfl rfl ?_
    refine cz_imul rfl ?_
    refine cz_aload rfl rfl ?_
    refine cz_getB rfl rfl ?_
    refine cz_getP rfl rfl ?_
    refine cz_cS2P rfl rfl rfl rfl (Nat.le_of_ble_eq_true rfl) (p_nearest (by omega) (by omega)) ?_
    refine cz_i2d rfl ?_
    refine cz_s1 rfl rfl ?_
    refine cz_dd rfl (by exact cWv_num (by omega)) ?_
    refine cz_retD rfl ?_
    exact cPD.mk rfl
  | succ n ih =>
    intro i r hi0 hi hr hr0 hr1
    have hnn : (i + 1).toNat = i.toNat + 1 := by omega
    have hni : ((i.toNat : Nat) : Int) = i := by omega
    have hq := hp i hi0 (by omega)
    have hstep : csum (cSx S a) (i + 1).toNat = r + cSx S a i := by
      rw [hnn, hr]
      show csum (cSx S a) i.toNat + cSx S a ((i.toNat : Nat) : Int) = _
      rw [hni]
    refine cz_iload rfl rfl ?_
    refine cz_aload rfl rfl ?_
    refine cz_getB rfl rfl ?_
    refine cz_getP rfl rfl ?_
    refine cz_icge rfl (by omega) (by omega) (fun hb31 => ?_) (fun hb31 => ?_)
    · exfalso; omega
    refine cz_iload rfl rfl ?_
    refine cz_iload rfl rfl ?_
    refine cz_ifne rfl (by omega) (fun hb36 => ?_) (fun hb36 => ?_)
    · skip
      refine cz_aload rfl rfl ?_
      refine cz_getB rfl rfl ?_
      refine cz_getF cFm8 rfl rfl ?_
      refine cz_iload rfl rfl ?_
      refine cz_ialdF (j := 2) cFm8 (by decide) rfl (by omega) ?_
      refine cz_iadd rfl ?_
      refine cz_st1 (l' := [(0, _), (1, _), (2, _), (3, _)]) rfl rfl rfl ?_
      refine cz_iinc (l' := [(0, _), (1, _), (2, _), (3, _)]) rfl cc_1 rfl rfl ?_
      refine cz_goto rfl ?_
      refine ih (i + 1) _ (by omega) (by omega) ?_ (by omega) (by omega)
      rw [hstep]
      unfold cSx
      first
      | rw [if_pos (by omega)]
      | rw [if_neg (by omega)]
    · skip
      refine cz_aload rfl rfl ?_
      refine cz_getB rfl rfl ?_
      refine cz_getF cFm8 rfl rfl ?_
      refine cz_iload rfl rfl ?_
      refine cz_ialdF (j := 1) cFm8 (by decide) rfl (by omega) ?_
      refine cz_goto rfl ?_
      refine cz_iadd rfl ?_
      refine cz_st1 (l' := [(0, _), (1, _), (2, _), (3, _)]) rfl rfl rfl ?_
      refine cz_iinc (l' := [(0, _), (1, _), (2, _), (3, _)]) rfl cc_1 rfl rfl ?_
      refine cz_goto rfl ?_
      refine ih (i + 1) _ (by omega) (by omega) ?_ (by omega) (by omega)
      rw [hstep]
      unfold cSx
      first
      | rw [if_pos (by omega)]
      | rw [if_neg (by omega)]
set_option maxRecDepth 20000 in
theorem p_weight {xs : Nat → Int32} {Ls : Nat} {S : cS} {t : Nat} (hW : cWd S) {a : Int} (ha : a = 0 ∨ a = 1) : cZ xs Ls 1 57 0 [(0, .ref 0), (1, .int (cI a))] [] S t (cPD (cWv (cNear (4 * csum (cSx S a) (S 1 2).toNat) (S 1 2))) S t) := by
  obtain ⟨hw, hpb, hn, hs, hh, hp, hfo⟩ := id hW
  have hd := hW.bd
  obtain ⟨hw1, hw2, hw3, hw4, hw5, hw6⟩ := id hw
  obtain ⟨hs1, hs2, hs3, hs4, hs5⟩ := id hs
  obtain ⟨hd1, hd2, hd3⟩ := id hd
  refine cz_iload rfl rfl ?_
  refine cz_ifeq rfl (by omega) (fun hb1 => ?_) (fun hb1 => ?_)
  · skip
    refine cz_icst rfl cc_0 ?_
    refine cz_st1 (l' := [(0, _), (1, _), (2, _)]) rfl rfl rfl ?_
    refine cz_icst rfl cc_0 ?_
    refine cz_st1 (l' := [(0, _), (1, _), (2, _), (3, _)]) rfl rfl rfl ?_
    exact p_weight_loop hW ha (S 1 2).toNat 0 0 (by omega) (by omega) rfl (by omega) (by omega)
  · skip
    refine cz_iload rfl rfl ?_
    refine cz_icst rfl cc_1 ?_
    refine cz_iceq rfl (by omega) (by omega) (fun hb6 => ?_) (fun hb6 => ?_)
    rotate_left
    · exfalso; omega
    refine cz_icst rfl cc_0 ?_
    refine cz_st1 (l' := [(0, _), (1, _), (2, _)]) rfl rfl rfl ?_
    refine cz_icst rfl cc_0 ?_
    refine cz_st1 (l' := [(0, _), (1, _), (2, _), (3, _)]) rfl rfl rfl ?_
    exact p_weight_loop hW ha (S 1 2).toNat 0 0 (by omega) (by omega) rfl (by omega) (by omega)
set_option maxRecDepth 20000 in
theorem p_bestFold_loop {xs : Nat → Int32} {Ls : Nat} {S : cS} {t : Nat} (hW : cWd S) (hG : cGood (vw S 8)) : ∀ (n : Nat) (m : Nat) (S1 : cS), m + n = 56 → cSm S S1 →
    cZ xs Ls 5 58 10 [(0, .ref 0), (1, .int (cI (cBst (vw S 8) m).1)), (2, .int (cI (cBst (vw S 8) m).2.1)), (3, .int (cI (cBst (vw S 8) m).2.2)), (4, .int (cI (8 + (m : Int))))] [] S1 t (cQI (fun r S' t' => t' = t ∧ r = (cBst (vw S 8) 56).1 ∧ cSm S S')) := by
  obtain ⟨hw, hpb, hn, hs, hh, hp, hfo⟩ := id hW
  have hd := hW.bd
  obtain ⟨hw1, hw2, hw3, hw4, hw5, hw6⟩ := id hw
  obtain ⟨hs1, hs2, hs3, hs4, hs5⟩ := id hs
  obtain ⟨hd1, hd2, hd3⟩ := id hd
  have hran : ∀ m : Nat, m ≤ 56 → ((cBst (vw S 8) m).1 = -1 ∨ (8 ≤ (cBst (vw S 8) m).1 ∧ (cBst (vw S 8) m).1 < 64)) ∧ (0 ≤ (cBst (vw S 8) m).2.1 ∧ (cBst (vw S 8) m).2.1 ≤ 64) ∧ (-100 ≤ (cBst (vw S 8) m).2.2 ∧ (cBst (vw S 8) m).2.2 ≤ 100) := cBst_ran hG
  intro n
  induction n with
  | zero =>
    intro m S1 hm h1
    have e3 : m = 56 := by omega
    subst e3
    refine cz_iload rfl rfl ?_
    refine cz_icst rfl cc_63 ?_
    refine cz_icgt rfl (by omega) (by omega) (fun hb14 => ?_) (fun hb14 => ?_)
    rotate_left
    · exfalso; omega
    refine cz_iload rfl rfl ?_
    refine cz_retI rfl ?_
    exact cQI.mk ⟨rfl, rfl, h1⟩
  | succ n ih =>
    intro m S1 hm h1
    have e8 : vw S1 8 = vw S 8 := h1.v (by omega)
    have e1 : S1 1 = S 1 := h1 1 (by omega)
    have hW1 := h1.wd hW
    have hs1x : cSh (vw S1 8) := hW1.2.2.2.1
    have hr := hran m (by omega)
    have hek : ((m + 1 : Nat) : Int) = (m : Int) + 1 := by omega
    have hnx : cBst (vw S 8) (m + 1) = cBs1 (vw S 8) (8 + m) (cBst (vw S 8) m) := rfl
    have hes : 8 + (m : Int) + 1 = 8 + ((m + 1 : Nat) : Int) := by omega
    refine cz_iload rfl rfl ?_
    refine cz_icst rfl cc_63 ?_
    refine cz_icgt rfl (by omega) (by omega) (fun hb14 => ?_) (fun hb14 => ?_)
    · exfalso; omega
    refine cz_aload rfl rfl ?_
    refine cz_getB rfl rfl ?_
    refine cz_iload rfl rfl ?_
    refine cz_cS1P rfl rfl rfl rfl (Nat.le_of_ble_eq_true rfl) (p_axisOf (by omega)) ?_
    refine cz_iload rfl rfl ?_
    refine cz_cS1P rfl rfl rfl rfl (Nat.le_of_ble_eq_true rfl) (p_lineOf (by omega)) ?_
    refine cz_cV3P rfl rfl rfl (cIsF cFm8) (Nat.le_of_ble_eq_true rfl) (p_hasLine cFm8 hs1x (by omega) (by omega)) ?_
    refine cz_ifeq rfl (by exact bI_ran) (fun hb34 => ?_) (fun hb34 => ?_)
    · replace hb34 := bI_0 hb34
      refine cz_iinc (l' := [(0, _), (1, _), (2, _), (3, _), (4, _)]) rfl cc_1 rfl rfl ?_
      refine cz_goto rfl ?_
      rw [hes]
      have hfin := ih (m + 1) _ (by omega) (by first | exact hsm47 | exact h1)
      rw [hnx] at hfin
      unfold cBs1 at hfin
      first
      | rw [if_pos ⟨hb34, by omega⟩] at hfin; exact hfin
      | rw [if_neg (fun hh => by omega)] at hfin; exact hfin
      | rw [if_neg (fun hh => hb34 (by rw [e8]; exact hh.1))] at hfin; exact hfin
    · replace hb34 := bI_n0 hb34
      refine cz_aload rfl rfl ?_
      refine cz_getB rfl rfl ?_
      refine cz_aload rfl rfl ?_
      refine cz_getB rfl rfl ?_
      refine cz_iload rfl rfl ?_
      refine cz_cV3V rfl rfl rfl (cIsF cFm14) (Nat.le_of_ble_eq_true rfl) (p_becomeFolded cFm14 cFm8 (by omega) hs1x hW1.bd hW1.2.2.2.2.1 hW1.2.2.2.2.2.1 (by omega) (by rw [e8]; rw [e8] at hb34; exact cIsC_tot hb34)) (fun S47 t47 hq47 => ?_)
      obtain ⟨ht47, hfr47, hfo47⟩ := hq47
      subst ht47
      rw [e8] at hfo47
      rw [e8] at hb34
      have hsm47 : cSm S S47 := h1.trans (cSm.of_fr hfr47)
      have htot := cIsC_tot hb34
      have hgG := (cFold_good hG (by omega) htot hfo47).1
      have huni := cFolded_uni hG (by omega) htot hfo47 (cFx_ok hfo47)
      have hn14 : vw S47 14 0 0 = vw S 8 0 0 := hfo47.1
      have epl : vw S47 14 0 1 * vw S47 14 0 2 = cNC (vw S 8) (8 + m) * cNR (vw S 8) (8 + m) := by rw [hfo47.2.1, hfo47.2.2.1]
      have efr : csum (fun i => bI (cFa (vw S47 14) i)) (vw S47 14 0 0).toNat = cNa (cFx (vw S 8) (8 + m)) := huni.1
      have hplb : 0 ≤ cNC (vw S 8) (8 + m) * cNR (vw S 8) (8 + m) ∧ cNC (vw S 8) (8 + m) * cNR (vw S 8) (8 + m) ≤ 64 := by
        rw [← epl]
        have := hgG.2.1
        have h2 := Int.mul_nonneg (a := vw S47 14 0 1) (b := vw S47 14 0 2) (by omega) (by omega)
        omega
      have hfrb : 0 ≤ cNa (cFx (vw S 8) (8 + m)) ∧ cNa (cFx (vw S 8) (8 + m)) ≤ 32 := by
        rw [← efr]
        have := csum_bI (p := fun i => cFa (vw S47 14) i) (vw S47 14 0 0).toNat
        omega
      refine cz_aload rfl rfl ?_
      refine cz_getB rfl rfl ?_
      refine cz_cV1P rfl rfl rfl (cIsF cFm14) (Nat.le_of_ble_eq_true rfl) (p_places cFm14) ?_
      rw [epl]
      refine cz_st1 (l' := [(0, _), (1, _), (2, _), (3, _), (4, _), (5, _)]) rfl rfl rfl ?_
      refine cz_aload rfl rfl ?_
      refine cz_getB rfl rfl ?_
      refine cz_cV1P rfl rfl rfl (cIsF cFm14) (Nat.le_of_ble_eq_true rfl) (p_frontsAbove cFm14 hgG.2.1 hgG.bd hgG.hb) ?_
      rw [efr]
      refine cz_st1 (l' := [(0, _), (1, _), (2, _), (3, _), (4, _), (5, _), (6, _)]) rfl rfl rfl ?_
      refine cz_iload rfl rfl ?_
      refine cz_icst rfl cc_m1 ?_
      refine cz_iceq rfl (by omega) (by omega) (fun hb70 => ?_) (fun hb70 => ?_)
      · skip
        refine cz_iload rfl rfl ?_
        refine cz_st1 (l' := [(0, _), (1, _), (2, _), (3, _), (4, _), (5, _), (6, _)]) rfl rfl rfl ?_
        refine cz_iload rfl rfl ?_
        refine cz_st1 (l' := [(0, _), (1, _), (2, _), (3, _), (4, _), (5, _), (6, _)]) rfl rfl rfl ?_
        refine cz_iload rfl rfl ?_
        refine cz_st1 (l' := [(0, _), (1, _), (2, _), (3, _), (4, _), (5, _), (6, _)]) rfl rfl rfl ?_
        refine cz_iinc (l' := [(0, _), (1, _), (2, _), (3, _), (4, _), (5, _), (6, _)]) rfl cc_1 rfl rfl ?_
        refine cz_goto rfl ?_
        refine cz_weak (fun i => i == 0 || i == 1 || i == 2 || i == 3 || i == 4) (l' := [(0, _), (1, _), (2, _), (3, _), (4, _)]) rfl ?_
        rw [hes]
        have hfin := ih (m + 1) _ (by omega) (by first | exact hsm47 | exact h1)
        rw [hnx] at hfin
        unfold cBs1 at hfin
        first
        | rw [if_pos ⟨hb34, by omega⟩] at hfin; exact hfin
        | rw [if_neg (fun hh => by omega)] at hfin; exact hfin
        | rw [if_neg (fun hh => hb34 (by rw [e8]; exact hh.1))] at hfin; exact hfin
      · skip
        refine cz_iload rfl rfl ?_
        refine cz_iload rfl rfl ?_
        refine cz_iclt rfl (by omega) (by omega) (fun hb76 => ?_) (fun hb76 => ?_)
        · skip
          refine cz_iload rfl rfl ?_
          refine cz_st1 (l' := [(0, _), (1, _), (2, _), (3, _), (4, _), (5, _), (6, _)]) rfl rfl rfl ?_
          refine cz_iload rfl rfl ?_
          refine cz_st1 (l' := [(0, _), (1, _), (2, _), (3, _), (4, _), (5, _), (6, _)]) rfl rfl rfl ?_
          refine cz_iload rfl rfl ?_
          refine cz_st1 (l' := [(0, _), (1, _), (2, _), (3, _), (4, _), (5, _), (6, _)]) rfl rfl rfl ?_
          refine cz_iinc (l' := [(0, _), (1, _), (2, _), (3, _), (4, _), (5, _), (6, _)]) rfl cc_1 rfl rfl ?_
          refine cz_goto rfl ?_
          refine cz_weak (fun i => i == 0 || i == 1 || i == 2 || i == 3 || i == 4) (l' := [(0, _), (1, _), (2, _), (3, _), (4, _)]) rfl ?_
          rw [hes]
          have hfin := ih (m + 1) _ (by omega) (by first | exact hsm47 | exact h1)
          rw [hnx] at hfin
          unfold cBs1 at hfin
          first
          | rw [if_pos ⟨hb34, by omega⟩] at hfin; exact hfin
          | rw [if_neg (fun hh => by omega)] at hfin; exact hfin
          | rw [if_neg (fun hh => hb34 (by rw [e8]; exact hh.1))] at hfin; exact hfin
        · skip
          refine cz_iload rfl rfl ?_
          refine cz_iload rfl rfl ?_
          refine cz_icne rfl (by omega) (by omega) (fun hb82 => ?_) (fun hb82 => ?_)
          · skip
            refine cz_iinc (l' := [(0, _), (1, _), (2, _), (3, _), (4, _), (5, _), (6, _)]) rfl cc_1 rfl rfl ?_
            refine cz_goto rfl ?_
            refine cz_weak (fun i => i == 0 || i == 1 || i == 2 || i == 3 || i == 4) (l' := [(0, _), (1, _), (2, _), (3, _), (4, _)]) rfl ?_
            rw [hes]
            have hfin := ih (m + 1) _ (by omega) (by first | exact hsm47 | exact h1)
            rw [hnx] at hfin
            unfold cBs1 at hfin
            first
            | rw [if_pos ⟨hb34, by omega⟩] at hfin; exact hfin
            | rw [if_neg (fun hh => by omega)] at hfin; exact hfin
            | rw [if_neg (fun hh => hb34 (by rw [e8]; exact hh.1))] at hfin; exact hfin
          · skip
            refine cz_iload rfl rfl ?_
            refine cz_iload rfl rfl ?_
            refine cz_icle rfl (by omega) (by omega) (fun hb88 => ?_) (fun hb88 => ?_)
            · skip
              refine cz_iinc (l' := [(0, _), (1, _), (2, _), (3, _), (4, _), (5, _), (6, _)]) rfl cc_1 rfl rfl ?_
              refine cz_goto rfl ?_
              refine cz_weak (fun i => i == 0 || i == 1 || i == 2 || i == 3 || i == 4) (l' := [(0, _), (1, _), (2, _), (3, _), (4, _)]) rfl ?_
              rw [hes]
              have hfin := ih (m + 1) _ (by omega) (by first | exact hsm47 | exact h1)
              rw [hnx] at hfin
              unfold cBs1 at hfin
              first
              | rw [if_pos ⟨hb34, by omega⟩] at hfin; exact hfin
              | rw [if_neg (fun hh => by omega)] at hfin; exact hfin
              | rw [if_neg (fun hh => hb34 (by rw [e8]; exact hh.1))] at hfin; exact hfin
            · skip
              refine cz_iload rfl rfl ?_
              refine cz_st1 (l' := [(0, _), (1, _), (2, _), (3, _), (4, _), (5, _), (6, _)]) rfl rfl rfl ?_
              refine cz_iload rfl rfl ?_
              refine cz_st1 (l' := [(0, _), (1, _), (2, _), (3, _), (4, _), (5, _), (6, _)]) rfl rfl rfl ?_
              refine cz_iload rfl rfl ?_
              refine cz_st1 (l' := [(0, _), (1, _), (2, _), (3, _), (4, _), (5, _), (6, _)]) rfl rfl rfl ?_
              refine cz_iinc (l' := [(0, _), (1, _), (2, _), (3, _), (4, _), (5, _), (6, _)]) rfl cc_1 rfl rfl ?_
              refine cz_goto rfl ?_
              refine cz_weak (fun i => i == 0 || i == 1 || i == 2 || i == 3 || i == 4) (l' := [(0, _), (1, _), (2, _), (3, _), (4, _)]) rfl ?_
              rw [hes]
              have hfin := ih (m + 1) _ (by omega) (by first | exact hsm47 | exact h1)
              rw [hnx] at hfin
              unfold cBs1 at hfin
              first
              | rw [if_pos ⟨hb34, by omega⟩] at hfin; exact hfin
              | rw [if_neg (fun hh => by omega)] at hfin; exact hfin
              | rw [if_neg (fun hh => hb34 (by rw [e8]; exact hh.1))] at hfin; exact hfin
set_option maxRecDepth 20000 in
theorem p_bestFold {xs : Nat → Int32} {Ls : Nat} {S : cS} {t : Nat} (hW : cWd S) (hG : cGood (vw S 8)) : cZ xs Ls 5 58 0 [(0, .ref 0)] [] S t (cQI (fun r S' t' => t' = t ∧ r = (cBst (vw S 8) 56).1 ∧ cSm S S')) := by
  refine cz_icst rfl cc_m1 ?_
  refine cz_st1 (l' := [(0, _), (1, _)]) rfl rfl rfl ?_
  refine cz_icst rfl cc_0 ?_
  refine cz_st1 (l' := [(0, _), (1, _), (2, _)]) rfl rfl rfl ?_
  refine cz_icst rfl cc_0 ?_
  refine cz_st1 (l' := [(0, _), (1, _), (2, _), (3, _)]) rfl rfl rfl ?_
  refine cz_icst rfl cc_8 ?_
  refine cz_st1 (l' := [(0, _), (1, _), (2, _), (3, _), (4, _)]) rfl rfl rfl ?_
  exact p_bestFold_loop hW hG 56 0 S (by omega) (fun _ _ => rfl)
set_option maxRecDepth 20000 in
theorem p_bring_loop {xs : Nat → Int32} {Ls : Nat} {S : cS} {t : Nat} (hW : cWd S) (hG : cGood (vw S 8)) {a c : Int} (ha : 0 ≤ a ∧ a < S 1 2) (hc : 0 ≤ c ∧ c < S 1 2) (hnu : ¬ cUpon (vw S 8) a c) : ∀ (n : Nat) (i : Int) (S1 : cS), 8 ≤ i → i + n = 64 → fnd (cBr1 (vw S 8) a c) 8 56 = fnd (cBr1 (vw S 8) a c) i n → cSm S S1 →
    cZ xs Ls 5 59 42 [(0, .ref 0), (1, .int (cI a)), (2, .int (cI c)), (3, .int (cI i))] [] S1 t (cQI (fun r S' t' => t' = t ∧ r = cBrg (vw S 8) a c ∧ cSm S S')) := by
  obtain ⟨hw, hpb, hn, hs, hh, hp, hfo⟩ := id hW
  have hd := hW.bd
  obtain ⟨hw1, hw2, hw3, hw4, hw5, hw6⟩ := id hw
  obtain ⟨hs1, hs2, hs3, hs4, hs5⟩ := id hs
  obtain ⟨hd1, hd2, hd3⟩ := id hd
  have hval : cBrg (vw S 8) a c = fnd (cBr1 (vw S 8) a c) 8 56 := if_neg hnu
  intro n
  induction n with
  | zero =>
    intro i S1 hi0 hi he h1
    refine cz_iload rfl rfl ?_
    refine cz_icst rfl cc_63 ?_
    refine cz_icgt rfl (by omega) (by omega) (fun hb45 => ?_) (fun hb45 => ?_)
    rotate_left
    · exfalso; omega
    refine cz_icst rfl cc_m1 ?_
    refine cz_retI rfl ?_
    exact cQI.mk ⟨rfl, by rw [hval, he]; rfl, h1⟩
  | succ n ih =>
    intro i S1 hi0 hi he h1
    have e8 : vw S1 8 = vw S 8 := h1.v (by omega)
    have e1 : S1 1 = S 1 := h1 1 (by omega)
    have hW1 := h1.wd hW
    have hs1x : cSh (vw S1 8) := hW1.2.2.2.1
    refine cz_iload rfl rfl ?_
    refine cz_icst rfl cc_63 ?_
    refine cz_icgt rfl (by omega) (by omega) (fun hb45 => ?_) (fun hb45 => ?_)
    · exfalso; omega
    refine cz_aload rfl rfl ?_
    refine cz_getB rfl rfl ?_
    refine cz_iload rfl rfl ?_
    refine cz_cS1P rfl rfl rfl rfl (Nat.le_of_ble_eq_true rfl) (p_axisOf (by omega)) ?_
    refine cz_iload rfl rfl ?_
    refine cz_cS1P rfl rfl rfl rfl (Nat.le_of_ble_eq_true rfl) (p_lineOf (by omega)) ?_
    refine cz_cV3P rfl rfl rfl (cIsF cFm8) (Nat.le_of_ble_eq_true rfl) (p_hasLine cFm8 hs1x (by omega) (by omega)) ?_
    refine cz_ifeq rfl (by exact bI_ran) (fun hb63 => ?_) (fun hb63 => ?_)
    · replace hb63 := bI_0 hb63
      refine cz_iinc (l' := [(0, _), (1, _), (2, _), (3, _)]) rfl cc_1 rfl rfl ?_
      refine cz_goto rfl ?_
      refine ih (i + 1) _ (by omega) (by omega) ?_ (by first | exact hsm75 | exact h1)
      rw [he, fnd_f]
      first
      | exact cBr1_f (fun hh => hb63 (by rw [e8]; exact hh.1))
      | exact cBr1_f (fun hh => hb87 ((huni.2 a c (by omega) (by omega) (by omega) (by omega)).mpr hh.2))
    · replace hb63 := bI_n0 hb63
      refine cz_aload rfl rfl ?_
      refine cz_getB rfl rfl ?_
      refine cz_aload rfl rfl ?_
      refine cz_getB rfl rfl ?_
      refine cz_iload rfl rfl ?_
      refine cz_cV3V rfl rfl rfl (cIsF cFm14) (Nat.le_of_ble_eq_true rfl) (p_becomeFolded cFm14 cFm8 (by omega) hs1x hW1.bd hW1.2.2.2.2.1 hW1.2.2.2.2.2.1 (by omega) (by rw [e8]; rw [e8] at hb63; exact cIsC_tot hb63)) (fun S75 t75 hq75 => ?_)
      obtain ⟨ht75, hfr75, hfo75⟩ := hq75
      subst ht75
      rw [e8] at hfo75
      rw [e8] at hb63
      have hsm75 : cSm S S75 := h1.trans (cSm.of_fr hfr75)
      have htot := cIsC_tot hb63
      have hgG := (cFold_good hG (by omega) htot hfo75).1
      have huni := cFolded_uni hG (by omega) htot hfo75 (cFx_ok hfo75)
      have hn14 : vw S75 14 0 0 = vw S 8 0 0 := hfo75.1
      refine cz_aload rfl rfl ?_
      refine cz_getB rfl rfl ?_
      refine cz_iload rfl rfl ?_
      refine cz_iload rfl rfl ?_
      refine cz_cV3P rfl rfl rfl (cIsF cFm14) (Nat.le_of_ble_eq_true rfl) (p_isJustUpon cFm14 hgG.bd (by omega) (by omega)) ?_
      refine cz_ifeq rfl (by exact bI_ran) (fun hb87 => ?_) (fun hb87 => ?_)
      · replace hb87 := bI_0 hb87
        refine cz_iinc (l' := [(0, _), (1, _), (2, _), (3, _)]) rfl cc_1 rfl rfl ?_
        refine cz_goto rfl ?_
        refine ih (i + 1) _ (by omega) (by omega) ?_ (by first | exact hsm75 | exact h1)
        rw [he, fnd_f]
        first
        | exact cBr1_f (fun hh => hb63 (by rw [e8]; exact hh.1))
        | exact cBr1_f (fun hh => hb87 ((huni.2 a c (by omega) (by omega) (by omega) (by omega)).mpr hh.2))
      · replace hb87 := bI_n0 hb87
        refine cz_iload rfl rfl ?_
        refine cz_retI rfl ?_
        have hup := (huni.2 a c (by omega) (by omega) (by omega) (by omega)).mp hb87
        exact cQI.mk ⟨rfl, by rw [hval, he, fnd_t]; exact cBr1_t ⟨hb63, hup⟩, hsm75⟩
set_option maxRecDepth 20000 in
theorem p_bring {xs : Nat → Int32} {Ls : Nat} {S : cS} {t : Nat} (hW : cWd S) (hG : cGood (vw S 8)) {a c : Int} (ha : 0 ≤ a ∧ a < S 1 2) (hc : 0 ≤ c ∧ c < S 1 2) (hne : ¬ a = c) : cZ xs Ls 5 59 0 [(0, .ref 0), (1, .int (cI a)), (2, .int (cI c))] [] S t (cQI (fun r S' t' => t' = t ∧ r = cBrg (vw S 8) a c ∧ cSm S S')) := by
  obtain ⟨hw, hpb, hn, hs, hh, hp, hfo⟩ := id hW
  have hd := hW.bd
  obtain ⟨hw1, hw2, hw3, hw4, hw5, hw6⟩ := id hw
  obtain ⟨hs1, hs2, hs3, hs4, hs5⟩ := id hs
  obtain ⟨hd1, hd2, hd3⟩ := id hd
  refine cz_aload rfl rfl ?_
  refine cz_iload rfl rfl ?_
  refine cz_cV2PV rfl rfl rfl cIs0 (Nat.le_of_ble_eq_true rfl) (p_requireCell hw ha) ?_
  refine cz_aload rfl rfl ?_
  refine cz_iload rfl rfl ?_
  refine cz_cV2PV rfl rfl rfl cIs0 (Nat.le_of_ble_eq_true rfl) (p_requireCell hw hc) ?_
  refine cz_iload rfl rfl ?_
  refine cz_iload rfl rfl ?_
  refine cz_icne rfl (by omega) (by omega) (fun hb12 => ?_) (fun hb12 => ?_)
  rotate_left
  · exfalso; omega
  refine cz_aload rfl rfl ?_
  refine cz_getB rfl rfl ?_
  refine cz_iload rfl rfl ?_
  refine cz_iload rfl rfl ?_
  refine cz_cV3P rfl rfl rfl (cIsF cFm8) (Nat.le_of_ble_eq_true rfl) (p_isJustUpon cFm8 hd (by omega) (by omega)) ?_
  refine cz_ifeq rfl (by exact bI_ran) (fun hb34 => ?_) (fun hb34 => ?_)
  · replace hb34 := bI_0 hb34
    refine cz_icst rfl cc_8 ?_
    refine cz_st1 (l' := [(0, _), (1, _), (2, _), (3, _)]) rfl rfl rfl ?_
    exact p_bring_loop hW hG ha hc hb34 56 8 S (by omega) (by omega) rfl (fun _ _ => rfl)
  · replace hb34 := bI_n0 hb34
    refine cz_icst rfl cc_0 ?_
    refine cz_retI rfl ?_
    exact cQI.mk ⟨rfl, (if_pos hb34).symm, fun _ _ => rfl⟩
