/-! The checksum -/
set_option maxRecDepth 20000 in
theorem p_digCell_loop {xs : Nat → Int32} {Ls : Nat} {S : cS} {t : Nat} (hW : cWd S) (hsz : S 1 2 = S 1 0 * S 1 1) {c : Int} (hc : 0 ≤ c ∧ c < S 1 2) {d0 : Int64} : ∀ (n m : Nat), m + n = 8 →
    cZ xs Ls 4 76 6 [(0, .ref 0), (3, .int (cI c)), (4, .long (cDf (cOC S c) d0 m)), (6, .int (cI (m : Int)))] [] S t (cPJ (cDc S d0 c) S t) := by
  obtain ⟨hw, hpb, hn, hs, hh, hp, hfo⟩ := id hW
  have hd := hW.bd
  obtain ⟨hw1, hw2, hw3, hw4, hw5, hw6⟩ := id hw
  obtain ⟨hs1, hs2, hs3, hs4, hs5⟩ := id hs
  obtain ⟨hd1, hd2, hd3⟩ := id hd
  intro n
  induction n with
  | zero =>
    intro m hm
    have e3 : m = 8 := by omega
    subst e3
    refine cz_iload rfl rfl ?_
    refine cz_icst rfl cc_7 ?_
    refine cz_icgt rfl (by omega) (by omega) (fun hb10 => ?_) (fun hb10 => ?_)
    rotate_left
    · exfalso; omega
    refine cz_lload rfl rfl ?_
    refine cz_s1 rfl rfl ?_
    refine cz_lmul rfl ?_
    refine cz_aload rfl rfl ?_
    refine cz_iload rfl rfl ?_
    refine cz_icst rfl cc_0 ?_
    refine cz_icst rfl cc_0 ?_
    refine cz_cV4P rfl rfl rfl cIs0 (Nat.le_of_ble_eq_true rfl) (p_ofPair hW hsz hc (by omega) (by omega)) ?_
    refine cz_i2l rfl ?_
    refine cz_ladd rfl ?_
    refine cz_st2 (l' := [(0, _), (3, _), (4, _), (6, _)]) rfl rfl rfl ?_
    refine cz_lload rfl rfl ?_
    refine cz_s1 rfl rfl ?_
    refine cz_lmul rfl ?_
    refine cz_aload rfl rfl ?_
    refine cz_iload rfl rfl ?_
    refine cz_icst rfl cc_0 ?_
    refine cz_icst rfl cc_1 ?_
    refine cz_cV4P rfl rfl rfl cIs0 (Nat.le_of_ble_eq_true rfl) (p_ofPair hW hsz hc (by omega) (by omega)) ?_
    refine cz_i2l rfl ?_
    refine cz_ladd rfl ?_
    refine cz_st2 (l' := [(0, _), (3, _), (4, _), (6, _)]) rfl rfl rfl ?_
    refine cz_lload rfl rfl ?_
    refine cz_s1 rfl rfl ?_
    refine cz_lmul rfl ?_
    refine cz_aload rfl rfl ?_
    refine cz_iload rfl rfl ?_
    refine cz_icst rfl cc_1 ?_
    refine cz_icst rfl cc_0 ?_
    refine cz_cV4P rfl rfl rfl cIs0 (Nat.le_of_ble_eq_true rfl) (p_ofPair hW hsz hc (by omega) (by omega)) ?_
    refine cz_i2l rfl ?_
    refine cz_ladd rfl ?_
    refine cz_st2 (l' := [(0, _), (3, _), (4, _), (6, _)]) rfl rfl rfl ?_
    refine cz_lload rfl rfl ?_
    refine cz_s1 rfl rfl ?_
    refine cz_lmul rfl ?_
    refine cz_aload rfl rfl ?_
    refine cz_iload rfl rfl ?_
    refine cz_icst rfl cc_1 ?_
    refine cz_icst rfl cc_1 ?_
    refine cz_cV4P rfl rfl rfl cIs0 (Nat.le_of_ble_eq_true rfl) (p_ofPair hW hsz hc (by omega) (by omega)) ?_
    refine cz_i2l rfl ?_
    refine cz_ladd rfl ?_
    refine cz_retJ rfl ?_
    exact cPJ.mk rfl
  | succ n ih =>
    intro m hm
    have hms : ((m + 1 : Nat) : Int) = (m : Int) + 1 := by omega
    refine cz_iload rfl rfl ?_
    refine cz_icst rfl cc_7 ?_
    refine cz_icgt rfl (by omega) (by omega) (fun hb10 => ?_) (fun hb10 => ?_)
    · exfalso; omega
    refine cz_lload rfl rfl ?_
    refine cz_s1 rfl rfl ?_
    refine cz_lmul rfl ?_
    refine cz_aload rfl rfl ?_
    refine cz_iload rfl rfl ?_
    refine cz_iload rfl rfl ?_
    refine cz_cV3P rfl rfl rfl cIs0 (Nat.le_of_ble_eq_true rfl) (p_ofCell hW hc (by omega)) ?_
    refine cz_i2l rfl ?_
    refine cz_ladd rfl ?_
    refine cz_st2 (l' := [(0, _), (3, _), (4, _), (6, _)]) rfl rfl rfl ?_
    refine cz_iinc (l' := [(0, _), (3, _), (4, _), (6, _)]) rfl cc_1 rfl rfl ?_
    refine cz_goto rfl ?_
    have h := ih (m + 1) (by omega)
    rw [hms] at h
    exact h
set_option maxRecDepth 20000 in
theorem p_digCell {xs : Nat → Int32} {Ls : Nat} {S : cS} {t : Nat} (hW : cWd S) (hsz : S 1 2 = S 1 0 * S 1 1) {c : Int} (hc : 0 ≤ c ∧ c < S 1 2) {d0 : Int64} : cZ xs Ls 4 76 0 [(0, .ref 0), (1, .long d0), (3, .int (cI c))] [] S t (cPJ (cDc S d0 c) S t) := by
  refine cz_lload rfl rfl ?_
  refine cz_st2 (l' := [(0, _), (1, _), (3, _), (4, _)]) rfl rfl rfl ?_
  refine cz_icst rfl cc_0 ?_
  refine cz_st1 (l' := [(0, _), (1, _), (3, _), (4, _), (6, _)]) rfl rfl rfl ?_
  refine cz_weak (fun i => i == 0 || i == 3 || i == 4 || i == 6) (l' := [(0, _), (3, _), (4, _), (6, _)]) rfl ?_
  exact p_digCell_loop hW hsz hc 8 0 rfl
set_option maxRecDepth 20000 in
theorem p_digPlace_loop {xs : Nat → Int32} {Ls : Nat} {S : cS} {t : Nat} (hW : cWd S) {x y : Int} (hxy : cHas (vw S 8) x y) {d0 : Int64} : ∀ (n m : Nat), m + n = 7 →
    cZ xs Ls 4 77 6 [(0, .ref 0), (3, .int (cI x)), (4, .int (cI y)), (5, .long (cDf (cOL S x y) d0 m)), (7, .int (cI (m : Int)))] [] S t (cPJ (cDp S y d0 x) S t) := by
  obtain ⟨hw, hpb, hn, hs, hh, hp, hfo⟩ := id hW
  have hd := hW.bd
  obtain ⟨hw1, hw2, hw3, hw4, hw5, hw6⟩ := id hw
  obtain ⟨hs1, hs2, hs3, hs4, hs5⟩ := id hs
  obtain ⟨hd1, hd2, hd3⟩ := id hd
  intro n
  induction n with
  | zero =>
    intro m hm
    have e3 : m = 7 := by omega
    subst e3
    refine cz_iload rfl rfl ?_
    refine cz_icst rfl cc_6 ?_
    refine cz_icgt rfl (by omega) (by omega) (fun hb10 => ?_) (fun hb10 => ?_)
    rotate_left
    · exfalso; omega
    refine cz_lload rfl rfl ?_
    refine cz_retJ rfl ?_
    exact cPJ.mk rfl
  | succ n ih =>
    intro m hm
    have hms : ((m + 1 : Nat) : Int) = (m : Int) + 1 := by omega
    refine cz_iload rfl rfl ?_
    refine cz_icst rfl cc_6 ?_
    refine cz_icgt rfl (by omega) (by omega) (fun hb10 => ?_) (fun hb10 => ?_)
    · exfalso; omega
    refine cz_lload rfl rfl ?_
    refine cz_s1 rfl rfl ?_
    refine cz_lmul rfl ?_
    refine cz_aload rfl rfl ?_
    refine cz_iload rfl rfl ?_
    refine cz_iload rfl rfl ?_
    refine cz_iload rfl rfl ?_
    refine cz_cV4P rfl rfl rfl cIs0 (Nat.le_of_ble_eq_true rfl) (p_ofPlace hW hxy (by omega)) ?_
    refine cz_i2l rfl ?_
    refine cz_ladd rfl ?_
    refine cz_st2 (l' := [(0, _), (3, _), (4, _), (5, _), (7, _)]) rfl rfl rfl ?_
    refine cz_iinc (l' := [(0, _), (3, _), (4, _), (5, _), (7, _)]) rfl cc_1 rfl rfl ?_
    refine cz_goto rfl ?_
    have h := ih (m + 1) (by omega)
    rw [hms] at h
    exact h
set_option maxRecDepth 20000 in
theorem p_digPlace {xs : Nat → Int32} {Ls : Nat} {S : cS} {t : Nat} (hW : cWd S) {x y : Int} (hxy : cHas (vw S 8) x y) {d0 : Int64} : cZ xs Ls 4 77 0 [(0, .ref 0), (1, .long d0), (3, .int (cI x)), (4, .int (cI y))] [] S t (cPJ (cDp S y d0 x) S t) := by
  refine cz_lload rfl rfl ?_
  refine cz_st2 (l' := [(0, _), (1, _), (3, _), (4, _), (5, _)]) rfl rfl rfl ?_
  refine cz_icst rfl cc_0 ?_
  refine cz_st1 (l' := [(0, _), (1, _), (3, _), (4, _), (5, _), (7, _)]) rfl rfl rfl ?_
  refine cz_weak (fun i => i == 0 || i == 3 || i == 4 || i == 5 || i == 7) (l' := [(0, _), (3, _), (4, _), (5, _), (7, _)]) rfl ?_
  exact p_digPlace_loop hW hxy 7 0 rfl
set_option maxRecDepth 20000 in
theorem p_dig_end {xs : Nat → Int32} {Ls : Nat} {S : cS} {t : Nat} (hW : cWd S) (hsz : S 1 2 = S 1 0 * S 1 1) (hG : cGood (vw S 8)) : cZ xs Ls 6 61 106 [(0, .ref 0), (1, .long (cIt (cDr S) (cIt (cDc S) (cDf (cMny S) 58302 16) (S 1 2).toNat) (vw S 8 0 2).toNat))] [] S t (cQJ (fun r S' t' => t' = t ∧ r = cDig S ∧ cSm S S')) := by
  obtain ⟨hw, hpb, hn, hs, hh, hp, hfo⟩ := id hW
  have hd := hW.bd
  obtain ⟨hw1, hw2, hw3, hw4, hw5, hw6⟩ := id hw
  obtain ⟨hs1, hs2, hs3, hs4, hs5⟩ := id hs
  obtain ⟨hd1, hd2, hd3⟩ := id hd
  refine cz_lload rfl rfl ?_
  refine cz_s1 rfl rfl ?_
  refine cz_lmul rfl ?_
  refine cz_aload rfl rfl ?_
  refine cz_cV1I rfl rfl rfl cIs0 (Nat.le_of_ble_eq_true rfl) (p_bestFold hW hG) (fun r112 S112 t112 hq112 => ?_)
  obtain ⟨ht112, hr112, hsm⟩ := hq112
  subst ht112
  have e8 : vw S112 8 = vw S 8 := hsm.v (by omega)
  have e1 : S112 1 = S 1 := hsm 1 (by omega)
  have hW1 := hsm.wd hW
  have e12 : S112 1 2 = S 1 2 := by rw [e1]
  refine cz_i2l rfl ?_
  refine cz_ladd rfl ?_
  refine cz_st2 (l' := [(0, _), (1, _)]) rfl rfl rfl ?_
  refine cz_lload rfl rfl ?_
  refine cz_s1 rfl rfl ?_
  refine cz_lmul rfl ?_
  refine cz_aload rfl rfl ?_
  refine cz_cV1P rfl rfl rfl cIs0 (Nat.le_of_ble_eq_true rfl) (p_fewest hW1) ?_
  refine cz_i2l rfl ?_
  refine cz_ladd rfl ?_
  refine cz_st2 (l' := [(0, _), (1, _)]) rfl rfl rfl ?_
  refine cz_aload rfl rfl ?_
  refine cz_getB rfl rfl ?_
  refine cz_getP rfl rfl ?_
  refine cz_icst rfl cc_1 ?_
  refine cz_icle rfl (by omega) (by omega) (fun hb138 => ?_) (fun hb138 => ?_)
  · skip
    refine cz_lload rfl rfl ?_
    refine cz_retJ rfl ?_
    first
    | refine cQJ.mk ⟨rfl, ?_, hsm.trans hsm2⟩
      unfold cDig
      rw [if_pos (by omega), hr112, hr149, e8]
      rfl
    | refine cQJ.mk ⟨rfl, ?_, hsm⟩
      unfold cDig
      rw [if_neg (by omega), hr112, e8]
      rfl
  · skip
    refine cz_lload rfl rfl ?_
    refine cz_s1 rfl rfl ?_
    refine cz_lmul rfl ?_
    refine cz_aload rfl rfl ?_
    refine cz_icst rfl cc_0 ?_
    refine cz_icst rfl cc_1 ?_
    refine cz_cV3I rfl rfl rfl cIs0 (Nat.le_of_ble_eq_true rfl) (p_bring hW1 (by rw [e8]; exact hG) (by rw [e1]; omega) (by rw [e1]; omega) (by omega)) (fun r149 S149 t149 hq149 => ?_)
    obtain ⟨ht149, hr149, hsm2⟩ := hq149
    subst ht149
    refine cz_i2l rfl ?_
    refine cz_ladd rfl ?_
    refine cz_goto rfl ?_
    refine cz_retJ rfl ?_
    first
    | refine cQJ.mk ⟨rfl, ?_, hsm.trans hsm2⟩
      unfold cDig
      rw [if_pos (by omega), hr112, hr149, e8]
      rfl
    | refine cQJ.mk ⟨rfl, ?_, hsm⟩
      unfold cDig
      rw [if_neg (by omega), hr112, e8]
      rfl
set_option maxRecDepth 20000 in
theorem p_dig_x {xs : Nat → Int32} {Ls : Nat} {S : cS} {t : Nat} (hW : cWd S) (hsz : S 1 2 = S 1 0 * S 1 1) (hG : cGood (vw S 8)) {y : Int} (hy : 0 ≤ y ∧ y < vw S 8 0 2) {d0 : Int64} (k59 : cZ xs Ls 6 61 59 [(0, .ref 0), (1, .long (cDr S d0 y)), (3, .int (cI (y + 1)))] [] S t (cQJ (fun r S' t' => t' = t ∧ r = cDig S ∧ cSm S S'))) : ∀ (n m : Nat), (m : Int) + n = vw S 8 0 1 →
    cZ xs Ls 6 61 73 [(0, .ref 0), (1, .long (cIt (cDp S y) d0 m)), (3, .int (cI y)), (4, .int (cI (m : Int)))] [] S t (cQJ (fun r S' t' => t' = t ∧ r = cDig S ∧ cSm S S')) := by
  obtain ⟨hw, hpb, hn, hs, hh, hp, hfo⟩ := id hW
  have hd := hW.bd
  obtain ⟨hw1, hw2, hw3, hw4, hw5, hw6⟩ := id hw
  obtain ⟨hs1, hs2, hs3, hs4, hs5⟩ := id hs
  obtain ⟨hd1, hd2, hd3⟩ := id hd
  intro n
  induction n with
  | zero =>
    intro m hm
    have e3 : m = (vw S 8 0 1).toNat := by omega
    subst e3
    refine cz_iload rfl rfl ?_
    refine cz_aload rfl rfl ?_
    refine cz_getB rfl rfl ?_
    refine cz_getF cFm8 rfl rfl ?_
    refine cz_icge rfl (by omega) (by omega) (fun hb82 => ?_) (fun hb82 => ?_)
    rotate_left
    · exfalso; omega
    refine cz_iinc (l' := [(0, _), (1, _), (3, _), (4, _)]) rfl cc_1 rfl rfl ?_
    refine cz_goto rfl ?_
    refine cz_weak (fun i => i == 0 || i == 1 || i == 3) (l' := [(0, _), (1, _), (3, _)]) rfl ?_
    exact k59
  | succ n ih =>
    intro m hm
    have hms : ((m + 1 : Nat) : Int) = (m : Int) + 1 := by omega
    refine cz_iload rfl rfl ?_
    refine cz_aload rfl rfl ?_
    refine cz_getB rfl rfl ?_
    refine cz_getF cFm8 rfl rfl ?_
    refine cz_icge rfl (by omega) (by omega) (fun hb82 => ?_) (fun hb82 => ?_)
    · exfalso; omega
    refine cz_aload rfl rfl ?_
    refine cz_lload rfl rfl ?_
    refine cz_iload rfl rfl ?_
    refine cz_iload rfl rfl ?_
    refine cz_cV4PJ rfl rfl rfl cIs0 (Nat.le_of_ble_eq_true rfl) (p_digPlace hW ⟨by omega, by omega, hy.1, hy.2⟩) ?_
    refine cz_st2 (l' := [(0, _), (1, _), (3, _), (4, _)]) rfl rfl rfl ?_
    refine cz_iinc (l' := [(0, _), (1, _), (3, _), (4, _)]) rfl cc_1 rfl rfl ?_
    refine cz_goto rfl ?_
    have h := ih (m + 1) (by omega)
    rw [hms] at h
    exact h
set_option maxRecDepth 20000 in
theorem p_dig_y {xs : Nat → Int32} {Ls : Nat} {S : cS} {t : Nat} (hW : cWd S) (hsz : S 1 2 = S 1 0 * S 1 1) (hG : cGood (vw S 8)) : ∀ (n m : Nat), (m : Int) + n = vw S 8 0 2 →
    cZ xs Ls 6 61 59 [(0, .ref 0), (1, .long (cIt (cDr S) (cIt (cDc S) (cDf (cMny S) 58302 16) (S 1 2).toNat) m)), (3, .int (cI (m : Int)))] [] S t (cQJ (fun r S' t' => t' = t ∧ r = cDig S ∧ cSm S S')) := by
  obtain ⟨hw, hpb, hn, hs, hh, hp, hfo⟩ := id hW
  have hd := hW.bd
  obtain ⟨hw1, hw2, hw3, hw4, hw5, hw6⟩ := id hw
  obtain ⟨hs1, hs2, hs3, hs4, hs5⟩ := id hs
  obtain ⟨hd1, hd2, hd3⟩ := id hd
  intro n
  induction n with
  | zero =>
    intro m hm
    have e3 : m = (vw S 8 0 2).toNat := by omega
    subst e3
    refine cz_iload rfl rfl ?_
    refine cz_aload rfl rfl ?_
    refine cz_getB rfl rfl ?_
    refine cz_getF cFm8 rfl rfl ?_
    refine cz_icge rfl (by omega) (by omega) (fun hb67 => ?_) (fun hb67 => ?_)
    rotate_left
    · exfalso; omega
    refine cz_weak (fun i => i == 0 || i == 1) (l' := [(0, _), (1, _)]) rfl ?_
    exact p_dig_end hW hsz hG
  | succ n ih =>
    intro m hm
    have hms : ((m + 1 : Nat) : Int) = (m : Int) + 1 := by omega
    refine cz_iload rfl rfl ?_
    refine cz_aload rfl rfl ?_
    refine cz_getB rfl rfl ?_
    refine cz_getF cFm8 rfl rfl ?_
    refine cz_icge rfl (by omega) (by omega) (fun hb67 => ?_) (fun hb67 => ?_)
    · exfalso; omega
    refine cz_icst rfl cc_0 ?_
    refine cz_st1 (l' := [(0, _), (1, _), (3, _), (4, _)]) rfl rfl rfl ?_
    have h := ih (m + 1) (by omega)
    rw [hms] at h
    exact p_dig_x hW hsz hG (by omega) h (vw S 8 0 1).toNat 0 (by omega)
set_option maxRecDepth 20000 in
theorem p_dig_c {xs : Nat → Int32} {Ls : Nat} {S : cS} {t : Nat} (hW : cWd S) (hsz : S 1 2 = S 1 0 * S 1 1) (hG : cGood (vw S 8)) : ∀ (n m : Nat), (m : Int) + n = S 1 2 →
    cZ xs Ls 6 61 33 [(0, .ref 0), (1, .long (cIt (cDc S) (cDf (cMny S) 58302 16) m)), (3, .int (cI (m : Int)))] [] S t (cQJ (fun r S' t' => t' = t ∧ r = cDig S ∧ cSm S S')) := by
  obtain ⟨hw, hpb, hn, hs, hh, hp, hfo⟩ := id hW
  have hd := hW.bd
  obtain ⟨hw1, hw2, hw3, hw4, hw5, hw6⟩ := id hw
  obtain ⟨hs1, hs2, hs3, hs4, hs5⟩ := id hs
  obtain ⟨hd1, hd2, hd3⟩ := id hd
  intro n
  induction n with
  | zero =>
    intro m hm
    have e3 : m = (S 1 2).toNat := by omega
    subst e3
    refine cz_iload rfl rfl ?_
    refine cz_aload rfl rfl ?_
    refine cz_getB rfl rfl ?_
    refine cz_getP rfl rfl ?_
    refine cz_icge rfl (by omega) (by omega) (fun hb41 => ?_) (fun hb41 => ?_)
    rotate_left
    · exfalso; omega
    refine cz_icst rfl cc_0 ?_
    refine cz_st1 (l' := [(0, _), (1, _), (3, _)]) rfl rfl rfl ?_
    exact p_dig_y hW hsz hG (vw S 8 0 2).toNat 0 (by omega)
  | succ n ih =>
    intro m hm
    have hms : ((m + 1 : Nat) : Int) = (m : Int) + 1 := by omega
    refine cz_iload rfl rfl ?_
    refine cz_aload rfl rfl ?_
    refine cz_getB rfl rfl ?_
    refine cz_getP rfl rfl ?_
    refine cz_icge rfl (by omega) (by omega) (fun hb41 => ?_) (fun hb41 => ?_)
    · exfalso; omega
    refine cz_aload rfl rfl ?_
    refine cz_lload rfl rfl ?_
    refine cz_iload rfl rfl ?_
    refine cz_cV3PJ rfl rfl rfl cIs0 (Nat.le_of_ble_eq_true rfl) (p_digCell hW hsz (by omega)) ?_
    refine cz_st2 (l' := [(0, _), (1, _), (3, _)]) rfl rfl rfl ?_
    refine cz_iinc (l' := [(0, _), (1, _), (3, _)]) rfl cc_1 rfl rfl ?_
    refine cz_goto rfl ?_
    have h := ih (m + 1) (by omega)
    rw [hms] at h
    exact h
set_option maxRecDepth 20000 in
theorem p_dig_m {xs : Nat → Int32} {Ls : Nat} {S : cS} {t : Nat} (hW : cWd S) (hsz : S 1 2 = S 1 0 * S 1 1) (hG : cGood (vw S 8)) : ∀ (n m : Nat), m + n = 16 →
    cZ xs Ls 6 61 6 [(0, .ref 0), (1, .long (cDf (cMny S) 58302 m)), (3, .int (cI (m : Int)))] [] S t (cQJ (fun r S' t' => t' = t ∧ r = cDig S ∧ cSm S S')) := by
  obtain ⟨hw, hpb, hn, hs, hh, hp, hfo⟩ := id hW
  have hd := hW.bd
  obtain ⟨hw1, hw2, hw3, hw4, hw5, hw6⟩ := id hw
  obtain ⟨hs1, hs2, hs3, hs4, hs5⟩ := id hs
  obtain ⟨hd1, hd2, hd3⟩ := id hd
  intro n
  induction n with
  | zero =>
    intro m hm
    have e3 : m = 16 := by omega
    subst e3
    refine cz_iload rfl rfl ?_
    refine cz_icst rfl cc_15 ?_
    refine cz_icgt rfl (by omega) (by omega) (fun hb9 => ?_) (fun hb9 => ?_)
    rotate_left
    · exfalso; omega
    refine cz_icst rfl cc_0 ?_
    refine cz_st1 (l' := [(0, _), (1, _), (3, _)]) rfl rfl rfl ?_
    exact p_dig_c hW hsz hG (S 1 2).toNat 0 (by omega)
  | succ n ih =>
    intro m hm
    have hms : ((m + 1 : Nat) : Int) = (m : Int) + 1 := by omega
    refine cz_iload rfl rfl ?_
    refine cz_icst rfl cc_15 ?_
    refine cz_icgt rfl (by omega) (by omega) (fun hb9 => ?_) (fun hb9 => ?_)
    · exfalso; omega
    refine cz_lload rfl rfl ?_
    refine cz_s1 rfl rfl ?_
    refine cz_lmul rfl ?_
    refine cz_aload rfl rfl ?_
    refine cz_iload rfl rfl ?_
    refine cz_cV2P rfl rfl rfl cIs0 (Nat.le_of_ble_eq_true rfl) (p_many hW (by omega)) ?_
    refine cz_i2l rfl ?_
    refine cz_ladd rfl ?_
    refine cz_st2 (l' := [(0, _), (1, _), (3, _)]) rfl rfl rfl ?_
    refine cz_iinc (l' := [(0, _), (1, _), (3, _)]) rfl cc_1 rfl rfl ?_
    refine cz_goto rfl ?_
    have h := ih (m + 1) (by omega)
    rw [hms] at h
    exact h
set_option maxRecDepth 20000 in
theorem p_digest {xs : Nat → Int32} {Ls : Nat} {S : cS} {t : Nat} (hW : cWd S) (hsz : S 1 2 = S 1 0 * S 1 1) (hG : cGood (vw S 8)) : cZ xs Ls 6 61 0 [(0, .ref 0)] [] S t (cQJ (fun r S' t' => t' = t ∧ r = cDig S ∧ cSm S S')) := by
  refine cz_s1 rfl rfl ?_
  refine cz_st2 (l' := [(0, _), (1, _)]) rfl rfl rfl ?_
  refine cz_icst rfl cc_0 ?_
  refine cz_st1 (l' := [(0, _), (1, _), (3, _)]) rfl rfl rfl ?_
  exact p_dig_m hW hsz hG 16 0 rfl
