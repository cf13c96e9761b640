/-! The class: ink, holes, glue -/
set_option maxRecDepth 20000 in
theorem p_creaseAlong {xs : Nat → Int32} {Ls : Nat} {S : cS} {t : Nat} (hW : cWd S) (hsz : S 1 2 = S 1 0 * S 1 1) (hfo1 : 1 ≤ S 0 5) (hfree : ∀ p, 0 ≤ p → p < 64 → S 4 p ≤ 900) {k : Int} (hk : 0 ≤ k ∧ k < 1000) : cZ xs Ls 4 67 0 [(0, .ref 0), (1, .int (cI k))] [] S t (cQI (fun r S' t' => t' = t ∧ r = csum (cNcr S k) (S 1 2).toNat ∧ (∀ a, ¬ a = 2 → ¬ a = 3 → ¬ a = 4 → S' a = S a) ∧ (∀ c d, 0 ≤ c → c < S 1 2 → (d = 0 ∨ d = 1) → cPressed S S' k c d) ∧ (∀ p, 2 * S 1 2 ≤ p → p < 64 → S' 2 p = S 2 p ∧ S' 3 p = S 3 p ∧ S' 4 p = S 4 p))) := by
  refine cz_icst rfl cc_0 ?_
  refine cz_st1 (l' := [(0, _), (1, _), (2, _)]) rfl rfl rfl ?_
  refine cz_icst rfl cc_0 ?_
  refine cz_st1 (l' := [(0, _), (1, _), (2, _), (3, _)]) rfl rfl rfl ?_
  refine p_creaseAlong_loop hW hsz hfo1 hfree hk (S 1 2).toNat 0 0 S (by omega) (by have := hW.1; omega) rfl (fun _ _ _ _ => rfl) ?_ (fun _ _ _ => ⟨rfl, rfl, rfl⟩)
  intro c d a1 a2 a3
  exact ⟨fun h => by omega, fun _ => ⟨rfl, rfl, rfl⟩⟩
set_option maxRecDepth 20000 in
theorem p_spreadInk_loop {xs : Nat → Int32} {Ls : Nat} {S : cS} {t : Nat} (hW : cWd S) {k : Int} (hk : 0 ≤ k ∧ k < 1000) : ∀ (n : Nat) (i r : Int) (S1 : cS), 0 ≤ i → i + n = S 1 2 → (∀ a, ¬ a = 5 → S1 a = S a) → (∀ p, 0 ≤ p → p < 64 → 0 ≤ S1 5 p ∧ S1 5 p ≤ 2) → cWn S1 = cWn S + r → 0 ≤ r → r ≤ i →
    cZ xs Ls 5 69 4 [(0, .ref 0), (1, .int (cI k)), (2, .int (cI r)), (3, .int (cI i))] [] S1 t (cQI (fun r S' t' => t' = t ∧ (∀ a, ¬ a = 5 → S' a = S a) ∧ (∀ p, 0 ≤ p → p < 64 → 0 ≤ S' 5 p ∧ S' 5 p ≤ 2) ∧ cWn S' = cWn S + r ∧ 0 ≤ r ∧ r ≤ 32)) := by
  obtain ⟨hw, hpb, hn, hs, hh, hp, hfo⟩ := id hW
  have hd := hW.bd
  obtain ⟨hw1, hw2, hw3, hw4, hw5, hw6⟩ := id hw
  obtain ⟨hs1, hs2, hs3, hs4, hs5⟩ := id hs
  obtain ⟨hd1, hd2, hd3⟩ := id hd
  intro n
  induction n with
  | zero =>
    intro i r S1 hi0 hi h1 h2 h3 h4 h5
    have e1 : S1 1 = S 1 := h1 1 (by omega)
    have e4 : S1 1 2 = S 1 2 := by rw [e1]
    refine cz_iload rfl rfl ?_
    refine cz_aload rfl rfl ?_
    refine cz_getB rfl rfl ?_
    refine cz_getP rfl rfl ?_
    refine cz_icge rfl (by omega) (by omega) (fun hb12 => ?_) (fun hb12 => ?_)
    rotate_left
    · exfalso; omega
    refine cz_iload rfl rfl ?_
    refine cz_retI rfl ?_
    exact cQI.mk ⟨rfl, h1, h2, h3, h4, by omega⟩
  | succ n ih =>
    intro i r S1 hi0 hi h1 h2 h3 h4 h5
    have e0 : S1 0 = S 0 := h1 0 (by omega)
    have e1 : S1 1 = S 1 := h1 1 (by omega)
    have e8 : vw S1 8 = vw S 8 := vw_eq fun a _ _ => h1 a (by omega)
    have e4 : S1 1 2 = S 1 2 := by rw [e1]
    have hWg : ∀ S2 : cS, (∀ a, ¬ a = 5 → S2 a = S a) → (∀ p, 0 ≤ p → p < 64 → 0 ≤ S2 5 p ∧ S2 5 p ≤ 2) → cWd S2 := by
      intro S2 f1 f2
      have f8 : vw S2 8 = vw S 8 := vw_eq fun a _ _ => f1 a (by omega)
      unfold cWd cPw cPb
      rw [f1 0 (by omega), f1 1 (by omega), f1 2 (by omega), f1 3 (by omega), f1 4 (by omega), f8]
      refine ⟨hw, fun p hp0 hp1 => ?_, hn, hs, hh, hp, hfo⟩
      have hq := hpb p hp0 hp1
      exact ⟨hq.1, hq.2.1, hq.2.2.1, f2 p hp0 hp1⟩
    have hW1 := hWg S1 h1 h2
    have hd1' := hW1.bd
    have hmb := cMeet_b (F := vw S1 8) (by rw [e8]; omega) i k
    rw [e8] at hmb
    have ho1 := cOs_b (vw S1 8) i (cOv k)
    have ho2 := cOs_b (vw S1 8) (cMeet (vw S1 8) i k) (cOv k)
    rw [e8] at ho2
    refine cz_iload rfl rfl ?_
    refine cz_aload rfl rfl ?_
    refine cz_getB rfl rfl ?_
    refine cz_getP rfl rfl ?_
    refine cz_icge rfl (by omega) (by omega) (fun hb12 => ?_) (fun hb12 => ?_)
    · exfalso; omega
    refine cz_aload rfl rfl ?_
    refine cz_iload rfl rfl ?_
    refine cz_iload rfl rfl ?_
    refine cz_cV3P rfl rfl rfl cIs0 (Nat.le_of_ble_eq_true rfl) (p_cellThatMeets hW1 (by omega) hk) ?_
    refine cz_st1 (l' := [(0, _), (1, _), (2, _), (3, _), (4, _)]) rfl rfl rfl ?_
    refine cz_aload rfl rfl ?_
    refine cz_iload rfl rfl ?_
    refine cz_iload rfl rfl ?_
    refine cz_iload rfl rfl ?_
    refine cz_cV4P rfl rfl rfl cIs0 (Nat.le_of_ble_eq_true rfl) (p_isBlot hW1 (by omega) (by rw [e8]; omega) hk) ?_
    refine cz_ifeq rfl (by exact bI_ran) (fun hb31 => ?_) (fun hb31 => ?_)
    · replace hb31 := bI_0 hb31
      refine cz_iinc (l' := [(0, _), (1, _), (2, _), (3, _), (4, _)]) rfl cc_1 rfl rfl ?_
      refine cz_goto rfl ?_
      refine cz_weak (fun i => i == 0 || i == 1 || i == 2 || i == 3) (l' := [(0, _), (1, _), (2, _), (3, _)]) rfl ?_
      first
      | exact ih (i + 1) _ _ (by omega) (by omega) g3 g4 (by rw [g5]; omega) (by omega) (by omega)
      | exact ih (i + 1) _ _ (by omega) (by omega) h1 h2 h3 h4 (by omega)
    · replace hb31 := bI_n0 hb31
      refine cz_aload rfl rfl ?_
      refine cz_getB rfl rfl ?_
      refine cz_aload rfl rfl ?_
      refine cz_iload rfl rfl ?_
      refine cz_iload rfl rfl ?_
      refine cz_cS1P rfl rfl rfl rfl (Nat.le_of_ble_eq_true rfl) (p_isOver hk) ?_
      refine cz_cV3P rfl rfl rfl cIs0 (Nat.le_of_ble_eq_true rfl) (p_outerSide hd1' (by omega) (cOv_or k)) ?_
      refine cz_cV2I rfl rfl rfl cIs1 (Nat.le_of_ble_eq_true rfl) (p_wet hW1.1 hW1.2.1 (by omega)) (fun r47 S47 t47 hq47 => ?_)
      obtain ⟨hr47, ht47, hS47⟩ := hq47
      subst ht47
      have hmN : ¬ cMeet (vw S1 8) i k = -1 := hb31.1
      have hxor := hb31.2
      rw [e8] at hmN
      have g1 : ∀ a, ¬ a = 5 → S47 a = S a := by
        intro a ha
        rw [hS47]
        split
        · rw [setS_o ha]; exact h1 a ha
        · exact h1 a ha
      have g2 : ∀ p, 0 ≤ p → p < 64 → 0 ≤ S47 5 p ∧ S47 5 p ≤ 2 := by
        intro p hp0 hp1
        have := h2 p hp0 hp1
        rw [hS47]
        split
        · rw [setS_at]; split <;> omega
        · exact this
      have hW2 := hWg S47 g1 g2
      have e8b : vw S47 8 = vw S1 8 := by rw [e8]; exact vw_eq fun a _ _ => g1 a (by omega)
      refine cz_pop rfl rfl ?_
      refine cz_aload rfl rfl ?_
      refine cz_getB rfl rfl ?_
      refine cz_aload rfl rfl ?_
      refine cz_iload rfl rfl ?_
      refine cz_iload rfl rfl ?_
      refine cz_cS1P rfl rfl rfl rfl (Nat.le_of_ble_eq_true rfl) (p_isOver hk) ?_
      refine cz_cV3P rfl rfl rfl cIs0 (Nat.le_of_ble_eq_true rfl) (p_outerSide (by rw [e8b]; exact hd1') (by rw [e8]; omega) (cOv_or k)) ?_
      refine cz_cV2I rfl rfl rfl cIs1 (Nat.le_of_ble_eq_true rfl) (p_wet hW2.1 hW2.2.1 (by rw [e8b, e8]; omega)) (fun r65 S65 t65 hq65 => ?_)
      obtain ⟨hr65, ht65, hS65⟩ := hq65
      subst ht65
      rw [e8b] at hS65
      have g3 : ∀ a, ¬ a = 5 → S65 a = S a := by
        intro a ha
        rw [hS65]
        split
        · rw [setS_o ha]; exact g1 a ha
        · exact g1 a ha
      have g4 : ∀ p, 0 ≤ p → p < 64 → 0 ≤ S65 5 p ∧ S65 5 p ≤ 2 := by
        intro p hp0 hp1
        have := g2 p hp0 hp1
        rw [hS65]
        split
        · rw [setS_at]; split <;> omega
        · exact this
      have e4b : S47 1 2 = S 1 2 := by rw [g1 1 (by omega)]
      have g5 : cWn S65 = cWn S1 + 1 := by
        rcases hxor with ⟨hx1, hx2⟩ | ⟨hx1, hx2⟩
        · rw [if_neg (fun h => h.2.2 hx1.2.2)] at hS47
          subst hS47
          have hdry : cDry S47 (cOs (vw S47 8) (cMeet (vw S47 8) i k) (cOv k)) := by
            refine ⟨by rw [e8]; omega, by rw [e8]; omega, fun h => hx2 ⟨by rw [e8]; omega, by rw [e8]; omega, h⟩⟩
          rw [if_pos hdry] at hS65
          rw [hS65]
          exact cWn_set hdry
        · have hdry : cDry S1 (cOs (vw S1 8) i (cOv k)) := ⟨by omega, by omega, fun h => hx1 ⟨by omega, by omega, h⟩⟩
          rw [if_pos hdry] at hS47
          have hne : ¬ cOs (vw S1 8) (cMeet (vw S1 8) i k) (cOv k) = cOs (vw S1 8) i (cOv k) := by
            intro h
            rw [h] at hx2
            exact hx1 hx2
          have hnd : ¬ cDry S47 (cOs (vw S1 8) (cMeet (vw S1 8) i k) (cOv k)) := by
            intro h
            have h6 := h.2.2
            rw [hS47, setS_i hne] at h6
            exact h6 hx2.2.2
          rw [if_neg hnd] at hS65
          rw [hS65, hS47]
          exact cWn_set hdry
      refine cz_pop rfl rfl ?_
      refine cz_iinc (l' := [(0, _), (1, _), (2, _), (3, _), (4, _)]) rfl cc_1 rfl rfl ?_
      refine cz_iinc (l' := [(0, _), (1, _), (2, _), (3, _), (4, _)]) rfl cc_1 rfl rfl ?_
      refine cz_goto rfl ?_
      refine cz_weak (fun i => i == 0 || i == 1 || i == 2 || i == 3) (l' := [(0, _), (1, _), (2, _), (3, _)]) rfl ?_
      first
      | exact ih (i + 1) _ _ (by omega) (by omega) g3 g4 (by rw [g5]; omega) (by omega) (by omega)
      | exact ih (i + 1) _ _ (by omega) (by omega) h1 h2 h3 h4 (by omega)
set_option maxRecDepth 20000 in
theorem p_spreadInk {xs : Nat → Int32} {Ls : Nat} {S : cS} {t : Nat} (hW : cWd S) {k : Int} (hk : 0 ≤ k ∧ k < 1000) : cZ xs Ls 5 69 0 [(0, .ref 0), (1, .int (cI k))] [] S t (cQI (fun r S' t' => t' = t ∧ (∀ a, ¬ a = 5 → S' a = S a) ∧ (∀ p, 0 ≤ p → p < 64 → 0 ≤ S' 5 p ∧ S' 5 p ≤ 2) ∧ cWn S' = cWn S + r ∧ 0 ≤ r ∧ r ≤ 32)) := by
  refine cz_icst rfl cc_0 ?_
  refine cz_st1 (l' := [(0, _), (1, _), (2, _)]) rfl rfl rfl ?_
  refine cz_icst rfl cc_0 ?_
  refine cz_st1 (l' := [(0, _), (1, _), (2, _), (3, _)]) rfl rfl rfl ?_
  exact p_spreadInk_loop hW hk (S 1 2).toNat 0 0 S (by omega) (by have := hW.1; omega) (fun _ _ => rfl) (fun p h0 h1 => (hW.2.1 p h0 h1).2.2.2) (by omega) (by omega) (by omega)
set_option maxRecDepth 20000 in
theorem p_holesAt_loop {xs : Nat → Int32} {Ls : Nat} {S : cS} {t : Nat} (hW : cWd S) {x y : Int} (hxR : -2147483648 ≤ x ∧ x < 2147483648) (hyR : -2147483648 ≤ y ∧ y < 2147483648) : ∀ (n : Nat) (i r : Int), 0 ≤ i → i + n = S 1 2 → r = csum (cHol S x y) i.toNat →
    cZ xs Ls 1 74 5 [(0, .ref 0), (1, .int (cI x)), (2, .int (cI y)), (3, .int (cI r)), (4, .int (cI i))] [] S t (cP (csum (cHol S x y) (S 1 2).toNat) S t) := by
  obtain ⟨hw, hpb, hn, hs, hh, hp, hfo⟩ := id hW
  have hd := hW.bd
  obtain ⟨hw1, hw2, hw3, hw4, hw5, hw6⟩ := id hw
  obtain ⟨hs1, hs2, hs3, hs4, hs5⟩ := id hs
  obtain ⟨hd1, hd2, hd3⟩ := id hd
  intro n
  induction n with
  | zero =>
    intro i r hi0 hi hr
    have e3 : i = S 1 2 := by omega
    subst e3
    refine cz_iload rfl rfl ?_
    refine cz_aload rfl rfl ?_
    refine cz_getB rfl rfl ?_
    refine cz_getP rfl rfl ?_
    refine cz_icge rfl (by omega) (by omega) (fun hb14 => ?_) (fun hb14 => ?_)
    rotate_left
    · exfalso; omega
    refine cz_iload rfl rfl ?_
    refine cz_retI rfl ?_
    exact cP.mk hr
  | succ n ih =>
    intro i r hi0 hi hr
    have hnn : (i + 1).toNat = i.toNat + 1 := by omega
    have hni : ((i.toNat : Nat) : Int) = i := by omega
    have hstep : csum (cHol S x y) (i + 1).toNat = r + if cLies (vw S 8) i x y then S 6 i else 0 := by
      rw [hnn, hr]
      show csum (cHol S x y) i.toNat + cHol S x y ((i.toNat : Nat) : Int) = _
      rw [hni]
      rfl
    refine cz_iload rfl rfl ?_
    refine cz_aload rfl rfl ?_
    refine cz_getB rfl rfl ?_
    refine cz_getP rfl rfl ?_
    refine cz_icge rfl (by omega) (by omega) (fun hb14 => ?_) (fun hb14 => ?_)
    · exfalso; omega
    refine cz_aload rfl rfl ?_
    refine cz_getB rfl rfl ?_
    refine cz_iload rfl rfl ?_
    refine cz_iload rfl rfl ?_
    refine cz_iload rfl rfl ?_
    refine cz_cV4P rfl rfl rfl (cIsF cFm8) (Nat.le_of_ble_eq_true rfl) (p_liesAt cFm8 hd (by omega) (by omega) (by omega)) ?_
    refine cz_ifeq rfl (by exact bI_ran) (fun hb28 => ?_) (fun hb28 => ?_)
    · replace hb28 := bI_0 hb28
      refine cz_iinc (l' := [(0, _), (1, _), (2, _), (3, _), (4, _)]) rfl cc_1 rfl rfl ?_
      refine cz_goto rfl ?_
      refine ih (i + 1) _ (by omega) (by omega) ?_
      rw [hstep]
      first
      | rw [if_pos hb28]
      | (rw [if_neg hb28]; omega)
    · replace hb28 := bI_n0 hb28
      refine cz_iload rfl rfl ?_
      refine cz_aload rfl rfl ?_
      refine cz_getB rfl rfl ?_
      refine cz_getP rfl rfl ?_
      refine cz_iload rfl rfl ?_
      refine cz_ialdA (a := 6) (n := 32) (by decide) rfl (by omega) rfl (by omega) ?_
      refine cz_iadd rfl ?_
      refine cz_st1 (l' := [(0, _), (1, _), (2, _), (3, _), (4, _)]) rfl rfl rfl ?_
      refine cz_iinc (l' := [(0, _), (1, _), (2, _), (3, _), (4, _)]) rfl cc_1 rfl rfl ?_
      refine cz_goto rfl ?_
      refine ih (i + 1) _ (by omega) (by omega) ?_
      rw [hstep]
      first
      | rw [if_pos hb28]
      | (rw [if_neg hb28]; omega)
set_option maxRecDepth 20000 in
theorem p_holesAt {xs : Nat → Int32} {Ls : Nat} {S : cS} {t : Nat} (hW : cWd S) {x y : Int} (hxR : -2147483648 ≤ x ∧ x < 2147483648) (hyR : -2147483648 ≤ y ∧ y < 2147483648) : cZ xs Ls 1 74 0 [(0, .ref 0), (1, .int (cI x)), (2, .int (cI y))] [] S t (cP (csum (cHol S x y) (S 1 2).toNat) S t) := by
  refine cz_icst rfl cc_0 ?_
  refine cz_st1 (l' := [(0, _), (1, _), (2, _), (3, _)]) rfl rfl rfl ?_
  refine cz_icst rfl cc_0 ?_
  refine cz_st1 (l' := [(0, _), (1, _), (2, _), (3, _), (4, _)]) rfl rfl rfl ?_
  exact p_holesAt_loop hW hxR hyR (S 1 2).toNat 0 0 (by omega) (by have := hW.1; omega) rfl
set_option maxRecDepth 20000 in
theorem p_gluedAt_loop {xs : Nat → Int32} {Ls : Nat} {S : cS} {t : Nat} (hW : cWd S) {x y : Int} (hxR : -2147483648 ≤ x ∧ x < 2147483648) (hyR : -2147483648 ≤ y ∧ y < 2147483648) : ∀ (n : Nat) (i r : Int), 1 ≤ i → i ≤ 64 → cHt (vw S 8) x y - i ≤ n → (i = 1 ∨ i ≤ cHt (vw S 8) x y) → r = csum (cGlu S x y) (i - 1).toNat → 0 ≤ r → r ≤ i →
    cZ xs Ls 2 75 5 [(0, .ref 0), (1, .int (cI x)), (2, .int (cI y)), (3, .int (cI r)), (4, .int (cI i))] [] S t (cP (csum (cGlu S x y) (cHt (vw S 8) x y - 1).toNat) S t) := by
  obtain ⟨hw, hpb, hn, hs, hh, hp, hfo⟩ := id hW
  have hd := hW.bd
  obtain ⟨hw1, hw2, hw3, hw4, hw5, hw6⟩ := id hw
  obtain ⟨hs1, hs2, hs3, hs4, hs5⟩ := id hs
  obtain ⟨hd1, hd2, hd3⟩ := id hd
  have hhb := cHt_b hs hh x y
  intro n
  induction n with
  | zero =>
    intro i r hi0 hi1 hi hm hr hr0 hr1
    refine cz_iload rfl rfl ?_
    refine cz_aload rfl rfl ?_
    refine cz_getB rfl rfl ?_
    refine cz_iload rfl rfl ?_
    refine cz_iload rfl rfl ?_
    refine cz_cV3P rfl rfl rfl (cIsF cFm8) (Nat.le_of_ble_eq_true rfl) (p_heightAt cFm8 hs hxR hyR) ?_
    refine cz_icge rfl (by omega) (by omega) (fun hb16 => ?_) (fun hb16 => ?_)
    rotate_left
    · exfalso; omega
    refine cz_iload rfl rfl ?_
    refine cz_retI rfl ?_
    have e3 : (i - 1).toNat = (cHt (vw S 8) x y - 1).toNat := by omega
    rw [e3] at hr
    exact cP.mk hr
  | succ n ih =>
    intro i r hi0 hi1 hi hm hr hr0 hr1
    have hnn : (i + 1 - 1).toNat = (i - 1).toNat + 1 := by omega
    have hni : (((i - 1).toNat : Nat) : Int) = i - 1 := by omega
    have hstep : csum (cGlu S x y) (i + 1 - 1).toNat = r + bI (cGl S (cAt (vw S 8) x y (i - 1)) (cAt (vw S 8) x y i)) := by
      rw [hnn, hr]
      show csum (cGlu S x y) (i - 1).toNat + cGlu S x y (((i - 1).toNat : Nat) : Int) = _
      rw [hni]
      unfold cGlu
      rw [Int.sub_add_cancel]
    have hc1 := cAt_b (F := vw S 8) (by omega) x y (i - 1)
    have hc2 := cAt_b (F := vw S 8) (by omega) x y i
    have hbo := (bI_or : bI (cGl S (cAt (vw S 8) x y (i - 1)) (cAt (vw S 8) x y i)) = 0 ∨ _)
    refine cz_iload rfl rfl ?_
    refine cz_aload rfl rfl ?_
    refine cz_getB rfl rfl ?_
    refine cz_iload rfl rfl ?_
    refine cz_iload rfl rfl ?_
    refine cz_cV3P rfl rfl rfl (cIsF cFm8) (Nat.le_of_ble_eq_true rfl) (p_heightAt cFm8 hs hxR hyR) ?_
    refine cz_icge rfl (by omega) (by omega) (fun hb16 => ?_) (fun hb16 => ?_)
    · skip
      refine cz_iload rfl rfl ?_
      refine cz_retI rfl ?_
      have e3 : (i - 1).toNat = (cHt (vw S 8) x y - 1).toNat := by omega
      rw [e3] at hr
      exact cP.mk hr
    · skip
      refine cz_aload rfl rfl ?_
      refine cz_getB rfl rfl ?_
      refine cz_aload rfl rfl ?_
      refine cz_getB rfl rfl ?_
      refine cz_iload rfl rfl ?_
      refine cz_iload rfl rfl ?_
      refine cz_iload rfl rfl ?_
      refine cz_icst rfl cc_1 ?_
      refine cz_isub rfl ?_
      refine cz_cV4P rfl rfl rfl (cIsF cFm8) (Nat.le_of_ble_eq_true rfl) (p_cellAt cFm8 hd hxR hyR (by omega)) ?_
      refine cz_aload rfl rfl ?_
      refine cz_getB rfl rfl ?_
      refine cz_iload rfl rfl ?_
      refine cz_iload rfl rfl ?_
      refine cz_iload rfl rfl ?_
      refine cz_cV4P rfl rfl rfl (cIsF cFm8) (Nat.le_of_ble_eq_true rfl) (p_cellAt cFm8 hd hxR hyR (by omega)) ?_
      refine cz_cV3P rfl rfl rfl cIs1 (Nat.le_of_ble_eq_true rfl) (p_areGlued hw (by omega) (by omega)) ?_
      refine cz_ifeq rfl (by exact bI_ran) (fun hb50 => ?_) (fun hb50 => ?_)
      · replace hb50 := bI_0 hb50
        refine cz_iinc (l' := [(0, _), (1, _), (2, _), (3, _), (4, _)]) rfl cc_1 rfl rfl ?_
        refine cz_goto rfl ?_
        refine ih (i + 1) _ (by omega) (by omega) (by omega) (by omega) ?_ (by omega) (by omega)
        rw [hstep]
        first
        | rw [bI_pos hb50]
        | (rw [bI_neg hb50]; omega)
      · replace hb50 := bI_n0 hb50
        refine cz_iinc (l' := [(0, _), (1, _), (2, _), (3, _), (4, _)]) rfl cc_1 rfl rfl ?_
        refine cz_iinc (l' := [(0, _), (1, _), (2, _), (3, _), (4, _)]) rfl cc_1 rfl rfl ?_
        refine cz_goto rfl ?_
        refine ih (i + 1) _ (by omega) (by omega) (by omega) (by omega) ?_ (by omega) (by omega)
        rw [hstep]
        first
        | rw [bI_pos hb50]
        | (rw [bI_neg hb50]; omega)
set_option maxRecDepth 20000 in
theorem p_gluedAt {xs : Nat → Int32} {Ls : Nat} {S : cS} {t : Nat} (hW : cWd S) {x y : Int} (hxR : -2147483648 ≤ x ∧ x < 2147483648) (hyR : -2147483648 ≤ y ∧ y < 2147483648) : cZ xs Ls 2 75 0 [(0, .ref 0), (1, .int (cI x)), (2, .int (cI y))] [] S t (cP (csum (cGlu S x y) (cHt (vw S 8) x y - 1).toNat) S t) := by
  obtain ⟨hw, hpb, hn, hs, hh, hp, hfo⟩ := id hW
  have hd := hW.bd
  obtain ⟨hw1, hw2, hw3, hw4, hw5, hw6⟩ := id hw
  obtain ⟨hs1, hs2, hs3, hs4, hs5⟩ := id hs
  obtain ⟨hd1, hd2, hd3⟩ := id hd
  have hhb := cHt_b hs hh x y
  refine cz_icst rfl cc_0 ?_
  refine cz_st1 (l' := [(0, _), (1, _), (2, _), (3, _)]) rfl rfl rfl ?_
  refine cz_icst rfl cc_1 ?_
  refine cz_st1 (l' := [(0, _), (1, _), (2, _), (3, _), (4, _)]) rfl rfl rfl ?_
  exact p_gluedAt_loop hW hxR hyR 40 1 0 (by omega) (by omega) (by omega) (by omega) rfl (by omega) (by omega)
set_option maxRecDepth 20000 in
theorem p_held_in {xs : Nat → Int32} {Ls : Nat} {S : cS} {t : Nat} (hW : cWd S) {b : Nat} (hb : cFm b) (hbb : cBd (vw S b)) (hbn : vw S b 0 0 = S 1 2) {k : Int} (hk : 0 ≤ k ∧ k < 1000) {a : Int} (ha : 0 ≤ a ∧ a < S 1 2) (k26 : cZ xs Ls 2 73 26 [(0, .ref 0), (1, .ref b), (2, .int (cI k)), (3, .int (cI (a + 1)))] [] S t (cQI (fun r S' t' => (r = 0 ∨ r = 1) ∧ S' = S ∧ t' = t))) : ∀ (n : Nat) (c : Int), 0 ≤ c → c + n = S 1 2 →
    cZ xs Ls 2 73 40 [(0, .ref 0), (1, .ref b), (2, .int (cI k)), (3, .int (cI a)), (4, .int (cI c))] [] S t (cQI (fun r S' t' => (r = 0 ∨ r = 1) ∧ S' = S ∧ t' = t)) := by
  obtain ⟨hw, hpb, hn, hs, hh, hp, hfo⟩ := id hW
  have hd := hW.bd
  obtain ⟨hw1, hw2, hw3, hw4, hw5, hw6⟩ := id hw
  obtain ⟨hs1, hs2, hs3, hs4, hs5⟩ := id hs
  obtain ⟨hd1, hd2, hd3⟩ := id hd
  intro n
  induction n with
  | zero =>
    intro c hc0 hc
    refine cz_iload rfl rfl ?_
    refine cz_aload rfl rfl ?_
    refine cz_getB rfl rfl ?_
    refine cz_getP rfl rfl ?_
    refine cz_icge rfl (by omega) (by omega) (fun hb49 => ?_) (fun hb49 => ?_)
    rotate_left
    · exfalso; omega
    refine cz_iinc (l' := [(0, _), (1, _), (2, _), (3, _), (4, _)]) rfl cc_1 rfl rfl ?_
    refine cz_goto rfl ?_
    refine cz_weak (fun i => i == 0 || i == 1 || i == 2 || i == 3) (l' := [(0, _), (1, _), (2, _), (3, _)]) rfl ?_
    exact k26
  | succ n ih =>
    intro c hc0 hc
    refine cz_iload rfl rfl ?_
    refine cz_aload rfl rfl ?_
    refine cz_getB rfl rfl ?_
    refine cz_getP rfl rfl ?_
    refine cz_icge rfl (by omega) (by omega) (fun hb49 => ?_) (fun hb49 => ?_)
    · exfalso; omega
    refine cz_aload rfl rfl ?_
    refine cz_getB rfl rfl ?_
    refine cz_iload rfl rfl ?_
    refine cz_iload rfl rfl ?_
    refine cz_cV3P rfl rfl rfl cIs1 (Nat.le_of_ble_eq_true rfl) (p_areGlued hw (by omega) (by omega)) ?_
    refine cz_ifeq rfl (by exact bI_ran) (fun hb62 => ?_) (fun hb62 => ?_)
    · replace hb62 := bI_0 hb62
      refine cz_iinc (l' := [(0, _), (1, _), (2, _), (3, _), (4, _)]) rfl cc_1 rfl rfl ?_
      refine cz_goto rfl ?_
      exact ih (c + 1) (by omega) (by omega)
    · replace hb62 := bI_n0 hb62
      refine cz_aload rfl rfl ?_
      refine cz_iload rfl rfl ?_
      refine cz_iload rfl rfl ?_
      refine cz_cV3P rfl rfl rfl (cIsF hb) (Nat.le_of_ble_eq_true rfl) (p_goes hb hbb (by omega) hk) ?_
      refine cz_ifeq rfl (by exact bI_ran) (fun hb71 => ?_) (fun hb71 => ?_)
      · replace hb71 := bI_0 hb71
        refine cz_iinc (l' := [(0, _), (1, _), (2, _), (3, _), (4, _)]) rfl cc_1 rfl rfl ?_
        refine cz_goto rfl ?_
        exact ih (c + 1) (by omega) (by omega)
      · replace hb71 := bI_n0 hb71
        refine cz_aload rfl rfl ?_
        refine cz_iload rfl rfl ?_
        refine cz_iload rfl rfl ?_
        refine cz_cV3P rfl rfl rfl (cIsF hb) (Nat.le_of_ble_eq_true rfl) (p_goes hb hbb (by omega) hk) ?_
        refine cz_ifne rfl (by exact bI_ran) (fun hb81 => ?_) (fun hb81 => ?_)
        · replace hb81 := bI_n0 hb81
          refine cz_iinc (l' := [(0, _), (1, _), (2, _), (3, _), (4, _)]) rfl cc_1 rfl rfl ?_
          refine cz_goto rfl ?_
          exact ih (c + 1) (by omega) (by omega)
        · replace hb81 := bI_nn hb81
          refine cz_icst rfl cc_1 ?_
          refine cz_retZ rfl (by omega) ?_
          exact cQI.mk ⟨Or.inr rfl, rfl, rfl⟩
set_option maxRecDepth 20000 in
theorem p_held_loop {xs : Nat → Int32} {Ls : Nat} {S : cS} {t : Nat} (hW : cWd S) {b : Nat} (hb : cFm b) (hbb : cBd (vw S b)) (hbn : vw S b 0 0 = S 1 2) {k : Int} (hk : 0 ≤ k ∧ k < 1000) : ∀ (n : Nat) (a : Int), 0 ≤ a → a + n = S 1 2 →
    cZ xs Ls 2 73 26 [(0, .ref 0), (1, .ref b), (2, .int (cI k)), (3, .int (cI a))] [] S t (cQI (fun r S' t' => (r = 0 ∨ r = 1) ∧ S' = S ∧ t' = t)) := by
  obtain ⟨hw, hpb, hn, hs, hh, hp, hfo⟩ := id hW
  have hd := hW.bd
  obtain ⟨hw1, hw2, hw3, hw4, hw5, hw6⟩ := id hw
  obtain ⟨hs1, hs2, hs3, hs4, hs5⟩ := id hs
  obtain ⟨hd1, hd2, hd3⟩ := id hd
  intro n
  induction n with
  | zero =>
    intro a ha0 ha
    refine cz_iload rfl rfl ?_
    refine cz_aload rfl rfl ?_
    refine cz_getB rfl rfl ?_
    refine cz_getP rfl rfl ?_
    refine cz_icge rfl (by omega) (by omega) (fun hb34 => ?_) (fun hb34 => ?_)
    rotate_left
    · exfalso; omega
    refine cz_icst rfl cc_0 ?_
    refine cz_retZ rfl (by omega) ?_
    exact cQI.mk ⟨Or.inl rfl, rfl, rfl⟩
  | succ n ih =>
    intro a ha0 ha
    refine cz_iload rfl rfl ?_
    refine cz_aload rfl rfl ?_
    refine cz_getB rfl rfl ?_
    refine cz_getP rfl rfl ?_
    refine cz_icge rfl (by omega) (by omega) (fun hb34 => ?_) (fun hb34 => ?_)
    · exfalso; omega
    refine cz_icst rfl cc_0 ?_
    refine cz_st1 (l' := [(0, _), (1, _), (2, _), (3, _), (4, _)]) rfl rfl rfl ?_
    exact p_held_in hW hb hbb hbn hk (by omega) (ih (a + 1) (by omega) (by omega)) (S 1 2).toNat 0 (by omega) (by omega)
set_option maxRecDepth 20000 in
theorem p_isHeldByGlue {xs : Nat → Int32} {Ls : Nat} {S : cS} {t : Nat} (hW : cWd S) (hf : 1 ≤ S 0 5) (hbb : cBd (vw S (22 + 6 * (S 0 5 - 1).toNat))) (hbn : vw S (22 + 6 * (S 0 5 - 1).toNat) 0 0 = S 1 2) (hk : 0 ≤ S 21 (S 0 5 - 1) ∧ S 21 (S 0 5 - 1) < 1000) : cZ xs Ls 2 73 0 [(0, .ref 0)] [] S t (cQI (fun r S' t' => (r = 0 ∨ r = 1) ∧ S' = S ∧ t' = t)) := by
  obtain ⟨hw, hpb, hn, hs, hh, hp, hfo⟩ := id hW
  have hd := hW.bd
  obtain ⟨hw1, hw2, hw3, hw4, hw5, hw6⟩ := id hw
  obtain ⟨hs1, hs2, hs3, hs4, hs5⟩ := id hs
  obtain ⟨hd1, hd2, hd3⟩ := id hd
  have hbp : cFm (22 + 6 * (S 0 5 - 1).toNat) := cFmQ (by omega)
  refine cz_aload rfl rfl ?_
  refine cz_getB rfl rfl ?_
  refine cz_aload rfl rfl ?_
  refine cz_getB rfl rfl ?_
  refine cz_icst rfl cc_1 ?_
  refine cz_isub rfl ?_
  refine cz_aaldQ rfl (by omega) ?_
  refine cz_st1 (l' := [(0, _), (1, _)]) rfl rfl rfl ?_
  refine cz_aload rfl rfl ?_
  refine cz_getB rfl rfl ?_
  refine cz_aload rfl rfl ?_
  refine cz_getB rfl rfl ?_
  refine cz_icst rfl cc_1 ?_
  refine cz_isub rfl ?_
  refine cz_ialdA (a := 21) (n := 8) (by decide) rfl (by omega) rfl (by omega) ?_
  refine cz_st1 (l' := [(0, _), (1, _), (2, _)]) rfl rfl rfl ?_
  refine cz_icst rfl cc_0 ?_
  refine cz_st1 (l' := [(0, _), (1, _), (2, _), (3, _)]) rfl rfl rfl ?_
  exact p_held_loop hW hbp hbb hbn hk (S 1 2).toNat 0 (by omega) (by omega)
