/-! A Form is turned, turned round, folded into another one -/
set_option maxRecDepth 20000 in
theorem p_turnOver_loop {xs : Nat → Int32} {Ls : Nat} {S : cS} {t : Nat} {b : Nat} (hb : cFm b) (hs : cSh (vw S b)) (h00 : 0 ≤ vw S b 0 0 ∧ vw S b 0 0 ≤ 32) (hp : cPos (vw S b)) (hh : cHb (vw S b)) : ∀ (k : Nat) (i : Int) (S1 : cS), 0 ≤ i → i + k = vw S b 0 0 → cFr b S S1 → vw S1 b 0 = vw S b 0 → vw S1 b 2 = vw S b 2 → vw S1 b 5 = vw S b 5 → (∀ j, i ≤ j → j < vw S b 0 0 → vw S1 b 1 j = vw S b 1 j ∧ vw S1 b 3 j = vw S b 3 j ∧ vw S1 b 4 j = vw S b 4 j) → (∀ j, 0 ≤ j → j < i → vw S1 b 1 j = vw S b 0 1 - 1 - vw S b 1 j ∧ vw S1 b 3 j = cLfa (vw S b) j ∧ vw S1 b 4 j = 1 - vw S b 4 j) →
    cZ xs Ls 3 5 2 [(0, .ref b), (1, .int (cI i))] [] S1 t (cQV (fun S' t' => t' = t ∧ cFr b S S' ∧ vw S' b 0 = vw S b 0 ∧ (∀ j, 0 ≤ j → j < vw S b 0 0 → vw S' b 1 j = vw S b 0 1 - 1 - vw S b 1 j ∧ vw S' b 2 j = vw S b 2 j ∧ vw S' b 3 j = cLfa (vw S b) j ∧ vw S' b 4 j = 1 - vw S b 4 j) ∧ cMeas (vw S' b))) := by
  intro k
  induction k with
  | zero =>
    intro i S1 hi0 hi h1 h2 h3 h4 h5 h6
    have e3 : i = vw S b 0 0 := by omega
    have e4 : vw S1 b 0 0 = vw S b 0 0 := by rw [h2]
    have hd1 : cBd (vw S1 b) := by
      refine ⟨by rw [h2]; exact h00.1, by rw [h2]; exact h00.2, fun j hj0 hj1 => ?_⟩
      rw [h2] at hj1
      have hq := hp j hj0 hj1
      have hl := cHt_b hs hh (vw S b 1 j) (vw S b 2 j)
      have hl2 : cLfa (vw S b) j = cHt (vw S b) (vw S b 1 j) (vw S b 2 j) - 1 - vw S b 3 j := rfl
      have hc1 := hs.2.1
      have hr1 := hs.2.2.2.1
      rw [h3]
      by_cases hji : j < i
      · obtain ⟨g1, g2, g3⟩ := h6 j hj0 hji
        rw [g1, g2, g3]
        omega
      · obtain ⟨g1, g2, g3⟩ := h5 j (by omega) hj1
        rw [g1, g2, g3]
        omega
    have hs1 : cSh (vw S1 b) := by unfold cSh; rw [h2]; exact hs
    have hh1 : cHb (vw S1 b) := by unfold cHb; rw [h4]; exact hh
    refine cz_iload rfl rfl ?_
    refine cz_aload rfl rfl ?_
    refine cz_getF hb rfl rfl ?_
    refine cz_icge rfl (by omega) (by omega) (fun hb7 => ?_) (fun hb7 => ?_)
    rotate_left
    · exfalso; omega
    refine cz_aload rfl rfl ?_
    refine cz_cV1V rfl rfl rfl (cIsF hb) (Nat.le_of_ble_eq_true rfl) (p_measurePiles hb hs1 hd1) (fun S67 t67 hq67 => ?_)
    obtain ⟨ht, hf, hm⟩ := hq67
    refine cz_ret0 rfl ?_
    have e0 : vw S67 b 0 = vw S1 b 0 := vw_c (hf _ (by omega))
    have e1 : vw S67 b 1 = vw S1 b 1 := vw_c (hf _ (by omega))
    have e2 : vw S67 b 2 = vw S1 b 2 := vw_c (hf _ (by omega))
    have e5 : vw S67 b 3 = vw S1 b 3 := vw_c (hf _ (by omega))
    have e6 : vw S67 b 4 = vw S1 b 4 := vw_c (hf _ (by omega))
    refine cQV.mk ⟨ht, fun a ha => ?_, ?_, ?_, hm⟩
    · rw [hf a (by omega)]; exact h1 a ha
    · rw [e0]; exact h2
    · rw [e1, e2, e5, e6]
      intro j hj0 hj1
      obtain ⟨g1, g2, g3⟩ := h6 j hj0 (by omega)
      exact ⟨g1, by rw [h3], g2, g3⟩
  | succ k ih =>
    intro i S1 hi0 hi h1 h2 h3 h4 h5 h6
    have e4 : vw S1 b 0 0 = vw S b 0 0 := by rw [h2]
    have hd1 : cBd (vw S1 b) := by
      refine ⟨by rw [h2]; exact h00.1, by rw [h2]; exact h00.2, fun j hj0 hj1 => ?_⟩
      rw [h2] at hj1
      have hq := hp j hj0 hj1
      have hl := cHt_b hs hh (vw S b 1 j) (vw S b 2 j)
      have hl2 : cLfa (vw S b) j = cHt (vw S b) (vw S b 1 j) (vw S b 2 j) - 1 - vw S b 3 j := rfl
      have hc1 := hs.2.1
      have hr1 := hs.2.2.2.1
      rw [h3]
      by_cases hji : j < i
      · obtain ⟨g1, g2, g3⟩ := h6 j hj0 hji
        rw [g1, g2, g3]
        omega
      · obtain ⟨g1, g2, g3⟩ := h5 j (by omega) hj1
        rw [g1, g2, g3]
        omega
    have hs1 : cSh (vw S1 b) := by unfold cSh; rw [h2]; exact hs
    have hh1 : cHb (vw S1 b) := by unfold cHb; rw [h4]; exact hh
    obtain ⟨o1, o2, o3⟩ := h5 i (by omega) (by omega)
    have hqi := hp i hi0 (by omega)
    have elf : cLfa (vw S1 b) i = cLfa (vw S b) i := cLfa_c h2 h4 o1 (by rw [h3]) o2
    have hu : vw (setS (setS S1 (b + 3) i (cLfa (vw S1 b) i)) (b + 1) i (vw S1 b 0 1 - 1 - vw S1 b 1 i)) b 4 i = vw S b 4 i := by rw [vw_n (by omega), vw_n (by omega)]; exact o3
    refine cz_iload rfl rfl ?_
    refine cz_aload rfl rfl ?_
    refine cz_getF hb rfl rfl ?_
    refine cz_icge rfl (by omega) (by omega) (fun hb7 => ?_) (fun hb7 => ?_)
    · exfalso; omega
    refine cz_aload rfl rfl ?_
    refine cz_getF hb rfl rfl ?_
    refine cz_iload rfl rfl ?_
    refine cz_aload rfl rfl ?_
    refine cz_iload rfl rfl ?_
    refine cz_cV2P rfl rfl rfl (cIsF hb) (Nat.le_of_ble_eq_true rfl) (p_lfa hb hs1 hd1 hh1 (by omega)) ?_
    refine cz_iastF (j := 3) hb (by decide) rfl (by omega) ?_
    refine cz_aload rfl rfl ?_
    refine cz_getF hb rfl rfl ?_
    refine cz_iload rfl rfl ?_
    skip
    refine cz_aload rfl rfl ?_
    refine cz_getF hb rfl rfl ?_
    refine cz_icst rfl cc_1 ?_
    refine cz_isub rfl ?_
    refine cz_aload rfl rfl ?_
    refine cz_getF hb rfl rfl ?_
    refine cz_iload rfl rfl ?_
    refine cz_ialdF (j := 1) hb (by decide) rfl (by omega) ?_
    refine cz_isub rfl ?_
    refine cz_iastF (j := 1) hb (by decide) rfl (by omega) ?_
    refine cz_aload rfl rfl ?_
    refine cz_getF hb rfl rfl ?_
    refine cz_iload rfl rfl ?_
    refine cz_aload rfl rfl ?_
    refine cz_getF hb rfl rfl ?_
    refine cz_iload rfl rfl ?_
    refine cz_baldF hb rfl (by omega) ?_
    refine cz_ifne rfl (by first | omega | (rw [vw_n (by omega), vw_n (by omega), o3]; omega)) (fun hb51 => ?_) (fun hb51 => ?_)
    · skip
      refine cz_icst rfl cc_0 ?_
      refine cz_bastF hb rfl (by omega) (by omega) ?_
      refine cz_iinc (l' := [(0, _), (1, _)]) rfl cc_1 rfl rfl ?_
      refine cz_goto rfl ?_
      refine ih (i + 1) _ (by omega) (by omega) ?_ ?_ ?_ ?_ ?_ ?_
      · exact ((h1.set (by omega)).set (by omega)).set (by omega)
      · rw [vw_n (by omega), vw_n (by omega), vw_n (by omega)]; exact h2
      · rw [vw_n (by omega), vw_n (by omega), vw_n (by omega)]; exact h3
      · rw [vw_n (by omega), vw_n (by omega), vw_n (by omega)]; exact h4
      · intro j hj0 hj1
        have hne : ¬ j = i := by omega
        rw [vw_n (j' := 1) (by omega), vw_e (by omega), if_neg hne, vw_n (j' := 1) (by omega), vw_n (j' := 3) (by omega), vw_n (j' := 3) (by omega), vw_e (by omega), if_neg hne, vw_e (by omega), if_neg hne, vw_n (j' := 4) (by omega), vw_n (j' := 4) (by omega)]
        exact h5 j (by omega) hj1
      · intro j hj0 hj1
        rw [vw_n (j' := 1) (by omega), vw_e (by omega), vw_n (j' := 1) (by omega), vw_n (j' := 3) (by omega), vw_n (j' := 3) (by omega), vw_e (by omega), vw_e (by omega), vw_n (j' := 4) (by omega), vw_n (j' := 4) (by omega)]
        by_cases he : j = i
        · subst he
          rw [if_pos rfl, if_pos rfl, if_pos rfl]
          rw [vw_n (by omega), vw_n (by omega), o3] at hb51
          refine ⟨?_, elf, by omega⟩
          rw [vw_n (j' := 0) (by omega), h2, o1]
        · rw [if_neg he, if_neg he, if_neg he]
          exact h6 j hj0 (by omega)
    · skip
      refine cz_icst rfl cc_1 ?_
      refine cz_goto rfl ?_
      refine cz_bastF hb rfl (by omega) (by omega) ?_
      refine cz_iinc (l' := [(0, _), (1, _)]) rfl cc_1 rfl rfl ?_
      refine cz_goto rfl ?_
      refine ih (i + 1) _ (by omega) (by omega) ?_ ?_ ?_ ?_ ?_ ?_
      · exact ((h1.set (by omega)).set (by omega)).set (by omega)
      · rw [vw_n (by omega), vw_n (by omega), vw_n (by omega)]; exact h2
      · rw [vw_n (by omega), vw_n (by omega), vw_n (by omega)]; exact h3
      · rw [vw_n (by omega), vw_n (by omega), vw_n (by omega)]; exact h4
      · intro j hj0 hj1
        have hne : ¬ j = i := by omega
        rw [vw_n (j' := 1) (by omega), vw_e (by omega), if_neg hne, vw_n (j' := 1) (by omega), vw_n (j' := 3) (by omega), vw_n (j' := 3) (by omega), vw_e (by omega), if_neg hne, vw_e (by omega), if_neg hne, vw_n (j' := 4) (by omega), vw_n (j' := 4) (by omega)]
        exact h5 j (by omega) hj1
      · intro j hj0 hj1
        rw [vw_n (j' := 1) (by omega), vw_e (by omega), vw_n (j' := 1) (by omega), vw_n (j' := 3) (by omega), vw_n (j' := 3) (by omega), vw_e (by omega), vw_e (by omega), vw_n (j' := 4) (by omega), vw_n (j' := 4) (by omega)]
        by_cases he : j = i
        · subst he
          rw [if_pos rfl, if_pos rfl, if_pos rfl]
          rw [vw_n (by omega), vw_n (by omega), o3] at hb51
          refine ⟨?_, elf, by omega⟩
          rw [vw_n (j' := 0) (by omega), h2, o1]
        · rw [if_neg he, if_neg he, if_neg he]
          exact h6 j hj0 (by omega)
set_option maxRecDepth 20000 in
theorem p_turnOver {xs : Nat → Int32} {Ls : Nat} {S : cS} {t : Nat} {b : Nat} (hb : cFm b) (hs : cSh (vw S b)) (h00 : 0 ≤ vw S b 0 0 ∧ vw S b 0 0 ≤ 32) (hp : cPos (vw S b)) (hh : cHb (vw S b)) : cZ xs Ls 3 5 0 [(0, .ref b)] [] S t (cQV (fun S' t' => t' = t ∧ cFr b S S' ∧ vw S' b 0 = vw S b 0 ∧ (∀ j, 0 ≤ j → j < vw S b 0 0 → vw S' b 1 j = vw S b 0 1 - 1 - vw S b 1 j ∧ vw S' b 2 j = vw S b 2 j ∧ vw S' b 3 j = cLfa (vw S b) j ∧ vw S' b 4 j = 1 - vw S b 4 j) ∧ cMeas (vw S' b))) := by
  refine cz_icst rfl cc_0 ?_
  refine cz_st1 (l' := [(0, _), (1, _)]) rfl rfl rfl ?_
  exact p_turnOver_loop hb hs h00 hp hh (vw S b 0 0).toNat 0 S (by omega) (by omega) (fun _ _ => rfl) rfl rfl rfl (fun _ _ _ => ⟨rfl, rfl, rfl⟩) (by intro j _ _; omega)
set_option maxRecDepth 20000 in
theorem p_turnRound_loop {xs : Nat → Int32} {Ls : Nat} {S : cS} {t : Nat} {b : Nat} (hb : cFm b) (hs : cSh (vw S b)) (h00 : 0 ≤ vw S b 0 0 ∧ vw S b 0 0 ≤ 32) (hp : cPos (vw S b)) : ∀ (k : Nat) (i : Int) (S1 : cS), 0 ≤ i → i + k = vw S b 0 0 → cFr b S S1 → vw S1 b 0 = vw S b 0 → vw S1 b 3 = vw S b 3 → vw S1 b 4 = vw S b 4 → (∀ j, i ≤ j → j < vw S b 0 0 → vw S1 b 1 j = vw S b 1 j ∧ vw S1 b 2 j = vw S b 2 j) → (∀ j, 0 ≤ j → j < i → vw S1 b 1 j = vw S b 0 1 - 1 - vw S b 1 j ∧ vw S1 b 2 j = vw S b 0 2 - 1 - vw S b 2 j) →
    cZ xs Ls 3 6 2 [(0, .ref b), (1, .int (cI i))] [] S1 t (cQV (fun S' t' => t' = t ∧ cFr b S S' ∧ vw S' b 0 = vw S b 0 ∧ (∀ j, 0 ≤ j → j < vw S b 0 0 → vw S' b 1 j = vw S b 0 1 - 1 - vw S b 1 j ∧ vw S' b 2 j = vw S b 0 2 - 1 - vw S b 2 j ∧ vw S' b 3 j = vw S b 3 j ∧ vw S' b 4 j = vw S b 4 j) ∧ cMeas (vw S' b))) := by
  intro k
  induction k with
  | zero =>
    intro i S1 hi0 hi h1 h2 h3 h4 h5 h6
    have e3 : i = vw S b 0 0 := by omega
    have e4 : vw S1 b 0 0 = vw S b 0 0 := by rw [h2]
    have hs1 : cSh (vw S1 b) := by unfold cSh; rw [h2]; exact hs
    have hd1 : cBd (vw S1 b) := by
      refine ⟨by rw [h2]; exact h00.1, by rw [h2]; exact h00.2, fun j hj0 hj1 => ?_⟩
      rw [h2] at hj1
      have hq := hp j hj0 hj1
      have hc1 := hs.2.1
      have hr1 := hs.2.2.2.1
      rw [h3, h4]
      obtain ⟨g1, g2⟩ := h6 j hj0 (by omega)
      rw [g1, g2]
      omega
    refine cz_iload rfl rfl ?_
    refine cz_aload rfl rfl ?_
    refine cz_getF hb rfl rfl ?_
    refine cz_icge rfl (by omega) (by omega) (fun hb7 => ?_) (fun hb7 => ?_)
    rotate_left
    · exfalso; omega
    refine cz_aload rfl rfl ?_
    refine cz_cV1V rfl rfl rfl (cIsF hb) (Nat.le_of_ble_eq_true rfl) (p_measurePiles hb hs1 hd1) (fun S55 t55 hq55 => ?_)
    obtain ⟨ht, hf, hm⟩ := hq55
    refine cz_ret0 rfl ?_
    have e0 : vw S55 b 0 = vw S1 b 0 := vw_c (hf _ (by omega))
    have e1 : vw S55 b 1 = vw S1 b 1 := vw_c (hf _ (by omega))
    have e2 : vw S55 b 2 = vw S1 b 2 := vw_c (hf _ (by omega))
    have e5 : vw S55 b 3 = vw S1 b 3 := vw_c (hf _ (by omega))
    have e6 : vw S55 b 4 = vw S1 b 4 := vw_c (hf _ (by omega))
    refine cQV.mk ⟨ht, fun a ha => ?_, ?_, ?_, hm⟩
    · rw [hf a (by omega)]; exact h1 a ha
    · rw [e0]; exact h2
    · rw [e1, e2, e5, e6]
      intro j hj0 hj1
      obtain ⟨g1, g2⟩ := h6 j hj0 (by omega)
      exact ⟨g1, g2, by rw [h3], by rw [h4]⟩
  | succ k ih =>
    intro i S1 hi0 hi h1 h2 h3 h4 h5 h6
    have e4 : vw S1 b 0 0 = vw S b 0 0 := by rw [h2]
    obtain ⟨o1, o2⟩ := h5 i (by omega) (by omega)
    refine cz_iload rfl rfl ?_
    refine cz_aload rfl rfl ?_
    refine cz_getF hb rfl rfl ?_
    refine cz_icge rfl (by omega) (by omega) (fun hb7 => ?_) (fun hb7 => ?_)
    · exfalso; omega
    refine cz_aload rfl rfl ?_
    refine cz_getF hb rfl rfl ?_
    refine cz_iload rfl rfl ?_
    refine cz_aload rfl rfl ?_
    refine cz_getF hb rfl rfl ?_
    refine cz_icst rfl cc_1 ?_
    refine cz_isub rfl ?_
    refine cz_aload rfl rfl ?_
    refine cz_getF hb rfl rfl ?_
    refine cz_iload rfl rfl ?_
    refine cz_ialdF (j := 1) hb (by decide) rfl (by omega) ?_
    refine cz_isub rfl ?_
    refine cz_iastF (j := 1) hb (by decide) rfl (by omega) ?_
    refine cz_aload rfl rfl ?_
    refine cz_getF hb rfl rfl ?_
    refine cz_iload rfl rfl ?_
    refine cz_aload rfl rfl ?_
    refine cz_getF hb rfl rfl ?_
    refine cz_icst rfl cc_1 ?_
    refine cz_isub rfl ?_
    refine cz_aload rfl rfl ?_
    refine cz_getF hb rfl rfl ?_
    refine cz_iload rfl rfl ?_
    refine cz_ialdF (j := 2) hb (by decide) rfl (by omega) ?_
    refine cz_isub rfl ?_
    refine cz_iastF (j := 2) hb (by decide) rfl (by omega) ?_
    refine cz_iinc (l' := [(0, _), (1, _)]) rfl cc_1 rfl rfl ?_
    refine cz_goto rfl ?_
    refine ih (i + 1) _ (by omega) (by omega) ?_ ?_ ?_ ?_ ?_ ?_
    · exact (h1.set (by omega)).set (by omega)
    · rw [vw_n (by omega), vw_n (by omega)]; exact h2
    · rw [vw_n (by omega), vw_n (by omega)]; exact h3
    · rw [vw_n (by omega), vw_n (by omega)]; exact h4
    · intro j hj0 hj1
      have hne : ¬ j = i := by omega
      rw [vw_n (j' := 1) (by omega), vw_e (by omega), if_neg hne, vw_e (by omega), if_neg hne, vw_n (j' := 2) (by omega)]
      exact h5 j (by omega) hj1
    · intro j hj0 hj1
      rw [vw_n (j' := 1) (by omega), vw_e (by omega), vw_e (by omega)]
      by_cases he : j = i
      · subst he
        rw [if_pos rfl, if_pos rfl, h2, o1]
        refine ⟨rfl, ?_⟩
        rw [vw_n (j' := 0) (by omega), vw_n (j' := 2) (by omega), h2, o2]
      · rw [if_neg he, if_neg he, vw_n (j' := 2) (by omega)]
        exact h6 j hj0 (by omega)
set_option maxRecDepth 20000 in
theorem p_turnRound {xs : Nat → Int32} {Ls : Nat} {S : cS} {t : Nat} {b : Nat} (hb : cFm b) (hs : cSh (vw S b)) (h00 : 0 ≤ vw S b 0 0 ∧ vw S b 0 0 ≤ 32) (hp : cPos (vw S b)) : cZ xs Ls 3 6 0 [(0, .ref b)] [] S t (cQV (fun S' t' => t' = t ∧ cFr b S S' ∧ vw S' b 0 = vw S b 0 ∧ (∀ j, 0 ≤ j → j < vw S b 0 0 → vw S' b 1 j = vw S b 0 1 - 1 - vw S b 1 j ∧ vw S' b 2 j = vw S b 0 2 - 1 - vw S b 2 j ∧ vw S' b 3 j = vw S b 3 j ∧ vw S' b 4 j = vw S b 4 j) ∧ cMeas (vw S' b))) := by
  refine cz_icst rfl cc_0 ?_
  refine cz_st1 (l' := [(0, _), (1, _)]) rfl rfl rfl ?_
  exact p_turnRound_loop hb hs h00 hp (vw S b 0 0).toNat 0 S (by omega) (by omega) (fun _ _ => rfl) rfl rfl rfl (fun _ _ _ => ⟨rfl, rfl⟩) (by intro j _ _; omega)
set_option maxRecDepth 20000 in
theorem p_becomeFolded_loop {xs : Nat → Int32} {Ls : Nat} {S : cS} {t : Nat} {b : Nat} (hb : cFm b) {b0 : Nat} (hb0 : cFm b0) (hdis : b + 6 ≤ b0 ∨ b0 + 6 ≤ b) {F : cS} (hs : cSh F) (hd : cBd F) (hh : cHb F) (hp : cPos F) {k : Int} (hk : 8 ≤ k ∧ k < 64) (hln : k / 8 < cTot F k) {a : Int} (ha : a = bI (k / 4 % 2 = 0)) : ∀ (n : Nat) (i : Int) (S1 : cS), 0 ≤ i → i + n = F 0 0 → cFr b S S1 → vw S1 b0 = F → vw S1 b 0 0 = F 0 0 → vw S1 b 0 1 = cNC F k → vw S1 b 0 2 = cNR F k → (∀ j, 0 ≤ j → j < i → vw S1 b 1 j = cNx F k j ∧ vw S1 b 2 j = cNy F k j ∧ vw S1 b 3 j = cLay F k j ∧ vw S1 b 4 j = cNu F k j) →
    cZ xs Ls 4 3 118 [(0, .ref b), (1, .ref b0), (2, .int (cI k)), (3, .int (cI a)), (6, .int (cI (cLst F k))), (8, .int (cI i))] [] S1 t (cQV (fun S' t' => t' = t ∧ cFr b S S' ∧ cFolded F k (vw S' b))) := by
  obtain ⟨hs1, hs2, hs3, hs4, hs5⟩ := id hs
  obtain ⟨hd1, hd2, hd3⟩ := id hd
  have hlb : -8 ≤ cLst F k ∧ cLst F k ≤ 8 := by unfold cLst cTot; repeat (first | omega | split)
  have htot : cTot F k ≤ 8 := by unfold cTot; split <;> omega
  have hnl : 1 ≤ cNlen F k ∧ cNlen F k ≤ cTot F k := by unfold cNlen; split <;> omega
  have hnsh : 1 ≤ cNC F k ∧ cNC F k ≤ 8 ∧ 1 ≤ cNR F k ∧ cNR F k ≤ 8 ∧ cNC F k * cNR F k ≤ 32 := by
    unfold cNC cNR cTot at *
    by_cases hax : k / 4 % 2 = 0
    · rw [if_pos hax] at hnl
      rw [if_pos hax, if_pos hax]
      have := Int.mul_le_mul_of_nonneg_right hnl.2 (by omega : 0 ≤ F 0 2)
      omega
    · rw [if_neg hax] at hnl
      rw [if_neg hax, if_neg hax]
      have := Int.mul_le_mul_of_nonneg_left hnl.2 (by omega : 0 ≤ F 0 1)
      omega
  intro n
  induction n with
  | zero =>
    intro i S1 hi0 hi h1 h2 h3 h4 h5 h6
    have hsh1 : cSh (vw S1 b) := by unfold cSh; rw [h4, h5]; exact hnsh
    have hbd1 : cBd (vw S1 b) := by
      refine ⟨by rw [h3]; omega, by rw [h3]; omega, fun j hj0 hj1 => ?_⟩
      rw [h3] at hj1
      have hq := hp j hj0 hj1
      obtain ⟨g1, g2, g3, g4⟩ := h6 j hj0 (by omega)
      have hm1 := cMc_b (F := F) (i := j) (c := k) (by omega) (by omega)
      have hm2 := cMr_b (F := F) (i := j) (c := k) (by omega) (by omega)
      have hm3 : -100 ≤ cMc F j k ∧ cMc F j k ≤ 100 := by unfold cMc; split <;> omega
      have hm4 : -100 ≤ cMr F j k ∧ cMr F j k ≤ 100 := by unfold cMr; split <;> omega
      have hl := cHt_b hs hh (F 1 j) (F 2 j)
      have hl3 := cHt_b hs hh (cMc F j k) (cMr F j k)
      have hl2 : cLfa F j = cHt F (F 1 j) (F 2 j) - 1 - F 3 j := rfl
      rw [g1, g2, g3, g4]
      refine ⟨?_, ?_, ?_, ?_⟩
      · unfold cNx; repeat (first | omega | split)
      · unfold cNy; repeat (first | omega | split)
      · unfold cLay; repeat (first | omega | split)
      · unfold cNu; repeat (first | omega | split)
    refine cz_iload rfl rfl ?_
    refine cz_aload rfl rfl ?_
    refine cz_getF hb rfl rfl ?_
    refine cz_icge rfl (by omega) (by omega) (fun hb124 => ?_) (fun hb124 => ?_)
    rotate_left
    · exfalso; omega
    refine cz_aload rfl rfl ?_
    refine cz_cV1V rfl rfl rfl (cIsF hb) (Nat.le_of_ble_eq_true rfl) (p_measurePiles hb hsh1 hbd1) (fun S271 t271 hq271 => ?_)
    obtain ⟨ht, hf, hm⟩ := hq271
    refine cz_ret0 rfl ?_
    have e0 : vw S271 b 0 = vw S1 b 0 := vw_c (hf _ (by omega))
    have e1 : vw S271 b 1 = vw S1 b 1 := vw_c (hf _ (by omega))
    have e2 : vw S271 b 2 = vw S1 b 2 := vw_c (hf _ (by omega))
    have e5 : vw S271 b 3 = vw S1 b 3 := vw_c (hf _ (by omega))
    have e6 : vw S271 b 4 = vw S1 b 4 := vw_c (hf _ (by omega))
    refine cQV.mk ⟨ht, fun a ha => ?_, by rw [e0, h3], by rw [e0, h4], by rw [e0, h5], ?_, hm⟩
    · rw [hf a (by omega)]; exact h1 a ha
    · rw [e1, e2, e5, e6]
      intro j hj0 hj1
      exact h6 j hj0 (by omega)
  | succ n ih =>
    intro i S1 hi0 hi h1 h2 h3 h4 h5 h6
    have hqF := hd3 i hi0 (by omega)
    have hq := hqF
    rw [← h2] at hq
    by_cases hg : cGoes F i k
    · by_cases hax : k / 4 % 2 = 0
      · rw [bI_pos hax] at ha
        refine cz_iload rfl rfl ?_
        refine cz_aload rfl rfl ?_
        refine cz_getF hb rfl rfl ?_
        refine cz_icge rfl (by omega) (by omega) (fun hb124 => ?_) (fun hb124 => ?_)
        · exfalso; omega
        refine cz_aload rfl rfl ?_
        refine cz_iload rfl rfl ?_
        refine cz_iload rfl rfl ?_
        refine cz_cV3P rfl rfl rfl (cIsF hb0) (Nat.le_of_ble_eq_true rfl) (p_goes hb0 (by rw [h2]; exact hd) (by rw [h2]; omega) (by omega)) ?_
        refine cz_st1 (l' := [(0, _), (1, _), (2, _), (3, _), (6, _), (8, _), (9, _)]) rfl rfl rfl ?_
        refine cz_iload rfl rfl ?_
        refine cz_ifeq rfl (by exact bI_ran) (fun hb138 => ?_) (fun hb138 => ?_)
        · replace hb138 := bI_0 hb138
          exfalso; rw [h2] at hb138; exact hb138 hg
        · replace hb138 := bI_n0 hb138
          refine cz_aload rfl rfl ?_
          refine cz_iload rfl rfl ?_
          refine cz_iload rfl rfl ?_
          refine cz_cV3P rfl rfl rfl (cIsF hb0) (Nat.le_of_ble_eq_true rfl) (p_mc hb0 (by rw [h2]; exact hd) (by rw [h2]; omega) (by omega)) ?_
          refine cz_goto rfl ?_
          refine cz_st1 (l' := [(0, _), (1, _), (2, _), (3, _), (6, _), (8, _), (9, _), (10, _)]) rfl rfl rfl ?_
          refine cz_iload rfl rfl ?_
          refine cz_ifeq rfl (by exact bI_ran) (fun hb162 => ?_) (fun hb162 => ?_)
          · replace hb162 := bI_0 hb162
            exfalso; rw [h2] at hb162; exact hb162 hg
          · replace hb162 := bI_n0 hb162
            refine cz_aload rfl rfl ?_
            refine cz_iload rfl rfl ?_
            refine cz_iload rfl rfl ?_
            refine cz_cV3P rfl rfl rfl (cIsF hb0) (Nat.le_of_ble_eq_true rfl) (p_mr hb0 (by rw [h2]; exact hd) (by rw [h2]; omega) (by omega)) ?_
            refine cz_goto rfl ?_
            refine cz_st1 (l' := [(0, _), (1, _), (2, _), (3, _), (6, _), (8, _), (9, _), (10, _), (11, _)]) rfl rfl rfl ?_
            refine cz_aload rfl rfl ?_
            refine cz_getF hb rfl rfl ?_
            refine cz_iload rfl rfl ?_
            refine cz_iload rfl rfl ?_
            refine cz_ifeq rfl (by omega) (fun hb191 => ?_) (fun hb191 => ?_)
            · exfalso; omega
            refine cz_iload rfl rfl ?_
            refine cz_iload rfl rfl ?_
            refine cz_isub rfl ?_
            refine cz_goto rfl ?_
            refine cz_iastF (j := 1) hb (by decide) rfl (by omega) ?_
            refine cz_aload rfl rfl ?_
            refine cz_getF hb rfl rfl ?_
            refine cz_iload rfl rfl ?_
            refine cz_iload rfl rfl ?_
            refine cz_ifeq rfl (by omega) (fun hb212 => ?_) (fun hb212 => ?_)
            · exfalso; omega
            refine cz_iload rfl rfl ?_
            refine cz_goto rfl ?_
            refine cz_iastF (j := 2) hb (by decide) rfl (by omega) ?_
            refine cz_aload rfl rfl ?_
            refine cz_getF hb rfl rfl ?_
            refine cz_iload rfl rfl ?_
            refine cz_aload rfl rfl ?_
            refine cz_iload rfl rfl ?_
            refine cz_iload rfl rfl ?_
            refine cz_cV3P rfl rfl rfl (cIsF hb0) (Nat.le_of_ble_eq_true rfl) (p_layerBehind hb0 (by rw [vw_o (by omega), vw_o (by omega), h2]; exact hs) (by rw [vw_o (by omega), vw_o (by omega), h2]; exact hd) (by rw [vw_o (by omega), vw_o (by omega), h2]; exact hh) (by rw [vw_o (by omega), vw_o (by omega), h2]; omega) (by omega)) ?_
            refine cz_iastF (j := 3) hb (by decide) rfl (by omega) ?_
            refine cz_aload rfl rfl ?_
            refine cz_getF hb rfl rfl ?_
            refine cz_iload rfl rfl ?_
            refine cz_aload rfl rfl ?_
            refine cz_getF hb0 rfl rfl ?_
            refine cz_iload rfl rfl ?_
            refine cz_baldF hb0 rfl (by omega) ?_
            refine cz_iload rfl rfl ?_
            refine cz_iceq rfl (by first | omega | exact bI_ran | (rw [vw_o (by omega), vw_o (by omega), vw_o (by omega), h2]; omega)) (by exact bI_ran) (fun hb255 => ?_) (fun hb255 => ?_)
            · skip
              refine cz_icst rfl cc_0 ?_
              refine cz_bastF hb rfl (by omega) (by omega) ?_
              refine cz_iinc (l' := [(0, _), (1, _), (2, _), (3, _), (6, _), (8, _), (9, _), (10, _), (11, _)]) rfl cc_1 rfl rfl ?_
              refine cz_goto rfl ?_
              refine cz_weak (fun i => i == 0 || i == 1 || i == 2 || i == 3 || i == 6 || i == 8) (l' := [(0, _), (1, _), (2, _), (3, _), (6, _), (8, _)]) rfl ?_
              refine ih (i + 1) _ (by omega) (by omega) ?_ ?_ ?_ ?_ ?_ ?_
              · exact (((h1.set (by omega)).set (by omega)).set (by omega)).set (by omega)
              · rw [vw_o (by omega), vw_o (by omega), vw_o (by omega), vw_o (by omega)]; exact h2
              · rw [vw_n (by omega), vw_n (by omega), vw_n (by omega), vw_n (by omega)]; exact h3
              · rw [vw_n (by omega), vw_n (by omega), vw_n (by omega), vw_n (by omega)]; exact h4
              · rw [vw_n (by omega), vw_n (by omega), vw_n (by omega), vw_n (by omega)]; exact h5
              · intro j hj0 hj1
                rw [vw_n (j' := 1) (by omega), vw_n (j' := 1) (by omega), vw_n (j' := 1) (by omega), vw_e (by omega), vw_n (j' := 2) (by omega), vw_n (j' := 2) (by omega), vw_e (by omega), vw_n (j' := 2) (by omega), vw_n (j' := 3) (by omega), vw_e (by omega), vw_n (j' := 3) (by omega), vw_n (j' := 3) (by omega), vw_e (by omega), vw_n (j' := 4) (by omega), vw_n (j' := 4) (by omega), vw_n (j' := 4) (by omega)]
                by_cases he : j = i
                · subst he
                  rw [if_pos rfl, if_pos rfl, if_pos rfl, if_pos rfl]
                  rw [vw_o (b := b0) (by omega), vw_o (b := b0) (by omega), vw_o (b := b0) (by omega), h2, bI_pos hg] at hb255
                  have hbs : vw (setS (setS S1 (b + 1) j (cMc (vw S1 b0) j k - cLst F k)) (b + 2) j (cMr (vw S1 b0) j k)) b0 = F := by rw [vw_o (by omega), vw_o (by omega), h2]
                  refine ⟨?_, ?_, ?_, ?_⟩
                  · unfold cNx; (rw [if_pos hg, if_pos hax, h2]) <;> omega
                  · unfold cNy; (rw [if_pos hg, if_pos hax, h2]) <;> omega
                  · rw [hbs]
                  · unfold cNu; rw [if_pos hg]; omega
                · rw [if_neg he, if_neg he, if_neg he, if_neg he]
                  exact h6 j hj0 (by omega)
            · skip
              refine cz_icst rfl cc_1 ?_
              refine cz_goto rfl ?_
              refine cz_bastF hb rfl (by omega) (by omega) ?_
              refine cz_iinc (l' := [(0, _), (1, _), (2, _), (3, _), (6, _), (8, _), (9, _), (10, _), (11, _)]) rfl cc_1 rfl rfl ?_
              refine cz_goto rfl ?_
              refine cz_weak (fun i => i == 0 || i == 1 || i == 2 || i == 3 || i == 6 || i == 8) (l' := [(0, _), (1, _), (2, _), (3, _), (6, _), (8, _)]) rfl ?_
              refine ih (i + 1) _ (by omega) (by omega) ?_ ?_ ?_ ?_ ?_ ?_
              · exact (((h1.set (by omega)).set (by omega)).set (by omega)).set (by omega)
              · rw [vw_o (by omega), vw_o (by omega), vw_o (by omega), vw_o (by omega)]; exact h2
              · rw [vw_n (by omega), vw_n (by omega), vw_n (by omega), vw_n (by omega)]; exact h3
              · rw [vw_n (by omega), vw_n (by omega), vw_n (by omega), vw_n (by omega)]; exact h4
              · rw [vw_n (by omega), vw_n (by omega), vw_n (by omega), vw_n (by omega)]; exact h5
              · intro j hj0 hj1
                rw [vw_n (j' := 1) (by omega), vw_n (j' := 1) (by omega), vw_n (j' := 1) (by omega), vw_e (by omega), vw_n (j' := 2) (by omega), vw_n (j' := 2) (by omega), vw_e (by omega), vw_n (j' := 2) (by omega), vw_n (j' := 3) (by omega), vw_e (by omega), vw_n (j' := 3) (by omega), vw_n (j' := 3) (by omega), vw_e (by omega), vw_n (j' := 4) (by omega), vw_n (j' := 4) (by omega), vw_n (j' := 4) (by omega)]
                by_cases he : j = i
                · subst he
                  rw [if_pos rfl, if_pos rfl, if_pos rfl, if_pos rfl]
                  rw [vw_o (b := b0) (by omega), vw_o (b := b0) (by omega), vw_o (b := b0) (by omega), h2, bI_pos hg] at hb255
                  have hbs : vw (setS (setS S1 (b + 1) j (cMc (vw S1 b0) j k - cLst F k)) (b + 2) j (cMr (vw S1 b0) j k)) b0 = F := by rw [vw_o (by omega), vw_o (by omega), h2]
                  refine ⟨?_, ?_, ?_, ?_⟩
                  · unfold cNx; (rw [if_pos hg, if_pos hax, h2]) <;> omega
                  · unfold cNy; (rw [if_pos hg, if_pos hax, h2]) <;> omega
                  · rw [hbs]
                  · unfold cNu; rw [if_pos hg]; omega
                · rw [if_neg he, if_neg he, if_neg he, if_neg he]
                  exact h6 j hj0 (by omega)
      · rw [bI_neg hax] at ha
        refine cz_iload rfl rfl ?_
        refine cz_aload rfl rfl ?_
        refine cz_getF hb rfl rfl ?_
        refine cz_icge rfl (by omega) (by omega) (fun hb124 => ?_) (fun hb124 => ?_)
        · exfalso; omega
        refine cz_aload rfl rfl ?_
        refine cz_iload rfl rfl ?_
        refine cz_iload rfl rfl ?_
        refine cz_cV3P rfl rfl rfl (cIsF hb0) (Nat.le_of_ble_eq_true rfl) (p_goes hb0 (by rw [h2]; exact hd) (by rw [h2]; omega) (by omega)) ?_
        refine cz_st1 (l' := [(0, _), (1, _), (2, _), (3, _), (6, _), (8, _), (9, _)]) rfl rfl rfl ?_
        refine cz_iload rfl rfl ?_
        refine cz_ifeq rfl (by exact bI_ran) (fun hb138 => ?_) (fun hb138 => ?_)
        · replace hb138 := bI_0 hb138
          exfalso; rw [h2] at hb138; exact hb138 hg
        · replace hb138 := bI_n0 hb138
          refine cz_aload rfl rfl ?_
          refine cz_iload rfl rfl ?_
          refine cz_iload rfl rfl ?_
          refine cz_cV3P rfl rfl rfl (cIsF hb0) (Nat.le_of_ble_eq_true rfl) (p_mc hb0 (by rw [h2]; exact hd) (by rw [h2]; omega) (by omega)) ?_
          refine cz_goto rfl ?_
          refine cz_st1 (l' := [(0, _), (1, _), (2, _), (3, _), (6, _), (8, _), (9, _), (10, _)]) rfl rfl rfl ?_
          refine cz_iload rfl rfl ?_
          refine cz_ifeq rfl (by exact bI_ran) (fun hb162 => ?_) (fun hb162 => ?_)
          · replace hb162 := bI_0 hb162
            exfalso; rw [h2] at hb162; exact hb162 hg
          · replace hb162 := bI_n0 hb162
            refine cz_aload rfl rfl ?_
            refine cz_iload rfl rfl ?_
            refine cz_iload rfl rfl ?_
            refine cz_cV3P rfl rfl rfl (cIsF hb0) (Nat.le_of_ble_eq_true rfl) (p_mr hb0 (by rw [h2]; exact hd) (by rw [h2]; omega) (by omega)) ?_
            refine cz_goto rfl ?_
            refine cz_st1 (l' := [(0, _), (1, _), (2, _), (3, _), (6, _), (8, _), (9, _), (10, _), (11, _)]) rfl rfl rfl ?_
            refine cz_aload rfl rfl ?_
            refine cz_getF hb rfl rfl ?_
            refine cz_iload rfl rfl ?_
            refine cz_iload rfl rfl ?_
            refine cz_ifeq rfl (by omega) (fun hb191 => ?_) (fun hb191 => ?_)
            rotate_left
            · exfalso; omega
            refine cz_iload rfl rfl ?_
            refine cz_iastF (j := 1) hb (by decide) rfl (by omega) ?_
            refine cz_aload rfl rfl ?_
            refine cz_getF hb rfl rfl ?_
            refine cz_iload rfl rfl ?_
            refine cz_iload rfl rfl ?_
            refine cz_ifeq rfl (by omega) (fun hb212 => ?_) (fun hb212 => ?_)
            rotate_left
            · exfalso; omega
            refine cz_iload rfl rfl ?_
            refine cz_iload rfl rfl ?_
            refine cz_isub rfl ?_
            refine cz_iastF (j := 2) hb (by decide) rfl (by omega) ?_
            refine cz_aload rfl rfl ?_
            refine cz_getF hb rfl rfl ?_
            refine cz_iload rfl rfl ?_
            refine cz_aload rfl rfl ?_
            refine cz_iload rfl rfl ?_
            refine cz_iload rfl rfl ?_
            refine cz_cV3P rfl rfl rfl (cIsF hb0) (Nat.le_of_ble_eq_true rfl) (p_layerBehind hb0 (by rw [vw_o (by omega), vw_o (by omega), h2]; exact hs) (by rw [vw_o (by omega), vw_o (by omega), h2]; exact hd) (by rw [vw_o (by omega), vw_o (by omega), h2]; exact hh) (by rw [vw_o (by omega), vw_o (by omega), h2]; omega) (by omega)) ?_
            refine cz_iastF (j := 3) hb (by decide) rfl (by omega) ?_
            refine cz_aload rfl rfl ?_
            refine cz_getF hb rfl rfl ?_
            refine cz_iload rfl rfl ?_
            refine cz_aload rfl rfl ?_
            refine cz_getF hb0 rfl rfl ?_
            refine cz_iload rfl rfl ?_
            refine cz_baldF hb0 rfl (by omega) ?_
            refine cz_iload rfl rfl ?_
            refine cz_iceq rfl (by first | omega | exact bI_ran | (rw [vw_o (by omega), vw_o (by omega), vw_o (by omega), h2]; omega)) (by exact bI_ran) (fun hb255 => ?_) (fun hb255 => ?_)
            · skip
              refine cz_icst rfl cc_0 ?_
              refine cz_bastF hb rfl (by omega) (by omega) ?_
              refine cz_iinc (l' := [(0, _), (1, _), (2, _), (3, _), (6, _), (8, _), (9, _), (10, _), (11, _)]) rfl cc_1 rfl rfl ?_
              refine cz_goto rfl ?_
              refine cz_weak (fun i => i == 0 || i == 1 || i == 2 || i == 3 || i == 6 || i == 8) (l' := [(0, _), (1, _), (2, _), (3, _), (6, _), (8, _)]) rfl ?_
              refine ih (i + 1) _ (by omega) (by omega) ?_ ?_ ?_ ?_ ?_ ?_
              · exact (((h1.set (by omega)).set (by omega)).set (by omega)).set (by omega)
              · rw [vw_o (by omega), vw_o (by omega), vw_o (by omega), vw_o (by omega)]; exact h2
              · rw [vw_n (by omega), vw_n (by omega), vw_n (by omega), vw_n (by omega)]; exact h3
              · rw [vw_n (by omega), vw_n (by omega), vw_n (by omega), vw_n (by omega)]; exact h4
              · rw [vw_n (by omega), vw_n (by omega), vw_n (by omega), vw_n (by omega)]; exact h5
              · intro j hj0 hj1
                rw [vw_n (j' := 1) (by omega), vw_n (j' := 1) (by omega), vw_n (j' := 1) (by omega), vw_e (by omega), vw_n (j' := 2) (by omega), vw_n (j' := 2) (by omega), vw_e (by omega), vw_n (j' := 2) (by omega), vw_n (j' := 3) (by omega), vw_e (by omega), vw_n (j' := 3) (by omega), vw_n (j' := 3) (by omega), vw_e (by omega), vw_n (j' := 4) (by omega), vw_n (j' := 4) (by omega), vw_n (j' := 4) (by omega)]
                by_cases he : j = i
                · subst he
                  rw [if_pos rfl, if_pos rfl, if_pos rfl, if_pos rfl]
                  rw [vw_o (b := b0) (by omega), vw_o (b := b0) (by omega), vw_o (b := b0) (by omega), h2, bI_pos hg] at hb255
                  have hbs : vw (setS (setS S1 (b + 1) j (cMc (vw S1 b0) j k)) (b + 2) j (cMr (vw S1 b0) j k - cLst F k)) b0 = F := by rw [vw_o (by omega), vw_o (by omega), h2]
                  refine ⟨?_, ?_, ?_, ?_⟩
                  · unfold cNx; (rw [if_pos hg, if_neg hax, h2]) <;> omega
                  · unfold cNy; (rw [if_pos hg, if_neg hax, h2]) <;> omega
                  · rw [hbs]
                  · unfold cNu; rw [if_pos hg]; omega
                · rw [if_neg he, if_neg he, if_neg he, if_neg he]
                  exact h6 j hj0 (by omega)
            · skip
              refine cz_icst rfl cc_1 ?_
              refine cz_goto rfl ?_
              refine cz_bastF hb rfl (by omega) (by omega) ?_
              refine cz_iinc (l' := [(0, _), (1, _), (2, _), (3, _), (6, _), (8, _), (9, _), (10, _), (11, _)]) rfl cc_1 rfl rfl ?_
              refine cz_goto rfl ?_
              refine cz_weak (fun i => i == 0 || i == 1 || i == 2 || i == 3 || i == 6 || i == 8) (l' := [(0, _), (1, _), (2, _), (3, _), (6, _), (8, _)]) rfl ?_
              refine ih (i + 1) _ (by omega) (by omega) ?_ ?_ ?_ ?_ ?_ ?_
              · exact (((h1.set (by omega)).set (by omega)).set (by omega)).set (by omega)
              · rw [vw_o (by omega), vw_o (by omega), vw_o (by omega), vw_o (by omega)]; exact h2
              · rw [vw_n (by omega), vw_n (by omega), vw_n (by omega), vw_n (by omega)]; exact h3
              · rw [vw_n (by omega), vw_n (by omega), vw_n (by omega), vw_n (by omega)]; exact h4
              · rw [vw_n (by omega), vw_n (by omega), vw_n (by omega), vw_n (by omega)]; exact h5
              · intro j hj0 hj1
                rw [vw_n (j' := 1) (by omega), vw_n (j' := 1) (by omega), vw_n (j' := 1) (by omega), vw_e (by omega), vw_n (j' := 2) (by omega), vw_n (j' := 2) (by omega), vw_e (by omega), vw_n (j' := 2) (by omega), vw_n (j' := 3) (by omega), vw_e (by omega), vw_n (j' := 3) (by omega), vw_n (j' := 3) (by omega), vw_e (by omega), vw_n (j' := 4) (by omega), vw_n (j' := 4) (by omega), vw_n (j' := 4) (by omega)]
                by_cases he : j = i
                · subst he
                  rw [if_pos rfl, if_pos rfl, if_pos rfl, if_pos rfl]
                  rw [vw_o (b := b0) (by omega), vw_o (b := b0) (by omega), vw_o (b := b0) (by omega), h2, bI_pos hg] at hb255
                  have hbs : vw (setS (setS S1 (b + 1) j (cMc (vw S1 b0) j k)) (b + 2) j (cMr (vw S1 b0) j k - cLst F k)) b0 = F := by rw [vw_o (by omega), vw_o (by omega), h2]
                  refine ⟨?_, ?_, ?_, ?_⟩
                  · unfold cNx; (rw [if_pos hg, if_neg hax, h2]) <;> omega
                  · unfold cNy; (rw [if_pos hg, if_neg hax, h2]) <;> omega
                  · rw [hbs]
                  · unfold cNu; rw [if_pos hg]; omega
                · rw [if_neg he, if_neg he, if_neg he, if_neg he]
                  exact h6 j hj0 (by omega)
    · by_cases hax : k / 4 % 2 = 0
      · rw [bI_pos hax] at ha
        refine cz_iload rfl rfl ?_
        refine cz_aload rfl rfl ?_
        refine cz_getF hb rfl rfl ?_
        refine cz_icge rfl (by omega) (by omega) (fun hb124 => ?_) (fun hb124 => ?_)
        · exfalso; omega
        refine cz_aload rfl rfl ?_
        refine cz_iload rfl rfl ?_
        refine cz_iload rfl rfl ?_
        refine cz_cV3P rfl rfl rfl (cIsF hb0) (Nat.le_of_ble_eq_true rfl) (p_goes hb0 (by rw [h2]; exact hd) (by rw [h2]; omega) (by omega)) ?_
        refine cz_st1 (l' := [(0, _), (1, _), (2, _), (3, _), (6, _), (8, _), (9, _)]) rfl rfl rfl ?_
        refine cz_iload rfl rfl ?_
        refine cz_ifeq rfl (by exact bI_ran) (fun hb138 => ?_) (fun hb138 => ?_)
        · replace hb138 := bI_0 hb138
          refine cz_aload rfl rfl ?_
          refine cz_getF hb0 rfl rfl ?_
          refine cz_iload rfl rfl ?_
          refine cz_ialdF (j := 1) hb0 (by decide) rfl (by omega) ?_
          refine cz_st1 (l' := [(0, _), (1, _), (2, _), (3, _), (6, _), (8, _), (9, _), (10, _)]) rfl rfl rfl ?_
          refine cz_iload rfl rfl ?_
          refine cz_ifeq rfl (by exact bI_ran) (fun hb162 => ?_) (fun hb162 => ?_)
          · replace hb162 := bI_0 hb162
            refine cz_aload rfl rfl ?_
            refine cz_getF hb0 rfl rfl ?_
            refine cz_iload rfl rfl ?_
            refine cz_ialdF (j := 2) hb0 (by decide) rfl (by omega) ?_
            refine cz_st1 (l' := [(0, _), (1, _), (2, _), (3, _), (6, _), (8, _), (9, _), (10, _), (11, _)]) rfl rfl rfl ?_
            refine cz_aload rfl rfl ?_
            refine cz_getF hb rfl rfl ?_
            refine cz_iload rfl rfl ?_
            refine cz_iload rfl rfl ?_
            refine cz_ifeq rfl (by omega) (fun hb191 => ?_) (fun hb191 => ?_)
            · exfalso; omega
            refine cz_iload rfl rfl ?_
            refine cz_iload rfl rfl ?_
            refine cz_isub rfl ?_
            refine cz_goto rfl ?_
            refine cz_iastF (j := 1) hb (by decide) rfl (by omega) ?_
            refine cz_aload rfl rfl ?_
            refine cz_getF hb rfl rfl ?_
            refine cz_iload rfl rfl ?_
            refine cz_iload rfl rfl ?_
            refine cz_ifeq rfl (by omega) (fun hb212 => ?_) (fun hb212 => ?_)
            · exfalso; omega
            refine cz_iload rfl rfl ?_
            refine cz_goto rfl ?_
            refine cz_iastF (j := 2) hb (by decide) rfl (by omega) ?_
            refine cz_aload rfl rfl ?_
            refine cz_getF hb rfl rfl ?_
            refine cz_iload rfl rfl ?_
            refine cz_aload rfl rfl ?_
            refine cz_iload rfl rfl ?_
            refine cz_iload rfl rfl ?_
            refine cz_cV3P rfl rfl rfl (cIsF hb0) (Nat.le_of_ble_eq_true rfl) (p_layerBehind hb0 (by rw [vw_o (by omega), vw_o (by omega), h2]; exact hs) (by rw [vw_o (by omega), vw_o (by omega), h2]; exact hd) (by rw [vw_o (by omega), vw_o (by omega), h2]; exact hh) (by rw [vw_o (by omega), vw_o (by omega), h2]; omega) (by omega)) ?_
            refine cz_iastF (j := 3) hb (by decide) rfl (by omega) ?_
            refine cz_aload rfl rfl ?_
            refine cz_getF hb rfl rfl ?_
            refine cz_iload rfl rfl ?_
            refine cz_aload rfl rfl ?_
            refine cz_getF hb0 rfl rfl ?_
            refine cz_iload rfl rfl ?_
            refine cz_baldF hb0 rfl (by omega) ?_
            refine cz_iload rfl rfl ?_
            refine cz_iceq rfl (by first | omega | exact bI_ran | (rw [vw_o (by omega), vw_o (by omega), vw_o (by omega), h2]; omega)) (by exact bI_ran) (fun hb255 => ?_) (fun hb255 => ?_)
            · skip
              refine cz_icst rfl cc_0 ?_
              refine cz_bastF hb rfl (by omega) (by omega) ?_
              refine cz_iinc (l' := [(0, _), (1, _), (2, _), (3, _), (6, _), (8, _), (9, _), (10, _), (11, _)]) rfl cc_1 rfl rfl ?_
              refine cz_goto rfl ?_
              refine cz_weak (fun i => i == 0 || i == 1 || i == 2 || i == 3 || i == 6 || i == 8) (l' := [(0, _), (1, _), (2, _), (3, _), (6, _), (8, _)]) rfl ?_
              refine ih (i + 1) _ (by omega) (by omega) ?_ ?_ ?_ ?_ ?_ ?_
              · exact (((h1.set (by omega)).set (by omega)).set (by omega)).set (by omega)
              · rw [vw_o (by omega), vw_o (by omega), vw_o (by omega), vw_o (by omega)]; exact h2
              · rw [vw_n (by omega), vw_n (by omega), vw_n (by omega), vw_n (by omega)]; exact h3
              · rw [vw_n (by omega), vw_n (by omega), vw_n (by omega), vw_n (by omega)]; exact h4
              · rw [vw_n (by omega), vw_n (by omega), vw_n (by omega), vw_n (by omega)]; exact h5
              · intro j hj0 hj1
                rw [vw_n (j' := 1) (by omega), vw_n (j' := 1) (by omega), vw_n (j' := 1) (by omega), vw_e (by omega), vw_n (j' := 2) (by omega), vw_n (j' := 2) (by omega), vw_e (by omega), vw_n (j' := 2) (by omega), vw_n (j' := 3) (by omega), vw_e (by omega), vw_n (j' := 3) (by omega), vw_n (j' := 3) (by omega), vw_e (by omega), vw_n (j' := 4) (by omega), vw_n (j' := 4) (by omega), vw_n (j' := 4) (by omega)]
                by_cases he : j = i
                · subst he
                  rw [if_pos rfl, if_pos rfl, if_pos rfl, if_pos rfl]
                  rw [vw_o (b := b0) (by omega), vw_o (b := b0) (by omega), vw_o (b := b0) (by omega), h2, bI_neg hg] at hb255
                  have hbs : vw (setS (setS S1 (b + 1) j (vw S1 b0 1 j - cLst F k)) (b + 2) j (vw S1 b0 2 j)) b0 = F := by rw [vw_o (by omega), vw_o (by omega), h2]
                  refine ⟨?_, ?_, ?_, ?_⟩
                  · unfold cNx; (rw [if_neg hg, if_pos hax, h2]) <;> omega
                  · unfold cNy; (rw [if_neg hg, if_pos hax, h2]) <;> omega
                  · rw [hbs]
                  · unfold cNu; rw [if_neg hg]; omega
                · rw [if_neg he, if_neg he, if_neg he, if_neg he]
                  exact h6 j hj0 (by omega)
            · skip
              refine cz_icst rfl cc_1 ?_
              refine cz_goto rfl ?_
              refine cz_bastF hb rfl (by omega) (by omega) ?_
              refine cz_iinc (l' := [(0, _), (1, _), (2, _), (3, _), (6, _), (8, _), (9, _), (10, _), (11, _)]) rfl cc_1 rfl rfl ?_
              refine cz_goto rfl ?_
              refine cz_weak (fun i => i == 0 || i == 1 || i == 2 || i == 3 || i == 6 || i == 8) (l' := [(0, _), (1, _), (2, _), (3, _), (6, _), (8, _)]) rfl ?_
              refine ih (i + 1) _ (by omega) (by omega) ?_ ?_ ?_ ?_ ?_ ?_
              · exact (((h1.set (by omega)).set (by omega)).set (by omega)).set (by omega)
              · rw [vw_o (by omega), vw_o (by omega), vw_o (by omega), vw_o (by omega)]; exact h2
              · rw [vw_n (by omega), vw_n (by omega), vw_n (by omega), vw_n (by omega)]; exact h3
              · rw [vw_n (by omega), vw_n (by omega), vw_n (by omega), vw_n (by omega)]; exact h4
              · rw [vw_n (by omega), vw_n (by omega), vw_n (by omega), vw_n (by omega)]; exact h5
              · intro j hj0 hj1
                rw [vw_n (j' := 1) (by omega), vw_n (j' := 1) (by omega), vw_n (j' := 1) (by omega), vw_e (by omega), vw_n (j' := 2) (by omega), vw_n (j' := 2) (by omega), vw_e (by omega), vw_n (j' := 2) (by omega), vw_n (j' := 3) (by omega), vw_e (by omega), vw_n (j' := 3) (by omega), vw_n (j' := 3) (by omega), vw_e (by omega), vw_n (j' := 4) (by omega), vw_n (j' := 4) (by omega), vw_n (j' := 4) (by omega)]
                by_cases he : j = i
                · subst he
                  rw [if_pos rfl, if_pos rfl, if_pos rfl, if_pos rfl]
                  rw [vw_o (b := b0) (by omega), vw_o (b := b0) (by omega), vw_o (b := b0) (by omega), h2, bI_neg hg] at hb255
                  have hbs : vw (setS (setS S1 (b + 1) j (vw S1 b0 1 j - cLst F k)) (b + 2) j (vw S1 b0 2 j)) b0 = F := by rw [vw_o (by omega), vw_o (by omega), h2]
                  refine ⟨?_, ?_, ?_, ?_⟩
                  · unfold cNx; (rw [if_neg hg, if_pos hax, h2]) <;> omega
                  · unfold cNy; (rw [if_neg hg, if_pos hax, h2]) <;> omega
                  · rw [hbs]
                  · unfold cNu; rw [if_neg hg]; omega
                · rw [if_neg he, if_neg he, if_neg he, if_neg he]
                  exact h6 j hj0 (by omega)
          · replace hb162 := bI_n0 hb162
            exfalso; rw [h2] at hb162; exact hg hb162
        · replace hb138 := bI_n0 hb138
          exfalso; rw [h2] at hb138; exact hg hb138
      · rw [bI_neg hax] at ha
        refine cz_iload rfl rfl ?_
        refine cz_aload rfl rfl ?_
        refine cz_getF hb rfl rfl ?_
        refine cz_icge rfl (by omega) (by omega) (fun hb124 => ?_) (fun hb124 => ?_)
        · exfalso; omega
        refine cz_aload rfl rfl ?_
        refine cz_iload rfl rfl ?_
        refine cz_iload rfl rfl ?_
        refine cz_cV3P rfl rfl rfl (cIsF hb0) (Nat.le_of_ble_eq_true rfl) (p_goes hb0 (by rw [h2]; exact hd) (by rw [h2]; omega) (by omega)) ?_
        refine cz_st1 (l' := [(0, _), (1, _), (2, _), (3, _), (6, _), (8, _), (9, _)]) rfl rfl rfl ?_
        refine cz_iload rfl rfl ?_
        refine cz_ifeq rfl (by exact bI_ran) (fun hb138 => ?_) (fun hb138 => ?_)
        · replace hb138 := bI_0 hb138
          refine cz_aload rfl rfl ?_
          refine cz_getF hb0 rfl rfl ?_
          refine cz_iload rfl rfl ?_
          refine cz_ialdF (j := 1) hb0 (by decide) rfl (by omega) ?_
          refine cz_st1 (l' := [(0, _), (1, _), (2, _), (3, _), (6, _), (8, _), (9, _), (10, _)]) rfl rfl rfl ?_
          refine cz_iload rfl rfl ?_
          refine cz_ifeq rfl (by exact bI_ran) (fun hb162 => ?_) (fun hb162 => ?_)
          · replace hb162 := bI_0 hb162
            refine cz_aload rfl rfl ?_
            refine cz_getF hb0 rfl rfl ?_
            refine cz_iload rfl rfl ?_
            refine cz_ialdF (j := 2) hb0 (by decide) rfl (by omega) ?_
            refine cz_st1 (l' := [(0, _), (1, _), (2, _), (3, _), (6, _), (8, _), (9, _), (10, _), (11, _)]) rfl rfl rfl ?_
            refine cz_aload rfl rfl ?_
            refine cz_getF hb rfl rfl ?_
            refine cz_iload rfl rfl ?_
            refine cz_iload rfl rfl ?_
            refine cz_ifeq rfl (by omega) (fun hb191 => ?_) (fun hb191 => ?_)
            rotate_left
            · exfalso; omega
            refine cz_iload rfl rfl ?_
            refine cz_iastF (j := 1) hb (by decide) rfl (by omega) ?_
            refine cz_aload rfl rfl ?_
            refine cz_getF hb rfl rfl ?_
            refine cz_iload rfl rfl ?_
            refine cz_iload rfl rfl ?_
            refine cz_ifeq rfl (by omega) (fun hb212 => ?_) (fun hb212 => ?_)
            rotate_left
            · exfalso; omega
            refine cz_iload rfl rfl ?_
            refine cz_iload rfl rfl ?_
            refine cz_isub rfl ?_
            refine cz_iastF (j := 2) hb (by decide) rfl (by omega) ?_
            refine cz_aload rfl rfl ?_
            refine cz_getF hb rfl rfl ?_
            refine cz_iload rfl rfl ?_
            refine cz_aload rfl rfl ?_
            refine cz_iload rfl rfl ?_
            refine cz_iload rfl rfl ?_
            refine cz_cV3P rfl rfl rfl (cIsF hb0) (Nat.le_of_ble_eq_true rfl) (p_layerBehind hb0 (by rw [vw_o (by omega), vw_o (by omega), h2]; exact hs) (by rw [vw_o (by omega), vw_o (by omega), h2]; exact hd) (by rw [vw_o (by omega), vw_o (by omega), h2]; exact hh) (by rw [vw_o (by omega), vw_o (by omega), h2]; omega) (by omega)) ?_
            refine cz_iastF (j := 3) hb (by decide) rfl (by omega) ?_
            refine cz_aload rfl rfl ?_
            refine cz_getF hb rfl rfl ?_
            refine cz_iload rfl rfl ?_
            refine cz_aload rfl rfl ?_
            refine cz_getF hb0 rfl rfl ?_
            refine cz_iload rfl rfl ?_
            refine cz_baldF hb0 rfl (by omega) ?_
            refine cz_iload rfl rfl ?_
            refine cz_iceq rfl (by first | omega | exact bI_ran | (rw [vw_o (by omega), vw_o (by omega), vw_o (by omega), h2]; omega)) (by exact bI_ran) (fun hb255 => ?_) (fun hb255 => ?_)
            · skip
              refine cz_icst rfl cc_0 ?_
              refine cz_bastF hb rfl (by omega) (by omega) ?_
              refine cz_iinc (l' := [(0, _), (1, _), (2, _), (3, _), (6, _), (8, _), (9, _), (10, _), (11, _)]) rfl cc_1 rfl rfl ?_
              refine cz_goto rfl ?_
              refine cz_weak (fun i => i == 0 || i == 1 || i == 2 || i == 3 || i == 6 || i == 8) (l' := [(0, _), (1, _), (2, _), (3, _), (6, _), (8, _)]) rfl ?_
              refine ih (i + 1) _ (by omega) (by omega) ?_ ?_ ?_ ?_ ?_ ?_
              · exact (((h1.set (by omega)).set (by omega)).set (by omega)).set (by omega)
              · rw [vw_o (by omega), vw_o (by omega), vw_o (by omega), vw_o (by omega)]; exact h2
              · rw [vw_n (by omega), vw_n (by omega), vw_n (by omega), vw_n (by omega)]; exact h3
              · rw [vw_n (by omega), vw_n (by omega), vw_n (by omega), vw_n (by omega)]; exact h4
              · rw [vw_n (by omega), vw_n (by omega), vw_n (by omega), vw_n (by omega)]; exact h5
              · intro j hj0 hj1
                rw [vw_n (j' := 1) (by omega), vw_n (j' := 1) (by omega), vw_n (j' := 1) (by omega), vw_e (by omega), vw_n (j' := 2) (by omega), vw_n (j' := 2) (by omega), vw_e (by omega), vw_n (j' := 2) (by omega), vw_n (j' := 3) (by omega), vw_e (by omega), vw_n (j' := 3) (by omega), vw_n (j' := 3) (by omega), vw_e (by omega), vw_n (j' := 4) (by omega), vw_n (j' := 4) (by omega), vw_n (j' := 4) (by omega)]
                by_cases he : j = i
                · subst he
                  rw [if_pos rfl, if_pos rfl, if_pos rfl, if_pos rfl]
                  rw [vw_o (b := b0) (by omega), vw_o (b := b0) (by omega), vw_o (b := b0) (by omega), h2, bI_neg hg] at hb255
                  have hbs : vw (setS (setS S1 (b + 1) j (vw S1 b0 1 j)) (b + 2) j (vw S1 b0 2 j - cLst F k)) b0 = F := by rw [vw_o (by omega), vw_o (by omega), h2]
                  refine ⟨?_, ?_, ?_, ?_⟩
                  · unfold cNx; (rw [if_neg hg, if_neg hax, h2]) <;> omega
                  · unfold cNy; (rw [if_neg hg, if_neg hax, h2]) <;> omega
                  · rw [hbs]
                  · unfold cNu; rw [if_neg hg]; omega
                · rw [if_neg he, if_neg he, if_neg he, if_neg he]
                  exact h6 j hj0 (by omega)
            · skip
              refine cz_icst rfl cc_1 ?_
              refine cz_goto rfl ?_
              refine cz_bastF hb rfl (by omega) (by omega) ?_
              refine cz_iinc (l' := [(0, _), (1, _), (2, _), (3, _), (6, _), (8, _), (9, _), (10, _), (11, _)]) rfl cc_1 rfl rfl ?_
              refine cz_goto rfl ?_
              refine cz_weak (fun i => i == 0 || i == 1 || i == 2 || i == 3 || i == 6 || i == 8) (l' := [(0, _), (1, _), (2, _), (3, _), (6, _), (8, _)]) rfl ?_
              refine ih (i + 1) _ (by omega) (by omega) ?_ ?_ ?_ ?_ ?_ ?_
              · exact (((h1.set (by omega)).set (by omega)).set (by omega)).set (by omega)
              · rw [vw_o (by omega), vw_o (by omega), vw_o (by omega), vw_o (by omega)]; exact h2
              · rw [vw_n (by omega), vw_n (by omega), vw_n (by omega), vw_n (by omega)]; exact h3
              · rw [vw_n (by omega), vw_n (by omega), vw_n (by omega), vw_n (by omega)]; exact h4
              · rw [vw_n (by omega), vw_n (by omega), vw_n (by omega), vw_n (by omega)]; exact h5
              · intro j hj0 hj1
                rw [vw_n (j' := 1) (by omega), vw_n (j' := 1) (by omega), vw_n (j' := 1) (by omega), vw_e (by omega), vw_n (j' := 2) (by omega), vw_n (j' := 2) (by omega), vw_e (by omega), vw_n (j' := 2) (by omega), vw_n (j' := 3) (by omega), vw_e (by omega), vw_n (j' := 3) (by omega), vw_n (j' := 3) (by omega), vw_e (by omega), vw_n (j' := 4) (by omega), vw_n (j' := 4) (by omega), vw_n (j' := 4) (by omega)]
                by_cases he : j = i
                · subst he
                  rw [if_pos rfl, if_pos rfl, if_pos rfl, if_pos rfl]
                  rw [vw_o (b := b0) (by omega), vw_o (b := b0) (by omega), vw_o (b := b0) (by omega), h2, bI_neg hg] at hb255
                  have hbs : vw (setS (setS S1 (b + 1) j (vw S1 b0 1 j)) (b + 2) j (vw S1 b0 2 j - cLst F k)) b0 = F := by rw [vw_o (by omega), vw_o (by omega), h2]
                  refine ⟨?_, ?_, ?_, ?_⟩
                  · unfold cNx; (rw [if_neg hg, if_neg hax, h2]) <;> omega
                  · unfold cNy; (rw [if_neg hg, if_neg hax, h2]) <;> omega
                  · rw [hbs]
                  · unfold cNu; rw [if_neg hg]; omega
                · rw [if_neg he, if_neg he, if_neg he, if_neg he]
                  exact h6 j hj0 (by omega)
          · replace hb162 := bI_n0 hb162
            exfalso; rw [h2] at hb162; exact hg hb162
        · replace hb138 := bI_n0 hb138
          exfalso; rw [h2] at hb138; exact hg hb138
set_option maxRecDepth 20000 in
theorem p_becomeFolded {xs : Nat → Int32} {Ls : Nat} {S : cS} {t : Nat} {b : Nat} (hb : cFm b) {b0 : Nat} (hb0 : cFm b0) (hdis : b + 6 ≤ b0 ∨ b0 + 6 ≤ b) (hs : cSh (vw S b0)) (hd : cBd (vw S b0)) (hh : cHb (vw S b0)) (hp : cPos (vw S b0)) {k : Int} (hk : 8 ≤ k ∧ k < 64) (hln : k / 8 < cTot (vw S b0) k) : cZ xs Ls 4 3 0 [(0, .ref b), (1, .ref b0), (2, .int (cI k))] [] S t (cQV (fun S' t' => t' = t ∧ cFr b S S' ∧ cFolded (vw S b0) k (vw S' b))) := by
  obtain ⟨hs1, hs2, hs3, hs4, hs5⟩ := id hs
  obtain ⟨hd1, hd2, hd3⟩ := id hd
  by_cases hax : k / 4 % 2 = 0
  · have htot : cTot (vw S b0) k = vw S b0 0 1 := if_pos hax
    by_cases hfar : k / 2 % 2 = 1
    · skip
      refine cz_iload rfl rfl ?_
      refine cz_cS1P rfl rfl rfl rfl (Nat.le_of_ble_eq_true rfl) (p_axisOf (by omega)) ?_
      refine cz_ifne rfl (by omega) (fun hb4 => ?_) (fun hb4 => ?_)
      · exfalso; omega
      refine cz_icst rfl cc_1 ?_
      refine cz_goto rfl ?_
      refine cz_st1 (l' := [(0, _), (1, _), (2, _), (3, _)]) rfl rfl rfl ?_
      refine cz_iload rfl rfl ?_
      refine cz_ifeq rfl (by omega) (fun hb14 => ?_) (fun hb14 => ?_)
      · exfalso; omega
      refine cz_aload rfl rfl ?_
      refine cz_getF hb0 rfl rfl ?_
      refine cz_goto rfl ?_
      refine cz_st1 (l' := [(0, _), (1, _), (2, _), (3, _), (4, _)]) rfl rfl rfl ?_
      refine cz_iload rfl rfl ?_
      refine cz_cS1P rfl rfl rfl rfl (Nat.le_of_ble_eq_true rfl) (p_lineOf (by omega)) ?_
      refine cz_st1 (l' := [(0, _), (1, _), (2, _), (3, _), (4, _), (5, _)]) rfl rfl rfl ?_
      refine cz_iload rfl rfl ?_
      refine cz_cS1P rfl rfl rfl rfl (Nat.le_of_ble_eq_true rfl) (p_isFar (by omega)) ?_
      refine cz_ifeq rfl (by exact bI_ran) (fun hb40 => ?_) (fun hb40 => ?_)
      · replace hb40 := bI_0 hb40
        exact absurd hfar hb40
      · replace hb40 := bI_n0 hb40
        refine cz_icst rfl cc_0 ?_
        refine cz_icst rfl cc_2 ?_
        refine cz_iload rfl rfl ?_
        refine cz_imul rfl ?_
        refine cz_iload rfl rfl ?_
        refine cz_isub rfl ?_
        refine cz_min rfl rfl (by omega) (by omega) ?_
        refine cz_goto rfl ?_
        refine cz_st1 (l' := [(0, _), (1, _), (2, _), (3, _), (4, _), (5, _), (6, _)]) rfl rfl rfl ?_
        refine cz_iload rfl rfl ?_
        refine cz_iload rfl rfl ?_
        refine cz_iload rfl rfl ?_
        refine cz_isub rfl ?_
        refine cz_max rfl rfl (by omega) (by omega) ?_
        refine cz_st1 (l' := [(0, _), (1, _), (2, _), (3, _), (4, _), (5, _), (6, _), (7, _)]) rfl rfl rfl ?_
        refine cz_aload rfl rfl ?_
        refine cz_aload rfl rfl ?_
        refine cz_getF hb0 rfl rfl ?_
        refine cz_putF hb rfl (by decide) ?_
        refine cz_aload rfl rfl ?_
        refine cz_iload rfl rfl ?_
        refine cz_ifeq rfl (by omega) (fun hb83 => ?_) (fun hb83 => ?_)
        · exfalso; omega
        refine cz_iload rfl rfl ?_
        refine cz_goto rfl ?_
        refine cz_putF hb rfl (by decide) ?_
        refine cz_aload rfl rfl ?_
        refine cz_iload rfl rfl ?_
        refine cz_ifeq rfl (by omega) (fun hb100 => ?_) (fun hb100 => ?_)
        · exfalso; omega
        refine cz_aload rfl rfl ?_
        refine cz_getF hb0 rfl rfl ?_
        refine cz_goto rfl ?_
        refine cz_putF hb rfl (by decide) ?_
        refine cz_icst rfl cc_0 ?_
        refine cz_st1 (l' := [(0, _), (1, _), (2, _), (3, _), (4, _), (5, _), (6, _), (7, _), (8, _)]) rfl rfl rfl ?_
        refine cz_weak (fun i => i == 0 || i == 1 || i == 2 || i == 3 || i == 6 || i == 8) (l' := [(0, _), (1, _), (2, _), (3, _), (6, _), (8, _)]) rfl ?_
        have hl : cLst (vw S b0) k = (if 2 * (k / 8) - vw S b0 0 1 < 0 then 2 * (k / 8) - vw S b0 0 1 else 0) := by
          unfold cLst cTot
          rw [if_pos hfar, if_pos hax]
        rw [← hl]
        refine p_becomeFolded_loop hb hb0 hdis hs hd hh hp hk hln (bI_pos hax).symm (vw S b0 0 0).toNat 0 _ (by omega) (by omega) ?_ ?_ ?_ ?_ ?_ ?_
        · intro a ha
          rw [setS_o (by omega), setS_o (by omega), setS_o (by omega)]
        · rw [vw_o (by omega), vw_o (by omega), vw_o (by omega)]
        · rw [vw_e0, vw_e0, vw_e0, if_neg (by omega), if_neg (by omega), if_pos (by omega)]
        · rw [vw_e0, vw_e0, if_neg (by omega), if_pos (by omega)]
          unfold cNC cNlen
          rw [if_pos hax]
          rw [htot]
        · rw [vw_e0, if_pos (by omega)]
          unfold cNR cNlen
          rw [if_pos hax]
          rw [vw_o (by omega), vw_o (by omega)]
        · intro j _ _; omega
    · skip
      refine cz_iload rfl rfl ?_
      refine cz_cS1P rfl rfl rfl rfl (Nat.le_of_ble_eq_true rfl) (p_axisOf (by omega)) ?_
      refine cz_ifne rfl (by omega) (fun hb4 => ?_) (fun hb4 => ?_)
      · exfalso; omega
      refine cz_icst rfl cc_1 ?_
      refine cz_goto rfl ?_
      refine cz_st1 (l' := [(0, _), (1, _), (2, _), (3, _)]) rfl rfl rfl ?_
      refine cz_iload rfl rfl ?_
      refine cz_ifeq rfl (by omega) (fun hb14 => ?_) (fun hb14 => ?_)
      · exfalso; omega
      refine cz_aload rfl rfl ?_
      refine cz_getF hb0 rfl rfl ?_
      refine cz_goto rfl ?_
      refine cz_st1 (l' := [(0, _), (1, _), (2, _), (3, _), (4, _)]) rfl rfl rfl ?_
      refine cz_iload rfl rfl ?_
      refine cz_cS1P rfl rfl rfl rfl (Nat.le_of_ble_eq_true rfl) (p_lineOf (by omega)) ?_
      refine cz_st1 (l' := [(0, _), (1, _), (2, _), (3, _), (4, _), (5, _)]) rfl rfl rfl ?_
      refine cz_iload rfl rfl ?_
      refine cz_cS1P rfl rfl rfl rfl (Nat.le_of_ble_eq_true rfl) (p_isFar (by omega)) ?_
      refine cz_ifeq rfl (by exact bI_ran) (fun hb40 => ?_) (fun hb40 => ?_)
      · replace hb40 := bI_0 hb40
        refine cz_iload rfl rfl ?_
        refine cz_st1 (l' := [(0, _), (1, _), (2, _), (3, _), (4, _), (5, _), (6, _)]) rfl rfl rfl ?_
        refine cz_iload rfl rfl ?_
        refine cz_iload rfl rfl ?_
        refine cz_iload rfl rfl ?_
        refine cz_isub rfl ?_
        refine cz_max rfl rfl (by omega) (by omega) ?_
        refine cz_st1 (l' := [(0, _), (1, _), (2, _), (3, _), (4, _), (5, _), (6, _), (7, _)]) rfl rfl rfl ?_
        refine cz_aload rfl rfl ?_
        refine cz_aload rfl rfl ?_
        refine cz_getF hb0 rfl rfl ?_
        refine cz_putF hb rfl (by decide) ?_
        refine cz_aload rfl rfl ?_
        refine cz_iload rfl rfl ?_
        refine cz_ifeq rfl (by omega) (fun hb83 => ?_) (fun hb83 => ?_)
        · exfalso; omega
        refine cz_iload rfl rfl ?_
        refine cz_goto rfl ?_
        refine cz_putF hb rfl (by decide) ?_
        refine cz_aload rfl rfl ?_
        refine cz_iload rfl rfl ?_
        refine cz_ifeq rfl (by omega) (fun hb100 => ?_) (fun hb100 => ?_)
        · exfalso; omega
        refine cz_aload rfl rfl ?_
        refine cz_getF hb0 rfl rfl ?_
        refine cz_goto rfl ?_
        refine cz_putF hb rfl (by decide) ?_
        refine cz_icst rfl cc_0 ?_
        refine cz_st1 (l' := [(0, _), (1, _), (2, _), (3, _), (4, _), (5, _), (6, _), (7, _), (8, _)]) rfl rfl rfl ?_
        refine cz_weak (fun i => i == 0 || i == 1 || i == 2 || i == 3 || i == 6 || i == 8) (l' := [(0, _), (1, _), (2, _), (3, _), (6, _), (8, _)]) rfl ?_
        have hl : cLst (vw S b0) k = k / 8 := by
          unfold cLst cTot
          rw [if_neg hfar]
        rw [← hl]
        refine p_becomeFolded_loop hb hb0 hdis hs hd hh hp hk hln (bI_pos hax).symm (vw S b0 0 0).toNat 0 _ (by omega) (by omega) ?_ ?_ ?_ ?_ ?_ ?_
        · intro a ha
          rw [setS_o (by omega), setS_o (by omega), setS_o (by omega)]
        · rw [vw_o (by omega), vw_o (by omega), vw_o (by omega)]
        · rw [vw_e0, vw_e0, vw_e0, if_neg (by omega), if_neg (by omega), if_pos (by omega)]
        · rw [vw_e0, vw_e0, if_neg (by omega), if_pos (by omega)]
          unfold cNC cNlen
          rw [if_pos hax]
          rw [htot, hl]
        · rw [vw_e0, if_pos (by omega)]
          unfold cNR cNlen
          rw [if_pos hax]
          rw [vw_o (by omega), vw_o (by omega)]
        · intro j _ _; omega
      · replace hb40 := bI_n0 hb40
        exact absurd hb40 hfar
  · have htot : cTot (vw S b0) k = vw S b0 0 2 := if_neg hax
    by_cases hfar : k / 2 % 2 = 1
    · skip
      refine cz_iload rfl rfl ?_
      refine cz_cS1P rfl rfl rfl rfl (Nat.le_of_ble_eq_true rfl) (p_axisOf (by omega)) ?_
      refine cz_ifne rfl (by omega) (fun hb4 => ?_) (fun hb4 => ?_)
      rotate_left
      · exfalso; omega
      refine cz_icst rfl cc_0 ?_
      refine cz_st1 (l' := [(0, _), (1, _), (2, _), (3, _)]) rfl rfl rfl ?_
      refine cz_iload rfl rfl ?_
      refine cz_ifeq rfl (by omega) (fun hb14 => ?_) (fun hb14 => ?_)
      rotate_left
      · exfalso; omega
      refine cz_aload rfl rfl ?_
      refine cz_getF hb0 rfl rfl ?_
      refine cz_st1 (l' := [(0, _), (1, _), (2, _), (3, _), (4, _)]) rfl rfl rfl ?_
      refine cz_iload rfl rfl ?_
      refine cz_cS1P rfl rfl rfl rfl (Nat.le_of_ble_eq_true rfl) (p_lineOf (by omega)) ?_
      refine cz_st1 (l' := [(0, _), (1, _), (2, _), (3, _), (4, _), (5, _)]) rfl rfl rfl ?_
      refine cz_iload rfl rfl ?_
      refine cz_cS1P rfl rfl rfl rfl (Nat.le_of_ble_eq_true rfl) (p_isFar (by omega)) ?_
      refine cz_ifeq rfl (by exact bI_ran) (fun hb40 => ?_) (fun hb40 => ?_)
      · replace hb40 := bI_0 hb40
        exact absurd hfar hb40
      · replace hb40 := bI_n0 hb40
        refine cz_icst rfl cc_0 ?_
        refine cz_icst rfl cc_2 ?_
        refine cz_iload rfl rfl ?_
        refine cz_imul rfl ?_
        refine cz_iload rfl rfl ?_
        refine cz_isub rfl ?_
        refine cz_min rfl rfl (by omega) (by omega) ?_
        refine cz_goto rfl ?_
        refine cz_st1 (l' := [(0, _), (1, _), (2, _), (3, _), (4, _), (5, _), (6, _)]) rfl rfl rfl ?_
        refine cz_iload rfl rfl ?_
        refine cz_iload rfl rfl ?_
        refine cz_iload rfl rfl ?_
        refine cz_isub rfl ?_
        refine cz_max rfl rfl (by omega) (by omega) ?_
        refine cz_st1 (l' := [(0, _), (1, _), (2, _), (3, _), (4, _), (5, _), (6, _), (7, _)]) rfl rfl rfl ?_
        refine cz_aload rfl rfl ?_
        refine cz_aload rfl rfl ?_
        refine cz_getF hb0 rfl rfl ?_
        refine cz_putF hb rfl (by decide) ?_
        refine cz_aload rfl rfl ?_
        refine cz_iload rfl rfl ?_
        refine cz_ifeq rfl (by omega) (fun hb83 => ?_) (fun hb83 => ?_)
        rotate_left
        · exfalso; omega
        refine cz_aload rfl rfl ?_
        refine cz_getF hb0 rfl rfl ?_
        refine cz_putF hb rfl (by decide) ?_
        refine cz_aload rfl rfl ?_
        refine cz_iload rfl rfl ?_
        refine cz_ifeq rfl (by omega) (fun hb100 => ?_) (fun hb100 => ?_)
        rotate_left
        · exfalso; omega
        refine cz_iload rfl rfl ?_
        refine cz_putF hb rfl (by decide) ?_
        refine cz_icst rfl cc_0 ?_
        refine cz_st1 (l' := [(0, _), (1, _), (2, _), (3, _), (4, _), (5, _), (6, _), (7, _), (8, _)]) rfl rfl rfl ?_
        refine cz_weak (fun i => i == 0 || i == 1 || i == 2 || i == 3 || i == 6 || i == 8) (l' := [(0, _), (1, _), (2, _), (3, _), (6, _), (8, _)]) rfl ?_
        have hl : cLst (vw S b0) k = (if 2 * (k / 8) - vw S b0 0 2 < 0 then 2 * (k / 8) - vw S b0 0 2 else 0) := by
          unfold cLst cTot
          rw [if_pos hfar, if_neg hax]
        rw [← hl]
        refine p_becomeFolded_loop hb hb0 hdis hs hd hh hp hk hln (bI_neg hax).symm (vw S b0 0 0).toNat 0 _ (by omega) (by omega) ?_ ?_ ?_ ?_ ?_ ?_
        · intro a ha
          rw [setS_o (by omega), setS_o (by omega), setS_o (by omega)]
        · rw [vw_o (by omega), vw_o (by omega), vw_o (by omega)]
        · rw [vw_e0, vw_e0, vw_e0, if_neg (by omega), if_neg (by omega), if_pos (by omega)]
        · rw [vw_e0, vw_e0, if_neg (by omega), if_pos (by omega)]
          unfold cNC cNlen
          rw [if_neg hax]
          rw [vw_o (by omega)]
        · rw [vw_e0, if_pos (by omega)]
          unfold cNR cNlen
          rw [if_neg hax]
          rw [htot]
        · intro j _ _; omega
    · skip
      refine cz_iload rfl rfl ?_
      refine cz_cS1P rfl rfl rfl rfl (Nat.le_of_ble_eq_true rfl) (p_axisOf (by omega)) ?_
      refine cz_ifne rfl (by omega) (fun hb4 => ?_) (fun hb4 => ?_)
      rotate_left
      · exfalso; omega
      refine cz_icst rfl cc_0 ?_
      refine cz_st1 (l' := [(0, _), (1, _), (2, _), (3, _)]) rfl rfl rfl ?_
      refine cz_iload rfl rfl ?_
      refine cz_ifeq rfl (by omega) (fun hb14 => ?_) (fun hb14 => ?_)
      rotate_left
      · exfalso; omega
      refine cz_aload rfl rfl ?_
      refine cz_getF hb0 rfl rfl ?_
      refine cz_st1 (l' := [(0, _), (1, _), (2, _), (3, _), (4, _)]) rfl rfl rfl ?_
      refine cz_iload rfl rfl ?_
      refine cz_cS1P rfl rfl rfl rfl (Nat.le_of_ble_eq_true rfl) (p_lineOf (by omega)) ?_
      refine cz_st1 (l' := [(0, _), (1, _), (2, _), (3, _), (4, _), (5, _)]) rfl rfl rfl ?_
      refine cz_iload rfl rfl ?_
      refine cz_cS1P rfl rfl rfl rfl (Nat.le_of_ble_eq_true rfl) (p_isFar (by omega)) ?_
      refine cz_ifeq rfl (by exact bI_ran) (fun hb40 => ?_) (fun hb40 => ?_)
      · replace hb40 := bI_0 hb40
        refine cz_iload rfl rfl ?_
        refine cz_st1 (l' := [(0, _), (1, _), (2, _), (3, _), (4, _), (5, _), (6, _)]) rfl rfl rfl ?_
        refine cz_iload rfl rfl ?_
        refine cz_iload rfl rfl ?_
        refine cz_iload rfl rfl ?_
        refine cz_isub rfl ?_
        refine cz_max rfl rfl (by omega) (by omega) ?_
        refine cz_st1 (l' := [(0, _), (1, _), (2, _), (3, _), (4, _), (5, _), (6, _), (7, _)]) rfl rfl rfl ?_
        refine cz_aload rfl rfl ?_
        refine cz_aload rfl rfl ?_
        refine cz_getF hb0 rfl rfl ?_
        refine cz_putF hb rfl (by decide) ?_
        refine cz_aload rfl rfl ?_
        refine cz_iload rfl rfl ?_
        refine cz_ifeq rfl (by omega) (fun hb83 => ?_) (fun hb83 => ?_)
        rotate_left
        · exfalso; omega
        refine cz_aload rfl rfl ?_
        refine cz_getF hb0 rfl rfl ?_
        refine cz_putF hb rfl (by decide) ?_
        refine cz_aload rfl rfl ?_
        refine cz_iload rfl rfl ?_
        refine cz_ifeq rfl (by omega) (fun hb100 => ?_) (fun hb100 => ?_)
        rotate_left
        · exfalso; omega
        refine cz_iload rfl rfl ?_
        refine cz_putF hb rfl (by decide) ?_
        refine cz_icst rfl cc_0 ?_
        refine cz_st1 (l' := [(0, _), (1, _), (2, _), (3, _), (4, _), (5, _), (6, _), (7, _), (8, _)]) rfl rfl rfl ?_
        refine cz_weak (fun i => i == 0 || i == 1 || i == 2 || i == 3 || i == 6 || i == 8) (l' := [(0, _), (1, _), (2, _), (3, _), (6, _), (8, _)]) rfl ?_
        have hl : cLst (vw S b0) k = k / 8 := by
          unfold cLst cTot
          rw [if_neg hfar]
        rw [← hl]
        refine p_becomeFolded_loop hb hb0 hdis hs hd hh hp hk hln (bI_neg hax).symm (vw S b0 0 0).toNat 0 _ (by omega) (by omega) ?_ ?_ ?_ ?_ ?_ ?_
        · intro a ha
          rw [setS_o (by omega), setS_o (by omega), setS_o (by omega)]
        · rw [vw_o (by omega), vw_o (by omega), vw_o (by omega)]
        · rw [vw_e0, vw_e0, vw_e0, if_neg (by omega), if_neg (by omega), if_pos (by omega)]
        · rw [vw_e0, vw_e0, if_neg (by omega), if_pos (by omega)]
          unfold cNC cNlen
          rw [if_neg hax]
          rw [vw_o (by omega)]
        · rw [vw_e0, if_pos (by omega)]
          unfold cNR cNlen
          rw [if_neg hax]
          rw [htot, hl]
        · intro j _ _; omega
      · replace hb40 := bI_n0 hb40
        exact absurd hb40 hfar
