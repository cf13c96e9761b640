/-! Loops over a Form, and what writes one -/
set_option maxRecDepth 20000 in
theorem p_places {xs : Nat → Int32} {Ls : Nat} {S : cS} {t : Nat} {b : Nat} (hb : cFm b)  : cZ xs Ls 0 8 0 [(0, .ref b)] [] S t (cP (vw S b 0 1 * vw S b 0 2) S t) := by
  refine cz_aload rfl rfl ?_
  refine cz_getF hb rfl rfl ?_
  refine cz_aload rfl rfl ?_
  refine cz_getF hb rfl rfl ?_
  refine cz_imul rfl ?_
  refine cz_retI rfl ?_
  exact cP.mk rfl
set_option maxRecDepth 20000 in
theorem p_highestPile_loop {xs : Nat → Int32} {Ls : Nat} {S : cS} {t : Nat} {b : Nat} (hb : cFm b) (hh : cHb (vw S b)) : ∀ (k : Nat) (i c : Int), 0 ≤ i → i + k = 32 → c = cmx (vw S b 5) i.toNat → cZ xs Ls 0 23 4 [(0, .ref b), (1, .int (cI c)), (2, .int (cI i))] [] S t (cP (cmx (vw S b 5) 32) S t) := by
  intro k
  induction k with
  | zero =>
    intro i c hi0 hi hc
    have e3 : i = 32 := by omega
    subst e3
    refine cz_iload rfl rfl ?_
    refine cz_icst rfl cc_32 ?_
    refine cz_icge rfl (by omega) (by omega) (fun hb7 => ?_) (fun hb7 => ?_)
    rotate_left
    · exfalso; omega
    refine cz_iload rfl rfl ?_
    refine cz_retI rfl ?_
    exact cP.mk hc
  | succ k ih =>
    intro i c hi0 hi hc
    have hn : (i + 1).toNat = i.toNat + 1 := by omega
    have hni : ((i.toNat : Nat) : Int) = i := by omega
    have hq := hh i hi0 (by omega)
    have hcb := cmx_b (f := vw S b 5) (hi := 32) (by omega) i.toNat (fun j h0 h1 => (hh j h0 (by omega)).2)
    rw [← hc] at hcb
    have hstep : cmx (vw S b 5) (i + 1).toNat = if c < vw S b 5 i then vw S b 5 i else c := by
      rw [hn, hc]
      show (if cmx (vw S b 5) i.toNat < vw S b 5 ((i.toNat : Nat) : Int) then vw S b 5 ((i.toNat : Nat) : Int) else cmx (vw S b 5) i.toNat) = _
      rw [hni]
    refine cz_iload rfl rfl ?_
    refine cz_icst rfl cc_32 ?_
    refine cz_icge rfl (by omega) (by omega) (fun hb7 => ?_) (fun hb7 => ?_)
    · exfalso; omega
    refine cz_iload rfl rfl ?_
    refine cz_aload rfl rfl ?_
    refine cz_getF hb rfl rfl ?_
    refine cz_iload rfl rfl ?_
    refine cz_ialdF (j := 5) hb (by decide) rfl (by omega) ?_
    refine cz_max rfl rfl (by omega) (by omega) ?_
    refine cz_st1 (l' := [(0, _), (1, _), (2, _)]) rfl rfl rfl ?_
    refine cz_iinc (l' := [(0, _), (1, _), (2, _)]) rfl cc_1 rfl rfl ?_
    refine cz_goto rfl ?_
    exact ih (i + 1) _ (by omega) (by omega) hstep.symm
set_option maxRecDepth 20000 in
theorem p_highestPile {xs : Nat → Int32} {Ls : Nat} {S : cS} {t : Nat} {b : Nat} (hb : cFm b) (hh : cHb (vw S b)) : cZ xs Ls 0 23 0 [(0, .ref b)] [] S t (cP (cmx (vw S b 5) 32) S t) := by
  refine cz_icst rfl cc_0 ?_
  refine cz_st1 (l' := [(0, _), (1, _)]) rfl rfl rfl ?_
  refine cz_icst rfl cc_0 ?_
  refine cz_st1 (l' := [(0, _), (1, _), (2, _)]) rfl rfl rfl ?_
  exact p_highestPile_loop hb hh 32 0 0 (by omega) (by omega) rfl
set_option maxRecDepth 20000 in
theorem p_frontsAbove_loop {xs : Nat → Int32} {Ls : Nat} {S : cS} {t : Nat} {b : Nat} (hb : cFm b) (hs : cSh (vw S b)) (hd : cBd (vw S b)) (hh : cHb (vw S b)) : ∀ (k : Nat) (i c : Int), 0 ≤ i → i + k = vw S b 0 0 → c = csum (fun i => bI (cFa (vw S b) i)) i.toNat → cZ xs Ls 4 24 4 [(0, .ref b), (1, .int (cI c)), (2, .int (cI i))] [] S t (cP (csum (fun i => bI (cFa (vw S b) i)) (vw S b 0 0).toNat) S t) := by
  obtain ⟨hd1, hd2, hd3⟩ := id hd
  intro k
  induction k with
  | zero =>
    intro i c hi0 hi hc
    have e3 : i = vw S b 0 0 := by omega
    subst e3
    refine cz_iload rfl rfl ?_
    refine cz_aload rfl rfl ?_
    refine cz_getF hb rfl rfl ?_
    refine cz_icge rfl (by omega) (by omega) (fun hb9 => ?_) (fun hb9 => ?_)
    rotate_left
    · exfalso; omega
    refine cz_iload rfl rfl ?_
    refine cz_retI rfl ?_
    exact cP.mk hc
  | succ k ih =>
    intro i c hi0 hi hc
    have hn : (i + 1).toNat = i.toNat + 1 := by omega
    have hni : ((i.toNat : Nat) : Int) = i := by omega
    have hq := hd3 i hi0 (by omega)
    have hstep : csum (fun i => bI (cFa (vw S b) i)) (i + 1).toNat = c + bI (cFa (vw S b) i) := by
      rw [hn, hc]
      show csum (fun i => bI (cFa (vw S b) i)) i.toNat + (fun i => bI (cFa (vw S b) i)) ((i.toNat : Nat) : Int) = _
      rw [hni]
    refine cz_iload rfl rfl ?_
    refine cz_aload rfl rfl ?_
    refine cz_getF hb rfl rfl ?_
    refine cz_icge rfl (by omega) (by omega) (fun hb9 => ?_) (fun hb9 => ?_)
    · exfalso; omega
    refine cz_aload rfl rfl ?_
    refine cz_getF hb rfl rfl ?_
    refine cz_iload rfl rfl ?_
    refine cz_baldF hb rfl (by omega) ?_
    refine cz_ifeq rfl (by omega) (fun hb18 => ?_) (fun hb18 => ?_)
    · skip
      refine cz_iinc (l' := [(0, _), (1, _), (2, _)]) rfl cc_1 rfl rfl ?_
      refine cz_goto rfl ?_
      refine ih (i + 1) _ (by omega) (by omega) ?_
      rw [hstep]
      first
      | (rw [bI_pos (by omega)]; done)
      | (rw [bI_neg (by omega)]; omega)
      | (rw [bI_pos (by omega)])
    · skip
      refine cz_aload rfl rfl ?_
      refine cz_iload rfl rfl ?_
      refine cz_icst rfl cc_1 ?_
      refine cz_cV3P rfl rfl rfl (cIsF hb) (Nat.le_of_ble_eq_true rfl) (p_isOutermost hb hs hd hh (by omega) (by omega)) ?_
      refine cz_ifeq rfl (by exact bI_ran) (fun hb27 => ?_) (fun hb27 => ?_)
      · replace hb27 := bI_0 hb27
        refine cz_iinc (l' := [(0, _), (1, _), (2, _)]) rfl cc_1 rfl rfl ?_
        refine cz_goto rfl ?_
        refine ih (i + 1) _ (by omega) (by omega) ?_
        rw [hstep]
        first
        | (rw [bI_pos (by omega)]; done)
        | (rw [bI_neg (by omega)]; omega)
        | (rw [bI_pos (by omega)])
      · replace hb27 := bI_n0 hb27
        refine cz_iinc (l' := [(0, _), (1, _), (2, _)]) rfl cc_1 rfl rfl ?_
        refine cz_iinc (l' := [(0, _), (1, _), (2, _)]) rfl cc_1 rfl rfl ?_
        refine cz_goto rfl ?_
        refine ih (i + 1) _ (by omega) (by omega) ?_
        rw [hstep]
        first
        | (rw [bI_pos (by omega)]; done)
        | (rw [bI_neg (by omega)]; omega)
        | (rw [bI_pos (by omega)])
set_option maxRecDepth 20000 in
theorem p_frontsAbove {xs : Nat → Int32} {Ls : Nat} {S : cS} {t : Nat} {b : Nat} (hb : cFm b) (hs : cSh (vw S b)) (hd : cBd (vw S b)) (hh : cHb (vw S b)) : cZ xs Ls 4 24 0 [(0, .ref b)] [] S t (cP (csum (fun i => bI (cFa (vw S b) i)) (vw S b 0 0).toNat) S t) := by
  obtain ⟨hd1, hd2, hd3⟩ := id hd
  refine cz_icst rfl cc_0 ?_
  refine cz_st1 (l' := [(0, _), (1, _)]) rfl rfl rfl ?_
  refine cz_icst rfl cc_0 ?_
  refine cz_st1 (l' := [(0, _), (1, _), (2, _)]) rfl rfl rfl ?_
  exact p_frontsAbove_loop hb hs hd hh (vw S b 0 0).toNat 0 0 (by omega) (by omega) rfl
set_option maxRecDepth 20000 in
theorem p_frontsBelow_loop {xs : Nat → Int32} {Ls : Nat} {S : cS} {t : Nat} {b : Nat} (hb : cFm b) (hs : cSh (vw S b)) (hd : cBd (vw S b)) (hh : cHb (vw S b)) : ∀ (k : Nat) (i c : Int), 0 ≤ i → i + k = vw S b 0 0 → c = csum (fun i => bI (cFb (vw S b) i)) i.toNat → cZ xs Ls 4 25 4 [(0, .ref b), (1, .int (cI c)), (2, .int (cI i))] [] S t (cP (csum (fun i => bI (cFb (vw S b) i)) (vw S b 0 0).toNat) S t) := by
  obtain ⟨hd1, hd2, hd3⟩ := id hd
  intro k
  induction k with
  | zero =>
    intro i c hi0 hi hc
    have e3 : i = vw S b 0 0 := by omega
    subst e3
    refine cz_iload rfl rfl ?_
    refine cz_aload rfl rfl ?_
    refine cz_getF hb rfl rfl ?_
    refine cz_icge rfl (by omega) (by omega) (fun hb9 => ?_) (fun hb9 => ?_)
    rotate_left
    · exfalso; omega
    refine cz_iload rfl rfl ?_
    refine cz_retI rfl ?_
    exact cP.mk hc
  | succ k ih =>
    intro i c hi0 hi hc
    have hn : (i + 1).toNat = i.toNat + 1 := by omega
    have hni : ((i.toNat : Nat) : Int) = i := by omega
    have hq := hd3 i hi0 (by omega)
    have hstep : csum (fun i => bI (cFb (vw S b) i)) (i + 1).toNat = c + bI (cFb (vw S b) i) := by
      rw [hn, hc]
      show csum (fun i => bI (cFb (vw S b) i)) i.toNat + (fun i => bI (cFb (vw S b) i)) ((i.toNat : Nat) : Int) = _
      rw [hni]
    refine cz_iload rfl rfl ?_
    refine cz_aload rfl rfl ?_
    refine cz_getF hb rfl rfl ?_
    refine cz_icge rfl (by omega) (by omega) (fun hb9 => ?_) (fun hb9 => ?_)
    · exfalso; omega
    refine cz_aload rfl rfl ?_
    refine cz_getF hb rfl rfl ?_
    refine cz_iload rfl rfl ?_
    refine cz_baldF hb rfl (by omega) ?_
    refine cz_ifne rfl (by omega) (fun hb18 => ?_) (fun hb18 => ?_)
    · skip
      refine cz_iinc (l' := [(0, _), (1, _), (2, _)]) rfl cc_1 rfl rfl ?_
      refine cz_goto rfl ?_
      refine ih (i + 1) _ (by omega) (by omega) ?_
      rw [hstep]
      first
      | (rw [bI_pos (by omega)]; done)
      | (rw [bI_neg (by omega)]; omega)
      | (rw [bI_pos (by omega)])
    · skip
      refine cz_aload rfl rfl ?_
      refine cz_iload rfl rfl ?_
      refine cz_icst rfl cc_0 ?_
      refine cz_cV3P rfl rfl rfl (cIsF hb) (Nat.le_of_ble_eq_true rfl) (p_isOutermost hb hs hd hh (by omega) (by omega)) ?_
      refine cz_ifeq rfl (by exact bI_ran) (fun hb27 => ?_) (fun hb27 => ?_)
      · replace hb27 := bI_0 hb27
        refine cz_iinc (l' := [(0, _), (1, _), (2, _)]) rfl cc_1 rfl rfl ?_
        refine cz_goto rfl ?_
        refine ih (i + 1) _ (by omega) (by omega) ?_
        rw [hstep]
        first
        | (rw [bI_pos (by omega)]; done)
        | (rw [bI_neg (by omega)]; omega)
        | (rw [bI_pos (by omega)])
      · replace hb27 := bI_n0 hb27
        refine cz_iinc (l' := [(0, _), (1, _), (2, _)]) rfl cc_1 rfl rfl ?_
        refine cz_iinc (l' := [(0, _), (1, _), (2, _)]) rfl cc_1 rfl rfl ?_
        refine cz_goto rfl ?_
        refine ih (i + 1) _ (by omega) (by omega) ?_
        rw [hstep]
        first
        | (rw [bI_pos (by omega)]; done)
        | (rw [bI_neg (by omega)]; omega)
        | (rw [bI_pos (by omega)])
set_option maxRecDepth 20000 in
theorem p_frontsBelow {xs : Nat → Int32} {Ls : Nat} {S : cS} {t : Nat} {b : Nat} (hb : cFm b) (hs : cSh (vw S b)) (hd : cBd (vw S b)) (hh : cHb (vw S b)) : cZ xs Ls 4 25 0 [(0, .ref b)] [] S t (cP (csum (fun i => bI (cFb (vw S b) i)) (vw S b 0 0).toNat) S t) := by
  obtain ⟨hd1, hd2, hd3⟩ := id hd
  refine cz_icst rfl cc_0 ?_
  refine cz_st1 (l' := [(0, _), (1, _)]) rfl rfl rfl ?_
  refine cz_icst rfl cc_0 ?_
  refine cz_st1 (l' := [(0, _), (1, _), (2, _)]) rfl rfl rfl ?_
  exact p_frontsBelow_loop hb hs hd hh (vw S b 0 0).toNat 0 0 (by omega) (by omega) rfl
set_option maxRecDepth 20000 in
theorem p_mp_loop2 {xs : Nat → Int32} {Ls : Nat} {S : cS} {t : Nat} {b : Nat} (hb : cFm b) (hs : cSh (vw S b)) (hd : cBd (vw S b)) : ∀ (k : Nat) (i : Int) (S1 : cS), 0 ≤ i → i + k = vw S b 0 0 → (∀ a, ¬ a = b + 5 → S1 a = S a) → (∀ p, 0 ≤ p → p < 32 → vw S1 b 5 p = csum (cMf (vw S b) p) i.toNat) →
    cZ xs Ls 1 7 23 [(0, .ref b), (1, .int (cI i))] [] S1 t (cQV (fun S' t' => t' = t ∧ (∀ a, ¬ a = b + 5 → S' a = S a) ∧ cMeas (vw S' b))) := by
  intro k
  induction k with
  | zero =>
    intro i S1 hi0 hi h1 h2
    have e0 : vw S1 b 0 = vw S b 0 := vw_c (h1 _ (by omega))
    have e1 : vw S1 b 1 = vw S b 1 := vw_c (h1 _ (by omega))
    have e2 : vw S1 b 2 = vw S b 2 := vw_c (h1 _ (by omega))
    have e3 : i = vw S b 0 0 := by omega
    have e4 : vw S1 b 0 0 = vw S b 0 0 := by rw [e0]
    obtain ⟨hd1, hd2, hd3⟩ := id hd
    subst e3
    refine cz_iload rfl rfl ?_
    refine cz_aload rfl rfl ?_
    refine cz_getF hb rfl rfl ?_
    refine cz_icge rfl (by omega) (by omega) (fun hb28 => ?_) (fun hb28 => ?_)
    rotate_left
    · exfalso; omega
    refine cz_ret0 rfl ?_
    refine cQV.mk ⟨rfl, h1, ?_⟩
    intro p hp0 hp1
    rw [h2 p hp0 hp1, e4]
    refine csum_cong _ (fun j _ _ => ?_)
    unfold cMf cHas
    rw [e0, e1, e2]
  | succ k ih =>
    intro i S1 hi0 hi h1 h2
    have e0 : vw S1 b 0 = vw S b 0 := vw_c (h1 _ (by omega))
    have e1 : vw S1 b 1 = vw S b 1 := vw_c (h1 _ (by omega))
    have e2 : vw S1 b 2 = vw S b 2 := vw_c (h1 _ (by omega))
    have e4 : vw S1 b 0 0 = vw S b 0 0 := by rw [e0]
    obtain ⟨hd1, hd2, hd3⟩ := id hd
    have hq := hd3 i hi0 (by omega)
    rw [← e1, ← e2] at hq
    have hs1 : cSh (vw S1 b) := by unfold cSh; rw [e0]; exact hs
    have hs2 := hs1.2.2.2.2
    have hn : (i + 1).toNat = i.toNat + 1 := by omega
    have hni : ((i.toNat : Nat) : Int) = i := by omega
    have hstep : ∀ p, csum (cMf (vw S b) p) (i + 1).toNat = csum (cMf (vw S b) p) i.toNat + bI (cHas (vw S1 b) (vw S1 b 1 i) (vw S1 b 2 i) ∧ vw S1 b 0 1 * vw S1 b 2 i + vw S1 b 1 i = p) := by
      intro p
      rw [hn]
      show csum (cMf (vw S b) p) i.toNat + cMf (vw S b) p ((i.toNat : Nat) : Int) = _
      rw [hni]
      unfold cMf cHas
      rw [e0, e1, e2]
    refine cz_iload rfl rfl ?_
    refine cz_aload rfl rfl ?_
    refine cz_getF hb rfl rfl ?_
    refine cz_icge rfl (by omega) (by omega) (fun hb28 => ?_) (fun hb28 => ?_)
    · exfalso; omega
    refine cz_aload rfl rfl ?_
    refine cz_aload rfl rfl ?_
    refine cz_getF hb rfl rfl ?_
    refine cz_iload rfl rfl ?_
    refine cz_ialdF (j := 1) hb (by decide) rfl (by omega) ?_
    refine cz_aload rfl rfl ?_
    refine cz_getF hb rfl rfl ?_
    refine cz_iload rfl rfl ?_
    refine cz_ialdF (j := 2) hb (by decide) rfl (by omega) ?_
    refine cz_cV3P rfl rfl rfl (cIsF hb) (Nat.le_of_ble_eq_true rfl) (p_hasPlace hb hs1 (by omega) (by omega)) ?_
    refine cz_ifeq rfl (by exact bI_ran) (fun hb47 => ?_) (fun hb47 => ?_)
    · replace hb47 := bI_0 hb47
      refine cz_iinc (l' := [(0, _), (1, _)]) rfl cc_1 rfl rfl ?_
      refine cz_goto rfl ?_
      refine ih (i + 1) _ (by omega) (by omega) ?_ ?_
      · intro a ha
        first
        | rw [setS_o ha]; exact h1 a ha
        | exact h1 a ha
      · intro p hp0 hp1
        have h3 := h2 p hp0 hp1
        rw [hstep, ← h3]
        first
        | rw [vw_e (by omega)]
          by_cases hpe : p = vw S1 b 0 1 * vw S1 b 2 i + vw S1 b 1 i
          · rw [if_pos hpe, bI_pos ⟨hb47, hpe.symm⟩, hpe]
          · rw [if_neg hpe, bI_neg (fun h => hpe h.2.symm)]; omega
        | rw [bI_neg (fun h => hb47 h.1)]; omega
    · replace hb47 := bI_n0 hb47
      have hix := cIdx ⟨hb47.1, hb47.2.1⟩ hb47.2.2
      refine cz_aload rfl rfl ?_
      refine cz_getF hb rfl rfl ?_
      refine cz_aload rfl rfl ?_
      refine cz_getF hb rfl rfl ?_
      refine cz_aload rfl rfl ?_
      refine cz_getF hb rfl rfl ?_
      refine cz_iload rfl rfl ?_
      refine cz_ialdF (j := 2) hb (by decide) rfl (by omega) ?_
      refine cz_imul rfl ?_
      refine cz_aload rfl rfl ?_
      refine cz_getF hb rfl rfl ?_
      refine cz_iload rfl rfl ?_
      refine cz_ialdF (j := 1) hb (by decide) rfl (by omega) ?_
      refine cz_iadd rfl ?_
      refine cz_dup2 rfl rfl rfl ?_
      refine cz_ialdF (j := 5) hb (by decide) rfl (by omega) ?_
      refine cz_icst rfl cc_1 ?_
      refine cz_iadd rfl ?_
      refine cz_iastF (j := 5) hb (by decide) rfl (by omega) ?_
      refine cz_iinc (l' := [(0, _), (1, _)]) rfl cc_1 rfl rfl ?_
      refine cz_goto rfl ?_
      refine ih (i + 1) _ (by omega) (by omega) ?_ ?_
      · intro a ha
        first
        | rw [setS_o ha]; exact h1 a ha
        | exact h1 a ha
      · intro p hp0 hp1
        have h3 := h2 p hp0 hp1
        rw [hstep, ← h3]
        first
        | rw [vw_e (by omega)]
          by_cases hpe : p = vw S1 b 0 1 * vw S1 b 2 i + vw S1 b 1 i
          · rw [if_pos hpe, bI_pos ⟨hb47, hpe.symm⟩, hpe]
          · rw [if_neg hpe, bI_neg (fun h => hpe h.2.symm)]; omega
        | rw [bI_neg (fun h => hb47 h.1)]; omega
set_option maxRecDepth 20000 in
theorem p_mp_loop1 {xs : Nat → Int32} {Ls : Nat} {S : cS} {t : Nat} {b : Nat} (hb : cFm b) (hs : cSh (vw S b)) (hd : cBd (vw S b)) : ∀ (k : Nat) (i : Int) (S1 : cS), 0 ≤ i → i + k = 32 → (∀ a, ¬ a = b + 5 → S1 a = S a) → (∀ p, 0 ≤ p → p < i → vw S1 b 5 p = 0) →
    cZ xs Ls 1 7 2 [(0, .ref b), (1, .int (cI i))] [] S1 t (cQV (fun S' t' => t' = t ∧ (∀ a, ¬ a = b + 5 → S' a = S a) ∧ cMeas (vw S' b))) := by
  intro k
  induction k with
  | zero =>
    intro i S1 hi0 hi h1 h2
    have e3 : i = 32 := by omega
    subst e3
    refine cz_iload rfl rfl ?_
    refine cz_icst rfl cc_32 ?_
    refine cz_icge rfl (by omega) (by omega) (fun hb5 => ?_) (fun hb5 => ?_)
    rotate_left
    · exfalso; omega
    refine cz_icst rfl cc_0 ?_
    refine cz_st1 (l' := [(0, _), (1, _)]) rfl rfl rfl ?_
    exact p_mp_loop2 hb hs hd (vw S b 0 0).toNat 0 S1 (by omega) (by have := hd.1; omega) h1 h2
  | succ k ih =>
    intro i S1 hi0 hi h1 h2
    refine cz_iload rfl rfl ?_
    refine cz_icst rfl cc_32 ?_
    refine cz_icge rfl (by omega) (by omega) (fun hb5 => ?_) (fun hb5 => ?_)
    · exfalso; omega
    refine cz_aload rfl rfl ?_
    refine cz_getF hb rfl rfl ?_
    refine cz_iload rfl rfl ?_
    refine cz_icst rfl cc_0 ?_
    refine cz_iastF (j := 5) hb (by decide) rfl (by omega) ?_
    refine cz_iinc (l' := [(0, _), (1, _)]) rfl cc_1 rfl rfl ?_
    refine cz_goto rfl ?_
    refine ih (i + 1) _ (by omega) (by omega) ?_ ?_
    · intro a ha
      rw [setS_o ha]; exact h1 a ha
    · intro p hp0 hp1
      rw [vw_e (by omega)]
      by_cases hpe : p = i
      · rw [if_pos hpe]
      · rw [if_neg hpe]; exact h2 p hp0 (by omega)
set_option maxRecDepth 20000 in
theorem p_measurePiles {xs : Nat → Int32} {Ls : Nat} {S : cS} {t : Nat} {b : Nat} (hb : cFm b) (hs : cSh (vw S b)) (hd : cBd (vw S b)) : cZ xs Ls 1 7 0 [(0, .ref b)] [] S t (cQV (fun S' t' => t' = t ∧ (∀ a, ¬ a = b + 5 → S' a = S a) ∧ cMeas (vw S' b))) := by
  refine cz_icst rfl cc_0 ?_
  refine cz_st1 (l' := [(0, _), (1, _)]) rfl rfl rfl ?_
  exact p_mp_loop1 hb hs hd 32 0 S (by omega) (by omega) (fun _ _ => rfl) (by intro p hp0 hp1; omega)
set_option maxRecDepth 20000 in
theorem p_spread_in {xs : Nat → Int32} {Ls : Nat} {S : cS} {t : Nat} {b : Nat} (hb : cFm b) {x y : Int} (hx : 1 ≤ x ∧ x ≤ 8) (hy : 1 ≤ y ∧ y ≤ 8) (hxy : x * y ≤ 32) {r : Int} (hr : 0 ≤ r ∧ r < y) (hk : ∀ S1 : cS, cFr b S S1 → vw S1 b 0 0 = x * y → vw S1 b 0 1 = x → vw S1 b 0 2 = y → (∀ r2 c, 0 ≤ r2 → r2 < r + 1 → 0 ≤ c → c < x → vw S1 b 1 (x * r2 + c) = c ∧ vw S1 b 2 (x * r2 + c) = r2 ∧ vw S1 b 3 (x * r2 + c) = 0 ∧ vw S1 b 4 (x * r2 + c) = 1) → cZ xs Ls 2 1 19 [(0, .ref b), (1, .int (cI x)), (2, .int (cI y)), (3, .int (cI (r + 1)))] [] S1 t (cQV (fun S' t' => t' = t ∧ cFr b S S' ∧ vw S' b 0 0 = x * y ∧ vw S' b 0 1 = x ∧ vw S' b 0 2 = y ∧ (∀ r c, 0 ≤ r → r < y → 0 ≤ c → c < x → vw S' b 1 (x * r + c) = c ∧ vw S' b 2 (x * r + c) = r ∧ vw S' b 3 (x * r + c) = 0 ∧ vw S' b 4 (x * r + c) = 1) ∧ cMeas (vw S' b)))) : ∀ (k : Nat) (i : Int) (S1 : cS), 0 ≤ i → i + k = x → cFr b S S1 → vw S1 b 0 0 = x * y → vw S1 b 0 1 = x → vw S1 b 0 2 = y → (∀ r2 c, 0 ≤ r2 → r2 ≤ r → 0 ≤ c → c < x → (r2 < r ∨ c < i) → vw S1 b 1 (x * r2 + c) = c ∧ vw S1 b 2 (x * r2 + c) = r2 ∧ vw S1 b 3 (x * r2 + c) = 0 ∧ vw S1 b 4 (x * r2 + c) = 1) →
    cZ xs Ls 2 1 27 [(0, .ref b), (1, .int (cI x)), (2, .int (cI y)), (3, .int (cI r)), (4, .int (cI i))] [] S1 t (cQV (fun S' t' => t' = t ∧ cFr b S S' ∧ vw S' b 0 0 = x * y ∧ vw S' b 0 1 = x ∧ vw S' b 0 2 = y ∧ (∀ r c, 0 ≤ r → r < y → 0 ≤ c → c < x → vw S' b 1 (x * r + c) = c ∧ vw S' b 2 (x * r + c) = r ∧ vw S' b 3 (x * r + c) = 0 ∧ vw S' b 4 (x * r + c) = 1) ∧ cMeas (vw S' b))) := by
  intro k
  induction k with
  | zero =>
    intro i S1 hi0 hi h1 h2 h3 h4 h5
    refine cz_iload rfl rfl ?_
    refine cz_iload rfl rfl ?_
    refine cz_icge rfl (by omega) (by omega) (fun hb30 => ?_) (fun hb30 => ?_)
    rotate_left
    · exfalso; omega
    refine cz_iinc (l' := [(0, _), (1, _), (2, _), (3, _), (4, _)]) rfl cc_1 rfl rfl ?_
    refine cz_goto rfl ?_
    refine cz_weak (fun i => i == 0 || i == 1 || i == 2 || i == 3) (l' := [(0, _), (1, _), (2, _), (3, _)]) rfl ?_
    exact hk S1 h1 h2 h3 h4 (fun r2 c a1 a2 a3 a4 => h5 r2 c a1 (by omega) a3 a4 (by omega))
  | succ k ih =>
    intro i S1 hi0 hi h1 h2 h3 h4 h5
    have hix := cIdx (C := x) (R := y) (x := i) (y := r) ⟨hi0, by omega⟩ hr
    refine cz_iload rfl rfl ?_
    refine cz_iload rfl rfl ?_
    refine cz_icge rfl (by omega) (by omega) (fun hb30 => ?_) (fun hb30 => ?_)
    · exfalso; omega
    refine cz_iload rfl rfl ?_
    refine cz_iload rfl rfl ?_
    refine cz_imul rfl ?_
    refine cz_iload rfl rfl ?_
    refine cz_iadd rfl ?_
    refine cz_st1 (l' := [(0, _), (1, _), (2, _), (3, _), (4, _), (5, _)]) rfl rfl rfl ?_
    refine cz_aload rfl rfl ?_
    refine cz_getF hb rfl rfl ?_
    refine cz_iload rfl rfl ?_
    refine cz_iload rfl rfl ?_
    refine cz_iastF (j := 1) hb (by decide) rfl (by omega) ?_
    refine cz_aload rfl rfl ?_
    refine cz_getF hb rfl rfl ?_
    refine cz_iload rfl rfl ?_
    refine cz_iload rfl rfl ?_
    refine cz_iastF (j := 2) hb (by decide) rfl (by omega) ?_
    refine cz_aload rfl rfl ?_
    refine cz_getF hb rfl rfl ?_
    refine cz_iload rfl rfl ?_
    refine cz_icst rfl cc_0 ?_
    refine cz_iastF (j := 3) hb (by decide) rfl (by omega) ?_
    refine cz_aload rfl rfl ?_
    refine cz_getF hb rfl rfl ?_
    refine cz_iload rfl rfl ?_
    refine cz_icst rfl cc_1 ?_
    refine cz_bastF hb rfl (by omega) (by omega) ?_
    refine cz_iinc (l' := [(0, _), (1, _), (2, _), (3, _), (4, _), (5, _)]) rfl cc_1 rfl rfl ?_
    refine cz_goto rfl ?_
    refine cz_weak (fun i => i == 0 || i == 1 || i == 2 || i == 3 || i == 4) (l' := [(0, _), (1, _), (2, _), (3, _), (4, _)]) rfl ?_
    refine ih (i + 1) _ (by omega) (by omega) ?_ ?_ ?_ ?_ ?_
    · exact (((h1.set (by omega)).set (by omega)).set (by omega)).set (by omega)
    · rw [vw_n (by omega), vw_n (by omega), vw_n (by omega), vw_n (by omega)]; exact h2
    · rw [vw_n (by omega), vw_n (by omega), vw_n (by omega), vw_n (by omega)]; exact h3
    · rw [vw_n (by omega), vw_n (by omega), vw_n (by omega), vw_n (by omega)]; exact h4
    · intro r2 c a1 a2 a3 a4 a5
      rw [vw_n (j' := 1) (by omega), vw_n (j' := 1) (by omega), vw_n (j' := 1) (by omega), vw_e (by omega), vw_n (j' := 2) (by omega), vw_n (j' := 2) (by omega), vw_e (by omega), vw_n (j' := 2) (by omega), vw_n (j' := 3) (by omega), vw_e (by omega), vw_n (j' := 3) (by omega), vw_n (j' := 3) (by omega), vw_e (by omega), vw_n (j' := 4) (by omega), vw_n (j' := 4) (by omega), vw_n (j' := 4) (by omega)]
      by_cases he : x * r2 + c = x * r + i
      · have he2 := cIdxInj (C := x) ⟨a3, a4⟩ ⟨hi0, by omega⟩ he
        rw [if_pos he, if_pos he, if_pos he, if_pos he]
        exact ⟨he2.2.symm, he2.1.symm, rfl, rfl⟩
      · rw [if_neg he, if_neg he, if_neg he, if_neg he]
        have hne : ¬ (r2 = r ∧ c = i) := by
          rintro ⟨hx1, hx2⟩
          subst hx1; subst hx2
          exact he rfl
        exact h5 r2 c a1 a2 a3 a4 (by omega)
set_option maxRecDepth 20000 in
theorem p_spread_loop {xs : Nat → Int32} {Ls : Nat} {S : cS} {t : Nat} {b : Nat} (hb : cFm b) {x y : Int} (hx : 1 ≤ x ∧ x ≤ 8) (hy : 1 ≤ y ∧ y ≤ 8) (hxy : x * y ≤ 32) : ∀ (k : Nat) (r : Int) (S1 : cS), 0 ≤ r → r + k = y → cFr b S S1 → vw S1 b 0 0 = x * y → vw S1 b 0 1 = x → vw S1 b 0 2 = y → (∀ r2 c, 0 ≤ r2 → r2 < r → 0 ≤ c → c < x → vw S1 b 1 (x * r2 + c) = c ∧ vw S1 b 2 (x * r2 + c) = r2 ∧ vw S1 b 3 (x * r2 + c) = 0 ∧ vw S1 b 4 (x * r2 + c) = 1) →
    cZ xs Ls 2 1 19 [(0, .ref b), (1, .int (cI x)), (2, .int (cI y)), (3, .int (cI r))] [] S1 t (cQV (fun S' t' => t' = t ∧ cFr b S S' ∧ vw S' b 0 0 = x * y ∧ vw S' b 0 1 = x ∧ vw S' b 0 2 = y ∧ (∀ r c, 0 ≤ r → r < y → 0 ≤ c → c < x → vw S' b 1 (x * r + c) = c ∧ vw S' b 2 (x * r + c) = r ∧ vw S' b 3 (x * r + c) = 0 ∧ vw S' b 4 (x * r + c) = 1) ∧ cMeas (vw S' b))) := by
  intro k
  induction k with
  | zero =>
    intro r S1 hi0 hi h1 h2 h3 h4 h5
    have e3 : r = y := by omega
    have hs1 : cSh (vw S1 b) := by unfold cSh; rw [h3, h4]; exact ⟨hx.1, hx.2, hy.1, hy.2, hxy⟩
    have hpos : ∀ j, 0 ≤ j → j < x * y → ∃ r2 c, 0 ≤ r2 ∧ r2 < y ∧ 0 ≤ c ∧ c < x ∧ j = x * r2 + c := fun j h0 h1 => cIdxSplit hx.1 h0 h1
    have hd1 : cBd (vw S1 b) := by
      have hxy0 : 0 ≤ x * y := Int.mul_nonneg (by omega) (by omega)
      refine ⟨by rw [h2]; omega, by rw [h2]; omega, ?_⟩
      intro j hj0 hj1
      rw [h2] at hj1
      obtain ⟨r2, c, a1, a2, a3, a4, a5⟩ := hpos j hj0 hj1
      obtain ⟨g1, g2, g3, g4⟩ := h5 r2 c a1 (by omega) a3 a4
      rw [a5, g1, g2, g3, g4]
      omega
    refine cz_iload rfl rfl ?_
    refine cz_iload rfl rfl ?_
    refine cz_icge rfl (by omega) (by omega) (fun hb21 => ?_) (fun hb21 => ?_)
    rotate_left
    · exfalso; omega
    refine cz_aload rfl rfl ?_
    refine cz_cV1V rfl rfl rfl (cIsF hb) (Nat.le_of_ble_eq_true rfl) (p_measurePiles hb hs1 hd1) (fun S87 t87 hq87 => ?_)
    obtain ⟨ht, hf, hm⟩ := hq87
    refine cz_ret0 rfl ?_
    have e0 : vw S87 b 0 = vw S1 b 0 := vw_c (hf _ (by omega))
    have e1 : vw S87 b 1 = vw S1 b 1 := vw_c (hf _ (by omega))
    have e2 : vw S87 b 2 = vw S1 b 2 := vw_c (hf _ (by omega))
    have e4 : vw S87 b 3 = vw S1 b 3 := vw_c (hf _ (by omega))
    have e5 : vw S87 b 4 = vw S1 b 4 := vw_c (hf _ (by omega))
    refine cQV.mk ⟨ht, fun a ha => ?_, ?_, ?_, ?_, ?_, hm⟩
    · rw [hf a (by omega)]; exact h1 a ha
    · rw [e0]; exact h2
    · rw [e0]; exact h3
    · rw [e0]; exact h4
    · rw [e1, e2, e4, e5]
      intro r2 c a1 a2 a3 a4
      exact h5 r2 c a1 (by omega) a3 a4
  | succ k ih =>
    intro r S1 hi0 hi h1 h2 h3 h4 h5
    refine cz_iload rfl rfl ?_
    refine cz_iload rfl rfl ?_
    refine cz_icge rfl (by omega) (by omega) (fun hb21 => ?_) (fun hb21 => ?_)
    · exfalso; omega
    refine cz_icst rfl cc_0 ?_
    refine cz_st1 (l' := [(0, _), (1, _), (2, _), (3, _), (4, _)]) rfl rfl rfl ?_
    refine p_spread_in hb hx hy hxy ⟨hi0, by omega⟩ (fun S2 g1 g2 g3 g4 g5 => ih (r + 1) S2 (by omega) (by omega) g1 g2 g3 g4 g5) x.toNat 0 S1 (by omega) (by omega) h1 h2 h3 h4 ?_
    intro r2 c a1 a2 a3 a4 a5
    exact h5 r2 c a1 (by omega) a3 a4
set_option maxRecDepth 20000 in
theorem p_spread {xs : Nat → Int32} {Ls : Nat} {S : cS} {t : Nat} {b : Nat} (hb : cFm b) {x y : Int} (hx : 1 ≤ x ∧ x ≤ 8) (hy : 1 ≤ y ∧ y ≤ 8) (hxy : x * y ≤ 32) : cZ xs Ls 2 1 0 [(0, .ref b), (1, .int (cI x)), (2, .int (cI y))] [] S t (cQV (fun S' t' => t' = t ∧ cFr b S S' ∧ vw S' b 0 0 = x * y ∧ vw S' b 0 1 = x ∧ vw S' b 0 2 = y ∧ (∀ r c, 0 ≤ r → r < y → 0 ≤ c → c < x → vw S' b 1 (x * r + c) = c ∧ vw S' b 2 (x * r + c) = r ∧ vw S' b 3 (x * r + c) = 0 ∧ vw S' b 4 (x * r + c) = 1) ∧ cMeas (vw S' b))) := by
  refine cz_aload rfl rfl ?_
  refine cz_iload rfl rfl ?_
  refine cz_iload rfl rfl ?_
  refine cz_imul rfl ?_
  refine cz_putF hb rfl (by decide) ?_
  refine cz_aload rfl rfl ?_
  refine cz_iload rfl rfl ?_
  refine cz_putF hb rfl (by decide) ?_
  refine cz_aload rfl rfl ?_
  refine cz_iload rfl rfl ?_
  refine cz_putF hb rfl (by decide) ?_
  refine cz_icst rfl cc_0 ?_
  refine cz_st1 (l' := [(0, _), (1, _), (2, _), (3, _)]) rfl rfl rfl ?_
  refine p_spread_loop hb hx hy hxy y.toNat 0 _ (by omega) (by omega) ?_ ?_ ?_ ?_ ?_
  · intro a ha
    rw [setS_o (by omega), setS_o (by omega), setS_o (by omega)]
  · rw [vw_e0, vw_e0, vw_e0, if_neg (by omega), if_neg (by omega), if_pos (by omega)]
  · rw [vw_e0, vw_e0, if_neg (by omega), if_pos (by omega)]
  · rw [vw_e0, if_pos (by omega)]
  · intro r2 c a1 a2; omega
set_option maxRecDepth 20000 in
theorem p_copyFrom_loop {xs : Nat → Int32} {Ls : Nat} {S : cS} {t : Nat} {b : Nat} (hb : cFm b) {b0 : Nat} (hb0 : cFm b0) (hdis : b + 6 ≤ b0 ∨ b0 + 6 ≤ b) (hup : ∀ i, 0 ≤ i → i < 32 → vw S b0 4 i = 0 ∨ vw S b0 4 i = 1) : ∀ (k : Nat) (i : Int) (S1 : cS), 0 ≤ i → i + k = 32 → cFr b S S1 → vw S1 b 0 0 = vw S b0 0 0 → vw S1 b 0 1 = vw S b0 0 1 → vw S1 b 0 2 = vw S b0 0 2 → (∀ j, 1 ≤ j → j < 6 → ∀ q, 0 ≤ q → q < i → vw S1 b j q = vw S b0 j q) →
    cZ xs Ls 0 2 26 [(0, .ref b), (1, .ref b0), (2, .int (cI i))] [] S1 t (cQV (fun S' t' => t' = t ∧ cFr b S S' ∧ vw S' b 0 0 = vw S b0 0 0 ∧ vw S' b 0 1 = vw S b0 0 1 ∧ vw S' b 0 2 = vw S b0 0 2 ∧ ∀ j, 1 ≤ j → j < 6 → ∀ i, 0 ≤ i → i < 32 → vw S' b j i = vw S b0 j i)) := by
  intro k
  induction k with
  | zero =>
    intro i S1 hi0 hi h1 h2 h3 h4 h5
    have e3 : i = 32 := by omega
    subst e3
    refine cz_iload rfl rfl ?_
    refine cz_icst rfl cc_32 ?_
    refine cz_icge rfl (by omega) (by omega) (fun hb29 => ?_) (fun hb29 => ?_)
    rotate_left
    · exfalso; omega
    refine cz_ret0 rfl ?_
    exact cQV.mk ⟨rfl, h1, h2, h3, h4, h5⟩
  | succ k ih =>
    intro i S1 hi0 hi h1 h2 h3 h4 h5
    have ef : vw S1 b0 = vw S b0 := vw_eq (fun a _ _ => h1 a (by omega))
    have hui := hup i hi0 (by omega)
    rw [← ef] at hui
    refine cz_iload rfl rfl ?_
    refine cz_icst rfl cc_32 ?_
    refine cz_icge rfl (by omega) (by omega) (fun hb29 => ?_) (fun hb29 => ?_)
    · exfalso; omega
    refine cz_aload rfl rfl ?_
    refine cz_getF hb rfl rfl ?_
    refine cz_iload rfl rfl ?_
    refine cz_aload rfl rfl ?_
    refine cz_getF hb0 rfl rfl ?_
    refine cz_iload rfl rfl ?_
    refine cz_ialdF (j := 1) hb0 (by decide) rfl (by omega) ?_
    refine cz_iastF (j := 1) hb (by decide) rfl (by omega) ?_
    refine cz_aload rfl rfl ?_
    refine cz_getF hb rfl rfl ?_
    refine cz_iload rfl rfl ?_
    refine cz_aload rfl rfl ?_
    refine cz_getF hb0 rfl rfl ?_
    refine cz_iload rfl rfl ?_
    refine cz_ialdF (j := 2) hb0 (by decide) rfl (by omega) ?_
    refine cz_iastF (j := 2) hb (by decide) rfl (by omega) ?_
    refine cz_aload rfl rfl ?_
    refine cz_getF hb rfl rfl ?_
    refine cz_iload rfl rfl ?_
    refine cz_aload rfl rfl ?_
    refine cz_getF hb0 rfl rfl ?_
    refine cz_iload rfl rfl ?_
    refine cz_ialdF (j := 3) hb0 (by decide) rfl (by omega) ?_
    refine cz_iastF (j := 3) hb (by decide) rfl (by omega) ?_
    refine cz_aload rfl rfl ?_
    refine cz_getF hb rfl rfl ?_
    refine cz_iload rfl rfl ?_
    refine cz_aload rfl rfl ?_
    refine cz_getF hb0 rfl rfl ?_
    refine cz_iload rfl rfl ?_
    refine cz_baldF hb0 rfl (by omega) ?_
    refine cz_bastF hb rfl (by first | omega | (rw [vw_o (by omega), vw_o (by omega), vw_o (by omega)]; omega)) (by first | omega | (rw [vw_o (by omega), vw_o (by omega), vw_o (by omega)]; omega)) ?_
    refine cz_aload rfl rfl ?_
    refine cz_getF hb rfl rfl ?_
    refine cz_iload rfl rfl ?_
    refine cz_aload rfl rfl ?_
    refine cz_getF hb0 rfl rfl ?_
    refine cz_iload rfl rfl ?_
    refine cz_ialdF (j := 5) hb0 (by decide) rfl (by omega) ?_
    refine cz_iastF (j := 5) hb (by decide) rfl (by omega) ?_
    refine cz_iinc (l' := [(0, _), (1, _), (2, _)]) rfl cc_1 rfl rfl ?_
    refine cz_goto rfl ?_
    refine ih (i + 1) _ (by omega) (by omega) ?_ ?_ ?_ ?_ ?_
    · exact ((((h1.set (by omega)).set (by omega)).set (by omega)).set (by omega)).set (by omega)
    · rw [vw_n (by omega), vw_n (by omega), vw_n (by omega), vw_n (by omega), vw_n (by omega)]; exact h2
    · rw [vw_n (by omega), vw_n (by omega), vw_n (by omega), vw_n (by omega), vw_n (by omega)]; exact h3
    · rw [vw_n (by omega), vw_n (by omega), vw_n (by omega), vw_n (by omega), vw_n (by omega)]; exact h4
    · intro j hj1 hj2 q hq0 hq1
      have ef1 : ∀ q, S1 (b0 + 1) q = vw S b0 1 q := fun q => by rw [← ef]; exact vw_at q (by omega)
      have h6 := h5 j hj1 hj2 q hq0
      obtain hj | hj | hj | hj | hj : j = 1 ∨ j = 2 ∨ j = 3 ∨ j = 4 ∨ j = 5 := by omega
      · subst hj
        rw [vw_n (by omega), vw_n (by omega), vw_n (by omega), vw_n (by omega), vw_e (by omega)]
        by_cases he : q = i
        · rw [if_pos he, he, ef]
        · rw [if_neg he]; exact h6 (by omega)
      · subst hj
        rw [vw_n (by omega), vw_n (by omega), vw_n (by omega), vw_e (by omega), vw_n (by omega)]
        by_cases he : q = i
        · rw [if_pos he, he, vw_o (by omega), ef]
        · rw [if_neg he]; exact h6 (by omega)
      · subst hj
        rw [vw_n (by omega), vw_n (by omega), vw_e (by omega), vw_n (by omega), vw_n (by omega)]
        by_cases he : q = i
        · rw [if_pos he, he, vw_o (by omega), vw_o (by omega), ef]
        · rw [if_neg he]; exact h6 (by omega)
      · subst hj
        rw [vw_n (by omega), vw_e (by omega), vw_n (by omega), vw_n (by omega), vw_n (by omega)]
        by_cases he : q = i
        · rw [if_pos he, he, vw_o (by omega), vw_o (by omega), vw_o (by omega), ef]
        · rw [if_neg he]; exact h6 (by omega)
      · subst hj
        rw [vw_e (by omega), vw_n (by omega), vw_n (by omega), vw_n (by omega), vw_n (by omega)]
        by_cases he : q = i
        · rw [if_pos he, he, vw_o (by omega), vw_o (by omega), vw_o (by omega), vw_o (by omega), ef]
        · rw [if_neg he]; exact h6 (by omega)
set_option maxRecDepth 20000 in
theorem p_copyFrom {xs : Nat → Int32} {Ls : Nat} {S : cS} {t : Nat} {b : Nat} (hb : cFm b) {b0 : Nat} (hb0 : cFm b0) (hdis : b + 6 ≤ b0 ∨ b0 + 6 ≤ b) : cZ xs Ls 0 2 0 [(0, .ref b), (1, .ref b0)] [] S t (cQV (fun S' t' => t' = t ∧ cFr b S S' ∧ vw S' b 0 0 = vw S b0 0 0 ∧ vw S' b 0 1 = vw S b0 0 1 ∧ vw S' b 0 2 = vw S b0 0 2 ∧ ∀ j, 1 ≤ j → j < 6 → ∀ i, 0 ≤ i → i < 32 → vw S' b j i = vw S b0 j i)) := by
  refine cz_bool hb0 (fun hup => ?_)
  refine cz_aload rfl rfl ?_
  refine cz_aload rfl rfl ?_
  refine cz_getF hb0 rfl rfl ?_
  refine cz_putF hb rfl (by decide) ?_
  refine cz_aload rfl rfl ?_
  refine cz_aload rfl rfl ?_
  refine cz_getF hb0 rfl rfl ?_
  refine cz_putF hb rfl (by decide) ?_
  refine cz_aload rfl rfl ?_
  refine cz_aload rfl rfl ?_
  refine cz_getF hb0 rfl rfl ?_
  refine cz_putF hb rfl (by decide) ?_
  refine cz_icst rfl cc_0 ?_
  refine cz_st1 (l' := [(0, _), (1, _), (2, _)]) rfl rfl rfl ?_
  refine p_copyFrom_loop hb hb0 hdis hup 32 0 _ (by omega) (by omega) ?_ ?_ ?_ ?_ ?_
  · intro a ha
    rw [setS_o (by omega), setS_o (by omega), setS_o (by omega)]
  · rw [vw_e0, vw_e0, vw_e0, if_neg (by omega), if_neg (by omega), if_pos (by omega)]
  · rw [vw_e0, vw_e0, if_neg (by omega), if_pos (by omega), vw_o (by omega)]
  · rw [vw_e0, if_pos (by omega), vw_o (by omega), vw_o (by omega)]
  · intro j _ _ q _ _; omega
set_option maxRecDepth 20000 in
theorem p_layerBehind {xs : Nat → Int32} {Ls : Nat} {S : cS} {t : Nat} {b : Nat} (hb : cFm b) (hs : cSh (vw S b)) (hd : cBd (vw S b)) (hh : cHb (vw S b)) {c : Int} (hc : 0 ≤ c ∧ c < vw S b 0 0) {k : Int} (hk : 0 ≤ k ∧ k < 1000) : cZ xs Ls 3 4 0 [(0, .ref b), (1, .int (cI c)), (2, .int (cI k))] [] S t (cP (cLay (vw S b) k c) S t) := by
  obtain ⟨hd1, hd2, hd3⟩ := id hd
  have hq := hd3 c hc.1 hc.2
  have hm1 := cMc_b hk hq.1
  have hm2 := cMr_b hk hq.2.1
  by_cases hg : cGoes (vw S b) c k
  · by_cases ho : k % 2 = 1
    · skip
      refine cz_aload rfl rfl ?_
      refine cz_iload rfl rfl ?_
      refine cz_iload rfl rfl ?_
      refine cz_cV3P rfl rfl rfl (cIsF hb) (Nat.le_of_ble_eq_true rfl) (p_goes hb hd hc hk) ?_
      refine cz_st1 (l' := [(0, _), (1, _), (2, _), (3, _)]) rfl rfl rfl ?_
      refine cz_iload rfl rfl ?_
      refine cz_ifeq rfl (by exact bI_ran) (fun hb8 => ?_) (fun hb8 => ?_)
      · replace hb8 := bI_0 hb8
        exact absurd hg hb8
      · replace hb8 := bI_n0 hb8
        refine cz_aload rfl rfl ?_
        refine cz_iload rfl rfl ?_
        refine cz_cV2P rfl rfl rfl (cIsF hb) (Nat.le_of_ble_eq_true rfl) (p_lfa hb hs hd hh hc) ?_
        refine cz_goto rfl ?_
        refine cz_st1 (l' := [(0, _), (1, _), (2, _), (3, _), (4, _)]) rfl rfl rfl ?_
        refine cz_iload rfl rfl ?_
        refine cz_iload rfl rfl ?_
        refine cz_cS1P rfl rfl rfl rfl (Nat.le_of_ble_eq_true rfl) (p_isOver hk) ?_
        refine cz_icne rfl (by exact bI_ran) (by exact bI_ran) (fun hb32 => ?_) (fun hb32 => ?_)
        · exfalso; rw [bI_pos hg, cOv_pos ho] at hb32; omega
        refine cz_icst rfl cc_1 ?_
        refine cz_goto rfl ?_
        refine cz_st1 (l' := [(0, _), (1, _), (2, _), (3, _), (4, _), (5, _)]) rfl rfl rfl ?_
        refine cz_iload rfl rfl ?_
        refine cz_ifeq rfl (by omega) (fun hb44 => ?_) (fun hb44 => ?_)
        · exfalso; omega
        refine cz_aload rfl rfl ?_
        refine cz_aload rfl rfl ?_
        refine cz_iload rfl rfl ?_
        refine cz_iload rfl rfl ?_
        refine cz_cV3P rfl rfl rfl (cIsF hb) (Nat.le_of_ble_eq_true rfl) (p_mc hb hd hc hk) ?_
        refine cz_aload rfl rfl ?_
        refine cz_iload rfl rfl ?_
        refine cz_iload rfl rfl ?_
        refine cz_cV3P rfl rfl rfl (cIsF hb) (Nat.le_of_ble_eq_true rfl) (p_mr hb hd hc hk) ?_
        refine cz_cV3P rfl rfl rfl (cIsF hb) (Nat.le_of_ble_eq_true rfl) (p_heightAt hb hs (by omega) (by omega)) ?_
        refine cz_goto rfl ?_
        refine cz_st1 (l' := [(0, _), (1, _), (2, _), (3, _), (4, _), (5, _), (6, _)]) rfl rfl rfl ?_
        refine cz_iload rfl rfl ?_
        refine cz_iload rfl rfl ?_
        refine cz_iadd rfl ?_
        refine cz_retI rfl ?_
        exact cP.mk (by unfold cLay; rw [if_pos (Or.inl ⟨hg, ho⟩), if_pos hg])
    · skip
      refine cz_aload rfl rfl ?_
      refine cz_iload rfl rfl ?_
      refine cz_iload rfl rfl ?_
      refine cz_cV3P rfl rfl rfl (cIsF hb) (Nat.le_of_ble_eq_true rfl) (p_goes hb hd hc hk) ?_
      refine cz_st1 (l' := [(0, _), (1, _), (2, _), (3, _)]) rfl rfl rfl ?_
      refine cz_iload rfl rfl ?_
      refine cz_ifeq rfl (by exact bI_ran) (fun hb8 => ?_) (fun hb8 => ?_)
      · replace hb8 := bI_0 hb8
        exact absurd hg hb8
      · replace hb8 := bI_n0 hb8
        refine cz_aload rfl rfl ?_
        refine cz_iload rfl rfl ?_
        refine cz_cV2P rfl rfl rfl (cIsF hb) (Nat.le_of_ble_eq_true rfl) (p_lfa hb hs hd hh hc) ?_
        refine cz_goto rfl ?_
        refine cz_st1 (l' := [(0, _), (1, _), (2, _), (3, _), (4, _)]) rfl rfl rfl ?_
        refine cz_iload rfl rfl ?_
        refine cz_iload rfl rfl ?_
        refine cz_cS1P rfl rfl rfl rfl (Nat.le_of_ble_eq_true rfl) (p_isOver hk) ?_
        refine cz_icne rfl (by exact bI_ran) (by exact bI_ran) (fun hb32 => ?_) (fun hb32 => ?_)
        rotate_left
        · exfalso; rw [bI_pos hg, cOv_neg ho] at hb32; omega
        refine cz_icst rfl cc_0 ?_
        refine cz_st1 (l' := [(0, _), (1, _), (2, _), (3, _), (4, _), (5, _)]) rfl rfl rfl ?_
        refine cz_iload rfl rfl ?_
        refine cz_ifeq rfl (by omega) (fun hb44 => ?_) (fun hb44 => ?_)
        rotate_left
        · exfalso; omega
        refine cz_icst rfl cc_0 ?_
        refine cz_st1 (l' := [(0, _), (1, _), (2, _), (3, _), (4, _), (5, _), (6, _)]) rfl rfl rfl ?_
        refine cz_iload rfl rfl ?_
        refine cz_iload rfl rfl ?_
        refine cz_iadd rfl ?_
        refine cz_retI rfl ?_
        exact cP.mk (by unfold cLay; rw [if_neg (fun h => h.elim (fun h => ho h.2) (fun h => h.1 hg)), if_pos hg])
  · by_cases ho : k % 2 = 1
    · skip
      refine cz_aload rfl rfl ?_
      refine cz_iload rfl rfl ?_
      refine cz_iload rfl rfl ?_
      refine cz_cV3P rfl rfl rfl (cIsF hb) (Nat.le_of_ble_eq_true rfl) (p_goes hb hd hc hk) ?_
      refine cz_st1 (l' := [(0, _), (1, _), (2, _), (3, _)]) rfl rfl rfl ?_
      refine cz_iload rfl rfl ?_
      refine cz_ifeq rfl (by exact bI_ran) (fun hb8 => ?_) (fun hb8 => ?_)
      · replace hb8 := bI_0 hb8
        refine cz_aload rfl rfl ?_
        refine cz_getF hb rfl rfl ?_
        refine cz_iload rfl rfl ?_
        refine cz_ialdF (j := 3) hb (by decide) rfl (by omega) ?_
        refine cz_st1 (l' := [(0, _), (1, _), (2, _), (3, _), (4, _)]) rfl rfl rfl ?_
        refine cz_iload rfl rfl ?_
        refine cz_iload rfl rfl ?_
        refine cz_cS1P rfl rfl rfl rfl (Nat.le_of_ble_eq_true rfl) (p_isOver hk) ?_
        refine cz_icne rfl (by exact bI_ran) (by exact bI_ran) (fun hb32 => ?_) (fun hb32 => ?_)
        rotate_left
        · exfalso; rw [bI_neg hg, cOv_pos ho] at hb32; omega
        refine cz_icst rfl cc_0 ?_
        refine cz_st1 (l' := [(0, _), (1, _), (2, _), (3, _), (4, _), (5, _)]) rfl rfl rfl ?_
        refine cz_iload rfl rfl ?_
        refine cz_ifeq rfl (by omega) (fun hb44 => ?_) (fun hb44 => ?_)
        rotate_left
        · exfalso; omega
        refine cz_icst rfl cc_0 ?_
        refine cz_st1 (l' := [(0, _), (1, _), (2, _), (3, _), (4, _), (5, _), (6, _)]) rfl rfl rfl ?_
        refine cz_iload rfl rfl ?_
        refine cz_iload rfl rfl ?_
        refine cz_iadd rfl ?_
        refine cz_retI rfl ?_
        exact cP.mk (by unfold cLay; rw [if_neg (fun h => h.elim (fun h => hg h.1) (fun h => h.2 ho)), if_neg hg])
      · replace hb8 := bI_n0 hb8
        exact absurd hb8 hg
    · skip
      refine cz_aload rfl rfl ?_
      refine cz_iload rfl rfl ?_
      refine cz_iload rfl rfl ?_
      refine cz_cV3P rfl rfl rfl (cIsF hb) (Nat.le_of_ble_eq_true rfl) (p_goes hb hd hc hk) ?_
      refine cz_st1 (l' := [(0, _), (1, _), (2, _), (3, _)]) rfl rfl rfl ?_
      refine cz_iload rfl rfl ?_
      refine cz_ifeq rfl (by exact bI_ran) (fun hb8 => ?_) (fun hb8 => ?_)
      · replace hb8 := bI_0 hb8
        refine cz_aload rfl rfl ?_
        refine cz_getF hb rfl rfl ?_
        refine cz_iload rfl rfl ?_
        refine cz_ialdF (j := 3) hb (by decide) rfl (by omega) ?_
        refine cz_st1 (l' := [(0, _), (1, _), (2, _), (3, _), (4, _)]) rfl rfl rfl ?_
        refine cz_iload rfl rfl ?_
        refine cz_iload rfl rfl ?_
        refine cz_cS1P rfl rfl rfl rfl (Nat.le_of_ble_eq_true rfl) (p_isOver hk) ?_
        refine cz_icne rfl (by exact bI_ran) (by exact bI_ran) (fun hb32 => ?_) (fun hb32 => ?_)
        · exfalso; rw [bI_neg hg, cOv_neg ho] at hb32; omega
        refine cz_icst rfl cc_1 ?_
        refine cz_goto rfl ?_
        refine cz_st1 (l' := [(0, _), (1, _), (2, _), (3, _), (4, _), (5, _)]) rfl rfl rfl ?_
        refine cz_iload rfl rfl ?_
        refine cz_ifeq rfl (by omega) (fun hb44 => ?_) (fun hb44 => ?_)
        · exfalso; omega
        refine cz_aload rfl rfl ?_
        refine cz_aload rfl rfl ?_
        refine cz_iload rfl rfl ?_
        refine cz_iload rfl rfl ?_
        refine cz_cV3P rfl rfl rfl (cIsF hb) (Nat.le_of_ble_eq_true rfl) (p_mc hb hd hc hk) ?_
        refine cz_aload rfl rfl ?_
        refine cz_iload rfl rfl ?_
        refine cz_iload rfl rfl ?_
        refine cz_cV3P rfl rfl rfl (cIsF hb) (Nat.le_of_ble_eq_true rfl) (p_mr hb hd hc hk) ?_
        refine cz_cV3P rfl rfl rfl (cIsF hb) (Nat.le_of_ble_eq_true rfl) (p_heightAt hb hs (by omega) (by omega)) ?_
        refine cz_goto rfl ?_
        refine cz_st1 (l' := [(0, _), (1, _), (2, _), (3, _), (4, _), (5, _), (6, _)]) rfl rfl rfl ?_
        refine cz_iload rfl rfl ?_
        refine cz_iload rfl rfl ?_
        refine cz_iadd rfl ?_
        refine cz_retI rfl ?_
        exact cP.mk (by unfold cLay; rw [if_pos (Or.inr ⟨hg, ho⟩), if_neg hg])
      · replace hb8 := bI_n0 hb8
        exact absurd hb8 hg

