/-! Leaves: the static methods of the class, and what a Form answers of a cell -/
set_option maxRecDepth 20000 in
theorem p_numberOf {xs : Nat → Int32} {Ls : Nat} {S : cS} {t : Nat} {x : Int} (hx : x = 0 ∨ x = 1) : cZ xs Ls 0 80 0 [(0, .int (cI x))] [] S t (cP x S t) := by
  refine cz_iload rfl rfl ?_
  refine cz_ifeq rfl (by omega) (fun hb1 => ?_) (fun hb1 => ?_)
  · skip
    refine cz_icst rfl cc_0 ?_
    refine cz_retI rfl ?_
    exact cP.mk (by omega)
  · skip
    refine cz_icst rfl cc_1 ?_
    refine cz_goto rfl ?_
    refine cz_retI rfl ?_
    exact cP.mk (by omega)
set_option maxRecDepth 20000 in
theorem p_codeOf {xs : Nat → Int32} {Ls : Nat} {S : cS} {t : Nat} {a l f o : Int} (hf : f = 0 ∨ f = 1) (ho : o = 0 ∨ o = 1) : cZ xs Ls 1 81 0 [(0, .int (cI a)), (1, .int (cI l)), (2, .int (cI f)), (3, .int (cI o))] [] S t (cP (8 * l + 4 * a + 2 * f + o) S t) := by
  refine cz_icst rfl cc_8 ?_
  refine cz_iload rfl rfl ?_
  refine cz_imul rfl ?_
  refine cz_icst rfl cc_4 ?_
  refine cz_iload rfl rfl ?_
  refine cz_imul rfl ?_
  refine cz_iadd rfl ?_
  refine cz_icst rfl cc_2 ?_
  refine cz_iload rfl rfl ?_
  refine cz_cS1P rfl rfl rfl rfl (Nat.le_of_ble_eq_true rfl) (p_numberOf (by omega)) ?_
  refine cz_imul rfl ?_
  refine cz_iadd rfl ?_
  refine cz_iload rfl rfl ?_
  refine cz_cS1P rfl rfl rfl rfl (Nat.le_of_ble_eq_true rfl) (p_numberOf (by omega)) ?_
  refine cz_iadd rfl ?_
  refine cz_retI rfl ?_
  exact cP.mk rfl
set_option maxRecDepth 20000 in
theorem p_lineOf {xs : Nat → Int32} {Ls : Nat} {S : cS} {t : Nat} {c : Int} (hc : 0 ≤ c ∧ c < 1000) : cZ xs Ls 0 82 0 [(0, .int (cI c))] [] S t (cP (c / 8) S t) := by
  refine cz_iload rfl rfl ?_
  refine cz_icst rfl cc_8 ?_
  refine cz_idiv rfl (by omega) (by omega) ?_
  refine cz_retI rfl ?_
  exact cP.mk rfl
set_option maxRecDepth 20000 in
theorem p_axisOf {xs : Nat → Int32} {Ls : Nat} {S : cS} {t : Nat} {c : Int} (hc : 0 ≤ c ∧ c < 1000) : cZ xs Ls 0 83 0 [(0, .int (cI c))] [] S t (cP (c / 4 % 2) S t) := by
  refine cz_iload rfl rfl ?_
  refine cz_icst rfl cc_4 ?_
  refine cz_idiv rfl (by omega) (by omega) ?_
  refine cz_icst rfl cc_2 ?_
  refine cz_irem rfl (by omega) (by omega) ?_
  refine cz_retI rfl ?_
  exact cP.mk rfl
set_option maxRecDepth 20000 in
theorem p_isFar {xs : Nat → Int32} {Ls : Nat} {S : cS} {t : Nat} {c : Int} (hc : 0 ≤ c ∧ c < 1000) : cZ xs Ls 0 84 0 [(0, .int (cI c))] [] S t (cP (bI (c / 2 % 2 = 1)) S t) := by
  refine cz_iload rfl rfl ?_
  refine cz_icst rfl cc_2 ?_
  refine cz_idiv rfl (by omega) (by omega) ?_
  refine cz_icst rfl cc_2 ?_
  refine cz_irem rfl (by omega) (by omega) ?_
  refine cz_icst rfl cc_1 ?_
  refine cz_icne rfl (by omega) (by omega) (fun hb6 => ?_) (fun hb6 => ?_)
  · skip
    refine cz_icst rfl cc_0 ?_
    refine cz_retZ rfl (by omega) ?_
    exact cP.mk (by first | exact (bI_pos (by omega)).symm | exact (bI_neg (by omega)).symm)
  · skip
    refine cz_icst rfl cc_1 ?_
    refine cz_goto rfl ?_
    refine cz_retZ rfl (by omega) ?_
    exact cP.mk (by first | exact (bI_pos (by omega)).symm | exact (bI_neg (by omega)).symm)
set_option maxRecDepth 20000 in
theorem p_isOver {xs : Nat → Int32} {Ls : Nat} {S : cS} {t : Nat} {c : Int} (hc : 0 ≤ c ∧ c < 1000) : cZ xs Ls 0 85 0 [(0, .int (cI c))] [] S t (cP (cOv c) S t) := by
  unfold cOv
  refine cz_iload rfl rfl ?_
  refine cz_icst rfl cc_2 ?_
  refine cz_irem rfl (by omega) (by omega) ?_
  refine cz_icst rfl cc_1 ?_
  refine cz_icne rfl (by omega) (by omega) (fun hb4 => ?_) (fun hb4 => ?_)
  · skip
    refine cz_icst rfl cc_0 ?_
    refine cz_retZ rfl (by omega) ?_
    exact cP.mk (by first | exact (bI_pos (by omega)).symm | exact (bI_neg (by omega)).symm)
  · skip
    refine cz_icst rfl cc_1 ?_
    refine cz_goto rfl ?_
    refine cz_retZ rfl (by omega) ?_
    exact cP.mk (by first | exact (bI_pos (by omega)).symm | exact (bI_neg (by omega)).symm)
set_option maxRecDepth 20000 in
theorem p_pairOf {xs : Nat → Int32} {Ls : Nat} {S : cS} {t : Nat} {x y : Int} (hy : y = 0 ∨ y = 1) : cZ xs Ls 1 86 0 [(0, .int (cI x)), (1, .int (cI y))] [] S t (cP (2 * x + y) S t) := by
  refine cz_icst rfl cc_2 ?_
  refine cz_iload rfl rfl ?_
  refine cz_imul rfl ?_
  refine cz_iload rfl rfl ?_
  refine cz_cS1P rfl rfl rfl rfl (Nat.le_of_ble_eq_true rfl) (p_numberOf (by omega)) ?_
  refine cz_iadd rfl ?_
  refine cz_retI rfl ?_
  exact cP.mk rfl
set_option maxRecDepth 20000 in
theorem p_sideOf {xs : Nat → Int32} {Ls : Nat} {S : cS} {t : Nat} {x y : Int} (hy : y = 0 ∨ y = 1) : cZ xs Ls 1 87 0 [(0, .int (cI x)), (1, .int (cI y))] [] S t (cP (2 * x + y) S t) := by
  refine cz_icst rfl cc_2 ?_
  refine cz_iload rfl rfl ?_
  refine cz_imul rfl ?_
  refine cz_iload rfl rfl ?_
  refine cz_cS1P rfl rfl rfl rfl (Nat.le_of_ble_eq_true rfl) (p_numberOf (by omega)) ?_
  refine cz_iadd rfl ?_
  refine cz_retI rfl ?_
  exact cP.mk rfl
set_option maxRecDepth 20000 in
theorem p_nearest {xs : Nat → Int32} {Ls : Nat} {S : cS} {t : Nat} {x y : Int} (hx : 0 ≤ x ∧ x < 1000000) (hy : 0 < y ∧ y < 1000000) : cZ xs Ls 0 78 0 [(0, .int (cI x)), (1, .int (cI y))] [] S t (cP (cNear x y) S t) := by
  have hq0 : 0 ≤ x / y := Int.ediv_nonneg hx.1 (by omega)
  have hq1 : x / y ≤ x := Int.ediv_le_self y hx.1
  have hr0 : 0 ≤ x % y := Int.emod_nonneg x (by omega)
  have hr1 : x % y < y := Int.emod_lt_of_pos x hy.1
  refine cz_iload rfl rfl ?_
  refine cz_icst rfl cc_1 ?_
  refine cz_icge rfl (by omega) (by omega) (fun hb2 => ?_) (fun hb2 => ?_)
  · skip
    refine cz_iload rfl rfl ?_
    refine cz_iload rfl rfl ?_
    refine cz_idiv rfl (by omega) (by omega) ?_
    refine cz_st1 (l' := [(0, _), (1, _), (2, _)]) rfl rfl rfl ?_
    refine cz_icst rfl cc_2 ?_
    refine cz_iload rfl rfl ?_
    refine cz_iload rfl rfl ?_
    refine cz_irem rfl (by omega) (by omega) ?_
    refine cz_imul rfl ?_
    refine cz_st1 (l' := [(0, _), (1, _), (2, _), (3, _)]) rfl rfl rfl ?_
    refine cz_iload rfl rfl ?_
    refine cz_iload rfl rfl ?_
    refine cz_icgt rfl (by omega) (by omega) (fun hb19 => ?_) (fun hb19 => ?_)
    · skip
      refine cz_icst rfl cc_1 ?_
      refine cz_goto rfl ?_
      refine cz_st1 (l' := [(0, _), (1, _), (2, _), (3, _), (4, _)]) rfl rfl rfl ?_
      refine cz_iload rfl rfl ?_
      refine cz_ifeq rfl (by omega) (fun hb42 => ?_) (fun hb42 => ?_)
      · skip
        refine cz_iload rfl rfl ?_
        refine cz_retI rfl ?_
        exact cP.mk (by unfold cNear; first | (exfalso; omega) | (rw [if_pos (by omega)]; done) | (rw [if_pos (by omega)]) | rw [if_neg (by omega)])
      · skip
        refine cz_iload rfl rfl ?_
        refine cz_icst rfl cc_1 ?_
        refine cz_iadd rfl ?_
        refine cz_goto rfl ?_
        refine cz_retI rfl ?_
        exact cP.mk (by unfold cNear; first | (exfalso; omega) | (rw [if_pos (by omega)]; done) | (rw [if_pos (by omega)]) | rw [if_neg (by omega)])
    · skip
      refine cz_iload rfl rfl ?_
      refine cz_iload rfl rfl ?_
      refine cz_icne rfl (by omega) (by omega) (fun hb24 => ?_) (fun hb24 => ?_)
      · skip
        refine cz_icst rfl cc_0 ?_
        refine cz_st1 (l' := [(0, _), (1, _), (2, _), (3, _), (4, _)]) rfl rfl rfl ?_
        refine cz_iload rfl rfl ?_
        refine cz_ifeq rfl (by omega) (fun hb42 => ?_) (fun hb42 => ?_)
        · skip
          refine cz_iload rfl rfl ?_
          refine cz_retI rfl ?_
          exact cP.mk (by unfold cNear; first | (exfalso; omega) | (rw [if_pos (by omega)]; done) | (rw [if_pos (by omega)]) | rw [if_neg (by omega)])
        · skip
          refine cz_iload rfl rfl ?_
          refine cz_icst rfl cc_1 ?_
          refine cz_iadd rfl ?_
          refine cz_goto rfl ?_
          refine cz_retI rfl ?_
          exact cP.mk (by unfold cNear; first | (exfalso; omega) | (rw [if_pos (by omega)]; done) | (rw [if_pos (by omega)]) | rw [if_neg (by omega)])
      · skip
        refine cz_iload rfl rfl ?_
        refine cz_icst rfl cc_2 ?_
        refine cz_irem rfl (by omega) (by omega) ?_
        refine cz_ifeq rfl (by omega) (fun hb30 => ?_) (fun hb30 => ?_)
        · skip
          refine cz_icst rfl cc_0 ?_
          refine cz_st1 (l' := [(0, _), (1, _), (2, _), (3, _), (4, _)]) rfl rfl rfl ?_
          refine cz_iload rfl rfl ?_
          refine cz_ifeq rfl (by omega) (fun hb42 => ?_) (fun hb42 => ?_)
          · skip
            refine cz_iload rfl rfl ?_
            refine cz_retI rfl ?_
            exact cP.mk (by unfold cNear; first | (exfalso; omega) | (rw [if_pos (by omega)]; done) | (rw [if_pos (by omega)]) | rw [if_neg (by omega)])
          · skip
            refine cz_iload rfl rfl ?_
            refine cz_icst rfl cc_1 ?_
            refine cz_iadd rfl ?_
            refine cz_goto rfl ?_
            refine cz_retI rfl ?_
            exact cP.mk (by unfold cNear; first | (exfalso; omega) | (rw [if_pos (by omega)]; done) | (rw [if_pos (by omega)]) | rw [if_neg (by omega)])
        · skip
          refine cz_icst rfl cc_1 ?_
          refine cz_goto rfl ?_
          refine cz_st1 (l' := [(0, _), (1, _), (2, _), (3, _), (4, _)]) rfl rfl rfl ?_
          refine cz_iload rfl rfl ?_
          refine cz_ifeq rfl (by omega) (fun hb42 => ?_) (fun hb42 => ?_)
          · skip
            refine cz_iload rfl rfl ?_
            refine cz_retI rfl ?_
            exact cP.mk (by unfold cNear; first | (exfalso; omega) | (rw [if_pos (by omega)]; done) | (rw [if_pos (by omega)]) | rw [if_neg (by omega)])
          · skip
            refine cz_iload rfl rfl ?_
            refine cz_icst rfl cc_1 ?_
            refine cz_iadd rfl ?_
            refine cz_goto rfl ?_
            refine cz_retI rfl ?_
            exact cP.mk (by unfold cNear; first | (exfalso; omega) | (rw [if_pos (by omega)]; done) | (rw [if_pos (by omega)]) | rw [if_neg (by omega)])
  · skip
    refine cz_icst rfl cc_0 ?_
    refine cz_retI rfl ?_
    exact cP.mk (by unfold cNear; first | (exfalso; omega) | (rw [if_pos (by omega)]; done) | (rw [if_pos (by omega)]) | rw [if_neg (by omega)])
set_option maxRecDepth 20000 in
theorem p_halv_loop {xs : Nat → Int32} {Ls : Nat} {S : cS} {t : Nat} : ∀ (k : Nat) (c n : Int), 1 ≤ n → n ≤ 8 → n ≤ k → 0 ≤ c → cZ xs Ls 0 79 4 [(1, .int (cI c)), (2, .int (cI n))] [] S t (cP (c + cHv n) S t) := by
  intro k
  induction k with
  | zero => intro c n h1 h2 h3; omega
  | succ k ih =>
    intro c n h1 h2 h3 h4
    refine cz_iload rfl rfl ?_
    refine cz_icst rfl cc_1 ?_
    refine cz_icle rfl (by omega) (by omega) (fun hb6 => ?_) (fun hb6 => ?_)
    · skip
      refine cz_iload rfl rfl ?_
      refine cz_retI rfl ?_
      exact cP.mk (by unfold cHv; rw [if_pos (by omega)]; omega)
    · skip
      refine cz_iinc (l' := [(1, _), (2, _)]) rfl cc_1 rfl rfl ?_
      refine cz_iload rfl rfl ?_
      refine cz_iload rfl rfl ?_
      refine cz_icst rfl cc_2 ?_
      refine cz_idiv rfl (by omega) (by omega) ?_
      refine cz_isub rfl ?_
      refine cz_st1 (l' := [(1, _), (2, _)]) rfl rfl rfl ?_
      refine cz_goto rfl ?_
      have e : cHv n = 1 + cHv (n - n / 2) := by unfold cHv; repeat (first | omega | split)
      rw [e, ← Int.add_assoc]
      exact ih _ _ (by omega) (by omega) (by omega) (by omega)
set_option maxRecDepth 20000 in
theorem p_halvings {xs : Nat → Int32} {Ls : Nat} {S : cS} {t : Nat} {n : Int} (hn : 1 ≤ n ∧ n ≤ 8) : cZ xs Ls 0 79 0 [(0, .int (cI n))] [] S t (cP (cHv n) S t) := by
  refine cz_icst rfl cc_0 ?_
  refine cz_st1 (l' := [(0, _), (1, _)]) rfl rfl rfl ?_
  refine cz_iload rfl rfl ?_
  refine cz_st1 (l' := [(0, _), (1, _), (2, _)]) rfl rfl rfl ?_
  refine cz_weak (fun i => i == 1 || i == 2) (l' := [(1, _), (2, _)]) rfl ?_
  have h := p_halv_loop (xs := xs) (Ls := Ls) (S := S) (t := t) 8 0 n hn.1 hn.2 hn.2 (by omega)
  rw [Int.zero_add] at h
  exact h
set_option maxRecDepth 20000 in
theorem p_hasPlace {xs : Nat → Int32} {Ls : Nat} {S : cS} {t : Nat} {b : Nat} (hb : cFm b) (hs : cSh (vw S b)) {x y : Int} (hxR : -2147483648 ≤ x ∧ x < 2147483648) (hyR : -2147483648 ≤ y ∧ y < 2147483648) : cZ xs Ls 0 9 0 [(0, .ref b), (1, .int (cI x)), (2, .int (cI y))] [] S t (cP (bI (cHas (vw S b) x y)) S t) := by
  obtain ⟨hs1, hs2, hs3, hs4, hs5⟩ := hs
  refine cz_iload rfl rfl ?_
  refine cz_iflt rfl (by omega) (fun hb1 => ?_) (fun hb1 => ?_)
  · skip
    refine cz_icst rfl cc_0 ?_
    refine cz_retZ rfl (by omega) ?_
    exact cP.mk (by first | exact (bI_pos (by unfold cHas; omega)).symm | exact (bI_neg (by unfold cHas; omega)).symm)
  · skip
    refine cz_iload rfl rfl ?_
    refine cz_aload rfl rfl ?_
    refine cz_getF hb rfl rfl ?_
    refine cz_icge rfl (by omega) (by omega) (fun hb9 => ?_) (fun hb9 => ?_)
    · skip
      refine cz_icst rfl cc_0 ?_
      refine cz_retZ rfl (by omega) ?_
      exact cP.mk (by first | exact (bI_pos (by unfold cHas; omega)).symm | exact (bI_neg (by unfold cHas; omega)).symm)
    · skip
      refine cz_iload rfl rfl ?_
      refine cz_iflt rfl (by omega) (fun hb13 => ?_) (fun hb13 => ?_)
      · skip
        refine cz_icst rfl cc_0 ?_
        refine cz_retZ rfl (by omega) ?_
        exact cP.mk (by first | exact (bI_pos (by unfold cHas; omega)).symm | exact (bI_neg (by unfold cHas; omega)).symm)
      · skip
        refine cz_iload rfl rfl ?_
        refine cz_aload rfl rfl ?_
        refine cz_getF hb rfl rfl ?_
        refine cz_icge rfl (by omega) (by omega) (fun hb21 => ?_) (fun hb21 => ?_)
        · skip
          refine cz_icst rfl cc_0 ?_
          refine cz_retZ rfl (by omega) ?_
          exact cP.mk (by first | exact (bI_pos (by unfold cHas; omega)).symm | exact (bI_neg (by unfold cHas; omega)).symm)
        · skip
          refine cz_icst rfl cc_1 ?_
          refine cz_goto rfl ?_
          refine cz_retZ rfl (by omega) ?_
          exact cP.mk (by first | exact (bI_pos (by unfold cHas; omega)).symm | exact (bI_neg (by unfold cHas; omega)).symm)
set_option maxRecDepth 20000 in
theorem p_hasLine {xs : Nat → Int32} {Ls : Nat} {S : cS} {t : Nat} {b : Nat} (hb : cFm b) (hs : cSh (vw S b)) {x y : Int} (hxR : -2147483648 ≤ x ∧ x < 2147483648) (hyR : -2147483648 ≤ y ∧ y < 2147483648) : cZ xs Ls 0 10 0 [(0, .ref b), (1, .int (cI x)), (2, .int (cI y))] [] S t (cP (bI (cLine (vw S b) x y)) S t) := by
  obtain ⟨hs1, hs2, hs3, hs4, hs5⟩ := hs
  refine cz_iload rfl rfl ?_
  refine cz_ifeq rfl (by omega) (fun hb1 => ?_) (fun hb1 => ?_)
  · skip
    refine cz_iload rfl rfl ?_
    refine cz_icst rfl cc_1 ?_
    refine cz_iclt rfl (by omega) (by omega) (fun hb13 => ?_) (fun hb13 => ?_)
    · skip
      refine cz_icst rfl cc_0 ?_
      refine cz_retZ rfl (by omega) ?_
      exact cP.mk (by first | exact (bI_pos (by unfold cLine; omega)).symm | exact (bI_neg (by unfold cLine; omega)).symm)
    · skip
      refine cz_iload rfl rfl ?_
      refine cz_iload rfl rfl ?_
      refine cz_ifne rfl (by omega) (fun hb18 => ?_) (fun hb18 => ?_)
      · skip
        refine cz_aload rfl rfl ?_
        refine cz_getF hb rfl rfl ?_
        refine cz_icge rfl (by omega) (by omega) (fun hb32 => ?_) (fun hb32 => ?_)
        · skip
          refine cz_icst rfl cc_0 ?_
          refine cz_retZ rfl (by omega) ?_
          exact cP.mk (by first | exact (bI_pos (by unfold cLine; omega)).symm | exact (bI_neg (by unfold cLine; omega)).symm)
        · skip
          refine cz_icst rfl cc_1 ?_
          refine cz_goto rfl ?_
          refine cz_retZ rfl (by omega) ?_
          exact cP.mk (by first | exact (bI_pos (by unfold cLine; omega)).symm | exact (bI_neg (by unfold cLine; omega)).symm)
      · skip
        refine cz_aload rfl rfl ?_
        refine cz_getF hb rfl rfl ?_
        refine cz_goto rfl ?_
        refine cz_icge rfl (by omega) (by omega) (fun hb32 => ?_) (fun hb32 => ?_)
        · skip
          refine cz_icst rfl cc_0 ?_
          refine cz_retZ rfl (by omega) ?_
          exact cP.mk (by first | exact (bI_pos (by unfold cLine; omega)).symm | exact (bI_neg (by unfold cLine; omega)).symm)
        · skip
          refine cz_icst rfl cc_1 ?_
          refine cz_goto rfl ?_
          refine cz_retZ rfl (by omega) ?_
          exact cP.mk (by first | exact (bI_pos (by unfold cLine; omega)).symm | exact (bI_neg (by unfold cLine; omega)).symm)
  · skip
    refine cz_iload rfl rfl ?_
    refine cz_icst rfl cc_1 ?_
    refine cz_iceq rfl (by omega) (by omega) (fun hb6 => ?_) (fun hb6 => ?_)
    · skip
      refine cz_iload rfl rfl ?_
      refine cz_icst rfl cc_1 ?_
      refine cz_iclt rfl (by omega) (by omega) (fun hb13 => ?_) (fun hb13 => ?_)
      · skip
        refine cz_icst rfl cc_0 ?_
        refine cz_retZ rfl (by omega) ?_
        exact cP.mk (by first | exact (bI_pos (by unfold cLine; omega)).symm | exact (bI_neg (by unfold cLine; omega)).symm)
      · skip
        refine cz_iload rfl rfl ?_
        refine cz_iload rfl rfl ?_
        refine cz_ifne rfl (by omega) (fun hb18 => ?_) (fun hb18 => ?_)
        · skip
          refine cz_aload rfl rfl ?_
          refine cz_getF hb rfl rfl ?_
          refine cz_icge rfl (by omega) (by omega) (fun hb32 => ?_) (fun hb32 => ?_)
          · skip
            refine cz_icst rfl cc_0 ?_
            refine cz_retZ rfl (by omega) ?_
            exact cP.mk (by first | exact (bI_pos (by unfold cLine; omega)).symm | exact (bI_neg (by unfold cLine; omega)).symm)
          · skip
            refine cz_icst rfl cc_1 ?_
            refine cz_goto rfl ?_
            refine cz_retZ rfl (by omega) ?_
            exact cP.mk (by first | exact (bI_pos (by unfold cLine; omega)).symm | exact (bI_neg (by unfold cLine; omega)).symm)
        · skip
          refine cz_aload rfl rfl ?_
          refine cz_getF hb rfl rfl ?_
          refine cz_goto rfl ?_
          refine cz_icge rfl (by omega) (by omega) (fun hb32 => ?_) (fun hb32 => ?_)
          · skip
            refine cz_icst rfl cc_0 ?_
            refine cz_retZ rfl (by omega) ?_
            exact cP.mk (by first | exact (bI_pos (by unfold cLine; omega)).symm | exact (bI_neg (by unfold cLine; omega)).symm)
          · skip
            refine cz_icst rfl cc_1 ?_
            refine cz_goto rfl ?_
            refine cz_retZ rfl (by omega) ?_
            exact cP.mk (by first | exact (bI_pos (by unfold cLine; omega)).symm | exact (bI_neg (by unfold cLine; omega)).symm)
    · skip
      refine cz_icst rfl cc_0 ?_
      refine cz_retZ rfl (by omega) ?_
      exact cP.mk (by first | exact (bI_pos (by unfold cLine; omega)).symm | exact (bI_neg (by unfold cLine; omega)).symm)
set_option maxRecDepth 20000 in
theorem p_heightAt {xs : Nat → Int32} {Ls : Nat} {S : cS} {t : Nat} {b : Nat} (hb : cFm b) (hs : cSh (vw S b)) {x y : Int} (hxR : -2147483648 ≤ x ∧ x < 2147483648) (hyR : -2147483648 ≤ y ∧ y < 2147483648) : cZ xs Ls 1 11 0 [(0, .ref b), (1, .int (cI x)), (2, .int (cI y))] [] S t (cP (cHt (vw S b) x y) S t) := by
  have hs0 := hs
  obtain ⟨hs1, hs2, hs3, hs4, hs5⟩ := hs
  refine cz_aload rfl rfl ?_
  refine cz_iload rfl rfl ?_
  refine cz_iload rfl rfl ?_
  refine cz_cV3P rfl rfl rfl (cIsF hb) (Nat.le_of_ble_eq_true rfl) (p_hasPlace hb hs0 (by omega) (by omega)) ?_
  refine cz_ifeq rfl (by exact bI_ran) (fun hb6 => ?_) (fun hb6 => ?_)
  · replace hb6 := bI_0 hb6
    refine cz_icst rfl cc_0 ?_
    refine cz_retI rfl ?_
    first | exact cP.mk (if_pos hb6).symm | exact cP.mk (if_neg hb6).symm
  · replace hb6 := bI_n0 hb6
    have hi := cIdx ⟨hb6.1, hb6.2.1⟩ hb6.2.2
    refine cz_aload rfl rfl ?_
    refine cz_getF hb rfl rfl ?_
    refine cz_aload rfl rfl ?_
    refine cz_getF hb rfl rfl ?_
    refine cz_iload rfl rfl ?_
    refine cz_imul rfl ?_
    refine cz_iload rfl rfl ?_
    refine cz_iadd rfl ?_
    refine cz_ialdF (j := 5) hb (by decide) rfl (by omega) ?_
    refine cz_goto rfl ?_
    refine cz_retI rfl ?_
    first | exact cP.mk (if_pos hb6).symm | exact cP.mk (if_neg hb6).symm
set_option maxRecDepth 20000 in
theorem p_liesAt {xs : Nat → Int32} {Ls : Nat} {S : cS} {t : Nat} {b : Nat} (hb : cFm b) (hd : cBd (vw S b)) {c x y : Int} (hc : 0 ≤ c ∧ c < vw S b 0 0) (hxR : -2147483648 ≤ x ∧ x < 2147483648) (hyR : -2147483648 ≤ y ∧ y < 2147483648) : cZ xs Ls 0 12 0 [(0, .ref b), (1, .int (cI c)), (2, .int (cI x)), (3, .int (cI y))] [] S t (cP (bI (cLies (vw S b) c x y)) S t) := by
  obtain ⟨hd1, hd2, hd3⟩ := hd
  have hq := hd3 c hc.1 hc.2
  refine cz_aload rfl rfl ?_
  refine cz_getF hb rfl rfl ?_
  refine cz_iload rfl rfl ?_
  refine cz_ialdF (j := 1) hb (by decide) rfl (by omega) ?_
  refine cz_iload rfl rfl ?_
  refine cz_icne rfl (by omega) (by omega) (fun hb7 => ?_) (fun hb7 => ?_)
  · skip
    refine cz_icst rfl cc_0 ?_
    refine cz_retZ rfl (by omega) ?_
    exact cP.mk (by first | exact (bI_pos (by unfold cLies; omega)).symm | exact (bI_neg (by unfold cLies; omega)).symm)
  · skip
    refine cz_aload rfl rfl ?_
    refine cz_getF hb rfl rfl ?_
    refine cz_iload rfl rfl ?_
    refine cz_ialdF (j := 2) hb (by decide) rfl (by omega) ?_
    refine cz_iload rfl rfl ?_
    refine cz_icne rfl (by omega) (by omega) (fun hb17 => ?_) (fun hb17 => ?_)
    · skip
      refine cz_icst rfl cc_0 ?_
      refine cz_retZ rfl (by omega) ?_
      exact cP.mk (by first | exact (bI_pos (by unfold cLies; omega)).symm | exact (bI_neg (by unfold cLies; omega)).symm)
    · skip
      refine cz_icst rfl cc_1 ?_
      refine cz_goto rfl ?_
      refine cz_retZ rfl (by omega) ?_
      exact cP.mk (by first | exact (bI_pos (by unfold cLies; omega)).symm | exact (bI_neg (by unfold cLies; omega)).symm)
set_option maxRecDepth 20000 in
theorem p_cellAt_loop {xs : Nat → Int32} {Ls : Nat} {S : cS} {t : Nat} {b : Nat} (hb : cFm b) (hd : cBd (vw S b)) {x y z : Int} (hxR : -2147483648 ≤ x ∧ x < 2147483648) (hyR : -2147483648 ≤ y ∧ y < 2147483648) (hzR : -2147483648 ≤ z ∧ z < 2147483648) : ∀ (k : Nat) (i : Int), 0 ≤ i → i + k = vw S b 0 0 → cZ xs Ls 1 13 3 [(0, .ref b), (1, .int (cI x)), (2, .int (cI y)), (3, .int (cI z)), (4, .int (cI i))] [] S t (cP (fnd (fun i => decide (cLies (vw S b) i x y ∧ vw S b 3 i = z)) i k) S t) := by
  intro k
  induction k with
  | zero =>
    intro i hi0 hi
    obtain ⟨hd1, hd2, hd3⟩ := hd
    refine cz_iload rfl rfl ?_
    refine cz_aload rfl rfl ?_
    refine cz_getF hb rfl rfl ?_
    refine cz_icge rfl (by omega) (by omega) (fun hb9 => ?_) (fun hb9 => ?_)
    rotate_left
    · exfalso; omega
    refine cz_icst rfl cc_m1 ?_
    refine cz_retI rfl ?_
    exact cP.mk rfl
  | succ k ih =>
    intro i hi0 hi
    have hd0 := hd
    obtain ⟨hd1, hd2, hd3⟩ := hd
    have hq := hd3 i hi0 (by omega)
    refine cz_iload rfl rfl ?_
    refine cz_aload rfl rfl ?_
    refine cz_getF hb rfl rfl ?_
    refine cz_icge rfl (by omega) (by omega) (fun hb9 => ?_) (fun hb9 => ?_)
    · exfalso; omega
    refine cz_aload rfl rfl ?_
    refine cz_iload rfl rfl ?_
    refine cz_iload rfl rfl ?_
    refine cz_iload rfl rfl ?_
    refine cz_cV4P rfl rfl rfl (cIsF hb) (Nat.le_of_ble_eq_true rfl) (p_liesAt hb hd0 (by omega) (by omega) (by omega)) ?_
    refine cz_ifeq rfl (by exact bI_ran) (fun hb20 => ?_) (fun hb20 => ?_)
    · replace hb20 := bI_0 hb20
      refine cz_iinc (l' := [(0, _), (1, _), (2, _), (3, _), (4, _)]) rfl cc_1 rfl rfl ?_
      refine cz_goto rfl ?_
      rw [fnd_f (decide_eq_false (by omega))]
      exact ih _ (by omega) (by omega)
    · replace hb20 := bI_n0 hb20
      refine cz_aload rfl rfl ?_
      refine cz_getF hb rfl rfl ?_
      refine cz_iload rfl rfl ?_
      refine cz_ialdF (j := 3) hb (by decide) rfl (by omega) ?_
      refine cz_iload rfl rfl ?_
      refine cz_icne rfl (by omega) (by omega) (fun hb31 => ?_) (fun hb31 => ?_)
      · skip
        refine cz_iinc (l' := [(0, _), (1, _), (2, _), (3, _), (4, _)]) rfl cc_1 rfl rfl ?_
        refine cz_goto rfl ?_
        rw [fnd_f (decide_eq_false (by omega))]
        exact ih _ (by omega) (by omega)
      · skip
        refine cz_iload rfl rfl ?_
        refine cz_retI rfl ?_
        exact cP.mk (fnd_t (decide_eq_true (by omega))).symm
set_option maxRecDepth 20000 in
theorem p_cellAt {xs : Nat → Int32} {Ls : Nat} {S : cS} {t : Nat} {b : Nat} (hb : cFm b) (hd : cBd (vw S b)) {x y z : Int} (hxR : -2147483648 ≤ x ∧ x < 2147483648) (hyR : -2147483648 ≤ y ∧ y < 2147483648) (hzR : -2147483648 ≤ z ∧ z < 2147483648) : cZ xs Ls 1 13 0 [(0, .ref b), (1, .int (cI x)), (2, .int (cI y)), (3, .int (cI z))] [] S t (cP (cAt (vw S b) x y z) S t) := by
  refine cz_icst rfl cc_0 ?_
  refine cz_st1 (l' := [(0, _), (1, _), (2, _), (3, _), (4, _)]) rfl rfl rfl ?_
  exact p_cellAt_loop hb hd hxR hyR hzR _ 0 (by omega) (by have := hd.1; omega)
set_option maxRecDepth 20000 in
theorem p_highestAt {xs : Nat → Int32} {Ls : Nat} {S : cS} {t : Nat} {b : Nat} (hb : cFm b) (hs : cSh (vw S b)) (hd : cBd (vw S b)) (hh : cHb (vw S b)) {x y : Int} (hxR : -2147483648 ≤ x ∧ x < 2147483648) (hyR : -2147483648 ≤ y ∧ y < 2147483648) : cZ xs Ls 2 14 0 [(0, .ref b), (1, .int (cI x)), (2, .int (cI y))] [] S t (cP (cTop (vw S b) x y) S t) := by
  have hhb := cHt_b hs hh x y
  refine cz_aload rfl rfl ?_
  refine cz_iload rfl rfl ?_
  refine cz_iload rfl rfl ?_
  refine cz_aload rfl rfl ?_
  refine cz_iload rfl rfl ?_
  refine cz_iload rfl rfl ?_
  refine cz_cV3P rfl rfl rfl (cIsF hb) (Nat.le_of_ble_eq_true rfl) (p_heightAt hb hs hxR hyR) ?_
  refine cz_icst rfl cc_1 ?_
  refine cz_isub rfl ?_
  refine cz_cV4P rfl rfl rfl (cIsF hb) (Nat.le_of_ble_eq_true rfl) (p_cellAt hb hd hxR hyR (by omega)) ?_
  refine cz_retI rfl ?_
  exact cP.mk rfl
set_option maxRecDepth 20000 in
theorem p_lfa {xs : Nat → Int32} {Ls : Nat} {S : cS} {t : Nat} {b : Nat} (hb : cFm b) (hs : cSh (vw S b)) (hd : cBd (vw S b)) (hh : cHb (vw S b)) {c : Int} (hc : 0 ≤ c ∧ c < vw S b 0 0) : cZ xs Ls 2 15 0 [(0, .ref b), (1, .int (cI c))] [] S t (cP (cLfa (vw S b) c) S t) := by
  obtain ⟨hd1, hd2, hd3⟩ := id hd
  have hq := hd3 c hc.1 hc.2
  refine cz_aload rfl rfl ?_
  refine cz_aload rfl rfl ?_
  refine cz_getF hb rfl rfl ?_
  refine cz_iload rfl rfl ?_
  refine cz_ialdF (j := 1) hb (by decide) rfl (by omega) ?_
  refine cz_aload rfl rfl ?_
  refine cz_getF hb rfl rfl ?_
  refine cz_iload rfl rfl ?_
  refine cz_ialdF (j := 2) hb (by decide) rfl (by omega) ?_
  refine cz_cV3P rfl rfl rfl (cIsF hb) (Nat.le_of_ble_eq_true rfl) (p_heightAt hb hs (by omega) (by omega)) ?_
  refine cz_icst rfl cc_1 ?_
  refine cz_isub rfl ?_
  refine cz_aload rfl rfl ?_
  refine cz_getF hb rfl rfl ?_
  refine cz_iload rfl rfl ?_
  refine cz_ialdF (j := 3) hb (by decide) rfl (by omega) ?_
  refine cz_isub rfl ?_
  refine cz_retI rfl ?_
  exact cP.mk rfl
set_option maxRecDepth 20000 in
theorem p_isOutermost {xs : Nat → Int32} {Ls : Nat} {S : cS} {t : Nat} {b : Nat} (hb : cFm b) (hs : cSh (vw S b)) (hd : cBd (vw S b)) (hh : cHb (vw S b)) {c : Int} (hc : 0 ≤ c ∧ c < vw S b 0 0) {a : Int} (ha : a = 0 ∨ a = 1) : cZ xs Ls 3 16 0 [(0, .ref b), (1, .int (cI c)), (2, .int (cI a))] [] S t (cP (bI (cOut (vw S b) c a)) S t) := by
  obtain ⟨hd1, hd2, hd3⟩ := id hd
  have hq := hd3 c hc.1 hc.2
  have hl : -2000 ≤ cLfa (vw S b) c ∧ cLfa (vw S b) c ≤ 2000 := by have := cHt_b hs hh (vw S b 1 c) (vw S b 2 c); unfold cLfa; omega
  refine cz_iload rfl rfl ?_
  refine cz_ifeq rfl (by omega) (fun hb1 => ?_) (fun hb1 => ?_)
  · skip
    refine cz_aload rfl rfl ?_
    refine cz_getF hb rfl rfl ?_
    refine cz_iload rfl rfl ?_
    refine cz_ialdF (j := 3) hb (by decide) rfl (by omega) ?_
    refine cz_ifne rfl (by omega) (fun hb18 => ?_) (fun hb18 => ?_)
    · skip
      refine cz_icst rfl cc_0 ?_
      refine cz_retZ rfl (by omega) ?_
      exact cP.mk (by first | exact (bI_pos (by unfold cOut; omega)).symm | exact (bI_neg (by unfold cOut; omega)).symm)
    · skip
      refine cz_icst rfl cc_1 ?_
      refine cz_goto rfl ?_
      refine cz_retZ rfl (by omega) ?_
      exact cP.mk (by first | exact (bI_pos (by unfold cOut; omega)).symm | exact (bI_neg (by unfold cOut; omega)).symm)
  · skip
    refine cz_aload rfl rfl ?_
    refine cz_iload rfl rfl ?_
    refine cz_cV2P rfl rfl rfl (cIsF hb) (Nat.le_of_ble_eq_true rfl) (p_lfa hb hs hd hh hc) ?_
    refine cz_goto rfl ?_
    refine cz_ifne rfl (by omega) (fun hb18 => ?_) (fun hb18 => ?_)
    · skip
      refine cz_icst rfl cc_0 ?_
      refine cz_retZ rfl (by omega) ?_
      exact cP.mk (by first | exact (bI_pos (by unfold cOut; omega)).symm | exact (bI_neg (by unfold cOut; omega)).symm)
    · skip
      refine cz_icst rfl cc_1 ?_
      refine cz_goto rfl ?_
      refine cz_retZ rfl (by omega) ?_
      exact cP.mk (by first | exact (bI_pos (by unfold cOut; omega)).symm | exact (bI_neg (by unfold cOut; omega)).symm)
set_option maxRecDepth 20000 in
theorem p_isFrontUp {xs : Nat → Int32} {Ls : Nat} {S : cS} {t : Nat} {b : Nat} (hb : cFm b) (hd : cBd (vw S b)) {c : Int} (hcR : -2147483648 ≤ c ∧ c < 2147483648) : cZ xs Ls 0 17 0 [(0, .ref b), (1, .int (cI c))] [] S t (cP (bI (cUp (vw S b) c)) S t) := by
  obtain ⟨hd1, hd2, hd3⟩ := id hd
  refine cz_iload rfl rfl ?_
  refine cz_iflt rfl (by omega) (fun hb1 => ?_) (fun hb1 => ?_)
  · skip
    refine cz_icst rfl cc_0 ?_
    refine cz_retZ rfl (by omega) ?_
    exact cP.mk (by first | exact (bI_pos (by unfold cUp; omega)).symm | exact (bI_neg (by unfold cUp; omega)).symm)
  · skip
    refine cz_iload rfl rfl ?_
    refine cz_aload rfl rfl ?_
    refine cz_getF hb rfl rfl ?_
    refine cz_icge rfl (by omega) (by omega) (fun hb9 => ?_) (fun hb9 => ?_)
    · skip
      refine cz_icst rfl cc_0 ?_
      refine cz_retZ rfl (by omega) ?_
      exact cP.mk (by first | exact (bI_pos (by unfold cUp; omega)).symm | exact (bI_neg (by unfold cUp; omega)).symm)
    · skip
      have hq := hd3 c (by omega) (by omega)
      refine cz_aload rfl rfl ?_
      refine cz_getF hb rfl rfl ?_
      refine cz_iload rfl rfl ?_
      refine cz_baldF hb rfl (by omega) ?_
      refine cz_ifeq rfl (by omega) (fun hb18 => ?_) (fun hb18 => ?_)
      · skip
        refine cz_icst rfl cc_0 ?_
        refine cz_retZ rfl (by omega) ?_
        exact cP.mk (by first | exact (bI_pos (by unfold cUp; omega)).symm | exact (bI_neg (by unfold cUp; omega)).symm)
      · skip
        refine cz_icst rfl cc_1 ?_
        refine cz_goto rfl ?_
        refine cz_retZ rfl (by omega) ?_
        exact cP.mk (by first | exact (bI_pos (by unfold cUp; omega)).symm | exact (bI_neg (by unfold cUp; omega)).symm)
set_option maxRecDepth 20000 in
theorem p_isJustUpon {xs : Nat → Int32} {Ls : Nat} {S : cS} {t : Nat} {b : Nat} (hb : cFm b) (hd : cBd (vw S b)) {c e : Int} (hc : 0 ≤ c ∧ c < vw S b 0 0) (he : 0 ≤ e ∧ e < vw S b 0 0) : cZ xs Ls 1 18 0 [(0, .ref b), (1, .int (cI c)), (2, .int (cI e))] [] S t (cP (bI (cUpon (vw S b) c e)) S t) := by
  obtain ⟨hd1, hd2, hd3⟩ := id hd
  have hq := hd3 c hc.1 hc.2
  have hq2 := hd3 e he.1 he.2
  refine cz_aload rfl rfl ?_
  refine cz_iload rfl rfl ?_
  refine cz_aload rfl rfl ?_
  refine cz_getF hb rfl rfl ?_
  refine cz_iload rfl rfl ?_
  refine cz_ialdF (j := 1) hb (by decide) rfl (by omega) ?_
  refine cz_aload rfl rfl ?_
  refine cz_getF hb rfl rfl ?_
  refine cz_iload rfl rfl ?_
  refine cz_ialdF (j := 2) hb (by decide) rfl (by omega) ?_
  refine cz_cV4P rfl rfl rfl (cIsF hb) (Nat.le_of_ble_eq_true rfl) (p_liesAt hb hd (by omega) (by omega) (by omega)) ?_
  refine cz_ifeq rfl (by exact bI_ran) (fun hb17 => ?_) (fun hb17 => ?_)
  · replace hb17 := bI_0 hb17
    refine cz_icst rfl cc_0 ?_
    refine cz_retZ rfl (by omega) ?_
    exact cP.mk (by first | exact (bI_pos (by unfold cUpon; omega)).symm | exact (bI_neg (by unfold cUpon; omega)).symm)
  · replace hb17 := bI_n0 hb17
    refine cz_aload rfl rfl ?_
    refine cz_getF hb rfl rfl ?_
    refine cz_iload rfl rfl ?_
    refine cz_ialdF (j := 3) hb (by decide) rfl (by omega) ?_
    refine cz_aload rfl rfl ?_
    refine cz_getF hb rfl rfl ?_
    refine cz_iload rfl rfl ?_
    refine cz_ialdF (j := 3) hb (by decide) rfl (by omega) ?_
    refine cz_icst rfl cc_1 ?_
    refine cz_iadd rfl ?_
    refine cz_icne rfl (by omega) (by omega) (fun hb34 => ?_) (fun hb34 => ?_)
    · skip
      refine cz_icst rfl cc_0 ?_
      refine cz_retZ rfl (by omega) ?_
      exact cP.mk (by first | exact (bI_pos (by unfold cUpon; omega)).symm | exact (bI_neg (by unfold cUpon; omega)).symm)
    · skip
      refine cz_icst rfl cc_1 ?_
      refine cz_goto rfl ?_
      refine cz_retZ rfl (by omega) ?_
      exact cP.mk (by first | exact (bI_pos (by unfold cUpon; omega)).symm | exact (bI_neg (by unfold cUpon; omega)).symm)
set_option maxRecDepth 20000 in
theorem p_goes {xs : Nat → Int32} {Ls : Nat} {S : cS} {t : Nat} {b : Nat} (hb : cFm b) (hd : cBd (vw S b)) {c : Int} (hc : 0 ≤ c ∧ c < vw S b 0 0) {k : Int} (hk : 0 ≤ k ∧ k < 1000) : cZ xs Ls 1 19 0 [(0, .ref b), (1, .int (cI c)), (2, .int (cI k))] [] S t (cP (bI (cGoes (vw S b) c k)) S t) := by
  obtain ⟨hd1, hd2, hd3⟩ := id hd
  have hq := hd3 c hc.1 hc.2
  by_cases hax : k / 4 % 2 = 0
  · have hal : cAl (vw S b) c k = vw S b 1 c := if_pos hax
    refine cz_iload rfl rfl ?_
    refine cz_cS1P rfl rfl rfl rfl (Nat.le_of_ble_eq_true rfl) (p_axisOf (by omega)) ?_
    refine cz_ifne rfl (by omega) (fun hb4 => ?_) (fun hb4 => ?_)
    · exfalso; omega
    refine cz_aload rfl rfl ?_
    refine cz_getF hb rfl rfl ?_
    refine cz_iload rfl rfl ?_
    refine cz_ialdF (j := 1) hb (by decide) rfl (by omega) ?_
    refine cz_goto rfl ?_
    refine cz_st1 (l' := [(0, _), (1, _), (2, _), (3, _)]) rfl rfl rfl ?_
    refine cz_iload rfl rfl ?_
    refine cz_cS1P rfl rfl rfl rfl (Nat.le_of_ble_eq_true rfl) (p_isFar (by omega)) ?_
    refine cz_iload rfl rfl ?_
    refine cz_iload rfl rfl ?_
    refine cz_cS1P rfl rfl rfl rfl (Nat.le_of_ble_eq_true rfl) (p_lineOf (by omega)) ?_
    refine cz_iclt rfl (by omega) (by omega) (fun hb32 => ?_) (fun hb32 => ?_)
    · skip
      refine cz_icst rfl cc_0 ?_
      refine cz_icne rfl (by exact bI_ran) (by omega) (fun hb40 => ?_) (fun hb40 => ?_)
      · skip
        refine cz_icst rfl cc_0 ?_
        refine cz_retZ rfl (by omega) ?_
        simp only [bI_e1, bI_e0] at *
        exact cP.mk (by first | exact (bI_pos (by omega)).symm | exact (bI_neg (by omega)).symm)
      · skip
        refine cz_icst rfl cc_1 ?_
        refine cz_goto rfl ?_
        refine cz_retZ rfl (by omega) ?_
        simp only [bI_e1, bI_e0] at *
        exact cP.mk (by first | exact (bI_pos (by omega)).symm | exact (bI_neg (by omega)).symm)
    · skip
      refine cz_icst rfl cc_1 ?_
      refine cz_goto rfl ?_
      refine cz_icne rfl (by exact bI_ran) (by omega) (fun hb40 => ?_) (fun hb40 => ?_)
      · skip
        refine cz_icst rfl cc_0 ?_
        refine cz_retZ rfl (by omega) ?_
        simp only [bI_e1, bI_e0] at *
        exact cP.mk (by first | exact (bI_pos (by omega)).symm | exact (bI_neg (by omega)).symm)
      · skip
        refine cz_icst rfl cc_1 ?_
        refine cz_goto rfl ?_
        refine cz_retZ rfl (by omega) ?_
        simp only [bI_e1, bI_e0] at *
        exact cP.mk (by first | exact (bI_pos (by omega)).symm | exact (bI_neg (by omega)).symm)
  · have hal : cAl (vw S b) c k = vw S b 2 c := if_neg hax
    refine cz_iload rfl rfl ?_
    refine cz_cS1P rfl rfl rfl rfl (Nat.le_of_ble_eq_true rfl) (p_axisOf (by omega)) ?_
    refine cz_ifne rfl (by omega) (fun hb4 => ?_) (fun hb4 => ?_)
    rotate_left
    · exfalso; omega
    refine cz_aload rfl rfl ?_
    refine cz_getF hb rfl rfl ?_
    refine cz_iload rfl rfl ?_
    refine cz_ialdF (j := 2) hb (by decide) rfl (by omega) ?_
    refine cz_st1 (l' := [(0, _), (1, _), (2, _), (3, _)]) rfl rfl rfl ?_
    refine cz_iload rfl rfl ?_
    refine cz_cS1P rfl rfl rfl rfl (Nat.le_of_ble_eq_true rfl) (p_isFar (by omega)) ?_
    refine cz_iload rfl rfl ?_
    refine cz_iload rfl rfl ?_
    refine cz_cS1P rfl rfl rfl rfl (Nat.le_of_ble_eq_true rfl) (p_lineOf (by omega)) ?_
    refine cz_iclt rfl (by omega) (by omega) (fun hb32 => ?_) (fun hb32 => ?_)
    · skip
      refine cz_icst rfl cc_0 ?_
      refine cz_icne rfl (by exact bI_ran) (by omega) (fun hb40 => ?_) (fun hb40 => ?_)
      · skip
        refine cz_icst rfl cc_0 ?_
        refine cz_retZ rfl (by omega) ?_
        simp only [bI_e1, bI_e0] at *
        exact cP.mk (by first | exact (bI_pos (by omega)).symm | exact (bI_neg (by omega)).symm)
      · skip
        refine cz_icst rfl cc_1 ?_
        refine cz_goto rfl ?_
        refine cz_retZ rfl (by omega) ?_
        simp only [bI_e1, bI_e0] at *
        exact cP.mk (by first | exact (bI_pos (by omega)).symm | exact (bI_neg (by omega)).symm)
    · skip
      refine cz_icst rfl cc_1 ?_
      refine cz_goto rfl ?_
      refine cz_icne rfl (by exact bI_ran) (by omega) (fun hb40 => ?_) (fun hb40 => ?_)
      · skip
        refine cz_icst rfl cc_0 ?_
        refine cz_retZ rfl (by omega) ?_
        simp only [bI_e1, bI_e0] at *
        exact cP.mk (by first | exact (bI_pos (by omega)).symm | exact (bI_neg (by omega)).symm)
      · skip
        refine cz_icst rfl cc_1 ?_
        refine cz_goto rfl ?_
        refine cz_retZ rfl (by omega) ?_
        simp only [bI_e1, bI_e0] at *
        exact cP.mk (by first | exact (bI_pos (by omega)).symm | exact (bI_neg (by omega)).symm)
set_option maxRecDepth 20000 in
theorem p_mc {xs : Nat → Int32} {Ls : Nat} {S : cS} {t : Nat} {b : Nat} (hb : cFm b) (hd : cBd (vw S b)) {c : Int} (hc : 0 ≤ c ∧ c < vw S b 0 0) {k : Int} (hk : 0 ≤ k ∧ k < 1000) : cZ xs Ls 1 20 0 [(0, .ref b), (1, .int (cI c)), (2, .int (cI k))] [] S t (cP (cMc (vw S b) c k) S t) := by
  obtain ⟨hd1, hd2, hd3⟩ := id hd
  have hq := hd3 c hc.1 hc.2
  refine cz_iload rfl rfl ?_
  refine cz_cS1P rfl rfl rfl rfl (Nat.le_of_ble_eq_true rfl) (p_axisOf (by omega)) ?_
  refine cz_ifne rfl (by omega) (fun hb4 => ?_) (fun hb4 => ?_)
  · skip
    refine cz_aload rfl rfl ?_
    refine cz_getF hb rfl rfl ?_
    refine cz_iload rfl rfl ?_
    refine cz_ialdF (j := 1) hb (by decide) rfl (by omega) ?_
    refine cz_retI rfl ?_
    exact cP.mk (by unfold cMc; first | rw [if_pos (by omega)] | rw [if_neg (by omega)])
  · skip
    refine cz_icst rfl cc_2 ?_
    refine cz_iload rfl rfl ?_
    refine cz_cS1P rfl rfl rfl rfl (Nat.le_of_ble_eq_true rfl) (p_lineOf (by omega)) ?_
    refine cz_imul rfl ?_
    refine cz_icst rfl cc_1 ?_
    refine cz_isub rfl ?_
    refine cz_aload rfl rfl ?_
    refine cz_getF hb rfl rfl ?_
    refine cz_iload rfl rfl ?_
    refine cz_ialdF (j := 1) hb (by decide) rfl (by omega) ?_
    refine cz_isub rfl ?_
    refine cz_goto rfl ?_
    refine cz_retI rfl ?_
    exact cP.mk (by unfold cMc; first | rw [if_pos (by omega)] | rw [if_neg (by omega)])
set_option maxRecDepth 20000 in
theorem p_mr {xs : Nat → Int32} {Ls : Nat} {S : cS} {t : Nat} {b : Nat} (hb : cFm b) (hd : cBd (vw S b)) {c : Int} (hc : 0 ≤ c ∧ c < vw S b 0 0) {k : Int} (hk : 0 ≤ k ∧ k < 1000) : cZ xs Ls 1 21 0 [(0, .ref b), (1, .int (cI c)), (2, .int (cI k))] [] S t (cP (cMr (vw S b) c k) S t) := by
  obtain ⟨hd1, hd2, hd3⟩ := id hd
  have hq := hd3 c hc.1 hc.2
  refine cz_iload rfl rfl ?_
  refine cz_cS1P rfl rfl rfl rfl (Nat.le_of_ble_eq_true rfl) (p_axisOf (by omega)) ?_
  refine cz_icst rfl cc_1 ?_
  refine cz_icne rfl (by omega) (by omega) (fun hb5 => ?_) (fun hb5 => ?_)
  · skip
    refine cz_aload rfl rfl ?_
    refine cz_getF hb rfl rfl ?_
    refine cz_iload rfl rfl ?_
    refine cz_ialdF (j := 2) hb (by decide) rfl (by omega) ?_
    refine cz_retI rfl ?_
    exact cP.mk (by unfold cMr; first | rw [if_pos (by omega)] | rw [if_neg (by omega)])
  · skip
    refine cz_icst rfl cc_2 ?_
    refine cz_iload rfl rfl ?_
    refine cz_cS1P rfl rfl rfl rfl (Nat.le_of_ble_eq_true rfl) (p_lineOf (by omega)) ?_
    refine cz_imul rfl ?_
    refine cz_icst rfl cc_1 ?_
    refine cz_isub rfl ?_
    refine cz_aload rfl rfl ?_
    refine cz_getF hb rfl rfl ?_
    refine cz_iload rfl rfl ?_
    refine cz_ialdF (j := 2) hb (by decide) rfl (by omega) ?_
    refine cz_isub rfl ?_
    refine cz_goto rfl ?_
    refine cz_retI rfl ?_
    exact cP.mk (by unfold cMr; first | rw [if_pos (by omega)] | rw [if_neg (by omega)])
set_option maxRecDepth 20000 in
theorem p_isLineBetween {xs : Nat → Int32} {Ls : Nat} {S : cS} {t : Nat} {b : Nat} (hb : cFm b) (hd : cBd (vw S b)) {c e : Int} (hc : 0 ≤ c ∧ c < vw S b 0 0) (he : 0 ≤ e ∧ e < vw S b 0 0) {k : Int} (hk : 0 ≤ k ∧ k < 1000) : cZ xs Ls 2 22 0 [(0, .ref b), (1, .int (cI c)), (2, .int (cI e)), (3, .int (cI k))] [] S t (cP (bI (cBetw (vw S b) c e k)) S t) := by
  obtain ⟨hd1, hd2, hd3⟩ := id hd
  have hq := hd3 c hc.1 hc.2
  have hq2 := hd3 e he.1 he.2
  have hm1 := cMc_b hk hq.1
  have hm2 := cMr_b hk hq.2.1
  have hs1 := cSq (d := vw S b 1 c - vw S b 1 e) (by omega)
  have hs2 := cSq (d := vw S b 2 c - vw S b 2 e) (by omega)
  refine cz_aload rfl rfl ?_
  refine cz_getF hb rfl rfl ?_
  refine cz_iload rfl rfl ?_
  refine cz_ialdF (j := 1) hb (by decide) rfl (by omega) ?_
  refine cz_aload rfl rfl ?_
  refine cz_getF hb rfl rfl ?_
  refine cz_iload rfl rfl ?_
  refine cz_ialdF (j := 1) hb (by decide) rfl (by omega) ?_
  refine cz_isub rfl ?_
  refine cz_st1 (l' := [(0, _), (1, _), (2, _), (3, _), (4, _)]) rfl rfl rfl ?_
  refine cz_aload rfl rfl ?_
  refine cz_getF hb rfl rfl ?_
  refine cz_iload rfl rfl ?_
  refine cz_ialdF (j := 2) hb (by decide) rfl (by omega) ?_
  refine cz_aload rfl rfl ?_
  refine cz_getF hb rfl rfl ?_
  refine cz_iload rfl rfl ?_
  refine cz_ialdF (j := 2) hb (by decide) rfl (by omega) ?_
  refine cz_isub rfl ?_
  refine cz_st1 (l' := [(0, _), (1, _), (2, _), (3, _), (4, _), (5, _)]) rfl rfl rfl ?_
  refine cz_iload rfl rfl ?_
  refine cz_iload rfl rfl ?_
  refine cz_imul rfl ?_
  refine cz_iload rfl rfl ?_
  refine cz_iload rfl rfl ?_
  refine cz_imul rfl ?_
  refine cz_iadd rfl ?_
  refine cz_icst rfl cc_1 ?_
  refine cz_icne rfl (by omega) (by omega) (fun hb42 => ?_) (fun hb42 => ?_)
  · skip
    refine cz_icst rfl cc_0 ?_
    refine cz_retZ rfl (by omega) ?_
    exact cP.mk (by first | exact (bI_pos (by unfold cBetw; omega)).symm | exact (bI_neg (by unfold cBetw; omega)).symm)
  · skip
    refine cz_aload rfl rfl ?_
    refine cz_iload rfl rfl ?_
    refine cz_aload rfl rfl ?_
    refine cz_iload rfl rfl ?_
    refine cz_iload rfl rfl ?_
    refine cz_cV3P rfl rfl rfl (cIsF hb) (Nat.le_of_ble_eq_true rfl) (p_mc hb hd hc hk) ?_
    refine cz_aload rfl rfl ?_
    refine cz_iload rfl rfl ?_
    refine cz_iload rfl rfl ?_
    refine cz_cV3P rfl rfl rfl (cIsF hb) (Nat.le_of_ble_eq_true rfl) (p_mr hb hd hc hk) ?_
    refine cz_cV4P rfl rfl rfl (cIsF hb) (Nat.le_of_ble_eq_true rfl) (p_liesAt hb hd (by omega) (by omega) (by omega)) ?_
    refine cz_ifeq rfl (by exact bI_ran) (fun hb62 => ?_) (fun hb62 => ?_)
    · replace hb62 := bI_0 hb62
      refine cz_icst rfl cc_0 ?_
      refine cz_retZ rfl (by omega) ?_
      exact cP.mk (by first | exact (bI_pos (by unfold cBetw; omega)).symm | exact (bI_neg (by unfold cBetw; omega)).symm)
    · replace hb62 := bI_n0 hb62
      refine cz_icst rfl cc_1 ?_
      refine cz_goto rfl ?_
      refine cz_retZ rfl (by omega) ?_
      exact cP.mk (by first | exact (bI_pos (by unfold cBetw; omega)).symm | exact (bI_neg (by unfold cBetw; omega)).symm)
