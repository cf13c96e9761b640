/-! The Paper -/
set_option maxRecDepth 20000 in
theorem p_hasCell {xs : Nat → Int32} {Ls : Nat} {S : cS} {t : Nat} (hw : cPw S) {x : Int} (hxR : -2147483648 ≤ x ∧ x < 2147483648) : cZ xs Ls 0 28 0 [(0, .ref 1), (1, .int (cI x))] [] S t (cP (bI (0 ≤ x ∧ x < S 1 2)) S t) := by
  obtain ⟨hw1, hw2, hw3, hw4, hw5, hw6⟩ := id hw
  refine cz_iload rfl rfl ?_
  refine cz_iflt rfl (by omega) (fun hb1 => ?_) (fun hb1 => ?_)
  · skip
    refine cz_icst rfl cc_0 ?_
    refine cz_retZ rfl (by omega) ?_
    exact cP.mk (by first | exact (bI_pos (by omega)).symm | exact (bI_neg (by omega)).symm)
  · skip
    refine cz_iload rfl rfl ?_
    refine cz_aload rfl rfl ?_
    refine cz_getP rfl rfl ?_
    refine cz_icge rfl (by omega) (by omega) (fun hb9 => ?_) (fun hb9 => ?_)
    · skip
      refine cz_icst rfl cc_0 ?_
      refine cz_retZ rfl (by omega) ?_
      exact cP.mk (by first | exact (bI_pos (by omega)).symm | exact (bI_neg (by omega)).symm)
    · skip
      refine cz_icst rfl cc_1 ?_
      refine cz_goto rfl ?_
      refine cz_retZ rfl (by omega) ?_
      exact cP.mk (by first | exact (bI_pos (by omega)).symm | exact (bI_neg (by omega)).symm)
set_option maxRecDepth 20000 in
theorem p_cellBeside {xs : Nat → Int32} {Ls : Nat} {S : cS} {t : Nat} (hw : cPw S) {x y : Int} (hx : 0 ≤ x ∧ x < S 1 2) (hy : y = 0 ∨ y = 1) : cZ xs Ls 1 29 0 [(0, .ref 1), (1, .int (cI x)), (2, .int (cI y))] [] S t (cP (cBes S x y) S t) := by
  obtain ⟨hw1, hw2, hw3, hw4, hw5, hw6⟩ := id hw
  have hr0 : 0 ≤ x % S 1 0 := Int.emod_nonneg x (by omega)
  have hr1 : x % S 1 0 < S 1 0 := Int.emod_lt_of_pos x (by omega)
  refine cz_iload rfl rfl ?_
  refine cz_ifeq rfl (by omega) (fun hb1 => ?_) (fun hb1 => ?_)
  · skip
    refine cz_aload rfl rfl ?_
    refine cz_getP rfl rfl ?_
    refine cz_icst rfl cc_1 ?_
    refine cz_iclt rfl (by omega) (by omega) (fun hb33 => ?_) (fun hb33 => ?_)
    · exfalso; omega
    refine cz_iload rfl rfl ?_
    refine cz_aload rfl rfl ?_
    refine cz_getP rfl rfl ?_
    refine cz_irem rfl (by omega) (by omega) ?_
    refine cz_aload rfl rfl ?_
    refine cz_getP rfl rfl ?_
    refine cz_icst rfl cc_1 ?_
    refine cz_isub rfl ?_
    refine cz_icne rfl (by omega) (by omega) (fun hb48 => ?_) (fun hb48 => ?_)
    · skip
      refine cz_icst rfl cc_0 ?_
      refine cz_st1 (l' := [(0, _), (1, _), (2, _), (3, _)]) rfl rfl rfl ?_
      refine cz_iload rfl rfl ?_
      refine cz_ifeq rfl (by omega) (fun hb58 => ?_) (fun hb58 => ?_)
      · skip
        refine cz_iload rfl rfl ?_
        refine cz_icst rfl cc_1 ?_
        refine cz_iadd rfl ?_
        refine cz_retI rfl ?_
        exact cP.mk (by unfold cBes; first | (rw [if_pos (by omega), if_pos (by omega)]; done) | (rw [if_pos (by omega), if_neg (by omega)]; done) | (rw [if_neg (by omega), if_pos (by omega)]; done) | (rw [if_neg (by omega), if_neg (by omega)]; done) | (exfalso; omega))
      · skip
        refine cz_icst rfl cc_m1 ?_
        refine cz_goto rfl ?_
        refine cz_retI rfl ?_
        exact cP.mk (by unfold cBes; first | (rw [if_pos (by omega), if_pos (by omega)]; done) | (rw [if_pos (by omega), if_neg (by omega)]; done) | (rw [if_neg (by omega), if_pos (by omega)]; done) | (rw [if_neg (by omega), if_neg (by omega)]; done) | (exfalso; omega))
    · skip
      refine cz_icst rfl cc_1 ?_
      refine cz_goto rfl ?_
      refine cz_st1 (l' := [(0, _), (1, _), (2, _), (3, _)]) rfl rfl rfl ?_
      refine cz_iload rfl rfl ?_
      refine cz_ifeq rfl (by omega) (fun hb58 => ?_) (fun hb58 => ?_)
      · skip
        refine cz_iload rfl rfl ?_
        refine cz_icst rfl cc_1 ?_
        refine cz_iadd rfl ?_
        refine cz_retI rfl ?_
        exact cP.mk (by unfold cBes; first | (rw [if_pos (by omega), if_pos (by omega)]; done) | (rw [if_pos (by omega), if_neg (by omega)]; done) | (rw [if_neg (by omega), if_pos (by omega)]; done) | (rw [if_neg (by omega), if_neg (by omega)]; done) | (exfalso; omega))
      · skip
        refine cz_icst rfl cc_m1 ?_
        refine cz_goto rfl ?_
        refine cz_retI rfl ?_
        exact cP.mk (by unfold cBes; first | (rw [if_pos (by omega), if_pos (by omega)]; done) | (rw [if_pos (by omega), if_neg (by omega)]; done) | (rw [if_neg (by omega), if_pos (by omega)]; done) | (rw [if_neg (by omega), if_neg (by omega)]; done) | (exfalso; omega))
  · skip
    refine cz_aload rfl rfl ?_
    refine cz_iload rfl rfl ?_
    refine cz_aload rfl rfl ?_
    refine cz_getP rfl rfl ?_
    refine cz_iadd rfl ?_
    refine cz_cV2P rfl rfl rfl cIs1 (Nat.le_of_ble_eq_true rfl) (p_hasCell hw (by omega)) ?_
    refine cz_ifeq rfl (by exact bI_ran) (fun hb14 => ?_) (fun hb14 => ?_)
    · replace hb14 := bI_0 hb14
      refine cz_icst rfl cc_m1 ?_
      refine cz_retI rfl ?_
      exact cP.mk (by unfold cBes; first | (rw [if_pos (by omega), if_pos (by omega)]; done) | (rw [if_pos (by omega), if_neg (by omega)]; done) | (rw [if_neg (by omega), if_pos (by omega)]; done) | (rw [if_neg (by omega), if_neg (by omega)]; done) | (exfalso; omega))
    · replace hb14 := bI_n0 hb14
      refine cz_iload rfl rfl ?_
      refine cz_aload rfl rfl ?_
      refine cz_getP rfl rfl ?_
      refine cz_iadd rfl ?_
      refine cz_goto rfl ?_
      refine cz_retI rfl ?_
      exact cP.mk (by unfold cBes; first | (rw [if_pos (by omega), if_pos (by omega)]; done) | (rw [if_pos (by omega), if_neg (by omega)]; done) | (rw [if_neg (by omega), if_pos (by omega)]; done) | (rw [if_neg (by omega), if_neg (by omega)]; done) | (exfalso; omega))
set_option maxRecDepth 20000 in
theorem p_press {xs : Nat → Int32} {Ls : Nat} {S : cS} {t : Nat} {p k f : Int} (hp : 0 ≤ p ∧ p < 64) : cZ xs Ls 0 30 0 [(0, .ref 1), (1, .int (cI p)), (2, .int (cI k)), (3, .int (cI f))] [] S t (cQV (fun S' t' => t' = t ∧ S' = setS (setS (setS S 2 p k) 3 p f) 4 p (S 4 p + 1))) := by
  refine cz_aload rfl rfl ?_
  refine cz_getP rfl rfl ?_
  refine cz_iload rfl rfl ?_
  refine cz_iload rfl rfl ?_
  refine cz_iastA (a := 2) (n := 64) (by decide) rfl (by omega) rfl (by omega) ?_
  refine cz_aload rfl rfl ?_
  refine cz_getP rfl rfl ?_
  refine cz_iload rfl rfl ?_
  refine cz_iload rfl rfl ?_
  refine cz_iastA (a := 3) (n := 64) (by decide) rfl (by omega) rfl (by omega) ?_
  refine cz_aload rfl rfl ?_
  refine cz_getP rfl rfl ?_
  refine cz_iload rfl rfl ?_
  refine cz_dup2 rfl rfl rfl ?_
  refine cz_ialdA (a := 4) (n := 64) (by decide) rfl (by omega) rfl (by omega) ?_
  refine cz_icst rfl cc_1 ?_
  refine cz_iadd rfl ?_
  refine cz_iastA (a := 4) (n := 64) (by decide) rfl (by omega) rfl (by omega) ?_
  refine cz_ret0 rfl ?_
  exact cQV.mk ⟨rfl, rfl⟩
set_option maxRecDepth 20000 in
theorem p_smooth_loop {xs : Nat → Int32} {Ls : Nat} {S : cS} {t : Nat} (hw : cPw S) (hpb : cPb S) {f : Int} (hfR : -2147483648 ≤ f ∧ f < 2147483648) : ∀ (k : Nat) (i : Int) (S1 : cS), 0 ≤ i → i + k = 2 * S 1 2 → (∀ a, ¬ a = 2 → ¬ a = 3 → S1 a = S a) → (∀ p, 0 ≤ p → p < 64 → S1 2 p = (if p < i ∧ S 3 p = f then 0 else S 2 p) ∧ S1 3 p = if p < i ∧ S 3 p = f then 0 else S 3 p) →
    cZ xs Ls 0 31 2 [(0, .ref 1), (1, .int (cI f)), (2, .int (cI i))] [] S1 t (cQV (fun S' t' => t' = t ∧ (∀ a, ¬ a = 2 → ¬ a = 3 → S' a = S a) ∧ ∀ p, 0 ≤ p → p < 64 → S' 2 p = (if p < 2 * S 1 2 ∧ S 3 p = f then 0 else S 2 p) ∧ S' 3 p = if p < 2 * S 1 2 ∧ S 3 p = f then 0 else S 3 p)) := by
  obtain ⟨hw1, hw2, hw3, hw4, hw5, hw6⟩ := id hw
  intro k
  induction k with
  | zero =>
    intro i S1 hi0 hi h1 h2
    have e1 : S1 1 = S 1 := h1 1 (by omega) (by omega)
    have e2 : S1 1 2 = S 1 2 := by rw [e1]
    have e3 : i = 2 * S 1 2 := by omega
    subst e3
    refine cz_iload rfl rfl ?_
    refine cz_icst rfl cc_2 ?_
    refine cz_aload rfl rfl ?_
    refine cz_getP rfl rfl ?_
    refine cz_imul rfl ?_
    refine cz_icge rfl (by omega) (by omega) (fun hb9 => ?_) (fun hb9 => ?_)
    rotate_left
    · exfalso; omega
    refine cz_ret0 rfl ?_
    exact cQV.mk ⟨rfl, h1, h2⟩
  | succ k ih =>
    intro i S1 hi0 hi h1 h2
    have e1 : S1 1 = S 1 := h1 1 (by omega) (by omega)
    have e2 : S1 1 2 = S 1 2 := by rw [e1]
    have hpi := hpb i hi0 (by omega)
    have e3 : S1 3 i = S 3 i := by rw [(h2 i hi0 (by omega)).2, if_neg (by omega)]
    refine cz_iload rfl rfl ?_
    refine cz_icst rfl cc_2 ?_
    refine cz_aload rfl rfl ?_
    refine cz_getP rfl rfl ?_
    refine cz_imul rfl ?_
    refine cz_icge rfl (by omega) (by omega) (fun hb9 => ?_) (fun hb9 => ?_)
    · exfalso; omega
    refine cz_aload rfl rfl ?_
    refine cz_getP rfl rfl ?_
    refine cz_iload rfl rfl ?_
    refine cz_ialdA (a := 3) (n := 64) (by decide) rfl (by omega) rfl (by omega) ?_
    refine cz_iload rfl rfl ?_
    refine cz_icne rfl (by omega) (by omega) (fun hb19 => ?_) (fun hb19 => ?_)
    · skip
      refine cz_iinc (l' := [(0, _), (1, _), (2, _)]) rfl cc_1 rfl rfl ?_
      refine cz_goto rfl ?_
      refine ih (i + 1) _ (by omega) (by omega) ?_ ?_
      · intro a ha hb
        first
        | rw [setS_o hb, setS_o ha]; exact h1 a ha hb
        | exact h1 a ha hb
      · intro p hp0 hp1
        have h3 := h2 p hp0 hp1
        first
        | rw [setS_o (by omega), setS_at, setS_at, setS_o (by omega)]
          by_cases hpe : p = i
          · subst hpe
            rw [if_pos rfl, if_pos rfl, if_pos (by omega), if_pos (by omega)]
            exact ⟨rfl, rfl⟩
          · rw [if_neg hpe, if_neg hpe, h3.1, h3.2]
            by_cases hpc : p < i ∧ S 3 p = f
            · rw [if_pos hpc, if_pos hpc, if_pos (by omega), if_pos (by omega)]
              exact ⟨rfl, rfl⟩
            · rw [if_neg hpc, if_neg hpc, if_neg (by omega), if_neg (by omega)]
              exact ⟨rfl, rfl⟩
        | rw [h3.1, h3.2]
          by_cases hpc : p < i ∧ S 3 p = f
          · rw [if_pos hpc, if_pos hpc, if_pos (by omega), if_pos (by omega)]
            exact ⟨rfl, rfl⟩
          · have hpd : ¬ (p < i + 1 ∧ S 3 p = f) := by
              rintro ⟨hx, hy⟩
              have : p = i := by omega
              subst this
              omega
            rw [if_neg hpc, if_neg hpc, if_neg hpd, if_neg hpd]
            exact ⟨rfl, rfl⟩
    · skip
      refine cz_aload rfl rfl ?_
      refine cz_getP rfl rfl ?_
      refine cz_iload rfl rfl ?_
      refine cz_icst rfl cc_0 ?_
      refine cz_iastA (a := 2) (n := 64) (by decide) rfl (by omega) rfl (by omega) ?_
      refine cz_aload rfl rfl ?_
      refine cz_getP rfl rfl ?_
      refine cz_iload rfl rfl ?_
      refine cz_icst rfl cc_0 ?_
      refine cz_iastA (a := 3) (n := 64) (by decide) rfl (by omega) rfl (by omega) ?_
      refine cz_iinc (l' := [(0, _), (1, _), (2, _)]) rfl cc_1 rfl rfl ?_
      refine cz_goto rfl ?_
      refine ih (i + 1) _ (by omega) (by omega) ?_ ?_
      · intro a ha hb
        first
        | rw [setS_o hb, setS_o ha]; exact h1 a ha hb
        | exact h1 a ha hb
      · intro p hp0 hp1
        have h3 := h2 p hp0 hp1
        first
        | rw [setS_o (by omega), setS_at, setS_at, setS_o (by omega)]
          by_cases hpe : p = i
          · subst hpe
            rw [if_pos rfl, if_pos rfl, if_pos (by omega), if_pos (by omega)]
            exact ⟨rfl, rfl⟩
          · rw [if_neg hpe, if_neg hpe, h3.1, h3.2]
            by_cases hpc : p < i ∧ S 3 p = f
            · rw [if_pos hpc, if_pos hpc, if_pos (by omega), if_pos (by omega)]
              exact ⟨rfl, rfl⟩
            · rw [if_neg hpc, if_neg hpc, if_neg (by omega), if_neg (by omega)]
              exact ⟨rfl, rfl⟩
        | rw [h3.1, h3.2]
          by_cases hpc : p < i ∧ S 3 p = f
          · rw [if_pos hpc, if_pos hpc, if_pos (by omega), if_pos (by omega)]
            exact ⟨rfl, rfl⟩
          · have hpd : ¬ (p < i + 1 ∧ S 3 p = f) := by
              rintro ⟨hx, hy⟩
              have : p = i := by omega
              subst this
              omega
            rw [if_neg hpc, if_neg hpc, if_neg hpd, if_neg hpd]
            exact ⟨rfl, rfl⟩
set_option maxRecDepth 20000 in
theorem p_smooth {xs : Nat → Int32} {Ls : Nat} {S : cS} {t : Nat} (hw : cPw S) (hpb : cPb S) {f : Int} (hfR : -2147483648 ≤ f ∧ f < 2147483648) : cZ xs Ls 0 31 0 [(0, .ref 1), (1, .int (cI f))] [] S t (cQV (fun S' t' => t' = t ∧ (∀ a, ¬ a = 2 → ¬ a = 3 → S' a = S a) ∧ ∀ p, 0 ≤ p → p < 64 → S' 2 p = (if p < 2 * S 1 2 ∧ S 3 p = f then 0 else S 2 p) ∧ S' 3 p = if p < 2 * S 1 2 ∧ S 3 p = f then 0 else S 3 p)) := by
  obtain ⟨hw1, hw2, hw3, hw4, hw5, hw6⟩ := id hw
  refine cz_icst rfl cc_0 ?_
  refine cz_st1 (l' := [(0, _), (1, _), (2, _)]) rfl rfl rfl ?_
  refine p_smooth_loop hw hpb hfR (2 * S 1 2).toNat 0 S (by omega) (by omega) (fun _ _ _ => rfl) ?_
  intro p hp0 hp1
  rw [if_neg (by omega), if_neg (by omega)]
  exact ⟨rfl, rfl⟩
set_option maxRecDepth 20000 in
theorem p_countCreases_loop {xs : Nat → Int32} {Ls : Nat} {S : cS} {t : Nat} (hw : cPw S) (hpb : cPb S) {x : Int} (hxR : -2147483648 ≤ x ∧ x < 2147483648) : ∀ (k : Nat) (i c : Int), 0 ≤ i → i + k = 2 * S 1 2 → c = csum (fun i => bI (S 2 i = x)) i.toNat → cZ xs Ls 0 33 4 [(0, .ref 1), (1, .int (cI x)), (2, .int (cI c)), (3, .int (cI i))] [] S t (cP (csum (fun i => bI (S 2 i = x)) (2 * S 1 2).toNat) S t) := by
  obtain ⟨hw1, hw2, hw3, hw4, hw5, hw6⟩ := id hw
  intro k
  induction k with
  | zero =>
    intro i c hi0 hi hc
    have e3 : i = 2 * S 1 2 := by omega
    subst e3
    refine cz_iload rfl rfl ?_
    refine cz_icst rfl cc_2 ?_
    refine cz_aload rfl rfl ?_
    refine cz_getP rfl rfl ?_
    refine cz_imul rfl ?_
    refine cz_icge rfl (by omega) (by omega) (fun hb11 => ?_) (fun hb11 => ?_)
    rotate_left
    · exfalso; omega
    refine cz_iload rfl rfl ?_
    refine cz_retI rfl ?_
    exact cP.mk hc
  | succ k ih =>
    intro i c hi0 hi hc
    have hn : (i + 1).toNat = i.toNat + 1 := by omega
    have hni : ((i.toNat : Nat) : Int) = i := by omega
    have hstep : csum (fun i => bI (S 2 i = x)) (i + 1).toNat = c + (fun i => bI (S 2 i = x)) i := by
      rw [hn, hc]
      show csum (fun i => bI (S 2 i = x)) i.toNat + (fun i => bI (S 2 i = x)) ((i.toNat : Nat) : Int) = _
      rw [hni]
    dsimp only at hstep
    have hpi := hpb i hi0 (by omega)
    refine cz_iload rfl rfl ?_
    refine cz_icst rfl cc_2 ?_
    refine cz_aload rfl rfl ?_
    refine cz_getP rfl rfl ?_
    refine cz_imul rfl ?_
    refine cz_icge rfl (by omega) (by omega) (fun hb11 => ?_) (fun hb11 => ?_)
    · exfalso; omega
    refine cz_aload rfl rfl ?_
    refine cz_getP rfl rfl ?_
    refine cz_iload rfl rfl ?_
    refine cz_ialdA (a := 2) (n := 64) (by decide) rfl (by omega) rfl (by omega) ?_
    refine cz_iload rfl rfl ?_
    refine cz_icne rfl (by omega) (by omega) (fun hb21 => ?_) (fun hb21 => ?_)
    · skip
      refine cz_iinc (l' := [(0, _), (1, _), (2, _), (3, _)]) rfl cc_1 rfl rfl ?_
      refine cz_goto rfl ?_
      refine ih (i + 1) _ (by omega) (by omega) ?_
      first
      | exact hstep.symm
      | (rw [hstep, bI_pos (by omega)]; done)
      | (rw [hstep, bI_neg (by omega)]; omega)
    · skip
      refine cz_iinc (l' := [(0, _), (1, _), (2, _), (3, _)]) rfl cc_1 rfl rfl ?_
      refine cz_iinc (l' := [(0, _), (1, _), (2, _), (3, _)]) rfl cc_1 rfl rfl ?_
      refine cz_goto rfl ?_
      refine ih (i + 1) _ (by omega) (by omega) ?_
      first
      | exact hstep.symm
      | (rw [hstep, bI_pos (by omega)]; done)
      | (rw [hstep, bI_neg (by omega)]; omega)
set_option maxRecDepth 20000 in
theorem p_countCreases {xs : Nat → Int32} {Ls : Nat} {S : cS} {t : Nat} (hw : cPw S) (hpb : cPb S) {x : Int} (hxR : -2147483648 ≤ x ∧ x < 2147483648) : cZ xs Ls 0 33 0 [(0, .ref 1), (1, .int (cI x))] [] S t (cP (csum (fun i => bI (S 2 i = x)) (2 * S 1 2).toNat) S t) := by
  obtain ⟨hw1, hw2, hw3, hw4, hw5, hw6⟩ := id hw
  refine cz_icst rfl cc_0 ?_
  refine cz_st1 (l' := [(0, _), (1, _), (2, _)]) rfl rfl rfl ?_
  refine cz_icst rfl cc_0 ?_
  refine cz_st1 (l' := [(0, _), (1, _), (2, _), (3, _)]) rfl rfl rfl ?_
  exact p_countCreases_loop hw hpb hxR (2 * S 1 2).toNat 0 0 (by omega) (by omega) rfl
set_option maxRecDepth 20000 in
theorem p_sumOfMarks_loop {xs : Nat → Int32} {Ls : Nat} {S : cS} {t : Nat} (hw : cPw S)  : ∀ (k : Nat) (i c : Int), 0 ≤ i → i + k = 2 * S 1 2 → c = csum (fun i => S 4 i) i.toNat → cZ xs Ls 0 34 4 [(0, .ref 1), (1, .int (cI c)), (2, .int (cI i))] [] S t (cP (csum (fun i => S 4 i) (2 * S 1 2).toNat) S t) := by
  obtain ⟨hw1, hw2, hw3, hw4, hw5, hw6⟩ := id hw
  intro k
  induction k with
  | zero =>
    intro i c hi0 hi hc
    have e3 : i = 2 * S 1 2 := by omega
    subst e3
    refine cz_iload rfl rfl ?_
    refine cz_icst rfl cc_2 ?_
    refine cz_aload rfl rfl ?_
    refine cz_getP rfl rfl ?_
    refine cz_imul rfl ?_
    refine cz_icge rfl (by omega) (by omega) (fun hb11 => ?_) (fun hb11 => ?_)
    rotate_left
    · exfalso; omega
    refine cz_iload rfl rfl ?_
    refine cz_retI rfl ?_
    exact cP.mk hc
  | succ k ih =>
    intro i c hi0 hi hc
    have hn : (i + 1).toNat = i.toNat + 1 := by omega
    have hni : ((i.toNat : Nat) : Int) = i := by omega
    have hstep : csum (fun i => S 4 i) (i + 1).toNat = c + (fun i => S 4 i) i := by
      rw [hn, hc]
      show csum (fun i => S 4 i) i.toNat + (fun i => S 4 i) ((i.toNat : Nat) : Int) = _
      rw [hni]
    dsimp only at hstep

    refine cz_iload rfl rfl ?_
    refine cz_icst rfl cc_2 ?_
    refine cz_aload rfl rfl ?_
    refine cz_getP rfl rfl ?_
    refine cz_imul rfl ?_
    refine cz_icge rfl (by omega) (by omega) (fun hb11 => ?_) (fun hb11 => ?_)
    · exfalso; omega
    refine cz_iload rfl rfl ?_
    refine cz_aload rfl rfl ?_
    refine cz_getP rfl rfl ?_
    refine cz_iload rfl rfl ?_
    refine cz_ialdA (a := 4) (n := 64) (by decide) rfl (by omega) rfl (by omega) ?_
    refine cz_iadd rfl ?_
    refine cz_st1 (l' := [(0, _), (1, _), (2, _)]) rfl rfl rfl ?_
    refine cz_iinc (l' := [(0, _), (1, _), (2, _)]) rfl cc_1 rfl rfl ?_
    refine cz_goto rfl ?_
    refine ih (i + 1) _ (by omega) (by omega) ?_
    first
    | exact hstep.symm
    | (rw [hstep, bI_pos (by omega)]; done)
    | (rw [hstep, bI_neg (by omega)]; omega)
set_option maxRecDepth 20000 in
theorem p_sumOfMarks {xs : Nat → Int32} {Ls : Nat} {S : cS} {t : Nat} (hw : cPw S)  : cZ xs Ls 0 34 0 [(0, .ref 1)] [] S t (cP (csum (fun i => S 4 i) (2 * S 1 2).toNat) S t) := by
  obtain ⟨hw1, hw2, hw3, hw4, hw5, hw6⟩ := id hw
  refine cz_icst rfl cc_0 ?_
  refine cz_st1 (l' := [(0, _), (1, _)]) rfl rfl rfl ?_
  refine cz_icst rfl cc_0 ?_
  refine cz_st1 (l' := [(0, _), (1, _), (2, _)]) rfl rfl rfl ?_
  exact p_sumOfMarks_loop hw (2 * S 1 2).toNat 0 0 (by omega) (by omega) rfl
set_option maxRecDepth 20000 in
theorem p_isWet {xs : Nat → Int32} {Ls : Nat} {S : cS} {t : Nat} (hw : cPw S) (hpb : cPb S) {x : Int} (hxR : -2147483648 ≤ x ∧ x < 2147483648) : cZ xs Ls 0 35 0 [(0, .ref 1), (1, .int (cI x))] [] S t (cP (bI (cWet S x)) S t) := by
  obtain ⟨hw1, hw2, hw3, hw4, hw5, hw6⟩ := id hw
  refine cz_iload rfl rfl ?_
  refine cz_iflt rfl (by omega) (fun hb1 => ?_) (fun hb1 => ?_)
  · skip
    refine cz_icst rfl cc_0 ?_
    refine cz_retZ rfl (by omega) ?_
    exact cP.mk (by first | exact (bI_pos (by omega)).symm | exact (bI_neg (by omega)).symm)
  · skip
    refine cz_iload rfl rfl ?_
    refine cz_icst rfl cc_2 ?_
    refine cz_aload rfl rfl ?_
    refine cz_getP rfl rfl ?_
    refine cz_imul rfl ?_
    refine cz_icge rfl (by omega) (by omega) (fun hb11 => ?_) (fun hb11 => ?_)
    · skip
      refine cz_icst rfl cc_0 ?_
      refine cz_retZ rfl (by omega) ?_
      exact cP.mk (by first | exact (bI_pos (by omega)).symm | exact (bI_neg (by omega)).symm)
    · skip
      have hpi := hpb x (by omega) (by omega)
      refine cz_aload rfl rfl ?_
      refine cz_getP rfl rfl ?_
      refine cz_iload rfl rfl ?_
      refine cz_ialdA (a := 5) (n := 64) (by decide) rfl (by omega) rfl (by omega) ?_
      refine cz_icst rfl cc_2 ?_
      refine cz_icne rfl (by omega) (by omega) (fun hb21 => ?_) (fun hb21 => ?_)
      · skip
        refine cz_icst rfl cc_0 ?_
        refine cz_retZ rfl (by omega) ?_
        exact cP.mk (by first | exact (bI_pos (by omega)).symm | exact (bI_neg (by omega)).symm)
      · skip
        refine cz_icst rfl cc_1 ?_
        refine cz_goto rfl ?_
        refine cz_retZ rfl (by omega) ?_
        exact cP.mk (by first | exact (bI_pos (by omega)).symm | exact (bI_neg (by omega)).symm)
set_option maxRecDepth 20000 in
theorem p_wet {xs : Nat → Int32} {Ls : Nat} {S : cS} {t : Nat} (hw : cPw S) (hpb : cPb S) {x : Int} (hxR : -2147483648 ≤ x ∧ x < 2147483648) : cZ xs Ls 0 36 0 [(0, .ref 1), (1, .int (cI x))] [] S t (cQI (fun r S' t' => r = bI (cDry S x) ∧ t' = t ∧ S' = if cDry S x then setS S 5 x 2 else S)) := by
  obtain ⟨hw1, hw2, hw3, hw4, hw5, hw6⟩ := id hw
  refine cz_iload rfl rfl ?_
  refine cz_iflt rfl (by omega) (fun hb1 => ?_) (fun hb1 => ?_)
  · skip
    refine cz_icst rfl cc_0 ?_
    refine cz_st1 (l' := [(0, _), (1, _), (2, _)]) rfl rfl rfl ?_
    refine cz_iload rfl rfl ?_
    refine cz_ifeq rfl (by omega) (fun hb31 => ?_) (fun hb31 => ?_)
    · skip
      refine cz_iload rfl rfl ?_
      refine cz_retZ rfl (by omega) ?_
      first
      | exact cQI.mk ⟨(bI_pos (by omega)).symm, rfl, (if_pos (by omega)).symm⟩
      | exact cQI.mk ⟨(bI_neg (by omega)).symm, rfl, (if_neg (by omega)).symm⟩
      | (exfalso; omega)
    · skip
      refine cz_aload rfl rfl ?_
      refine cz_getP rfl rfl ?_
      refine cz_iload rfl rfl ?_
      refine cz_icst rfl cc_2 ?_
      refine cz_iastA (a := 5) (n := 64) (by decide) rfl (by omega) rfl (by omega) ?_
      refine cz_iload rfl rfl ?_
      refine cz_retZ rfl (by omega) ?_
      first
      | exact cQI.mk ⟨(bI_pos (by omega)).symm, rfl, (if_pos (by omega)).symm⟩
      | exact cQI.mk ⟨(bI_neg (by omega)).symm, rfl, (if_neg (by omega)).symm⟩
      | (exfalso; omega)
  · skip
    refine cz_iload rfl rfl ?_
    refine cz_icst rfl cc_2 ?_
    refine cz_aload rfl rfl ?_
    refine cz_getP rfl rfl ?_
    refine cz_imul rfl ?_
    refine cz_icge rfl (by omega) (by omega) (fun hb11 => ?_) (fun hb11 => ?_)
    · skip
      refine cz_icst rfl cc_0 ?_
      refine cz_st1 (l' := [(0, _), (1, _), (2, _)]) rfl rfl rfl ?_
      refine cz_iload rfl rfl ?_
      refine cz_ifeq rfl (by omega) (fun hb31 => ?_) (fun hb31 => ?_)
      · skip
        refine cz_iload rfl rfl ?_
        refine cz_retZ rfl (by omega) ?_
        first
        | exact cQI.mk ⟨(bI_pos (by omega)).symm, rfl, (if_pos (by omega)).symm⟩
        | exact cQI.mk ⟨(bI_neg (by omega)).symm, rfl, (if_neg (by omega)).symm⟩
        | (exfalso; omega)
      · skip
        refine cz_aload rfl rfl ?_
        refine cz_getP rfl rfl ?_
        refine cz_iload rfl rfl ?_
        refine cz_icst rfl cc_2 ?_
        refine cz_iastA (a := 5) (n := 64) (by decide) rfl (by omega) rfl (by omega) ?_
        refine cz_iload rfl rfl ?_
        refine cz_retZ rfl (by omega) ?_
        first
        | exact cQI.mk ⟨(bI_pos (by omega)).symm, rfl, (if_pos (by omega)).symm⟩
        | exact cQI.mk ⟨(bI_neg (by omega)).symm, rfl, (if_neg (by omega)).symm⟩
        | (exfalso; omega)
    · skip
      have hpi := hpb x (by omega) (by omega)
      refine cz_aload rfl rfl ?_
      refine cz_getP rfl rfl ?_
      refine cz_iload rfl rfl ?_
      refine cz_ialdA (a := 5) (n := 64) (by decide) rfl (by omega) rfl (by omega) ?_
      refine cz_icst rfl cc_2 ?_
      refine cz_iceq rfl (by omega) (by omega) (fun hb21 => ?_) (fun hb21 => ?_)
      · skip
        refine cz_icst rfl cc_0 ?_
        refine cz_st1 (l' := [(0, _), (1, _), (2, _)]) rfl rfl rfl ?_
        refine cz_iload rfl rfl ?_
        refine cz_ifeq rfl (by omega) (fun hb31 => ?_) (fun hb31 => ?_)
        · skip
          refine cz_iload rfl rfl ?_
          refine cz_retZ rfl (by omega) ?_
          first
          | exact cQI.mk ⟨(bI_pos (by omega)).symm, rfl, (if_pos (by omega)).symm⟩
          | exact cQI.mk ⟨(bI_neg (by omega)).symm, rfl, (if_neg (by omega)).symm⟩
          | (exfalso; omega)
        · skip
          refine cz_aload rfl rfl ?_
          refine cz_getP rfl rfl ?_
          refine cz_iload rfl rfl ?_
          refine cz_icst rfl cc_2 ?_
          refine cz_iastA (a := 5) (n := 64) (by decide) rfl (by omega) rfl (by omega) ?_
          refine cz_iload rfl rfl ?_
          refine cz_retZ rfl (by omega) ?_
          first
          | exact cQI.mk ⟨(bI_pos (by omega)).symm, rfl, (if_pos (by omega)).symm⟩
          | exact cQI.mk ⟨(bI_neg (by omega)).symm, rfl, (if_neg (by omega)).symm⟩
          | (exfalso; omega)
      · skip
        refine cz_icst rfl cc_1 ?_
        refine cz_goto rfl ?_
        refine cz_st1 (l' := [(0, _), (1, _), (2, _)]) rfl rfl rfl ?_
        refine cz_iload rfl rfl ?_
        refine cz_ifeq rfl (by omega) (fun hb31 => ?_) (fun hb31 => ?_)
        · skip
          refine cz_iload rfl rfl ?_
          refine cz_retZ rfl (by omega) ?_
          first
          | exact cQI.mk ⟨(bI_pos (by omega)).symm, rfl, (if_pos (by omega)).symm⟩
          | exact cQI.mk ⟨(bI_neg (by omega)).symm, rfl, (if_neg (by omega)).symm⟩
          | (exfalso; omega)
        · skip
          refine cz_aload rfl rfl ?_
          refine cz_getP rfl rfl ?_
          refine cz_iload rfl rfl ?_
          refine cz_icst rfl cc_2 ?_
          refine cz_iastA (a := 5) (n := 64) (by decide) rfl (by omega) rfl (by omega) ?_
          refine cz_iload rfl rfl ?_
          refine cz_retZ rfl (by omega) ?_
          first
          | exact cQI.mk ⟨(bI_pos (by omega)).symm, rfl, (if_pos (by omega)).symm⟩
          | exact cQI.mk ⟨(bI_neg (by omega)).symm, rfl, (if_neg (by omega)).symm⟩
          | (exfalso; omega)
set_option maxRecDepth 20000 in
theorem p_dryAll_loop {xs : Nat → Int32} {Ls : Nat} {S : cS} {t : Nat} (hw : cPw S) (hpb : cPb S) : ∀ (k : Nat) (i c : Int) (S1 : cS), 0 ≤ i → i + k = 2 * S 1 2 → c = csum (fun i => bI (cWet S i)) i.toNat → (∀ a, ¬ a = 5 → S1 a = S a) → (∀ p, 0 ≤ p → p < 64 → S1 5 p = if p < i ∧ S 5 p = 2 then 1 else S 5 p) →
    cZ xs Ls 1 37 4 [(0, .ref 1), (1, .int (cI c)), (2, .int (cI i))] [] S1 t (cQI (fun r S' t' => r = csum (fun i => bI (cWet S i)) (2 * S 1 2).toNat ∧ t' = t ∧ (∀ a, ¬ a = 5 → S' a = S a) ∧ ∀ p, 0 ≤ p → p < 64 → S' 5 p = if p < 2 * S 1 2 ∧ S 5 p = 2 then 1 else S 5 p)) := by
  obtain ⟨hw1, hw2, hw3, hw4, hw5, hw6⟩ := id hw
  intro k
  induction k with
  | zero =>
    intro i c S1 hi0 hi hc h1 h2
    have e1 : S1 1 = S 1 := h1 1 (by omega)
    have e2 : S1 1 2 = S 1 2 := by rw [e1]
    have e3 : i = 2 * S 1 2 := by omega
    subst e3
    refine cz_iload rfl rfl ?_
    refine cz_icst rfl cc_2 ?_
    refine cz_aload rfl rfl ?_
    refine cz_getP rfl rfl ?_
    refine cz_imul rfl ?_
    refine cz_icge rfl (by omega) (by omega) (fun hb11 => ?_) (fun hb11 => ?_)
    rotate_left
    · exfalso; omega
    refine cz_iload rfl rfl ?_
    refine cz_retI rfl ?_
    exact cQI.mk ⟨hc, rfl, h1, h2⟩
  | succ k ih =>
    intro i c S1 hi0 hi hc h1 h2
    have e1 : S1 1 = S 1 := h1 1 (by omega)
    have e2 : S1 1 2 = S 1 2 := by rw [e1]
    have hw1' : cPw S1 := by unfold cPw; rw [e1]; exact hw
    have hpb1 : cPb S1 := by
      intro p hp0 hp1
      have h3 := hpb p hp0 hp1
      have h4 := h2 p hp0 hp1
      rw [h1 2 (by omega), h1 3 (by omega), h1 4 (by omega), h4]
      refine ⟨h3.1, h3.2.1, h3.2.2.1, ?_⟩
      split
      · omega
      · exact h3.2.2.2
    have e4 : S1 5 i = S 5 i := by rw [h2 i hi0 (by omega), if_neg (by omega)]
    have hn : (i + 1).toNat = i.toNat + 1 := by omega
    have hni : ((i.toNat : Nat) : Int) = i := by omega
    have hstep : csum (fun i => bI (cWet S i)) (i + 1).toNat = c + bI (cWet S i) := by
      rw [hn, hc]
      show csum (fun i => bI (cWet S i)) i.toNat + (fun i => bI (cWet S i)) ((i.toNat : Nat) : Int) = _
      rw [hni]
    refine cz_iload rfl rfl ?_
    refine cz_icst rfl cc_2 ?_
    refine cz_aload rfl rfl ?_
    refine cz_getP rfl rfl ?_
    refine cz_imul rfl ?_
    refine cz_icge rfl (by omega) (by omega) (fun hb11 => ?_) (fun hb11 => ?_)
    · exfalso; omega
    refine cz_aload rfl rfl ?_
    refine cz_iload rfl rfl ?_
    refine cz_cV2P rfl rfl rfl cIs1 (Nat.le_of_ble_eq_true rfl) (p_isWet hw1' hpb1 (by omega)) ?_
    refine cz_ifeq rfl (by exact bI_ran) (fun hb19 => ?_) (fun hb19 => ?_)
    · replace hb19 := bI_0 hb19
      refine cz_iinc (l' := [(0, _), (1, _), (2, _)]) rfl cc_1 rfl rfl ?_
      refine cz_goto rfl ?_
      refine ih (i + 1) _ _ (by omega) (by omega) ?_ ?_ ?_
      · rw [hstep]
        first
        | rw [bI_pos (by omega)]
        | (rw [bI_neg (by omega)]; omega)
      · intro a ha
        first
        | rw [setS_o ha]; exact h1 a ha
        | exact h1 a ha
      · intro p hp0 hp1
        have h3 := h2 p hp0 hp1
        first
        | rw [setS_at]
          by_cases hpe : p = i
          · subst hpe
            rw [if_pos rfl, if_pos (by omega)]
          · rw [if_neg hpe, h3]
            by_cases hpc : p < i ∧ S 5 p = 2
            · rw [if_pos hpc, if_pos (by omega)]
            · rw [if_neg hpc, if_neg (by omega)]
        | rw [h3]
          by_cases hpc : p < i ∧ S 5 p = 2
          · rw [if_pos hpc, if_pos (by omega)]
          · have hpd : ¬ (p < i + 1 ∧ S 5 p = 2) := by
              rintro ⟨hx, hy⟩
              have : p = i := by omega
              subst this
              omega
            rw [if_neg hpc, if_neg hpd]
    · replace hb19 := bI_n0 hb19
      refine cz_aload rfl rfl ?_
      refine cz_getP rfl rfl ?_
      refine cz_iload rfl rfl ?_
      refine cz_icst rfl cc_1 ?_
      refine cz_iastA (a := 5) (n := 64) (by decide) rfl (by omega) rfl (by omega) ?_
      refine cz_iinc (l' := [(0, _), (1, _), (2, _)]) rfl cc_1 rfl rfl ?_
      refine cz_iinc (l' := [(0, _), (1, _), (2, _)]) rfl cc_1 rfl rfl ?_
      refine cz_goto rfl ?_
      refine ih (i + 1) _ _ (by omega) (by omega) ?_ ?_ ?_
      · rw [hstep]
        first
        | rw [bI_pos (by omega)]
        | (rw [bI_neg (by omega)]; omega)
      · intro a ha
        first
        | rw [setS_o ha]; exact h1 a ha
        | exact h1 a ha
      · intro p hp0 hp1
        have h3 := h2 p hp0 hp1
        first
        | rw [setS_at]
          by_cases hpe : p = i
          · subst hpe
            rw [if_pos rfl, if_pos (by omega)]
          · rw [if_neg hpe, h3]
            by_cases hpc : p < i ∧ S 5 p = 2
            · rw [if_pos hpc, if_pos (by omega)]
            · rw [if_neg hpc, if_neg (by omega)]
        | rw [h3]
          by_cases hpc : p < i ∧ S 5 p = 2
          · rw [if_pos hpc, if_pos (by omega)]
          · have hpd : ¬ (p < i + 1 ∧ S 5 p = 2) := by
              rintro ⟨hx, hy⟩
              have : p = i := by omega
              subst this
              omega
            rw [if_neg hpc, if_neg hpd]
set_option maxRecDepth 20000 in
theorem p_dryAll {xs : Nat → Int32} {Ls : Nat} {S : cS} {t : Nat} (hw : cPw S) (hpb : cPb S) : cZ xs Ls 1 37 0 [(0, .ref 1)] [] S t (cQI (fun r S' t' => r = csum (fun i => bI (cWet S i)) (2 * S 1 2).toNat ∧ t' = t ∧ (∀ a, ¬ a = 5 → S' a = S a) ∧ ∀ p, 0 ≤ p → p < 64 → S' 5 p = if p < 2 * S 1 2 ∧ S 5 p = 2 then 1 else S 5 p)) := by
  obtain ⟨hw1, hw2, hw3, hw4, hw5, hw6⟩ := id hw
  refine cz_icst rfl cc_0 ?_
  refine cz_st1 (l' := [(0, _), (1, _)]) rfl rfl rfl ?_
  refine cz_icst rfl cc_0 ?_
  refine cz_st1 (l' := [(0, _), (1, _), (2, _)]) rfl rfl rfl ?_
  refine p_dryAll_loop hw hpb (2 * S 1 2).toNat 0 0 S (by omega) (by omega) rfl (fun _ _ => rfl) ?_
  intro p hp0 hp1
  rw [if_neg (by omega)]
set_option maxRecDepth 20000 in
theorem p_countSides_loop {xs : Nat → Int32} {Ls : Nat} {S : cS} {t : Nat} (hw : cPw S) (hpb : cPb S) {x : Int} (hxR : -2147483648 ≤ x ∧ x < 2147483648) : ∀ (k : Nat) (i c : Int), 0 ≤ i → i + k = 2 * S 1 2 → c = csum (fun i => bI (S 5 i = x)) i.toNat → cZ xs Ls 0 38 4 [(0, .ref 1), (1, .int (cI x)), (2, .int (cI c)), (3, .int (cI i))] [] S t (cP (csum (fun i => bI (S 5 i = x)) (2 * S 1 2).toNat) S t) := by
  obtain ⟨hw1, hw2, hw3, hw4, hw5, hw6⟩ := id hw
  intro k
  induction k with
  | zero =>
    intro i c hi0 hi hc
    have e3 : i = 2 * S 1 2 := by omega
    subst e3
    refine cz_iload rfl rfl ?_
    refine cz_icst rfl cc_2 ?_
    refine cz_aload rfl rfl ?_
    refine cz_getP rfl rfl ?_
    refine cz_imul rfl ?_
    refine cz_icge rfl (by omega) (by omega) (fun hb11 => ?_) (fun hb11 => ?_)
    rotate_left
    · exfalso; omega
    refine cz_iload rfl rfl ?_
    refine cz_retI rfl ?_
    exact cP.mk hc
  | succ k ih =>
    intro i c hi0 hi hc
    have hn : (i + 1).toNat = i.toNat + 1 := by omega
    have hni : ((i.toNat : Nat) : Int) = i := by omega
    have hstep : csum (fun i => bI (S 5 i = x)) (i + 1).toNat = c + (fun i => bI (S 5 i = x)) i := by
      rw [hn, hc]
      show csum (fun i => bI (S 5 i = x)) i.toNat + (fun i => bI (S 5 i = x)) ((i.toNat : Nat) : Int) = _
      rw [hni]
    dsimp only at hstep
    have hpi := hpb i hi0 (by omega)
    refine cz_iload rfl rfl ?_
    refine cz_icst rfl cc_2 ?_
    refine cz_aload rfl rfl ?_
    refine cz_getP rfl rfl ?_
    refine cz_imul rfl ?_
    refine cz_icge rfl (by omega) (by omega) (fun hb11 => ?_) (fun hb11 => ?_)
    · exfalso; omega
    refine cz_aload rfl rfl ?_
    refine cz_getP rfl rfl ?_
    refine cz_iload rfl rfl ?_
    refine cz_ialdA (a := 5) (n := 64) (by decide) rfl (by omega) rfl (by omega) ?_
    refine cz_iload rfl rfl ?_
    refine cz_icne rfl (by omega) (by omega) (fun hb21 => ?_) (fun hb21 => ?_)
    · skip
      refine cz_iinc (l' := [(0, _), (1, _), (2, _), (3, _)]) rfl cc_1 rfl rfl ?_
      refine cz_goto rfl ?_
      refine ih (i + 1) _ (by omega) (by omega) ?_
      first
      | exact hstep.symm
      | (rw [hstep, bI_pos (by omega)]; done)
      | (rw [hstep, bI_neg (by omega)]; omega)
    · skip
      refine cz_iinc (l' := [(0, _), (1, _), (2, _), (3, _)]) rfl cc_1 rfl rfl ?_
      refine cz_iinc (l' := [(0, _), (1, _), (2, _), (3, _)]) rfl cc_1 rfl rfl ?_
      refine cz_goto rfl ?_
      refine ih (i + 1) _ (by omega) (by omega) ?_
      first
      | exact hstep.symm
      | (rw [hstep, bI_pos (by omega)]; done)
      | (rw [hstep, bI_neg (by omega)]; omega)
set_option maxRecDepth 20000 in
theorem p_countSides {xs : Nat → Int32} {Ls : Nat} {S : cS} {t : Nat} (hw : cPw S) (hpb : cPb S) {x : Int} (hxR : -2147483648 ≤ x ∧ x < 2147483648) : cZ xs Ls 0 38 0 [(0, .ref 1), (1, .int (cI x))] [] S t (cP (csum (fun i => bI (S 5 i = x)) (2 * S 1 2).toNat) S t) := by
  obtain ⟨hw1, hw2, hw3, hw4, hw5, hw6⟩ := id hw
  refine cz_icst rfl cc_0 ?_
  refine cz_st1 (l' := [(0, _), (1, _), (2, _)]) rfl rfl rfl ?_
  refine cz_icst rfl cc_0 ?_
  refine cz_st1 (l' := [(0, _), (1, _), (2, _), (3, _)]) rfl rfl rfl ?_
  exact p_countSides_loop hw hpb hxR (2 * S 1 2).toNat 0 0 (by omega) (by omega) rfl
set_option maxRecDepth 20000 in
theorem p_sumOfHoles_loop {xs : Nat → Int32} {Ls : Nat} {S : cS} {t : Nat} (hw : cPw S)  : ∀ (k : Nat) (i c : Int), 0 ≤ i → i + k = S 1 2 → c = csum (fun i => S 6 i) i.toNat → cZ xs Ls 0 39 4 [(0, .ref 1), (1, .int (cI c)), (2, .int (cI i))] [] S t (cP (csum (fun i => S 6 i) (S 1 2).toNat) S t) := by
  obtain ⟨hw1, hw2, hw3, hw4, hw5, hw6⟩ := id hw
  intro k
  induction k with
  | zero =>
    intro i c hi0 hi hc
    have e3 : i = S 1 2 := by omega
    subst e3
    refine cz_iload rfl rfl ?_
    refine cz_aload rfl rfl ?_
    refine cz_getP rfl rfl ?_
    refine cz_icge rfl (by omega) (by omega) (fun hb9 => ?_) (fun hb9 => ?_)
    rotate_left
    · exfalso; omega
    refine cz_iload rfl rfl ?_
    refine cz_retI rfl ?_
    exact cP.mk hc
  | succ k ih =>
    intro i c hi0 hi hc
    have hn : (i + 1).toNat = i.toNat + 1 := by omega
    have hni : ((i.toNat : Nat) : Int) = i := by omega
    have hstep : csum (fun i => S 6 i) (i + 1).toNat = c + (fun i => S 6 i) i := by
      rw [hn, hc]
      show csum (fun i => S 6 i) i.toNat + (fun i => S 6 i) ((i.toNat : Nat) : Int) = _
      rw [hni]
    dsimp only at hstep

    refine cz_iload rfl rfl ?_
    refine cz_aload rfl rfl ?_
    refine cz_getP rfl rfl ?_
    refine cz_icge rfl (by omega) (by omega) (fun hb9 => ?_) (fun hb9 => ?_)
    · exfalso; omega
    refine cz_iload rfl rfl ?_
    refine cz_aload rfl rfl ?_
    refine cz_getP rfl rfl ?_
    refine cz_iload rfl rfl ?_
    refine cz_ialdA (a := 6) (n := 32) (by decide) rfl (by omega) rfl (by omega) ?_
    refine cz_iadd rfl ?_
    refine cz_st1 (l' := [(0, _), (1, _), (2, _)]) rfl rfl rfl ?_
    refine cz_iinc (l' := [(0, _), (1, _), (2, _)]) rfl cc_1 rfl rfl ?_
    refine cz_goto rfl ?_
    refine ih (i + 1) _ (by omega) (by omega) ?_
    first
    | exact hstep.symm
    | (rw [hstep, bI_pos (by omega)]; done)
    | (rw [hstep, bI_neg (by omega)]; omega)
set_option maxRecDepth 20000 in
theorem p_sumOfHoles {xs : Nat → Int32} {Ls : Nat} {S : cS} {t : Nat} (hw : cPw S)  : cZ xs Ls 0 39 0 [(0, .ref 1)] [] S t (cP (csum (fun i => S 6 i) (S 1 2).toNat) S t) := by
  obtain ⟨hw1, hw2, hw3, hw4, hw5, hw6⟩ := id hw
  refine cz_icst rfl cc_0 ?_
  refine cz_st1 (l' := [(0, _), (1, _)]) rfl rfl rfl ?_
  refine cz_icst rfl cc_0 ?_
  refine cz_st1 (l' := [(0, _), (1, _), (2, _)]) rfl rfl rfl ?_
  exact p_sumOfHoles_loop hw (S 1 2).toNat 0 0 (by omega) (by omega) rfl
set_option maxRecDepth 20000 in
theorem p_areGlued {xs : Nat → Int32} {Ls : Nat} {S : cS} {t : Nat} (hw : cPw S) {x y : Int} (hxR : -2147483648 ≤ x ∧ x < 2147483648) (hyR : -2147483648 ≤ y ∧ y < 2147483648) : cZ xs Ls 1 40 0 [(0, .ref 1), (1, .int (cI x)), (2, .int (cI y))] [] S t (cP (bI (cGl S x y)) S t) := by
  obtain ⟨hw1, hw2, hw3, hw4, hw5, hw6⟩ := id hw
  refine cz_aload rfl rfl ?_
  refine cz_iload rfl rfl ?_
  refine cz_cV2P rfl rfl rfl cIs1 (Nat.le_of_ble_eq_true rfl) (p_hasCell hw (by omega)) ?_
  refine cz_ifeq rfl (by exact bI_ran) (fun hb5 => ?_) (fun hb5 => ?_)
  · replace hb5 := bI_0 hb5
    try replace hb27 : ¬ cGb (S 7 x) y = 1 := hb27
    refine cz_icst rfl cc_0 ?_
    refine cz_retZ rfl (by omega) ?_
    exact cP.mk (by first | exact (bI_pos (by omega)).symm | exact (bI_neg (by omega)).symm)
  · replace hb5 := bI_n0 hb5
    refine cz_aload rfl rfl ?_
    refine cz_iload rfl rfl ?_
    refine cz_cV2P rfl rfl rfl cIs1 (Nat.le_of_ble_eq_true rfl) (p_hasCell hw (by omega)) ?_
    refine cz_ifeq rfl (by exact bI_ran) (fun hb13 => ?_) (fun hb13 => ?_)
    · replace hb13 := bI_0 hb13
      try replace hb27 : ¬ cGb (S 7 x) y = 1 := hb27
      refine cz_icst rfl cc_0 ?_
      refine cz_retZ rfl (by omega) ?_
      exact cP.mk (by first | exact (bI_pos (by omega)).symm | exact (bI_neg (by omega)).symm)
    · replace hb13 := bI_n0 hb13
      refine cz_aload rfl rfl ?_
      refine cz_getP rfl rfl ?_
      refine cz_iload rfl rfl ?_
      refine cz_ialdA (a := 7) (n := 32) (by decide) rfl (by omega) rfl (by omega) ?_
      refine cz_iload rfl rfl ?_
      refine cz_iany rfl ?_
      refine cz_icst rfl cc_1 ?_
      refine cz_iany rfl ?_
      refine cz_icst rfl cc_1 ?_
      refine cz_icne rfl (by first | exact cI_range _ | omega) (by first | exact cI_range _ | omega) (fun hb27 => ?_) (fun hb27 => ?_)
      · skip
        try replace hb27 : ¬ cGb (S 7 x) y = 1 := hb27
        refine cz_icst rfl cc_0 ?_
        refine cz_retZ rfl (by omega) ?_
        exact cP.mk (by first | exact (bI_pos (by omega)).symm | exact (bI_neg (by omega)).symm)
      · skip
        replace hb27 : cGb (S 7 x) y = 1 := Decidable.not_not.mp hb27
        refine cz_icst rfl cc_1 ?_
        refine cz_goto rfl ?_
        refine cz_retZ rfl (by omega) ?_
        exact cP.mk (by first | exact (bI_pos (by omega)).symm | exact (bI_neg (by omega)).symm)
set_option maxRecDepth 20000 in
theorem p_stick {xs : Nat → Int32} {Ls : Nat} {S : cS} {t : Nat} (hw : cPw S) {x y : Int} (hxR : -2147483648 ≤ x ∧ x < 2147483648) (hyR : -2147483648 ≤ y ∧ y < 2147483648) : cZ xs Ls 1 41 0 [(0, .ref 1), (1, .int (cI x)), (2, .int (cI y))] [] S t (cQV (fun S' t' => t' = t ∧ S' = if (0 ≤ x ∧ x < S 1 2) ∧ (0 ≤ y ∧ y < S 1 2) then setS (setS S 7 x (cOrb (S 7 x) y)) 7 y (cOrb (setS S 7 x (cOrb (S 7 x) y) 7 y) x) else S)) := by
  obtain ⟨hw1, hw2, hw3, hw4, hw5, hw6⟩ := id hw
  refine cz_aload rfl rfl ?_
  refine cz_iload rfl rfl ?_
  refine cz_cV2P rfl rfl rfl cIs1 (Nat.le_of_ble_eq_true rfl) (p_hasCell hw (by omega)) ?_
  refine cz_ifeq rfl (by exact bI_ran) (fun hb5 => ?_) (fun hb5 => ?_)
  · replace hb5 := bI_0 hb5
    refine cz_ret0 rfl ?_
    first | exact cQV.mk ⟨rfl, (if_pos (by omega)).symm⟩ | exact cQV.mk ⟨rfl, (if_neg (by omega)).symm⟩
  · replace hb5 := bI_n0 hb5
    refine cz_aload rfl rfl ?_
    refine cz_iload rfl rfl ?_
    refine cz_cV2P rfl rfl rfl cIs1 (Nat.le_of_ble_eq_true rfl) (p_hasCell hw (by omega)) ?_
    refine cz_ifeq rfl (by exact bI_ran) (fun hb13 => ?_) (fun hb13 => ?_)
    · replace hb13 := bI_0 hb13
      refine cz_ret0 rfl ?_
      first | exact cQV.mk ⟨rfl, (if_pos (by omega)).symm⟩ | exact cQV.mk ⟨rfl, (if_neg (by omega)).symm⟩
    · replace hb13 := bI_n0 hb13
      refine cz_aload rfl rfl ?_
      refine cz_getP rfl rfl ?_
      refine cz_iload rfl rfl ?_
      refine cz_dup2 rfl rfl rfl ?_
      refine cz_ialdA (a := 7) (n := 32) (by decide) rfl (by omega) rfl (by omega) ?_
      refine cz_icst rfl cc_1 ?_
      refine cz_iload rfl rfl ?_
      refine cz_iany rfl ?_
      refine cz_iany rfl ?_
      refine cz_iastA (a := 7) (n := 32) (by decide) rfl (by omega) rfl (by omega) ?_
      refine cz_aload rfl rfl ?_
      refine cz_getP rfl rfl ?_
      refine cz_iload rfl rfl ?_
      refine cz_dup2 rfl rfl rfl ?_
      refine cz_ialdA (a := 7) (n := 32) (by decide) rfl (by omega) rfl (by omega) ?_
      refine cz_icst rfl cc_1 ?_
      refine cz_iload rfl rfl ?_
      refine cz_iany rfl ?_
      refine cz_iany rfl ?_
      refine cz_iastA (a := 7) (n := 32) (by decide) rfl (by omega) rfl (by omega) ?_
      refine cz_ret0 rfl ?_
      first | exact cQV.mk ⟨rfl, (if_pos (by omega)).symm⟩ | exact cQV.mk ⟨rfl, (if_neg (by omega)).symm⟩
set_option maxRecDepth 20000 in
theorem p_creasesOf_loop {xs : Nat → Int32} {Ls : Nat} {S : cS} {t : Nat} (hw : cPw S) (hpb : cPb S) {x : Int} (hxR : -2147483648 ≤ x ∧ x < 2147483648) : ∀ (k : Nat) (i c : Int), 0 ≤ i → i + k = S 1 2 → c = csum (cCro S x) i.toNat → cZ xs Ls 2 32 4 [(0, .ref 1), (1, .int (cI x)), (2, .int (cI c)), (3, .int (cI i))] [] S t (cP (csum (cCro S x) (S 1 2).toNat) S t) := by
  obtain ⟨hw1, hw2, hw3, hw4, hw5, hw6⟩ := id hw
  intro k
  induction k with
  | zero =>
    intro i c hi0 hi hc
    have e3 : i = S 1 2 := by omega
    subst e3
    refine cz_iload rfl rfl ?_
    refine cz_aload rfl rfl ?_
    refine cz_getP rfl rfl ?_
    refine cz_icge rfl (by omega) (by omega) (fun hb9 => ?_) (fun hb9 => ?_)
    rotate_left
    · exfalso; omega
    refine cz_iload rfl rfl ?_
    refine cz_retI rfl ?_
    exact cP.mk hc
  | succ k ih =>
    intro i c hi0 hi hc
    have hn : (i + 1).toNat = i.toNat + 1 := by omega
    have hni : ((i.toNat : Nat) : Int) = i := by omega
    have hstep : csum (cCro S x) (i + 1).toNat = c + cCro S x i := by
      rw [hn, hc]
      show csum (cCro S x) i.toNat + (cCro S x) ((i.toNat : Nat) : Int) = _
      rw [hni]
    have hp1 := (hpb (2 * i + 0) (by omega) (by omega)).1
    have hp2 := (hpb (2 * i + 1) (by omega) (by omega)).1
    have hbe1 : -1 ≤ cBes S i 0 ∧ cBes S i 0 ≤ 100 := by unfold cBes; repeat (first | omega | split)
    have hbe2 : -1 ≤ cBes S i 1 ∧ cBes S i 1 ≤ 100 := by unfold cBes; repeat (first | omega | split)
    have hmid : ∀ c2, c2 = c + bI (¬ S 2 (2 * i + 0) = 0 ∧ (i = x ∨ cBes S i 0 = x)) → cZ xs Ls 2 32 43 [(0, .ref 1), (1, .int (cI x)), (2, .int (cI c2)), (3, .int (cI i))] [] S t (cP (csum (cCro S x) (S 1 2).toNat) S t) := by
      intro c2 hc2
      refine cz_aload rfl rfl ?_
      refine cz_getP rfl rfl ?_
      refine cz_iload rfl rfl ?_
      refine cz_icst rfl cc_1 ?_
      refine cz_cS2P rfl rfl rfl rfl (Nat.le_of_ble_eq_true rfl) (p_pairOf (by omega)) ?_
      refine cz_ialdA (a := 2) (n := 64) (by decide) rfl (by omega) rfl (by omega) ?_
      refine cz_ifeq rfl (by omega) (fun hb53 => ?_) (fun hb53 => ?_)
      · skip
        refine cz_iinc (l' := [(0, _), (1, _), (2, _), (3, _)]) rfl cc_1 rfl rfl ?_
        refine cz_goto rfl ?_
        refine ih (i + 1) _ (by omega) (by omega) ?_
        rw [hstep]
        unfold cCro
        first
        | (rw [bI_pos (P := ¬ S 2 (2 * i + 1) = 0 ∧ (i = x ∨ cBes S i 1 = x)) (by omega)]; omega)
        | (rw [bI_neg (P := ¬ S 2 (2 * i + 1) = 0 ∧ (i = x ∨ cBes S i 1 = x)) (by omega)]; omega)
      · skip
        refine cz_iload rfl rfl ?_
        refine cz_iload rfl rfl ?_
        refine cz_iceq rfl (by omega) (by omega) (fun hb58 => ?_) (fun hb58 => ?_)
        · skip
          refine cz_iinc (l' := [(0, _), (1, _), (2, _), (3, _)]) rfl cc_1 rfl rfl ?_
          refine cz_iinc (l' := [(0, _), (1, _), (2, _), (3, _)]) rfl cc_1 rfl rfl ?_
          refine cz_goto rfl ?_
          refine ih (i + 1) _ (by omega) (by omega) ?_
          rw [hstep]
          unfold cCro
          first
          | (rw [bI_pos (P := ¬ S 2 (2 * i + 1) = 0 ∧ (i = x ∨ cBes S i 1 = x)) (by omega)]; omega)
          | (rw [bI_neg (P := ¬ S 2 (2 * i + 1) = 0 ∧ (i = x ∨ cBes S i 1 = x)) (by omega)]; omega)
        · skip
          refine cz_aload rfl rfl ?_
          refine cz_iload rfl rfl ?_
          refine cz_icst rfl cc_1 ?_
          refine cz_cV3P rfl rfl rfl cIs1 (Nat.le_of_ble_eq_true rfl) (p_cellBeside hw (by omega) (by omega)) ?_
          refine cz_iload rfl rfl ?_
          refine cz_icne rfl (by omega) (by omega) (fun hb68 => ?_) (fun hb68 => ?_)
          · skip
            refine cz_iinc (l' := [(0, _), (1, _), (2, _), (3, _)]) rfl cc_1 rfl rfl ?_
            refine cz_goto rfl ?_
            refine ih (i + 1) _ (by omega) (by omega) ?_
            rw [hstep]
            unfold cCro
            first
            | (rw [bI_pos (P := ¬ S 2 (2 * i + 1) = 0 ∧ (i = x ∨ cBes S i 1 = x)) (by omega)]; omega)
            | (rw [bI_neg (P := ¬ S 2 (2 * i + 1) = 0 ∧ (i = x ∨ cBes S i 1 = x)) (by omega)]; omega)
          · skip
            refine cz_iinc (l' := [(0, _), (1, _), (2, _), (3, _)]) rfl cc_1 rfl rfl ?_
            refine cz_iinc (l' := [(0, _), (1, _), (2, _), (3, _)]) rfl cc_1 rfl rfl ?_
            refine cz_goto rfl ?_
            refine ih (i + 1) _ (by omega) (by omega) ?_
            rw [hstep]
            unfold cCro
            first
            | (rw [bI_pos (P := ¬ S 2 (2 * i + 1) = 0 ∧ (i = x ∨ cBes S i 1 = x)) (by omega)]; omega)
            | (rw [bI_neg (P := ¬ S 2 (2 * i + 1) = 0 ∧ (i = x ∨ cBes S i 1 = x)) (by omega)]; omega)
    refine cz_iload rfl rfl ?_
    refine cz_aload rfl rfl ?_
    refine cz_getP rfl rfl ?_
    refine cz_icge rfl (by omega) (by omega) (fun hb9 => ?_) (fun hb9 => ?_)
    · exfalso; omega
    refine cz_aload rfl rfl ?_
    refine cz_getP rfl rfl ?_
    refine cz_iload rfl rfl ?_
    refine cz_icst rfl cc_0 ?_
    refine cz_cS2P rfl rfl rfl rfl (Nat.le_of_ble_eq_true rfl) (p_pairOf (by omega)) ?_
    refine cz_ialdA (a := 2) (n := 64) (by decide) rfl (by omega) rfl (by omega) ?_
    refine cz_ifeq rfl (by omega) (fun hb22 => ?_) (fun hb22 => ?_)
    · skip
      first
      | (exact hmid _ (by rw [bI_pos (by omega)]))
      | (exact hmid _ (by rw [bI_neg (by omega)]; omega))
    · skip
      refine cz_iload rfl rfl ?_
      refine cz_iload rfl rfl ?_
      refine cz_iceq rfl (by omega) (by omega) (fun hb27 => ?_) (fun hb27 => ?_)
      · skip
        refine cz_iinc (l' := [(0, _), (1, _), (2, _), (3, _)]) rfl cc_1 rfl rfl ?_
        first
        | (exact hmid _ (by rw [bI_pos (by omega)]))
        | (exact hmid _ (by rw [bI_neg (by omega)]; omega))
      · skip
        refine cz_aload rfl rfl ?_
        refine cz_iload rfl rfl ?_
        refine cz_icst rfl cc_0 ?_
        refine cz_cV3P rfl rfl rfl cIs1 (Nat.le_of_ble_eq_true rfl) (p_cellBeside hw (by omega) (by omega)) ?_
        refine cz_iload rfl rfl ?_
        refine cz_icne rfl (by omega) (by omega) (fun hb37 => ?_) (fun hb37 => ?_)
        · skip
          first
          | (exact hmid _ (by rw [bI_pos (by omega)]))
          | (exact hmid _ (by rw [bI_neg (by omega)]; omega))
        · skip
          refine cz_iinc (l' := [(0, _), (1, _), (2, _), (3, _)]) rfl cc_1 rfl rfl ?_
          first
          | (exact hmid _ (by rw [bI_pos (by omega)]))
          | (exact hmid _ (by rw [bI_neg (by omega)]; omega))
set_option maxRecDepth 20000 in
theorem p_creasesOf {xs : Nat → Int32} {Ls : Nat} {S : cS} {t : Nat} (hw : cPw S) (hpb : cPb S) {x : Int} (hxR : -2147483648 ≤ x ∧ x < 2147483648) : cZ xs Ls 2 32 0 [(0, .ref 1), (1, .int (cI x))] [] S t (cP (csum (cCro S x) (S 1 2).toNat) S t) := by
  obtain ⟨hw1, hw2, hw3, hw4, hw5, hw6⟩ := id hw
  refine cz_icst rfl cc_0 ?_
  refine cz_st1 (l' := [(0, _), (1, _), (2, _)]) rfl rfl rfl ?_
  refine cz_icst rfl cc_0 ?_
  refine cz_st1 (l' := [(0, _), (1, _), (2, _), (3, _)]) rfl rfl rfl ?_
  exact p_creasesOf_loop hw hpb hxR (S 1 2).toNat 0 0 (by omega) (by omega) rfl
set_option maxRecDepth 20000 in
theorem p_renew_loop2 {xs : Nat → Int32} {Ls : Nat} {S : cS} {t : Nat} {x y : Int} : ∀ (k : Nat) (i : Int) (S1 : cS), 0 ≤ i → i + k = 32 → (∀ a, ¬ (1 ≤ a ∧ a < 8) → S1 a = S a) → S1 1 0 = x → S1 1 1 = y → S1 1 2 = x * y → (∀ a, 2 ≤ a → a < 6 → ∀ p, 0 ≤ p → p < 64 → S1 a p = 0) → (∀ a, 6 ≤ a → a < 8 → ∀ p, 0 ≤ p → p < i → S1 a p = 0) →
    cZ xs Ls 0 27 61 [(0, .ref 1), (3, .int (cI i))] [] S1 t (cQV (fun S' t' => t' = t ∧ (∀ a, ¬ (1 ≤ a ∧ a < 8) → S' a = S a) ∧ S' 1 0 = x ∧ S' 1 1 = y ∧ S' 1 2 = x * y ∧ (∀ a, 2 ≤ a → a < 6 → ∀ p, 0 ≤ p → p < 64 → S' a p = 0) ∧ ∀ a, 6 ≤ a → a < 8 → ∀ p, 0 ≤ p → p < 32 → S' a p = 0)) := by
  intro k
  induction k with
  | zero =>
    intro i S1 hi0 hi h1 h2 h3 h4 h5 h6
    have e3 : i = 32 := by omega
    subst e3
    refine cz_iload rfl rfl ?_
    refine cz_icst rfl cc_32 ?_
    refine cz_icge rfl (by omega) (by omega) (fun hb64 => ?_) (fun hb64 => ?_)
    rotate_left
    · exfalso; omega
    refine cz_ret0 rfl ?_
    exact cQV.mk ⟨rfl, h1, h2, h3, h4, h5, h6⟩
  | succ k ih =>
    intro i S1 hi0 hi h1 h2 h3 h4 h5 h6
    refine cz_iload rfl rfl ?_
    refine cz_icst rfl cc_32 ?_
    refine cz_icge rfl (by omega) (by omega) (fun hb64 => ?_) (fun hb64 => ?_)
    · exfalso; omega
    refine cz_aload rfl rfl ?_
    refine cz_getP rfl rfl ?_
    refine cz_iload rfl rfl ?_
    refine cz_icst rfl cc_0 ?_
    refine cz_iastA (a := 6) (n := 32) (by decide) rfl (by omega) rfl (by omega) ?_
    refine cz_aload rfl rfl ?_
    refine cz_getP rfl rfl ?_
    refine cz_iload rfl rfl ?_
    refine cz_icst rfl cc_0 ?_
    refine cz_iastA (a := 7) (n := 32) (by decide) rfl (by omega) rfl (by omega) ?_
    refine cz_iinc (l' := [(0, _), (3, _)]) rfl cc_1 rfl rfl ?_
    refine cz_goto rfl ?_
    refine ih (i + 1) _ (by omega) (by omega) ?_ ?_ ?_ ?_ ?_ ?_
    · intro a ha
      rw [setS_o (by omega), setS_o (by omega)]
      exact h1 a ha
    · rw [setS_o (by omega), setS_o (by omega)]; exact h2
    · rw [setS_o (by omega), setS_o (by omega)]; exact h3
    · rw [setS_o (by omega), setS_o (by omega)]; exact h4
    · intro a ha0 ha1 p hp0 hp1
      rw [setS_o (by omega), setS_o (by omega)]
      exact h5 a ha0 ha1 p hp0 hp1
    · intro a ha0 ha1 p hp0 hp1
      by_cases hpe : p = i
      · subst hpe
        obtain e | e : a = 6 ∨ a = 7 := by omega
        · subst e; rw [setS_o (by omega), setS_e]
        · subst e; rw [setS_e]
      · have := h6 a ha0 ha1 p hp0 (by omega)
        unfold setS
        rw [if_neg (by omega), if_neg (by omega)]
        exact this
set_option maxRecDepth 20000 in
theorem p_renew_loop1 {xs : Nat → Int32} {Ls : Nat} {S : cS} {t : Nat} {x y : Int} : ∀ (k : Nat) (i : Int) (S1 : cS), 0 ≤ i → i + k = 64 → (∀ a, ¬ (1 ≤ a ∧ a < 8) → S1 a = S a) → S1 1 0 = x → S1 1 1 = y → S1 1 2 = x * y → (∀ a, 2 ≤ a → a < 6 → ∀ p, 0 ≤ p → p < i → S1 a p = 0) →
    cZ xs Ls 0 27 19 [(0, .ref 1), (3, .int (cI i))] [] S1 t (cQV (fun S' t' => t' = t ∧ (∀ a, ¬ (1 ≤ a ∧ a < 8) → S' a = S a) ∧ S' 1 0 = x ∧ S' 1 1 = y ∧ S' 1 2 = x * y ∧ (∀ a, 2 ≤ a → a < 6 → ∀ p, 0 ≤ p → p < 64 → S' a p = 0) ∧ ∀ a, 6 ≤ a → a < 8 → ∀ p, 0 ≤ p → p < 32 → S' a p = 0)) := by
  intro k
  induction k with
  | zero =>
    intro i S1 hi0 hi h1 h2 h3 h4 h5
    have e3 : i = 64 := by omega
    subst e3
    refine cz_iload rfl rfl ?_
    refine cz_icst rfl cc_64 ?_
    refine cz_icge rfl (by omega) (by omega) (fun hb22 => ?_) (fun hb22 => ?_)
    rotate_left
    · exfalso; omega
    refine cz_icst rfl cc_0 ?_
    refine cz_st1 (l' := [(0, _), (3, _)]) rfl rfl rfl ?_
    exact p_renew_loop2 32 0 S1 (by omega) (by omega) h1 h2 h3 h4 h5 (by intro a _ _ p hp0 hp1; omega)
  | succ k ih =>
    intro i S1 hi0 hi h1 h2 h3 h4 h5
    refine cz_iload rfl rfl ?_
    refine cz_icst rfl cc_64 ?_
    refine cz_icge rfl (by omega) (by omega) (fun hb22 => ?_) (fun hb22 => ?_)
    · exfalso; omega
    refine cz_aload rfl rfl ?_
    refine cz_getP rfl rfl ?_
    refine cz_iload rfl rfl ?_
    refine cz_icst rfl cc_0 ?_
    refine cz_iastA (a := 2) (n := 64) (by decide) rfl (by omega) rfl (by omega) ?_
    refine cz_aload rfl rfl ?_
    refine cz_getP rfl rfl ?_
    refine cz_iload rfl rfl ?_
    refine cz_icst rfl cc_0 ?_
    refine cz_iastA (a := 3) (n := 64) (by decide) rfl (by omega) rfl (by omega) ?_
    refine cz_aload rfl rfl ?_
    refine cz_getP rfl rfl ?_
    refine cz_iload rfl rfl ?_
    refine cz_icst rfl cc_0 ?_
    refine cz_iastA (a := 4) (n := 64) (by decide) rfl (by omega) rfl (by omega) ?_
    refine cz_aload rfl rfl ?_
    refine cz_getP rfl rfl ?_
    refine cz_iload rfl rfl ?_
    refine cz_icst rfl cc_0 ?_
    refine cz_iastA (a := 5) (n := 64) (by decide) rfl (by omega) rfl (by omega) ?_
    refine cz_iinc (l' := [(0, _), (3, _)]) rfl cc_1 rfl rfl ?_
    refine cz_goto rfl ?_
    refine ih (i + 1) _ (by omega) (by omega) ?_ ?_ ?_ ?_ ?_
    · intro a ha
      rw [setS_o (by omega), setS_o (by omega), setS_o (by omega), setS_o (by omega)]
      exact h1 a ha
    · rw [setS_o (by omega), setS_o (by omega), setS_o (by omega), setS_o (by omega)]; exact h2
    · rw [setS_o (by omega), setS_o (by omega), setS_o (by omega), setS_o (by omega)]; exact h3
    · rw [setS_o (by omega), setS_o (by omega), setS_o (by omega), setS_o (by omega)]; exact h4
    · intro a ha0 ha1 p hp0 hp1
      by_cases hpe : p = i
      · subst hpe
        obtain e | e | e | e : a = 2 ∨ a = 3 ∨ a = 4 ∨ a = 5 := by omega
        · subst e; rw [setS_o (by omega), setS_o (by omega), setS_o (by omega), setS_e]
        · subst e; rw [setS_o (by omega), setS_o (by omega), setS_e]
        · subst e; rw [setS_o (by omega), setS_e]
        · subst e; rw [setS_e]
      · have := h5 a ha0 ha1 p hp0 (by omega)
        unfold setS
        rw [if_neg (by omega), if_neg (by omega), if_neg (by omega), if_neg (by omega)]
        exact this
set_option maxRecDepth 20000 in
theorem p_renew {xs : Nat → Int32} {Ls : Nat} {S : cS} {t : Nat} {x y : Int} : cZ xs Ls 0 27 0 [(0, .ref 1), (1, .int (cI x)), (2, .int (cI y))] [] S t (cQV (fun S' t' => t' = t ∧ (∀ a, ¬ (1 ≤ a ∧ a < 8) → S' a = S a) ∧ S' 1 0 = x ∧ S' 1 1 = y ∧ S' 1 2 = x * y ∧ (∀ a, 2 ≤ a → a < 6 → ∀ p, 0 ≤ p → p < 64 → S' a p = 0) ∧ ∀ a, 6 ≤ a → a < 8 → ∀ p, 0 ≤ p → p < 32 → S' a p = 0)) := by
  refine cz_aload rfl rfl ?_
  refine cz_iload rfl rfl ?_
  refine cz_putP rfl (by decide) ?_
  refine cz_aload rfl rfl ?_
  refine cz_iload rfl rfl ?_
  refine cz_putP rfl (by decide) ?_
  refine cz_aload rfl rfl ?_
  refine cz_iload rfl rfl ?_
  refine cz_iload rfl rfl ?_
  refine cz_imul rfl ?_
  refine cz_putP rfl (by decide) ?_
  refine cz_icst rfl cc_0 ?_
  refine cz_st1 (l' := [(0, _), (1, _), (2, _), (3, _)]) rfl rfl rfl ?_
  refine cz_weak (fun i => i == 0 || i == 3) (l' := [(0, _), (3, _)]) rfl ?_
  refine p_renew_loop1 64 0 _ (by omega) (by omega) ?_ ?_ ?_ ?_ ?_
  · intro a ha
    rw [setS_o (by omega), setS_o (by omega), setS_o (by omega)]
  · unfold setS; rw [if_neg (by omega), if_neg (by omega), if_pos (by omega)]
  · unfold setS; rw [if_neg (by omega), if_pos (by omega)]
  · unfold setS; rw [if_pos (by omega)]
  · intro a _ _ p hp0 hp1; omega
