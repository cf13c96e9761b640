/-! The check of the law: the mean, and its end
-/
theorem cc_9 : (9 : Int32) = cI (9) := by decide
theorem cc_10 : (10 : Int32) = cI (10) := by decide
theorem cc_11 : (11 : Int32) = cI (11) := by decide
theorem cc_12 : (12 : Int32) = cI (12) := by decide
theorem cc_13 : (13 : Int32) = cI (13) := by decide
theorem cc_14 : (14 : Int32) = cI (14) := by decide
theorem cc_790386105 : (790386105 : Int32) = cI (790386105) := by decide
theorem cInk_sum {S : cS} {M : Int} (h : cInv S M) : csum (fun i => bI (S 5 i = 2)) (2 * S 1 2).toNat + csum (fun i => bI (S 5 i = 1)) (2 * S 1 2).toNat = csum (cInk S) (S 1 2).toNat := by
  have hw := h.1.1
  rw [cSum_even (S := S) _ (by omega), cSum_even (S := S) _ (by omega), ← csum_add]
  refine csum_cong _ (fun c a b => ?_)
  have one : ∀ p, 0 ≤ p → p < 64 → bI (S 5 p = 2) + bI (S 5 p = 1) = bI (0 < S 5 p) := by
    intro p p0 p1
    have hp := (h.2.2.2.2.2.1 p p0 p1).2.2.2.1
    obtain e | e | e : S 5 p = 0 ∨ S 5 p = 1 ∨ S 5 p = 2 := by omega
    · rw [bI_neg (P := S 5 p = 2) (by omega), bI_neg (P := S 5 p = 1) (by omega), bI_neg (P := 0 < S 5 p) (by omega)]; rfl
    · rw [bI_neg (P := S 5 p = 2) (by omega), bI_pos (P := S 5 p = 1) (by omega), bI_pos (P := 0 < S 5 p) (by omega)]; rfl
    · rw [bI_pos (P := S 5 p = 2) (by omega), bI_neg (P := S 5 p = 1) (by omega), bI_pos (P := 0 < S 5 p) (by omega)]; rfl
  have a1 := one (2 * c + 0) (by omega) (by omega)
  have a2 := one (2 * c + 1) (by omega) (by omega)
  unfold cInk
  rw [← a1, ← a2]
  omega
theorem cVal_sum {S : cS} {M : Int} (h : cInv S M) (j : Int) : csum (fun i => bI (S 2 i = j)) (2 * S 1 2).toNat = csum (cVal S j) (S 1 2).toNat := by
  have hw := h.1.1
  rw [cSum_even (S := S) _ (by omega)]
  rfl
theorem cVal_nn {S : cS} (j c : Int) : 0 ≤ cVal S j c ∧ cVal S j c ≤ 2 := by
  unfold cVal
  rcases (bI_or : bI (S 2 (2 * c + 0) = j) = 0 ∨ _) with u | u <;> rcases (bI_or : bI (S 2 (2 * c + 1) = j) = 0 ∨ _) with v | v <;> omega
theorem cVal_pos {S : cS} {M : Int} (h : cInv S M) : (0 < csum (cVal S 1) (S 1 2).toNat + csum (cVal S 2) (S 1 2).toNat ↔ 0 < S 0 5) ∧ 0 ≤ csum (cVal S 1) (S 1 2).toNat + csum (cVal S 2) (S 1 2).toNat ∧ csum (cVal S 1) (S 1 2).toNat + csum (cVal S 2) (S 1 2).toNat ≤ 200 := by
  obtain ⟨⟨hw, hsz⟩, ⟨hG, hGn⟩, hf, hpast, hpo, har, hed, hea⟩ := id h
  have hb1 := csum_b (f := cVal S 1) (lo := 0) (hi := 2) (S 1 2).toNat (fun i _ _ => cVal_nn 1 i)
  have hb2 := csum_b (f := cVal S 2) (lo := 0) (hi := 2) (S 1 2).toNat (fun i _ _ => cVal_nn 2 i)
  refine ⟨⟨fun hh => ?_, fun hh => ?_⟩, by omega, by omega⟩
  · refine Classical.byContradiction (fun hn => ?_)
    have hz : ∀ p, 0 ≤ p → p < 64 → S 2 p = 0 := fun p p0 p1 => by
      have := har p p0 p1
      exact this.2.2.2.2.1.mpr (by omega)
    have z1 : ∀ j, (j = 1 ∨ j = 2) → csum (cVal S j) (S 1 2).toNat = 0 := fun j hj => csum_z _ (fun c a b => by
      unfold cVal
      rw [bI_neg (by rw [hz _ (by omega) (by omega)]; omega), bI_neg (by rw [hz _ (by omega) (by omega)]; omega)]
      rfl)
    rw [z1 1 (Or.inl rfl), z1 2 (Or.inr rfl)] at hh
    omega
  · obtain ⟨c, d, c0, c1, hd, -, he⟩ := hea 1 (by omega) (by omega)
    have hp := har (2 * c + d) (by omega) (by omega)
    have h2 : S 2 (2 * c + d) = 1 ∨ S 2 (2 * c + d) = 2 := by
      have : ¬ S 2 (2 * c + d) = 0 := fun e => by have := hp.2.2.2.2.1.mp e; omega
      omega
    have g : ∀ j, S 2 (2 * c + d) = j → 1 ≤ csum (cVal S j) (S 1 2).toNat := by
      intro j hj
      have h3 := csum_ge (f := cVal S j) (S 1 2).toNat (fun i _ _ => (cVal_nn j i).1) (s := c) (by omega)
      have h4 : 1 ≤ cVal S j c := by
        unfold cVal
        rcases hd with hd | hd
        · subst hd
          rw [bI_pos hj]
          rcases (bI_or : bI (S 2 (2 * c + 1) = j) = 0 ∨ _) with v | v <;> omega
        · subst hd
          rw [bI_pos hj]
          rcases (bI_or : bI (S 2 (2 * c + 0) = j) = 0 ∨ _) with v | v <;> omega
      omega
    rcases h2 with h2 | h2
    · have := g 1 h2; omega
    · have := g 2 h2; omega
theorem cHv_one {F : cS} (hs : cSh F) : ((cHv (F 0 1) + cHv (F 0 2) = 0) ↔ F 0 1 * F 0 2 = 1) ∧ 0 ≤ cHv (F 0 1) + cHv (F 0 2) ∧ cHv (F 0 1) + cHv (F 0 2) ≤ 10 := by
  have b : ∀ n, 1 ≤ n → ((cHv n = 0 ↔ n = 1) ∧ 0 ≤ cHv n ∧ cHv n ≤ 3) := by
    intro n hn
    unfold cHv
    repeat (first | omega | split)
  have b1 := b (F 0 1) hs.1
  have b2 := b (F 0 2) hs.2.2.1
  have hone : F 0 1 * F 0 2 = 1 ↔ F 0 1 = 1 ∧ F 0 2 = 1 := by
    constructor
    · intro h
      rcases Int.lt_or_le 1 (F 0 1) with h1 | h1
      · have := Int.mul_le_mul_of_nonneg_left hs.2.2.1 (by omega : 0 ≤ F 0 1); omega
      · have e1 : F 0 1 = 1 := by omega
        rw [e1] at h
        omega
    · rintro ⟨h1, h2⟩; rw [h1, h2]; rfl
  rw [hone]
  omega
set_option maxRecDepth 20000 in
theorem so_tail {xs : Nat → Int32} {Ls : Nat} {S : cS} {M : Int} {t a : Nat} (h : cInv S M) (hM : M ≤ 900) {S1 : cS} (hs1 : cSm S S1) : cZ xs Ls 6 91 626 [(0, .ref 0), (1, .int (cI (S 1 0))), (3, .int (cI (S 1 2))), (4, .ref a), (5, .int (cI (csum (cVal S 1) (S 1 2).toNat))), (6, .int (cI (csum (cVal S 2) (S 1 2).toNat))), (7, .int (cI (csum (cInk S) (S 1 2).toNat))), (8, .int (cI (S 1 2))), (9, .int (cI (cmx (vw S 8 5) 32))), (10, .int (cI (cNa (vw S 8)))), (11, .int (cI (cNb (vw S 8))))] [] S1 t (cQI (fun r S' t' => r = 1 ∧ t' = t ∧ cSm S S')) := by
  have hW := h.wd hM
  obtain ⟨⟨hw, hsz⟩, ⟨hG, hGn⟩, hf, hpast, hpo, har, hed, hea⟩ := id h
  have hw' := id hw
  have hp := hW.2.2.2.2.2.1
  have hfw := cHv_one hG.2.1
  have hbo := cBst_one hG
  have hbr := cBst_ran hG 56 (Nat.le_refl _)
  have hvp := cVal_pos h
  have hsh := hG.2.1
  have hcr1 : 1 ≤ vw S 8 0 1 * vw S 8 0 2 := by
    have := Int.mul_le_mul hsh.1 hsh.2.2.1 (by omega) (by omega)
    omega
  clear hpast hpo har hed hea
  by_cases hone : vw S 8 0 1 * vw S 8 0 2 = 1
  · by_cases hfold : 0 < S 0 5
    · skip
      refine cz_aload rfl rfl ?_
      refine cz_icst rfl cc_5 ?_
      refine cz_cV2P rfl rfl rfl cIs0 (Nat.le_of_ble_eq_true rfl) (q_many5 hs1 hW) ?_
      refine cz_iload rfl rfl ?_
      refine cz_icne_same rfl (by exact cVal_sum h 1) ?_
      refine cz_aload rfl rfl ?_
      refine cz_icst rfl cc_6 ?_
      refine cz_cV2P rfl rfl rfl cIs0 (Nat.le_of_ble_eq_true rfl) (q_many6 hs1 hW) ?_
      refine cz_iload rfl rfl ?_
      refine cz_icne_same rfl (by exact cVal_sum h 2) ?_
      refine cz_aload rfl rfl ?_
      refine cz_icst rfl cc_8 ?_
      refine cz_cV2P rfl rfl rfl cIs0 (Nat.le_of_ble_eq_true rfl) (q_many8 hs1 hW) ?_
      refine cz_aload rfl rfl ?_
      refine cz_icst rfl cc_9 ?_
      refine cz_cV2P rfl rfl rfl cIs0 (Nat.le_of_ble_eq_true rfl) (q_many9 hs1 hW) ?_
      refine cz_iadd rfl ?_
      refine cz_iload rfl rfl ?_
      refine cz_icne_same rfl (by exact cInk_sum h) ?_
      refine cz_iload rfl rfl ?_
      refine cz_iload rfl rfl ?_
      refine cz_icne_same rfl (by rfl) ?_
      refine cz_aload rfl rfl ?_
      refine cz_icst rfl cc_11 ?_
      refine cz_cV2P rfl rfl rfl cIs0 (Nat.le_of_ble_eq_true rfl) (q_many11 hs1 hW) ?_
      refine cz_iload rfl rfl ?_
      refine cz_icne_same rfl (by rfl) ?_
      refine cz_aload rfl rfl ?_
      refine cz_icst rfl cc_12 ?_
      refine cz_cV2P rfl rfl rfl cIs0 (Nat.le_of_ble_eq_true rfl) (q_many12 hs1 hW) ?_
      refine cz_iload rfl rfl ?_
      refine cz_icne_same rfl (by rfl) ?_
      refine cz_aload rfl rfl ?_
      refine cz_icst rfl cc_13 ?_
      refine cz_cV2P rfl rfl rfl cIs0 (Nat.le_of_ble_eq_true rfl) (q_many13 hs1 hW) ?_
      refine cz_iload rfl rfl ?_
      refine cz_iceq_same rfl (by rfl) ?_
      refine cz_aload rfl rfl ?_
      refine cz_icst rfl cc_2 ?_
      refine cz_cV2P rfl rfl rfl cIs0 (Nat.le_of_ble_eq_true rfl) (q_many2 hs1 hW) ?_
      refine cz_aload rfl rfl ?_
      refine cz_icst rfl cc_3 ?_
      refine cz_cV2P rfl rfl rfl cIs0 (Nat.le_of_ble_eq_true rfl) (q_many3 hs1 hW) ?_
      refine cz_imul rfl ?_
      refine cz_icst rfl cc_1 ?_
      refine cz_icne rfl (by omega) (by omega) (fun hb718 => ?_) (fun hb718 => ?_)
      · exfalso; omega
      refine cz_icst rfl cc_1 ?_
      refine cz_goto rfl ?_
      refine cz_st1 (l' := [(0, _), (1, _), (3, _), (4, _), (5, _), (6, _), (7, _), (8, _), (9, _), (10, _), (11, _), (12, _)]) rfl rfl rfl ?_
      refine cz_aload rfl rfl ?_
      refine cz_cV1P rfl rfl rfl cIs0 (Nat.le_of_ble_eq_true rfl) (q_fewest hs1 hW) ?_
      refine cz_ifne rfl (by omega) (fun hb732 => ?_) (fun hb732 => ?_)
      · exfalso; omega
      refine cz_icst rfl cc_1 ?_
      refine cz_goto rfl ?_
      refine cz_iload rfl rfl ?_
      refine cz_icne rfl (by omega) (by omega) (fun hb742 => ?_) (fun hb742 => ?_)
      · exfalso; omega
      refine cz_aload rfl rfl ?_
      refine cz_cV1I rfl rfl rfl cIs0 (Nat.le_of_ble_eq_true rfl) (q_bestFold hs1 hW hG) (fun r746 S746 t746 hq746 => ?_)
      obtain ⟨ht746, hr746, hs2⟩ := hq746
      rw [ht746]
      refine cz_ifge rfl (by omega) (fun hb749 => ?_) (fun hb749 => ?_)
      · exfalso; omega
      refine cz_icst rfl cc_1 ?_
      refine cz_goto rfl ?_
      refine cz_iload rfl rfl ?_
      refine cz_icne rfl (by omega) (by omega) (fun hb759 => ?_) (fun hb759 => ?_)
      · exfalso; omega
      refine cz_aload rfl rfl ?_
      refine cz_icst rfl cc_4 ?_
      refine cz_cV2P rfl rfl rfl cIs0 (Nat.le_of_ble_eq_true rfl) (q_many4 hs2 hW) ?_
      refine cz_icst rfl cc_8 ?_
      refine cz_icgt rfl (by omega) (by omega) (fun hb769 => ?_) (fun hb769 => ?_)
      · exfalso; omega
      refine cz_iload rfl rfl ?_
      refine cz_iload rfl rfl ?_
      refine cz_iadd rfl ?_
      refine cz_ifle rfl (by omega) (fun hb777 => ?_) (fun hb777 => ?_)
      · exfalso; omega
      refine cz_icst rfl cc_1 ?_
      refine cz_goto rfl ?_
      refine cz_aload rfl rfl ?_
      refine cz_icst rfl cc_4 ?_
      refine cz_cV2P rfl rfl rfl cIs0 (Nat.le_of_ble_eq_true rfl) (q_many4 hs2 hW) ?_
      refine cz_ifle rfl (by omega) (fun hb790 => ?_) (fun hb790 => ?_)
      · exfalso; omega
      refine cz_icst rfl cc_1 ?_
      refine cz_goto rfl ?_
      refine cz_icne rfl (by omega) (by omega) (fun hb798 => ?_) (fun hb798 => ?_)
      · exfalso; omega
      refine cz_icst rfl cc_1 ?_
      refine cz_goto rfl ?_
      refine cz_retZ rfl (by omega) ?_
      exact cQI.mk ⟨rfl, rfl, hs2⟩
    · skip
      refine cz_aload rfl rfl ?_
      refine cz_icst rfl cc_5 ?_
      refine cz_cV2P rfl rfl rfl cIs0 (Nat.le_of_ble_eq_true rfl) (q_many5 hs1 hW) ?_
      refine cz_iload rfl rfl ?_
      refine cz_icne_same rfl (by exact cVal_sum h 1) ?_
      refine cz_aload rfl rfl ?_
      refine cz_icst rfl cc_6 ?_
      refine cz_cV2P rfl rfl rfl cIs0 (Nat.le_of_ble_eq_true rfl) (q_many6 hs1 hW) ?_
      refine cz_iload rfl rfl ?_
      refine cz_icne_same rfl (by exact cVal_sum h 2) ?_
      refine cz_aload rfl rfl ?_
      refine cz_icst rfl cc_8 ?_
      refine cz_cV2P rfl rfl rfl cIs0 (Nat.le_of_ble_eq_true rfl) (q_many8 hs1 hW) ?_
      refine cz_aload rfl rfl ?_
      refine cz_icst rfl cc_9 ?_
      refine cz_cV2P rfl rfl rfl cIs0 (Nat.le_of_ble_eq_true rfl) (q_many9 hs1 hW) ?_
      refine cz_iadd rfl ?_
      refine cz_iload rfl rfl ?_
      refine cz_icne_same rfl (by exact cInk_sum h) ?_
      refine cz_iload rfl rfl ?_
      refine cz_iload rfl rfl ?_
      refine cz_icne_same rfl (by rfl) ?_
      refine cz_aload rfl rfl ?_
      refine cz_icst rfl cc_11 ?_
      refine cz_cV2P rfl rfl rfl cIs0 (Nat.le_of_ble_eq_true rfl) (q_many11 hs1 hW) ?_
      refine cz_iload rfl rfl ?_
      refine cz_icne_same rfl (by rfl) ?_
      refine cz_aload rfl rfl ?_
      refine cz_icst rfl cc_12 ?_
      refine cz_cV2P rfl rfl rfl cIs0 (Nat.le_of_ble_eq_true rfl) (q_many12 hs1 hW) ?_
      refine cz_iload rfl rfl ?_
      refine cz_icne_same rfl (by rfl) ?_
      refine cz_aload rfl rfl ?_
      refine cz_icst rfl cc_13 ?_
      refine cz_cV2P rfl rfl rfl cIs0 (Nat.le_of_ble_eq_true rfl) (q_many13 hs1 hW) ?_
      refine cz_iload rfl rfl ?_
      refine cz_iceq_same rfl (by rfl) ?_
      refine cz_aload rfl rfl ?_
      refine cz_icst rfl cc_2 ?_
      refine cz_cV2P rfl rfl rfl cIs0 (Nat.le_of_ble_eq_true rfl) (q_many2 hs1 hW) ?_
      refine cz_aload rfl rfl ?_
      refine cz_icst rfl cc_3 ?_
      refine cz_cV2P rfl rfl rfl cIs0 (Nat.le_of_ble_eq_true rfl) (q_many3 hs1 hW) ?_
      refine cz_imul rfl ?_
      refine cz_icst rfl cc_1 ?_
      refine cz_icne rfl (by omega) (by omega) (fun hb718 => ?_) (fun hb718 => ?_)
      · exfalso; omega
      refine cz_icst rfl cc_1 ?_
      refine cz_goto rfl ?_
      refine cz_st1 (l' := [(0, _), (1, _), (3, _), (4, _), (5, _), (6, _), (7, _), (8, _), (9, _), (10, _), (11, _), (12, _)]) rfl rfl rfl ?_
      refine cz_aload rfl rfl ?_
      refine cz_cV1P rfl rfl rfl cIs0 (Nat.le_of_ble_eq_true rfl) (q_fewest hs1 hW) ?_
      refine cz_ifne rfl (by omega) (fun hb732 => ?_) (fun hb732 => ?_)
      · exfalso; omega
      refine cz_icst rfl cc_1 ?_
      refine cz_goto rfl ?_
      refine cz_iload rfl rfl ?_
      refine cz_icne rfl (by omega) (by omega) (fun hb742 => ?_) (fun hb742 => ?_)
      · exfalso; omega
      refine cz_aload rfl rfl ?_
      refine cz_cV1I rfl rfl rfl cIs0 (Nat.le_of_ble_eq_true rfl) (q_bestFold hs1 hW hG) (fun r746 S746 t746 hq746 => ?_)
      obtain ⟨ht746, hr746, hs2⟩ := hq746
      rw [ht746]
      refine cz_ifge rfl (by omega) (fun hb749 => ?_) (fun hb749 => ?_)
      · exfalso; omega
      refine cz_icst rfl cc_1 ?_
      refine cz_goto rfl ?_
      refine cz_iload rfl rfl ?_
      refine cz_icne rfl (by omega) (by omega) (fun hb759 => ?_) (fun hb759 => ?_)
      · exfalso; omega
      refine cz_aload rfl rfl ?_
      refine cz_icst rfl cc_4 ?_
      refine cz_cV2P rfl rfl rfl cIs0 (Nat.le_of_ble_eq_true rfl) (q_many4 hs2 hW) ?_
      refine cz_icst rfl cc_8 ?_
      refine cz_icgt rfl (by omega) (by omega) (fun hb769 => ?_) (fun hb769 => ?_)
      · exfalso; omega
      refine cz_iload rfl rfl ?_
      refine cz_iload rfl rfl ?_
      refine cz_iadd rfl ?_
      refine cz_ifle rfl (by omega) (fun hb777 => ?_) (fun hb777 => ?_)
      rotate_left
      · exfalso; omega
      refine cz_icst rfl cc_0 ?_
      refine cz_aload rfl rfl ?_
      refine cz_icst rfl cc_4 ?_
      refine cz_cV2P rfl rfl rfl cIs0 (Nat.le_of_ble_eq_true rfl) (q_many4 hs2 hW) ?_
      refine cz_ifle rfl (by omega) (fun hb790 => ?_) (fun hb790 => ?_)
      rotate_left
      · exfalso; omega
      refine cz_icst rfl cc_0 ?_
      refine cz_icne rfl (by omega) (by omega) (fun hb798 => ?_) (fun hb798 => ?_)
      · exfalso; omega
      refine cz_icst rfl cc_1 ?_
      refine cz_goto rfl ?_
      refine cz_retZ rfl (by omega) ?_
      exact cQI.mk ⟨rfl, rfl, hs2⟩
  · by_cases hfold : 0 < S 0 5
    · skip
      refine cz_aload rfl rfl ?_
      refine cz_icst rfl cc_5 ?_
      refine cz_cV2P rfl rfl rfl cIs0 (Nat.le_of_ble_eq_true rfl) (q_many5 hs1 hW) ?_
      refine cz_iload rfl rfl ?_
      refine cz_icne_same rfl (by exact cVal_sum h 1) ?_
      refine cz_aload rfl rfl ?_
      refine cz_icst rfl cc_6 ?_
      refine cz_cV2P rfl rfl rfl cIs0 (Nat.le_of_ble_eq_true rfl) (q_many6 hs1 hW) ?_
      refine cz_iload rfl rfl ?_
      refine cz_icne_same rfl (by exact cVal_sum h 2) ?_
      refine cz_aload rfl rfl ?_
      refine cz_icst rfl cc_8 ?_
      refine cz_cV2P rfl rfl rfl cIs0 (Nat.le_of_ble_eq_true rfl) (q_many8 hs1 hW) ?_
      refine cz_aload rfl rfl ?_
      refine cz_icst rfl cc_9 ?_
      refine cz_cV2P rfl rfl rfl cIs0 (Nat.le_of_ble_eq_true rfl) (q_many9 hs1 hW) ?_
      refine cz_iadd rfl ?_
      refine cz_iload rfl rfl ?_
      refine cz_icne_same rfl (by exact cInk_sum h) ?_
      refine cz_iload rfl rfl ?_
      refine cz_iload rfl rfl ?_
      refine cz_icne_same rfl (by rfl) ?_
      refine cz_aload rfl rfl ?_
      refine cz_icst rfl cc_11 ?_
      refine cz_cV2P rfl rfl rfl cIs0 (Nat.le_of_ble_eq_true rfl) (q_many11 hs1 hW) ?_
      refine cz_iload rfl rfl ?_
      refine cz_icne_same rfl (by rfl) ?_
      refine cz_aload rfl rfl ?_
      refine cz_icst rfl cc_12 ?_
      refine cz_cV2P rfl rfl rfl cIs0 (Nat.le_of_ble_eq_true rfl) (q_many12 hs1 hW) ?_
      refine cz_iload rfl rfl ?_
      refine cz_icne_same rfl (by rfl) ?_
      refine cz_aload rfl rfl ?_
      refine cz_icst rfl cc_13 ?_
      refine cz_cV2P rfl rfl rfl cIs0 (Nat.le_of_ble_eq_true rfl) (q_many13 hs1 hW) ?_
      refine cz_iload rfl rfl ?_
      refine cz_iceq_same rfl (by rfl) ?_
      refine cz_aload rfl rfl ?_
      refine cz_icst rfl cc_2 ?_
      refine cz_cV2P rfl rfl rfl cIs0 (Nat.le_of_ble_eq_true rfl) (q_many2 hs1 hW) ?_
      refine cz_aload rfl rfl ?_
      refine cz_icst rfl cc_3 ?_
      refine cz_cV2P rfl rfl rfl cIs0 (Nat.le_of_ble_eq_true rfl) (q_many3 hs1 hW) ?_
      refine cz_imul rfl ?_
      refine cz_icst rfl cc_1 ?_
      refine cz_icne rfl (by omega) (by omega) (fun hb718 => ?_) (fun hb718 => ?_)
      rotate_left
      · exfalso; omega
      refine cz_icst rfl cc_0 ?_
      refine cz_st1 (l' := [(0, _), (1, _), (3, _), (4, _), (5, _), (6, _), (7, _), (8, _), (9, _), (10, _), (11, _), (12, _)]) rfl rfl rfl ?_
      refine cz_aload rfl rfl ?_
      refine cz_cV1P rfl rfl rfl cIs0 (Nat.le_of_ble_eq_true rfl) (q_fewest hs1 hW) ?_
      refine cz_ifne rfl (by omega) (fun hb732 => ?_) (fun hb732 => ?_)
      rotate_left
      · exfalso; omega
      refine cz_icst rfl cc_0 ?_
      refine cz_iload rfl rfl ?_
      refine cz_icne rfl (by omega) (by omega) (fun hb742 => ?_) (fun hb742 => ?_)
      · exfalso; omega
      refine cz_aload rfl rfl ?_
      refine cz_cV1I rfl rfl rfl cIs0 (Nat.le_of_ble_eq_true rfl) (q_bestFold hs1 hW hG) (fun r746 S746 t746 hq746 => ?_)
      obtain ⟨ht746, hr746, hs2⟩ := hq746
      rw [ht746]
      refine cz_ifge rfl (by omega) (fun hb749 => ?_) (fun hb749 => ?_)
      rotate_left
      · exfalso; omega
      refine cz_icst rfl cc_0 ?_
      refine cz_iload rfl rfl ?_
      refine cz_icne rfl (by omega) (by omega) (fun hb759 => ?_) (fun hb759 => ?_)
      · exfalso; omega
      refine cz_aload rfl rfl ?_
      refine cz_icst rfl cc_4 ?_
      refine cz_cV2P rfl rfl rfl cIs0 (Nat.le_of_ble_eq_true rfl) (q_many4 hs2 hW) ?_
      refine cz_icst rfl cc_8 ?_
      refine cz_icgt rfl (by omega) (by omega) (fun hb769 => ?_) (fun hb769 => ?_)
      · exfalso; omega
      refine cz_iload rfl rfl ?_
      refine cz_iload rfl rfl ?_
      refine cz_iadd rfl ?_
      refine cz_ifle rfl (by omega) (fun hb777 => ?_) (fun hb777 => ?_)
      · exfalso; omega
      refine cz_icst rfl cc_1 ?_
      refine cz_goto rfl ?_
      refine cz_aload rfl rfl ?_
      refine cz_icst rfl cc_4 ?_
      refine cz_cV2P rfl rfl rfl cIs0 (Nat.le_of_ble_eq_true rfl) (q_many4 hs2 hW) ?_
      refine cz_ifle rfl (by omega) (fun hb790 => ?_) (fun hb790 => ?_)
      · exfalso; omega
      refine cz_icst rfl cc_1 ?_
      refine cz_goto rfl ?_
      refine cz_icne rfl (by omega) (by omega) (fun hb798 => ?_) (fun hb798 => ?_)
      · exfalso; omega
      refine cz_icst rfl cc_1 ?_
      refine cz_goto rfl ?_
      refine cz_retZ rfl (by omega) ?_
      exact cQI.mk ⟨rfl, rfl, hs2⟩
    · skip
      refine cz_aload rfl rfl ?_
      refine cz_icst rfl cc_5 ?_
      refine cz_cV2P rfl rfl rfl cIs0 (Nat.le_of_ble_eq_true rfl) (q_many5 hs1 hW) ?_
      refine cz_iload rfl rfl ?_
      refine cz_icne_same rfl (by exact cVal_sum h 1) ?_
      refine cz_aload rfl rfl ?_
      refine cz_icst rfl cc_6 ?_
      refine cz_cV2P rfl rfl rfl cIs0 (Nat.le_of_ble_eq_true rfl) (q_many6 hs1 hW) ?_
      refine cz_iload rfl rfl ?_
      refine cz_icne_same rfl (by exact cVal_sum h 2) ?_
      refine cz_aload rfl rfl ?_
      refine cz_icst rfl cc_8 ?_
      refine cz_cV2P rfl rfl rfl cIs0 (Nat.le_of_ble_eq_true rfl) (q_many8 hs1 hW) ?_
      refine cz_aload rfl rfl ?_
      refine cz_icst rfl cc_9 ?_
      refine cz_cV2P rfl rfl rfl cIs0 (Nat.le_of_ble_eq_true rfl) (q_many9 hs1 hW) ?_
      refine cz_iadd rfl ?_
      refine cz_iload rfl rfl ?_
      refine cz_icne_same rfl (by exact cInk_sum h) ?_
      refine cz_iload rfl rfl ?_
      refine cz_iload rfl rfl ?_
      refine cz_icne_same rfl (by rfl) ?_
      refine cz_aload rfl rfl ?_
      refine cz_icst rfl cc_11 ?_
      refine cz_cV2P rfl rfl rfl cIs0 (Nat.le_of_ble_eq_true rfl) (q_many11 hs1 hW) ?_
      refine cz_iload rfl rfl ?_
      refine cz_icne_same rfl (by rfl) ?_
      refine cz_aload rfl rfl ?_
      refine cz_icst rfl cc_12 ?_
      refine cz_cV2P rfl rfl rfl cIs0 (Nat.le_of_ble_eq_true rfl) (q_many12 hs1 hW) ?_
      refine cz_iload rfl rfl ?_
      refine cz_icne_same rfl (by rfl) ?_
      refine cz_aload rfl rfl ?_
      refine cz_icst rfl cc_13 ?_
      refine cz_cV2P rfl rfl rfl cIs0 (Nat.le_of_ble_eq_true rfl) (q_many13 hs1 hW) ?_
      refine cz_iload rfl rfl ?_
      refine cz_iceq_same rfl (by rfl) ?_
      refine cz_aload rfl rfl ?_
      refine cz_icst rfl cc_2 ?_
      refine cz_cV2P rfl rfl rfl cIs0 (Nat.le_of_ble_eq_true rfl) (q_many2 hs1 hW) ?_
      refine cz_aload rfl rfl ?_
      refine cz_icst rfl cc_3 ?_
      refine cz_cV2P rfl rfl rfl cIs0 (Nat.le_of_ble_eq_true rfl) (q_many3 hs1 hW) ?_
      refine cz_imul rfl ?_
      refine cz_icst rfl cc_1 ?_
      refine cz_icne rfl (by omega) (by omega) (fun hb718 => ?_) (fun hb718 => ?_)
      rotate_left
      · exfalso; omega
      refine cz_icst rfl cc_0 ?_
      refine cz_st1 (l' := [(0, _), (1, _), (3, _), (4, _), (5, _), (6, _), (7, _), (8, _), (9, _), (10, _), (11, _), (12, _)]) rfl rfl rfl ?_
      refine cz_aload rfl rfl ?_
      refine cz_cV1P rfl rfl rfl cIs0 (Nat.le_of_ble_eq_true rfl) (q_fewest hs1 hW) ?_
      refine cz_ifne rfl (by omega) (fun hb732 => ?_) (fun hb732 => ?_)
      rotate_left
      · exfalso; omega
      refine cz_icst rfl cc_0 ?_
      refine cz_iload rfl rfl ?_
      refine cz_icne rfl (by omega) (by omega) (fun hb742 => ?_) (fun hb742 => ?_)
      · exfalso; omega
      refine cz_aload rfl rfl ?_
      refine cz_cV1I rfl rfl rfl cIs0 (Nat.le_of_ble_eq_true rfl) (q_bestFold hs1 hW hG) (fun r746 S746 t746 hq746 => ?_)
      obtain ⟨ht746, hr746, hs2⟩ := hq746
      rw [ht746]
      refine cz_ifge rfl (by omega) (fun hb749 => ?_) (fun hb749 => ?_)
      rotate_left
      · exfalso; omega
      refine cz_icst rfl cc_0 ?_
      refine cz_iload rfl rfl ?_
      refine cz_icne rfl (by omega) (by omega) (fun hb759 => ?_) (fun hb759 => ?_)
      · exfalso; omega
      refine cz_aload rfl rfl ?_
      refine cz_icst rfl cc_4 ?_
      refine cz_cV2P rfl rfl rfl cIs0 (Nat.le_of_ble_eq_true rfl) (q_many4 hs2 hW) ?_
      refine cz_icst rfl cc_8 ?_
      refine cz_icgt rfl (by omega) (by omega) (fun hb769 => ?_) (fun hb769 => ?_)
      · exfalso; omega
      refine cz_iload rfl rfl ?_
      refine cz_iload rfl rfl ?_
      refine cz_iadd rfl ?_
      refine cz_ifle rfl (by omega) (fun hb777 => ?_) (fun hb777 => ?_)
      rotate_left
      · exfalso; omega
      refine cz_icst rfl cc_0 ?_
      refine cz_aload rfl rfl ?_
      refine cz_icst rfl cc_4 ?_
      refine cz_cV2P rfl rfl rfl cIs0 (Nat.le_of_ble_eq_true rfl) (q_many4 hs2 hW) ?_
      refine cz_ifle rfl (by omega) (fun hb790 => ?_) (fun hb790 => ?_)
      rotate_left
      · exfalso; omega
      refine cz_icst rfl cc_0 ?_
      refine cz_icne rfl (by omega) (by omega) (fun hb798 => ?_) (fun hb798 => ?_)
      · exfalso; omega
      refine cz_icst rfl cc_1 ?_
      refine cz_goto rfl ?_
      refine cz_retZ rfl (by omega) ?_
      exact cQI.mk ⟨rfl, rfl, hs2⟩
set_option maxRecDepth 20000 in
theorem so_wt0 {xs : Nat → Int32} {Ls : Nat} {S : cS} {M : Int} {t a : Nat} {Q : Option Value → cS → Nat → Prop} (h : cInv S M) (hM : M ≤ 900) {S1 : cS} (hs1 : cSm S S1) (hla : cLen a = 2) (ha70 : 70 ≤ a) (hat : a < 70 + t) (hsum : S1 a 0 = csum (vw S 8 1) (S 1 2).toNat) (k583 : cZ xs Ls 6 91 583 [(0, .ref 0), (1, .int (cI (S 1 0))), (3, .int (cI (S 1 2))), (4, .ref a), (5, .int (cI (csum (cVal S 1) (S 1 2).toNat))), (6, .int (cI (csum (cVal S 2) (S 1 2).toNat))), (7, .int (cI (csum (cInk S) (S 1 2).toNat))), (8, .int (cI (S 1 2))), (9, .int (cI (cmx (vw S 8 5) 32))), (10, .int (cI (cNa (vw S 8)))), (11, .int (cI (cNb (vw S 8)))), (12, .int (cI 1))] [] S1 t Q) : cZ xs Ls 6 91 583 [(0, .ref 0), (1, .int (cI (S 1 0))), (3, .int (cI (S 1 2))), (4, .ref a), (5, .int (cI (csum (cVal S 1) (S 1 2).toNat))), (6, .int (cI (csum (cVal S 2) (S 1 2).toNat))), (7, .int (cI (csum (cInk S) (S 1 2).toNat))), (8, .int (cI (S 1 2))), (9, .int (cI (cmx (vw S 8 5) 32))), (10, .int (cI (cNa (vw S 8)))), (11, .int (cI (cNb (vw S 8)))), (12, .int (cI 0))] [] S1 t Q := by
  have hW := h.wd hM
  obtain ⟨⟨hw, hsz⟩, ⟨hG, hGn⟩, hf, hpast, hpo, har, hed, hea⟩ := id h
  have hw' := id hw
  have hp := hW.2.2.2.2.2.1
  have hsx : csum (cSx S 0) (S 1 2).toNat = csum (vw S 8 1) (S 1 2).toNat := csum_cong _ (fun i _ _ => rfl)
  have hsh := hG.2.1
  have hsb := csum_b (f := vw S 8 1) (lo := 0) (hi := 7) (S 1 2).toNat (fun i i0 i1 => by have := hp i i0 (by omega); omega)
  have hchk := cWchk_of (n := S 1 2) (s := csum (vw S 8 1) (S 1 2).toNat) (by omega) (by omega)
  refine cz_iload rfl rfl ?_
  refine cz_icst rfl cc_2 ?_
  refine cz_icge rfl (by omega) (by omega) (fun hb586 => ?_) (fun hb586 => ?_)
  · exfalso; omega
  refine cz_aload rfl rfl ?_
  refine cz_iload rfl rfl ?_
  refine cz_cV2PD rfl rfl rfl cIs0 (Nat.le_of_ble_eq_true rfl) (q_weight hs1 hW (by omega)) ?_
  rw [hsx]
  refine cz_iload rfl rfl ?_
  refine cz_i2d rfl ?_
  refine cz_dd rfl (by exact hchk.1) ?_
  refine cz_aload rfl rfl ?_
  refine cz_iload rfl rfl ?_
  refine cz_ialdA (a := a) (n := 2) (by omega) (by exact hla) (by omega) rfl (by omega) ?_
  rw [hsum]
  refine cz_i2d rfl ?_
  refine cz_dd rfl (by exact hchk.2.1) ?_
  refine cz_absd rfl rfl (by exact hchk.2.1) ?_
  refine cz_s1 rfl rfl ?_
  refine cz_iload rfl rfl ?_
  refine cz_i2d rfl ?_
  refine cz_dd rfl (by exact hchk.2.2.1) ?_
  refine cz_dcmp rfl ?_
  refine cz_ifle_r rfl (by exact hchk.2.2.2) ?_
  refine cz_iinc (l' := [(0, _), (1, _), (3, _), (4, _), (5, _), (6, _), (7, _), (8, _), (9, _), (10, _), (11, _), (12, _)]) rfl cc_1 rfl rfl ?_
  refine cz_goto rfl ?_
  exact k583
set_option maxRecDepth 20000 in
theorem so_wt1 {xs : Nat → Int32} {Ls : Nat} {S : cS} {M : Int} {t a : Nat} {Q : Option Value → cS → Nat → Prop} (h : cInv S M) (hM : M ≤ 900) {S1 : cS} (hs1 : cSm S S1) (hla : cLen a = 2) (ha70 : 70 ≤ a) (hat : a < 70 + t) (hsum : S1 a 1 = csum (vw S 8 2) (S 1 2).toNat) (k583 : cZ xs Ls 6 91 583 [(0, .ref 0), (1, .int (cI (S 1 0))), (3, .int (cI (S 1 2))), (4, .ref a), (5, .int (cI (csum (cVal S 1) (S 1 2).toNat))), (6, .int (cI (csum (cVal S 2) (S 1 2).toNat))), (7, .int (cI (csum (cInk S) (S 1 2).toNat))), (8, .int (cI (S 1 2))), (9, .int (cI (cmx (vw S 8 5) 32))), (10, .int (cI (cNa (vw S 8)))), (11, .int (cI (cNb (vw S 8)))), (12, .int (cI 2))] [] S1 t Q) : cZ xs Ls 6 91 583 [(0, .ref 0), (1, .int (cI (S 1 0))), (3, .int (cI (S 1 2))), (4, .ref a), (5, .int (cI (csum (cVal S 1) (S 1 2).toNat))), (6, .int (cI (csum (cVal S 2) (S 1 2).toNat))), (7, .int (cI (csum (cInk S) (S 1 2).toNat))), (8, .int (cI (S 1 2))), (9, .int (cI (cmx (vw S 8 5) 32))), (10, .int (cI (cNa (vw S 8)))), (11, .int (cI (cNb (vw S 8)))), (12, .int (cI 1))] [] S1 t Q := by
  have hW := h.wd hM
  obtain ⟨⟨hw, hsz⟩, ⟨hG, hGn⟩, hf, hpast, hpo, har, hed, hea⟩ := id h
  have hw' := id hw
  have hp := hW.2.2.2.2.2.1
  have hsx : csum (cSx S 1) (S 1 2).toNat = csum (vw S 8 2) (S 1 2).toNat := csum_cong _ (fun i _ _ => rfl)
  have hsh := hG.2.1
  have hsb := csum_b (f := vw S 8 2) (lo := 0) (hi := 7) (S 1 2).toNat (fun i i0 i1 => by have := hp i i0 (by omega); omega)
  have hchk := cWchk_of (n := S 1 2) (s := csum (vw S 8 2) (S 1 2).toNat) (by omega) (by omega)
  refine cz_iload rfl rfl ?_
  refine cz_icst rfl cc_2 ?_
  refine cz_icge rfl (by omega) (by omega) (fun hb586 => ?_) (fun hb586 => ?_)
  · exfalso; omega
  refine cz_aload rfl rfl ?_
  refine cz_iload rfl rfl ?_
  refine cz_cV2PD rfl rfl rfl cIs0 (Nat.le_of_ble_eq_true rfl) (q_weight hs1 hW (by omega)) ?_
  rw [hsx]
  refine cz_iload rfl rfl ?_
  refine cz_i2d rfl ?_
  refine cz_dd rfl (by exact hchk.1) ?_
  refine cz_aload rfl rfl ?_
  refine cz_iload rfl rfl ?_
  refine cz_ialdA (a := a) (n := 2) (by omega) (by exact hla) (by omega) rfl (by omega) ?_
  rw [hsum]
  refine cz_i2d rfl ?_
  refine cz_dd rfl (by exact hchk.2.1) ?_
  refine cz_absd rfl rfl (by exact hchk.2.1) ?_
  refine cz_s1 rfl rfl ?_
  refine cz_iload rfl rfl ?_
  refine cz_i2d rfl ?_
  refine cz_dd rfl (by exact hchk.2.2.1) ?_
  refine cz_dcmp rfl ?_
  refine cz_ifle_r rfl (by exact hchk.2.2.2) ?_
  refine cz_iinc (l' := [(0, _), (1, _), (3, _), (4, _), (5, _), (6, _), (7, _), (8, _), (9, _), (10, _), (11, _), (12, _)]) rfl cc_1 rfl rfl ?_
  refine cz_goto rfl ?_
  exact k583
set_option maxRecDepth 20000 in
theorem p_isSo {xs : Nat → Int32} {Ls : Nat} {S : cS} {M : Int} {t : Nat} (h : cInv S M) (hM : M ≤ 900) : cZ xs Ls 6 91 0 [(0, .ref 0), (1, .int (cI (S 1 0))), (2, .int (cI (S 1 1)))] [] S t (cQI (fun r S' t' => r = 1 ∧ t' = t + 1 ∧ cSm S S')) := by
  have hW := h.wd hM
  obtain ⟨⟨hw, hsz⟩, ⟨hG, hGn⟩, hf, hpast, hpo, har, hed, hea⟩ := id h
  have hw' := id hw
  have hp := hW.2.2.2.2.2.1
  have hla : cLen (70 + t) = 2 := by unfold cLen; repeat (first | omega | split)
  have hk : ∀ S1 : cS, cSm S S1 → S1 (70 + t) 0 = csum (vw S 8 1) (S 1 2).toNat → S1 (70 + t) 1 = csum (vw S 8 2) (S 1 2).toNat → cZ xs Ls 6 91 403 [(0, .ref 0), (1, .int (cI (S 1 0))), (3, .int (cI (S 1 2))), (4, .ref (70 + t)), (5, .int (cI (csum (cVal S 1) (S 1 2).toNat))), (6, .int (cI (csum (cVal S 2) (S 1 2).toNat))), (7, .int (cI (csum (cInk S) (S 1 2).toNat)))] [] S1 (t + 1) (cQI (fun r S' t' => r = 1 ∧ t' = t + 1 ∧ cSm S S')) := by
    intro S1 hs1 hsa hsb
    refine cz_icst rfl cc_0 ?_
    refine cz_st1 (l' := [(0, _), (1, _), (3, _), (4, _), (5, _), (6, _), (7, _), (8, _)]) rfl rfl rfl ?_
    refine cz_icst rfl cc_0 ?_
    refine cz_st1 (l' := [(0, _), (1, _), (3, _), (4, _), (5, _), (6, _), (7, _), (8, _), (9, _)]) rfl rfl rfl ?_
    refine cz_icst rfl cc_0 ?_
    refine cz_st1 (l' := [(0, _), (1, _), (3, _), (4, _), (5, _), (6, _), (7, _), (8, _), (9, _), (10, _)]) rfl rfl rfl ?_
    refine cz_icst rfl cc_0 ?_
    refine cz_st1 (l' := [(0, _), (1, _), (3, _), (4, _), (5, _), (6, _), (7, _), (8, _), (9, _), (10, _), (11, _)]) rfl rfl rfl ?_
    refine cz_icst rfl cc_0 ?_
    refine cz_st1 (l' := [(0, _), (1, _), (3, _), (4, _), (5, _), (6, _), (7, _), (8, _), (9, _), (10, _), (11, _), (12, _)]) rfl rfl rfl ?_
    have hfin := so_x (xs := xs) (Ls := Ls) (a := 70 + t) (t := t + 1) (Q := cQI (fun r S' t' => r = 1 ∧ t' = t + 1 ∧ cSm S S')) h hM hs1 (v := csum (cVal S 1) (S 1 2).toNat) (m := csum (cVal S 2) (S 1 2).toNat) (n := csum (cInk S) (S 1 2).toNat) ?_ (vw S 8 0 1).toNat 0 0 (by omega) (by have := hG.2.1; omega) (by omega) (fun x2 y2 h2 hc => by exfalso; have := h2.1; have := h2.2.2.1; omega) (Or.inl ⟨rfl, rfl, rfl⟩)
    · exact hfin
    · refine cz_icst rfl cc_0 ?_
      refine cz_st1 (l' := [(0, _), (1, _), (3, _), (4, _), (5, _), (6, _), (7, _), (8, _), (9, _), (10, _), (11, _), (12, _)]) rfl rfl rfl ?_
      refine so_wt0 (a := 70 + t) h hM hs1 hla (by omega) (by omega) hsa ?_
      refine so_wt1 (a := 70 + t) h hM hs1 hla (by omega) (by omega) hsb ?_
      refine cz_iload rfl rfl ?_
      refine cz_icst rfl cc_2 ?_
      refine cz_icge rfl (by omega) (by omega) (fun hb586 => ?_) (fun hb586 => ?_)
      rotate_left
      · exfalso; omega
      refine cz_weak (fun i => i == 0 || i == 1 || i == 3 || i == 4 || i == 5 || i == 6 || i == 7 || i == 8 || i == 9 || i == 10 || i == 11) (l' := [(0, _), (1, _), (3, _), (4, _), (5, _), (6, _), (7, _), (8, _), (9, _), (10, _), (11, _)]) rfl ?_
      exact so_tail (a := 70 + t) (t := t + 1) h hM hs1
  refine cz_iload rfl rfl ?_
  refine cz_iload rfl rfl ?_
  refine cz_imul rfl ?_
  rw [← hsz]
  refine cz_st1 (l' := [(0, _), (1, _), (2, _), (3, _)]) rfl rfl rfl ?_
  refine cz_icst rfl cc_2 ?_
  refine cz_new2 rfl ?_
  refine cz_name (fun S1 hS1 => ?_)
  have hs1 : cSm S S1 := by
    intro a2 ha2
    rw [hS1]
    exact if_neg (by omega)
  have hz : ∀ i, S1 (70 + t) i = 0 := by
    intro i
    rw [hS1]
    show (if 70 + t = 70 + t then fun _ => (0 : Int) else S (70 + t)) i = 0
    rw [if_pos rfl]
  refine cz_st1 (l' := [(0, _), (1, _), (2, _), (3, _), (4, _)]) rfl rfl rfl ?_
  refine cz_icst rfl cc_0 ?_
  refine cz_st1 (l' := [(0, _), (1, _), (2, _), (3, _), (4, _), (5, _)]) rfl rfl rfl ?_
  refine cz_icst rfl cc_0 ?_
  refine cz_st1 (l' := [(0, _), (1, _), (2, _), (3, _), (4, _), (5, _), (6, _)]) rfl rfl rfl ?_
  refine cz_icst rfl cc_0 ?_
  refine cz_st1 (l' := [(0, _), (1, _), (2, _), (3, _), (4, _), (5, _), (6, _), (7, _)]) rfl rfl rfl ?_
  refine cz_icst rfl cc_0 ?_
  refine cz_st1 (l' := [(0, _), (1, _), (2, _), (3, _), (4, _), (5, _), (6, _), (7, _), (8, _)]) rfl rfl rfl ?_
  refine cz_weak (fun i => i == 0 || i == 1 || i == 3 || i == 4 || i == 5 || i == 6 || i == 7 || i == 8) (l' := [(0, _), (1, _), (3, _), (4, _), (5, _), (6, _), (7, _), (8, _)]) rfl ?_
  exact so_cells (a := 70 + t) (t := t + 1) h hM hla (by omega) (by omega) hk (S 1 2).toNat 0 S1 (by omega) (by omega) hs1 (hz 0) (hz 1)
