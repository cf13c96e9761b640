/-! The check of the law: isSo
-/
set_option maxRecDepth 20000 in
theorem so_side5 {xs : Nat → Int32} {Ls : Nat} {S : cS} {M : Int} {t a : Nat} {Q : Option Value → cS → Nat → Prop} (h : cInv S M) (hM : M ≤ 900) {S1 : cS} (hs1 : cSm S S1) {k : Int} (hk : 0 ≤ k ∧ k < S 1 2) {v m n x y : Int} (k88 : cZ xs Ls 6 91 88 [(0, .ref 0), (1, .int (cI (S 1 0))), (3, .int (cI (S 1 2))), (4, .ref a), (5, .int (cI v)), (6, .int (cI m)), (7, .int (cI (n + bI (0 < S 5 (2 * k + 1))))), (8, .int (cI k)), (9, .int (cI x)), (10, .int (cI y)), (11, .int (cI 6))] [] S1 t Q) : cZ xs Ls 6 91 88 [(0, .ref 0), (1, .int (cI (S 1 0))), (3, .int (cI (S 1 2))), (4, .ref a), (5, .int (cI v)), (6, .int (cI m)), (7, .int (cI n)), (8, .int (cI k)), (9, .int (cI x)), (10, .int (cI y)), (11, .int (cI 5))] [] S1 t Q := by
  have hW := h.wd hM
  obtain ⟨⟨hw, hsz⟩, ⟨hG, hGn⟩, hf, hpast, hpo, har, hed, hea⟩ := id h
  have hw' := id hw
  have hp := hW.2.2.2.2.2.1
  have hpi := (har (2 * k + 1) (by omega) (by omega)).2.2.2.1
  have hoc : cOC S k 5 = S 5 (2 * k + 1) := rfl
  refine cz_iload rfl rfl ?_
  refine cz_icst rfl cc_7 ?_
  refine cz_icge rfl (by omega) (by omega) (fun hb92 => ?_) (fun hb92 => ?_)
  · exfalso; omega
  refine cz_iload rfl rfl ?_
  refine cz_aload rfl rfl ?_
  refine cz_iload rfl rfl ?_
  refine cz_iload rfl rfl ?_
  refine cz_cV3P rfl rfl rfl cIs0 (Nat.le_of_ble_eq_true rfl) (q_ofCell hs1 hW hk (by omega)) ?_
  refine cz_ifle rfl (by rw [hoc]; omega) (fun hb105 => ?_) (fun hb105 => ?_)
  · skip
    refine cz_icst rfl cc_0 ?_
    refine cz_iadd rfl ?_
    refine cz_st1 (l' := [(0, _), (1, _), (3, _), (4, _), (5, _), (6, _), (7, _), (8, _), (9, _), (10, _), (11, _)]) rfl rfl rfl ?_
    refine cz_iinc (l' := [(0, _), (1, _), (3, _), (4, _), (5, _), (6, _), (7, _), (8, _), (9, _), (10, _), (11, _)]) rfl cc_1 rfl rfl ?_
    refine cz_goto rfl ?_
    first
    | rw [bI_pos (by omega)] at k88; exact k88
    | rw [bI_neg (by omega), Int.add_zero] at k88; rw [Int.add_zero]; exact k88
  · skip
    refine cz_icst rfl cc_1 ?_
    refine cz_goto rfl ?_
    refine cz_iadd rfl ?_
    refine cz_st1 (l' := [(0, _), (1, _), (3, _), (4, _), (5, _), (6, _), (7, _), (8, _), (9, _), (10, _), (11, _)]) rfl rfl rfl ?_
    refine cz_iinc (l' := [(0, _), (1, _), (3, _), (4, _), (5, _), (6, _), (7, _), (8, _), (9, _), (10, _), (11, _)]) rfl cc_1 rfl rfl ?_
    refine cz_goto rfl ?_
    first
    | rw [bI_pos (by omega)] at k88; exact k88
    | rw [bI_neg (by omega), Int.add_zero] at k88; rw [Int.add_zero]; exact k88
set_option maxRecDepth 20000 in
theorem so_side6 {xs : Nat → Int32} {Ls : Nat} {S : cS} {M : Int} {t a : Nat} {Q : Option Value → cS → Nat → Prop} (h : cInv S M) (hM : M ≤ 900) {S1 : cS} (hs1 : cSm S S1) {k : Int} (hk : 0 ≤ k ∧ k < S 1 2) {v m n x y : Int} (k88 : cZ xs Ls 6 91 88 [(0, .ref 0), (1, .int (cI (S 1 0))), (3, .int (cI (S 1 2))), (4, .ref a), (5, .int (cI v)), (6, .int (cI m)), (7, .int (cI (n + bI (0 < S 5 (2 * k + 0))))), (8, .int (cI k)), (9, .int (cI x)), (10, .int (cI y)), (11, .int (cI 7))] [] S1 t Q) : cZ xs Ls 6 91 88 [(0, .ref 0), (1, .int (cI (S 1 0))), (3, .int (cI (S 1 2))), (4, .ref a), (5, .int (cI v)), (6, .int (cI m)), (7, .int (cI n)), (8, .int (cI k)), (9, .int (cI x)), (10, .int (cI y)), (11, .int (cI 6))] [] S1 t Q := by
  have hW := h.wd hM
  obtain ⟨⟨hw, hsz⟩, ⟨hG, hGn⟩, hf, hpast, hpo, har, hed, hea⟩ := id h
  have hw' := id hw
  have hp := hW.2.2.2.2.2.1
  have hpi := (har (2 * k + 0) (by omega) (by omega)).2.2.2.1
  have hoc : cOC S k 6 = S 5 (2 * k + 0) := rfl
  refine cz_iload rfl rfl ?_
  refine cz_icst rfl cc_7 ?_
  refine cz_icge rfl (by omega) (by omega) (fun hb92 => ?_) (fun hb92 => ?_)
  · exfalso; omega
  refine cz_iload rfl rfl ?_
  refine cz_aload rfl rfl ?_
  refine cz_iload rfl rfl ?_
  refine cz_iload rfl rfl ?_
  refine cz_cV3P rfl rfl rfl cIs0 (Nat.le_of_ble_eq_true rfl) (q_ofCell hs1 hW hk (by omega)) ?_
  refine cz_ifle rfl (by rw [hoc]; omega) (fun hb105 => ?_) (fun hb105 => ?_)
  · skip
    refine cz_icst rfl cc_0 ?_
    refine cz_iadd rfl ?_
    refine cz_st1 (l' := [(0, _), (1, _), (3, _), (4, _), (5, _), (6, _), (7, _), (8, _), (9, _), (10, _), (11, _)]) rfl rfl rfl ?_
    refine cz_iinc (l' := [(0, _), (1, _), (3, _), (4, _), (5, _), (6, _), (7, _), (8, _), (9, _), (10, _), (11, _)]) rfl cc_1 rfl rfl ?_
    refine cz_goto rfl ?_
    first
    | rw [bI_pos (by omega)] at k88; exact k88
    | rw [bI_neg (by omega), Int.add_zero] at k88; rw [Int.add_zero]; exact k88
  · skip
    refine cz_icst rfl cc_1 ?_
    refine cz_goto rfl ?_
    refine cz_iadd rfl ?_
    refine cz_st1 (l' := [(0, _), (1, _), (3, _), (4, _), (5, _), (6, _), (7, _), (8, _), (9, _), (10, _), (11, _)]) rfl rfl rfl ?_
    refine cz_iinc (l' := [(0, _), (1, _), (3, _), (4, _), (5, _), (6, _), (7, _), (8, _), (9, _), (10, _), (11, _)]) rfl cc_1 rfl rfl ?_
    refine cz_goto rfl ?_
    first
    | rw [bI_pos (by omega)] at k88; exact k88
    | rw [bI_neg (by omega), Int.add_zero] at k88; rw [Int.add_zero]; exact k88
set_option maxRecDepth 20000 in
theorem so_way0 {xs : Nat → Int32} {Ls : Nat} {S : cS} {M : Int} {t a : Nat} {Q : Option Value → cS → Nat → Prop} (h : cInv S M) (hM : M ≤ 900) {S1 : cS} (hs1 : cSm S S1) {k : Int} (hk : 0 ≤ k ∧ k < S 1 2) {v m n c : Int} (k128 : cZ xs Ls 6 91 128 [(0, .ref 0), (1, .int (cI (S 1 0))), (3, .int (cI (S 1 2))), (4, .ref a), (5, .int (cI (v + bI (S 2 (2 * k + 0) = 1)))), (6, .int (cI (m + bI (S 2 (2 * k + 0) = 2)))), (7, .int (cI n)), (8, .int (cI k)), (9, .int (cI (vw S 8 1 k))), (10, .int (cI (vw S 8 2 k))), (11, .int (cI (c + bI (¬ S 2 (2 * k + 0) = 0)))), (12, .int (cI 1))] [] S1 t Q) : cZ xs Ls 6 91 128 [(0, .ref 0), (1, .int (cI (S 1 0))), (3, .int (cI (S 1 2))), (4, .ref a), (5, .int (cI v)), (6, .int (cI m)), (7, .int (cI n)), (8, .int (cI k)), (9, .int (cI (vw S 8 1 k))), (10, .int (cI (vw S 8 2 k))), (11, .int (cI c)), (12, .int (cI 0))] [] S1 t Q := by
  have hW := h.wd hM
  obtain ⟨⟨hw, hsz⟩, ⟨hG, hGn⟩, hf, hpast, hpo, har, hed, hea⟩ := id h
  have hw' := id hw
  have hp := hW.2.2.2.2.2.1
  have hpi := har (2 * k + 0) (by omega) (by omega)
  have hbb := cBes_b hw hsz (c := k) (d := 0) hk
  have hpo1 := hpo k 0 hk.1 hk.2 (by omega)
  have hop1 : cOP S k 0 0 = if cBes S k 0 = -1 then -1 else S 2 (2 * k + 0) := rfl
  have hop2 : cOP S k 0 1 = if cBes S k 0 = -1 then -1 else S 4 (2 * k + 0) := rfl
  have hbe : cBes S k 0 = (if k % S 1 0 = S 1 0 - 1 then -1 else k + 1) := if_pos rfl
  have hr0 : 0 ≤ k % S 1 0 := Int.emod_nonneg k (by omega)
  have hr1 : k % S 1 0 < S 1 0 := Int.emod_lt_of_pos k (by omega)
  have hmid : ∀ nx, nx = cBes S k 0 → cZ xs Ls 6 91 176 [(0, .ref 0), (1, .int (cI (S 1 0))), (3, .int (cI (S 1 2))), (4, .ref a), (5, .int (cI v)), (6, .int (cI m)), (7, .int (cI n)), (8, .int (cI k)), (9, .int (cI (vw S 8 1 k))), (10, .int (cI (vw S 8 2 k))), (11, .int (cI c)), (12, .int (cI 0))] [.int (cI nx)] S1 t Q := by
    intro nx hnx
    subst hnx
    by_cases hb : cBes S k 0 = -1
    · have hA : cOP S k 0 0 = -1 := by rw [hop1, if_pos hb]
      clear hpo1
      refine cz_st1 (l' := [(0, _), (1, _), (3, _), (4, _), (5, _), (6, _), (7, _), (8, _), (9, _), (10, _), (11, _), (12, _), (13, _)]) rfl rfl rfl ?_
      refine cz_aload rfl rfl ?_
      refine cz_iload rfl rfl ?_
      refine cz_iload rfl rfl ?_
      refine cz_icst rfl cc_1 ?_
      refine cz_icne rfl (by omega) (by omega) (fun hb184 => ?_) (fun hb184 => ?_)
      rotate_left
      · exfalso; omega
      refine cz_icst rfl cc_0 ?_
      refine cz_icst rfl cc_0 ?_
      refine cz_cV4P rfl rfl rfl cIs0 (Nat.le_of_ble_eq_true rfl) (q_ofPair hs1 hW hsz hk (by omega) (by omega)) ?_
      rw [hA]
      refine cz_st1 (l' := [(0, _), (1, _), (3, _), (4, _), (5, _), (6, _), (7, _), (8, _), (9, _), (10, _), (11, _), (12, _), (13, _), (14, _)]) rfl rfl rfl ?_
      refine cz_iload rfl rfl ?_
      refine cz_ifge rfl (by omega) (fun hb200 => ?_) (fun hb200 => ?_)
      · exfalso; omega
      refine cz_iload rfl rfl ?_
      refine cz_icst rfl cc_m1 ?_
      refine cz_iceq rfl (by omega) (by omega) (fun hb206 => ?_) (fun hb206 => ?_)
      rotate_left
      · exfalso; omega
      refine cz_iinc (l' := [(0, _), (1, _), (3, _), (4, _), (5, _), (6, _), (7, _), (8, _), (9, _), (10, _), (11, _), (12, _), (13, _), (14, _)]) rfl cc_1 rfl rfl ?_
      refine cz_goto rfl ?_
      refine cz_weak (fun i => i == 0 || i == 1 || i == 3 || i == 4 || i == 5 || i == 6 || i == 7 || i == 8 || i == 9 || i == 10 || i == 11 || i == 12) (l' := [(0, _), (1, _), (3, _), (4, _), (5, _), (6, _), (7, _), (8, _), (9, _), (10, _), (11, _), (12, _)]) rfl ?_
      have hz : S 2 (2 * k + 0) = 0 := hed k 0 hk.1 hk.2 (by omega) hb
      rw [bI_neg (P := S 2 (2 * k + 0) = 1) (by omega), bI_neg (P := S 2 (2 * k + 0) = 2) (by omega), bI_neg (P := ¬ S 2 (2 * k + 0) = 0) (by omega), Int.add_zero, Int.add_zero, Int.add_zero] at k128
      exact k128
    · have hB : cOP S k 0 0 = S 2 (2 * k + 0) := by rw [hop1, if_neg hb]
      have hB2 : cOP S k 0 1 = S 4 (2 * k + 0) := by rw [hop2, if_neg hb]
      have hbr : 0 ≤ cBes S k 0 ∧ cBes S k 0 < S 1 2 := hbb.elim (fun hh => absurd hh hb) id
      have hpb := hp (cBes S k 0) hbr.1 (by omega)
      have hpk := hp k hk.1 (by omega)
      have hsh := hG.2.1
      obtain ⟨hq1, hq2⟩ := hpo1 hb
      clear hbe hop1 hop2 hbb
      obtain hc0 | hc0 | hc0 : S 2 (2 * k + 0) = 0 ∨ S 2 (2 * k + 0) = 1 ∨ S 2 (2 * k + 0) = 2 := by clear hq1 hq2; omega
      · have hq := hq2 (by clear hq1 hq2; omega)
        clear hq1 hq2
        have hap : (if 0 ≤ vw S 8 1 k - vw S 8 1 (cBes S k 0) then vw S 8 1 k - vw S 8 1 (cBes S k 0) else 0 - (vw S 8 1 k - vw S 8 1 (cBes S k 0))) + (if 0 ≤ vw S 8 2 k - vw S 8 2 (cBes S k 0) then vw S 8 2 k - vw S 8 2 (cBes S k 0) else 0 - (vw S 8 2 k - vw S 8 2 (cBes S k 0))) = 1 := by
          unfold cNext2 at hq
          split <;> split <;> omega
        have hup := hq.2
        clear hq
        refine cz_st1 (l' := [(0, _), (1, _), (3, _), (4, _), (5, _), (6, _), (7, _), (8, _), (9, _), (10, _), (11, _), (12, _), (13, _)]) rfl rfl rfl ?_
        refine cz_aload rfl rfl ?_
        refine cz_iload rfl rfl ?_
        refine cz_iload rfl rfl ?_
        refine cz_icst rfl cc_1 ?_
        refine cz_icne rfl (by omega) (by omega) (fun hb184 => ?_) (fun hb184 => ?_)
        rotate_left
        · exfalso; omega
        refine cz_icst rfl cc_0 ?_
        refine cz_icst rfl cc_0 ?_
        refine cz_cV4P rfl rfl rfl cIs0 (Nat.le_of_ble_eq_true rfl) (q_ofPair hs1 hW hsz hk (by omega) (by omega)) ?_
        rw [hB]
        refine cz_st1 (l' := [(0, _), (1, _), (3, _), (4, _), (5, _), (6, _), (7, _), (8, _), (9, _), (10, _), (11, _), (12, _), (13, _), (14, _)]) rfl rfl rfl ?_
        refine cz_iload rfl rfl ?_
        refine cz_ifge rfl (by omega) (fun hb200 => ?_) (fun hb200 => ?_)
        rotate_left
        · exfalso; omega
        refine cz_iload rfl rfl ?_
        refine cz_aload rfl rfl ?_
        refine cz_iload rfl rfl ?_
        refine cz_icst rfl cc_0 ?_
        refine cz_cV3P rfl rfl rfl cIs0 (Nat.le_of_ble_eq_true rfl) (q_ofCell0 hs1 hW hbr) ?_
        refine cz_isub rfl ?_
        refine cz_abs rfl rfl (by omega) ?_
        refine cz_iload rfl rfl ?_
        refine cz_aload rfl rfl ?_
        refine cz_iload rfl rfl ?_
        refine cz_icst rfl cc_1 ?_
        refine cz_cV3P rfl rfl rfl cIs0 (Nat.le_of_ble_eq_true rfl) (q_ofCell1 hs1 hW hbr) ?_
        refine cz_isub rfl ?_
        refine cz_abs rfl rfl (by omega) ?_
        refine cz_iadd rfl ?_
        refine cz_st1 (l' := [(0, _), (1, _), (3, _), (4, _), (5, _), (6, _), (7, _), (8, _), (9, _), (10, _), (11, _), (12, _), (13, _), (14, _), (15, _)]) rfl rfl rfl ?_
        refine cz_iload rfl rfl ?_
        refine cz_ifne rfl (by omega) (fun hb242 => ?_) (fun hb242 => ?_)
        · exfalso; omega
        refine cz_iload rfl rfl ?_
        refine cz_icst rfl cc_1 ?_
        refine cz_icne rfl (by omega) (by omega) (fun hb248 => ?_) (fun hb248 => ?_)
        · exfalso; omega
        refine cz_aload rfl rfl ?_
        refine cz_iload rfl rfl ?_
        refine cz_icst rfl cc_3 ?_
        refine cz_cV3P rfl rfl rfl cIs0 (Nat.le_of_ble_eq_true rfl) (q_ofCell3 hs1 hW hk) ?_
        refine cz_aload rfl rfl ?_
        refine cz_iload rfl rfl ?_
        refine cz_icst rfl cc_3 ?_
        refine cz_cV3P rfl rfl rfl cIs0 (Nat.le_of_ble_eq_true rfl) (q_ofCell3 hs1 hW hbr) ?_
        refine cz_iceq rfl (by omega) (by omega) (fun hb265 => ?_) (fun hb265 => ?_)
        rotate_left
        · exfalso; omega
        refine cz_iload rfl rfl ?_
        refine cz_iload rfl rfl ?_
        refine cz_icst rfl cc_1 ?_
        refine cz_icne rfl (by omega) (by omega) (fun hb322 => ?_) (fun hb322 => ?_)
        rotate_left
        · exfalso; omega
        refine cz_icst rfl cc_0 ?_
        refine cz_iadd rfl ?_
        refine cz_st1 (l' := [(0, _), (1, _), (3, _), (4, _), (5, _), (6, _), (7, _), (8, _), (9, _), (10, _), (11, _), (12, _), (13, _), (14, _), (15, _)]) rfl rfl rfl ?_
        refine cz_iload rfl rfl ?_
        refine cz_iload rfl rfl ?_
        refine cz_icst rfl cc_2 ?_
        refine cz_icne rfl (by omega) (by omega) (fun hb338 => ?_) (fun hb338 => ?_)
        rotate_left
        · exfalso; omega
        refine cz_icst rfl cc_0 ?_
        refine cz_iadd rfl ?_
        refine cz_st1 (l' := [(0, _), (1, _), (3, _), (4, _), (5, _), (6, _), (7, _), (8, _), (9, _), (10, _), (11, _), (12, _), (13, _), (14, _), (15, _)]) rfl rfl rfl ?_
        refine cz_iload rfl rfl ?_
        refine cz_iload rfl rfl ?_
        refine cz_ifle rfl (by omega) (fun hb353 => ?_) (fun hb353 => ?_)
        rotate_left
        · exfalso; omega
        refine cz_icst rfl cc_0 ?_
        refine cz_iadd rfl ?_
        refine cz_st1 (l' := [(0, _), (1, _), (3, _), (4, _), (5, _), (6, _), (7, _), (8, _), (9, _), (10, _), (11, _), (12, _), (13, _), (14, _), (15, _)]) rfl rfl rfl ?_
        refine cz_iinc (l' := [(0, _), (1, _), (3, _), (4, _), (5, _), (6, _), (7, _), (8, _), (9, _), (10, _), (11, _), (12, _), (13, _), (14, _), (15, _)]) rfl cc_1 rfl rfl ?_
        refine cz_goto rfl ?_
        refine cz_weak (fun i => i == 0 || i == 1 || i == 3 || i == 4 || i == 5 || i == 6 || i == 7 || i == 8 || i == 9 || i == 10 || i == 11 || i == 12) (l' := [(0, _), (1, _), (3, _), (4, _), (5, _), (6, _), (7, _), (8, _), (9, _), (10, _), (11, _), (12, _)]) rfl ?_
        rw [bI_neg (P := S 2 (2 * k + 0) = 1) (by omega), bI_neg (P := S 2 (2 * k + 0) = 2) (by omega), bI_neg (P := ¬ S 2 (2 * k + 0) = 0) (by omega)] at k128
        exact k128
      · have hq := hq1 (by clear hq1 hq2; omega)
        clear hq1 hq2
        have hap : (if 0 ≤ vw S 8 1 k - vw S 8 1 (cBes S k 0) then vw S 8 1 k - vw S 8 1 (cBes S k 0) else 0 - (vw S 8 1 k - vw S 8 1 (cBes S k 0))) + (if 0 ≤ vw S 8 2 k - vw S 8 2 (cBes S k 0) then vw S 8 2 k - vw S 8 2 (cBes S k 0) else 0 - (vw S 8 2 k - vw S 8 2 (cBes S k 0))) = 0 := by
          unfold cSame2 at hq
          split <;> split <;> omega
        have hup := hq.2
        clear hq
        refine cz_st1 (l' := [(0, _), (1, _), (3, _), (4, _), (5, _), (6, _), (7, _), (8, _), (9, _), (10, _), (11, _), (12, _), (13, _)]) rfl rfl rfl ?_
        refine cz_aload rfl rfl ?_
        refine cz_iload rfl rfl ?_
        refine cz_iload rfl rfl ?_
        refine cz_icst rfl cc_1 ?_
        refine cz_icne rfl (by omega) (by omega) (fun hb184 => ?_) (fun hb184 => ?_)
        rotate_left
        · exfalso; omega
        refine cz_icst rfl cc_0 ?_
        refine cz_icst rfl cc_0 ?_
        refine cz_cV4P rfl rfl rfl cIs0 (Nat.le_of_ble_eq_true rfl) (q_ofPair hs1 hW hsz hk (by omega) (by omega)) ?_
        rw [hB]
        refine cz_st1 (l' := [(0, _), (1, _), (3, _), (4, _), (5, _), (6, _), (7, _), (8, _), (9, _), (10, _), (11, _), (12, _), (13, _), (14, _)]) rfl rfl rfl ?_
        refine cz_iload rfl rfl ?_
        refine cz_ifge rfl (by omega) (fun hb200 => ?_) (fun hb200 => ?_)
        rotate_left
        · exfalso; omega
        refine cz_iload rfl rfl ?_
        refine cz_aload rfl rfl ?_
        refine cz_iload rfl rfl ?_
        refine cz_icst rfl cc_0 ?_
        refine cz_cV3P rfl rfl rfl cIs0 (Nat.le_of_ble_eq_true rfl) (q_ofCell0 hs1 hW hbr) ?_
        refine cz_isub rfl ?_
        refine cz_abs rfl rfl (by omega) ?_
        refine cz_iload rfl rfl ?_
        refine cz_aload rfl rfl ?_
        refine cz_iload rfl rfl ?_
        refine cz_icst rfl cc_1 ?_
        refine cz_cV3P rfl rfl rfl cIs0 (Nat.le_of_ble_eq_true rfl) (q_ofCell1 hs1 hW hbr) ?_
        refine cz_isub rfl ?_
        refine cz_abs rfl rfl (by omega) ?_
        refine cz_iadd rfl ?_
        refine cz_st1 (l' := [(0, _), (1, _), (3, _), (4, _), (5, _), (6, _), (7, _), (8, _), (9, _), (10, _), (11, _), (12, _), (13, _), (14, _), (15, _)]) rfl rfl rfl ?_
        refine cz_iload rfl rfl ?_
        refine cz_ifne rfl (by omega) (fun hb242 => ?_) (fun hb242 => ?_)
        rotate_left
        · exfalso; omega
        refine cz_iload rfl rfl ?_
        refine cz_ifne rfl (by omega) (fun hb273 => ?_) (fun hb273 => ?_)
        · exfalso; omega
        refine cz_aload rfl rfl ?_
        refine cz_iload rfl rfl ?_
        refine cz_icst rfl cc_3 ?_
        refine cz_cV3P rfl rfl rfl cIs0 (Nat.le_of_ble_eq_true rfl) (q_ofCell3 hs1 hW hk) ?_
        refine cz_aload rfl rfl ?_
        refine cz_iload rfl rfl ?_
        refine cz_icst rfl cc_3 ?_
        refine cz_cV3P rfl rfl rfl cIs0 (Nat.le_of_ble_eq_true rfl) (q_ofCell3 hs1 hW hbr) ?_
        refine cz_iceq rfl (by omega) (by omega) (fun hb290 => ?_) (fun hb290 => ?_)
        · exfalso; omega
        refine cz_aload rfl rfl ?_
        refine cz_iload rfl rfl ?_
        refine cz_iload rfl rfl ?_
        refine cz_icst rfl cc_1 ?_
        refine cz_icne rfl (by omega) (by omega) (fun hb299 => ?_) (fun hb299 => ?_)
        rotate_left
        · exfalso; omega
        refine cz_icst rfl cc_0 ?_
        refine cz_icst rfl cc_1 ?_
        refine cz_cV4P rfl rfl rfl cIs0 (Nat.le_of_ble_eq_true rfl) (q_ofPair hs1 hW hsz hk (by omega) (by omega)) ?_
        rw [hB2]
        refine cz_icst rfl cc_1 ?_
        refine cz_icge rfl (by omega) (by omega) (fun hb312 => ?_) (fun hb312 => ?_)
        rotate_left
        · exfalso; omega
        refine cz_iload rfl rfl ?_
        refine cz_iload rfl rfl ?_
        refine cz_icst rfl cc_1 ?_
        refine cz_icne rfl (by omega) (by omega) (fun hb322 => ?_) (fun hb322 => ?_)
        · exfalso; omega
        refine cz_icst rfl cc_1 ?_
        refine cz_goto rfl ?_
        refine cz_iadd rfl ?_
        refine cz_st1 (l' := [(0, _), (1, _), (3, _), (4, _), (5, _), (6, _), (7, _), (8, _), (9, _), (10, _), (11, _), (12, _), (13, _), (14, _), (15, _)]) rfl rfl rfl ?_
        refine cz_iload rfl rfl ?_
        refine cz_iload rfl rfl ?_
        refine cz_icst rfl cc_2 ?_
        refine cz_icne rfl (by omega) (by omega) (fun hb338 => ?_) (fun hb338 => ?_)
        rotate_left
        · exfalso; omega
        refine cz_icst rfl cc_0 ?_
        refine cz_iadd rfl ?_
        refine cz_st1 (l' := [(0, _), (1, _), (3, _), (4, _), (5, _), (6, _), (7, _), (8, _), (9, _), (10, _), (11, _), (12, _), (13, _), (14, _), (15, _)]) rfl rfl rfl ?_
        refine cz_iload rfl rfl ?_
        refine cz_iload rfl rfl ?_
        refine cz_ifle rfl (by omega) (fun hb353 => ?_) (fun hb353 => ?_)
        · exfalso; omega
        refine cz_icst rfl cc_1 ?_
        refine cz_goto rfl ?_
        refine cz_iadd rfl ?_
        refine cz_st1 (l' := [(0, _), (1, _), (3, _), (4, _), (5, _), (6, _), (7, _), (8, _), (9, _), (10, _), (11, _), (12, _), (13, _), (14, _), (15, _)]) rfl rfl rfl ?_
        refine cz_iinc (l' := [(0, _), (1, _), (3, _), (4, _), (5, _), (6, _), (7, _), (8, _), (9, _), (10, _), (11, _), (12, _), (13, _), (14, _), (15, _)]) rfl cc_1 rfl rfl ?_
        refine cz_goto rfl ?_
        refine cz_weak (fun i => i == 0 || i == 1 || i == 3 || i == 4 || i == 5 || i == 6 || i == 7 || i == 8 || i == 9 || i == 10 || i == 11 || i == 12) (l' := [(0, _), (1, _), (3, _), (4, _), (5, _), (6, _), (7, _), (8, _), (9, _), (10, _), (11, _), (12, _)]) rfl ?_
        rw [bI_pos (P := S 2 (2 * k + 0) = 1) (by omega), bI_neg (P := S 2 (2 * k + 0) = 2) (by omega), bI_pos (P := ¬ S 2 (2 * k + 0) = 0) (by omega)] at k128
        exact k128
      · have hq := hq1 (by clear hq1 hq2; omega)
        clear hq1 hq2
        have hap : (if 0 ≤ vw S 8 1 k - vw S 8 1 (cBes S k 0) then vw S 8 1 k - vw S 8 1 (cBes S k 0) else 0 - (vw S 8 1 k - vw S 8 1 (cBes S k 0))) + (if 0 ≤ vw S 8 2 k - vw S 8 2 (cBes S k 0) then vw S 8 2 k - vw S 8 2 (cBes S k 0) else 0 - (vw S 8 2 k - vw S 8 2 (cBes S k 0))) = 0 := by
          unfold cSame2 at hq
          split <;> split <;> omega
        have hup := hq.2
        clear hq
        refine cz_st1 (l' := [(0, _), (1, _), (3, _), (4, _), (5, _), (6, _), (7, _), (8, _), (9, _), (10, _), (11, _), (12, _), (13, _)]) rfl rfl rfl ?_
        refine cz_aload rfl rfl ?_
        refine cz_iload rfl rfl ?_
        refine cz_iload rfl rfl ?_
        refine cz_icst rfl cc_1 ?_
        refine cz_icne rfl (by omega) (by omega) (fun hb184 => ?_) (fun hb184 => ?_)
        rotate_left
        · exfalso; omega
        refine cz_icst rfl cc_0 ?_
        refine cz_icst rfl cc_0 ?_
        refine cz_cV4P rfl rfl rfl cIs0 (Nat.le_of_ble_eq_true rfl) (q_ofPair hs1 hW hsz hk (by omega) (by omega)) ?_
        rw [hB]
        refine cz_st1 (l' := [(0, _), (1, _), (3, _), (4, _), (5, _), (6, _), (7, _), (8, _), (9, _), (10, _), (11, _), (12, _), (13, _), (14, _)]) rfl rfl rfl ?_
        refine cz_iload rfl rfl ?_
        refine cz_ifge rfl (by omega) (fun hb200 => ?_) (fun hb200 => ?_)
        rotate_left
        · exfalso; omega
        refine cz_iload rfl rfl ?_
        refine cz_aload rfl rfl ?_
        refine cz_iload rfl rfl ?_
        refine cz_icst rfl cc_0 ?_
        refine cz_cV3P rfl rfl rfl cIs0 (Nat.le_of_ble_eq_true rfl) (q_ofCell0 hs1 hW hbr) ?_
        refine cz_isub rfl ?_
        refine cz_abs rfl rfl (by omega) ?_
        refine cz_iload rfl rfl ?_
        refine cz_aload rfl rfl ?_
        refine cz_iload rfl rfl ?_
        refine cz_icst rfl cc_1 ?_
        refine cz_cV3P rfl rfl rfl cIs0 (Nat.le_of_ble_eq_true rfl) (q_ofCell1 hs1 hW hbr) ?_
        refine cz_isub rfl ?_
        refine cz_abs rfl rfl (by omega) ?_
        refine cz_iadd rfl ?_
        refine cz_st1 (l' := [(0, _), (1, _), (3, _), (4, _), (5, _), (6, _), (7, _), (8, _), (9, _), (10, _), (11, _), (12, _), (13, _), (14, _), (15, _)]) rfl rfl rfl ?_
        refine cz_iload rfl rfl ?_
        refine cz_ifne rfl (by omega) (fun hb242 => ?_) (fun hb242 => ?_)
        rotate_left
        · exfalso; omega
        refine cz_iload rfl rfl ?_
        refine cz_ifne rfl (by omega) (fun hb273 => ?_) (fun hb273 => ?_)
        · exfalso; omega
        refine cz_aload rfl rfl ?_
        refine cz_iload rfl rfl ?_
        refine cz_icst rfl cc_3 ?_
        refine cz_cV3P rfl rfl rfl cIs0 (Nat.le_of_ble_eq_true rfl) (q_ofCell3 hs1 hW hk) ?_
        refine cz_aload rfl rfl ?_
        refine cz_iload rfl rfl ?_
        refine cz_icst rfl cc_3 ?_
        refine cz_cV3P rfl rfl rfl cIs0 (Nat.le_of_ble_eq_true rfl) (q_ofCell3 hs1 hW hbr) ?_
        refine cz_iceq rfl (by omega) (by omega) (fun hb290 => ?_) (fun hb290 => ?_)
        · exfalso; omega
        refine cz_aload rfl rfl ?_
        refine cz_iload rfl rfl ?_
        refine cz_iload rfl rfl ?_
        refine cz_icst rfl cc_1 ?_
        refine cz_icne rfl (by omega) (by omega) (fun hb299 => ?_) (fun hb299 => ?_)
        rotate_left
        · exfalso; omega
        refine cz_icst rfl cc_0 ?_
        refine cz_icst rfl cc_1 ?_
        refine cz_cV4P rfl rfl rfl cIs0 (Nat.le_of_ble_eq_true rfl) (q_ofPair hs1 hW hsz hk (by omega) (by omega)) ?_
        rw [hB2]
        refine cz_icst rfl cc_1 ?_
        refine cz_icge rfl (by omega) (by omega) (fun hb312 => ?_) (fun hb312 => ?_)
        rotate_left
        · exfalso; omega
        refine cz_iload rfl rfl ?_
        refine cz_iload rfl rfl ?_
        refine cz_icst rfl cc_1 ?_
        refine cz_icne rfl (by omega) (by omega) (fun hb322 => ?_) (fun hb322 => ?_)
        rotate_left
        · exfalso; omega
        refine cz_icst rfl cc_0 ?_
        refine cz_iadd rfl ?_
        refine cz_st1 (l' := [(0, _), (1, _), (3, _), (4, _), (5, _), (6, _), (7, _), (8, _), (9, _), (10, _), (11, _), (12, _), (13, _), (14, _), (15, _)]) rfl rfl rfl ?_
        refine cz_iload rfl rfl ?_
        refine cz_iload rfl rfl ?_
        refine cz_icst rfl cc_2 ?_
        refine cz_icne rfl (by omega) (by omega) (fun hb338 => ?_) (fun hb338 => ?_)
        · exfalso; omega
        refine cz_icst rfl cc_1 ?_
        refine cz_goto rfl ?_
        refine cz_iadd rfl ?_
        refine cz_st1 (l' := [(0, _), (1, _), (3, _), (4, _), (5, _), (6, _), (7, _), (8, _), (9, _), (10, _), (11, _), (12, _), (13, _), (14, _), (15, _)]) rfl rfl rfl ?_
        refine cz_iload rfl rfl ?_
        refine cz_iload rfl rfl ?_
        refine cz_ifle rfl (by omega) (fun hb353 => ?_) (fun hb353 => ?_)
        · exfalso; omega
        refine cz_icst rfl cc_1 ?_
        refine cz_goto rfl ?_
        refine cz_iadd rfl ?_
        refine cz_st1 (l' := [(0, _), (1, _), (3, _), (4, _), (5, _), (6, _), (7, _), (8, _), (9, _), (10, _), (11, _), (12, _), (13, _), (14, _), (15, _)]) rfl rfl rfl ?_
        refine cz_iinc (l' := [(0, _), (1, _), (3, _), (4, _), (5, _), (6, _), (7, _), (8, _), (9, _), (10, _), (11, _), (12, _), (13, _), (14, _), (15, _)]) rfl cc_1 rfl rfl ?_
        refine cz_goto rfl ?_
        refine cz_weak (fun i => i == 0 || i == 1 || i == 3 || i == 4 || i == 5 || i == 6 || i == 7 || i == 8 || i == 9 || i == 10 || i == 11 || i == 12) (l' := [(0, _), (1, _), (3, _), (4, _), (5, _), (6, _), (7, _), (8, _), (9, _), (10, _), (11, _), (12, _)]) rfl ?_
        rw [bI_neg (P := S 2 (2 * k + 0) = 1) (by omega), bI_pos (P := S 2 (2 * k + 0) = 2) (by omega), bI_pos (P := ¬ S 2 (2 * k + 0) = 0) (by omega)] at k128
        exact k128
  clear hpo1 hop1 hop2
  refine cz_iload rfl rfl ?_
  refine cz_icst rfl cc_2 ?_
  refine cz_icge rfl (by omega) (by omega) (fun hb131 => ?_) (fun hb131 => ?_)
  · exfalso; omega
  refine cz_iload rfl rfl ?_
  refine cz_ifne rfl (by omega) (fun hb136 => ?_) (fun hb136 => ?_)
  · exfalso; omega
  refine cz_iload rfl rfl ?_
  refine cz_iload rfl rfl ?_
  refine cz_irem rfl (by omega) (by omega) ?_
  refine cz_icst rfl cc_1 ?_
  refine cz_iadd rfl ?_
  refine cz_iload rfl rfl ?_
  refine cz_icge rfl (by omega) (by omega) (fun hb146 => ?_) (fun hb146 => ?_)
  · skip
    refine cz_icst rfl cc_m1 ?_
    refine cz_goto rfl ?_
    refine hmid _ ?_
    rw [hbe]
    first
    | rw [if_pos (by omega)]
    | rw [if_neg (by omega)]
  · skip
    refine cz_iload rfl rfl ?_
    refine cz_icst rfl cc_1 ?_
    refine cz_iadd rfl ?_
    refine cz_goto rfl ?_
    refine hmid _ ?_
    rw [hbe]
    first
    | rw [if_pos (by omega)]
    | rw [if_neg (by omega)]
set_option maxRecDepth 20000 in
theorem so_way1 {xs : Nat → Int32} {Ls : Nat} {S : cS} {M : Int} {t a : Nat} {Q : Option Value → cS → Nat → Prop} (h : cInv S M) (hM : M ≤ 900) {S1 : cS} (hs1 : cSm S S1) {k : Int} (hk : 0 ≤ k ∧ k < S 1 2) {v m n c : Int} (k128 : cZ xs Ls 6 91 128 [(0, .ref 0), (1, .int (cI (S 1 0))), (3, .int (cI (S 1 2))), (4, .ref a), (5, .int (cI (v + bI (S 2 (2 * k + 1) = 1)))), (6, .int (cI (m + bI (S 2 (2 * k + 1) = 2)))), (7, .int (cI n)), (8, .int (cI k)), (9, .int (cI (vw S 8 1 k))), (10, .int (cI (vw S 8 2 k))), (11, .int (cI (c + bI (¬ S 2 (2 * k + 1) = 0)))), (12, .int (cI 2))] [] S1 t Q) : cZ xs Ls 6 91 128 [(0, .ref 0), (1, .int (cI (S 1 0))), (3, .int (cI (S 1 2))), (4, .ref a), (5, .int (cI v)), (6, .int (cI m)), (7, .int (cI n)), (8, .int (cI k)), (9, .int (cI (vw S 8 1 k))), (10, .int (cI (vw S 8 2 k))), (11, .int (cI c)), (12, .int (cI 1))] [] S1 t Q := by
  have hW := h.wd hM
  obtain ⟨⟨hw, hsz⟩, ⟨hG, hGn⟩, hf, hpast, hpo, har, hed, hea⟩ := id h
  have hw' := id hw
  have hp := hW.2.2.2.2.2.1
  have hpi := har (2 * k + 1) (by omega) (by omega)
  have hbb := cBes_b hw hsz (c := k) (d := 1) hk
  have hpo1 := hpo k 1 hk.1 hk.2 (by omega)
  have hop1 : cOP S k 1 0 = if cBes S k 1 = -1 then -1 else S 2 (2 * k + 1) := rfl
  have hop2 : cOP S k 1 1 = if cBes S k 1 = -1 then -1 else S 4 (2 * k + 1) := rfl
  have hbe : cBes S k 1 = (if k + S 1 0 < S 1 2 then k + S 1 0 else -1) := if_neg (by decide)
  have hr0 : 0 ≤ k % S 1 0 := Int.emod_nonneg k (by omega)
  have hr1 : k % S 1 0 < S 1 0 := Int.emod_lt_of_pos k (by omega)
  have hmid : ∀ nx, nx = cBes S k 1 → cZ xs Ls 6 91 176 [(0, .ref 0), (1, .int (cI (S 1 0))), (3, .int (cI (S 1 2))), (4, .ref a), (5, .int (cI v)), (6, .int (cI m)), (7, .int (cI n)), (8, .int (cI k)), (9, .int (cI (vw S 8 1 k))), (10, .int (cI (vw S 8 2 k))), (11, .int (cI c)), (12, .int (cI 1))] [.int (cI nx)] S1 t Q := by
    intro nx hnx
    subst hnx
    by_cases hb : cBes S k 1 = -1
    · have hA : cOP S k 1 0 = -1 := by rw [hop1, if_pos hb]
      clear hpo1
      refine cz_st1 (l' := [(0, _), (1, _), (3, _), (4, _), (5, _), (6, _), (7, _), (8, _), (9, _), (10, _), (11, _), (12, _), (13, _)]) rfl rfl rfl ?_
      refine cz_aload rfl rfl ?_
      refine cz_iload rfl rfl ?_
      refine cz_iload rfl rfl ?_
      refine cz_icst rfl cc_1 ?_
      refine cz_icne rfl (by omega) (by omega) (fun hb184 => ?_) (fun hb184 => ?_)
      · exfalso; omega
      refine cz_icst rfl cc_1 ?_
      refine cz_goto rfl ?_
      refine cz_icst rfl cc_0 ?_
      refine cz_cV4P rfl rfl rfl cIs0 (Nat.le_of_ble_eq_true rfl) (q_ofPair hs1 hW hsz hk (by omega) (by omega)) ?_
      rw [hA]
      refine cz_st1 (l' := [(0, _), (1, _), (3, _), (4, _), (5, _), (6, _), (7, _), (8, _), (9, _), (10, _), (11, _), (12, _), (13, _), (14, _)]) rfl rfl rfl ?_
      refine cz_iload rfl rfl ?_
      refine cz_ifge rfl (by omega) (fun hb200 => ?_) (fun hb200 => ?_)
      · exfalso; omega
      refine cz_iload rfl rfl ?_
      refine cz_icst rfl cc_m1 ?_
      refine cz_iceq rfl (by omega) (by omega) (fun hb206 => ?_) (fun hb206 => ?_)
      rotate_left
      · exfalso; omega
      refine cz_iinc (l' := [(0, _), (1, _), (3, _), (4, _), (5, _), (6, _), (7, _), (8, _), (9, _), (10, _), (11, _), (12, _), (13, _), (14, _)]) rfl cc_1 rfl rfl ?_
      refine cz_goto rfl ?_
      refine cz_weak (fun i => i == 0 || i == 1 || i == 3 || i == 4 || i == 5 || i == 6 || i == 7 || i == 8 || i == 9 || i == 10 || i == 11 || i == 12) (l' := [(0, _), (1, _), (3, _), (4, _), (5, _), (6, _), (7, _), (8, _), (9, _), (10, _), (11, _), (12, _)]) rfl ?_
      have hz : S 2 (2 * k + 1) = 0 := hed k 1 hk.1 hk.2 (by omega) hb
      rw [bI_neg (P := S 2 (2 * k + 1) = 1) (by omega), bI_neg (P := S 2 (2 * k + 1) = 2) (by omega), bI_neg (P := ¬ S 2 (2 * k + 1) = 0) (by omega), Int.add_zero, Int.add_zero, Int.add_zero] at k128
      exact k128
    · have hB : cOP S k 1 0 = S 2 (2 * k + 1) := by rw [hop1, if_neg hb]
      have hB2 : cOP S k 1 1 = S 4 (2 * k + 1) := by rw [hop2, if_neg hb]
      have hbr : 0 ≤ cBes S k 1 ∧ cBes S k 1 < S 1 2 := hbb.elim (fun hh => absurd hh hb) id
      have hpb := hp (cBes S k 1) hbr.1 (by omega)
      have hpk := hp k hk.1 (by omega)
      have hsh := hG.2.1
      obtain ⟨hq1, hq2⟩ := hpo1 hb
      clear hbe hop1 hop2 hbb
      obtain hc0 | hc0 | hc0 : S 2 (2 * k + 1) = 0 ∨ S 2 (2 * k + 1) = 1 ∨ S 2 (2 * k + 1) = 2 := by clear hq1 hq2; omega
      · have hq := hq2 (by clear hq1 hq2; omega)
        clear hq1 hq2
        have hap : (if 0 ≤ vw S 8 1 k - vw S 8 1 (cBes S k 1) then vw S 8 1 k - vw S 8 1 (cBes S k 1) else 0 - (vw S 8 1 k - vw S 8 1 (cBes S k 1))) + (if 0 ≤ vw S 8 2 k - vw S 8 2 (cBes S k 1) then vw S 8 2 k - vw S 8 2 (cBes S k 1) else 0 - (vw S 8 2 k - vw S 8 2 (cBes S k 1))) = 1 := by
          unfold cNext2 at hq
          split <;> split <;> omega
        have hup := hq.2
        clear hq
        refine cz_st1 (l' := [(0, _), (1, _), (3, _), (4, _), (5, _), (6, _), (7, _), (8, _), (9, _), (10, _), (11, _), (12, _), (13, _)]) rfl rfl rfl ?_
        refine cz_aload rfl rfl ?_
        refine cz_iload rfl rfl ?_
        refine cz_iload rfl rfl ?_
        refine cz_icst rfl cc_1 ?_
        refine cz_icne rfl (by omega) (by omega) (fun hb184 => ?_) (fun hb184 => ?_)
        · exfalso; omega
        refine cz_icst rfl cc_1 ?_
        refine cz_goto rfl ?_
        refine cz_icst rfl cc_0 ?_
        refine cz_cV4P rfl rfl rfl cIs0 (Nat.le_of_ble_eq_true rfl) (q_ofPair hs1 hW hsz hk (by omega) (by omega)) ?_
        rw [hB]
        refine cz_st1 (l' := [(0, _), (1, _), (3, _), (4, _), (5, _), (6, _), (7, _), (8, _), (9, _), (10, _), (11, _), (12, _), (13, _), (14, _)]) rfl rfl rfl ?_
        refine cz_iload rfl rfl ?_
        refine cz_ifge rfl (by omega) (fun hb200 => ?_) (fun hb200 => ?_)
        rotate_left
        · exfalso; omega
        refine cz_iload rfl rfl ?_
        refine cz_aload rfl rfl ?_
        refine cz_iload rfl rfl ?_
        refine cz_icst rfl cc_0 ?_
        refine cz_cV3P rfl rfl rfl cIs0 (Nat.le_of_ble_eq_true rfl) (q_ofCell0 hs1 hW hbr) ?_
        refine cz_isub rfl ?_
        refine cz_abs rfl rfl (by omega) ?_
        refine cz_iload rfl rfl ?_
        refine cz_aload rfl rfl ?_
        refine cz_iload rfl rfl ?_
        refine cz_icst rfl cc_1 ?_
        refine cz_cV3P rfl rfl rfl cIs0 (Nat.le_of_ble_eq_true rfl) (q_ofCell1 hs1 hW hbr) ?_
        refine cz_isub rfl ?_
        refine cz_abs rfl rfl (by omega) ?_
        refine cz_iadd rfl ?_
        refine cz_st1 (l' := [(0, _), (1, _), (3, _), (4, _), (5, _), (6, _), (7, _), (8, _), (9, _), (10, _), (11, _), (12, _), (13, _), (14, _), (15, _)]) rfl rfl rfl ?_
        refine cz_iload rfl rfl ?_
        refine cz_ifne rfl (by omega) (fun hb242 => ?_) (fun hb242 => ?_)
        · exfalso; omega
        refine cz_iload rfl rfl ?_
        refine cz_icst rfl cc_1 ?_
        refine cz_icne rfl (by omega) (by omega) (fun hb248 => ?_) (fun hb248 => ?_)
        · exfalso; omega
        refine cz_aload rfl rfl ?_
        refine cz_iload rfl rfl ?_
        refine cz_icst rfl cc_3 ?_
        refine cz_cV3P rfl rfl rfl cIs0 (Nat.le_of_ble_eq_true rfl) (q_ofCell3 hs1 hW hk) ?_
        refine cz_aload rfl rfl ?_
        refine cz_iload rfl rfl ?_
        refine cz_icst rfl cc_3 ?_
        refine cz_cV3P rfl rfl rfl cIs0 (Nat.le_of_ble_eq_true rfl) (q_ofCell3 hs1 hW hbr) ?_
        refine cz_iceq rfl (by omega) (by omega) (fun hb265 => ?_) (fun hb265 => ?_)
        rotate_left
        · exfalso; omega
        refine cz_iload rfl rfl ?_
        refine cz_iload rfl rfl ?_
        refine cz_icst rfl cc_1 ?_
        refine cz_icne rfl (by omega) (by omega) (fun hb322 => ?_) (fun hb322 => ?_)
        rotate_left
        · exfalso; omega
        refine cz_icst rfl cc_0 ?_
        refine cz_iadd rfl ?_
        refine cz_st1 (l' := [(0, _), (1, _), (3, _), (4, _), (5, _), (6, _), (7, _), (8, _), (9, _), (10, _), (11, _), (12, _), (13, _), (14, _), (15, _)]) rfl rfl rfl ?_
        refine cz_iload rfl rfl ?_
        refine cz_iload rfl rfl ?_
        refine cz_icst rfl cc_2 ?_
        refine cz_icne rfl (by omega) (by omega) (fun hb338 => ?_) (fun hb338 => ?_)
        rotate_left
        · exfalso; omega
        refine cz_icst rfl cc_0 ?_
        refine cz_iadd rfl ?_
        refine cz_st1 (l' := [(0, _), (1, _), (3, _), (4, _), (5, _), (6, _), (7, _), (8, _), (9, _), (10, _), (11, _), (12, _), (13, _), (14, _), (15, _)]) rfl rfl rfl ?_
        refine cz_iload rfl rfl ?_
        refine cz_iload rfl rfl ?_
        refine cz_ifle rfl (by omega) (fun hb353 => ?_) (fun hb353 => ?_)
        rotate_left
        · exfalso; omega
        refine cz_icst rfl cc_0 ?_
        refine cz_iadd rfl ?_
        refine cz_st1 (l' := [(0, _), (1, _), (3, _), (4, _), (5, _), (6, _), (7, _), (8, _), (9, _), (10, _), (11, _), (12, _), (13, _), (14, _), (15, _)]) rfl rfl rfl ?_
        refine cz_iinc (l' := [(0, _), (1, _), (3, _), (4, _), (5, _), (6, _), (7, _), (8, _), (9, _), (10, _), (11, _), (12, _), (13, _), (14, _), (15, _)]) rfl cc_1 rfl rfl ?_
        refine cz_goto rfl ?_
        refine cz_weak (fun i => i == 0 || i == 1 || i == 3 || i == 4 || i == 5 || i == 6 || i == 7 || i == 8 || i == 9 || i == 10 || i == 11 || i == 12) (l' := [(0, _), (1, _), (3, _), (4, _), (5, _), (6, _), (7, _), (8, _), (9, _), (10, _), (11, _), (12, _)]) rfl ?_
        rw [bI_neg (P := S 2 (2 * k + 1) = 1) (by omega), bI_neg (P := S 2 (2 * k + 1) = 2) (by omega), bI_neg (P := ¬ S 2 (2 * k + 1) = 0) (by omega)] at k128
        exact k128
      · have hq := hq1 (by clear hq1 hq2; omega)
        clear hq1 hq2
        have hap : (if 0 ≤ vw S 8 1 k - vw S 8 1 (cBes S k 1) then vw S 8 1 k - vw S 8 1 (cBes S k 1) else 0 - (vw S 8 1 k - vw S 8 1 (cBes S k 1))) + (if 0 ≤ vw S 8 2 k - vw S 8 2 (cBes S k 1) then vw S 8 2 k - vw S 8 2 (cBes S k 1) else 0 - (vw S 8 2 k - vw S 8 2 (cBes S k 1))) = 0 := by
          unfold cSame2 at hq
          split <;> split <;> omega
        have hup := hq.2
        clear hq
        refine cz_st1 (l' := [(0, _), (1, _), (3, _), (4, _), (5, _), (6, _), (7, _), (8, _), (9, _), (10, _), (11, _), (12, _), (13, _)]) rfl rfl rfl ?_
        refine cz_aload rfl rfl ?_
        refine cz_iload rfl rfl ?_
        refine cz_iload rfl rfl ?_
        refine cz_icst rfl cc_1 ?_
        refine cz_icne rfl (by omega) (by omega) (fun hb184 => ?_) (fun hb184 => ?_)
        · exfalso; omega
        refine cz_icst rfl cc_1 ?_
        refine cz_goto rfl ?_
        refine cz_icst rfl cc_0 ?_
        refine cz_cV4P rfl rfl rfl cIs0 (Nat.le_of_ble_eq_true rfl) (q_ofPair hs1 hW hsz hk (by omega) (by omega)) ?_
        rw [hB]
        refine cz_st1 (l' := [(0, _), (1, _), (3, _), (4, _), (5, _), (6, _), (7, _), (8, _), (9, _), (10, _), (11, _), (12, _), (13, _), (14, _)]) rfl rfl rfl ?_
        refine cz_iload rfl rfl ?_
        refine cz_ifge rfl (by omega) (fun hb200 => ?_) (fun hb200 => ?_)
        rotate_left
        · exfalso; omega
        refine cz_iload rfl rfl ?_
        refine cz_aload rfl rfl ?_
        refine cz_iload rfl rfl ?_
        refine cz_icst rfl cc_0 ?_
        refine cz_cV3P rfl rfl rfl cIs0 (Nat.le_of_ble_eq_true rfl) (q_ofCell0 hs1 hW hbr) ?_
        refine cz_isub rfl ?_
        refine cz_abs rfl rfl (by omega) ?_
        refine cz_iload rfl rfl ?_
        refine cz_aload rfl rfl ?_
        refine cz_iload rfl rfl ?_
        refine cz_icst rfl cc_1 ?_
        refine cz_cV3P rfl rfl rfl cIs0 (Nat.le_of_ble_eq_true rfl) (q_ofCell1 hs1 hW hbr) ?_
        refine cz_isub rfl ?_
        refine cz_abs rfl rfl (by omega) ?_
        refine cz_iadd rfl ?_
        refine cz_st1 (l' := [(0, _), (1, _), (3, _), (4, _), (5, _), (6, _), (7, _), (8, _), (9, _), (10, _), (11, _), (12, _), (13, _), (14, _), (15, _)]) rfl rfl rfl ?_
        refine cz_iload rfl rfl ?_
        refine cz_ifne rfl (by omega) (fun hb242 => ?_) (fun hb242 => ?_)
        rotate_left
        · exfalso; omega
        refine cz_iload rfl rfl ?_
        refine cz_ifne rfl (by omega) (fun hb273 => ?_) (fun hb273 => ?_)
        · exfalso; omega
        refine cz_aload rfl rfl ?_
        refine cz_iload rfl rfl ?_
        refine cz_icst rfl cc_3 ?_
        refine cz_cV3P rfl rfl rfl cIs0 (Nat.le_of_ble_eq_true rfl) (q_ofCell3 hs1 hW hk) ?_
        refine cz_aload rfl rfl ?_
        refine cz_iload rfl rfl ?_
        refine cz_icst rfl cc_3 ?_
        refine cz_cV3P rfl rfl rfl cIs0 (Nat.le_of_ble_eq_true rfl) (q_ofCell3 hs1 hW hbr) ?_
        refine cz_iceq rfl (by omega) (by omega) (fun hb290 => ?_) (fun hb290 => ?_)
        · exfalso; omega
        refine cz_aload rfl rfl ?_
        refine cz_iload rfl rfl ?_
        refine cz_iload rfl rfl ?_
        refine cz_icst rfl cc_1 ?_
        refine cz_icne rfl (by omega) (by omega) (fun hb299 => ?_) (fun hb299 => ?_)
        · exfalso; omega
        refine cz_icst rfl cc_1 ?_
        refine cz_goto rfl ?_
        refine cz_icst rfl cc_1 ?_
        refine cz_cV4P rfl rfl rfl cIs0 (Nat.le_of_ble_eq_true rfl) (q_ofPair hs1 hW hsz hk (by omega) (by omega)) ?_
        rw [hB2]
        refine cz_icst rfl cc_1 ?_
        refine cz_icge rfl (by omega) (by omega) (fun hb312 => ?_) (fun hb312 => ?_)
        rotate_left
        · exfalso; omega
        refine cz_iload rfl rfl ?_
        refine cz_iload rfl rfl ?_
        refine cz_icst rfl cc_1 ?_
        refine cz_icne rfl (by omega) (by omega) (fun hb322 => ?_) (fun hb322 => ?_)
        · exfalso; omega
        refine cz_icst rfl cc_1 ?_
        refine cz_goto rfl ?_
        refine cz_iadd rfl ?_
        refine cz_st1 (l' := [(0, _), (1, _), (3, _), (4, _), (5, _), (6, _), (7, _), (8, _), (9, _), (10, _), (11, _), (12, _), (13, _), (14, _), (15, _)]) rfl rfl rfl ?_
        refine cz_iload rfl rfl ?_
        refine cz_iload rfl rfl ?_
        refine cz_icst rfl cc_2 ?_
        refine cz_icne rfl (by omega) (by omega) (fun hb338 => ?_) (fun hb338 => ?_)
        rotate_left
        · exfalso; omega
        refine cz_icst rfl cc_0 ?_
        refine cz_iadd rfl ?_
        refine cz_st1 (l' := [(0, _), (1, _), (3, _), (4, _), (5, _), (6, _), (7, _), (8, _), (9, _), (10, _), (11, _), (12, _), (13, _), (14, _), (15, _)]) rfl rfl rfl ?_
        refine cz_iload rfl rfl ?_
        refine cz_iload rfl rfl ?_
        refine cz_ifle rfl (by omega) (fun hb353 => ?_) (fun hb353 => ?_)
        · exfalso; omega
        refine cz_icst rfl cc_1 ?_
        refine cz_goto rfl ?_
        refine cz_iadd rfl ?_
        refine cz_st1 (l' := [(0, _), (1, _), (3, _), (4, _), (5, _), (6, _), (7, _), (8, _), (9, _), (10, _), (11, _), (12, _), (13, _), (14, _), (15, _)]) rfl rfl rfl ?_
        refine cz_iinc (l' := [(0, _), (1, _), (3, _), (4, _), (5, _), (6, _), (7, _), (8, _), (9, _), (10, _), (11, _), (12, _), (13, _), (14, _), (15, _)]) rfl cc_1 rfl rfl ?_
        refine cz_goto rfl ?_
        refine cz_weak (fun i => i == 0 || i == 1 || i == 3 || i == 4 || i == 5 || i == 6 || i == 7 || i == 8 || i == 9 || i == 10 || i == 11 || i == 12) (l' := [(0, _), (1, _), (3, _), (4, _), (5, _), (6, _), (7, _), (8, _), (9, _), (10, _), (11, _), (12, _)]) rfl ?_
        rw [bI_pos (P := S 2 (2 * k + 1) = 1) (by omega), bI_neg (P := S 2 (2 * k + 1) = 2) (by omega), bI_pos (P := ¬ S 2 (2 * k + 1) = 0) (by omega)] at k128
        exact k128
      · have hq := hq1 (by clear hq1 hq2; omega)
        clear hq1 hq2
        have hap : (if 0 ≤ vw S 8 1 k - vw S 8 1 (cBes S k 1) then vw S 8 1 k - vw S 8 1 (cBes S k 1) else 0 - (vw S 8 1 k - vw S 8 1 (cBes S k 1))) + (if 0 ≤ vw S 8 2 k - vw S 8 2 (cBes S k 1) then vw S 8 2 k - vw S 8 2 (cBes S k 1) else 0 - (vw S 8 2 k - vw S 8 2 (cBes S k 1))) = 0 := by
          unfold cSame2 at hq
          split <;> split <;> omega
        have hup := hq.2
        clear hq
        refine cz_st1 (l' := [(0, _), (1, _), (3, _), (4, _), (5, _), (6, _), (7, _), (8, _), (9, _), (10, _), (11, _), (12, _), (13, _)]) rfl rfl rfl ?_
        refine cz_aload rfl rfl ?_
        refine cz_iload rfl rfl ?_
        refine cz_iload rfl rfl ?_
        refine cz_icst rfl cc_1 ?_
        refine cz_icne rfl (by omega) (by omega) (fun hb184 => ?_) (fun hb184 => ?_)
        · exfalso; omega
        refine cz_icst rfl cc_1 ?_
        refine cz_goto rfl ?_
        refine cz_icst rfl cc_0 ?_
        refine cz_cV4P rfl rfl rfl cIs0 (Nat.le_of_ble_eq_true rfl) (q_ofPair hs1 hW hsz hk (by omega) (by omega)) ?_
        rw [hB]
        refine cz_st1 (l' := [(0, _), (1, _), (3, _), (4, _), (5, _), (6, _), (7, _), (8, _), (9, _), (10, _), (11, _), (12, _), (13, _), (14, _)]) rfl rfl rfl ?_
        refine cz_iload rfl rfl ?_
        refine cz_ifge rfl (by omega) (fun hb200 => ?_) (fun hb200 => ?_)
        rotate_left
        · exfalso; omega
        refine cz_iload rfl rfl ?_
        refine cz_aload rfl rfl ?_
        refine cz_iload rfl rfl ?_
        refine cz_icst rfl cc_0 ?_
        refine cz_cV3P rfl rfl rfl cIs0 (Nat.le_of_ble_eq_true rfl) (q_ofCell0 hs1 hW hbr) ?_
        refine cz_isub rfl ?_
        refine cz_abs rfl rfl (by omega) ?_
        refine cz_iload rfl rfl ?_
        refine cz_aload rfl rfl ?_
        refine cz_iload rfl rfl ?_
        refine cz_icst rfl cc_1 ?_
        refine cz_cV3P rfl rfl rfl cIs0 (Nat.le_of_ble_eq_true rfl) (q_ofCell1 hs1 hW hbr) ?_
        refine cz_isub rfl ?_
        refine cz_abs rfl rfl (by omega) ?_
        refine cz_iadd rfl ?_
        refine cz_st1 (l' := [(0, _), (1, _), (3, _), (4, _), (5, _), (6, _), (7, _), (8, _), (9, _), (10, _), (11, _), (12, _), (13, _), (14, _), (15, _)]) rfl rfl rfl ?_
        refine cz_iload rfl rfl ?_
        refine cz_ifne rfl (by omega) (fun hb242 => ?_) (fun hb242 => ?_)
        rotate_left
        · exfalso; omega
        refine cz_iload rfl rfl ?_
        refine cz_ifne rfl (by omega) (fun hb273 => ?_) (fun hb273 => ?_)
        · exfalso; omega
        refine cz_aload rfl rfl ?_
        refine cz_iload rfl rfl ?_
        refine cz_icst rfl cc_3 ?_
        refine cz_cV3P rfl rfl rfl cIs0 (Nat.le_of_ble_eq_true rfl) (q_ofCell3 hs1 hW hk) ?_
        refine cz_aload rfl rfl ?_
        refine cz_iload rfl rfl ?_
        refine cz_icst rfl cc_3 ?_
        refine cz_cV3P rfl rfl rfl cIs0 (Nat.le_of_ble_eq_true rfl) (q_ofCell3 hs1 hW hbr) ?_
        refine cz_iceq rfl (by omega) (by omega) (fun hb290 => ?_) (fun hb290 => ?_)
        · exfalso; omega
        refine cz_aload rfl rfl ?_
        refine cz_iload rfl rfl ?_
        refine cz_iload rfl rfl ?_
        refine cz_icst rfl cc_1 ?_
        refine cz_icne rfl (by omega) (by omega) (fun hb299 => ?_) (fun hb299 => ?_)
        · exfalso; omega
        refine cz_icst rfl cc_1 ?_
        refine cz_goto rfl ?_
        refine cz_icst rfl cc_1 ?_
        refine cz_cV4P rfl rfl rfl cIs0 (Nat.le_of_ble_eq_true rfl) (q_ofPair hs1 hW hsz hk (by omega) (by omega)) ?_
        rw [hB2]
        refine cz_icst rfl cc_1 ?_
        refine cz_icge rfl (by omega) (by omega) (fun hb312 => ?_) (fun hb312 => ?_)
        rotate_left
        · exfalso; omega
        refine cz_iload rfl rfl ?_
        refine cz_iload rfl rfl ?_
        refine cz_icst rfl cc_1 ?_
        refine cz_icne rfl (by omega) (by omega) (fun hb322 => ?_) (fun hb322 => ?_)
        rotate_left
        · exfalso; omega
        refine cz_icst rfl cc_0 ?_
        refine cz_iadd rfl ?_
        refine cz_st1 (l' := [(0, _), (1, _), (3, _), (4, _), (5, _), (6, _), (7, _), (8, _), (9, _), (10, _), (11, _), (12, _), (13, _), (14, _), (15, _)]) rfl rfl rfl ?_
        refine cz_iload rfl rfl ?_
        refine cz_iload rfl rfl ?_
        refine cz_icst rfl cc_2 ?_
        refine cz_icne rfl (by omega) (by omega) (fun hb338 => ?_) (fun hb338 => ?_)
        · exfalso; omega
        refine cz_icst rfl cc_1 ?_
        refine cz_goto rfl ?_
        refine cz_iadd rfl ?_
        refine cz_st1 (l' := [(0, _), (1, _), (3, _), (4, _), (5, _), (6, _), (7, _), (8, _), (9, _), (10, _), (11, _), (12, _), (13, _), (14, _), (15, _)]) rfl rfl rfl ?_
        refine cz_iload rfl rfl ?_
        refine cz_iload rfl rfl ?_
        refine cz_ifle rfl (by omega) (fun hb353 => ?_) (fun hb353 => ?_)
        · exfalso; omega
        refine cz_icst rfl cc_1 ?_
        refine cz_goto rfl ?_
        refine cz_iadd rfl ?_
        refine cz_st1 (l' := [(0, _), (1, _), (3, _), (4, _), (5, _), (6, _), (7, _), (8, _), (9, _), (10, _), (11, _), (12, _), (13, _), (14, _), (15, _)]) rfl rfl rfl ?_
        refine cz_iinc (l' := [(0, _), (1, _), (3, _), (4, _), (5, _), (6, _), (7, _), (8, _), (9, _), (10, _), (11, _), (12, _), (13, _), (14, _), (15, _)]) rfl cc_1 rfl rfl ?_
        refine cz_goto rfl ?_
        refine cz_weak (fun i => i == 0 || i == 1 || i == 3 || i == 4 || i == 5 || i == 6 || i == 7 || i == 8 || i == 9 || i == 10 || i == 11 || i == 12) (l' := [(0, _), (1, _), (3, _), (4, _), (5, _), (6, _), (7, _), (8, _), (9, _), (10, _), (11, _), (12, _)]) rfl ?_
        rw [bI_neg (P := S 2 (2 * k + 1) = 1) (by omega), bI_pos (P := S 2 (2 * k + 1) = 2) (by omega), bI_pos (P := ¬ S 2 (2 * k + 1) = 0) (by omega)] at k128
        exact k128
  clear hpo1 hop1 hop2
  refine cz_iload rfl rfl ?_
  refine cz_icst rfl cc_2 ?_
  refine cz_icge rfl (by omega) (by omega) (fun hb131 => ?_) (fun hb131 => ?_)
  · exfalso; omega
  refine cz_iload rfl rfl ?_
  refine cz_ifne rfl (by omega) (fun hb136 => ?_) (fun hb136 => ?_)
  rotate_left
  · exfalso; omega
  refine cz_iload rfl rfl ?_
  refine cz_iload rfl rfl ?_
  refine cz_iadd rfl ?_
  refine cz_iload rfl rfl ?_
  refine cz_icge rfl (by omega) (by omega) (fun hb165 => ?_) (fun hb165 => ?_)
  · skip
    refine cz_icst rfl cc_m1 ?_
    refine hmid _ ?_
    rw [hbe]
    first
    | rw [if_pos (by omega)]
    | rw [if_neg (by omega)]
  · skip
    refine cz_iload rfl rfl ?_
    refine cz_iload rfl rfl ?_
    refine cz_iadd rfl ?_
    refine cz_goto rfl ?_
    refine hmid _ ?_
    rw [hbe]
    first
    | rw [if_pos (by omega)]
    | rw [if_neg (by omega)]
