/-! The law: its helpers, its calls one by one -/
theorem cand_nn (x : Int32) : 0 ≤ (x &&& cI 2147483647).toInt := by
  have h : (x &&& cI 2147483647).toBitVec.msb = false := by
    rw [Int32.toBitVec_and, BitVec.msb_and]
    have : (cI 2147483647).toBitVec.msb = false := by decide
    rw [this, Bool.and_false]
  show 0 ≤ (x &&& cI 2147483647).toBitVec.toInt
  rw [BitVec.toInt_eq_msb_cond, h]
  simp
section CZL
variable {xs : Nat → Int32} {Ls d μ pc pc' tg : Nat} {l : zLoc} {st : List Value} {S : cS} {t : Nat} {Q : Option Value → cS → Nat → Prop}
theorem cz_slen (hc : z_code xs Ls μ pc = some (.inl (zS2 (fun st _ => zSlen Ls pc' st)))) (k : cZ xs Ls d μ pc' l (.int (cI Ls) :: st) S t Q) : cZ xs Ls d μ pc l (.retAddr 0 :: st) S t Q :=
  cz_s2 hc (fun h _ => by
    show some (pc', Value.int (Int32.ofNat Ls) :: st) = _
    have : cI (Ls : Int) = Int32.ofNat Ls := Int32.ofInt_eq_ofNat
    rw [this]) k
theorem cz_sld {e : Int} (hc : z_code xs Ls μ pc = some (.inl (zS2 (fun st _ => zSld xs Ls pc' st)))) (he : 0 ≤ e ∧ e < 1000) (hl : e < Ls) (k : cZ xs Ls d μ pc' l (.int (cI (xs e.toNat).toInt) :: st) S t Q) : cZ xs Ls d μ pc l (.int (cI e) :: .retAddr 0 :: st) S t Q :=
  cz_s2 hc (fun h _ => by
    show (if cI e < 0 ∨ Ls ≤ (cI e).toNatClampNeg then none else some (pc', Value.int (xs (cI e).toNatClampNeg) :: st)) = _
    have h1 := cI_nat2 (e := e) ⟨he.1, by omega⟩
    rw [if_neg, h1, cI_back]
    rw [← cI_zero, cI_lt ⟨by omega, by omega⟩ (by omega)]
    omega) k
theorem cz_ifne_z {x : Int32} (hc : z_code xs Ls μ pc = some (.inl (zS1 (zIf (fun x => decide (¬ x = 0)) tg pc')))) (hx : x = 0) (k : cZ xs Ls d μ pc' l st S t Q) : cZ xs Ls d μ pc l (.int x :: st) S t Q :=
  cz_if hc (fun h => absurd hx (of_decide_eq_true h)) (fun _ => k)
end CZL
theorem cInv.mono {S : cS} {M M' : Int} (h : cInv S M) (hM : M ≤ M') : cInv S M' := by
  obtain ⟨i1, i2, i3, i4, i5, i6, i7, i8⟩ := h
  refine ⟨i1, i2, i3, i4, i5, fun p p0 p1 => ?_, i7, i8⟩
  have g := i6 p p0 p1
  exact ⟨g.1, g.2.1, ⟨g.2.2.1.1, by omega⟩, g.2.2.2⟩
set_option maxRecDepth 20000 in
theorem p_below {xs : Nat → Int32} {Ls : Nat} {S : cS} {t : Nat} {v n : Int} (hn : 0 < n ∧ n < 1000) : cZ xs Ls 0 88 0 [(0, .int (cI v)), (1, .int (cI n))] [] S t (cQI (fun r S' t' => (0 ≤ r ∧ r < n) ∧ S' = S ∧ t' = t)) := by
  have hnn := cand_nn (cI v)
  have hr := cI_range (cI v &&& cI 2147483647)
  refine cz_iload rfl rfl ?_
  refine cz_icst rfl cc_2147483647 ?_
  refine cz_iany rfl ?_
  refine cz_iload rfl rfl ?_
  refine cz_irem rfl (by omega) (by omega) ?_
  refine cz_retI rfl ?_
  exact cQI.mk ⟨⟨Int.emod_nonneg _ (by omega), Int.emod_lt_of_pos _ (by omega)⟩, rfl, rfl⟩
set_option maxRecDepth 20000 in
theorem p_cell {xs : Nat → Int32} {Ls : Nat} {S : cS} {t : Nat} (hLs : Ls ≤ 260) {k : Int} (hk : 0 ≤ k ∧ k < 100) : cZ xs Ls 0 89 0 [(0, .retAddr 0), (1, .int (cI k))] [] S t (cQI (fun r S' t' => (-2147483648 ≤ r ∧ r < 2147483648) ∧ S' = S ∧ t' = t)) := by
  refine cz_iload rfl rfl ?_
  refine cz_sload rfl rfl ?_
  refine cz_slen rfl ?_
  refine cz_icge rfl (by omega) (by omega) (fun hb3 => ?_) (fun hb3 => ?_)
  · skip
    refine cz_icst rfl cc_790386105 ?_
    refine cz_iload rfl rfl ?_
    refine cz_icst rfl cc_3 ?_
    refine cz_iadd rfl ?_
    refine cz_imul rfl ?_
    refine cz_retI rfl ?_
    first
    | exact ⟨_, rfl, cI_range _, rfl, rfl⟩
    | exact ⟨(cI (790386105 * (k + 3))).toInt, by rw [cI_back], cI_range _, rfl, rfl⟩
  · skip
    refine cz_sload rfl rfl ?_
    refine cz_iload rfl rfl ?_
    refine cz_sld rfl (by omega) (by omega) ?_
    refine cz_goto rfl ?_
    refine cz_retI rfl ?_
    first
    | exact ⟨_, rfl, cI_range _, rfl, rfl⟩
    | exact ⟨(cI (790386105 * (k + 3))).toInt, by rw [cI_back], cI_range _, rfl, rfl⟩
set_option maxRecDepth 20000 in
theorem law_turn {xs : Nat → Int32} {Ls : Nat} {S : cS} {M : Int} {t : Nat} {Q : Option Value → cS → Nat → Prop} (h : cInv S M) (hM : M ≤ 800) {time x px py : Int} (k803 : ∀ S' : cS, cInv S' (M + 1) → S' 1 = S 1 → cZ xs Ls 7 90 803 [(0, .retAddr 0), (1, .ref 0), (2, .int (cI (S' 1 0))), (3, .int (cI (S' 1 1))), (4, .int (cI (csum (fun i => S' 4 i) (2 * S' 1 2).toNat))), (5, .int (cI (csum (fun i => S' 6 i) (S' 1 2).toNat))), (6, .int (cI time))] [] S' t Q) : cZ xs Ls 7 90 483 [(0, .retAddr 0), (1, .ref 0), (2, .int (cI (S 1 0))), (3, .int (cI (S 1 1))), (4, .int (cI (csum (fun i => S 4 i) (2 * S 1 2).toNat))), (5, .int (cI (csum (fun i => S 6 i) (S 1 2).toNat))), (6, .int (cI time)), (7, .int (cI x)), (8, .int (cI px)), (9, .int (cI py)), (10, .int (cI (S 0 5))), (11, .int (cI (csum (fun i => bI (S 5 i = 2)) (2 * S 1 2).toNat))), (12, .int (cI (csum (fun i => bI (S 5 i = 1)) (2 * S 1 2).toNat))), (13, .int (cI (S 0 6))), (14, .int (cI (S 0 7))), (15, .int (cI (cNa (vw S 8)))), (16, .int (cI (cNb (vw S 8))))] [] S t Q := by
  have hW := h.wd (by omega)
  obtain ⟨⟨hw, hsz⟩, ⟨hG, hGn⟩, hf, hpast, hpo, har, hed, hea⟩ := id h
  have hw' := id hw
  have hsh := hG.2.1
  have hr : cSm S S := fun _ _ => rfl
  clear hpast hpo har hed hea
  refine cz_aload rfl rfl ?_
  refine cz_cV1I rfl rfl rfl cIs0 (Nat.le_of_ble_eq_true rfl) (p_turn hW hG) (fun r484 S484 t484 hq484 => ?_)
  obtain ⟨ht484, hr484, hfr, hT⟩ := hq484
  subst hr484
  rw [ht484]
  have hI2 := cInv_turn h hfr hT
  have hW2 := hI2.wd (by omega)
  have hr2 : cSm S484 S484 := fun _ _ => rfl
  have hTn := cTurned_n hG hT
  refine cz_iload rfl rfl ?_
  refine cz_icne_same rfl (by rfl) ?_
  refine cz_aload rfl rfl ?_
  refine cz_icst rfl cc_13 ?_
  refine cz_cV2P rfl rfl rfl cIs0 (Nat.le_of_ble_eq_true rfl) (q_many13 hr2 hW2) ?_
  refine cz_iload rfl rfl ?_
  refine cz_iceq_same rfl (by exact hTn.2) ?_
  refine cz_weak (fun i => i == 0 || i == 1 || i == 2 || i == 3 || i == 4 || i == 5 || i == 6) (l' := [(0, _), (1, _), (2, _), (3, _), (4, _), (5, _), (6, _)]) rfl ?_
  have hfin := k803 S484 (hI2.mono (by omega)) (hfr 1 (by omega))
  rw [hfr 1 (by omega), hfr 4 (by omega), hfr 6 (by omega)] at hfin
  exact hfin
set_option maxRecDepth 20000 in
theorem law_round {xs : Nat → Int32} {Ls : Nat} {S : cS} {M : Int} {t : Nat} {Q : Option Value → cS → Nat → Prop} (h : cInv S M) (hM : M ≤ 800) {time x px py : Int} (k803 : ∀ S' : cS, cInv S' (M + 1) → S' 1 = S 1 → cZ xs Ls 7 90 803 [(0, .retAddr 0), (1, .ref 0), (2, .int (cI (S' 1 0))), (3, .int (cI (S' 1 1))), (4, .int (cI (csum (fun i => S' 4 i) (2 * S' 1 2).toNat))), (5, .int (cI (csum (fun i => S' 6 i) (S' 1 2).toNat))), (6, .int (cI time))] [] S' t Q) : cZ xs Ls 7 90 505 [(0, .retAddr 0), (1, .ref 0), (2, .int (cI (S 1 0))), (3, .int (cI (S 1 1))), (4, .int (cI (csum (fun i => S 4 i) (2 * S 1 2).toNat))), (5, .int (cI (csum (fun i => S 6 i) (S 1 2).toNat))), (6, .int (cI time)), (7, .int (cI x)), (8, .int (cI px)), (9, .int (cI py)), (10, .int (cI (S 0 5))), (11, .int (cI (csum (fun i => bI (S 5 i = 2)) (2 * S 1 2).toNat))), (12, .int (cI (csum (fun i => bI (S 5 i = 1)) (2 * S 1 2).toNat))), (13, .int (cI (S 0 6))), (14, .int (cI (S 0 7))), (15, .int (cI (cNa (vw S 8)))), (16, .int (cI (cNb (vw S 8))))] [] S t Q := by
  have hW := h.wd (by omega)
  obtain ⟨⟨hw, hsz⟩, ⟨hG, hGn⟩, hf, hpast, hpo, har, hed, hea⟩ := id h
  have hw' := id hw
  have hsh := hG.2.1
  have hr : cSm S S := fun _ _ => rfl
  clear hpast hpo har hed hea
  refine cz_aload rfl rfl ?_
  refine cz_aload rfl rfl ?_
  refine cz_icst rfl cc_2 ?_
  refine cz_cV2P rfl rfl rfl cIs0 (Nat.le_of_ble_eq_true rfl) (q_many2 hr hW) ?_
  refine cz_icst rfl cc_1 ?_
  refine cz_isub rfl ?_
  refine cz_aload rfl rfl ?_
  refine cz_icst rfl cc_3 ?_
  refine cz_cV2P rfl rfl rfl cIs0 (Nat.le_of_ble_eq_true rfl) (q_many3 hr hW) ?_
  refine cz_icst rfl cc_1 ?_
  refine cz_isub rfl ?_
  refine cz_icst rfl cc_1 ?_
  refine cz_cV4P rfl rfl rfl cIs0 (Nat.le_of_ble_eq_true rfl) (q_ofPlace1 hr hW ⟨by omega, by omega, by omega, by omega⟩) ?_
  refine cz_st1 (l' := [(0, _), (1, _), (2, _), (3, _), (4, _), (5, _), (6, _), (7, _), (8, _), (9, _), (10, _), (11, _), (12, _), (13, _), (14, _), (15, _), (16, _), (17, _)]) rfl rfl rfl ?_
  refine cz_aload rfl rfl ?_
  refine cz_cV1I rfl rfl rfl cIs0 (Nat.le_of_ble_eq_true rfl) (p_round hW hG) (fun r527 S527 t527 hq527 => ?_)
  obtain ⟨ht527, hr527, hfr, hT⟩ := hq527
  subst hr527
  rw [ht527]
  have hI2 := cInv_round h hfr hT
  have hW2 := hI2.wd (by omega)
  have hr2 : cSm S527 S527 := fun _ _ => rfl
  have hTn := cRounded_n hG hT
  refine cz_iload rfl rfl ?_
  refine cz_icne_same rfl (by rfl) ?_
  refine cz_aload rfl rfl ?_
  refine cz_icst rfl cc_12 ?_
  refine cz_cV2P rfl rfl rfl cIs0 (Nat.le_of_ble_eq_true rfl) (q_many12 hr2 hW2) ?_
  refine cz_iload rfl rfl ?_
  refine cz_icne_same rfl (by exact hTn.1) ?_
  refine cz_aload rfl rfl ?_
  refine cz_icst rfl cc_13 ?_
  refine cz_cV2P rfl rfl rfl cIs0 (Nat.le_of_ble_eq_true rfl) (q_many13 hr2 hW2) ?_
  refine cz_iload rfl rfl ?_
  refine cz_iceq_same rfl (by exact hTn.2) ?_
  refine cz_weak (fun i => i == 0 || i == 1 || i == 2 || i == 3 || i == 4 || i == 5 || i == 6) (l' := [(0, _), (1, _), (2, _), (3, _), (4, _), (5, _), (6, _)]) rfl ?_
  have hfin := k803 S527 (hI2.mono (by omega)) (hfr 1 (by omega))
  rw [hfr 1 (by omega), hfr 4 (by omega), hfr 6 (by omega)] at hfin
  exact hfin
set_option maxRecDepth 20000 in
theorem law_dry {xs : Nat → Int32} {Ls : Nat} {S : cS} {M : Int} {t : Nat} {Q : Option Value → cS → Nat → Prop} (h : cInv S M) (hM : M ≤ 800) {time x px py : Int} (k803 : ∀ S' : cS, cInv S' (M + 1) → S' 1 = S 1 → cZ xs Ls 7 90 803 [(0, .retAddr 0), (1, .ref 0), (2, .int (cI (S' 1 0))), (3, .int (cI (S' 1 1))), (4, .int (cI (csum (fun i => S' 4 i) (2 * S' 1 2).toNat))), (5, .int (cI (csum (fun i => S' 6 i) (S' 1 2).toNat))), (6, .int (cI time))] [] S' t Q) : cZ xs Ls 7 90 660 [(0, .retAddr 0), (1, .ref 0), (2, .int (cI (S 1 0))), (3, .int (cI (S 1 1))), (4, .int (cI (csum (fun i => S 4 i) (2 * S 1 2).toNat))), (5, .int (cI (csum (fun i => S 6 i) (S 1 2).toNat))), (6, .int (cI time)), (7, .int (cI x)), (8, .int (cI px)), (9, .int (cI py)), (10, .int (cI (S 0 5))), (11, .int (cI (csum (fun i => bI (S 5 i = 2)) (2 * S 1 2).toNat))), (12, .int (cI (csum (fun i => bI (S 5 i = 1)) (2 * S 1 2).toNat))), (13, .int (cI (S 0 6))), (14, .int (cI (S 0 7))), (15, .int (cI (cNa (vw S 8)))), (16, .int (cI (cNb (vw S 8))))] [] S t Q := by
  have hW := h.wd (by omega)
  obtain ⟨⟨hw, hsz⟩, ⟨hG, hGn⟩, hf, hpast, hpo, har, hed, hea⟩ := id h
  have hw' := id hw
  have hsh := hG.2.1
  have hr : cSm S S := fun _ _ => rfl
  have hh5 : ∀ p, 0 ≤ p → p < 64 → (0 ≤ S 5 p ∧ S 5 p ≤ 2) := fun p p0 p1 => (har p p0 p1).2.2.2.1
  clear hpast hpo har hed hea
  refine cz_aload rfl rfl ?_
  refine cz_cV1I rfl rfl rfl cIs0 (Nat.le_of_ble_eq_true rfl) (p_dry hW) (fun r661 S661 t661 hq661 => ?_)
  obtain ⟨hr661, ht661, hfr, hd5⟩ := hq661
  subst hr661
  rw [ht661]
  have hI2 : cInv S661 M := cInv_same h (by rw [hfr 0 (by omega)]) (fun a _ _ => hfr a (by omega)) (fun p p0 p1 => by have := hh5 p p0 p1; rw [hd5 p p0 p1]; split <;> omega) (fun a ha => hfr a (by omega))
  have hW2 := hI2.wd (by omega)
  have hr2 : cSm S661 S661 := fun _ _ => rfl
  have hd8 : csum (fun i => bI (S661 5 i = 2)) (2 * S661 1 2).toNat = 0 := by
    rw [hfr 1 (by omega)]
    refine csum_z _ (fun i i0 i1 => bI_neg ?_)
    rw [hd5 i i0 (by omega)]
    split <;> omega
  have hd9 : csum (fun i => bI (S661 5 i = 1)) (2 * S661 1 2).toNat = csum (fun i => bI (S 5 i = 1)) (2 * S 1 2).toNat + csum (fun i => bI (S 5 i = 2)) (2 * S 1 2).toNat := by
    rw [hfr 1 (by omega), ← csum_add]
    refine csum_cong _ (fun i i0 i1 => ?_)
    have := hh5 i i0 (by omega)
    rw [hd5 i i0 (by omega)]
    refine bI_two ?_ (by omega)
    split <;> omega
  refine cz_iload rfl rfl ?_
  refine cz_icne_same rfl (by exact cWn_eq S) ?_
  refine cz_aload rfl rfl ?_
  refine cz_icst rfl cc_8 ?_
  refine cz_cV2P rfl rfl rfl cIs0 (Nat.le_of_ble_eq_true rfl) (q_many8 hr2 hW2) ?_
  skip
  refine cz_ifne rfl (by rw [hd8]; omega) (fun hb675 => ?_) (fun hb675 => ?_)
  · exfalso; omega
  refine cz_aload rfl rfl ?_
  refine cz_icst rfl cc_9 ?_
  refine cz_cV2P rfl rfl rfl cIs0 (Nat.le_of_ble_eq_true rfl) (q_many9 hr2 hW2) ?_
  refine cz_iload rfl rfl ?_
  refine cz_iload rfl rfl ?_
  refine cz_iadd rfl ?_
  refine cz_iceq_same rfl (by rw [hd9]) ?_
  refine cz_weak (fun i => i == 0 || i == 1 || i == 2 || i == 3 || i == 4 || i == 5 || i == 6) (l' := [(0, _), (1, _), (2, _), (3, _), (4, _), (5, _), (6, _)]) rfl ?_
  have hfin := k803 S661 (hI2.mono (by omega)) (hfr 1 (by omega))
  rw [hfr 1 (by omega), hfr 4 (by omega), hfr 6 (by omega)] at hfin
  exact hfin
set_option maxRecDepth 20000 in
theorem law_punch {xs : Nat → Int32} {Ls : Nat} {S : cS} {M : Int} {t : Nat} {Q : Option Value → cS → Nat → Prop} (h : cInv S M) (hM : M ≤ 800) {time x px py : Int} (k803 : ∀ S' : cS, cInv S' (M + 1) → S' 1 = S 1 → cZ xs Ls 7 90 803 [(0, .retAddr 0), (1, .ref 0), (2, .int (cI (S' 1 0))), (3, .int (cI (S' 1 1))), (4, .int (cI (csum (fun i => S' 4 i) (2 * S' 1 2).toNat))), (5, .int (cI (csum (fun i => S' 6 i) (S' 1 2).toNat))), (6, .int (cI time))] [] S' t Q) (hxy : cHas (vw S 8) px py) : cZ xs Ls 7 90 694 [(0, .retAddr 0), (1, .ref 0), (2, .int (cI (S 1 0))), (3, .int (cI (S 1 1))), (4, .int (cI (csum (fun i => S 4 i) (2 * S 1 2).toNat))), (5, .int (cI (csum (fun i => S 6 i) (S 1 2).toNat))), (6, .int (cI time)), (7, .int (cI x)), (8, .int (cI px)), (9, .int (cI py)), (10, .int (cI (S 0 5))), (11, .int (cI (csum (fun i => bI (S 5 i = 2)) (2 * S 1 2).toNat))), (12, .int (cI (csum (fun i => bI (S 5 i = 1)) (2 * S 1 2).toNat))), (13, .int (cI (S 0 6))), (14, .int (cI (S 0 7))), (15, .int (cI (cNa (vw S 8)))), (16, .int (cI (cNb (vw S 8))))] [] S t Q := by
  have hW := h.wd (by omega)
  obtain ⟨⟨hw, hsz⟩, ⟨hG, hGn⟩, hf, hpast, hpo, har, hed, hea⟩ := id h
  have hw' := id hw
  have hsh := hG.2.1
  have hr : cSm S S := fun _ _ => rfl
  have hh5 : ∀ p, 0 ≤ p → p < 64 → (0 ≤ S 5 p ∧ S 5 p ≤ 2) := fun p p0 p1 => (har p p0 p1).2.2.2.1
  clear hpast hpo har hed hea
  refine cz_aload rfl rfl ?_
  refine cz_iload rfl rfl ?_
  refine cz_iload rfl rfl ?_
  refine cz_cV3I rfl rfl rfl cIs0 (Nat.le_of_ble_eq_true rfl) (p_punch hW hxy) (fun r699 S699 t699 hq699 => ?_)
  obtain ⟨ht699, hr699, hfr, hd6⟩ := hq699
  subst hr699
  rw [ht699]
  have hI2 : cInv S699 M := cInv_same h (by rw [hfr 0 (by omega)]) (fun a _ _ => hfr a (by omega)) (by rw [hfr 5 (by omega)]; exact hh5) (fun a ha => hfr a (by omega))
  have hW2 := hI2.wd (by omega)
  have hr2 : cSm S699 S699 := fun _ _ => rfl
  have e8 : vw S699 8 = vw S 8 := vw_eq fun a _ _ => hfr a (by omega)
  have hd10 : csum (fun i => S699 6 i) (S 1 2).toNat = csum (fun i => S 6 i) (S 1 2).toNat + cHt (vw S 8) px py := by
    have hct := hG.ht px py
    unfold cCt at hct
    rw [hGn] at hct
    rw [hct, ← csum_add]
    exact csum_cong _ (fun i i0 i1 => hd6 i i0 (by omega))
  refine cz_st1 (l' := [(0, _), (1, _), (2, _), (3, _), (4, _), (5, _), (6, _), (7, _), (8, _), (9, _), (10, _), (11, _), (12, _), (13, _), (14, _), (15, _), (16, _), (17, _)]) rfl rfl rfl ?_
  refine cz_iload rfl rfl ?_
  refine cz_iload rfl rfl ?_
  refine cz_iadd rfl ?_
  refine cz_st1 (l' := [(0, _), (1, _), (2, _), (3, _), (4, _), (5, _), (6, _), (7, _), (8, _), (9, _), (10, _), (11, _), (12, _), (13, _), (14, _), (15, _), (16, _), (17, _)]) rfl rfl rfl ?_
  refine cz_iload rfl rfl ?_
  refine cz_aload rfl rfl ?_
  refine cz_iload rfl rfl ?_
  refine cz_iload rfl rfl ?_
  refine cz_icst rfl cc_0 ?_
  refine cz_cV4P rfl rfl rfl cIs0 (Nat.le_of_ble_eq_true rfl) (q_ofPlace0 hr2 hW2 (by rw [e8]; exact hxy)) ?_
  refine cz_iceq_same rfl (by rw [e8]) ?_
  refine cz_weak (fun i => i == 0 || i == 1 || i == 2 || i == 3 || i == 4 || i == 5 || i == 6) (l' := [(0, _), (1, _), (2, _), (3, _), (4, _), (5, _), (6, _)]) rfl ?_
  have hfin := k803 S699 (hI2.mono (by omega)) (hfr 1 (by omega))
  rw [hfr 1 (by omega), hfr 4 (by omega), hd10] at hfin
  exact hfin
set_option maxRecDepth 20000 in
theorem law_glue {xs : Nat → Int32} {Ls : Nat} {S : cS} {M : Int} {t : Nat} {Q : Option Value → cS → Nat → Prop} (h : cInv S M) (hM : M ≤ 800) {time x px py : Int} (k803 : ∀ S' : cS, cInv S' (M + 1) → S' 1 = S 1 → cZ xs Ls 7 90 803 [(0, .retAddr 0), (1, .ref 0), (2, .int (cI (S' 1 0))), (3, .int (cI (S' 1 1))), (4, .int (cI (csum (fun i => S' 4 i) (2 * S' 1 2).toNat))), (5, .int (cI (csum (fun i => S' 6 i) (S' 1 2).toNat))), (6, .int (cI time))] [] S' t Q) (hxy : cHas (vw S 8) px py) : cZ xs Ls 7 90 727 [(0, .retAddr 0), (1, .ref 0), (2, .int (cI (S 1 0))), (3, .int (cI (S 1 1))), (4, .int (cI (csum (fun i => S 4 i) (2 * S 1 2).toNat))), (5, .int (cI (csum (fun i => S 6 i) (S 1 2).toNat))), (6, .int (cI time)), (7, .int (cI x)), (8, .int (cI px)), (9, .int (cI py)), (10, .int (cI (S 0 5))), (11, .int (cI (csum (fun i => bI (S 5 i = 2)) (2 * S 1 2).toNat))), (12, .int (cI (csum (fun i => bI (S 5 i = 1)) (2 * S 1 2).toNat))), (13, .int (cI (S 0 6))), (14, .int (cI (S 0 7))), (15, .int (cI (cNa (vw S 8)))), (16, .int (cI (cNb (vw S 8))))] [] S t Q := by
  have hW := h.wd (by omega)
  obtain ⟨⟨hw, hsz⟩, ⟨hG, hGn⟩, hf, hpast, hpo, har, hed, hea⟩ := id h
  have hw' := id hw
  have hsh := hG.2.1
  have hr : cSm S S := fun _ _ => rfl
  have hh5 : ∀ p, 0 ≤ p → p < 64 → (0 ≤ S 5 p ∧ S 5 p ≤ 2) := fun p p0 p1 => (har p p0 p1).2.2.2.1
  clear hpast hpo har hed hea
  refine cz_iload rfl rfl ?_
  refine cz_icst rfl cc_6 ?_
  refine cz_iany rfl ?_
  refine cz_icst rfl cc_3 ?_
  refine cz_cS2I rfl rfl rfl rfl (Nat.le_of_ble_eq_true rfl) (p_below (by omega)) (fun r733 S733 t733 hq733 => ?_)
  obtain ⟨hr733, hS733, ht733⟩ := hq733
  rw [hS733, ht733]
  refine cz_ifle rfl (by omega) (fun hb736 => ?_) (fun hb736 => ?_)
  · skip
    refine cz_aload rfl rfl ?_
    refine cz_iload rfl rfl ?_
    refine cz_iload rfl rfl ?_
    refine cz_icst rfl cc_6 ?_
    refine cz_cV4P rfl rfl rfl cIs0 (Nat.le_of_ble_eq_true rfl) (q_ofPlace6 hr hW hxy) ?_
    refine cz_st1 (l' := [(0, _), (1, _), (2, _), (3, _), (4, _), (5, _), (6, _), (7, _), (8, _), (9, _), (10, _), (11, _), (12, _), (13, _), (14, _), (15, _), (16, _), (17, _)]) rfl rfl rfl ?_
    refine cz_aload rfl rfl ?_
    refine cz_iload rfl rfl ?_
    refine cz_iload rfl rfl ?_
    refine cz_cV3I rfl rfl rfl cIs0 (Nat.le_of_ble_eq_true rfl) (p_glue hW hG hxy) (fun r759 S759 t759 hq759 => ?_)
    obtain ⟨ht759, hr759, hfr, hd7⟩ := hq759
    rw [ht759]
    have hI2 : cInv S759 M := cInv_same h (by rw [hfr 0 (by omega)]) (fun a _ _ => hfr a (by omega)) (by rw [hfr 5 (by omega)]; exact hh5) (fun a ha => hfr a (by omega))
    have hW2 := hI2.wd (by omega)
    have hr2 : cSm S759 S759 := fun _ _ => rfl
    have e8 : vw S759 8 = vw S 8 := vw_eq fun a _ _ => hfr a (by omega)
    have hh1 := hG.2.2.2.2.2.2.1 px py hxy
    have hg2 : csum (cGlu S759 px py) (cHt (vw S759 8) px py - 1).toNat = cHt (vw S 8) px py - 1 := by
      rw [e8]
      have h1 : csum (cGlu S759 px py) (cHt (vw S 8) px py - 1).toNat = csum (fun _ => 1) (cHt (vw S 8) px py - 1).toNat := csum_cong _ (fun j j0 j1 => hd7 j j0 (by omega))
      have h2 : ∀ n : Nat, csum (fun _ => (1 : Int)) n = n := by
        intro n
        induction n with
        | zero => rfl
        | succ n ih => unfold csum; rw [ih]; omega
      rw [h1, h2]
      omega
    refine cz_st1 (l' := [(0, _), (1, _), (2, _), (3, _), (4, _), (5, _), (6, _), (7, _), (8, _), (9, _), (10, _), (11, _), (12, _), (13, _), (14, _), (15, _), (16, _), (17, _), (18, _)]) rfl rfl rfl ?_
    refine cz_iload rfl rfl ?_
    refine cz_iload rfl rfl ?_
    refine cz_iadd rfl ?_
    refine cz_aload rfl rfl ?_
    refine cz_iload rfl rfl ?_
    refine cz_iload rfl rfl ?_
    refine cz_icst rfl cc_0 ?_
    refine cz_cV4P rfl rfl rfl cIs0 (Nat.le_of_ble_eq_true rfl) (q_ofPlace0 hr2 hW2 (by rw [e8]; exact hxy)) ?_
    refine cz_icst rfl cc_1 ?_
    refine cz_isub rfl ?_
    refine cz_icne_same rfl (by rw [e8, hr759]; omega) ?_
    refine cz_aload rfl rfl ?_
    refine cz_iload rfl rfl ?_
    refine cz_iload rfl rfl ?_
    refine cz_icst rfl cc_6 ?_
    refine cz_cV4P rfl rfl rfl cIs0 (Nat.le_of_ble_eq_true rfl) (q_ofPlace6 hr2 hW2 (by rw [e8]; exact hxy)) ?_
    refine cz_iload rfl rfl ?_
    refine cz_iload rfl rfl ?_
    refine cz_iadd rfl ?_
    refine cz_iceq_same rfl (by rw [hg2, hr759]; omega) ?_
    refine cz_weak (fun i => i == 0 || i == 1 || i == 2 || i == 3 || i == 4 || i == 5 || i == 6) (l' := [(0, _), (1, _), (2, _), (3, _), (4, _), (5, _), (6, _)]) rfl ?_
    first
    | (have hfin := k803 S759 (hI2.mono (by omega)) (hfr 1 (by omega))
       rw [hfr 1 (by omega), hfr 4 (by omega), hfr 6 (by omega)] at hfin
       exact hfin)
    | exact k803 S (h.mono (by omega)) rfl
  · skip
    refine cz_goto rfl ?_
    refine cz_weak (fun i => i == 0 || i == 1 || i == 2 || i == 3 || i == 4 || i == 5 || i == 6) (l' := [(0, _), (1, _), (2, _), (3, _), (4, _), (5, _), (6, _)]) rfl ?_
    first
    | (have hfin := k803 S759 (hI2.mono (by omega)) (hfr 1 (by omega))
       rw [hfr 1 (by omega), hfr 4 (by omega), hfr 6 (by omega)] at hfin
       exact hfin)
    | exact k803 S (h.mono (by omega)) rfl
set_option maxRecDepth 20000 in
theorem law_ink {xs : Nat → Int32} {Ls : Nat} {S : cS} {M : Int} {t : Nat} {Q : Option Value → cS → Nat → Prop} (h : cInv S M) (hM : M ≤ 800) {time x px py : Int} (k803 : ∀ S' : cS, cInv S' (M + 1) → S' 1 = S 1 → cZ xs Ls 7 90 803 [(0, .retAddr 0), (1, .ref 0), (2, .int (cI (S' 1 0))), (3, .int (cI (S' 1 1))), (4, .int (cI (csum (fun i => S' 4 i) (2 * S' 1 2).toNat))), (5, .int (cI (csum (fun i => S' 6 i) (S' 1 2).toNat))), (6, .int (cI time))] [] S' t Q) (hxy : cHas (vw S 8) px py) : cZ xs Ls 7 90 559 [(0, .retAddr 0), (1, .ref 0), (2, .int (cI (S 1 0))), (3, .int (cI (S 1 1))), (4, .int (cI (csum (fun i => S 4 i) (2 * S 1 2).toNat))), (5, .int (cI (csum (fun i => S 6 i) (S 1 2).toNat))), (6, .int (cI time)), (7, .int (cI x)), (8, .int (cI px)), (9, .int (cI py)), (10, .int (cI (S 0 5))), (11, .int (cI (csum (fun i => bI (S 5 i = 2)) (2 * S 1 2).toNat))), (12, .int (cI (csum (fun i => bI (S 5 i = 1)) (2 * S 1 2).toNat))), (13, .int (cI (S 0 6))), (14, .int (cI (S 0 7))), (15, .int (cI (cNa (vw S 8)))), (16, .int (cI (cNb (vw S 8))))] [] S t Q := by
  have hW := h.wd (by omega)
  obtain ⟨⟨hw, hsz⟩, ⟨hG, hGn⟩, hf, hpast, hpo, har, hed, hea⟩ := id h
  have hw' := id hw
  have hsh := hG.2.1
  have hr : cSm S S := fun _ _ => rfl
  have hh5 : ∀ p, 0 ≤ p → p < 64 → (0 ≤ S 5 p ∧ S 5 p ≤ 2) := fun p p0 p1 => (har p p0 p1).2.2.2.1
  clear hpast hpo har hed hea
  have hh1 := hG.2.2.2.2.2.2.1 px py hxy
  obtain ⟨a1, a2, a3, a4⟩ := hG.at hxy (l := cHt (vw S 8) px py - 1) (by omega) (by omega)
  have hcr : 0 ≤ cTop (vw S 8) px py ∧ cTop (vw S 8) px py < S 1 2 := ⟨a1, by rw [← hGn]; exact a2⟩
  have hi0 := hh5 (2 * cTop (vw S 8) px py + 0) (by omega) (by omega)
  have hi1 := hh5 (2 * cTop (vw S 8) px py + 1) (by omega) (by omega)
  by_cases hup : cUp (vw S 8) (cTop (vw S 8) px py)
  · have hub : bI (cUp (vw S 8) (cTop (vw S 8) px py)) = 1 := bI_pos hup
    have hcos : cOs (vw S 8) (cTop (vw S 8) px py) 1 = 2 * cTop (vw S 8) px py + 1 := by unfold cOs; rw [bI_pos hub]
    clear hup a1 a2 a3 a4
    by_cases hwas : S 5 (2 * cTop (vw S 8) px py + 1) = 2
    · skip
      refine cz_aload rfl rfl ?_
      refine cz_iload rfl rfl ?_
      refine cz_iload rfl rfl ?_
      refine cz_icst rfl cc_1 ?_
      refine cz_cV4P rfl rfl rfl cIs0 (Nat.le_of_ble_eq_true rfl) (q_ofPlace1 hr hW hxy) ?_
      refine cz_st1 (l' := [(0, _), (1, _), (2, _), (3, _), (4, _), (5, _), (6, _), (7, _), (8, _), (9, _), (10, _), (11, _), (12, _), (13, _), (14, _), (15, _), (16, _), (17, _)]) rfl rfl rfl ?_
      refine cz_aload rfl rfl ?_
      refine cz_iload rfl rfl ?_
      refine cz_iload rfl rfl ?_
      refine cz_icst rfl cc_2 ?_
      refine cz_cV4P rfl rfl rfl cIs0 (Nat.le_of_ble_eq_true rfl) (q_ofPlace2 hr hW hxy) ?_
      refine cz_icst rfl cc_1 ?_
      refine cz_icne rfl (by exact ⟨by omega, by omega⟩) (by exact ⟨by omega, by omega⟩) (fun hb580 => ?_) (fun hb580 => ?_)
      · exfalso; omega
      refine cz_icst rfl cc_5 ?_
      refine cz_goto rfl ?_
      refine cz_st1 (l' := [(0, _), (1, _), (2, _), (3, _), (4, _), (5, _), (6, _), (7, _), (8, _), (9, _), (10, _), (11, _), (12, _), (13, _), (14, _), (15, _), (16, _), (17, _), (18, _)]) rfl rfl rfl ?_
      refine cz_aload rfl rfl ?_
      refine cz_iload rfl rfl ?_
      refine cz_iload rfl rfl ?_
      refine cz_cV3P rfl rfl rfl cIs0 (Nat.le_of_ble_eq_true rfl) (q_ofCell (w := 5) hr hW hcr (by omega)) ?_
      rw [show cOC S (cTop (vw S 8) px py) 5 = S 5 (2 * cTop (vw S 8) px py + 1) from rfl]
      refine cz_st1 (l' := [(0, _), (1, _), (2, _), (3, _), (4, _), (5, _), (6, _), (7, _), (8, _), (9, _), (10, _), (11, _), (12, _), (13, _), (14, _), (15, _), (16, _), (17, _), (18, _), (19, _)]) rfl rfl rfl ?_
      refine cz_aload rfl rfl ?_
      refine cz_iload rfl rfl ?_
      refine cz_iload rfl rfl ?_
      refine cz_cV3I rfl rfl rfl cIs0 (Nat.le_of_ble_eq_true rfl) (p_ink hW hxy) (fun r606 S606 t606 hq606 => ?_)
      obtain ⟨ht606, hr606, hS606⟩ := hq606
      rw [ht606]
      rw [hcos] at hr606 hS606
      have hdry : ¬ cDry S (2 * cTop (vw S 8) px py + 1) := fun hh => hh.2.2 hwas
      rw [bI_neg hdry] at hr606
      rw [if_neg hdry] at hS606
      have hfr : ∀ a, ¬ a = 5 → S606 a = S a := fun a ha => by rw [hS606]
      have e1 : S606 1 = S 1 := hfr 1 (by omega)
      have h5n : S606 5 (2 * cTop (vw S 8) px py + 1) = 2 := by rw [hS606]; exact hwas
      have hI2 : cInv S606 M := cInv_same h (by rw [hfr 0 (by omega)]) (fun a _ _ => hfr a (by omega)) (by
        intro p p0 p1
        have := hh5 p p0 p1
        rw [hS606]
        exact this) (fun a ha => hfr a (by omega))
      have hW2 := hI2.wd (by omega)
      have hr2 : cSm S606 S606 := fun _ _ => rfl
      have hwn : csum (fun i => bI (S606 5 i = 2)) (2 * S606 1 2).toNat = csum (fun i => bI (S 5 i = 2)) (2 * S 1 2).toNat + 0 := by
        rw [← cWn_eq, ← cWn_eq, hS606]
        omega
      refine cz_iload rfl rfl ?_
      refine cz_icst rfl cc_2 ?_
      refine cz_icge rfl (by omega) (by omega) (fun hb612 => ?_) (fun hb612 => ?_)
      rotate_left
      · exfalso; omega
      refine cz_icst rfl cc_0 ?_
      refine cz_icne rfl (by omega) (by omega) (fun hb620 => ?_) (fun hb620 => ?_)
      · exfalso; omega
      refine cz_aload rfl rfl ?_
      refine cz_iload rfl rfl ?_
      refine cz_iload rfl rfl ?_
      refine cz_cV3P rfl rfl rfl cIs0 (Nat.le_of_ble_eq_true rfl) (q_ofCell (w := 5) hr2 hW2 (by rw [e1]; exact hcr) (by omega)) ?_
      refine cz_icst rfl cc_2 ?_
      refine cz_icne_same rfl (by exact h5n) ?_
      refine cz_aload rfl rfl ?_
      refine cz_icst rfl cc_8 ?_
      refine cz_cV2P rfl rfl rfl cIs0 (Nat.le_of_ble_eq_true rfl) (q_many8 hr2 hW2) ?_
      refine cz_iload rfl rfl ?_
      refine cz_iload rfl rfl ?_
      refine cz_icst rfl cc_2 ?_
      refine cz_icge rfl (by omega) (by omega) (fun hb646 => ?_) (fun hb646 => ?_)
      rotate_left
      · exfalso; omega
      refine cz_icst rfl cc_0 ?_
      refine cz_iadd rfl ?_
      refine cz_iceq_same rfl (by rw [hwn]) ?_
      refine cz_weak (fun i => i == 0 || i == 1 || i == 2 || i == 3 || i == 4 || i == 5 || i == 6) (l' := [(0, _), (1, _), (2, _), (3, _), (4, _), (5, _), (6, _)]) rfl ?_
      have hfin := k803 S606 (hI2.mono (by omega)) e1
      rw [e1, hfr 4 (by omega), hfr 6 (by omega)] at hfin
      exact hfin
    · skip
      refine cz_aload rfl rfl ?_
      refine cz_iload rfl rfl ?_
      refine cz_iload rfl rfl ?_
      refine cz_icst rfl cc_1 ?_
      refine cz_cV4P rfl rfl rfl cIs0 (Nat.le_of_ble_eq_true rfl) (q_ofPlace1 hr hW hxy) ?_
      refine cz_st1 (l' := [(0, _), (1, _), (2, _), (3, _), (4, _), (5, _), (6, _), (7, _), (8, _), (9, _), (10, _), (11, _), (12, _), (13, _), (14, _), (15, _), (16, _), (17, _)]) rfl rfl rfl ?_
      refine cz_aload rfl rfl ?_
      refine cz_iload rfl rfl ?_
      refine cz_iload rfl rfl ?_
      refine cz_icst rfl cc_2 ?_
      refine cz_cV4P rfl rfl rfl cIs0 (Nat.le_of_ble_eq_true rfl) (q_ofPlace2 hr hW hxy) ?_
      refine cz_icst rfl cc_1 ?_
      refine cz_icne rfl (by exact ⟨by omega, by omega⟩) (by exact ⟨by omega, by omega⟩) (fun hb580 => ?_) (fun hb580 => ?_)
      · exfalso; omega
      refine cz_icst rfl cc_5 ?_
      refine cz_goto rfl ?_
      refine cz_st1 (l' := [(0, _), (1, _), (2, _), (3, _), (4, _), (5, _), (6, _), (7, _), (8, _), (9, _), (10, _), (11, _), (12, _), (13, _), (14, _), (15, _), (16, _), (17, _), (18, _)]) rfl rfl rfl ?_
      refine cz_aload rfl rfl ?_
      refine cz_iload rfl rfl ?_
      refine cz_iload rfl rfl ?_
      refine cz_cV3P rfl rfl rfl cIs0 (Nat.le_of_ble_eq_true rfl) (q_ofCell (w := 5) hr hW hcr (by omega)) ?_
      rw [show cOC S (cTop (vw S 8) px py) 5 = S 5 (2 * cTop (vw S 8) px py + 1) from rfl]
      refine cz_st1 (l' := [(0, _), (1, _), (2, _), (3, _), (4, _), (5, _), (6, _), (7, _), (8, _), (9, _), (10, _), (11, _), (12, _), (13, _), (14, _), (15, _), (16, _), (17, _), (18, _), (19, _)]) rfl rfl rfl ?_
      refine cz_aload rfl rfl ?_
      refine cz_iload rfl rfl ?_
      refine cz_iload rfl rfl ?_
      refine cz_cV3I rfl rfl rfl cIs0 (Nat.le_of_ble_eq_true rfl) (p_ink hW hxy) (fun r606 S606 t606 hq606 => ?_)
      obtain ⟨ht606, hr606, hS606⟩ := hq606
      rw [ht606]
      rw [hcos] at hr606 hS606
      have hdry : cDry S (2 * cTop (vw S 8) px py + 1) := ⟨by omega, by omega, hwas⟩
      rw [bI_pos hdry] at hr606
      rw [if_pos hdry] at hS606
      have hfr : ∀ a, ¬ a = 5 → S606 a = S a := fun a ha => by rw [hS606]; exact setS_o ha
      have e1 : S606 1 = S 1 := hfr 1 (by omega)
      have h5n : S606 5 (2 * cTop (vw S 8) px py + 1) = 2 := by rw [hS606]; exact setS_e
      have hI2 : cInv S606 M := cInv_same h (by rw [hfr 0 (by omega)]) (fun a _ _ => hfr a (by omega)) (by
        intro p p0 p1
        have := hh5 p p0 p1
        rw [hS606]
        rw [setS_at]; split <;> omega) (fun a ha => hfr a (by omega))
      have hW2 := hI2.wd (by omega)
      have hr2 : cSm S606 S606 := fun _ _ => rfl
      have hwn : csum (fun i => bI (S606 5 i = 2)) (2 * S606 1 2).toNat = csum (fun i => bI (S 5 i = 2)) (2 * S 1 2).toNat + 1 := by
        rw [← cWn_eq, ← cWn_eq, hS606]
        exact cWn_set hdry
      refine cz_iload rfl rfl ?_
      refine cz_icst rfl cc_2 ?_
      refine cz_icge rfl (by omega) (by omega) (fun hb612 => ?_) (fun hb612 => ?_)
      · exfalso; omega
      refine cz_icst rfl cc_1 ?_
      refine cz_goto rfl ?_
      refine cz_icne rfl (by omega) (by omega) (fun hb620 => ?_) (fun hb620 => ?_)
      · exfalso; omega
      refine cz_aload rfl rfl ?_
      refine cz_iload rfl rfl ?_
      refine cz_iload rfl rfl ?_
      refine cz_cV3P rfl rfl rfl cIs0 (Nat.le_of_ble_eq_true rfl) (q_ofCell (w := 5) hr2 hW2 (by rw [e1]; exact hcr) (by omega)) ?_
      refine cz_icst rfl cc_2 ?_
      refine cz_icne_same rfl (by exact h5n) ?_
      refine cz_aload rfl rfl ?_
      refine cz_icst rfl cc_8 ?_
      refine cz_cV2P rfl rfl rfl cIs0 (Nat.le_of_ble_eq_true rfl) (q_many8 hr2 hW2) ?_
      refine cz_iload rfl rfl ?_
      refine cz_iload rfl rfl ?_
      refine cz_icst rfl cc_2 ?_
      refine cz_icge rfl (by omega) (by omega) (fun hb646 => ?_) (fun hb646 => ?_)
      · exfalso; omega
      refine cz_icst rfl cc_1 ?_
      refine cz_goto rfl ?_
      refine cz_iadd rfl ?_
      refine cz_iceq_same rfl (by rw [hwn]) ?_
      refine cz_weak (fun i => i == 0 || i == 1 || i == 2 || i == 3 || i == 4 || i == 5 || i == 6) (l' := [(0, _), (1, _), (2, _), (3, _), (4, _), (5, _), (6, _)]) rfl ?_
      have hfin := k803 S606 (hI2.mono (by omega)) e1
      rw [e1, hfr 4 (by omega), hfr 6 (by omega)] at hfin
      exact hfin
  · have hub : bI (cUp (vw S 8) (cTop (vw S 8) px py)) = 0 := bI_neg hup
    have hcos : cOs (vw S 8) (cTop (vw S 8) px py) 1 = 2 * cTop (vw S 8) px py + 0 := by unfold cOs; rw [bI_neg (by rw [hub]; omega)]
    clear hup a1 a2 a3 a4
    by_cases hwas : S 5 (2 * cTop (vw S 8) px py + 0) = 2
    · skip
      refine cz_aload rfl rfl ?_
      refine cz_iload rfl rfl ?_
      refine cz_iload rfl rfl ?_
      refine cz_icst rfl cc_1 ?_
      refine cz_cV4P rfl rfl rfl cIs0 (Nat.le_of_ble_eq_true rfl) (q_ofPlace1 hr hW hxy) ?_
      refine cz_st1 (l' := [(0, _), (1, _), (2, _), (3, _), (4, _), (5, _), (6, _), (7, _), (8, _), (9, _), (10, _), (11, _), (12, _), (13, _), (14, _), (15, _), (16, _), (17, _)]) rfl rfl rfl ?_
      refine cz_aload rfl rfl ?_
      refine cz_iload rfl rfl ?_
      refine cz_iload rfl rfl ?_
      refine cz_icst rfl cc_2 ?_
      refine cz_cV4P rfl rfl rfl cIs0 (Nat.le_of_ble_eq_true rfl) (q_ofPlace2 hr hW hxy) ?_
      refine cz_icst rfl cc_1 ?_
      refine cz_icne rfl (by exact ⟨by omega, by omega⟩) (by exact ⟨by omega, by omega⟩) (fun hb580 => ?_) (fun hb580 => ?_)
      rotate_left
      · exfalso; omega
      refine cz_icst rfl cc_6 ?_
      refine cz_st1 (l' := [(0, _), (1, _), (2, _), (3, _), (4, _), (5, _), (6, _), (7, _), (8, _), (9, _), (10, _), (11, _), (12, _), (13, _), (14, _), (15, _), (16, _), (17, _), (18, _)]) rfl rfl rfl ?_
      refine cz_aload rfl rfl ?_
      refine cz_iload rfl rfl ?_
      refine cz_iload rfl rfl ?_
      refine cz_cV3P rfl rfl rfl cIs0 (Nat.le_of_ble_eq_true rfl) (q_ofCell (w := 6) hr hW hcr (by omega)) ?_
      rw [show cOC S (cTop (vw S 8) px py) 6 = S 5 (2 * cTop (vw S 8) px py + 0) from rfl]
      refine cz_st1 (l' := [(0, _), (1, _), (2, _), (3, _), (4, _), (5, _), (6, _), (7, _), (8, _), (9, _), (10, _), (11, _), (12, _), (13, _), (14, _), (15, _), (16, _), (17, _), (18, _), (19, _)]) rfl rfl rfl ?_
      refine cz_aload rfl rfl ?_
      refine cz_iload rfl rfl ?_
      refine cz_iload rfl rfl ?_
      refine cz_cV3I rfl rfl rfl cIs0 (Nat.le_of_ble_eq_true rfl) (p_ink hW hxy) (fun r606 S606 t606 hq606 => ?_)
      obtain ⟨ht606, hr606, hS606⟩ := hq606
      rw [ht606]
      rw [hcos] at hr606 hS606
      have hdry : ¬ cDry S (2 * cTop (vw S 8) px py + 0) := fun hh => hh.2.2 hwas
      rw [bI_neg hdry] at hr606
      rw [if_neg hdry] at hS606
      have hfr : ∀ a, ¬ a = 5 → S606 a = S a := fun a ha => by rw [hS606]
      have e1 : S606 1 = S 1 := hfr 1 (by omega)
      have h5n : S606 5 (2 * cTop (vw S 8) px py + 0) = 2 := by rw [hS606]; exact hwas
      have hI2 : cInv S606 M := cInv_same h (by rw [hfr 0 (by omega)]) (fun a _ _ => hfr a (by omega)) (by
        intro p p0 p1
        have := hh5 p p0 p1
        rw [hS606]
        exact this) (fun a ha => hfr a (by omega))
      have hW2 := hI2.wd (by omega)
      have hr2 : cSm S606 S606 := fun _ _ => rfl
      have hwn : csum (fun i => bI (S606 5 i = 2)) (2 * S606 1 2).toNat = csum (fun i => bI (S 5 i = 2)) (2 * S 1 2).toNat + 0 := by
        rw [← cWn_eq, ← cWn_eq, hS606]
        omega
      refine cz_iload rfl rfl ?_
      refine cz_icst rfl cc_2 ?_
      refine cz_icge rfl (by omega) (by omega) (fun hb612 => ?_) (fun hb612 => ?_)
      rotate_left
      · exfalso; omega
      refine cz_icst rfl cc_0 ?_
      refine cz_icne rfl (by omega) (by omega) (fun hb620 => ?_) (fun hb620 => ?_)
      · exfalso; omega
      refine cz_aload rfl rfl ?_
      refine cz_iload rfl rfl ?_
      refine cz_iload rfl rfl ?_
      refine cz_cV3P rfl rfl rfl cIs0 (Nat.le_of_ble_eq_true rfl) (q_ofCell (w := 6) hr2 hW2 (by rw [e1]; exact hcr) (by omega)) ?_
      refine cz_icst rfl cc_2 ?_
      refine cz_icne_same rfl (by exact h5n) ?_
      refine cz_aload rfl rfl ?_
      refine cz_icst rfl cc_8 ?_
      refine cz_cV2P rfl rfl rfl cIs0 (Nat.le_of_ble_eq_true rfl) (q_many8 hr2 hW2) ?_
      refine cz_iload rfl rfl ?_
      refine cz_iload rfl rfl ?_
      refine cz_icst rfl cc_2 ?_
      refine cz_icge rfl (by omega) (by omega) (fun hb646 => ?_) (fun hb646 => ?_)
      rotate_left
      · exfalso; omega
      refine cz_icst rfl cc_0 ?_
      refine cz_iadd rfl ?_
      refine cz_iceq_same rfl (by rw [hwn]) ?_
      refine cz_weak (fun i => i == 0 || i == 1 || i == 2 || i == 3 || i == 4 || i == 5 || i == 6) (l' := [(0, _), (1, _), (2, _), (3, _), (4, _), (5, _), (6, _)]) rfl ?_
      have hfin := k803 S606 (hI2.mono (by omega)) e1
      rw [e1, hfr 4 (by omega), hfr 6 (by omega)] at hfin
      exact hfin
    · skip
      refine cz_aload rfl rfl ?_
      refine cz_iload rfl rfl ?_
      refine cz_iload rfl rfl ?_
      refine cz_icst rfl cc_1 ?_
      refine cz_cV4P rfl rfl rfl cIs0 (Nat.le_of_ble_eq_true rfl) (q_ofPlace1 hr hW hxy) ?_
      refine cz_st1 (l' := [(0, _), (1, _), (2, _), (3, _), (4, _), (5, _), (6, _), (7, _), (8, _), (9, _), (10, _), (11, _), (12, _), (13, _), (14, _), (15, _), (16, _), (17, _)]) rfl rfl rfl ?_
      refine cz_aload rfl rfl ?_
      refine cz_iload rfl rfl ?_
      refine cz_iload rfl rfl ?_
      refine cz_icst rfl cc_2 ?_
      refine cz_cV4P rfl rfl rfl cIs0 (Nat.le_of_ble_eq_true rfl) (q_ofPlace2 hr hW hxy) ?_
      refine cz_icst rfl cc_1 ?_
      refine cz_icne rfl (by exact ⟨by omega, by omega⟩) (by exact ⟨by omega, by omega⟩) (fun hb580 => ?_) (fun hb580 => ?_)
      rotate_left
      · exfalso; omega
      refine cz_icst rfl cc_6 ?_
      refine cz_st1 (l' := [(0, _), (1, _), (2, _), (3, _), (4, _), (5, _), (6, _), (7, _), (8, _), (9, _), (10, _), (11, _), (12, _), (13, _), (14, _), (15, _), (16, _), (17, _), (18, _)]) rfl rfl rfl ?_
      refine cz_aload rfl rfl ?_
      refine cz_iload rfl rfl ?_
      refine cz_iload rfl rfl ?_
      refine cz_cV3P rfl rfl rfl cIs0 (Nat.le_of_ble_eq_true rfl) (q_ofCell (w := 6) hr hW hcr (by omega)) ?_
      rw [show cOC S (cTop (vw S 8) px py) 6 = S 5 (2 * cTop (vw S 8) px py + 0) from rfl]
      refine cz_st1 (l' := [(0, _), (1, _), (2, _), (3, _), (4, _), (5, _), (6, _), (7, _), (8, _), (9, _), (10, _), (11, _), (12, _), (13, _), (14, _), (15, _), (16, _), (17, _), (18, _), (19, _)]) rfl rfl rfl ?_
      refine cz_aload rfl rfl ?_
      refine cz_iload rfl rfl ?_
      refine cz_iload rfl rfl ?_
      refine cz_cV3I rfl rfl rfl cIs0 (Nat.le_of_ble_eq_true rfl) (p_ink hW hxy) (fun r606 S606 t606 hq606 => ?_)
      obtain ⟨ht606, hr606, hS606⟩ := hq606
      rw [ht606]
      rw [hcos] at hr606 hS606
      have hdry : cDry S (2 * cTop (vw S 8) px py + 0) := ⟨by omega, by omega, hwas⟩
      rw [bI_pos hdry] at hr606
      rw [if_pos hdry] at hS606
      have hfr : ∀ a, ¬ a = 5 → S606 a = S a := fun a ha => by rw [hS606]; exact setS_o ha
      have e1 : S606 1 = S 1 := hfr 1 (by omega)
      have h5n : S606 5 (2 * cTop (vw S 8) px py + 0) = 2 := by rw [hS606]; exact setS_e
      have hI2 : cInv S606 M := cInv_same h (by rw [hfr 0 (by omega)]) (fun a _ _ => hfr a (by omega)) (by
        intro p p0 p1
        have := hh5 p p0 p1
        rw [hS606]
        rw [setS_at]; split <;> omega) (fun a ha => hfr a (by omega))
      have hW2 := hI2.wd (by omega)
      have hr2 : cSm S606 S606 := fun _ _ => rfl
      have hwn : csum (fun i => bI (S606 5 i = 2)) (2 * S606 1 2).toNat = csum (fun i => bI (S 5 i = 2)) (2 * S 1 2).toNat + 1 := by
        rw [← cWn_eq, ← cWn_eq, hS606]
        exact cWn_set hdry
      refine cz_iload rfl rfl ?_
      refine cz_icst rfl cc_2 ?_
      refine cz_icge rfl (by omega) (by omega) (fun hb612 => ?_) (fun hb612 => ?_)
      · exfalso; omega
      refine cz_icst rfl cc_1 ?_
      refine cz_goto rfl ?_
      refine cz_icne rfl (by omega) (by omega) (fun hb620 => ?_) (fun hb620 => ?_)
      · exfalso; omega
      refine cz_aload rfl rfl ?_
      refine cz_iload rfl rfl ?_
      refine cz_iload rfl rfl ?_
      refine cz_cV3P rfl rfl rfl cIs0 (Nat.le_of_ble_eq_true rfl) (q_ofCell (w := 6) hr2 hW2 (by rw [e1]; exact hcr) (by omega)) ?_
      refine cz_icst rfl cc_2 ?_
      refine cz_icne_same rfl (by exact h5n) ?_
      refine cz_aload rfl rfl ?_
      refine cz_icst rfl cc_8 ?_
      refine cz_cV2P rfl rfl rfl cIs0 (Nat.le_of_ble_eq_true rfl) (q_many8 hr2 hW2) ?_
      refine cz_iload rfl rfl ?_
      refine cz_iload rfl rfl ?_
      refine cz_icst rfl cc_2 ?_
      refine cz_icge rfl (by omega) (by omega) (fun hb646 => ?_) (fun hb646 => ?_)
      · exfalso; omega
      refine cz_icst rfl cc_1 ?_
      refine cz_goto rfl ?_
      refine cz_iadd rfl ?_
      refine cz_iceq_same rfl (by rw [hwn]) ?_
      refine cz_weak (fun i => i == 0 || i == 1 || i == 2 || i == 3 || i == 4 || i == 5 || i == 6) (l' := [(0, _), (1, _), (2, _), (3, _), (4, _), (5, _), (6, _)]) rfl ?_
      have hfin := k803 S606 (hI2.mono (by omega)) e1
      rw [e1, hfr 4 (by omega), hfr 6 (by omega)] at hfin
      exact hfin
set_option maxRecDepth 20000 in
theorem law_unfold {xs : Nat → Int32} {Ls : Nat} {S : cS} {M : Int} {t : Nat} {Q : Option Value → cS → Nat → Prop} (h : cInv S M) (hM : M ≤ 800) {time x px py : Int} (k803 : ∀ S' : cS, cInv S' (M + 1) → S' 1 = S 1 → cZ xs Ls 7 90 803 [(0, .retAddr 0), (1, .ref 0), (2, .int (cI (S' 1 0))), (3, .int (cI (S' 1 1))), (4, .int (cI (csum (fun i => S' 4 i) (2 * S' 1 2).toNat))), (5, .int (cI (csum (fun i => S' 6 i) (S' 1 2).toNat))), (6, .int (cI time))] [] S' t Q) : cZ xs Ls 7 90 425 [(0, .retAddr 0), (1, .ref 0), (2, .int (cI (S 1 0))), (3, .int (cI (S 1 1))), (4, .int (cI (csum (fun i => S 4 i) (2 * S 1 2).toNat))), (5, .int (cI (csum (fun i => S 6 i) (S 1 2).toNat))), (6, .int (cI time)), (7, .int (cI x)), (8, .int (cI px)), (9, .int (cI py)), (10, .int (cI (S 0 5))), (11, .int (cI (csum (fun i => bI (S 5 i = 2)) (2 * S 1 2).toNat))), (12, .int (cI (csum (fun i => bI (S 5 i = 1)) (2 * S 1 2).toNat))), (13, .int (cI (S 0 6))), (14, .int (cI (S 0 7))), (15, .int (cI (cNa (vw S 8)))), (16, .int (cI (cNb (vw S 8))))] [] S t Q := by
  have hW := h.wd (by omega)
  obtain ⟨⟨hw, hsz⟩, ⟨hG, hGn⟩, hf, hpast, hpo, har, hed, hea⟩ := id h
  have hw' := id hw
  have hsh := hG.2.1
  have hr : cSm S S := fun _ _ => rfl
  have hh5 : ∀ p, 0 ≤ p → p < 64 → (0 ≤ S 5 p ∧ S 5 p ≤ 2) := fun p p0 p1 => (har p p0 p1).2.2.2.1
  have hpp : 1 ≤ S 0 5 → cGood (vw S (22 + 6 * (S 0 5 - 1).toNat)) ∧ vw S (22 + 6 * (S 0 5 - 1).toNat) 0 0 = S 1 2 ∧ (0 ≤ S 21 (S 0 5 - 1) ∧ S 21 (S 0 5 - 1) < 1000) := by
    intro h1
    have hq : ((S 0 5 - 1).toNat : Int) = S 0 5 - 1 := by omega
    have g := hpast (S 0 5 - 1).toNat (by omega)
    rw [hq] at g
    exact ⟨g.1, g.2.1, g.2.2.2⟩
  clear hpast hpo har hed hea
  have hmid : ∀ (r429 : Int) (S429 : cS), ((r429 = -1 ∧ S429 = setS S 0 7 (S 0 7 + 1)) ∨ (1 ≤ S 0 5 ∧ r429 = S 0 5 - 1 ∧ cUnfR S S429)) → cZ xs Ls 7 90 429 [(0, .retAddr 0), (1, .ref 0), (2, .int (cI (S 1 0))), (3, .int (cI (S 1 1))), (4, .int (cI (csum (fun i => S 4 i) (2 * S 1 2).toNat))), (5, .int (cI (csum (fun i => S 6 i) (S 1 2).toNat))), (6, .int (cI time)), (7, .int (cI x)), (8, .int (cI px)), (9, .int (cI py)), (10, .int (cI (S 0 5))), (11, .int (cI (csum (fun i => bI (S 5 i = 2)) (2 * S 1 2).toNat))), (12, .int (cI (csum (fun i => bI (S 5 i = 1)) (2 * S 1 2).toNat))), (13, .int (cI (S 0 6))), (14, .int (cI (S 0 7))), (15, .int (cI (cNa (vw S 8)))), (16, .int (cI (cNb (vw S 8))))] [.int (cI r429)] S429 t Q := by
    intro r429 S429 hq
    rcases hq with ⟨hre, hS429⟩ | ⟨hf1, hre, hUR⟩
    · have hfr : ∀ a, ¬ a = 0 → S429 a = S a := fun a ha => by rw [hS429]; exact setS_o ha
      have hI2 : cInv S429 M := cInv_same h (by rw [hS429, setS_i (by omega)]) (fun a _ _ => hfr a (by omega)) (by rw [hfr 5 (by omega)]; exact hh5) (fun a ha => hfr a (by omega))
      have hW2 := hI2.wd (by omega)
      have hr2 : cSm S429 S429 := fun _ _ => rfl
      refine cz_st1 (l' := [(0, _), (1, _), (2, _), (3, _), (4, _), (5, _), (6, _), (7, _), (8, _), (9, _), (10, _), (11, _), (12, _), (13, _), (14, _), (15, _), (16, _), (17, _)]) rfl rfl rfl ?_
      refine cz_iload rfl rfl ?_
      refine cz_ifge rfl (by omega) (fun hb433 => ?_) (fun hb433 => ?_)
      · exfalso; omega
      refine cz_aload rfl rfl ?_
      refine cz_icst rfl cc_15 ?_
      refine cz_cV2P rfl rfl rfl cIs0 (Nat.le_of_ble_eq_true rfl) (q_many15 hr2 hW2) ?_
      refine cz_iload rfl rfl ?_
      refine cz_icst rfl cc_1 ?_
      refine cz_iadd rfl ?_
      refine cz_icne_same rfl (by rw [hS429, setS_at, if_pos (by omega)]) ?_
      refine cz_aload rfl rfl ?_
      refine cz_icst rfl cc_4 ?_
      refine cz_cV2P rfl rfl rfl cIs0 (Nat.le_of_ble_eq_true rfl) (q_many4 hr2 hW2) ?_
      refine cz_iload rfl rfl ?_
      refine cz_iceq_same rfl (by rw [hS429, setS_i (by omega)]) ?_
      refine cz_weak (fun i => i == 0 || i == 1 || i == 2 || i == 3 || i == 4 || i == 5 || i == 6) (l' := [(0, _), (1, _), (2, _), (3, _), (4, _), (5, _), (6, _)]) rfl ?_
      have hfin := k803 S429 (hI2.mono (by omega)) (hfr 1 (by omega))
      rw [hfr 1 (by omega), hfr 4 (by omega), hfr 6 (by omega)] at hfin
      exact hfin
    · have hI2 : cInv S429 M := cInv_unfold h hf1 hUR
      have hW2 := hI2.wd (by omega)
      have hr2 : cSm S429 S429 := fun _ _ => rfl
      refine cz_st1 (l' := [(0, _), (1, _), (2, _), (3, _), (4, _), (5, _), (6, _), (7, _), (8, _), (9, _), (10, _), (11, _), (12, _), (13, _), (14, _), (15, _), (16, _), (17, _)]) rfl rfl rfl ?_
      refine cz_iload rfl rfl ?_
      refine cz_ifge rfl (by omega) (fun hb433 => ?_) (fun hb433 => ?_)
      rotate_left
      · exfalso; omega
      refine cz_iload rfl rfl ?_
      refine cz_iload rfl rfl ?_
      refine cz_icst rfl cc_1 ?_
      refine cz_isub rfl ?_
      refine cz_icne_same rfl (by exact hre) ?_
      refine cz_aload rfl rfl ?_
      refine cz_icst rfl cc_4 ?_
      refine cz_cV2P rfl rfl rfl cIs0 (Nat.le_of_ble_eq_true rfl) (q_many4 hr2 hW2) ?_
      refine cz_iload rfl rfl ?_
      refine cz_iceq_same rfl (by rw [hUR.1, hre]) ?_
      refine cz_weak (fun i => i == 0 || i == 1 || i == 2 || i == 3 || i == 4 || i == 5 || i == 6) (l' := [(0, _), (1, _), (2, _), (3, _), (4, _), (5, _), (6, _)]) rfl ?_
      have hfin := k803 S429 (hI2.mono (by omega)) (hUR.2.2.2.1 1 (by omega) (by omega) (by omega) (by omega))
      rw [hUR.2.2.2.1 1 (by omega) (by omega) (by omega) (by omega), hUR.2.2.2.1 4 (by omega) (by omega) (by omega) (by omega), hUR.2.2.2.1 6 (by omega) (by omega) (by omega) (by omega)] at hfin
      exact hfin
  refine cz_aload rfl rfl ?_
  refine cz_cV1I rfl rfl rfl cIs0 (Nat.le_of_ble_eq_true rfl) (p_unfold hW hpp) (fun r426 S426 t426 hq426 => ?_)
  obtain ⟨ht426, hq⟩ := hq426
  rw [ht426]
  exact hmid _ _ hq
set_option maxRecDepth 20000 in
theorem law_fold {xs : Nat → Int32} {Ls : Nat} {S : cS} {M : Int} {t : Nat} {Q : Option Value → cS → Nat → Prop} (h : cInv S M) (hM : M ≤ 800) {time x px py : Int} (k803 : ∀ S' : cS, cInv S' (M + 1) → S' 1 = S 1 → cZ xs Ls 7 90 803 [(0, .retAddr 0), (1, .ref 0), (2, .int (cI (S' 1 0))), (3, .int (cI (S' 1 1))), (4, .int (cI (csum (fun i => S' 4 i) (2 * S' 1 2).toNat))), (5, .int (cI (csum (fun i => S' 6 i) (S' 1 2).toNat))), (6, .int (cI time))] [] S' t Q) : cZ xs Ls 7 90 240 [(0, .retAddr 0), (1, .ref 0), (2, .int (cI (S 1 0))), (3, .int (cI (S 1 1))), (4, .int (cI (csum (fun i => S 4 i) (2 * S 1 2).toNat))), (5, .int (cI (csum (fun i => S 6 i) (S 1 2).toNat))), (6, .int (cI time)), (7, .int (cI x)), (8, .int (cI px)), (9, .int (cI py)), (10, .int (cI (S 0 5))), (11, .int (cI (csum (fun i => bI (S 5 i = 2)) (2 * S 1 2).toNat))), (12, .int (cI (csum (fun i => bI (S 5 i = 1)) (2 * S 1 2).toNat))), (13, .int (cI (S 0 6))), (14, .int (cI (S 0 7))), (15, .int (cI (cNa (vw S 8)))), (16, .int (cI (cNb (vw S 8))))] [] S t Q := by
  have hW := h.wd (by omega)
  obtain ⟨⟨hw, hsz⟩, ⟨hG, hGn⟩, hf, hpast, hpo, har, hed, hea⟩ := id h
  have hw' := id hw
  have hsh := hG.2.1
  have hr : cSm S S := fun _ _ => rfl
  have hmid : ∀ a line f o tot : Int, (a = 0 ∨ a = 1) → tot = (if a = 0 then vw S 8 0 1 else vw S 8 0 2) → 1 ≤ line → line < tot → (f = 0 ∨ f = 1) → (o = 0 ∨ o = 1) → S 0 5 < 8 → cZ xs Ls 7 90 328 [(0, .retAddr 0), (1, .ref 0), (2, .int (cI (S 1 0))), (3, .int (cI (S 1 1))), (4, .int (cI (csum (fun i => S 4 i) (2 * S 1 2).toNat))), (5, .int (cI (csum (fun i => S 6 i) (S 1 2).toNat))), (6, .int (cI time)), (7, .int (cI x)), (8, .int (cI px)), (9, .int (cI py)), (10, .int (cI (S 0 5))), (11, .int (cI (csum (fun i => bI (S 5 i = 2)) (2 * S 1 2).toNat))), (12, .int (cI (csum (fun i => bI (S 5 i = 1)) (2 * S 1 2).toNat))), (13, .int (cI (S 0 6))), (14, .int (cI (S 0 7))), (15, .int (cI (cNa (vw S 8)))), (16, .int (cI (cNb (vw S 8)))), (17, .int (cI a)), (18, .int (cI tot)), (19, .int (cI line))] [.int (cI o), .int (cI f), .int (cI line), .int (cI a), .ref 0] S t Q := by
    intro a line f o tot ha htot hl1 hl2 hf2 ho2 hf8
    have htb : 1 ≤ tot ∧ tot ≤ 8 := by rw [htot]; split <;> omega
    have hline : cLine (vw S 8) a line := by
      rcases ha with ha | ha
      · rw [if_pos ha] at htot; exact Or.inl ⟨ha, hl1, by omega⟩
      · rw [if_neg (by omega)] at htot; exact Or.inr ⟨ha, hl1, by omega⟩
    refine cz_cV5I rfl rfl rfl cIs0 (Nat.le_of_ble_eq_true rfl) (p_fold hW hG hsz (fun p p0 p1 => by have := (har p p0 p1).2.2.1; omega) (by omega) hline hf2 ho2) (fun r328 S328 t328 hq328 => ?_)
    obtain ⟨ht328, more, hR⟩ := hq328
    rw [ht328]
    have hisc : cIsC (vw S 8) (8 * line + 4 * a + 2 * f + o) := by
      unfold cIsC
      have q1 : (8 * line + 4 * a + 2 * f + o) / 8 = line := by omega
      have q2 : (8 * line + 4 * a + 2 * f + o) / 4 % 2 = a := by omega
      rw [q1, q2]
      exact hline
    have hF := cInv_fold h (k := 8 * line + 4 * a + 2 * f + o) (by omega) hisc (by omega) hR
    obtain ⟨hI2, hmade, hmk⟩ := hF
    have hW2 := hI2.wd (by omega)
    have hr2 : cSm S328 S328 := fun _ _ => rfl
    have hg2 := hI2.2.1.1.2.1
    have e1 : S328 1 = S 1 := hR.2.2.2.1
    have hmb : r328 ≤ 64 := by
      have h18 := hR.2.2.2.2.2.2.2.2.2.2.2.2.2.2.2.2.2
      have hb := csum_b (f := cNcr S (8 * line + 4 * a + 2 * f + o)) (lo := 0) (hi := 2) (S 1 2).toNat (fun i _ _ => by
        unfold cNcr
        rcases (bI_or : bI (cNewC S i 0 (8 * line + 4 * a + 2 * f + o)) = 0 ∨ _) with u | u <;> rcases (bI_or : bI (cNewC S i 1 (8 * line + 4 * a + 2 * f + o)) = 0 ∨ _) with v | v <;> omega)
      rw [← h18] at hb
      omega
    have hmore : 0 ≤ more ∧ more ≤ 32 := ⟨hR.2.2.2.2.2.2.2.2.2.2.2.2.2.2.2.1, hR.2.2.2.2.2.2.2.2.2.2.2.2.2.2.2.2.1⟩
    have hbl : S328 0 6 - S 0 6 = more := by rw [hR.2.1]; omega
    have hwn : csum (fun i => bI (S328 5 i = 2)) (2 * S328 1 2).toNat = csum (fun i => bI (S 5 i = 2)) (2 * S 1 2).toNat + more := by
      rw [← cWn_eq, ← cWn_eq]
      exact hR.2.2.2.2.2.2.2.2.2.2.2.2.2.2.1
    have hm2 : cMny S328 (2 + a) = if line < tot - line then tot - line else line := by
      have h9 := hR.2.2.2.2.2.2.2.2.1
      have h11 := hR.2.2.2.2.2.2.2.2.2.2.1
      have q1 : (8 * line + 4 * a + 2 * f + o) / 8 = line := by omega
      have q2 : (8 * line + 4 * a + 2 * f + o) / 4 % 2 = a := by omega
      have hnl : cNlen (vw S328 (22 + 6 * (S 0 5).toNat)) (8 * line + 4 * a + 2 * f + o) = if line < tot - line then tot - line else line := by
        unfold cNlen cTot
        rw [q1, q2, h9.2.1, h9.2.2.1, ← htot]
      rw [← hnl]
      rcases ha with ha | ha
      · subst ha
        show vw S328 8 0 1 = _
        rw [h11.2.1]
        unfold cNC
        rw [if_pos (by omega)]
      · subst ha
        show vw S328 8 0 2 = _
        rw [h11.2.2.1]
        unfold cNR
        rw [if_neg (by omega)]
    have hm3 : ∃ u, cMny S328 (3 - a) = u ∧ 1 ≤ u ∧ u ≤ 8 := by
      rcases ha with ha | ha
      · subst ha
        exact ⟨vw S328 8 0 2, rfl, hg2.2.2.1, hg2.2.2.2.1⟩
      · subst ha
        exact ⟨vw S328 8 0 1, rfl, hg2.1, hg2.2.1⟩
    obtain ⟨u3, hm3, hu3a, hu3b⟩ := hm3
    clear hpast hpo har hed hea
    refine cz_st1 (l' := [(0, _), (1, _), (2, _), (3, _), (4, _), (5, _), (6, _), (7, _), (8, _), (9, _), (10, _), (11, _), (12, _), (13, _), (14, _), (15, _), (16, _), (17, _), (18, _), (19, _), (20, _)]) rfl rfl rfl ?_
    refine cz_iload rfl rfl ?_
    refine cz_iload rfl rfl ?_
    refine cz_iadd rfl ?_
    refine cz_st1 (l' := [(0, _), (1, _), (2, _), (3, _), (4, _), (5, _), (6, _), (7, _), (8, _), (9, _), (10, _), (11, _), (12, _), (13, _), (14, _), (15, _), (16, _), (17, _), (18, _), (19, _), (20, _)]) rfl rfl rfl ?_
    refine cz_iload rfl rfl ?_
    refine cz_icst rfl cc_1 ?_
    refine cz_iclt rfl (by omega) (by omega) (fun hb343 => ?_) (fun hb343 => ?_)
    · exfalso; omega
    refine cz_aload rfl rfl ?_
    refine cz_icst rfl cc_4 ?_
    refine cz_cV2P rfl rfl rfl cIs0 (Nat.le_of_ble_eq_true rfl) (q_many4 hr2 hW2) ?_
    refine cz_iload rfl rfl ?_
    refine cz_icst rfl cc_1 ?_
    refine cz_iadd rfl ?_
    refine cz_icne_same rfl (by exact hR.1) ?_
    refine cz_aload rfl rfl ?_
    refine cz_icst rfl cc_2 ?_
    refine cz_iload rfl rfl ?_
    refine cz_iadd rfl ?_
    refine cz_cV2P rfl rfl rfl cIs0 (Nat.le_of_ble_eq_true rfl) (q_many (w := 2 + a) hr2 hW2 (by omega)) ?_
    refine cz_iload rfl rfl ?_
    refine cz_iload rfl rfl ?_
    refine cz_iload rfl rfl ?_
    refine cz_isub rfl ?_
    refine cz_max rfl rfl (by omega) (by omega) ?_
    refine cz_icne_same rfl (by rw [hm2]) ?_
    refine cz_aload rfl rfl ?_
    refine cz_icst rfl cc_3 ?_
    refine cz_iload rfl rfl ?_
    refine cz_isub rfl ?_
    refine cz_cV2P rfl rfl rfl cIs0 (Nat.le_of_ble_eq_true rfl) (q_many (w := 3 - a) hr2 hW2 (by omega)) ?_
    rw [hm3]
    refine cz_icst rfl cc_1 ?_
    refine cz_icge rfl (by first | omega | (rw [hm3]; omega)) (by first | omega | (rw [hm3]; omega)) (fun hb388 => ?_) (fun hb388 => ?_)
    rotate_left
    · exfalso; omega
    refine cz_aload rfl rfl ?_
    refine cz_icst rfl cc_14 ?_
    refine cz_cV2P rfl rfl rfl cIs0 (Nat.le_of_ble_eq_true rfl) (q_many14 hr2 hW2) ?_
    refine cz_iload rfl rfl ?_
    refine cz_isub rfl ?_
    rw [hbl]
    refine cz_st1 (l' := [(0, _), (1, _), (2, _), (3, _), (4, _), (5, _), (6, _), (7, _), (8, _), (9, _), (10, _), (11, _), (12, _), (13, _), (14, _), (15, _), (16, _), (17, _), (18, _), (19, _), (20, _), (21, _)]) rfl rfl rfl ?_
    refine cz_iload rfl rfl ?_
    refine cz_iflt rfl (by omega) (fun hb406 => ?_) (fun hb406 => ?_)
    · exfalso; omega
    refine cz_aload rfl rfl ?_
    refine cz_icst rfl cc_8 ?_
    refine cz_cV2P rfl rfl rfl cIs0 (Nat.le_of_ble_eq_true rfl) (q_many8 hr2 hW2) ?_
    refine cz_iload rfl rfl ?_
    refine cz_iload rfl rfl ?_
    refine cz_iadd rfl ?_
    refine cz_iceq_same rfl (by rw [hwn]) ?_
    refine cz_weak (fun i => i == 0 || i == 1 || i == 2 || i == 3 || i == 4 || i == 5 || i == 6) (l' := [(0, _), (1, _), (2, _), (3, _), (4, _), (5, _), (6, _)]) rfl ?_
    have hfin := k803 S328 hI2 e1
    have e6 : S328 6 = S 6 := hR.2.2.2.2.1
    rw [e1, e6, hmk] at hfin
    exact hfin
  clear hpast hpo har hed hea
  refine cz_iload rfl rfl ?_
  refine cz_icst rfl cc_4 ?_
  refine cz_iany rfl ?_
  refine cz_icst rfl cc_2 ?_
  refine cz_cS2I rfl rfl rfl rfl (Nat.le_of_ble_eq_true rfl) (p_below (by omega)) (fun r245 S245 t245 hq245 => ?_)
  obtain ⟨hr245, hS245, ht245⟩ := hq245
  rw [hS245, ht245]
  have hmt : cMny S (2 + r245) = if r245 = 0 then vw S 8 0 1 else vw S 8 0 2 := by
    obtain h1 | h1 : r245 = 0 ∨ r245 = 1 := by omega
    · subst h1; rfl
    · subst h1; rfl
  have htb : 1 ≤ (if r245 = 0 then vw S 8 0 1 else vw S 8 0 2) ∧ (if r245 = 0 then vw S 8 0 1 else vw S 8 0 2) ≤ 8 := by split <;> omega
  refine cz_st1 (l' := [(0, _), (1, _), (2, _), (3, _), (4, _), (5, _), (6, _), (7, _), (8, _), (9, _), (10, _), (11, _), (12, _), (13, _), (14, _), (15, _), (16, _), (17, _)]) rfl rfl rfl ?_
  refine cz_aload rfl rfl ?_
  refine cz_icst rfl cc_2 ?_
  refine cz_iload rfl rfl ?_
  refine cz_iadd rfl ?_
  refine cz_cV2P rfl rfl rfl cIs0 (Nat.le_of_ble_eq_true rfl) (q_many (w := 2 + r245) hr hW (by omega)) ?_
  rw [hmt]
  refine cz_st1 (l' := [(0, _), (1, _), (2, _), (3, _), (4, _), (5, _), (6, _), (7, _), (8, _), (9, _), (10, _), (11, _), (12, _), (13, _), (14, _), (15, _), (16, _), (17, _), (18, _)]) rfl rfl rfl ?_
  refine cz_iload rfl rfl ?_
  refine cz_icst rfl cc_2 ?_
  refine cz_iclt rfl (by omega) (by omega) (fun hb263 => ?_) (fun hb263 => ?_)
  · skip
    refine cz_weak (fun i => i == 0 || i == 1 || i == 2 || i == 3 || i == 4 || i == 5 || i == 6) (l' := [(0, _), (1, _), (2, _), (3, _), (4, _), (5, _), (6, _)]) rfl ?_
    exact k803 S (h.mono (by omega)) rfl
  · skip
    refine cz_iload rfl rfl ?_
    refine cz_icst rfl cc_8 ?_
    refine cz_icne rfl (by omega) (by omega) (fun hb270 => ?_) (fun hb270 => ?_)
    · skip
      refine cz_icst rfl cc_1 ?_
      refine cz_iload rfl rfl ?_
      refine cz_icst rfl cc_5 ?_
      refine cz_iany rfl ?_
      refine cz_iload rfl rfl ?_
      refine cz_icst rfl cc_1 ?_
      refine cz_isub rfl ?_
      refine cz_cS2I rfl rfl rfl rfl (Nat.le_of_ble_eq_true rfl) (p_below (by omega)) (fun r285 S285 t285 hq285 => ?_)
      obtain ⟨hr285, hS285, ht285⟩ := hq285
      rw [hS285, ht285]
      refine cz_iadd rfl ?_
      refine cz_st1 (l' := [(0, _), (1, _), (2, _), (3, _), (4, _), (5, _), (6, _), (7, _), (8, _), (9, _), (10, _), (11, _), (12, _), (13, _), (14, _), (15, _), (16, _), (17, _), (18, _), (19, _)]) rfl rfl rfl ?_
      refine cz_aload rfl rfl ?_
      refine cz_iload rfl rfl ?_
      refine cz_iload rfl rfl ?_
      refine cz_iload rfl rfl ?_
      refine cz_icst rfl cc_2 ?_
      refine cz_iany rfl ?_
      refine cz_icst rfl cc_2 ?_
      refine cz_cS2I rfl rfl rfl rfl (Nat.le_of_ble_eq_true rfl) (p_below (by omega)) (fun r301 S301 t301 hq301 => ?_)
      obtain ⟨hr301, hS301, ht301⟩ := hq301
      rw [hS301, ht301]
      refine cz_ifne rfl (by omega) (fun hb304 => ?_) (fun hb304 => ?_)
      · skip
        refine cz_icst rfl cc_0 ?_
        refine cz_iload rfl rfl ?_
        refine cz_icst rfl cc_3 ?_
        refine cz_iany rfl ?_
        refine cz_icst rfl cc_2 ?_
        refine cz_cS2I rfl rfl rfl rfl (Nat.le_of_ble_eq_true rfl) (p_below (by omega)) (fun r317 S317 t317 hq317 => ?_)
        obtain ⟨hr317, hS317, ht317⟩ := hq317
        rw [hS317, ht317]
        refine cz_ifne rfl (by omega) (fun hb320 => ?_) (fun hb320 => ?_)
        · skip
          refine cz_icst rfl cc_0 ?_
          exact hmid _ _ _ _ _ (by omega) rfl (by omega) (by omega) (by omega) (by omega) (by omega)
        · skip
          refine cz_icst rfl cc_1 ?_
          refine cz_goto rfl ?_
          exact hmid _ _ _ _ _ (by omega) rfl (by omega) (by omega) (by omega) (by omega) (by omega)
      · skip
        refine cz_icst rfl cc_1 ?_
        refine cz_goto rfl ?_
        refine cz_iload rfl rfl ?_
        refine cz_icst rfl cc_3 ?_
        refine cz_iany rfl ?_
        refine cz_icst rfl cc_2 ?_
        refine cz_cS2I rfl rfl rfl rfl (Nat.le_of_ble_eq_true rfl) (p_below (by omega)) (fun r317 S317 t317 hq317 => ?_)
        obtain ⟨hr317, hS317, ht317⟩ := hq317
        rw [hS317, ht317]
        refine cz_ifne rfl (by omega) (fun hb320 => ?_) (fun hb320 => ?_)
        · skip
          refine cz_icst rfl cc_0 ?_
          exact hmid _ _ _ _ _ (by omega) rfl (by omega) (by omega) (by omega) (by omega) (by omega)
        · skip
          refine cz_icst rfl cc_1 ?_
          refine cz_goto rfl ?_
          exact hmid _ _ _ _ _ (by omega) rfl (by omega) (by omega) (by omega) (by omega) (by omega)
    · skip
      refine cz_goto rfl ?_
      refine cz_weak (fun i => i == 0 || i == 1 || i == 2 || i == 3 || i == 4 || i == 5 || i == 6) (l' := [(0, _), (1, _), (2, _), (3, _), (4, _), (5, _), (6, _)]) rfl ?_
      exact k803 S (h.mono (by omega)) rfl
