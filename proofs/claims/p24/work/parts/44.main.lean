/-! The law: its loop, its end, its beginning -/
theorem lg_cmp_self (x : Int64) : lg_cmp x x = 0 := by
  unfold lg_cmp
  rw [if_neg (fun h => Int64.lt_irrefl h), if_pos rfl]
theorem cwh {w h : Int} (hw : 1 ≤ w ∧ w ≤ 8) (hh : 1 ≤ h ∧ h ≤ 32 / w) : w * h ≤ 32 := by
  have h1 : w * h ≤ w * (32 / w) := Int.mul_le_mul_of_nonneg_left hh.2 (by omega)
  have h2 := Int.mul_ediv_add_emod 32 w
  have h3 := Int.emod_nonneg 32 (by omega : w ≠ 0)
  omega
theorem csum_sm {S S' : cS} (h : cSm S S') : csum (fun i => S' 4 i) (2 * S' 1 2).toNat = csum (fun i => S 4 i) (2 * S 1 2).toNat ∧ csum (fun i => S' 6 i) (S' 1 2).toNat = csum (fun i => S 6 i) (S 1 2).toNat := by
  rw [h 1 (by omega), h 4 (by omega), h 6 (by omega)]
  exact ⟨rfl, rfl⟩
set_option maxRecDepth 20000 in
theorem law_end {xs : Nat → Int32} {Ls : Nat} {S : cS} {M : Int} {t : Nat} (h : cInv S M) (hM : M ≤ 800) (ht : t ≤ 39) : cZ xs Ls 7 90 842 [(0, .retAddr 0), (1, .ref 0), (2, .int (cI (S 1 0))), (3, .int (cI (S 1 1)))] [] S t (cQI (fun r S' t' => r = 1 ∧ t' ≤ 40)) := by
  have hW := h.wd (by omega)
  obtain ⟨⟨hw, hsz⟩, ⟨hG, hGn⟩, hf, hpast, hpo, har, hed, hea⟩ := id h
  have hw' := id hw
  have hsh := hG.2.1
  have hr : cSm S S := fun _ _ => rfl
  clear hpast hpo har hed hea
  refine cz_aload rfl rfl ?_
  refine cz_cV1J rfl rfl rfl cIs0 (Nat.le_of_ble_eq_true rfl) (p_digest hW hsz hG) (fun r843 S843 t843 hq843 => ?_)
  obtain ⟨ht843, hr843, hs1⟩ := hq843
  subst hr843
  rw [ht843]
  have hI1 := h.sm hs1
  have e1 : S843 1 = S 1 := hs1 1 (by omega)
  refine cz_st2 (l' := [(0, _), (1, _), (2, _), (3, _), (6, _)]) rfl rfl rfl ?_
  refine cz_aload rfl rfl ?_
  refine cz_iload rfl rfl ?_
  refine cz_iload rfl rfl ?_
  refine cz_cS3I rfl rfl rfl rfl (Nat.le_of_ble_eq_true rfl) (by rw [← e1]; exact p_isSo hI1 (by omega)) (fun r851 S851 t851 hq851 => ?_)
  obtain ⟨hr851, ht851, hs2⟩ := hq851
  subst hr851
  have hI2 := hI1.sm hs2
  have hW2 := hI2.wd (by omega)
  have hsz2 := hI2.1.2
  have hG2 := hI2.2.1.1
  refine cz_ifeq rfl (by omega) (fun hb854 => ?_) (fun hb854 => ?_)
  · exfalso; omega
  refine cz_aload rfl rfl ?_
  refine cz_cV1J rfl rfl rfl cIs0 (Nat.le_of_ble_eq_true rfl) (p_digest hW2 hsz2 hG2) (fun r858 S858 t858 hq858 => ?_)
  obtain ⟨ht858, hr858, hs3⟩ := hq858
  have hdg : cDig S851 = cDig S := by rw [cDig_c hs2, cDig_c hs1]
  rw [hdg] at hr858
  rw [hr858]
  refine cz_lload rfl rfl ?_
  refine cz_lcmp rfl ?_
  refine cz_ifne_z rfl (lg_cmp_self _) ?_
  refine cz_icst rfl cc_1 ?_
  refine cz_goto rfl ?_
  refine cz_retZ rfl (by omega) ?_
  exact cQI.mk ⟨rfl, by omega⟩
set_option maxRecDepth 20000 in
theorem law_switch {xs : Nat → Int32} {Ls : Nat} {S : cS} {M : Int} {t : Nat} {Q : Option Value → cS → Nat → Prop} (h : cInv S M) (hM : M ≤ 800) {time x px py : Int} (k803 : ∀ S' : cS, cInv S' (M + 1) → S' 1 = S 1 → cZ xs Ls 7 90 803 [(0, .retAddr 0), (1, .ref 0), (2, .int (cI (S' 1 0))), (3, .int (cI (S' 1 1))), (4, .int (cI (csum (fun i => S' 4 i) (2 * S' 1 2).toNat))), (5, .int (cI (csum (fun i => S' 6 i) (S' 1 2).toNat))), (6, .int (cI time))] [] S' t Q) (hxy : cHas (vw S 8) px py) : ∀ r : Int, 0 ≤ r → r < 13 → cZ xs Ls 7 90 178 [(0, .retAddr 0), (1, .ref 0), (2, .int (cI (S 1 0))), (3, .int (cI (S 1 1))), (4, .int (cI (csum (fun i => S 4 i) (2 * S 1 2).toNat))), (5, .int (cI (csum (fun i => S 6 i) (S 1 2).toNat))), (6, .int (cI time)), (7, .int (cI x)), (8, .int (cI px)), (9, .int (cI py)), (10, .int (cI (S 0 5))), (11, .int (cI (csum (fun i => bI (S 5 i = 2)) (2 * S 1 2).toNat))), (12, .int (cI (csum (fun i => bI (S 5 i = 1)) (2 * S 1 2).toNat))), (13, .int (cI (S 0 6))), (14, .int (cI (S 0 7))), (15, .int (cI (cNa (vw S 8)))), (16, .int (cI (cNb (vw S 8))))] [.int (cI r)] S t Q := by
  intro r r0 r1
  obtain e | e | e | e | e | e | e | e | e | e | e | e | e : r = 0 ∨ r = 1 ∨ r = 2 ∨ r = 3 ∨ r = 4 ∨ r = 5 ∨ r = 6 ∨ r = 7 ∨ r = 8 ∨ r = 9 ∨ r = 10 ∨ r = 11 ∨ r = 12 := by omega
  · subst e
    refine cz_tab rfl (by omega) (by omega) rfl ?_
    exact law_fold h hM k803
  · subst e
    refine cz_tab rfl (by omega) (by omega) rfl ?_
    exact law_fold h hM k803
  · subst e
    refine cz_tab rfl (by omega) (by omega) rfl ?_
    exact law_fold h hM k803
  · subst e
    refine cz_tab rfl (by omega) (by omega) rfl ?_
    exact law_fold h hM k803
  · subst e
    refine cz_tab rfl (by omega) (by omega) rfl ?_
    exact law_unfold h hM k803
  · subst e
    refine cz_tab rfl (by omega) (by omega) rfl ?_
    exact law_unfold h hM k803
  · subst e
    refine cz_tab rfl (by omega) (by omega) rfl ?_
    exact law_turn h hM k803
  · subst e
    refine cz_tab rfl (by omega) (by omega) rfl ?_
    exact law_round h hM k803
  · subst e
    refine cz_tab rfl (by omega) (by omega) rfl ?_
    exact law_ink h hM k803 hxy
  · subst e
    refine cz_tab rfl (by omega) (by omega) rfl ?_
    exact law_ink h hM k803 hxy
  · subst e
    refine cz_tab rfl (by omega) (by omega) rfl ?_
    exact law_dry h hM k803
  · subst e
    refine cz_tab rfl (by omega) (by omega) rfl ?_
    exact law_punch h hM k803 hxy
  · subst e
    refine cz_tabD rfl (by omega) (by omega) ?_
    exact law_glue h hM k803 hxy

set_option maxRecDepth 20000 in
theorem law_loop {xs : Nat → Int32} {Ls : Nat} (hLs : Ls ≤ 260) : ∀ (n : Nat) (time : Int) (S : cS) (t : Nat), 0 ≤ time → time + n = 32 → cInv S time → t ≤ time → cZ xs Ls 7 90 59 [(0, .retAddr 0), (1, .ref 0), (2, .int (cI (S 1 0))), (3, .int (cI (S 1 1))), (4, .int (cI (csum (fun i => S 4 i) (2 * S 1 2).toNat))), (5, .int (cI (csum (fun i => S 6 i) (S 1 2).toNat))), (6, .int (cI time))] [] S t (cQI (fun r S' t' => r = 1 ∧ t' ≤ 40)) := by
  intro n
  induction n with
  | zero =>
    intro time S t ht0 hn h htt
    refine cz_iload rfl rfl ?_
    refine cz_icst rfl cc_32 ?_
    refine cz_icge rfl (by omega) (by omega) (fun hb63 => ?_) (fun hb63 => ?_)
    rotate_left
    · exfalso; omega
    refine cz_weak (fun i => i == 0 || i == 1 || i == 2 || i == 3) (l' := [(0, _), (1, _), (2, _), (3, _)]) rfl ?_
    exact law_end h (by omega) (by omega)
  | succ n ih =>
    intro time S t ht0 hn h htt
    have k803 : ∀ S' : cS, cInv S' (time + 1) → S' 1 = S 1 → cZ xs Ls 7 90 803 [(0, .retAddr 0), (1, .ref 0), (2, .int (cI (S' 1 0))), (3, .int (cI (S' 1 1))), (4, .int (cI (csum (fun i => S' 4 i) (2 * S' 1 2).toNat))), (5, .int (cI (csum (fun i => S' 6 i) (S' 1 2).toNat))), (6, .int (cI time))] [] S' t (cQI (fun r S' t' => r = 1 ∧ t' ≤ 40)) := by
      intro S' hI e1
      have hW := hI.wd (by omega)
      have hr : cSm S' S' := fun _ _ => rfl
      refine cz_aload rfl rfl ?_
      refine cz_icst rfl cc_7 ?_
      refine cz_cV2P rfl rfl rfl cIs0 (Nat.le_of_ble_eq_true rfl) (q_many7 hr hW) ?_
      refine cz_iload rfl rfl ?_
      refine cz_icne_same rfl (by rfl) ?_
      refine cz_aload rfl rfl ?_
      refine cz_icst rfl cc_10 ?_
      refine cz_cV2P rfl rfl rfl cIs0 (Nat.le_of_ble_eq_true rfl) (q_many10 hr hW) ?_
      refine cz_iload rfl rfl ?_
      refine cz_icne_same rfl (by rfl) ?_
      refine cz_aload rfl rfl ?_
      refine cz_iload rfl rfl ?_
      refine cz_iload rfl rfl ?_
      refine cz_cS3I rfl rfl rfl rfl (Nat.le_of_ble_eq_true rfl) (p_isSo hI (by omega)) (fun r828 S828 t828 hq828 => ?_)
      obtain ⟨hr828, ht828, hs⟩ := hq828
      subst hr828
      refine cz_ifne rfl (by omega) (fun hb831 => ?_) (fun hb831 => ?_)
      rotate_left
      · exfalso; omega
      refine cz_iinc (l' := [(0, _), (1, _), (2, _), (3, _), (4, _), (5, _), (6, _)]) rfl cc_1 rfl rfl ?_
      refine cz_goto rfl ?_
      have hfin := ih (time + 1) S828 t828 (by omega) (by omega) (hI.sm hs) (by omega)
      rw [(csum_sm hs).1, (csum_sm hs).2, hs 1 (by omega)] at hfin
      exact hfin
    have hM : time ≤ 800 := by omega
    have hW := h.wd (by omega)
    have hsh := h.2.1.1.2.1
    have hr : cSm S S := fun _ _ => rfl
    refine cz_iload rfl rfl ?_
    refine cz_icst rfl cc_32 ?_
    refine cz_icge rfl (by omega) (by omega) (fun hb63 => ?_) (fun hb63 => ?_)
    · exfalso; omega
    refine cz_sload rfl rfl ?_
    refine cz_icst rfl cc_1 ?_
    refine cz_iload rfl rfl ?_
    refine cz_icst rfl cc_16 ?_
    refine cz_irem rfl (by omega) (by omega) ?_
    refine cz_iadd rfl ?_
    refine cz_cS2I rfl rfl rfl rfl (Nat.le_of_ble_eq_true rfl) (p_cell hLs (by omega)) (fun r74 S74 t74 hq74 => ?_)
    obtain ⟨hr74, hS74, ht74⟩ := hq74
    rw [hS74, ht74]
    refine cz_iload rfl rfl ?_
    refine cz_icst rfl cc_16 ?_
    refine cz_idiv rfl (by omega) (by omega) ?_
    refine cz_icst rfl cc_6 ?_
    refine cz_imul rfl ?_
    refine cz_iany rfl ?_
    refine cz_st1 (l' := [(0, _), (1, _), (2, _), (3, _), (4, _), (5, _), (6, _), (7, _)]) rfl rfl rfl ?_
    refine cz_iload rfl rfl ?_
    refine cz_icst rfl cc_3 ?_
    refine cz_iany rfl ?_
    refine cz_aload rfl rfl ?_
    refine cz_icst rfl cc_2 ?_
    refine cz_cV2P rfl rfl rfl cIs0 (Nat.le_of_ble_eq_true rfl) (q_many2 hr hW) ?_
    refine cz_cS2I rfl rfl rfl rfl (Nat.le_of_ble_eq_true rfl) (p_below (by omega)) (fun r97 S97 t97 hq97 => ?_)
    obtain ⟨hr97, hS97, ht97⟩ := hq97
    rw [hS97, ht97]
    refine cz_st1 (l' := [(0, _), (1, _), (2, _), (3, _), (4, _), (5, _), (6, _), (7, _), (8, _)]) rfl rfl rfl ?_
    refine cz_iload rfl rfl ?_
    refine cz_icst rfl cc_4 ?_
    refine cz_iany rfl ?_
    refine cz_aload rfl rfl ?_
    refine cz_icst rfl cc_3 ?_
    refine cz_cV2P rfl rfl rfl cIs0 (Nat.le_of_ble_eq_true rfl) (q_many3 hr hW) ?_
    refine cz_cS2I rfl rfl rfl rfl (Nat.le_of_ble_eq_true rfl) (p_below (by omega)) (fun r111 S111 t111 hq111 => ?_)
    obtain ⟨hr111, hS111, ht111⟩ := hq111
    rw [hS111, ht111]
    refine cz_st1 (l' := [(0, _), (1, _), (2, _), (3, _), (4, _), (5, _), (6, _), (7, _), (8, _), (9, _)]) rfl rfl rfl ?_
    refine cz_aload rfl rfl ?_
    refine cz_icst rfl cc_4 ?_
    refine cz_cV2P rfl rfl rfl cIs0 (Nat.le_of_ble_eq_true rfl) (q_many4 hr hW) ?_
    refine cz_st1 (l' := [(0, _), (1, _), (2, _), (3, _), (4, _), (5, _), (6, _), (7, _), (8, _), (9, _), (10, _)]) rfl rfl rfl ?_
    refine cz_aload rfl rfl ?_
    refine cz_icst rfl cc_8 ?_
    refine cz_cV2P rfl rfl rfl cIs0 (Nat.le_of_ble_eq_true rfl) (q_many8 hr hW) ?_
    refine cz_st1 (l' := [(0, _), (1, _), (2, _), (3, _), (4, _), (5, _), (6, _), (7, _), (8, _), (9, _), (10, _), (11, _)]) rfl rfl rfl ?_
    refine cz_aload rfl rfl ?_
    refine cz_icst rfl cc_9 ?_
    refine cz_cV2P rfl rfl rfl cIs0 (Nat.le_of_ble_eq_true rfl) (q_many9 hr hW) ?_
    refine cz_st1 (l' := [(0, _), (1, _), (2, _), (3, _), (4, _), (5, _), (6, _), (7, _), (8, _), (9, _), (10, _), (11, _), (12, _)]) rfl rfl rfl ?_
    refine cz_aload rfl rfl ?_
    refine cz_icst rfl cc_14 ?_
    refine cz_cV2P rfl rfl rfl cIs0 (Nat.le_of_ble_eq_true rfl) (q_many14 hr hW) ?_
    refine cz_st1 (l' := [(0, _), (1, _), (2, _), (3, _), (4, _), (5, _), (6, _), (7, _), (8, _), (9, _), (10, _), (11, _), (12, _), (13, _)]) rfl rfl rfl ?_
    refine cz_aload rfl rfl ?_
    refine cz_icst rfl cc_15 ?_
    refine cz_cV2P rfl rfl rfl cIs0 (Nat.le_of_ble_eq_true rfl) (q_many15 hr hW) ?_
    refine cz_st1 (l' := [(0, _), (1, _), (2, _), (3, _), (4, _), (5, _), (6, _), (7, _), (8, _), (9, _), (10, _), (11, _), (12, _), (13, _), (14, _)]) rfl rfl rfl ?_
    refine cz_aload rfl rfl ?_
    refine cz_icst rfl cc_12 ?_
    refine cz_cV2P rfl rfl rfl cIs0 (Nat.le_of_ble_eq_true rfl) (q_many12 hr hW) ?_
    refine cz_st1 (l' := [(0, _), (1, _), (2, _), (3, _), (4, _), (5, _), (6, _), (7, _), (8, _), (9, _), (10, _), (11, _), (12, _), (13, _), (14, _), (15, _)]) rfl rfl rfl ?_
    refine cz_aload rfl rfl ?_
    refine cz_icst rfl cc_13 ?_
    refine cz_cV2P rfl rfl rfl cIs0 (Nat.le_of_ble_eq_true rfl) (q_many13 hr hW) ?_
    refine cz_st1 (l' := [(0, _), (1, _), (2, _), (3, _), (4, _), (5, _), (6, _), (7, _), (8, _), (9, _), (10, _), (11, _), (12, _), (13, _), (14, _), (15, _), (16, _)]) rfl rfl rfl ?_
    refine cz_iload rfl rfl ?_
    refine cz_icst rfl cc_13 ?_
    refine cz_cS2I rfl rfl rfl rfl (Nat.le_of_ble_eq_true rfl) (p_below (by omega)) (fun r175 S175 t175 hq175 => ?_)
    obtain ⟨hr175, hS175, ht175⟩ := hq175
    rw [hS175, ht175]
    exact law_switch h hM k803 ⟨by omega, by omega, by omega, by omega⟩ _ hr175.1 hr175.2
set_option maxRecDepth 20000 in
theorem law_main {xs : Nat → Int32} {Ls : Nat} (hLs : Ls ≤ 260) {S : cS} : cZ xs Ls 7 90 7 [(0, .retAddr 0)] [.ref 0] S 0 (cQI (fun r S' t' => r = 1 ∧ t' ≤ 40)) := by
  refine cz_st1 (l' := [(0, _), (1, _)]) rfl rfl rfl ?_
  refine cz_icst rfl cc_1 ?_
  refine cz_sload rfl rfl ?_
  refine cz_icst rfl cc_0 ?_
  refine cz_cS2I rfl rfl rfl rfl (Nat.le_of_ble_eq_true rfl) (p_cell hLs (by omega)) (fun r11 S11 t11 hq11 => ?_)
  obtain ⟨hr11, hS11, ht11⟩ := hq11
  rw [hS11, ht11]
  refine cz_icst rfl cc_8 ?_
  refine cz_cS2I rfl rfl rfl rfl (Nat.le_of_ble_eq_true rfl) (p_below (by omega)) (fun r16 S16 t16 hq16 => ?_)
  obtain ⟨hr16, hS16, ht16⟩ := hq16
  rw [hS16, ht16]
  refine cz_iadd rfl ?_
  refine cz_st1 (l' := [(0, _), (1, _), (2, _)]) rfl rfl rfl ?_
  refine cz_icst rfl cc_1 ?_
  refine cz_sload rfl rfl ?_
  refine cz_icst rfl cc_0 ?_
  refine cz_cS2I rfl rfl rfl rfl (Nat.le_of_ble_eq_true rfl) (p_cell hLs (by omega)) (fun r24 S24 t24 hq24 => ?_)
  obtain ⟨hr24, hS24, ht24⟩ := hq24
  rw [hS24, ht24]
  refine cz_icst rfl cc_3 ?_
  refine cz_iany rfl ?_
  refine cz_icst rfl cc_8 ?_
  refine cz_icst rfl cc_32 ?_
  refine cz_iload rfl rfl ?_
  have hd : 4 ≤ 32 / (1 + r16) ∧ 32 / (1 + r16) ≤ 32 := by
    obtain e | e | e | e | e | e | e | e : r16 = 0 ∨ r16 = 1 ∨ r16 = 2 ∨ r16 = 3 ∨ r16 = 4 ∨ r16 = 5 ∨ r16 = 6 ∨ r16 = 7 := by omega
    all_goals subst e; decide
  refine cz_idiv rfl (by omega) (by omega) ?_
  refine cz_min rfl rfl (by omega) (by omega) ?_
  have hmn : 1 ≤ (if 32 / (1 + r16) < 8 then 32 / (1 + r16) else 8) ∧ (if 32 / (1 + r16) < 8 then 32 / (1 + r16) else 8) ≤ 8 := by split <;> omega
  refine cz_cS2I rfl rfl rfl rfl (Nat.le_of_ble_eq_true rfl) (p_below (by omega)) (fun r38 S38 t38 hq38 => ?_)
  obtain ⟨hr38, hS38, ht38⟩ := hq38
  rw [hS38, ht38]
  have hx : 1 ≤ 1 + r16 ∧ 1 + r16 ≤ 8 := by omega
  have hy : 1 ≤ 1 + r38 ∧ 1 + r38 ≤ 8 := by
    have := hr38.2
    split at this <;> omega
  have hxy : (1 + r16) * (1 + r38) ≤ 32 := by
    refine cwh hx ⟨hy.1, ?_⟩
    have := hr38.2
    split at this <;> omega
  refine cz_iadd rfl ?_
  refine cz_st1 (l' := [(0, _), (1, _), (2, _), (3, _)]) rfl rfl rfl ?_
  refine cz_aload rfl rfl ?_
  refine cz_iload rfl rfl ?_
  refine cz_iload rfl rfl ?_
  refine cz_cV3I rfl rfl rfl cIs0 (Nat.le_of_ble_eq_true rfl) (p_sheet hx hy hxy) (fun r46 S46 t46 hq46 => ?_)
  obtain ⟨ht46, hN⟩ := hq46
  subst ht46
  have hI := cInv_sheet hx hy hxy hN
  have q1 := hN.2.2.2.1
  have q2 := hN.2.2.2.2.1
  have hw := hI.1.1
  have z4 : csum (fun i => S46 4 i) (2 * S46 1 2).toNat = 0 := csum_z _ (fun i a b => hN.2.2.2.2.2.2.1 4 (by omega) (by omega) i a (by omega))
  have z6 : csum (fun i => S46 6 i) (S46 1 2).toNat = 0 := csum_z _ (fun i a b => hN.2.2.2.2.2.2.2.1 6 (by omega) (by omega) i a (by omega))
  refine cz_pop rfl rfl ?_
  refine cz_icst rfl cc_0 ?_
  refine cz_st1 (l' := [(0, _), (1, _), (2, _), (3, _), (4, _)]) rfl rfl rfl ?_
  refine cz_icst rfl cc_0 ?_
  refine cz_st1 (l' := [(0, _), (1, _), (2, _), (3, _), (4, _), (5, _)]) rfl rfl rfl ?_
  refine cz_icst rfl cc_0 ?_
  refine cz_st1 (l' := [(0, _), (1, _), (2, _), (3, _), (4, _), (5, _), (6, _)]) rfl rfl rfl ?_
  have hfin := law_loop (xs := xs) hLs 32 0 S46 0 (by omega) (by omega) hI (by omega)
  rw [z4, z6, q1, q2] at hfin
  exact hfin
