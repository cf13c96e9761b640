/-! The check of the law: its loops
-/
noncomputable def cVal (S : cS) (j c : Int) : Int := bI (S 2 (2 * c + 0) = j) + bI (S 2 (2 * c + 1) = j)
noncomputable def cInk (S : cS) (c : Int) : Int := bI (0 < S 5 (2 * c + 1)) + bI (0 < S 5 (2 * c + 0))
theorem csum_s (f : Int → Int) {k : Int} (hk : 0 ≤ k) : csum f (k + 1).toNat = csum f k.toNat + f k := by
  have e1 : (k + 1).toNat = k.toNat + 1 := by omega
  have e2 : ((k.toNat : Nat) : Int) = k := by omega
  rw [e1]
  show csum f k.toNat + f ((k.toNat : Nat) : Int) = _
  rw [e2]
set_option maxRecDepth 20000 in
theorem so_cells {xs : Nat → Int32} {Ls : Nat} {S : cS} {M : Int} {t a : Nat} {Q : Option Value → cS → Nat → Prop} (h : cInv S M) (hM : M ≤ 900) (hla : cLen a = 2) (ha70 : 70 ≤ a) (hat : a < 70 + t) (k403 : ∀ S1 : cS, cSm S S1 → S1 a 0 = csum (vw S 8 1) (S 1 2).toNat → S1 a 1 = csum (vw S 8 2) (S 1 2).toNat → cZ xs Ls 6 91 403 [(0, .ref 0), (1, .int (cI (S 1 0))), (3, .int (cI (S 1 2))), (4, .ref a), (5, .int (cI (csum (cVal S 1) (S 1 2).toNat))), (6, .int (cI (csum (cVal S 2) (S 1 2).toNat))), (7, .int (cI (csum (cInk S) (S 1 2).toNat)))] [] S1 t Q) : ∀ (n : Nat) (k : Int) (S1 : cS), 0 ≤ k → k + n = S 1 2 → cSm S S1 → S1 a 0 = csum (vw S 8 1) k.toNat → S1 a 1 = csum (vw S 8 2) k.toNat → cZ xs Ls 6 91 21 [(0, .ref 0), (1, .int (cI (S 1 0))), (3, .int (cI (S 1 2))), (4, .ref a), (5, .int (cI (csum (cVal S 1) k.toNat))), (6, .int (cI (csum (cVal S 2) k.toNat))), (7, .int (cI (csum (cInk S) k.toNat))), (8, .int (cI k))] [] S1 t Q := by
  have hW := h.wd hM
  obtain ⟨⟨hw, hsz⟩, ⟨hG, hGn⟩, hf, hpast, hpo, har, hed, hea⟩ := id h
  have hw' := id hw
  have hp := hW.2.2.2.2.2.1
  have hla' : ¬ a = 0 := by omega
  intro n
  induction n with
  | zero =>
    intro k S1 hk0 hk hs1 hs hs'
    have e3 : k = S 1 2 := by omega
    subst e3
    refine cz_iload rfl rfl ?_
    refine cz_iload rfl rfl ?_
    refine cz_icge rfl (by omega) (by omega) (fun hb24 => ?_) (fun hb24 => ?_)
    rotate_left
    · exfalso; omega
    refine cz_weak (fun i => i == 0 || i == 1 || i == 3 || i == 4 || i == 5 || i == 6 || i == 7) (l' := [(0, _), (1, _), (3, _), (4, _), (5, _), (6, _), (7, _)]) rfl ?_
    exact k403 S1 hs1 hs hs'
  | succ n ih =>
    intro k S1 hk0 hk hs1 hs hs'
    have hkk : 0 ≤ k ∧ k < S 1 2 := by omega
    have hpk := hp k hk0 (by omega)
    have hly := hG.2.2.2.1 k hk0 (by omega)
    have hak := hG.atEq hk0 (by omega)
    have hcro := cCro_b hkk
    have hb0 := (bI_or : bI (¬ S 2 (2 * k + 0) = 0) = 0 ∨ _)
    have hb1 := (bI_or : bI (¬ S 2 (2 * k + 1) = 0) = 0 ∨ _)
    refine cz_iload rfl rfl ?_
    refine cz_iload rfl rfl ?_
    refine cz_icge rfl (by omega) (by omega) (fun hb24 => ?_) (fun hb24 => ?_)
    · exfalso; omega
    refine cz_aload rfl rfl ?_
    refine cz_iload rfl rfl ?_
    refine cz_icst rfl cc_0 ?_
    refine cz_cV3P rfl rfl rfl cIs0 (Nat.le_of_ble_eq_true rfl) (q_ofCell0 hs1 hW hkk) ?_
    refine cz_st1 (l' := [(0, _), (1, _), (3, _), (4, _), (5, _), (6, _), (7, _), (8, _), (9, _)]) rfl rfl rfl ?_
    refine cz_aload rfl rfl ?_
    refine cz_iload rfl rfl ?_
    refine cz_icst rfl cc_1 ?_
    refine cz_cV3P rfl rfl rfl cIs0 (Nat.le_of_ble_eq_true rfl) (q_ofCell1 hs1 hW hkk) ?_
    refine cz_st1 (l' := [(0, _), (1, _), (3, _), (4, _), (5, _), (6, _), (7, _), (8, _), (9, _), (10, _)]) rfl rfl rfl ?_
    refine cz_aload rfl rfl ?_
    refine cz_icst rfl cc_0 ?_
    refine cz_dup2 rfl rfl rfl ?_
    refine cz_ialdA (a := a) (n := 2) (by omega) (by exact hla) (by omega) rfl (by omega) ?_
    refine cz_iload rfl rfl ?_
    refine cz_iadd rfl ?_
    refine cz_iastA (a := a) (n := 2) (by omega) (by exact hla) (by omega) rfl (by omega) ?_
    refine cz_aload rfl rfl ?_
    refine cz_icst rfl cc_1 ?_
    refine cz_dup2 rfl rfl rfl ?_
    refine cz_ialdA (a := a) (n := 2) (by omega) (by exact hla) (by omega) rfl (by omega) ?_
    refine cz_iload rfl rfl ?_
    refine cz_iadd rfl ?_
    refine cz_iastA (a := a) (n := 2) (by omega) (by exact hla) (by omega) rfl (by omega) ?_
    refine cz_name (fun S3 hS3 => ?_)
    have hs3 : cSm S S3 := by
      intro a2 ha2
      rw [hS3, setS_o (by omega), setS_o (by omega)]
      exact hs1 a2 ha2
    have hs3a : S3 a 0 = csum (vw S 8 1) (k + 1).toNat := by rw [hS3, setS_i (by omega), setS_e, hs, csum_s _ hk0]
    have hs3b : S3 a 1 = csum (vw S 8 2) (k + 1).toNat := by rw [hS3, setS_e, setS_i (by omega), hs', csum_s _ hk0]
    refine cz_aload rfl rfl ?_
    refine cz_iload rfl rfl ?_
    refine cz_iload rfl rfl ?_
    refine cz_aload rfl rfl ?_
    refine cz_iload rfl rfl ?_
    refine cz_icst rfl cc_2 ?_
    refine cz_cV3P rfl rfl rfl cIs0 (Nat.le_of_ble_eq_true rfl) (q_ofCell2 hs3 hW hkk) ?_
    refine cz_cV4P rfl rfl rfl cIs0 (Nat.le_of_ble_eq_true rfl) (q_at hs3 hW ⟨by omega, by omega, by omega, by omega⟩ hly) ?_
    rw [hak]
    refine cz_iload rfl rfl ?_
    refine cz_iceq_same rfl (by rfl) ?_
    refine cz_icst rfl cc_5 ?_
    refine cz_st1 (l' := [(0, _), (1, _), (3, _), (4, _), (5, _), (6, _), (7, _), (8, _), (9, _), (10, _), (11, _)]) rfl rfl rfl ?_
    refine so_side5 h hM hs3 hkk ?_
    refine so_side6 h hM hs3 hkk ?_
    refine cz_iload rfl rfl ?_
    refine cz_icst rfl cc_7 ?_
    refine cz_icge rfl (by omega) (by omega) (fun hb92 => ?_) (fun hb92 => ?_)
    rotate_left
    · exfalso; omega
    refine cz_icst rfl cc_0 ?_
    refine cz_st1 (l' := [(0, _), (1, _), (3, _), (4, _), (5, _), (6, _), (7, _), (8, _), (9, _), (10, _), (11, _)]) rfl rfl rfl ?_
    refine cz_icst rfl cc_0 ?_
    refine cz_st1 (l' := [(0, _), (1, _), (3, _), (4, _), (5, _), (6, _), (7, _), (8, _), (9, _), (10, _), (11, _), (12, _)]) rfl rfl rfl ?_
    refine so_way0 h hM hs3 hkk ?_
    refine so_way1 h hM hs3 hkk ?_
    refine cz_iload rfl rfl ?_
    refine cz_icst rfl cc_2 ?_
    refine cz_icge rfl (by omega) (by omega) (fun hb131 => ?_) (fun hb131 => ?_)
    rotate_left
    · exfalso; omega
    refine cz_aload rfl rfl ?_
    refine cz_iload rfl rfl ?_
    refine cz_icst rfl cc_7 ?_
    refine cz_cV3P rfl rfl rfl cIs0 (Nat.le_of_ble_eq_true rfl) (q_ofCell7 hs3 hW hkk) ?_
    refine cz_iload rfl rfl ?_
    refine cz_iclt rfl (by omega) (by omega) (fun hb380 => ?_) (fun hb380 => ?_)
    · exfalso; omega
    refine cz_aload rfl rfl ?_
    refine cz_iload rfl rfl ?_
    refine cz_icst rfl cc_7 ?_
    refine cz_cV3P rfl rfl rfl cIs0 (Nat.le_of_ble_eq_true rfl) (q_ofCell7 hs3 hW hkk) ?_
    refine cz_icst rfl cc_4 ?_
    refine cz_icle rfl (by omega) (by omega) (fun hb392 => ?_) (fun hb392 => ?_)
    rotate_left
    · exfalso; omega
    refine cz_iinc (l' := [(0, _), (1, _), (3, _), (4, _), (5, _), (6, _), (7, _), (8, _), (9, _), (10, _), (11, _), (12, _)]) rfl cc_1 rfl rfl ?_
    refine cz_goto rfl ?_
    refine cz_weak (fun i => i == 0 || i == 1 || i == 3 || i == 4 || i == 5 || i == 6 || i == 7 || i == 8) (l' := [(0, _), (1, _), (3, _), (4, _), (5, _), (6, _), (7, _), (8, _)]) rfl ?_
    have hfin := ih (k + 1) S3 (by omega) (by omega) hs3 hs3a hs3b
    rw [csum_s (cVal S 1) hk0, csum_s (cVal S 2) hk0, csum_s (cInk S) hk0] at hfin
    have ev : ∀ j, csum (cVal S j) k.toNat + cVal S j k = csum (cVal S j) k.toNat + bI (S 2 (2 * k + 0) = j) + bI (S 2 (2 * k + 1) = j) := fun j => by unfold cVal; omega
    have ei : csum (cInk S) k.toNat + cInk S k = csum (cInk S) k.toNat + bI (0 < S 5 (2 * k + 1)) + bI (0 < S 5 (2 * k + 0)) := by unfold cInk; omega
    rw [ev 1, ev 2, ei] at hfin
    exact hfin
set_option maxRecDepth 20000 in
theorem so_y {xs : Nat → Int32} {Ls : Nat} {S : cS} {M : Int} {t a : Nat} {Q : Option Value → cS → Nat → Prop} (h : cInv S M) (hM : M ≤ 900) {S1 : cS} (hs1 : cSm S S1) {v m n x : Int} (hx : 0 ≤ x ∧ x < vw S 8 0 1) (k418 : ∀ hh : Int, (0 ≤ hh ∧ hh ≤ 32) → (∀ x2 y2, cHas (vw S 8) x2 y2 → (x2 < (x + 1) ∨ (x2 = (x + 1) ∧ y2 < (0 : Int))) → cHt (vw S 8) x2 y2 ≤ hh) → (((x + 1) = 0 ∧ (0 : Int) = 0 ∧ hh = 0) ∨ ∃ x2 y2, cHas (vw S 8) x2 y2 ∧ cHt (vw S 8) x2 y2 = hh) → cZ xs Ls 6 91 418 [(0, .ref 0), (1, .int (cI (S 1 0))), (3, .int (cI (S 1 2))), (4, .ref a), (5, .int (cI v)), (6, .int (cI m)), (7, .int (cI n)), (8, .int (cI (csum (cPl (fun x y => cHt (vw S 8) x y) (vw S 8 0 2).toNat) (x + 1).toNat))), (9, .int (cI hh)), (10, .int (cI (csum (cPl (fun x y => bI (cUp (vw S 8) (cTop (vw S 8) x y))) (vw S 8 0 2).toNat) (x + 1).toNat))), (11, .int (cI (csum (cPl (fun x y => 1 - bI (cUp (vw S 8) (cAt (vw S 8) x y 0))) (vw S 8 0 2).toNat) (x + 1).toNat))), (12, .int (cI (x + 1)))] [] S1 t Q) : ∀ (r : Nat) (y hh : Int), 0 ≤ y → y + r = vw S 8 0 2 → (0 ≤ hh ∧ hh ≤ 32) → (∀ x2 y2, cHas (vw S 8) x2 y2 → (x2 < x ∨ (x2 = x ∧ y2 < y)) → cHt (vw S 8) x2 y2 ≤ hh) → ((x = 0 ∧ y = 0 ∧ hh = 0) ∨ ∃ x2 y2, cHas (vw S 8) x2 y2 ∧ cHt (vw S 8) x2 y2 = hh) → cZ xs Ls 6 91 431 [(0, .ref 0), (1, .int (cI (S 1 0))), (3, .int (cI (S 1 2))), (4, .ref a), (5, .int (cI v)), (6, .int (cI m)), (7, .int (cI n)), (8, .int (cI (csum (cPl (fun x y => cHt (vw S 8) x y) (vw S 8 0 2).toNat) x.toNat + csum ((fun x y => cHt (vw S 8) x y) x) y.toNat))), (9, .int (cI hh)), (10, .int (cI (csum (cPl (fun x y => bI (cUp (vw S 8) (cTop (vw S 8) x y))) (vw S 8 0 2).toNat) x.toNat + csum ((fun x y => bI (cUp (vw S 8) (cTop (vw S 8) x y))) x) y.toNat))), (11, .int (cI (csum (cPl (fun x y => 1 - bI (cUp (vw S 8) (cAt (vw S 8) x y 0))) (vw S 8 0 2).toNat) x.toNat + csum ((fun x y => 1 - bI (cUp (vw S 8) (cAt (vw S 8) x y 0))) x) y.toNat))), (12, .int (cI x)), (13, .int (cI y))] [] S1 t Q := by
  have hW := h.wd hM
  obtain ⟨⟨hw, hsz⟩, ⟨hG, hGn⟩, hf, hpast, hpo, har, hed, hea⟩ := id h
  have hw' := id hw
  have hp := hW.2.2.2.2.2.1
  intro r
  induction r with
  | zero =>
    intro y hh hy0 hy hb hle hex
    have e3 : y = vw S 8 0 2 := by omega
    subst e3
    refine cz_iload rfl rfl ?_
    refine cz_aload rfl rfl ?_
    refine cz_icst rfl cc_3 ?_
    refine cz_cV2P rfl rfl rfl cIs0 (Nat.le_of_ble_eq_true rfl) (q_many3 hs1 hW) ?_
    refine cz_icge rfl (by omega) (by omega) (fun hb438 => ?_) (fun hb438 => ?_)
    rotate_left
    · exfalso; omega
    refine cz_iinc (l' := [(0, _), (1, _), (3, _), (4, _), (5, _), (6, _), (7, _), (8, _), (9, _), (10, _), (11, _), (12, _), (13, _)]) rfl cc_1 rfl rfl ?_
    refine cz_goto rfl ?_
    refine cz_weak (fun i => i == 0 || i == 1 || i == 3 || i == 4 || i == 5 || i == 6 || i == 7 || i == 8 || i == 9 || i == 10 || i == 11 || i == 12) (l' := [(0, _), (1, _), (3, _), (4, _), (5, _), (6, _), (7, _), (8, _), (9, _), (10, _), (11, _), (12, _)]) rfl ?_
    have hfin := k418 hh hb (fun x2 y2 h2 hc => hle x2 y2 h2 (by omega)) (hex.elim (fun h2 => by have := hG.2.1; omega) Or.inr)
    rw [csum_s (cPl (fun x y => cHt (vw S 8) x y) (vw S 8 0 2).toNat) hx.1, csum_s (cPl (fun x y => bI (cUp (vw S 8) (cTop (vw S 8) x y))) (vw S 8 0 2).toNat) hx.1, csum_s (cPl (fun x y => 1 - bI (cUp (vw S 8) (cAt (vw S 8) x y 0))) (vw S 8 0 2).toNat) hx.1] at hfin
    exact hfin
  | succ r ih =>
    intro y hh hy0 hy hb hle hex
    have hxy : cHas (vw S 8) x y := ⟨by omega, by omega, by omega, by omega⟩
    have hh1 := hG.2.2.2.2.2.2.1 x y hxy
    have hhb := cHt_b hG.2.1 hG.hb x y
    have hglu : csum (cGlu S x y) (cHt (vw S 8) x y - 1).toNat ≤ cHt (vw S 8) x y - 1 ∧ 0 ≤ csum (cGlu S x y) (cHt (vw S 8) x y - 1).toNat := by
      have := csum_bI (p := fun j => cGl S (cAt (vw S 8) x y j) (cAt (vw S 8) x y (j + 1))) (cHt (vw S 8) x y - 1).toNat
      unfold cGlu
      omega
    have hcb1 := cAt_b (F := vw S 8) (by omega) x y (cHt (vw S 8) x y - 1)
    have hcb2 := cAt_b (F := vw S 8) (by omega) x y 0
    have htop : cTop (vw S 8) x y = cAt (vw S 8) x y (cHt (vw S 8) x y - 1) := rfl
    refine cz_iload rfl rfl ?_
    refine cz_aload rfl rfl ?_
    refine cz_icst rfl cc_3 ?_
    refine cz_cV2P rfl rfl rfl cIs0 (Nat.le_of_ble_eq_true rfl) (q_many3 hs1 hW) ?_
    refine cz_icge rfl (by omega) (by omega) (fun hb438 => ?_) (fun hb438 => ?_)
    · exfalso; omega
    refine cz_aload rfl rfl ?_
    refine cz_iload rfl rfl ?_
    refine cz_iload rfl rfl ?_
    refine cz_icst rfl cc_0 ?_
    refine cz_cV4P rfl rfl rfl cIs0 (Nat.le_of_ble_eq_true rfl) (q_ofPlace0 hs1 hW hxy) ?_
    refine cz_st1 (l' := [(0, _), (1, _), (3, _), (4, _), (5, _), (6, _), (7, _), (8, _), (9, _), (10, _), (11, _), (12, _), (13, _), (14, _)]) rfl rfl rfl ?_
    refine cz_iload rfl rfl ?_
    refine cz_iload rfl rfl ?_
    refine cz_iadd rfl ?_
    refine cz_st1 (l' := [(0, _), (1, _), (3, _), (4, _), (5, _), (6, _), (7, _), (8, _), (9, _), (10, _), (11, _), (12, _), (13, _), (14, _)]) rfl rfl rfl ?_
    refine cz_iload rfl rfl ?_
    refine cz_iload rfl rfl ?_
    refine cz_max rfl rfl (by omega) (by omega) ?_
    refine cz_st1 (l' := [(0, _), (1, _), (3, _), (4, _), (5, _), (6, _), (7, _), (8, _), (9, _), (10, _), (11, _), (12, _), (13, _), (14, _)]) rfl rfl rfl ?_
    refine cz_iload rfl rfl ?_
    refine cz_aload rfl rfl ?_
    refine cz_iload rfl rfl ?_
    refine cz_iload rfl rfl ?_
    refine cz_icst rfl cc_2 ?_
    refine cz_cV4P rfl rfl rfl cIs0 (Nat.le_of_ble_eq_true rfl) (q_ofPlace2 hs1 hW hxy) ?_
    refine cz_iadd rfl ?_
    refine cz_st1 (l' := [(0, _), (1, _), (3, _), (4, _), (5, _), (6, _), (7, _), (8, _), (9, _), (10, _), (11, _), (12, _), (13, _), (14, _)]) rfl rfl rfl ?_
    refine cz_iload rfl rfl ?_
    refine cz_icst rfl cc_1 ?_
    refine cz_aload rfl rfl ?_
    refine cz_iload rfl rfl ?_
    refine cz_iload rfl rfl ?_
    refine cz_icst rfl cc_4 ?_
    refine cz_cV4P rfl rfl rfl cIs0 (Nat.le_of_ble_eq_true rfl) (q_ofPlace4 hs1 hW hxy) ?_
    refine cz_isub rfl ?_
    refine cz_iadd rfl ?_
    refine cz_st1 (l' := [(0, _), (1, _), (3, _), (4, _), (5, _), (6, _), (7, _), (8, _), (9, _), (10, _), (11, _), (12, _), (13, _), (14, _)]) rfl rfl rfl ?_
    refine cz_iload rfl rfl ?_
    refine cz_icst rfl cc_1 ?_
    refine cz_iclt rfl (by omega) (by omega) (fun hb501 => ?_) (fun hb501 => ?_)
    · exfalso; omega
    refine cz_aload rfl rfl ?_
    refine cz_iload rfl rfl ?_
    refine cz_iload rfl rfl ?_
    refine cz_icst rfl cc_1 ?_
    refine cz_cV4P rfl rfl rfl cIs0 (Nat.le_of_ble_eq_true rfl) (q_ofPlace1 hs1 hW hxy) ?_
    refine cz_aload rfl rfl ?_
    refine cz_iload rfl rfl ?_
    refine cz_iload rfl rfl ?_
    refine cz_iload rfl rfl ?_
    refine cz_icst rfl cc_1 ?_
    refine cz_isub rfl ?_
    refine cz_cV4P rfl rfl rfl cIs0 (Nat.le_of_ble_eq_true rfl) (q_at hs1 hW hxy (by omega)) ?_
    refine cz_icne_same rfl (by rfl) ?_
    refine cz_aload rfl rfl ?_
    refine cz_iload rfl rfl ?_
    refine cz_iload rfl rfl ?_
    refine cz_icst rfl cc_3 ?_
    refine cz_cV4P rfl rfl rfl cIs0 (Nat.le_of_ble_eq_true rfl) (q_ofPlace3 hs1 hW hxy) ?_
    refine cz_aload rfl rfl ?_
    refine cz_iload rfl rfl ?_
    refine cz_iload rfl rfl ?_
    refine cz_icst rfl cc_0 ?_
    refine cz_cV4P rfl rfl rfl cIs0 (Nat.le_of_ble_eq_true rfl) (q_at hs1 hW hxy (by omega)) ?_
    refine cz_icne_same rfl (by rfl) ?_
    refine cz_aload rfl rfl ?_
    refine cz_iload rfl rfl ?_
    refine cz_iload rfl rfl ?_
    refine cz_icst rfl cc_6 ?_
    refine cz_cV4P rfl rfl rfl cIs0 (Nat.le_of_ble_eq_true rfl) (q_ofPlace6 hs1 hW hxy) ?_
    refine cz_iload rfl rfl ?_
    refine cz_icst rfl cc_1 ?_
    refine cz_isub rfl ?_
    refine cz_icle rfl (by omega) (by omega) (fun hb563 => ?_) (fun hb563 => ?_)
    rotate_left
    · exfalso; omega
    refine cz_iinc (l' := [(0, _), (1, _), (3, _), (4, _), (5, _), (6, _), (7, _), (8, _), (9, _), (10, _), (11, _), (12, _), (13, _), (14, _)]) rfl cc_1 rfl rfl ?_
    refine cz_goto rfl ?_
    refine cz_weak (fun i => i == 0 || i == 1 || i == 3 || i == 4 || i == 5 || i == 6 || i == 7 || i == 8 || i == 9 || i == 10 || i == 11 || i == 12 || i == 13) (l' := [(0, _), (1, _), (3, _), (4, _), (5, _), (6, _), (7, _), (8, _), (9, _), (10, _), (11, _), (12, _), (13, _)]) rfl ?_
    have hfin := ih (y + 1) (if hh < cHt (vw S 8) x y then cHt (vw S 8) x y else hh) (by omega) (by omega) ⟨by split <;> omega, by split <;> omega⟩ (fun x2 y2 h2 hc => by
        by_cases he : x2 = x ∧ y2 = y
        · rw [he.1, he.2]; split <;> omega
        · have := hle x2 y2 h2 (by omega)
          split <;> omega) (by
        by_cases hlt : hh < cHt (vw S 8) x y
        · rw [if_pos hlt]; exact Or.inr ⟨x, y, hxy, rfl⟩
        · rw [if_neg hlt]
          refine Or.inr ?_
          rcases hex with ⟨e1, e2, e3⟩ | hex
          · exfalso; omega
          · exact hex)
    rw [csum_s ((fun x y => cHt (vw S 8) x y) x) hy0, csum_s ((fun x y => bI (cUp (vw S 8) (cTop (vw S 8) x y))) x) hy0, csum_s ((fun x y => 1 - bI (cUp (vw S 8) (cAt (vw S 8) x y 0))) x) hy0, ← Int.add_assoc, ← Int.add_assoc, ← Int.add_assoc] at hfin
    exact hfin
set_option maxRecDepth 20000 in
theorem so_x {xs : Nat → Int32} {Ls : Nat} {S : cS} {M : Int} {t a : Nat} {Q : Option Value → cS → Nat → Prop} (h : cInv S M) (hM : M ≤ 900) {S1 : cS} (hs1 : cSm S S1) {v m n : Int} (k580 : cZ xs Ls 6 91 580 [(0, .ref 0), (1, .int (cI (S 1 0))), (3, .int (cI (S 1 2))), (4, .ref a), (5, .int (cI v)), (6, .int (cI m)), (7, .int (cI n)), (8, .int (cI (S 1 2))), (9, .int (cI (cmx (vw S 8 5) 32))), (10, .int (cI (cNa (vw S 8)))), (11, .int (cI (cNb (vw S 8))))] [] S1 t Q) : ∀ (r : Nat) (x hh : Int), 0 ≤ x → x + r = vw S 8 0 1 → (0 ≤ hh ∧ hh ≤ 32) → (∀ x2 y2, cHas (vw S 8) x2 y2 → (x2 < x ∨ (x2 = x ∧ y2 < (0 : Int))) → cHt (vw S 8) x2 y2 ≤ hh) → ((x = 0 ∧ (0 : Int) = 0 ∧ hh = 0) ∨ ∃ x2 y2, cHas (vw S 8) x2 y2 ∧ cHt (vw S 8) x2 y2 = hh) → cZ xs Ls 6 91 418 [(0, .ref 0), (1, .int (cI (S 1 0))), (3, .int (cI (S 1 2))), (4, .ref a), (5, .int (cI v)), (6, .int (cI m)), (7, .int (cI n)), (8, .int (cI (csum (cPl (fun x y => cHt (vw S 8) x y) (vw S 8 0 2).toNat) x.toNat))), (9, .int (cI hh)), (10, .int (cI (csum (cPl (fun x y => bI (cUp (vw S 8) (cTop (vw S 8) x y))) (vw S 8 0 2).toNat) x.toNat))), (11, .int (cI (csum (cPl (fun x y => 1 - bI (cUp (vw S 8) (cAt (vw S 8) x y 0))) (vw S 8 0 2).toNat) x.toNat))), (12, .int (cI x))] [] S1 t Q := by
  have hW := h.wd hM
  obtain ⟨⟨hw, hsz⟩, ⟨hG, hGn⟩, hf, hpast, hpo, har, hed, hea⟩ := id h
  have hw' := id hw
  have hp := hW.2.2.2.2.2.1
  intro r
  induction r with
  | zero =>
    intro x hh hx0 hx hb hle hex
    have e3 : x = vw S 8 0 1 := by omega
    subst e3
    have q1 := cPl_all hG
    have q2 := cPl_fronts hG
    have q3 := cPl_backs hG
    have q4 := cHigh hG hb.1 (fun x2 y2 h2 => hle x2 y2 h2 (Or.inl h2.2.1)) (hex.elim (fun h2 => by have := hG.2.1; omega) id)
    rw [q1, q2, q3, hGn, ← q4]
    refine cz_iload rfl rfl ?_
    refine cz_aload rfl rfl ?_
    refine cz_icst rfl cc_2 ?_
    refine cz_cV2P rfl rfl rfl cIs0 (Nat.le_of_ble_eq_true rfl) (q_many2 hs1 hW) ?_
    refine cz_icge rfl (by omega) (by omega) (fun hb425 => ?_) (fun hb425 => ?_)
    rotate_left
    · exfalso; omega
    refine cz_weak (fun i => i == 0 || i == 1 || i == 3 || i == 4 || i == 5 || i == 6 || i == 7 || i == 8 || i == 9 || i == 10 || i == 11) (l' := [(0, _), (1, _), (3, _), (4, _), (5, _), (6, _), (7, _), (8, _), (9, _), (10, _), (11, _)]) rfl ?_
    exact k580
  | succ r ih =>
    intro x hh hx0 hx hb hle hex
    refine cz_iload rfl rfl ?_
    refine cz_aload rfl rfl ?_
    refine cz_icst rfl cc_2 ?_
    refine cz_cV2P rfl rfl rfl cIs0 (Nat.le_of_ble_eq_true rfl) (q_many2 hs1 hW) ?_
    refine cz_icge rfl (by omega) (by omega) (fun hb425 => ?_) (fun hb425 => ?_)
    · exfalso; omega
    refine cz_icst rfl cc_0 ?_
    refine cz_st1 (l' := [(0, _), (1, _), (3, _), (4, _), (5, _), (6, _), (7, _), (8, _), (9, _), (10, _), (11, _), (12, _), (13, _)]) rfl rfl rfl ?_
    have hfin := so_y (v := v) (m := m) (n := n) h hM hs1 (x := x) ⟨hx0, by omega⟩ (fun hh2 b1 b2 b3 => ih (x + 1) hh2 (by omega) (by omega) b1 b2 b3) (vw S 8 0 2).toNat 0 hh (by omega) (by omega) hb hle hex
    have z : ∀ f : Int → Int, csum f (0 : Int).toNat = 0 := fun _ => rfl
    rw [z, z, z, Int.add_zero, Int.add_zero, Int.add_zero] at hfin
    exact hfin
