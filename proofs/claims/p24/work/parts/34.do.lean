/-! What is done: each call as a relation of what the heap held before and holds behind it -/
theorem setS_b {S : cS} {a : Nat} {i v : Int} {b : Nat} (h : a < b ∨ b + 6 ≤ a) : vw (setS S a i v) b = vw S b := vw_o h
/-- what a fold does: f folds there were, b is where the form ahead of it is kept -/
def cFoldR (S S' : cS) (k made more : Int) : Prop :=
  S' 0 5 = S 0 5 + 1 ∧ S' 0 6 = S 0 6 + more ∧ S' 0 7 = S 0 7 ∧ S' 1 = S 1 ∧ S' 6 = S 6 ∧ S' 7 = S 7 ∧ S' 21 (S 0 5) = k ∧ (∀ q, ¬ q = S 0 5 → S' 21 q = S 21 q) ∧
  cEq (vw S 8) (vw S' (22 + 6 * (S 0 5).toNat)) ∧ (∀ q : Nat, q < (S 0 5).toNat → vw S' (22 + 6 * q) = vw S (22 + 6 * q)) ∧ cFolded (vw S' (22 + 6 * (S 0 5).toNat)) k (vw S' 8) ∧
  (∀ c d, 0 ≤ c → c < S 1 2 → (d = 0 ∨ d = 1) → (cNewC S c d k → (S' 2 (2 * c + d) = 1 ∨ S' 2 (2 * c + d) = 2) ∧ S' 3 (2 * c + d) = S 0 5 + 1 ∧ S' 4 (2 * c + d) = S 4 (2 * c + d) + 1) ∧ (¬ cNewC S c d k → S' 2 (2 * c + d) = S 2 (2 * c + d) ∧ S' 3 (2 * c + d) = S 3 (2 * c + d) ∧ S' 4 (2 * c + d) = S 4 (2 * c + d))) ∧
  (∀ p, 2 * S 1 2 ≤ p → p < 64 → S' 2 p = S 2 p ∧ S' 3 p = S 3 p ∧ S' 4 p = S 4 p) ∧
  (∀ p, 0 ≤ p → p < 64 → 0 ≤ S' 5 p ∧ S' 5 p ≤ 2) ∧ cWn S' = cWn S + more ∧ 0 ≤ more ∧ more ≤ 32 ∧ made = csum (cNcr S k) (S 1 2).toNat
def cUnfR (S S' : cS) : Prop :=
  S' 0 5 = S 0 5 - 1 ∧ S' 0 6 = S 0 6 ∧ S' 0 7 = S 0 7 ∧ (∀ a, 1 ≤ a → a < 8 → ¬ a = 2 → ¬ a = 3 → S' a = S a) ∧ (∀ a, 20 ≤ a → a < 70 → S' a = S a) ∧ cEq (vw S (22 + 6 * (S 0 5 - 1).toNat)) (vw S' 8) ∧
  ∀ p, 0 ≤ p → p < 64 → S' 2 p = (if p < 2 * S 1 2 ∧ S 3 p = S 0 5 then 0 else S 2 p) ∧ S' 3 p = if p < 2 * S 1 2 ∧ S 3 p = S 0 5 then 0 else S 3 p
def cNewS (S' : cS) (x y : Int) : Prop :=
  S' 0 5 = 0 ∧ S' 0 6 = 0 ∧ S' 0 7 = 0 ∧ S' 1 0 = x ∧ S' 1 1 = y ∧ S' 1 2 = x * y ∧ (∀ a, 2 ≤ a → a < 6 → ∀ p, 0 ≤ p → p < 64 → S' a p = 0) ∧ (∀ a, 6 ≤ a → a < 8 → ∀ p, 0 ≤ p → p < 32 → S' a p = 0) ∧ cGood (vw S' 8) ∧ vw S' 8 0 0 = x * y ∧
  ∀ r c, 0 ≤ r → r < y → 0 ≤ c → c < x → vw S' 8 1 (x * r + c) = c ∧ vw S' 8 2 (x * r + c) = r ∧ vw S' 8 4 (x * r + c) = 1
set_option maxRecDepth 20000 in
theorem p_begin {xs : Nat → Int32} {Ls : Nat} {S : cS} {t : Nat} {x y : Int} (hx : 1 ≤ x ∧ x ≤ 8) (hy : 1 ≤ y ∧ y ≤ 8) (hxy : x * y ≤ 32) : cZ xs Ls 3 62 0 [(0, .ref 0), (1, .int (cI x)), (2, .int (cI y))] [] S t (cQV (fun S' t' => t' = t ∧ cNewS S' x y)) := by
  refine cz_aload rfl rfl ?_
  refine cz_getB rfl rfl ?_
  refine cz_iload rfl rfl ?_
  refine cz_iload rfl rfl ?_
  refine cz_cV3V rfl rfl rfl cIs1 (Nat.le_of_ble_eq_true rfl) p_renew (fun S6 t6 hq6 => ?_)
  obtain ⟨ht6, f1, f2, f3, f4, f5, f6⟩ := hq6
  subst ht6
  refine cz_aload rfl rfl ?_
  refine cz_getB rfl rfl ?_
  refine cz_iload rfl rfl ?_
  refine cz_iload rfl rfl ?_
  refine cz_cV3V rfl rfl rfl (cIsF cFm8) (Nat.le_of_ble_eq_true rfl) (p_spread cFm8 hx hy hxy) (fun S15 t15 hq15 => ?_)
  obtain ⟨ht15, g1, g2, g3, g4, g5, g6⟩ := hq15
  subst ht15
  refine cz_aload rfl rfl ?_
  refine cz_icst rfl cc_0 ?_
  refine cz_putB rfl (by decide) ?_
  refine cz_aload rfl rfl ?_
  refine cz_icst rfl cc_0 ?_
  refine cz_putB rfl (by decide) ?_
  refine cz_aload rfl rfl ?_
  refine cz_icst rfl cc_0 ?_
  refine cz_putB rfl (by decide) ?_
  refine cz_ret0 rfl ?_
  refine cQV.mk ⟨rfl, ?_, ?_, ?_, ?_, ?_, ?_, ?_, ?_, ?_, ?_, ?_⟩
  · rw [setS_at, if_neg (by omega), setS_at, if_neg (by omega), setS_at, if_pos (by omega)]
  · rw [setS_at, if_neg (by omega), setS_at, if_pos (by omega)]
  · rw [setS_at, if_pos (by omega)]
  · rw [setS_o (by omega), setS_o (by omega), setS_o (by omega), g1 1 (by omega), f2]
  · rw [setS_o (by omega), setS_o (by omega), setS_o (by omega), g1 1 (by omega), f3]
  · rw [setS_o (by omega), setS_o (by omega), setS_o (by omega), g1 1 (by omega), f4]
  · intro a a0 a1 p p0 p1
    rw [setS_o (by omega), setS_o (by omega), setS_o (by omega), g1 a (by omega)]
    exact f5 a a0 a1 p p0 p1
  · intro a a0 a1 p p0 p1
    rw [setS_o (by omega), setS_o (by omega), setS_o (by omega), g1 a (by omega)]
    exact f6 a a0 a1 p p0 p1
  · rw [vw_o (by omega), vw_o (by omega), vw_o (by omega)]
    exact cSpread_good hx hy hxy g2 g3 g4 g5 g6
  · rw [vw_o (by omega), vw_o (by omega), vw_o (by omega), g2]
  · rw [vw_o (by omega), vw_o (by omega), vw_o (by omega)]
    intro r c a1 a2 a3 a4
    exact ⟨(g5 r c a1 a2 a3 a4).1, (g5 r c a1 a2 a3 a4).2.1, (g5 r c a1 a2 a3 a4).2.2.2⟩
set_option maxRecDepth 20000 in
theorem p_sheet {xs : Nat → Int32} {Ls : Nat} {S : cS} {t : Nat} {x y : Int} (hx : 1 ≤ x ∧ x ≤ 8) (hy : 1 ≤ y ∧ y ≤ 8) (hxy : x * y ≤ 32) : cZ xs Ls 4 43 0 [(0, .ref 0), (1, .int (cI x)), (2, .int (cI y))] [] S t (cQI (fun r S' t' => t' = t ∧ cNewS S' x y)) := by
  have hxy0 : 0 ≤ x * y := Int.mul_nonneg (by omega) (by omega)
  refine cz_iload rfl rfl ?_
  refine cz_icst rfl cc_1 ?_
  refine cz_iclt rfl (by omega) (by omega) (fun hb2 => ?_) (fun hb2 => ?_)
  · exfalso; omega
  refine cz_iload rfl rfl ?_
  refine cz_icst rfl cc_8 ?_
  refine cz_icgt rfl (by omega) (by omega) (fun hb8 => ?_) (fun hb8 => ?_)
  · exfalso; omega
  refine cz_iload rfl rfl ?_
  refine cz_icst rfl cc_1 ?_
  refine cz_iclt rfl (by omega) (by omega) (fun hb13 => ?_) (fun hb13 => ?_)
  · exfalso; omega
  refine cz_iload rfl rfl ?_
  refine cz_icst rfl cc_8 ?_
  refine cz_icle rfl (by omega) (by omega) (fun hb19 => ?_) (fun hb19 => ?_)
  rotate_left
  · exfalso; omega
  refine cz_iload rfl rfl ?_
  refine cz_iload rfl rfl ?_
  refine cz_imul rfl ?_
  refine cz_icst rfl cc_32 ?_
  refine cz_icle rfl (by omega) (by omega) (fun hb37 => ?_) (fun hb37 => ?_)
  rotate_left
  · exfalso; omega
  refine cz_aload rfl rfl ?_
  refine cz_iload rfl rfl ?_
  refine cz_iload rfl rfl ?_
  refine cz_cV3V rfl rfl rfl cIs0 (Nat.le_of_ble_eq_true rfl) (p_begin hx hy hxy) (fun S53 t53 hq53 => ?_)
  obtain ⟨ht53, hS53⟩ := hq53
  subst ht53
  refine cz_aload rfl rfl ?_
  refine cz_getB rfl rfl ?_
  refine cz_getP rfl rfl ?_
  refine cz_retI rfl ?_
  exact cQI.mk ⟨rfl, hS53⟩
set_option maxRecDepth 20000 in
theorem p_fold {xs : Nat → Int32} {Ls : Nat} {S : cS} {t : Nat} (hW : cWd S) (hG : cGood (vw S 8)) (hsz : S 1 2 = S 1 0 * S 1 1) (hfree : ∀ p, 0 ≤ p → p < 64 → S 4 p ≤ 900) (hf8 : S 0 5 < 8) {a l f o : Int} (hl : cLine (vw S 8) a l) (hf : f = 0 ∨ f = 1) (ho : o = 0 ∨ o = 1) : cZ xs Ls 6 44 0 [(0, .ref 0), (1, .int (cI a)), (2, .int (cI l)), (3, .int (cI f)), (4, .int (cI o))] [] S t (cQI (fun r S' t' => t' = t ∧ ∃ more, cFoldR S S' (8 * l + 4 * a + 2 * f + o) r more)) := by
  obtain ⟨hw, hpb, hn, hs, hh, hp, hfo⟩ := id hW
  have hd := hW.bd
  obtain ⟨hw1, hw2, hw3, hw4, hw5, hw6⟩ := id hw
  obtain ⟨hs1, hs2, hs3, hs4, hs5⟩ := id hs
  obtain ⟨hd1, hd2, hd3⟩ := id hd
  have hq1 : (8 * l + 4 * a + 2 * f + o) / 8 = l := by omega
  have hq2 : (8 * l + 4 * a + 2 * f + o) / 4 % 2 = a := by omega
  have hkb : 8 ≤ 8 * l + 4 * a + 2 * f + o ∧ 8 * l + 4 * a + 2 * f + o < 64 := by omega
  have hisc : cIsC (vw S 8) (8 * l + 4 * a + 2 * f + o) := by unfold cIsC; rw [hq1, hq2]; exact hl
  have htot := cIsC_tot hisc
  generalize hgk : 8 * l + 4 * a + 2 * f + o = k at *
  have hbp : cFm (22 + 6 * (S 0 5).toNat) := cFmQ (by omega)
  have hbl := hbp.lt
  have hdis : 22 + 6 * (S 0 5).toNat + 6 ≤ 8 ∨ 8 + 6 ≤ 22 + 6 * (S 0 5).toNat := by omega
  refine cz_aload rfl rfl ?_
  refine cz_iload rfl rfl ?_
  refine cz_iload rfl rfl ?_
  refine cz_cV3PV rfl rfl rfl cIs0 (Nat.le_of_ble_eq_true rfl) (p_requireLine hs (by omega) (by omega) hl) ?_
  refine cz_aload rfl rfl ?_
  refine cz_getB rfl rfl ?_
  refine cz_icst rfl cc_8 ?_
  refine cz_iclt rfl (by omega) (by omega) (fun hb12 => ?_) (fun hb12 => ?_)
  rotate_left
  · exfalso; omega
  refine cz_iload rfl rfl ?_
  refine cz_iload rfl rfl ?_
  refine cz_iload rfl rfl ?_
  refine cz_iload rfl rfl ?_
  refine cz_cS4P rfl rfl rfl rfl (Nat.le_of_ble_eq_true rfl) (p_codeOf hf ho) ?_
  rw [hgk]
  refine cz_st1 (l' := [(0, _), (1, _), (2, _), (3, _), (4, _), (5, _)]) rfl rfl rfl ?_
  refine cz_aload rfl rfl ?_
  refine cz_getB rfl rfl ?_
  refine cz_aload rfl rfl ?_
  refine cz_getB rfl rfl ?_
  refine cz_aaldQ rfl (by omega) ?_
  refine cz_st1 (l' := [(0, _), (1, _), (2, _), (3, _), (4, _), (5, _), (6, _)]) rfl rfl rfl ?_
  refine cz_aload rfl rfl ?_
  refine cz_aload rfl rfl ?_
  refine cz_getB rfl rfl ?_
  refine cz_cV2V rfl rfl rfl (cIsF hbp) (Nat.le_of_ble_eq_true rfl) (p_copyFrom hbp cFm8 hdis) (fun S52 t52 hq52 => ?_)
  obtain ⟨ht52, c1, c2, c3, c4, c5⟩ := hq52
  subst ht52
  have hceq : cEq (vw S 8) (vw S52 (22 + 6 * (S 0 5).toNat)) := ⟨c2, c3, c4, c5⟩
  have hGb := hceq.good hG
  have htotb : k / 8 < cTot (vw S52 (22 + 6 * (S 0 5).toNat)) k := by
    have : cTot (vw S52 (22 + 6 * (S 0 5).toNat)) k = cTot (vw S 8) k := by unfold cTot; rw [c3, c4]
    rw [this]; exact htot
  have s0 : S52 0 = S 0 := c1 0 (by omega)
  have s0f : S52 0 5 = S 0 5 := by rw [s0]
  have s21 : S52 21 = S 21 := c1 21 (by omega)
  have s8 : vw S52 8 = vw S 8 := vw_eq fun a2 _ _ => c1 a2 (by omega)
  refine cz_aload rfl rfl ?_
  refine cz_getB rfl rfl ?_
  refine cz_aload rfl rfl ?_
  refine cz_getB rfl rfl ?_
  refine cz_iload rfl rfl ?_
  refine cz_iastA (a := 21) (n := 8) (by decide) rfl (by omega) rfl (by omega) ?_
  refine cz_aload rfl rfl ?_
  refine cz_dup rfl rfl ?_
  refine cz_getB rfl rfl ?_
  refine cz_icst rfl cc_1 ?_
  refine cz_iadd rfl ?_
  refine cz_putB rfl (by decide) ?_
  refine cz_name (fun S7 hS7 => ?_)
  have t05 : S7 0 5 = S 0 5 + 1 := by rw [hS7, setS_at, if_pos (by omega), setS_o (by omega), s0f]
  have t06 : S7 0 6 = S 0 6 := by rw [hS7, setS_i (by omega), setS_o (by omega), s0]
  have t07 : S7 0 7 = S 0 7 := by rw [hS7, setS_i (by omega), setS_o (by omega), s0]
  have t21 : ∀ q, S7 21 q = if q = S 0 5 then k else S 21 q := by intro q; rw [hS7, setS_o (by omega), setS_at, s0f, s21]
  have tfr : ∀ a2, ¬ a2 = 0 → ¬ a2 = 21 → S7 a2 = S52 a2 := fun a2 h1 h2 => by rw [hS7, setS_o h1, setS_o h2]
  have tS : ∀ a2, ¬ a2 = 0 → ¬ a2 = 21 → ¬ (22 + 6 * (S 0 5).toNat ≤ a2 ∧ a2 < 22 + 6 * (S 0 5).toNat + 6) → S7 a2 = S a2 := fun a2 h1 h2 h3 => by rw [tfr a2 h1 h2]; exact c1 a2 h3
  have t8 : vw S7 8 = vw S 8 := vw_eq fun a2 _ _ => tS a2 (by omega) (by omega) (by omega)
  have tb : vw S7 (22 + 6 * (S 0 5).toNat) = vw S52 (22 + 6 * (S 0 5).toNat) := vw_eq fun a2 _ _ => tfr a2 (by omega) (by omega)
  have hW7 : cWd S7 := by
    unfold cWd cPw cPb
    rw [tS 1 (by omega) (by omega) (by omega), tS 2 (by omega) (by omega) (by omega), tS 3 (by omega) (by omega) (by omega), tS 4 (by omega) (by omega) (by omega), tS 5 (by omega) (by omega) (by omega), t8, t05]
    exact ⟨hw, hpb, hn, hs, hh, hp, by omega⟩
  refine cz_aload rfl rfl ?_
  refine cz_dup rfl rfl ?_
  refine cz_getB rfl rfl ?_
  refine cz_aload rfl rfl ?_
  refine cz_iload rfl rfl ?_
  refine cz_cV2I rfl rfl rfl cIs0 (Nat.le_of_ble_eq_true rfl) (p_spreadInk hW7 (by omega)) (fun r84 S84 t84 hq84 => ?_)
  obtain ⟨ht84, d1, d2, d3, d4, d5⟩ := hq84
  subst ht84
  refine cz_iadd rfl ?_
  refine cz_putB rfl (by decide) ?_
  refine cz_name (fun S8 hS8 => ?_)
  have u05 : S8 0 5 = S 0 5 + 1 := by rw [hS8, setS_i (by omega), d1 0 (by omega), t05]
  have u06 : S8 0 6 = S 0 6 + r84 := by rw [hS8, setS_at, if_pos (by omega), t06]
  have u07 : S8 0 7 = S 0 7 := by rw [hS8, setS_i (by omega), d1 0 (by omega), t07]
  have ufr : ∀ a2, ¬ a2 = 0 → ¬ a2 = 5 → S8 a2 = S7 a2 := fun a2 h1 h2 => by rw [hS8, setS_o h1, d1 a2 h2]
  have u5 : S8 5 = S84 5 := by rw [hS8, setS_o (by omega)]
  have uS : ∀ a2, ¬ a2 = 0 → ¬ a2 = 5 → ¬ a2 = 21 → ¬ (22 + 6 * (S 0 5).toNat ≤ a2 ∧ a2 < 22 + 6 * (S 0 5).toNat + 6) → S8 a2 = S a2 := fun a2 h0 h1 h2 h3 => by rw [ufr a2 h0 h1]; exact tS a2 h0 h2 h3
  have u8 : vw S8 8 = vw S 8 := vw_eq fun a2 _ _ => uS a2 (by omega) (by omega) (by omega) (by omega)
  have ub : vw S8 (22 + 6 * (S 0 5).toNat) = vw S52 (22 + 6 * (S 0 5).toNat) := by rw [← tb]; exact vw_eq fun a2 _ _ => ufr a2 (by omega) (by omega)
  have v1 : S8 1 = S 1 := uS 1 (by omega) (by omega) (by omega) (by omega)
  have v2 : S8 2 = S 2 := uS 2 (by omega) (by omega) (by omega) (by omega)
  have v3 : S8 3 = S 3 := uS 3 (by omega) (by omega) (by omega) (by omega)
  have v4 : S8 4 = S 4 := uS 4 (by omega) (by omega) (by omega) (by omega)
  have hW8 : cWd S8 := by
    unfold cWd cPw cPb
    rw [v1, v2, v3, v4, u5, u8, u05]
    exact ⟨hw, fun p p0 p1 => ⟨(hpb p p0 p1).1, (hpb p p0 p1).2.1, (hpb p p0 p1).2.2.1, d2 p p0 p1⟩, hn, hs, hh, hp, by omega⟩
  have hsz8 : S8 1 2 = S8 1 0 * S8 1 1 := by rw [v1]; exact hsz
  have hfo8 : 1 ≤ S8 0 5 := by rw [u05]; omega
  have hfree8 : ∀ p, 0 ≤ p → p < 64 → S8 4 p ≤ 900 := by rw [v4]; exact hfree
  refine cz_aload rfl rfl ?_
  refine cz_iload rfl rfl ?_
  refine cz_cV2I rfl rfl rfl cIs0 (Nat.le_of_ble_eq_true rfl) (p_creaseAlong hW8 hsz8 hfo8 hfree8 (by omega)) (fun r94 S94 t94 hq94 => ?_)
  obtain ⟨ht94, e1, e2, e3, e4⟩ := hq94
  subst ht94
  have hvb : vw S94 (22 + 6 * (S 0 5).toNat) = vw S52 (22 + 6 * (S 0 5).toNat) := by rw [← ub]; exact vw_eq fun a2 _ _ => e2 a2 (by omega) (by omega) (by omega)
  refine cz_st1 (l' := [(0, _), (1, _), (2, _), (3, _), (4, _), (5, _), (6, _), (7, _)]) rfl rfl rfl ?_
  refine cz_aload rfl rfl ?_
  refine cz_getB rfl rfl ?_
  refine cz_aload rfl rfl ?_
  refine cz_iload rfl rfl ?_
  refine cz_cV3V rfl rfl rfl (cIsF cFm8) (Nat.le_of_ble_eq_true rfl) (p_becomeFolded cFm8 hbp (by omega) (by rw [hvb]; exact hGb.2.1) (by rw [hvb]; exact hGb.bd) (by rw [hvb]; exact hGb.hb) (by rw [hvb]; exact hGb.pos) hkb (by rw [hvb]; exact htotb)) (fun S107 t107 hq107 => ?_)
  obtain ⟨ht107, g1, g2⟩ := hq107
  subst ht107
  refine cz_iload rfl rfl ?_
  refine cz_retI rfl ?_
  have hnc : ∀ c d, cNewC S8 c d k ↔ cNewC S c d k := by
    intro c d
    have hbb : cBes S8 c d = cBes S c d := by unfold cBes; rw [v1]
    unfold cNewC
    rw [hbb, v2, u8]
  have hncr : cNcr S8 k = cNcr S k := by
    funext c
    unfold cNcr
    rw [bI_iff (hnc c 0), bI_iff (hnc c 1)]
  have xf : ∀ a2, ¬ (8 ≤ a2 ∧ a2 < 14) → ¬ a2 = 2 → ¬ a2 = 3 → ¬ a2 = 4 → S107 a2 = S8 a2 := fun a2 h1 h2 h3 h4 => by rw [g1 a2 (by omega), e2 a2 h2 h3 h4]
  have x2 : S107 2 = S94 2 := g1 2 (by omega)
  have x3 : S107 3 = S94 3 := g1 3 (by omega)
  have x4 : S107 4 = S94 4 := g1 4 (by omega)
  have x0 : S107 0 = S8 0 := xf 0 (by omega) (by omega) (by omega) (by omega)
  have x1 : S107 1 = S 1 := by rw [xf 1 (by omega) (by omega) (by omega) (by omega), v1]
  have x5 : S107 5 = S84 5 := by rw [xf 5 (by omega) (by omega) (by omega) (by omega), u5]
  have x21 : S107 21 = S7 21 := by rw [xf 21 (by omega) (by omega) (by omega) (by omega), ufr 21 (by omega) (by omega)]
  have xb : vw S107 (22 + 6 * (S 0 5).toNat) = vw S94 (22 + 6 * (S 0 5).toNat) := vw_eq fun a2 _ _ => g1 a2 (by omega)
  rw [hncr, v1] at e1
  refine cQI.mk ⟨rfl, r84, ?_⟩
  unfold cFoldR
  refine ⟨by rw [x0, u05], by rw [x0, u06], by rw [x0, u07], x1, ?_, ?_, ?_, ?_, ?_, ?_, ?_, ?_, ?_, ?_, ?_, d4, d5, e1⟩
  · rw [xf 6 (by omega) (by omega) (by omega) (by omega)]; exact uS 6 (by omega) (by omega) (by omega) (by omega)
  · rw [xf 7 (by omega) (by omega) (by omega) (by omega)]; exact uS 7 (by omega) (by omega) (by omega) (by omega)
  · rw [x21, t21, if_pos rfl]
  · intro q hq
    rw [x21, t21, if_neg hq]
  · rw [xb, hvb]; exact hceq
  · intro q hq
    refine vw_eq fun a2 h1 h2 => ?_
    rw [xf a2 (by omega) (by omega) (by omega) (by omega)]
    exact uS a2 (by omega) (by omega) (by omega) (by omega)
  · rw [xb]; exact g2
  · intro c d h0 h1 h2
    have h3 := e3 c d h0 (by rw [v1]; exact h1) h2
    unfold cPressed at h3
    rw [v2, v3, v4, u05] at h3
    rw [x2, x3, x4, ← hnc c d]
    exact h3
  · rw [x2, x3, x4]
    intro p p0 p1
    have := e4 p (by rw [v1]; exact p0) p1
    rw [v2, v3, v4] at this
    exact this
  · rw [x5]; exact d2
  · have hw5 : cWn S107 = cWn S84 := by rw [cWn_eq, cWn_eq, x5, x1, d1 1 (by omega), tS 1 (by omega) (by omega) (by omega)]
    have hw6 : cWn S7 = cWn S := by rw [cWn_eq, cWn_eq, tS 5 (by omega) (by omega) (by omega), tS 1 (by omega) (by omega) (by omega)]
    rw [hw5, d3, hw6]
