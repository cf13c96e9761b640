/-! What is asked, as mathematics -/
noncomputable def cOC (S : cS) (c w : Int) : Int := if w = 0 then vw S 8 1 c else if w = 1 then vw S 8 2 c else if w = 2 then vw S 8 3 c else if w = 3 then bI (cUp (vw S 8) c) else if w = 4 then S 6 c else if w = 5 then S 5 (2 * c + 1) else if w = 6 then S 5 (2 * c + 0) else csum (cCro S c) (S 1 2).toNat
noncomputable def cOL (S : cS) (x y w : Int) : Int := if w = 0 then cHt (vw S 8) x y else if w = 1 then cTop (vw S 8) x y else if w = 2 then bI (cUp (vw S 8) (cTop (vw S 8) x y)) else if w = 3 then cAt (vw S 8) x y 0 else if w = 4 then bI (cUp (vw S 8) (cAt (vw S 8) x y 0)) else if w = 5 then csum (cHol S x y) (S 1 2).toNat else csum (cGlu S x y) (cHt (vw S 8) x y - 1).toNat
def cOP (S : cS) (c d w : Int) : Int := if cBes S c d = -1 then -1 else if w = 0 then S 2 (2 * c + d) else S 4 (2 * c + d)
noncomputable def cMny (S : cS) (w : Int) : Int := if w = 0 then S 1 0 else if w = 1 then S 1 1 else if w = 2 then vw S 8 0 1 else if w = 3 then vw S 8 0 2 else if w = 4 then S 0 5 else if w = 5 then csum (fun i => bI (S 2 i = 1)) (2 * S 1 2).toNat else if w = 6 then csum (fun i => bI (S 2 i = 2)) (2 * S 1 2).toNat else if w = 7 then csum (fun i => S 4 i) (2 * S 1 2).toNat else if w = 8 then csum (fun i => bI (S 5 i = 2)) (2 * S 1 2).toNat else if w = 9 then csum (fun i => bI (S 5 i = 1)) (2 * S 1 2).toNat else if w = 10 then csum (fun i => S 6 i) (S 1 2).toNat else if w = 11 then cmx (vw S 8 5) 32 else if w = 12 then cNa (vw S 8) else if w = 13 then cNb (vw S 8) else if w = 14 then S 0 6 else S 0 7
theorem cWn_eq (S : cS) : cWn S = csum (fun i => bI (S 5 i = 2)) (2 * S 1 2).toNat := csum_cong _ (fun i a b => bI_iff ⟨fun h => h.2.2, fun h => ⟨a, by omega, h⟩⟩)
/-- two results of a fold show the same -/
theorem cFolded_uni {F G G' : cS} {k : Int} (hF : cGood F) (hk : 8 ≤ k ∧ k < 64) (hln : k / 8 < cTot F k) (h : cFolded F k G) (h' : cFolded F k G') :
    cNa G = cNa G' ∧ ∀ a b, 0 ≤ a → a < F 0 0 → 0 ≤ b → b < F 0 0 → (cUpon G a b ↔ cUpon G' a b) := by
  have hg := (cFold_good hF hk hln h).1
  have hg' := (cFold_good hF hk hln h').1
  have h0 := h
  obtain ⟨g0, g1, g2, g3, g4⟩ := h
  obtain ⟨g0', g1', g2', g3', g4'⟩ := h'
  have hc : ∀ j, 0 ≤ j → j < F 0 0 → G 1 j = G' 1 j ∧ G 2 j = G' 2 j ∧ G 3 j = G' 3 j ∧ G 4 j = G' 4 j := by
    intro j a b
    obtain ⟨a1, a2, a3, a4⟩ := g3 j a b
    obtain ⟨b1, b2, b3, b4⟩ := g3' j a b
    rw [a1, a2, a3, a4, b1, b2, b3, b4]
    exact ⟨rfl, rfl, rfl, rfl⟩
  have hht : ∀ x y, cHt G x y = cHt G' x y := by
    intro x y
    rw [hg.ht, hg'.ht]
    unfold cCt
    rw [g0, g0']
    refine csum_cong _ (fun i a b => bI_iff ?_)
    rw [(hc i a (by omega)).1, (hc i a (by omega)).2.1]
  refine ⟨?_, fun a b a0 a1 b0 b1 => ?_⟩
  · unfold cNa
    rw [g0, g0']
    refine csum_cong _ (fun i a b => bI_iff ?_)
    obtain ⟨c1, c2, c3, c4⟩ := hc i a (by omega)
    unfold cFa cOut cLfa
    rw [hht, c1, c2, c3, c4]
  · obtain ⟨c1, c2, c3, c4⟩ := hc a a0 a1
    obtain ⟨d1, d2, d3, d4⟩ := hc b b0 b1
    unfold cUpon cLies
    rw [c1, c2, c3, d1, d2, d3]
noncomputable def cFx (F : cS) (k : Int) : cS := @dite cS (∃ G, cFolded F k G) (Classical.propDecidable _) (fun h => Classical.choose h) (fun _ => F)
theorem cFx_ok {F G : cS} {k : Int} (h : cFolded F k G) : cFolded F k (cFx F k) := by
  unfold cFx
  rw [dif_pos ⟨G, h⟩]
  exact Classical.choose_spec (⟨G, h⟩ : ∃ G, cFolded F k G)
abbrev cIsC (F : cS) (k : Int) : Prop := cLine F (k / 4 % 2) (k / 8)
theorem cIsC_tot {F : cS} {k : Int} (h : cIsC F k) : k / 8 < cTot F k := by
  unfold cTot
  rcases h with h | h
  · rw [if_pos h.1]; exact h.2.2
  · rw [if_neg (by omega)]; exact h.2.2
noncomputable def cBs1 (F : cS) (k : Int) (r : Int × Int × Int) : Int × Int × Int :=
  @ite _ (cIsC F k ∧ (r.1 = -1 ∨ cNC F k * cNR F k < r.2.1 ∨ (cNC F k * cNR F k = r.2.1 ∧ r.2.2 < cNa (cFx F k)))) (Classical.propDecidable _) (k, cNC F k * cNR F k, cNa (cFx F k)) r
noncomputable def cBst (F : cS) : Nat → Int × Int × Int
  | 0 => (-1, 0, 0)
  | n + 1 => cBs1 F (8 + n) (cBst F n)
noncomputable def cBr1 (F : cS) (a b k : Int) : Bool := @decide (cIsC F k ∧ cUpon (cFx F k) a b) (Classical.propDecidable _)
theorem cBr1_t {F : cS} {a b k : Int} (h : cIsC F k ∧ cUpon (cFx F k) a b) : cBr1 F a b k = true := @decide_eq_true _ (Classical.propDecidable _) h
theorem cBr1_f {F : cS} {a b k : Int} (h : ¬ (cIsC F k ∧ cUpon (cFx F k) a b)) : cBr1 F a b k = false := @decide_eq_false _ (Classical.propDecidable _) h
noncomputable def cBrg (F : cS) (a b : Int) : Int := @ite _ (cUpon F a b) (Classical.propDecidable _) 0 (fnd (cBr1 F a b) 8 56)
def cDg (d : Int64) (v : Int) : Int64 := d * 31 + (cI v).toInt64
def cDf (f : Int → Int) (d : Int64) : Nat → Int64
  | 0 => d
  | k + 1 => cDg (cDf f d k) (f k)
def cIt (f : Int64 → Int → Int64) (d : Int64) : Nat → Int64
  | 0 => d
  | k + 1 => f (cIt f d k) k
noncomputable def cDc (S : cS) (d : Int64) (c : Int) : Int64 := cDg (cDg (cDg (cDg (cDf (cOC S c) d 8) (cOP S c 0 0)) (cOP S c 0 1)) (cOP S c 1 0)) (cOP S c 1 1)
noncomputable def cDp (S : cS) (y : Int) (d : Int64) (x : Int) : Int64 := cDf (cOL S x y) d 7
noncomputable def cDr (S : cS) (d : Int64) (y : Int) : Int64 := cIt (cDp S y) d (vw S 8 0 1).toNat
noncomputable def cDig (S : cS) : Int64 :=
  if 1 < S 1 2 then cDg (cDg (cDg (cIt (cDr S) (cIt (cDc S) (cDf (cMny S) 58302 16) (S 1 2).toNat) (vw S 8 0 2).toNat) (cBst (vw S 8) 56).1) (cHv (vw S 8 0 1) + cHv (vw S 8 0 2))) (cBrg (vw S 8) 0 1)
  else cDg (cDg (cIt (cDr S) (cIt (cDc S) (cDf (cMny S) 58302 16) (S 1 2).toNat) (vw S 8 0 2).toNat) (cBst (vw S 8) 56).1) (cHv (vw S 8 0 1) + cHv (vw S 8 0 2))
/-- what the trial form is doesn't matter -/
abbrev cSm (S S' : cS) : Prop := ∀ a, a < 14 ∨ (20 ≤ a ∧ a < 70) → S' a = S a
theorem cSm.v {S S' : cS} (h : cSm S S') {b : Nat} (hb : b + 6 ≤ 14 ∨ (20 ≤ b ∧ b + 6 ≤ 70)) : vw S' b = vw S b := vw_eq fun a _ _ => h a (by omega)
theorem cSm.trans {S S1 S2 : cS} (h : cSm S S1) (h2 : cSm S1 S2) : cSm S S2 := fun a ha => (h2 a ha).trans (h a ha)
theorem cSm.wd {S S' : cS} (h : cSm S S') (hW : cWd S) : cWd S' := by
  have e8 := h.v (b := 8) (by omega)
  unfold cWd cPw cPb
  rw [h 0 (by omega), h 1 (by omega), h 2 (by omega), h 3 (by omega), h 4 (by omega), h 5 (by omega), e8]
  exact hW
theorem cSm.of_fr {S S' : cS} (h : cFr 14 S S') : cSm S S' := fun a ha => h a (by omega)
theorem cDig_c {S S' : cS} (h : cSm S S') : cDig S' = cDig S := by
  have e8 := h.v (b := 8) (by omega)
  have e0 := h 0 (by omega)
  have e1 := h 1 (by omega)
  have e2 := h 2 (by omega)
  have e4 := h 4 (by omega)
  have e5 := h 5 (by omega)
  have e6 := h 6 (by omega)
  have e7 := h 7 (by omega)
  have b1 : cBes S' = cBes S := by funext c d; unfold cBes; rw [e1]
  have b2 : cCro S' = cCro S := by funext c f; unfold cCro; rw [e2, b1]
  have b3 : cHol S' = cHol S := by funext x y i; unfold cHol; rw [e8, e6]
  have b4 : cGlu S' = cGlu S := by
    funext x y j
    unfold cGlu
    refine bI_iff ?_
    unfold cGl
    rw [e8, e1, e7]
  have b5 : cOC S' = cOC S := by funext c w; unfold cOC; rw [e8, e6, e5, b2, e1]
  have b6 : cOL S' = cOL S := by funext x y w; unfold cOL; rw [e8, b3, b4, e1]
  have b7 : cOP S' = cOP S := by funext c d w; unfold cOP; rw [b1, e2, e4]
  have b8 : cMny S' = cMny S := by funext w; unfold cMny; rw [e0, e1, e2, e4, e5, e6, e8]
  have b9 : cDc S' = cDc S := by funext d c; unfold cDc; rw [b5, b7]
  have b10 : cDp S' = cDp S := by funext y d x; unfold cDp; rw [b6]
  have b11 : cDr S' = cDr S := by funext d y; unfold cDr; rw [b10, e8]
  unfold cDig
  rw [b8, b9, b11, e8, e1]
section CZX
variable {xs : Nat → Int32} {Ls d μ pc pc' : Nat} {l : zLoc} {st : List Value} {S : cS} {t : Nat} {Q : Option Value → cS → Nat → Prop}
theorem cz_name (k : ∀ S1, S1 = S → cZ xs Ls d μ pc l st S1 t Q) : cZ xs Ls d μ pc l st S t Q := k S rfl
theorem cz_dd {g : UInt64 → UInt64 → UInt64} {x y : UInt64} (hc : z_code xs Ls μ pc = some (.inl (zS1 (zDDg g pc')))) (hn : (g x y) &&& 0x7fffffffffffffff ≤ 0x7ff0000000000000) (k : cZ xs Ls d μ pc' l (.double (g x y) :: st) S t Q) : cZ xs Ls d μ pc l (.double y :: .double x :: st) S t Q := cz_s1 hc (if_pos hn) k
theorem cz_i2l {x : Int} (hc : z_code xs Ls μ pc = some (.inl (zS1 (zIL (fun x => x.toInt64) pc')))) (k : cZ xs Ls d μ pc' l (.long (cI x).toInt64 :: st) S t Q) : cZ xs Ls d μ pc l (.int (cI x) :: st) S t Q := cz_s1 hc rfl k
theorem cz_ladd {x y : Int64} (hc : z_code xs Ls μ pc = some (.inl (zS1 (zLL (fun x y => x + y) pc')))) (k : cZ xs Ls d μ pc' l (.long (x + y) :: st) S t Q) : cZ xs Ls d μ pc l (.long y :: .long x :: st) S t Q := cz_s1 hc rfl k
theorem cz_lmul {x y : Int64} (hc : z_code xs Ls μ pc = some (.inl (zS1 (zLL (fun x y => x * y) pc')))) (k : cZ xs Ls d μ pc' l (.long (x * y) :: st) S t Q) : cZ xs Ls d μ pc l (.long y :: .long x :: st) S t Q := cz_s1 hc rfl k
theorem cz_i2d {x : Int} (hc : z_code xs Ls μ pc = some (.inl (zS1 (zID (fun x => FP.i2d x) pc')))) (k : cZ xs Ls d μ pc' l (.double (FP.i2d (cI x)) :: st) S t Q) : cZ xs Ls d μ pc l (.int (cI x) :: st) S t Q := cz_s1 hc rfl k
end CZX
/-! the mean, as the machine computes it -/
def cWv (q : Int) : UInt64 := FP.ddiv (FP.i2d (cI q)) 4616189618054758400
theorem cWv_ok : ∀ q : Fin 65, cWv ((q : Nat) : Int) &&& 0x7fffffffffffffff ≤ 0x7ff0000000000000 := by decide +kernel
theorem cWv_num {q : Int} (h : 0 ≤ q ∧ q ≤ 64) : cWv q &&& 0x7fffffffffffffff ≤ 0x7ff0000000000000 := by
  have := cWv_ok ⟨q.toNat, by omega⟩
  have e : ((q.toNat : Nat) : Int) = q := by omega
  simp only [e] at this
  exact this
theorem cFr_b {F : cS} (hF : cGood F) {k : Int} : -100 ≤ cNa (cFx F k) ∧ cNa (cFx F k) ≤ 100 := by
  unfold cFx
  by_cases h : ∃ G, cFolded F k G
  · rw [dif_pos h]
    have h0 := (Classical.choose_spec h).1
    have := csum_bI (p := fun i => cFa (Classical.choose h) i) ((Classical.choose h) 0 0).toNat
    have h1 := hF.1
    unfold cNa
    omega
  · rw [dif_neg h]
    have := csum_bI (p := fun i => cFa F i) (F 0 0).toNat
    have h1 := hF.1
    unfold cNa
    omega
theorem cNC_b {F : cS} (hs : cSh F) {k : Int} (hk : cIsC F k) : 0 ≤ cNC F k * cNR F k ∧ cNC F k * cNR F k ≤ 64 := by
  have ht := cIsC_tot hk
  have h1 : 1 ≤ k / 8 := by unfold cIsC cLine at hk; omega
  have hn : 0 ≤ cNC F k ∧ cNC F k ≤ 8 ∧ 0 ≤ cNR F k ∧ cNR F k ≤ 8 := by
    unfold cNC cNR cNlen cTot at *
    repeat (first | omega | split at * | split)
  refine ⟨Int.mul_nonneg hn.1 hn.2.2.1, ?_⟩
  have := Int.mul_le_mul hn.2.1 hn.2.2.2 hn.2.2.1 (by omega : (0 : Int) ≤ 8)
  omega
theorem cBst_ran {F : cS} (hF : cGood F) : ∀ m : Nat, m ≤ 56 → ((cBst F m).1 = -1 ∨ (8 ≤ (cBst F m).1 ∧ (cBst F m).1 < 64)) ∧ (0 ≤ (cBst F m).2.1 ∧ (cBst F m).2.1 ≤ 64) ∧ (-100 ≤ (cBst F m).2.2 ∧ (cBst F m).2.2 ≤ 100) := by
  intro m
  induction m with
  | zero => intro _; exact ⟨Or.inl rfl, by show 0 ≤ (0 : Int) ∧ (0 : Int) ≤ 64; omega, by show -100 ≤ (0 : Int) ∧ (0 : Int) ≤ 100; omega⟩
  | succ m ih =>
    intro hm
    have h1 := ih (by omega)
    have e : cBst F (m + 1) = cBs1 F (8 + m) (cBst F m) := rfl
    rw [e]
    unfold cBs1
    by_cases h : cIsC F (8 + m) ∧ ((cBst F m).1 = -1 ∨ cNC F (8 + m) * cNR F (8 + m) < (cBst F m).2.1 ∨ (cNC F (8 + m) * cNR F (8 + m) = (cBst F m).2.1 ∧ (cBst F m).2.2 < cNa (cFx F (8 + m))))
    · rw [if_pos h]
      have h2 := cNC_b hF.2.1 h.1
      have h3 := cFr_b hF (k := 8 + (m : Int))
      refine ⟨Or.inr ?_, h2, h3⟩
      show 8 ≤ 8 + (m : Int) ∧ 8 + (m : Int) < 64
      omega
    · rw [if_neg h]
      exact h1
