/-! GEOMETRY: forms whose piles are in order, and what folding, turning, turning round make of them -/
noncomputable def cCt (F : cS) (x y : Int) : Int := csum (fun i => bI (F 1 i = x ∧ F 2 i = y)) (F 0 0).toNat
/-- every cell lies once; piles are as high as cells lie in them, no place is empty -/
def cGood (F : cS) : Prop := (1 ≤ F 0 0 ∧ F 0 0 ≤ 32) ∧ cSh F ∧
  (∀ i, 0 ≤ i → i < F 0 0 → (0 ≤ F 1 i ∧ F 1 i < F 0 1) ∧ (0 ≤ F 2 i ∧ F 2 i < F 0 2) ∧ (F 4 i = 0 ∨ F 4 i = 1)) ∧
  (∀ i, 0 ≤ i → i < F 0 0 → 0 ≤ F 3 i ∧ F 3 i < cHt F (F 1 i) (F 2 i)) ∧
  (∀ i j, 0 ≤ i → i < F 0 0 → 0 ≤ j → j < F 0 0 → F 1 i = F 1 j → F 2 i = F 2 j → F 3 i = F 3 j → i = j) ∧
  (∀ x y l, cHas F x y → 0 ≤ l → l < cHt F x y → ∃ i, 0 ≤ i ∧ i < F 0 0 ∧ F 1 i = x ∧ F 2 i = y ∧ F 3 i = l) ∧
  (∀ x y, cHas F x y → 1 ≤ cHt F x y) ∧ cMeas F
theorem csum_bI {p : Int → Prop} (n : Nat) : 0 ≤ csum (fun i => bI (p i)) n ∧ csum (fun i => bI (p i)) n ≤ n := by
  have := csum_b (f := fun i => bI (p i)) (lo := 0) (hi := 1) n (fun i _ _ => by
    rcases (bI_or : bI (p i) = 0 ∨ bI (p i) = 1) with h | h <;> omega)
  omega
theorem csum_z {f : Int → Int} (n : Nat) (h : ∀ i : Int, 0 ≤ i → i < n → f i = 0) : csum f n = 0 := by
  induction n with
  | zero => rfl
  | succ n ih =>
    unfold csum
    rw [ih (fun i h0 h1 => h i h0 (by omega)), h n (by omega) (by omega)]
    rfl
theorem csum_add {f g : Int → Int} (n : Nat) : csum (fun i => f i + g i) n = csum f n + csum g n := by
  induction n with
  | zero => rfl
  | succ n ih =>
    unfold csum
    rw [ih]
    omega
theorem cHt_ct {F : cS} (hs : cSh F) (hm : cMeas F) {x y : Int} (h : cHas F x y) : cHt F x y = cCt F x y := by
  have hi := cIdx ⟨h.1, h.2.1⟩ h.2.2
  unfold cHt
  rw [if_pos h, hm _ hi.1 (by have := hs.2.2.2.2; omega)]
  refine csum_cong _ (fun i _ _ => ?_)
  unfold cMf
  refine bI_iff ⟨fun hh => ?_, fun hh => ?_⟩
  · have := cIdxInj ⟨hh.1.1, hh.1.2.1⟩ ⟨h.1, h.2.1⟩ hh.2
    exact ⟨this.2, this.1⟩
  · rw [hh.1, hh.2]
    exact ⟨h, rfl⟩
theorem cHt_ct2 {F : cS} (hs : cSh F) (hm : cMeas F) (hp : ∀ i, 0 ≤ i → i < F 0 0 → (0 ≤ F 1 i ∧ F 1 i < F 0 1) ∧ (0 ≤ F 2 i ∧ F 2 i < F 0 2)) (x y : Int) : cHt F x y = cCt F x y := by
  by_cases h : cHas F x y
  · exact cHt_ct hs hm h
  · have e : cHt F x y = 0 := if_neg h
    rw [e]
    refine (csum_z _ (fun i h0 h1 => ?_)).symm
    refine bI_neg (fun hh => h ?_)
    have := hp i h0 (by omega)
    rw [hh.1, hh.2] at this
    exact ⟨this.1.1, this.1.2, this.2.1, this.2.2⟩
theorem cGood.ht {F : cS} (h : cGood F) (x y : Int) : cHt F x y = cCt F x y := cHt_ct2 h.2.1 h.2.2.2.2.2.2.2 (fun i h0 h1 => ⟨(h.2.2.1 i h0 h1).1, (h.2.2.1 i h0 h1).2.1⟩) x y
theorem cGood.hb {F : cS} (h : cGood F) : cHb F := by
  intro p hp0 hp1
  rw [h.2.2.2.2.2.2.2 p hp0 hp1]
  have := csum_bI (p := fun i => cHas F (F 1 i) (F 2 i) ∧ F 0 1 * F 2 i + F 1 i = p) (F 0 0).toNat
  have h2 := h.1
  unfold cMf
  omega
theorem cGood.pos {F : cS} (h : cGood F) : cPos F := by
  intro i h0 h1
  have a := h.2.2.1 i h0 h1
  have b := h.2.2.2.1 i h0 h1
  have c := cHt_b h.2.1 h.hb (F 1 i) (F 2 i)
  omega
theorem cGood.bd {F : cS} (h : cGood F) : cBd F := cBd_of rfl ⟨by have := h.1; omega, h.1.2⟩ h.2.1 h.pos
/-- the highest cell of a place: it is there -/
theorem cGood.at {F : cS} (h : cGood F) {x y l : Int} (hp : cHas F x y) (h0 : 0 ≤ l) (h1 : l < cHt F x y) : 0 ≤ cAt F x y l ∧ cAt F x y l < F 0 0 ∧ cLies F (cAt F x y l) x y ∧ F 3 (cAt F x y l) = l := by
  rcases cAt_b (F := F) (by have := h.1; omega) x y l with hn | hn
  · exfalso
    obtain ⟨i, a1, a2, a3, a4, a5⟩ := h.2.2.2.2.2.1 x y l hp h0 h1
    have hf : ∀ (k : Nat) (j : Int), 0 ≤ j → j ≤ i → i < j + k → ¬ fnd (fun i => decide (cLies F i x y ∧ F 3 i = l)) j k = -1 := by
      intro k
      induction k with
      | zero => intro j _ b1 b2; omega
      | succ k ih =>
        intro j b0 b1 b2 hh
        cases hd : (fun i => decide (cLies F i x y ∧ F 3 i = l)) j with
        | true => rw [fnd_t hd] at hh; omega
        | false =>
          rw [fnd_f hd] at hh
          by_cases hji : j = i
          · subst hji
            have := of_decide_eq_false hd
            exact this ⟨⟨a3, a4⟩, a5⟩
          · exact ih (j + 1) (by omega) (by omega) (by omega) hh
    exact hf (F 0 0).toNat 0 (by omega) a1 (by omega) hn
  · exact hn
theorem cGood.atEq {F : cS} (h : cGood F) {i : Int} (h0 : 0 ≤ i) (h1 : i < F 0 0) : cAt F (F 1 i) (F 2 i) (F 3 i) = i := by
  have a := h.2.2.1 i h0 h1
  have b := h.2.2.2.1 i h0 h1
  obtain ⟨c1, c2, c3, c4⟩ := h.at (x := F 1 i) (y := F 2 i) (l := F 3 i) ⟨a.1.1, a.1.2, a.2.1.1, a.2.1.2⟩ b.1 b.2
  exact h.2.2.2.2.1 _ _ c1 c2 h0 h1 c3.1 c3.2 c4
/-! along an axis: k is a code; l its line; far or near -/
def cCr (F : cS) (i k : Int) : Int := if k / 4 % 2 = 0 then F 2 i else F 1 i
def cUtot (F : cS) (k : Int) : Int := if k / 4 % 2 = 0 then F 0 2 else F 0 1
def cHA (F : cS) (k v w : Int) : Int := if k / 4 % 2 = 0 then cHt F v w else cHt F w v
/-- what is in this column (row) goes -/
abbrev cGA (k v : Int) : Prop := (k / 2 % 2 = 1 ∧ k / 8 ≤ v) ∨ (¬ k / 2 % 2 = 1 ∧ ¬ k / 8 ≤ v)
/-- a form in order, seen along an axis -/
def cGoodA (F : cS) (k : Int) : Prop := (1 ≤ F 0 0 ∧ F 0 0 ≤ 32) ∧ (1 ≤ cTot F k ∧ cTot F k ≤ 8 ∧ 1 ≤ cUtot F k ∧ cUtot F k ≤ 8 ∧ cTot F k * cUtot F k ≤ 32) ∧
  (∀ i, 0 ≤ i → i < F 0 0 → (0 ≤ cAl F i k ∧ cAl F i k < cTot F k) ∧ (0 ≤ cCr F i k ∧ cCr F i k < cUtot F k) ∧ (F 4 i = 0 ∨ F 4 i = 1)) ∧
  (∀ i, 0 ≤ i → i < F 0 0 → 0 ≤ F 3 i ∧ F 3 i < cHA F k (cAl F i k) (cCr F i k)) ∧
  (∀ i j, 0 ≤ i → i < F 0 0 → 0 ≤ j → j < F 0 0 → cAl F i k = cAl F j k → cCr F i k = cCr F j k → F 3 i = F 3 j → i = j) ∧
  (∀ v w l, 0 ≤ v → v < cTot F k → 0 ≤ w → w < cUtot F k → 0 ≤ l → l < cHA F k v w → ∃ i, 0 ≤ i ∧ i < F 0 0 ∧ cAl F i k = v ∧ cCr F i k = w ∧ F 3 i = l) ∧
  (∀ v w, 0 ≤ v → v < cTot F k → 0 ≤ w → w < cUtot F k → 1 ≤ cHA F k v w)
theorem cGoodA_of {F : cS} {k : Int} (h : cGood F) : cGoodA F k := by
  obtain ⟨h1, h2, h3, h4, h5, h6, h7, h8⟩ := h
  unfold cGoodA cTot cUtot cAl cCr cHA
  by_cases hax : k / 4 % 2 = 0
  · simp only [if_pos hax]
    exact ⟨h1, h2, h3, h4, h5, fun v w l a1 a2 a3 a4 => h6 v w l ⟨a1, a2, a3, a4⟩, fun v w a1 a2 a3 a4 => h7 v w ⟨a1, a2, a3, a4⟩⟩
  · simp only [if_neg hax]
    refine ⟨h1, ⟨h2.2.2.1, h2.2.2.2.1, h2.1, h2.2.1, by rw [Int.mul_comm]; exact h2.2.2.2.2⟩, fun i a b => ⟨(h3 i a b).2.1, (h3 i a b).1, (h3 i a b).2.2⟩, h4, fun i j a b c d e f g => h5 i j a b c d f e g, fun v w l a1 a2 a3 a4 a5 a6 => ?_, fun v w a1 a2 a3 a4 => h7 w v ⟨a3, a4, a1, a2⟩⟩
    obtain ⟨i, b1, b2, b3, b4, b5⟩ := h6 w v l ⟨a3, a4, a1, a2⟩ a5 a6
    exact ⟨i, b1, b2, b4, b3, b5⟩
theorem cGood_of {F : cS} {k : Int} (h : cGoodA F k) (hm : cMeas F) : cGood F := by
  unfold cGoodA cTot cUtot cAl cCr cHA at h
  by_cases hax : k / 4 % 2 = 0
  · simp only [if_pos hax] at h
    obtain ⟨h1, h2, h3, h4, h5, h6, h7⟩ := h
    exact ⟨h1, h2, h3, h4, h5, fun v w l a => h6 v w l a.1 a.2.1 a.2.2.1 a.2.2.2, fun v w a => h7 v w a.1 a.2.1 a.2.2.1 a.2.2.2, hm⟩
  · simp only [if_neg hax] at h
    obtain ⟨h1, h2, h3, h4, h5, h6, h7⟩ := h
    refine ⟨h1, ⟨h2.2.2.1, h2.2.2.2.1, h2.1, h2.2.1, by rw [Int.mul_comm]; exact h2.2.2.2.2⟩, fun i a b => ⟨(h3 i a b).2.1, (h3 i a b).1, (h3 i a b).2.2⟩, h4, fun i j a b c d e f g => h5 i j a b c d f e g, fun v w l a a5 a6 => ?_, fun v w a => h7 w v a.2.2.1 a.2.2.2 a.1 a.2.1, hm⟩
    obtain ⟨i, b1, b2, b3, b4, b5⟩ := h6 w v l a.2.2.1 a.2.2.2 a.1 a.2.1 a5 a6
    exact ⟨i, b1, b2, b4, b3, b5⟩
/-- a fold, along its axis -/
theorem cFold_al {F G : cS} {k : Int} (hG : cFolded F k G) : cTot G k = cNlen F k ∧ cUtot G k = cUtot F k ∧ ∀ j, 0 ≤ j → j < F 0 0 → cAl G j k = (if cGA k (cAl F j k) then 2 * (k / 8) - 1 - cAl F j k else cAl F j k) - cLst F k ∧ cCr G j k = cCr F j k ∧
    G 3 j = (if (cGA k (cAl F j k) ∧ k % 2 = 1) ∨ (¬ cGA k (cAl F j k) ∧ ¬ k % 2 = 1) then cHA F k (2 * (k / 8) - 1 - cAl F j k) (cCr F j k) else 0) + (if cGA k (cAl F j k) then cHA F k (cAl F j k) (cCr F j k) - 1 - F 3 j else F 3 j) ∧
    G 4 j = if cGA k (cAl F j k) then 1 - F 4 j else F 4 j := by
  obtain ⟨g0, g1, g2, g3, g4⟩ := hG
  unfold cTot cUtot cAl cCr cHA
  by_cases hax : k / 4 % 2 = 0
  · have hax1 : ¬ k / 4 % 2 = 1 := by omega
    simp only [if_pos hax]
    refine ⟨by rw [g1]; exact if_pos hax, by rw [g2]; exact if_pos hax, fun j h0 h1 => ?_⟩
    obtain ⟨a1, a2, a3, a4⟩ := g3 j h0 h1
    have hg : cGoes F j k ↔ cGA k (F 1 j) := by unfold cGoes cAl; rw [if_pos hax]
    have hl : cLfa F j = cHt F (F 1 j) (F 2 j) - 1 - F 3 j := rfl
    rw [a1, a2, a3, a4]
    unfold cNx cNy cLay cNu cMc cMr
    simp only [if_pos hax, if_neg hax1, hg, hl, ite_self, Int.sub_zero]
    trivial
  · have hax1 : k / 4 % 2 = 1 := by omega
    simp only [if_neg hax]
    refine ⟨by rw [g2]; exact if_neg hax, by rw [g1]; exact if_neg hax, fun j h0 h1 => ?_⟩
    obtain ⟨a1, a2, a3, a4⟩ := g3 j h0 h1
    have hg : cGoes F j k ↔ cGA k (F 2 j) := by unfold cGoes cAl; rw [if_neg hax]
    have hl : cLfa F j = cHt F (F 1 j) (F 2 j) - 1 - F 3 j := rfl
    rw [a1, a2, a3, a4]
    unfold cNx cNy cLay cNu cMc cMr
    simp only [if_neg hax, if_pos hax1, hg, hl, ite_self, Int.sub_zero]
    trivial
noncomputable def cCA (F : cS) (k v w : Int) : Int := csum (fun i => bI (cAl F i k = v ∧ cCr F i k = w)) (F 0 0).toNat
theorem cHA_ct {F : cS} {k : Int} (h : ∀ x y, cHt F x y = cCt F x y) (v w : Int) : cHA F k v w = cCA F k v w := by
  unfold cHA cCA cAl cCr
  by_cases hax : k / 4 % 2 = 0
  · simp only [if_pos hax]
    exact h v w
  · simp only [if_neg hax]
    rw [h w v]
    exact csum_cong _ (fun i _ _ => bI_iff ⟨fun h => ⟨h.2, h.1⟩, fun h => ⟨h.2, h.1⟩⟩)
theorem bI_two {P Q R : Prop} (h : P ↔ Q ∨ R) (hn : ¬ (Q ∧ R)) : bI P = bI Q + bI R := by
  by_cases hq : Q
  · have hr : ¬ R := fun hr => hn ⟨hq, hr⟩
    rw [bI_pos (h.mpr (Or.inl hq)), bI_pos hq, bI_neg hr]
    rfl
  · by_cases hr : R
    · rw [bI_pos (h.mpr (Or.inr hr)), bI_neg hq, bI_pos hr]
      rfl
    · rw [bI_neg (fun hp => (h.mp hp).elim hq hr), bI_neg hq, bI_neg hr]
      rfl
theorem cFold_good {F G : cS} {k : Int} (hF : cGood F) (hk : 8 ≤ k ∧ k < 64) (hln : k / 8 < cTot F k) (hG : cFolded F k G) : cGood G ∧ ∀ v w, 0 ≤ v → v < cNlen F k → 0 ≤ w → w < cUtot F k → cHA G k v w = cHA F k (v + cLst F k) w + cHA F k (2 * (k / 8) - 1 - (v + cLst F k)) w := by
  obtain ⟨gT, gU, gC⟩ := cFold_al hG
  have hA := cGoodA_of (k := k) hF
  have hct := cHA_ct (k := k) hF.ht
  obtain ⟨f1, f2, f3, f4, f5, f6, f7⟩ := hA
  have g0 := hG.1
  have gm := hG.2.2.2.2
  have hlst : cLst F k = if k / 2 % 2 = 1 then (if 2 * (k / 8) - cTot F k < 0 then 2 * (k / 8) - cTot F k else 0) else k / 8 := rfl
  have hnl : cNlen F k = if k / 8 < cTot F k - k / 8 then cTot F k - k / 8 else k / 8 := rfl
  -- a new column's old places
  have hX : ∀ v, 0 ≤ v → v < cNlen F k → ¬ cGA k (v + cLst F k) ∧ ((0 ≤ v + cLst F k ∧ v + cLst F k < cTot F k) ∨ (0 ≤ 2 * (k / 8) - 1 - (v + cLst F k) ∧ 2 * (k / 8) - 1 - (v + cLst F k) < cTot F k)) := by
    intro v h0 h1
    rw [hnl] at h1
    rw [hlst]
    unfold cGA
    repeat' split
    all_goals (repeat' (split at h1))
    all_goals omega
  have hpos : ∀ j, 0 ≤ j → j < F 0 0 → 0 ≤ cAl G j k ∧ cAl G j k < cNlen F k := by
    intro j h0 h1
    have a := (f3 j h0 h1).1
    rw [(gC j h0 h1).1, hnl, hlst]
    repeat' split
    all_goals (rename_i h; unfold cGA at *; omega)
  have hcnt : ∀ v w, ¬ cGA k (v + cLst F k) → cCA G k v w = cHA F k (v + cLst F k) w + cHA F k (2 * (k / 8) - 1 - (v + cLst F k)) w := by
    intro v w hn
    rw [hct, hct]
    unfold cCA
    rw [g0, ← csum_add]
    refine csum_cong _ (fun i h0 h1 => ?_)
    obtain ⟨a1, a2, -, -⟩ := gC i h0 (by omega)
    refine bI_two ?_ ?_
    · rw [a1, a2]
      by_cases hg : cGA k (cAl F i k)
      · rw [if_pos hg]
        constructor
        · rintro ⟨b1, b2⟩; exact Or.inr ⟨by omega, b2⟩
        · rintro (⟨b1, b2⟩ | ⟨b1, b2⟩)
          · exfalso; rw [b1] at hg; exact hn hg
          · exact ⟨by omega, b2⟩
      · rw [if_neg hg]
        constructor
        · rintro ⟨b1, b2⟩; exact Or.inl ⟨by omega, b2⟩
        · rintro (⟨b1, b2⟩ | ⟨b1, b2⟩)
          · exact ⟨by omega, b2⟩
          · exfalso
            unfold cGA at hg hn
            omega
    · rintro ⟨⟨b1, -⟩, b2, -⟩; omega
  have hshA : 1 ≤ cNlen F k ∧ cNlen F k ≤ cTot F k := by
    rw [hnl]; split <;> omega
  have hsh2 : cNlen F k * cUtot F k ≤ 32 := by
    have := Int.mul_le_mul_of_nonneg_right hshA.2 (by omega : 0 ≤ cUtot F k)
    omega
  have hGs : cSh G := by
    unfold cSh
    have e1 := hG.2.1
    have e2 := hG.2.2.1
    rw [e1, e2]
    unfold cNC cNR
    unfold cTot cUtot at *
    by_cases hax : k / 4 % 2 = 0
    · simp only [if_pos hax] at *
      exact ⟨hshA.1, by omega, by omega, by omega, hsh2⟩
    · simp only [if_neg hax] at *
      exact ⟨by omega, by omega, hshA.1, by omega, by rw [Int.mul_comm]; exact hsh2⟩
  have hGp : ∀ i, 0 ≤ i → i < G 0 0 → (0 ≤ G 1 i ∧ G 1 i < G 0 1) ∧ (0 ≤ G 2 i ∧ G 2 i < G 0 2) := by
    intro i h0 h1
    rw [g0] at h1
    have a := hpos i h0 h1
    have b := (f3 i h0 h1).2.1
    rw [← (gC i h0 h1).2.1] at b
    rw [← gT] at a
    rw [← gU] at b
    unfold cTot cUtot cAl cCr at *
    by_cases hax : k / 4 % 2 = 0
    · simp only [if_pos hax] at *
      exact ⟨a, b⟩
    · simp only [if_neg hax] at *
      exact ⟨b, a⟩
  have hGct := cHA_ct (k := k) (cHt_ct2 hGs gm hGp)
  have hHA : ∀ v w, 0 ≤ v → v < cNlen F k → cHA G k v w = cHA F k (v + cLst F k) w + cHA F k (2 * (k / 8) - 1 - (v + cLst F k)) w := by
    intro v w h0 h1
    rw [hGct, hcnt v w (hX v h0 h1).1]
  have hHnn : ∀ v w, 0 ≤ cHA F k v w := by
    intro v w
    rw [hct]
    exact (csum_bI _).1
  refine ⟨cGood_of (k := k) ⟨by rw [g0]; exact f1, ?_, ?_, ?_, ?_, ?_, ?_⟩ gm, fun v w h0 h1 _ _ => hHA v w h0 h1⟩
  · rw [gT, gU]; exact ⟨hshA.1, by omega, f2.2.2.1, f2.2.2.2.1, hsh2⟩
  · intro i h0 h1
    rw [g0] at h1
    have a := f3 i h0 h1
    obtain ⟨a1, a2, a3, a4⟩ := gC i h0 h1
    rw [gT, gU, a2, a4]
    refine ⟨hpos i h0 h1, a.2.1, ?_⟩
    split <;> omega
  · intro i h0 h1
    rw [g0] at h1
    have a := f4 i h0 h1
    have hp := hpos i h0 h1
    obtain ⟨a1, a2, a3, a4⟩ := gC i h0 h1
    rw [a2, hHA _ _ hp.1 hp.2, a3, a1]
    have n1 := hHnn (2 * (k / 8) - 1 - cAl F i k) (cCr F i k)
    by_cases hg : cGA k (cAl F i k)
    · rw [if_pos hg, if_pos hg]
      have e1 : 2 * (k / 8) - 1 - cAl F i k - cLst F k + cLst F k = 2 * (k / 8) - 1 - cAl F i k := by omega
      have e2 : 2 * (k / 8) - 1 - (2 * (k / 8) - 1 - cAl F i k) = cAl F i k := by omega
      rw [e1, e2]
      split <;> omega
    · rw [if_neg hg, if_neg hg]
      have e1 : cAl F i k - cLst F k + cLst F k = cAl F i k := by omega
      rw [e1]
      split <;> omega
  · intro i j i0 i1 j0 j1 e1 e2 e3
    rw [g0] at i1 j1
    obtain ⟨a1, a2, a3, -⟩ := gC i i0 i1
    obtain ⟨b1, b2, b3, -⟩ := gC j j0 j1
    have p := f4 i i0 i1
    have q := f4 j j0 j1
    rw [a1, b1] at e1
    rw [a2, b2] at e2
    rw [a3, b3, ← e2] at e3
    rw [← e2] at q
    by_cases hi : cGA k (cAl F i k)
    · by_cases hj : cGA k (cAl F j k)
      · rw [if_pos hi, if_pos hj] at e1
        have e4 : cAl F i k = cAl F j k := by omega
        refine f5 i j i0 i1 j0 j1 e4 e2 ?_
        simp only [hi, hj, e4, if_true, true_and, not_true_eq_false, false_and, or_false] at e3
        omega
      · exfalso
        rw [if_pos hi, if_neg hj] at e1
        have e4 : cAl F j k = 2 * (k / 8) - 1 - cAl F i k := by omega
        have e5 : 2 * (k / 8) - 1 - cAl F j k = cAl F i k := by omega
        rw [if_pos hi, if_neg hj, e5] at e3
        rw [e4] at q
        by_cases ho : k % 2 = 1
        · rw [if_pos (Or.inl ⟨hi, ho⟩), if_neg (fun h => h.elim (fun h => hj h.1) (fun h => h.2 ho))] at e3
          omega
        · rw [if_neg (fun h => h.elim (fun h => ho h.2) (fun h => h.1 hi)), if_pos (Or.inr ⟨hj, ho⟩)] at e3
          omega
    · by_cases hj : cGA k (cAl F j k)
      · exfalso
        rw [if_neg hi, if_pos hj] at e1
        have e4 : cAl F i k = 2 * (k / 8) - 1 - cAl F j k := by omega
        have e5 : 2 * (k / 8) - 1 - cAl F i k = cAl F j k := by omega
        rw [if_neg hi, if_pos hj, e5] at e3
        rw [e4] at p
        by_cases ho : k % 2 = 1
        · rw [if_neg (fun h => h.elim (fun h => hi h.1) (fun h => h.2 ho)), if_pos (Or.inl ⟨hj, ho⟩)] at e3
          omega
        · rw [if_pos (Or.inr ⟨hi, ho⟩), if_neg (fun h => h.elim (fun h => ho h.2) (fun h => h.1 hj))] at e3
          omega
      · rw [if_neg hi, if_neg hj] at e1
        have e4 : cAl F i k = cAl F j k := by omega
        refine f5 i j i0 i1 j0 j1 e4 e2 ?_
        simp only [hi, hj, e4, if_false, false_and, not_false_eq_true, true_and, false_or] at e3
        omega
  · intro v w l v0 v1 w0 w1 l0 l1
    rw [gT] at v1
    rw [gU] at w1
    rw [hHA v w v0 v1] at l1
    obtain ⟨hng, -⟩ := hX v v0 v1
    have hin : ∀ u, 0 < cHA F k u w → 0 ≤ u ∧ u < cTot F k := by
      intro u hu
      refine Classical.byContradiction (fun hc => ?_)
      have : cHA F k u w = 0 := by
        rw [hct]
        refine csum_z _ (fun i h0 h1 => bI_neg (fun hh => hc ?_))
        have := (f3 i h0 (by omega)).1
        rw [hh.1] at this
        exact this
      omega
    -- a stay cell at layer m; a goer at layer m
    have hst : ∀ m, 0 ≤ m → m < cHA F k (v + cLst F k) w → ∃ i, 0 ≤ i ∧ i < F 0 0 ∧ ¬ cGA k (cAl F i k) ∧ cAl F i k = v + cLst F k ∧ cCr F i k = w ∧ F 3 i = m := by
      intro m m0 m1
      have := hin _ (by omega : 0 < cHA F k (v + cLst F k) w)
      obtain ⟨i, b1, b2, b3, b4, b5⟩ := f6 _ w m this.1 this.2 w0 w1 m0 m1
      exact ⟨i, b1, b2, by rw [b3]; exact hng, b3, b4, b5⟩
    have hgo : ∀ m, 0 ≤ m → m < cHA F k (2 * (k / 8) - 1 - (v + cLst F k)) w → ∃ i, 0 ≤ i ∧ i < F 0 0 ∧ cGA k (cAl F i k) ∧ cAl F i k = 2 * (k / 8) - 1 - (v + cLst F k) ∧ cCr F i k = w ∧ F 3 i = m := by
      intro m m0 m1
      have := hin _ (by omega : 0 < cHA F k (2 * (k / 8) - 1 - (v + cLst F k)) w)
      obtain ⟨i, b1, b2, b3, b4, b5⟩ := f6 _ w m this.1 this.2 w0 w1 m0 m1
      exact ⟨i, b1, b2, by rw [b3]; unfold cGA at hng ⊢; omega, b3, b4, b5⟩
    have n1 := hHnn (v + cLst F k) w
    have n2 := hHnn (2 * (k / 8) - 1 - (v + cLst F k)) w
    have fin1 : ∀ i m, 0 ≤ i → i < F 0 0 → ¬ cGA k (cAl F i k) → cAl F i k = v + cLst F k → cCr F i k = w → F 3 i = m → (if ¬ k % 2 = 1 then cHA F k (2 * (k / 8) - 1 - (v + cLst F k)) w else 0) + m = l → ∃ i, 0 ≤ i ∧ i < G 0 0 ∧ cAl G i k = v ∧ cCr G i k = w ∧ G 3 i = l := by
      intro i m b1 b2 b3 b4 b5 b6 b7
      obtain ⟨c1, c2, c3, -⟩ := gC i b1 b2
      refine ⟨i, b1, by rw [g0]; exact b2, ?_, by rw [c2, b5], ?_⟩
      · rw [c1, if_neg b3, b4]; omega
      · rw [c3, if_neg b3, b6, b5, b4, ← b7]
        congr 1
        by_cases ho : k % 2 = 1
        · rw [if_neg (fun h => h.elim (fun h => b3 (by rw [b4]; exact h.1)) (fun h => h.2 ho)), if_neg (fun h => h ho)]
        · rw [if_pos (Or.inr ⟨hng, ho⟩), if_pos ho]
    have fin2 : ∀ i m, 0 ≤ i → i < F 0 0 → cGA k (cAl F i k) → cAl F i k = 2 * (k / 8) - 1 - (v + cLst F k) → cCr F i k = w → F 3 i = m → (if k % 2 = 1 then cHA F k (v + cLst F k) w else 0) + (cHA F k (2 * (k / 8) - 1 - (v + cLst F k)) w - 1 - m) = l → ∃ i, 0 ≤ i ∧ i < G 0 0 ∧ cAl G i k = v ∧ cCr G i k = w ∧ G 3 i = l := by
      intro i m b1 b2 b3 b4 b5 b6 b7
      obtain ⟨c1, c2, c3, -⟩ := gC i b1 b2
      refine ⟨i, b1, by rw [g0]; exact b2, ?_, by rw [c2, b5], ?_⟩
      · rw [c1, if_pos b3, b4]; omega
      · have e5 : 2 * (k / 8) - 1 - (2 * (k / 8) - 1 - (v + cLst F k)) = v + cLst F k := by omega
        have b3' := b3
        rw [b4] at b3'
        rw [c3, if_pos b3, b6, b5, b4, ← b7, e5]
        congr 1
        by_cases ho : k % 2 = 1
        · rw [if_pos (Or.inl ⟨b3', ho⟩), if_pos ho]
        · rw [if_neg (fun h => h.elim (fun h => ho h.2) (fun h => h.1 b3')), if_neg ho]
    by_cases ho : k % 2 = 1
    · by_cases hl : l < cHA F k (v + cLst F k) w
      · obtain ⟨i, b1, b2, b3, b4, b5, b6⟩ := hst l l0 hl
        exact fin1 i l b1 b2 b3 b4 b5 b6 (by rw [if_neg (fun h => h ho)]; omega)
      · obtain ⟨i, b1, b2, b3, b4, b5, b6⟩ := hgo (cHA F k (2 * (k / 8) - 1 - (v + cLst F k)) w - 1 - (l - cHA F k (v + cLst F k) w)) (by omega) (by omega)
        exact fin2 i _ b1 b2 b3 b4 b5 b6 (by rw [if_pos ho]; omega)
    · by_cases hl : l < cHA F k (2 * (k / 8) - 1 - (v + cLst F k)) w
      · obtain ⟨i, b1, b2, b3, b4, b5, b6⟩ := hgo (cHA F k (2 * (k / 8) - 1 - (v + cLst F k)) w - 1 - l) (by omega) (by omega)
        exact fin2 i _ b1 b2 b3 b4 b5 b6 (by rw [if_neg ho]; omega)
      · obtain ⟨i, b1, b2, b3, b4, b5, b6⟩ := hst (l - cHA F k (2 * (k / 8) - 1 - (v + cLst F k)) w) (by omega) (by omega)
        exact fin1 i _ b1 b2 b3 b4 b5 b6 (by rw [if_pos ho]; omega)
  · intro v w v0 v1 w0 w1
    rw [gT] at v1
    rw [gU] at w1
    rw [hHA v w v0 v1]
    have n1 := hHnn (v + cLst F k) w
    have n2 := hHnn (2 * (k / 8) - 1 - (v + cLst F k)) w
    rcases (hX v v0 v1).2 with h | h
    · have := f7 _ w h.1 h.2 w0 w1; omega
    · have := f7 _ w h.1 h.2 w0 w1; omega
