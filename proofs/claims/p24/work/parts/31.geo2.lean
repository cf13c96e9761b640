/-! GEOMETRY, second part: turning over, turning round, a new sheet, a copy; pairs
-/
theorem fnd_c {p q : Int → Bool} : ∀ (k : Nat) (i : Int), (∀ j, i ≤ j → j < i + k → p j = q j) → fnd p i k = fnd q i k := by
  intro k
  induction k with
  | zero => intro i _; rfl
  | succ k ih =>
    intro i h
    have h1 := h i (Int.le_refl i) (by omega)
    have h2 := ih (i + 1) (fun j a b => h j (by omega) (by omega))
    cases hp : p i with
    | true => rw [fnd_t hp, fnd_t (by rw [← h1]; exact hp)]
    | false => rw [fnd_f hp, fnd_f (by rw [← h1]; exact hp), h2]
theorem cAt_c {F G : cS} {x y l x' y' l' : Int} (h0 : G 0 0 = F 0 0) (h : ∀ i, 0 ≤ i → i < F 0 0 → ((cLies G i x y ∧ G 3 i = l) ↔ (cLies F i x' y' ∧ F 3 i = l'))) : cAt G x y l = cAt F x' y' l' := by
  unfold cAt
  rw [h0]
  refine fnd_c _ _ (fun j a b => ?_)
  have := h j a (by omega)
  by_cases hh : cLies F j x' y' ∧ F 3 j = l'
  · rw [decide_eq_true (this.mpr hh), decide_eq_true hh]
  · rw [decide_eq_false (fun h => hh (this.mp h)), decide_eq_false hh]
/-- a form whose cells lie elsewhere, place by place -/
theorem cMap_good {F G : cS} {u v : Int → Int} (hF : cGood F) (h0 : G 0 = F 0) (hm : cMeas G)
    (hu : ∀ x, (0 ≤ x ∧ x < F 0 1) → (0 ≤ u x ∧ u x < F 0 1) ∧ u (u x) = x) (hv : ∀ y, (0 ≤ y ∧ y < F 0 2) → (0 ≤ v y ∧ v y < F 0 2) ∧ v (v y) = y)
    (h1 : ∀ j, 0 ≤ j → j < F 0 0 → G 1 j = u (F 1 j) ∧ G 2 j = v (F 2 j))
    (hl : (∀ j, 0 ≤ j → j < F 0 0 → G 3 j = F 3 j) ∨ (∀ j, 0 ≤ j → j < F 0 0 → G 3 j = cLfa F j))
    (h4 : ∀ j, 0 ≤ j → j < F 0 0 → G 4 j = 0 ∨ G 4 j = 1) : cGood G ∧ ∀ x y, (0 ≤ x ∧ x < F 0 1) → (0 ≤ y ∧ y < F 0 2) → cHt G x y = cHt F (u x) (v y) := by
  have hF0 := hF
  obtain ⟨f1, f2, f3, f4, f5, f6, f7, f8⟩ := hF
  have hs : cSh G := by unfold cSh; rw [h0]; exact f2
  have hht : ∀ x y, (0 ≤ x ∧ x < F 0 1) → (0 ≤ y ∧ y < F 0 2) → cHt G x y = cHt F (u x) (v y) := by
    intro x y hx hy
    rw [cHt_ct hs hm (show cHas G x y by unfold cHas; rw [h0]; exact ⟨hx.1, hx.2, hy.1, hy.2⟩), hF0.ht]
    unfold cCt
    rw [h0]
    refine csum_cong _ (fun i a b => bI_iff ?_)
    have hp := f3 i a (by omega)
    obtain ⟨c1, c2⟩ := h1 i a (by omega)
    rw [c1, c2]
    constructor
    · rintro ⟨d1, d2⟩
      rw [← d1, ← d2]
      exact ⟨(hu _ hp.1).2.symm, (hv _ hp.2.1).2.symm⟩
    · rintro ⟨d1, d2⟩
      rw [d1, d2]
      exact ⟨(hu _ hx).2, (hv _ hy).2⟩
  have hlay : ∀ i, 0 ≤ i → i < F 0 0 → 0 ≤ G 3 i ∧ G 3 i < cHt F (F 1 i) (F 2 i) := by
    intro i a b
    have := f4 i a b
    rcases hl with hl | hl
    · rw [hl i a b]; exact this
    · rw [hl i a b]; unfold cLfa; omega
  refine ⟨⟨by rw [h0]; exact f1, hs, ?_, ?_, ?_, ?_, ?_, hm⟩, hht⟩
  · intro i a b
    rw [h0] at b
    have hp := f3 i a b
    obtain ⟨c1, c2⟩ := h1 i a b
    rw [c1, c2, h0]
    exact ⟨(hu _ hp.1).1, (hv _ hp.2.1).1, h4 i a b⟩
  · intro i a b
    rw [h0] at b
    have hp := f3 i a b
    obtain ⟨c1, c2⟩ := h1 i a b
    rw [c1, c2, hht _ _ (hu _ hp.1).1 (hv _ hp.2.1).1, (hu _ hp.1).2, (hv _ hp.2.1).2]
    exact hlay i a b
  · intro i j a b c d e1 e2 e3
    rw [h0] at b d
    have hp := f3 i a b
    have hq := f3 j c d
    rw [(h1 i a b).1, (h1 j c d).1] at e1
    rw [(h1 i a b).2, (h1 j c d).2] at e2
    have g1 : F 1 i = F 1 j := by rw [← (hu _ hp.1).2, e1, (hu _ hq.1).2]
    have g2 : F 2 i = F 2 j := by rw [← (hv _ hp.2.1).2, e2, (hv _ hq.2.1).2]
    refine f5 i j a b c d g1 g2 ?_
    rcases hl with hl | hl
    · rw [← hl i a b, ← hl j c d, e3]
    · rw [hl i a b, hl j c d] at e3
      unfold cLfa at e3
      rw [g1, g2] at e3
      omega
  · intro x y l hxy l0 l1
    unfold cHas at hxy
    rw [h0] at hxy
    have hx := hu x ⟨hxy.1, hxy.2.1⟩
    have hy := hv y hxy.2.2
    rw [hht x y ⟨hxy.1, hxy.2.1⟩ hxy.2.2] at l1
    rcases hl with hl | hl
    · obtain ⟨i, a1, a2, a3, a4, a5⟩ := f6 (u x) (v y) l ⟨hx.1.1, hx.1.2, hy.1.1, hy.1.2⟩ l0 l1
      exact ⟨i, a1, by rw [h0]; exact a2, by rw [(h1 i a1 a2).1, a3, hx.2], by rw [(h1 i a1 a2).2, a4, hy.2], by rw [hl i a1 a2, a5]⟩
    · obtain ⟨i, a1, a2, a3, a4, a5⟩ := f6 (u x) (v y) (cHt F (u x) (v y) - 1 - l) ⟨hx.1.1, hx.1.2, hy.1.1, hy.1.2⟩ (by omega) (by omega)
      refine ⟨i, a1, by rw [h0]; exact a2, by rw [(h1 i a1 a2).1, a3, hx.2], by rw [(h1 i a1 a2).2, a4, hy.2], ?_⟩
      rw [hl i a1 a2]
      unfold cLfa
      rw [a3, a4, a5]
      omega
  · intro x y hxy
    unfold cHas at hxy
    rw [h0] at hxy
    have hx := hu x ⟨hxy.1, hxy.2.1⟩
    have hy := hv y hxy.2.2
    rw [hht x y ⟨hxy.1, hxy.2.1⟩ hxy.2.2]
    exact f7 _ _ ⟨hx.1.1, hx.1.2, hy.1.1, hy.1.2⟩
abbrev cTurned (F G : cS) : Prop := G 0 = F 0 ∧ (∀ j, 0 ≤ j → j < F 0 0 → G 1 j = F 0 1 - 1 - F 1 j ∧ G 2 j = F 2 j ∧ G 3 j = cLfa F j ∧ G 4 j = 1 - F 4 j) ∧ cMeas G
abbrev cRounded (F G : cS) : Prop := G 0 = F 0 ∧ (∀ j, 0 ≤ j → j < F 0 0 → G 1 j = F 0 1 - 1 - F 1 j ∧ G 2 j = F 0 2 - 1 - F 2 j ∧ G 3 j = F 3 j ∧ G 4 j = F 4 j) ∧ cMeas G
theorem cTurned_good {F G : cS} (hF : cGood F) (h : cTurned F G) : cGood G ∧ ∀ x y, (0 ≤ x ∧ x < F 0 1) → (0 ≤ y ∧ y < F 0 2) → cHt G x y = cHt F (F 0 1 - 1 - x) y := by
  obtain ⟨h0, h1, hm⟩ := h
  refine cMap_good (u := fun x => F 0 1 - 1 - x) (v := fun y => y) hF h0 hm (fun x hx => ⟨by omega, by omega⟩) (fun y hy => ⟨hy, rfl⟩) (fun j a b => ⟨(h1 j a b).1, (h1 j a b).2.1⟩) (Or.inr fun j a b => (h1 j a b).2.2.1) (fun j a b => ?_)
  rw [(h1 j a b).2.2.2]
  have := (hF.2.2.1 j a b).2.2
  omega
theorem cRounded_good {F G : cS} (hF : cGood F) (h : cRounded F G) : cGood G ∧ ∀ x y, (0 ≤ x ∧ x < F 0 1) → (0 ≤ y ∧ y < F 0 2) → cHt G x y = cHt F (F 0 1 - 1 - x) (F 0 2 - 1 - y) := by
  obtain ⟨h0, h1, hm⟩ := h
  refine cMap_good (u := fun x => F 0 1 - 1 - x) (v := fun y => F 0 2 - 1 - y) hF h0 hm (fun x hx => ⟨by omega, by omega⟩) (fun x hx => ⟨by omega, by omega⟩) (fun j a b => ⟨(h1 j a b).1, (h1 j a b).2.1⟩) (Or.inl fun j a b => (h1 j a b).2.2.1) (fun j a b => ?_)
  rw [(h1 j a b).2.2.2]
  exact (hF.2.2.1 j a b).2.2
/-- a cell's place from above, from below -/
theorem cTurned_lfa {F G : cS} (hF : cGood F) (h : cTurned F G) {i : Int} (i0 : 0 ≤ i) (i1 : i < F 0 0) : cLfa G i = F 3 i := by
  have hp := hF.2.2.1 i i0 i1
  obtain ⟨h0, h1, hm⟩ := h
  obtain ⟨a1, a2, a3, a4⟩ := h1 i i0 i1
  have hh := (cTurned_good hF ⟨h0, h1, hm⟩).2 (F 0 1 - 1 - F 1 i) (F 2 i) (by omega) hp.2.1
  have e : F 0 1 - 1 - (F 0 1 - 1 - F 1 i) = F 1 i := by omega
  rw [e] at hh
  unfold cLfa
  rw [a1, a2, a3, hh]
  unfold cLfa
  omega
theorem cRounded_lfa {F G : cS} (hF : cGood F) (h : cRounded F G) {i : Int} (i0 : 0 ≤ i) (i1 : i < F 0 0) : cLfa G i = cLfa F i := by
  have hp := hF.2.2.1 i i0 i1
  obtain ⟨h0, h1, hm⟩ := h
  obtain ⟨a1, a2, a3, a4⟩ := h1 i i0 i1
  have hh := (cRounded_good hF ⟨h0, h1, hm⟩).2 (F 0 1 - 1 - F 1 i) (F 0 2 - 1 - F 2 i) (by omega) (by omega)
  have e : F 0 1 - 1 - (F 0 1 - 1 - F 1 i) = F 1 i := by omega
  have e2 : F 0 2 - 1 - (F 0 2 - 1 - F 2 i) = F 2 i := by omega
  rw [e, e2] at hh
  unfold cLfa
  rw [a1, a2, a3, hh]
noncomputable def cNa (F : cS) : Int := csum (fun i => bI (cFa F i)) (F 0 0).toNat
noncomputable def cNb (F : cS) : Int := csum (fun i => bI (cFb F i)) (F 0 0).toNat
theorem cTurned_n {F G : cS} (hF : cGood F) (h : cTurned F G) : cNa G = cNb F ∧ cNb G = cNa F := by
  have hn : G 0 0 = F 0 0 := by rw [h.1]
  unfold cNa cNb
  rw [hn]
  refine ⟨csum_cong _ (fun i a b => bI_iff ?_), csum_cong _ (fun i a b => bI_iff ?_)⟩
  all_goals
    have hl := cTurned_lfa hF h a (by omega)
    obtain ⟨-, -, a3, a4⟩ := h.2.1 i a (by omega)
    have a5 := (hF.2.2.1 i a (by omega)).2.2
    unfold cFa cFb cOut
    rw [hl, a3, a4]
    omega
theorem cRounded_n {F G : cS} (hF : cGood F) (h : cRounded F G) : cNa G = cNa F ∧ cNb G = cNb F := by
  have hn : G 0 0 = F 0 0 := by rw [h.1]
  unfold cNa cNb
  rw [hn]
  refine ⟨csum_cong _ (fun i a b => bI_iff ?_), csum_cong _ (fun i a b => bI_iff ?_)⟩
  all_goals
    have hl := cRounded_lfa hF h a (by omega)
    obtain ⟨-, -, a3, a4⟩ := h.2.1 i a (by omega)
    first
    | unfold cFa cOut
      rw [hl, a3, a4]
    | unfold cFb cOut
      rw [hl, a3, a4]
theorem cRounded_top {F G : cS} (hF : cGood F) (h : cRounded F G) : cTop G 0 0 = cTop F (F 0 1 - 1) (F 0 2 - 1) := by
  have hs := hF.2.1
  have hh := (cRounded_good hF h).2 0 0 (by omega) (by omega)
  have hn : G 0 0 = F 0 0 := by rw [h.1]
  rw [Int.sub_zero, Int.sub_zero] at hh
  unfold cTop
  rw [hh]
  refine cAt_c hn (fun i a b => ?_)
  obtain ⟨a1, a2, a3, a4⟩ := h.2.1 i a b
  have hp := hF.2.2.1 i a b
  unfold cLies
  rw [a1, a2, a3]
  omega
theorem csum_1 {f : Int → Int} {s : Int} (n : Nat) (hs : 0 ≤ s ∧ s < n) (h : ∀ i : Int, 0 ≤ i → i < n → ¬ i = s → f i = 0) : csum f n = f s := by
  have := csum_upd (f := fun _ => 0) (g := f) (s := s) n (fun i a b c => h i a b c) hs.1
  rw [this, if_pos hs.2, csum_z n (fun _ _ _ => rfl)]
  omega
/-- a new sheet -/
theorem cSpread_good {G : cS} {x y : Int} (hx : 1 ≤ x ∧ x ≤ 8) (hy : 1 ≤ y ∧ y ≤ 8) (hxy : x * y ≤ 32) (g0 : G 0 0 = x * y) (g1 : G 0 1 = x) (g2 : G 0 2 = y)
    (hc : ∀ r c, 0 ≤ r → r < y → 0 ≤ c → c < x → G 1 (x * r + c) = c ∧ G 2 (x * r + c) = r ∧ G 3 (x * r + c) = 0 ∧ G 4 (x * r + c) = 1) (hm : cMeas G) : cGood G := by
  have hs : cSh G := by unfold cSh; rw [g1, g2]; exact ⟨hx.1, hx.2, hy.1, hy.2, hxy⟩
  have hpos : ∀ j, 0 ≤ j → j < x * y → ∃ r c, 0 ≤ r ∧ r < y ∧ 0 ≤ c ∧ c < x ∧ j = x * r + c := fun j h0 h1 => cIdxSplit hx.1 h0 h1
  have hn1 : 1 ≤ x * y := by
    have := Int.mul_le_mul hx.1 hy.1 (by omega) (by omega)
    omega
  have hht : ∀ a b, 0 ≤ a → a < x → 0 ≤ b → b < y → cHt G a b = 1 := by
    intro a b a0 a1 b0 b1
    have hi := cIdx (C := x) (R := y) ⟨a0, a1⟩ ⟨b0, b1⟩
    rw [cHt_ct hs hm (show cHas G a b by unfold cHas; rw [g1, g2]; exact ⟨a0, a1, b0, b1⟩)]
    unfold cCt
    rw [g0, csum_1 (s := x * b + a) _ (by omega)]
    · obtain ⟨c1, c2, -, -⟩ := hc b a b0 b1 a0 a1
      exact bI_pos ⟨c1, c2⟩
    · intro i i0 i1 hne
      refine bI_neg (fun hh => hne ?_)
      obtain ⟨r, c, r0, r1, c0, c1, e⟩ := hpos i i0 (by omega)
      obtain ⟨d1, d2, -, -⟩ := hc r c r0 r1 c0 c1
      rw [e] at hh
      rw [d1, d2] at hh
      rw [e, hh.1, hh.2]
  refine ⟨by rw [g0]; omega, hs, ?_, ?_, ?_, ?_, ?_, hm⟩
  · intro i i0 i1
    rw [g0] at i1
    obtain ⟨r, c, r0, r1, c0, c1, e⟩ := hpos i i0 i1
    obtain ⟨d1, d2, d3, d4⟩ := hc r c r0 r1 c0 c1
    rw [e, d1, d2, d4, g1, g2]
    exact ⟨⟨c0, c1⟩, ⟨r0, r1⟩, Or.inr rfl⟩
  · intro i i0 i1
    rw [g0] at i1
    obtain ⟨r, c, r0, r1, c0, c1, e⟩ := hpos i i0 i1
    obtain ⟨d1, d2, d3, d4⟩ := hc r c r0 r1 c0 c1
    rw [e, d1, d2, d3, hht c r c0 c1 r0 r1]
    omega
  · intro i j i0 i1 j0 j1 e1 e2 _
    rw [g0] at i1 j1
    obtain ⟨r, c, r0, r1, c0, c1, e⟩ := hpos i i0 i1
    obtain ⟨r', c', r0', r1', c0', c1', e'⟩ := hpos j j0 j1
    obtain ⟨d1, d2, -, -⟩ := hc r c r0 r1 c0 c1
    obtain ⟨d1', d2', -, -⟩ := hc r' c' r0' r1' c0' c1'
    rw [e, e', d1, d1'] at e1
    rw [e, e', d2, d2'] at e2
    rw [e, e', e1, e2]
  · intro a b l h l0 l1
    unfold cHas at h
    rw [g1, g2] at h
    rw [hht a b h.1 h.2.1 h.2.2.1 h.2.2.2] at l1
    have hi := cIdx (C := x) (R := y) (x := a) (y := b) ⟨h.1, h.2.1⟩ h.2.2
    obtain ⟨d1, d2, d3, -⟩ := hc b a h.2.2.1 h.2.2.2 h.1 h.2.1
    exact ⟨x * b + a, hi.1, by rw [g0]; exact hi.2, d1, d2, by rw [d3]; omega⟩
  · intro a b h
    unfold cHas at h
    rw [g1, g2] at h
    rw [hht a b h.1 h.2.1 h.2.2.1 h.2.2.2]
    omega
/-- the same form elsewhere -/
abbrev cEq (F G : cS) : Prop := G 0 0 = F 0 0 ∧ G 0 1 = F 0 1 ∧ G 0 2 = F 0 2 ∧ ∀ j, 1 ≤ j → j < 6 → ∀ i, 0 ≤ i → i < 32 → G j i = F j i
theorem cEq.ht {F G : cS} (h : cEq F G) (hs : cSh F) (x y : Int) : cHt G x y = cHt F x y := by
  obtain ⟨e0, e1, e2, e3⟩ := h
  unfold cHt
  have hiff : cHas G x y ↔ cHas F x y := by unfold cHas; rw [e1, e2]
  by_cases hh : cHas F x y
  · rw [if_pos hh, if_pos (hiff.mpr hh), e1]
    have hi := cIdx ⟨hh.1, hh.2.1⟩ hh.2.2
    exact e3 5 (by omega) (by omega) _ hi.1 (by have := hs.2.2.2.2; omega)
  · rw [if_neg hh, if_neg (fun h => hh (hiff.mp h))]
theorem cEq.good {F G : cS} (h : cEq F G) (hF : cGood F) : cGood G := by
  have hht := h.ht hF.2.1
  obtain ⟨e0, e1, e2, e3⟩ := h
  obtain ⟨f1, f2, f3, f4, f5, f6, f7, f8⟩ := hF
  have c1 : ∀ i, 0 ≤ i → i < F 0 0 → G 1 i = F 1 i := fun i a b => e3 1 (by omega) (by omega) i a (by omega)
  have c2 : ∀ i, 0 ≤ i → i < F 0 0 → G 2 i = F 2 i := fun i a b => e3 2 (by omega) (by omega) i a (by omega)
  have c3 : ∀ i, 0 ≤ i → i < F 0 0 → G 3 i = F 3 i := fun i a b => e3 3 (by omega) (by omega) i a (by omega)
  have c4 : ∀ i, 0 ≤ i → i < F 0 0 → G 4 i = F 4 i := fun i a b => e3 4 (by omega) (by omega) i a (by omega)
  have hiff : ∀ x y, cHas G x y ↔ cHas F x y := fun x y => by unfold cHas; rw [e1, e2]
  refine ⟨by rw [e0]; exact f1, by unfold cSh; rw [e1, e2]; exact f2, ?_, ?_, ?_, ?_, ?_, ?_⟩
  · intro i a b
    rw [e0] at b
    rw [c1 i a b, c2 i a b, c4 i a b, e1, e2]
    exact f3 i a b
  · intro i a b
    rw [e0] at b
    rw [c1 i a b, c2 i a b, c3 i a b, hht]
    exact f4 i a b
  · intro i j a b c d
    rw [e0] at b d
    rw [c1 i a b, c2 i a b, c3 i a b, c1 j c d, c2 j c d, c3 j c d]
    exact f5 i j a b c d
  · intro x y l hxy l0 l1
    rw [hht] at l1
    obtain ⟨i, a, b, r⟩ := f6 x y l ((hiff x y).mp hxy) l0 l1
    exact ⟨i, a, by rw [e0]; exact b, by rw [c1 i a b, c2 i a b, c3 i a b]; exact r⟩
  · intro x y hxy
    rw [hht]
    exact f7 x y ((hiff x y).mp hxy)
  · intro p p0 p1
    rw [e3 5 (by omega) (by omega) p p0 p1, f8 p p0 p1, e0]
    refine csum_cong _ (fun i a b => ?_)
    unfold cMf cHas
    rw [c1 i a (by omega), c2 i a (by omega), e1, e2]
/-! PAIRS: cells that are beside each other in the sheet -/
abbrev cSame2 (F : cS) (c e : Int) : Prop := F 1 c = F 1 e ∧ F 2 c = F 2 e
abbrev cNext2 (F : cS) (c e : Int) : Prop := (F 1 c = F 1 e ∧ (F 2 c = F 2 e + 1 ∨ F 2 e = F 2 c + 1)) ∨ (F 2 c = F 2 e ∧ (F 1 c = F 1 e + 1 ∨ F 1 e = F 1 c + 1))
theorem cSame2_al {F : cS} {c e k : Int} : cSame2 F c e ↔ cAl F c k = cAl F e k ∧ cCr F c k = cCr F e k := by
  unfold cSame2 cAl cCr
  by_cases hax : k / 4 % 2 = 0
  · simp only [if_pos hax]
  · simp only [if_neg hax]
    exact ⟨fun h => ⟨h.2, h.1⟩, fun h => ⟨h.2, h.1⟩⟩
theorem cNext2_al {F : cS} {c e k : Int} : cNext2 F c e ↔ (cAl F c k = cAl F e k ∧ (cCr F c k = cCr F e k + 1 ∨ cCr F e k = cCr F c k + 1)) ∨ (cCr F c k = cCr F e k ∧ (cAl F c k = cAl F e k + 1 ∨ cAl F e k = cAl F c k + 1)) := by
  unfold cNext2 cAl cCr
  by_cases hax : k / 4 % 2 = 0
  · simp only [if_pos hax]
  · simp only [if_neg hax]
    exact ⟨fun h => h.symm, fun h => h.symm⟩
theorem cGoes_al {F : cS} {c k : Int} : cGoes F c k ↔ cGA k (cAl F c k) := Iff.rfl
/-- a line lies between two cells that lie beside each other -/
theorem cBetw_al {F : cS} {c e k : Int} (h : cNext2 F c e) : cBetw F c e k ↔ cCr F c k = cCr F e k ∧ cAl F e k = 2 * (k / 8) - 1 - cAl F c k := by
  have hd : (F 1 c - F 1 e) * (F 1 c - F 1 e) + (F 2 c - F 2 e) * (F 2 c - F 2 e) = 1 := by
    rcases h with ⟨h1, h2 | h2⟩ | ⟨h1, h2 | h2⟩
    · rw [h1, h2]
      have e1 : F 1 e - F 1 e = 0 := by omega
      have e2 : F 2 e + 1 - F 2 e = 1 := by omega
      rw [e1, e2]; rfl
    · rw [h1, h2]
      have e1 : F 1 e - F 1 e = 0 := by omega
      have e2 : F 2 c - (F 2 c + 1) = -1 := by omega
      rw [e1, e2]; rfl
    · rw [h1, h2]
      have e1 : F 2 e - F 2 e = 0 := by omega
      have e2 : F 1 e + 1 - F 1 e = 1 := by omega
      rw [e1, e2]; rfl
    · rw [h1, h2]
      have e1 : F 2 e - F 2 e = 0 := by omega
      have e2 : F 1 c - (F 1 c + 1) = -1 := by omega
      rw [e1, e2]; rfl
  unfold cBetw cLies cMc cMr cCr cAl
  by_cases hax : k / 4 % 2 = 0
  · have hax1 : ¬ k / 4 % 2 = 1 := by omega
    simp only [if_pos hax, if_neg hax1]
    exact ⟨fun hh => ⟨hh.2.2.symm, hh.2.1⟩, fun hh => ⟨hd, hh.2, hh.1.symm⟩⟩
  · have hax1 : k / 4 % 2 = 1 := by omega
    simp only [if_neg hax, if_pos hax1]
    exact ⟨fun hh => ⟨hh.2.1.symm, hh.2.2⟩, fun hh => ⟨hd, hh.1.symm, hh.2⟩⟩
/-- what goes apart is parted by the line -/
theorem cApart {F : cS} {c e k : Int} (h : cNext2 F c e) (hg : ¬ (cGoes F c k ↔ cGoes F e k)) : cBetw F c e k := by
  rw [cBetw_al h]
  have h2 := cNext2_al (k := k).mp h
  rw [cGoes_al, cGoes_al] at hg
  unfold cGA at hg
  omega
theorem cFold_same {F G : cS} {k c e : Int} (hG : cFolded F k G) (hF : cGood F) (c0 : 0 ≤ c) (c1 : c < F 0 0) (e0 : 0 ≤ e) (e1 : e < F 0 0) (h : cSame2 F c e) (hu : ¬ F 4 c = F 4 e) : cSame2 G c e ∧ ¬ G 4 c = G 4 e := by
  obtain ⟨gT, gU, gC⟩ := cFold_al hG
  obtain ⟨a1, a2, -, a4⟩ := gC c c0 c1
  obtain ⟨b1, b2, -, b4⟩ := gC e e0 e1
  have h2 := cSame2_al (k := k).mp h
  refine ⟨cSame2_al (k := k).mpr ?_, ?_⟩
  · rw [a1, a2, b1, b2, h2.1, h2.2]
    exact ⟨rfl, rfl⟩
  · rw [a4, b4, h2.1]
    split <;> omega
theorem cGA_mir {k v : Int} : cGA k (2 * (k / 8) - 1 - v) ↔ ¬ cGA k v := by
  unfold cGA
  generalize k / 8 = l
  generalize k / 2 % 2 = f
  omega
theorem cGA_step {k v u : Int} (h : v = u + 1 ∨ u = v + 1) (hn : ¬ u = 2 * (k / 8) - 1 - v) : cGA k v ↔ cGA k u := by
  unfold cGA
  generalize k / 8 = l at *
  generalize k / 2 % 2 = f
  omega
theorem cFold_next {F G : cS} {k c e : Int} (hG : cFolded F k G) (hF : cGood F) (c0 : 0 ≤ c) (c1 : c < F 0 0) (e0 : 0 ≤ e) (e1 : e < F 0 0) (h : cNext2 F c e) (hu : F 4 c = F 4 e) :
    (cBetw F c e k → cSame2 G c e ∧ ¬ G 4 c = G 4 e) ∧ (¬ cBetw F c e k → cNext2 G c e ∧ G 4 c = G 4 e) := by
  obtain ⟨gT, gU, gC⟩ := cFold_al hG
  obtain ⟨a1, a2, -, a4⟩ := gC c c0 c1
  obtain ⟨b1, b2, -, b4⟩ := gC e e0 e1
  have h2 := cNext2_al (k := k).mp h
  have u1 := (hF.2.2.1 c c0 c1).2.2
  have u2 := (hF.2.2.1 e e0 e1).2.2
  have hb := cBetw_al (k := k) h
  clear h hF hG gC gT gU
  rw [cSame2_al (k := k), cNext2_al (k := k), hb, a1, a2, a4, b1, b2, b4]
  clear a1 a2 a4 b1 b2 b4 hb
  generalize cAl F c k = v at *
  generalize cAl F e k = u at *
  generalize cCr F c k = x at *
  generalize cCr F e k = y at *
  generalize F 4 c = p at *
  generalize F 4 e = q at *
  subst hu
  refine ⟨fun hb => ?_, fun hb => ?_⟩
  · obtain ⟨hb1, hb2⟩ := hb
    subst hb2
    by_cases hg : cGA k v
    · have hg2 : ¬ cGA k (2 * (k / 8) - 1 - v) := fun hh => cGA_mir.mp hh hg
      rw [if_pos hg, if_neg hg2, if_pos hg, if_neg hg2]
      omega
    · have hg2 : cGA k (2 * (k / 8) - 1 - v) := cGA_mir.mpr hg
      rw [if_neg hg, if_pos hg2, if_neg hg, if_pos hg2]
      omega
  · have hgg : cGA k v ↔ cGA k u := by
      rcases h2 with h2 | h2
      · rw [h2.1]
      · exact cGA_step h2.2 (fun hh => hb ⟨h2.1, hh⟩)
    by_cases hg : cGA k v
    · have hg2 := hgg.mp hg
      simp only [if_pos hg, if_pos hg2]
      refine ⟨?_, trivial⟩
      rcases h2 with ⟨h3, h4⟩ | ⟨h3, h4⟩
      · exact Or.inl ⟨by rw [h3], h4⟩
      · exact Or.inr ⟨h3, by omega⟩
    · have hg2 : ¬ cGA k u := fun hh => hg (hgg.mpr hh)
      simp only [if_neg hg, if_neg hg2]
      refine ⟨?_, trivial⟩
      rcases h2 with ⟨h3, h4⟩ | ⟨h3, h4⟩
      · exact Or.inl ⟨by rw [h3], h4⟩
      · exact Or.inr ⟨h3, by omega⟩
