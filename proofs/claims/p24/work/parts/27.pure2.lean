/-! The class over its Paper and its Forms, as mathematics -/
abbrev cWd (S : cS) : Prop := cPw S ∧ cPb S ∧ vw S 8 0 0 = S 1 2 ∧ cSh (vw S 8) ∧ cHb (vw S 8) ∧ cPos (vw S 8) ∧ (0 ≤ S 0 5 ∧ S 0 5 ≤ 8)
theorem cBd_of {F : cS} {n : Int} (hn : F 0 0 = n) (hb : 0 ≤ n ∧ n ≤ 32) (hs : cSh F) (hp : cPos F) : cBd F := by
  refine ⟨by omega, by omega, fun i h0 h1 => ?_⟩
  have := hp i h0 h1
  have h2 := hs.2.1
  have h3 := hs.2.2.2.1
  omega
theorem cWd.bd {S : cS} (h : cWd S) : cBd (vw S 8) := cBd_of h.2.2.1 ⟨by have := h.1; omega, by have := h.1; omega⟩ h.2.2.2.1 h.2.2.2.2.2.1
theorem fnd_b {p : Int → Bool} : ∀ (k : Nat) (i : Int), fnd p i k = -1 ∨ (i ≤ fnd p i k ∧ fnd p i k < i + k ∧ p (fnd p i k) = true) := by
  intro k
  induction k with
  | zero => intro i; exact Or.inl rfl
  | succ k ih =>
    intro i
    cases h : p i with
    | true => rw [fnd_t h]; exact Or.inr ⟨by omega, by omega, h⟩
    | false =>
      rw [fnd_f h]
      rcases ih (i + 1) with h1 | h1
      · exact Or.inl h1
      · exact Or.inr ⟨by omega, by omega, h1.2.2⟩
theorem cAt_b {F : cS} (h : 0 ≤ F 0 0) (x y l : Int) : cAt F x y l = -1 ∨ (0 ≤ cAt F x y l ∧ cAt F x y l < F 0 0 ∧ cLies F (cAt F x y l) x y ∧ F 3 (cAt F x y l) = l) := by
  unfold cAt
  rcases fnd_b (p := fun i => decide (cLies F i x y ∧ F 3 i = l)) (F 0 0).toNat 0 with h1 | ⟨h1, h2, h3⟩
  · exact Or.inl h1
  · have h3 := of_decide_eq_true h3
    exact Or.inr ⟨h1, by omega, h3.1, h3.2⟩
/-- a side of a cell that is up (u 1) or down -/
noncomputable def cOs (F : cS) (c u : Int) : Int := 2 * c + bI (bI (cUp F c) = u)
theorem cOs_b (F : cS) (c u : Int) : 2 * c ≤ cOs F c u ∧ cOs F c u ≤ 2 * c + 1 := by
  unfold cOs
  rcases (bI_or : bI (bI (cUp F c) = u) = 0 ∨ _) with h | h <;> omega
noncomputable def cMeet (F : cS) (c k : Int) : Int := if cGoes F c k ∧ cOut F c (cOv k) then (if k % 2 = 1 then cTop F (cMc F c k) (cMr F c k) else cAt F (cMc F c k) (cMr F c k) 0) else -1
theorem cMeet_b {F : cS} (h : 0 ≤ F 0 0) (c k : Int) : cMeet F c k = -1 ∨ (0 ≤ cMeet F c k ∧ cMeet F c k < F 0 0) := by
  unfold cMeet cTop
  split
  · split
    · rcases cAt_b h (cMc F c k) (cMr F c k) (cHt F (cMc F c k) (cMr F c k) - 1) with h1 | h1
      · exact Or.inl h1
      · exact Or.inr ⟨h1.1, h1.2.1⟩
    · rcases cAt_b h (cMc F c k) (cMr F c k) 0 with h1 | h1
      · exact Or.inl h1
      · exact Or.inr ⟨h1.1, h1.2.1⟩
  · exact Or.inl rfl
abbrev cBl (S : cS) (c m k : Int) : Prop := ¬ m = -1 ∧ ((cWet S (cOs (vw S 8) c (cOv k)) ∧ ¬ cWet S (cOs (vw S 8) m (cOv k))) ∨ (¬ cWet S (cOs (vw S 8) c (cOv k)) ∧ cWet S (cOs (vw S 8) m (cOv k))))
abbrev cNewC (S : cS) (c d k : Int) : Prop := ¬ cBes S c d = -1 ∧ S 2 (2 * c + d) = 0 ∧ cBetw (vw S 8) c (cBes S c d) k
noncomputable def cNcr (S : cS) (k c : Int) : Int := bI (cNewC S c 0 k) + bI (cNewC S c 1 k)
theorem cBes_b {S : cS} (hw : cPw S) (hn : S 1 2 = S 1 0 * S 1 1) {c d : Int} (hc : 0 ≤ c ∧ c < S 1 2) : cBes S c d = -1 ∨ (0 ≤ cBes S c d ∧ cBes S c d < S 1 2) := by
  unfold cBes
  split
  · split
    · exact Or.inl rfl
    · rename_i h2
      refine Or.inr ⟨by omega, ?_⟩
      have e := Int.mul_ediv_add_emod c (S 1 0)
      have m1 := Int.emod_lt_of_pos c (by omega : 0 < S 1 0)
      have h3 : c / S 1 0 < S 1 1 := Int.ediv_lt_of_lt_mul (by omega) (by rw [Int.mul_comm, ← hn]; exact hc.2)
      have h4 : S 1 0 * (c / S 1 0 + 1) ≤ S 1 0 * S 1 1 := Int.mul_le_mul_of_nonneg_left (by omega) (by omega)
      rw [Int.mul_add, Int.mul_one, ← hn] at h4
      omega
  · split
    · exact Or.inr ⟨by omega, by omega⟩
    · exact Or.inl rfl
/-- glued twos in a pile -/
noncomputable def cGlu (S : cS) (x y j : Int) : Int := bI (cGl S (cAt (vw S 8) x y j) (cAt (vw S 8) x y (j + 1)))
def cHol (S : cS) (x y i : Int) : Int := if cLies (vw S 8) i x y then S 6 i else 0
/-- wet sides -/
noncomputable def cWn (S : cS) : Int := csum (fun i => bI (cWet S i)) (2 * S 1 2).toNat
theorem csum_upd {f g : Int → Int} {s : Int} : ∀ (n : Nat), (∀ i : Int, 0 ≤ i → i < n → ¬ i = s → g i = f i) → 0 ≤ s → csum g n = csum f n + if s < n then g s - f s else 0 := by
  intro n
  induction n with
  | zero => intro _ h; rw [if_neg (by omega)]; simp [csum]
  | succ n ih =>
    intro h hs
    have h1 := ih (fun i h0 h1 => h i h0 (by omega)) hs
    unfold csum
    rw [h1]
    by_cases hn : s = n
    · rw [if_neg (by omega), if_pos (by omega), hn]
      omega
    · rw [h n (by omega) (by omega) (by omega)]
      by_cases hl : s < n
      · rw [if_pos hl, if_pos (by omega)]; omega
      · rw [if_neg hl, if_neg (by omega)]; omega
/-- one dry side gets wet -/
theorem cWn_set {S : cS} {s : Int} (h : cDry S s) : cWn (setS S 5 s 2) = cWn S + 1 := by
  unfold cWn
  have e : setS S 5 s 2 1 = S 1 := setS_o (by omega)
  rw [e]
  rw [csum_upd (f := fun i => bI (cWet S i)) (s := s) _ ?_ h.1]
  · skip
    rw [if_pos (by omega), bI_pos ⟨h.1, by rw [e]; exact h.2.1, setS_e⟩, bI_neg (fun hh => h.2.2 hh.2.2)]
    omega
  · intro i h0 h1 hne
    refine bI_iff ?_
    unfold cWet
    rw [e, setS_i hne]
theorem csum_even {f : Int → Int} : ∀ (n : Nat), csum f (2 * n) = csum (fun c => f (2 * c) + f (2 * c + 1)) n := by
  intro n
  induction n with
  | zero => rfl
  | succ n ih =>
    show csum f (2 * n + 1 + 1) = _
    unfold csum
    rw [← ih]
    show (csum f (2 * n) + f ((2 * n : Nat) : Int)) + f ((2 * n + 1 : Nat) : Int) = _
    have e1 : ((2 * n : Nat) : Int) = 2 * n := by omega
    have e2 : ((2 * n + 1 : Nat) : Int) = 2 * n + 1 := by omega
    rw [e1, e2]
    omega
