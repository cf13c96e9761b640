/-! The questions once more: what they answer where the heap differs in the trial form and in made arrays alone
-/
theorem cOC_c {S S' : cS} (h : cSm S S') : cOC S' = cOC S := by
  have b1 : cBes S' = cBes S := by funext c d; unfold cBes; rw [h 1 (by omega)]
  have b2 : cCro S' = cCro S := by funext c f; unfold cCro; rw [h 2 (by omega), b1]
  funext c w
  unfold cOC
  rw [h.v (b := 8) (by omega), h 6 (by omega), h 5 (by omega), b2, h 1 (by omega)]
theorem cOL_c {S S' : cS} (h : cSm S S') : cOL S' = cOL S := by
  have e8 := h.v (b := 8) (by omega)
  have b3 : cHol S' = cHol S := by funext x y i; unfold cHol; rw [e8, h 6 (by omega)]
  have b4 : cGlu S' = cGlu S := by
    funext x y j
    unfold cGlu
    refine bI_iff ?_
    unfold cGl
    rw [e8, h 1 (by omega), h 7 (by omega)]
  funext x y w
  unfold cOL
  rw [e8, b3, b4, h 1 (by omega)]
theorem cOP_c {S S' : cS} (h : cSm S S') : cOP S' = cOP S := by
  have b1 : cBes S' = cBes S := by funext c d; unfold cBes; rw [h 1 (by omega)]
  funext c d w
  unfold cOP
  rw [b1, h 2 (by omega), h 4 (by omega)]
theorem cMny_c {S S' : cS} (h : cSm S S') : cMny S' = cMny S := by
  funext w
  unfold cMny
  rw [h 0 (by omega), h 1 (by omega), h 2 (by omega), h 4 (by omega), h 5 (by omega), h 6 (by omega), h.v (b := 8) (by omega)]
section CQ
variable {xs : Nat → Int32} {Ls : Nat} {S S1 : cS} {t : Nat} {M : Int}
theorem q_ofCell (h : cSm S S1) (hW : cWd S) {c w : Int} (hc : 0 ≤ c ∧ c < S 1 2) (hw : 0 ≤ w ∧ w ≤ 7) : cZ xs Ls 3 54 0 [(0, .ref 0), (1, .int (cI c)), (2, .int (cI w))] [] S1 t (cP (cOC S c w) S1 t) := by
  rw [← cOC_c h]
  exact p_ofCell (h.wd hW) (by rw [h 1 (by omega)]; exact hc) hw
theorem q_ofCell0 (h : cSm S S1) (hW : cWd S) {c : Int} (hc : 0 ≤ c ∧ c < S 1 2) : cZ xs Ls 3 54 0 [(0, .ref 0), (1, .int (cI c)), (2, .int (cI 0))] [] S1 t (cP (vw S 8 1 c) S1 t) := q_ofCell (w := 0) h hW hc (by omega)
theorem q_ofCell1 (h : cSm S S1) (hW : cWd S) {c : Int} (hc : 0 ≤ c ∧ c < S 1 2) : cZ xs Ls 3 54 0 [(0, .ref 0), (1, .int (cI c)), (2, .int (cI 1))] [] S1 t (cP (vw S 8 2 c) S1 t) := q_ofCell (w := 1) h hW hc (by omega)
theorem q_ofCell2 (h : cSm S S1) (hW : cWd S) {c : Int} (hc : 0 ≤ c ∧ c < S 1 2) : cZ xs Ls 3 54 0 [(0, .ref 0), (1, .int (cI c)), (2, .int (cI 2))] [] S1 t (cP (vw S 8 3 c) S1 t) := q_ofCell (w := 2) h hW hc (by omega)
theorem cUp_v {F : cS} {n c : Int} (hn : F 0 0 = n) (hp : cPos F) (hc : 0 ≤ c ∧ c < n) : bI (cUp F c) = F 4 c := by
  have := (hp c hc.1 (by omega)).2.2.2
  rcases this with h | h
  · rw [h]; exact bI_neg (fun hh => by have := hh.2.2; omega)
  · rw [h]; exact bI_pos ⟨hc.1, by omega, h⟩
theorem q_ofCell3 (h : cSm S S1) (hW : cWd S) {c : Int} (hc : 0 ≤ c ∧ c < S 1 2) : cZ xs Ls 3 54 0 [(0, .ref 0), (1, .int (cI c)), (2, .int (cI 3))] [] S1 t (cP (vw S 8 4 c) S1 t) := by
  rw [← cUp_v hW.2.2.1 hW.2.2.2.2.2.1 hc]
  exact q_ofCell (w := 3) h hW hc (by omega)
theorem q_ofCell7 (h : cSm S S1) (hW : cWd S) {c : Int} (hc : 0 ≤ c ∧ c < S 1 2) : cZ xs Ls 3 54 0 [(0, .ref 0), (1, .int (cI c)), (2, .int (cI 7))] [] S1 t (cP (csum (cCro S c) (S 1 2).toNat) S1 t) := q_ofCell (w := 7) h hW hc (by omega)
theorem q_ofPair (h : cSm S S1) (hW : cWd S) (hsz : S 1 2 = S 1 0 * S 1 1) {c d w : Int} (hc : 0 ≤ c ∧ c < S 1 2) (hd : d = 0 ∨ d = 1) (hw : 0 ≤ w ∧ w ≤ 1) : cZ xs Ls 2 55 0 [(0, .ref 0), (1, .int (cI c)), (2, .int (cI d)), (3, .int (cI w))] [] S1 t (cP (cOP S c d w) S1 t) := by
  rw [← cOP_c h]
  exact p_ofPair (h.wd hW) (by rw [h 1 (by omega)]; exact hsz) (by rw [h 1 (by omega)]; exact hc) hd hw
theorem q_ofPlace (h : cSm S S1) (hW : cWd S) {x y w : Int} (hxy : cHas (vw S 8) x y) (hw : 0 ≤ w ∧ w ≤ 6) : cZ xs Ls 3 52 0 [(0, .ref 0), (1, .int (cI x)), (2, .int (cI y)), (3, .int (cI w))] [] S1 t (cP (cOL S x y w) S1 t) := by
  rw [← cOL_c h]
  exact p_ofPlace (h.wd hW) (by rw [h.v (b := 8) (by omega)]; exact hxy) hw
theorem q_ofPlace0 (h : cSm S S1) (hW : cWd S) {x y : Int} (hxy : cHas (vw S 8) x y) : cZ xs Ls 3 52 0 [(0, .ref 0), (1, .int (cI x)), (2, .int (cI y)), (3, .int (cI 0))] [] S1 t (cP (cHt (vw S 8) x y) S1 t) := q_ofPlace (w := 0) h hW hxy (by omega)
theorem q_ofPlace1 (h : cSm S S1) (hW : cWd S) {x y : Int} (hxy : cHas (vw S 8) x y) : cZ xs Ls 3 52 0 [(0, .ref 0), (1, .int (cI x)), (2, .int (cI y)), (3, .int (cI 1))] [] S1 t (cP (cTop (vw S 8) x y) S1 t) := q_ofPlace (w := 1) h hW hxy (by omega)
theorem q_ofPlace2 (h : cSm S S1) (hW : cWd S) {x y : Int} (hxy : cHas (vw S 8) x y) : cZ xs Ls 3 52 0 [(0, .ref 0), (1, .int (cI x)), (2, .int (cI y)), (3, .int (cI 2))] [] S1 t (cP (bI (cUp (vw S 8) (cTop (vw S 8) x y))) S1 t) := q_ofPlace (w := 2) h hW hxy (by omega)
theorem q_ofPlace3 (h : cSm S S1) (hW : cWd S) {x y : Int} (hxy : cHas (vw S 8) x y) : cZ xs Ls 3 52 0 [(0, .ref 0), (1, .int (cI x)), (2, .int (cI y)), (3, .int (cI 3))] [] S1 t (cP (cAt (vw S 8) x y 0) S1 t) := q_ofPlace (w := 3) h hW hxy (by omega)
theorem q_ofPlace4 (h : cSm S S1) (hW : cWd S) {x y : Int} (hxy : cHas (vw S 8) x y) : cZ xs Ls 3 52 0 [(0, .ref 0), (1, .int (cI x)), (2, .int (cI y)), (3, .int (cI 4))] [] S1 t (cP (bI (cUp (vw S 8) (cAt (vw S 8) x y 0))) S1 t) := q_ofPlace (w := 4) h hW hxy (by omega)
theorem q_ofPlace6 (h : cSm S S1) (hW : cWd S) {x y : Int} (hxy : cHas (vw S 8) x y) : cZ xs Ls 3 52 0 [(0, .ref 0), (1, .int (cI x)), (2, .int (cI y)), (3, .int (cI 6))] [] S1 t (cP (csum (cGlu S x y) (cHt (vw S 8) x y - 1).toNat) S1 t) := q_ofPlace (w := 6) h hW hxy (by omega)
theorem q_at (h : cSm S S1) (hW : cWd S) {x y l : Int} (hxy : cHas (vw S 8) x y) (hl : 0 ≤ l ∧ l < cHt (vw S 8) x y) : cZ xs Ls 2 53 0 [(0, .ref 0), (1, .int (cI x)), (2, .int (cI y)), (3, .int (cI l))] [] S1 t (cP (cAt (vw S 8) x y l) S1 t) := by
  rw [← h.v (b := 8) (by omega)]
  exact p_at (h.wd hW) (by rw [h.v (b := 8) (by omega)]; exact hxy) (by rw [h.v (b := 8) (by omega)]; exact hl)
theorem q_many (h : cSm S S1) (hW : cWd S) {w : Int} (hw : 0 ≤ w ∧ w ≤ 15) : cZ xs Ls 5 56 0 [(0, .ref 0), (1, .int (cI w))] [] S1 t (cP (cMny S w) S1 t) := by
  rw [← cMny_c h]
  exact p_many (h.wd hW) hw
theorem q_many2 (h : cSm S S1) (hW : cWd S) : cZ xs Ls 5 56 0 [(0, .ref 0), (1, .int (cI 2))] [] S1 t (cP (vw S 8 0 1) S1 t) := q_many (w := 2) h hW (by omega)
theorem q_many3 (h : cSm S S1) (hW : cWd S) : cZ xs Ls 5 56 0 [(0, .ref 0), (1, .int (cI 3))] [] S1 t (cP (vw S 8 0 2) S1 t) := q_many (w := 3) h hW (by omega)
theorem q_many4 (h : cSm S S1) (hW : cWd S) : cZ xs Ls 5 56 0 [(0, .ref 0), (1, .int (cI 4))] [] S1 t (cP (S 0 5) S1 t) := q_many (w := 4) h hW (by omega)
theorem q_many5 (h : cSm S S1) (hW : cWd S) : cZ xs Ls 5 56 0 [(0, .ref 0), (1, .int (cI 5))] [] S1 t (cP (csum (fun i => bI (S 2 i = 1)) (2 * S 1 2).toNat) S1 t) := q_many (w := 5) h hW (by omega)
theorem q_many6 (h : cSm S S1) (hW : cWd S) : cZ xs Ls 5 56 0 [(0, .ref 0), (1, .int (cI 6))] [] S1 t (cP (csum (fun i => bI (S 2 i = 2)) (2 * S 1 2).toNat) S1 t) := q_many (w := 6) h hW (by omega)
theorem q_many7 (h : cSm S S1) (hW : cWd S) : cZ xs Ls 5 56 0 [(0, .ref 0), (1, .int (cI 7))] [] S1 t (cP (csum (fun i => S 4 i) (2 * S 1 2).toNat) S1 t) := q_many (w := 7) h hW (by omega)
theorem q_many8 (h : cSm S S1) (hW : cWd S) : cZ xs Ls 5 56 0 [(0, .ref 0), (1, .int (cI 8))] [] S1 t (cP (csum (fun i => bI (S 5 i = 2)) (2 * S 1 2).toNat) S1 t) := q_many (w := 8) h hW (by omega)
theorem q_many9 (h : cSm S S1) (hW : cWd S) : cZ xs Ls 5 56 0 [(0, .ref 0), (1, .int (cI 9))] [] S1 t (cP (csum (fun i => bI (S 5 i = 1)) (2 * S 1 2).toNat) S1 t) := q_many (w := 9) h hW (by omega)
theorem q_many10 (h : cSm S S1) (hW : cWd S) : cZ xs Ls 5 56 0 [(0, .ref 0), (1, .int (cI 10))] [] S1 t (cP (csum (fun i => S 6 i) (S 1 2).toNat) S1 t) := q_many (w := 10) h hW (by omega)
theorem q_many11 (h : cSm S S1) (hW : cWd S) : cZ xs Ls 5 56 0 [(0, .ref 0), (1, .int (cI 11))] [] S1 t (cP (cmx (vw S 8 5) 32) S1 t) := q_many (w := 11) h hW (by omega)
theorem q_many12 (h : cSm S S1) (hW : cWd S) : cZ xs Ls 5 56 0 [(0, .ref 0), (1, .int (cI 12))] [] S1 t (cP (cNa (vw S 8)) S1 t) := q_many (w := 12) h hW (by omega)
theorem q_many13 (h : cSm S S1) (hW : cWd S) : cZ xs Ls 5 56 0 [(0, .ref 0), (1, .int (cI 13))] [] S1 t (cP (cNb (vw S 8)) S1 t) := q_many (w := 13) h hW (by omega)
theorem q_many14 (h : cSm S S1) (hW : cWd S) : cZ xs Ls 5 56 0 [(0, .ref 0), (1, .int (cI 14))] [] S1 t (cP (S 0 6) S1 t) := q_many (w := 14) h hW (by omega)
theorem q_many15 (h : cSm S S1) (hW : cWd S) : cZ xs Ls 5 56 0 [(0, .ref 0), (1, .int (cI 15))] [] S1 t (cP (S 0 7) S1 t) := q_many (w := 15) h hW (by omega)
theorem q_weight (h : cSm S S1) (hW : cWd S) {a : Int} (ha : a = 0 ∨ a = 1) : cZ xs Ls 1 57 0 [(0, .ref 0), (1, .int (cI a))] [] S1 t (cPD (cWv (cNear (4 * csum (cSx S a) (S 1 2).toNat) (S 1 2))) S1 t) := by
  have e : cSx S1 = cSx S := by funext a i; unfold cSx; rw [h.v (b := 8) (by omega)]
  have := p_weight (xs := xs) (Ls := Ls) (t := t) (h.wd hW) ha
  rw [e, h 1 (by omega)] at this
  exact this
theorem q_fewest (h : cSm S S1) (hW : cWd S) : cZ xs Ls 1 60 0 [(0, .ref 0)] [] S1 t (cP (cHv (vw S 8 0 1) + cHv (vw S 8 0 2)) S1 t) := by
  rw [← h.v (b := 8) (by omega)]
  exact p_fewest (h.wd hW)
theorem q_bestFold (h : cSm S S1) (hW : cWd S) (hG : cGood (vw S 8)) : cZ xs Ls 5 58 0 [(0, .ref 0)] [] S1 t (cQI (fun r S' t' => t' = t ∧ r = (cBst (vw S 8) 56).1 ∧ cSm S S')) := by
  have e8 := h.v (b := 8) (by omega)
  have := p_bestFold (xs := xs) (Ls := Ls) (t := t) (h.wd hW) (by rw [e8]; exact hG)
  rw [e8] at this
  exact cz_post this (fun v S' t' hq => by obtain ⟨r, h1, h2, h3, h4⟩ := hq; exact ⟨r, h1, h2, h3, h.trans h4⟩)
end CQ
/-! counting cells, places, creases
-/
theorem csum_le {f g : Int → Int} : ∀ (n : Nat), (∀ i : Int, 0 ≤ i → i < n → f i ≤ g i) → csum f n ≤ csum g n := by
  intro n
  induction n with
  | zero => intro _; exact Int.le_refl 0
  | succ n ih =>
    intro h
    unfold csum
    have h1 := ih (fun i a b => h i a (by omega))
    have h2 := h n (by omega) (by omega)
    omega
theorem csum_one_le (s : Int) (n : Nat) : csum (fun i => bI (i = s)) n ≤ 1 := by
  by_cases h : 0 ≤ s ∧ s < n
  · rw [csum_1 n h (fun i _ _ hne => bI_neg hne), bI_pos rfl]
    omega
  · rw [csum_z n (fun i a b => bI_neg (fun e => h (by omega)))]
    omega
theorem csum_ge {f : Int → Int} (n : Nat) (h0 : ∀ i : Int, 0 ≤ i → i < n → 0 ≤ f i) {s : Int} (hs : 0 ≤ s ∧ s < n) : f s ≤ csum f n := by
  have h1 := csum_le (f := fun i => f s * bI (i = s)) (g := f) n (fun i a b => by
    by_cases he : i = s
    · rw [he, bI_pos rfl]; omega
    · rw [bI_neg he, Int.mul_zero]; exact h0 i a b)
  have h2 := csum_1 (f := fun i => f s * bI (i = s)) n hs (fun i _ _ hne => by rw [bI_neg hne, Int.mul_zero])
  rw [h2, bI_pos rfl, Int.mul_one] at h1
  exact h1
theorem cCro_nn (S : cS) (c f : Int) : 0 ≤ cCro S c f := by
  unfold cCro
  rcases (bI_or : bI (¬ S 2 (2 * f + 0) = 0 ∧ (f = c ∨ cBes S f 0 = c)) = 0 ∨ _) with u | u <;> rcases (bI_or : bI (¬ S 2 (2 * f + 1) = 0 ∧ (f = c ∨ cBes S f 1 = c)) = 0 ∨ _) with v | v <;> omega
/-- a cell's pairs with a crease: two of its own at least, four at most -/
theorem cCro_b {S : cS} {c : Int} (hc : 0 ≤ c ∧ c < S 1 2) : bI (¬ S 2 (2 * c + 0) = 0) + bI (¬ S 2 (2 * c + 1) = 0) ≤ csum (cCro S c) (S 1 2).toNat ∧ csum (cCro S c) (S 1 2).toNat ≤ 4 := by
  constructor
  · have h1 := csum_ge (f := cCro S c) (S 1 2).toNat (fun i _ _ => cCro_nn S c i) (s := c) (by omega)
    have h2 : cCro S c c = bI (¬ S 2 (2 * c + 0) = 0) + bI (¬ S 2 (2 * c + 1) = 0) := by
      unfold cCro
      rw [bI_iff (P := ¬ S 2 (2 * c + 0) = 0 ∧ (c = c ∨ cBes S c 0 = c)) (P' := ¬ S 2 (2 * c + 0) = 0) ⟨fun h => h.1, fun h => ⟨h, Or.inl rfl⟩⟩, bI_iff (P := ¬ S 2 (2 * c + 1) = 0 ∧ (c = c ∨ cBes S c 1 = c)) (P' := ¬ S 2 (2 * c + 1) = 0) ⟨fun h => h.1, fun h => ⟨h, Or.inl rfl⟩⟩]
    omega
  · have h1 := csum_le (f := cCro S c) (g := fun i => (bI (i = c) + bI (i = c - 1)) + (bI (i = c) + bI (i = c - S 1 0))) (S 1 2).toNat (fun f a b => by
      unfold cCro
      have hA : bI (¬ S 2 (2 * f + 0) = 0 ∧ (f = c ∨ cBes S f 0 = c)) ≤ bI (f = c) + bI (f = c - 1) := by
        by_cases h : ¬ S 2 (2 * f + 0) = 0 ∧ (f = c ∨ cBes S f 0 = c)
        · rw [bI_pos h]
          rcases h.2 with h2 | h2
          · rw [bI_pos h2]
            rcases (bI_or : bI (f = c - 1) = 0 ∨ _) with u | u <;> omega
          · have h3 : f = c - 1 := by
              unfold cBes at h2
              rw [if_pos rfl] at h2
              split at h2 <;> omega
            rw [bI_pos h3]
            rcases (bI_or : bI (f = c) = 0 ∨ _) with u | u <;> omega
        · rw [bI_neg h]
          rcases (bI_or : bI (f = c) = 0 ∨ _) with u | u <;> rcases (bI_or : bI (f = c - 1) = 0 ∨ _) with v | v <;> omega
      have hB : bI (¬ S 2 (2 * f + 1) = 0 ∧ (f = c ∨ cBes S f 1 = c)) ≤ bI (f = c) + bI (f = c - S 1 0) := by
        by_cases h : ¬ S 2 (2 * f + 1) = 0 ∧ (f = c ∨ cBes S f 1 = c)
        · rw [bI_pos h]
          rcases h.2 with h2 | h2
          · rw [bI_pos h2]
            rcases (bI_or : bI (f = c - S 1 0) = 0 ∨ _) with u | u <;> omega
          · have h3 : f = c - S 1 0 := by
              unfold cBes at h2
              rw [if_neg (by omega)] at h2
              split at h2 <;> omega
            rw [bI_pos h3]
            rcases (bI_or : bI (f = c) = 0 ∨ _) with u | u <;> omega
        · rw [bI_neg h]
          rcases (bI_or : bI (f = c) = 0 ∨ _) with u | u <;> rcases (bI_or : bI (f = c - S 1 0) = 0 ∨ _) with v | v <;> omega
      omega)
    rw [csum_add, csum_add, csum_add] at h1
    have a1 := csum_one_le c (S 1 2).toNat
    have a2 := csum_one_le (c - 1) (S 1 2).toNat
    have a3 := csum_one_le (c - S 1 0) (S 1 2).toNat
    omega
/-- over all places -/
def cPl (f : Int → Int → Int) (R : Nat) (x : Int) : Int := csum (fun y => f x y) R
theorem csum_swap {f : Int → Int → Int} (m n : Nat) : csum (fun x => csum (fun y => f x y) m) n = csum (fun y => csum (fun x => f x y) n) m := by
  induction n with
  | zero =>
    show (0 : Int) = csum (fun _ => 0) m
    rw [csum_z m (fun _ _ _ => rfl)]
  | succ n ih =>
    show csum (fun x => csum (fun y => f x y) m) n + csum (fun y => f n y) m = csum (fun y => csum (fun x => f x y) n + f n y) m
    rw [ih, csum_add]
/-- each cell is in one place -/
theorem cPl_cells {F : cS} (hG : cGood F) (g : Int → Int) : csum (cPl (fun x y => csum (fun i => bI (F 1 i = x ∧ F 2 i = y) * g i) (F 0 0).toNat) (F 0 2).toNat) (F 0 1).toNat = csum g (F 0 0).toNat := by
  have h1 : ∀ x, cPl (fun x y => csum (fun i => bI (F 1 i = x ∧ F 2 i = y) * g i) (F 0 0).toNat) (F 0 2).toNat x = csum (fun i => bI (F 1 i = x) * g i) (F 0 0).toNat := by
    intro x
    unfold cPl
    rw [csum_swap]
    refine csum_cong _ (fun i a b => ?_)
    have hp := hG.2.2.1 i a (by omega)
    rw [csum_1 (s := F 2 i) _ (by omega)]
    · rw [bI_iff (P' := F 1 i = x) ⟨fun h => h.1, fun h => ⟨h, rfl⟩⟩]
    · intro y _ _ hne
      rw [bI_neg (fun h => hne h.2.symm), Int.zero_mul]
  rw [csum_cong (g := fun x => csum (fun i => bI (F 1 i = x) * g i) (F 0 0).toNat) _ (fun x _ _ => h1 x), csum_swap]
  refine csum_cong _ (fun i a b => ?_)
  have hp := hG.2.2.1 i a (by omega)
  rw [csum_1 (s := F 1 i) _ (by omega)]
  · rw [bI_pos rfl, Int.one_mul]
  · intro x _ _ hne
    rw [bI_neg (fun h => hne h.symm), Int.zero_mul]
theorem cPl_cong {f g : Int → Int → Int} {C R : Int} (h : ∀ x y, 0 ≤ x → x < C → 0 ≤ y → y < R → f x y = g x y) : csum (cPl f R.toNat) C.toNat = csum (cPl g R.toNat) C.toNat :=
  csum_cong _ (fun x a b => csum_cong _ (fun y c d => h x y a (by omega) c (by omega)))
theorem cPl_all {F : cS} (hG : cGood F) : csum (cPl (fun x y => cHt F x y) (F 0 2).toNat) (F 0 1).toNat = F 0 0 := by
  have h1 := cPl_cells hG (fun _ => 1)
  have h2 : csum (fun _ => (1 : Int)) (F 0 0).toNat = F 0 0 := by
    have : ∀ n : Nat, csum (fun _ => (1 : Int)) n = n := by
      intro n
      induction n with
      | zero => rfl
      | succ n ih => unfold csum; rw [ih]; omega
    rw [this]
    have := hG.1
    omega
  rw [h2] at h1
  rw [← h1]
  refine cPl_cong (fun x y _ _ _ _ => ?_)
  rw [hG.ht]
  exact csum_cong _ (fun i _ _ => (Int.mul_one _).symm)
theorem csum_pick {F : cS} (hG : cGood F) {x y l : Int} (hxy : cHas F x y) (h0 : 0 ≤ l) (h1 : l < cHt F x y) (g : Int → Int) : csum (fun i => bI (F 1 i = x ∧ F 2 i = y) * (bI (F 3 i = l) * g i)) (F 0 0).toNat = g (cAt F x y l) := by
  obtain ⟨a1, a2, a3, a4⟩ := hG.at hxy h0 h1
  rw [csum_1 (s := cAt F x y l) _ (by omega)]
  · rw [bI_pos a3, bI_pos a4, Int.one_mul, Int.one_mul]
  · intro i b1 b2 hne
    by_cases hp : F 1 i = x ∧ F 2 i = y
    · by_cases hl : F 3 i = l
      · exfalso
        exact hne (hG.2.2.2.2.1 i _ b1 (by omega) a1 a2 (by rw [hp.1, a3.1]) (by rw [hp.2, a3.2]) (by rw [hl, a4]))
      · rw [bI_neg hl, Int.zero_mul, Int.mul_zero]
    · rw [bI_neg hp, Int.zero_mul]
theorem bI_mul {P Q : Prop} : bI P * bI Q = bI (P ∧ Q) := by
  by_cases hp : P
  · by_cases hq : Q
    · rw [bI_pos hp, bI_pos hq, bI_pos ⟨hp, hq⟩]; rfl
    · rw [bI_neg hq, bI_neg (P := P ∧ Q) (fun h => hq h.2), Int.mul_zero]
  · rw [bI_neg hp, bI_neg (P := P ∧ Q) (fun h => hp h.1), Int.zero_mul]
theorem cPl_fronts {F : cS} (hG : cGood F) : csum (cPl (fun x y => bI (cUp F (cTop F x y))) (F 0 2).toNat) (F 0 1).toNat = cNa F := by
  have h1 := cPl_cells hG (fun i => bI (F 3 i = cHt F (F 1 i) (F 2 i) - 1) * bI (F 4 i = 1))
  have h2 : csum (fun i => bI (F 3 i = cHt F (F 1 i) (F 2 i) - 1) * bI (F 4 i = 1)) (F 0 0).toNat = cNa F := by
    refine csum_cong _ (fun i a b => ?_)
    rw [bI_mul]
    refine bI_iff ?_
    unfold cFa cOut cLfa
    omega
  rw [← h2, ← h1]
  refine cPl_cong (fun x y x0 x1 y0 y1 => ?_)
  have hxy : cHas F x y := ⟨x0, x1, y0, y1⟩
  have hh := hG.2.2.2.2.2.2.1 x y hxy
  have hp := csum_pick hG hxy (l := cHt F x y - 1) (by omega) (by omega) (fun i => bI (F 4 i = 1))
  have ha := hG.at hxy (l := cHt F x y - 1) (by omega) (by omega)
  have he : bI (cUp F (cTop F x y)) = bI (F 4 (cAt F x y (cHt F x y - 1)) = 1) := bI_iff ⟨fun h => h.2.2, fun h => ⟨ha.1, ha.2.1, h⟩⟩
  rw [he, ← hp]
  refine csum_cong _ (fun i _ _ => ?_)
  by_cases hi : F 1 i = x ∧ F 2 i = y
  · rw [hi.1, hi.2]
  · rw [bI_neg hi, Int.zero_mul, Int.zero_mul]
theorem cPl_backs {F : cS} (hG : cGood F) : csum (cPl (fun x y => 1 - bI (cUp F (cAt F x y 0))) (F 0 2).toNat) (F 0 1).toNat = cNb F := by
  have h1 := cPl_cells hG (fun i => bI (F 3 i = 0) * bI (F 4 i = 0))
  have h2 : csum (fun i => bI (F 3 i = 0) * bI (F 4 i = 0)) (F 0 0).toNat = cNb F := by
    refine csum_cong _ (fun i a b => ?_)
    rw [bI_mul]
    refine bI_iff ?_
    unfold cFb cOut
    omega
  rw [← h2, ← h1]
  refine cPl_cong (fun x y x0 x1 y0 y1 => ?_)
  have hxy : cHas F x y := ⟨x0, x1, y0, y1⟩
  have hh := hG.2.2.2.2.2.2.1 x y hxy
  have hp := csum_pick hG hxy (l := 0) (by omega) (by omega) (fun i => bI (F 4 i = 0))
  have ha := hG.at hxy (l := 0) (by omega) (by omega)
  have hu := (hG.2.2.1 _ ha.1 ha.2.1).2.2
  have he : 1 - bI (cUp F (cAt F x y 0)) = bI (F 4 (cAt F x y 0) = 0) := by
    rcases hu with hu | hu
    · rw [bI_neg (fun h => by have := h.2.2; omega), bI_pos hu]; rfl
    · rw [bI_pos ⟨ha.1, ha.2.1, hu⟩, bI_neg (by omega)]; rfl
  rw [he, ← hp]
/-- the greatest height -/
theorem cmx_ge {f : Int → Int} : ∀ (n : Nat) {s : Int}, 0 ≤ s → s < n → f s ≤ cmx f n := by
  intro n
  induction n with
  | zero => intro s _ h; omega
  | succ n ih =>
    intro s a b
    unfold cmx
    by_cases hs : s = n
    · subst hs; split <;> omega
    · have := ih (s := s) a (by omega)
      split <;> omega
theorem cmx_le {f : Int → Int} {h : Int} (h0 : 0 ≤ h) (n : Nat) (hf : ∀ i : Int, 0 ≤ i → i < n → f i ≤ h) : cmx f n ≤ h := (cmx_b h0 n hf).2
theorem cHigh {F : cS} (hG : cGood F) {h : Int} (h0 : 0 ≤ h) (h1 : ∀ x y, cHas F x y → cHt F x y ≤ h) (h2 : ∃ x y, cHas F x y ∧ cHt F x y = h) : cmx (F 5) 32 = h := by
  have hs := hG.2.1
  have a : cmx (F 5) 32 ≤ h := by
    refine cmx_le h0 32 (fun p p0 p1 => ?_)
    rw [hG.2.2.2.2.2.2.2 p p0 p1]
    by_cases hp : p < F 0 1 * F 0 2
    · obtain ⟨r, c, r0, r1, c0, c1, e⟩ := cIdxSplit hs.1 p0 hp
      have hh : cHas F c r := ⟨c0, c1, r0, r1⟩
      have e2 : cHt F c r = F 5 p := by unfold cHt; rw [if_pos hh, ← e]
      rw [← hG.2.2.2.2.2.2.2 p p0 p1, ← e2]
      exact h1 c r hh
    · rw [csum_z _ (fun i a b => ?_)]
      · exact h0
      · refine bI_neg (fun hh => hp ?_)
        have hpp := hG.2.2.1 i a (by omega)
        have := cIdx hpp.1 hpp.2.1
        omega
  have b : h ≤ cmx (F 5) 32 := by
    obtain ⟨x, y, hh, e⟩ := h2
    have hi := cIdx ⟨hh.1, hh.2.1⟩ hh.2.2
    have e2 : cHt F x y = F 5 (F 0 1 * y + x) := if_pos hh
    rw [← e, e2]
    exact cmx_ge 32 hi.1 (by omega)
  omega
/-- a form of one place has no fold that could be best -/
theorem cBst_one {F : cS} (hG : cGood F) : ((cBst F 56).1 < 0 ↔ F 0 1 * F 0 2 = 1) := by
  have hs := hG.2.1
  have hone : F 0 1 * F 0 2 = 1 ↔ F 0 1 = 1 ∧ F 0 2 = 1 := by
    constructor
    · intro h
      rcases Int.lt_or_le 1 (F 0 1) with h1 | h1
      · have := Int.mul_le_mul_of_nonneg_left hs.2.2.1 (by omega : 0 ≤ F 0 1); omega
      · have e1 : F 0 1 = 1 := by omega
        rw [e1] at h
        omega
    · rintro ⟨h1, h2⟩; rw [h1, h2]; rfl
  rw [hone]
  constructor
  · intro h
    refine Classical.byContradiction (fun hno => ?_)
    -- a line 1 there is: code 8 or 12
    have key : ∀ m : Nat, m ≤ 56 → (∃ k : Nat, k < m ∧ cIsC F (8 + k)) → 8 ≤ (cBst F m).1 := by
      intro m
      induction m with
      | zero => rintro _ ⟨k, hk, -⟩; omega
      | succ m ih =>
        rintro hm ⟨k, hk, hkc⟩
        have e : cBst F (m + 1) = cBs1 F (8 + m) (cBst F m) := rfl
        have hr := cBst_ran hG m (by omega)
        rw [e]
        unfold cBs1
        by_cases hc : cIsC F (8 + m) ∧ ((cBst F m).1 = -1 ∨ cNC F (8 + m) * cNR F (8 + m) < (cBst F m).2.1 ∨ (cNC F (8 + m) * cNR F (8 + m) = (cBst F m).2.1 ∧ (cBst F m).2.2 < cNa (cFx F (8 + m))))
        · rw [if_pos hc]
          show 8 ≤ 8 + (m : Int)
          omega
        · rw [if_neg hc]
          by_cases hkm : k = m
          · subst hkm
            rcases hr.1 with h1 | h1
            · exact absurd ⟨hkc, Or.inl h1⟩ hc
            · exact h1.1
          · exact ih (by omega) ⟨k, by omega, hkc⟩
    have : 8 ≤ (cBst F 56).1 := by
      refine key 56 (Nat.le_refl _) ?_
      by_cases h1 : F 0 1 = 1
      · refine ⟨4, by omega, Or.inr ?_⟩
        show (8 + ((4 : Nat) : Int)) / 4 % 2 = 1 ∧ 1 ≤ (8 + ((4 : Nat) : Int)) / 8 ∧ (8 + ((4 : Nat) : Int)) / 8 < F 0 2
        omega
      · refine ⟨0, by omega, Or.inl ?_⟩
        show (8 + ((0 : Nat) : Int)) / 4 % 2 = 0 ∧ 1 ≤ (8 + ((0 : Nat) : Int)) / 8 ∧ (8 + ((0 : Nat) : Int)) / 8 < F 0 1
        omega
    omega
  · rintro ⟨h1, h2⟩
    have key : ∀ m : Nat, (cBst F m).1 = -1 := by
      intro m
      induction m with
      | zero => rfl
      | succ m ih =>
        have e : cBst F (m + 1) = cBs1 F (8 + m) (cBst F m) := rfl
        rw [e]
        unfold cBs1
        rw [if_neg, ih]
        rintro ⟨hc, -⟩
        unfold cIsC cLine at hc
        omega
    rw [key]
    omega
