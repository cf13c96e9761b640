/-! What the methods answer, as mathematics: F is a Form's view, 0 1 its columns, 0 2 its rows, 0 0 its cells -/
noncomputable def bI (P : Prop) : Int := @ite Int P (Classical.propDecidable P) 1 0
theorem bI_pos {P : Prop} (h : P) : bI P = 1 := if_pos h
theorem bI_neg {P : Prop} (h : ¬ P) : bI P = 0 := if_neg h
theorem bI_or {P : Prop} : bI P = 0 ∨ bI P = 1 := by
  by_cases h : P
  · exact Or.inr (bI_pos h)
  · exact Or.inl (bI_neg h)
theorem bI_ran {P : Prop} : -2147483648 ≤ bI P ∧ bI P < 2147483648 := by
  rcases (bI_or : bI P = 0 ∨ bI P = 1) with h | h <;> omega
theorem bI_1 {P : Prop} (h : bI P = 1) : P := by
  by_cases hp : P
  · exact hp
  · rw [bI_neg hp] at h; omega
theorem bI_0 {P : Prop} (h : bI P = 0) : ¬ P := by
  intro hp
  rw [bI_pos hp] at h
  omega
theorem bI_n0 {P : Prop} (h : ¬ bI P = 0) : P := by
  by_cases hp : P
  · exact hp
  · exact absurd (bI_neg hp) h
theorem bI_nn {P : Prop} (h : ¬ ¬ bI P = 0) : ¬ P := bI_0 (Classical.not_not.mp h)
theorem bI_e1 {P : Prop} : (bI P = 1) ↔ P := ⟨bI_1, bI_pos⟩
theorem bI_e0 {P : Prop} : (bI P = 0) ↔ ¬ P := ⟨bI_0, bI_neg⟩
theorem bI_iff {P P' : Prop} (h : P ↔ P') : bI P = bI P' := by
  by_cases hp : P
  · rw [bI_pos hp, bI_pos (h.mp hp)]
  · rw [bI_neg hp, bI_neg (fun hh => hp (h.mpr hh))]
noncomputable def cOv (k : Int) : Int := bI (k % 2 = 1)
theorem cOv_or (k : Int) : cOv k = 0 ∨ cOv k = 1 := bI_or
theorem cOv_pos {k : Int} (h : k % 2 = 1) : cOv k = 1 := bI_pos h
theorem cOv_neg {k : Int} (h : ¬ k % 2 = 1) : cOv k = 0 := bI_neg h
theorem cIdx {C R x y : Int} (hx : 0 ≤ x ∧ x < C) (hy : 0 ≤ y ∧ y < R) : 0 ≤ C * y + x ∧ C * y + x < C * R := by
  have h1 : C * (y + 1) ≤ C * R := Int.mul_le_mul_of_nonneg_left (by omega) (by omega)
  have h0 : 0 ≤ C * y := Int.mul_nonneg (by omega) (by omega)
  rw [Int.mul_add, Int.mul_one] at h1
  omega
/-- the first place of k from i on -/
def fnd (p : Int → Bool) : Int → Nat → Int
  | _, 0 => -1
  | i, k + 1 => bif p i then i else fnd p (i + 1) k
/-- a sum over the places below n -/
def csum (f : Int → Int) : Nat → Int
  | 0 => 0
  | k + 1 => csum f k + f k
abbrev cSh (F : cS) : Prop := 1 ≤ F 0 1 ∧ F 0 1 ≤ 8 ∧ 1 ≤ F 0 2 ∧ F 0 2 ≤ 8 ∧ F 0 1 * F 0 2 ≤ 32
abbrev cHas (F : cS) (x y : Int) : Prop := 0 ≤ x ∧ x < F 0 1 ∧ 0 ≤ y ∧ y < F 0 2
abbrev cLine (F : cS) (a l : Int) : Prop := (a = 0 ∧ 1 ≤ l ∧ l < F 0 1) ∨ (a = 1 ∧ 1 ≤ l ∧ l < F 0 2)
def cHt (F : cS) (x y : Int) : Int := if cHas F x y then F 5 (F 0 1 * y + x) else 0
abbrev cLies (F : cS) (i x y : Int) : Prop := F 1 i = x ∧ F 2 i = y
def cAt (F : cS) (x y l : Int) : Int := fnd (fun i => decide (cLies F i x y ∧ F 3 i = l)) 0 (F 0 0).toNat
def cTop (F : cS) (x y : Int) : Int := cAt F x y (cHt F x y - 1)
def cLfa (F : cS) (i : Int) : Int := cHt F (F 1 i) (F 2 i) - 1 - F 3 i
abbrev cOut (F : cS) (i a : Int) : Prop := (a = 0 ∧ F 3 i = 0) ∨ (¬ a = 0 ∧ cLfa F i = 0)
abbrev cUp (F : cS) (i : Int) : Prop := 0 ≤ i ∧ i < F 0 0 ∧ F 4 i = 1
abbrev cUpon (F : cS) (i j : Int) : Prop := cLies F j (F 1 i) (F 2 i) ∧ F 3 j = F 3 i + 1
def cAl (F : cS) (i c : Int) : Int := if c / 4 % 2 = 0 then F 1 i else F 2 i
abbrev cGoes (F : cS) (i c : Int) : Prop := (c / 2 % 2 = 1 ∧ c / 8 ≤ cAl F i c) ∨ (¬ c / 2 % 2 = 1 ∧ ¬ c / 8 ≤ cAl F i c)
def cMc (F : cS) (i c : Int) : Int := if c / 4 % 2 = 0 then 2 * (c / 8) - 1 - F 1 i else F 1 i
def cMr (F : cS) (i c : Int) : Int := if c / 4 % 2 = 1 then 2 * (c / 8) - 1 - F 2 i else F 2 i
abbrev cBetw (F : cS) (i j c : Int) : Prop := (F 1 i - F 1 j) * (F 1 i - F 1 j) + (F 2 i - F 2 j) * (F 2 i - F 2 j) = 1 ∧ cLies F j (cMc F i c) (cMr F i c)
def cHv (n : Int) : Int := if n ≤ 1 then 0 else if n ≤ 2 then 1 else if n ≤ 4 then 2 else 3
def cNear (a b : Int) : Int := if b < 2 * (a % b) ∨ (2 * (a % b) = b ∧ ¬ a / b % 2 = 0) then a / b + 1 else a / b
theorem fnd_t {p : Int → Bool} {i : Int} {k : Nat} (h : p i = true) : fnd p i (k + 1) = i := by
  unfold fnd
  rw [h]
  rfl
theorem fnd_f {p : Int → Bool} {i : Int} {k : Nat} (h : p i = false) : fnd p i (k + 1) = fnd p (i + 1) k := by
  show (bif p i then i else fnd p (i + 1) k) = _
  rw [h]
  rfl
/-- a Form's cells and their numbers are small; its heights are -/
abbrev cBd (F : cS) : Prop := 0 ≤ F 0 0 ∧ F 0 0 ≤ 32 ∧ ∀ i, 0 ≤ i → i < F 0 0 → (-1000 ≤ F 1 i ∧ F 1 i ≤ 1000) ∧ (-1000 ≤ F 2 i ∧ F 2 i ≤ 1000) ∧ (-1000 ≤ F 3 i ∧ F 3 i ≤ 1000) ∧ (F 4 i = 0 ∨ F 4 i = 1)
abbrev cHb (F : cS) : Prop := ∀ p, 0 ≤ p → p < 32 → 0 ≤ F 5 p ∧ F 5 p ≤ 32
theorem cHt_b {F : cS} (hs : cSh F) (hh : cHb F) (x y : Int) : 0 ≤ cHt F x y ∧ cHt F x y ≤ 32 := by
  unfold cHt
  by_cases h : cHas F x y
  · rw [if_pos h]
    have hi := cIdx ⟨h.1, h.2.1⟩ h.2.2
    exact hh _ hi.1 (by have := hs.2.2.2.2; omega)
  · rw [if_neg h]
    omega
theorem cMc_b {F : cS} {i c : Int} (hc : 0 ≤ c ∧ c < 1000) (h : -1000 ≤ F 1 i ∧ F 1 i ≤ 1000) : -2000 ≤ cMc F i c ∧ cMc F i c ≤ 2000 := by
  unfold cMc
  split <;> omega
theorem cMr_b {F : cS} {i c : Int} (hc : 0 ≤ c ∧ c < 1000) (h : -1000 ≤ F 2 i ∧ F 2 i ≤ 1000) : -2000 ≤ cMr F i c ∧ cMr F i c ≤ 2000 := by
  unfold cMr
  split <;> omega
theorem cSq {d : Int} (h : -2000 ≤ d ∧ d ≤ 2000) : 0 ≤ d * d ∧ d * d ≤ 4000000 := by
  have h1 : 0 ≤ (2000 - d) * (2000 + d) := Int.mul_nonneg (by omega) (by omega)
  rw [Int.sub_mul, Int.mul_add, Int.mul_add] at h1
  have h2 : 0 ≤ d * d := by
    rcases Int.le_total 0 d with h | h
    · exact Int.mul_nonneg h h
    · exact Int.mul_nonneg_of_nonpos_of_nonpos h h
  omega
/-! the Paper: places 1 to 7 of the heap -/
abbrev cPw (S : cS) : Prop := 1 ≤ S 1 0 ∧ S 1 0 ≤ 8 ∧ 1 ≤ S 1 1 ∧ S 1 1 ≤ 8 ∧ 1 ≤ S 1 2 ∧ S 1 2 ≤ 32
abbrev cPb (S : cS) : Prop := ∀ p, 0 ≤ p → p < 64 → (0 ≤ S 2 p ∧ S 2 p ≤ 2) ∧ (0 ≤ S 3 p ∧ S 3 p ≤ 8) ∧ (0 ≤ S 4 p ∧ S 4 p ≤ 1000) ∧ (0 ≤ S 5 p ∧ S 5 p ≤ 2)
def cBes (S : cS) (c d : Int) : Int := if d = 0 then (if c % S 1 0 = S 1 0 - 1 then -1 else c + 1) else (if c + S 1 0 < S 1 2 then c + S 1 0 else -1)
def cGb (v b : Int) : Int := (cI (((cI v).toUInt32 >>> ((cI b).toUInt32 &&& Int32.toUInt32 31)).toInt32).toInt &&& cI 1).toInt
def cOrb (v b : Int) : Int := (cI v ||| cI (cI 1 <<< (cI b &&& 31)).toInt).toInt
abbrev cGl (S : cS) (a b : Int) : Prop := (0 ≤ a ∧ a < S 1 2) ∧ (0 ≤ b ∧ b < S 1 2) ∧ cGb (S 7 a) b = 1
abbrev cWet (S : cS) (s : Int) : Prop := 0 ≤ s ∧ s < 2 * S 1 2 ∧ S 5 s = 2
abbrev cDry (S : cS) (s : Int) : Prop := 0 ≤ s ∧ s < 2 * S 1 2 ∧ ¬ S 5 s = 2
noncomputable def cCro (S : cS) (c f : Int) : Int := bI (¬ S 2 (2 * f + 0) = 0 ∧ (f = c ∨ cBes S f 0 = c)) + bI (¬ S 2 (2 * f + 1) = 0 ∧ (f = c ∨ cBes S f 1 = c))
theorem csum_b {f : Int → Int} {lo hi : Int} : ∀ (n : Nat), (∀ i : Int, 0 ≤ i → i < n → lo ≤ f i ∧ f i ≤ hi) → lo * n ≤ csum f n ∧ csum f n ≤ hi * n := by
  intro n
  induction n with
  | zero => intro _; exact ⟨by simp [csum], by simp [csum]⟩
  | succ n ih =>
    intro h
    have h1 := ih (fun i h0 h1 => h i h0 (by omega))
    have h2 := h n (by omega) (by omega)
    have e1 : lo * ((n + 1 : Nat) : Int) = lo * n + lo := by rw [Int.natCast_add, Int.mul_add]; simp
    have e2 : hi * ((n + 1 : Nat) : Int) = hi * n + hi := by rw [Int.natCast_add, Int.mul_add]; simp
    rw [e1, e2]
    unfold csum
    omega
theorem csum_cong {f g : Int → Int} : ∀ (n : Nat), (∀ i : Int, 0 ≤ i → i < n → f i = g i) → csum f n = csum g n := by
  intro n
  induction n with
  | zero => intro _; rfl
  | succ n ih =>
    intro h
    unfold csum
    rw [ih (fun i h0 h1 => h i h0 (by omega)), h n (by omega) (by omega)]
/-! a Form that is written -/
theorem vw_o {S : cS} {a b : Nat} {i v : Int} (h : a < b ∨ b + 6 ≤ a) : vw (setS S a i v) b = vw S b := vw_eq fun a' h1 h2 => setS_o (by omega)
theorem vw_n {S : cS} {b j j' : Nat} {i v : Int} (h : ¬ j' = j) : vw (setS S (b + j) i v) b j' = vw S b j' := by
  funext i'
  unfold vw
  rw [setS_o (by omega)]
theorem vw_e {S : cS} {b j : Nat} {i i' v : Int} (hj : j < 6) : vw (setS S (b + j) i v) b j i' = if i' = i then v else vw S b j i' := by
  unfold vw
  rw [if_pos hj, if_pos hj, setS_at]
theorem vw_n0 {S : cS} {b j' : Nat} {i v : Int} (h : ¬ j' = 0) : vw (setS S b i v) b j' = vw S b j' := vw_n (j := 0) h
theorem vw_e0 {S : cS} {b : Nat} {i i' v : Int} : vw (setS S b i v) b 0 i' = if i' = i then v else vw S b 0 i' := vw_e (j := 0) (by omega)
theorem vw_c {S S' : cS} {b j : Nat} (h : S' (b + j) = S (b + j)) : vw S' b j = vw S b j := by
  funext i
  unfold vw
  rw [h]
theorem cHt_c {F G : cS} (h0 : G 0 = F 0) (h5 : G 5 = F 5) (x y : Int) : cHt G x y = cHt F x y := by
  unfold cHt cHas
  rw [h0, h5]
theorem cLfa_c {F G : cS} {i : Int} (h0 : G 0 = F 0) (h5 : G 5 = F 5) (h1 : G 1 i = F 1 i) (h2 : G 2 i = F 2 i) (h3 : G 3 i = F 3 i) : cLfa G i = cLfa F i := by
  unfold cLfa
  rw [cHt_c h0 h5, h1, h2, h3]
noncomputable def cMf (G : cS) (p i : Int) : Int := bI (cHas G (G 1 i) (G 2 i) ∧ G 0 1 * G 2 i + G 1 i = p)
/-- the heights are counts of the cells -/
def cMeas (G : cS) : Prop := ∀ p, 0 ≤ p → p < 32 → G 5 p = csum (cMf G p) (G 0 0).toNat
def cmx (f : Int → Int) : Nat → Int
  | 0 => 0
  | k + 1 => if cmx f k < f k then f k else cmx f k
theorem cmx_b {f : Int → Int} {hi : Int} (h0 : 0 ≤ hi) : ∀ (n : Nat), (∀ i : Int, 0 ≤ i → i < n → f i ≤ hi) → 0 ≤ cmx f n ∧ cmx f n ≤ hi := by
  intro n
  induction n with
  | zero => intro _; exact ⟨Int.le_refl 0, h0⟩
  | succ n ih =>
    intro h
    have h1 := ih (fun i h0 h1 => h i h0 (by omega))
    have h2 := h n (by omega) (by omega)
    unfold cmx
    split <;> omega
abbrev cFa (F : cS) (i : Int) : Prop := F 4 i = 1 ∧ cOut F i 1
abbrev cFb (F : cS) (i : Int) : Prop := F 4 i = 0 ∧ cOut F i 0
def cTot (F : cS) (k : Int) : Int := if k / 4 % 2 = 0 then F 0 1 else F 0 2
def cLst (F : cS) (k : Int) : Int := if k / 2 % 2 = 1 then (if 2 * (k / 8) - cTot F k < 0 then 2 * (k / 8) - cTot F k else 0) else k / 8
def cNlen (F : cS) (k : Int) : Int := if k / 8 < cTot F k - k / 8 then cTot F k - k / 8 else k / 8
def cNx (F : cS) (k j : Int) : Int := (if cGoes F j k then cMc F j k else F 1 j) - (if k / 4 % 2 = 0 then cLst F k else 0)
def cNy (F : cS) (k j : Int) : Int := (if cGoes F j k then cMr F j k else F 2 j) - (if k / 4 % 2 = 0 then 0 else cLst F k)
def cLay (F : cS) (k j : Int) : Int := (if (cGoes F j k ∧ k % 2 = 1) ∨ (¬ cGoes F j k ∧ ¬ k % 2 = 1) then cHt F (cMc F j k) (cMr F j k) else 0) + (if cGoes F j k then cLfa F j else F 3 j)
def cNu (F : cS) (k j : Int) : Int := if cGoes F j k then 1 - F 4 j else F 4 j
def cNC (F : cS) (k : Int) : Int := if k / 4 % 2 = 0 then cNlen F k else F 0 1
def cNR (F : cS) (k : Int) : Int := if k / 4 % 2 = 0 then F 0 2 else cNlen F k
/-- a Form that is folded -/
def cFolded (F : cS) (k : Int) (G : cS) : Prop := G 0 0 = F 0 0 ∧ G 0 1 = cNC F k ∧ G 0 2 = cNR F k ∧ (∀ j, 0 ≤ j → j < F 0 0 → G 1 j = cNx F k j ∧ G 2 j = cNy F k j ∧ G 3 j = cLay F k j ∧ G 4 j = cNu F k j) ∧ cMeas G
/-- cells lie in places -/
abbrev cPos (F : cS) : Prop := ∀ i, 0 ≤ i → i < F 0 0 → (0 ≤ F 1 i ∧ F 1 i < F 0 1) ∧ (0 ≤ F 2 i ∧ F 2 i < F 0 2) ∧ (0 ≤ F 3 i ∧ F 3 i < 32) ∧ (F 4 i = 0 ∨ F 4 i = 1)
/-- outside a Form nothing changes -/
abbrev cFr (b : Nat) (S S' : cS) : Prop := ∀ a, ¬ (b ≤ a ∧ a < b + 6) → S' a = S a
theorem cFr.set {b : Nat} {S S1 : cS} (h : cFr b S S1) {a : Nat} {i v : Int} (ha : b ≤ a ∧ a < b + 6) : cFr b S (setS S1 a i v) := fun a' h' => by rw [setS_o (by omega)]; exact h a' h'
theorem cIdxInj {C x y x2 y2 : Int} (hx : 0 ≤ x ∧ x < C) (hx2 : 0 ≤ x2 ∧ x2 < C) (h : C * y + x = C * y2 + x2) : y = y2 ∧ x = x2 := by
  have h1 : (C * y + x) / C = y := by rw [Int.add_comm, Int.add_mul_ediv_left _ _ (by omega), Int.ediv_eq_zero_of_lt hx.1 hx.2]; omega
  have h2 : (C * y2 + x2) / C = y2 := by rw [Int.add_comm, Int.add_mul_ediv_left _ _ (by omega), Int.ediv_eq_zero_of_lt hx2.1 hx2.2]; omega
  have h3 : y = y2 := by rw [← h1, ← h2, h]
  subst h3
  exact ⟨rfl, by omega⟩
theorem cIdxSplit {C R j : Int} (hC : 1 ≤ C) (h0 : 0 ≤ j) (h1 : j < C * R) : ∃ r c, 0 ≤ r ∧ r < R ∧ 0 ≤ c ∧ c < C ∧ j = C * r + c := by
  have e := Int.mul_ediv_add_emod j C
  have m0 := Int.emod_nonneg j (by omega : C ≠ 0)
  have m1 := Int.emod_lt_of_pos j (by omega : 0 < C)
  have d0 : 0 ≤ j / C := Int.ediv_nonneg h0 (by omega)
  refine ⟨j / C, j % C, d0, ?_, m0, m1, e.symm⟩
  exact Int.ediv_lt_of_lt_mul (by omega) (by rw [Int.mul_comm]; exact h1)
