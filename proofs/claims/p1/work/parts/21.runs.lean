/-! EVERY RUN OF ONE CALL, by representatives of its ints -/
def zXr (j : Nat) : Int32 := Int32.ofNat (1000000 + j)
def zNZr (j : Nat) : Int32 := Int32.ofNat (2000000 + j)
def zBr (j : Nat) : Int32 := Int32.ofNat (3000000 + j)
def zNr (j : Nat) : Int32 := Int32.ofNat (4291967196 + j)
def zAr0 (o : Nat) : Int32 := Int32.ofNat (6400000 + o)
theorem zXr_ok : ∀ j, j < 100 → zpl (.int (zXr j)) = false ∧ zmg (zXr j) = (0, j) := by decide +kernel
theorem zNZr_ok : ∀ j, j < 100 → zpl (.int (zNZr j)) = false ∧ zmg (zNZr j) = (1, j) := by decide +kernel
theorem zBr_ok : ∀ j, j < 100 → zpl (.int (zBr j)) = false ∧ zmg (zBr j) = (2, j) := by decide +kernel
theorem zNr_ok : ∀ j, j < 100 → zpl (.int (zNr j)) = false ∧ zmg (zNr j) = (4, j) := by decide +kernel
theorem zAr0_ok : ∀ o, o < 32 → zpl (.int (zAr0 o)) = false ∧ zmg (zAr0 o) = (3, o) := by decide +kernel
theorem zCr_ok : ∀ c : Nat, c < 100 → zpl (.int (Int32.ofInt c)) = true := by decide +kernel
def zplan (th : Nat → Nat) (f : List Int32 → Bool) : List Nat → List Int32 → Bool
  | [], xr => f xr
  | 0 :: ms, xr => zplan th f ms (xr ++ [zXr xr.length])
  | 1 :: ms, xr => zplan th f ms (xr ++ [0]) && zplan th f ms (xr ++ [zNZr xr.length])
  | _ :: ms, xr => zplan th f ms (xr ++ [zNr xr.length]) && zplan th f ms (xr ++ [zBr xr.length]) && (List.range (th xr.length)).all fun c => zplan th f ms (xr ++ [Int32.ofInt c])
section ZPLAN
variable {xs : Nat → Int32} {th : Nat → Nat}
theorem zext {xr : List Int32} {r : Int32} (h : ∀ j, j < xr.length → zvr xs th (.int (xs j)) (.int (xr.getD j 0))) (hr : zvr xs th (.int (xs xr.length)) (.int r)) : ∀ j, j < (xr ++ [r]).length → zvr xs th (.int (xs j)) (.int ((xr ++ [r]).getD j 0)) := by
  intro j hj
  rw [List.length_append, List.length_singleton] at hj
  rw [List.getD_eq_getElem?_getD, List.getElem?_append]
  split
  · rename_i h1
    have h2 := h j h1
    rw [List.getD_eq_getElem?_getD] at h2
    exact h2
  · rename_i h1
    have h2 : j = xr.length := by omega
    subst h2
    rw [Nat.sub_self]
    exact hr
theorem zvr_mg {x r : Int32} (h1 : zpl (.int r) = false) (h2 : zcl xs th (zmg r) x) : zvr xs th (.int x) (.int r) := Or.inr ⟨x, r, rfl, h1, rfl, h2⟩
theorem zplan_ok {f : List Int32 → Bool} (hth : ∀ j, 1 ≤ th j ∧ th j ≤ 100) : ∀ (ms : List Nat) (xr : List Int32), xr.length + ms.length ≤ 100 → zplan th f ms xr = true → (∀ j, j < xr.length → zvr xs th (.int (xs j)) (.int (xr.getD j 0))) →
    ∃ x1 : List Int32, f x1 = true ∧ ∀ j, j < xr.length + ms.length → zvr xs th (.int (xs j)) (.int (x1.getD j 0))
  | [], xr, _, h, hr => ⟨xr, h, hr⟩
  | m :: ms, xr, hl, h, hr => by
    have hn : xr.length < 100 := by rw [List.length_cons] at hl; omega
    have go : ∀ r, zplan th f ms (xr ++ [r]) = true → zvr xs th (.int (xs xr.length)) (.int r) → ∃ x1 : List Int32, f x1 = true ∧ ∀ j, j < xr.length + (m :: ms).length → zvr xs th (.int (xs j)) (.int (x1.getD j 0)) := by
      intro r h1 h2
      obtain ⟨x1, e1, e2⟩ := zplan_ok hth ms (xr ++ [r]) (by rw [List.length_append, List.length_singleton]; rw [List.length_cons] at hl; omega) h1 (zext hr h2)
      refine ⟨x1, e1, fun j hj => e2 j ?_⟩
      rw [List.length_append, List.length_singleton]
      rw [List.length_cons] at hj
      omega
    match m, h with
    | 0, h => exact go _ h (zvr_mg (zXr_ok _ hn).1 (by rw [(zXr_ok _ hn).2]; exact rfl))
    | 1, h =>
      simp only [zplan, Bool.and_eq_true] at h
      by_cases h0 : xs xr.length = 0
      · exact go _ h.1 (by rw [h0]; exact zvr.of (by decide +kernel))
      · exact go _ h.2 (zvr_mg (zNZr_ok _ hn).1 (by rw [(zNZr_ok _ hn).2]; exact ⟨rfl, h0⟩))
    | m + 2, h =>
      simp only [zplan, Bool.and_eq_true] at h
      by_cases hneg : (xs xr.length).toInt < 0
      · exact go _ h.1.1 (zvr_mg (zNr_ok _ hn).1 (by rw [(zNr_ok _ hn).2]; exact ⟨rfl, hneg⟩))
      · by_cases hb : (th xr.length : Int) ≤ (xs xr.length).toInt
        · exact go _ h.1.2 (zvr_mg (zBr_ok _ hn).1 (by rw [(zBr_ok _ hn).2]; exact ⟨rfl, hb, (hth _).1⟩))
        · have hc : (xs xr.length).toInt.toNat < th xr.length := by omega
          have h3 := List.all_eq_true.mp h.2 _ (List.mem_range.mpr hc)
          have h4 : Int32.ofInt ((xs xr.length).toInt.toNat : Int) = xs xr.length := by
            rw [Int.toNat_of_nonneg (by omega)]
            exact Int32.ofInt_toInt _
          refine go _ h3 ?_
          rw [h4]
          have h5 := zCr_ok _ (Nat.lt_of_lt_of_le hc (hth _).2)
          rw [h4] at h5
          exact zvr.of h5
theorem zand31 (y : Int32) : ∃ o, o < 32 ∧ y &&& 31 = Int32.ofNat o := by
  refine ⟨(y &&& 31).toBitVec.toNat, ?_, ?_⟩
  · rw [Int32.toBitVec_and, BitVec.toNat_and]
    exact Nat.lt_of_le_of_lt Nat.and_le_right (by decide)
  · apply Int32.toBitVec_inj.mp
    apply BitVec.eq_of_toNat_eq
    simp
end ZPLAN

def zchk (th : Nat → Nat) (L : Nat) (xr : List Int32) : Bool := match zrunG th z_nl z_cc z_nh z_c0 (z_cG (fun j => xr.getD j 0) L) z_gk z_hn 100000 9 174 0 [(0, .retAddr 0)] [] zH0 with
  | some (.inl (some (.int r)), h) => decide (r = 1) && Nat.ble h.2.2.1 600002 && Nat.ble h.2.2.2.1 7302232
  | _ => false
theorem zchk_ok {xs : Nat → Int32} {th : Nat → Nat} {L : Nat} {xr : List Int32} (h : zchk th L xr = true) (hx : ∀ j, j < L → zvr xs th (.int (xs j)) (.int (xr.getD j 0))) :
    ∃ h1 : zH, zrun z_nl z_cc z_nh (z_code xs L) z_hn 100000 9 174 0 [(0, .retAddr 0)] [] zH0 = some (.inl (some (.int 1)), h1) ∧ h1.2.2.1 ≤ 600002 ∧ h1.2.2.2.1 ≤ 7302232 := by
  unfold zchk at h
  split at h
  · rename_i r h1 hr
    simp only [Bool.and_eq_true, decide_eq_true_eq] at h
    obtain ⟨⟨rfl, h2⟩, h3⟩ := h
    exact ⟨h1, zrunG_ok (xs := xs) (z_c0_ok L) (z_cG_ok hx) _ _ _ _ _ _ _ _ hr _ _ (zlr.cs ⟨rfl, zvr.of rfl⟩ zlr.nl) zsr.nl, Nat.le_of_ble_eq_true h2, Nat.le_of_ble_eq_true h3⟩
  · cases h
def zms (o : Nat) : List Nat := match o with
  | 0 => [2, 2, 0, 0, 0]
  | 1 => [2, 2, 1, 1, 0]
  | 5 => [2, 2, 0, 0, 0]
  | 7 => [2, 2, 0, 0, 0]
  | 8 => [2, 2, 0, 0, 0]
  | 9 => [2, 2, 2, 0, 0]
  | 10 => [2, 2, 2, 0, 0]
  | 11 => [2, 2, 0, 0, 0]
  | 12 => [2, 1, 2, 0, 0]
  | 13 => [2, 0, 0, 0, 0]
  | 14 => [2, 0, 0, 0, 0]
  | 15 => [2, 0, 0, 0, 0]
  | 16 => [2, 2, 1, 1, 0]
  | 18 => [2, 2, 0, 0, 0]
  | _ => [0, 0, 0, 0, 0]
def zth (o : Nat) : Nat → Nat := fun j => match o, j with
  | 0, _ => 9
  | 1, _ => 2
  | 16, _ => 2
  | 9, 3 => 7
  | 11, 2 => 8
  | 12, 3 => 2
  | 14, _ => 16
  | 15, _ => 2
  | _, _ => 1
theorem zth_ok (o j : Nat) : 1 ≤ zth o j ∧ zth o j ≤ 100 := by
  unfold zth
  split <;> decide
set_option maxRecDepth 100000 in
theorem zr_1 : zplan (zth 1) (zchk (zth 1) 6) (zms 1) [zAr0 1] = true := by decide +kernel
set_option maxRecDepth 100000 in
theorem zr_2 : zplan (zth 2) (zchk (zth 2) 6) (zms 2) [zAr0 2] = true := by decide +kernel
set_option maxRecDepth 100000 in
theorem zr_3 : zplan (zth 3) (zchk (zth 3) 6) (zms 3) [zAr0 3] = true := by decide +kernel
set_option maxRecDepth 100000 in
theorem zr_4 : zplan (zth 4) (zchk (zth 4) 6) (zms 4) [zAr0 4] = true := by decide +kernel
set_option maxRecDepth 100000 in
theorem zr_5 : zplan (zth 5) (zchk (zth 5) 6) (zms 5) [zAr0 5] = true := by decide +kernel
set_option maxRecDepth 100000 in
theorem zr_6 : zplan (zth 6) (zchk (zth 6) 6) (zms 6) [zAr0 6] = true := by decide +kernel
set_option maxRecDepth 100000 in
theorem zr_7 : zplan (zth 7) (zchk (zth 7) 6) (zms 7) [zAr0 7] = true := by decide +kernel
set_option maxRecDepth 100000 in
theorem zr_8 : zplan (zth 8) (zchk (zth 8) 6) (zms 8) [zAr0 8] = true := by decide +kernel
set_option maxRecDepth 100000 in
theorem zr_9 : zplan (zth 9) (zchk (zth 9) 6) (zms 9) [zAr0 9] = true := by decide +kernel
set_option maxRecDepth 100000 in
theorem zr_10 : zplan (zth 10) (zchk (zth 10) 6) (zms 10) [zAr0 10] = true := by decide +kernel
set_option maxRecDepth 100000 in
theorem zr_11 : zplan (zth 11) (zchk (zth 11) 6) (zms 11) [zAr0 11] = true := by decide +kernel
set_option maxRecDepth 100000 in
theorem zr_12 : zplan (zth 12) (zchk (zth 12) 6) (zms 12) [zAr0 12] = true := by decide +kernel
set_option maxRecDepth 100000 in
theorem zr_13 : zplan (zth 13) (zchk (zth 13) 6) (zms 13) [zAr0 13] = true := by decide +kernel
set_option maxRecDepth 100000 in
theorem zr_14 : zplan (zth 14) (zchk (zth 14) 6) (zms 14) [zAr0 14] = true := by decide +kernel
set_option maxRecDepth 100000 in
theorem zr_15 : zplan (zth 15) (zchk (zth 15) 6) (zms 15) [zAr0 15] = true := by decide +kernel
set_option maxRecDepth 100000 in
theorem zr_16 : zplan (zth 16) (zchk (zth 16) 6) (zms 16) [zAr0 16] = true := by decide +kernel
set_option maxRecDepth 100000 in
theorem zr_17 : zplan (zth 17) (zchk (zth 17) 6) (zms 17) [zAr0 17] = true := by decide +kernel
set_option maxRecDepth 100000 in
theorem zr_18 : zplan (zth 18) (zchk (zth 18) 6) (zms 18) [zAr0 18] = true := by decide +kernel
set_option maxRecDepth 100000 in
theorem zr_19 : zplan (zth 19) (zchk (zth 19) 6) (zms 19) [zAr0 19] = true := by decide +kernel
set_option maxRecDepth 100000 in
theorem zr_20 : zplan (zth 20) (zchk (zth 20) 6) (zms 20) [zAr0 20] = true := by decide +kernel
set_option maxRecDepth 100000 in
theorem zr_21 : zplan (zth 21) (zchk (zth 21) 6) (zms 21) [zAr0 21] = true := by decide +kernel
set_option maxRecDepth 100000 in
theorem zr_22 : zplan (zth 22) (zchk (zth 22) 6) (zms 22) [zAr0 22] = true := by decide +kernel
set_option maxRecDepth 100000 in
theorem zr_23 : zplan (zth 23) (zchk (zth 23) 6) (zms 23) [zAr0 23] = true := by decide +kernel
set_option maxRecDepth 100000 in
theorem zr_24 : zplan (zth 24) (zchk (zth 24) 6) (zms 24) [zAr0 24] = true := by decide +kernel
set_option maxRecDepth 100000 in
theorem zr_25 : zplan (zth 25) (zchk (zth 25) 6) (zms 25) [zAr0 25] = true := by decide +kernel
set_option maxRecDepth 100000 in
theorem zr_26 : zplan (zth 26) (zchk (zth 26) 6) (zms 26) [zAr0 26] = true := by decide +kernel
set_option maxRecDepth 100000 in
theorem zr_27 : zplan (zth 27) (zchk (zth 27) 6) (zms 27) [zAr0 27] = true := by decide +kernel
set_option maxRecDepth 100000 in
theorem zr_28 : zplan (zth 28) (zchk (zth 28) 6) (zms 28) [zAr0 28] = true := by decide +kernel
set_option maxRecDepth 100000 in
theorem zr_29 : zplan (zth 29) (zchk (zth 29) 6) (zms 29) [zAr0 29] = true := by decide +kernel
set_option maxRecDepth 100000 in
theorem zr_30 : zplan (zth 30) (zchk (zth 30) 6) (zms 30) [zAr0 30] = true := by decide +kernel
set_option maxRecDepth 100000 in
theorem zr_31 : zplan (zth 31) (zchk (zth 31) 6) (zms 31) [zAr0 31] = true := by decide +kernel
