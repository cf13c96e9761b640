/-! ... the first of them, and all together -/
set_option maxRecDepth 100000 in
theorem zr_0_N : zplan (zth 0) (zchk (zth 0) 6) [2, 0, 0, 0] [zAr0 0, zNr 1] = true := by decide +kernel
set_option maxRecDepth 100000 in
theorem zr_0_B : zplan (zth 0) (zchk (zth 0) 6) [2, 0, 0, 0] [zAr0 0, zBr 1] = true := by decide +kernel
set_option maxRecDepth 100000 in
theorem zr_0_0 : zplan (zth 0) (zchk (zth 0) 6) [2, 0, 0, 0] [zAr0 0, Int32.ofInt ((0 : Nat) : Int)] = true := by decide +kernel
set_option maxRecDepth 100000 in
theorem zr_0_1 : zplan (zth 0) (zchk (zth 0) 6) [2, 0, 0, 0] [zAr0 0, Int32.ofInt ((1 : Nat) : Int)] = true := by decide +kernel
set_option maxRecDepth 100000 in
theorem zr_0_2 : zplan (zth 0) (zchk (zth 0) 6) [2, 0, 0, 0] [zAr0 0, Int32.ofInt ((2 : Nat) : Int)] = true := by decide +kernel
set_option maxRecDepth 100000 in
theorem zr_0_3 : zplan (zth 0) (zchk (zth 0) 6) [2, 0, 0, 0] [zAr0 0, Int32.ofInt ((3 : Nat) : Int)] = true := by decide +kernel
set_option maxRecDepth 100000 in
theorem zr_0_4 : zplan (zth 0) (zchk (zth 0) 6) [2, 0, 0, 0] [zAr0 0, Int32.ofInt ((4 : Nat) : Int)] = true := by decide +kernel
set_option maxRecDepth 100000 in
theorem zr_0_5 : zplan (zth 0) (zchk (zth 0) 6) [2, 0, 0, 0] [zAr0 0, Int32.ofInt ((5 : Nat) : Int)] = true := by decide +kernel
set_option maxRecDepth 100000 in
theorem zr_0_6 : zplan (zth 0) (zchk (zth 0) 6) [2, 0, 0, 0] [zAr0 0, Int32.ofInt ((6 : Nat) : Int)] = true := by decide +kernel
set_option maxRecDepth 100000 in
theorem zr_0_7 : zplan (zth 0) (zchk (zth 0) 6) [2, 0, 0, 0] [zAr0 0, Int32.ofInt ((7 : Nat) : Int)] = true := by decide +kernel
set_option maxRecDepth 100000 in
theorem zr_0_8 : zplan (zth 0) (zchk (zth 0) 6) [2, 0, 0, 0] [zAr0 0, Int32.ofInt ((8 : Nat) : Int)] = true := by decide +kernel
set_option maxRecDepth 100000 in
theorem zr_0 : zplan (zth 0) (zchk (zth 0) 6) (zms 0) [zAr0 0] = true := by
  have h9 : ∀ c, c < 9 → zplan (zth 0) (zchk (zth 0) 6) [2, 0, 0, 0] [zAr0 0, Int32.ofInt ((c : Nat) : Int)] = true := fun c hc => match c, hc with
    | 0, _ => zr_0_0
    | 1, _ => zr_0_1
    | 2, _ => zr_0_2
    | 3, _ => zr_0_3
    | 4, _ => zr_0_4
    | 5, _ => zr_0_5
    | 6, _ => zr_0_6
    | 7, _ => zr_0_7
    | 8, _ => zr_0_8
    | n + 9, h => absurd h (by omega)
  show (zplan (zth 0) (zchk (zth 0) 6) [2, 0, 0, 0] [zAr0 0, zNr 1] && zplan (zth 0) (zchk (zth 0) 6) [2, 0, 0, 0] [zAr0 0, zBr 1] && (List.range 9).all fun c => zplan (zth 0) (zchk (zth 0) 6) [2, 0, 0, 0] [zAr0 0, Int32.ofInt ((c : Nat) : Int)]) = true
  rw [zr_0_N, zr_0_B, Bool.true_and, Bool.true_and, List.all_eq_true]
  intro c hc
  exact h9 c (List.mem_range.mp hc)
set_option maxRecDepth 100000 in
theorem zs_0 : zchk (fun _ => 1) 0 [zXr 0, zXr 1, zXr 2, zXr 3, zXr 4, zXr 5] = true := by decide +kernel
set_option maxRecDepth 100000 in
theorem zs_1 : zchk (fun _ => 1) 1 [zXr 0, zXr 1, zXr 2, zXr 3, zXr 4, zXr 5] = true := by decide +kernel
set_option maxRecDepth 100000 in
theorem zs_2 : zchk (fun _ => 1) 2 [zXr 0, zXr 1, zXr 2, zXr 3, zXr 4, zXr 5] = true := by decide +kernel
set_option maxRecDepth 100000 in
theorem zs_3 : zchk (fun _ => 1) 3 [zXr 0, zXr 1, zXr 2, zXr 3, zXr 4, zXr 5] = true := by decide +kernel
set_option maxRecDepth 100000 in
theorem zs_4 : zchk (fun _ => 1) 4 [zXr 0, zXr 1, zXr 2, zXr 3, zXr 4, zXr 5] = true := by decide +kernel
set_option maxRecDepth 100000 in
theorem zs_5 : zchk (fun _ => 1) 5 [zXr 0, zXr 1, zXr 2, zXr 3, zXr 4, zXr 5] = true := by decide +kernel
theorem zr_all : ∀ o, o < 32 → zplan (zth o) (zchk (zth o) 6) (zms o) [zAr0 o] = true := fun o h => match o, h with
  | 0, _ => zr_0
  | 1, _ => zr_1
  | 2, _ => zr_2
  | 3, _ => zr_3
  | 4, _ => zr_4
  | 5, _ => zr_5
  | 6, _ => zr_6
  | 7, _ => zr_7
  | 8, _ => zr_8
  | 9, _ => zr_9
  | 10, _ => zr_10
  | 11, _ => zr_11
  | 12, _ => zr_12
  | 13, _ => zr_13
  | 14, _ => zr_14
  | 15, _ => zr_15
  | 16, _ => zr_16
  | 17, _ => zr_17
  | 18, _ => zr_18
  | 19, _ => zr_19
  | 20, _ => zr_20
  | 21, _ => zr_21
  | 22, _ => zr_22
  | 23, _ => zr_23
  | 24, _ => zr_24
  | 25, _ => zr_25
  | 26, _ => zr_26
  | 27, _ => zr_27
  | 28, _ => zr_28
  | 29, _ => zr_29
  | 30, _ => zr_30
  | 31, _ => zr_31
  | n + 32, h => absurd h (by omega)
theorem zs_all : ∀ L, L < 6 → zchk (fun _ => 1) L [zXr 0, zXr 1, zXr 2, zXr 3, zXr 4, zXr 5] = true := fun L h => match L, h with
  | 0, _ => zs_0
  | 1, _ => zs_1
  | 2, _ => zs_2
  | 3, _ => zs_3
  | 4, _ => zs_4
  | 5, _ => zs_5
  | n + 6, h => absurd h (by omega)
theorem z_one (xs : Nat → Int32) (L : Nat) (hL : L ≤ 6) : ∃ h1 : zH, zrun z_nl z_cc z_nh (z_code xs L) z_hn 100000 9 174 0 [(0, .retAddr 0)] [] zH0 = some (.inl (some (.int 1)), h1) ∧ h1.2.2.1 ≤ 600002 ∧ h1.2.2.2.1 ≤ 7302232 := by
  by_cases h6 : L = 6
  · subst h6
    obtain ⟨o, ho, hx⟩ := zand31 (xs 0)
    obtain ⟨x1, h1, h2⟩ := zplan_ok (xs := xs) (zth_ok o) (zms o) [zAr0 o] (by
      rw [List.length_singleton]
      have : (zms o).length = 5 := by
        unfold zms
        split <;> rfl
      omega) (zr_all o ho) (fun j hj => by
      have hj0 : j = 0 := by rw [List.length_singleton] at hj; omega
      subst hj0
      show zvr xs (zth o) (.int (xs 0)) (.int (zAr0 o))
      exact zvr_mg (zAr0_ok o ho).1 (by rw [(zAr0_ok o ho).2]; exact ⟨rfl, hx⟩))
    refine zchk_ok h1 (fun j hj => h2 j ?_)
    have : (zms o).length = 5 := by
      unfold zms
      split <;> rfl
    rw [List.length_singleton]
    omega
  · have hlt : L < 6 := by omega
    refine zchk_ok (th := fun _ => 1) (zs_all L hlt) (fun j hj => ?_)
    have hj6 : j < 6 := by omega
    have e : ([zXr 0, zXr 1, zXr 2, zXr 3, zXr 4, zXr 5] : List Int32).getD j 0 = zXr j := by
      have : ∀ j, j < 6 → ([zXr 0, zXr 1, zXr 2, zXr 3, zXr 4, zXr 5] : List Int32).getD j 0 = zXr j := by decide +kernel
      exact this j hj6
    rw [e]
    exact zvr_mg (zXr_ok j (by omega)).1 (by rw [(zXr_ok j (by omega)).2]; exact rfl)
