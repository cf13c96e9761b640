/-! THE ABSTRACT MACHINE: ints as integers, the heap as a function of place and index, locals as what is known of them -/
def cI (n : Int) : Int32 := Int32.ofInt n
theorem cI_back (x : Int32) : cI x.toInt = x := Int32.ofInt_toInt x
theorem cI_toInt {n : Int} (h : -2147483648 ≤ n ∧ n < 2147483648) : (cI n).toInt = n := Int32.toInt_ofInt_of_le (by have := h.1; omega) (by have := h.2; omega)
theorem cI_add (a b : Int) : cI a + cI b = cI (a + b) := (Int32.ofInt_add a b).symm
theorem cI_sub (a b : Int) : cI a - cI b = cI (a - b) := (Int32.ofInt_sub a b).symm
theorem cI_mul (a b : Int) : cI a * cI b = cI (a * b) := (Int32.ofInt_mul a b).symm
theorem cI_lt {a b : Int} (ha : -2147483648 ≤ a ∧ a < 2147483648) (hb : -2147483648 ≤ b ∧ b < 2147483648) : cI a < cI b ↔ a < b := by
  rw [Int32.lt_iff_toInt_lt, cI_toInt ha, cI_toInt hb]
theorem cI_le {a b : Int} (ha : -2147483648 ≤ a ∧ a < 2147483648) (hb : -2147483648 ≤ b ∧ b < 2147483648) : cI a ≤ cI b ↔ a ≤ b := by
  rw [Int32.le_iff_toInt_le, cI_toInt ha, cI_toInt hb]
theorem cI_inj {a b : Int} (ha : -2147483648 ≤ a ∧ a < 2147483648) (hb : -2147483648 ≤ b ∧ b < 2147483648) : cI a = cI b ↔ a = b := by
  rw [← Int32.toInt_inj, cI_toInt ha, cI_toInt hb]
theorem cI_zero : cI 0 = 0 := by decide
theorem cI_range (x : Int32) : -2147483648 ≤ x.toInt ∧ x.toInt < 2147483648 := ⟨Int32.le_toInt x, Int32.toInt_lt x⟩
theorem cI_div {a b : Int} (ha : 0 ≤ a ∧ a < 2147483648) (hb : 0 < b ∧ b < 2147483648) : cI a / cI b = cI (a / b) := by
  have h1 := cI_toInt (n := a) ⟨by omega, ha.2⟩
  have h2 := cI_toInt (n := b) ⟨by omega, hb.2⟩
  have h3 : a / b ≤ a := Int.ediv_le_self b ha.1
  have h4 : 0 ≤ a / b := Int.ediv_nonneg ha.1 (by omega)
  rw [← Int32.toInt_inj, Int32.toInt_div_of_ne_left, h1, h2, cI_toInt ⟨by omega, by omega⟩, Int.tdiv_eq_ediv_of_nonneg ha.1]
  intro h
  have h5 : (cI a).toInt = Int32.minValue.toInt := by rw [h]
  rw [h1] at h5
  have h6 : Int32.minValue.toInt = -2147483648 := by decide
  omega
theorem cI_rem {a b : Int} (ha : 0 ≤ a ∧ a < 2147483648) (hb : 0 < b ∧ b < 2147483648) : cI a - cI a / cI b * cI b = cI (a % b) := by
  rw [cI_div ha hb, cI_mul, cI_sub]
  congr 1
  have := Int.emod_add_mul_ediv a b
  rw [Int.mul_comm] at this
  omega
theorem cI_ne_zero {b : Int} (hb : 0 < b ∧ b < 2147483648) : ¬ cI b = 0 := by
  rw [← cI_zero, cI_inj ⟨by omega, hb.2⟩ (by omega)]
  omega
theorem cI_nat {e : Int} (h : 0 ≤ e ∧ e < 2147483648) : ((cI e).toNatClampNeg : Int) = e := by
  have h1 : (cI e).toNatClampNeg = e.toNat := Int32.toNatClampNeg_ofInt_of_le (by omega) (by omega)
  rw [h1]
  omega
theorem cI_nat2 {e : Int} (h : 0 ≤ e ∧ e < 2147483648) : (cI e).toNatClampNeg = e.toNat := Int32.toNatClampNeg_ofInt_of_le (by omega) (by omega)
abbrev cS : Type := Nat → Int → Int
/-- a Form's first cell -/
abbrev cFm (b : Nat) : Prop := b = 8 ∨ b = 14 ∨ (22 ≤ b ∧ b < 70 ∧ (b - 22) % 6 = 0)
def cTy (a : Nat) : Nat := if a = 12 ∨ a = 18 ∨ (22 ≤ a ∧ a < 70 ∧ (a - 22) % 6 = 4) then 1 else 0
def cLen (a : Nat) : Nat := if a < 6 then 64 else if a < 20 then 32 else if a = 21 then 8 else if a < 70 then 32 else 2
/-- six cells as a Form's view: 0 the fields, 1 column, 2 row, 3 layer, 4 isUp, 5 height -/
def vw (S : cS) (b : Nat) : cS := fun j i => if j < 6 then S (b + j) i else 0
theorem vw_at {S : cS} {b j : Nat} (i : Int) (hj : j < 6) : S (b + j) i = vw S b j i := (if_pos hj).symm
abbrev cFf (S : cS) (b : Nat) : List Value := [.int (cI (vw S b 0 0)), .int (cI (vw S b 0 1)), .int (cI (vw S b 0 2)), .ref (b + 1), .ref (b + 2), .ref (b + 3), .ref (b + 4), .ref (b + 5)]
abbrev cFP (S : cS) : List Value := [.int (cI (S 1 0)), .int (cI (S 1 1)), .int (cI (S 1 2)), .ref 2, .ref 3, .ref 4, .ref 5, .ref 6, .ref 7]
abbrev cFB (S : cS) : List Value := [.ref 1, .ref 8, .ref 14, .ref 20, .ref 21, .int (cI (S 0 5)), .int (cI (S 0 6)), .int (cI (S 0 7))]
/-- what the heap holds at a place -/
def cOK (S : cS) (a : Nat) (e : va_E) : Prop :=
  if a = 0 then e = .inr (2, cFB S) else if a = 1 then e = .inr (1, cFP S) else if cFm a then e = .inr (0, cFf S a)
  else if a = 20 then ∃ f : Nat → Option Nat, e = .inl (2, 8, .inr (.inr (.inr (.inr f)))) ∧ ∀ i, i < 8 → f i = some (22 + 6 * i)
  else ∃ f : Nat → Int32, e = .inl (cTy a, cLen a, .inl f) ∧ (∀ i : Nat, i < cLen a → f i = cI (S a i)) ∧ (cTy a = 1 → ∀ i : Int, 0 ≤ i → i < cLen a → S a i = 0 ∨ S a i = 1)
def cHp (h : zH) (S : cS) (t : Nat) : Prop := h.2 = (70 + t, 70 + t, 2033 + 2 * t, true) ∧ ∀ a, a < 70 + t → cOK S a (h.1 a)
theorem cHp.cells {h : zH} {S : cS} {t : Nat} (H : cHp h S t) : h.2.1 = 70 + t := by rw [H.1]
theorem cHp.B {h : zH} {S : cS} {t : Nat} (H : cHp h S t) : h.1 0 = .inr (2, cFB S) := by
  have := H.2 0 (by omega)
  unfold cOK at this
  rwa [if_pos rfl] at this
theorem cHp.P {h : zH} {S : cS} {t : Nat} (H : cHp h S t) : h.1 1 = .inr (1, cFP S) := by
  have := H.2 1 (by omega)
  unfold cOK at this
  rwa [if_neg (by omega), if_pos rfl] at this
theorem cFm.lt {b : Nat} (hb : cFm b) : 8 ≤ b ∧ b + 5 < 70 := by unfold cFm at hb; omega
theorem cHp.F {h : zH} {S : cS} {t b : Nat} (H : cHp h S t) (hb : cFm b) : h.1 b = .inr (0, cFf S b) := by
  have h1 := hb.lt
  have := H.2 b (by omega)
  unfold cOK at this
  rwa [if_neg (by omega), if_neg (by omega), if_pos hb] at this
/-- a place of an array of ints (or booleans) -/
def cAr (a : Nat) : Prop := ¬ a = 0 ∧ ¬ a = 1 ∧ ¬ cFm a ∧ ¬ a = 20
theorem cHp.A {h : zH} {S : cS} {t a : Nat} (H : cHp h S t) (ha : cAr a) (hl : a < 70 + t) : ∃ f : Nat → Int32, h.1 a = .inl (cTy a, cLen a, .inl f) ∧ (∀ i : Nat, i < cLen a → f i = cI (S a i)) ∧ (cTy a = 1 → ∀ i : Int, 0 ≤ i → i < cLen a → S a i = 0 ∨ S a i = 1) := by
  have := H.2 a hl
  unfold cOK at this
  rwa [if_neg ha.1, if_neg ha.2.1, if_neg ha.2.2.1, if_neg ha.2.2.2] at this
theorem cHp.Q {h : zH} {S : cS} {t : Nat} (H : cHp h S t) : ∃ f : Nat → Option Nat, h.1 20 = .inl (2, 8, .inr (.inr (.inr (.inr f)))) ∧ ∀ i, i < 8 → f i = some (22 + 6 * i) := by
  have := H.2 20 (by omega)
  unfold cOK at this
  rwa [if_neg (by omega), if_neg (by omega), if_neg (by decide), if_pos rfl] at this
theorem cArF {b j : Nat} (hb : cFm b) (h1 : 1 ≤ j ∧ j ≤ 5) : cAr (b + j) := by
  unfold cAr
  unfold cFm at hb ⊢
  omega
theorem cTyF {b j : Nat} (hb : cFm b) (h1 : 1 ≤ j ∧ j ≤ 5 ∧ ¬ j = 4) : cTy (b + j) = 0 := by
  unfold cTy
  unfold cFm at hb
  exact if_neg (by omega)
theorem cTyF4 {b : Nat} (hb : cFm b) : cTy (b + 4) = 1 := by
  unfold cTy
  unfold cFm at hb
  exact if_pos (by omega)
theorem cLenF {b j : Nat} (hb : cFm b) (h1 : 1 ≤ j ∧ j ≤ 5) : cLen (b + j) = 32 := by
  unfold cLen
  unfold cFm at hb
  split
  · omega
  · split
    · rfl
    · split
      · omega
      · split
        · rfl
        · omega
theorem cAr_of {a : Nat} (h : 2 ≤ a ∧ a < 8 ∨ a = 21 ∨ 70 ≤ a) : cAr a := by
  unfold cAr cFm
  omega
theorem cTy_of {a : Nat} (h : 2 ≤ a ∧ a < 8 ∨ a = 21 ∨ 70 ≤ a) : cTy a = 0 := by
  unfold cTy
  exact if_neg (by omega)
/-- a place is written -/
def setS (S : cS) (a : Nat) (i v : Int) : cS := fun a' i' => if a' = a ∧ i' = i then v else S a' i'
theorem setS_o {S : cS} {a a' : Nat} {i v : Int} (h : ¬ a' = a) : setS S a i v a' = S a' := by
  funext i'
  unfold setS
  rw [if_neg (by omega)]
theorem setS_e {S : cS} {a : Nat} {i v : Int} : setS S a i v a i = v := if_pos ⟨rfl, rfl⟩
theorem setS_i {S : cS} {a : Nat} {i i' v : Int} (h : ¬ i' = i) : setS S a i v a i' = S a i' := if_neg (by omega)
theorem setS_at {S : cS} {a : Nat} {i i' v : Int} : setS S a i v a i' = if i' = i then v else S a i' := by
  unfold setS
  by_cases h : i' = i
  · rw [if_pos ⟨rfl, h⟩, if_pos h]
  · rw [if_neg (by omega), if_neg h]
theorem vw_setS {S : cS} {b j j' : Nat} {i i' v : Int} (hj : j' < 6) : vw (setS S (b + j) i v) b j' i' = if j' = j ∧ i' = i then v else vw S b j' i' := by
  unfold vw setS
  rw [if_pos hj, if_pos hj]
  by_cases h : j' = j ∧ i' = i
  · rw [if_pos h, if_pos (by omega)]
  · rw [if_neg h, if_neg (by omega)]
theorem vw_eq {S S' : cS} {b : Nat} (h : ∀ a, b ≤ a → a < b + 6 → S' a = S a) : vw S' b = vw S b := by
  funext j i
  unfold vw
  by_cases hj : j < 6
  · rw [if_pos hj, if_pos hj, h (b + j) (by omega) (by omega)]
  · rw [if_neg hj, if_neg hj]
theorem cOK_o {S S' : cS} {a : Nat} {e : va_E} (h : S' a = S a) (H : cOK S a e) : cOK S' a e := by
  unfold cOK at H ⊢
  by_cases h0 : a = 0
  · subst h0
    rw [if_pos rfl] at H ⊢
    rw [H, cFB, cFB, h]
  · rw [if_neg h0] at H ⊢
    by_cases h1 : a = 1
    · subst h1
      rw [if_pos rfl] at H ⊢
      rw [H, cFP, cFP, h]
    · rw [if_neg h1] at H ⊢
      by_cases h2 : cFm a
      · rw [if_pos h2] at H ⊢
        have : ∀ i, vw S' a 0 i = vw S a 0 i := fun i => by
          show (if 0 < 6 then S' (a + 0) i else 0) = if 0 < 6 then S (a + 0) i else 0
          rw [Nat.add_zero, h]
        rw [H, cFf, cFf, this, this, this]
      · rw [if_neg h2] at H ⊢
        by_cases h3 : a = 20
        · rw [if_pos h3] at H ⊢
          exact H
        · rw [if_neg h3] at H ⊢
          rw [h]
          exact H
theorem cHp.put {h : zH} {S : cS} {t a : Nat} {i v : Int} {e : va_E} (H : cHp h S t) (he : cOK (setS S a i v) a e) : cHp (zup h.1 a e, h.2) (setS S a i v) t := by
  refine ⟨H.1, fun a' ha' => ?_⟩
  show cOK (setS S a i v) a' (zup h.1 a e a')
  unfold zup
  by_cases h1 : a' = a
  · subst h1
    rw [if_pos rfl]
    exact he
  · rw [if_neg h1]
    exact cOK_o (setS_o h1) (H.2 a' ha')


/-! Depth: a run that goes on at a depth goes on at a greater one -/
section CDEEP
variable {nl cc : Nat → Nat} {nh : Nat → Bool} {code : Nat → Nat → Option zI} {hn : Nat → Nat → String → Option (Nat × Nat)}
theorem zrun_deep : ∀ (k d μ pc : Nat) (L : zLoc) (st : List Value) (h : zH) (res : (Option Value ⊕ String) × zH), zrun nl cc nh code hn k d μ pc L st h = some res → zrun nl cc nh code hn k (d + 1) μ pc L st h = some res := by
  intro k
  induction k with
  | zero => intro d μ pc L st h res hr; cases hr
  | succ k ih =>
    intro d μ pc L st h res hr
    rw [zrun] at hr ⊢
    cases hc : code μ pc with
    | none => rw [hc] at hr; cases hr
    | some i =>
      rw [hc] at hr
      match i, hr with
      | .inl op, hr =>
        dsimp only at hr ⊢
        split at hr
        · cases hr
        · exact ih _ _ _ _ _ _ _ hr
      | .inr (.inl r), hr => exact hr
      | .inr (.inr (.inl Ex)), hr =>
        dsimp only at hr ⊢
        split at hr
        · rename_i hg
          rw [if_pos]
          · exact hr
          · simp only [Bool.and_eq_true] at hg ⊢
            exact ⟨⟨Nat.ble_eq.mpr (Nat.le_succ_of_le (Nat.ble_eq.mp hg.1.1)), hg.1.2⟩, hg.2⟩
        · cases hr
      | .inr (.inr (.inr (μ', n, kd))), hr =>
        dsimp only at hr ⊢
        cases d with
        | zero => cases hr
        | succ d' =>
          dsimp only at hr ⊢
          split at hr
          · rename_i hcan
            rw [if_pos hcan]
            generalize hz : zrun nl cc nh code hn k d' μ' 0 (lv_args 0 (st.take n).reverse) [] h = z at hr
            match z, hz, hr with
            | none, _, hr => cases hr
            | some (.inl v, h'), hz, hr =>
              rw [ih _ _ _ _ _ _ _ hz]
              exact ih _ _ _ _ _ _ _ hr
            | some (.inr Ex, h'), hz, hr =>
              rw [ih _ _ _ _ _ _ _ hz]
              dsimp only at hr ⊢
              split at hr
              · exact ih _ _ _ _ _ _ _ hr
              · exact hr
          · cases hr
theorem zR_deep {d d' μ pc : Nat} {L : zLoc} {st : List Value} {h : zH} {res : (Option Value ⊕ String) × zH} (hd : d ≤ d') (hr : zR nl cc nh code hn d μ pc L st h res) : zR nl cc nh code hn d' μ pc L st h res := by
  induction hd with
  | refl => exact hr
  | step _ ih => obtain ⟨k, hk⟩ := ih; exact ⟨k, zrun_deep _ _ _ _ _ _ _ _ hk⟩
end CDEEP


/-! The judgement: from here the method returns, with Q of the answer and of what the heap then holds -/
def cZ (xs : Nat → Int32) (Ls d μ pc : Nat) (l : zLoc) (st : List Value) (S : cS) (t : Nat) (Q : Option Value → cS → Nat → Prop) : Prop :=
  ∀ (L : zLoc) (h : zH), (∀ q ∈ l, zget L q.1 = some q.2) → cHp h S t → ∃ (v : Option Value) (h' : zH) (S' : cS) (t' : Nat), zR z_nl z_cc z_nh (z_code xs Ls) (fun _ _ _ => none) d μ pc L st h (.inl v, h') ∧ cHp h' S' t' ∧ Q v S' t'
def cins (i : Nat) (v : Value) : zLoc → zLoc
  | [] => [(i, v)]
  | q :: r => if i < q.1 then (i, v) :: q :: r else q :: cins i v r
def cset1 (i : Nat) (v : Value) (l : zLoc) : zLoc := cins i v (zF1 i l)
def cset2 (i : Nat) (v : Value) (l : zLoc) : zLoc := cins i v (zF2 i l)
theorem cins_mem {i : Nat} {v : Value} {l : zLoc} {q : Nat × Value} (h : q ∈ cins i v l) : q = (i, v) ∨ q ∈ l := by
  induction l with
  | nil => exact Or.inl (List.mem_singleton.mp h)
  | cons q0 r ih =>
    unfold cins at h
    split at h
    · rcases List.mem_cons.mp h with h | h
      · exact Or.inl h
      · exact Or.inr h
    · rcases List.mem_cons.mp h with h | h
      · exact Or.inr (by rw [h]; exact List.mem_cons_self)
      · rcases ih h with h | h
        · exact Or.inl h
        · exact Or.inr (List.mem_cons_of_mem _ h)
theorem zget_filter {f : Nat × Value → Bool} {L : zLoc} {q : Nat × Value} (hg : zget L q.1 = some q.2) (hf : f q = true) : zget (L.filter f) q.1 = some q.2 := by
  induction L with
  | nil => cases hg
  | cons q0 r ih =>
    unfold zget at hg
    split at hg
    · rename_i he
      have : q0 = q := Prod.ext he (Option.some.inj hg)
      subst this
      rw [List.filter_cons_of_pos hf]
      unfold zget
      rw [if_pos rfl]
    · rename_i he
      by_cases hf0 : f q0 = true
      · rw [List.filter_cons_of_pos hf0]
        unfold zget
        rw [if_neg he]
        exact ih hg
      · rw [List.filter_cons_of_neg hf0]
        exact ih hg
theorem cset1_ok {i : Nat} {v : Value} {l L : zLoc} (hL : ∀ q ∈ l, zget L q.1 = some q.2) : ∀ q ∈ cset1 i v l, zget ((i, v) :: zF1 i L) q.1 = some q.2 := by
  intro q hq
  rcases cins_mem hq with h | h
  · subst h
    unfold zget
    rw [if_pos rfl]
  · obtain ⟨h1, h2⟩ := List.mem_filter.mp h
    unfold zget
    have hne : ¬ i = q.1 := by
      intro e
      rw [← e] at h2
      simp at h2
    rw [if_neg hne]
    exact zget_filter (hL q h1) h2
theorem cset2_ok {i : Nat} {v : Value} {l L : zLoc} (hL : ∀ q ∈ l, zget L q.1 = some q.2) : ∀ q ∈ cset2 i v l, zget ((i, v) :: zF2 i L) q.1 = some q.2 := by
  intro q hq
  rcases cins_mem hq with h | h
  · subst h
    unfold zget
    rw [if_pos rfl]
  · obtain ⟨h1, h2⟩ := List.mem_filter.mp h
    unfold zget
    have hne : ¬ i = q.1 := by
      intro e
      rw [← e] at h2
      simp at h2
    rw [if_neg hne]
    exact zget_filter (hL q h1) h2
theorem cargs_lt : ∀ (vs : List Value) (i : Nat) (q : Nat × Value), q ∈ lv_args i vs → i ≤ q.1 := by
  intro vs
  induction vs with
  | nil => intro i q hq; cases hq
  | cons v r ih =>
    intro i q hq
    unfold lv_args at hq
    rcases List.mem_cons.mp hq with h | h
    · subst h; exact Nat.le_refl _
    · have := ih _ q h
      split at this <;> omega
theorem cargs_ok : ∀ (i : Nat) (vs : List Value), ∀ q ∈ lv_args i vs, zget (lv_args i vs) q.1 = some q.2 := by
  intro i vs
  induction vs generalizing i with
  | nil => intro q hq; cases hq
  | cons v r ih =>
    intro q hq
    unfold lv_args at hq ⊢
    unfold zget
    rcases List.mem_cons.mp hq with h | h
    · subst h; rw [if_pos rfl]
    · have := cargs_lt _ _ q h
      rw [if_neg (by show ¬ i = q.1; split at this <;> omega)]
      exact ih _ q h
section CZ
variable {xs : Nat → Int32} {Ls d μ pc pc' tg : Nat} {l l' : zLoc} {st : List Value} {S : cS} {t : Nat} {Q : Option Value → cS → Nat → Prop}
theorem cz_op {op : zOp} {st' : List Value} {S' : cS} {t' : Nat} (hc : z_code xs Ls μ pc = some (.inl op)) (ho : ∀ L h, (∀ q ∈ l, zget L q.1 = some q.2) → cHp h S t → ∃ L' h', op L st h = some (pc', L', st', h') ∧ (∀ q ∈ l', zget L' q.1 = some q.2) ∧ cHp h' S' t') (k : cZ xs Ls d μ pc' l' st' S' t' Q) : cZ xs Ls d μ pc l st S t Q := by
  intro L h hL hH
  obtain ⟨L', h', e, hL', hH'⟩ := ho L h hL hH
  obtain ⟨v, h2, S2, t2, hr, hp, hq⟩ := k L' h' hL' hH'
  exact ⟨v, h2, S2, t2, zR_op hc e hr, hp, hq⟩
/-- known locals may be forgotten -/
theorem cz_weak (p : Nat → Bool) (hl : l.filter (fun q => p q.1) = l') (k : cZ xs Ls d μ pc l' st S t Q) : cZ xs Ls d μ pc l st S t Q := by
  intro L h hL hH
  exact k L h (fun q hq => by subst hl; exact hL q (List.mem_filter.mp hq).1) hH
theorem cz_post {Q' : Option Value → cS → Nat → Prop} (k : cZ xs Ls d μ pc l st S t Q) (hq : ∀ v S' t', Q v S' t' → Q' v S' t') : cZ xs Ls d μ pc l st S t Q' := by
  intro L h hL hH
  obtain ⟨v, h2, S2, t2, hr, hp, hqq⟩ := k L h hL hH
  exact ⟨v, h2, S2, t2, hr, hp, hq _ _ _ hqq⟩
theorem cz_deep {d' : Nat} (hd : d ≤ d') (k : cZ xs Ls d μ pc l st S t Q) : cZ xs Ls d' μ pc l st S t Q := by
  intro L h hL hH
  obtain ⟨v, h2, S2, t2, hr, hp, hqq⟩ := k L h hL hH
  exact ⟨v, h2, S2, t2, zR_deep hd hr, hp, hqq⟩
theorem cz_s1 {f : List Value → Option (Nat × List Value)} {st' : List Value} (hc : z_code xs Ls μ pc = some (.inl (zS1 f))) (hf : f st = some (pc', st')) (k : cZ xs Ls d μ pc' l st' S t Q) : cZ xs Ls d μ pc l st S t Q :=
  cz_op hc (fun L h hL hH => ⟨L, h, by show (match f st with | some (pc', st') => some (pc', L, st', h) | none => none) = _; rw [hf], hL, hH⟩) k
theorem cz_s2 {f : List Value → zH → Option (Nat × List Value)} {st' : List Value} (hc : z_code xs Ls μ pc = some (.inl (zS2 f))) (hf : ∀ h, cHp h S t → f st h = some (pc', st')) (k : cZ xs Ls d μ pc' l st' S t Q) : cZ xs Ls d μ pc l st S t Q :=
  cz_op hc (fun L h hL hH => ⟨L, h, by show (match f st h with | some (pc', st') => some (pc', L, st', h) | none => none) = _; rw [hf h hH], hL, hH⟩) k
theorem cz_ld {f : Value → Bool} {i : Nat} {v : Value} (hc : z_code xs Ls μ pc = some (.inl (zLd f pc' i))) (hg : zget l i = some v) (hf : f v = true) (k : cZ xs Ls d μ pc' l (v :: st) S t Q) : cZ xs Ls d μ pc l st S t Q :=
  cz_op hc (fun L h hL hH => ⟨L, h, by
    have : zget L i = some v := hL (i, v) (zget_mem hg)
    show (match zget L i with | some v => if f v = true then some (pc', L, v :: st, h) else none | none => none) = _
    rw [this]
    exact if_pos hf, hL, hH⟩) k
theorem cz_iload {i : Nat} {x : Int} (hc : z_code xs Ls μ pc = some (.inl (zLd zIsI pc' i))) (hg : zget l i = some (.int (cI x))) (k : cZ xs Ls d μ pc' l (.int (cI x) :: st) S t Q) : cZ xs Ls d μ pc l st S t Q := cz_ld hc hg rfl k
theorem cz_lload {i : Nat} {x : Int64} (hc : z_code xs Ls μ pc = some (.inl (zLd zIsL pc' i))) (hg : zget l i = some (.long x)) (k : cZ xs Ls d μ pc' l (.long x :: st) S t Q) : cZ xs Ls d μ pc l st S t Q := cz_ld hc hg rfl k
theorem cz_aload {i : Nat} {a : Nat} (hc : z_code xs Ls μ pc = some (.inl (zLd zIsA pc' i))) (hg : zget l i = some (.ref a)) (k : cZ xs Ls d μ pc' l (.ref a :: st) S t Q) : cZ xs Ls d μ pc l st S t Q := cz_ld hc hg rfl k
theorem cz_sload {i : Nat} (hc : z_code xs Ls μ pc = some (.inl (zLd zIsA pc' i))) (hg : zget l i = some (.retAddr 0)) (k : cZ xs Ls d μ pc' l (.retAddr 0 :: st) S t Q) : cZ xs Ls d μ pc l st S t Q := cz_ld hc hg rfl k
theorem cz_st1 {f : Value → Bool} {i : Nat} {v : Value} (hc : z_code xs Ls μ pc = some (.inl (zSt1 f pc' i))) (hf : f v = true) (hl : cset1 i v l = l') (k : cZ xs Ls d μ pc' l' st S t Q) : cZ xs Ls d μ pc l (v :: st) S t Q :=
  cz_op hc (fun L h hL hH => ⟨(i, v) :: zF1 i L, h, if_pos hf, by subst hl; exact cset1_ok hL, hH⟩) k
theorem cz_st2 {f : Value → Bool} {i : Nat} {v : Value} (hc : z_code xs Ls μ pc = some (.inl (zSt2 f pc' i))) (hf : f v = true) (hl : cset2 i v l = l') (k : cZ xs Ls d μ pc' l' st S t Q) : cZ xs Ls d μ pc l (v :: st) S t Q :=
  cz_op hc (fun L h hL hH => ⟨(i, v) :: zF2 i L, h, if_pos hf, by subst hl; exact cset2_ok hL, hH⟩) k
theorem cz_iinc {i : Nat} {x : Int} {w : Int32} {n : Int} (hc : z_code xs Ls μ pc = some (.inl (zIinc pc' i w))) (hw : w = cI n) (hg : zget l i = some (.int (cI x))) (hl : cset1 i (.int (cI (x + n))) l = l') (k : cZ xs Ls d μ pc' l' st S t Q) : cZ xs Ls d μ pc l st S t Q :=
  cz_op hc (fun L h hL hH => ⟨(i, .int (cI (x + n))) :: zF1 i L, h, by
    have : zget L i = some (.int (cI x)) := hL (i, .int (cI x)) (zget_mem hg)
    show (match zget L i with | some (Value.int v) => some (pc', (i, Value.int (v + w)) :: zF1 i L, st, h) | _ => none) = _
    rw [this, hw]
    show some (pc', (i, Value.int (cI x + cI n)) :: zF1 i L, st, h) = _
    rw [cI_add], by subst hl; exact cset1_ok hL, hH⟩) k
theorem cz_icst {w : Int32} {n : Int} (hc : z_code xs Ls μ pc = some (.inl (zS1 (zCst (.int w) pc')))) (hw : w = cI n) (k : cZ xs Ls d μ pc' l (.int (cI n) :: st) S t Q) : cZ xs Ls d μ pc l st S t Q := by
  subst hw
  exact cz_s1 hc rfl k
theorem cz_goto (hc : z_code xs Ls μ pc = some (.inl (zS1 (zGo pc')))) (k : cZ xs Ls d μ pc' l st S t Q) : cZ xs Ls d μ pc l st S t Q := cz_s1 hc rfl k
theorem cz_dup {v : Value} (hc : z_code xs Ls μ pc = some (.inl (zS1 (zDup pc')))) (hv : v.category = 1) (k : cZ xs Ls d μ pc' l (v :: v :: st) S t Q) : cZ xs Ls d μ pc l (v :: st) S t Q := cz_s1 hc (if_pos hv) k
theorem cz_dup2 {v u : Value} (hc : z_code xs Ls μ pc = some (.inl (zS1 (zDup2 pc')))) (hv : v.category = 1) (hu : u.category = 1) (k : cZ xs Ls d μ pc' l (v :: u :: v :: u :: st) S t Q) : cZ xs Ls d μ pc l (v :: u :: st) S t Q := cz_s1 hc (if_pos ⟨hv, hu⟩) k
theorem cz_pop {v : Value} (hc : z_code xs Ls μ pc = some (.inl (zS1 (zPop pc')))) (hv : v.category = 1) (k : cZ xs Ls d μ pc' l st S t Q) : cZ xs Ls d μ pc l (v :: st) S t Q := cz_s1 hc (if_pos hv) k
theorem cz_iadd {x y : Int} (hc : z_code xs Ls μ pc = some (.inl (zS1 (zII (fun x y => x + y) pc')))) (k : cZ xs Ls d μ pc' l (.int (cI (x + y)) :: st) S t Q) : cZ xs Ls d μ pc l (.int (cI y) :: .int (cI x) :: st) S t Q := by
  rw [← cI_add] at k; exact cz_s1 hc rfl k
theorem cz_isub {x y : Int} (hc : z_code xs Ls μ pc = some (.inl (zS1 (zII (fun x y => x - y) pc')))) (k : cZ xs Ls d μ pc' l (.int (cI (x - y)) :: st) S t Q) : cZ xs Ls d μ pc l (.int (cI y) :: .int (cI x) :: st) S t Q := by
  rw [← cI_sub] at k; exact cz_s1 hc rfl k
theorem cz_imul {x y : Int} (hc : z_code xs Ls μ pc = some (.inl (zS1 (zII (fun x y => x * y) pc')))) (k : cZ xs Ls d μ pc' l (.int (cI (x * y)) :: st) S t Q) : cZ xs Ls d μ pc l (.int (cI y) :: .int (cI x) :: st) S t Q := by
  rw [← cI_mul] at k; exact cz_s1 hc rfl k
/-- any operation on two ints -/
theorem cz_iany {g : Int32 → Int32 → Int32} {x y : Int32} (hc : z_code xs Ls μ pc = some (.inl (zS1 (zII g pc')))) (k : cZ xs Ls d μ pc' l (.int (cI (g x y).toInt) :: st) S t Q) : cZ xs Ls d μ pc l (.int y :: .int x :: st) S t Q := by
  rw [cI_back] at k; exact cz_s1 hc rfl k
theorem cz_idiv {x y : Int} (hc : z_code xs Ls μ pc = some (.inl (zS1 (zIIg (fun x y => x / y) pc')))) (hx : 0 ≤ x ∧ x < 2147483648) (hy : 0 < y ∧ y < 2147483648) (k : cZ xs Ls d μ pc' l (.int (cI (x / y)) :: st) S t Q) : cZ xs Ls d μ pc l (.int (cI y) :: .int (cI x) :: st) S t Q := by
  rw [← cI_div hx hy] at k; exact cz_s1 hc (if_pos (cI_ne_zero hy)) k
theorem cz_irem {x y : Int} (hc : z_code xs Ls μ pc = some (.inl (zS1 (zIIg (fun x y => x - x / y * y) pc')))) (hx : 0 ≤ x ∧ x < 2147483648) (hy : 0 < y ∧ y < 2147483648) (k : cZ xs Ls d μ pc' l (.int (cI (x % y)) :: st) S t Q) : cZ xs Ls d μ pc l (.int (cI y) :: .int (cI x) :: st) S t Q := by
  rw [← cI_rem hx hy] at k; exact cz_s1 hc (if_pos (cI_ne_zero hy)) k
theorem cz_if {g : Int32 → Bool} {x : Int32} (hc : z_code xs Ls μ pc = some (.inl (zS1 (zIf g tg pc')))) (k1 : g x = true → cZ xs Ls d μ tg l st S t Q) (k2 : ¬ g x = true → cZ xs Ls d μ pc' l st S t Q) : cZ xs Ls d μ pc l (.int x :: st) S t Q := by
  by_cases h : g x = true
  · exact cz_s1 (st' := st) hc (by show some ((if g x = true then tg else pc'), st) = _; rw [if_pos h]) (k1 h)
  · exact cz_s1 (st' := st) hc (by show some ((if g x = true then tg else pc'), st) = _; rw [if_neg h]) (k2 h)
theorem cz_icmp {g : Int32 → Int32 → Bool} {x y : Int32} (hc : z_code xs Ls μ pc = some (.inl (zS1 (zIcmp g tg pc')))) (k1 : g x y = true → cZ xs Ls d μ tg l st S t Q) (k2 : ¬ g x y = true → cZ xs Ls d μ pc' l st S t Q) : cZ xs Ls d μ pc l (.int y :: .int x :: st) S t Q := by
  by_cases h : g x y = true
  · exact cz_s1 (st' := st) hc (by show some ((if g x y = true then tg else pc'), st) = _; rw [if_pos h]) (k1 h)
  · exact cz_s1 (st' := st) hc (by show some ((if g x y = true then tg else pc'), st) = _; rw [if_neg h]) (k2 h)

theorem cz_ifeq {x : Int} (hc : z_code xs Ls μ pc = some (.inl (zS1 (zIf (fun x => decide (x = 0)) tg pc')))) (hx : -2147483648 ≤ x ∧ x < 2147483648) (k1 : x = 0 → cZ xs Ls d μ tg l st S t Q) (k2 : ¬ (x = 0) → cZ xs Ls d μ pc' l st S t Q) : cZ xs Ls d μ pc l (.int (cI x) :: st) S t Q := by
  have e := cI_inj hx (by omega : -2147483648 ≤ (0 : Int) ∧ (0 : Int) < 2147483648)
  rw [cI_zero] at e
  refine cz_if hc (fun h => k1 ?_) (fun h => k2 ?_)
  · have h := of_decide_eq_true h
    exact e.mp h
  · have h := of_decide_eq_false (Bool.not_eq_true _ ▸ h)
    exact fun hh => h (e.mpr hh)

theorem cz_ifne {x : Int} (hc : z_code xs Ls μ pc = some (.inl (zS1 (zIf (fun x => decide (¬ x = 0)) tg pc')))) (hx : -2147483648 ≤ x ∧ x < 2147483648) (k1 : ¬ x = 0 → cZ xs Ls d μ tg l st S t Q) (k2 : ¬ (¬ x = 0) → cZ xs Ls d μ pc' l st S t Q) : cZ xs Ls d μ pc l (.int (cI x) :: st) S t Q := by
  have e := cI_inj hx (by omega : -2147483648 ≤ (0 : Int) ∧ (0 : Int) < 2147483648)
  rw [cI_zero] at e
  refine cz_if hc (fun h => k1 ?_) (fun h => k2 ?_)
  · have h := of_decide_eq_true h
    exact fun hh => h (e.mpr hh)
  · have h := of_decide_eq_false (Bool.not_eq_true _ ▸ h)
    exact fun hh => h (fun h2 => hh (e.mp h2))

theorem cz_iflt {x : Int} (hc : z_code xs Ls μ pc = some (.inl (zS1 (zIf (fun x => decide (x < 0)) tg pc')))) (hx : -2147483648 ≤ x ∧ x < 2147483648) (k1 : x < 0 → cZ xs Ls d μ tg l st S t Q) (k2 : ¬ (x < 0) → cZ xs Ls d μ pc' l st S t Q) : cZ xs Ls d μ pc l (.int (cI x) :: st) S t Q := by
  have e := cI_lt hx (by omega : -2147483648 ≤ (0 : Int) ∧ (0 : Int) < 2147483648)
  rw [cI_zero] at e
  refine cz_if hc (fun h => k1 ?_) (fun h => k2 ?_)
  · have h := of_decide_eq_true h
    exact e.mp h
  · have h := of_decide_eq_false (Bool.not_eq_true _ ▸ h)
    exact fun hh => h (e.mpr hh)

theorem cz_ifle {x : Int} (hc : z_code xs Ls μ pc = some (.inl (zS1 (zIf (fun x => decide (x ≤ 0)) tg pc')))) (hx : -2147483648 ≤ x ∧ x < 2147483648) (k1 : x ≤ 0 → cZ xs Ls d μ tg l st S t Q) (k2 : ¬ (x ≤ 0) → cZ xs Ls d μ pc' l st S t Q) : cZ xs Ls d μ pc l (.int (cI x) :: st) S t Q := by
  have e := cI_le hx (by omega : -2147483648 ≤ (0 : Int) ∧ (0 : Int) < 2147483648)
  rw [cI_zero] at e
  refine cz_if hc (fun h => k1 ?_) (fun h => k2 ?_)
  · have h := of_decide_eq_true h
    exact e.mp h
  · have h := of_decide_eq_false (Bool.not_eq_true _ ▸ h)
    exact fun hh => h (e.mpr hh)

theorem cz_ifge {x : Int} (hc : z_code xs Ls μ pc = some (.inl (zS1 (zIf (fun x => decide (0 ≤ x)) tg pc')))) (hx : -2147483648 ≤ x ∧ x < 2147483648) (k1 : 0 ≤ x → cZ xs Ls d μ tg l st S t Q) (k2 : ¬ (0 ≤ x) → cZ xs Ls d μ pc' l st S t Q) : cZ xs Ls d μ pc l (.int (cI x) :: st) S t Q := by
  have e := cI_le (by omega : -2147483648 ≤ (0 : Int) ∧ (0 : Int) < 2147483648) hx
  rw [cI_zero] at e
  refine cz_if hc (fun h => k1 ?_) (fun h => k2 ?_)
  · have h := of_decide_eq_true h
    exact e.mp h
  · have h := of_decide_eq_false (Bool.not_eq_true _ ▸ h)
    exact fun hh => h (e.mpr hh)

theorem cz_ifgt {x : Int} (hc : z_code xs Ls μ pc = some (.inl (zS1 (zIf (fun x => decide (0 < x)) tg pc')))) (hx : -2147483648 ≤ x ∧ x < 2147483648) (k1 : 0 < x → cZ xs Ls d μ tg l st S t Q) (k2 : ¬ (0 < x) → cZ xs Ls d μ pc' l st S t Q) : cZ xs Ls d μ pc l (.int (cI x) :: st) S t Q := by
  have e := cI_lt (by omega : -2147483648 ≤ (0 : Int) ∧ (0 : Int) < 2147483648) hx
  rw [cI_zero] at e
  refine cz_if hc (fun h => k1 ?_) (fun h => k2 ?_)
  · have h := of_decide_eq_true h
    exact e.mp h
  · have h := of_decide_eq_false (Bool.not_eq_true _ ▸ h)
    exact fun hh => h (e.mpr hh)

theorem cz_iceq {x y : Int} (hc : z_code xs Ls μ pc = some (.inl (zS1 (zIcmp (fun x y => decide (x = y)) tg pc')))) (hx : -2147483648 ≤ x ∧ x < 2147483648) (hy : -2147483648 ≤ y ∧ y < 2147483648) (k1 : x = y → cZ xs Ls d μ tg l st S t Q) (k2 : ¬ (x = y) → cZ xs Ls d μ pc' l st S t Q) : cZ xs Ls d μ pc l (.int (cI y) :: .int (cI x) :: st) S t Q := by
  have e := cI_inj hx hy
  refine cz_icmp hc (fun h => k1 ?_) (fun h => k2 ?_)
  · have h := of_decide_eq_true h
    exact e.mp h
  · have h := of_decide_eq_false (Bool.not_eq_true _ ▸ h)
    exact fun hh => h (e.mpr hh)

theorem cz_icne {x y : Int} (hc : z_code xs Ls μ pc = some (.inl (zS1 (zIcmp (fun x y => decide (¬ x = y)) tg pc')))) (hx : -2147483648 ≤ x ∧ x < 2147483648) (hy : -2147483648 ≤ y ∧ y < 2147483648) (k1 : ¬ x = y → cZ xs Ls d μ tg l st S t Q) (k2 : ¬ (¬ x = y) → cZ xs Ls d μ pc' l st S t Q) : cZ xs Ls d μ pc l (.int (cI y) :: .int (cI x) :: st) S t Q := by
  have e := cI_inj hx hy
  refine cz_icmp hc (fun h => k1 ?_) (fun h => k2 ?_)
  · have h := of_decide_eq_true h
    exact fun hh => h (e.mpr hh)
  · have h := of_decide_eq_false (Bool.not_eq_true _ ▸ h)
    exact fun hh => h (fun h2 => hh (e.mp h2))

theorem cz_iclt {x y : Int} (hc : z_code xs Ls μ pc = some (.inl (zS1 (zIcmp (fun x y => decide (x < y)) tg pc')))) (hx : -2147483648 ≤ x ∧ x < 2147483648) (hy : -2147483648 ≤ y ∧ y < 2147483648) (k1 : x < y → cZ xs Ls d μ tg l st S t Q) (k2 : ¬ (x < y) → cZ xs Ls d μ pc' l st S t Q) : cZ xs Ls d μ pc l (.int (cI y) :: .int (cI x) :: st) S t Q := by
  have e := cI_lt hx hy
  refine cz_icmp hc (fun h => k1 ?_) (fun h => k2 ?_)
  · have h := of_decide_eq_true h
    exact e.mp h
  · have h := of_decide_eq_false (Bool.not_eq_true _ ▸ h)
    exact fun hh => h (e.mpr hh)

theorem cz_icge {x y : Int} (hc : z_code xs Ls μ pc = some (.inl (zS1 (zIcmp (fun x y => decide (y ≤ x)) tg pc')))) (hx : -2147483648 ≤ x ∧ x < 2147483648) (hy : -2147483648 ≤ y ∧ y < 2147483648) (k1 : y ≤ x → cZ xs Ls d μ tg l st S t Q) (k2 : ¬ (y ≤ x) → cZ xs Ls d μ pc' l st S t Q) : cZ xs Ls d μ pc l (.int (cI y) :: .int (cI x) :: st) S t Q := by
  have e := cI_le hy hx
  refine cz_icmp hc (fun h => k1 ?_) (fun h => k2 ?_)
  · have h := of_decide_eq_true h
    exact e.mp h
  · have h := of_decide_eq_false (Bool.not_eq_true _ ▸ h)
    exact fun hh => h (e.mpr hh)

theorem cz_icgt {x y : Int} (hc : z_code xs Ls μ pc = some (.inl (zS1 (zIcmp (fun x y => decide (y < x)) tg pc')))) (hx : -2147483648 ≤ x ∧ x < 2147483648) (hy : -2147483648 ≤ y ∧ y < 2147483648) (k1 : y < x → cZ xs Ls d μ tg l st S t Q) (k2 : ¬ (y < x) → cZ xs Ls d μ pc' l st S t Q) : cZ xs Ls d μ pc l (.int (cI y) :: .int (cI x) :: st) S t Q := by
  have e := cI_lt hy hx
  refine cz_icmp hc (fun h => k1 ?_) (fun h => k2 ?_)
  · have h := of_decide_eq_true h
    exact e.mp h
  · have h := of_decide_eq_false (Bool.not_eq_true _ ▸ h)
    exact fun hh => h (e.mpr hh)

theorem cz_icle {x y : Int} (hc : z_code xs Ls μ pc = some (.inl (zS1 (zIcmp (fun x y => decide (x ≤ y)) tg pc')))) (hx : -2147483648 ≤ x ∧ x < 2147483648) (hy : -2147483648 ≤ y ∧ y < 2147483648) (k1 : x ≤ y → cZ xs Ls d μ tg l st S t Q) (k2 : ¬ (x ≤ y) → cZ xs Ls d μ pc' l st S t Q) : cZ xs Ls d μ pc l (.int (cI y) :: .int (cI x) :: st) S t Q := by
  have e := cI_le hx hy
  refine cz_icmp hc (fun h => k1 ?_) (fun h => k2 ?_)
  · have h := of_decide_eq_true h
    exact e.mp h
  · have h := of_decide_eq_false (Bool.not_eq_true _ ▸ h)
    exact fun hh => h (e.mpr hh)

/-- two ints that are the same, whatever their range: the branch of those that differ isn't taken -/
theorem cz_icne_same {x y : Int} (hc : z_code xs Ls μ pc = some (.inl (zS1 (zIcmp (fun x y => decide (¬ x = y)) tg pc')))) (hxy : x = y) (k : cZ xs Ls d μ pc' l st S t Q) : cZ xs Ls d μ pc l (.int (cI y) :: .int (cI x) :: st) S t Q := by
  subst hxy
  refine cz_icmp hc (fun h => ?_) (fun _ => k)
  exact absurd rfl (of_decide_eq_true h)
theorem cz_iceq_same {x y : Int} (hc : z_code xs Ls μ pc = some (.inl (zS1 (zIcmp (fun x y => decide (x = y)) tg pc')))) (hxy : x = y) (k : cZ xs Ls d μ tg l st S t Q) : cZ xs Ls d μ pc l (.int (cI y) :: .int (cI x) :: st) S t Q := by
  subst hxy
  refine cz_icmp hc (fun _ => k) (fun h => ?_)
  exact absurd (decide_eq_true rfl) h
theorem cz_tab {e lo hi : Int} {tl : List Nat} {df : Nat} (hc : z_code xs Ls μ pc = some (.inl (zS1 (zTab lo hi tl df)))) (hr : -2147483648 ≤ e ∧ e < 2147483648) (he : lo ≤ e ∧ e ≤ hi) (ht : tl[(e - lo).toNat]? = some pc') (k : cZ xs Ls d μ pc' l st S t Q) : cZ xs Ls d μ pc l (.int (cI e) :: st) S t Q := by
  refine cz_s1 hc ?_ k
  show (if (cI e).toInt < lo ∨ hi < (cI e).toInt then some (df, st) else match tl[((cI e).toInt - lo).toNat]? with | some t' => some (t', st) | none => none) = _
  rw [cI_toInt hr, if_neg (by omega), ht]
theorem cz_tabD {e lo hi : Int} {tl : List Nat} (hc : z_code xs Ls μ pc = some (.inl (zS1 (zTab lo hi tl pc')))) (hr : -2147483648 ≤ e ∧ e < 2147483648) (he : e < lo ∨ hi < e) (k : cZ xs Ls d μ pc' l st S t Q) : cZ xs Ls d μ pc l (.int (cI e) :: st) S t Q := by
  refine cz_s1 hc ?_ k
  show (if (cI e).toInt < lo ∨ hi < (cI e).toInt then some (pc', st) else match tl[((cI e).toInt - lo).toNat]? with | some t' => some (t', st) | none => none) = _
  rw [cI_toInt hr, if_pos (by omega)]
/-! the heap -/
theorem cz_get {ci j a : Nat} {fs : List Value} {v : Value} (hc : z_code xs Ls μ pc = some (.inl (zS2 (zGet ci j pc')))) (ha : ∀ h, cHp h S t → h.1 a = .inr (ci, fs)) (hl : a < 70 + t) (hj : fs[j]? = some v) (k : cZ xs Ls d μ pc' l (v :: st) S t Q) : cZ xs Ls d μ pc l (.ref a :: st) S t Q :=
  cz_s2 hc (fun h hH => by
    show (if a < h.2.1 then match h.1 a with
      | .inr (c, fs) => if c = ci then match fs[j]? with
        | some v => some (pc', v :: st)
        | none => none
        else none
      | .inl _ => none
      else none) = _
    rw [hH.cells, if_pos hl, ha h hH]
    dsimp only
    rw [if_pos rfl, hj]) k
theorem cz_getB {j : Nat} {v : Value} (hc : z_code xs Ls μ pc = some (.inl (zS2 (zGet 2 j pc')))) (hj : (cFB S)[j]? = some v) (k : cZ xs Ls d μ pc' l (v :: st) S t Q) : cZ xs Ls d μ pc l (.ref 0 :: st) S t Q :=
  cz_get hc (fun h H => H.B) (by omega) hj k
theorem cz_getP {j : Nat} {v : Value} (hc : z_code xs Ls μ pc = some (.inl (zS2 (zGet 1 j pc')))) (hj : (cFP S)[j]? = some v) (k : cZ xs Ls d μ pc' l (v :: st) S t Q) : cZ xs Ls d μ pc l (.ref 1 :: st) S t Q :=
  cz_get hc (fun h H => H.P) (by omega) hj k
theorem cz_getF {j b : Nat} {v : Value} (hb : cFm b) (hc : z_code xs Ls μ pc = some (.inl (zS2 (zGet 0 j pc')))) (hj : (cFf S b)[j]? = some v) (k : cZ xs Ls d μ pc' l (v :: st) S t Q) : cZ xs Ls d μ pc l (.ref b :: st) S t Q :=
  cz_get hc (fun h H => H.F hb) (by have := hb.lt; omega) hj k
theorem cz_put {ci j a : Nat} {fs : List Value} {x : Int} (hc : z_code xs Ls μ pc = some (.inl (zPut zIsI ci j pc'))) (ha : ∀ h, cHp h S t → h.1 a = .inr (ci, fs)) (hl : a < 70 + t) (hj : j < fs.length) (hn : cOK (setS S a j x) a (.inr (ci, fs.set j (.int (cI x))))) (k : cZ xs Ls d μ pc' l st (setS S a j x) t Q) : cZ xs Ls d μ pc l (.int (cI x) :: .ref a :: st) S t Q :=
  cz_op hc (fun L h hL hH => ⟨L, (zup h.1 a (.inr (ci, fs.set j (.int (cI x)))), h.2), by
    show (if zIsI (.int (cI x)) = true ∧ a < h.2.1 then match h.1 a with
      | .inr (c, fs) => if c = ci ∧ j < fs.length then some (pc', L, st, (zup h.1 a (.inr (ci, fs.set j (.int (cI x)))), h.2)) else none
      | .inl _ => none
      else none) = _
    rw [hH.cells, if_pos ⟨rfl, hl⟩, ha h hH]
    dsimp only
    rw [if_pos ⟨rfl, hj⟩], hL, hH.put hn⟩) k
theorem cz_putB {j : Nat} {x : Int} (hc : z_code xs Ls μ pc = some (.inl (zPut zIsI 2 j pc'))) (hj : 5 ≤ j ∧ j < 8) (k : cZ xs Ls d μ pc' l st (setS S 0 j x) t Q) : cZ xs Ls d μ pc l (.int (cI x) :: .ref 0 :: st) S t Q := by
  refine cz_put hc (fun h H => H.B) (by omega) (by show j < 8; omega) ?_ k
  unfold cOK
  rw [if_pos rfl]
  obtain h | h | h : j = 5 ∨ j = 6 ∨ j = 7 := by omega
  all_goals subst h; rfl
theorem cz_putP {j : Nat} {x : Int} (hc : z_code xs Ls μ pc = some (.inl (zPut zIsI 1 j pc'))) (hj : j < 3) (k : cZ xs Ls d μ pc' l st (setS S 1 j x) t Q) : cZ xs Ls d μ pc l (.int (cI x) :: .ref 1 :: st) S t Q := by
  refine cz_put hc (fun h H => H.P) (by omega) (by show j < 9; omega) ?_ k
  unfold cOK
  rw [if_neg (by omega), if_pos rfl]
  obtain h | h | h : j = 0 ∨ j = 1 ∨ j = 2 := by omega
  all_goals subst h; rfl
theorem cz_putF {j b : Nat} {x : Int} (hb : cFm b) (hc : z_code xs Ls μ pc = some (.inl (zPut zIsI 0 j pc'))) (hj : j < 3) (k : cZ xs Ls d μ pc' l st (setS S b j x) t Q) : cZ xs Ls d μ pc l (.int (cI x) :: .ref b :: st) S t Q := by
  have hlt := hb.lt
  refine cz_put hc (fun h H => H.F hb) (by omega) (by show j < 8; omega) ?_ k
  unfold cOK
  rw [if_neg (by omega), if_neg (by omega), if_pos hb]
  have e : ∀ i : Int, vw (setS S b j x) b 0 i = if i = j then x else vw S b 0 i := fun i => by
    have h1 : vw (setS S b j x) b 0 i = setS S b j x (b + 0) i := if_pos (by omega)
    have h2 : vw S b 0 i = S (b + 0) i := if_pos (by omega)
    rw [h1, h2]
    show setS S b j x b i = if i = j then x else S b i
    exact setS_at
  rw [cFf, cFf, e, e, e]
  obtain h | h | h : j = 0 ∨ j = 1 ∨ j = 2 := by omega
  all_goals subst h; rfl

theorem cz_iald {a ty : Nat} {e : Int} (hc : z_code xs Ls μ pc = some (.inl (zS2 (zAldI ty pc')))) (ha : cAr a) (hty : cTy a = ty) (hl : a < 70 + t) (he : 0 ≤ e ∧ e < cLen a) (k : cZ xs Ls d μ pc' l (.int (cI (S a e)) :: st) S t Q) : cZ xs Ls d μ pc l (.int (cI e) :: .ref a :: st) S t Q :=
  cz_s2 hc (fun h hH => by
    have hlen : cLen a ≤ 64 := by unfold cLen; repeat (first | omega | split)
    obtain ⟨f, e1, e2, e3⟩ := hH.A ha hl
    show (if a < h.2.1 then match h.1 a with
      | .inl (t', n, .inl f) => if t' = ty then if cI e < 0 ∨ n ≤ (cI e).toNatClampNeg then none else some (pc', .int (f (cI e).toNatClampNeg) :: st) else none
      | _ => none
      else none) = _
    rw [hH.cells, if_pos hl, e1]
    dsimp only
    have h1 := cI_nat (e := e) ⟨he.1, by omega⟩
    have h2 : ¬ (cI e < 0 ∨ cLen a ≤ (cI e).toNatClampNeg) := by
      rw [← cI_zero, cI_lt ⟨by omega, by omega⟩ (by omega)]
      omega
    rw [if_pos hty, if_neg h2, e2 _ (by omega), h1]) k

theorem cz_bald {a ty : Nat} {e : Int} (hc : z_code xs Ls μ pc = some (.inl (zS2 (zAldZ ty pc')))) (ha : cAr a) (hty : cTy a = ty) (hl : a < 70 + t) (he : 0 ≤ e ∧ e < cLen a) (k : cZ xs Ls d μ pc' l (.int (cI (S a e)) :: st) S t Q) : cZ xs Ls d μ pc l (.int (cI e) :: .ref a :: st) S t Q :=
  cz_s2 hc (fun h hH => by
    have hlen : cLen a ≤ 64 := by unfold cLen; repeat (first | omega | split)
    obtain ⟨f, e1, e2, e3⟩ := hH.A ha hl
    show (if a < h.2.1 then match h.1 a with
      | .inl (t', n, .inl f) => if t' = ty then if cI e < 0 ∨ n ≤ (cI e).toNatClampNeg then none else some (pc', .int (f (cI e).toNatClampNeg) :: st) else none
      | _ => none
      else none) = _
    rw [hH.cells, if_pos hl, e1]
    dsimp only
    have h1 := cI_nat (e := e) ⟨he.1, by omega⟩
    have h2 : ¬ (cI e < 0 ∨ cLen a ≤ (cI e).toNatClampNeg) := by
      rw [← cI_zero, cI_lt ⟨by omega, by omega⟩ (by omega)]
      omega
    rw [if_pos hty, if_neg h2, e2 _ (by omega), h1]) k

theorem cz_iast {a ty : Nat} {e x : Int} (hc : z_code xs Ls μ pc = some (.inl (zAstI ty pc'))) (ha : cAr a) (hty : cTy a = ty) (hl : a < 70 + t) (he : 0 ≤ e ∧ e < cLen a) (h0 : ¬ ty = 1) (k : cZ xs Ls d μ pc' l st (setS S a e x) t Q) : cZ xs Ls d μ pc l (.int (cI x) :: .int (cI e) :: .ref a :: st) S t Q := by
  have hlen : cLen a ≤ 64 := by unfold cLen; repeat (first | omega | split)
  have h1 := cI_nat (e := e) ⟨he.1, by omega⟩
  refine cz_op hc (fun L h hL hH => ?_) k
  obtain ⟨f, e1, e2, e3⟩ := hH.A ha hl
  refine ⟨L, (zup h.1 a (.inl (ty, cLen a, .inl (upd f (cI e).toNatClampNeg (cI x)))), h.2), ?_, hL, hH.put ?_⟩
  · show (if a < h.2.1 ∧ (True) then match h.1 a with
      | .inl (t', n, .inl f) => if t' = ty then if cI e < 0 ∨ n ≤ (cI e).toNatClampNeg then none else some (pc', L, st, (zup h.1 a (.inl (ty, n, .inl (upd f (cI e).toNatClampNeg (cI x)))), h.2)) else none
      | _ => none
      else none) = _
    rw [hH.cells, if_pos ⟨hl, trivial⟩, e1]
    dsimp only
    have h2 : ¬ (cI e < 0 ∨ cLen a ≤ (cI e).toNatClampNeg) := by
      rw [← cI_zero, cI_lt ⟨by omega, by omega⟩ (by omega)]
      omega
    rw [if_pos hty, if_neg h2]
  · unfold cOK
    rw [if_neg ha.1, if_neg ha.2.1, if_neg ha.2.2.1, if_neg ha.2.2.2]
    refine ⟨_, by rw [hty], fun i hi => ?_, fun h => absurd (hty.symm.trans h) h0⟩
    unfold upd
    rw [setS_at]
    by_cases hie : i = (cI e).toNatClampNeg
    · rw [if_pos hie, if_pos (by omega)]
    · rw [if_neg hie, if_neg (by omega)]
      exact e2 i hi

theorem cz_bast {a ty : Nat} {e x : Int} (hc : z_code xs Ls μ pc = some (.inl (zAstZ ty pc'))) (ha : cAr a) (hty : cTy a = ty) (hl : a < 70 + t) (he : 0 ≤ e ∧ e < cLen a) (hx : x = 0 ∨ x = 1) (k : cZ xs Ls d μ pc' l st (setS S a e x) t Q) : cZ xs Ls d μ pc l (.int (cI x) :: .int (cI e) :: .ref a :: st) S t Q := by
  have hlen : cLen a ≤ 64 := by unfold cLen; repeat (first | omega | split)
  have h1 := cI_nat (e := e) ⟨he.1, by omega⟩
  refine cz_op hc (fun L h hL hH => ?_) k
  obtain ⟨f, e1, e2, e3⟩ := hH.A ha hl
  refine ⟨L, (zup h.1 a (.inl (ty, cLen a, .inl (upd f (cI e).toNatClampNeg (cI x)))), h.2), ?_, hL, hH.put ?_⟩
  · show (if a < h.2.1 ∧ ((cI x = 0 ∨ cI x = 1)) then match h.1 a with
      | .inl (t', n, .inl f) => if t' = ty then if cI e < 0 ∨ n ≤ (cI e).toNatClampNeg then none else some (pc', L, st, (zup h.1 a (.inl (ty, n, .inl (upd f (cI e).toNatClampNeg (cI x)))), h.2)) else none
      | _ => none
      else none) = _
    rw [hH.cells, if_pos ⟨hl, by rcases hx with h | h <;> subst h <;> decide⟩, e1]
    dsimp only
    have h2 : ¬ (cI e < 0 ∨ cLen a ≤ (cI e).toNatClampNeg) := by
      rw [← cI_zero, cI_lt ⟨by omega, by omega⟩ (by omega)]
      omega
    rw [if_pos hty, if_neg h2]
  · unfold cOK
    rw [if_neg ha.1, if_neg ha.2.1, if_neg ha.2.2.1, if_neg ha.2.2.2]
    refine ⟨_, by rw [hty], fun i hi => ?_, fun h i hi0 hi1 => by rw [setS_at]; split; exact hx; exact e3 h i hi0 hi1⟩
    unfold upd
    rw [setS_at]
    by_cases hie : i = (cI e).toNatClampNeg
    · rw [if_pos hie, if_pos (by omega)]
    · rw [if_neg hie, if_neg (by omega)]
      exact e2 i hi

theorem cz_ialdF {b j : Nat} {e : Int} (hb : cFm b) (hj : 1 ≤ j ∧ j ≤ 5 ∧ ¬ j = 4) (hc : z_code xs Ls μ pc = some (.inl (zS2 (zAldI 0 pc')))) (he : 0 ≤ e ∧ e < 32) (k : cZ xs Ls d μ pc' l (.int (cI (vw S b j e)) :: st) S t Q) : cZ xs Ls d μ pc l (.int (cI e) :: .ref (b + j) :: st) S t Q := by
  rw [← vw_at e (by omega)] at k
  exact cz_iald hc (cArF hb (by omega)) (cTyF hb hj) (by have := hb.lt; omega) (by rw [cLenF hb (by omega)]; exact he) k
theorem cz_baldF {b : Nat} {e : Int} (hb : cFm b) (hc : z_code xs Ls μ pc = some (.inl (zS2 (zAldZ 1 pc')))) (he : 0 ≤ e ∧ e < 32) (k : cZ xs Ls d μ pc' l (.int (cI (vw S b 4 e)) :: st) S t Q) : cZ xs Ls d μ pc l (.int (cI e) :: .ref (b + 4) :: st) S t Q := by
  rw [← vw_at e (by omega)] at k
  exact cz_bald hc (cArF hb (by omega)) (cTyF4 hb) (by have := hb.lt; omega) (by rw [cLenF hb (by omega)]; exact he) k
theorem cz_iastF {b j : Nat} {e x : Int} (hb : cFm b) (hj : 1 ≤ j ∧ j ≤ 5 ∧ ¬ j = 4) (hc : z_code xs Ls μ pc = some (.inl (zAstI 0 pc'))) (he : 0 ≤ e ∧ e < 32) (k : cZ xs Ls d μ pc' l st (setS S (b + j) e x) t Q) : cZ xs Ls d μ pc l (.int (cI x) :: .int (cI e) :: .ref (b + j) :: st) S t Q :=
  cz_iast hc (cArF hb (by omega)) (cTyF hb hj) (by have := hb.lt; omega) (by rw [cLenF hb (by omega)]; exact he) (by decide) k
theorem cz_bastF {b : Nat} {e x : Int} (hb : cFm b) (hc : z_code xs Ls μ pc = some (.inl (zAstZ 1 pc'))) (he : 0 ≤ e ∧ e < 32) (hx : x = 0 ∨ x = 1) (k : cZ xs Ls d μ pc' l st (setS S (b + 4) e x) t Q) : cZ xs Ls d μ pc l (.int (cI x) :: .int (cI e) :: .ref (b + 4) :: st) S t Q :=
  cz_bast hc (cArF hb (by omega)) (cTyF4 hb) (by have := hb.lt; omega) (by rw [cLenF hb (by omega)]; exact he) hx k
/-- a place of an array of ints of the Paper, or of the Codes, or a made one -/
theorem cz_ialdA {a n : Nat} {e : Int} (ha : 2 ≤ a ∧ a < 8 ∨ a = 21 ∨ 70 ≤ a) (hn : cLen a = n) (hl : a < 70 + t) (hc : z_code xs Ls μ pc = some (.inl (zS2 (zAldI 0 pc')))) (he : 0 ≤ e ∧ e < n) (k : cZ xs Ls d μ pc' l (.int (cI (S a e)) :: st) S t Q) : cZ xs Ls d μ pc l (.int (cI e) :: .ref a :: st) S t Q :=
  cz_iald hc (cAr_of ha) (cTy_of ha) hl (by rw [hn]; exact he) k
theorem cz_iastA {a n : Nat} {e x : Int} (ha : 2 ≤ a ∧ a < 8 ∨ a = 21 ∨ 70 ≤ a) (hn : cLen a = n) (hl : a < 70 + t) (hc : z_code xs Ls μ pc = some (.inl (zAstI 0 pc'))) (he : 0 ≤ e ∧ e < n) (k : cZ xs Ls d μ pc' l st (setS S a e x) t Q) : cZ xs Ls d μ pc l (.int (cI x) :: .int (cI e) :: .ref a :: st) S t Q :=
  cz_iast hc (cAr_of ha) (cTy_of ha) hl (by rw [hn]; exact he) (by decide) k
theorem cz_aaldQ {e : Int} (hc : z_code xs Ls μ pc = some (.inl (zS2 (zAldQ 2 pc')))) (he : 0 ≤ e ∧ e < 8) (k : cZ xs Ls d μ pc' l (.ref (22 + 6 * e.toNat) :: st) S t Q) : cZ xs Ls d μ pc l (.int (cI e) :: .ref 20 :: st) S t Q :=
  cz_s2 hc (fun h hH => by
    obtain ⟨f, e1, e2⟩ := hH.Q
    show (if 20 < h.2.1 then match h.1 20 with
      | .inl (t', n, .inr (.inr (.inr (.inr f)))) => if t' = 2 then if cI e < 0 ∨ n ≤ (cI e).toNatClampNeg then none else some (pc', zRf (f (cI e).toNatClampNeg) :: st) else none
      | _ => none
      else none) = _
    rw [hH.cells, if_pos (by omega), e1]
    dsimp only
    have h1 := cI_nat (e := e) ⟨he.1, by omega⟩
    have h2 : ¬ (cI e < 0 ∨ 8 ≤ (cI e).toNatClampNeg) := by
      rw [← cI_zero, cI_lt ⟨by omega, by omega⟩ (by omega)]
      omega
    have h3 : (cI e).toNatClampNeg = e.toNat := by omega
    rw [if_pos rfl, if_neg h2, e2 _ (by omega), h3]
    rfl) k
/-- a made array of two ints -/
theorem cz_new2 (hc : z_code xs Ls μ pc = some (.inl (zNwaI 0 pc'))) (k : cZ xs Ls d μ pc' l (.ref (70 + t) :: st) (fun a => if a = 70 + t then fun _ => 0 else S a) (t + 1) Q) : cZ xs Ls d μ pc l (.int (cI 2) :: st) S t Q := by
  refine cz_op hc (fun L h hL hH => ?_) k
  have e2 : (cI 2).toNatClampNeg = 2 := by decide
  refine ⟨L, (zup h.1 h.2.1 (.inl (0, (cI 2).toNatClampNeg, .inl (fun _ => 0))), h.2.1 + 1, h.2.2.1 + 1, h.2.2.2.1 + (cI 2).toNatClampNeg, true), ?_, hL, ?_⟩
  · show (if h.2.2.2.2 = true ∧ ¬ cI 2 < 0 ∧ (cI 2).toNatClampNeg ≤ 1000000 then some (pc', L, Value.ref h.2.1 :: st, ((zup h.1 h.2.1 (.inl (0, (cI 2).toNatClampNeg, .inl (fun _ => 0))), h.2.1 + 1, h.2.2.1 + 1, h.2.2.2.1 + (cI 2).toNatClampNeg, true) : zH)) else none) = _
    rw [if_pos ⟨by rw [hH.1], by decide, by decide⟩, hH.cells]
  · refine ⟨?_, fun a ha => ?_⟩
    · show (h.2.1 + 1, h.2.2.1 + 1, h.2.2.2.1 + (cI 2).toNatClampNeg, true) = _
      rw [hH.1, e2]
      rfl
    · rw [hH.cells, e2]
      show cOK _ a (zup h.1 (70 + t) _ a)
      unfold zup
      by_cases h1 : a = 70 + t
      · rw [if_pos h1]
        subst h1
        have h2 : cAr (70 + t) := cAr_of (by omega)
        unfold cOK
        rw [if_neg h2.1, if_neg h2.2.1, if_neg h2.2.2.1, if_neg h2.2.2.2, cTy_of (by omega)]
        have h3 : cLen (70 + t) = 2 := by unfold cLen; repeat (first | omega | split)
        refine ⟨_, by rw [h3], fun i hi => ?_, fun h => by cases h⟩
        show (0 : Int32) = cI ((if 70 + t = 70 + t then fun _ => (0 : Int) else S (70 + t)) i)
        rw [if_pos rfl]
        exact cI_zero.symm
      · rw [if_neg h1]
        have h2 : (fun a => if a = 70 + t then fun _ => (0 : Int) else S a : cS) a = S a := if_neg h1
        exact cOK_o h2 (hH.2 a (by omega))

theorem cz_max {x y : Int} (hc : z_code xs Ls μ pc = some (.inl (zS2 (zMax pc')))) (hs : Nat.ble (st.map fun v => v.category).sum 8 = true) (hx : -2147483648 ≤ x ∧ x < 2147483648) (hy : -2147483648 ≤ y ∧ y < 2147483648) (k : cZ xs Ls d μ pc' l (.int (cI (if x < y then y else x)) :: st) S t Q) : cZ xs Ls d μ pc l (.int (cI y) :: .int (cI x) :: st) S t Q :=
  cz_s2 hc (fun h hH => by
    show (if (st.map fun v => v.category).sum ≤ 8 then some (pc', Value.int (if cI x < cI y then cI y else cI x) :: st) else none) = _
    rw [if_pos (Nat.le_of_ble_eq_true hs)]
    have e := cI_lt hx hy
    by_cases hh : x < y
    · rw [if_pos hh, if_pos (e.mpr hh)]
    · rw [if_neg hh, if_neg (fun h => hh (e.mp h))]) k

theorem cz_min {x y : Int} (hc : z_code xs Ls μ pc = some (.inl (zS2 (zMin pc')))) (hs : Nat.ble (st.map fun v => v.category).sum 8 = true) (hx : -2147483648 ≤ x ∧ x < 2147483648) (hy : -2147483648 ≤ y ∧ y < 2147483648) (k : cZ xs Ls d μ pc' l (.int (cI (if y < x then y else x)) :: st) S t Q) : cZ xs Ls d μ pc l (.int (cI y) :: .int (cI x) :: st) S t Q :=
  cz_s2 hc (fun h hH => by
    show (if (st.map fun v => v.category).sum ≤ 8 then some (pc', Value.int (if cI y < cI x then cI y else cI x) :: st) else none) = _
    rw [if_pos (Nat.le_of_ble_eq_true hs)]
    have e := cI_lt hy hx
    by_cases hh : y < x
    · rw [if_pos hh, if_pos (e.mpr hh)]
    · rw [if_neg hh, if_neg (fun h => hh (e.mp h))]) k

theorem cz_abs {x : Int} (hc : z_code xs Ls μ pc = some (.inl (zS2 (zAbs pc')))) (hs : Nat.ble (st.map fun v => v.category).sum 8 = true) (hx : -2147483648 ≤ x ∧ x < 2147483648) (k : cZ xs Ls d μ pc' l (.int (cI (if 0 ≤ x then x else 0 - x)) :: st) S t Q) : cZ xs Ls d μ pc l (.int (cI x) :: st) S t Q :=
  cz_s2 hc (fun h hH => by
    show (if (st.map fun v => v.category).sum ≤ 8 then some (pc', Value.int (if 0 ≤ cI x then cI x else 0 - cI x) :: st) else none) = _
    rw [if_pos (Nat.le_of_ble_eq_true hs)]
    have e := cI_le (a := 0) (b := x) (by omega) hx
    rw [cI_zero] at e
    by_cases hh : 0 ≤ x
    · rw [if_pos hh, if_pos (e.mpr hh)]
    · rw [if_neg hh, if_neg (fun h => hh (e.mp h)), ← cI_zero, cI_sub]) k
/-- a Form's sides are up or down -/
theorem cz_bool {b : Nat} (hb : cFm b) (k : (∀ i, 0 ≤ i → i < 32 → vw S b 4 i = 0 ∨ vw S b 4 i = 1) → cZ xs Ls d μ pc l st S t Q) : cZ xs Ls d μ pc l st S t Q := by
  intro L h hL hH
  obtain ⟨f, e1, e2, e3⟩ := hH.A (cArF hb (j := 4) (by omega)) (by have := hb.lt; omega)
  refine k (fun i h0 h1 => ?_) L h hL hH
  rw [← vw_at i (by omega)]
  exact e3 (cTyF4 hb) i h0 (by rw [cLenF hb (by omega)]; exact h1)
/-! ends -/
theorem cz_ret0 (hc : z_code xs Ls μ pc = some (.inr (.inl 0))) (hq : Q none S t) : cZ xs Ls d μ pc l [] S t Q :=
  fun L h _ hH => ⟨none, h, S, t, zR_ret0 hc, hH, hq⟩
theorem cz_retI {x : Int} (hc : z_code xs Ls μ pc = some (.inr (.inl 1))) (hq : Q (some (.int (cI x))) S t) : cZ xs Ls d μ pc l [.int (cI x)] S t Q :=
  fun L h _ hH => ⟨_, h, S, t, zR_ret hc rfl, hH, hq⟩
theorem cz_retZ {x : Int} (hc : z_code xs Ls μ pc = some (.inr (.inl 5))) (hx : x = 0 ∨ x = 1) (hq : Q (some (.int (cI x))) S t) : cZ xs Ls d μ pc l [.int (cI x)] S t Q :=
  fun L h _ hH => ⟨_, h, S, t, zR_ret hc (by rcases hx with h | h <;> subst h <;> decide), hH, hq⟩
theorem cz_retJ {x : Int64} (hc : z_code xs Ls μ pc = some (.inr (.inl 2))) (hq : Q (some (.long x)) S t) : cZ xs Ls d μ pc l [.long x] S t Q :=
  fun L h _ hH => ⟨_, h, S, t, zR_ret hc rfl, hH, hq⟩
theorem cz_retD {x : UInt64} (hc : z_code xs Ls μ pc = some (.inr (.inl 3))) (hq : Q (some (.double x)) S t) : cZ xs Ls d μ pc l [.double x] S t Q :=
  fun L h _ hH => ⟨_, h, S, t, zR_ret hc rfl, hH, hq⟩
/-! calls -/
def cIs (b c : Nat) : Prop := (b = 0 ∧ c = 2) ∨ (b = 1 ∧ c = 1) ∨ (cFm b ∧ c = 0)
theorem cIs0 : cIs 0 2 := Or.inl ⟨rfl, rfl⟩
theorem cIs1 : cIs 1 1 := Or.inr (Or.inl ⟨rfl, rfl⟩)
theorem cIsF {b : Nat} (hb : cFm b) : cIs b 0 := Or.inr (Or.inr ⟨hb, rfl⟩)
theorem cIs.spec {b c : Nat} (hi : cIs b c) {h : zH} (hH : cHp h S t) : b < h.2.1 ∧ ∃ fs, h.1 b = .inr (c, fs) := by
  rw [hH.cells]
  rcases hi with ⟨h1, h2⟩ | ⟨h1, h2⟩ | ⟨h1, h2⟩
  · subst h1; subst h2; exact ⟨by omega, _, hH.B⟩
  · subst h1; subst h2; exact ⟨by omega, _, hH.P⟩
  · subst h2; exact ⟨by have := h1.lt; omega, _, hH.F h1⟩
theorem cz_callS {μ' n kd d' : Nat} {Q1 : Option Value → cS → Nat → Prop} (hc : z_code xs Ls μ pc = some (.inr (.inr (.inr (μ', n, kd))))) (h1 : Nat.ble n st.length = true) (h2 : Nat.ble (lg_sl (st.take n).reverse).length (z_nl μ') = true) (h3 : Nat.ble ((st.drop n).map fun v => v.category).sum 8 = true)
    (h4 : ((kd == 2) || (kd == 3)) = true) (hd : d' ≤ d) (hb : cZ xs Ls d' μ' 0 (lv_args 0 (st.take n).reverse) [] S t Q1) (k : ∀ v S' t', Q1 v S' t' → cZ xs Ls (d + 1) μ (pc + 3) l (v.toList ++ st.drop n) S' t' Q) : cZ xs Ls (d + 1) μ pc l st S t Q := by
  intro L h hL hH
  obtain ⟨v, h', S', t', hr, hp, hq⟩ := hb (lv_args 0 (st.take n).reverse) h (cargs_ok 0 (st.take n).reverse) hH
  · obtain ⟨v2, h2', S2, t2, hr2, hp2, hq2⟩ := k v S' t' hq L h' hL hp
    refine ⟨v2, h2', S2, t2, zR_call hc ?_ (zR_deep hd hr) hr2, hp2, hq2⟩
    unfold zCan
    rw [h1, h2, h3]
    simp only [Bool.or_eq_true] at h4
    rcases h4 with h4 | h4 <;> simp [h4]
theorem cz_callV {μ' n kd d' b : Nat} {As : List Value} {Q1 : Option Value → cS → Nat → Prop} (hc : z_code xs Ls μ pc = some (.inr (.inr (.inr (μ', n, kd))))) (h1 : Nat.ble n st.length = true) (h2 : Nat.ble (lg_sl (st.take n).reverse).length (z_nl μ') = true) (h3 : Nat.ble ((st.drop n).map fun v => v.category).sum 8 = true)
    (h4 : (st.take n).reverse = .ref b :: As) (h5 : cIs b (z_cc μ')) (hd : d' ≤ d) (hb : cZ xs Ls d' μ' 0 (lv_args 0 (st.take n).reverse) [] S t Q1) (k : ∀ v S' t', Q1 v S' t' → cZ xs Ls (d + 1) μ (pc + 3) l (v.toList ++ st.drop n) S' t' Q) : cZ xs Ls (d + 1) μ pc l st S t Q := by
  intro L h hL hH
  obtain ⟨v, h', S', t', hr, hp, hq⟩ := hb (lv_args 0 (st.take n).reverse) h (cargs_ok 0 (st.take n).reverse) hH
  · obtain ⟨v2, h2', S2, t2, hr2, hp2, hq2⟩ := k v S' t' hq L h' hL hp
    refine ⟨v2, h2', S2, t2, zR_call hc ?_ (zR_deep hd hr) hr2, hp2, hq2⟩
    unfold zCan
    rw [h1, h2, h3, h4]
    obtain ⟨h6, fs, h7⟩ := h5.spec hH
    simp [h7, Nat.blt_eq.mpr h6]
end CZ
