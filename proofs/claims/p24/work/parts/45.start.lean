/-! The start: the constructor is run, then the law -/
theorem zrun_mono {nl cc : Nat → Nat} {nh : Nat → Bool} {c1 c2 : Nat → Nat → Option zI} {hn : Nat → Nat → String → Option (Nat × Nat)} (hc : ∀ μ pc i, c2 μ pc = some i → c1 μ pc = some i) : ∀ (k d μ pc : Nat) (L : zLoc) (st : List Value) (h : zH) (res : (Option Value ⊕ String) × zH), zrun nl cc nh c2 hn k d μ pc L st h = some res → zrun nl cc nh c1 hn k d μ pc L st h = some res := by
  intro k
  induction k with
  | zero => intro d μ pc L st h res hr; cases hr
  | succ k ih =>
    intro d μ pc L st h res hr
    rw [zrun] at hr ⊢
    cases hcc : c2 μ pc with
    | none => rw [hcc] at hr; cases hr
    | some i =>
      rw [hcc] at hr
      rw [hc μ pc i hcc]
      match i, hr with
      | .inl op, hr =>
        dsimp only at hr ⊢
        split at hr
        · cases hr
        · exact ih _ _ _ _ _ _ _ hr
      | .inr (.inl r), hr => exact hr
      | .inr (.inr (.inl Ex)), hr => exact hr
      | .inr (.inr (.inr (μ', n, kd))), hr =>
        dsimp only at hr ⊢
        cases d with
        | zero => cases hr
        | succ d' =>
          dsimp only at hr ⊢
          split at hr
          · rename_i hcan
            rw [if_pos hcan]
            generalize hz : zrun nl cc nh c2 hn k d' μ' 0 (lv_args 0 (st.take n).reverse) [] h = z at hr
            match z, hz, hr with
            | none, _, hr => cases hr
            | some (.inl v, h'), hz, hr =>
              rw [ih _ _ _ _ _ _ _ hz]
              exact ih _ _ _ _ _ _ _ hr
            | some (.inr Ex, h'), hz, hr =>
              rw [ih _ _ _ _ _ _ _ hz]
              dsimp only at hr ⊢
              split at hr
              · exact ih _ _ _ _ _ _ _ hr
              · exact hr
          · cases hr
def z_code0 : Nat → Nat → Option zI := fun μ pc => bif Nat.beq μ 89 || Nat.beq μ 90 then none else z_code (fun _ => 0) 0 μ pc
theorem z_same (xs : Nat → Int32) (Ls : Nat) : ∀ μ pc i, z_code0 μ pc = some i → z_code xs Ls μ pc = some i := by
  intro μ pc i h
  match μ, h with
  | 0, h => exact h
  | 1, h => exact h
  | 2, h => exact h
  | 3, h => exact h
  | 4, h => exact h
  | 5, h => exact h
  | 6, h => exact h
  | 7, h => exact h
  | 8, h => exact h
  | 9, h => exact h
  | 10, h => exact h
  | 11, h => exact h
  | 12, h => exact h
  | 13, h => exact h
  | 14, h => exact h
  | 15, h => exact h
  | 16, h => exact h
  | 17, h => exact h
  | 18, h => exact h
  | 19, h => exact h
  | 20, h => exact h
  | 21, h => exact h
  | 22, h => exact h
  | 23, h => exact h
  | 24, h => exact h
  | 25, h => exact h
  | 26, h => exact h
  | 27, h => exact h
  | 28, h => exact h
  | 29, h => exact h
  | 30, h => exact h
  | 31, h => exact h
  | 32, h => exact h
  | 33, h => exact h
  | 34, h => exact h
  | 35, h => exact h
  | 36, h => exact h
  | 37, h => exact h
  | 38, h => exact h
  | 39, h => exact h
  | 40, h => exact h
  | 41, h => exact h
  | 42, h => exact h
  | 43, h => exact h
  | 44, h => exact h
  | 45, h => exact h
  | 46, h => exact h
  | 47, h => exact h
  | 48, h => exact h
  | 49, h => exact h
  | 50, h => exact h
  | 51, h => exact h
  | 52, h => exact h
  | 53, h => exact h
  | 54, h => exact h
  | 55, h => exact h
  | 56, h => exact h
  | 57, h => exact h
  | 58, h => exact h
  | 59, h => exact h
  | 60, h => exact h
  | 61, h => exact h
  | 62, h => exact h
  | 63, h => exact h
  | 64, h => exact h
  | 65, h => exact h
  | 66, h => exact h
  | 67, h => exact h
  | 68, h => exact h
  | 69, h => exact h
  | 70, h => exact h
  | 71, h => exact h
  | 72, h => exact h
  | 73, h => exact h
  | 74, h => exact h
  | 75, h => exact h
  | 76, h => exact h
  | 77, h => exact h
  | 78, h => exact h
  | 79, h => exact h
  | 80, h => exact h
  | 81, h => exact h
  | 82, h => exact h
  | 83, h => exact h
  | 84, h => exact h
  | 85, h => exact h
  | 86, h => exact h
  | 87, h => exact h
  | 88, h => exact h
  | 89, h => cases h
  | 90, h => cases h
  | 91, h => exact h
  | n + 92, h => exact h
def cS0 : cS := fun a i => if (a = 1 ∧ 0 ≤ i ∧ i ≤ 2) ∨ (a = 8 ∧ 0 ≤ i ∧ i ≤ 2) ∨ (a = 12 ∧ i = 0) ∨ (a = 13 ∧ i = 0) then 1 else 0
theorem cS0_01 (a : Nat) (i : Int) : cS0 a i = 0 ∨ cS0 a i = 1 := by
  unfold cS0
  split
  · exact Or.inr rfl
  · exact Or.inl rfl
def cveq : Value → Value → Bool
  | .int x, .int y => x == y
  | .ref a, .ref b => Nat.beq a b
  | _, _ => false
theorem cveq_ok {v u : Value} (h : cveq v u = true) : v = u := by
  unfold cveq at h
  split at h
  · rw [eq_of_beq h]
  · rw [Nat.eq_of_beq_eq_true h]
  · cases h
def cvs : List Value → List Value → Bool
  | [], [] => true
  | v :: r, u :: q => cveq v u && cvs r q
  | _, _ => false
theorem cvs_ok : ∀ {r q : List Value}, cvs r q = true → r = q := by
  intro r
  induction r with
  | nil =>
    intro q h
    cases q with
    | nil => rfl
    | cons _ _ => cases h
  | cons v r ih =>
    intro q h
    cases q with
    | nil => cases h
    | cons u q =>
      have h2 := (Bool.and_eq_true _ _).mp h
      rw [cveq_ok h2.1, ih h2.2]
def cOKb (a : Nat) (e : va_E) : Bool := match e with
  | .inr (c, fs) => bif Nat.beq a 0 then Nat.beq c 2 && cvs fs (cFB cS0) else bif Nat.beq a 1 then Nat.beq c 1 && cvs fs (cFP cS0) else decide (cFm a) && Nat.beq c 0 && cvs fs (cFf cS0 a)
  | .inl (t, n, .inl f) => !Nat.beq a 0 && !Nat.beq a 1 && !decide (cFm a) && !Nat.beq a 20 && Nat.beq t (cTy a) && Nat.beq n (cLen a) && (List.range n).all (fun i => f i == cI (cS0 a i))
  | .inl (t, n, .inr (.inr (.inr (.inr f)))) => Nat.beq a 20 && Nat.beq t 2 && Nat.beq n 8 && (List.range 8).all (fun i => decide (f i = some (22 + 6 * i)))
  | _ => false
theorem cOKb_ok {a : Nat} {e : va_E} (h : cOKb a e = true) : cOK cS0 a e := by
  unfold cOKb at h
  unfold cOK
  split at h
  · rename_i c fs
    by_cases h0 : a = 0
    · subst h0
      rw [if_pos rfl]
      have h2 := (Bool.and_eq_true _ _).mp (show (Nat.beq c 2 && cvs fs (cFB cS0)) = true from h)
      rw [Nat.eq_of_beq_eq_true h2.1, cvs_ok h2.2]
    · by_cases h1 : a = 1
      · subst h1
        rw [if_neg h0, if_pos rfl]
        have h2 := (Bool.and_eq_true _ _).mp (show (Nat.beq c 1 && cvs fs (cFP cS0)) = true from h)
        rw [Nat.eq_of_beq_eq_true h2.1, cvs_ok h2.2]
      · have e0 : Nat.beq a 0 = false := by
          cases hb : Nat.beq a 0 with
          | false => rfl
          | true => exact absurd (Nat.eq_of_beq_eq_true hb) h0
        have e1 : Nat.beq a 1 = false := by
          cases hb : Nat.beq a 1 with
          | false => rfl
          | true => exact absurd (Nat.eq_of_beq_eq_true hb) h1
        rw [e0, e1] at h
        have h2 := (Bool.and_eq_true _ _).mp (show (decide (cFm a) && Nat.beq c 0 && cvs fs (cFf cS0 a)) = true from h)
        have h3 := (Bool.and_eq_true _ _).mp h2.1
        rw [if_neg h0, if_neg h1, if_pos (of_decide_eq_true h3.1), Nat.eq_of_beq_eq_true h3.2, cvs_ok h2.2]
  · rename_i t n f
    simp only [Bool.and_eq_true, Bool.not_eq_true'] at h
    obtain ⟨⟨⟨⟨⟨⟨h0, h1⟩, h2⟩, h3⟩, h4⟩, h5⟩, h6⟩ := h
    have f0 : ¬ a = 0 := fun e => by subst e; cases h0
    have f1 : ¬ a = 1 := fun e => by subst e; cases h1
    have f3 : ¬ a = 20 := fun e => by subst e; cases h3
    rw [if_neg f0, if_neg f1, if_neg (of_decide_eq_false h2), if_neg f3]
    have e4 := Nat.eq_of_beq_eq_true h4
    have e5 := Nat.eq_of_beq_eq_true h5
    refine ⟨f, by rw [e4, e5], fun i hi => ?_, fun _ i _ _ => cS0_01 a i⟩
    have h7 := List.all_eq_true.mp h6 i (List.mem_range.mpr (by omega))
    exact eq_of_beq h7
  · rename_i t n f
    simp only [Bool.and_eq_true] at h
    obtain ⟨⟨⟨h0, h1⟩, h2⟩, h3⟩ := h
    have e0 := Nat.eq_of_beq_eq_true h0
    subst e0
    rw [if_neg (by omega), if_neg (by omega), if_neg (by decide), if_pos rfl]
    rw [Nat.eq_of_beq_eq_true h1, Nat.eq_of_beq_eq_true h2]
    refine ⟨f, rfl, fun i hi => ?_⟩
    exact of_decide_eq_true (List.all_eq_true.mp h3 i (List.mem_range.mpr hi))
  · cases h
def cHN : zH := (zup zH0.1 0 (.inr (2, [.null, .null, .null, .null, .null, .int 0, .int 0, .int 0])), 1, 1, 8, true)
def cCtb (r : Option ((Option Value ⊕ String) × zH)) : Bool := match r with
  | some (.inl none, h) => decide (h.2 = (70, 70, 2033, true)) && (List.range 70).all (fun a => cOKb a (h.1 a))
  | _ => false
theorem cCtb_run : cCtb (zrun z_nl z_cc z_nh z_code0 (fun _ _ _ => none) 20000 8 42 0 [(0, .ref 0)] [] cHN) = true := by decide +kernel
theorem cCt_ok {r : Option ((Option Value ⊕ String) × zH)} (h : cCtb r = true) : ∃ h1, r = some (.inl none, h1) ∧ cHp h1 cS0 0 := by
  unfold cCtb at h
  split at h
  · rename_i h1
    have h2 := (Bool.and_eq_true _ _).mp h
    exact ⟨h1, rfl, of_decide_eq_true h2.1, fun a ha => cOKb_ok (List.all_eq_true.mp h2.2 a (List.mem_range.mpr ha))⟩
  · cases h
set_option maxRecDepth 20000 in
theorem z_law (xs : Nat → Int32) (Ls : Nat) (hLs : Ls ≤ 260) : ∃ (k : Nat) (h1 : zH), zrun z_nl z_cc z_nh (z_code xs Ls) (fun _ _ _ => none) k 9 90 0 [(0, .retAddr 0)] [] zH0 = some (.inl (some (.int 1)), h1) ∧ h1.2.2.1 ≤ 600086 ∧ h1.2.2.2.1 ≤ 7301442 := by
  obtain ⟨h1, e1, hp⟩ := cCt_ok cCtb_run
  have hct : zR z_nl z_cc z_nh (z_code xs Ls) (fun _ _ _ => none) 8 42 0 [(0, .ref 0)] [] cHN (.inl none, h1) := ⟨20000, zrun_mono (z_same xs Ls) _ _ _ _ _ _ _ _ e1⟩
  obtain ⟨v, h2, S2, t2, hr, hp2, r, hv, hr1, ht⟩ := law_main (xs := xs) hLs (S := cS0) [(0, .retAddr 0)] h1 (fun q hq => by
    have := List.mem_singleton.mp hq
    subst this
    rfl) hp
  subst hv
  subst hr1
  have hrun : zR z_nl z_cc z_nh (z_code xs Ls) (fun _ _ _ => none) 9 90 0 [(0, .retAddr 0)] [] zH0 (.inl (some (.int (cI 1))), h2) := by
    refine zR_op (pc' := 3) (L' := [(0, .retAddr 0)]) (st' := [.ref 0]) (h' := cHN) rfl rfl ?_
    refine zR_op (pc' := 4) (L' := [(0, .retAddr 0)]) (st' := [.ref 0, .ref 0]) (h' := cHN) rfl rfl ?_
    refine zR_call (d := 8) (v := none) (h' := h1) (μ' := 42) (n := 1) (kd := 4) rfl (by decide +kernel) hct ?_
    exact zR_deep (by omega) hr
  obtain ⟨k, hk⟩ := hrun
  have e1 : cI 1 = 1 := by decide
  rw [e1] at hk
  refine ⟨k, h2, hk, ?_, ?_⟩
  · rw [hp2.1]
    show 70 + t2 ≤ 600086
    omega
  · rw [hp2.1]
    show 2033 + 2 * t2 ≤ 7301442
    omega
