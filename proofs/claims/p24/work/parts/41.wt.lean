/-! The mean against the sum, number by number -/
def cWlim (n : Int) : UInt64 := FP.dmul 4593675222797607816 (FP.i2d (cI n))
def cWprd (n s : Int) : UInt64 := FP.dmul (cWv (cNear (4 * s) n)) (FP.i2d (cI n))
def cWdif (n s : Int) : UInt64 := FP.dsub (cWprd n s) (FP.i2d (cI s))
def cWchk (n s : Int) : Bool := decide (cWprd n s &&& 0x7fffffffffffffff ≤ 0x7ff0000000000000) && decide (cWdif n s &&& 0x7fffffffffffffff ≤ 0x7ff0000000000000) && decide (cWlim n &&& 0x7fffffffffffffff ≤ 0x7ff0000000000000) && decide (Op.cmpValue (FP.dcmp (cWdif n s &&& 0x7fffffffffffffff) (cWlim n)) .l ≤ 0)
def cWall : Nat → Bool
  | 0 => true
  | n + 1 => (List.range (7 * (n + 1) + 1)).all (fun s => cWchk ((n + 1 : Nat) : Int) (s : Int)) && cWall n
theorem cWall_ok : cWall 32 = true := by decide +kernel
theorem cWall_sp : ∀ (m : Nat), cWall m = true → ∀ (n : Nat), 1 ≤ n → n ≤ m → ∀ s : Nat, s ≤ 7 * n → cWchk (n : Int) (s : Int) = true := by
  intro m
  induction m with
  | zero => intro _ n h1 h2; omega
  | succ m ih =>
    intro h n h1 h2 s hs
    have h3 := (Bool.and_eq_true _ _).mp h
    by_cases hn : n = m + 1
    · subst hn
      exact List.all_eq_true.mp h3.1 s (List.mem_range.mpr (by omega))
    · exact ih h3.2 n h1 (by omega) s hs
theorem cWchk_of {n s : Int} (hn : 1 ≤ n ∧ n ≤ 32) (hs : 0 ≤ s ∧ s ≤ 7 * n) : (cWprd n s &&& 0x7fffffffffffffff ≤ 0x7ff0000000000000) ∧ (cWdif n s &&& 0x7fffffffffffffff ≤ 0x7ff0000000000000) ∧ (cWlim n &&& 0x7fffffffffffffff ≤ 0x7ff0000000000000) ∧ Op.cmpValue (FP.dcmp (cWdif n s &&& 0x7fffffffffffffff) (cWlim n)) .l ≤ 0 := by
  have h := cWall_sp 32 cWall_ok n.toNat (by omega) (by omega) s.toNat (by omega)
  have e1 : ((n.toNat : Nat) : Int) = n := by omega
  have e2 : ((s.toNat : Nat) : Int) = s := by omega
  rw [e1, e2] at h
  unfold cWchk at h
  simp only [Bool.and_eq_true, decide_eq_true_eq] at h
  exact ⟨h.1.1.1, h.1.1.2, h.1.2, h.2⟩
section CZY
variable {xs : Nat → Int32} {Ls d μ pc pc' tg : Nat} {l : zLoc} {st : List Value} {S : cS} {t : Nat} {Q : Option Value → cS → Nat → Prop}
theorem cz_absd {x : UInt64} (hc : z_code xs Ls μ pc = some (.inl (zS2 (zAbsD pc')))) (hs : Nat.ble (st.map fun v => v.category).sum 8 = true) (hx : x &&& 0x7fffffffffffffff ≤ 0x7ff0000000000000) (k : cZ xs Ls d μ pc' l (.double (x &&& 0x7fffffffffffffff) :: st) S t Q) : cZ xs Ls d μ pc l (.double x :: st) S t Q :=
  cz_s2 hc (fun h hH => if_pos ⟨hx, Nat.le_of_ble_eq_true hs⟩) k
theorem cz_dcmp {x y : UInt64} {g : UInt64 → UInt64 → Int32} (hc : z_code xs Ls μ pc = some (.inl (zS1 (zDDi g pc')))) (k : cZ xs Ls d μ pc' l (.int (g x y) :: st) S t Q) : cZ xs Ls d μ pc l (.double y :: .double x :: st) S t Q := cz_s1 hc rfl k
theorem cz_ifle_r {x : Int32} (hc : z_code xs Ls μ pc = some (.inl (zS1 (zIf (fun x => decide (x ≤ 0)) tg pc')))) (hx : x ≤ 0) (k : cZ xs Ls d μ tg l st S t Q) : cZ xs Ls d μ pc l (.int x :: st) S t Q :=
  cz_if hc (fun _ => k) (fun h => absurd (decide_eq_true hx) h)
theorem cz_lcmp {x y : Int64} {g : Int64 → Int64 → Int32} (hc : z_code xs Ls μ pc = some (.inl (zS1 (zLLi g pc')))) (k : cZ xs Ls d μ pc' l (.int (g x y) :: st) S t Q) : cZ xs Ls d μ pc l (.long y :: .long x :: st) S t Q := cz_s1 hc rfl k
end CZY
