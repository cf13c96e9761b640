/-! THE START: classes and arrays of the tables are known; the law's walk out of one run of the small machine -/
theorem zK_of {s : State} {args : Array Value} (hts : ∀ w ∈ lw_tbl, w.before args s = true) : ∃ (D : va_G) (cy : Nat → ClassId), ∀ (b : Nat) (ol : Nat → Nat) (xs : Nat → Int32) (Ls : Nat), zK z_cl z_T (b, ol, D, cy, xs, Ls) s := by
  have h1 : ∀ k : Nat, ∃ (cC : ClassId) (iS : Nat → Nat), ∀ q : vw_C, z_cl[k]? = some q → u_Kn s q.1 q.2.1 q.2.2 cC iS := by
    intro k
    match k with
    | 0 =>
      obtain ⟨c, i, h⟩ := u_known (C := RX0) (T := TX0) (N := 8) (n := 8) hts (fun w hw => (List.mem_filter.mp (zinX0 w hw)).1) (hts _ (List.mem_filter.mp zw_115).1)
      exact ⟨c, i, fun q hq => by cases hq; exact h⟩
    | 1 =>
      obtain ⟨c, i, h⟩ := u_known (C := RX1) (T := TX1) (N := 9) (n := 9) hts (fun w hw => (List.mem_filter.mp (zinX1 w hw)).1) (hts _ (List.mem_filter.mp zw_109).1)
      exact ⟨c, i, fun q hq => by cases hq; exact h⟩
    | 2 =>
      obtain ⟨c, i, h⟩ := u_known (C := RX2) (T := TX2) (N := 8) (n := 8) hts (fun w hw => (List.mem_filter.mp (zinX2 w hw)).1) (hts _ (List.mem_filter.mp zw_648).1)
      exact ⟨c, i, fun q hq => by cases hq; exact h⟩
    | 3 =>
      obtain ⟨c, i, h⟩ := u_known (C := RX3) (T := TX3) (N := 7) (n := 7) hts (fun w hw => (List.mem_filter.mp (zinX3 w hw)).1) (hts _ (List.mem_filter.mp zw_386).1)
      exact ⟨c, i, fun q hq => by cases hq; exact h⟩
    | 4 =>
      obtain ⟨c, i, h⟩ := u_known (C := RX4) (T := TX4) (N := 13) (n := 13) hts (fun w hw => (List.mem_filter.mp (zinX4 w hw)).1) (hts _ (List.mem_filter.mp zw_653).1)
      exact ⟨c, i, fun q hq => by cases hq; exact h⟩
    | 5 =>
      obtain ⟨c, i, h⟩ := u_known (C := RJx4a65c) (T := TJx4a65c) (N := 3) (n := 3) hts (fun w hw => (List.mem_filter.mp (zinJx4a65c w hw)).1) (hts _ (List.mem_filter.mp zw_418).1)
      exact ⟨c, i, fun q hq => by cases hq; exact h⟩
    | k + 6 => exact ⟨0, fun _ => 0, fun q hq => by simp [z_cl] at hq⟩
  have h2 : ∀ t : Nat, ∃ cA : ClassId, ∀ ty : FieldType, z_T[t]? = some ty → ArrOfT s cA ty ∧ va_RA s cA ty := by
    intro t
    match t with
    | 0 =>
      obtain ⟨c, k, comp, f1, f2, f3⟩ := Cond.arrayClass_spec (hts _ (List.mem_filter.mp zw_3).1)
      exact ⟨c, fun ty hty => by cases hty; exact ⟨fun N z => ⟨fun q h => (by cases h), k, f2, comp, f3⟩, f1⟩⟩
    | 1 =>
      obtain ⟨c, k, comp, f1, f2, f3⟩ := Cond.arrayClass_spec (hts _ (List.mem_filter.mp zw_7).1)
      exact ⟨c, fun ty hty => by cases hty; exact ⟨fun N z => ⟨fun q h => (by cases h), k, f2, comp, f3⟩, f1⟩⟩
    | 2 =>
      obtain ⟨c, k, comp, f1, f2, f3⟩ := Cond.arrayClass_spec (hts _ (List.mem_filter.mp zw_657).1)
      exact ⟨c, fun ty hty => by cases hty; exact ⟨fun N z => ⟨fun q h => (by cases h), k, f2, comp, f3⟩, f1⟩⟩
    | 3 =>
      obtain ⟨c, k, comp, f1, f2, f3⟩ := Cond.arrayClass_spec (hts _ (List.mem_filter.mp zw_658).1)
      exact ⟨c, fun ty hty => by cases hty; exact ⟨fun N z => ⟨fun q h => (by cases h), k, f2, comp, f3⟩, f1⟩⟩
    | 4 =>
      obtain ⟨comp, c, k, f1, -, f3, f4, f5⟩ := Cond.arrayOver_spec (hts _ (List.mem_filter.mp zw_121).1)
      exact ⟨c, fun ty hty => by cases hty; exact ⟨fun N z => ⟨fun q h => (by cases h), k, f3, comp, f4⟩, k, comp, f3, f4, f1, f5⟩⟩
    | t + 5 => exact ⟨0, fun ty hty => by simp [z_T] at hty⟩
  exact ⟨(fun k => Classical.choose (h1 k), fun k => Classical.choose (Classical.choose_spec (h1 k))), fun t => Classical.choose (h2 t), fun b ol xs Ls => ⟨fun c q hq => Classical.choose_spec (Classical.choose_spec (h1 c)) q hq, fun t ty ht => Classical.choose_spec (h2 t) ty ht⟩⟩
