/-! Math.min, max, abs of ints, as steps -/
section ZMATH
variable {cl : List vw_C} {T : List FieldType} {G N : List Cond} {O : Nat → State → Heap → Prop} {E : zE} {own nm : String} {bytes : ByteArray} {nL pc : Nat}
theorem zsnd3 {f : List Value → zH → Option (Nat × List Value)} (hf : ∀ (st : List Value) (h : zH) (pc' : Nat) (st' : List Value), f st h = some (pc', st') → ∀ (p : Program) (l : Launch) (e : Env) (R : Room) (s : State) (m : MethodId) (args : Array Value) (below : List Frame) (meth : Method) (c : Code) (Q : State → Prop) (H : Heap) (locs : List Loc) (cells slots : Nat) (ls : Array Slot), zF cl T G N O E own nm bytes nL p s m args meth c → 1 ≤ R.frames → 40 ≤ R.locals → ls.size = nL → cells ≤ R.cells → slots ≤ R.slots →
      W p l e R s m args below meth c H locs cells slots Q (F0 m pc' ls (st'.map (zV E))) → W p l e R s m args below meth c H locs cells slots Q (F0 m pc ls (st.map (zV E)))) : zSnd cl T G N O E own nm bytes nL pc (zS2 f) := by
  intro L st h pc' L' st' h' hop
  simp only [zS2] at hop
  split at hop
  · rename_i a b heq
    cases hop
    refine ⟨⟨Nat.le_refl _, Nat.le_refl _⟩, ?_⟩
    intro p l e R s m args below meth c Q F hr1 hr2 n0 S0 H locs ls hl hW hS _ _ hc hs k
    exact hf _ _ _ _ heq p l e R s m args below meth c Q H locs _ _ ls F hr1 hr2 hl.1 hc hs (k H locs ls hl hW hS)
  · cases hop
abbrev zMax (pc' : Nat) : List Value → zH → Option (Nat × List Value) := fun st _ => match st with
  | .int y :: .int x :: r => if (r.map fun v => v.category).sum ≤ 8 then some (pc', .int (if x < y then y else x) :: r) else none
  | _ => none
abbrev zMin (pc' : Nat) : List Value → zH → Option (Nat × List Value) := fun st _ => match st with
  | .int y :: .int x :: r => if (r.map fun v => v.category).sum ≤ 8 then some (pc', .int (if y < x then y else x) :: r) else none
  | _ => none
abbrev zAbs (pc' : Nat) : List Value → zH → Option (Nat × List Value) := fun st _ => match st with
  | .int x :: r => if (r.map fun v => v.category).sum ≤ 8 then some (pc', .int (if 0 ≤ x then x else 0 - x) :: r) else none
  | _ => none
theorem zcats (E : zE) (r : List Value) : ((r.map (zV E)).map fun v => v.category) = r.map fun v => v.category := by
  rw [List.map_map]
  exact List.map_congr_left fun v _ => zV_cat E v
theorem zs_max {i : Nat} (h1 : Cond.methodLink own i Lib.Math.max.name ∈ G) (h2 : Cond.static Lib.Math.max.name ∈ G) (h3 : Cond.initialized "java/lang/Math" ∈ G) (h4 : Cond.code Lib.Math.max.name Lib.Math.max.code 2 (some .int) ∈ G) (hd : decode bytes pc = .ok (.invokestatic i, 3)) : zSnd cl T G N O E own nm bytes nL pc (zS2 (zMax (pc + 3))) :=
  zsnd3 fun st h pc1 st1 hg p l e R s m args below meth c Q H locs cells slots ls F hr1 hr2 hsz hc hs k => by
    simp only [zMax] at hg
    split at hg
    · split at hg
      · rename_i hsum
        cases hg
        exact va_mmax F.1 F.2.1 (F.2.2.1.trans hsz.symm) F.2.2.2.1 (F.2.2.2.2.1 _ h1) (F.2.2.2.2.1 _ h2) (F.2.2.2.2.1 _ h3) (F.2.2.2.2.1 _ h4) hr1 (by rw [zcats]; omega) hc hs hd k
      · cases hg
    · cases hg
theorem zs_min {i : Nat} (h1 : Cond.methodLink own i Lib.Math.min.name ∈ G) (h2 : Cond.static Lib.Math.min.name ∈ G) (h3 : Cond.initialized "java/lang/Math" ∈ G) (h4 : Cond.code Lib.Math.min.name Lib.Math.min.code 2 (some .int) ∈ G) (hd : decode bytes pc = .ok (.invokestatic i, 3)) : zSnd cl T G N O E own nm bytes nL pc (zS2 (zMin (pc + 3))) :=
  zsnd3 fun st h pc1 st1 hg p l e R s m args below meth c Q H locs cells slots ls F hr1 hr2 hsz hc hs k => by
    simp only [zMin] at hg
    split at hg
    · split at hg
      · rename_i hsum
        cases hg
        exact va_mmin F.1 F.2.1 (F.2.2.1.trans hsz.symm) F.2.2.2.1 (F.2.2.2.2.1 _ h1) (F.2.2.2.2.1 _ h2) (F.2.2.2.2.1 _ h3) (F.2.2.2.2.1 _ h4) hr1 (by rw [zcats]; omega) hc hs hd k
      · cases hg
    · cases hg
theorem zs_abs {i : Nat} (h1 : Cond.methodLink own i Lib.Math.abs.name ∈ G) (h2 : Cond.static Lib.Math.abs.name ∈ G) (h3 : Cond.initialized "java/lang/Math" ∈ G) (h4 : Cond.code Lib.Math.abs.name Lib.Math.abs.code 1 (some .int) ∈ G) (hd : decode bytes pc = .ok (.invokestatic i, 3)) : zSnd cl T G N O E own nm bytes nL pc (zS2 (zAbs (pc + 3))) :=
  zsnd3 fun st h pc1 st1 hg p l e R s m args below meth c Q H locs cells slots ls F hr1 hr2 hsz hc hs k => by
    simp only [zAbs] at hg
    split at hg
    · split at hg
      · rename_i hsum
        cases hg
        exact va_mabs F.1 F.2.1 (F.2.2.1.trans hsz.symm) F.2.2.2.1 (F.2.2.2.2.1 _ h1) (F.2.2.2.2.1 _ h2) (F.2.2.2.2.1 _ h3) (F.2.2.2.2.1 _ h4) hr1 (by rw [zcats]; omega) hc hs hd k
      · cases hg
    · cases hg
end ZMATH
/-! the bits of a double, and land -/
section ZBITS
variable {cl : List vw_C} {T : List FieldType} {G N : List Cond} {O : Nat → State → Heap → Prop} {E : zE} {own nm : String} {bytes : ByteArray} {nL pc : Nat}
theorem zs_land (hd : decode bytes pc = .ok (.land, 1)) : zSnd cl T G N O E own nm bytes nL pc (zS1 (zLL (fun x y => x &&& y) (pc + 1))) := zsndLL fun p l e R s m args below meth c Q H locs cells slots ls rest x y F k => lv_land F.1 F.2.1 hd k
abbrev zD2L (pc' : Nat) : List Value → zH → Option (Nat × List Value) := fun st _ => match st with
  | .double x :: r => if (r.map fun v => v.category).sum ≤ 8 then some (pc', .long x.toInt64 :: r) else none
  | _ => none
abbrev zL2D (pc' : Nat) : List Value → zH → Option (Nat × List Value) := fun st _ => match st with
  | .long x :: r => if vn_snl2d x = false ∧ (r.map fun v => v.category).sum ≤ 8 then some (pc', .double x.toUInt64 :: r) else none
  | _ => none
theorem zs_d2l {i : Nat} (h1 : Cond.methodLink own i ⟨"java/lang/Double", "doubleToRawLongBits", "(D)J"⟩ ∈ G) (h2 : Cond.native ⟨"java/lang/Double", "doubleToRawLongBits", "(D)J"⟩ ∈ G) (h3 : Cond.static ⟨"java/lang/Double", "doubleToRawLongBits", "(D)J"⟩ ∈ G) (h4 : Cond.initialized "java/lang/Double" ∈ G) (hd : decode bytes pc = .ok (.invokestatic i, 3)) : zSnd cl T G N O E own nm bytes nL pc (zS2 (zD2L (pc + 3))) :=
  zsnd3 fun st h pc1 st1 hg p l e R s m args below meth c Q H locs cells slots ls F hr1 hr2 hsz hc hs k => by
    simp only [zD2L] at hg
    split at hg
    · split at hg
      · rename_i hsum
        cases hg
        exact vn_d2l F.1 F.2.1 (F.2.2.1.trans hsz.symm) F.2.2.2.1 (F.2.2.2.2.1 _ h1) (F.2.2.2.2.1 _ h2) (F.2.2.2.2.1 _ h3) (F.2.2.2.2.1 _ h4) hr1 (by rw [zcats]; omega) hd k
      · cases hg
    · cases hg
theorem zs_l2d {i : Nat} (h1 : Cond.methodLink own i ⟨"java/lang/Double", "longBitsToDouble", "(J)D"⟩ ∈ G) (h2 : Cond.native ⟨"java/lang/Double", "longBitsToDouble", "(J)D"⟩ ∈ G) (h3 : Cond.static ⟨"java/lang/Double", "longBitsToDouble", "(J)D"⟩ ∈ G) (h4 : Cond.initialized "java/lang/Double" ∈ G) (hd : decode bytes pc = .ok (.invokestatic i, 3)) : zSnd cl T G N O E own nm bytes nL pc (zS2 (zL2D (pc + 3))) :=
  zsnd3 fun st h pc1 st1 hg p l e R s m args below meth c Q H locs cells slots ls F hr1 hr2 hsz hc hs k => by
    simp only [zL2D] at hg
    split at hg
    · split at hg
      · rename_i hsum
        cases hg
        exact vn_l2d F.1 F.2.1 (F.2.2.1.trans hsz.symm) F.2.2.2.1 (F.2.2.2.2.1 _ h1) (F.2.2.2.2.1 _ h2) (F.2.2.2.2.1 _ h3) (F.2.2.2.2.1 _ h4) hsum.1 hr1 (by rw [zcats]; omega) hd k
      · cases hg
    · cases hg
end ZBITS
section ZABSD
variable {cl : List vw_C} {T : List FieldType} {G N : List Cond} {O : Nat → State → Heap → Prop} {E : zE} {own nm : String} {bytes : ByteArray} {nL pc : Nat}
abbrev zAbsD (pc' : Nat) : List Value → zH → Option (Nat × List Value) := fun st _ => match st with
  | .double x :: r => if x &&& 0x7fffffffffffffff ≤ 0x7ff0000000000000 ∧ (r.map fun v => v.category).sum ≤ 8 then some (pc', .double (x &&& 0x7fffffffffffffff) :: r) else none
  | _ => none
theorem zs_absd {i maxL : Nat} {bytes2 : ByteArray} (h1 : Cond.methodLink own i ⟨"java/lang/Math", "abs", "(D)D"⟩ ∈ G) (h2 : Cond.static ⟨"java/lang/Math", "abs", "(D)D"⟩ ∈ G) (h3 : Cond.initialized "java/lang/Math" ∈ G) (h4 : Cond.code ⟨"java/lang/Math", "abs", "(D)D"⟩ bytes2 maxL (some .double) ∈ G) (hm : maxL ≤ 20) (hd : decode bytes pc = .ok (.invokestatic i, 3)) : zSnd cl T G N O E own nm bytes nL pc (zS2 (zAbsD (pc + 3))) :=
  zsnd3 fun st h pc1 st1 hg p l e R s m args below meth c Q H locs cells slots ls F hr1 hr2 hsz hc hs k => by
    simp only [zAbsD] at hg
    split at hg
    · rename_i x r
      split at hg
      · rename_i hx
        cases hg
        intro T0 hT X
        have hK := Jvm.Free.NT.Abs64.pays (l := l) (R := R) (p := p) (e := e) (below := below) (s := s) (sargs := args) (len := 3) (W := 8) (F.2.2.2.2.1 _ h4) (F.2.2.2.2.1 _ h2) hr1 (by omega)
        obtain ⟨v, vm₁, B, hW₁, X', ⟨hB, hv⟩, st⟩ := callS X F.1 (y := ⟨"java/lang/Math", "abs", "(D)D"⟩) F.2.2.2.1 (F.2.2.2.2.1 _ h1) (F.2.2.2.2.1 _ h2) (F.2.2.2.2.1 _ h3) (F.2.2.2.2.1 _ h4) (by decide) hK (g := F0 m pc ls (.double x :: r.map (zV E))) rfl (hsz.trans F.2.2.1.symm) (argsL := [.double x]) (rest := r.map (zV E))
          (fun sig h => by
            have h2 : parseMethodDescriptor "(D)D" = some { parameters := [.double], returnType := some .double } := by decide +kernel
            have h3 : parseMethodDescriptor "(D)D" = some sig := h
            rw [h2] at h3
            cases h3
            rfl) rfl (by show 2 * 0 + _ ≤ 8; rw [zcats]; omega) (by rw [F.2.1]; exact hd) (fun vm₁ _ => ⟨x, rfl, hx.1⟩)
        subst hB
        have hv' := hv x ⟨rfl, hx.1⟩
        subst hv'
        obtain ⟨t, a1, b1⟩ := k (T0.setVm vm₁) hT X'
        exact ⟨t, st t a1, b1⟩
      · cases hg
    · cases hg
end ZABSD
