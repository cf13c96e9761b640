/-! System.arraycopy between arrays of ints, or of booleans -/
section ZCPY
variable {cl : List vw_C} {T : List FieldType} {G N : List Cond} {O : Nat → State → Heap → Prop} {E : zE} {own nm : String} {bytes : ByteArray} {nL pc : Nat}
abbrev zCpy (ty : FieldType) (t pc' : Nat) : zOp := fun L st h => match st with
  | .int n :: .int dp :: .ref kd :: .int sp :: .ref ks :: r => if (ks < h.2.1 ∧ kd < h.2.1) ∧ (¬ sp < 0 ∧ ¬ dp < 0 ∧ ¬ n < 0) ∧ (r.map fun v => v.category).sum ≤ 8 then match h.1 ks, h.1 kd with
    | .inl (t0, n0, .inl f), .inl (t1, n1, .inl g) => if (t0 = t ∧ t1 = t) ∧ (sp.toNatClampNeg + n.toNatClampNeg ≤ n0 ∧ dp.toNatClampNeg + n.toNatClampNeg ≤ n1) ∧ ((List.range n.toNatClampNeg).all fun i => fits ty (.int (f (sp.toNatClampNeg + i)))) = true then
        some (pc', L, r, (zup h.1 kd (.inl (t, n1, .inl (va_cpy f g sp.toNatClampNeg dp.toNatClampNeg n.toNatClampNeg))), h.2)) else none
    | _, _ => none
    else none
  | _ => none
theorem zs_cpy {ty : FieldType} {t i : Nat} (ht : T[t]? = some ty) (hprim : refKind ty = false) (hlink : Cond.methodLink own i arraycopyName ∈ G) (hnat : Cond.native arraycopyName ∈ G) (hstat : Cond.static arraycopyName ∈ G) (hini : Cond.initialized "java/lang/System" ∈ G) (hd : decode bytes pc = .ok (.invokestatic i, 3)) : zSnd cl T G N O E own nm bytes nL pc (zCpy ty t (pc + 3)) := by
  intro L st h pc' L' st' h' hop
  simp only [zCpy] at hop
  split at hop
  · rename_i n dp kd sp ks r
    split at hop
    · rename_i hk
      obtain ⟨⟨hks, hkd⟩, ⟨h1, h2, h3⟩, hsum⟩ := hk
      split at hop
      · rename_i t0 n0 f t1 n1 g hh0 hh1
        split at hop
        · rename_i hk2
          obtain ⟨⟨e0, e1⟩, ⟨h4, h5⟩, hfit⟩ := hk2
          cases hop
          subst e0
          subst e1
          refine ⟨⟨Nat.le_refl _, Nat.le_refl _⟩, ?_⟩
          intro p l e R s m args below meth c Q F hr1 hr2 n0' S0 H locs ls hll hW hS _ _ _ _ kk
          have nn : ∀ z : Int32, ¬ z < 0 → z.toInt = (z.toNatClampNeg : Int) := by
            intro z hz
            have hz0 : (0 : Int) ≤ z.toInt := by
              have := Int32.not_lt.mp hz
              simpa using Int32.le_iff_toInt_le.mp this
            show z.toInt = ((z.toInt.toNat : Nat) : Int)
            omega
          have hc0 : H[zb E + ks]? = some (vp_cell (zcy E t1) (n0, .inl f)) := by
            have hP := hW.1 ks hks
            rw [hh0] at hP
            exact hP
          have hc1 : H[zb E + kd]? = some (vp_cell (zcy E t1) (n1, .inl g)) := by
            have hP := hW.1 kd hkd
            rw [hh1] at hP
            exact hP
          intro T9 hT X
          obtain ⟨-, k0, hk0, cm0, hkk0⟩ := (F.2.2.2.2.2.2.1.2 t1 _ ht).1 n0 (fun j => .int (f j))
          have hw : nativeFrameWords "java/lang/System" "arraycopy" 5 ≤ 20 := by decide
          obtain ⟨vm', X', step⟩ := X.arraycopy F.1 F.2.2.2.1 (F.2.2.2.2.1 _ hlink) (F.2.2.2.2.1 _ hnat) (F.2.2.2.2.1 _ hstat) (F.2.2.2.2.1 _ hini) (src := zb E + ks) (dst := zb E + kd) (cs := vp_cell (zcy E t1) (n0, .inl f)) (cd := vp_cell (zcy E t1) (n1, .inl g)) (srcPos := sp) (destPos := dp) (n := n) (by rw [hT]; exact hc0) (by rw [hT]; exact hc1)
            (fun _ h => by cases h) (fun _ h => by cases h) (fun h => by cases h) (fun h => by cases h) hk0 hk0 hkk0 hkk0 (by simp [hprim]) h1 h2 h3
            (by rw [nn sp h1, nn n h3]; show ¬ _ > ((arrV (zcy E t1) n0 (fun j => .int (f j))).slots.size : Int); rw [arrV_size]; omega)
            (by rw [nn dp h2, nn n h3]; show ¬ _ > ((arrV (zcy E t1) n1 (fun j => .int (g j))).slots.size : Int); rw [arrV_size]; omega)
            (fun vm₁ _ i hi => by
              have e : (vp_cell (zcy E t1) (n0, .inl f)).slots.getD (sp.toNatClampNeg + i) .null = .int (f (sp.toNatClampNeg + i)) := by
                show (arrV (zcy E t1) n0 (fun j => .int (f j))).slots.getD _ _ = _
                rw [Array.getD_eq_getD_getElem?, arrV_read _ _ (by omega)]
                rfl
              refine ⟨?_, ?_⟩
              · rw [e]
                exact List.all_eq_true.mp hfit i (List.mem_range.mpr hi)
              · rw [e]
                exact trivial)
            (g := F0 m pc ls (.int n :: .int dp :: .ref (zb E + kd) :: .int sp :: .ref (zb E + ks) :: st'.map (zV E))) rfl (by rw [F.2.2.1]; exact hll.1) (rest := st'.map (zV E)) rfl (by rw [F.2.1]; exact hd) hr1 (by show 2 * 0 + _ + _ ≤ _; rw [zcats]; omega)
          have e1 : copied (vp_cell (zcy E t1) (n0, .inl f)) (vp_cell (zcy E t1) (n1, .inl g)) sp dp n = vp_cell (zcy E t1) (n1, .inl (va_cpy f g sp.toNatClampNeg dp.toNatClampNeg n.toNatClampNeg)) := va_copied (fun z => .int z) (zcy E t1) (zcy E t1) f g h4
          rw [e1] at X' step
          have hl : zb E + kd < H.size := (Array.getElem?_eq_some_iff.mp hc1).1
          have hheap : ((T9.setVm vm').setCell (zb E + kd) (vp_cell (zcy E t1) (n1, .inl (va_cpy f g sp.toNatClampNeg dp.toNatClampNeg n.toNatClampNeg)))).heap = H.setIfInBounds (zb E + kd) (vp_cell (zcy E t1) (n1, .inl (va_cpy f g sp.toNatClampNeg dp.toNatClampNeg n.toNatClampNeg))) := by rw [← hT]; rfl
          have oq : ∀ q : Nat, q ≠ zb E + kd → (H.setIfInBounds (zb E + kd) (vp_cell (zcy E t1) (n1, .inl (va_cpy f g sp.toNatClampNeg dp.toNatClampNeg n.toNatClampNeg))))[q]? = H[q]? := fun q hq => by simp [Array.getElem?_setIfInBounds, Ne.symm hq]
          have hz : (H.setIfInBounds (zb E + kd) (vp_cell (zcy E t1) (n1, .inl (va_cpy f g sp.toNatClampNeg dp.toNatClampNeg n.toNatClampNeg)))).size = H.size := by simp
          obtain ⟨t, a1, b1⟩ := kk _ _ ls hll (hW.put (e := .inl (t1, n1, .inl (va_cpy f g sp.toNatClampNeg dp.toNatClampNeg n.toNatClampNeg))) (show (H.setIfInBounds (zb E + kd) _)[zb E + kd]? = some _ by simp [Array.getElem?_setIfInBounds, hl]; rfl) hz oq) ⟨by rw [hz]; exact hS.1, fun q g1 g2 => by
              rw [oq q (fun e => g2 (by rw [e]; exact Nat.le_add_right _ _))]
              exact hS.2.1 q g1 g2, fun q hq => by
              rcases List.mem_append.mp hq with h | h
              · exact hS.2.2 q h
              · obtain ⟨z, -, hz⟩ := List.mem_map.mp h
                rw [← hz]
                exact Nat.le_add_right _ _⟩ _ hheap X'
          exact ⟨t, step t a1, b1⟩
        · cases hop
      · cases hop
    · cases hop
  · cases hop
end ZCPY
