/-! SOUND STEPS on arrays, and what is made -/
theorem zbytes {n k : Nat} (h : n ≤ 1000000) (hk : k ≤ 8) : n * k ≤ 536870912 := Nat.le_trans (Nat.mul_le_mul h hk) (Nat.le_of_ble_eq_true rfl)
section ZARR
variable {cl : List vw_C} {T : List FieldType} {G N : List Cond} {O : Nat → State → Heap → Prop} {E : zE} {own nm : String} {bytes : ByteArray} {nL pc : Nat}
abbrev zAldI (t pc' : Nat) : List Value → zH → Option (Nat × List Value) := fun st h => match st with
  | .int i :: .ref k :: r => if k < h.2.1 then match h.1 k with
    | .inl (t', n, .inl f) => if t' = t then if i < 0 ∨ n ≤ i.toNatClampNeg then none else some (pc', .int (f i.toNatClampNeg) :: r) else none
    | _ => none
    else none
  | _ => none
theorem zs_aldI {t : Nat} (ht : T[t]? = some .int) (hd : decode bytes pc = .ok (.iaload, 1)) : zSnd cl T G N O E own nm bytes nL pc (zS2 (zAldI t (pc + 1))) :=
  zsnd2 fun st h pc1 st1 hg p l e R s m args below meth c Q H locs cells slots ls F _ _ _ hW hS k => by
    simp only [zAldI] at hg
    split at hg
    · split at hg
      · rename_i hk
        split at hg
        · rename_i hh
          split at hg
          · rename_i htt
            split at hg
            · cases hg
            · rename_i hin
              cases hg
              subst htt
              have hP := zP1 hW hk
              rw [hh] at hP
              exact va_iald F.1 F.2.1 (F.2.2.2.2.2.2.1.one ht) hP 0 0 rfl rfl hin hd k
          · cases hg
        · cases hg
      · cases hg
    · cases hg
abbrev zAldZ (t pc' : Nat) : List Value → zH → Option (Nat × List Value) := fun st h => match st with
  | .int i :: .ref k :: r => if k < h.2.1 then match h.1 k with
    | .inl (t', n, .inl f) => if t' = t then if i < 0 ∨ n ≤ i.toNatClampNeg then none else some (pc', .int (f i.toNatClampNeg) :: r) else none
    | _ => none
    else none
  | _ => none
theorem zs_aldZ {t : Nat} (ht : T[t]? = some .boolean) (hd : decode bytes pc = .ok (.baload, 1)) : zSnd cl T G N O E own nm bytes nL pc (zS2 (zAldZ t (pc + 1))) :=
  zsnd2 fun st h pc1 st1 hg p l e R s m args below meth c Q H locs cells slots ls F _ _ _ hW hS k => by
    simp only [zAldZ] at hg
    split at hg
    · split at hg
      · rename_i hk
        split at hg
        · rename_i hh
          split at hg
          · rename_i htt
            split at hg
            · cases hg
            · rename_i hin
              cases hg
              subst htt
              have hP := zP1 hW hk
              rw [hh] at hP
              exact va_zald F.1 F.2.1 (F.2.2.2.2.2.2.1.one ht) hP 0 0 rfl rfl hin hd k
          · cases hg
        · cases hg
      · cases hg
    · cases hg
abbrev zAldJ (t pc' : Nat) : List Value → zH → Option (Nat × List Value) := fun st h => match st with
  | .int i :: .ref k :: r => if k < h.2.1 then match h.1 k with
    | .inl (t', n, .inr (.inl f)) => if t' = t then if i < 0 ∨ n ≤ i.toNatClampNeg then none else some (pc', .long (f i.toNatClampNeg) :: r) else none
    | _ => none
    else none
  | _ => none
theorem zs_aldJ {t : Nat} (ht : T[t]? = some .long) (hd : decode bytes pc = .ok (.laload, 1)) : zSnd cl T G N O E own nm bytes nL pc (zS2 (zAldJ t (pc + 1))) :=
  zsnd2 fun st h pc1 st1 hg p l e R s m args below meth c Q H locs cells slots ls F _ _ _ hW hS k => by
    simp only [zAldJ] at hg
    split at hg
    · split at hg
      · rename_i hk
        split at hg
        · rename_i hh
          split at hg
          · rename_i htt
            split at hg
            · cases hg
            · rename_i hin
              cases hg
              subst htt
              have hP := zP1 hW hk
              rw [hh] at hP
              exact va_lald F.1 F.2.1 (F.2.2.2.2.2.2.1.one ht) hP 0 0 rfl rfl hin hd k
          · cases hg
        · cases hg
      · cases hg
    · cases hg
abbrev zAldD (t pc' : Nat) : List Value → zH → Option (Nat × List Value) := fun st h => match st with
  | .int i :: .ref k :: r => if k < h.2.1 then match h.1 k with
    | .inl (t', n, .inr (.inr (.inr (.inl f)))) => if t' = t then if i < 0 ∨ n ≤ i.toNatClampNeg then none else some (pc', .double (f i.toNatClampNeg) :: r) else none
    | _ => none
    else none
  | _ => none
theorem zs_aldD {t : Nat} (ht : T[t]? = some .double) (hd : decode bytes pc = .ok (.daload, 1)) : zSnd cl T G N O E own nm bytes nL pc (zS2 (zAldD t (pc + 1))) :=
  zsnd2 fun st h pc1 st1 hg p l e R s m args below meth c Q H locs cells slots ls F _ _ _ hW hS k => by
    simp only [zAldD] at hg
    split at hg
    · split at hg
      · rename_i hk
        split at hg
        · rename_i hh
          split at hg
          · rename_i htt
            split at hg
            · cases hg
            · rename_i hin
              cases hg
              subst htt
              have hP := zP1 hW hk
              rw [hh] at hP
              exact va_dald F.1 F.2.1 (F.2.2.2.2.2.2.1.one ht) hP 0 0 rfl rfl hin hd k
          · cases hg
        · cases hg
      · cases hg
    · cases hg
def zRf (o : Option Nat) : Value := match o with | some k => .ref k | none => .null
theorem zRf_V (o : Option Nat) : zV E (zRf o) = va_rf (o.map (fun k => zb E + k)) := by cases o <;> rfl
abbrev zAldQ (t pc' : Nat) : List Value → zH → Option (Nat × List Value) := fun st h => match st with
  | .int i :: .ref k :: r => if k < h.2.1 then match h.1 k with
    | .inl (t', n, .inr (.inr (.inr (.inr f)))) => if t' = t then if i < 0 ∨ n ≤ i.toNatClampNeg then none else some (pc', zRf (f i.toNatClampNeg) :: r) else none
    | _ => none
    else none
  | _ => none
theorem zs_aldQ {t : Nat} {C : String} (ht : T[t]? = some (.object C)) (hd : decode bytes pc = .ok (.aaload, 1)) : zSnd cl T G N O E own nm bytes nL pc (zS2 (zAldQ t (pc + 1))) :=
  zsnd2 fun st h pc1 st1 hg p l e R s m args below meth c Q H locs cells slots ls F _ _ _ hW hS k => by
    simp only [zAldQ] at hg
    split at hg
    · split at hg
      · rename_i hk
        split at hg
        · rename_i hh
          split at hg
          · rename_i htt
            split at hg
            · cases hg
            · rename_i hin
              cases hg
              subst htt
              have hP := zP1 hW hk
              rw [hh] at hP
              rw [List.map_cons, zRf_V] at k
              exact va_aldq F.1 F.2.1 (F.2.2.2.2.2.2.1.one ht) hP 0 0 rfl rfl hin hd k
          · cases hg
        · cases hg
      · cases hg
    · cases hg
abbrev zLen (t pc' : Nat) : List Value → zH → Option (Nat × List Value) := fun st h => match st with
  | .ref k :: r => if k < h.2.1 then match h.1 k with
    | .inl (t', n, _) => if t' = t then some (pc', .int (Int32.ofNat n) :: r) else none
    | .inr _ => none
    else none
  | _ => none
theorem zs_len {t : Nat} {ty : FieldType} (ht : T[t]? = some ty) (hd : decode bytes pc = .ok (.arraylength, 1)) : zSnd cl T G N O E own nm bytes nL pc (zS2 (zLen t (pc + 1))) :=
  zsnd2 fun st h pc1 st1 hg p l e R s m args below meth c Q H locs cells slots ls F _ _ _ hW hS k => by
    simp only [zLen] at hg
    split at hg
    · split at hg
      · rename_i hk
        split at hg
        · rename_i hh
          split at hg
          · rename_i htt
            cases hg
            subst htt
            have hP := zP1 hW hk
            rw [hh] at hP
            exact va_alen F.1 F.2.1 (F.2.2.2.2.2.2.1.one ht) hP 0 0 rfl rfl rfl hd k
          · cases hg
        · cases hg
      · cases hg
    · cases hg
abbrev zSld (xs : Nat → Int32) (Ls pc' : Nat) : List Value → Option (Nat × List Value) := fun st => match st with
  | .int i :: .retAddr 0 :: r => if i < 0 ∨ Ls ≤ i.toNatClampNeg then none else some (pc', .int (xs i.toNatClampNeg) :: r)
  | _ => none
theorem zs_sld (hd : decode bytes pc = .ok (.iaload, 1)) : zSnd cl T G N O E own nm bytes nL pc (zS2 (fun st _ => zSld (zxs E) (zLs E) (pc + 1) st)) :=
  zsnd2 fun st h pc1 st1 hg p l e R s m args below meth c Q H locs cells slots ls F _ _ _ hW hS k => by
    simp only [zSld] at hg
    split at hg
    · split at hg
      · cases hg
      · rename_i hin
        cases hg
        exact va_sld F.1 F.2.1 F.2.2.2.2.2.2.2.2.1 (Nat.lt_of_lt_of_le (F.2.2.2.2.2.2.2.2.2.1 0) F.2.2.2.2.2.2.2.2.2.2.1) (Nat.not_le.mpr (F.2.2.2.2.2.2.2.2.2.1 0)) hS hin hd k
    · cases hg
abbrev zSlen (Ls pc' : Nat) : List Value → Option (Nat × List Value) := fun st => match st with
  | .retAddr 0 :: r => some (pc', .int (Int32.ofNat Ls) :: r)
  | _ => none
theorem zs_slen (hd : decode bytes pc = .ok (.arraylength, 1)) : zSnd cl T G N O E own nm bytes nL pc (zS2 (fun st _ => zSlen (zLs E) (pc + 1) st)) :=
  zsnd2 fun st h pc1 st1 hg p l e R s m args below meth c Q H locs cells slots ls F _ _ _ hW hS k => by
    simp only [zSlen] at hg
    split at hg
    · cases hg
      exact va_slen F.1 F.2.1 F.2.2.2.2.2.2.2.2.1 (Nat.lt_of_lt_of_le (F.2.2.2.2.2.2.2.2.2.1 0) F.2.2.2.2.2.2.2.2.2.2.1) (Nat.not_le.mpr (F.2.2.2.2.2.2.2.2.2.1 0)) hS hd k
    · cases hg
abbrev zAstI (t pc' : Nat) : zOp := fun L st h => match st with
  | .int x :: .int i :: .ref k :: r => if k < h.2.1 ∧ (True) then match h.1 k with
    | .inl (t', n, .inl f) => if t' = t then if i < 0 ∨ n ≤ i.toNatClampNeg then none else some (pc', L, r, (zup h.1 k (.inl (t, n, .inl (upd f i.toNatClampNeg x))), h.2)) else none
    | _ => none
    else none
  | _ => none
theorem zs_astI {t : Nat} (ht : T[t]? = some .int) (hd : decode bytes pc = .ok (.iastore, 1)) : zSnd cl T G N O E own nm bytes nL pc (zAstI t (pc + 1)) := by
  intro L st h pc' L' st' h' hop
  simp only [zAstI] at hop
  split at hop
  · rename_i x i k r
    split at hop
    · rename_i hk
      obtain ⟨hk, hgd⟩ := hk
      split at hop
      · rename_i t' n f hh
        split at hop
        · rename_i htt
          split at hop
          · cases hop
          · rename_i hin
            cases hop
            subst htt
            refine ⟨⟨Nat.le_refl _, Nat.le_refl _⟩, ?_⟩
            intro p l e R s m args below meth c Q F _ _ n0 S0 H locs ls hll hW hS _ _ _ _ kk
            have hP := hW.1 k hk
            rw [hh] at hP
            refine W.iast F.1 F.2.1 hP ((F.2.2.2.2.2.2.1.2 t' _ ht).1 n (fun j => .int (f j))) (fun q => by cases q) (by show ¬ (i < 0 ∨ (arrV _ _ _).slots.size ≤ _); rw [arrV_size]; exact hin) rfl rfl hd fun H1 e z oq => ?_
            refine kk H1 _ ls hll (hW.put ?_ z oq) (zS.put hS z oq)
            show H1[zb E + k]? = some (vp_cell _ _)
            rw [e]
            show some ((vp_cell (zcy E t') (n, .inl f)).setSlot _ _) = some (vp_cell (zcy E t') (n, .inl (upd f i.toNatClampNeg x)))
            rw [vp_cell_i, vp_cell_i, arrV_store]
            congr 2
            funext q
            by_cases hq : q = i.toNatClampNeg
            · subst hq
              simp [updV, upd]
            · simp [updV, upd, hq]
        · cases hop
      · cases hop
    · cases hop
  · cases hop
abbrev zAstZ (t pc' : Nat) : zOp := fun L st h => match st with
  | .int x :: .int i :: .ref k :: r => if k < h.2.1 ∧ (x = 0 ∨ x = 1) then match h.1 k with
    | .inl (t', n, .inl f) => if t' = t then if i < 0 ∨ n ≤ i.toNatClampNeg then none else some (pc', L, r, (zup h.1 k (.inl (t, n, .inl (upd f i.toNatClampNeg x))), h.2)) else none
    | _ => none
    else none
  | _ => none
theorem zs_astZ {t : Nat} (ht : T[t]? = some .boolean) (hd : decode bytes pc = .ok (.bastore, 1)) : zSnd cl T G N O E own nm bytes nL pc (zAstZ t (pc + 1)) := by
  intro L st h pc' L' st' h' hop
  simp only [zAstZ] at hop
  split at hop
  · rename_i x i k r
    split at hop
    · rename_i hk
      obtain ⟨hk, hgd⟩ := hk
      split at hop
      · rename_i t' n f hh
        split at hop
        · rename_i htt
          split at hop
          · cases hop
          · rename_i hin
            cases hop
            subst htt
            refine ⟨⟨Nat.le_refl _, Nat.le_refl _⟩, ?_⟩
            intro p l e R s m args below meth c Q F _ _ n0 S0 H locs ls hll hW hS _ _ _ _ kk
            have hP := hW.1 k hk
            rw [hh] at hP
            refine W.zast F.1 F.2.1 hP ((F.2.2.2.2.2.2.1.2 t' _ ht).1 n (fun j => .int (f j))) (fun q => by cases q) (by show ¬ (i < 0 ∨ (arrV _ _ _).slots.size ≤ _); rw [arrV_size]; exact hin) rfl rfl hd fun H1 e z oq => ?_
            refine kk H1 _ ls hll (hW.put ?_ z oq) (zS.put hS z oq)
            show H1[zb E + k]? = some (vp_cell _ _)
            rw [e]
            show some ((vp_cell (zcy E t') (n, .inl f)).setSlot _ _) = some (vp_cell (zcy E t') (n, .inl (upd f i.toNatClampNeg x)))
            rw [vp_cell_i, vp_cell_i, arrV_store]
            congr 2
            funext q
            by_cases hq : q = i.toNatClampNeg
            · subst hq
              rcases hgd with rfl | rfl <;> simp [updV, upd] <;> rfl
            · simp [updV, upd, hq]
        · cases hop
      · cases hop
    · cases hop
  · cases hop
abbrev zAstJ (t pc' : Nat) : zOp := fun L st h => match st with
  | .long x :: .int i :: .ref k :: r => if k < h.2.1 ∧ (True) then match h.1 k with
    | .inl (t', n, .inr (.inl f)) => if t' = t then if i < 0 ∨ n ≤ i.toNatClampNeg then none else some (pc', L, r, (zup h.1 k (.inl (t, n, .inr (.inl (vp_updL f i.toNatClampNeg x)))), h.2)) else none
    | _ => none
    else none
  | _ => none
theorem zs_astJ {t : Nat} (ht : T[t]? = some .long) (hd : decode bytes pc = .ok (.lastore, 1)) : zSnd cl T G N O E own nm bytes nL pc (zAstJ t (pc + 1)) := by
  intro L st h pc' L' st' h' hop
  simp only [zAstJ] at hop
  split at hop
  · rename_i x i k r
    split at hop
    · rename_i hk
      obtain ⟨hk, hgd⟩ := hk
      split at hop
      · rename_i t' n f hh
        split at hop
        · rename_i htt
          split at hop
          · cases hop
          · rename_i hin
            cases hop
            subst htt
            refine ⟨⟨Nat.le_refl _, Nat.le_refl _⟩, ?_⟩
            intro p l e R s m args below meth c Q F _ _ n0 S0 H locs ls hll hW hS _ _ _ _ kk
            have hP := hW.1 k hk
            rw [hh] at hP
            refine W.last F.1 F.2.1 hP ((F.2.2.2.2.2.2.1.2 t' _ ht).1 n (fun j => .long (f j))) (fun q => by cases q) (by show ¬ (i < 0 ∨ (arrV _ _ _).slots.size ≤ _); rw [arrV_size]; exact hin) rfl rfl hd fun H1 e z oq => ?_
            refine kk H1 _ ls hll (hW.put ?_ z oq) (zS.put hS z oq)
            show H1[zb E + k]? = some (vp_cell _ _)
            rw [e]
            show some ((vp_cell (zcy E t') (n, .inr (.inl f))).setSlot _ _) = some (vp_cell (zcy E t') (n, .inr (.inl (vp_updL f i.toNatClampNeg x))))
            rw [vp_cell_l, vp_cell_l, arrV_store]
            congr 2
            funext q
            by_cases hq : q = i.toNatClampNeg
            · subst hq
              simp [updV, vp_updL]
            · simp [updV, vp_updL, hq]
        · cases hop
      · cases hop
    · cases hop
  · cases hop
abbrev zAstD (t pc' : Nat) : zOp := fun L st h => match st with
  | .double x :: .int i :: .ref k :: r => if k < h.2.1 ∧ (True) then match h.1 k with
    | .inl (t', n, .inr (.inr (.inr (.inl f)))) => if t' = t then if i < 0 ∨ n ≤ i.toNatClampNeg then none else some (pc', L, r, (zup h.1 k (.inl (t, n, .inr (.inr (.inr (.inl (vf_upd f i.toNatClampNeg x)))))), h.2)) else none
    | _ => none
    else none
  | _ => none
theorem zs_astD {t : Nat} (ht : T[t]? = some .double) (hd : decode bytes pc = .ok (.dastore, 1)) : zSnd cl T G N O E own nm bytes nL pc (zAstD t (pc + 1)) := by
  intro L st h pc' L' st' h' hop
  simp only [zAstD] at hop
  split at hop
  · rename_i x i k r
    split at hop
    · rename_i hk
      obtain ⟨hk, hgd⟩ := hk
      split at hop
      · rename_i t' n f hh
        split at hop
        · rename_i htt
          split at hop
          · cases hop
          · rename_i hin
            cases hop
            subst htt
            refine ⟨⟨Nat.le_refl _, Nat.le_refl _⟩, ?_⟩
            intro p l e R s m args below meth c Q F _ _ n0 S0 H locs ls hll hW hS _ _ _ _ kk
            have hP := hW.1 k hk
            rw [hh] at hP
            refine W.dast F.1 F.2.1 hP ((F.2.2.2.2.2.2.1.2 t' _ ht).1 n (fun j => .double (f j))) (fun q => by cases q) (by show ¬ (i < 0 ∨ (arrV _ _ _).slots.size ≤ _); rw [arrV_size]; exact hin) rfl rfl hd fun H1 e z oq => ?_
            refine kk H1 _ ls hll (hW.put ?_ z oq) (zS.put hS z oq)
            show H1[zb E + k]? = some (vp_cell _ _)
            rw [e]
            show some ((vp_cell (zcy E t') (n, .inr (.inr (.inr (.inl f))))).setSlot _ _) = some (vp_cell (zcy E t') (n, .inr (.inr (.inr (.inl (vf_upd f i.toNatClampNeg x))))))
            rw [vp_cell_d, vp_cell_d, arrV_store]
            congr 2
            funext q
            by_cases hq : q = i.toNatClampNeg
            · subst hq
              simp [updV, vf_upd]
            · simp [updV, vf_upd, hq]
        · cases hop
      · cases hop
    · cases hop
  · cases hop
abbrev zAstQ (t ci pc' : Nat) : zOp := fun L st h => match st with
  | .ref v :: .int i :: .ref k :: r => if k < h.2.1 ∧ v < h.2.1 then match h.1 k, h.1 v with
    | .inl (t', n, .inr (.inr (.inr (.inr f)))), .inr (ci', _) => if t' = t ∧ ci' = ci then if i < 0 ∨ n ≤ i.toNatClampNeg then none else some (pc', L, r, (zup h.1 k (.inl (t, n, .inr (.inr (.inr (.inr (va_up f i.toNatClampNeg (some v))))))), h.2)) else none
    | _, _ => none
    else none
  | _ => none
theorem zs_astQ {t ci : Nat} {C : String} {Tc : u_T} {Nc : Nat} (ht : T[t]? = some (.object C)) (hc : cl[ci]? = some (C, Tc, Nc)) (hd : decode bytes pc = .ok (.aastore, 1)) : zSnd cl T G N O E own nm bytes nL pc (zAstQ t ci (pc + 1)) := by
  intro L st h pc' L' st' h' hop
  simp only [zAstQ] at hop
  split at hop
  · rename_i v i k r
    split at hop
    · rename_i hk
      obtain ⟨hk, hv⟩ := hk
      split at hop
      · rename_i t' n f ci' vs hh hhv
        split at hop
        · rename_i htt
          obtain ⟨rfl, rfl⟩ := htt
          split at hop
          · cases hop
          · rename_i hin
            cases hop
            refine ⟨⟨Nat.le_refl _, Nat.le_refl _⟩, ?_⟩
            intro p l e R s m args below meth c Q F _ _ n0 S0 H locs ls hll hW hS _ _ _ _ kk
            have hP := hW.1 k hk
            rw [hh] at hP
            have hPv := hW.1 v hv
            rw [hhv] at hPv
            have hlt : i.toNatClampNeg < n := Nat.not_le.mp fun q => hin (Or.inr q)
            have h0 : ¬ i < 0 := fun q => hin (Or.inl q)
            obtain ⟨r', hr', cellV, g1, g2, g3, -⟩ := hPv
            have hK := F.2.2.2.2.2.2.1
            have hcls := (hK.1 ci' _ hc).2
            obtain ⟨kA, comp, k1, k2, k3, -⟩ := (hK.2 t' _ ht).2
            have hcomp : comp = (zD E).1 ci' := Option.some.inj (k3.symm.trans hcls.1)
            subst hcomp
            obtain ⟨kC, hkC, -⟩ := hcls.2
            refine W.aast F.1 F.2.1 hP (fun q h => by cases h) (fun h => by cases h) k1 k2 rfl hkC ⟨h0, by show _ < (arrV _ _ _).slots.size; rw [arrV_size]; exact hlt⟩ g1 (fun q h => by rw [g3] at h; cases h) (by rw [g2]; exact hkC) (by rw [g2]; exact va_assign hcls) rfl rfl hd fun H1 e z oq => ?_
            refine kk H1 _ ls hll (hW.put ?_ z oq) (zS.put hS z oq)
            show H1[zb E + k]? = some (vp_cell _ _)
            rw [e]
            show some ((vp_cell (zcy E t') (n, .inr (.inr (.inr (.inr (fun j => (f j).map (fun k => zb E + k))))))).setSlot _ _) = some (vp_cell (zcy E t') (n, .inr (.inr (.inr (.inr (fun j => (va_up f i.toNatClampNeg (some v) j).map (fun k => zb E + k)))))))
            rw [vp_cell_q, vp_cell_q, arrV_store]
            congr 2
            funext q
            by_cases hq : q = i.toNatClampNeg
            · subst hq
              simp [updV, va_up, va_rf]
            · simp [updV, va_up, hq]
        · cases hop
      · cases hop
    · cases hop
  · cases hop
abbrev zNew (ci : Nat) (fs : List Value) (Nc pc' : Nat) : zOp := fun L st h => if h.2.2.2.2 = true then some (pc', L, .ref h.2.1 :: st, (zup h.1 h.2.1 (.inr (ci, fs)), h.2.1 + 1, h.2.2.1 + 1, h.2.2.2.1 + Nc, true)) else none
theorem zs_new {ci i : Nat} {fs : List Value} {C : String} {Tc : u_T} {Nc : Nat} {ty : Nat → FieldType} (hc : cl[ci]? = some (C, Tc, Nc)) (hin : ∀ w ∈ u_ws C Tc Nc, w ∈ G) (hty : ∀ k, k < Nc → parseFieldDescriptor (Tc k).2.2.1 = some (ty k)) (hcl : Cond.classLink own i C ∈ G) (hinst : Cond.instantiable C Nc ∈ G) (hini : Cond.initialized C ∈ G) (hfs : ∀ j, j < Nc → defaultValue (ty j) = vp_V fs j) (hz : fs.map (zV E) = fs) (hd : decode bytes pc = .ok (.new i, 3)) : zSnd cl T G N O E own nm bytes nL pc (zNew ci fs Nc (pc + 3)) := by
  intro L st h pc' L' st' h' hop
  simp only [zNew] at hop
  split at hop
  · rename_i hlive
    cases hop
    refine ⟨⟨Nat.le_succ _, Nat.le_add_right _ _⟩, ?_⟩
    intro p l e R s m args below meth c Q F _ _ n0 S0 H locs ls hll hW hS hn0 hS0 hcR hsR kk
    have hcR' : h.2.2.1 + 1 - n0 ≤ R.cells := hcR
    have hsR' : h.2.2.2.1 + Nc - S0 ≤ R.slots := hsR
    have hK := F.2.2.2.2.2.2.1.none
    have hKn := hK.1 ci _ hc
    refine W.newcK F.1 F.2.1 F.2.2.2.1 (F.2.2.2.2.1 _ hcl) (F.2.2.2.2.1 _ hinst) (F.2.2.2.2.1 _ hini) rfl hd (by omega) (by omega) hKn.2.1 rfl fun H1 kC hkC e1 z1 o1 => ?_
    refine W.cs (cells' := h.2.2.1 + 1 - n0) (slots' := h.2.2.2.1 + Nc - S0) (by omega) (by omega) ?_
    have hsz := hW.2.2 hlive
    have hk := kk H1 locs ls hll (hW.push hlive ?_ z1 o1) (zS.push hS z1 o1)
    · have hst : (Value.ref h.2.1 :: st).map (zV E) = .ref H.size :: st.map (zV E) := by
        rw [List.map_cons, hsz]
        rfl
      rw [hst] at hk
      exact hk
    · refine ⟨_, hc, ?_⟩
      show t_OB H.size _ _ _ H1 (vp_V (fs.map (zV E)))
      rw [hz]
      exact (u_born ty F.2.2.2.2.1 hin hKn hkC e1 hty).to hfs
  · cases hop
abbrev zNwaI (t pc' : Nat) : zOp := fun L st h => match st with
  | .int n :: r => if h.2.2.2.2 = true ∧ ¬ n < 0 ∧ n.toNatClampNeg ≤ 1000000 then some (pc', L, .ref h.2.1 :: r, (zup h.1 h.2.1 (.inl (t, n.toNatClampNeg, .inl (fun _ => 0))), h.2.1 + 1, h.2.2.1 + 1, h.2.2.2.1 + n.toNatClampNeg, true)) else none
  | _ => none
theorem zs_nwaI {t : Nat} (ht : T[t]? = some .int) (hw : Cond.arrayClass .int ∈ G) (hd : decode bytes pc = .ok (.newarray .int, 2)) : zSnd cl T G N O E own nm bytes nL pc (zNwaI t (pc + 2)) := by
  intro L st h pc' L' st' h' hop
  simp only [zNwaI] at hop
  split at hop
  · rename_i n r
    split at hop
    · rename_i hg
      obtain ⟨hlive, hn, hbig⟩ := hg
      cases hop
      refine ⟨⟨Nat.le_succ _, Nat.le_add_right _ _⟩, ?_⟩
      intro p l e R s m args below meth c Q F _ _ n0 S0 H locs ls hll hW hS hn0 hS0 hcR hsR kk
      have hcR' : h.2.2.1 + 1 - n0 ≤ R.cells := hcR
      have hsR' : h.2.2.2.1 + n.toNatClampNeg - S0 ≤ R.slots := hsR
      refine va_newaK (atype := .int) F.1 F.2.1 (F.2.2.2.2.1 _ hw) rfl hd rfl hn rfl (zbytes hbig (by decide)) (by omega) (by omega) rfl fun H1 cA e1 z1 o1 hAr hNm => ?_
      refine W.cs (cells' := h.2.2.1 + 1 - n0) (slots' := h.2.2.2.1 + n.toNatClampNeg - S0) (by omega) (by omega) ?_
      have hsz := hW.2.2 hlive
      have hcy : cA = zcy E t := Option.some.inj (hNm.symm.trans (F.2.2.2.2.2.2.1.2 t _ ht).2)
      subst hcy
      have hk := kk H1 locs ls hll (hW.push hlive ?_ z1 o1) (zS.push hS z1 o1)
      · have hst : (Value.ref h.2.1 :: r).map (zV E) = .ref H.size :: r.map (zV E) := by
          rw [List.map_cons, hsz]
          rfl
        rw [hst] at hk
        exact hk
      · show H1[H.size]? = some (vp_cell _ _)
        rw [e1]
        show _ = some (vp_cell (zcy E t) (n.toNatClampNeg, .inl (fun _ => 0)))
        rw [vp_cell_i]
        rfl
    · cases hop
  · cases hop
abbrev zNwaZ (t pc' : Nat) : zOp := fun L st h => match st with
  | .int n :: r => if h.2.2.2.2 = true ∧ ¬ n < 0 ∧ n.toNatClampNeg ≤ 1000000 then some (pc', L, .ref h.2.1 :: r, (zup h.1 h.2.1 (.inl (t, n.toNatClampNeg, .inl (fun _ => 0))), h.2.1 + 1, h.2.2.1 + 1, h.2.2.2.1 + n.toNatClampNeg, true)) else none
  | _ => none
theorem zs_nwaZ {t : Nat} (ht : T[t]? = some .boolean) (hw : Cond.arrayClass .boolean ∈ G) (hd : decode bytes pc = .ok (.newarray .boolean, 2)) : zSnd cl T G N O E own nm bytes nL pc (zNwaZ t (pc + 2)) := by
  intro L st h pc' L' st' h' hop
  simp only [zNwaZ] at hop
  split at hop
  · rename_i n r
    split at hop
    · rename_i hg
      obtain ⟨hlive, hn, hbig⟩ := hg
      cases hop
      refine ⟨⟨Nat.le_succ _, Nat.le_add_right _ _⟩, ?_⟩
      intro p l e R s m args below meth c Q F _ _ n0 S0 H locs ls hll hW hS hn0 hS0 hcR hsR kk
      have hcR' : h.2.2.1 + 1 - n0 ≤ R.cells := hcR
      have hsR' : h.2.2.2.1 + n.toNatClampNeg - S0 ≤ R.slots := hsR
      refine va_newaK (atype := .boolean) F.1 F.2.1 (F.2.2.2.2.1 _ hw) rfl hd rfl hn rfl (zbytes hbig (by decide)) (by omega) (by omega) rfl fun H1 cA e1 z1 o1 hAr hNm => ?_
      refine W.cs (cells' := h.2.2.1 + 1 - n0) (slots' := h.2.2.2.1 + n.toNatClampNeg - S0) (by omega) (by omega) ?_
      have hsz := hW.2.2 hlive
      have hcy : cA = zcy E t := Option.some.inj (hNm.symm.trans (F.2.2.2.2.2.2.1.2 t _ ht).2)
      subst hcy
      have hk := kk H1 locs ls hll (hW.push hlive ?_ z1 o1) (zS.push hS z1 o1)
      · have hst : (Value.ref h.2.1 :: r).map (zV E) = .ref H.size :: r.map (zV E) := by
          rw [List.map_cons, hsz]
          rfl
        rw [hst] at hk
        exact hk
      · show H1[H.size]? = some (vp_cell _ _)
        rw [e1]
        show _ = some (vp_cell (zcy E t) (n.toNatClampNeg, .inl (fun _ => 0)))
        rw [vp_cell_i]
        rfl
    · cases hop
  · cases hop
abbrev zNwaJ (t pc' : Nat) : zOp := fun L st h => match st with
  | .int n :: r => if h.2.2.2.2 = true ∧ ¬ n < 0 ∧ n.toNatClampNeg ≤ 1000000 then some (pc', L, .ref h.2.1 :: r, (zup h.1 h.2.1 (.inl (t, n.toNatClampNeg, .inr (.inl (fun _ => 0)))), h.2.1 + 1, h.2.2.1 + 1, h.2.2.2.1 + n.toNatClampNeg, true)) else none
  | _ => none
theorem zs_nwaJ {t : Nat} (ht : T[t]? = some .long) (hw : Cond.arrayClass .long ∈ G) (hd : decode bytes pc = .ok (.newarray .long, 2)) : zSnd cl T G N O E own nm bytes nL pc (zNwaJ t (pc + 2)) := by
  intro L st h pc' L' st' h' hop
  simp only [zNwaJ] at hop
  split at hop
  · rename_i n r
    split at hop
    · rename_i hg
      obtain ⟨hlive, hn, hbig⟩ := hg
      cases hop
      refine ⟨⟨Nat.le_succ _, Nat.le_add_right _ _⟩, ?_⟩
      intro p l e R s m args below meth c Q F _ _ n0 S0 H locs ls hll hW hS hn0 hS0 hcR hsR kk
      have hcR' : h.2.2.1 + 1 - n0 ≤ R.cells := hcR
      have hsR' : h.2.2.2.1 + n.toNatClampNeg - S0 ≤ R.slots := hsR
      refine va_newaK (atype := .long) F.1 F.2.1 (F.2.2.2.2.1 _ hw) rfl hd rfl hn rfl (zbytes hbig (by decide)) (by omega) (by omega) rfl fun H1 cA e1 z1 o1 hAr hNm => ?_
      refine W.cs (cells' := h.2.2.1 + 1 - n0) (slots' := h.2.2.2.1 + n.toNatClampNeg - S0) (by omega) (by omega) ?_
      have hsz := hW.2.2 hlive
      have hcy : cA = zcy E t := Option.some.inj (hNm.symm.trans (F.2.2.2.2.2.2.1.2 t _ ht).2)
      subst hcy
      have hk := kk H1 locs ls hll (hW.push hlive ?_ z1 o1) (zS.push hS z1 o1)
      · have hst : (Value.ref h.2.1 :: r).map (zV E) = .ref H.size :: r.map (zV E) := by
          rw [List.map_cons, hsz]
          rfl
        rw [hst] at hk
        exact hk
      · show H1[H.size]? = some (vp_cell _ _)
        rw [e1]
        show _ = some (vp_cell (zcy E t) (n.toNatClampNeg, .inr (.inl (fun _ => 0))))
        rw [vp_cell_l]
        rfl
    · cases hop
  · cases hop
abbrev zNwaD (t pc' : Nat) : zOp := fun L st h => match st with
  | .int n :: r => if h.2.2.2.2 = true ∧ ¬ n < 0 ∧ n.toNatClampNeg ≤ 1000000 then some (pc', L, .ref h.2.1 :: r, (zup h.1 h.2.1 (.inl (t, n.toNatClampNeg, .inr (.inr (.inr (.inl (fun _ => 0)))))), h.2.1 + 1, h.2.2.1 + 1, h.2.2.2.1 + n.toNatClampNeg, true)) else none
  | _ => none
theorem zs_nwaD {t : Nat} (ht : T[t]? = some .double) (hw : Cond.arrayClass .double ∈ G) (hd : decode bytes pc = .ok (.newarray .double, 2)) : zSnd cl T G N O E own nm bytes nL pc (zNwaD t (pc + 2)) := by
  intro L st h pc' L' st' h' hop
  simp only [zNwaD] at hop
  split at hop
  · rename_i n r
    split at hop
    · rename_i hg
      obtain ⟨hlive, hn, hbig⟩ := hg
      cases hop
      refine ⟨⟨Nat.le_succ _, Nat.le_add_right _ _⟩, ?_⟩
      intro p l e R s m args below meth c Q F _ _ n0 S0 H locs ls hll hW hS hn0 hS0 hcR hsR kk
      have hcR' : h.2.2.1 + 1 - n0 ≤ R.cells := hcR
      have hsR' : h.2.2.2.1 + n.toNatClampNeg - S0 ≤ R.slots := hsR
      refine va_newaK (atype := .double) F.1 F.2.1 (F.2.2.2.2.1 _ hw) rfl hd rfl hn rfl (zbytes hbig (by decide)) (by omega) (by omega) rfl fun H1 cA e1 z1 o1 hAr hNm => ?_
      refine W.cs (cells' := h.2.2.1 + 1 - n0) (slots' := h.2.2.2.1 + n.toNatClampNeg - S0) (by omega) (by omega) ?_
      have hsz := hW.2.2 hlive
      have hcy : cA = zcy E t := Option.some.inj (hNm.symm.trans (F.2.2.2.2.2.2.1.2 t _ ht).2)
      subst hcy
      have hk := kk H1 locs ls hll (hW.push hlive ?_ z1 o1) (zS.push hS z1 o1)
      · have hst : (Value.ref h.2.1 :: r).map (zV E) = .ref H.size :: r.map (zV E) := by
          rw [List.map_cons, hsz]
          rfl
        rw [hst] at hk
        exact hk
      · show H1[H.size]? = some (vp_cell _ _)
        rw [e1]
        show _ = some (vp_cell (zcy E t) (n.toNatClampNeg, .inr (.inr (.inr (.inl (fun _ => 0))))))
        rw [vp_cell_d]
        rfl
    · cases hop
  · cases hop
abbrev zNwaQ (t pc' : Nat) : zOp := fun L st h => match st with
  | .int n :: r => if h.2.2.2.2 = true ∧ ¬ n < 0 ∧ n.toNatClampNeg ≤ 1000000 then some (pc', L, .ref h.2.1 :: r, (zup h.1 h.2.1 (.inl (t, n.toNatClampNeg, .inr (.inr (.inr (.inr (fun _ => none)))))), h.2.1 + 1, h.2.2.1 + 1, h.2.2.2.1 + n.toNatClampNeg, true)) else none
  | _ => none
theorem zs_nwaQ {t i : Nat} {C : String} (ht : T[t]? = some (.object C)) (hcl : Cond.classLink own i C ∈ G) (hov : Cond.arrayOver (.object C) ∈ N) (hd : decode bytes pc = .ok (.anewarray i, 3)) : zSnd cl T G N O E own nm bytes nL pc (zNwaQ t (pc + 3)) := by
  intro L st h pc' L' st' h' hop
  simp only [zNwaQ] at hop
  split at hop
  · rename_i n r
    split at hop
    · rename_i hg
      obtain ⟨hlive, hn, hbig⟩ := hg
      cases hop
      refine ⟨⟨Nat.le_succ _, Nat.le_add_right _ _⟩, ?_⟩
      intro p l e R s m args below meth c Q F _ _ n0 S0 H locs ls hll hW hS hn0 hS0 hcR hsR kk
      have hcR' : h.2.2.1 + 1 - n0 ≤ R.cells := hcR
      have hsR' : h.2.2.2.1 + n.toNatClampNeg - S0 ≤ R.slots := hsR
      have hao : va_AO C s := F.2.2.2.2.2.1 _ hov
      refine W.anew F.1 F.2.1 F.2.2.2.1 (F.2.2.2.2.1 _ hcl) (va_AO.use hao) rfl hd rfl hn (zbytes hbig (by decide)) (by omega) (by omega) fun cA kA comp f1 f2 f3 f4 => ?_
      generalize hH1 : H.push ({ cls := cA, slots := Array.replicate n.toNatClampNeg .null, vm := .none } : Cell) = H1
      have z1 : H1.size = H.size + 1 := by rw [← hH1, Array.size_push]
      have e1 : H1[H.size]? = some (arrV cA n.toNatClampNeg (fun _ => .null)) := by rw [← hH1, Array.getElem?_push_size, ← arrV_new]
      have o1 : ∀ q : Nat, q < H.size → H1[q]? = H[q]? := fun q hq => by rw [← hH1, Array.getElem?_push, if_neg (Nat.ne_of_lt hq)]
      refine W.cs (cells' := h.2.2.1 + 1 - n0) (slots' := h.2.2.2.1 + n.toNatClampNeg - S0) (by omega) (by omega) ?_
      have hsz := hW.2.2 hlive
      obtain ⟨kA2, comp2, -, -, -, hnm2⟩ := (F.2.2.2.2.2.2.1.2 t _ ht).2
      have hcy : cA = zcy E t := Option.some.inj (f1.symm.trans hnm2)
      subst hcy
      have hk := kk H1 locs ls hll (hW.push hlive ?_ z1 o1) (zS.push hS z1 o1)
      · have hst : (Value.ref h.2.1 :: r).map (zV E) = .ref H.size :: r.map (zV E) := by
          rw [List.map_cons, hsz]
          rfl
        rw [hst] at hk
        exact hk
      · show H1[H.size]? = some (vp_cell _ _)
        rw [e1]
        show _ = some (vp_cell (zcy E t) (n.toNatClampNeg, .inr (.inr (.inr (.inr (fun j => none))))))
        rw [vp_cell_q]
        rfl
    · cases hop
  · cases hop
abbrev zObj (pc' : Nat) : List Value → zH → Option (Nat × List Value) := fun st _ => match st with
  | .ref _ :: r => if (r.map fun v => v.category).sum ≤ 8 then some (pc', r) else none
  | _ => none
theorem zs_obj {i : Nat} (h1 : Cond.methodLink own i Lib.objectInit ∈ G) (h2 : Cond.instanceMethod Lib.objectInit ∈ G) (h3 : Cond.code Lib.objectInit ⟨#[0xb1]⟩ 1 none ∈ G) (hd : decode bytes pc = .ok (.invokespecial i, 3)) : zSnd cl T G N O E own nm bytes nL pc (zS2 (zObj (pc + 3))) :=
  zsnd2 fun st h pc1 st1 hg p l e R s m args below meth c Q H locs cells slots ls F hf hlo hsz hW hS k => by
    simp only [zObj] at hg
    split at hg
    · rename_i a r
      split at hg
      · rename_i hsum
        cases hg
        have hcat : ((st1.map (zV E)).map fun v => v.category) = st1.map fun v => v.category := by
          rw [List.map_map]
          exact List.map_congr_left fun v _ => zV_cat E v
        refine W.objInit F.1 F.2.1 F.2.2.2.1 (F.2.2.2.2.1 _ h1) (F.2.2.2.2.1 _ h2) (F.2.2.2.2.1 _ h3) rfl (by rw [F.2.2.1]; exact hsz) rfl hd hf (by show 2 * 0 + ((st1.map (zV E)).map fun v => v.category).sum + 12 ≤ _; rw [hcat]; omega) k
      · cases hg
    · cases hg
end ZARR
