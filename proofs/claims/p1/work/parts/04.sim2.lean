/-! SOUND STEPS: what a step of the small machine owes, and the steps that touch no heap -/
def zSnd (cl : List vw_C) (T : List FieldType) (G N : List Cond) (O : Nat → State → Heap → Prop) (E : zE) (own nm : String) (bytes : ByteArray) (nL pc : Nat) (op : zOp) : Prop :=
  ∀ (L : zLoc) (st : List Value) (h : zH) (pc' : Nat) (L' : zLoc) (st' : List Value) (h' : zH), op L st h = some (pc', L', st', h') →
    (h.2.2.1 ≤ h'.2.2.1 ∧ h.2.2.2.1 ≤ h'.2.2.2.1) ∧
    ∀ (p : Program) (l : Launch) (e : Env) (R : Room) (s : State) (m : MethodId) (args : Array Value) (below : List Frame) (meth : Method) (c : Code) (Q : State → Prop),
      zF cl T G N O E own nm bytes nL p s m args meth c → 1 ≤ R.frames → 40 ≤ R.locals →
      ∀ (n0 S0 : Nat) (H : Heap) (locs : List Loc) (ls : Array Slot), lv_has ls nL (zLo E L) → zW cl E h H → va_S (zA E) s.heap H locs → n0 ≤ h.2.2.1 → S0 ≤ h.2.2.2.1 → h'.2.2.1 - n0 ≤ R.cells → h'.2.2.2.1 - S0 ≤ R.slots →
      (∀ (H' : Heap) (locs' : List Loc) (ls' : Array Slot), lv_has ls' nL (zLo E L') → zW cl E h' H' → va_S (zA E) s.heap H' locs' → W p l e R s m args below meth c H' locs' (h'.2.2.1 - n0) (h'.2.2.2.1 - S0) Q (F0 m pc' ls' (st'.map (zV E)))) →
      W p l e R s m args below meth c H locs (h.2.2.1 - n0) (h.2.2.2.1 - S0) Q (F0 m pc ls (st.map (zV E)))
section ZSND
variable {cl : List vw_C} {T : List FieldType} {G N : List Cond} {O : Nat → State → Heap → Prop} {E : zE} {own nm : String} {bytes : ByteArray} {nL pc : Nat}
/-- a step that changes the stack alone -/
abbrev zS1 (f : List Value → Option (Nat × List Value)) : zOp := fun L st h => match f st with
  | some (pc', st') => some (pc', L, st', h)
  | none => none
theorem zsnd1 {f : List Value → Option (Nat × List Value)} (hf : ∀ (st : List Value) (pc' : Nat) (st' : List Value), f st = some (pc', st') → ∀ (p : Program) (l : Launch) (e : Env) (R : Room) (s : State) (m : MethodId) (args : Array Value) (below : List Frame) (meth : Method) (c : Code) (Q : State → Prop) (H : Heap) (locs : List Loc) (cells slots : Nat) (ls : Array Slot), zF cl T G N O E own nm bytes nL p s m args meth c →
      W p l e R s m args below meth c H locs cells slots Q (F0 m pc' ls (st'.map (zV E))) → W p l e R s m args below meth c H locs cells slots Q (F0 m pc ls (st.map (zV E)))) : zSnd cl T G N O E own nm bytes nL pc (zS1 f) := by
  intro L st h pc' L' st' h' hop
  simp only [zS1] at hop
  split at hop
  · rename_i a b heq
    cases hop
    refine ⟨⟨Nat.le_refl _, Nat.le_refl _⟩, ?_⟩
    intro p l e R s m args below meth c Q F _ _ n0 S0 H locs ls hl hW hS _ _ _ _ k
    exact hf _ _ _ heq p l e R s m args below meth c Q H locs _ _ ls F (k H locs ls hl hW hS)
  · cases hop
/-- a local is read -/
abbrev zLd (f : Value → Bool) (pc' i : Nat) : zOp := fun L st h => match zget L i with
  | some v => if f v = true then some (pc', L, v :: st, h) else none
  | none => none
def zIsI (v : Value) : Bool := match v with | .int _ => true | _ => false
def zIsL (v : Value) : Bool := match v with | .long _ => true | _ => false
def zIsD (v : Value) : Bool := match v with | .double _ => true | _ => false
def zIsA (v : Value) : Bool := match v with | .ref _ => true | .null => true | .retAddr _ => true | _ => false
theorem zsndLd {f : Value → Bool} {pc' i : Nat} (hf : ∀ (v : Value), f v = true → ∀ (p : Program) (l : Launch) (e : Env) (R : Room) (s : State) (m : MethodId) (args : Array Value) (below : List Frame) (meth : Method) (c : Code) (Q : State → Prop) (H : Heap) (locs : List Loc) (cells slots : Nat) (ls : Array Slot) (rest : List Value), zF cl T G N O E own nm bytes nL p s m args meth c → ls[i]? = some (.val (zV E v)) →
      W p l e R s m args below meth c H locs cells slots Q (F0 m pc' ls (zV E v :: rest)) → W p l e R s m args below meth c H locs cells slots Q (F0 m pc ls rest)) : zSnd cl T G N O E own nm bytes nL pc (zLd f pc' i) := by
  intro L st h pc1 L' st' h' hop
  simp only [zLd] at hop
  split at hop
  · rename_i v hv
    split at hop
    · rename_i hfv
      cases hop
      refine ⟨⟨Nat.le_refl _, Nat.le_refl _⟩, ?_⟩
      intro p l e R s m args below meth c Q F _ _ n0 S0 H locs ls hl hW hS _ _ _ _ k
      exact hf v hfv p l e R s m args below meth c Q H locs _ _ ls _ F (zlk hl hv) (k H locs ls hl hW hS)
    · cases hop
  · cases hop
theorem zs_iload {i : Nat} (hd : decode bytes pc = .ok (.iload i, 2)) : zSnd cl T G N O E own nm bytes nL pc (zLd zIsI (pc + 2) i) := zsndLd fun v hv p l e R s m args below meth c Q H locs cells slots ls rest F hg k => by
  cases v <;> first | cases hv; done | skip
  exact lv_iload F.1 F.2.1 hd hg k
theorem zs_iload_n {i : Fin 4} {j : Nat} (hd : decode bytes pc = .ok (.iload_n i, 1)) (hj : (i : Nat) = j) : zSnd cl T G N O E own nm bytes nL pc (zLd zIsI (pc + 1) j) := zsndLd fun v hv p l e R s m args below meth c Q H locs cells slots ls rest F hg k => by
  cases v <;> first | cases hv; done | skip
  exact lv_iload_n F.1 F.2.1 hd hj hg k
theorem zs_lload {i : Nat} (hd : decode bytes pc = .ok (.lload i, 2)) : zSnd cl T G N O E own nm bytes nL pc (zLd zIsL (pc + 2) i) := zsndLd fun v hv p l e R s m args below meth c Q H locs cells slots ls rest F hg k => by
  cases v <;> first | cases hv; done | skip
  exact lv_lload F.1 F.2.1 hd hg k
theorem zs_lload_n {i : Fin 4} {j : Nat} (hd : decode bytes pc = .ok (.lload_n i, 1)) (hj : (i : Nat) = j) : zSnd cl T G N O E own nm bytes nL pc (zLd zIsL (pc + 1) j) := zsndLd fun v hv p l e R s m args below meth c Q H locs cells slots ls rest F hg k => by
  cases v <;> first | cases hv; done | skip
  exact lv_lload_n F.1 F.2.1 hd hj hg k
theorem zs_dload {i : Nat} (hd : decode bytes pc = .ok (.dload i, 2)) : zSnd cl T G N O E own nm bytes nL pc (zLd zIsD (pc + 2) i) := zsndLd fun v hv p l e R s m args below meth c Q H locs cells slots ls rest F hg k => by
  cases v <;> first | cases hv; done | skip
  exact lv_dload F.1 F.2.1 hd hg k
theorem zs_dload_n {i : Fin 4} {j : Nat} (hd : decode bytes pc = .ok (.dload_n i, 1)) (hj : (i : Nat) = j) : zSnd cl T G N O E own nm bytes nL pc (zLd zIsD (pc + 1) j) := zsndLd fun v hv p l e R s m args below meth c Q H locs cells slots ls rest F hg k => by
  cases v <;> first | cases hv; done | skip
  exact lv_dload_n F.1 F.2.1 hd hj hg k
theorem zs_aload {i : Nat} (hd : decode bytes pc = .ok (.aload i, 2)) : zSnd cl T G N O E own nm bytes nL pc (zLd zIsA (pc + 2) i) := zsndLd fun v hv p l e R s m args below meth c Q H locs cells slots ls rest F hg k => by
  cases v <;> first | cases hv; done | skip
  · exact lv_aloadN F.1 F.2.1 hd hg k
  · exact lv_aload F.1 F.2.1 hd hg k
  · exact lv_aload F.1 F.2.1 hd hg k
theorem zs_aload_n {i : Fin 4} {j : Nat} (hd : decode bytes pc = .ok (.aload_n i, 1)) (hj : (i : Nat) = j) : zSnd cl T G N O E own nm bytes nL pc (zLd zIsA (pc + 1) j) := zsndLd fun v hv p l e R s m args below meth c Q H locs cells slots ls rest F hg k => by
  cases v <;> first | cases hv; done | skip
  · exact lv_aload_nN F.1 F.2.1 hd hj hg k
  · exact lv_aload_n F.1 F.2.1 hd hj hg k
  · exact lv_aload_n F.1 F.2.1 hd hj hg k
/-- a local is written: one word, two words -/
def zF1 (i : Nat) (L : zLoc) : zLoc := L.filter (fun q => !(q.1 == i) && !(q.1 + 1 == i && q.2.category == 2))
def zF2 (i : Nat) (L : zLoc) : zLoc := L.filter (fun q => !(q.1 == i) && (!(q.1 == i + 1) && !(q.1 + 1 == i && q.2.category == 2)))
abbrev zSt1 (f : Value → Bool) (pc' i : Nat) : zOp := fun L st h => match st with
  | v :: r => if f v = true then some (pc', (i, v) :: zF1 i L, r, h) else none
  | [] => none
abbrev zSt2 (f : Value → Bool) (pc' i : Nat) : zOp := fun L st h => match st with
  | v :: r => if f v = true then some (pc', (i, v) :: zF2 i L, r, h) else none
  | [] => none
theorem zsndSt1 {f : Value → Bool} {pc' i : Nat} (hf : ∀ (v : Value), f v = true → ∀ (p : Program) (l : Launch) (e : Env) (R : Room) (s : State) (m : MethodId) (args : Array Value) (below : List Frame) (meth : Method) (c : Code) (Q : State → Prop) (H : Heap) (locs : List Loc) (cells slots : Nat) (ls : Array Slot) (rest : List Value) (lv : List (Nat × Value)), zF cl T G N O E own nm bytes nL p s m args meth c → lv_has ls nL lv →
      (∀ ls', lv_has ls' nL ((i, zV E v) :: lv.filter (fun q => !(q.1 == i) && !(q.1 + 1 == i && q.2.category == 2))) → W p l e R s m args below meth c H locs cells slots Q (F0 m pc' ls' rest)) → W p l e R s m args below meth c H locs cells slots Q (F0 m pc ls (zV E v :: rest))) : zSnd cl T G N O E own nm bytes nL pc (zSt1 f pc' i) := by
  intro L st h pc1 L' st' h' hop
  match st, hop with
  | v :: r, hop =>
    simp only [zSt1] at hop
    split at hop
    · rename_i hfv
      cases hop
      refine ⟨⟨Nat.le_refl _, Nat.le_refl _⟩, ?_⟩
      intro p l e R s m args below meth c Q F _ _ n0 S0 H locs ls hl hW hS _ _ _ _ k
      refine hf v hfv p l e R s m args below meth c Q H locs _ _ ls _ (zLo E L) F hl (fun ls' hl' => k H locs ls' ?_ hW hS)
      rw [zLo_filter] at hl'
      exact hl'
    · cases hop
theorem zsndSt2 {f : Value → Bool} {pc' i : Nat} (hf : ∀ (v : Value), f v = true → ∀ (p : Program) (l : Launch) (e : Env) (R : Room) (s : State) (m : MethodId) (args : Array Value) (below : List Frame) (meth : Method) (c : Code) (Q : State → Prop) (H : Heap) (locs : List Loc) (cells slots : Nat) (ls : Array Slot) (rest : List Value) (lv : List (Nat × Value)), zF cl T G N O E own nm bytes nL p s m args meth c → lv_has ls nL lv →
      (∀ ls', lv_has ls' nL ((i, zV E v) :: lv.filter (fun q => !(q.1 == i) && (!(q.1 == i + 1) && !(q.1 + 1 == i && q.2.category == 2)))) → W p l e R s m args below meth c H locs cells slots Q (F0 m pc' ls' rest)) → W p l e R s m args below meth c H locs cells slots Q (F0 m pc ls (zV E v :: rest))) : zSnd cl T G N O E own nm bytes nL pc (zSt2 f pc' i) := by
  intro L st h pc1 L' st' h' hop
  match st, hop with
  | v :: r, hop =>
    simp only [zSt2] at hop
    split at hop
    · rename_i hfv
      cases hop
      refine ⟨⟨Nat.le_refl _, Nat.le_refl _⟩, ?_⟩
      intro p l e R s m args below meth c Q F _ _ n0 S0 H locs ls hl hW hS _ _ _ _ k
      refine hf v hfv p l e R s m args below meth c Q H locs _ _ ls _ (zLo E L) F hl (fun ls' hl' => k H locs ls' ?_ hW hS)
      rw [zLo_filter2] at hl'
      exact hl'
    · cases hop
theorem zs_istore {i : Nat} (hn : i < nL) (hd : decode bytes pc = .ok (.istore i, 2)) : zSnd cl T G N O E own nm bytes nL pc (zSt1 zIsI (pc + 2) i) := zsndSt1 fun v hv p l e R s m args below meth c Q H locs cells slots ls rest lv F hl k => by
  cases v <;> first | cases hv; done | skip
  exact lv_istore F.1 F.2.1 hd hl hn rfl k
theorem zs_istore_n {i : Fin 4} {j : Nat} (hn : j < nL) (hd : decode bytes pc = .ok (.istore_n i, 1)) (hj : (i : Nat) = j) : zSnd cl T G N O E own nm bytes nL pc (zSt1 zIsI (pc + 1) j) := zsndSt1 fun v hv p l e R s m args below meth c Q H locs cells slots ls rest lv F hl k => by
  cases v <;> first | cases hv; done | skip
  exact lv_istore_n F.1 F.2.1 hd hj hl hn rfl k
theorem zs_astore {i : Nat} (hn : i < nL) (hd : decode bytes pc = .ok (.astore i, 2)) : zSnd cl T G N O E own nm bytes nL pc (zSt1 zIsA (pc + 2) i) := zsndSt1 fun v hv p l e R s m args below meth c Q H locs cells slots ls rest lv F hl k => by
  cases v <;> first | cases hv; done | skip
  · exact lv_astoreN F.1 F.2.1 hd hl hn rfl k
  · exact lv_astore F.1 F.2.1 hd hl hn rfl k
  · exact lv_astore F.1 F.2.1 hd hl hn rfl k
theorem zs_astore_n {i : Fin 4} {j : Nat} (hn : j < nL) (hd : decode bytes pc = .ok (.astore_n i, 1)) (hj : (i : Nat) = j) : zSnd cl T G N O E own nm bytes nL pc (zSt1 zIsA (pc + 1) j) := zsndSt1 fun v hv p l e R s m args below meth c Q H locs cells slots ls rest lv F hl k => by
  cases v <;> first | cases hv; done | skip
  · exact lv_astore_nN F.1 F.2.1 hd hj hl hn rfl k
  · exact lv_astore_n F.1 F.2.1 hd hj hl hn rfl k
  · exact lv_astore_n F.1 F.2.1 hd hj hl hn rfl k
theorem zs_lstore {i : Nat} (hn : i + 1 < nL) (hd : decode bytes pc = .ok (.lstore i, 2)) : zSnd cl T G N O E own nm bytes nL pc (zSt2 zIsL (pc + 2) i) := zsndSt2 fun v hv p l e R s m args below meth c Q H locs cells slots ls rest lv F hl k => by
  cases v <;> first | cases hv; done | skip
  exact lv_lstore F.1 F.2.1 hd hl hn rfl k
theorem zs_lstore_n {i : Fin 4} {j : Nat} (hn : j + 1 < nL) (hd : decode bytes pc = .ok (.lstore_n i, 1)) (hj : (i : Nat) = j) : zSnd cl T G N O E own nm bytes nL pc (zSt2 zIsL (pc + 1) j) := zsndSt2 fun v hv p l e R s m args below meth c Q H locs cells slots ls rest lv F hl k => by
  cases v <;> first | cases hv; done | skip
  exact lv_lstore_n F.1 F.2.1 hd hj hl hn rfl k
theorem zs_dstore {i : Nat} (hn : i + 1 < nL) (hd : decode bytes pc = .ok (.dstore i, 2)) : zSnd cl T G N O E own nm bytes nL pc (zSt2 zIsD (pc + 2) i) := zsndSt2 fun v hv p l e R s m args below meth c Q H locs cells slots ls rest lv F hl k => by
  cases v <;> first | cases hv; done | skip
  exact lv_dstore F.1 F.2.1 hd hl hn rfl k
theorem zs_dstore_n {i : Fin 4} {j : Nat} (hn : j + 1 < nL) (hd : decode bytes pc = .ok (.dstore_n i, 1)) (hj : (i : Nat) = j) : zSnd cl T G N O E own nm bytes nL pc (zSt2 zIsD (pc + 1) j) := zsndSt2 fun v hv p l e R s m args below meth c Q H locs cells slots ls rest lv F hl k => by
  cases v <;> first | cases hv; done | skip
  exact lv_dstore_n F.1 F.2.1 hd hj hl hn rfl k
/-- iinc -/
abbrev zIinc (pc' i : Nat) (x : Int32) : zOp := fun L st h => match zget L i with
  | some (.int v) => some (pc', (i, .int (v + x)) :: zF1 i L, st, h)
  | _ => none
theorem zs_iinc {i : Nat} {n : Int} {x : Int32} (hn : i < nL) (hx : Int32.ofInt n = x) (hd : decode bytes pc = .ok (.iinc i n, 3)) : zSnd cl T G N O E own nm bytes nL pc (zIinc (pc + 3) i x) := by
  intro L st h pc1 L' st' h' hop
  simp only [zIinc] at hop
  split at hop
  · rename_i v hv
    cases hop
    refine ⟨⟨Nat.le_refl _, Nat.le_refl _⟩, ?_⟩
    intro p l e R s m args below meth c Q F _ _ n0 S0 H locs ls hl hW hS _ _ _ _ k
    have hm := zget_mem hv
    obtain ⟨j, hj⟩ := List.getElem?_of_mem (List.mem_map.mpr ⟨(i, Value.int v), hm, rfl⟩ : ((i, Value.int v) : Nat × Value) ∈ zLo E L)
    refine lv_iinc F.1 F.2.1 hd hl hj (by rw [hx]) hn rfl (fun ls' hl' => k H locs ls' ?_ hW hS)
    rw [zLo_filter] at hl'
    exact hl'
  · cases hop
end ZSND
