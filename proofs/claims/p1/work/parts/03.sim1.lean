/-! THE SMALL MACHINE: an interpreter over relative addresses (cell k of the run lies at the base + k), and the rows that tie each of its steps to the machine's.
The class table z_cl, the component types z_T, the words z_G and the nest links z_N of the claim come as variables; part 05 names them. -/
/-- base, old references, D, classes of the arrays by their kinds, the script's ints, their number -/
abbrev zE : Type := Nat × (Nat → Nat) × va_G × (Nat → ClassId) × (Nat → Int32) × Nat
abbrev zb (E : zE) : Nat := E.1
abbrev zol (E : zE) : Nat → Nat := E.2.1
abbrev zD (E : zE) : va_G := E.2.2.1
abbrev zcy (E : zE) : Nat → ClassId := E.2.2.2.1
abbrev zxs (E : zE) : Nat → Int32 := E.2.2.2.2.1
abbrev zLs (E : zE) : Nat := E.2.2.2.2.2
def zV (E : zE) (v : Value) : Value := match v with
  | .ref k => .ref (zb E + k)
  | .retAddr i => .ref (zol E i)
  | v => v
def zAr (E : zE) (a : (Nat → Int32) ⊕ (Nat → Int64) ⊕ (Nat → UInt32) ⊕ (Nat → UInt64) ⊕ (Nat → Option Nat)) : (Nat → Int32) ⊕ (Nat → Int64) ⊕ (Nat → UInt32) ⊕ (Nat → UInt64) ⊕ (Nat → Option Nat) := match a with
  | .inr (.inr (.inr (.inr f))) => .inr (.inr (.inr (.inr (fun j => (f j).map (fun k => zb E + k)))))
  | a => a
def zEn (E : zE) (e : va_E) : va_E := match e with
  | .inl (t, n, a) => .inl (zcy E t, n, zAr E a)
  | .inr (ci, fs) => .inr (ci, fs.map (zV E))
/-- cells by index, how many there are, cells made, slots made, whether the next cell's place is known -/
abbrev zH : Type := (Nat → va_E) × Nat × Nat × Nat × Bool
abbrev zLoc : Type := List (Nat × Value)
abbrev zOp : Type := zLoc → List Value → zH → Option (Nat × zLoc × List Value × zH)
def zLo (E : zE) (L : zLoc) : List (Nat × Value) := L.map (fun q => (q.1, zV E q.2))
def zW (cl : List vw_C) (E : zE) (h : zH) (H : Heap) : Prop :=
  (∀ k, k < h.2.1 → va_at (zD E) cl (zb E + k, zEn E (h.1 k)) H) ∧ zb E + h.2.1 ≤ H.size ∧ (h.2.2.2.2 = true → H.size = zb E + h.2.1)
def zA (E : zE) : Nat → Prop := fun q => zb E ≤ q
def zK (cl : List vw_C) (T : List FieldType) (E : zE) (U : State) : Prop :=
  (∀ (c : Nat) (q : vw_C), cl[c]? = some q → u_Kn U q.1 q.2.1 q.2.2 ((zD E).1 c) ((zD E).2 c)) ∧ ∀ (t : Nat) (ty : FieldType), T[t]? = some ty → ArrOfT U (zcy E t) ty ∧ va_RA U (zcy E t) ty
theorem zK.moved {cl : List vw_C} {T : List FieldType} {E : zE} {u U : State} (hvm : u.vm.Alike U.vm) (h : zK cl T E u) : zK cl T E U :=
  ⟨fun c q hq => u_Kn_moved hvm (h.1 c q hq), fun t ty ht => ⟨arrOfT_moved hvm (h.2 t ty ht).1, (h.2 t ty ht).2.moved hvm⟩⟩
theorem zK.one {cl : List vw_C} {T : List FieldType} {E : zE} {U : State} (h : zK cl T E U) {t : Nat} {ty : FieldType} (ht : T[t]? = some ty) : va_K (zD E) cl [(zcy E t, ty)] U := by
  refine ⟨h.1, fun k q hk => ?_⟩
  match k, hk with
  | 0, hk => cases hk; exact h.2 t ty ht
theorem zK.none {cl : List vw_C} {T : List FieldType} {E : zE} {U : State} (h : zK cl T E U) : va_K (zD E) cl [] U := ⟨h.1, fun k q hk => by simp at hk⟩
theorem zV_cat (E : zE) (v : Value) : (zV E v).category = v.category := by cases v <;> rfl
theorem zLo_filter (E : zE) (L : zLoc) (i : Nat) : (zLo E L).filter (fun q => !(q.1 == i) && !(q.1 + 1 == i && q.2.category == 2)) = zLo E (L.filter (fun q => !(q.1 == i) && !(q.1 + 1 == i && q.2.category == 2))) := by
  simp only [zLo, List.filter_map, Function.comp_def, zV_cat]
theorem zLo_filter2 (E : zE) (L : zLoc) (i : Nat) : (zLo E L).filter (fun q => !(q.1 == i) && (!(q.1 == i + 1) && !(q.1 + 1 == i && q.2.category == 2))) = zLo E (L.filter (fun q => !(q.1 == i) && (!(q.1 == i + 1) && !(q.1 + 1 == i && q.2.category == 2)))) := by
  simp only [zLo, List.filter_map, Function.comp_def, zV_cat]
/-- a local by its place -/
def zget (L : zLoc) (i : Nat) : Option Value := match L with
  | [] => none
  | q :: r => if q.1 = i then some q.2 else zget r i
theorem zget_mem {L : zLoc} {i : Nat} {v : Value} (h : zget L i = some v) : (i, v) ∈ L := by
  induction L with
  | nil => cases h
  | cons q r ih =>
    unfold zget at h
    split at h
    · rename_i hq
      cases h
      subst hq
      exact List.mem_cons_self
    · exact List.mem_cons_of_mem _ (ih h)
theorem zlk {E : zE} {ls : Array Slot} {nL : Nat} {L : zLoc} {i : Nat} {v : Value} (hl : lv_has ls nL (zLo E L)) (h : zget L i = some v) : ls[i]? = some (.val (zV E v)) :=
  hl.2.2 (i, zV E v) (List.mem_map.mpr ⟨(i, v), zget_mem h, rfl⟩)
theorem zW.kept {cl : List vw_C} {E : zE} {h : zH} {H H1 : Heap} (hW : zW cl E h H) (hs : H1.size = H.size) (hk : ∀ q : Nat, zb E ≤ q → H1[q]? = H[q]?) : zW cl E h H1 :=
  ⟨fun k hk0 => (hW.1 k hk0).kept (hk _ (Nat.le_add_right _ _)), by rw [hs]; exact hW.2.1, fun hv => by rw [hs]; exact hW.2.2 hv⟩
theorem zP1 {cl : List vw_C} {E : zE} {h : zH} {H : Heap} (hW : zW cl E h H) {k : Nat} (hk : k < h.2.1) : va_P (zD E) cl [(zb E + k, zEn E (h.1 k))] H := by
  intro j q hj
  match j, hj with
  | 0, hj => cases hj; exact hW.1 k hk
def zup (σ : Nat → va_E) (k : Nat) (e : va_E) : Nat → va_E := fun j => if j = k then e else σ j
theorem zW.put {cl : List vw_C} {E : zE} {h : zH} {H H1 : Heap} (hW : zW cl E h H) {k : Nat} {e : va_E} (he : va_at (zD E) cl (zb E + k, zEn E e) H1) (hs : H1.size = H.size) (oq : ∀ q : Nat, q ≠ zb E + k → H1[q]? = H[q]?) :
    zW cl E (zup h.1 k e, h.2) H1 := by
  refine ⟨fun j hj => ?_, by rw [hs]; exact hW.2.1, fun hv => by rw [hs]; exact hW.2.2 hv⟩
  by_cases hjk : j = k
  · subst hjk
    show va_at (zD E) cl (zb E + j, zEn E (zup h.1 j e j)) H1
    unfold zup
    rw [if_pos rfl]
    exact he
  · show va_at (zD E) cl (zb E + j, zEn E (zup h.1 k e j)) H1
    unfold zup
    rw [if_neg hjk]
    exact (hW.1 j hj).kept (oq _ (by intro q; apply hjk; exact Nat.add_left_cancel q))
theorem zW.push {cl : List vw_C} {E : zE} {h : zH} {H H1 : Heap} (hW : zW cl E h H) {e : va_E} {m s : Nat} (hlive : h.2.2.2.2 = true) (he : va_at (zD E) cl (H.size, zEn E e) H1) (hs : H1.size = H.size + 1) (oq : ∀ q : Nat, q < H.size → H1[q]? = H[q]?) :
    zW cl E (zup h.1 h.2.1 e, h.2.1 + 1, m, s, true) H1 := by
  have hz := hW.2.2 hlive
  refine ⟨fun j hj => ?_, by rw [hs, hz]; exact Nat.le_refl _, fun _ => by rw [hs, hz]; rfl⟩
  have hj' : j < h.2.1 + 1 := hj
  by_cases hjk : j = h.2.1
  · subst hjk
    show va_at (zD E) cl (zb E + h.2.1, zEn E (zup h.1 h.2.1 e h.2.1)) H1
    unfold zup
    rw [if_pos rfl, ← hz]
    exact he
  · show va_at (zD E) cl (zb E + j, zEn E (zup h.1 h.2.1 e j)) H1
    unfold zup
    rw [if_neg hjk]
    exact (hW.1 j (by omega)).kept (oq _ (by omega))
theorem zS.put {E : zE} {H0 H H1 : Heap} {locs : List Loc} {k i : Nat} (hS : va_S (zA E) H0 H locs) (hs : H1.size = H.size) (oq : ∀ q : Nat, q ≠ zb E + k → H1[q]? = H[q]?) : va_S (zA E) H0 H1 (locs ++ [⟨zb E + k, i⟩]) := by
  refine ⟨by rw [hs]; exact hS.1, fun q h1 h2 => ?_, fun l hl => ?_⟩
  · rw [oq q (fun e => h2 (by rw [e]; exact Nat.le_add_right _ _))]
    exact hS.2.1 q h1 h2
  · rcases List.mem_append.mp hl with h | h
    · exact hS.2.2 l h
    · rw [List.mem_singleton] at h
      subst h
      exact Nat.le_add_right _ _
theorem zS.push {E : zE} {H0 H H1 : Heap} {locs : List Loc} (hS : va_S (zA E) H0 H locs) (hs : H1.size = H.size + 1) (oq : ∀ q : Nat, q < H.size → H1[q]? = H[q]?) : va_S (zA E) H0 H1 locs :=
  ⟨by rw [hs]; exact Nat.le_succ_of_le hS.1, fun q h1 h2 => by rw [oq q (Nat.lt_of_lt_of_le h1 hS.1)]; exact hS.2.1 q h1 h2, hS.2.2⟩
/-- what a frame of a method stands on: machine, code, own class, words, nest links, classes, old things O, the script -/
def zF (cl : List vw_C) (T : List FieldType) (G N : List Cond) (O : Nat → State → Heap → Prop) (E : zE) (own nm : String) (bytes : ByteArray) (nL : Nat) (p : Program) (s : State) (m : MethodId) (args : Array Value) (meth : Method) (c : Code) : Prop :=
  p.tables.exec = Jvm.exec ∧ c.code = bytes ∧ c.maxLocals = nL ∧ s.vm.findClass own = some m.cls ∧ (∀ w ∈ G, w.before args s = true) ∧ (∀ w ∈ N, va_Nw w s) ∧ zK cl T E s ∧ O (zb E) s s.heap ∧
    va_X (zol E 0) (zLs E) (zxs E) s s.heap ∧ (∀ i, zol E i < zb E) ∧ zb E ≤ s.heap.size ∧ meth.locks = false ∧ (nm = "<init>" → meth.name = "<init>")
