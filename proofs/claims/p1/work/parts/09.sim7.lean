/-! THE SIMULATION: what the small machine's run comes to, the machine comes to -/
def zOK (cl : List vw_C) (T : List FieldType) (G N : List Cond) (O : Nat → State → Heap → Prop) (E : zE) (yy : Nat → MethodName) (bb : Nat → ByteArray) (nl cc : Nat → Nat) (rt : Nat → Option FieldType) (hh : Nat → List (Nat × Nat × Nat × Nat)) (l : Launch) (μ pc : Nat) (i : zI) : Prop := match i with
  | .inl op => zSnd cl T G N O E (yy μ).cls (yy μ).name (bb μ) (nl μ) pc op
  | .inr (.inl r) => zRetOK r (rt μ) (bb μ) pc
  | .inr (.inr (.inl Ex)) => zThrSnd cl T G N O E (yy μ).cls (yy μ).name (bb μ) (nl μ) pc Ex (hh μ) l
  | .inr (.inr (.inr (μ', n, kd))) => zCallSnd cl T G N O E (yy μ).cls (yy μ).name (bb μ) (nl μ) pc (yy μ') (bb μ') (nl μ') (rt μ') (hh μ') n kd ∧ nl μ' ≤ 22 ∧ plainName (yy μ').cls = true ∧ ((kd ≠ 2 ∧ kd ≠ 3 ∧ kd ≠ 6) → ∃ q : vw_C, cl[cc μ']? = some q ∧ ((kd = 0 ∨ kd = 1) → q.1 = (yy μ').cls))
def zPre (cl : List vw_C) (T : List FieldType) (N : List Cond) (O : Nat → State → Heap → Prop) (E : zE) (h : zH) (vs : List Value) : Array Value → State → Prop :=
  va_Pc (vs.map (zV E)) (fun U => zK cl T E U ∧ (∀ w ∈ N, va_Nw w U) ∧ O (zb E) U U.heap ∧ va_X (zol E 0) (zLs E) (zxs E) U U.heap ∧ (∀ i, zol E i < zb E) ∧ zW cl E h U.heap)
def zQc (cl : List vw_C) (E : zE) (res : Option Value ⊕ String) (h' : zH) : Array Value → State → Outcome → State → Prop := fun _ st oc t => (∃ v, res = .inl v ∧ oc = .returned (v.map (zV E))) ∧ zW cl E h' t.heap ∧ va_F (zA E) st t
def zXc (cl : List vw_C) (E : zE) (res : Option Value ⊕ String) (h' : zH) : String → State → State → Prop := fun Ex st t => res = .inr Ex ∧ zW cl E h' t.heap ∧ va_F (zA E) st t
section ZSIM
variable {cl : List vw_C} {T : List FieldType} {G N : List Cond} {O : Nat → State → Heap → Prop} {E : zE} {yy : Nat → MethodName} {bb : Nat → ByteArray} {nl cc : Nat → Nat} {rt : Nat → Option FieldType} {hh : Nat → List (Nat × Nat × Nat × Nat)} {nh : Nat → Bool} {code : Nat → Nat → Option zI} {hn : Nat → Nat → String → Option (Nat × Nat)} {l : Launch}
/-- what the run from here owes -/
def zGoes (cl : List vw_C) (T : List FieldType) (G N : List Cond) (O : Nat → State → Heap → Prop) (E : zE) (yy : Nat → MethodName) (bb : Nat → ByteArray) (nl cc : Nat → Nat) (hh : Nat → List (Nat × Nat × Nat × Nat)) (nh : Nat → Bool) (code : Nat → Nat → Option zI) (hn : Nat → Nat → String → Option (Nat × Nat)) (l : Launch) (k : Nat) : Prop :=
  ∀ (d μ pc : Nat) (L : zLoc) (st : List Value) (h : zH) (res : Option Value ⊕ String) (h' : zH), zrun nl cc nh code hn k d μ pc L st h = some (res, h') →
    (h.2.2.1 ≤ h'.2.2.1 ∧ h.2.2.2.1 ≤ h'.2.2.2.1) ∧
    ∀ (p : Program) (e : Env) (R : Room) (s : State) (m : MethodId) (args : Array Value) (below : List Frame) (meth : Method) (c : Code) (Q : State → Prop), zF cl T G N O E (yy μ).cls (yy μ).name (bb μ) (nl μ) p s m args meth c → (hh μ ≠ [] → c.exceptionTable.toList = tableOf (hh μ)) → d + 1 ≤ R.frames → 41 * d + 40 ≤ R.locals →
    ∀ (n0 S0 : Nat) (H : Heap) (locs : List Loc) (ls : Array Slot), lv_has ls (nl μ) (zLo E L) → zW cl E h H → va_S (zA E) s.heap H locs → n0 ≤ h.2.2.1 → S0 ≤ h.2.2.2.1 → h'.2.2.1 - n0 ≤ R.cells → h'.2.2.2.1 - S0 ≤ R.slots →
    (∀ (v : Option Value), res = .inl v → ∀ (pc' r : Nat) (H' : Heap) (locs' : List Loc) (ls' : Array Slot), code μ pc' = some (.inr (.inl r)) → ((r = 0 ∧ v = none) ∨ (r ≠ 0 ∧ ∃ x, v = some x ∧ zRk r x = true)) → zW cl E h' H' → va_S (zA E) s.heap H' locs' →
      W p l e R s m args below meth c H' locs' (h'.2.2.1 - n0) (h'.2.2.2.1 - S0) Q (F0 m pc' ls' (v.toList.map (zV E)))) →
    (∀ (Ex : String), res = .inr Ex → ∀ (pc' : Nat) (st' : List Value) (h1 : zH) (H' : Heap) (locs' : List Loc) (ls' : Array Slot), code μ pc' = some (.inr (.inr (.inl Ex))) → h' = zdead h1 → 6 ≤ d → n0 ≤ h1.2.2.1 → S0 ≤ h1.2.2.2.1 → zW cl E h1 H' → va_S (zA E) s.heap H' locs' → ls'.size = nl μ → (st'.map fun v => v.category).sum ≤ 8 →
      W p l e R s m args below meth c H' locs' (h1.2.2.1 - n0) (h1.2.2.2.1 - S0) Q (F0 m pc' ls' (st'.map (zV E)))) →
    (∀ (Ex : String), res = .inr Ex → nh μ = true → ∀ (pc' : Nat) (H' : Heap) (locs' : List Loc) (ls' : Array Slot) (rest : List Value) (q : Nat) (ce : Cell), zW cl E h' H' → va_S (zA E) s.heap H' locs' → H'[q]? = some ce → ce.vm = .none → s.vm.findClass Ex = some ce.cls →
      vx_W p l e R s m args below meth c H' locs' (h'.2.2.1 - n0) (h'.2.2.2.1 - S0) Q (F0 m pc' ls' rest) q) →
    W p l e R s m args below meth c H locs (h.2.2.1 - n0) (h.2.2.2.1 - S0) Q (F0 m pc ls (st.map (zV E)))
theorem zlv_args (E : zE) : ∀ (i : Nat) (vs : List Value), lv_args i (vs.map (zV E)) = zLo E (lv_args i vs)
  | _, [] => rfl
  | i, v :: vs => by
    show (i, zV E v) :: lv_args (if (zV E v).category = 2 then i + 2 else i + 1) (vs.map (zV E)) = (i, zV E v) :: zLo E (lv_args (if v.category = 2 then i + 2 else i + 1) vs)
    rw [zV_cat, zlv_args E _ vs]
theorem zlg_len (E : zE) (vs : List Value) : (lg_sl (vs.map (zV E))).length = (lg_sl vs).length := by
  induction vs with
  | nil => rfl
  | cons v vs ih =>
    simp only [lg_sl, List.map_cons, List.flatMap_cons, List.length_append, zV_cat] at ih ⊢
    rw [ih]
    split <;> rfl
theorem zNw_same {w : Cond} (hw : zNok w = true) {u U : State} (hvm : u.vm = U.vm) (h : va_Nw w u) : va_Nw w U := by
  unfold zNok at hw
  split at hw
  · exact va_Nw.same rfl hvm h
  · exact va_Nw.same rfl hvm h
  · exact va_AO.moved (by rw [hvm]; exact Vm.Alike.refl _) h
  · cases hw
theorem zPre_blind (hNk : ∀ w ∈ N, zNok w = true) (hOa : ∀ (b : Nat) (u U : State) (H : Heap), u.WarmedH U.vm → O b u H → O b U H) (h : zH) (vs : List Value) : FrameBlind (zPre cl T N O E h vs) := by
  intro a U g mk ⟨e, h1, h2, h3, h4, h5, h6⟩
  have ha : U.vm.Alike (U.calling g mk a).vm := Vm.Alike.refl U.vm
  refine ⟨e, h1.moved ha, fun w hw => ?_, ?_, ?_, h5, h6⟩
  · exact zNw_same (u := U) (U := U.calling g mk a) (hNk w hw) rfl (h2 w hw)
  · exact hOa _ U (U.calling g mk a) _ (State.WarmedH.refl U) h3
  · exact va_X.moved (u := U) (U := U.calling g mk a) ha h4
/-- the frame of a body that has just begun -/
theorem zF_of {μ : Nat} {e : Env} {p : Program} {s : State} {m : MethodId} {args : Array Value} {below : List Frame} {meth : Method} {c : Code} {s₁ : State} {vs : List Value} {h : zH} {rm : Room} (B : BodyLoose p l (yy μ) (headSpec (zcw (yy μ) (bb μ) (nl μ) (rt μ) (hh μ) :: G) rm) (bb μ) (nl μ) (rt μ) e s m args below meth c s₁) (hml : c.maxLocals = nl μ) (hp : zPre cl T N O E h vs args s) :
    zF cl T G N O E (yy μ).cls (yy μ).name (bb μ) (nl μ) p s m args meth c := by
  obtain ⟨e0, h1, h2, h3, h4, h5, h6⟩ := hp
  have hts := atoms_spec (ws := zcw (yy μ) (bb μ) (nl μ) (rt μ) (hh μ) :: G) B.pre
  exact ⟨B.exec, B.bytes, hml, findClass_of_methodNamed B.named, fun w hw => hts w (List.mem_cons_of_mem _ hw), h2, h1, h3, h4, h5, Nat.le_trans (Nat.le_add_right _ _) h6.2.1, B.notSynchronized, fun h => (name_of_methodNamed B.named B.method).1.trans h⟩
theorem zbody {k d μ : Nat} {vs : List Value} {h : zH} {res : Option Value ⊕ String} {h' : zH} (hnh : ∀ μ, nh μ = true → hh μ = []) (hOK : ∀ μ pc i, code μ pc = some i → zOK cl T G N O E yy bb nl cc rt hh l μ pc i) (ih : zGoes cl T G N O E yy bb nl cc hh nh code hn l k)
    (hr : zrun nl cc nh code hn k d μ 0 (lv_args 0 vs) [] h = some (res, h')) (hlen : (lg_sl vs).length ≤ nl μ)
    {p : Program} {e : Env} {s : State} {m : MethodId} {args : Array Value} {below : List Frame} {meth : Method} {c : Code} {s₁ : State} (B : BodyLoose p l (yy μ) (headSpec (zcw (yy μ) (bb μ) (nl μ) (rt μ) (hh μ) :: G) (zrm d (h'.2.2.1 - h.2.2.1) (h'.2.2.2.1 - h.2.2.2.1))) (bb μ) (nl μ) (rt μ) e s m args below meth c s₁) (hml : c.maxLocals = nl μ) (htab : c.exceptionTable.toList = tableOf (hh μ)) (hp : zPre cl T N O E h vs args s) :
    W p l e (zrm d (h'.2.2.1 - h.2.2.1) (h'.2.2.2.1 - h.2.2.2.1)) s m args below meth c s.heap [] 0 0 (vx_MQ below (zQc cl E res h') (zXc cl E res h') args s (h'.2.2.1 - h.2.2.1) (h'.2.2.2.1 - h.2.2.2.1) (zA E)) (entryFrame m args (nl μ)) := by
  have F := zF_of B hml hp
  have hret := B.returns
  obtain ⟨hargs, -, -, -, -, -, hW⟩ := hp
  obtain ⟨⟨hc1, hc2⟩, hgo⟩ := ih d μ 0 _ _ h res h' hr
  rw [hargs, lg_entry_eq]
  have hl := lv_entry (vs.map (zV E)) (n := nl μ) (by rw [zlg_len]; exact hlen)
  generalize (lg_sl (vs.map (zV E)) ++ List.replicate (nl μ - (lg_sl (vs.map (zV E))).length) Slot.unset).toArray = ls at hl ⊢
  rw [zlv_args] at hl
  rw [← hargs]
  have hS : va_S (zA E) s.heap s.heap [] := va_S.rf
  refine W.cs (cells' := h.2.2.1 - h.2.2.1) (slots' := h.2.2.2.1 - h.2.2.2.1) (Nat.sub_self _).symm (Nat.sub_self _).symm ?_
  refine hgo p e (zrm d (h'.2.2.1 - h.2.2.1) (h'.2.2.2.1 - h.2.2.2.1)) s m args below meth c _ F (fun _ => htab) (Nat.le_refl _) (Nat.le_refl _) _ _ s.heap [] ls hl hW hS (Nat.le_refl _) (Nat.le_refl _) (Nat.le_refl _) (Nat.le_refl _) ?_ ?_ ?_
  · intro v hv pc' r H' locs' ls' hcode hk hW' hS'
    have hq : ∀ t : State, t.heap = H' → s.WarmedH t.vm → zQc cl E res h' args s (.returned (v.map (zV E))) t := fun t ht _ => ⟨⟨v, hv, rfl⟩, by rw [ht]; exact hW', hS'.F ht⟩
    have hok : zRetOK r (rt μ) (bb μ) pc' := hOK μ pc' _ hcode
    have hlocks := F.2.2.2.2.2.2.2.2.2.2.2.1
    refine vx_ret ?_
    rcases hk with ⟨rfl, rfl⟩ | ⟨hr0, x, rfl, hx⟩
    · rcases hok with ⟨-, h2, h3⟩ | ⟨h1, -⟩ | ⟨h1, -⟩ | ⟨h1, -⟩ | ⟨h1, -⟩ | ⟨h1, -⟩
      · rw [h2] at hret
        exact W.vret F.1 F.2.1 hret hq hS'.2.2 h3 hlocks
      all_goals exact absurd h1 (by decide)
    · rcases hok with ⟨h1, -⟩ | ⟨rfl, h2, h3⟩ | ⟨rfl, h2, h3⟩ | ⟨rfl, h2, h3⟩ | ⟨rfl, ⟨t, h2, h4⟩, h3⟩ | ⟨rfl, h2, h3⟩
      · exact absurd h1 hr0
      · rw [h2] at hret
        cases x <;> first | cases hx; done | exact W.iret F.1 F.2.1 hret hq hS'.2.2 h3 hlocks
      · rw [h2] at hret
        cases x <;> first | cases hx; done | exact W.lret F.1 F.2.1 hret hq hS'.2.2 h3 hlocks
      · rw [h2] at hret
        cases x <;> first | cases hx; done | exact W.dret F.1 F.2.1 hret hq hS'.2.2 h3 hlocks
      · rw [h2] at hret
        cases x with
        | null => exact W.aret F.1 F.2.1 hret h4 (Or.inl rfl) hq hS'.2.2 h3 hlocks
        | ref a => exact W.aret F.1 F.2.1 hret h4 (Or.inr ⟨_, rfl⟩) hq hS'.2.2 h3 hlocks
        | int => cases hx
        | long => cases hx
        | float => cases hx
        | double => cases hx
        | retAddr => cases hx
      · rw [h2] at hret
        cases x with
        | int x =>
          have h01 : x = 0 ∨ x = 1 := by simpa [zRk] using hx
          refine W.zret F.1 F.2.1 hret ?_ hq hS'.2.2 h3 hlocks
          rcases h01 with rfl | rfl <;> rfl
        | null => cases hx
        | ref => cases hx
        | long => cases hx
        | float => cases hx
        | double => cases hx
        | retAddr => cases hx
  · intro Ex hres pc' st' h1 H' locs' ls' hcode hdead hd6 hn1 hs1 hW1 hS' hsz hsum
    subst hdead
    have hthr : zThrSnd cl T G N O E (yy μ).cls (yy μ).name (bb μ) (nl μ) pc' Ex (hh μ) l := hOK μ pc' _ hcode
    have e1 : (zdead h1).2.2.1 = h1.2.2.1 + 1 := rfl
    have e2 : (zdead h1).2.2.2.1 = h1.2.2.2.1 + 6 := rfl
    refine hthr p e _ s m args below meth c H' locs' _ _ _ _ ls' (st'.map (zV E)) _ _ F htab hS' hsz ?_ ?_ ?_ ?_ ?_ ?_ ?_ ?_
    · rw [List.map_map]
      rw [show ((fun v => Value.category v) ∘ zV E) = fun v => Value.category v from funext fun v => zV_cat E v]
      exact hsum
    · show 7 ≤ d + 1
      omega
    · show 120 ≤ 41 * d + 40
      omega
    · show h1.2.2.1 - h.2.2.1 + 1 ≤ (zdead h1).2.2.1 - h.2.2.1
      rw [e1]; omega
    · show h1.2.2.2.1 - h.2.2.2.1 + 6 ≤ (zdead h1).2.2.2.1 - h.2.2.2.1
      rw [e2]; omega
    · rw [e1]; omega
    · rw [e2]; omega
    · intro t hvm hsz' hk
      refine ⟨hres, ⟨fun j hj => (hW1.1 j hj).kept (hk _ ?_), Nat.le_trans hW1.2.1 hsz', fun hv => by cases hv⟩, ⟨Nat.le_trans hS'.1 hsz', fun q hq1 hq2 => by rw [hk q (Nat.lt_of_lt_of_le hq1 hS'.1)]; exact hS'.2.1 q hq1 hq2⟩⟩
      have := hW1.2.1
      have hj' : j < h1.2.1 := hj
      omega
  · intro Ex hres hnm pc' H' locs' ls' rest q ce hW' hS' hce hcv hcl
    have ht0 : c.exceptionTable.toList = [] := by rw [htab, hnh μ hnm]; rfl
    refine vx_out (fun x hx => by rw [ht0] at hx; cases hx) F.2.2.2.2.2.2.2.2.2.2.2.1 hce hcv hcl (fun t ht _ => ⟨hres, by rw [ht]; exact hW', hS'.F ht⟩) hS'.2.2 (Nat.le_refl _) (Nat.le_refl _)
/-- the contract of a method whose run is known -/
theorem zmet {k d μ : Nat} {vs : List Value} {h : zH} {res : Option Value ⊕ String} {h' : zH} (hnh : ∀ μ, nh μ = true → hh μ = []) (hOK : ∀ μ pc i, code μ pc = some i → zOK cl T G N O E yy bb nl cc rt hh l μ pc i) (ih : zGoes cl T G N O E yy bb nl cc hh nh code hn l k) (hplain : plainName (yy μ).cls = true)
    (hr : zrun nl cc nh code hn k d μ 0 (lv_args 0 vs) [] h = some (res, h')) (hlen : (lg_sl vs).length ≤ nl μ) :
    vx_Met l (yy μ) (zcw (yy μ) (bb μ) (nl μ) (rt μ) (hh μ) :: G) (zrm d (h'.2.2.1 - h.2.2.1) (h'.2.2.2.1 - h.2.2.2.1)) (zPre cl T N O E h vs) (zQc cl E res h') (zXc cl E res h') (h'.2.2.1 - h.2.2.1) (h'.2.2.2.1 - h.2.2.2.1) (zA E) := by
  generalize hx : hh μ = x
  cases x with
  | nil =>
    refine vx_ofW (cc := bb μ) (maxL := nl μ) (ret := rt μ) hplain rfl ?_
    intro p e s m args below meth c s₁ B hml ht hp
    have B' : BodyLoose p l (yy μ) (headSpec (zcw (yy μ) (bb μ) (nl μ) (rt μ) (hh μ) :: G) (zrm d (h'.2.2.1 - h.2.2.1) (h'.2.2.2.1 - h.2.2.2.1))) (bb μ) (nl μ) (rt μ) e s m args below meth c s₁ := by rw [hx]; exact B
    refine zbody hnh hOK ih hr hlen B' hml ?_ hp
    rw [hx]
    exact List.eq_nil_iff_forall_not_mem.mpr fun a ha => ht a ha
  | cons a r =>
    refine vx_ofWH (cc := bb μ) (maxL := nl μ) (ret := rt μ) (hh := a :: r) hplain rfl ?_
    intro p e s m args below meth c s₁ B hml hp
    have B' : BodyLoose p l (yy μ) (headSpec (zcw (yy μ) (bb μ) (nl μ) (rt μ) (hh μ) :: G) (zrm d (h'.2.2.1 - h.2.2.1) (h'.2.2.2.1 - h.2.2.2.1))) (bb μ) (nl μ) (rt μ) e s m args below meth c s₁ := by rw [hx]; exact B
    refine zbody hnh hOK ih hr hlen B' hml ?_ hp
    rw [hx]
    exact vx_table (x := yy μ) B (atoms_spec (ws := Cond.codeWith (yy μ) (bb μ) (nl μ) (rt μ) (a :: r) :: G) B.pre _ List.mem_cons_self)
end ZSIM
