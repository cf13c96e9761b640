/-! SOUND STEPS on the heap: fields, arrays, what is made -/
section ZHEAP
variable {cl : List vw_C} {T : List FieldType} {G N : List Cond} {O : Nat → State → Heap → Prop} {E : zE} {own nm : String} {bytes : ByteArray} {nL pc : Nat}
/-- a step that reads the heap -/
abbrev zS2 (f : List Value → zH → Option (Nat × List Value)) : zOp := fun L st h => match f st h with
  | some (pc', st') => some (pc', L, st', h)
  | none => none
theorem zsnd2 {f : List Value → zH → Option (Nat × List Value)} (hf : ∀ (st : List Value) (h : zH) (pc' : Nat) (st' : List Value), f st h = some (pc', st') → ∀ (p : Program) (l : Launch) (e : Env) (R : Room) (s : State) (m : MethodId) (args : Array Value) (below : List Frame) (meth : Method) (c : Code) (Q : State → Prop) (H : Heap) (locs : List Loc) (cells slots : Nat) (ls : Array Slot), zF cl T G N O E own nm bytes nL p s m args meth c → 1 ≤ R.frames → 40 ≤ R.locals → ls.size = nL →
      zW cl E h H → va_S (zA E) s.heap H locs → W p l e R s m args below meth c H locs cells slots Q (F0 m pc' ls (st'.map (zV E))) → W p l e R s m args below meth c H locs cells slots Q (F0 m pc ls (st.map (zV E)))) : zSnd cl T G N O E own nm bytes nL pc (zS2 f) := by
  intro L st h pc' L' st' h' hop
  simp only [zS2] at hop
  split at hop
  · rename_i a b heq
    cases hop
    refine ⟨⟨Nat.le_refl _, Nat.le_refl _⟩, ?_⟩
    intro p l e R s m args below meth c Q F hr1 hr2 n0 S0 H locs ls hl hW hS _ _ _ _ k
    exact hf _ _ _ _ heq p l e R s m args below meth c Q H locs _ _ ls F hr1 hr2 hl.1 hW hS (k H locs ls hl hW hS)
  · cases hop
/-- a field is read -/
abbrev zGet (ci j pc' : Nat) : List Value → zH → Option (Nat × List Value) := fun st h => match st with
  | .ref k :: r => if k < h.2.1 then match h.1 k with
    | .inr (c, fs) => if c = ci then match fs[j]? with
      | some v => some (pc', v :: r)
      | none => none
      else none
    | .inl _ => none
    else none
  | _ => none
theorem zGet_some {ci j pc' : Nat} {st : List Value} {h : zH} {pc1 : Nat} {st1 : List Value} (hg : zGet ci j pc' st h = some (pc1, st1)) : ∃ (k : Nat) (r : List Value) (fs : List Value) (v : Value), st = .ref k :: r ∧ k < h.2.1 ∧ h.1 k = .inr (ci, fs) ∧ fs[j]? = some v ∧ pc1 = pc' ∧ st1 = v :: r := by
  unfold zGet at hg
  split at hg
  · split at hg
    · rename_i hk
      split at hg
      · rename_i c fs hh
        split at hg
        · rename_i hc
          split at hg
          · rename_i v hv
            cases hg
            subst hc
            exact ⟨_, _, fs, v, rfl, hk, hh, hv, rfl, rfl⟩
          · cases hg
        · cases hg
      · cases hg
    · cases hg
  · cases hg
theorem zs_get {ci j i : Nat} {C : String} {Tc : u_T} {Nc : Nat} (hc : cl[ci]? = some (C, Tc, Nc)) (hin : ∀ w ∈ u_ws C Tc Nc, w ∈ G) (hj : j < Nc) (hlink : Cond.fieldLink own i (Tc j).1 (Tc j).2.1 (Tc j).2.2.1 ∈ G) (hd : decode bytes pc = .ok (.getfield i, 3)) : zSnd cl T G N O E own nm bytes nL pc (zS2 (zGet ci j (pc + 3))) :=
  zsnd2 fun st h pc1 st1 hg p l e R s m args below meth c Q H locs cells slots ls F _ _ _ hW hS k => by
    obtain ⟨a, r, fs, v, rfl, hk, hh, hv, rfl, rfl⟩ := zGet_some hg
    have hP := zP1 hW hk
    rw [hh] at hP
    exact va_get F.1 F.2.1 F.2.2.2.2.1 hin F.2.2.2.1 F.2.2.2.2.2.2.1.none hP 0 rfl hc j hj (F.2.2.2.2.1 _ hlink) (fun _ h => h) (by rw [List.getElem?_map, hv]; rfl) hd k
theorem zs_getN {ci j i : Nat} {C host : String} {Tc : u_T} {Nc : Nat} (hc : cl[ci]? = some (C, Tc, Nc)) (hin : ∀ w ∈ u_ws C Tc Nc, w ∈ G) (hj : j < Nc) (hlink : Cond.fieldLinkNest own i (Tc j).1 (Tc j).2.1 (Tc j).2.2.1 host ∈ N) (hd : decode bytes pc = .ok (.getfield i, 3)) : zSnd cl T G N O E own nm bytes nL pc (zS2 (zGet ci j (pc + 3))) :=
  zsnd2 fun st h pc1 st1 hg p l e R s m args below meth c Q H locs cells slots ls F _ _ _ hW hS k => by
    obtain ⟨a, r, fs, v, rfl, hk, hh, hv, rfl, rfl⟩ := zGet_some hg
    have hP := zP1 hW hk
    rw [hh] at hP
    exact va_getN F.1 F.2.1 F.2.2.2.2.1 hin F.2.2.2.1 F.2.2.2.2.2.2.1.none hP 0 rfl hc j hj (va_Nw.use rfl (F.2.2.2.2.2.1 _ hlink)) (fun _ h => h) (by rw [List.getElem?_map, hv]; rfl) hd k
/-- a field is written -/
abbrev zPut (f : Value → Bool) (ci j pc' : Nat) : zOp := fun L st h => match st with
  | v :: .ref k :: r => if f v = true ∧ k < h.2.1 then match h.1 k with
    | .inr (c, fs) => if c = ci ∧ j < fs.length then some (pc', L, r, (zup h.1 k (.inr (ci, fs.set j v)), h.2)) else none
    | .inl _ => none
    else none
  | _ => none
theorem zPut_some {f : Value → Bool} {ci j pc' : Nat} {L : zLoc} {st : List Value} {h : zH} {x : Nat × zLoc × List Value × zH} (hg : zPut f ci j pc' L st h = some x) : ∃ (v : Value) (k : Nat) (r : List Value) (fs : List Value), st = v :: .ref k :: r ∧ f v = true ∧ k < h.2.1 ∧ h.1 k = .inr (ci, fs) ∧ j < fs.length ∧ x = (pc', L, r, (zup h.1 k (.inr (ci, fs.set j v)), h.2)) := by
  unfold zPut at hg
  split at hg
  · split at hg
    · rename_i hk
      split at hg
      · rename_i c fs hh
        split at hg
        · rename_i hc
          cases hg
          obtain ⟨rfl, hl⟩ := hc
          exact ⟨_, _, _, fs, rfl, hk.1, hk.2, hh, hl, rfl⟩
        · cases hg
      · cases hg
    · cases hg
  · cases hg
/-- what a put owes to its field -/
theorem zput_at {p : Program} {l : Launch} {e : Env} {R : Room} {s : State} {m : MethodId} {args : Array Value} {meth : Method} {c : Code} {H : Heap} {ci j k : Nat} {C : String} {Tc : u_T} {Nc : Nat} {fs : List Value} {h : zH} {ty0 : Nat → FieldType} (F : zF cl T G N O E own nm bytes nL p s m args meth c) (hc : cl[ci]? = some (C, Tc, Nc)) (hin : ∀ w ∈ u_ws C Tc Nc, w ∈ G) (hj : j < Nc)
    (hty : ∀ k, k < Nc → parseFieldDescriptor (Tc k).2.2.1 = some (ty0 k)) (hnm : ∀ a, a < Nc → ∀ b, b < Nc → a ≠ b → (Tc a).2.1 ≠ (Tc b).2.1) (hW : zW cl E h H) (hk : k < h.2.1) (hh : h.1 k = .inr (ci, fs)) (hl : j < fs.length) {ty : FieldType} (hd : parseFieldDescriptor (Tc j).2.2.1 = some ty) {v : Value} (hn : narrow ty (zV E v) = zV E v) (hfit : fits ty (zV E v) = true) :
    ∃ (cf : Nat) (kf : Class) (fi : Nat) (f : Field) (cell : Cell) (kC : Class), s.fieldFound? (Tc j).1 (Tc j).2.1 (Tc j).2.2.1 = some (cf, kf, fi, f) ∧ f.isStatic = false ∧ H[zb E + k]? = some cell ∧ cell.vm = .none ∧ cell.cls = (zD E).1 ci ∧ s.vm.findClass C = some ((zD E).1 ci) ∧ s.vm.classes[(zD E).1 ci]? = some kC ∧ kC.kind = .ordinary ∧ f.slot < cell.slots.size ∧
      ∀ H1 : Heap, H1[zb E + k]? = some (cell.setSlot f.slot (zV E v)) → H1.size = H.size → (∀ q : Nat, q ≠ zb E + k → H1[q]? = H[q]?) → zW cl E (zup h.1 k (.inr (ci, fs.set j v)), h.2) H1 := by
  have hK := F.2.2.2.2.2.2.1.none
  have hap := va_apart (own := own) F.2.2.2.2.1 hin ty0 hty hnm hK hc
  have hP := hW.1 k hk
  rw [hh] at hP
  obtain ⟨r, h1, cell, q1, q2, q3, q4⟩ := hP
  have hr : r = (C, Tc, Nc) := Option.some.inj (h1.symm.trans hc)
  subst hr
  obtain ⟨hS, hfc, kC, hkC, hkind⟩ := hK.1 ci _ hc
  obtain ⟨cf, kf, fi, f, hi, hsl⟩ := hS j hj
  have hst := (u_facts hfc hkC (u_lays F.2.2.2.2.1 hin hj) hi).1
  refine ⟨cf, kf, fi, f, cell, kC, hi, hst, q1, q3, q2, hfc, hkC, hkind, by rw [hsl]; exact k2_hasslot (q4 j hj), fun H1 e1 e2 e3 => ?_⟩
  rw [hsl] at e1
  refine hW.put ?_ e2 e3
  refine ⟨_, hc, ?_⟩
  have hz : zEn E (.inr (ci, fs.set j v)) = .inr (ci, (fs.map (zV E)).set j (zV E v)) := by
    show Sum.inr (ci, (fs.set j v).map (zV E)) = _
    rw [List.map_set]
  show t_OB (zb E + k) ((zD E).1 ci) Nc ((zD E).2 ci) H1 (vp_V ((fs.set j v).map (zV E)))
  rw [List.map_set]
  exact t_OB.to (V := updV (vp_V (fs.map (zV E))) j (zV E v)) ⟨_, e1, q2, q3, t_set q4 hap hj (zV E v)⟩ (fun i _ => vp_updV_set (by rw [List.length_map]; exact hl) (zV E v) i)
theorem zs_put {f : Value → Bool} {ci j i : Nat} {C : String} {Tc : u_T} {Nc : Nat} {ty0 : Nat → FieldType} {ty : FieldType} (hc : cl[ci]? = some (C, Tc, Nc)) (hin : ∀ w ∈ u_ws C Tc Nc, w ∈ G) (hj : j < Nc) (hty : ∀ k, k < Nc → parseFieldDescriptor (Tc k).2.2.1 = some (ty0 k)) (hnm : ∀ a, a < Nc → ∀ b, b < Nc → a ≠ b → (Tc a).2.1 ≠ (Tc b).2.1)
    (hlink : Cond.fieldLink own i (Tc j).1 (Tc j).2.1 (Tc j).2.2.1 ∈ G) (hfin : (Tc j).2.2.2 = false) (hpd : parseFieldDescriptor (Tc j).2.2.1 = some ty) (hf : ∀ v, f v = true → narrow ty (zV E v) = zV E v ∧ fits ty (zV E v) = true) (hd : decode bytes pc = .ok (.putfield i, 3)) : zSnd cl T G N O E own nm bytes nL pc (zPut f ci j (pc + 3)) := by
  intro L st h pc' L' st' h' hop
  obtain ⟨v, k, r, fs, rfl, hfv, hk, hh, hl, hx⟩ := zPut_some hop
  cases hx
  refine ⟨⟨Nat.le_refl _, Nat.le_refl _⟩, ?_⟩
  intro p l e R s m args below meth c Q F _ _ n0 S0 H locs ls hll hW hS _ _ _ _ kk
  obtain ⟨hn, hfit⟩ := hf v hfv
  obtain ⟨cf, kf, fi, fd, cell, kC, hi, hst, q1, q3, q2, hfc, hkC, hkind, hslot, hput⟩ := zput_at (l := l) (e := e) (R := R) F hc hin hj hty hnm hW hk hh hl hpd hn hfit
  have hlay := F.2.2.2.2.1 _ (hin _ (u_in_lay hj))
  unfold u_lay at hlay
  rw [if_neg (by rw [hfin]; decide)] at hlay
  have h6 := u_store hfc hkC hkind hlay hi hpd hn hfit
  refine W.putK F.1 F.2.1 (f := fd) ⟨F.2.2.2.1, F.2.2.2.2.1 _ hlink, ⟨_, _, _, hi⟩, hst⟩ (by rw [q2]; exact h6) q1 q3 hslot rfl rfl hd fun H' e1 e2 e3 => ?_
  exact kk H' _ ls hll (hput H' e1 e2 e3) (zS.put hS e2 e3)
theorem zs_putN {f : Value → Bool} {ci j i : Nat} {C host : String} {Tc : u_T} {Nc : Nat} {ty0 : Nat → FieldType} {ty : FieldType} (hc : cl[ci]? = some (C, Tc, Nc)) (hin : ∀ w ∈ u_ws C Tc Nc, w ∈ G) (hj : j < Nc) (hty : ∀ k, k < Nc → parseFieldDescriptor (Tc k).2.2.1 = some (ty0 k)) (hnm : ∀ a, a < Nc → ∀ b, b < Nc → a ≠ b → (Tc a).2.1 ≠ (Tc b).2.1)
    (hlink : Cond.fieldLinkNest own i (Tc j).1 (Tc j).2.1 (Tc j).2.2.1 host ∈ N) (hfin : (Tc j).2.2.2 = false) (hpd : parseFieldDescriptor (Tc j).2.2.1 = some ty) (hf : ∀ v, f v = true → narrow ty (zV E v) = zV E v ∧ fits ty (zV E v) = true) (hd : decode bytes pc = .ok (.putfield i, 3)) : zSnd cl T G N O E own nm bytes nL pc (zPut f ci j (pc + 3)) := by
  intro L st h pc' L' st' h' hop
  obtain ⟨v, k, r, fs, rfl, hfv, hk, hh, hl, hx⟩ := zPut_some hop
  cases hx
  refine ⟨⟨Nat.le_refl _, Nat.le_refl _⟩, ?_⟩
  intro p l e R s m args below meth c Q F _ _ n0 S0 H locs ls hll hW hS _ _ _ _ kk
  obtain ⟨hn, hfit⟩ := hf v hfv
  obtain ⟨cf, kf, fi, fd, cell, kC, hi, hst, q1, q3, q2, hfc, hkC, hkind, hslot, hput⟩ := zput_at (l := l) (e := e) (R := R) F hc hin hj hty hnm hW hk hh hl hpd hn hfit
  have hlay := F.2.2.2.2.1 _ (hin _ (u_in_lay hj))
  unfold u_lay at hlay
  rw [if_neg (by rw [hfin]; decide)] at hlay
  have h6 := u_store hfc hkC hkind hlay hi hpd hn hfit
  refine va_WputK F.1 F.2.1 (f := fd) F.2.2.2.1 (va_Nw.use rfl (F.2.2.2.2.2.1 _ hlink)) hi hst (by rw [q2]; exact h6) q1 q3 hslot rfl rfl hd fun H' e1 e2 e3 => ?_
  exact kk H' _ ls hll (hput H' e1 e2 e3) (zS.put hS e2 e3)
theorem zs_putF {f : Value → Bool} {ci j i : Nat} {C : String} {Tc : u_T} {Nc : Nat} {ty0 : Nat → FieldType} {ty : FieldType} (hc : cl[ci]? = some (C, Tc, Nc)) (hin : ∀ w ∈ u_ws C Tc Nc, w ∈ G) (hj : j < Nc) (hty : ∀ k, k < Nc → parseFieldDescriptor (Tc k).2.2.1 = some (ty0 k)) (hnm : ∀ a, a < Nc → ∀ b, b < Nc → a ≠ b → (Tc a).2.1 ≠ (Tc b).2.1)
    (hlink : Cond.fieldLink own i (Tc j).1 (Tc j).2.1 (Tc j).2.2.1 ∈ G) (hfin : (Tc j).2.2.2 = true) (hini : nm = "<init>") (hdecl : (Tc j).1 = own) (hpd : parseFieldDescriptor (Tc j).2.2.1 = some ty) (hf : ∀ v, f v = true → narrow ty (zV E v) = zV E v ∧ fits ty (zV E v) = true) (hd : decode bytes pc = .ok (.putfield i, 3)) : zSnd cl T G N O E own nm bytes nL pc (zPut f ci j (pc + 3)) := by
  intro L st h pc' L' st' h' hop
  obtain ⟨v, k, r, fs, rfl, hfv, hk, hh, hl, hx⟩ := zPut_some hop
  cases hx
  refine ⟨⟨Nat.le_refl _, Nat.le_refl _⟩, ?_⟩
  intro p l e R s m args below meth c Q F _ _ n0 S0 H locs ls hll hW hS _ _ _ _ kk
  obtain ⟨hn, hfit⟩ := hf v hfv
  obtain ⟨cf, kf, fi, fd, cell, kC, hi, hst, q1, q3, q2, hfc, hkC, hkind, hslot, hput⟩ := zput_at (l := l) (e := e) (R := R) F hc hin hj hty hnm hW hk hh hl hpd hn hfit
  have hlay := F.2.2.2.2.1 _ (hin _ (u_in_lay hj))
  unfold u_lay at hlay
  rw [if_pos hfin] at hlay
  have hcf : m.cls = cf := by
    obtain ⟨_, _, c', _, _, _, -, -, hf', -, -, -, hown2, -⟩ := Cond.laysFinal_spec hlay
    have e1 : c' = cf := by have := hi.symm.trans hf'; simp at this; exact this.1.symm
    rw [hdecl] at hown2
    rw [← e1]; exact Option.some.inj (F.2.2.2.1.symm.trans hown2)
  have h6 := u_fits hfc hkC hkind (Or.inr hlay) hi hpd hn hfit
  have hmn : meth.name = "<init>" := F.2.2.2.2.2.2.2.2.2.2.2.2 hini
  refine W.putFinK F.1 F.2.1 F.2.2.2.1 (F.2.2.2.2.1 _ hlink) hi hst hcf hmn (by rw [q2]; exact h6) q1 q3 hslot rfl rfl hd fun H' e1 e2 e3 => ?_
  exact kk H' _ ls hll (hput H' e1 e2 e3) (zS.put hS e2 e3)
theorem zfI (v : Value) (h : zIsI v = true) : narrow .int (zV E v) = zV E v ∧ fits .int (zV E v) = true := by
  cases v <;> first | cases h; done | exact ⟨rfl, rfl⟩
theorem zfL (v : Value) (h : zIsL v = true) : narrow .long (zV E v) = zV E v ∧ fits .long (zV E v) = true := by
  cases v <;> first | cases h; done | exact ⟨rfl, rfl⟩
theorem zfO (n : String) (v : Value) (h : zIsA v = true) : narrow (.object n) (zV E v) = zV E v ∧ fits (.object n) (zV E v) = true := by
  cases v <;> first | cases h; done | exact ⟨rfl, rfl⟩
theorem zfR (t : FieldType) (v : Value) (h : zIsA v = true) : narrow (.array t) (zV E v) = zV E v ∧ fits (.array t) (zV E v) = true := by
  cases v <;> first | cases h; done | exact ⟨rfl, rfl⟩
end ZHEAP
