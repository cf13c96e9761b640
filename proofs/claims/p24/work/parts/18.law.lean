/-! THE CLAIM OUT OF ONE WALK OF THE LAW'S BODY. Your part is whole_start (and what it stands on); all else here is the same for every law, but numbers. -/
def R_law : String := "CreasebookLaw"
def lw_P (b : Addr) (xs : List Int32) (args : Array Value) (s : State) : Prop := args = #[.ref b] ∧ s.IntsAt b xs ∧ xs.length ≤ 260 ∧ (Jvm.Cond.and given_1 narrow_1).before args s = true
/-- what a walk over the start with the record d0 says of its end, said of the start itself -/
theorem lw_closed {s t : State} {o : Outcome} {d0 : Drawn} {L : List Loc} {k n : Nat} (hd0 : s.drawn.sameBut d0 lw_cs) (hv : ∃ v, o = .returned v) (hW : (s.setDrawn d0).WarmedH t.vm) (hs : (s.setDrawn d0).sameButNew ({ t with vm := s.vm } : State) L k n) : State.butDraws s t lw_cs (fun t1 => Framed s o t1 L k n) := by
  have h2 : t.drawn = d0 := congrArg State.drawn hs.1
  refine ⟨⟨hv, hW, State.sameButNew.setDrawn hs s.drawn⟩, ?_, by decide⟩
  rw [h2]
  exact hd0
def lw_Q (_ : Array Value) (s : State) (o : Outcome) (t : State) : Prop := o = .returned (some (.int 1)) ∧ State.butDraws s t lw_cs (fun t1 => Framed s o t1 [] 600086 7301442)
def lw_Z (below : List Frame) (a : Array Value) (s : State) : State → Prop := fun t => ∃ o, t.status = .running ∧ Ended t below o ∧ lw_Q a s o t
/-- the law's own end, with 1 on the stack, nothing written that was there before, its room as the claim has it; d0: the record of draws at this point (at the entry s.drawn: begin with 'refine W.base ?_' and 'have hd0 := Drawn.sameBut.refl s.drawn lw_cs') -/
theorem lw_ret {p : Program} {l : Launch} {e : Env} {s : State} {m : MethodId} {below : List Frame} {meth : Method} {c : Code} {b : Nat} {d0 : Drawn} (hd0 : s.drawn.sameBut d0 lw_cs) (hx : p.tables.exec = Jvm.exec) (hb : c.code = code) (hr : meth.sig.returnType = ret) (hlocks : meth.locks = false) {pc : Nat} {H : Heap} {ls : Array Slot} (hdg : decode code pc = .ok (.ireturn, 1)) : W p l e room_1 (s.setDrawn d0) m #[Value.ref b] below meth c H [] 600086 7301442 (lw_Z below #[Value.ref b] s) (F0 m pc ls [.int 1]) := by
  intro T hT X
  obtain ⟨fs, hret, hrun, hended, hW, hframe⟩ := X.leave (v := some (.int 1)) (hlocks := hlocks) (fun h => by rw [hr] at h; cases h)
  have hmeth' : T.vm.method? m = some meth := X.method'
  refine ⟨T.setFrames fs, ?_, .returned (some (.int 1)), hrun, hended, rfl, lw_closed hd0 ⟨_, rfl⟩ hW hframe⟩
  jvm_step X.here [X.here.top, hx, hb, hdg, hmeth', hr, ret, narrow_b1]
  (try refine ⟨rfl, ?_⟩); (try refine ⟨rfl, ?_⟩)
  first | (intro acts; rw [hret _ acts rfl rfl rfl]) | rw [hret _ _ rfl rfl rfl]
  exact Steps.refl _
/-- what holds at the law's entry: the machine, the code, the tables' words (any of lw_tbl by 'hts w (by decide +kernel)'), the script of L ints xs at the cell b, what the Statement gives of the start (any of its parts by flat_of_before) -/
def lw_At (p : Program) (s : State) (m : MethodId) (meth : Method) (c : Code) (b L : Nat) (xs : Nat → Int32) : Prop :=
  p.tables.exec = Jvm.exec ∧ c.code = code ∧ meth.sig.returnType = ret ∧ c.maxLocals = 22 ∧ s.vm.findClass R_law = some m.cls ∧ (∀ w ∈ lw_tbl, w.before #[Value.ref b] s = true) ∧ va_X b L xs s s.heap ∧ b < s.heap.size ∧ meth.locks = false ∧ (Jvm.Cond.and given_1 narrow_1).before #[Value.ref b] s = true
/-! THE START, out of one run of the small machine -/
def zH0 : zH := ((fun _ => .inr (0, [])), 0, 0, 0, true)
theorem zNk_of {w : Cond} (hw : zNok w = true) {A : Array Value} {U : State} (h : w.before A U = true) : va_Nw w U := by
  unfold zNok at hw
  split at hw
  · exact va_Nw.of rfl h
  · exact va_Nw.of rfl h
  · exact va_AO.of h
  · cases hw
theorem zlaw {p : Program} {e : Env} {s : State} {m : MethodId} {below : List Frame} {meth : Method} {c : Code} (l : Launch) (hflags : l.flags = flags0) {b L : Nat} {xs : Nat → Int32} (C0 : lw_At p s m meth c b L xs) {k : Nat} {h1 : zH}
    (hr : zrun z_nl z_cc z_nh (z_code xs L) (fun _ _ _ => none) k 9 90 0 [(0, .retAddr 0)] [] zH0 = some (.inl (some (.int 1)), h1)) (hc : h1.2.2.1 ≤ 600086) (hs : h1.2.2.2.1 ≤ 7301442) :
    W p l e room_1 s m #[Value.ref b] below meth c s.heap [] 0 0 (lw_Z below #[Value.ref b] s) (entryFrame m ([Value.ref b] : List Value).toArray 22) := by
  obtain ⟨hx, hb, hret, hml, hown, hts, hX, hbl, hlocks, hgv⟩ := C0
  obtain ⟨D, cy, hK⟩ := zK_of hts
  have hfl := flat_of_before _ hgv
  have ho : ∀ i : Nat, (fun _ => b : Nat → Nat) i < s.heap.size := fun _ => hbl
  generalize hE : ((s.heap.size, (fun _ => b), D, cy, xs, L) : zE) = E
  have F : zF z_cl z_T z_G z_N (fun _ _ _ => True) E (z_yy 90).cls (z_yy 90).name (z_bb 90) (z_nl 90) p s m #[Value.ref b] meth c := by
    subst hE
    exact ⟨hx, hb, hml, hown, fun w hw => hts w (List.mem_filter.mp hw).1, fun w hw => zNk_of (List.mem_filter.mp hw).2 (hts w (List.mem_filter.mp hw).1), hK _ _ _ _, trivial, hX, ho, Nat.le_refl _, hlocks, fun h => absurd h (by decide)⟩
  have hxs : zxs E = xs := by subst hE; rfl
  have hLs : zLs E = L := by subst hE; rfl
  have hzb : zb E = s.heap.size := by subst hE; rfl
  have hol : zol E 0 = b := by subst hE; rfl
  clear hE
  have hok := z_ok (fun _ _ _ => True) E l
  rw [hxs, hLs] at hok
  obtain ⟨-, hgo⟩ := zsim z_nok (fun _ _ _ _ _ _ => trivial) (fun _ _ _ _ _ _ => trivial) z_nhh hok (fun _ _ _ _ _ h => by cases h) k 9 90 0 _ _ zH0 _ h1 hr
  rw [lg_entry_eq]
  have hl0 := lv_entry ([Value.ref b] : List Value) (n := 22) (Nat.le_of_ble_eq_true rfl)
  generalize (lg_sl ([Value.ref b] : List Value) ++ List.replicate (22 - (lg_sl ([Value.ref b] : List Value)).length) Slot.unset).toArray = ls at hl0 ⊢
  have hz0 : zLo E [(0, .retAddr 0)] = lv_args 0 [Value.ref b] := by
    show [(0, Value.ref (zol E 0))] = [(0, Value.ref b)]
    rw [hol]
  have hW0 : zW z_cl E zH0 s.heap := ⟨fun j hj => absurd hj (Nat.not_lt_zero _), Nat.le_of_eq hzb, fun _ => hzb.symm⟩
  refine hgo p e room_1 s m #[Value.ref b] below meth c (lw_Z below #[Value.ref b] s) F (fun h => absurd rfl h) (by decide) (by decide) 0 0 s.heap [] ls (by rw [hz0]; exact hl0) hW0 va_S.rf (Nat.le_refl _) (Nat.le_refl _) hc hs ?_ ?_ ?_
  · intro v hv pc1 r H1 locs1 ls1 hcode hk hW1 hS1
    cases hv
    have hd : zRetOK r (z_rt 90) (z_bb 90) pc1 := hok 90 pc1 _ hcode
    have hdg : decode code pc1 = .ok (.ireturn, 1) := by
      rcases hd with ⟨h1, -, -⟩ | ⟨-, h2, -⟩ | ⟨-, h2, -⟩ | ⟨-, h2, -⟩ | ⟨-, ⟨t, h2, h3⟩, -⟩ | ⟨-, -, h3⟩
      · rcases hk with ⟨-, h⟩ | ⟨h, -⟩
        · cases h
        · exact absurd h1 h
      · cases h2
      · cases h2
      · cases h2
      · cases h2; rcases h3 with ⟨n, h⟩ | ⟨n, h⟩ <;> cases h
      · exact h3
    refine va_forget (fun q hq => by rw [← hzb]; exact hS1.2.2 q hq) ?_
    refine W.widen (k := 600086) (n := 7301442) hc hs ?_
    exact lw_ret (d0 := s.drawn) (Drawn.sameBut.refl s.drawn lw_cs) hx hb hret hlocks hdg
  · intro Ex hres; cases hres
  · intro Ex hres; cases hres
