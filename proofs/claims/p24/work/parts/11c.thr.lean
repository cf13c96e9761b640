/-! THROWS AND HANDLERS: what a throw with a text owes, what a handler that stores its exception owes; the old things they stand on -/
def zO (S : List (String × Nat × String)) (CA NC : List (String × String)) : Nat → State → Heap → Prop := fun b U H =>
  vx_Zq Bundle.tN "UNASSIGNED_STACK" Bundle.steD (fun q => b ≤ q) U H ∧ vx_Zq Bundle.tN "SUPPRESSED_SENTINEL" Bundle.listD (fun q => b ≤ q) U H ∧ (∀ q ∈ S, ∃ sa : Nat, vk_R q.1 q.2.1 q.2.2 sa U) ∧ (∀ q ∈ CA, va_Nw (.castable q.1 q.2) U) ∧ (∀ q ∈ NC, va_Nc q.1 q.2 U)
theorem zO_warm {S : List (String × Nat × String)} {CA NC : List (String × String)} (b : Nat) (u U : State) (H : Heap) (hW : u.WarmedH U.vm) (h : zO S CA NC b u H) : zO S CA NC b U H :=
  ⟨vx_Zq.moved hW.alike h.1, vx_Zq.moved hW.alike h.2.1, fun q hq => (h.2.2.1 q hq).elim fun sa hs => ⟨sa, vk_R.warm hW hs⟩, fun q hq => va_Nw.warmC hW (h.2.2.2.1 q hq), fun q hq => va_Nc.moved hW.alike (h.2.2.2.2 q hq)⟩
theorem zO_kept {S : List (String × Nat × String)} {CA NC : List (String × String)} (b : Nat) (U : State) (H H1 : Heap) (hq : ∀ q : Nat, q < b → q < H.size → H1[q]? = H[q]?) (h : zO S CA NC b U H) : zO S CA NC b U H1 :=
  ⟨vx_Zq.kept h.1 fun a ha hb => hq a (Nat.not_le.mp hb) ha, vx_Zq.kept h.2.1 fun a ha hb => hq a (Nat.not_le.mp hb) ha, h.2.2⟩
section ZTHR
variable {cl : List vw_C} {T : List FieldType} {G N : List Cond} {S : List (String × Nat × String)} {CA NC : List (String × String)} {E : zE}
theorem zthrS {own nm Ex text : String} {bytes : ByteArray} {nL pc ik is ic : Nat} {l : Launch} (names : List String) (hl : l.stackTraces = false) (hfit : Bundle.fit Ex = true) (hnames : ∀ n ∈ names, Bundle.fit n = true) (hlen : names.length ≤ 3)
    (hgood : ∀ w ∈ Cond.classLink own ik Ex :: Cond.initialized Ex :: vx_atS own ic Ex names, vx_ot w = true)
    (hG : ∀ w ∈ (Cond.classLink own ik Ex :: Cond.initialized Ex :: vx_atS own ic Ex names).filter goodWord, w ∈ G)
    (hC : ∀ w ∈ (Cond.classLink own ik Ex :: Cond.initialized Ex :: vx_atS own ic Ex names).filter (fun w => !goodWord w), ∃ q ∈ CA, w = .castable q.1 q.2)
    (hs : (own, is, text) ∈ S) (d0 : decode bytes pc = .ok (.new ik, 3)) (d3 : decode bytes (pc + 3) = .ok (.dup, 1)) (d4 : decode bytes (pc + 4) = .ok (.ldc is, 2)) (d6 : decode bytes (pc + 6) = .ok (.invokespecial ic, 3)) (d9 : decode bytes (pc + 9) = .ok (.athrow, 1)) :
    zThrSnd cl T G N (zO S CA NC) E own nm bytes nL pc Ex [] l := by
  intro p e R s m args below meth c H locs cells slots mc ms ls rest Qc XC F ht hS hsz hcat hR1 hR2 hc hsl hc2 hs2 hx
  obtain ⟨o1, o2, o3, o4, -⟩ := F.2.2.2.2.2.2.2.1
  obtain ⟨sa, hsa⟩ := o3 _ hs
  have hw : ∀ w ∈ Cond.classLink own ik Ex :: Cond.initialized Ex :: vx_atS own ic Ex names, w.before args s = true := by
    intro w hw
    by_cases g : goodWord w = true
    · exact F.2.2.2.2.1 w (hG w (List.mem_filter.mpr ⟨hw, g⟩))
    · have g' : goodWord w = false := by simpa using g
      obtain ⟨q, hq, rfl⟩ := hC w (List.mem_filter.mpr ⟨hw, by simp [g']⟩)
      exact va_Nw.use rfl (o4 q hq)
  have hlocks := F.2.2.2.2.2.2.2.2.2.2.2.1
  exact vx_throwS F.1 F.2.1 hl F.2.2.2.1 hfit hnames (hw _ List.mem_cons_self) (hw _ (List.mem_cons_of_mem _ List.mem_cons_self)) hsa (fun w h => hw w (List.mem_cons_of_mem _ (List.mem_cons_of_mem _ h))) hgood o1 o2 hS (hsz.trans F.2.2.1.symm) d0 d3 d4 d6 d9
    (fun x hx' => by rw [ht] at hx'; cases hx') (by omega) (by omega) hc hsl hlocks hx hS.2.2 hc2 hs2
theorem zthrSW {own nm Ex text : String} {bytes : ByteArray} {nL pc ik is ic : Nat} {l : Launch} (names : List String) (hl : l.stackTraces = false) (hfit : Bundle.fit Ex = true) (hnames : ∀ n ∈ names, Bundle.fit n = true) (hlen : names.length ≤ 3)
    (hgood : ∀ w ∈ Cond.classLink own ik Ex :: Cond.initialized Ex :: vx_atS own ic Ex names, vx_ot w = true)
    (hG : ∀ w ∈ (Cond.classLink own ik Ex :: Cond.initialized Ex :: vx_atS own ic Ex names).filter goodWord, w ∈ G)
    (hC : ∀ w ∈ (Cond.classLink own ik Ex :: Cond.initialized Ex :: vx_atS own ic Ex names).filter (fun w => !goodWord w), ∃ q ∈ CA, w = .castable q.1 q.2)
    (hs : (own, is, text) ∈ S) (d0 : decode bytes pc = .ok (.new ik, 3)) (d3 : decode bytes (pc + 3) = .ok (.dup, 1)) (d4 : decode bytes (pc + 4) = .ok (.ldc_w is, 3)) (d7 : decode bytes (pc + 7) = .ok (.invokespecial ic, 3)) (d10 : decode bytes (pc + 10) = .ok (.athrow, 1)) :
    zThrSnd cl T G N (zO S CA NC) E own nm bytes nL pc Ex [] l := by
  intro p e R s m args below meth c H locs cells slots mc ms ls rest Qc XC F ht hS hsz hcat hR1 hR2 hc hsl hc2 hs2 hx
  obtain ⟨o1, o2, o3, o4, -⟩ := F.2.2.2.2.2.2.2.1
  obtain ⟨sa, hsa⟩ := o3 _ hs
  have hw : ∀ w ∈ Cond.classLink own ik Ex :: Cond.initialized Ex :: vx_atS own ic Ex names, w.before args s = true := by
    intro w hw
    by_cases g : goodWord w = true
    · exact F.2.2.2.2.1 w (hG w (List.mem_filter.mpr ⟨hw, g⟩))
    · have g' : goodWord w = false := by simpa using g
      obtain ⟨q, hq, rfl⟩ := hC w (List.mem_filter.mpr ⟨hw, by simp [g']⟩)
      exact va_Nw.use rfl (o4 q hq)
  have hlocks := F.2.2.2.2.2.2.2.2.2.2.2.1
  exact vx_throwSW F.1 F.2.1 hl F.2.2.2.1 hfit hnames (hw _ List.mem_cons_self) (hw _ (List.mem_cons_of_mem _ List.mem_cons_self)) hsa (fun w h => hw w (List.mem_cons_of_mem _ (List.mem_cons_of_mem _ h))) hgood o1 o2 hS (hsz.trans F.2.2.1.symm) d0 d3 d4 d7 d10
    (fun x hx' => by rw [ht] at hx'; cases hx') (by omega) (by omega) hc hsl hlocks hx hS.2.2 hc2 hs2
theorem zhnd {own nm Ex cn : String} {bytes : ByteArray} {nL pc pc' x : Nat} {hh : List (Nat × Nat × Nat × Nat)} (pre : List ExceptionTableEntry) (xe : ExceptionTableEntry) (suf : List ExceptionTableEntry) (hsp : tableOf hh = pre ++ xe :: suf)
    (hpass : ∀ z ∈ pre, covers z pc = false ∨ (z.catchType ≠ 0 ∧ ∃ n1 : String, Cond.classLink own z.catchType n1 ∈ G ∧ (Ex, n1) ∈ NC)) (hx : covers xe pc = true) (h0 : xe.catchType ≠ 0)
    (hlk : Cond.classLink own xe.catchType cn ∈ G) (hca : (Ex, cn) ∈ CA) (hxn : x < nL)
    (hst : (decode bytes xe.handlerPc = .ok (.astore x, 2) ∧ pc' = xe.handlerPc + 2) ∨ (∃ i : Fin 4, decode bytes xe.handlerPc = .ok (.astore_n i, 1) ∧ (i : Nat) = x ∧ pc' = xe.handlerPc + 1)) :
    zHndSnd cl T G N (zO S CA NC) E own nm bytes nL pc Ex pc' x hh := by
  intro p l e R s m args below meth c Q H locs cells slots ls rest q ce lv F ht hl hce hcv hcl kk
  obtain ⟨o1, o2, o3, o4, o5⟩ := F.2.2.2.2.2.2.2.1
  refine vx_catch F.2.2.2.1 pre xe suf (ht.trans hsp) (fun z hz => (hpass z hz).imp id fun ⟨k0, n1, k1, k2⟩ => ⟨k0, n1, F.2.2.2.2.1 _ k1, o5 _ k2⟩) hx h0 (F.2.2.2.2.1 _ hlk) (va_Nw.use rfl (o4 _ hca)) hce hcv hcl ?_
  rcases hst with ⟨hd, rfl⟩ | ⟨i, hd, hi, rfl⟩
  · exact lv_astore F.1 F.2.1 hd hl hxn rfl fun ls' h' => kk ls' ⟨h'.1, h'.2.1, fun r hr => h'.2.2 r (List.mem_cons_of_mem _ hr)⟩
  · exact lv_astore_n F.1 F.2.1 hd hi hl hxn rfl fun ls' h' => kk ls' ⟨h'.1, h'.2.1, fun r hr => h'.2.2 r (List.mem_cons_of_mem _ hr)⟩
end ZTHR
