/-! THROWS AND HANDLERS: what a throw with a text owes, what a handler that stores its exception owes; the old things they stand on -/
def zO (S : List (String × Nat × String)) (CA : List Cond) (NC : List (String × String)) (ST : List (String × String × String × Nat)) (ol : Nat → Nat) : Nat → State → Heap → Prop := fun b U H =>
  vx_Zq Bundle.tN "UNASSIGNED_STACK" Bundle.steD (fun q => b ≤ q) U H ∧ vx_Zq Bundle.tN "SUPPRESSED_SENTINEL" Bundle.listD (fun q => b ≤ q) U H ∧ (∀ q ∈ S, ∃ sa : Nat, vk_R q.1 q.2.1 q.2.2 sa U) ∧ (∀ w ∈ CA, va_Nw w U) ∧ (∀ q ∈ NC, va_Nc q.1 q.2 U) ∧ (∀ q ∈ ST, va_Z q.1 q.2.1 q.2.2.1 (.ref (ol q.2.2.2)) (fun a => b ≤ a) U H)
/-- words of the tables that stay under warmer tables, beside the good ones -/
def zCk (w : Cond) : Bool := match w with
  | .castable _ _ => true
  | .declares _ => true
  | _ => false
theorem zCk_warm {w : Cond} (hw : zCk w = true) {s U : State} (hW : s.WarmedH U.vm) (h : va_Nw w s) : va_Nw w U := by
  unfold zCk at hw
  split at hw
  · exact va_Nw.warmC hW h
  · exact va_Nw.warmD hW h
  · cases hw
theorem zO_warm {S : List (String × Nat × String)} {CA : List Cond} {NC : List (String × String)} {ST : List (String × String × String × Nat)} {ol : Nat → Nat} (b : Nat) (u U : State) (H : Heap) (hCk : ∀ w ∈ CA, zCk w = true) (hW : u.WarmedH U.vm) (h : zO S CA NC ST ol b u H) : zO S CA NC ST ol b U H :=
  ⟨vx_Zq.moved hW.alike h.1, vx_Zq.moved hW.alike h.2.1, fun q hq => (h.2.2.1 q hq).elim fun sa hs => ⟨sa, vk_R.warm hW hs⟩, fun w hw => zCk_warm (hCk w hw) hW (h.2.2.2.1 w hw), fun q hq => va_Nc.moved hW.alike (h.2.2.2.2.1 q hq), fun q hq => va_Z.moved hW.alike (h.2.2.2.2.2 q hq)⟩
theorem zO_kept {S : List (String × Nat × String)} {CA : List Cond} {NC : List (String × String)} {ST : List (String × String × String × Nat)} {ol : Nat → Nat} (b : Nat) (U : State) (H H1 : Heap) (hq : ∀ q : Nat, q < b → q < H.size → H1[q]? = H[q]?) (h : zO S CA NC ST ol b U H) : zO S CA NC ST ol b U H1 :=
  ⟨vx_Zq.kept h.1 fun a ha hb => hq a (Nat.not_le.mp hb) ha, vx_Zq.kept h.2.1 fun a ha hb => hq a (Nat.not_le.mp hb) ha, h.2.2.1, h.2.2.2.1, h.2.2.2.2.1, fun q hz => va_Z.kept (h.2.2.2.2.2 q hz) fun a ha hb => hq a (Nat.not_le.mp hb) ha⟩
section ZTHR
variable {cl : List vw_C} {T : List FieldType} {G N : List Cond} {S : List (String × Nat × String)} {CA : List Cond} {NC : List (String × String)} {ST : List (String × String × String × Nat)} {E : zE}
theorem zthrS {own nm Ex text : String} {bytes : ByteArray} {nL pc ik is ic : Nat} {l : Launch} (names : List String) (hl : l.stackTraces = false) (hfit : Bundle.fit Ex = true) (hnames : ∀ n ∈ names, Bundle.fit n = true) (hlen : names.length ≤ 3)
    (hgood : ∀ w ∈ Cond.classLink own ik Ex :: Cond.initialized Ex :: vx_atS own ic Ex names, vx_ot w = true)
    (hG : ∀ w ∈ (Cond.classLink own ik Ex :: Cond.initialized Ex :: vx_atS own ic Ex names).filter goodWord, w ∈ G)
    (hC : ∀ w ∈ (Cond.classLink own ik Ex :: Cond.initialized Ex :: vx_atS own ic Ex names).filter (fun w => !goodWord w), w ∈ CA)
    (hs : (own, is, text) ∈ S) (d0 : decode bytes pc = .ok (.new ik, 3)) (d3 : decode bytes (pc + 3) = .ok (.dup, 1)) (d4 : decode bytes (pc + 4) = .ok (.ldc is, 2)) (d6 : decode bytes (pc + 6) = .ok (.invokespecial ic, 3)) (d9 : decode bytes (pc + 9) = .ok (.athrow, 1)) :
    zThrSnd cl T G N (zO S CA NC ST (zol E)) E own nm bytes nL pc Ex [] l := by
  intro p e R s m args below meth c H locs cells slots mc ms ls rest Qc XC F ht hS hsz hcat hR1 hR2 hc hsl hc2 hs2 hx
  obtain ⟨o1, o2, o3, o4, -⟩ := F.2.2.2.2.2.2.2.1
  obtain ⟨sa, hsa⟩ := o3 _ hs
  have hw : ∀ w ∈ Cond.classLink own ik Ex :: Cond.initialized Ex :: vx_atS own ic Ex names, w.before args s = true := by
    intro w hw
    by_cases g : goodWord w = true
    · exact F.2.2.2.2.1 w (hG w (List.mem_filter.mpr ⟨hw, g⟩))
    · have g' : goodWord w = false := by simpa using g
      have hot : w.onTables = true := by
        have h1 := hgood w hw
        unfold vx_ot at h1
        rw [g', Bool.or_false] at h1
        exact h1
      exact va_Nw.use hot (o4 w (hC w (List.mem_filter.mpr ⟨hw, by simp [g']⟩)))
  have hlocks := F.2.2.2.2.2.2.2.2.2.2.2.1
  exact vx_throwS F.1 F.2.1 hl F.2.2.2.1 hfit hnames (hw _ List.mem_cons_self) (hw _ (List.mem_cons_of_mem _ List.mem_cons_self)) hsa (fun w h => hw w (List.mem_cons_of_mem _ (List.mem_cons_of_mem _ h))) hgood o1 o2 hS (hsz.trans F.2.2.1.symm) d0 d3 d4 d6 d9
    (fun x hx' => by rw [ht] at hx'; cases hx') (by omega) (by omega) hc hsl hlocks hx hS.2.2 hc2 hs2
theorem zthrSW {own nm Ex text : String} {bytes : ByteArray} {nL pc ik is ic : Nat} {l : Launch} (names : List String) (hl : l.stackTraces = false) (hfit : Bundle.fit Ex = true) (hnames : ∀ n ∈ names, Bundle.fit n = true) (hlen : names.length ≤ 3)
    (hgood : ∀ w ∈ Cond.classLink own ik Ex :: Cond.initialized Ex :: vx_atS own ic Ex names, vx_ot w = true)
    (hG : ∀ w ∈ (Cond.classLink own ik Ex :: Cond.initialized Ex :: vx_atS own ic Ex names).filter goodWord, w ∈ G)
    (hC : ∀ w ∈ (Cond.classLink own ik Ex :: Cond.initialized Ex :: vx_atS own ic Ex names).filter (fun w => !goodWord w), w ∈ CA)
    (hs : (own, is, text) ∈ S) (d0 : decode bytes pc = .ok (.new ik, 3)) (d3 : decode bytes (pc + 3) = .ok (.dup, 1)) (d4 : decode bytes (pc + 4) = .ok (.ldc_w is, 3)) (d7 : decode bytes (pc + 7) = .ok (.invokespecial ic, 3)) (d10 : decode bytes (pc + 10) = .ok (.athrow, 1)) :
    zThrSnd cl T G N (zO S CA NC ST (zol E)) E own nm bytes nL pc Ex [] l := by
  intro p e R s m args below meth c H locs cells slots mc ms ls rest Qc XC F ht hS hsz hcat hR1 hR2 hc hsl hc2 hs2 hx
  obtain ⟨o1, o2, o3, o4, -⟩ := F.2.2.2.2.2.2.2.1
  obtain ⟨sa, hsa⟩ := o3 _ hs
  have hw : ∀ w ∈ Cond.classLink own ik Ex :: Cond.initialized Ex :: vx_atS own ic Ex names, w.before args s = true := by
    intro w hw
    by_cases g : goodWord w = true
    · exact F.2.2.2.2.1 w (hG w (List.mem_filter.mpr ⟨hw, g⟩))
    · have g' : goodWord w = false := by simpa using g
      have hot : w.onTables = true := by
        have h1 := hgood w hw
        unfold vx_ot at h1
        rw [g', Bool.or_false] at h1
        exact h1
      exact va_Nw.use hot (o4 w (hC w (List.mem_filter.mpr ⟨hw, by simp [g']⟩)))
  have hlocks := F.2.2.2.2.2.2.2.2.2.2.2.1
  exact vx_throwSW F.1 F.2.1 hl F.2.2.2.1 hfit hnames (hw _ List.mem_cons_self) (hw _ (List.mem_cons_of_mem _ List.mem_cons_self)) hsa (fun w h => hw w (List.mem_cons_of_mem _ (List.mem_cons_of_mem _ h))) hgood o1 o2 hS (hsz.trans F.2.2.1.symm) d0 d3 d4 d7 d10
    (fun x hx' => by rw [ht] at hx'; cases hx') (by omega) (by omega) hc hsl hlocks hx hS.2.2 hc2 hs2
theorem zhnd {own nm Ex cn : String} {bytes : ByteArray} {nL pc pc' x : Nat} {hh : List (Nat × Nat × Nat × Nat)} (pre : List ExceptionTableEntry) (xe : ExceptionTableEntry) (suf : List ExceptionTableEntry) (hsp : tableOf hh = pre ++ xe :: suf)
    (hpass : ∀ z ∈ pre, covers z pc = false ∨ (z.catchType ≠ 0 ∧ ∃ n1 : String, Cond.classLink own z.catchType n1 ∈ G ∧ (Ex, n1) ∈ NC)) (hx : covers xe pc = true) (h0 : xe.catchType ≠ 0)
    (hlk : Cond.classLink own xe.catchType cn ∈ G) (hca : Cond.castable Ex cn ∈ CA) (hxn : x < nL)
    (hst : (decode bytes xe.handlerPc = .ok (.astore x, 2) ∧ pc' = xe.handlerPc + 2) ∨ (∃ i : Fin 4, decode bytes xe.handlerPc = .ok (.astore_n i, 1) ∧ (i : Nat) = x ∧ pc' = xe.handlerPc + 1)) :
    zHndSnd cl T G N (zO S CA NC ST (zol E)) E own nm bytes nL pc Ex pc' x hh := by
  intro p l e R s m args below meth c Q H locs cells slots ls rest q ce lv F ht hl hce hcv hcl kk
  obtain ⟨o1, o2, o3, o4, o5, -⟩ := F.2.2.2.2.2.2.2.1
  refine vx_catch F.2.2.2.1 pre xe suf (ht.trans hsp) (fun z hz => (hpass z hz).imp id fun ⟨k0, n1, k1, k2⟩ => ⟨k0, n1, F.2.2.2.2.1 _ k1, o5 _ k2⟩) hx h0 (F.2.2.2.2.1 _ hlk) (va_Nw.use rfl (o4 _ hca)) hce hcv hcl ?_
  rcases hst with ⟨hd, rfl⟩ | ⟨i, hd, hi, rfl⟩
  · exact lv_astore F.1 F.2.1 hd hl hxn rfl fun ls' h' => kk ls' ⟨h'.1, h'.2.1, fun r hr => h'.2.2 r (List.mem_cons_of_mem _ hr)⟩
  · exact lv_astore_n F.1 F.2.1 hd hi hl hxn rfl fun ls' h' => kk ls' ⟨h'.1, h'.2.1, fun r hr => h'.2.2 r (List.mem_cons_of_mem _ hr)⟩
/-- a static field of the classes that stand: an old thing -/
theorem zs_gets {own nm ref C n d : String} {bytes : ByteArray} {nL pc i t : Nat} (hst : (C, n, d, t) ∈ ST) (hlink : Cond.fieldLink own i ref n d ∈ G) (href : ref = C) (hd : decode bytes pc = .ok (.getstatic i, 3)) : zSnd cl T G N (zO S CA NC ST (zol E)) E own nm bytes nL pc (zS2 (fun st _ => some (pc + 3, .retAddr t :: st))) :=
  zsnd2 fun st h pc1 st1 hg p l e R s m args below meth c Q H locs cells slots ls F _ _ _ hW hS k => by
    cases hg
    subst href
    have hZ := F.2.2.2.2.2.2.2.1.2.2.2.2.2 _ hst
    exact va_gets F.1 F.2.1 hZ hS F.2.2.2.1 (F.2.2.2.2.1 _ hlink) (fun x h => h) hd k
end ZTHR
section ZMORE
variable {cl : List vw_C} {T : List FieldType} {G N : List Cond} {O : Nat → State → Heap → Prop} {E : zE} {own nm : String} {bytes : ByteArray} {nL pc : Nat}
theorem zs_getS {ci j i : Nat} {C ref : String} {Tc : u_T} {Nc : Nat} (hc : cl[ci]? = some (C, Tc, Nc)) (hin : ∀ w ∈ u_ws C Tc Nc, w ∈ G) (hj : j < Nc) (hlink : Cond.fieldLink own i ref (Tc j).2.1 (Tc j).2.2.1 ∈ G) (hsame : Cond.sameField ref (Tc j).1 (Tc j).2.1 (Tc j).2.2.1 ∈ G) (hd : decode bytes pc = .ok (.getfield i, 3)) : zSnd cl T G N O E own nm bytes nL pc (zS2 (zGet ci j (pc + 3))) :=
  zsnd2 fun st h pc1 st1 hg p l e R s m args below meth c Q H locs cells slots ls F _ _ _ hW hS k => by
    obtain ⟨a, r, fs, v, rfl, hk, hh, hv, rfl, rfl⟩ := zGet_some hg
    have hP := zP1 hW hk
    rw [hh] at hP
    exact va_get F.1 F.2.1 F.2.2.2.2.1 hin F.2.2.2.1 F.2.2.2.2.2.2.1.none hP 0 rfl hc j hj (F.2.2.2.2.1 _ hlink) (fun x h => u_same (F.2.2.2.2.1 _ hsame) x h) (by rw [List.getElem?_map, hv]; rfl) hd k
theorem zs_putS {f : Value → Bool} {ci j i : Nat} {C ref : String} {Tc : u_T} {Nc : Nat} {ty0 : Nat → FieldType} {ty : FieldType} (hc : cl[ci]? = some (C, Tc, Nc)) (hin : ∀ w ∈ u_ws C Tc Nc, w ∈ G) (hj : j < Nc) (hty : ∀ k, k < Nc → parseFieldDescriptor (Tc k).2.2.1 = some (ty0 k)) (hnm : ∀ a, a < Nc → ∀ b, b < Nc → a ≠ b → (Tc a).2.1 ≠ (Tc b).2.1)
    (hlink : Cond.fieldLink own i ref (Tc j).2.1 (Tc j).2.2.1 ∈ G) (hsame : Cond.sameField ref (Tc j).1 (Tc j).2.1 (Tc j).2.2.1 ∈ G) (hfin : (Tc j).2.2.2 = false) (hpd : parseFieldDescriptor (Tc j).2.2.1 = some ty) (hf : ∀ v, f v = true → narrow ty (zV E v) = zV E v ∧ fits ty (zV E v) = true) (hd : decode bytes pc = .ok (.putfield i, 3)) : zSnd cl T G N O E own nm bytes nL pc (zPut f ci j (pc + 3)) := by
  intro L st h pc' L' st' h' hop
  obtain ⟨v, k, r, fs, rfl, hfv, hk, hh, hl, hx⟩ := zPut_some hop
  cases hx
  refine ⟨⟨Nat.le_refl _, Nat.le_refl _⟩, ?_⟩
  intro p l e R s m args below meth c Q F _ _ n0 S0 H locs ls hll hW hS _ _ _ _ kk
  obtain ⟨hn, hfit⟩ := hf v hfv
  obtain ⟨cf, kf, fi, fd, cell, kC, hi, hst, q1, q3, q2, hfc, hkC, hkind, hslot, hput⟩ := zput_at (l := l) (e := e) (R := R) F hc hin hj hty hnm hW hk hh hl hpd hn hfit
  have hlay := F.2.2.2.2.1 _ (hin _ (u_in_lay hj))
  unfold u_lay at hlay
  rw [if_neg (by rw [hfin]; decide)] at hlay
  have h6 := u_store hfc hkC hkind hlay hi hpd hn hfit
  refine W.putK F.1 F.2.1 (f := fd) ⟨F.2.2.2.1, F.2.2.2.2.1 _ hlink, ⟨_, _, _, u_same (F.2.2.2.2.1 _ hsame) _ hi⟩, hst⟩ (by rw [q2]; exact h6) q1 q3 hslot rfl rfl hd fun H' e1 e2 e3 => ?_
  exact kk H' _ ls hll (hput H' e1 e2 e3) (zS.put hS e2 e3)
abbrev zDupX1 (pc' : Nat) : List Value → Option (Nat × List Value) := fun st => match st with
  | a :: b :: r => if a.category = 1 ∧ b.category = 1 then some (pc', a :: b :: a :: r) else none
  | _ => none
theorem zs_dupx1 (hd : decode bytes pc = .ok (.dup_x1, 1)) : zSnd cl T G N O E own nm bytes nL pc (zS1 (zDupX1 (pc + 1))) := zsnd1 fun st pc1 st1 h p l e R s m args below meth c Q H locs cells slots ls F k => by
  simp only [zDupX1] at h
  split at h
  · split at h
    · rename_i hc
      cases h
      exact lv_dup_x1 F.1 F.2.1 hd (by rw [zV_cat]; exact hc.1) (by rw [zV_cat]; exact hc.2) k
    · cases h
  · cases h
theorem zs_null (hd : decode bytes pc = .ok (.aconst_null, 1)) : zSnd cl T G N O E own nm bytes nL pc (zS1 (zCst .null (pc + 1))) := zsndC rfl fun p l e R s m args below meth c Q H locs cells slots ls rest F k => lv_null F.1 F.2.1 hd k
end ZMORE
