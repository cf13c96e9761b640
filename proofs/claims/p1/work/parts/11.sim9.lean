/-! CALLS, by their kinds: 0 virtual, 1 virtual of a nest mate, 2 static, 3 static of a nest mate, 4 a constructor, 5 a nest mate's, 6 static with handlers -/
section ZCALLS
variable {cl : List vw_C} {T : List FieldType} {G N : List Cond} {O : Nat → State → Heap → Prop} {E : zE} {own nm : String} {bytes : ByteArray} {nL pc : Nat} {y : MethodName} {b : ByteArray} {n' : Nat} {rt : Option FieldType}
theorem zgood (hG : ∀ w ∈ G, goodWord w = true) {w0 : Cond} (h0 : w0 ∈ G) : GoodIn G (w0 :: G) := by
  intro w hw
  rcases List.mem_cons.mp hw with rfl | h
  · exact ⟨h0, good_of_word (hG _ h0)⟩
  · exact ⟨h, good_of_word (hG _ h)⟩
theorem zapp_ref (As : List Value) (b0 : Nat) (rest : List Value) : (Value.ref b0 :: As).reverse ++ rest = As.reverse ++ .ref b0 :: rest := by simp
theorem zcs0 {i n : Nat} (hG : ∀ w ∈ G, goodWord w = true) (hcode : Cond.code y b n' rt ∈ G) (hini : Cond.initialized y.cls ∈ G) (hlink : Cond.methodLink own i y ∈ G) (hinst : Cond.instanceMethod y ∈ G) (hsel : Cond.selects y.cls y y ∈ G) (hd1 : y.cls ≠ "java/lang/invoke/MethodHandle" ∧ y.cls ≠ "java/lang/invoke/VarHandle" ∧ (parseMethodDescriptor y.desc).map (fun d => d.parameters.length) = some n)
    (hd : decode bytes pc = .ok (.invokevirtual i, 3)) : zCallSnd cl T G N O E own nm bytes nL pc y b n' rt [] (n + 1) 0 := by
  intro p l e R s m args below meth c H locs cells slots mc ms d ls vs rest Pc Qc XC F hM hbl hPc hlen hsz hsum hRf hRl hRc hRs hrecv
  obtain ⟨b0, As, cellB, rfl, hc1, hc2, hc3⟩ := hrecv ⟨by decide, by decide, by decide⟩
  rw [zapp_ref]
  exact vx_runV (Ts := G) ⟨F.1, F.2.1, F.2.2.1, F.2.2.2.1, F.2.2.2.2.1⟩ hM ⟨callB_of n F.2.2.2.2.1 (zgood hG hcode) rfl rfl rfl (F.2.2.2.2.1 _ hini) (F.2.2.2.2.1 _ hlink) hd1 ⟨hRf, hRl⟩, F.2.2.2.2.1 _ hinst, F.2.2.2.2.1 _ hsel⟩ ⟨hbl, ⟨cellB, hc1, hc2, hc3 (Or.inl rfl)⟩, hPc⟩ rfl (Nat.succ.inj hlen) hsz rfl (lv_room hsum) hd ⟨hRc, hRs⟩
theorem zcs1 {i n : Nat} {host : String} (hG : ∀ w ∈ G, goodWord w = true) (hcode : Cond.code y b n' rt ∈ G) (hini : Cond.initialized y.cls ∈ G) (hlink : Cond.methodLinkNest own i y host ∈ N) (hinst : Cond.instanceMethod y ∈ G) (hsel : Cond.selects y.cls y y ∈ G) (hd1 : y.cls ≠ "java/lang/invoke/MethodHandle" ∧ y.cls ≠ "java/lang/invoke/VarHandle" ∧ (parseMethodDescriptor y.desc).map (fun d => d.parameters.length) = some n)
    (hd : decode bytes pc = .ok (.invokevirtual i, 3)) : zCallSnd cl T G N O E own nm bytes nL pc y b n' rt [] (n + 1) 1 := by
  intro p l e R s m args below meth c H locs cells slots mc ms d ls vs rest Pc Qc XC F hM hbl hPc hlen hsz hsum hRf hRl hRc hRs hrecv
  obtain ⟨b0, As, cellB, rfl, hc1, hc2, hc3⟩ := hrecv ⟨by decide, by decide, by decide⟩
  rw [zapp_ref]
  exact vx_runVN (Ts := G) ⟨F.1, F.2.1, F.2.2.1, F.2.2.2.1, F.2.2.2.2.1⟩ hM ⟨va_cnB n F.2.2.2.2.1 (zgood hG hcode) rfl rfl rfl (F.2.2.2.2.2.1 _ hlink) (F.2.2.2.2.1 _ hini) hd1 ⟨hRf, hRl⟩, F.2.2.2.2.1 _ hinst, F.2.2.2.2.1 _ hsel⟩ ⟨hbl, ⟨cellB, hc1, hc2, hc3 (Or.inr rfl)⟩, hPc⟩ rfl (Nat.succ.inj hlen) hsz rfl (lv_room hsum) hd ⟨hRc, hRs⟩
theorem zcs2 {i n : Nat} (hG : ∀ w ∈ G, goodWord w = true) (hcode : Cond.code y b n' rt ∈ G) (hini : Cond.initialized y.cls ∈ G) (hlink : Cond.methodLink own i y ∈ G) (hst : Cond.static y ∈ G) (hd1 : y.cls ≠ "java/lang/invoke/MethodHandle" ∧ y.cls ≠ "java/lang/invoke/VarHandle" ∧ (parseMethodDescriptor y.desc).map (fun d => d.parameters.length) = some n)
    (hd : decode bytes pc = .ok (.invokestatic i, 3)) : zCallSnd cl T G N O E own nm bytes nL pc y b n' rt [] n 2 := by
  intro p l e R s m args below meth c H locs cells slots mc ms d ls vs rest Pc Qc XC F hM hbl hPc hlen hsz hsum hRf hRl hRc hRs hrecv
  exact vx_runS (Ts := G) ⟨F.1, F.2.1, F.2.2.1, F.2.2.2.1, F.2.2.2.2.1⟩ hM ⟨callB_of n F.2.2.2.2.1 (zgood hG hcode) rfl rfl rfl (F.2.2.2.2.1 _ hini) (F.2.2.2.2.1 _ hlink) hd1 ⟨hRf, hRl⟩, F.2.2.2.2.1 _ hst⟩ ⟨hbl, hPc⟩ rfl hlen hsz rfl (lv_room hsum) hd ⟨hRc, hRs⟩
theorem zcs3 {i n : Nat} {host : String} (hG : ∀ w ∈ G, goodWord w = true) (hcode : Cond.code y b n' rt ∈ G) (hini : Cond.initialized y.cls ∈ G) (hlink : Cond.methodLinkNest own i y host ∈ N) (hst : Cond.static y ∈ G) (hd1 : y.cls ≠ "java/lang/invoke/MethodHandle" ∧ y.cls ≠ "java/lang/invoke/VarHandle" ∧ (parseMethodDescriptor y.desc).map (fun d => d.parameters.length) = some n)
    (hd : decode bytes pc = .ok (.invokestatic i, 3)) : zCallSnd cl T G N O E own nm bytes nL pc y b n' rt [] n 3 := by
  intro p l e R s m args below meth c H locs cells slots mc ms d ls vs rest Pc Qc XC F hM hbl hPc hlen hsz hsum hRf hRl hRc hRs hrecv
  exact vx_runSN (Ts := G) ⟨F.1, F.2.1, F.2.2.1, F.2.2.2.1, F.2.2.2.2.1⟩ hM ⟨va_cnB n F.2.2.2.2.1 (zgood hG hcode) rfl rfl rfl (F.2.2.2.2.2.1 _ hlink) (F.2.2.2.2.1 _ hini) hd1 ⟨hRf, hRl⟩, F.2.2.2.2.1 _ hst, trivial⟩ ⟨hbl, hPc⟩ rfl hlen hsz rfl (lv_room hsum) hd ⟨hRc, hRs⟩
theorem zcs4 {i n : Nat} (hG : ∀ w ∈ G, goodWord w = true) (hcode : Cond.code y b n' none ∈ G) (hini : Cond.initialized y.cls ∈ G) (hlink : Cond.methodLink own i y ∈ G) (hinst : Cond.instanceMethod y ∈ G) (hname : y.name = "<init>") (hd1 : y.cls ≠ "java/lang/invoke/MethodHandle" ∧ y.cls ≠ "java/lang/invoke/VarHandle" ∧ (parseMethodDescriptor y.desc).map (fun d => d.parameters.length) = some n)
    (hd : decode bytes pc = .ok (.invokespecial i, 3)) : zCallSnd cl T G N O E own nm bytes nL pc y b n' none [] (n + 1) 4 := by
  intro p l e R s m args below meth c H locs cells slots mc ms d ls vs rest Pc Qc XC F hM hbl hPc hlen hsz hsum hRf hRl hRc hRs hrecv
  obtain ⟨b0, As, cellB, rfl, hc1, hc2, hc3⟩ := hrecv ⟨by decide, by decide, by decide⟩
  rw [zapp_ref]
  exact vx_runI (Ts := G) ⟨F.1, F.2.1, F.2.2.1, F.2.2.2.1, F.2.2.2.2.1⟩ hM ⟨callB_of n F.2.2.2.2.1 (zgood hG hcode) rfl rfl rfl (F.2.2.2.2.1 _ hini) (F.2.2.2.2.1 _ hlink) hd1 ⟨hRf, hRl⟩, hname, F.2.2.2.2.1 _ hinst⟩ ⟨hbl, hPc⟩ rfl (Nat.succ.inj hlen) hsz rfl (lv_room hsum) hd ⟨hRc, hRs⟩
theorem zcs5 {i n : Nat} {host : String} (hG : ∀ w ∈ G, goodWord w = true) (hcode : Cond.code y b n' none ∈ G) (hini : Cond.initialized y.cls ∈ G) (hlink : Cond.methodLinkNest own i y host ∈ N) (hinst : Cond.instanceMethod y ∈ G) (hname : y.name = "<init>") (hd1 : y.cls ≠ "java/lang/invoke/MethodHandle" ∧ y.cls ≠ "java/lang/invoke/VarHandle" ∧ (parseMethodDescriptor y.desc).map (fun d => d.parameters.length) = some n)
    (hd : decode bytes pc = .ok (.invokespecial i, 3)) : zCallSnd cl T G N O E own nm bytes nL pc y b n' none [] (n + 1) 5 := by
  intro p l e R s m args below meth c H locs cells slots mc ms d ls vs rest Pc Qc XC F hM hbl hPc hlen hsz hsum hRf hRl hRc hRs hrecv
  obtain ⟨b0, As, cellB, rfl, hc1, hc2, hc3⟩ := hrecv ⟨by decide, by decide, by decide⟩
  rw [zapp_ref]
  exact vx_runIN (Ts := G) ⟨F.1, F.2.1, F.2.2.1, F.2.2.2.1, F.2.2.2.2.1⟩ hM ⟨va_cnB n F.2.2.2.2.1 (zgood hG hcode) rfl rfl rfl (F.2.2.2.2.2.1 _ hlink) (F.2.2.2.2.1 _ hini) hd1 ⟨hRf, hRl⟩, hname, F.2.2.2.2.1 _ hinst⟩ ⟨hbl, hPc⟩ rfl (Nat.succ.inj hlen) hsz rfl (lv_room hsum) hd ⟨hRc, hRs⟩
theorem zcs6 {i n : Nat} {h0 : Nat × Nat × Nat × Nat} {hr : List (Nat × Nat × Nat × Nat)} (hG : ∀ w ∈ G, goodWord w = true) (hcode : Cond.codeWith y b n' rt (h0 :: hr) ∈ G) (hini : Cond.initialized y.cls ∈ G) (hlink : Cond.methodLink own i y ∈ G) (hst : Cond.static y ∈ G) (hd1 : y.cls ≠ "java/lang/invoke/MethodHandle" ∧ y.cls ≠ "java/lang/invoke/VarHandle" ∧ (parseMethodDescriptor y.desc).map (fun d => d.parameters.length) = some n)
    (hd : decode bytes pc = .ok (.invokestatic i, 3)) : zCallSnd cl T G N O E own nm bytes nL pc y b n' rt (h0 :: hr) n 6 := by
  intro p l e R s m args below meth c H locs cells slots mc ms d ls vs rest Pc Qc XC F hM hbl hPc hlen hsz hsum hRf hRl hRc hRs hrecv
  have hcw : vx_CSW R s args own i y b n' rt (h0 :: hr) (zcw y b n' rt (h0 :: hr) :: G) (zrm d mc ms) mc ms n := by
    have hg := zgood hG hcode
    refine ⟨⟨rfl, rfl, hRf, hRl, pay_in F.2.2.2.2.1 hg, List.mem_cons_self⟩, F.2.2.2.2.1 _ hcode, F.2.2.2.2.1 _ hini, ⟨hd1.1, hd1.2.1⟩, fun sig h => ?_, F.2.2.2.2.1 _ hlink, F.2.2.2.2.1 _ hst⟩
    have h2 := hd1.2.2
    rw [h] at h2
    exact (Option.some.inj h2).symm
  exact vx_runSX (Ts := G) ⟨F.1, F.2.1, F.2.2.1, F.2.2.2.1, F.2.2.2.2.1⟩ hM hcw ⟨hbl, hPc⟩ rfl hlen hsz rfl (lv_room hsum) hd ⟨hRc, hRs⟩
end ZCALLS
