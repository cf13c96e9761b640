/-! SOUND STEPS on the stack: constants, arithmetic, compares, branches -/
section ZSTK
variable {cl : List vw_C} {T : List FieldType} {G N : List Cond} {O : Nat → State → Heap → Prop} {E : zE} {own nm : String} {bytes : ByteArray} {nL pc : Nat}
abbrev zCst (v : Value) (pc' : Nat) : List Value → Option (Nat × List Value) := fun st => some (pc', v :: st)
theorem zsndC {v : Value} {pc' : Nat} (hz : zV E v = v) (hf : ∀ (p : Program) (l : Launch) (e : Env) (R : Room) (s : State) (m : MethodId) (args : Array Value) (below : List Frame) (meth : Method) (c : Code) (Q : State → Prop) (H : Heap) (locs : List Loc) (cells slots : Nat) (ls : Array Slot) (rest : List Value), zF cl T G N O E own nm bytes nL p s m args meth c → W p l e R s m args below meth c H locs cells slots Q (F0 m pc' ls (v :: rest)) → W p l e R s m args below meth c H locs cells slots Q (F0 m pc ls rest)) : zSnd cl T G N O E own nm bytes nL pc (zS1 (zCst v pc')) := zsnd1 fun st pc1 st1 h p l e R s m args below meth c Q H locs cells slots ls F k => by
  cases h
  rw [List.map_cons, hz] at k
  exact hf p l e R s m args below meth c Q H locs cells slots ls _ F k
theorem zs_iconst {n : Int} {v : Int32} (hv : Int32.ofInt n = v) (hd : decode bytes pc = .ok (.iconst n, 1)) : zSnd cl T G N O E own nm bytes nL pc (zS1 (zCst (.int v) (pc + 1))) := zsndC rfl fun p l e R s m args below meth c Q H locs cells slots ls rest F k => lv_iconst F.1 F.2.1 hd hv k
theorem zs_bipush {n : Int} {v : Int32} (hv : (Int8.ofInt n).toInt32 = v) (hd : decode bytes pc = .ok (.bipush n, 2)) : zSnd cl T G N O E own nm bytes nL pc (zS1 (zCst (.int v) (pc + 2))) := zsndC rfl fun p l e R s m args below meth c Q H locs cells slots ls rest F k => lv_bipush F.1 F.2.1 hd hv k
theorem zs_sipush {n : Int} {v : Int32} (hv : (Int16.ofInt n).toInt32 = v) (hd : decode bytes pc = .ok (.sipush n, 3)) : zSnd cl T G N O E own nm bytes nL pc (zS1 (zCst (.int v) (pc + 3))) := zsndC rfl fun p l e R s m args below meth c Q H locs cells slots ls rest F k => lv_sipush F.1 F.2.1 hd hv k
theorem zs_lconst {n : Fin 2} {v : Int64} (hv : Int64.ofNat (n : Nat) = v) (hd : decode bytes pc = .ok (.lconst n, 1)) : zSnd cl T G N O E own nm bytes nL pc (zS1 (zCst (.long v) (pc + 1))) := zsndC rfl fun p l e R s m args below meth c Q H locs cells slots ls rest F k => lv_lconst F.1 F.2.1 hd hv k
theorem zs_dconst0  (hd : decode bytes pc = .ok (.dconst 0, 1)) : zSnd cl T G N O E own nm bytes nL pc (zS1 (zCst (.double FP.dconst0) (pc + 1))) := zsndC rfl fun p l e R s m args below meth c Q H locs cells slots ls rest F k => lv_dconst0 F.1 F.2.1 hd k
theorem zs_ldci {i : Nat} {v : Int32} (hc : Cond.constant own i v ∈ G) (hd : decode bytes pc = .ok (.ldc i, 2)) : zSnd cl T G N O E own nm bytes nL pc (zS1 (zCst (.int v) (pc + 2))) := zsndC rfl fun p l e R s m args below meth c Q H locs cells slots ls rest F k => lv_ldc F.1 F.2.1 F.2.2.2.1 (F.2.2.2.2.1 _ hc) hd k
theorem zs_ldc2l {i : Nat} {v : Int64} (hc : Cond.constantLong own i v ∈ G) (hd : decode bytes pc = .ok (.ldc2_w i, 3)) : zSnd cl T G N O E own nm bytes nL pc (zS1 (zCst (.long v) (pc + 3))) := zsndC rfl fun p l e R s m args below meth c Q H locs cells slots ls rest F k => lv_ldc2 F.1 F.2.1 F.2.2.2.1 (F.2.2.2.2.1 _ hc) hd k
theorem zs_ldc2d {i : Nat} {v : UInt64} (hc : Cond.constantDouble own i v ∈ G) (hd : decode bytes pc = .ok (.ldc2_w i, 3)) : zSnd cl T G N O E own nm bytes nL pc (zS1 (zCst (.double v) (pc + 3))) := zsndC rfl fun p l e R s m args below meth c Q H locs cells slots ls rest F k => lv_ldc2d F.1 F.2.1 F.2.2.2.1 (F.2.2.2.2.1 _ hc) hd k
abbrev zII (g : Int32 → Int32 → Int32) (pc' : Nat) : List Value → Option (Nat × List Value) := fun st => match st with
  | .int y :: .int x :: r => some (pc', .int (g x y) :: r)
  | _ => none
theorem zsndII {g : Int32 → Int32 → Int32} {pc' : Nat} (hf : ∀ (p : Program) (l : Launch) (e : Env) (R : Room) (s : State) (m : MethodId) (args : Array Value) (below : List Frame) (meth : Method) (c : Code) (Q : State → Prop) (H : Heap) (locs : List Loc) (cells slots : Nat) (ls : Array Slot) (rest : List Value) (x y : Int32), zF cl T G N O E own nm bytes nL p s m args meth c → W p l e R s m args below meth c H locs cells slots Q (F0 m pc' ls (.int (g x y) :: rest)) → W p l e R s m args below meth c H locs cells slots Q (F0 m pc ls (.int y :: .int x :: rest))) : zSnd cl T G N O E own nm bytes nL pc (zS1 (zII g pc')) := zsnd1 fun st pc1 st1 h p l e R s m args below meth c Q H locs cells slots ls F k => by
  simp only [zII] at h
  split at h
  · cases h
    exact hf p l e R s m args below meth c Q H locs cells slots ls _ _ _ F k
  · cases h
abbrev zLL (g : Int64 → Int64 → Int64) (pc' : Nat) : List Value → Option (Nat × List Value) := fun st => match st with
  | .long y :: .long x :: r => some (pc', .long (g x y) :: r)
  | _ => none
theorem zsndLL {g : Int64 → Int64 → Int64} {pc' : Nat} (hf : ∀ (p : Program) (l : Launch) (e : Env) (R : Room) (s : State) (m : MethodId) (args : Array Value) (below : List Frame) (meth : Method) (c : Code) (Q : State → Prop) (H : Heap) (locs : List Loc) (cells slots : Nat) (ls : Array Slot) (rest : List Value) (x y : Int64), zF cl T G N O E own nm bytes nL p s m args meth c → W p l e R s m args below meth c H locs cells slots Q (F0 m pc' ls (.long (g x y) :: rest)) → W p l e R s m args below meth c H locs cells slots Q (F0 m pc ls (.long y :: .long x :: rest))) : zSnd cl T G N O E own nm bytes nL pc (zS1 (zLL g pc')) := zsnd1 fun st pc1 st1 h p l e R s m args below meth c Q H locs cells slots ls F k => by
  simp only [zLL] at h
  split at h
  · cases h
    exact hf p l e R s m args below meth c Q H locs cells slots ls _ _ _ F k
  · cases h
abbrev zLLi (g : Int64 → Int64 → Int32) (pc' : Nat) : List Value → Option (Nat × List Value) := fun st => match st with
  | .long y :: .long x :: r => some (pc', .int (g x y) :: r)
  | _ => none
theorem zsndLLi {g : Int64 → Int64 → Int32} {pc' : Nat} (hf : ∀ (p : Program) (l : Launch) (e : Env) (R : Room) (s : State) (m : MethodId) (args : Array Value) (below : List Frame) (meth : Method) (c : Code) (Q : State → Prop) (H : Heap) (locs : List Loc) (cells slots : Nat) (ls : Array Slot) (rest : List Value) (x y : Int64), zF cl T G N O E own nm bytes nL p s m args meth c → W p l e R s m args below meth c H locs cells slots Q (F0 m pc' ls (.int (g x y) :: rest)) → W p l e R s m args below meth c H locs cells slots Q (F0 m pc ls (.long y :: .long x :: rest))) : zSnd cl T G N O E own nm bytes nL pc (zS1 (zLLi g pc')) := zsnd1 fun st pc1 st1 h p l e R s m args below meth c Q H locs cells slots ls F k => by
  simp only [zLLi] at h
  split at h
  · cases h
    exact hf p l e R s m args below meth c Q H locs cells slots ls _ _ _ F k
  · cases h
abbrev zDDi (g : UInt64 → UInt64 → Int32) (pc' : Nat) : List Value → Option (Nat × List Value) := fun st => match st with
  | .double y :: .double x :: r => some (pc', .int (g x y) :: r)
  | _ => none
theorem zsndDDi {g : UInt64 → UInt64 → Int32} {pc' : Nat} (hf : ∀ (p : Program) (l : Launch) (e : Env) (R : Room) (s : State) (m : MethodId) (args : Array Value) (below : List Frame) (meth : Method) (c : Code) (Q : State → Prop) (H : Heap) (locs : List Loc) (cells slots : Nat) (ls : Array Slot) (rest : List Value) (x y : UInt64), zF cl T G N O E own nm bytes nL p s m args meth c → W p l e R s m args below meth c H locs cells slots Q (F0 m pc' ls (.int (g x y) :: rest)) → W p l e R s m args below meth c H locs cells slots Q (F0 m pc ls (.double y :: .double x :: rest))) : zSnd cl T G N O E own nm bytes nL pc (zS1 (zDDi g pc')) := zsnd1 fun st pc1 st1 h p l e R s m args below meth c Q H locs cells slots ls F k => by
  simp only [zDDi] at h
  split at h
  · cases h
    exact hf p l e R s m args below meth c Q H locs cells slots ls _ _ _ F k
  · cases h
theorem zs_iadd (hd : decode bytes pc = .ok (.iadd, 1)) : zSnd cl T G N O E own nm bytes nL pc (zS1 (zII (fun x y => x + y) (pc + 1))) := zsndII fun p l e R s m args below meth c Q H locs cells slots ls rest x y F k => lv_iadd F.1 F.2.1 hd k
theorem zs_isub (hd : decode bytes pc = .ok (.isub, 1)) : zSnd cl T G N O E own nm bytes nL pc (zS1 (zII (fun x y => x - y) (pc + 1))) := zsndII fun p l e R s m args below meth c Q H locs cells slots ls rest x y F k => lv_isub F.1 F.2.1 hd k
theorem zs_imul (hd : decode bytes pc = .ok (.imul, 1)) : zSnd cl T G N O E own nm bytes nL pc (zS1 (zII (fun x y => x * y) (pc + 1))) := zsndII fun p l e R s m args below meth c Q H locs cells slots ls rest x y F k => lv_imul F.1 F.2.1 hd k
theorem zs_iand (hd : decode bytes pc = .ok (.iand, 1)) : zSnd cl T G N O E own nm bytes nL pc (zS1 (zII (fun x y => x &&& y) (pc + 1))) := zsndII fun p l e R s m args below meth c Q H locs cells slots ls rest x y F k => lv_iand F.1 F.2.1 hd k
theorem zs_ior (hd : decode bytes pc = .ok (.ior, 1)) : zSnd cl T G N O E own nm bytes nL pc (zS1 (zII (fun x y => x ||| y) (pc + 1))) := zsndII fun p l e R s m args below meth c Q H locs cells slots ls rest x y F k => lv_ior F.1 F.2.1 hd k
theorem zs_ixor (hd : decode bytes pc = .ok (.ixor, 1)) : zSnd cl T G N O E own nm bytes nL pc (zS1 (zII (fun x y => x ^^^ y) (pc + 1))) := zsndII fun p l e R s m args below meth c Q H locs cells slots ls rest x y F k => lv_ixor F.1 F.2.1 hd k
theorem zs_ishl (hd : decode bytes pc = .ok (.ishl, 1)) : zSnd cl T G N O E own nm bytes nL pc (zS1 (zII (fun x y => x <<< (y &&& 31)) (pc + 1))) := zsndII fun p l e R s m args below meth c Q H locs cells slots ls rest x y F k => lv_ishl F.1 F.2.1 hd k
theorem zs_ishr (hd : decode bytes pc = .ok (.ishr, 1)) : zSnd cl T G N O E own nm bytes nL pc (zS1 (zII (fun x y => x >>> (y &&& 31)) (pc + 1))) := zsndII fun p l e R s m args below meth c Q H locs cells slots ls rest x y F k => lv_ishr F.1 F.2.1 hd k
theorem zs_iushr (hd : decode bytes pc = .ok (.iushr, 1)) : zSnd cl T G N O E own nm bytes nL pc (zS1 (zII (fun x y => (x.toUInt32 >>> (y.toUInt32 &&& Int32.toUInt32 31)).toInt32) (pc + 1))) := zsndII fun p l e R s m args below meth c Q H locs cells slots ls rest x y F k => lv_iushr F.1 F.2.1 hd rfl k
theorem zs_ladd (hd : decode bytes pc = .ok (.ladd, 1)) : zSnd cl T G N O E own nm bytes nL pc (zS1 (zLL (fun x y => x + y) (pc + 1))) := zsndLL fun p l e R s m args below meth c Q H locs cells slots ls rest x y F k => lv_ladd F.1 F.2.1 hd k
theorem zs_lsub (hd : decode bytes pc = .ok (.lsub, 1)) : zSnd cl T G N O E own nm bytes nL pc (zS1 (zLL (fun x y => x - y) (pc + 1))) := zsndLL fun p l e R s m args below meth c Q H locs cells slots ls rest x y F k => lv_lsub F.1 F.2.1 hd k
theorem zs_lmul (hd : decode bytes pc = .ok (.lmul, 1)) : zSnd cl T G N O E own nm bytes nL pc (zS1 (zLL (fun x y => x * y) (pc + 1))) := zsndLL fun p l e R s m args below meth c Q H locs cells slots ls rest x y F k => lv_lmul F.1 F.2.1 hd k
theorem zs_lcmp (hd : decode bytes pc = .ok (.lcmp, 1)) : zSnd cl T G N O E own nm bytes nL pc (zS1 (zLLi (fun x y => lg_cmp x y) (pc + 1))) := zsndLLi fun p l e R s m args below meth c Q H locs cells slots ls rest x y F k => W.lcmp F.1 F.2.1 hd k
theorem zs_dcmp {op : CmpOp} (hd : decode bytes pc = .ok (.dcmp op, 1)) : zSnd cl T G N O E own nm bytes nL pc (zS1 (zDDi (fun x y => Op.cmpValue (FP.dcmp x y) op) (pc + 1))) := zsndDDi fun p l e R s m args below meth c Q H locs cells slots ls rest x y F k => lv_dcmp F.1 F.2.1 hd k
abbrev zIIg (g : Int32 → Int32 → Int32) (pc' : Nat) : List Value → Option (Nat × List Value) := fun st => match st with
  | .int y :: .int x :: r => if ¬ y = 0 then some (pc', .int (g x y) :: r) else none
  | _ => none
theorem zsndIIg {g : Int32 → Int32 → Int32} {pc' : Nat} (hf : ∀ (p : Program) (l : Launch) (e : Env) (R : Room) (s : State) (m : MethodId) (args : Array Value) (below : List Frame) (meth : Method) (c : Code) (Q : State → Prop) (H : Heap) (locs : List Loc) (cells slots : Nat) (ls : Array Slot) (rest : List Value) (x y : Int32), zF cl T G N O E own nm bytes nL p s m args meth c → (¬ y = 0) → W p l e R s m args below meth c H locs cells slots Q (F0 m pc' ls (.int (g x y) :: rest)) → W p l e R s m args below meth c H locs cells slots Q (F0 m pc ls (.int y :: .int x :: rest))) : zSnd cl T G N O E own nm bytes nL pc (zS1 (zIIg g pc')) := zsnd1 fun st pc1 st1 h p l e R s m args below meth c Q H locs cells slots ls F k => by
  simp only [zIIg] at h
  split at h
  · split at h
    · rename_i hg
      cases h
      exact hf p l e R s m args below meth c Q H locs cells slots ls _ _ _ F hg k
    · cases h
  · cases h
abbrev zDDg (g : UInt64 → UInt64 → UInt64) (pc' : Nat) : List Value → Option (Nat × List Value) := fun st => match st with
  | .double y :: .double x :: r => if (g x y) &&& 0x7fffffffffffffff ≤ 0x7ff0000000000000 then some (pc', .double (g x y) :: r) else none
  | _ => none
theorem zsndDDg {g : UInt64 → UInt64 → UInt64} {pc' : Nat} (hf : ∀ (p : Program) (l : Launch) (e : Env) (R : Room) (s : State) (m : MethodId) (args : Array Value) (below : List Frame) (meth : Method) (c : Code) (Q : State → Prop) (H : Heap) (locs : List Loc) (cells slots : Nat) (ls : Array Slot) (rest : List Value) (x y : UInt64), zF cl T G N O E own nm bytes nL p s m args meth c → ((g x y) &&& 0x7fffffffffffffff ≤ 0x7ff0000000000000) → W p l e R s m args below meth c H locs cells slots Q (F0 m pc' ls (.double (g x y) :: rest)) → W p l e R s m args below meth c H locs cells slots Q (F0 m pc ls (.double y :: .double x :: rest))) : zSnd cl T G N O E own nm bytes nL pc (zS1 (zDDg g pc')) := zsnd1 fun st pc1 st1 h p l e R s m args below meth c Q H locs cells slots ls F k => by
  simp only [zDDg] at h
  split at h
  · split at h
    · rename_i hg
      cases h
      exact hf p l e R s m args below meth c Q H locs cells slots ls _ _ _ F hg k
    · cases h
  · cases h
theorem zs_idiv (hd : decode bytes pc = .ok (.idiv, 1)) : zSnd cl T G N O E own nm bytes nL pc (zS1 (zIIg (fun x y => x / y) (pc + 1))) := zsndIIg fun p l e R s m args below meth c Q H locs cells slots ls rest x y F hg k => lv_idiv F.1 F.2.1 hd hg k
theorem zs_irem (hd : decode bytes pc = .ok (.irem, 1)) : zSnd cl T G N O E own nm bytes nL pc (zS1 (zIIg (fun x y => x - x / y * y) (pc + 1))) := zsndIIg fun p l e R s m args below meth c Q H locs cells slots ls rest x y F hg k => lv_irem F.1 F.2.1 hd hg k
theorem zs_dadd (hd : decode bytes pc = .ok (.dadd, 1)) : zSnd cl T G N O E own nm bytes nL pc (zS1 (zDDg (fun x y => FP.dadd x y) (pc + 1))) := zsndDDg fun p l e R s m args below meth c Q H locs cells slots ls rest x y F hg k => lv_dadd F.1 F.2.1 hd hg k
theorem zs_dsub (hd : decode bytes pc = .ok (.dsub, 1)) : zSnd cl T G N O E own nm bytes nL pc (zS1 (zDDg (fun x y => FP.dsub x y) (pc + 1))) := zsndDDg fun p l e R s m args below meth c Q H locs cells slots ls rest x y F hg k => lv_dsub F.1 F.2.1 hd hg k
theorem zs_dmul (hd : decode bytes pc = .ok (.dmul, 1)) : zSnd cl T G N O E own nm bytes nL pc (zS1 (zDDg (fun x y => FP.dmul x y) (pc + 1))) := zsndDDg fun p l e R s m args below meth c Q H locs cells slots ls rest x y F hg k => lv_dmul F.1 F.2.1 hd hg k
theorem zs_ddiv (hd : decode bytes pc = .ok (.ddiv, 1)) : zSnd cl T G N O E own nm bytes nL pc (zS1 (zDDg (fun x y => FP.ddiv x y) (pc + 1))) := zsndDDg fun p l e R s m args below meth c Q H locs cells slots ls rest x y F hg k => lv_ddiv F.1 F.2.1 hd hg k
abbrev zIL (g : Int32 → Int64) (pc' : Nat) : List Value → Option (Nat × List Value) := fun st => match st with
  | .int x :: r => some (pc', .long (g x) :: r)
  | _ => none
theorem zsndIL {g : Int32 → Int64} {pc' : Nat} (hf : ∀ (p : Program) (l : Launch) (e : Env) (R : Room) (s : State) (m : MethodId) (args : Array Value) (below : List Frame) (meth : Method) (c : Code) (Q : State → Prop) (H : Heap) (locs : List Loc) (cells slots : Nat) (ls : Array Slot) (rest : List Value) (x : Int32), zF cl T G N O E own nm bytes nL p s m args meth c → W p l e R s m args below meth c H locs cells slots Q (F0 m pc' ls (.long (g x) :: rest)) → W p l e R s m args below meth c H locs cells slots Q (F0 m pc ls (.int x :: rest))) : zSnd cl T G N O E own nm bytes nL pc (zS1 (zIL g pc')) := zsnd1 fun st pc1 st1 h p l e R s m args below meth c Q H locs cells slots ls F k => by
  simp only [zIL] at h
  split at h
  · cases h
    exact hf p l e R s m args below meth c Q H locs cells slots ls _ _ F k
  · cases h
abbrev zID (g : Int32 → UInt64) (pc' : Nat) : List Value → Option (Nat × List Value) := fun st => match st with
  | .int x :: r => some (pc', .double (g x) :: r)
  | _ => none
theorem zsndID {g : Int32 → UInt64} {pc' : Nat} (hf : ∀ (p : Program) (l : Launch) (e : Env) (R : Room) (s : State) (m : MethodId) (args : Array Value) (below : List Frame) (meth : Method) (c : Code) (Q : State → Prop) (H : Heap) (locs : List Loc) (cells slots : Nat) (ls : Array Slot) (rest : List Value) (x : Int32), zF cl T G N O E own nm bytes nL p s m args meth c → W p l e R s m args below meth c H locs cells slots Q (F0 m pc' ls (.double (g x) :: rest)) → W p l e R s m args below meth c H locs cells slots Q (F0 m pc ls (.int x :: rest))) : zSnd cl T G N O E own nm bytes nL pc (zS1 (zID g pc')) := zsnd1 fun st pc1 st1 h p l e R s m args below meth c Q H locs cells slots ls F k => by
  simp only [zID] at h
  split at h
  · cases h
    exact hf p l e R s m args below meth c Q H locs cells slots ls _ _ F k
  · cases h
theorem zs_i2l (hd : decode bytes pc = .ok (.i2l, 1)) : zSnd cl T G N O E own nm bytes nL pc (zS1 (zIL (fun x => x.toInt64) (pc + 1))) := zsndIL fun p l e R s m args below meth c Q H locs cells slots ls rest x F k => lv_i2l F.1 F.2.1 hd rfl k
theorem zs_i2d (hd : decode bytes pc = .ok (.i2d, 1)) : zSnd cl T G N O E own nm bytes nL pc (zS1 (zID (fun x => FP.i2d x) (pc + 1))) := zsndID fun p l e R s m args below meth c Q H locs cells slots ls rest x F k => lv_i2d F.1 F.2.1 hd k
abbrev zDup (pc' : Nat) : List Value → Option (Nat × List Value) := fun st => match st with
  | v :: r => if v.category = 1 then some (pc', v :: v :: r) else none
  | [] => none
theorem zs_dup (hd : decode bytes pc = .ok (.dup, 1)) : zSnd cl T G N O E own nm bytes nL pc (zS1 (zDup (pc + 1))) := zsnd1 fun st pc1 st1 h p l e R s m args below meth c Q H locs cells slots ls F k => by
  simp only [zDup] at h
  split at h
  · split at h
    · rename_i hc
      cases h
      exact lv_dup F.1 F.2.1 hd (by rw [zV_cat]; exact hc) k
    · cases h
  · cases h
abbrev zPop (pc' : Nat) : List Value → Option (Nat × List Value) := fun st => match st with
  | v :: r => if v.category = 1 then some (pc', r) else none
  | [] => none
theorem zs_pop (hd : decode bytes pc = .ok (.pop, 1)) : zSnd cl T G N O E own nm bytes nL pc (zS1 (zPop (pc + 1))) := zsnd1 fun st pc1 st1 h p l e R s m args below meth c Q H locs cells slots ls F k => by
  simp only [zPop] at h
  split at h
  · split at h
    · rename_i hc
      cases h
      exact lv_pop F.1 F.2.1 hd (by rw [zV_cat]; exact hc) k
    · cases h
  · cases h
abbrev zDup2 (pc' : Nat) : List Value → Option (Nat × List Value) := fun st => match st with
  | a :: b :: r => if a.category = 1 ∧ b.category = 1 then some (pc', a :: b :: a :: b :: r) else none
  | _ => none
theorem zs_dup2 (hd : decode bytes pc = .ok (.dup2, 1)) : zSnd cl T G N O E own nm bytes nL pc (zS1 (zDup2 (pc + 1))) := zsnd1 fun st pc1 st1 h p l e R s m args below meth c Q H locs cells slots ls F k => by
  simp only [zDup2] at h
  split at h
  · split at h
    · rename_i hc
      cases h
      exact lv_dup2_11 F.1 F.2.1 hd (by rw [zV_cat]; exact hc.1) (by rw [zV_cat]; exact hc.2) k
    · cases h
  · cases h
abbrev zIf (g : Int32 → Bool) (t pc' : Nat) : List Value → Option (Nat × List Value) := fun st => match st with
  | .int x :: r => some (if g x = true then t else pc', r)
  | _ => none
abbrev zIcmp (g : Int32 → Int32 → Bool) (t pc' : Nat) : List Value → Option (Nat × List Value) := fun st => match st with
  | .int y :: .int x :: r => some (if g x y = true then t else pc', r)
  | _ => none
theorem zs_if_eq {off : Int} {t : Nat} (ht : (pc : Int) + off = (t : Int)) (hd : decode bytes pc = .ok (.ifCond .eq off, 3)) : zSnd cl T G N O E own nm bytes nL pc (zS1 (zIf (fun x => decide (x = 0)) t (pc + 3))) := zsnd1 fun st pc1 st1 h p l e R s m args below meth c Q H locs cells slots ls F k => by
  simp only [zIf] at h
  split at h
  · cases h
    refine lv_if_eq F.1 F.2.1 hd ht (fun q => ?_) (fun q => ?_)
    · rw [if_pos (by first | exact decide_eq_true q | (simp only [decide_eq_true_eq]; exact q))] at k; exact k
    · rw [if_neg (by simp only [decide_eq_true_eq]; first | exact q | exact not_not_intro q)] at k; exact k
  · cases h
theorem zs_icmp_eq {off : Int} {t : Nat} (ht : (pc : Int) + off = (t : Int)) (hd : decode bytes pc = .ok (.if_icmp .eq off, 3)) : zSnd cl T G N O E own nm bytes nL pc (zS1 (zIcmp (fun x y => decide (x = y)) t (pc + 3))) := zsnd1 fun st pc1 st1 h p l e R s m args below meth c Q H locs cells slots ls F k => by
  simp only [zIcmp] at h
  split at h
  · cases h
    refine lv_icmp_eq F.1 F.2.1 hd ht (fun q => ?_) (fun q => ?_)
    · rw [if_pos (by first | exact decide_eq_true q | (simp only [decide_eq_true_eq]; exact q))] at k; exact k
    · rw [if_neg (by simp only [decide_eq_true_eq]; first | exact q | exact not_not_intro q)] at k; exact k
  · cases h
theorem zs_if_ne {off : Int} {t : Nat} (ht : (pc : Int) + off = (t : Int)) (hd : decode bytes pc = .ok (.ifCond .ne off, 3)) : zSnd cl T G N O E own nm bytes nL pc (zS1 (zIf (fun x => decide (¬ x = 0)) t (pc + 3))) := zsnd1 fun st pc1 st1 h p l e R s m args below meth c Q H locs cells slots ls F k => by
  simp only [zIf] at h
  split at h
  · cases h
    refine lv_if_ne F.1 F.2.1 hd ht (fun q => ?_) (fun q => ?_)
    · rw [if_pos (by first | exact decide_eq_true q | (simp only [decide_eq_true_eq]; exact q))] at k; exact k
    · rw [if_neg (by simp only [decide_eq_true_eq]; first | exact q | exact not_not_intro q)] at k; exact k
  · cases h
theorem zs_icmp_ne {off : Int} {t : Nat} (ht : (pc : Int) + off = (t : Int)) (hd : decode bytes pc = .ok (.if_icmp .ne off, 3)) : zSnd cl T G N O E own nm bytes nL pc (zS1 (zIcmp (fun x y => decide (¬ x = y)) t (pc + 3))) := zsnd1 fun st pc1 st1 h p l e R s m args below meth c Q H locs cells slots ls F k => by
  simp only [zIcmp] at h
  split at h
  · cases h
    refine lv_icmp_ne F.1 F.2.1 hd ht (fun q => ?_) (fun q => ?_)
    · rw [if_pos (by first | exact decide_eq_true q | (simp only [decide_eq_true_eq]; exact q))] at k; exact k
    · rw [if_neg (by simp only [decide_eq_true_eq]; first | exact q | exact not_not_intro q)] at k; exact k
  · cases h
theorem zs_if_lt {off : Int} {t : Nat} (ht : (pc : Int) + off = (t : Int)) (hd : decode bytes pc = .ok (.ifCond .lt off, 3)) : zSnd cl T G N O E own nm bytes nL pc (zS1 (zIf (fun x => decide (x < 0)) t (pc + 3))) := zsnd1 fun st pc1 st1 h p l e R s m args below meth c Q H locs cells slots ls F k => by
  simp only [zIf] at h
  split at h
  · cases h
    refine lv_if_lt F.1 F.2.1 hd ht (fun q => ?_) (fun q => ?_)
    · rw [if_pos (by first | exact decide_eq_true q | (simp only [decide_eq_true_eq]; exact q))] at k; exact k
    · rw [if_neg (by simp only [decide_eq_true_eq]; first | exact q | exact not_not_intro q)] at k; exact k
  · cases h
theorem zs_icmp_lt {off : Int} {t : Nat} (ht : (pc : Int) + off = (t : Int)) (hd : decode bytes pc = .ok (.if_icmp .lt off, 3)) : zSnd cl T G N O E own nm bytes nL pc (zS1 (zIcmp (fun x y => decide (x < y)) t (pc + 3))) := zsnd1 fun st pc1 st1 h p l e R s m args below meth c Q H locs cells slots ls F k => by
  simp only [zIcmp] at h
  split at h
  · cases h
    refine lv_icmp_lt F.1 F.2.1 hd ht (fun q => ?_) (fun q => ?_)
    · rw [if_pos (by first | exact decide_eq_true q | (simp only [decide_eq_true_eq]; exact q))] at k; exact k
    · rw [if_neg (by simp only [decide_eq_true_eq]; first | exact q | exact not_not_intro q)] at k; exact k
  · cases h
theorem zs_if_ge {off : Int} {t : Nat} (ht : (pc : Int) + off = (t : Int)) (hd : decode bytes pc = .ok (.ifCond .ge off, 3)) : zSnd cl T G N O E own nm bytes nL pc (zS1 (zIf (fun x => decide (0 ≤ x)) t (pc + 3))) := zsnd1 fun st pc1 st1 h p l e R s m args below meth c Q H locs cells slots ls F k => by
  simp only [zIf] at h
  split at h
  · cases h
    refine lv_if_ge F.1 F.2.1 hd ht (fun q => ?_) (fun q => ?_)
    · rw [if_pos (by first | exact decide_eq_true q | (simp only [decide_eq_true_eq]; exact q))] at k; exact k
    · rw [if_neg (by simp only [decide_eq_true_eq]; first | exact q | exact not_not_intro q)] at k; exact k
  · cases h
theorem zs_icmp_ge {off : Int} {t : Nat} (ht : (pc : Int) + off = (t : Int)) (hd : decode bytes pc = .ok (.if_icmp .ge off, 3)) : zSnd cl T G N O E own nm bytes nL pc (zS1 (zIcmp (fun x y => decide (y ≤ x)) t (pc + 3))) := zsnd1 fun st pc1 st1 h p l e R s m args below meth c Q H locs cells slots ls F k => by
  simp only [zIcmp] at h
  split at h
  · cases h
    refine lv_icmp_ge F.1 F.2.1 hd ht (fun q => ?_) (fun q => ?_)
    · rw [if_pos (by first | exact decide_eq_true q | (simp only [decide_eq_true_eq]; exact q))] at k; exact k
    · rw [if_neg (by simp only [decide_eq_true_eq]; first | exact q | exact not_not_intro q)] at k; exact k
  · cases h
theorem zs_if_gt {off : Int} {t : Nat} (ht : (pc : Int) + off = (t : Int)) (hd : decode bytes pc = .ok (.ifCond .gt off, 3)) : zSnd cl T G N O E own nm bytes nL pc (zS1 (zIf (fun x => decide (0 < x)) t (pc + 3))) := zsnd1 fun st pc1 st1 h p l e R s m args below meth c Q H locs cells slots ls F k => by
  simp only [zIf] at h
  split at h
  · cases h
    refine lv_if_gt F.1 F.2.1 hd ht (fun q => ?_) (fun q => ?_)
    · rw [if_pos (by first | exact decide_eq_true q | (simp only [decide_eq_true_eq]; exact q))] at k; exact k
    · rw [if_neg (by simp only [decide_eq_true_eq]; first | exact q | exact not_not_intro q)] at k; exact k
  · cases h
theorem zs_icmp_gt {off : Int} {t : Nat} (ht : (pc : Int) + off = (t : Int)) (hd : decode bytes pc = .ok (.if_icmp .gt off, 3)) : zSnd cl T G N O E own nm bytes nL pc (zS1 (zIcmp (fun x y => decide (y < x)) t (pc + 3))) := zsnd1 fun st pc1 st1 h p l e R s m args below meth c Q H locs cells slots ls F k => by
  simp only [zIcmp] at h
  split at h
  · cases h
    refine lv_icmp_gt F.1 F.2.1 hd ht (fun q => ?_) (fun q => ?_)
    · rw [if_pos (by first | exact decide_eq_true q | (simp only [decide_eq_true_eq]; exact q))] at k; exact k
    · rw [if_neg (by simp only [decide_eq_true_eq]; first | exact q | exact not_not_intro q)] at k; exact k
  · cases h
theorem zs_if_le {off : Int} {t : Nat} (ht : (pc : Int) + off = (t : Int)) (hd : decode bytes pc = .ok (.ifCond .le off, 3)) : zSnd cl T G N O E own nm bytes nL pc (zS1 (zIf (fun x => decide (x ≤ 0)) t (pc + 3))) := zsnd1 fun st pc1 st1 h p l e R s m args below meth c Q H locs cells slots ls F k => by
  simp only [zIf] at h
  split at h
  · cases h
    refine lv_if_le F.1 F.2.1 hd ht (fun q => ?_) (fun q => ?_)
    · rw [if_pos (by first | exact decide_eq_true q | (simp only [decide_eq_true_eq]; exact q))] at k; exact k
    · rw [if_neg (by simp only [decide_eq_true_eq]; first | exact q | exact not_not_intro q)] at k; exact k
  · cases h
theorem zs_icmp_le {off : Int} {t : Nat} (ht : (pc : Int) + off = (t : Int)) (hd : decode bytes pc = .ok (.if_icmp .le off, 3)) : zSnd cl T G N O E own nm bytes nL pc (zS1 (zIcmp (fun x y => decide (x ≤ y)) t (pc + 3))) := zsnd1 fun st pc1 st1 h p l e R s m args below meth c Q H locs cells slots ls F k => by
  simp only [zIcmp] at h
  split at h
  · cases h
    refine lv_icmp_le F.1 F.2.1 hd ht (fun q => ?_) (fun q => ?_)
    · rw [if_pos (by first | exact decide_eq_true q | (simp only [decide_eq_true_eq]; exact q))] at k; exact k
    · rw [if_neg (by simp only [decide_eq_true_eq]; first | exact q | exact not_not_intro q)] at k; exact k
  · cases h
abbrev zGo (t : Nat) : List Value → Option (Nat × List Value) := fun st => some (t, st)
theorem zs_goto {off : Int} {t : Nat} (ht : (pc : Int) + off = (t : Int)) (hd : decode bytes pc = .ok (.goto off, 3)) : zSnd cl T G N O E own nm bytes nL pc (zS1 (zGo t)) := zsnd1 fun st pc1 st1 h p l e R s m args below meth c Q H locs cells slots ls F k => by
  cases h
  exact lv_goto F.1 F.2.1 hd ht k
abbrev zTab (lo hi : Int) (tl : List Nat) (t : Nat) : List Value → Option (Nat × List Value) := fun st => match st with
  | .int x :: r => if x.toInt < lo ∨ hi < x.toInt then some (t, r) else match tl[(x.toInt - lo).toNat]? with
    | some t' => some (t', r)
    | none => none
  | _ => none
theorem zs_tab {dflt lo hi : Int} {offs : Array Int} {len t : Nat} {tl : List Nat} (ht : (pc : Int) + dflt = (t : Int)) (ho : tl.map (fun (t : Nat) => Int.ofNat t - (pc : Int)) = offs.toList) (hd : decode bytes pc = .ok (.tableswitch dflt lo hi offs, len)) : zSnd cl T G N O E own nm bytes nL pc (zS1 (zTab lo hi tl t)) := zsnd1 fun st pc1 st1 h p l e R s m args below meth c Q H locs cells slots ls F k => by
  simp only [zTab] at h
  split at h
  · split at h
    · rename_i hq
      cases h
      exact lv_tableOut F.1 F.2.1 hd hq ht k
    · rename_i hq
      split at h
      · rename_i t' hk
        cases h
        refine lv_tableIn (off := (pc1 : Int) - (pc : Int)) F.1 F.2.1 hd (fun z => hq (Or.inl z)) (fun z => hq (Or.inr z)) ?_ (by omega) k
        rw [← Array.getElem?_toList, ← ho, List.getElem?_map, hk]
        rfl
      · cases h
  · cases h
end ZSTK
