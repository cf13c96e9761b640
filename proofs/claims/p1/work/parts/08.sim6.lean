/-! THE SMALL MACHINE's RUN, and what each of its entries owes -/
/-- an entry: a step; a return (0 nothing, 1 int, 2 long, 3 double, 4 a reference, 5 boolean); a throw; a call (method, arguments with the receiver, kind) -/
abbrev zI : Type := zOp ⊕ (Nat ⊕ (String ⊕ (Nat × Nat × Nat)))
def zRk (r : Nat) (v : Value) : Bool := match v with
  | .int x => r == 1 || (r == 5 && (x == 0 || x == 1))
  | .long _ => r == 2
  | .double _ => r == 3
  | .ref _ => r == 4
  | .null => r == 4
  | _ => false
/-- whether a call can be made: enough on the stack, room in the callee's locals, little below, the receiver of its class -/
def zCan (nl cc : Nat → Nat) (μ n kd : Nat) (st : List Value) (h : zH) : Bool :=
  Nat.ble n st.length && Nat.ble (lg_sl (st.take n).reverse).length (nl μ) && Nat.ble ((st.drop n).map fun v => v.category).sum 8 &&
  (kd == 2 || kd == 3 || kd == 6 || match (st.take n).reverse with
    | .ref b :: _ => Nat.blt b h.2.1 && (match h.1 b with
      | .inr (c, _) => c == cc μ
      | .inl _ => false)
    | _ => false)
def zdead (h : zH) : zH := (h.1, h.2.1, h.2.2.1 + 1, h.2.2.2.1 + 6, false)
def zrun (nl cc : Nat → Nat) (nh : Nat → Bool) (code : Nat → Nat → Option zI) (hn : Nat → Nat → String → Option (Nat × Nat)) : Nat → Nat → Nat → Nat → zLoc → List Value → zH → Option ((Option Value ⊕ String) × zH)
  | 0, _, _, _, _, _, _ => none
  | k + 1, d, μ, pc, L, st, h => match code μ pc with
    | none => none
    | some (.inl op) => match op L st h with
      | none => none
      | some (pc', L', st', h') => zrun nl cc nh code hn k d μ pc' L' st' h'
    | some (.inr (.inl r)) => match r, st with
      | 0, [] => some (.inl none, h)
      | r + 1, [v] => if zRk (r + 1) v = true then some (.inl (some v), h) else none
      | _, _ => none
    | some (.inr (.inr (.inl Ex))) => if Nat.ble 6 d && nh μ && Nat.ble (st.map fun v => v.category).sum 8 then some (.inr Ex, zdead h) else none
    | some (.inr (.inr (.inr (μ', n, kd)))) => match d with
      | 0 => none
      | d' + 1 => if zCan nl cc μ' n kd st h = true then
          match zrun nl cc nh code hn k d' μ' 0 (lv_args 0 (st.take n).reverse) [] h with
          | none => none
          | some (.inl v, h') => zrun nl cc nh code hn k (d' + 1) μ (pc + 3) L (v.toList ++ st.drop n) h'
          | some (.inr Ex, h') => match hn μ pc Ex with
            | some (pc', x) => zrun nl cc nh code hn k (d' + 1) μ pc' (zF1 x L) [] h'
            | none => if nh μ = true then some (.inr Ex, h') else none
        else none
def zcw (y : MethodName) (b : ByteArray) (n : Nat) (rt : Option FieldType) (hh : List (Nat × Nat × Nat × Nat)) : Cond := match hh with
  | [] => .code y b n rt
  | hh => .codeWith y b n rt hh
def zrm (d mc ms : Nat) : Room := { frames := d + 1, cells := mc, slots := ms, locals := 41 * d + 40 }
def zRetOK (r : Nat) (rt : Option FieldType) (bytes : ByteArray) (pc : Nat) : Prop :=
  (r = 0 ∧ rt = none ∧ decode bytes pc = .ok (.return_, 1)) ∨ (r = 1 ∧ rt = some .int ∧ decode bytes pc = .ok (.ireturn, 1)) ∨ (r = 2 ∧ rt = some .long ∧ decode bytes pc = .ok (.lreturn, 1)) ∨
  (r = 3 ∧ rt = some .double ∧ decode bytes pc = .ok (.dreturn, 1)) ∨ (r = 4 ∧ (∃ t, rt = some t ∧ ((∃ n, t = .object n) ∨ ∃ u, t = .array u)) ∧ decode bytes pc = .ok (.areturn, 1)) ∨ (r = 5 ∧ rt = some .boolean ∧ decode bytes pc = .ok (.ireturn, 1))
/-- a call's road from the callee's contract -/
def zCallSnd (cl : List vw_C) (T : List FieldType) (G N : List Cond) (O : Nat → State → Heap → Prop) (E : zE) (own nm : String) (bytes : ByteArray) (nL pc : Nat) (y : MethodName) (b : ByteArray) (n' : Nat) (rt : Option FieldType) (hh : List (Nat × Nat × Nat × Nat)) (n kd : Nat) : Prop :=
  ∀ (p : Program) (l : Launch) (e : Env) (R : Room) (s : State) (m : MethodId) (args : Array Value) (below : List Frame) (meth : Method) (c : Code) (H : Heap) (locs : List Loc) (cells slots mc ms d : Nat) (ls : Array Slot) (vs rest : List Value) (Pc : Array Value → State → Prop) (Qc : Array Value → State → Outcome → State → Prop) (XC : String → State → State → Prop),
    zF cl T G N O E own nm bytes nL p s m args meth c → vx_Met l y (zcw y b n' rt hh :: G) (zrm d mc ms) Pc Qc XC mc ms (zA E) → FrameBlind Pc → (∀ U : State, U.heap = H → s.WarmedH U.vm → Pc vs.toArray U) →
    vs.length = n → ls.size = nL → (rest.map fun v => v.category).sum ≤ 8 → d + 2 ≤ R.frames → 8 + (n' + 11) + (41 * d + 40) ≤ R.locals → cells + mc ≤ R.cells → slots + ms ≤ R.slots →
    ((kd ≠ 2 ∧ kd ≠ 3 ∧ kd ≠ 6) → ∃ (b0 : Nat) (As : List Value) (cellB : Cell), vs = .ref b0 :: As ∧ H[b0]? = some cellB ∧ cellB.vm.isStatics = false ∧ ((kd = 0 ∨ kd = 1) → s.vm.findClass y.cls = some cellB.cls)) →
    vx_Run p l e R s m args below meth c H locs cells slots mc ms (F0 m pc ls (vs.reverse ++ rest)) rest (Qc vs.toArray) XC (zA E)
/-- a throw's road -/
def zThrSnd (cl : List vw_C) (T : List FieldType) (G N : List Cond) (O : Nat → State → Heap → Prop) (E : zE) (own nm : String) (bytes : ByteArray) (nL pc : Nat) (Ex : String) (hh : List (Nat × Nat × Nat × Nat)) (l : Launch) : Prop :=
  ∀ (p : Program) (e : Env) (R : Room) (s : State) (m : MethodId) (args : Array Value) (below : List Frame) (meth : Method) (c : Code) (H : Heap) (locs : List Loc) (cells slots mc ms : Nat) (ls : Array Slot) (rest : List Value) (Qc : Array Value → State → Outcome → State → Prop) (XC : String → State → State → Prop),
    zF cl T G N O E own nm bytes nL p s m args meth c → c.exceptionTable.toList = tableOf hh → va_S (zA E) s.heap H locs → ls.size = nL → (rest.map fun v => v.category).sum ≤ 8 → 7 ≤ R.frames → 120 ≤ R.locals → cells + 1 ≤ R.cells → slots + 6 ≤ R.slots → cells + 1 ≤ mc → slots + 6 ≤ ms →
    (∀ t : State, s.vm.Alike t.vm → H.size ≤ t.heap.size → (∀ q : Nat, q < H.size → t.heap[q]? = H[q]?) → XC Ex s t) →
    W p l e R s m args below meth c H locs cells slots (vx_MQ below Qc XC args s mc ms (zA E)) (F0 m pc ls rest)
/-- a handler's road: caught at pc, stored, on at pc' -/
def zHndSnd (cl : List vw_C) (T : List FieldType) (G N : List Cond) (O : Nat → State → Heap → Prop) (E : zE) (own nm : String) (bytes : ByteArray) (nL pc : Nat) (Ex : String) (pc' x : Nat) (hh : List (Nat × Nat × Nat × Nat)) : Prop :=
  ∀ (p : Program) (l : Launch) (e : Env) (R : Room) (s : State) (m : MethodId) (args : Array Value) (below : List Frame) (meth : Method) (c : Code) (Q : State → Prop) (H : Heap) (locs : List Loc) (cells slots : Nat) (ls : Array Slot) (rest : List Value) (q : Nat) (ce : Cell) (lv : List (Nat × Value)),
    zF cl T G N O E own nm bytes nL p s m args meth c → c.exceptionTable.toList = tableOf hh → lv_has ls nL lv → H[q]? = some ce → ce.vm = .none → s.vm.findClass Ex = some ce.cls →
    (∀ ls', lv_has ls' nL (lv.filter (fun q => !(q.1 == x) && !(q.1 + 1 == x && q.2.category == 2))) → W p l e R s m args below meth c H locs cells slots Q (F0 m pc' ls' [])) →
    vx_W p l e R s m args below meth c H locs cells slots Q (F0 m pc ls rest) q
def zNok (w : Cond) : Bool := match w with
  | .fieldLinkNest _ _ _ _ _ _ => true
  | .methodLinkNest _ _ _ _ => true
  | .arrayOver (.object _) => true
  | _ => false
theorem zNw_warm {w : Cond} (hw : zNok w = true) {s U : State} (hW : s.WarmedH U.vm) (h : va_Nw w s) : va_Nw w U := by
  unfold zNok at hw
  split at hw
  · exact va_Nw.warmF hW h
  · exact va_Nw.warmM hW h
  · exact va_AO.moved hW.alike h
  · cases hw
