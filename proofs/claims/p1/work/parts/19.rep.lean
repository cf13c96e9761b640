/-! THE SCRIPT's INTS BY REPRESENTATIVES: a run in which some ints stand for places of the script, of which only classes are known -/
/-- an int that stands for itself -/
def zpl (v : Value) : Bool := match v with
  | .int r => Nat.blt r.toUInt32.toNat 1000000 || Nat.ble 4293967296 r.toUInt32.toNat
  | _ => true
/-- what an int that doesn't stand for itself stands for: 0 anything, 1 not zero, 2 at least the place's border, 3 (the first place) with these five low bits, 4 negative; and the place, or the bits -/
def zmg (r : Int32) : Nat × Nat :=
  let n := r.toUInt32.toNat
  if n < 1000100 then (0, n - 1000000) else if n < 2000000 then (9, 0) else if n < 2000100 then (1, n - 2000000) else if n < 3000000 then (9, 0) else if n < 3000100 then (2, n - 3000000) else if n < 6400000 then (9, 0)
  else if n < 6400032 then (3, n - 6400000) else if n < 4291967196 then (9, 0) else if n < 4291967296 then (4, n - 4291967196) else (9, 0)
def zcl (xs : Nat → Int32) (th : Nat → Nat) (q : Nat × Nat) (x : Int32) : Prop := match q with
  | (0, j) => x = xs j
  | (1, j) => x = xs j ∧ ¬ x = 0
  | (2, j) => x = xs j ∧ (th j : Int) ≤ x.toInt ∧ 1 ≤ th j
  | (3, o) => x = xs 0 ∧ x &&& 31 = Int32.ofNat o
  | (4, j) => x = xs j ∧ x.toInt < 0
  | _ => False
/-- the real value and the one that stands for it -/
def zvr (xs : Nat → Int32) (th : Nat → Nat) (v w : Value) : Prop := (zpl w = true ∧ v = w) ∨ ∃ x r, w = .int r ∧ zpl w = false ∧ v = .int x ∧ zcl xs th (zmg r) x
def zall {α β : Type} (R : α → β → Prop) : List α → List β → Prop
  | [], [] => True
  | a :: r, b :: s => R a b ∧ zall R r s
  | _, _ => False
theorem zall_ind {α β : Type} {R : α → β → Prop} {P : List α → List β → Prop} (hn : P [] []) (hc : ∀ a b r s, R a b → zall R r s → P r s → P (a :: r) (b :: s)) : ∀ (r : List α) (s : List β), zall R r s → P r s
  | [], [], _ => hn
  | a :: r, b :: s, h => hc a b r s h.1 h.2 (zall_ind hn hc r s h.2)
  | [], _ :: _, h => h.elim
  | _ :: _, [], h => h.elim
def zsr (xs : Nat → Int32) (th : Nat → Nat) (st' st : List Value) : Prop := zall (zvr xs th) st' st
def zlr (xs : Nat → Int32) (th : Nat → Nat) (L' L : zLoc) : Prop := zall (fun p q => p.1 = q.1 ∧ zvr xs th p.2 q.2) L' L
theorem zsr.nl {xs : Nat → Int32} {th : Nat → Nat} : zsr xs th [] [] := trivial
theorem zsr.cs {xs : Nat → Int32} {th : Nat → Nat} {v w : Value} {a b : List Value} (h : zvr xs th v w) (h2 : zsr xs th a b) : zsr xs th (v :: a) (w :: b) := ⟨h, h2⟩
theorem zlr.nl {xs : Nat → Int32} {th : Nat → Nat} : zlr xs th [] [] := trivial
theorem zlr.cs {xs : Nat → Int32} {th : Nat → Nat} {p q : Nat × Value} {a b : zLoc} (h : p.1 = q.1 ∧ zvr xs th p.2 q.2) (h2 : zlr xs th a b) : zlr xs th (p :: a) (q :: b) := ⟨h, h2⟩
theorem zsr.inv0 {xs : Nat → Int32} {th : Nat → Nat} {a : List Value} (h : zsr xs th a []) : a = [] := by
  cases a with
  | nil => rfl
  | cons v r => exact h.elim
theorem zsr.inv {xs : Nat → Int32} {th : Nat → Nat} {a b : List Value} {w : Value} (h : zsr xs th a (w :: b)) : ∃ v r, a = v :: r ∧ zvr xs th v w ∧ zsr xs th r b := by
  cases a with
  | nil => exact h.elim
  | cons v r => exact ⟨v, r, rfl, h.1, h.2⟩
section ZREP
variable {xs : Nat → Int32} {th : Nat → Nat}
theorem zvr.pl {v w : Value} (h : zvr xs th v w) (hw : zpl w = true) : v = w := by
  rcases h with ⟨-, h⟩ | ⟨x, r, -, h, -⟩
  · exact h
  · rw [hw] at h; cases h
theorem zvr.of {w : Value} (hw : zpl w = true) : zvr xs th w w := Or.inl ⟨hw, rfl⟩
theorem zvr.cat {v w : Value} (h : zvr xs th v w) : v.category = w.category := by
  rcases h with ⟨-, h⟩ | ⟨x, r, h1, -, h2, -⟩
  · rw [h]
  · rw [h1, h2]; rfl
theorem zvr.ni {v w : Value} (h : zvr xs th v w) (hw : ∀ r, w ≠ .int r) : v = w := by
  rcases h with ⟨-, h⟩ | ⟨x, r, h1, -, h2, -⟩
  · exact h
  · exact absurd h1 (hw r)
theorem zvr.int {v : Value} {r : Int32} (h : zvr xs th v (.int r)) : ∃ x, v = .int x := by
  rcases h with ⟨-, h⟩ | ⟨x, r', -, -, h2, -⟩
  · exact ⟨r, h⟩
  · exact ⟨x, h2⟩
theorem zsr.pl {st' st : List Value} (h : zsr xs th st' st) (hp : st.all zpl = true) : st' = st := by
  refine zall_ind (R := zvr xs th) (P := fun a b => b.all zpl = true → a = b) (fun _ => rfl) (fun a b r s h1 _ ih hp => ?_) st' st h hp
  simp only [List.all_cons, Bool.and_eq_true] at hp
  rw [h1.pl hp.1, ih hp.2]
theorem zsr.of {st : List Value} (hp : st.all zpl = true) : zsr xs th st st := by
  induction st with
  | nil => exact zsr.nl
  | cons a r ih =>
    simp only [List.all_cons, Bool.and_eq_true] at hp
    exact zsr.cs (zvr.of hp.1) (ih hp.2)
theorem zlr.pl {L' L : zLoc} (h : zlr xs th L' L) (hp : (L.all fun q => zpl q.2) = true) : L' = L := by
  refine zall_ind (R := fun p q : Nat × Value => p.1 = q.1 ∧ zvr xs th p.2 q.2) (P := fun a b => (b.all fun q => zpl q.2) = true → a = b) (fun _ => rfl) (fun a b r s h1 _ ih hp => ?_) L' L h hp
  simp only [List.all_cons, Bool.and_eq_true] at hp
  rw [ih hp.2, Prod.ext h1.1 (h1.2.pl hp.1)]
theorem zlr.of {L : zLoc} (hp : (L.all fun q => zpl q.2) = true) : zlr xs th L L := by
  induction L with
  | nil => exact zlr.nl
  | cons a r ih =>
    simp only [List.all_cons, Bool.and_eq_true] at hp
    exact zlr.cs ⟨rfl, zvr.of hp.1⟩ (ih hp.2)
theorem zsr.len {st' st : List Value} (h : zsr xs th st' st) : st'.length = st.length := by
  exact zall_ind (R := zvr xs th) (P := fun a b => a.length = b.length) rfl (fun a b r s _ _ ih => by rw [List.length_cons, List.length_cons, ih]) st' st h
theorem zsr.cats {st' st : List Value} (h : zsr xs th st' st) : st'.map (fun v => v.category) = st.map fun v => v.category := by
  exact zall_ind (R := zvr xs th) (P := fun a b => a.map (fun v => v.category) = b.map fun v => v.category) rfl (fun a b r s h1 _ ih => by rw [List.map_cons, List.map_cons, ih, h1.cat]) st' st h
theorem zsr.take {st' st : List Value} (h : zsr xs th st' st) (n : Nat) : zsr xs th (st'.take n) (st.take n) := by
  refine zall_ind (R := zvr xs th) (P := fun a b => ∀ n, zsr xs th (a.take n) (b.take n)) (fun n => by cases n <;> exact zsr.nl) (fun a b r s h1 _ ih n => ?_) st' st h n
  cases n with
  | zero => exact zsr.nl
  | succ n => exact zsr.cs h1 (ih n)
theorem zsr.drop {st' st : List Value} (h : zsr xs th st' st) (n : Nat) : zsr xs th (st'.drop n) (st.drop n) := by
  refine zall_ind (R := zvr xs th) (P := fun a b => ∀ n, zsr xs th (a.drop n) (b.drop n)) (fun n => by cases n <;> exact zsr.nl) (fun a b r s h1 h2 ih n => ?_) st' st h n
  cases n with
  | zero => exact zsr.cs h1 h2
  | succ n => exact ih n
theorem zsr.app {a' a b' b : List Value} (h : zsr xs th a' a) (h2 : zsr xs th b' b) : zsr xs th (a' ++ b') (a ++ b) := by
  exact zall_ind (R := zvr xs th) (P := fun x y => zsr xs th (x ++ b') (y ++ b)) h2 (fun _ _ _ _ h1 _ ih => zsr.cs h1 ih) a' a h
theorem zsr.rev {st' st : List Value} (h : zsr xs th st' st) : zsr xs th st'.reverse st.reverse := by
  exact zall_ind (R := zvr xs th) (P := fun x y => zsr xs th x.reverse y.reverse) zsr.nl (fun _ _ _ _ h1 _ ih => by
    rw [List.reverse_cons, List.reverse_cons]
    exact zsr.app ih (zsr.cs h1 zsr.nl)) st' st h
theorem zlr.args {vs' vs : List Value} (h : zsr xs th vs' vs) (i : Nat) : zlr xs th (lv_args i vs') (lv_args i vs) := by
  exact zall_ind (R := zvr xs th) (P := fun x y => ∀ i, zlr xs th (lv_args i x) (lv_args i y)) (fun _ => zlr.nl) (fun _ _ _ _ h1 _ ih i => by
    rw [lv_args, lv_args, h1.cat]
    exact zlr.cs ⟨rfl, h1⟩ (ih _)) vs' vs h i
theorem zlr.get {L' L : zLoc} (h : zlr xs th L' L) {i : Nat} {w : Value} (hw : zget L i = some w) : ∃ v, zget L' i = some v ∧ zvr xs th v w := by
  refine zall_ind (R := fun p q : Nat × Value => p.1 = q.1 ∧ zvr xs th p.2 q.2) (P := fun a b => zget b i = some w → ∃ v, zget a i = some v ∧ zvr xs th v w) (fun hw => by cases hw) (fun a b r s h1 _ ih hw => ?_) L' L h hw
  rw [zget] at hw ⊢
  rw [h1.1]
  split at hw
  · rename_i hi
    cases hw
    rw [if_pos hi]
    exact ⟨_, rfl, h1.2⟩
  · rename_i hi
    rw [if_neg hi]
    exact ih hw
theorem zlr.filt {L' L : zLoc} (h : zlr xs th L' L) (f : Nat → Nat → Bool) : zlr xs th (L'.filter fun q => f q.1 q.2.category) (L.filter fun q => f q.1 q.2.category) := by
  refine zall_ind (R := fun p q : Nat × Value => p.1 = q.1 ∧ zvr xs th p.2 q.2) (P := fun a b => zlr xs th (a.filter fun q => f q.1 q.2.category) (b.filter fun q => f q.1 q.2.category)) zlr.nl (fun a b r s h1 _ ih => ?_) L' L h
  rw [List.filter_cons, List.filter_cons, h1.1, h1.2.cat]
  split
  · exact zlr.cs h1 ih
  · exact ih
theorem zlr.f1 {L' L : zLoc} (h : zlr xs th L' L) (i : Nat) : zlr xs th (zF1 i L') (zF1 i L) := h.filt fun a c => !(a == i) && !(a + 1 == i && c == 2)
theorem zlg_cats {a b : List Value} (h : a.map (fun v => v.category) = b.map fun v => v.category) : (lg_sl a).length = (lg_sl b).length := by
  induction a generalizing b with
  | nil => cases b with
    | nil => rfl
    | cons y b => cases h
  | cons x a ih => cases b with
    | nil => cases h
    | cons y b =>
      rw [List.map_cons, List.map_cons] at h
      injection h with h1 h2
      have := ih h2
      simp only [lg_sl, List.flatMap_cons, List.length_append] at this ⊢
      rw [this, h1]
      split <;> rfl
end ZREP
/-- what is known of a comparison -/
def zlt (th : Nat → Nat) (v w : Value) : Option Bool := match v, w with
  | .int x, .int y => if zpl (.int x) = true then (if zpl (.int y) = true then some (decide (x < y)) else if 0 ≤ x.toInt then (match zmg y with
      | (4, _) => some false
      | (2, j) => if x.toInt < (th j : Int) then some true else none
      | _ => none) else none)
    else if zpl (.int y) = true ∧ 0 ≤ y.toInt then (match zmg x with
      | (4, _) => some true
      | (2, j) => if y.toInt ≤ (th j : Int) then some false else none
      | _ => none) else none
  | _, _ => none
def zeq (th : Nat → Nat) (v w : Value) : Option Bool := match v, w with
  | .int x, .int y => if zpl (.int y) = true then (if zpl (.int x) = true then some (decide (x = y)) else match zmg x with
      | (4, _) => if 0 ≤ y.toInt then some false else none
      | (2, j) => if y.toInt < (th j : Int) then some false else none
      | (1, _) => if y = 0 then some false else none
      | _ => none)
    else none
  | _, _ => none
section ZREP2
variable {xs : Nat → Int32} {th : Nat → Nat}
theorem zvr.cases {v : Value} {r : Int32} (h : zvr xs th v (.int r)) : (zpl (.int r) = true ∧ v = .int r) ∨ ∃ x, zpl (.int r) = false ∧ v = .int x ∧ zcl xs th (zmg r) x := by
  rcases h with ⟨h1, h2⟩ | ⟨x, r', h1, h2, h3, h4⟩
  · exact Or.inl ⟨h1, h2⟩
  · cases h1
    exact Or.inr ⟨x, h2, h3, h4⟩
theorem zlt_ok {v w : Value} {a b : Int32} (hv : zvr xs th v (.int a)) (hw : zvr xs th w (.int b)) {r : Bool} (h : zlt th (.int a) (.int b) = some r) : ∃ x y, v = .int x ∧ w = .int y ∧ decide (x < y) = r := by
  rcases hv.cases with ⟨p1, rfl⟩ | ⟨x, p1, rfl, c1⟩
  · rcases hw.cases with ⟨p2, rfl⟩ | ⟨y, p2, rfl, c2⟩
    · refine ⟨a, b, rfl, rfl, ?_⟩
      simp only [zlt, p1, p2, if_true] at h
      exact Option.some.inj h
    · refine ⟨a, y, rfl, rfl, ?_⟩
      simp only [zlt, p1, p2, if_true, Bool.false_eq_true, if_false] at h
      split at h
      · rename_i h0
        split at h
        · rename_i j hm
          cases h
          rw [hm] at c2
          have c3 : y.toInt < 0 := c2.2
          rw [decide_eq_false_iff_not, Int32.lt_iff_toInt_lt]
          omega
        · rename_i j hm
          rw [hm] at c2
          have c3 : (th j : Int) ≤ y.toInt := c2.2.1
          split at h
          · rename_i h1
            cases h
            rw [decide_eq_true_iff, Int32.lt_iff_toInt_lt]
            omega
          · cases h
        · cases h
      · cases h
  · rcases hw.cases with ⟨p2, rfl⟩ | ⟨y, p2, rfl, c2⟩
    · refine ⟨x, b, rfl, rfl, ?_⟩
      simp only [zlt, p1, p2, Bool.false_eq_true, if_false, true_and] at h
      split at h
      · rename_i h0
        split at h
        · rename_i j hm
          cases h
          rw [hm] at c1
          have c3 : x.toInt < 0 := c1.2
          rw [decide_eq_true_iff, Int32.lt_iff_toInt_lt]
          omega
        · rename_i j hm
          rw [hm] at c1
          have c3 : (th j : Int) ≤ x.toInt := c1.2.1
          split at h
          · rename_i h1
            cases h
            rw [decide_eq_false_iff_not, Int32.lt_iff_toInt_lt]
            omega
          · cases h
        · cases h
      · cases h
    · simp [zlt, p1, p2] at h
theorem zeq_ok {v w : Value} {a b : Int32} (hv : zvr xs th v (.int a)) (hw : zvr xs th w (.int b)) {r : Bool} (h : zeq th (.int a) (.int b) = some r) : ∃ x y, v = .int x ∧ w = .int y ∧ decide (x = y) = r := by
  rcases hw.cases with ⟨p2, rfl⟩ | ⟨y, p2, rfl, c2⟩
  · rcases hv.cases with ⟨p1, rfl⟩ | ⟨x, p1, rfl, c1⟩
    · refine ⟨a, b, rfl, rfl, ?_⟩
      simp only [zeq, p1, p2, if_true] at h
      exact Option.some.inj h
    · refine ⟨x, b, rfl, rfl, ?_⟩
      simp only [zeq, p1, p2, if_true, Bool.false_eq_true, if_false] at h
      split at h
      · rename_i j hm
        rw [hm] at c1
        have c3 : x.toInt < 0 := c1.2
        split at h
        · cases h
          rw [decide_eq_false_iff_not]
          intro e
          rw [e] at c3
          omega
        · cases h
      · rename_i j hm
        rw [hm] at c1
        have c3 : (th j : Int) ≤ x.toInt := c1.2.1
        split at h
        · cases h
          rw [decide_eq_false_iff_not]
          intro e
          rw [e] at c3
          omega
        · cases h
      · rename_i j hm
        rw [hm] at c1
        have c3 : ¬ x = 0 := c1.2
        split at h
        · rename_i h0
          cases h
          rw [decide_eq_false_iff_not]
          intro e
          exact c3 (e.trans h0)
        · cases h
      · cases h
  · simp [zeq, p2] at h
end ZREP2
/-- a step whose values may stand for others: (kind, target, next) -/
def zcmp (th : Nat → Nat) (k : Nat) (st : List Value) : Option (Bool × List Value) := match k, st with
  | 3, v :: r => (zeq th v (.int 0)).map (·, r)
  | 4, v :: r => (zeq th v (.int 0)).map (!·, r)
  | 5, v :: r => (zlt th v (.int 0)).map (·, r)
  | 6, v :: r => (zlt th v (.int 0)).map (!·, r)
  | 7, v :: r => (zlt th (.int 0) v).map (·, r)
  | 8, v :: r => (zlt th (.int 0) v).map (!·, r)
  | 9, w :: v :: r => (zeq th v w).map (·, r)
  | 10, w :: v :: r => (zeq th v w).map (!·, r)
  | 11, w :: v :: r => (zlt th v w).map (·, r)
  | 12, w :: v :: r => (zlt th v w).map (!·, r)
  | 13, w :: v :: r => (zlt th w v).map (·, r)
  | 14, w :: v :: r => (zlt th w v).map (!·, r)
  | _, _ => none
def zstepG (th : Nat → Nat) (q : Nat × Nat × Nat) (op : zOp) (L : zLoc) (st : List Value) (h : zH) : Option (Nat × zLoc × List Value × zH) := match q.1 with
  | 0 => if (st.all zpl && L.all fun r => zpl r.2) = true then (match op L st h with
    | some (pc1, L1, st1, h1) => if (st1.all zpl && L1.all fun r => zpl r.2) = true then some (pc1, L1, st1, h1) else none
    | none => none) else none
  | 1 => op L st h
  | 2 => match st with
    | v :: w :: r => if (zpl v && zpl w) = true then (match op L st h with
      | some (pc1, L1, u :: r1, h1) => if zpl u = true then some (pc1, L1, u :: r1, h1) else none
      | _ => none) else none
    | _ => none
  | 15 => match st with
    | .int c :: .int a :: r => if c = 31 ∧ zpl (.int a) = false ∧ (zmg a).1 = 3 ∧ (zmg a).2 < 32 then some (q.2.2, L, .int (Int32.ofNat (zmg a).2) :: r, h) else none
    | _ => none
  | 16 => match st with
    | v :: r => if zpl v = true then op L st h else none
    | _ => none
  | 17 => match st with
    | v :: r => if zpl v = true then (match op L st h with
      | some (pc1, L1, u :: r1, h1) => if zpl u = true then some (pc1, L1, u :: r1, h1) else none
      | _ => none) else none
    | _ => none
  | 18 => match st with
    | v :: w :: r => if (zpl v && zpl w) = true then op L st h else none
    | _ => none
  | k => match zcmp th k st with
    | some (b, r) => some (if b = true then q.2.1 else q.2.2, L, r, h)
    | none => none
def zGK (xs : Nat → Int32) (th : Nat → Nat) (q : Nat × Nat × Nat) (op op' : zOp) : Prop := ∀ (L : zLoc) (st : List Value) (h : zH) (L' : zLoc) (st' : List Value), zlr xs th L' L → zsr xs th st' st → ∀ pc1 L1 st1 h1, zstepG th q op L st h = some (pc1, L1, st1, h1) →
  ∃ L1' st1', op' L' st' h = some (pc1, L1', st1', h1) ∧ zlr xs th L1' L1 ∧ zsr xs th st1' st1
section ZREP3
variable {xs : Nat → Int32} {th : Nat → Nat}
theorem zgk0 {a b : Nat} {op : zOp} : zGK xs th (0, a, b) op op := by
  intro L st h L' st' hL hS pc1 L1 st1 h1 hg
  simp only [zstepG] at hg
  split at hg
  · rename_i hp
    simp only [Bool.and_eq_true] at hp
    rw [hL.pl hp.2, hS.pl hp.1]
    split at hg
    · rename_i q1 q2 q3 q4 hop
      split at hg
      · rename_i hp2
        simp only [Bool.and_eq_true] at hp2
        cases hg
        exact ⟨_, _, hop, zlr.of hp2.2, zsr.of hp2.1⟩
      · cases hg
    · cases hg
  · cases hg
def zfv (xs : Nat → Int32) (th : Nat → Nat) (f : Value → Bool) : Prop := ∀ v w, zvr xs th v w → f v = f w
theorem zfv_of {f : Value → Bool} (hf : ∀ x y : Int32, f (.int x) = f (.int y)) : zfv xs th f := by
  intro v w h
  rcases h with ⟨-, h⟩ | ⟨x, r, h1, -, h2, -⟩
  · rw [h]
  · rw [h1, h2]; exact hf _ _
theorem zgk_ld {a b p i : Nat} {f : Value → Bool} (hf : ∀ x y : Int32, f (.int x) = f (.int y)) : zGK xs th (1, a, b) (zLd f p i) (zLd f p i) := by
  intro L st h L' st' hL hS pc1 L1 st1 h1 hg
  simp only [zstepG, zLd] at hg
  split at hg
  · rename_i w hw
    split at hg
    · rename_i hfw
      cases hg
      obtain ⟨v, hv, hr⟩ := hL.get hw
      refine ⟨L', v :: st', ?_, hL, zsr.cs hr hS⟩
      simp only [zLd, hv]
      rw [if_pos (by rw [zfv_of hf v w hr]; exact hfw)]
    · cases hg
  · cases hg
theorem zgk_st {a b p i : Nat} {f : Value → Bool} (hf : ∀ x y : Int32, f (.int x) = f (.int y)) : zGK xs th (1, a, b) (zSt1 f p i) (zSt1 f p i) := by
  intro L st h L' st' hL hS pc1 L1 st1 h1 hg
  cases st with
  | nil => cases hg
  | cons w s2 =>
    obtain ⟨v, s1, rfl, hr, hS⟩ := zsr.inv hS
    simp only [zstepG, zSt1] at hg
    split at hg
    · rename_i hfw
      cases hg
      refine ⟨(i, v) :: zF1 i L', s1, ?_, zlr.cs ⟨rfl, hr⟩ (hL.f1 i), hS⟩
      simp only [zSt1]
      rw [if_pos (by rw [zfv_of hf v w hr]; exact hfw)]
    · cases hg
theorem zgk_cst {a b p : Nat} {v : Value} (hv : zpl v = true) : zGK xs th (1, a, b) (zS1 (zCst v p)) (zS1 (zCst v p)) := by
  intro L st h L' st' hL hS pc1 L1 st1 h1 hg
  cases hg
  exact ⟨L', v :: st', rfl, hL, zsr.cs (zvr.of hv) hS⟩
theorem zgk_go {a b t : Nat} : zGK xs th (1, a, b) (zS1 (zGo t)) (zS1 (zGo t)) := by
  intro L st h L' st' hL hS pc1 L1 st1 h1 hg
  cases hg
  exact ⟨L', st', rfl, hL, hS⟩
theorem zgk_ii {a b p : Nat} {g : Int32 → Int32 → Int32} : zGK xs th (2, a, b) (zS1 (zII g p)) (zS1 (zII g p)) := by
  intro L st h L' st' hL hS pc1 L1 st1 h1 hg
  match st, hS, hg with
  | [], _, hg => cases hg
  | [_], _, hg => cases hg
  | v :: w :: r, hS, hg =>
    obtain ⟨v', s1, rfl, h2, hS1⟩ := zsr.inv hS
    obtain ⟨w', s2, rfl, h3, hS2⟩ := zsr.inv hS1
    clear hS hS1
    simp only [zstepG] at hg
    split at hg
    · rename_i hp
      simp only [Bool.and_eq_true] at hp
      have e1 := h2.pl hp.1
      have e2 := h3.pl hp.2
      subst e1; subst e2
      cases v' <;> cases w' <;> first | (simp only [zS1, zII] at hg; cases hg; done) | skip
      simp only [zS1, zII] at hg
      split at hg
      · rename_i hu
        cases hg
        exact ⟨L', _, rfl, hL, zsr.cs (zvr.of hu) hS2⟩
      · cases hg
    · cases hg
theorem zgk_and {a p : Nat} : zGK xs th (15, a, p) (zS1 (zII (fun x y => x &&& y) p)) (zS1 (zII (fun x y => x &&& y) p)) := by
  intro L st h L' st' hL hS pc1 L1 st1 h1 hg
  match st, hS, hg with
  | [], _, hg => cases hg
  | [v], _, hg => cases v <;> cases hg
  | v :: w :: r, hS, hg =>
    obtain ⟨v', s1, rfl, h2, hS1⟩ := zsr.inv hS
    obtain ⟨w', s2, rfl, h3, hS2⟩ := zsr.inv hS1
    clear hS hS1
    cases v <;> cases w <;> first | cases hg; done | skip
    rename_i c x
    simp only [zstepG] at hg
    split at hg
    · rename_i hk
      obtain ⟨k1, k2, k3, k4⟩ := hk
      cases hg
      subst k1
      have e1 := h2.pl (by decide +kernel)
      subst e1
      rcases h3.cases with ⟨p1, -⟩ | ⟨y, -, rfl, hc⟩
      · rw [k2] at p1; cases p1
      · have hz : zmg x = (3, (zmg x).2) := by rw [← k3]
        rw [hz] at hc
        have hc2 : y &&& 31 = Int32.ofNat (zmg x).2 := hc.2
        refine ⟨L', .int (y &&& 31) :: _, rfl, hL, zsr.cs ?_ hS2⟩
        rw [hc2]
        refine zvr.of ?_
        have : ∀ o : Nat, o < 32 → zpl (.int (Int32.ofNat o)) = true := by decide +kernel
        exact this _ k4
    · cases hg
theorem zgk_sld {a b p Ls : Nat} {xr : Nat → Int32} (hx : ∀ j, j < Ls → zvr xs th (.int (xs j)) (.int (xr j))) : zGK xs th (16, a, b) (zS2 (fun st _ => zSld xr Ls p st)) (zS2 (fun st _ => zSld xs Ls p st)) := by
  intro L st h L' st' hL hS pc1 L1 st1 h1 hg
  match st, hS, hg with
  | [], _, hg => cases hg
  | [v], _, hg =>
    simp only [zstepG] at hg
    split at hg
    · cases v <;> cases hg
    · cases hg
  | v :: w :: r, hS, hg =>
    obtain ⟨v', s1, rfl, h2, hS1⟩ := zsr.inv hS
    obtain ⟨w', s2, rfl, h3, hS2⟩ := zsr.inv hS1
    clear hS hS1
    simp only [zstepG] at hg
    split at hg
    · rename_i hp
      have e1 := h2.pl hp
      subst e1
      cases v' <;> cases w <;> first | (simp only [zS2, zSld] at hg; cases hg; done) | skip
      rename_i i t
      have e3 := h3.pl rfl
      subst e3
      cases t with
      | succ t => simp only [zS2, zSld] at hg; cases hg
      | zero =>
        simp only [zS2, zSld] at hg
        split at hg
        · rename_i q1 q2 hq
          split at hq
          · cases hq
          · rename_i hin
            cases hq
            cases hg
            refine ⟨L', .int (xs i.toNatClampNeg) :: _, ?_, hL, zsr.cs (hx _ (Nat.lt_of_not_le fun h => hin (Or.inr h))) hS2⟩
            simp only [zS2, zSld]
            rw [if_neg hin]
        · cases hg
    · cases hg
theorem zgk_get {a b ci j p : Nat} : zGK xs th (17, a, b) (zS2 (zGet ci j p)) (zS2 (zGet ci j p)) := by
  intro L st h L' st' hL hS pc1 L1 st1 h1 hg
  match st, hS, hg with
  | [], _, hg => cases hg
  | v :: r, hS, hg =>
    obtain ⟨v', s1, rfl, h2, hS1⟩ := zsr.inv hS
    simp only [zstepG] at hg
    split at hg
    · rename_i hp
      have e1 := h2.pl hp
      subst e1
      split at hg
      · rename_i q1 q2 u r1 q4 hop
        split at hg
        · rename_i hu
          cases hg
          simp only [zS2] at hop
          split at hop
          · rename_i z1 z2 hz
            cases hop
            obtain ⟨a0, r0, fs, x, e0, hk, hh, hv, e2, e3⟩ := zGet_some hz
            cases e0
            cases e3
            refine ⟨L', u :: s1, ?_, hL, zsr.cs (zvr.of hu) hS1⟩
            simp only [zS2, zGet, hk, hh, hv, if_true]
            rw [e2]
          · cases hop
        · cases hg
      · cases hg
    · cases hg
theorem zgk_put {a b ci j p : Nat} {f : Value → Bool} : zGK xs th (18, a, b) (zPut f ci j p) (zPut f ci j p) := by
  intro L st h L' st' hL hS pc1 L1 st1 h1 hg
  match st, hS, hg with
  | [], _, hg => cases hg
  | [_], _, hg => cases hg
  | v :: w :: r, hS, hg =>
    obtain ⟨v', s1, rfl, h2, hS1⟩ := zsr.inv hS
    obtain ⟨w', s2, rfl, h3, hS2⟩ := zsr.inv hS1
    clear hS hS1
    simp only [zstepG] at hg
    split at hg
    · rename_i hp
      simp only [Bool.and_eq_true] at hp
      have e1 := h2.pl hp.1
      have e2 := h3.pl hp.2
      subst e1
      subst e2
      obtain ⟨x, k0, r0, fs, e0, hf, hk, hh, hl, hx⟩ := zPut_some hg
      cases e0
      cases hx
      refine ⟨L', s2, ?_, hL, hS2⟩
      simp only [zPut, hf, hk, hh, hl, and_self, if_true]
    · cases hg
/-- an entry and what stands behind it -/
def zZG (xs : Nat → Int32) (th : Nat → Nat) (q : Nat × Nat × Nat) (i i1 : zI) : Prop := (∃ op op', i = .inl op ∧ i1 = .inl op' ∧ zGK xs th q op op') ∨ (i1 = i ∧ ∃ x, i = .inr x)
theorem zG1 {q0 q : Nat × Nat × Nat} {op op' : zOp} (h : q0 = q) (hk : zGK xs th q op op') : zZG xs th q0 (.inl op) (.inl op') := by
  subst h
  exact Or.inl ⟨_, _, rfl, rfl, hk⟩
theorem zG2 {q0 : Nat × Nat × Nat} {x : Nat ⊕ (String ⊕ (Nat × Nat × Nat))} : zZG xs th q0 (.inr x) (.inr x) := Or.inr ⟨rfl, _, rfl⟩
theorem zGall (i : zI) : zZG xs th (0, 0, 0) i i := match i with
  | .inl _ => zG1 rfl zgk0
  | .inr _ => zG2
def zmleaf (m μ : Nat) (e : Option zI) : Option zI := bif Nat.beq μ m then e else none
theorem zmleaf_ok {P : Nat → zI → Prop} {m μ : Nat} {e : Option zI} (h : ∀ i, e = some i → P m i) : ∀ i, zmleaf m μ e = some i → P μ i := by
  intro i hi
  unfold zmleaf at hi
  cases hb : Nat.beq μ m with
  | false => rw [hb] at hi; cases hi
  | true =>
    rw [hb] at hi
    rw [Nat.eq_of_beq_eq_true hb]
    exact h i hi
end ZREP3
section ZREP4
variable {xs : Nat → Int32} {th : Nat → Nat}
theorem zmap_some {o : Option Bool} {f : Bool → Bool} {r r1 : List Value} {b : Bool} (h : o.map (fun c => (f c, r)) = some (b, r1)) : ∃ c, o = some c ∧ f c = b ∧ r = r1 := by
  cases o with
  | none => cases h
  | some c => cases h; exact ⟨c, rfl, rfl, rfl⟩
theorem zeq_int {v w : Value} {b : Bool} (h : zeq th v w = some b) : ∃ a c, v = .int a ∧ w = .int c := by
  cases v <;> cases w <;> first | exact ⟨_, _, rfl, rfl⟩ | cases h
theorem zlt_int {v w : Value} {b : Bool} (h : zlt th v w = some b) : ∃ a c, v = .int a ∧ w = .int c := by
  cases v <;> cases w <;> first | exact ⟨_, _, rfl, rfl⟩ | cases h
theorem zdec_ge (x y : Int32) : decide (y ≤ x) = !decide (x < y) := (decide_eq_decide.mpr Int32.not_lt.symm).trans decide_not
theorem zvr0 : zvr xs th (.int 0) (.int 0) := zvr.of (by decide +kernel)
theorem zgk_if {k t p : Nat} {g : Int32 → Bool} {op : zOp} (hz : ∀ L st h, zstepG th (k, t, p) op L st h = match zcmp th k st with | some (b, r) => some (if b = true then t else p, L, r, h) | none => none)
    (hc : ∀ st b r, zcmp th k st = some (b, r) → ∃ w : Value, st = w :: r ∧ ∀ v, zvr xs th v w → ∃ x, v = .int x ∧ g x = b) : zGK xs th (k, t, p) op (zS1 (zIf g t p)) := by
  intro L st h L' st' hL hS pc1 L1 st1 h1 hg
  rw [hz] at hg
  split at hg
  · rename_i b r hcm
    cases hg
    obtain ⟨w, rfl, hv⟩ := hc _ _ _ hcm
    obtain ⟨v, s1, rfl, h2, hS1⟩ := zsr.inv hS
    obtain ⟨x, rfl, hx⟩ := hv _ h2
    refine ⟨L', s1, ?_, hL, hS1⟩
    simp only [zS1, zIf]
    rw [hx]
  · cases hg
theorem zgk_icmp {k t p : Nat} {g : Int32 → Int32 → Bool} {op : zOp} (hz : ∀ L st h, zstepG th (k, t, p) op L st h = match zcmp th k st with | some (b, r) => some (if b = true then t else p, L, r, h) | none => none)
    (hc : ∀ st b r, zcmp th k st = some (b, r) → ∃ w1 w2 : Value, st = w2 :: w1 :: r ∧ ∀ v1 v2, zvr xs th v1 w1 → zvr xs th v2 w2 → ∃ x y, v1 = .int x ∧ v2 = .int y ∧ g x y = b) : zGK xs th (k, t, p) op (zS1 (zIcmp g t p)) := by
  intro L st h L' st' hL hS pc1 L1 st1 h1 hg
  rw [hz] at hg
  split at hg
  · rename_i b r hcm
    cases hg
    obtain ⟨w1, w2, rfl, hv⟩ := hc _ _ _ hcm
    obtain ⟨v2, s1, rfl, h2, hS1⟩ := zsr.inv hS
    obtain ⟨v1, s2, rfl, h3, hS2⟩ := zsr.inv hS1
    obtain ⟨x, y, rfl, rfl, hx⟩ := hv _ _ h3 h2
    refine ⟨L', s2, ?_, hL, hS2⟩
    simp only [zS1, zIcmp]
    rw [hx]
  · cases hg
theorem zc_one {k : Nat} {o : Value → Option Bool} {f : Bool → Bool} {g : Int32 → Bool} (hk : ∀ v r, zcmp th k (v :: r) = (o v).map (fun c => (f c, r))) (hn : zcmp th k [] = none) (ho : ∀ w b v, o w = some b → zvr xs th v w → ∃ x, v = .int x ∧ g x = f b) :
    ∀ st b r, zcmp th k st = some (b, r) → ∃ w : Value, st = w :: r ∧ ∀ v, zvr xs th v w → ∃ x, v = .int x ∧ g x = b := by
  intro st b r h
  cases st with
  | nil => rw [hn] at h; cases h
  | cons w r1 =>
    rw [hk] at h
    obtain ⟨c, h1, h2, h3⟩ := zmap_some h
    subst h3
    refine ⟨w, rfl, fun v hv => ?_⟩
    obtain ⟨x, e, e2⟩ := ho w c v h1 hv
    exact ⟨x, e, e2.trans h2⟩
theorem zc_two {k : Nat} {o : Value → Value → Option Bool} {f : Bool → Bool} {g : Int32 → Int32 → Bool} (hk : ∀ w v r, zcmp th k (w :: v :: r) = (o v w).map (fun c => (f c, r))) (hn : zcmp th k [] = none) (hn1 : ∀ v, zcmp th k [v] = none) (ho : ∀ w1 w2 b v1 v2, o w1 w2 = some b → zvr xs th v1 w1 → zvr xs th v2 w2 → ∃ x y, v1 = .int x ∧ v2 = .int y ∧ g x y = f b) :
    ∀ st b r, zcmp th k st = some (b, r) → ∃ w1 w2 : Value, st = w2 :: w1 :: r ∧ ∀ v1 v2, zvr xs th v1 w1 → zvr xs th v2 w2 → ∃ x y, v1 = .int x ∧ v2 = .int y ∧ g x y = b := by
  intro st b r h
  match st with
  | [] => rw [hn] at h; cases h
  | [v] => rw [hn1] at h; cases h
  | w2 :: w1 :: r1 =>
    rw [hk] at h
    obtain ⟨c, h1, h2, h3⟩ := zmap_some h
    subst h3
    refine ⟨w1, w2, rfl, fun v1 v2 hv1 hv2 => ?_⟩
    obtain ⟨x, y, e, e2, e3⟩ := ho w1 w2 c v1 v2 h1 hv1 hv2
    exact ⟨x, y, e, e2, e3.trans h2⟩
theorem zo_eq {w1 w2 v1 v2 : Value} {b : Bool} (h : zeq th w1 w2 = some b) (h1 : zvr xs th v1 w1) (h2 : zvr xs th v2 w2) : ∃ x y, v1 = .int x ∧ v2 = .int y ∧ decide (x = y) = b := by
  obtain ⟨a, c, rfl, rfl⟩ := zeq_int h
  exact zeq_ok h1 h2 h
theorem zo_lt {w1 w2 v1 v2 : Value} {b : Bool} (h : zlt th w1 w2 = some b) (h1 : zvr xs th v1 w1) (h2 : zvr xs th v2 w2) : ∃ x y, v1 = .int x ∧ v2 = .int y ∧ decide (x < y) = b := by
  obtain ⟨a, c, rfl, rfl⟩ := zlt_int h
  exact zlt_ok h1 h2 h
theorem zgk_eq0 {t p : Nat} {op : zOp} : zGK xs th (3, t, p) op (zS1 (zIf (fun x => decide (x = 0)) t p)) := zgk_if (fun _ _ _ => rfl) (zc_one (o := fun v => zeq th v (.int 0)) (f := fun c => c) (fun _ _ => rfl) rfl fun w b v h hv => by
  obtain ⟨x, y, rfl, e, e2⟩ := zo_eq h hv zvr0
  cases e
  exact ⟨x, rfl, e2⟩)
theorem zgk_ne0 {t p : Nat} {op : zOp} : zGK xs th (4, t, p) op (zS1 (zIf (fun x => decide (¬ x = 0)) t p)) := zgk_if (fun _ _ _ => rfl) (zc_one (o := fun v => zeq th v (.int 0)) (f := fun c => !c) (fun _ _ => rfl) rfl fun w b v h hv => by
  obtain ⟨x, y, rfl, e, e2⟩ := zo_eq h hv zvr0
  cases e
  exact ⟨x, rfl, by rw [decide_not, e2]⟩)
theorem zgk_lt0 {t p : Nat} {op : zOp} : zGK xs th (5, t, p) op (zS1 (zIf (fun x => decide (x < 0)) t p)) := zgk_if (fun _ _ _ => rfl) (zc_one (o := fun v => zlt th v (.int 0)) (f := fun c => c) (fun _ _ => rfl) rfl fun w b v h hv => by
  obtain ⟨x, y, rfl, e, e2⟩ := zo_lt h hv zvr0
  cases e
  exact ⟨x, rfl, e2⟩)
theorem zgk_ge0 {t p : Nat} {op : zOp} : zGK xs th (6, t, p) op (zS1 (zIf (fun x => decide (0 ≤ x)) t p)) := zgk_if (fun _ _ _ => rfl) (zc_one (o := fun v => zlt th v (.int 0)) (f := fun c => !c) (fun _ _ => rfl) rfl fun w b v h hv => by
  obtain ⟨x, y, rfl, e, e2⟩ := zo_lt h hv zvr0
  cases e
  exact ⟨x, rfl, by rw [zdec_ge, e2]⟩)
theorem zgk_gt0 {t p : Nat} {op : zOp} : zGK xs th (7, t, p) op (zS1 (zIf (fun x => decide (0 < x)) t p)) := zgk_if (fun _ _ _ => rfl) (zc_one (o := fun v => zlt th (.int 0) v) (f := fun c => c) (fun _ _ => rfl) rfl fun w b v h hv => by
  obtain ⟨x, y, e, rfl, e2⟩ := zo_lt h zvr0 hv
  cases e
  exact ⟨y, rfl, e2⟩)
theorem zgk_le0 {t p : Nat} {op : zOp} : zGK xs th (8, t, p) op (zS1 (zIf (fun x => decide (x ≤ 0)) t p)) := zgk_if (fun _ _ _ => rfl) (zc_one (o := fun v => zlt th (.int 0) v) (f := fun c => !c) (fun _ _ => rfl) rfl fun w b v h hv => by
  obtain ⟨x, y, e, rfl, e2⟩ := zo_lt h zvr0 hv
  cases e
  exact ⟨y, rfl, by rw [zdec_ge, e2]⟩)
theorem zgk_eq {t p : Nat} {op : zOp} : zGK xs th (9, t, p) op (zS1 (zIcmp (fun x y => decide (x = y)) t p)) := zgk_icmp (fun _ _ _ => rfl) (zc_two (o := fun v w => zeq th v w) (f := fun c => c) (fun _ _ _ => rfl) rfl (fun _ => rfl) fun w1 w2 b v1 v2 h h1 h2 => zo_eq h h1 h2)
theorem zgk_ne {t p : Nat} {op : zOp} : zGK xs th (10, t, p) op (zS1 (zIcmp (fun x y => decide (¬ x = y)) t p)) := zgk_icmp (fun _ _ _ => rfl) (zc_two (o := fun v w => zeq th v w) (f := fun c => !c) (fun _ _ _ => rfl) rfl (fun _ => rfl) fun w1 w2 b v1 v2 h h1 h2 => by
  obtain ⟨x, y, e1, e2, e3⟩ := zo_eq h h1 h2
  exact ⟨x, y, e1, e2, by rw [decide_not, e3]⟩)
theorem zgk_lt {t p : Nat} {op : zOp} : zGK xs th (11, t, p) op (zS1 (zIcmp (fun x y => decide (x < y)) t p)) := zgk_icmp (fun _ _ _ => rfl) (zc_two (o := fun v w => zlt th v w) (f := fun c => c) (fun _ _ _ => rfl) rfl (fun _ => rfl) fun w1 w2 b v1 v2 h h1 h2 => zo_lt h h1 h2)
theorem zgk_ge {t p : Nat} {op : zOp} : zGK xs th (12, t, p) op (zS1 (zIcmp (fun x y => decide (y ≤ x)) t p)) := zgk_icmp (fun _ _ _ => rfl) (zc_two (o := fun v w => zlt th v w) (f := fun c => !c) (fun _ _ _ => rfl) rfl (fun _ => rfl) fun w1 w2 b v1 v2 h h1 h2 => by
  obtain ⟨x, y, e1, e2, e3⟩ := zo_lt h h1 h2
  exact ⟨x, y, e1, e2, by rw [zdec_ge, e3]⟩)
theorem zgk_gt {t p : Nat} {op : zOp} : zGK xs th (13, t, p) op (zS1 (zIcmp (fun x y => decide (y < x)) t p)) := zgk_icmp (fun _ _ _ => rfl) (zc_two (o := fun v w => zlt th w v) (f := fun c => c) (fun _ _ _ => rfl) rfl (fun _ => rfl) fun w1 w2 b v1 v2 h h1 h2 => by
  obtain ⟨x, y, e1, e2, e3⟩ := zo_lt h h2 h1
  exact ⟨y, x, e2, e1, e3⟩)
theorem zgk_le {t p : Nat} {op : zOp} : zGK xs th (14, t, p) op (zS1 (zIcmp (fun x y => decide (x ≤ y)) t p)) := zgk_icmp (fun _ _ _ => rfl) (zc_two (o := fun v w => zlt th w v) (f := fun c => !c) (fun _ _ _ => rfl) rfl (fun _ => rfl) fun w1 w2 b v1 v2 h h1 h2 => by
  obtain ⟨x, y, e1, e2, e3⟩ := zo_lt h h2 h1
  exact ⟨y, x, e2, e1, by rw [zdec_ge, e3]⟩)
end ZREP4
/-- the run by representatives: what gets none of them runs plainly -/
def zrunG (th : Nat → Nat) (nl cc : Nat → Nat) (nh : Nat → Bool) (c0 code : Nat → Nat → Option zI) (gk : Nat → Nat → Nat × Nat × Nat) (hn : Nat → Nat → String → Option (Nat × Nat)) : Nat → Nat → Nat → Nat → zLoc → List Value → zH → Option ((Option Value ⊕ String) × zH)
  | 0, _, _, _, _, _, _ => none
  | k + 1, d, μ, pc, L, st, h => match code μ pc with
    | none => none
    | some (.inl op) => match zstepG th (gk μ pc) op L st h with
      | none => none
      | some (pc', L', st', h') => zrunG th nl cc nh c0 code gk hn k d μ pc' L' st' h'
    | some (.inr (.inl r)) => match r, st with
      | 0, [] => some (.inl none, h)
      | r + 1, [v] => if (zRk (r + 1) v && zpl v) = true then some (.inl (some v), h) else none
      | _, _ => none
    | some (.inr (.inr (.inl Ex))) => if Nat.ble 6 d && nh μ && Nat.ble (st.map fun v => v.category).sum 8 then some (.inr Ex, zdead h) else none
    | some (.inr (.inr (.inr (μ', n, kd)))) => match d with
      | 0 => none
      | d' + 1 => if zCan nl cc μ' n kd st h = true then
          match (if (st.take n).all zpl = true then zrun nl cc nh c0 hn k d' μ' 0 (lv_args 0 (st.take n).reverse) [] h else zrunG th nl cc nh c0 code gk hn k d' μ' 0 (lv_args 0 (st.take n).reverse) [] h) with
          | none => none
          | some (.inl v, h') => if v.toList.all zpl = true then zrunG th nl cc nh c0 code gk hn k (d' + 1) μ (pc + 3) L (v.toList ++ st.drop n) h' else none
          | some (.inr Ex, h') => match hn μ pc Ex with
            | some (pc', x) => zrunG th nl cc nh c0 code gk hn k (d' + 1) μ pc' (zF1 x L) [] h'
            | none => if nh μ = true then some (.inr Ex, h') else none
        else none
section ZREP5
variable {xs : Nat → Int32} {th : Nat → Nat} {nl cc : Nat → Nat} {nh : Nat → Bool} {c0 c1 code : Nat → Nat → Option zI} {gk : Nat → Nat → Nat × Nat × Nat} {hn : Nat → Nat → String → Option (Nat × Nat)}
theorem zrun_mono (h01 : ∀ μ pc i, c0 μ pc = some i → c1 μ pc = some i) : ∀ (k d μ pc : Nat) (L : zLoc) (st : List Value) (h : zH) (res : (Option Value ⊕ String) × zH), zrun nl cc nh c0 hn k d μ pc L st h = some res → zrun nl cc nh c1 hn k d μ pc L st h = some res := by
  intro k
  induction k with
  | zero => intro d μ pc L st h res hr; cases hr
  | succ k ih =>
    intro d μ pc L st h res hr
    rw [zrun] at hr ⊢
    cases hc : c0 μ pc with
    | none => rw [hc] at hr; cases hr
    | some i =>
      rw [hc] at hr
      rw [h01 _ _ _ hc]
      match i, hr with
      | .inl op, hr =>
        dsimp only at hr ⊢
        split at hr
        · cases hr
        · exact ih _ _ _ _ _ _ _ hr
      | .inr (.inl r), hr => exact hr
      | .inr (.inr (.inl Ex)), hr => exact hr
      | .inr (.inr (.inr (μ', n, kd))), hr =>
        dsimp only at hr ⊢
        cases d with
        | zero => cases hr
        | succ d' =>
          dsimp only at hr ⊢
          split at hr
          · rename_i hcan
            rw [if_pos hcan]
            generalize hz : zrun nl cc nh c0 hn k d' μ' 0 (lv_args 0 (st.take n).reverse) [] h = z at hr
            match z, hz, hr with
            | none, _, hr => cases hr
            | some (.inl v, h'), hz, hr =>
              rw [ih _ _ _ _ _ _ _ hz]
              exact ih _ _ _ _ _ _ _ hr
            | some (.inr Ex, h'), hz, hr =>
              rw [ih _ _ _ _ _ _ _ hz]
              dsimp only at hr ⊢
              split at hr
              · exact ih _ _ _ _ _ _ _ hr
              · exact hr
          · cases hr
theorem zCan_rel {μ n kd : Nat} {st st' : List Value} {h : zH} (hS : zsr xs th st' st) (hc : zCan nl cc μ n kd st h = true) : zCan nl cc μ n kd st' h = true := by
  unfold zCan at hc ⊢
  simp only [Bool.and_eq_true] at hc ⊢
  obtain ⟨⟨⟨h1, h2⟩, h3⟩, h4⟩ := hc
  have hr := (hS.take n).rev
  refine ⟨⟨⟨by rw [hS.len]; exact h1, by rw [zlg_cats hr.cats]; exact h2⟩, by rw [(hS.drop n).cats]; exact h3⟩, ?_⟩
  generalize (st'.take n).reverse = a' at hr
  generalize (st.take n).reverse = a at hr h4
  cases a with
  | nil => rw [zsr.inv0 hr]; exact h4
  | cons w l2 =>
    obtain ⟨v, l1, rfl, g1, -⟩ := zsr.inv hr
    cases w with
    | int r =>
      obtain ⟨x, rfl⟩ := g1.int
      exact h4
    | null => rw [g1.ni (fun r => by simp)]; exact h4
    | ref b => rw [g1.ni (fun r => by simp)]; exact h4
    | long b => rw [g1.ni (fun r => by simp)]; exact h4
    | float b => rw [g1.ni (fun r => by simp)]; exact h4
    | double b => rw [g1.ni (fun r => by simp)]; exact h4
    | retAddr b => rw [g1.ni (fun r => by simp)]; exact h4
theorem zrunG_ok (h01 : ∀ μ pc i, c0 μ pc = some i → c1 μ pc = some i)
    (hcode : ∀ μ pc i, code μ pc = some i → ∃ i', c1 μ pc = some i' ∧ ((∃ op op', i = .inl op ∧ i' = .inl op' ∧ zGK xs th (gk μ pc) op op') ∨ (i' = i ∧ ∃ x, i = .inr x))) :
    ∀ (k d μ pc : Nat) (L : zLoc) (st : List Value) (h : zH) (res : (Option Value ⊕ String) × zH), zrunG th nl cc nh c0 code gk hn k d μ pc L st h = some res → ∀ (L' : zLoc) (st' : List Value), zlr xs th L' L → zsr xs th st' st → zrun nl cc nh c1 hn k d μ pc L' st' h = some res := by
  intro k
  induction k with
  | zero => intro d μ pc L st h res hr; cases hr
  | succ k ih =>
    intro d μ pc L st h res hr L' st' hL hS
    rw [zrunG] at hr
    rw [zrun]
    cases hc : code μ pc with
    | none => rw [hc] at hr; cases hr
    | some i =>
      rw [hc] at hr
      obtain ⟨i', hc1, hi⟩ := hcode _ _ _ hc
      rw [hc1]
      rcases hi with ⟨op, op', rfl, rfl, hg⟩ | ⟨rfl, x, rfl⟩
      · dsimp only at hr ⊢
        split at hr
        · cases hr
        · rename_i pc1 L1 st1 h1 hst
          obtain ⟨L1', st1', e1, e2, e3⟩ := hg L st h L' st' hL hS _ _ _ _ hst
          rw [e1]
          exact ih _ _ _ _ _ _ _ hr _ _ e2 e3
      · match x, hr with
        | .inl r, hr =>
          dsimp only at hr ⊢
          split at hr
          · rw [zsr.inv0 hS]
            exact hr
          · rename_i r1 v
            split at hr
            · rename_i hk
              simp only [Bool.and_eq_true] at hk
              obtain ⟨v', s1, rfl, g1, g2⟩ := zsr.inv hS
              rw [zsr.inv0 g2, g1.pl hk.2]
              dsimp only
              rw [if_pos hk.1]
              exact hr
            · cases hr
          · cases hr
        | .inr (.inl Ex), hr =>
          dsimp only at hr ⊢
          rw [hS.cats]
          exact hr
        | .inr (.inr (μ', n, kd)), hr =>
          dsimp only at hr ⊢
          cases d with
          | zero => cases hr
          | succ d' =>
            dsimp only at hr ⊢
            split at hr
            · rename_i hcan
              rw [if_pos (zCan_rel hS hcan)]
              generalize hz : (if (st.take n).all zpl = true then zrun nl cc nh c0 hn k d' μ' 0 (lv_args 0 (st.take n).reverse) [] h else zrunG th nl cc nh c0 code gk hn k d' μ' 0 (lv_args 0 (st.take n).reverse) [] h) = z at hr
              have hz2 : ∀ r, z = some r → zrun nl cc nh c1 hn k d' μ' 0 (lv_args 0 (st'.take n).reverse) [] h = some r := by
                intro r e
                rw [e] at hz
                split at hz
                · rename_i hp
                  rw [(hS.take n).pl hp]
                  exact zrun_mono h01 _ _ _ _ _ _ _ _ hz
                · exact ih _ _ _ _ _ _ _ hz _ _ (zlr.args (hS.take n).rev 0) zsr.nl
              match z, hz2, hr with
              | none, _, hr => cases hr
              | some (.inl v, h'), hz2, hr =>
                rw [hz2 _ rfl]
                dsimp only at hr ⊢
                split at hr
                · rename_i hv
                  exact ih _ _ _ _ _ _ _ hr _ _ hL ((zsr.of hv).app (hS.drop n))
                · cases hr
              | some (.inr Ex, h'), hz2, hr =>
                rw [hz2 _ rfl]
                dsimp only at hr ⊢
                split at hr
                · rename_i pc2 x2 hhx
                  rw [hhx]
                  exact ih _ _ _ _ _ _ _ hr _ _ (hL.f1 _) zsr.nl
                · rename_i hhx
                  rw [hhx]
                  exact hr
            · cases hr
end ZREP5
