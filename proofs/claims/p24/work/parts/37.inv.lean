/-! What always holds between calls: M is a bound of the marks -/
/-- pairs that have a crease of one of the first m folds lie upon each other, with unlike sides up; the others lie beside each other, with the same side up -/
def cPO (S : cS) (F : cS) (m : Int) : Prop := ∀ c d, 0 ≤ c → c < S 1 2 → (d = 0 ∨ d = 1) → ¬ cBes S c d = -1 →
  ((1 ≤ S 3 (2 * c + d) ∧ S 3 (2 * c + d) ≤ m) → cSame2 F c (cBes S c d) ∧ ¬ F 4 c = F 4 (cBes S c d)) ∧ (¬ (1 ≤ S 3 (2 * c + d) ∧ S 3 (2 * c + d) ≤ m) → cNext2 F c (cBes S c d) ∧ F 4 c = F 4 (cBes S c d))
def cInv (S : cS) (M : Int) : Prop := (cPw S ∧ S 1 2 = S 1 0 * S 1 1) ∧ (cGood (vw S 8) ∧ vw S 8 0 0 = S 1 2) ∧ (0 ≤ S 0 5 ∧ S 0 5 ≤ 8) ∧
  (∀ q : Nat, (q : Int) < S 0 5 → cGood (vw S (22 + 6 * q)) ∧ vw S (22 + 6 * q) 0 0 = S 1 2 ∧ cPO S (vw S (22 + 6 * q)) q ∧ (0 ≤ S 21 q ∧ S 21 q < 1000)) ∧
  cPO S (vw S 8) (S 0 5) ∧
  (∀ p, 0 ≤ p → p < 64 → (0 ≤ S 2 p ∧ S 2 p ≤ 2) ∧ (0 ≤ S 3 p ∧ S 3 p ≤ S 0 5) ∧ (0 ≤ S 4 p ∧ S 4 p ≤ M) ∧ (0 ≤ S 5 p ∧ S 5 p ≤ 2) ∧ (S 2 p = 0 ↔ S 3 p = 0) ∧ (¬ S 2 p = 0 → 1 ≤ S 4 p) ∧ (2 * S 1 2 ≤ p → S 3 p = 0)) ∧
  (∀ c d, 0 ≤ c → c < S 1 2 → (d = 0 ∨ d = 1) → cBes S c d = -1 → S 2 (2 * c + d) = 0) ∧
  (∀ f, 1 ≤ f → f ≤ S 0 5 → ∃ c d, 0 ≤ c ∧ c < S 1 2 ∧ (d = 0 ∨ d = 1) ∧ ¬ cBes S c d = -1 ∧ S 3 (2 * c + d) = f)
theorem cInv.wd {S : cS} {M : Int} (h : cInv S M) (hM : M ≤ 900) : cWd S := by
  obtain ⟨⟨h1, h2⟩, ⟨h3, h4⟩, h5, h6, h7, h8, h9, h10⟩ := h
  refine ⟨h1, fun p p0 p1 => ?_, h4, h3.2.1, h3.hb, h3.pos, h5⟩
  have := h8 p p0 p1
  omega
theorem cr1 {f m : Int} (h : m ≤ f) : ¬ (1 ≤ f + 1 ∧ f + 1 ≤ m) := by omega
theorem cr2 {s m : Int} (h : s = 0) : ¬ (1 ≤ s ∧ s ≤ m) := by omega
theorem cr3 {f : Int} (h : 0 ≤ f) : 1 ≤ f + 1 ∧ f + 1 ≤ f + 1 := by omega
theorem cr4 {s f : Int} (h : 1 ≤ s ∧ s ≤ f) : 1 ≤ s ∧ s ≤ f + 1 := by omega
theorem cr0 {x n : Int} (h : 0 ≤ x ∧ x ≤ n) (hc : ¬ (1 ≤ x ∧ x ≤ n)) : x = 0 := by omega
/-- what the invariant sees of the heap -/
theorem cInv_c {S S' : cS} {M : Int} (h : cInv S M) (e0 : S' 0 5 = S 0 5) (e1 : S' 1 = S 1) (e2 : S' 2 = S 2) (e3 : S' 3 = S 3) (e4 : S' 4 = S 4) (e21 : S' 21 = S 21) (ep : ∀ q : Nat, (q : Int) < 8 → vw S' (22 + 6 * q) = vw S (22 + 6 * q))
    (h5 : ∀ p, 0 ≤ p → p < 64 → 0 ≤ S' 5 p ∧ S' 5 p ≤ 2) (hg : cGood (vw S' 8)) (hn : vw S' 8 0 0 = S 1 2) (hpo : ∀ c d, 0 ≤ c → c < S 1 2 → (d = 0 ∨ d = 1) → ¬ cBes S c d = -1 → (cSame2 (vw S 8) c (cBes S c d) → cSame2 (vw S' 8) c (cBes S c d)) ∧ (cNext2 (vw S 8) c (cBes S c d) → cNext2 (vw S' 8) c (cBes S c d)) ∧ (vw S 8 4 c = vw S 8 4 (cBes S c d) ↔ vw S' 8 4 c = vw S' 8 4 (cBes S c d))) : cInv S' M := by
  have hb : cBes S' = cBes S := by funext c d; unfold cBes; rw [e1]
  obtain ⟨i1, i2, i3, i4, i5, i6, i7, i8⟩ := h
  unfold cInv cPO cPw
  rw [e0, e1, e2, e3, e4, e21, hb, hn]
  refine ⟨i1, ⟨hg, rfl⟩, i3, fun q hq => ?_, fun c d a1 a2 a3 a4 => ?_, fun p p0 p1 => ?_, i7, i8⟩
  · rw [ep q (by omega)]
    exact i4 q hq
  · have g := i5 c d a1 a2 a3 a4
    obtain ⟨g1, g2, g3⟩ := hpo c d a1 a2 a3 a4
    refine ⟨fun hh => ⟨g1 (g.1 hh).1, fun he => (g.1 hh).2 (g3.mpr he)⟩, fun hh => ⟨g2 (g.2 hh).1, g3.mp (g.2 hh).2⟩⟩
  · have g := i6 p p0 p1
    exact ⟨g.1, g.2.1, g.2.2.1, h5 p p0 p1, g.2.2.2.2⟩
theorem cInv_same {S S' : cS} {M : Int} (h : cInv S M) (e0 : S' 0 5 = S 0 5) (ea : ∀ a, 1 ≤ a → a < 5 → S' a = S a) (h5 : ∀ p, 0 ≤ p → p < 64 → 0 ≤ S' 5 p ∧ S' 5 p ≤ 2) (ef : ∀ a, (8 ≤ a ∧ a < 14) ∨ (20 ≤ a ∧ a < 70) → S' a = S a) : cInv S' M := by
  have e8 : vw S' 8 = vw S 8 := vw_eq fun a _ _ => ef a (by omega)
  refine cInv_c h e0 (ea 1 (by omega) (by omega)) (ea 2 (by omega) (by omega)) (ea 3 (by omega) (by omega)) (ea 4 (by omega) (by omega)) (ef 21 (by omega)) (fun q hq => vw_eq fun a _ _ => ef a (by omega)) h5 (by rw [e8]; exact h.2.1.1) (by rw [e8]; exact h.2.1.2) (fun c d _ _ _ _ => ?_)
  rw [e8]
  exact ⟨id, id, Iff.rfl⟩
theorem cInv.sm {S S' : cS} {M : Int} (h : cInv S M) (hs : cSm S S') : cInv S' M :=
  cInv_same h (by rw [hs 0 (by omega)]) (fun a _ _ => hs a (by omega)) (by rw [hs 5 (by omega)]; exact fun p p0 p1 => (h.2.2.2.2.2.1 p p0 p1).2.2.2.1) (fun a ha => hs a (by omega))
theorem cInv.bes {S : cS} {M : Int} (h : cInv S M) {c d : Int} (c0 : 0 ≤ c) (c1 : c < S 1 2) (hd : ¬ cBes S c d = -1) : 0 ≤ cBes S c d ∧ cBes S c d < S 1 2 := by
  rcases cBes_b h.1.1 h.1.2 (c := c) (d := d) ⟨c0, c1⟩ with h1 | h1
  · exact absurd h1 hd
  · exact h1
theorem cInv_turn {S S' : cS} {M : Int} (h : cInv S M) (hf : cFr 8 S S') (hT : cTurned (vw S 8) (vw S' 8)) : cInv S' M := by
  have hn : vw S' 8 0 0 = vw S 8 0 0 := by rw [hT.1]
  refine cInv_c h (by rw [hf 0 (by omega)]) (hf 1 (by omega)) (hf 2 (by omega)) (hf 3 (by omega)) (hf 4 (by omega)) (hf 21 (by omega)) (fun q hq => vw_eq fun a _ _ => hf a (by omega)) (by rw [hf 5 (by omega)]; exact fun p p0 p1 => (h.2.2.2.2.2.1 p p0 p1).2.2.2.1) (cTurned_good h.2.1.1 hT).1 (by rw [hn]; exact h.2.1.2) (fun c d a1 a2 a3 a4 => ?_)
  have hb := h.bes a1 a2 a4
  obtain ⟨x1, x2, -, x4⟩ := hT.2.1 c a1 (by rw [h.2.1.2]; exact a2)
  obtain ⟨y1, y2, -, y4⟩ := hT.2.1 (cBes S c d) hb.1 (by rw [h.2.1.2]; exact hb.2)
  unfold cSame2 cNext2
  rw [x1, x2, x4, y1, y2, y4]
  omega
theorem cInv_round {S S' : cS} {M : Int} (h : cInv S M) (hf : cFr 8 S S') (hT : cRounded (vw S 8) (vw S' 8)) : cInv S' M := by
  have hn : vw S' 8 0 0 = vw S 8 0 0 := by rw [hT.1]
  refine cInv_c h (by rw [hf 0 (by omega)]) (hf 1 (by omega)) (hf 2 (by omega)) (hf 3 (by omega)) (hf 4 (by omega)) (hf 21 (by omega)) (fun q hq => vw_eq fun a _ _ => hf a (by omega)) (by rw [hf 5 (by omega)]; exact fun p p0 p1 => (h.2.2.2.2.2.1 p p0 p1).2.2.2.1) (cRounded_good h.2.1.1 hT).1 (by rw [hn]; exact h.2.1.2) (fun c d a1 a2 a3 a4 => ?_)
  have hb := h.bes a1 a2 a4
  obtain ⟨x1, x2, -, x4⟩ := hT.2.1 c a1 (by rw [h.2.1.2]; exact a2)
  obtain ⟨y1, y2, -, y4⟩ := hT.2.1 (cBes S c d) hb.1 (by rw [h.2.1.2]; exact hb.2)
  unfold cSame2 cNext2
  rw [x1, x2, x4, y1, y2, y4]
  omega
theorem cInv_sheet {S' : cS} {x y : Int} (hx : 1 ≤ x ∧ x ≤ 8) (hy : 1 ≤ y ∧ y ≤ 8) (hxy : x * y ≤ 32) (h : cNewS S' x y) : cInv S' 0 := by
  obtain ⟨n1, n2, n3, n4, n5, n6, n7, n8, n9, n10, n11⟩ := h
  have hn1 : 1 ≤ x * y := by
    have := Int.mul_le_mul hx.1 hy.1 (by omega) (by omega)
    omega
  have hz : ∀ c d, 0 ≤ c → c < S' 1 2 → (d = 0 ∨ d = 1) → S' 3 (2 * c + d) = 0 := fun c d a1 a2 a3 => n7 3 (by omega) (by omega) _ (by omega) (by rw [n6] at a2; omega)
  refine ⟨⟨⟨by omega, by omega, by omega, by omega, by omega, by omega⟩, by rw [n6, n4, n5]⟩, ⟨n9, by rw [n10, n6]⟩, by omega, fun q hq => by omega, ?_, ?_, ?_, fun f f0 f1 => by omega⟩
  · intro c d a1 a2 a3 a4
    rw [hz c d a1 a2 a3]
    refine ⟨fun hh => by omega, fun _ => ?_⟩
    rw [n6] at a2
    obtain ⟨r, u, r0, r1, u0, u1, e⟩ := cIdxSplit (C := x) (R := y) (j := c) hx.1 a1 a2
    obtain ⟨p1, p2, p3⟩ := n11 r u r0 r1 u0 u1
    rw [← e] at p1 p2 p3
    have hmod : c % x = u := by
      rw [e, Int.add_comm, Int.add_mul_emod_self_left]
      exact Int.emod_eq_of_lt u0 u1
    have hbe : cBes S' c d = if d = 0 then (if c % S' 1 0 = S' 1 0 - 1 then -1 else c + 1) else (if c + S' 1 0 < S' 1 2 then c + S' 1 0 else -1) := rfl
    rw [n4, n6, hmod] at hbe
    rcases a3 with a3 | a3
    · subst a3
      rw [if_pos rfl] at hbe
      by_cases hu : u = x - 1
      · rw [if_pos hu] at hbe; exact absurd hbe a4
      · rw [if_neg hu] at hbe
        have e2 : c + 1 = x * r + (u + 1) := by omega
        obtain ⟨q1, q2, q3⟩ := n11 r (u + 1) r0 r1 (by omega) (by omega)
        rw [← e2, ← hbe] at q1 q2 q3
        unfold cNext2
        rw [p1, p2, p3, q1, q2, q3]
        omega
    · subst a3
      rw [if_neg (by omega)] at hbe
      by_cases hu : c + x < x * y
      · rw [if_pos hu] at hbe
        have e2 : c + x = x * (r + 1) + u := by rw [Int.mul_add, Int.mul_one]; omega
        have hr : r + 1 < y := by
          refine Classical.byContradiction (fun hh => ?_)
          have h3 : x * y ≤ x * (r + 1) := Int.mul_le_mul_of_nonneg_left (by omega) (by omega)
          omega
        obtain ⟨q1, q2, q3⟩ := n11 (r + 1) u (by omega) hr u0 u1
        rw [← e2, ← hbe] at q1 q2 q3
        unfold cNext2
        rw [p1, p2, p3, q1, q2, q3]
        omega
      · rw [if_neg hu] at hbe; exact absurd hbe a4
  · intro p p0 p1
    rw [n7 2 (by omega) (by omega) p p0 p1, n7 3 (by omega) (by omega) p p0 p1, n7 4 (by omega) (by omega) p p0 p1, n7 5 (by omega) (by omega) p p0 p1]
    omega
  · intro c d a1 a2 a3 _
    exact n7 2 (by omega) (by omega) _ (by omega) (by rw [n6] at a2; omega)
theorem cSum_even {S : cS} (f : Int → Int) (hn : 0 ≤ S 1 2) : csum f (2 * S 1 2).toNat = csum (fun c => f (2 * c + 0) + f (2 * c + 1)) (S 1 2).toNat := by
  have e : (2 * S 1 2).toNat = 2 * (S 1 2).toNat := by omega
  rw [e, csum_even]
  exact csum_cong _ (fun c _ _ => by rw [Int.add_zero])
/-- cells whose like hold for each pair hold for all -/
theorem cConn {S : cS} (hw : cPw S) (hn : S 1 2 = S 1 0 * S 1 1) (P : Int → Prop) (h : ∀ c d, 0 ≤ c → c < S 1 2 → (d = 0 ∨ d = 1) → ¬ cBes S c d = -1 → (P c ↔ P (cBes S c d))) : ∀ (k : Nat) (c : Int), 0 ≤ c → c < S 1 2 → c ≤ k → (P c ↔ P 0) := by
  intro k
  induction k with
  | zero =>
    intro c a b e
    have : c = 0 := by omega
    rw [this]
  | succ k ih =>
    intro c a b e
    by_cases h0 : c = 0
    · rw [h0]
    · have hbes : ∀ c d, cBes S c d = if d = 0 then (if c % S 1 0 = S 1 0 - 1 then -1 else c + 1) else (if c + S 1 0 < S 1 2 then c + S 1 0 else -1) := fun _ _ => rfl
      by_cases hm : c % S 1 0 = 0
      · have e1 := Int.mul_ediv_add_emod c (S 1 0)
        have hq : 1 ≤ c / S 1 0 := by
          refine Classical.byContradiction (fun hh => ?_)
          have d0 : 0 ≤ c / S 1 0 := Int.ediv_nonneg a (by omega)
          have : c / S 1 0 = 0 := by omega
          rw [this, hm] at e1
          omega
        have hcw : S 1 0 ≤ c := by
          have := Int.mul_le_mul_of_nonneg_left hq (by omega : 0 ≤ S 1 0)
          omega
        have e2 : cBes S (c - S 1 0) 1 = c := by
          rw [hbes, if_neg (by omega), if_pos (by omega)]
          omega
        have := h (c - S 1 0) 1 (by omega) (by omega) (Or.inr rfl) (by rw [e2]; omega)
        rw [e2] at this
        rw [← this]
        exact ih (c - S 1 0) (by omega) (by omega) (by omega)
      · have e2 : cBes S (c - 1) 0 = c := by
          have hmm : ¬ (c - 1) % S 1 0 = S 1 0 - 1 := by
            intro hh
            apply hm
            have e3 : c % S 1 0 = ((c - 1) % S 1 0 + 1) % S 1 0 := by
              rw [Int.emod_add_emod]
              congr 1
              omega
            rw [e3, hh, Int.sub_add_cancel]
            exact Int.emod_self
          rw [hbes, if_pos rfl, if_neg hmm]
          omega
        have := h (c - 1) 0 (by omega) (by omega) (Or.inl rfl) (by rw [e2]; omega)
        rw [e2] at this
        rw [← this]
        exact ih (c - 1) (by omega) (by omega) (by omega)
/-- each fold makes a crease -/
theorem cNew_one {S : cS} {M : Int} (h : cInv S M) {k : Int} (hk : 8 ≤ k ∧ k < 64) (hc : cIsC (vw S 8) k) : ∃ c d, 0 ≤ c ∧ c < S 1 2 ∧ (d = 0 ∨ d = 1) ∧ cNewC S c d k := by
  obtain ⟨⟨hw, hsz⟩, ⟨hG, hGn⟩, h5, h6, h7, h8, h9, h10⟩ := h
  have h0 : cInv S M := ⟨⟨hw, hsz⟩, ⟨hG, hGn⟩, h5, h6, h7, h8, h9, h10⟩
  refine Classical.byContradiction (fun hno => ?_)
  have hline := cIsC_tot hc
  have hl1 : 1 ≤ k / 8 := by omega
  have hall : ∀ c d, 0 ≤ c → c < S 1 2 → (d = 0 ∨ d = 1) → ¬ cBes S c d = -1 → (cGoes (vw S 8) c k ↔ cGoes (vw S 8) (cBes S c d) k) := by
    intro c d a1 a2 a3 a4
    refine Classical.byContradiction (fun hne => hno ⟨c, d, a1, a2, a3, a4, ?_⟩)
    have h83 := (h8 (2 * c + d) (by omega) (by omega))
    have hpo := h7 c d a1 a2 a3 a4
    by_cases hcr : 1 ≤ S 3 (2 * c + d) ∧ S 3 (2 * c + d) ≤ S 0 5
    · exfalso
      apply hne
      have := (cSame2_al (k := k).mp (hpo.1 hcr).1).1
      rw [cGoes_al, cGoes_al, this]
    · have hz : S 3 (2 * c + d) = 0 := cr0 h83.2.1 hcr
      exact ⟨h83.2.2.2.2.1.mpr hz, cApart (hpo.2 hcr).1 hne⟩
  have hA := cGoodA_of (k := k) hG
  obtain ⟨f1, f2, f3, f4, f5, f6, f7⟩ := hA
  obtain ⟨i, i0, i1, i2, -, -⟩ := f6 (k / 8 - 1) 0 0 (by omega) (by omega) (by omega) (by omega) (by omega) (by have := f7 (k / 8 - 1) 0 (by omega) (by omega) (by omega) (by omega); omega)
  obtain ⟨j, j0, j1, j2, -, -⟩ := f6 (k / 8) 0 0 (by omega) (by omega) (by omega) (by omega) (by omega) (by have := f7 (k / 8) 0 (by omega) (by omega) (by omega) (by omega); omega)
  have hi := cConn hw hsz (fun c => cGoes (vw S 8) c k) hall i.toNat i i0 (by omega) (by omega)
  have hj := cConn hw hsz (fun c => cGoes (vw S 8) c k) hall j.toNat j j0 (by omega) (by omega)
  rw [← hj, cGoes_al, cGoes_al, i2, j2] at hi
  unfold cGA at hi
  omega
theorem csum_pos {f : Int → Int} (n : Nat) (h0 : ∀ i : Int, 0 ≤ i → i < n → 0 ≤ f i) {s : Int} (s0 : 0 ≤ s) (s1 : s < n) (hs : 1 ≤ f s) : 1 ≤ csum f n := by
  induction n with
  | zero => omega
  | succ n ih =>
    unfold csum
    have h1 := h0 n (by omega) (by omega)
    have h2 : 0 ≤ csum f n := by
      have := csum_b (f := fun i => - f i) (lo := -1000000) (hi := 0)
      clear this
      have : ∀ m : Nat, m ≤ n → 0 ≤ csum f m := by
        intro m
        induction m with
        | zero => intro _; exact Int.le_refl 0
        | succ m ih2 =>
          intro hm
          unfold csum
          have := ih2 (by omega)
          have := h0 m (by omega) (by omega)
          omega
      exact this n (Nat.le_refl n)
    by_cases hsn : s = n
    · rw [hsn] at hs; omega
    · have := ih (fun i a b => h0 i a (by omega)) (by omega)
      omega
set_option maxHeartbeats 8000000 in
theorem cInv_fold {S S' : cS} {M k made more : Int} (h : cInv S M) (hk : 8 ≤ k ∧ k < 64) (hc : cIsC (vw S 8) k) (hf8 : S 0 5 < 8) (hR : cFoldR S S' k made more) :
    cInv S' (M + 1) ∧ 1 ≤ made ∧ csum (fun i => S' 4 i) (2 * S 1 2).toNat = csum (fun i => S 4 i) (2 * S 1 2).toNat + made := by
  have hnew := cNew_one h hk hc
  have htot := cIsC_tot hc
  have hI := h
  obtain ⟨⟨hw, hsz⟩, ⟨hG, hGn⟩, h5, h6, h7, h8, h9, h10⟩ := h
  obtain ⟨r1, r2, r3, r4, r5, r6, r7, r8, r9, r10, r11, r12, r13, r14, r15, r16, r17, r18⟩ := hR
  have hb : cBes S' = cBes S := by funext c d; unfold cBes; rw [r4]
  have hGb := r9.good hG
  have htotb : k / 8 < cTot (vw S' (22 + 6 * (S 0 5).toNat)) k := by
    have : cTot (vw S' (22 + 6 * (S 0 5).toNat)) k = cTot (vw S 8) k := by unfold cTot; rw [r9.2.1, r9.2.2.1]
    rw [this]; exact htot
  have hnb : vw S' (22 + 6 * (S 0 5).toNat) 0 0 = S 1 2 := by rw [r9.1, hGn]
  have hG8 := (cFold_good hGb hk htotb r11).1
  have hn8 : vw S' 8 0 0 = S 1 2 := by rw [r11.1, hnb]
  -- the copy, cell by cell
  have hcp : ∀ c, 0 ≤ c → c < S 1 2 → vw S' (22 + 6 * (S 0 5).toNat) 1 c = vw S 8 1 c ∧ vw S' (22 + 6 * (S 0 5).toNat) 2 c = vw S 8 2 c ∧ vw S' (22 + 6 * (S 0 5).toNat) 4 c = vw S 8 4 c := fun c c0 c1 =>
    ⟨r9.2.2.2 1 (by omega) (by omega) c c0 (by omega), r9.2.2.2 2 (by omega) (by omega) c c0 (by omega), r9.2.2.2 4 (by omega) (by omega) c c0 (by omega)⟩
  have hsame : ∀ c e, 0 ≤ c → c < S 1 2 → 0 ≤ e → e < S 1 2 → (cSame2 (vw S' (22 + 6 * (S 0 5).toNat)) c e ↔ cSame2 (vw S 8) c e) ∧ (cNext2 (vw S' (22 + 6 * (S 0 5).toNat)) c e ↔ cNext2 (vw S 8) c e) := by
    intro c e c0 c1 e0 e1
    obtain ⟨a1, a2, -⟩ := hcp c c0 c1
    obtain ⟨b1, b2, -⟩ := hcp e e0 e1
    unfold cSame2 cNext2
    rw [a1, a2, b1, b2]
    exact ⟨Iff.rfl, Iff.rfl⟩
  have h3' : ∀ c d, 0 ≤ c → c < S 1 2 → (d = 0 ∨ d = 1) → S' 3 (2 * c + d) = (@ite _ (cNewC S c d k) (Classical.propDecidable _) (S 0 5 + 1) (S 3 (2 * c + d))) := by
    intro c d a1 a2 a3
    have g := r12 c d a1 a2 a3
    by_cases hN : cNewC S c d k
    · rw [if_pos hN]; exact (g.1 hN).2.1
    · rw [if_neg hN]; exact (g.2 hN).2.1
  have h30 : ∀ c d, 0 ≤ c → c < S 1 2 → (d = 0 ∨ d = 1) → 0 ≤ S 3 (2 * c + d) ∧ S 3 (2 * c + d) ≤ S 0 5 := fun c d a1 a2 a3 => (h8 (2 * c + d) (by omega) (by omega)).2.1
  have hNz : ∀ c d, 0 ≤ c → c < S 1 2 → (d = 0 ∨ d = 1) → cNewC S c d k → S 3 (2 * c + d) = 0 := fun c d a1 a2 a3 hN => (h8 (2 * c + d) (by omega) (by omega)).2.2.2.2.1.mp hN.2.1
  -- pairs of an elder form
  have hold : ∀ F m, m ≤ S 0 5 → cPO S F m → cPO S' F m := by
    intro F m hm hp c d a1 a2 a3 a4
    rw [r4] at a2
    rw [hb] at a4 ⊢
    have g := hp c d a1 a2 a3 a4
    rw [h3' c d a1 a2 a3]
    have g30 := h30 c d a1 a2 a3
    by_cases hN : cNewC S c d k
    · rw [if_pos hN]
      have hz := hNz c d a1 a2 a3 hN
      exact ⟨fun hh => absurd hh (cr1 hm), fun _ => g.2 (cr2 hz)⟩
    · rw [if_neg hN]
      exact g
  refine ⟨⟨⟨by unfold cPw; rw [r4]; exact hw, by rw [r4]; exact hsz⟩, ⟨hG8, by rw [r4, hn8]⟩, by omega, ?_, ?_, ?_, ?_, ?_⟩, ?_, ?_⟩
  · intro q hq
    rw [r1] at hq
    by_cases hqf : (q : Int) = S 0 5
    · have hqq : q = (S 0 5).toNat := by omega
      subst hqq
      refine ⟨hGb, by rw [r4, hnb], ?_, by rw [hqf, r7]; omega⟩
      rw [hqf]
      refine hold _ _ (Int.le_refl _) ?_
      intro c d a1 a2 a3 a4
      have g := h7 c d a1 a2 a3 a4
      have hbb := hI.bes a1 a2 a4
      have hs2 := hsame c (cBes S c d) a1 a2 hbb.1 hbb.2
      rw [hs2.1, hs2.2, (hcp c a1 a2).2.2, (hcp _ hbb.1 hbb.2).2.2]
      exact g
    · have g := h6 q (by omega)
      rw [r10 q (by omega), r4, r8 q hqf]
      exact ⟨g.1, g.2.1, hold _ _ (by omega) g.2.2.1, g.2.2.2⟩
  · rw [r1]
    intro c d a1 a2 a3 a4
    rw [r4] at a2
    rw [hb] at a4 ⊢
    have hbb := hI.bes a1 a2 a4
    have g30 := h30 c d a1 a2 a3
    have g83 := (h8 (2 * c + d) (by omega) (by omega)).2.2.2.2.1
    have g := h7 c d a1 a2 a3 a4
    have hs2 := hsame c (cBes S c d) a1 a2 hbb.1 hbb.2
    have hu1 := (hcp c a1 a2).2.2
    have hu2 := (hcp _ hbb.1 hbb.2).2.2
    have hbw : cBetw (vw S' (22 + 6 * (S 0 5).toNat)) c (cBes S c d) k ↔ cBetw (vw S 8) c (cBes S c d) k := by
      unfold cBetw cLies cMc cMr
      rw [(hcp c a1 a2).1, (hcp c a1 a2).2.1, (hcp _ hbb.1 hbb.2).1, (hcp _ hbb.1 hbb.2).2.1]
    rw [h3' c d a1 a2 a3]
    by_cases hN : cNewC S c d k
    · rw [if_pos hN]
      have hz := hNz c d a1 a2 a3 hN
      have g2 := g.2 (cr2 hz)
      have := (cFold_next r11 hGb a1 (by rw [hnb]; exact a2) hbb.1 (by rw [hnb]; exact hbb.2) (hs2.2.mpr g2.1) (by rw [hu1, hu2]; exact g2.2)).1 (hbw.mpr hN.2.2)
      exact ⟨fun _ => this, fun hh => absurd (cr3 h5.1) hh⟩
    · rw [if_neg hN]
      by_cases hcr : 1 ≤ S 3 (2 * c + d) ∧ S 3 (2 * c + d) ≤ S 0 5
      · have g1 := g.1 hcr
        have := cFold_same r11 hGb a1 (by rw [hnb]; exact a2) hbb.1 (by rw [hnb]; exact hbb.2) (hs2.1.mpr g1.1) (by rw [hu1, hu2]; exact g1.2)
        exact ⟨fun _ => this, fun hh => absurd (cr4 hcr) hh⟩
      · have g2 := g.2 hcr
        have hz2 : S 2 (2 * c + d) = 0 := g83.mpr (cr0 g30 hcr)
        have := (cFold_next r11 hGb a1 (by rw [hnb]; exact a2) hbb.1 (by rw [hnb]; exact hbb.2) (hs2.2.mpr g2.1) (by rw [hu1, hu2]; exact g2.2)).2 (fun hh => hN ⟨a4, hz2, hbw.mp hh⟩)
        exact ⟨fun hh => absurd hh (cr2 (cr0 g30 hcr)), fun _ => this⟩
  · rw [r1, r4]
    intro p p0 p1
    have g := h8 p p0 p1
    have gi := r14 p p0 p1
    by_cases hpn : p < 2 * S 1 2
    · have hpe : p = 2 * (p / 2) + p % 2 := by omega
      have f4 := r12 (p / 2) (p % 2) (by omega) (by omega) (by omega)
      rw [← hpe] at f4
      by_cases hN : cNewC S (p / 2) (p % 2) k
      · obtain ⟨g1, g2, g3⟩ := f4.1 hN
        rw [g2, g3]
        omega
      · obtain ⟨g1, g2, g3⟩ := f4.2 hN
        rw [g1, g2, g3]
        omega
    · obtain ⟨g1, g2, g3⟩ := r13 p (by omega) p1
      rw [g1, g2, g3]
      omega
  · intro c d a1 a2 a3 a4
    rw [r4] at a2
    rw [hb] at a4
    have g := r12 c d a1 a2 a3
    rw [(g.2 (fun hN => hN.1 a4)).1]
    exact h9 c d a1 a2 a3 a4
  · rw [r1, hb, r4]
    intro f f0 f1
    by_cases hff : f = S 0 5 + 1
    · obtain ⟨c, d, a1, a2, a3, a4⟩ := hnew
      exact ⟨c, d, a1, a2, a3, a4.1, by rw [h3' c d a1 a2 a3, if_pos a4, hff]⟩
    · obtain ⟨c, d, a1, a2, a3, a4, a5⟩ := h10 f f0 (by omega)
      refine ⟨c, d, a1, a2, a3, a4, ?_⟩
      rw [h3' c d a1 a2 a3, if_neg, a5]
      intro hN
      have := hNz c d a1 a2 a3 hN
      omega
  · obtain ⟨c, d, a1, a2, a3, a4⟩ := hnew
    rw [r18]
    refine csum_pos _ (fun i _ _ => ?_) a1 (by omega : c < ((S 1 2).toNat : Nat)) ?_
    · unfold cNcr
      rcases (bI_or : bI (cNewC S i 0 k) = 0 ∨ _) with u | u <;> rcases (bI_or : bI (cNewC S i 1 k) = 0 ∨ _) with v | v <;> omega
    · unfold cNcr
      rcases a3 with a3 | a3
      · subst a3
        rw [bI_pos a4]
        rcases (bI_or : bI (cNewC S c 1 k) = 0 ∨ _) with v | v <;> omega
      · subst a3
        rw [bI_pos a4]
        rcases (bI_or : bI (cNewC S c 0 k) = 0 ∨ _) with v | v <;> omega
  · rw [cSum_even (S := S) _ (by omega), cSum_even (S := S) _ (by omega), r18, ← csum_add]
    refine csum_cong _ (fun c c0 c1 => ?_)
    have g0 := r12 c 0 c0 (by omega) (Or.inl rfl)
    have g1 := r12 c 1 c0 (by omega) (Or.inr rfl)
    have e : ∀ d, (d = 0 ∨ d = 1) → S' 4 (2 * c + d) = S 4 (2 * c + d) + bI (cNewC S c d k) := by
      intro d hd
      have g := r12 c d c0 (by omega) hd
      by_cases hN : cNewC S c d k
      · rw [(g.1 hN).2.2, bI_pos hN]
      · rw [(g.2 hN).2.2, bI_neg hN]; omega
    rw [e 0 (Or.inl rfl), e 1 (Or.inr rfl)]
    unfold cNcr
    omega
set_option maxHeartbeats 8000000 in
theorem cInv_unfold {S S' : cS} {M : Int} (h : cInv S M) (hf : 1 ≤ S 0 5) (hR : cUnfR S S') : cInv S' M := by
  have hI := h
  obtain ⟨⟨hw, hsz⟩, ⟨hG, hGn⟩, h5, h6, h7, h8, h9, h10⟩ := h
  obtain ⟨r1, r2, r3, r4, r5, r6, r7⟩ := hR
  have e1 : S' 1 = S 1 := r4 1 (by omega) (by omega) (by omega) (by omega)
  have e4 : S' 4 = S 4 := r4 4 (by omega) (by omega) (by omega) (by omega)
  have e5 : S' 5 = S 5 := r4 5 (by omega) (by omega) (by omega) (by omega)
  have hb : cBes S' = cBes S := by funext c d; unfold cBes; rw [e1]
  have hq : ((S 0 5 - 1).toNat : Int) = S 0 5 - 1 := by omega
  have hp := h6 (S 0 5 - 1).toNat (by omega)
  rw [hq] at hp
  obtain ⟨p1, p2, p3, p4⟩ := hp
  have h3' : ∀ c d, 0 ≤ c → c < S 1 2 → (d = 0 ∨ d = 1) → (S 3 (2 * c + d) = S 0 5 → S' 2 (2 * c + d) = 0 ∧ S' 3 (2 * c + d) = 0) ∧ (¬ S 3 (2 * c + d) = S 0 5 → S' 2 (2 * c + d) = S 2 (2 * c + d) ∧ S' 3 (2 * c + d) = S 3 (2 * c + d)) := by
    intro c d a1 a2 a3
    have g := r7 (2 * c + d) (by omega) (by omega)
    refine ⟨fun hh => ?_, fun hh => ?_⟩
    · rw [if_pos ⟨by omega, hh⟩, if_pos ⟨by omega, hh⟩] at g; exact g
    · rw [if_neg (fun h => hh h.2), if_neg (fun h => hh h.2)] at g; exact g
  have hcr : ∀ c d m, 0 ≤ c → c < S 1 2 → (d = 0 ∨ d = 1) → m ≤ S 0 5 - 1 → ((1 ≤ S' 3 (2 * c + d) ∧ S' 3 (2 * c + d) ≤ m) ↔ (1 ≤ S 3 (2 * c + d) ∧ S 3 (2 * c + d) ≤ m)) := by
    intro c d m a1 a2 a3 hm
    have g := h3' c d a1 a2 a3
    by_cases hh : S 3 (2 * c + d) = S 0 5
    · rw [(g.1 hh).2]; omega
    · rw [(g.2 hh).2]
  refine ⟨⟨by unfold cPw; rw [e1]; exact hw, by rw [e1]; exact hsz⟩, ⟨r6.good p1, by rw [e1, r6.1, p2]⟩, by omega, ?_, ?_, ?_, ?_, ?_⟩
  · intro q hq2
    rw [r1] at hq2
    have g := h6 q (by omega)
    have ev : vw S' (22 + 6 * q) = vw S (22 + 6 * q) := vw_eq fun a _ _ => r5 a (by omega) (by omega)
    rw [ev, e1, r5 21 (by omega) (by omega)]
    refine ⟨g.1, g.2.1, fun c d a1 a2 a3 a4 => ?_, g.2.2.2⟩
    rw [e1] at a2
    rw [hb] at a4 ⊢
    rw [hcr c d q a1 a2 a3 (by omega)]
    exact g.2.2.1 c d a1 a2 a3 a4
  · rw [r1]
    intro c d a1 a2 a3 a4
    rw [e1] at a2
    rw [hb] at a4 ⊢
    rw [hcr c d (S 0 5 - 1) a1 a2 a3 (by omega)]
    have hbb := hI.bes a1 a2 a4
    have c1 : ∀ c, 0 ≤ c → c < S 1 2 → vw S' 8 1 c = vw S (22 + 6 * (S 0 5 - 1).toNat) 1 c ∧ vw S' 8 2 c = vw S (22 + 6 * (S 0 5 - 1).toNat) 2 c ∧ vw S' 8 4 c = vw S (22 + 6 * (S 0 5 - 1).toNat) 4 c := fun c c0 c1 =>
      ⟨r6.2.2.2 1 (by omega) (by omega) c c0 (by omega), r6.2.2.2 2 (by omega) (by omega) c c0 (by omega), r6.2.2.2 4 (by omega) (by omega) c c0 (by omega)⟩
    obtain ⟨x1, x2, x4⟩ := c1 c a1 a2
    obtain ⟨y1, y2, y4⟩ := c1 _ hbb.1 hbb.2
    have g := p3 c d a1 a2 a3 a4
    unfold cSame2 cNext2 at g ⊢
    rw [x1, x2, x4, y1, y2, y4]
    exact g
  · rw [r1, e4, e5]
    intro p p0 p1
    have g := h8 p p0 p1
    have g7 := r7 p p0 p1
    by_cases hh : p < 2 * S 1 2 ∧ S 3 p = S 0 5
    · rw [if_pos hh, if_pos hh] at g7
      rw [g7.1, g7.2]
      omega
    · rw [if_neg hh, if_neg hh] at g7
      rw [g7.1, g7.2]
      rw [e1]
      omega
  · intro c d a1 a2 a3 a4
    rw [e1] at a2
    rw [hb] at a4
    have g := h3' c d a1 a2 a3
    by_cases hh : S 3 (2 * c + d) = S 0 5
    · exact (g.1 hh).1
    · rw [(g.2 hh).1]; exact h9 c d a1 a2 a3 a4
  · rw [r1, hb, e1]
    intro f f0 f1
    obtain ⟨c, d, a1, a2, a3, a4, a5⟩ := h10 f f0 (by omega)
    exact ⟨c, d, a1, a2, a3, a4, by rw [((h3' c d a1 a2 a3).2 (by omega)).2, a5]⟩
