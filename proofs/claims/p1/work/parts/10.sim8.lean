/-! THE SIMULATION, closed by induction on the run's fuel -/
section ZSIM2
variable {cl : List vw_C} {T : List FieldType} {G N : List Cond} {O : Nat → State → Heap → Prop} {E : zE} {yy : Nat → MethodName} {bb : Nat → ByteArray} {nl cc : Nat → Nat} {rt : Nat → Option FieldType} {hh : Nat → List (Nat × Nat × Nat × Nat)} {nh : Nat → Bool} {code : Nat → Nat → Option zI} {hn : Nat → Nat → String → Option (Nat × Nat)} {l : Launch}
theorem zCan_spec {μ n kd : Nat} {st : List Value} {h : zH} (hc : zCan nl cc μ n kd st h = true) : n ≤ st.length ∧ (lg_sl (st.take n).reverse).length ≤ nl μ ∧ ((st.drop n).map fun v => v.category).sum ≤ 8 ∧
    ((kd ≠ 2 ∧ kd ≠ 3 ∧ kd ≠ 6) → ∃ (b : Nat) (As fs : List Value), (st.take n).reverse = .ref b :: As ∧ b < h.2.1 ∧ h.1 b = .inr (cc μ, fs)) := by
  unfold zCan at hc
  simp only [Bool.and_eq_true] at hc
  obtain ⟨⟨⟨h1, h2⟩, h3⟩, h4⟩ := hc
  refine ⟨Nat.le_of_ble_eq_true h1, Nat.le_of_ble_eq_true h2, Nat.le_of_ble_eq_true h3, fun ⟨k1, k2, k3⟩ => ?_⟩
  simp only [Bool.or_eq_true, beq_iff_eq, k1, k2, k3, false_or] at h4
  split at h4
  · rename_i b As hst
    simp only [Bool.and_eq_true] at h4
    obtain ⟨g1, g2⟩ := h4
    split at g2
    · rename_i c fs hh
      have hcc : c = cc μ := by simpa using g2
      subst hcc
      have g1' : b < h.2.1 := Nat.le_of_ble_eq_true g1
      exact ⟨b, As, fs, hst, g1', hh⟩
    · cases g2
  · cases h4
theorem zrev (E : zE) (st : List Value) (n : Nat) : ((st.take n).reverse.map (zV E)).reverse ++ (st.drop n).map (zV E) = st.map (zV E) := by
  rw [List.map_reverse, List.reverse_reverse, ← List.map_append, List.take_append_drop]
theorem zsim (hNk : ∀ w ∈ N, zNok w = true) (hOa : ∀ (b : Nat) (u U : State) (H : Heap), u.WarmedH U.vm → O b u H → O b U H) (hOk : ∀ (b : Nat) (U : State) (H H1 : Heap), (∀ q : Nat, q < b → q < H.size → H1[q]? = H[q]?) → O b U H → O b U H1)
    (hnh : ∀ μ, nh μ = true → hh μ = []) (hOK : ∀ μ pc i, code μ pc = some i → zOK cl T G N O E yy bb nl cc rt hh l μ pc i) (hhn : ∀ μ pc Ex pc' x, hn μ pc Ex = some (pc', x) → hh μ ≠ [] ∧ zHndSnd cl T G N O E (yy μ).cls (yy μ).name (bb μ) (nl μ) pc Ex pc' x (hh μ)) :
    ∀ k, zGoes cl T G N O E yy bb nl cc hh nh code hn l k := by
  intro k
  induction k with
  | zero =>
    intro d μ pc L st h res h' hr
    cases hr
  | succ k ih =>
    intro d μ pc L st h res h' hr
    rw [zrun] at hr
    split at hr
    · cases hr
    · -- a step
      rename_i op hcode
      split at hr
      · cases hr
      · rename_i pc1 L1 st1 h1 hop
        obtain ⟨⟨m1, m2⟩, hgo⟩ := ih d μ pc1 L1 st1 h1 res h' hr
        have hsnd : zSnd cl T G N O E (yy μ).cls (yy μ).name (bb μ) (nl μ) pc op := hOK μ pc _ hcode
        obtain ⟨⟨n1, n2⟩, hstep⟩ := hsnd L st h pc1 L1 st1 h1 hop
        refine ⟨⟨Nat.le_trans n1 m1, Nat.le_trans n2 m2⟩, ?_⟩
        intro p e R s m args below meth c Q F htab hR1 hR2 n0 S0 H locs ls hl hW hS hn0 hS0 hcR hsR k1 k2 k3
        refine hstep p l e R s m args below meth c Q F (by omega) (by omega) n0 S0 H locs ls hl hW hS hn0 hS0 (by omega) (by omega) (fun H' locs' ls' hl' hW' hS' => ?_)
        exact hgo p e R s m args below meth c Q F htab hR1 hR2 n0 S0 H' locs' ls' hl' hW' hS' (Nat.le_trans hn0 n1) (Nat.le_trans hS0 n2) hcR hsR k1 k2 k3
    · -- a return
      rename_i r hcode
      have hrr : ∃ v, res = .inl v ∧ h' = h ∧ ((r = 0 ∧ v = none ∧ st = []) ∨ (r ≠ 0 ∧ ∃ x, v = some x ∧ zRk r x = true ∧ st = [x])) := by
        split at hr
        · cases hr
          exact ⟨none, rfl, rfl, Or.inl ⟨rfl, rfl, rfl⟩⟩
        · rename_i r' v
          split at hr
          · rename_i hk
            cases hr
            exact ⟨some v, rfl, rfl, Or.inr ⟨by omega, v, rfl, hk, rfl⟩⟩
          · cases hr
        · cases hr
      obtain ⟨v, rfl, rfl, hv⟩ := hrr
      refine ⟨⟨Nat.le_refl _, Nat.le_refl _⟩, ?_⟩
      intro p e R s m args below meth c Q F htab hR1 hR2 n0 S0 H locs ls hl hW hS hn0 hS0 hcR hsR k1 k2 k3
      rcases hv with ⟨h0, rfl, rfl⟩ | ⟨h0, x, rfl, hx, rfl⟩
      · exact k1 none rfl pc r H locs ls hcode (Or.inl ⟨h0, rfl⟩) hW hS
      · exact k1 (some x) rfl pc r H locs ls hcode (Or.inr ⟨h0, x, rfl, hx⟩) hW hS
    · -- a throw
      rename_i Ex hcode
      split at hr
      · rename_i hg
        cases hr
        simp only [Bool.and_eq_true] at hg
        refine ⟨⟨Nat.le_succ _, Nat.le_add_right _ _⟩, ?_⟩
        intro p e R s m args below meth c Q F htab hR1 hR2 n0 S0 H locs ls hl hW hS hn0 hS0 hcR hsR k1 k2 k3
        exact k2 Ex rfl pc st h H locs ls hcode rfl (Nat.le_of_ble_eq_true hg.1.1) hn0 hS0 hW hS hl.1 (Nat.le_of_ble_eq_true hg.2)
      · cases hr
    · -- a call
      rename_i μ' n kd hcode
      split at hr
      · cases hr
      · rename_i d'
        split at hr
        · rename_i hcan
          obtain ⟨hn1, hlg, hsum, hrecv⟩ := zCan_spec hcan
          have hcall := hOK μ pc _ hcode
          obtain ⟨hcs, hnl12, hplain, hclc⟩ := hcall
          -- the callee's run
          generalize hz : zrun nl cc nh code hn k d' μ' 0 (lv_args 0 (st.take n).reverse) [] h = z at hr
          match z, hz, hr with
          | none, _, hr => cases hr
          | some (res1, h1), hz, hr =>
            have hM := zmet hnh hOK ih hplain hz hlg
            obtain ⟨⟨m1, m2⟩, -⟩ := ih d' μ' 0 _ _ h res1 h1 hz
            have key : ∀ (p : Program) (e : Env) (R : Room) (s : State) (m : MethodId) (args : Array Value) (below : List Frame) (meth : Method) (c : Code), zF cl T G N O E (yy μ).cls (yy μ).name (bb μ) (nl μ) p s m args meth c → d' + 1 + 1 ≤ R.frames → 41 * (d' + 1) + 40 ≤ R.locals →
                ∀ (n0 S0 : Nat) (H : Heap) (locs : List Loc) (ls : Array Slot), ls.size = nl μ → zW cl E h H → va_S (zA E) s.heap H locs → n0 ≤ h.2.2.1 → S0 ≤ h.2.2.2.1 → h1.2.2.1 - n0 ≤ R.cells → h1.2.2.2.1 - S0 ≤ R.slots →
                vx_Run p l e R s m args below meth c H locs (h.2.2.1 - n0) (h.2.2.2.1 - S0) (h1.2.2.1 - h.2.2.1) (h1.2.2.2.1 - h.2.2.2.1) (F0 m pc ls (st.map (zV E))) ((st.drop n).map (zV E)) (zQc cl E res1 h1 ((st.take n).reverse.map (zV E)).toArray) (zXc cl E res1 h1) (zA E) := by
              intro p e R s m args below meth c F hR1 hR2 n0 S0 H locs ls hsz hW hS hn0 hS0 hcR hsR
              have hPc : ∀ U : State, U.heap = H → s.WarmedH U.vm → zPre cl T N O E h (st.take n).reverse ((st.take n).reverse.map (zV E)).toArray U := by
                intro U hU hWm
                refine ⟨rfl, F.2.2.2.2.2.2.1.moved hWm.alike, fun w hw => zNw_warm (hNk w hw) hWm (F.2.2.2.2.2.1 w hw), ?_, ?_, F.2.2.2.2.2.2.2.2.2.1, by rw [hU]; exact hW⟩
                · rw [hU]
                  exact hOa _ s U _ hWm (hOk _ s s.heap H (fun q hq hq2 => hS.2.1 q hq2 (Nat.not_le.mpr hq)) F.2.2.2.2.2.2.2.1)
                · rw [hU]
                  have hb := F.2.2.2.2.2.2.2.2.2.1 0
                  exact va_X.moved hWm.alike (F.2.2.2.2.2.2.2.2.1.kept (hS.2.1 _ (Nat.lt_of_lt_of_le hb F.2.2.2.2.2.2.2.2.2.2.1) (Nat.not_le.mpr hb)))
              have hcat : (((st.drop n).map (zV E)).map fun v => v.category) = (st.drop n).map fun v => v.category := by
                rw [List.map_map]
                exact List.map_congr_left fun v _ => zV_cat E v
              have hrun := hcs p l e R s m args below meth c H locs (h.2.2.1 - n0) (h.2.2.2.1 - S0) (h1.2.2.1 - h.2.2.1) (h1.2.2.2.1 - h.2.2.2.1) d' ls ((st.take n).reverse.map (zV E)) ((st.drop n).map (zV E)) _ _ _ F hM (zPre_blind hNk hOa h _) hPc
                (by rw [List.length_map, List.length_reverse, List.length_take]; omega) hsz (by rw [hcat]; exact hsum) (by omega) (by omega) (by omega) (by omega) (fun hk => by
                  obtain ⟨b, As, fs, q1, q2, q3⟩ := hrecv hk
                  obtain ⟨qc, hcl, hqc⟩ := hclc hk
                  have hP := hW.1 b q2
                  rw [q3] at hP
                  obtain ⟨r0, g1, cell, g2, g3, g4, -⟩ := hP
                  have hr0 := Option.some.inj (g1.symm.trans hcl)
                  refine ⟨zb E + b, As.map (zV E), cell, by rw [q1]; rfl, g2, by rw [g4]; rfl, fun h01 => ?_⟩
                  rw [g3, ← hqc h01]
                  exact (F.2.2.2.2.2.2.1.1 _ _ hcl).2.1)
              rw [zrev] at hrun
              exact hrun
            have keepS : ∀ {s st₀ t T' : State} {H : Heap} {locs L0 : List Loc}, st₀.heap = H → T'.heap = t.heap → va_S (zA E) s.heap H locs → (∀ q ∈ L0, zA E q.base) → va_F (zA E) st₀ t → va_S (zA E) s.heap T'.heap (locs ++ L0) := by
              intro s st₀ t T' H locs L0 h0 e1 hS hL hF
              exact (vx_keep h0 e1 hS (fun _ _ hq => hq) (fun _ hq => hq) hL hF).2.2
            match res1, hz, hM, hr with
            | .inl v, hz, hM, hr =>
              have hr : zrun nl cc nh code hn k (d' + 1) μ (pc + 3) L (v.toList ++ st.drop n) h1 = some (res, h') := hr
              obtain ⟨⟨k1', k2'⟩, hgo⟩ := ih (d' + 1) μ (pc + 3) L _ h1 res h' hr
              refine ⟨⟨Nat.le_trans m1 k1', Nat.le_trans m2 k2'⟩, ?_⟩
              intro p e R s m args below meth c Q F htab hR1 hR2 n0 S0 H locs ls hl hW hS hn0 hS0 hcR hsR k1 k2 k3
              intro T0 hT X
              rcases key p e R s m args below meth c F hR1 hR2 n0 S0 H locs ls hl.1 hW hS hn0 hS0 (by omega) (by omega) T0 hT X with ⟨w, st₀, t, T', L0, h0, X', hL, e1, e2, ⟨⟨v2, hv2, hoc⟩, hW1, hF⟩, st1⟩ | ⟨q, st₀, t, T', L0, Ex, ce, h0, X', hL, e1, e2, ⟨hbad, -, -⟩, -⟩
              · cases hv2
                have hw : w = v.map (zV E) := by cases hoc; rfl
                subst hw
                have q1 : h.2.2.1 - n0 + (h1.2.2.1 - h.2.2.1) = h1.2.2.1 - n0 := by omega
                have q2 : h.2.2.2.1 - S0 + (h1.2.2.2.1 - h.2.2.2.1) = h1.2.2.2.1 - S0 := by omega
                rw [q1, q2] at X'
                have hst : (v.map (zV E)).toList ++ (st.drop n).map (zV E) = (v.toList ++ st.drop n).map (zV E) := by
                  rw [List.map_append]
                  cases v <;> rfl
                rw [hst] at st1
                obtain ⟨t2, a1, b1⟩ := hgo p e R s m args below meth c Q F htab hR1 hR2 n0 S0 T'.heap (locs ++ L0) ls hl (by rw [e1]; exact hW1) (keepS h0 e1 hS hL hF) (by omega) (by omega) hcR hsR k1 k2 k3 T' rfl X'
                exact ⟨t2, st1 t2 a1, b1⟩
              · cases hbad
            | .inr Ex, hz, hM, hr =>
              have hr : (match hn μ pc Ex with
                | some (pc', x) => zrun nl cc nh code hn k (d' + 1) μ pc' (zF1 x L) [] h1
                | none => if nh μ = true then some (.inr Ex, h1) else none) = some (res, h') := hr
              split at hr
              · rename_i pc' x hhx
                obtain ⟨⟨k1', k2'⟩, hgo⟩ := ih (d' + 1) μ pc' _ _ h1 res h' hr
                refine ⟨⟨Nat.le_trans m1 k1', Nat.le_trans m2 k2'⟩, ?_⟩
                intro p e R s m args below meth c Q F htab hR1 hR2 n0 S0 H locs ls hl hW hS hn0 hS0 hcR hsR k1 k2 k3
                intro T0 hT X
                rcases key p e R s m args below meth c F hR1 hR2 n0 S0 H locs ls hl.1 hW hS hn0 hS0 (by omega) (by omega) T0 hT X with ⟨w, st₀, t, T', L0, h0, X', hL, e1, e2, ⟨⟨v2, hbad, -⟩, -, -⟩, st1⟩ | ⟨q, st₀, t, T', L0, Ex2, ce, h0, X', hL, e1, e2, ⟨hx2, hW1, hF⟩, hce, hcv, hcl, st1⟩
                · cases hbad
                · cases hx2
                  have q1 : h.2.2.1 - n0 + (h1.2.2.1 - h.2.2.1) = h1.2.2.1 - n0 := by omega
                  have q2 : h.2.2.2.1 - S0 + (h1.2.2.2.1 - h.2.2.2.1) = h1.2.2.2.1 - S0 := by omega
                  rw [q1, q2] at X'
                  have hHn := (hhn μ pc Ex pc' x hhx).2 p l e R s m args below meth c Q T'.heap (locs ++ L0) (h1.2.2.1 - n0) (h1.2.2.2.1 - S0) ls ((st.drop n).map (zV E)) q ce (zLo E L) F (htab (hhn μ pc Ex pc' x hhx).1) hl (by rw [e1]; exact hce) hcv hcl (fun ls' hl' => by
                    rw [zLo_filter] at hl'
                    exact hgo p e R s m args below meth c Q F htab hR1 hR2 n0 S0 T'.heap (locs ++ L0) ls' hl' (by rw [e1]; exact hW1) (keepS h0 e1 hS hL hF) (by omega) (by omega) hcR hsR k1 k2 k3)
                  obtain ⟨t2, a1, b1⟩ := hHn T' rfl X'
                  exact ⟨t2, st1.trans a1, b1⟩
              · split at hr
                · rename_i hnm
                  cases hr
                  refine ⟨⟨m1, m2⟩, ?_⟩
                  intro p e R s m args below meth c Q F htab hR1 hR2 n0 S0 H locs ls hl hW hS hn0 hS0 hcR hsR k1 k2 k3
                  intro T0 hT X
                  rcases key p e R s m args below meth c F hR1 hR2 n0 S0 H locs ls hl.1 hW hS hn0 hS0 (by omega) (by omega) T0 hT X with ⟨w, st₀, t, T', L0, h0, X', hL, e1, e2, ⟨⟨v2, hbad, -⟩, -, -⟩, st1⟩ | ⟨q, st₀, t, T', L0, Ex2, ce, h0, X', hL, e1, e2, ⟨hx2, hW1, hF⟩, hce, hcv, hcl, st1⟩
                  · cases hbad
                  · cases hx2
                    have q1 : h.2.2.1 - n0 + (h'.2.2.1 - h.2.2.1) = h'.2.2.1 - n0 := by omega
                    have q2 : h.2.2.2.1 - S0 + (h'.2.2.2.1 - h.2.2.2.1) = h'.2.2.2.1 - S0 := by omega
                    rw [q1, q2] at X'
                    obtain ⟨t2, a1, b1⟩ := k3 Ex rfl hnm pc T'.heap (locs ++ L0) ls ((st.drop n).map (zV E)) q ce (by rw [e1]; exact hW1) (keepS h0 e1 hS hL hF) (by rw [e1]; exact hce) hcv hcl T' rfl X'
                    exact ⟨t2, st1.trans a1, b1⟩
                · cases hr
        · cases hr
end ZSIM2
