/-! BIG STEPS: a run, whatever its fuel -/
section ZBIG
variable {nl cc : Nat → Nat} {nh : Nat → Bool} {code : Nat → Nat → Option zI} {hn : Nat → Nat → String → Option (Nat × Nat)}
theorem zrun_more : ∀ (k d μ pc : Nat) (L : zLoc) (st : List Value) (h : zH) (res : (Option Value ⊕ String) × zH), zrun nl cc nh code hn k d μ pc L st h = some res → ∀ k', k ≤ k' → zrun nl cc nh code hn k' d μ pc L st h = some res := by
  intro k
  induction k with
  | zero => intro d μ pc L st h res hr; cases hr
  | succ k ih =>
    intro d μ pc L st h res hr k' hk
    obtain ⟨k2, rfl⟩ : ∃ k2, k' = k2 + 1 := ⟨k' - 1, by omega⟩
    have hk2 : k ≤ k2 := by omega
    rw [zrun] at hr ⊢
    cases hc : code μ pc with
    | none => rw [hc] at hr; cases hr
    | some i =>
      rw [hc] at hr
      match i, hr with
      | .inl op, hr =>
        dsimp only at hr ⊢
        split at hr
        · cases hr
        · exact ih _ _ _ _ _ _ _ hr _ hk2
      | .inr (.inl r), hr => exact hr
      | .inr (.inr (.inl Ex)), hr => exact hr
      | .inr (.inr (.inr (μ', n, kd))), hr =>
        dsimp only at hr ⊢
        cases d with
        | zero => cases hr
        | succ d' =>
          dsimp only at hr ⊢
          split at hr
          · rename_i hcan
            rw [if_pos hcan]
            generalize hz : zrun nl cc nh code hn k d' μ' 0 (lv_args 0 (st.take n).reverse) [] h = z at hr
            match z, hz, hr with
            | none, _, hr => cases hr
            | some (.inl v, h'), hz, hr =>
              rw [ih _ _ _ _ _ _ _ hz _ hk2]
              exact ih _ _ _ _ _ _ _ hr _ hk2
            | some (.inr Ex, h'), hz, hr =>
              rw [ih _ _ _ _ _ _ _ hz _ hk2]
              dsimp only at hr ⊢
              split at hr
              · rename_i pc2 x2 hhx
                exact ih _ _ _ _ _ _ _ hr _ hk2
              · exact hr
          · cases hr
def zR (nl cc : Nat → Nat) (nh : Nat → Bool) (code : Nat → Nat → Option zI) (hn : Nat → Nat → String → Option (Nat × Nat)) (d μ pc : Nat) (L : zLoc) (st : List Value) (h : zH) (res : (Option Value ⊕ String) × zH) : Prop := ∃ k, zrun nl cc nh code hn k d μ pc L st h = some res
theorem zR_op {d μ pc pc' : Nat} {L L' : zLoc} {st st' : List Value} {h h' : zH} {res : (Option Value ⊕ String) × zH} {op : zOp} (hc : code μ pc = some (.inl op)) (ho : op L st h = some (pc', L', st', h')) (hr : zR nl cc nh code hn d μ pc' L' st' h' res) : zR nl cc nh code hn d μ pc L st h res := by
  obtain ⟨k, hk⟩ := hr
  refine ⟨k + 1, ?_⟩
  rw [zrun, hc]
  dsimp only
  rw [ho]
  exact hk
theorem zR_ret0 {d μ pc : Nat} {L : zLoc} {h : zH} (hc : code μ pc = some (.inr (.inl 0))) : zR nl cc nh code hn d μ pc L [] h (.inl none, h) := by
  refine ⟨1, ?_⟩
  rw [zrun, hc]
theorem zR_ret {d μ pc r : Nat} {L : zLoc} {h : zH} {v : Value} (hc : code μ pc = some (.inr (.inl (r + 1)))) (hk : zRk (r + 1) v = true) : zR nl cc nh code hn d μ pc L [v] h (.inl (some v), h) := by
  refine ⟨1, ?_⟩
  rw [zrun, hc]
  dsimp only
  rw [if_pos hk]
theorem zR_call {d μ pc μ' n kd : Nat} {L : zLoc} {st : List Value} {h h' : zH} {v : Option Value} {res : (Option Value ⊕ String) × zH} (hc : code μ pc = some (.inr (.inr (.inr (μ', n, kd))))) (hcan : zCan nl cc μ' n kd st h = true)
    (h1 : zR nl cc nh code hn d μ' 0 (lv_args 0 (st.take n).reverse) [] h (.inl v, h')) (h2 : zR nl cc nh code hn (d + 1) μ (pc + 3) L (v.toList ++ st.drop n) h' res) : zR nl cc nh code hn (d + 1) μ pc L st h res := by
  obtain ⟨k1, e1⟩ := h1
  obtain ⟨k2, e2⟩ := h2
  refine ⟨max k1 k2 + 1, ?_⟩
  rw [zrun, hc]
  dsimp only
  rw [if_pos hcan, zrun_more _ _ _ _ _ _ _ _ e1 _ (Nat.le_max_left k1 k2)]
  exact zrun_more _ _ _ _ _ _ _ _ e2 _ (Nat.le_max_right k1 k2)
end ZBIG
