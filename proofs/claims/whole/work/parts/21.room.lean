/-! THE ROOM, by evaluation of the small machine: what one more digest makes (cells, slots) at small sheets, class and reference together -/
def zq_rm (s : List Int32) : Option (Nat × Nat) := match zrun z_nl z_cc z_nh (z_code (fun i => s.getD i 0) s.length) z_hn 1000000 9 174 0 [(0, .retAddr 0)] [] zH0 with
  | some (.inl (some (.int 1)), h) => some (h.2.2.1, h.2.2.2.1)
  | _ => none
def zq_rd (s q : List Int32) : Option (Nat × Nat) := match zq_rm s, zq_rm q with
  | some a, some b => some (b.1 - a.1, b.2 - a.2)
  | _, _ => none
/-- 1 x 1: 8 rows of 8, 7 rows of 7 -/
theorem zq_11 : zq_rd [20, 0, 0, 0, 0, 0] [20, 0, 0, 0, 0, 0, 20, 0, 0, 0, 0, 0] = some (15, 113) := by decide +kernel
