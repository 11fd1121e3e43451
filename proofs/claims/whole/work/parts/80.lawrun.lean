theorem law_run (L : Nat) (xs : Nat → Int32) (hL : L ≤ 3072) : ∃ n h', run n 40 ML_law 0 (ent [.ref 0] 4) [] ((fun a j => if a = 0 then xs j else 0, fun _ _ => 0, fun _ _ => none, [(0, L)]) : Hp) = some (some (.int 1), h') ∧ nxt h' ≤ 600 ∧ tot h' ≤ L + 200000 := by
  sorry
