theorem zlaw (L : Nat) (xs : Nat → Int32) (hL : L ≤ 3584) : ∃ h9 : zH, Go (L, xs) 11 mL_law (0, [(0, .retAddr 0)], [], ([], 0)) (.inl (some (.int 1)), h9) ∧ h9.1.length + h9.2 ≤ 601024 ∧ zsz h9.1 + 6 * h9.2 ≤ 7293034 := by
  sorry
