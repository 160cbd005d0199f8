/-- test: requireRule's straight rows -/
theorem tst1 (X : zX) (f : Nat) (h : zH) (x : Int32) : Go X f mX4_isIn (0, [(0, .int x), (1, .int (nI 0)), (2, .int (nI 5))], [], h) (.inl (some (.int (if nI 0 ≤ x ∧ x ≤ nI 5 then nI 1 else nI 0))), h) := by
  iterate 2 (refine go_s rfl ?_)
  done
theorem tst2 (X : zX) (f : Nat) (k a b : Nat) (h : zH) (g : Nat → Int32) (h1 : h.1[k]? = some (.inr (0, [.ref a, .ref b]))) (h2 : h.1[a]? = some (.inl (6, .inl g))) : Go X f mX0_rank (0, [(0, .ref k)], [], h) (.inl (some (.int (nI 0))), h) := by
  iterate 6 (refine go_s rfl ?_)
  done
theorem tst3 (X : zX) (f : Nat) (k a b : Nat) (h : zH) (g : Nat → Int32) (h1 : h.1[k]? = some (.inr (0, [.ref a, .ref b]))) (h2 : h.1[a]? = some (.inl (6, .inl g))) : Go X f mX0_rank (0, [(0, .ref k)], [], h) (.inl (some (.int (nI 0))), h) := by
  repeat (refine go_s rfl ?_)
  done
