/-! ===== the class's small methods ===== -/
section LEAF
variable {X : zX} {fu : Nat} {h : zH} {t : Nat} {f : Nat → Int32} {g : Nat → Nat}
theorem odd_in (ht : h.1[t]? = some (.inl (6, .inl f))) (hg : hold 6 f g) (h6 : ∀ k, k < 6 → g k < 6) {a : Nat} (ha : a < 6) {oo : zOut} :
    ∀ (m k acc : Nat), k + m = 6 → Go X fu mX3_oddness (38, [(0, .ref t), (1, .int (nI (lp (fun b acc => acc + if g b < g a then 1 else 0) m k acc))), (2, .int (nI a)), (3, .int (nI 6))], [], h) oo → Go X fu mX3_oddness (14, [(0, .ref t), (1, .int (nI acc)), (2, .int (nI a)), (3, .int (nI k))], [], h) oo := by
  intro m
  induction m with
  | zero =>
    intro k acc hk K
    obtain rfl : k = 6 := by omega
    repeat (first
      | exact K
      | exact go_ret rfl rfl rfl rfl
      | exact go_end rfl rfl rfl rfl
      | refine go_add rfl ?_
      | refine go_mul rfl ?_
      | refine go_sub rfl (by omega) ?_
      | refine go_inc rfl rfl rfl rfl rfl ?_
      | refine go_dec rfl rfl rfl (by omega) rfl rfl ?_
      | refine go_div rfl (by omega) ?_
      | refine go_rem rfl (by omega) ?_
      | refine go_icT rfl (by dsimp only [ncd]; omega) ?_
      | refine go_icF rfl (by dsimp only [ncd]; omega) ?_
      | refine go_ifT rfl (by dsimp only [ncd]; omega) ?_
      | refine go_ifF rfl (by dsimp only [ncd]; omega) ?_
      | refine go_ift rfl (by decide) ?_
      | refine go_s rfl ?_
      )
  | succ m ih =>
    intro k acc hk K
    have h1 := h6 k (by omega)
    have h2 := h6 a ha
    have K2 : Go X fu mX3_oddness (38, [(0, .ref t), (1, .int (nI (lp (fun b acc => acc + if g b < g a then 1 else 0) m (k + 1) (acc + if g k < g a then 1 else 0)))), (2, .int (nI a)), (3, .int (nI 6))], [], h) oo := K
    by_cases e : g k < g a
    · rw [if_pos e] at K2
      repeat (first
        | exact ih (k + 1) _ (by omega) K2
        | exact go_ret rfl rfl rfl rfl
        | exact go_end rfl rfl rfl rfl
        | refine go_add rfl ?_
        | refine go_mul rfl ?_
        | refine go_sub rfl (by omega) ?_
        | refine go_inc rfl rfl rfl rfl rfl ?_
        | refine go_dec rfl rfl rfl (by omega) rfl rfl ?_
        | refine go_ial rfl ht (by first | omega | exact ⟨dg_lt _ _, by omega⟩) (hg _ (by first | omega | exact dg_lt _ _)) ?_
        | refine go_div rfl (by omega) ?_
        | refine go_rem rfl (by omega) ?_
        | refine go_icT rfl (by dsimp only [ncd]; omega) ?_
        | refine go_icF rfl (by dsimp only [ncd]; omega) ?_
        | refine go_ifT rfl (by dsimp only [ncd]; omega) ?_
        | refine go_ifF rfl (by dsimp only [ncd]; omega) ?_
        | refine go_ift rfl (by decide) ?_
        | refine go_s rfl ?_
        )
    · rw [if_neg e] at K2
      repeat (first
        | exact ih (k + 1) _ (by omega) K2
        | exact go_ret rfl rfl rfl rfl
        | exact go_end rfl rfl rfl rfl
        | refine go_add rfl ?_
        | refine go_mul rfl ?_
        | refine go_sub rfl (by omega) ?_
        | refine go_inc rfl rfl rfl rfl rfl ?_
        | refine go_dec rfl rfl rfl (by omega) rfl rfl ?_
        | refine go_ial rfl ht (by first | omega | exact ⟨dg_lt _ _, by omega⟩) (hg _ (by first | omega | exact dg_lt _ _)) ?_
        | refine go_div rfl (by omega) ?_
        | refine go_rem rfl (by omega) ?_
        | refine go_icT rfl (by dsimp only [ncd]; omega) ?_
        | refine go_icF rfl (by dsimp only [ncd]; omega) ?_
        | refine go_ifT rfl (by dsimp only [ncd]; omega) ?_
        | refine go_ifF rfl (by dsimp only [ncd]; omega) ?_
        | refine go_ift rfl (by decide) ?_
        | refine go_s rfl ?_
        )
theorem odd_loop (ht : h.1[t]? = some (.inl (6, .inl f))) (hg : hold 6 f g) (h6 : ∀ k, k < 6 → g k < 6) :
    ∀ (m k acc : Nat) (L3 : List (Nat × Value)), (L3 = [] ∨ L3 = [(3, .int (nI 6))]) → k + m = 6 → acc ≤ 6 * k → Go X fu mX3_oddness (4, [(0, .ref t), (1, .int (nI acc)), (2, .int (nI k))] ++ L3, [], h) (.inl (some (.int (nI (lp (fun a acc => lp (fun b acc => acc + if g b < g a then 1 else 0) (5 - a) (a + 1) acc) m k acc % 2)))), h) := by
  have bd : ∀ (a m k acc : Nat), lp (fun b acc => acc + if g b < g a then 1 else 0) m k acc ≤ acc + m := by
    intro a m
    induction m with
    | zero => intro k acc; exact Nat.le_refl _
    | succ m ih =>
      intro k acc
      have h1 := ih (k + 1) (acc + if g k < g a then 1 else 0)
      have h2 : (if g k < g a then 1 else 0) ≤ 1 := by split <;> omega
      show lp (fun b acc => acc + if g b < g a then 1 else 0) m (k + 1) (acc + if g k < g a then 1 else 0) ≤ acc + (m + 1)
      omega
  intro m
  induction m with
  | zero =>
    intro k acc L3 hL3 hk hb
    obtain rfl : k = 6 := by omega
    rcases hL3 with rfl | rfl
    · show Go X fu mX3_oddness (4, [(0, .ref t), (1, .int (nI acc)), (2, .int (nI 6))], [], h) _
      repeat (first
        | exact go_ret rfl rfl rfl rfl
        | exact go_end rfl rfl rfl rfl
        | refine go_add rfl ?_
        | refine go_mul rfl ?_
        | refine go_sub rfl (by omega) ?_
        | refine go_inc rfl rfl rfl rfl rfl ?_
        | refine go_dec rfl rfl rfl (by omega) rfl rfl ?_
        | refine go_div rfl (by omega) ?_
        | refine go_rem rfl (by omega) ?_
        | refine go_and1 rfl (by omega) ?_
        | refine go_icT rfl (by dsimp only [ncd]; omega) ?_
        | refine go_icF rfl (by dsimp only [ncd]; omega) ?_
        | refine go_ifT rfl (by dsimp only [ncd]; omega) ?_
        | refine go_ifF rfl (by dsimp only [ncd]; omega) ?_
        | refine go_ift rfl (by decide) ?_
        | refine go_s rfl ?_
        )
    · show Go X fu mX3_oddness (4, [(0, .ref t), (1, .int (nI acc)), (2, .int (nI 6)), (3, .int (nI 6))], [], h) _
      repeat (first
        | exact go_ret rfl rfl rfl rfl
        | exact go_end rfl rfl rfl rfl
        | refine go_add rfl ?_
        | refine go_mul rfl ?_
        | refine go_sub rfl (by omega) ?_
        | refine go_inc rfl rfl rfl rfl rfl ?_
        | refine go_dec rfl rfl rfl (by omega) rfl rfl ?_
        | refine go_div rfl (by omega) ?_
        | refine go_rem rfl (by omega) ?_
        | refine go_and1 rfl (by omega) ?_
        | refine go_icT rfl (by dsimp only [ncd]; omega) ?_
        | refine go_icF rfl (by dsimp only [ncd]; omega) ?_
        | refine go_ifT rfl (by dsimp only [ncd]; omega) ?_
        | refine go_ifF rfl (by dsimp only [ncd]; omega) ?_
        | refine go_ift rfl (by decide) ?_
        | refine go_s rfl ?_
        )
  | succ m ih =>
    intro k acc L3 hL3 hk hb
    have hb2 := bd k (5 - k) (k + 1) acc
    have K : Go X fu mX3_oddness (38, [(0, .ref t), (1, .int (nI (lp (fun b acc => acc + if g b < g k then 1 else 0) (5 - k) (k + 1) acc))), (2, .int (nI k)), (3, .int (nI 6))], [], h) (.inl (some (.int (nI (lp (fun a acc => lp (fun b acc => acc + if g b < g a then 1 else 0) (5 - a) (a + 1) acc) (m + 1) k acc % 2)))), h) := by
      repeat (first
        | exact ih (k + 1) _ [(3, _)] (Or.inr rfl) (by omega) (by omega)
        | exact go_ret rfl rfl rfl rfl
        | exact go_end rfl rfl rfl rfl
        | refine go_add rfl ?_
        | refine go_mul rfl ?_
        | refine go_sub rfl (by omega) ?_
        | refine go_inc rfl rfl rfl rfl rfl ?_
        | refine go_dec rfl rfl rfl (by omega) rfl rfl ?_
        | refine go_div rfl (by omega) ?_
        | refine go_rem rfl (by omega) ?_
        | refine go_icT rfl (by dsimp only [ncd]; omega) ?_
        | refine go_icF rfl (by dsimp only [ncd]; omega) ?_
        | refine go_ifT rfl (by dsimp only [ncd]; omega) ?_
        | refine go_ifF rfl (by dsimp only [ncd]; omega) ?_
        | refine go_ift rfl (by decide) ?_
        | refine go_s rfl ?_
        )
    rcases hL3 with rfl | rfl
    · show Go X fu mX3_oddness (4, [(0, .ref t), (1, .int (nI acc)), (2, .int (nI k))], [], h) _
      repeat (first
        | exact odd_in ht hg h6 (by omega) (5 - k) (k + 1) acc (by omega) K
        | exact go_ret rfl rfl rfl rfl
        | exact go_end rfl rfl rfl rfl
        | refine go_add rfl ?_
        | refine go_mul rfl ?_
        | refine go_sub rfl (by omega) ?_
        | refine go_inc rfl rfl rfl rfl rfl ?_
        | refine go_dec rfl rfl rfl (by omega) rfl rfl ?_
        | refine go_div rfl (by omega) ?_
        | refine go_rem rfl (by omega) ?_
        | refine go_icT rfl (by dsimp only [ncd]; omega) ?_
        | refine go_icF rfl (by dsimp only [ncd]; omega) ?_
        | refine go_ifT rfl (by dsimp only [ncd]; omega) ?_
        | refine go_ifF rfl (by dsimp only [ncd]; omega) ?_
        | refine go_ift rfl (by decide) ?_
        | refine go_s rfl ?_
        )
    · show Go X fu mX3_oddness (4, [(0, .ref t), (1, .int (nI acc)), (2, .int (nI k)), (3, .int (nI 6))], [], h) _
      repeat (first
        | exact odd_in ht hg h6 (by omega) (5 - k) (k + 1) acc (by omega) K
        | exact go_ret rfl rfl rfl rfl
        | exact go_end rfl rfl rfl rfl
        | refine go_add rfl ?_
        | refine go_mul rfl ?_
        | refine go_sub rfl (by omega) ?_
        | refine go_inc rfl rfl rfl rfl rfl ?_
        | refine go_dec rfl rfl rfl (by omega) rfl rfl ?_
        | refine go_div rfl (by omega) ?_
        | refine go_rem rfl (by omega) ?_
        | refine go_icT rfl (by dsimp only [ncd]; omega) ?_
        | refine go_icF rfl (by dsimp only [ncd]; omega) ?_
        | refine go_ifT rfl (by dsimp only [ncd]; omega) ?_
        | refine go_ifF rfl (by dsimp only [ncd]; omega) ?_
        | refine go_ift rfl (by decide) ?_
        | refine go_s rfl ?_
        )
theorem m_oddness (ht : h.1[t]? = some (.inl (6, .inl f))) (hg : hold 6 f g) (h6 : ∀ k, k < 6 → g k < 6) : Go X fu mX3_oddness (0, [(0, .ref t)], [], h) (.inl (some (.int (nI (odC g)))), h) := by
  repeat (first
    | exact odd_loop ht hg h6 6 0 0 [] (Or.inl rfl) (by omega) (by omega)
    | exact go_ret rfl rfl rfl rfl
    | exact go_end rfl rfl rfl rfl
    | refine go_add rfl ?_
    | refine go_mul rfl ?_
    | refine go_sub rfl (by omega) ?_
    | refine go_inc rfl rfl rfl rfl rfl ?_
    | refine go_dec rfl rfl rfl (by omega) rfl rfl ?_
    | refine go_div rfl (by omega) ?_
    | refine go_rem rfl (by omega) ?_
    | refine go_icT rfl (by dsimp only [ncd]; omega) ?_
    | refine go_icF rfl (by dsimp only [ncd]; omega) ?_
    | refine go_ifT rfl (by dsimp only [ncd]; omega) ?_
    | refine go_ifF rfl (by dsimp only [ncd]; omega) ?_
    | refine go_ift rfl (by decide) ?_
    | refine go_s rfl ?_
    )
theorem left_loop (ht : h.1[t]? = some (.inl (6, .inl f))) (hg : hold 6 f g) (h6 : ∀ k, k < 6 → g k < 6) :
    ∀ (m k acc : Nat), k + m = 6 → Go X fu mX3_placesLeft (4, [(0, .ref t), (1, .int (nI acc)), (2, .int (nI k))], [], h) (.inl (some (.int (nI (lp (fun k a => a + if g k = k then 1 else 0) m k acc)))), h) := by
  intro m
  induction m with
  | zero =>
    intro k acc hk
    repeat (first
      | exact go_ret rfl rfl rfl rfl
      | exact go_end rfl rfl rfl rfl
      | refine go_add rfl ?_
      | refine go_mul rfl ?_
      | refine go_sub rfl (by omega) ?_
      | refine go_inc rfl rfl rfl rfl rfl ?_
      | refine go_dec rfl rfl rfl (by omega) rfl rfl ?_
      | refine go_div rfl (by omega) ?_
      | refine go_rem rfl (by omega) ?_
      | refine go_icT rfl (by dsimp only [ncd]; omega) ?_
      | refine go_icF rfl (by dsimp only [ncd]; omega) ?_
      | refine go_ifT rfl (by dsimp only [ncd]; omega) ?_
      | refine go_ifF rfl (by dsimp only [ncd]; omega) ?_
      | refine go_ift rfl (by decide) ?_
      | refine go_s rfl ?_
      )
  | succ m ih =>
    intro k acc hk
    have h1 := h6 k (by omega)
    have K := ih (k + 1) (acc + if g k = k then 1 else 0) (by omega)
    by_cases e : g k = k
    · have K2 : Go X fu mX3_placesLeft (4, [(0, .ref t), (1, .int (nI (acc + 1))), (2, .int (nI (k + 1)))], [], h) (.inl (some (.int (nI (lp (fun k a => a + if g k = k then 1 else 0) (m + 1) k acc)))), h) := by
        have e2 : acc + 1 = acc + if g k = k then 1 else 0 := by rw [if_pos e]
        rw [e2]
        exact K
      repeat (first
        | exact K2
        | exact go_ret rfl rfl rfl rfl
        | exact go_end rfl rfl rfl rfl
        | refine go_add rfl ?_
        | refine go_mul rfl ?_
        | refine go_sub rfl (by omega) ?_
        | refine go_inc rfl rfl rfl rfl rfl ?_
        | refine go_dec rfl rfl rfl (by omega) rfl rfl ?_
        | refine go_ial rfl ht (by first | omega | exact ⟨dg_lt _ _, by omega⟩) (hg _ (by first | omega | exact dg_lt _ _)) ?_
        | refine go_div rfl (by omega) ?_
        | refine go_rem rfl (by omega) ?_
        | refine go_icT rfl (by dsimp only [ncd]; omega) ?_
        | refine go_icF rfl (by dsimp only [ncd]; omega) ?_
        | refine go_ifT rfl (by dsimp only [ncd]; omega) ?_
        | refine go_ifF rfl (by dsimp only [ncd]; omega) ?_
        | refine go_ift rfl (by decide) ?_
        | refine go_s rfl ?_
        )
    · have K2 : Go X fu mX3_placesLeft (4, [(0, .ref t), (1, .int (nI acc)), (2, .int (nI (k + 1)))], [], h) (.inl (some (.int (nI (lp (fun k a => a + if g k = k then 1 else 0) (m + 1) k acc)))), h) := by
        have e2 : acc = acc + if g k = k then 1 else 0 := by rw [if_neg e]; rfl
        show Go X fu mX3_placesLeft _ (.inl (some (.int (nI (lp (fun k a => a + if g k = k then 1 else 0) m (k + 1) (acc + if g k = k then 1 else 0))))), h)
        rw [← e2] at K ⊢
        exact K
      repeat (first
        | exact K2
        | exact go_ret rfl rfl rfl rfl
        | exact go_end rfl rfl rfl rfl
        | refine go_add rfl ?_
        | refine go_mul rfl ?_
        | refine go_sub rfl (by omega) ?_
        | refine go_inc rfl rfl rfl rfl rfl ?_
        | refine go_dec rfl rfl rfl (by omega) rfl rfl ?_
        | refine go_ial rfl ht (by first | omega | exact ⟨dg_lt _ _, by omega⟩) (hg _ (by first | omega | exact dg_lt _ _)) ?_
        | refine go_div rfl (by omega) ?_
        | refine go_rem rfl (by omega) ?_
        | refine go_icT rfl (by dsimp only [ncd]; omega) ?_
        | refine go_icF rfl (by dsimp only [ncd]; omega) ?_
        | refine go_ifT rfl (by dsimp only [ncd]; omega) ?_
        | refine go_ifF rfl (by dsimp only [ncd]; omega) ?_
        | refine go_ift rfl (by decide) ?_
        | refine go_s rfl ?_
        )
theorem m_placesLeft (ht : h.1[t]? = some (.inl (6, .inl f))) (hg : hold 6 f g) (h6 : ∀ k, k < 6 → g k < 6) : Go X fu mX3_placesLeft (0, [(0, .ref t)], [], h) (.inl (some (.int (nI (leC g)))), h) := by
  repeat (first
    | exact left_loop ht hg h6 6 0 0 (by omega)
    | exact go_ret rfl rfl rfl rfl
    | exact go_end rfl rfl rfl rfl
    | refine go_add rfl ?_
    | refine go_mul rfl ?_
    | refine go_sub rfl (by omega) ?_
    | refine go_inc rfl rfl rfl rfl rfl ?_
    | refine go_dec rfl rfl rfl (by omega) rfl rfl ?_
    | refine go_div rfl (by omega) ?_
    | refine go_rem rfl (by omega) ?_
    | refine go_icT rfl (by dsimp only [ncd]; omega) ?_
    | refine go_icF rfl (by dsimp only [ncd]; omega) ?_
    | refine go_ifT rfl (by dsimp only [ncd]; omega) ?_
    | refine go_ifF rfl (by dsimp only [ncd]; omega) ?_
    | refine go_ift rfl (by decide) ?_
    | refine go_s rfl ?_
    )
theorem gr_in (ht : h.1[t]? = some (.inl (6, .inl f))) (hg : hold 6 f g) (h6 : ∀ k, k < 6 → g k < 6) {a k : Nat} (hk : k < 6) {oo : zOut} :
    ∀ (m z x : Nat), z + m = 6 → x < 6 → (∀ z2, Go X fu mX3_groups (39, [(0, .ref t), (1, .int (nI a)), (2, .int (nI k)), (3, .int (nI (gwC g k m x))), (4, .int (nI z2))], [], h) oo) → Go X fu mX3_groups (17, [(0, .ref t), (1, .int (nI a)), (2, .int (nI k)), (3, .int (nI x)), (4, .int (nI z))], [], h) oo := by
  intro m
  induction m with
  | zero =>
    intro z x hz hx K
    obtain rfl : z = 6 := by omega
    repeat (first
      | exact K _
      | exact go_ret rfl rfl rfl rfl
      | exact go_end rfl rfl rfl rfl
      | refine go_add rfl ?_
      | refine go_mul rfl ?_
      | refine go_sub rfl (by omega) ?_
      | refine go_inc rfl rfl rfl rfl rfl ?_
      | refine go_dec rfl rfl rfl (by omega) rfl rfl ?_
      | refine go_div rfl (by omega) ?_
      | refine go_rem rfl (by omega) ?_
      | refine go_icT rfl (by dsimp only [ncd]; omega) ?_
      | refine go_icF rfl (by dsimp only [ncd]; omega) ?_
      | refine go_ifT rfl (by dsimp only [ncd]; omega) ?_
      | refine go_ifF rfl (by dsimp only [ncd]; omega) ?_
      | refine go_ift rfl (by decide) ?_
      | refine go_s rfl ?_
      )
  | succ m ih =>
    intro z x hz hx K
    have h1 := h6 x hx
    by_cases e : k < x
    · have e2 : gwC g k (m + 1) x = gwC g k m (g x) := if_pos e
      rw [e2] at K
      repeat (first
        | exact ih (z + 1) _ (by omega) (by omega) K
        | exact go_ret rfl rfl rfl rfl
        | exact go_end rfl rfl rfl rfl
        | refine go_add rfl ?_
        | refine go_mul rfl ?_
        | refine go_sub rfl (by omega) ?_
        | refine go_inc rfl rfl rfl rfl rfl ?_
        | refine go_dec rfl rfl rfl (by omega) rfl rfl ?_
        | refine go_ial rfl ht (by first | omega | exact ⟨dg_lt _ _, by omega⟩) (hg _ (by first | omega | exact dg_lt _ _)) ?_
        | refine go_div rfl (by omega) ?_
        | refine go_rem rfl (by omega) ?_
        | refine go_icT rfl (by dsimp only [ncd]; omega) ?_
        | refine go_icF rfl (by dsimp only [ncd]; omega) ?_
        | refine go_ifT rfl (by dsimp only [ncd]; omega) ?_
        | refine go_ifF rfl (by dsimp only [ncd]; omega) ?_
        | refine go_ift rfl (by decide) ?_
        | refine go_s rfl ?_
        )
    · have e2 : gwC g k (m + 1) x = x := if_neg e
      rw [e2] at K
      repeat (first
        | exact K _
        | exact go_ret rfl rfl rfl rfl
        | exact go_end rfl rfl rfl rfl
        | refine go_add rfl ?_
        | refine go_mul rfl ?_
        | refine go_sub rfl (by omega) ?_
        | refine go_inc rfl rfl rfl rfl rfl ?_
        | refine go_dec rfl rfl rfl (by omega) rfl rfl ?_
        | refine go_ial rfl ht (by first | omega | exact ⟨dg_lt _ _, by omega⟩) (hg _ (by first | omega | exact dg_lt _ _)) ?_
        | refine go_div rfl (by omega) ?_
        | refine go_rem rfl (by omega) ?_
        | refine go_icT rfl (by dsimp only [ncd]; omega) ?_
        | refine go_icF rfl (by dsimp only [ncd]; omega) ?_
        | refine go_ifT rfl (by dsimp only [ncd]; omega) ?_
        | refine go_ifF rfl (by dsimp only [ncd]; omega) ?_
        | refine go_ift rfl (by decide) ?_
        | refine go_s rfl ?_
        )
theorem gr_loop (ht : h.1[t]? = some (.inl (6, .inl f))) (hg : hold 6 f g) (h6 : ∀ k, k < 6 → g k < 6) :
    ∀ (m k acc : Nat) (L3 : List (Nat × Value)), (L3 = [] ∨ ∃ x z : Nat, L3 = [(3, .int (nI x)), (4, .int (nI z))]) → k + m = 6 → Go X fu mX3_groups (4, [(0, .ref t), (1, .int (nI acc)), (2, .int (nI k))] ++ L3, [], h) (.inl (some (.int (nI (lp (fun k a => a + if gwC g k 6 (g k) = k then 1 else 0) m k acc)))), h) := by
  have gb : ∀ k m x, x < 6 → gwC g k m x < 6 := by
    intro k m
    induction m with
    | zero => intro x hx; exact hx
    | succ m ih =>
      intro x hx
      show (if k < x then gwC g k m (g x) else x) < 6
      split
      · exact ih _ (h6 x hx)
      · exact hx
  intro m
  induction m with
  | zero =>
    intro k acc L3 hL3 hk
    obtain rfl : k = 6 := by omega
    rcases hL3 with rfl | ⟨x, z, rfl⟩
    · show Go X fu mX3_groups (4, [(0, .ref t), (1, .int (nI acc)), (2, .int (nI 6))], [], h) _
      repeat (first
        | exact go_ret rfl rfl rfl rfl
        | exact go_end rfl rfl rfl rfl
        | refine go_add rfl ?_
        | refine go_mul rfl ?_
        | refine go_sub rfl (by omega) ?_
        | refine go_inc rfl rfl rfl rfl rfl ?_
        | refine go_dec rfl rfl rfl (by omega) rfl rfl ?_
        | refine go_div rfl (by omega) ?_
        | refine go_rem rfl (by omega) ?_
        | refine go_icT rfl (by dsimp only [ncd]; omega) ?_
        | refine go_icF rfl (by dsimp only [ncd]; omega) ?_
        | refine go_ifT rfl (by dsimp only [ncd]; omega) ?_
        | refine go_ifF rfl (by dsimp only [ncd]; omega) ?_
        | refine go_ift rfl (by decide) ?_
        | refine go_s rfl ?_
        )
    · show Go X fu mX3_groups (4, [(0, .ref t), (1, .int (nI acc)), (2, .int (nI 6)), (3, .int (nI x)), (4, .int (nI z))], [], h) _
      repeat (first
        | exact go_ret rfl rfl rfl rfl
        | exact go_end rfl rfl rfl rfl
        | refine go_add rfl ?_
        | refine go_mul rfl ?_
        | refine go_sub rfl (by omega) ?_
        | refine go_inc rfl rfl rfl rfl rfl ?_
        | refine go_dec rfl rfl rfl (by omega) rfl rfl ?_
        | refine go_div rfl (by omega) ?_
        | refine go_rem rfl (by omega) ?_
        | refine go_icT rfl (by dsimp only [ncd]; omega) ?_
        | refine go_icF rfl (by dsimp only [ncd]; omega) ?_
        | refine go_ifT rfl (by dsimp only [ncd]; omega) ?_
        | refine go_ifF rfl (by dsimp only [ncd]; omega) ?_
        | refine go_ift rfl (by decide) ?_
        | refine go_s rfl ?_
        )
  | succ m ih =>
    intro k acc L3 hL3 hk
    have h1 := h6 k (by omega)
    have h2 := gb k 6 (g k) h1
    have K : ∀ z2, Go X fu mX3_groups (39, [(0, .ref t), (1, .int (nI acc)), (2, .int (nI k)), (3, .int (nI (gwC g k 6 (g k)))), (4, .int (nI z2))], [], h) (.inl (some (.int (nI (lp (fun k a => a + if gwC g k 6 (g k) = k then 1 else 0) (m + 1) k acc)))), h) := by
      intro z2
      have K := ih (k + 1) (acc + if gwC g k 6 (g k) = k then 1 else 0) [(3, .int (nI (gwC g k 6 (g k)))), (4, .int (nI z2))] (Or.inr ⟨_, _, rfl⟩) (by omega)
      by_cases e : gwC g k 6 (g k) = k
      · have K2 : Go X fu mX3_groups (4, [(0, .ref t), (1, .int (nI (acc + 1))), (2, .int (nI (k + 1))), (3, .int (nI (gwC g k 6 (g k)))), (4, .int (nI z2))], [], h) (.inl (some (.int (nI (lp (fun k a => a + if gwC g k 6 (g k) = k then 1 else 0) (m + 1) k acc)))), h) := by
          have e2 : acc + 1 = acc + if gwC g k 6 (g k) = k then 1 else 0 := by rw [if_pos e]
          rw [e2]
          exact K
        repeat (first
          | exact K2
          | exact go_ret rfl rfl rfl rfl
          | exact go_end rfl rfl rfl rfl
          | refine go_add rfl ?_
          | refine go_mul rfl ?_
          | refine go_sub rfl (by omega) ?_
          | refine go_inc rfl rfl rfl rfl rfl ?_
          | refine go_dec rfl rfl rfl (by omega) rfl rfl ?_
          | refine go_ial rfl ht (by first | omega | exact ⟨dg_lt _ _, by omega⟩) (hg _ (by first | omega | exact dg_lt _ _)) ?_
          | refine go_div rfl (by omega) ?_
          | refine go_rem rfl (by omega) ?_
          | refine go_icT rfl (by dsimp only [ncd]; omega) ?_
          | refine go_icF rfl (by dsimp only [ncd]; omega) ?_
          | refine go_ifT rfl (by dsimp only [ncd]; omega) ?_
          | refine go_ifF rfl (by dsimp only [ncd]; omega) ?_
          | refine go_ift rfl (by decide) ?_
          | refine go_s rfl ?_
          )
      · have K2 : Go X fu mX3_groups (4, [(0, .ref t), (1, .int (nI acc)), (2, .int (nI (k + 1))), (3, .int (nI (gwC g k 6 (g k)))), (4, .int (nI z2))], [], h) (.inl (some (.int (nI (lp (fun k a => a + if gwC g k 6 (g k) = k then 1 else 0) (m + 1) k acc)))), h) := by
          have e2 : acc = acc + if gwC g k 6 (g k) = k then 1 else 0 := by rw [if_neg e]; rfl
          show Go X fu mX3_groups _ (.inl (some (.int (nI (lp (fun k a => a + if gwC g k 6 (g k) = k then 1 else 0) m (k + 1) (acc + if gwC g k 6 (g k) = k then 1 else 0))))), h)
          rw [← e2] at K ⊢
          exact K
        repeat (first
          | exact K2
          | exact go_ret rfl rfl rfl rfl
          | exact go_end rfl rfl rfl rfl
          | refine go_add rfl ?_
          | refine go_mul rfl ?_
          | refine go_sub rfl (by omega) ?_
          | refine go_inc rfl rfl rfl rfl rfl ?_
          | refine go_dec rfl rfl rfl (by omega) rfl rfl ?_
          | refine go_ial rfl ht (by first | omega | exact ⟨dg_lt _ _, by omega⟩) (hg _ (by first | omega | exact dg_lt _ _)) ?_
          | refine go_div rfl (by omega) ?_
          | refine go_rem rfl (by omega) ?_
          | refine go_icT rfl (by dsimp only [ncd]; omega) ?_
          | refine go_icF rfl (by dsimp only [ncd]; omega) ?_
          | refine go_ifT rfl (by dsimp only [ncd]; omega) ?_
          | refine go_ifF rfl (by dsimp only [ncd]; omega) ?_
          | refine go_ift rfl (by decide) ?_
          | refine go_s rfl ?_
          )
    rcases hL3 with rfl | ⟨x, z, rfl⟩
    · show Go X fu mX3_groups (4, [(0, .ref t), (1, .int (nI acc)), (2, .int (nI k))], [], h) _
      repeat (first
        | exact gr_in ht hg h6 (by omega) 6 0 _ (by omega) h1 K
        | exact go_ret rfl rfl rfl rfl
        | exact go_end rfl rfl rfl rfl
        | refine go_add rfl ?_
        | refine go_mul rfl ?_
        | refine go_sub rfl (by omega) ?_
        | refine go_inc rfl rfl rfl rfl rfl ?_
        | refine go_dec rfl rfl rfl (by omega) rfl rfl ?_
        | refine go_ial rfl ht (by first | omega | exact ⟨dg_lt _ _, by omega⟩) (hg _ (by first | omega | exact dg_lt _ _)) ?_
        | refine go_div rfl (by omega) ?_
        | refine go_rem rfl (by omega) ?_
        | refine go_icT rfl (by dsimp only [ncd]; omega) ?_
        | refine go_icF rfl (by dsimp only [ncd]; omega) ?_
        | refine go_ifT rfl (by dsimp only [ncd]; omega) ?_
        | refine go_ifF rfl (by dsimp only [ncd]; omega) ?_
        | refine go_ift rfl (by decide) ?_
        | refine go_s rfl ?_
        )
    · show Go X fu mX3_groups (4, [(0, .ref t), (1, .int (nI acc)), (2, .int (nI k)), (3, .int (nI x)), (4, .int (nI z))], [], h) _
      repeat (first
        | exact gr_in ht hg h6 (by omega) 6 0 _ (by omega) h1 K
        | exact go_ret rfl rfl rfl rfl
        | exact go_end rfl rfl rfl rfl
        | refine go_add rfl ?_
        | refine go_mul rfl ?_
        | refine go_sub rfl (by omega) ?_
        | refine go_inc rfl rfl rfl rfl rfl ?_
        | refine go_dec rfl rfl rfl (by omega) rfl rfl ?_
        | refine go_ial rfl ht (by first | omega | exact ⟨dg_lt _ _, by omega⟩) (hg _ (by first | omega | exact dg_lt _ _)) ?_
        | refine go_div rfl (by omega) ?_
        | refine go_rem rfl (by omega) ?_
        | refine go_icT rfl (by dsimp only [ncd]; omega) ?_
        | refine go_icF rfl (by dsimp only [ncd]; omega) ?_
        | refine go_ifT rfl (by dsimp only [ncd]; omega) ?_
        | refine go_ifF rfl (by dsimp only [ncd]; omega) ?_
        | refine go_ift rfl (by decide) ?_
        | refine go_s rfl ?_
        )
theorem m_groups (ht : h.1[t]? = some (.inl (6, .inl f))) (hg : hold 6 f g) (h6 : ∀ k, k < 6 → g k < 6) : Go X fu mX3_groups (0, [(0, .ref t)], [], h) (.inl (some (.int (nI (grC g)))), h) := by
  repeat (first
    | exact gr_loop ht hg h6 6 0 0 [] (Or.inl rfl) (by omega)
    | exact go_ret rfl rfl rfl rfl
    | exact go_end rfl rfl rfl rfl
    | refine go_add rfl ?_
    | refine go_mul rfl ?_
    | refine go_sub rfl (by omega) ?_
    | refine go_inc rfl rfl rfl rfl rfl ?_
    | refine go_dec rfl rfl rfl (by omega) rfl rfl ?_
    | refine go_div rfl (by omega) ?_
    | refine go_rem rfl (by omega) ?_
    | refine go_icT rfl (by dsimp only [ncd]; omega) ?_
    | refine go_icF rfl (by dsimp only [ncd]; omega) ?_
    | refine go_ifT rfl (by dsimp only [ncd]; omega) ?_
    | refine go_ifF rfl (by dsimp only [ncd]; omega) ?_
    | refine go_ift rfl (by decide) ?_
    | refine go_s rfl ?_
    )
theorem und_loop {u : Nat} {f2 : Nat → Int32} {g2 : Nat → Nat} (ht : h.1[t]? = some (.inl (6, .inl f))) (hg : hold 6 f g) (h6 : ∀ k, k < 6 → g k < 6) (hu : h.1[u]? = some (.inl (6, .inl f2))) (hg2 : hold 6 f2 g2) (h62 : ∀ k, k < 6 → g2 k < 6) :
    ∀ (m k : Nat), k + m = 6 → Go X fu mX3_undoes (2, [(0, .ref t), (1, .ref u), (2, .int (nI k))], [], h) (.inl (some (.int (nI (al (fun k => Nat.beq (g (g2 k)) k) m k)))), h) := by
  intro m
  induction m with
  | zero =>
    intro k hk
    obtain rfl : k = 6 := by omega
    repeat (first
      | exact go_ret rfl rfl rfl rfl
      | exact go_end rfl rfl rfl rfl
      | refine go_add rfl ?_
      | refine go_mul rfl ?_
      | refine go_sub rfl (by omega) ?_
      | refine go_inc rfl rfl rfl rfl rfl ?_
      | refine go_dec rfl rfl rfl (by omega) rfl rfl ?_
      | refine go_div rfl (by omega) ?_
      | refine go_rem rfl (by omega) ?_
      | refine go_icT rfl (by dsimp only [ncd]; omega) ?_
      | refine go_icF rfl (by dsimp only [ncd]; omega) ?_
      | refine go_ifT rfl (by dsimp only [ncd]; omega) ?_
      | refine go_ifF rfl (by dsimp only [ncd]; omega) ?_
      | refine go_ift rfl (by decide) ?_
      | refine go_s rfl ?_
      )
  | succ m ih =>
    intro k hk
    have h1 := h62 k (by omega)
    have h2 := h6 _ h1
    show Go X fu mX3_undoes _ (.inl (some (.int (nI (bif Nat.beq (g (g2 k)) k then al (fun k => Nat.beq (g (g2 k)) k) m (k + 1) else 0)))), h)
    by_cases e : g (g2 k) = k
    · rw [show Nat.beq (g (g2 k)) k = true by rw [e, Nat.beq_refl]]
      repeat (first
        | exact ih (k + 1) (by omega)
        | exact go_ret rfl rfl rfl rfl
        | exact go_end rfl rfl rfl rfl
        | refine go_add rfl ?_
        | refine go_mul rfl ?_
        | refine go_sub rfl (by omega) ?_
        | refine go_inc rfl rfl rfl rfl rfl ?_
        | refine go_dec rfl rfl rfl (by omega) rfl rfl ?_
        | refine go_ial rfl hu (by first | omega | exact ⟨dg_lt _ _, by omega⟩) (hg2 _ (by first | omega | exact dg_lt _ _)) ?_
        | refine go_ial rfl ht (by first | omega | exact ⟨dg_lt _ _, by omega⟩) (hg _ (by first | omega | exact dg_lt _ _)) ?_
        | refine go_div rfl (by omega) ?_
        | refine go_rem rfl (by omega) ?_
        | refine go_icT rfl (by dsimp only [ncd]; omega) ?_
        | refine go_icF rfl (by dsimp only [ncd]; omega) ?_
        | refine go_ifT rfl (by dsimp only [ncd]; omega) ?_
        | refine go_ifF rfl (by dsimp only [ncd]; omega) ?_
        | refine go_ift rfl (by decide) ?_
        | refine go_s rfl ?_
        )
    · rw [nbeq e]
      repeat (first
        | exact go_ret rfl rfl rfl rfl
        | exact go_end rfl rfl rfl rfl
        | refine go_add rfl ?_
        | refine go_mul rfl ?_
        | refine go_sub rfl (by omega) ?_
        | refine go_inc rfl rfl rfl rfl rfl ?_
        | refine go_dec rfl rfl rfl (by omega) rfl rfl ?_
        | refine go_ial rfl hu (by first | omega | exact ⟨dg_lt _ _, by omega⟩) (hg2 _ (by first | omega | exact dg_lt _ _)) ?_
        | refine go_ial rfl ht (by first | omega | exact ⟨dg_lt _ _, by omega⟩) (hg _ (by first | omega | exact dg_lt _ _)) ?_
        | refine go_div rfl (by omega) ?_
        | refine go_rem rfl (by omega) ?_
        | refine go_icT rfl (by dsimp only [ncd]; omega) ?_
        | refine go_icF rfl (by dsimp only [ncd]; omega) ?_
        | refine go_ifT rfl (by dsimp only [ncd]; omega) ?_
        | refine go_ifF rfl (by dsimp only [ncd]; omega) ?_
        | refine go_ift rfl (by decide) ?_
        | refine go_s rfl ?_
        )
theorem m_undoes {u : Nat} {f2 : Nat → Int32} {g2 : Nat → Nat} (ht : h.1[t]? = some (.inl (6, .inl f))) (hg : hold 6 f g) (h6 : ∀ k, k < 6 → g k < 6) (hu : h.1[u]? = some (.inl (6, .inl f2))) (hg2 : hold 6 f2 g2) (h62 : ∀ k, k < 6 → g2 k < 6) :
    Go X fu mX3_undoes (0, [(0, .ref t), (1, .ref u)], [], h) (.inl (some (.int (nI (al (fun k => Nat.beq (g (g2 k)) k) 6 0)))), h) := by
  repeat (first
    | exact und_loop ht hg h6 hu hg2 h62 6 0 (by omega)
    | exact go_ret rfl rfl rfl rfl
    | exact go_end rfl rfl rfl rfl
    | refine go_add rfl ?_
    | refine go_mul rfl ?_
    | refine go_sub rfl (by omega) ?_
    | refine go_inc rfl rfl rfl rfl rfl ?_
    | refine go_dec rfl rfl rfl (by omega) rfl rfl ?_
    | refine go_div rfl (by omega) ?_
    | refine go_rem rfl (by omega) ?_
    | refine go_icT rfl (by dsimp only [ncd]; omega) ?_
    | refine go_icF rfl (by dsimp only [ncd]; omega) ?_
    | refine go_ifT rfl (by dsimp only [ncd]; omega) ?_
    | refine go_ifF rfl (by dsimp only [ncd]; omega) ?_
    | refine go_ift rfl (by decide) ?_
    | refine go_s rfl ?_
    )
theorem m_isPlace_t {v : Nat} (hv : v < 6) : Go X fu mX3_isPlace (0, [(0, .int (nI v))], [], h) (.inl (some (.int (nI 1))), h) := by
  repeat (first
    | exact go_ret rfl rfl rfl rfl
    | exact go_end rfl rfl rfl rfl
    | refine go_add rfl ?_
    | refine go_mul rfl ?_
    | refine go_sub rfl (by omega) ?_
    | refine go_inc rfl rfl rfl rfl rfl ?_
    | refine go_dec rfl rfl rfl (by omega) rfl rfl ?_
    | refine go_div rfl (by omega) ?_
    | refine go_rem rfl (by omega) ?_
    | refine go_icT rfl (by dsimp only [ncd]; omega) ?_
    | refine go_icF rfl (by dsimp only [ncd]; omega) ?_
    | refine go_ifT rfl (by dsimp only [ncd]; omega) ?_
    | refine go_ifF rfl (by dsimp only [ncd]; omega) ?_
    | refine go_ift rfl (by decide) ?_
    | refine go_s rfl ?_
    )
theorem m_requirePlace_t {v : Nat} (hv : v < 6) : Go X (fu + 1) mX3_requirePlace (0, [(0, .int (nI v))], [], h) (.inl none, h) := by
  repeat (first
    | exact go_ret rfl rfl rfl rfl
    | exact go_end rfl rfl rfl rfl
    | refine go_add rfl ?_
    | refine go_mul rfl ?_
    | refine go_sub rfl (by omega) ?_
    | refine go_inc rfl rfl rfl rfl rfl ?_
    | refine go_dec rfl rfl rfl (by omega) rfl rfl ?_
    | refine go_div rfl (by omega) ?_
    | refine go_rem rfl (by omega) ?_
    | refine go_ci rfl rfl rfl rfl rfl (m_isPlace_t hv) ?_
    | refine go_icT rfl (by dsimp only [ncd]; omega) ?_
    | refine go_icF rfl (by dsimp only [ncd]; omega) ?_
    | refine go_ifT rfl (by dsimp only [ncd]; omega) ?_
    | refine go_ifF rfl (by dsimp only [ncd]; omega) ?_
    | refine go_ift rfl (by decide) ?_
    | refine go_s rfl ?_
    )
theorem m_isRowCode_t {c : Nat} (hc : isRow c) : Go X fu mX3_isRowCode (0, [(0, .int (nI c))], [], h) (.inl (some (.int (nI 1))), h) := by
  have h1 := row_lt hc
  have e : (((((0 ||| 2 ^ (c % 6)) ||| 2 ^ (c / 6 % 6)) ||| 2 ^ (c / 6 / 6 % 6)) ||| 2 ^ (c / 6 / 6 / 6 % 6)) ||| 2 ^ (c / 6 / 6 / 6 / 6 % 6)) ||| 2 ^ (c / 6 / 6 / 6 / 6 / 6 % 6) = 63 := by
    rw [← row_bits hc]
    have d0 : c / 6 / 6 / 6 / 6 / 6 % 6 = dg c 0 := by simp only [dg, wt]; omega
    have d1 : c / 6 / 6 / 6 / 6 % 6 = dg c 1 := by simp only [dg, wt]; omega
    have d2 : c / 6 / 6 / 6 % 6 = dg c 2 := by simp only [dg, wt]; omega
    have d3 : c / 6 / 6 % 6 = dg c 3 := by simp only [dg, wt]; omega
    have d4 : c / 6 % 6 = dg c 4 := by simp only [dg, wt]
    have d5 : c % 6 = dg c 5 := by simp only [dg, wt]; omega
    rw [d0, d1, d2, d3, d4, d5, bits, Nat.zero_or]
    ac_rfl
  repeat (first
    | exact go_ret rfl rfl rfl rfl
    | exact go_end rfl rfl rfl rfl
    | refine go_add rfl ?_
    | refine go_mul rfl ?_
    | refine go_sub rfl (by omega) ?_
    | refine go_inc rfl rfl rfl rfl rfl ?_
    | refine go_dec rfl rfl rfl (by omega) rfl rfl ?_
    | refine go_div rfl (by omega) ?_
    | refine go_rem rfl (by omega) ?_
    | refine go_shl rfl (by omega) ?_
    | refine go_or rfl ?_
    | (rw [e]; refine go_icF rfl (by dsimp only [ncd]; omega) ?_)
    | refine go_icT rfl (by dsimp only [ncd]; omega) ?_
    | refine go_icF rfl (by dsimp only [ncd]; omega) ?_
    | refine go_ifT rfl (by dsimp only [ncd]; omega) ?_
    | refine go_ifF rfl (by dsimp only [ncd]; omega) ?_
    | refine go_ift rfl (by decide) ?_
    | refine go_s rfl ?_
    )
theorem m_requireRowCode_t {c : Nat} (hc : isRow c) : Go X (fu + 1) mX3_requireRowCode (0, [(0, .int (nI c))], [], h) (.inl none, h) := by
  repeat (first
    | exact go_ret rfl rfl rfl rfl
    | exact go_end rfl rfl rfl rfl
    | refine go_add rfl ?_
    | refine go_mul rfl ?_
    | refine go_sub rfl (by omega) ?_
    | refine go_inc rfl rfl rfl rfl rfl ?_
    | refine go_dec rfl rfl rfl (by omega) rfl rfl ?_
    | refine go_div rfl (by omega) ?_
    | refine go_rem rfl (by omega) ?_
    | refine go_ci rfl rfl rfl rfl rfl (m_isRowCode_t hc) ?_
    | refine go_icT rfl (by dsimp only [ncd]; omega) ?_
    | refine go_icF rfl (by dsimp only [ncd]; omega) ?_
    | refine go_ifT rfl (by dsimp only [ncd]; omega) ?_
    | refine go_ifF rfl (by dsimp only [ncd]; omega) ?_
    | refine go_ift rfl (by decide) ?_
    | refine go_s rfl ?_
    )
end LEAF
section LEAFC
variable {X : zX} {fu e n m : Nat} {A : Nat → Nat → Int32} {ch wf rd mo sm mk : Int32} {R : List zC}
theorem m_requireRule_t {r : Nat} (hn : n ≤ 8) (hr : r < n) : Go X fu mX3_requireRule (0, [(0, .ref 0), (1, .int (nI r))], [], (cc A (nI n) (nI m) ch wf rd mo sm mk ++ R, e)) (.inl none, (cc A (nI n) (nI m) ch wf rd mo sm mk ++ R, e)) := by
  repeat (first
    | exact go_ret rfl rfl rfl rfl
    | exact go_end rfl rfl rfl rfl
    | refine go_add rfl ?_
    | refine go_mul rfl ?_
    | refine go_sub rfl (by omega) ?_
    | refine go_inc rfl rfl rfl rfl rfl ?_
    | refine go_dec rfl rfl rfl (by omega) rfl rfl ?_
    | refine go_div rfl (by omega) ?_
    | refine go_rem rfl (by omega) ?_
    | refine go_icT rfl (by dsimp only [ncd]; omega) ?_
    | refine go_icF rfl (by dsimp only [ncd]; omega) ?_
    | refine go_ifT rfl (by dsimp only [ncd]; omega) ?_
    | refine go_ifF rfl (by dsimp only [ncd]; omega) ?_
    | refine go_ift rfl (by decide) ?_
    | refine go_s rfl ?_
    )
theorem m_requirePeal_t {r : Nat} (hm : m ≤ 6) (hr : r < m) : Go X fu mX3_requirePeal (0, [(0, .ref 0), (1, .int (nI r))], [], (cc A (nI n) (nI m) ch wf rd mo sm mk ++ R, e)) (.inl none, (cc A (nI n) (nI m) ch wf rd mo sm mk ++ R, e)) := by
  repeat (first
    | exact go_ret rfl rfl rfl rfl
    | exact go_end rfl rfl rfl rfl
    | refine go_add rfl ?_
    | refine go_mul rfl ?_
    | refine go_sub rfl (by omega) ?_
    | refine go_inc rfl rfl rfl rfl rfl ?_
    | refine go_dec rfl rfl rfl (by omega) rfl rfl ?_
    | refine go_div rfl (by omega) ?_
    | refine go_rem rfl (by omega) ?_
    | refine go_icT rfl (by dsimp only [ncd]; omega) ?_
    | refine go_icF rfl (by dsimp only [ncd]; omega) ?_
    | refine go_ifT rfl (by dsimp only [ncd]; omega) ?_
    | refine go_ifF rfl (by dsimp only [ncd]; omega) ?_
    | refine go_ift rfl (by decide) ?_
    | refine go_s rfl ?_
    )
end LEAFC
