/-! ===== the reference's small methods ===== -/
section MLEAF
variable {X : zX} {fu : Nat} {h : zH}
theorem n_isIn_t {lo v hi : Nat} (hv : lo ≤ v ∧ v ≤ hi ∧ hi < 2147483648) : Go X fu mX4_isIn (0, [(0, .int (nI v)), (1, .int (nI lo)), (2, .int (nI hi))], [], h) (.inl (some (.int (nI 1))), h) := by
  repeat (first
    | exact go_ret rfl rfl rfl rfl
    | exact go_end rfl rfl rfl rfl
    | refine go_add rfl ?_
    | refine go_mul rfl ?_
    | refine go_sub rfl (by omega) ?_
    | refine go_inc rfl rfl rfl rfl rfl ?_
    | refine go_dec rfl rfl rfl (by omega) rfl rfl ?_
    | refine go_wrth rfl (by omega) ?_
    | refine go_div rfl (by omega) ?_
    | refine go_rem rfl (by omega) ?_
    | refine go_icT rfl (by dsimp only [ncd]; omega) ?_
    | refine go_icF rfl (by dsimp only [ncd]; omega) ?_
    | refine go_ifT rfl (by dsimp only [ncd]; omega) ?_
    | refine go_ifF rfl (by dsimp only [ncd]; omega) ?_
    | refine go_ift rfl (by decide) ?_
    | refine go_s rfl ?_
    )
theorem n_isIn_f {x lo hi : Int32} (hx : x < lo ∨ hi < x) : Go X fu mX4_isIn (0, [(0, .int x), (1, .int lo), (2, .int hi)], [], h) (.inl (some (.int (nI 0))), h) := by
  by_cases h1 : x < lo
  · repeat (first
    | exact go_ret rfl rfl rfl rfl
    | exact go_end rfl rfl rfl rfl
    | refine go_add rfl ?_
    | refine go_mul rfl ?_
    | refine go_sub rfl (by omega) ?_
    | refine go_inc rfl rfl rfl rfl rfl ?_
    | refine go_dec rfl rfl rfl (by omega) rfl rfl ?_
    | refine go_wrth rfl (by omega) ?_
    | refine go_div rfl (by omega) ?_
    | refine go_rem rfl (by omega) ?_
    | refine go_ict rfl h1 ?_
    | refine go_icT rfl (by dsimp only [ncd]; omega) ?_
    | refine go_icF rfl (by dsimp only [ncd]; omega) ?_
    | refine go_ifT rfl (by dsimp only [ncd]; omega) ?_
    | refine go_ifF rfl (by dsimp only [ncd]; omega) ?_
    | refine go_ift rfl (by decide) ?_
    | refine go_s rfl ?_
    )
  · have h2 : hi < x := hx.resolve_left h1
    repeat (first
      | exact go_ret rfl rfl rfl rfl
      | exact go_end rfl rfl rfl rfl
      | refine go_add rfl ?_
      | refine go_mul rfl ?_
      | refine go_sub rfl (by omega) ?_
      | refine go_inc rfl rfl rfl rfl rfl ?_
      | refine go_dec rfl rfl rfl (by omega) rfl rfl ?_
      | refine go_wrth rfl (by omega) ?_
      | refine go_div rfl (by omega) ?_
      | refine go_rem rfl (by omega) ?_
      | refine go_icf rfl h1 ?_
      | refine go_ict rfl h2 ?_
      | refine go_icT rfl (by dsimp only [ncd]; omega) ?_
      | refine go_icF rfl (by dsimp only [ncd]; omega) ?_
      | refine go_ifT rfl (by dsimp only [ncd]; omega) ?_
      | refine go_ifF rfl (by dsimp only [ncd]; omega) ?_
      | refine go_ift rfl (by decide) ?_
      | refine go_s rfl ?_
      )
theorem le_pred {x : Int32} {n : Nat} (hn : n < 1073741824) (h : nI n ≤ x) : nI n - nI 1 < x := by
  have h1 := Int32.le_iff_toInt_le.mp h
  rw [nI_toInt (by omega)] at h1
  rw [Int32.lt_iff_toInt_lt, pk_sub_toInt (by omega) (by omega)]
  omega
theorem n_isPlace_t {v : Nat} (hv : v < 6) : Go X (fu + 1) mX4_isPlace (0, [(0, .int (nI v))], [], h) (.inl (some (.int (nI 1))), h) := by
  repeat (first
    | exact go_ret rfl rfl rfl rfl
    | exact go_end rfl rfl rfl rfl
    | refine go_add rfl ?_
    | refine go_mul rfl ?_
    | refine go_sub rfl (by omega) ?_
    | refine go_inc rfl rfl rfl rfl rfl ?_
    | refine go_dec rfl rfl rfl (by omega) rfl rfl ?_
    | refine go_wrth rfl (by omega) ?_
    | refine go_div rfl (by omega) ?_
    | refine go_rem rfl (by omega) ?_
    | refine go_ci rfl rfl rfl rfl rfl (n_isIn_t (by omega)) ?_
    | refine go_icT rfl (by dsimp only [ncd]; omega) ?_
    | refine go_icF rfl (by dsimp only [ncd]; omega) ?_
    | refine go_ifT rfl (by dsimp only [ncd]; omega) ?_
    | refine go_ifF rfl (by dsimp only [ncd]; omega) ?_
    | refine go_ift rfl (by decide) ?_
    | refine go_s rfl ?_
    )
theorem n_isPlace_f {x : Int32} (hx : x < 0 ∨ nI 6 ≤ x) : Go X (fu + 1) mX4_isPlace (0, [(0, .int x)], [], h) (.inl (some (.int (nI 0))), h) := by
  have h2 : x < nI 0 ∨ nI 5 < x := hx.imp (fun q => q) (fun q => by
    have h1 := Int32.le_iff_toInt_le.mp q
    rw [nI_toInt (by omega)] at h1
    rw [Int32.lt_iff_toInt_lt, nI_toInt (by omega)]
    omega)
  repeat (first
    | exact go_ret rfl rfl rfl rfl
    | exact go_end rfl rfl rfl rfl
    | refine go_add rfl ?_
    | refine go_mul rfl ?_
    | refine go_sub rfl (by omega) ?_
    | refine go_inc rfl rfl rfl rfl rfl ?_
    | refine go_dec rfl rfl rfl (by omega) rfl rfl ?_
    | refine go_wrth rfl (by omega) ?_
    | refine go_div rfl (by omega) ?_
    | refine go_rem rfl (by omega) ?_
    | refine go_ci rfl rfl rfl rfl rfl (n_isIn_f h2) ?_
    | refine go_icT rfl (by dsimp only [ncd]; omega) ?_
    | refine go_icF rfl (by dsimp only [ncd]; omega) ?_
    | refine go_ifT rfl (by dsimp only [ncd]; omega) ?_
    | refine go_ifF rfl (by dsimp only [ncd]; omega) ?_
    | refine go_ift rfl (by decide) ?_
    | refine go_s rfl ?_
    )
theorem n_digit {c k : Nat} (hc : c < 46656) (hk : k < 6) : Go X fu mX4_digit (0, [(0, .int (nI c)), (1, .int (nI k))], [], h) (.inl (some (.int (nI (dg c k)))), h) := by
  have hw : 0 < wt k ∧ wt k < 2147483648 := six (P := fun k => 0 < wt k ∧ wt k < 2147483648) (by decide) (by decide) (by decide) (by decide) (by decide) (by decide) k hk
  have hd := Nat.div_le_self c (wt k)
  repeat (first
    | exact go_ret rfl rfl rfl rfl
    | exact go_end rfl rfl rfl rfl
    | refine go_add rfl ?_
    | refine go_mul rfl ?_
    | refine go_sub rfl (by omega) ?_
    | refine go_inc rfl rfl rfl rfl rfl ?_
    | refine go_dec rfl rfl rfl (by omega) rfl rfl ?_
    | refine go_wrth rfl (by omega) ?_
    | refine go_div rfl (by omega) ?_
    | refine go_rem rfl (by omega) ?_
    | refine go_icT rfl (by dsimp only [ncd]; omega) ?_
    | refine go_icF rfl (by dsimp only [ncd]; omega) ?_
    | refine go_ifT rfl (by dsimp only [ncd]; omega) ?_
    | refine go_ifF rfl (by dsimp only [ncd]; omega) ?_
    | refine go_ift rfl (by decide) ?_
    | refine go_s rfl ?_
    )
theorem n_isRow_t {c : Nat} (hc : isRow c) : Go X (fu + 1) mX4_isRow (0, [(0, .int (nI c))], [], h) (.inl (some (.int (nI 1))), h) := by
  have h1 := row_lt hc
  have e : (((((0 ||| 2 ^ (dg c 0)) ||| 2 ^ (dg c (0 + 1))) ||| 2 ^ (dg c (0 + 1 + 1))) ||| 2 ^ (dg c (0 + 1 + 1 + 1))) ||| 2 ^ (dg c (0 + 1 + 1 + 1 + 1))) ||| 2 ^ (dg c (0 + 1 + 1 + 1 + 1 + 1)) = 63 := by
    rw [Nat.zero_or]
    exact row_bits hc
  repeat (first
    | exact go_ret rfl rfl rfl rfl
    | exact go_end rfl rfl rfl rfl
    | refine go_add rfl ?_
    | refine go_mul rfl ?_
    | refine go_sub rfl (by omega) ?_
    | refine go_inc rfl rfl rfl rfl rfl ?_
    | refine go_dec rfl rfl rfl (by omega) rfl rfl ?_
    | refine go_wrth rfl (by omega) ?_
    | refine go_div rfl (by omega) ?_
    | refine go_rem rfl (by omega) ?_
    | refine go_ci rfl rfl rfl rfl rfl (n_isIn_t (by omega)) ?_
    | refine go_ci rfl rfl rfl rfl rfl (n_digit (by omega) (by first | omega | exact dg_lt _ _)) ?_
    | refine go_shl rfl (dg_lt _ _) ?_
    | refine go_or rfl ?_
    | (rw [e]; refine go_icF rfl (by dsimp only [ncd]; omega) ?_)
    | refine go_icT rfl (by dsimp only [ncd]; omega) ?_
    | refine go_icF rfl (by dsimp only [ncd]; omega) ?_
    | refine go_ifT rfl (by dsimp only [ncd]; omega) ?_
    | refine go_ifF rfl (by dsimp only [ncd]; omega) ?_
    | refine go_ift rfl (by decide) ?_
    | refine go_s rfl ?_
    )
theorem n_isRow_f {x : Int32} (hx : ∀ c, isRow c → x ≠ nI c) : Go X (fu + 1) mX4_isRow (0, [(0, .int x)], [], h) (.inl (some (.int (nI 0))), h) := by
  by_cases h1 : x < nI 0 ∨ nI 46655 < x
  · repeat (first
    | exact go_ret rfl rfl rfl rfl
    | exact go_end rfl rfl rfl rfl
    | refine go_add rfl ?_
    | refine go_mul rfl ?_
    | refine go_sub rfl (by omega) ?_
    | refine go_inc rfl rfl rfl rfl rfl ?_
    | refine go_dec rfl rfl rfl (by omega) rfl rfl ?_
    | refine go_wrth rfl (by omega) ?_
    | refine go_div rfl (by omega) ?_
    | refine go_rem rfl (by omega) ?_
    | refine go_ci rfl rfl rfl rfl rfl (n_isIn_f h1) ?_
    | refine go_icT rfl (by dsimp only [ncd]; omega) ?_
    | refine go_icF rfl (by dsimp only [ncd]; omega) ?_
    | refine go_ifT rfl (by dsimp only [ncd]; omega) ?_
    | refine go_ifF rfl (by dsimp only [ncd]; omega) ?_
    | refine go_ift rfl (by decide) ?_
    | refine go_s rfl ?_
    )
  · obtain ⟨c, hc, rfl⟩ : ∃ c, c < 46656 ∧ x = nI c := by
      rcases pk_ix x (n := 46656) (by omega) with q | q | ⟨j, q, e⟩
      · exact absurd (Or.inl q) h1
      · refine absurd (Or.inr ?_) h1
        have h1 := Int32.le_iff_toInt_le.mp q
        rw [nI_toInt (by omega)] at h1
        rw [Int32.lt_iff_toInt_lt, nI_toInt (by omega)]
        omega
      · exact ⟨j, q, e⟩
    have nb : bits c ≠ 63 := fun q => hx c (row_of_bits hc q) rfl
    have bl : ∀ a b : Nat, a < 64 → b < 6 → a ||| 2 ^ b < 64 := fun a b h1 h2 => Nat.or_lt_two_pow (n := 6) h1 (Nat.pow_lt_pow_right (by decide) h2)
    have e2 : (((((0 ||| 2 ^ (dg c 0)) ||| 2 ^ (dg c (0 + 1))) ||| 2 ^ (dg c (0 + 1 + 1))) ||| 2 ^ (dg c (0 + 1 + 1 + 1))) ||| 2 ^ (dg c (0 + 1 + 1 + 1 + 1))) ||| 2 ^ (dg c (0 + 1 + 1 + 1 + 1 + 1)) < 64 :=
      bl _ _ (bl _ _ (bl _ _ (bl _ _ (bl _ _ (bl _ _ (by omega) (dg_lt _ _)) (dg_lt _ _)) (dg_lt _ _)) (dg_lt _ _)) (dg_lt _ _)) (dg_lt _ _)
    have e : (((((0 ||| 2 ^ (dg c 0)) ||| 2 ^ (dg c (0 + 1))) ||| 2 ^ (dg c (0 + 1 + 1))) ||| 2 ^ (dg c (0 + 1 + 1 + 1))) ||| 2 ^ (dg c (0 + 1 + 1 + 1 + 1))) ||| 2 ^ (dg c (0 + 1 + 1 + 1 + 1 + 1)) = bits c := by
      rw [Nat.zero_or]
      rfl
    rw [e] at e2
    repeat (first
      | exact go_ret rfl rfl rfl rfl
      | exact go_end rfl rfl rfl rfl
      | refine go_add rfl ?_
      | refine go_mul rfl ?_
      | refine go_sub rfl (by omega) ?_
      | refine go_inc rfl rfl rfl rfl rfl ?_
      | refine go_dec rfl rfl rfl (by omega) rfl rfl ?_
      | refine go_wrth rfl (by omega) ?_
      | refine go_div rfl (by omega) ?_
      | refine go_rem rfl (by omega) ?_
      | refine go_ci rfl rfl rfl rfl rfl (n_isIn_t (by omega)) ?_
      | refine go_ci rfl rfl rfl rfl rfl (n_digit (by omega) (by first | omega | exact dg_lt _ _)) ?_
      | refine go_shl rfl (dg_lt _ _) ?_
      | refine go_or rfl ?_
      | (rw [e]; refine go_icT rfl (by dsimp only [ncd]; omega) ?_)
      | refine go_icT rfl (by dsimp only [ncd]; omega) ?_
      | refine go_icF rfl (by dsimp only [ncd]; omega) ?_
      | refine go_ifT rfl (by dsimp only [ncd]; omega) ?_
      | refine go_ifF rfl (by dsimp only [ncd]; omega) ?_
      | refine go_ift rfl (by decide) ?_
      | refine go_s rfl ?_
      )
/-! orders: a row's powers -/
theorem n_pow {c q : Nat} (hc : isRow c) (hq : isRow q) {L3 : List (Nat × Value)} (hL3 : L3 = [] ∨ ∃ y z : Nat, L3 = [(3, .int (nI y)), (4, .int (nI z))]) {t : Nat} {oo : zOut}
    (K : Go X (fu + 1) mX4_order (4, [(0, .int (nI q)), (1, .int (nI (cmp c q))), (2, .int (nI (t + 1))), (3, .int (nI (cmp c q))), (4, .int (nI 6))], [], h) oo) :
    Go X (fu + 1) mX4_order (11, [(0, .int (nI q)), (1, .int (nI c)), (2, .int (nI t))] ++ L3, [], h) oo := by
  have l1 := row_lt hc
  have l2 := row_lt hq
  have e : 0 + dg c (dg q 0) * wt 0 + dg c (dg q (0 + 1)) * wt (0 + 1) + dg c (dg q (0 + 1 + 1)) * wt (0 + 1 + 1) + dg c (dg q (0 + 1 + 1 + 1)) * wt (0 + 1 + 1 + 1) + dg c (dg q (0 + 1 + 1 + 1 + 1)) * wt (0 + 1 + 1 + 1 + 1) + dg c (dg q (0 + 1 + 1 + 1 + 1 + 1)) * wt (0 + 1 + 1 + 1 + 1 + 1) = cmp c q := by
    rw [← und_cmp, Nat.zero_add]
    rfl
  rcases hL3 with rfl | ⟨y, z, rfl⟩
  · show Go X (fu + 1) mX4_order (11, [(0, .int (nI q)), (1, .int (nI c)), (2, .int (nI t))], [], h) oo
    repeat (first
      | exact K
      | (rw [e]; refine go_s rfl ?_; refine go_s rfl ?_; refine go_inc rfl rfl rfl rfl rfl ?_; refine go_s rfl ?_; exact K)
      | exact go_ret rfl rfl rfl rfl
      | exact go_end rfl rfl rfl rfl
      | refine go_add rfl ?_
      | refine go_mul rfl ?_
      | refine go_sub rfl (by omega) ?_
      | refine go_inc rfl rfl rfl rfl rfl ?_
      | refine go_dec rfl rfl rfl (by omega) rfl rfl ?_
      | refine go_wrth rfl (by omega) ?_
      | refine go_div rfl (by omega) ?_
      | refine go_rem rfl (by omega) ?_
      | refine go_ci rfl rfl rfl rfl rfl (n_digit (by omega) (by first | omega | exact dg_lt _ _)) ?_
      | refine go_icT rfl (by dsimp only [ncd]; omega) ?_
      | refine go_icF rfl (by dsimp only [ncd]; omega) ?_
      | refine go_ifT rfl (by dsimp only [ncd]; omega) ?_
      | refine go_ifF rfl (by dsimp only [ncd]; omega) ?_
      | refine go_ift rfl (by decide) ?_
      | refine go_s rfl ?_
      )
  · show Go X (fu + 1) mX4_order (11, [(0, .int (nI q)), (1, .int (nI c)), (2, .int (nI t)), (3, .int (nI y)), (4, .int (nI z))], [], h) oo
    repeat (first
      | exact K
      | (rw [e]; refine go_s rfl ?_; refine go_s rfl ?_; refine go_inc rfl rfl rfl rfl rfl ?_; refine go_s rfl ?_; exact K)
      | exact go_ret rfl rfl rfl rfl
      | exact go_end rfl rfl rfl rfl
      | refine go_add rfl ?_
      | refine go_mul rfl ?_
      | refine go_sub rfl (by omega) ?_
      | refine go_inc rfl rfl rfl rfl rfl ?_
      | refine go_dec rfl rfl rfl (by omega) rfl rfl ?_
      | refine go_wrth rfl (by omega) ?_
      | refine go_div rfl (by omega) ?_
      | refine go_rem rfl (by omega) ?_
      | refine go_ci rfl rfl rfl rfl rfl (n_digit (by omega) (by first | omega | exact dg_lt _ _)) ?_
      | refine go_icT rfl (by dsimp only [ncd]; omega) ?_
      | refine go_icF rfl (by dsimp only [ncd]; omega) ?_
      | refine go_ifT rfl (by dsimp only [ncd]; omega) ?_
      | refine go_ifF rfl (by dsimp only [ncd]; omega) ?_
      | refine go_ift rfl (by decide) ?_
      | refine go_s rfl ?_
      )
theorem n_order_loop {q : Nat} (hq : isRow q) :
    ∀ (s t : Nat) (L3 : List (Nat × Value)), (L3 = [] ∨ ∃ y z : Nat, L3 = [(3, .int (nI y)), (4, .int (nI z))]) → 0 < t → t + s = ord q → Go X (fu + 1) mX4_order (4, [(0, .int (nI q)), (1, .int (nI (pw q t))), (2, .int (nI t))] ++ L3, [], h) (.inl (some (.int (nI (ord q)))), h) := by
  obtain ⟨o1, o2, o3, o4⟩ := ord_ok hq
  intro s
  induction s with
  | zero =>
    intro t L3 hL3 h0 hs
    obtain rfl : t = ord q := by omega
    rw [o3]
    rcases hL3 with rfl | ⟨y, z, rfl⟩
    · show Go X (fu + 1) mX4_order (4, [(0, .int (nI q)), (1, .int (nI R0)), (2, .int (nI (ord q)))], [], h) _
      dsimp only [R0]
      repeat (first
        | exact go_ret rfl rfl rfl rfl
        | exact go_end rfl rfl rfl rfl
        | refine go_add rfl ?_
        | refine go_mul rfl ?_
        | refine go_sub rfl (by omega) ?_
        | refine go_inc rfl rfl rfl rfl rfl ?_
        | refine go_dec rfl rfl rfl (by omega) rfl rfl ?_
        | refine go_wrth rfl (by omega) ?_
        | refine go_div rfl (by omega) ?_
        | refine go_rem rfl (by omega) ?_
        | refine go_icT rfl (by dsimp only [ncd]; omega) ?_
        | refine go_icF rfl (by dsimp only [ncd]; omega) ?_
        | refine go_ifT rfl (by dsimp only [ncd]; omega) ?_
        | refine go_ifF rfl (by dsimp only [ncd]; omega) ?_
        | refine go_ift rfl (by decide) ?_
        | refine go_s rfl ?_
        )
    · show Go X (fu + 1) mX4_order (4, [(0, .int (nI q)), (1, .int (nI R0)), (2, .int (nI (ord q))), (3, .int (nI y)), (4, .int (nI z))], [], h) _
      dsimp only [R0]
      repeat (first
        | exact go_ret rfl rfl rfl rfl
        | exact go_end rfl rfl rfl rfl
        | refine go_add rfl ?_
        | refine go_mul rfl ?_
        | refine go_sub rfl (by omega) ?_
        | refine go_inc rfl rfl rfl rfl rfl ?_
        | refine go_dec rfl rfl rfl (by omega) rfl rfl ?_
        | refine go_wrth rfl (by omega) ?_
        | refine go_div rfl (by omega) ?_
        | refine go_rem rfl (by omega) ?_
        | refine go_icT rfl (by dsimp only [ncd]; omega) ?_
        | refine go_icF rfl (by dsimp only [ncd]; omega) ?_
        | refine go_ifT rfl (by dsimp only [ncd]; omega) ?_
        | refine go_ifF rfl (by dsimp only [ncd]; omega) ?_
        | refine go_ift rfl (by decide) ?_
        | refine go_s rfl ?_
        )
  | succ s ih =>
    intro t L3 hL3 h0 hs
    have l1 := row_lt (pw_row hq t)
    have n1 : pw q t ≠ 1865 := o4 t h0 (by omega)
    have K := n_pow (X := X) (fu := fu) (h := h) (pw_row hq t) hq hL3 (t := t) (ih (t + 1) [(3, .int (nI (pw q (t + 1)))), (4, .int (nI 6))] (Or.inr ⟨_, _, rfl⟩) (by omega) (by omega))
    rcases hL3 with rfl | ⟨y, z, rfl⟩
    · show Go X (fu + 1) mX4_order (4, [(0, .int (nI q)), (1, .int (nI (pw q t))), (2, .int (nI t))], [], h) _
      repeat (first
        | exact K
        | exact go_ret rfl rfl rfl rfl
        | exact go_end rfl rfl rfl rfl
        | refine go_add rfl ?_
        | refine go_mul rfl ?_
        | refine go_sub rfl (by omega) ?_
        | refine go_inc rfl rfl rfl rfl rfl ?_
        | refine go_dec rfl rfl rfl (by omega) rfl rfl ?_
        | refine go_wrth rfl (by omega) ?_
        | refine go_div rfl (by omega) ?_
        | refine go_rem rfl (by omega) ?_
        | refine go_icT rfl (by dsimp only [ncd]; omega) ?_
        | refine go_icF rfl (by dsimp only [ncd]; omega) ?_
        | refine go_ifT rfl (by dsimp only [ncd]; omega) ?_
        | refine go_ifF rfl (by dsimp only [ncd]; omega) ?_
        | refine go_ift rfl (by decide) ?_
        | refine go_s rfl ?_
        )
    · show Go X (fu + 1) mX4_order (4, [(0, .int (nI q)), (1, .int (nI (pw q t))), (2, .int (nI t)), (3, .int (nI y)), (4, .int (nI z))], [], h) _
      repeat (first
        | exact K
        | exact go_ret rfl rfl rfl rfl
        | exact go_end rfl rfl rfl rfl
        | refine go_add rfl ?_
        | refine go_mul rfl ?_
        | refine go_sub rfl (by omega) ?_
        | refine go_inc rfl rfl rfl rfl rfl ?_
        | refine go_dec rfl rfl rfl (by omega) rfl rfl ?_
        | refine go_wrth rfl (by omega) ?_
        | refine go_div rfl (by omega) ?_
        | refine go_rem rfl (by omega) ?_
        | refine go_icT rfl (by dsimp only [ncd]; omega) ?_
        | refine go_icF rfl (by dsimp only [ncd]; omega) ?_
        | refine go_ifT rfl (by dsimp only [ncd]; omega) ?_
        | refine go_ifF rfl (by dsimp only [ncd]; omega) ?_
        | refine go_ift rfl (by decide) ?_
        | refine go_s rfl ?_
        )
theorem n_order {q : Nat} (hq : isRow q) : Go X (fu + 1) mX4_order (0, [(0, .int (nI q))], [], h) (.inl (some (.int (nI (ord q)))), h) := by
  obtain ⟨o1, o2, o3, o4⟩ := ord_ok hq
  have e : pw q 1 = q := R0_cmp (row_lt hq)
  have K := n_order_loop (X := X) (fu := fu) (h := h) hq (ord q - 1) 1 [] (Or.inl rfl) (by omega) (by omega)
  rw [e] at K
  repeat (first
    | exact K
    | exact go_ret rfl rfl rfl rfl
    | exact go_end rfl rfl rfl rfl
    | refine go_add rfl ?_
    | refine go_mul rfl ?_
    | refine go_sub rfl (by omega) ?_
    | refine go_inc rfl rfl rfl rfl rfl ?_
    | refine go_dec rfl rfl rfl (by omega) rfl rfl ?_
    | refine go_wrth rfl (by omega) ?_
    | refine go_div rfl (by omega) ?_
    | refine go_rem rfl (by omega) ?_
    | refine go_icT rfl (by dsimp only [ncd]; omega) ?_
    | refine go_icF rfl (by dsimp only [ncd]; omega) ?_
    | refine go_ifT rfl (by dsimp only [ncd]; omega) ?_
    | refine go_ifF rfl (by dsimp only [ncd]; omega) ?_
    | refine go_ift rfl (by decide) ?_
    | refine go_s rfl ?_
    )
/-! odd -/
theorem n_odd_in {c b : Nat} (hc : c < 46656) (hb : b < 6) {oo : zOut} :
    ∀ (q k acc : Nat), k + q = b → Go X (fu + 1) mX4_odd (44, [(0, .int (nI c)), (1, .int (nI (lp (fun a acc => acc + if dg c b < dg c a then 1 else 0) q k acc))), (2, .int (nI b)), (3, .int (nI b))], [], h) oo → Go X (fu + 1) mX4_odd (12, [(0, .int (nI c)), (1, .int (nI acc)), (2, .int (nI b)), (3, .int (nI k))], [], h) oo := by
  intro q
  induction q with
  | zero =>
    intro k acc hk K
    obtain rfl : k = b := by omega
    repeat (first
      | exact K
      | exact go_ret rfl rfl rfl rfl
      | exact go_end rfl rfl rfl rfl
      | refine go_add rfl ?_
      | refine go_mul rfl ?_
      | refine go_sub rfl (by omega) ?_
      | refine go_inc rfl rfl rfl rfl rfl ?_
      | refine go_dec rfl rfl rfl (by omega) rfl rfl ?_
      | refine go_wrth rfl (by omega) ?_
      | refine go_div rfl (by omega) ?_
      | refine go_rem rfl (by omega) ?_
      | refine go_icT rfl (by dsimp only [ncd]; omega) ?_
      | refine go_icF rfl (by dsimp only [ncd]; omega) ?_
      | refine go_ifT rfl (by dsimp only [ncd]; omega) ?_
      | refine go_ifF rfl (by dsimp only [ncd]; omega) ?_
      | refine go_ift rfl (by decide) ?_
      | refine go_s rfl ?_
      )
  | succ q ih =>
    intro k acc hk K
    have h1 := dg_lt c k
    have h2 := dg_lt c b
    have K1 := ih (k + 1) (acc + if dg c b < dg c k then 1 else 0) (by omega) K
    by_cases e : dg c b < dg c k
    · rw [if_pos e] at K1
      repeat (first
        | exact K1
        | exact go_ret rfl rfl rfl rfl
        | exact go_end rfl rfl rfl rfl
        | refine go_add rfl ?_
        | refine go_mul rfl ?_
        | refine go_sub rfl (by omega) ?_
        | refine go_inc rfl rfl rfl rfl rfl ?_
        | refine go_dec rfl rfl rfl (by omega) rfl rfl ?_
        | refine go_wrth rfl (by omega) ?_
        | refine go_div rfl (by omega) ?_
        | refine go_rem rfl (by omega) ?_
        | refine go_ci rfl rfl rfl rfl rfl (n_digit (by omega) (by first | omega | exact dg_lt _ _)) ?_
        | refine go_icT rfl (by dsimp only [ncd]; omega) ?_
        | refine go_icF rfl (by dsimp only [ncd]; omega) ?_
        | refine go_ifT rfl (by dsimp only [ncd]; omega) ?_
        | refine go_ifF rfl (by dsimp only [ncd]; omega) ?_
        | refine go_ift rfl (by decide) ?_
        | refine go_s rfl ?_
        )
    · rw [if_neg e] at K1
      repeat (first
        | exact K1
        | exact go_ret rfl rfl rfl rfl
        | exact go_end rfl rfl rfl rfl
        | refine go_add rfl ?_
        | refine go_mul rfl ?_
        | refine go_sub rfl (by omega) ?_
        | refine go_inc rfl rfl rfl rfl rfl ?_
        | refine go_dec rfl rfl rfl (by omega) rfl rfl ?_
        | refine go_wrth rfl (by omega) ?_
        | refine go_div rfl (by omega) ?_
        | refine go_rem rfl (by omega) ?_
        | refine go_ci rfl rfl rfl rfl rfl (n_digit (by omega) (by first | omega | exact dg_lt _ _)) ?_
        | refine go_icT rfl (by dsimp only [ncd]; omega) ?_
        | refine go_icF rfl (by dsimp only [ncd]; omega) ?_
        | refine go_ifT rfl (by dsimp only [ncd]; omega) ?_
        | refine go_ifF rfl (by dsimp only [ncd]; omega) ?_
        | refine go_ift rfl (by decide) ?_
        | refine go_s rfl ?_
        )
theorem n_odd_loop {c : Nat} (hc : c < 46656) :
    ∀ (q k acc : Nat) (L3 : List (Nat × Value)), (L3 = [] ∨ ∃ y : Nat, L3 = [(3, .int (nI y))]) → k + q = 6 → acc ≤ 6 * k → Go X (fu + 1) mX4_odd (4, [(0, .int (nI c)), (1, .int (nI acc)), (2, .int (nI k))] ++ L3, [], h) (.inl (some (.int (nI (lp (fun b acc => lp (fun a acc => acc + if dg c b < dg c a then 1 else 0) b 0 acc) q k acc % 2)))), h) := by
  have bd : ∀ (b q k acc : Nat), lp (fun a acc => acc + if dg c b < dg c a then 1 else 0) q k acc ≤ acc + q := by
    intro b q
    induction q with
    | zero => intro k acc; exact Nat.le_refl _
    | succ q ih =>
      intro k acc
      have h1 := ih (k + 1) (acc + if dg c b < dg c k then 1 else 0)
      have h2 : (if dg c b < dg c k then 1 else 0) ≤ 1 := by split <;> omega
      show lp (fun a acc => acc + if dg c b < dg c a then 1 else 0) q (k + 1) (acc + if dg c b < dg c k then 1 else 0) ≤ acc + (q + 1)
      omega
  intro q
  induction q with
  | zero =>
    intro k acc L3 hL3 hk hb
    obtain rfl : k = 6 := by omega
    rcases hL3 with rfl | ⟨y, rfl⟩
    · show Go X (fu + 1) mX4_odd (4, [(0, .int (nI c)), (1, .int (nI acc)), (2, .int (nI 6))], [], h) _
      repeat (first
        | exact go_ret rfl rfl rfl rfl
        | exact go_end rfl rfl rfl rfl
        | refine go_add rfl ?_
        | refine go_mul rfl ?_
        | refine go_sub rfl (by omega) ?_
        | refine go_inc rfl rfl rfl rfl rfl ?_
        | refine go_dec rfl rfl rfl (by omega) rfl rfl ?_
        | refine go_wrth rfl (by omega) ?_
        | refine go_div rfl (by omega) ?_
        | refine go_rem rfl (by omega) ?_
        | refine go_icT rfl (by dsimp only [ncd]; omega) ?_
        | refine go_icF rfl (by dsimp only [ncd]; omega) ?_
        | refine go_ifT rfl (by dsimp only [ncd]; omega) ?_
        | refine go_ifF rfl (by dsimp only [ncd]; omega) ?_
        | refine go_ift rfl (by decide) ?_
        | refine go_s rfl ?_
        )
    · show Go X (fu + 1) mX4_odd (4, [(0, .int (nI c)), (1, .int (nI acc)), (2, .int (nI 6)), (3, .int (nI y))], [], h) _
      repeat (first
        | exact go_ret rfl rfl rfl rfl
        | exact go_end rfl rfl rfl rfl
        | refine go_add rfl ?_
        | refine go_mul rfl ?_
        | refine go_sub rfl (by omega) ?_
        | refine go_inc rfl rfl rfl rfl rfl ?_
        | refine go_dec rfl rfl rfl (by omega) rfl rfl ?_
        | refine go_wrth rfl (by omega) ?_
        | refine go_div rfl (by omega) ?_
        | refine go_rem rfl (by omega) ?_
        | refine go_icT rfl (by dsimp only [ncd]; omega) ?_
        | refine go_icF rfl (by dsimp only [ncd]; omega) ?_
        | refine go_ifT rfl (by dsimp only [ncd]; omega) ?_
        | refine go_ifF rfl (by dsimp only [ncd]; omega) ?_
        | refine go_ift rfl (by decide) ?_
        | refine go_s rfl ?_
        )
  | succ q ih =>
    intro k acc L3 hL3 hk hb
    have hb2 := bd k k 0 acc
    have K : Go X (fu + 1) mX4_odd (44, [(0, .int (nI c)), (1, .int (nI (lp (fun a acc => acc + if dg c k < dg c a then 1 else 0) k 0 acc))), (2, .int (nI k)), (3, .int (nI k))], [], h) (.inl (some (.int (nI (lp (fun b acc => lp (fun a acc => acc + if dg c b < dg c a then 1 else 0) b 0 acc) (q + 1) k acc % 2)))), h) := by
      repeat (first
        | exact ih (k + 1) _ [(3, _)] (Or.inr ⟨_, rfl⟩) (by omega) (by omega)
        | exact go_ret rfl rfl rfl rfl
        | exact go_end rfl rfl rfl rfl
        | refine go_add rfl ?_
        | refine go_mul rfl ?_
        | refine go_sub rfl (by omega) ?_
        | refine go_inc rfl rfl rfl rfl rfl ?_
        | refine go_dec rfl rfl rfl (by omega) rfl rfl ?_
        | refine go_wrth rfl (by omega) ?_
        | refine go_div rfl (by omega) ?_
        | refine go_rem rfl (by omega) ?_
        | refine go_icT rfl (by dsimp only [ncd]; omega) ?_
        | refine go_icF rfl (by dsimp only [ncd]; omega) ?_
        | refine go_ifT rfl (by dsimp only [ncd]; omega) ?_
        | refine go_ifF rfl (by dsimp only [ncd]; omega) ?_
        | refine go_ift rfl (by decide) ?_
        | refine go_s rfl ?_
        )
    have K2 := n_odd_in hc (by omega) k 0 acc (by omega) K
    rcases hL3 with rfl | ⟨y, rfl⟩
    · show Go X (fu + 1) mX4_odd (4, [(0, .int (nI c)), (1, .int (nI acc)), (2, .int (nI k))], [], h) _
      repeat (first
        | exact K2
        | exact go_ret rfl rfl rfl rfl
        | exact go_end rfl rfl rfl rfl
        | refine go_add rfl ?_
        | refine go_mul rfl ?_
        | refine go_sub rfl (by omega) ?_
        | refine go_inc rfl rfl rfl rfl rfl ?_
        | refine go_dec rfl rfl rfl (by omega) rfl rfl ?_
        | refine go_wrth rfl (by omega) ?_
        | refine go_div rfl (by omega) ?_
        | refine go_rem rfl (by omega) ?_
        | refine go_icT rfl (by dsimp only [ncd]; omega) ?_
        | refine go_icF rfl (by dsimp only [ncd]; omega) ?_
        | refine go_ifT rfl (by dsimp only [ncd]; omega) ?_
        | refine go_ifF rfl (by dsimp only [ncd]; omega) ?_
        | refine go_ift rfl (by decide) ?_
        | refine go_s rfl ?_
        )
    · show Go X (fu + 1) mX4_odd (4, [(0, .int (nI c)), (1, .int (nI acc)), (2, .int (nI k)), (3, .int (nI y))], [], h) _
      repeat (first
        | exact K2
        | exact go_ret rfl rfl rfl rfl
        | exact go_end rfl rfl rfl rfl
        | refine go_add rfl ?_
        | refine go_mul rfl ?_
        | refine go_sub rfl (by omega) ?_
        | refine go_inc rfl rfl rfl rfl rfl ?_
        | refine go_dec rfl rfl rfl (by omega) rfl rfl ?_
        | refine go_wrth rfl (by omega) ?_
        | refine go_div rfl (by omega) ?_
        | refine go_rem rfl (by omega) ?_
        | refine go_icT rfl (by dsimp only [ncd]; omega) ?_
        | refine go_icF rfl (by dsimp only [ncd]; omega) ?_
        | refine go_ifT rfl (by dsimp only [ncd]; omega) ?_
        | refine go_ifF rfl (by dsimp only [ncd]; omega) ?_
        | refine go_ift rfl (by decide) ?_
        | refine go_s rfl ?_
        )
theorem n_odd {c : Nat} (hc : c < 46656) : Go X (fu + 1) mX4_odd (0, [(0, .int (nI c))], [], h) (.inl (some (.int (nI (odM (dg c))))), h) := by
  repeat (first
    | exact n_odd_loop hc 6 0 0 [] (Or.inl rfl) (by omega) (by omega)
    | exact go_ret rfl rfl rfl rfl
    | exact go_end rfl rfl rfl rfl
    | refine go_add rfl ?_
    | refine go_mul rfl ?_
    | refine go_sub rfl (by omega) ?_
    | refine go_inc rfl rfl rfl rfl rfl ?_
    | refine go_dec rfl rfl rfl (by omega) rfl rfl ?_
    | refine go_wrth rfl (by omega) ?_
    | refine go_div rfl (by omega) ?_
    | refine go_rem rfl (by omega) ?_
    | refine go_icT rfl (by dsimp only [ncd]; omega) ?_
    | refine go_icF rfl (by dsimp only [ncd]; omega) ?_
    | refine go_ifT rfl (by dsimp only [ncd]; omega) ?_
    | refine go_ifF rfl (by dsimp only [ncd]; omega) ?_
    | refine go_ift rfl (by decide) ?_
    | refine go_s rfl ?_
    )
end MLEAF
/-- the reference's arrays hold these rules and peals -/
def MR (B : Nat → Nat → Int32) (n : Nat) (ps : Nat → Nat) (m : Nat) (len : Nat → Nat) (pr : Nat → Nat → Nat) : Prop :=
  n ≤ 8 ∧ m ≤ 6 ∧ (∀ i, i < n → isRow (ps i)) ∧ (∀ i, i < n → ∀ k, k < 6 → B 37 (6 * i + k) = nI (dg (ps i) k)) ∧ hold 6 (B 38) len ∧ ∀ j, j < 6 → len j ≤ 30 ∧ (∀ i, i < len j → B 39 (30 * j + i) = nI (pr j i)) ∧ ∀ i, i < len j → pr j i < n
section MCORE
variable {X : zX} {fu e n m : Nat} {A B : Nat → Nat → Int32} {c1 c2 c3 c4 c5 c6 c7 c8 th co ch sp : Int32} {R : List zC} {ps len : Nat → Nat} {pr : Nat → Nat → Nat}
theorem n_no {k : Nat} : Go X fu mX4_no (0, [(0, .ref 36), (1, .int (nI k))], [], (cc A c1 c2 c3 c4 c5 c6 c7 c8 ++ (mm B th (nI n) (nI m) co ch sp ++ R), e)) (.inl (some (.int (nI 0))), (cc A c1 c2 c3 c4 c5 c6 c7 c8 ++ (mm B (nI k) (nI n) (nI m) co ch sp ++ R), e)) := by
  repeat (first
    | exact go_ret rfl rfl rfl rfl
    | exact go_end rfl rfl rfl rfl
    | refine go_add rfl ?_
    | refine go_mul rfl ?_
    | refine go_sub rfl (by omega) ?_
    | refine go_inc rfl rfl rfl rfl rfl ?_
    | refine go_dec rfl rfl rfl (by omega) rfl rfl ?_
    | refine go_wrth rfl (by omega) ?_
    | refine go_div rfl (by omega) ?_
    | refine go_rem rfl (by omega) ?_
    | refine go_pf rfl rfl rfl rfl ?_
    | refine go_icT rfl (by dsimp only [ncd]; omega) ?_
    | refine go_icF rfl (by dsimp only [ncd]; omega) ?_
    | refine go_ifT rfl (by dsimp only [ncd]; omega) ?_
    | refine go_ifF rfl (by dsimp only [ncd]; omega) ?_
    | refine go_ift rfl (by decide) ?_
    | refine go_s rfl ?_
    )
theorem n_isRule_t {r : Nat} (hn : n ≤ 8) (hr : r < n) : Go X (fu + 1) mX4_isRule (0, [(0, .ref 36), (1, .int (nI r))], [], (cc A c1 c2 c3 c4 c5 c6 c7 c8 ++ (mm B th (nI n) (nI m) co ch sp ++ R), e)) (.inl (some (.int (nI 1))), (cc A c1 c2 c3 c4 c5 c6 c7 c8 ++ (mm B th (nI n) (nI m) co ch sp ++ R), e)) := by
  repeat (first
    | exact go_ret rfl rfl rfl rfl
    | exact go_end rfl rfl rfl rfl
    | refine go_add rfl ?_
    | refine go_mul rfl ?_
    | refine go_sub rfl (by omega) ?_
    | refine go_inc rfl rfl rfl rfl rfl ?_
    | refine go_dec rfl rfl rfl (by omega) rfl rfl ?_
    | refine go_wrth rfl (by omega) ?_
    | refine go_div rfl (by omega) ?_
    | refine go_rem rfl (by omega) ?_
    | refine go_ci rfl rfl rfl rfl rfl (n_isIn_t (by omega)) ?_
    | refine go_icT rfl (by dsimp only [ncd]; omega) ?_
    | refine go_icF rfl (by dsimp only [ncd]; omega) ?_
    | refine go_ifT rfl (by dsimp only [ncd]; omega) ?_
    | refine go_ifF rfl (by dsimp only [ncd]; omega) ?_
    | refine go_ift rfl (by decide) ?_
    | refine go_s rfl ?_
    )
theorem n_isRule_f {x : Int32} (hn : n ≤ 8) (hx : x < 0 ∨ nI n ≤ x) : Go X (fu + 1) mX4_isRule (0, [(0, .ref 36), (1, .int x)], [], (cc A c1 c2 c3 c4 c5 c6 c7 c8 ++ (mm B th (nI n) (nI m) co ch sp ++ R), e)) (.inl (some (.int (nI 0))), (cc A c1 c2 c3 c4 c5 c6 c7 c8 ++ (mm B th (nI n) (nI m) co ch sp ++ R), e)) := by
  have h2 : x < nI 0 ∨ nI n - nI 1 < x := hx.imp (fun q => q) (fun q => le_pred (by omega) q)
  refine go_s rfl ?_
  refine go_s rfl ?_
  refine go_s rfl ?_
  refine go_s rfl ?_
  refine go_s rfl ?_
  refine go_s rfl ?_
  refine go_ci rfl rfl rfl rfl rfl (n_isIn_f h2) ?_
  exact go_ret rfl rfl rfl rfl
theorem n_isPeal_t {r : Nat} (hm : m ≤ 6) (hr : r < m) : Go X (fu + 1) mX4_isPeal (0, [(0, .ref 36), (1, .int (nI r))], [], (cc A c1 c2 c3 c4 c5 c6 c7 c8 ++ (mm B th (nI n) (nI m) co ch sp ++ R), e)) (.inl (some (.int (nI 1))), (cc A c1 c2 c3 c4 c5 c6 c7 c8 ++ (mm B th (nI n) (nI m) co ch sp ++ R), e)) := by
  repeat (first
    | exact go_ret rfl rfl rfl rfl
    | exact go_end rfl rfl rfl rfl
    | refine go_add rfl ?_
    | refine go_mul rfl ?_
    | refine go_sub rfl (by omega) ?_
    | refine go_inc rfl rfl rfl rfl rfl ?_
    | refine go_dec rfl rfl rfl (by omega) rfl rfl ?_
    | refine go_wrth rfl (by omega) ?_
    | refine go_div rfl (by omega) ?_
    | refine go_rem rfl (by omega) ?_
    | refine go_ci rfl rfl rfl rfl rfl (n_isIn_t (by omega)) ?_
    | refine go_icT rfl (by dsimp only [ncd]; omega) ?_
    | refine go_icF rfl (by dsimp only [ncd]; omega) ?_
    | refine go_ifT rfl (by dsimp only [ncd]; omega) ?_
    | refine go_ifF rfl (by dsimp only [ncd]; omega) ?_
    | refine go_ift rfl (by decide) ?_
    | refine go_s rfl ?_
    )
theorem n_isPeal_f {x : Int32} (hm : m ≤ 6) (hx : x < 0 ∨ nI m ≤ x) : Go X (fu + 1) mX4_isPeal (0, [(0, .ref 36), (1, .int x)], [], (cc A c1 c2 c3 c4 c5 c6 c7 c8 ++ (mm B th (nI n) (nI m) co ch sp ++ R), e)) (.inl (some (.int (nI 0))), (cc A c1 c2 c3 c4 c5 c6 c7 c8 ++ (mm B th (nI n) (nI m) co ch sp ++ R), e)) := by
  have h2 : x < nI 0 ∨ nI m - nI 1 < x := hx.imp (fun q => q) (fun q => le_pred (by omega) q)
  refine go_s rfl ?_
  refine go_s rfl ?_
  refine go_s rfl ?_
  refine go_s rfl ?_
  refine go_s rfl ?_
  refine go_s rfl ?_
  refine go_ci rfl rfl rfl rfl rfl (n_isIn_f h2) ?_
  exact go_ret rfl rfl rfl rfl
theorem n_to (hM : MR B n ps m len pr) {r k : Nat} (hr : r < n) (hk : k < 6) : Go X fu mX4_to (0, [(0, .ref 36), (1, .int (nI r)), (2, .int (nI k))], [], (cc A c1 c2 c3 c4 c5 c6 c7 c8 ++ (mm B th (nI n) (nI m) co ch sp ++ R), e)) (.inl (some (.int (nI (dg (ps r) k)))), (cc A c1 c2 c3 c4 c5 c6 c7 c8 ++ (mm B th (nI n) (nI m) co ch sp ++ R), e)) := by
  have hn := hM.1
  have hv := hM.2.2.2.1 r hr k hk
  repeat (first
    | exact go_ret rfl rfl rfl rfl
    | exact go_end rfl rfl rfl rfl
    | refine go_add rfl ?_
    | refine go_mul rfl ?_
    | refine go_sub rfl (by omega) ?_
    | refine go_inc rfl rfl rfl rfl rfl ?_
    | refine go_dec rfl rfl rfl (by omega) rfl rfl ?_
    | refine go_wrth rfl (by omega) ?_
    | refine go_ial rfl rfl (by first | omega | exact ⟨dg_lt _ _, by omega⟩) (hv) ?_
    | refine go_div rfl (by omega) ?_
    | refine go_rem rfl (by omega) ?_
    | refine go_icT rfl (by dsimp only [ncd]; omega) ?_
    | refine go_icF rfl (by dsimp only [ncd]; omega) ?_
    | refine go_ifT rfl (by dsimp only [ncd]; omega) ?_
    | refine go_ifF rfl (by dsimp only [ncd]; omega) ?_
    | refine go_ift rfl (by decide) ?_
    | refine go_s rfl ?_
    )
theorem n_ringed (hM : MR B n ps m len pr) {c r : Nat} (hc : c < 46656) (hr : r < n) : Go X (fu + 1) mX4_ringed (0, [(0, .ref 36), (1, .int (nI c)), (2, .int (nI r))], [], (cc A c1 c2 c3 c4 c5 c6 c7 c8 ++ (mm B th (nI n) (nI m) co ch sp ++ R), e)) (.inl (some (.int (nI (rng c (ps r))))), (cc A c1 c2 c3 c4 c5 c6 c7 c8 ++ (mm B th (nI n) (nI m) co ch sp ++ R), e)) := by
  have e : rng c (ps r) = 0 + dg c 0 * wt (dg (ps r) 0) + dg c (0 + 1) * wt (dg (ps r) (0 + 1)) + dg c (0 + 1 + 1) * wt (dg (ps r) (0 + 1 + 1)) + dg c (0 + 1 + 1 + 1) * wt (dg (ps r) (0 + 1 + 1 + 1)) + dg c (0 + 1 + 1 + 1 + 1) * wt (dg (ps r) (0 + 1 + 1 + 1 + 1)) + dg c (0 + 1 + 1 + 1 + 1 + 1) * wt (dg (ps r) (0 + 1 + 1 + 1 + 1 + 1)) := by
    rw [Nat.zero_add]
    rfl
  rw [e]
  repeat (first
    | exact go_ret rfl rfl rfl rfl
    | exact go_end rfl rfl rfl rfl
    | refine go_add rfl ?_
    | refine go_mul rfl ?_
    | refine go_sub rfl (by omega) ?_
    | refine go_inc rfl rfl rfl rfl rfl ?_
    | refine go_dec rfl rfl rfl (by omega) rfl rfl ?_
    | refine go_wrth rfl (by omega) ?_
    | refine go_div rfl (by omega) ?_
    | refine go_rem rfl (by omega) ?_
    | refine go_ci rfl rfl rfl rfl rfl (n_digit (by omega) (by first | omega | exact dg_lt _ _)) ?_
    | refine go_ci rfl rfl rfl rfl rfl (n_to hM hr (by omega)) ?_
    | refine go_wrth rfl (dg_lt _ _) ?_
    | refine go_icT rfl (by dsimp only [ncd]; omega) ?_
    | refine go_icF rfl (by dsimp only [ncd]; omega) ?_
    | refine go_ifT rfl (by dsimp only [ncd]; omega) ?_
    | refine go_ifF rfl (by dsimp only [ncd]; omega) ?_
    | refine go_ift rfl (by decide) ?_
    | refine go_s rfl ?_
    )
theorem n_undone (hM : MR B n ps m len pr) {c r : Nat} (hc : c < 46656) (hr : r < n) : Go X (fu + 1) mX4_undone (0, [(0, .ref 36), (1, .int (nI c)), (2, .int (nI r))], [], (cc A c1 c2 c3 c4 c5 c6 c7 c8 ++ (mm B th (nI n) (nI m) co ch sp ++ R), e)) (.inl (some (.int (nI (cmp c (ps r))))), (cc A c1 c2 c3 c4 c5 c6 c7 c8 ++ (mm B th (nI n) (nI m) co ch sp ++ R), e)) := by
  have e : cmp c (ps r) = 0 + dg c (dg (ps r) 0) * wt 0 + dg c (dg (ps r) (0 + 1)) * wt (0 + 1) + dg c (dg (ps r) (0 + 1 + 1)) * wt (0 + 1 + 1) + dg c (dg (ps r) (0 + 1 + 1 + 1)) * wt (0 + 1 + 1 + 1) + dg c (dg (ps r) (0 + 1 + 1 + 1 + 1)) * wt (0 + 1 + 1 + 1 + 1) + dg c (dg (ps r) (0 + 1 + 1 + 1 + 1 + 1)) * wt (0 + 1 + 1 + 1 + 1 + 1) := by
    rw [← und_cmp, Nat.zero_add]
    rfl
  rw [e]
  repeat (first
    | exact go_ret rfl rfl rfl rfl
    | exact go_end rfl rfl rfl rfl
    | refine go_add rfl ?_
    | refine go_mul rfl ?_
    | refine go_sub rfl (by omega) ?_
    | refine go_inc rfl rfl rfl rfl rfl ?_
    | refine go_dec rfl rfl rfl (by omega) rfl rfl ?_
    | refine go_wrth rfl (by omega) ?_
    | refine go_div rfl (by omega) ?_
    | refine go_rem rfl (by omega) ?_
    | refine go_ci rfl rfl rfl rfl rfl (n_digit (by omega) (by first | omega | exact dg_lt _ _)) ?_
    | refine go_ci rfl rfl rfl rfl rfl (n_to hM hr (by omega)) ?_
    | refine go_icT rfl (by dsimp only [ncd]; omega) ?_
    | refine go_icF rfl (by dsimp only [ncd]; omega) ?_
    | refine go_ifT rfl (by dsimp only [ncd]; omega) ?_
    | refine go_ifF rfl (by dsimp only [ncd]; omega) ?_
    | refine go_ift rfl (by decide) ?_
    | refine go_s rfl ?_
    )
theorem n_undoes_loop (hM : MR B n ps m len pr) {r : Nat} (hr : r < n) :
    ∀ (q k : Nat), k + q = n → Go X (fu + 2) mX4_undoes (2, [(0, .ref 36), (1, .int (nI r)), (2, .int (nI k))], [], (cc A c1 c2 c3 c4 c5 c6 c7 c8 ++ (mm B th (nI n) (nI m) co ch sp ++ R), e)) (.inl (some (.int (fs1 (fun o => Nat.beq (rng (rng R0 (ps r)) (ps o)) R0) q k))), (cc A c1 c2 c3 c4 c5 c6 c7 c8 ++ (mm B th (nI n) (nI m) co ch sp ++ R), e)) := by
  have hn := hM.1
  intro q
  induction q with
  | zero =>
    intro k hk
    obtain rfl : k = n := by omega
    repeat (first
      | exact go_ret rfl rfl rfl rfl
      | exact go_end rfl rfl rfl rfl
      | refine go_add rfl ?_
      | refine go_mul rfl ?_
      | refine go_sub rfl (by omega) ?_
      | refine go_inc rfl rfl rfl rfl rfl ?_
      | refine go_dec rfl rfl rfl (by omega) rfl rfl ?_
      | refine go_wrth rfl (by omega) ?_
      | refine go_div rfl (by omega) ?_
      | refine go_rem rfl (by omega) ?_
      | refine go_icT rfl (by dsimp only [ncd]; omega) ?_
      | refine go_icF rfl (by dsimp only [ncd]; omega) ?_
      | refine go_ifT rfl (by dsimp only [ncd]; omega) ?_
      | refine go_ifF rfl (by dsimp only [ncd]; omega) ?_
      | refine go_ift rfl (by decide) ?_
      | refine go_s rfl ?_
      )
  | succ q ih =>
    intro k hk
    have i1 := rng_row R0_row (hM.2.2.1 r hr)
    have i2 := rng_row i1 (hM.2.2.1 k (by omega))
    have l2 := row_lt i2
    have G1 := n_ringed (X := X) (fu := fu) (e := e) (A := A) (c1 := c1) (c2 := c2) (c3 := c3) (c4 := c4) (c5 := c5) (c6 := c6) (c7 := c7) (c8 := c8) (th := th) (co := co) (ch := ch) (sp := sp) (R := R) hM (c := R0) (row_lt R0_row) hr
    have G2 := n_ringed (X := X) (fu := fu) (e := e) (A := A) (c1 := c1) (c2 := c2) (c3 := c3) (c4 := c4) (c5 := c5) (c6 := c6) (c7 := c7) (c8 := c8) (th := th) (co := co) (ch := ch) (sp := sp) (R := R) hM (c := rng R0 (ps r)) (row_lt i1) (r := k) (by omega)
    have K := ih (k + 1) (by omega)
    show Go X (fu + 2) mX4_undoes _ (.inl (some (.int (bif Nat.beq (rng (rng R0 (ps r)) (ps k)) R0 then nI k else fs1 (fun o => Nat.beq (rng (rng R0 (ps r)) (ps o)) R0) q (k + 1)))), _)
    generalize rng (rng R0 (ps r)) (ps k) = z at *
    by_cases e1 : z = R0
    · subst e1
      rw [Nat.beq_refl]
      dsimp only [R0] at G1 G2 ⊢
      repeat (first
        | exact go_ret rfl rfl rfl rfl
        | exact go_end rfl rfl rfl rfl
        | refine go_add rfl ?_
        | refine go_mul rfl ?_
        | refine go_sub rfl (by omega) ?_
        | refine go_inc rfl rfl rfl rfl rfl ?_
        | refine go_dec rfl rfl rfl (by omega) rfl rfl ?_
        | refine go_wrth rfl (by omega) ?_
        | refine go_div rfl (by omega) ?_
        | refine go_rem rfl (by omega) ?_
        | refine go_ci rfl rfl rfl rfl rfl G1 ?_
        | refine go_ci rfl rfl rfl rfl rfl G2 ?_
        | refine go_icT rfl (by dsimp only [ncd]; omega) ?_
        | refine go_icF rfl (by dsimp only [ncd]; omega) ?_
        | refine go_ifT rfl (by dsimp only [ncd]; omega) ?_
        | refine go_ifF rfl (by dsimp only [ncd]; omega) ?_
        | refine go_ift rfl (by decide) ?_
        | refine go_s rfl ?_
        )
    · rw [nbeq e1]
      dsimp only [R0] at G1 e1 ⊢
      repeat (first
        | exact K
        | exact go_ret rfl rfl rfl rfl
        | exact go_end rfl rfl rfl rfl
        | refine go_add rfl ?_
        | refine go_mul rfl ?_
        | refine go_sub rfl (by omega) ?_
        | refine go_inc rfl rfl rfl rfl rfl ?_
        | refine go_dec rfl rfl rfl (by omega) rfl rfl ?_
        | refine go_wrth rfl (by omega) ?_
        | refine go_div rfl (by omega) ?_
        | refine go_rem rfl (by omega) ?_
        | refine go_ci rfl rfl rfl rfl rfl G1 ?_
        | refine go_ci rfl rfl rfl rfl rfl G2 ?_
        | refine go_icT rfl (by dsimp only [ncd]; omega) ?_
        | refine go_icF rfl (by dsimp only [ncd]; omega) ?_
        | refine go_ifT rfl (by dsimp only [ncd]; omega) ?_
        | refine go_ifF rfl (by dsimp only [ncd]; omega) ?_
        | refine go_ift rfl (by decide) ?_
        | refine go_s rfl ?_
        )
theorem n_undoes (hM : MR B n ps m len pr) {r : Nat} (hr : r < n) : Go X (fu + 2) mX4_undoes (0, [(0, .ref 36), (1, .int (nI r))], [], (cc A c1 c2 c3 c4 c5 c6 c7 c8 ++ (mm B th (nI n) (nI m) co ch sp ++ R), e)) (.inl (some (.int (fs1 (fun o => Nat.beq (rng (rng R0 (ps r)) (ps o)) R0) n 0))), (cc A c1 c2 c3 c4 c5 c6 c7 c8 ++ (mm B th (nI n) (nI m) co ch sp ++ R), e)) := by
  repeat (first
    | exact n_undoes_loop hM hr n 0 (by omega)
    | exact go_ret rfl rfl rfl rfl
    | exact go_end rfl rfl rfl rfl
    | refine go_add rfl ?_
    | refine go_mul rfl ?_
    | refine go_sub rfl (by omega) ?_
    | refine go_inc rfl rfl rfl rfl rfl ?_
    | refine go_dec rfl rfl rfl (by omega) rfl rfl ?_
    | refine go_wrth rfl (by omega) ?_
    | refine go_div rfl (by omega) ?_
    | refine go_rem rfl (by omega) ?_
    | refine go_icT rfl (by dsimp only [ncd]; omega) ?_
    | refine go_icF rfl (by dsimp only [ncd]; omega) ?_
    | refine go_ifT rfl (by dsimp only [ncd]; omega) ?_
    | refine go_ifF rfl (by dsimp only [ncd]; omega) ?_
    | refine go_ift rfl (by decide) ?_
    | refine go_s rfl ?_
    )
/-! groups -/
theorem n_gr_in (hM : MR B n ps m len pr) {r k sum : Nat} (hr : r < n) {oo : zOut} :
    ∀ (q a s : Nat), a < 6 → s < 64 → gmk (dg (ps r)) q a s = true → (∀ a2, Go X (fu + 1) mX4_groups (62, [(0, .ref 36), (1, .int (nI r)), (2, .int (nI (gmw (dg (ps r)) q a s))), (3, .int (nI sum)), (4, .int (nI k)), (5, .int (nI a2))], [], (cc A c1 c2 c3 c4 c5 c6 c7 c8 ++ (mm B th (nI n) (nI m) co ch sp ++ R), e)) oo) → Go X (fu + 1) mX4_groups (34, [(0, .ref 36), (1, .int (nI r)), (2, .int (nI s)), (3, .int (nI sum)), (4, .int (nI k)), (5, .int (nI a))], [], (cc A c1 c2 c3 c4 c5 c6 c7 c8 ++ (mm B th (nI n) (nI m) co ch sp ++ R), e)) oo := by
  have hn := hM.1
  intro q
  induction q with
  | zero =>
    intro a s ha hs hk K
    have h1 : tb s a ≠ 0 := of_decide_eq_true hk
    have h2 : (s >>> a) % 2 ≠ 0 := h1
    have h3 : s >>> a ≤ s := by rw [Nat.shiftRight_eq_div_pow]; exact Nat.div_le_self _ _
    repeat (first
      | exact K _
      | exact go_ret rfl rfl rfl rfl
      | exact go_end rfl rfl rfl rfl
      | refine go_add rfl ?_
      | refine go_mul rfl ?_
      | refine go_sub rfl (by omega) ?_
      | refine go_inc rfl rfl rfl rfl rfl ?_
      | refine go_dec rfl rfl rfl (by omega) rfl rfl ?_
      | refine go_wrth rfl (by omega) ?_
      | refine go_div rfl (by omega) ?_
      | refine go_rem rfl (by omega) ?_
      | refine go_shr rfl ⟨hs, ha⟩ ?_
      | refine go_and1 rfl (by omega) ?_
      | refine go_icT rfl (by dsimp only [ncd]; omega) ?_
      | refine go_icF rfl (by dsimp only [ncd]; omega) ?_
      | refine go_ifT rfl (by dsimp only [ncd]; omega) ?_
      | refine go_ifF rfl (by dsimp only [ncd]; omega) ?_
      | refine go_ift rfl (by decide) ?_
      | refine go_s rfl ?_
      )
  | succ q ih =>
    intro a s ha hs hk K
    have bl : s ||| 2 ^ a < 64 := Nat.or_lt_two_pow (n := 6) hs (Nat.pow_lt_pow_right (by decide) ha)
    by_cases q1 : tb s a = 0
    · have e2 : gmw (dg (ps r)) (q + 1) a s = gmw (dg (ps r)) q (dg (ps r) a) (s ||| 2 ^ a) := if_pos q1
      have e3 : gmk (dg (ps r)) (q + 1) a s = gmk (dg (ps r)) q (dg (ps r) a) (s ||| 2 ^ a) := if_pos q1
      rw [e2] at K
      rw [e3] at hk
      have K2 := ih _ _ (dg_lt _ _) bl hk K
      have h2 : (s >>> a) % 2 = 0 := q1
      have h3 : s >>> a ≤ s := by rw [Nat.shiftRight_eq_div_pow]; exact Nat.div_le_self _ _
      have G := n_to (X := X) (fu := fu) (e := e) (A := A) (c1 := c1) (c2 := c2) (c3 := c3) (c4 := c4) (c5 := c5) (c6 := c6) (c7 := c7) (c8 := c8) (th := th) (co := co) (ch := ch) (sp := sp) (R := R) hM hr ha
      repeat (first
        | exact K2
        | exact go_ret rfl rfl rfl rfl
        | exact go_end rfl rfl rfl rfl
        | refine go_add rfl ?_
        | refine go_mul rfl ?_
        | refine go_sub rfl (by omega) ?_
        | refine go_inc rfl rfl rfl rfl rfl ?_
        | refine go_dec rfl rfl rfl (by omega) rfl rfl ?_
        | refine go_wrth rfl (by omega) ?_
        | refine go_div rfl (by omega) ?_
        | refine go_rem rfl (by omega) ?_
        | refine go_shr rfl ⟨hs, ha⟩ ?_
        | refine go_and1 rfl (by omega) ?_
        | refine go_shl rfl ha ?_
        | refine go_or rfl ?_
        | refine go_ci rfl rfl rfl rfl rfl G ?_
        | refine go_icT rfl (by dsimp only [ncd]; omega) ?_
        | refine go_icF rfl (by dsimp only [ncd]; omega) ?_
        | refine go_ifT rfl (by dsimp only [ncd]; omega) ?_
        | refine go_ifF rfl (by dsimp only [ncd]; omega) ?_
        | refine go_ift rfl (by decide) ?_
        | refine go_s rfl ?_
        )
    · have e2 : gmw (dg (ps r)) (q + 1) a s = s := if_neg q1
      rw [e2] at K
      have h2 : ¬ (s >>> a) % 2 = 0 := q1
      have h3 : s >>> a ≤ s := by rw [Nat.shiftRight_eq_div_pow]; exact Nat.div_le_self _ _
      repeat (first
        | exact K _
        | exact go_ret rfl rfl rfl rfl
        | exact go_end rfl rfl rfl rfl
        | refine go_add rfl ?_
        | refine go_mul rfl ?_
        | refine go_sub rfl (by omega) ?_
        | refine go_inc rfl rfl rfl rfl rfl ?_
        | refine go_dec rfl rfl rfl (by omega) rfl rfl ?_
        | refine go_wrth rfl (by omega) ?_
        | refine go_div rfl (by omega) ?_
        | refine go_rem rfl (by omega) ?_
        | refine go_shr rfl ⟨hs, ha⟩ ?_
        | refine go_and1 rfl (by omega) ?_
        | refine go_icT rfl (by dsimp only [ncd]; omega) ?_
        | refine go_icF rfl (by dsimp only [ncd]; omega) ?_
        | refine go_ifT rfl (by dsimp only [ncd]; omega) ?_
        | refine go_ifF rfl (by dsimp only [ncd]; omega) ?_
        | refine go_ift rfl (by decide) ?_
        | refine go_s rfl ?_
        )
theorem gmw_lt (g : Nat → Nat) (hg : ∀ k, g k < 6) : ∀ (q a s : Nat), a < 6 → s < 64 → gmw g q a s < 64 := by
  intro q
  induction q with
  | zero => intro a s _ hs; exact hs
  | succ q ih =>
    intro a s ha hs
    rw [gmw]
    split
    · exact ih _ _ (hg a) (Nat.or_lt_two_pow (n := 6) hs (Nat.pow_lt_pow_right (by decide) ha))
    · exact hs
theorem n_gr_loop (hM : MR B n ps m len pr) {r : Nat} (hr : r < n) :
    ∀ (q k s sum : Nat) (L5 : List (Nat × Value)), (L5 = [] ∨ ∃ y : Nat, L5 = [(5, .int (nI y))]) → k + q = 6 → s < 64 → grk (dg (ps r)) q k s = true → Go X (fu + 1) mX4_groups (7, [(0, .ref 36), (1, .int (nI r)), (2, .int (nI s)), (3, .int (nI sum)), (4, .int (nI k))] ++ L5, [], (cc A c1 c2 c3 c4 c5 c6 c7 c8 ++ (mm B th (nI n) (nI m) co ch sp ++ R), e)) (.inl (some (.int (nI (grM (dg (ps r)) q k s sum)))), (cc A c1 c2 c3 c4 c5 c6 c7 c8 ++ (mm B th (nI n) (nI m) co ch sp ++ R), e)) := by
  intro q
  induction q with
  | zero =>
    intro k s sum L5 hL5 hk hs hg
    obtain rfl : k = 6 := by omega
    rcases hL5 with rfl | ⟨y, rfl⟩
    · show Go X (fu + 1) mX4_groups (7, [(0, .ref 36), (1, .int (nI r)), (2, .int (nI s)), (3, .int (nI sum)), (4, .int (nI 6))], [], _) _
      repeat (first
        | exact go_ret rfl rfl rfl rfl
        | exact go_end rfl rfl rfl rfl
        | refine go_add rfl ?_
        | refine go_mul rfl ?_
        | refine go_sub rfl (by omega) ?_
        | refine go_inc rfl rfl rfl rfl rfl ?_
        | refine go_dec rfl rfl rfl (by omega) rfl rfl ?_
        | refine go_wrth rfl (by omega) ?_
        | refine go_div rfl (by omega) ?_
        | refine go_rem rfl (by omega) ?_
        | refine go_icT rfl (by dsimp only [ncd]; omega) ?_
        | refine go_icF rfl (by dsimp only [ncd]; omega) ?_
        | refine go_ifT rfl (by dsimp only [ncd]; omega) ?_
        | refine go_ifF rfl (by dsimp only [ncd]; omega) ?_
        | refine go_ift rfl (by decide) ?_
        | refine go_s rfl ?_
        )
    · show Go X (fu + 1) mX4_groups (7, [(0, .ref 36), (1, .int (nI r)), (2, .int (nI s)), (3, .int (nI sum)), (4, .int (nI 6)), (5, .int (nI y))], [], _) _
      repeat (first
        | exact go_ret rfl rfl rfl rfl
        | exact go_end rfl rfl rfl rfl
        | refine go_add rfl ?_
        | refine go_mul rfl ?_
        | refine go_sub rfl (by omega) ?_
        | refine go_inc rfl rfl rfl rfl rfl ?_
        | refine go_dec rfl rfl rfl (by omega) rfl rfl ?_
        | refine go_wrth rfl (by omega) ?_
        | refine go_div rfl (by omega) ?_
        | refine go_rem rfl (by omega) ?_
        | refine go_icT rfl (by dsimp only [ncd]; omega) ?_
        | refine go_icF rfl (by dsimp only [ncd]; omega) ?_
        | refine go_ifT rfl (by dsimp only [ncd]; omega) ?_
        | refine go_ifF rfl (by dsimp only [ncd]; omega) ?_
        | refine go_ift rfl (by decide) ?_
        | refine go_s rfl ?_
        )
  | succ q ih =>
    intro k s sum L5 hL5 hk hs hg
    have h3 : s >>> k ≤ s := by rw [Nat.shiftRight_eq_div_pow]; exact Nat.div_le_self _ _
    by_cases q1 : tb s k = 1
    · have e2 : grM (dg (ps r)) (q + 1) k s sum = grM (dg (ps r)) q (k + 1) s sum := if_pos q1
      have e3 : grk (dg (ps r)) (q + 1) k s = grk (dg (ps r)) q (k + 1) s := if_pos q1
      rw [e3] at hg
      rw [e2]
      have K := ih (k + 1) s sum L5 hL5 (by omega) hs hg
      have h2 : (s >>> k) % 2 = 1 := q1
      rcases hL5 with rfl | ⟨y, rfl⟩
      · show Go X (fu + 1) mX4_groups (7, [(0, .ref 36), (1, .int (nI r)), (2, .int (nI s)), (3, .int (nI sum)), (4, .int (nI k))], [], _) _
        repeat (first
          | exact K
          | exact go_ret rfl rfl rfl rfl
          | exact go_end rfl rfl rfl rfl
          | refine go_add rfl ?_
          | refine go_mul rfl ?_
          | refine go_sub rfl (by omega) ?_
          | refine go_inc rfl rfl rfl rfl rfl ?_
          | refine go_dec rfl rfl rfl (by omega) rfl rfl ?_
          | refine go_wrth rfl (by omega) ?_
          | refine go_div rfl (by omega) ?_
          | refine go_rem rfl (by omega) ?_
          | refine go_shr rfl ⟨hs, by omega⟩ ?_
          | refine go_and1 rfl (by omega) ?_
          | refine go_icT rfl (by dsimp only [ncd]; omega) ?_
          | refine go_icF rfl (by dsimp only [ncd]; omega) ?_
          | refine go_ifT rfl (by dsimp only [ncd]; omega) ?_
          | refine go_ifF rfl (by dsimp only [ncd]; omega) ?_
          | refine go_ift rfl (by decide) ?_
          | refine go_s rfl ?_
          )
      · show Go X (fu + 1) mX4_groups (7, [(0, .ref 36), (1, .int (nI r)), (2, .int (nI s)), (3, .int (nI sum)), (4, .int (nI k)), (5, .int (nI y))], [], _) _
        repeat (first
          | exact K
          | exact go_ret rfl rfl rfl rfl
          | exact go_end rfl rfl rfl rfl
          | refine go_add rfl ?_
          | refine go_mul rfl ?_
          | refine go_sub rfl (by omega) ?_
          | refine go_inc rfl rfl rfl rfl rfl ?_
          | refine go_dec rfl rfl rfl (by omega) rfl rfl ?_
          | refine go_wrth rfl (by omega) ?_
          | refine go_div rfl (by omega) ?_
          | refine go_rem rfl (by omega) ?_
          | refine go_shr rfl ⟨hs, by omega⟩ ?_
          | refine go_and1 rfl (by omega) ?_
          | refine go_icT rfl (by dsimp only [ncd]; omega) ?_
          | refine go_icF rfl (by dsimp only [ncd]; omega) ?_
          | refine go_ifT rfl (by dsimp only [ncd]; omega) ?_
          | refine go_ifF rfl (by dsimp only [ncd]; omega) ?_
          | refine go_ift rfl (by decide) ?_
          | refine go_s rfl ?_
          )
    · have e2 : grM (dg (ps r)) (q + 1) k s sum = grM (dg (ps r)) q (k + 1) (gmw (dg (ps r)) 7 k s) (sum + 1) := if_neg q1
      have e3 : grk (dg (ps r)) (q + 1) k s = (gmk (dg (ps r)) 7 k s && grk (dg (ps r)) q (k + 1) (gmw (dg (ps r)) 7 k s)) := if_neg q1
      rw [e3, Bool.and_eq_true_iff] at hg
      rw [e2]
      have hl := gmw_lt (dg (ps r)) (dg_lt _) 7 k s (by omega) hs
      have K := fun y => ih (k + 1) (gmw (dg (ps r)) 7 k s) (sum + 1) [(5, .int (nI y))] (Or.inr ⟨y, rfl⟩) (by omega) hl hg.2
      have K2 := n_gr_in (X := X) (fu := fu) (e := e) (A := A) (c1 := c1) (c2 := c2) (c3 := c3) (c4 := c4) (c5 := c5) (c6 := c6) (c7 := c7) (c8 := c8) (th := th) (co := co) (ch := ch) (sp := sp) (R := R) hM (k := k) (sum := sum + 1) (oo := (.inl (some (.int (nI (grM (dg (ps r)) q (k + 1) (gmw (dg (ps r)) 7 k s) (sum + 1))))), (cc A c1 c2 c3 c4 c5 c6 c7 c8 ++ (mm B th (nI n) (nI m) co ch sp ++ R), e))) hr 7 k s (by omega) hs hg.1 (fun a2 => by
        repeat (first
          | exact K _
          | exact go_ret rfl rfl rfl rfl
          | exact go_end rfl rfl rfl rfl
          | refine go_add rfl ?_
          | refine go_mul rfl ?_
          | refine go_sub rfl (by omega) ?_
          | refine go_inc rfl rfl rfl rfl rfl ?_
          | refine go_dec rfl rfl rfl (by omega) rfl rfl ?_
          | refine go_wrth rfl (by omega) ?_
          | refine go_div rfl (by omega) ?_
          | refine go_rem rfl (by omega) ?_
          | refine go_icT rfl (by dsimp only [ncd]; omega) ?_
          | refine go_icF rfl (by dsimp only [ncd]; omega) ?_
          | refine go_ifT rfl (by dsimp only [ncd]; omega) ?_
          | refine go_ifF rfl (by dsimp only [ncd]; omega) ?_
          | refine go_ift rfl (by decide) ?_
          | refine go_s rfl ?_
          ))
      have h2 : ¬ (s >>> k) % 2 = 1 := q1
      rcases hL5 with rfl | ⟨y, rfl⟩
      · show Go X (fu + 1) mX4_groups (7, [(0, .ref 36), (1, .int (nI r)), (2, .int (nI s)), (3, .int (nI sum)), (4, .int (nI k))], [], _) _
        repeat (first
          | exact K2
          | exact go_ret rfl rfl rfl rfl
          | exact go_end rfl rfl rfl rfl
          | refine go_add rfl ?_
          | refine go_mul rfl ?_
          | refine go_sub rfl (by omega) ?_
          | refine go_inc rfl rfl rfl rfl rfl ?_
          | refine go_dec rfl rfl rfl (by omega) rfl rfl ?_
          | refine go_wrth rfl (by omega) ?_
          | refine go_div rfl (by omega) ?_
          | refine go_rem rfl (by omega) ?_
          | refine go_shr rfl ⟨hs, by omega⟩ ?_
          | refine go_and1 rfl (by omega) ?_
          | refine go_icT rfl (by dsimp only [ncd]; omega) ?_
          | refine go_icF rfl (by dsimp only [ncd]; omega) ?_
          | refine go_ifT rfl (by dsimp only [ncd]; omega) ?_
          | refine go_ifF rfl (by dsimp only [ncd]; omega) ?_
          | refine go_ift rfl (by decide) ?_
          | refine go_s rfl ?_
          )
      · show Go X (fu + 1) mX4_groups (7, [(0, .ref 36), (1, .int (nI r)), (2, .int (nI s)), (3, .int (nI sum)), (4, .int (nI k)), (5, .int (nI y))], [], _) _
        repeat (first
          | exact K2
          | exact go_ret rfl rfl rfl rfl
          | exact go_end rfl rfl rfl rfl
          | refine go_add rfl ?_
          | refine go_mul rfl ?_
          | refine go_sub rfl (by omega) ?_
          | refine go_inc rfl rfl rfl rfl rfl ?_
          | refine go_dec rfl rfl rfl (by omega) rfl rfl ?_
          | refine go_wrth rfl (by omega) ?_
          | refine go_div rfl (by omega) ?_
          | refine go_rem rfl (by omega) ?_
          | refine go_shr rfl ⟨hs, by omega⟩ ?_
          | refine go_and1 rfl (by omega) ?_
          | refine go_icT rfl (by dsimp only [ncd]; omega) ?_
          | refine go_icF rfl (by dsimp only [ncd]; omega) ?_
          | refine go_ifT rfl (by dsimp only [ncd]; omega) ?_
          | refine go_ifF rfl (by dsimp only [ncd]; omega) ?_
          | refine go_ift rfl (by decide) ?_
          | refine go_s rfl ?_
          )
theorem n_groups (hM : MR B n ps m len pr) {r : Nat} (hr : r < n) : Go X (fu + 1) mX4_groups (0, [(0, .ref 36), (1, .int (nI r))], [], (cc A c1 c2 c3 c4 c5 c6 c7 c8 ++ (mm B th (nI n) (nI m) co ch sp ++ R), e)) (.inl (some (.int (nI (grC (dg (ps r)))))), (cc A c1 c2 c3 c4 c5 c6 c7 c8 ++ (mm B th (nI n) (nI m) co ch sp ++ R), e)) := by
  have ip := hM.2.2.1 r hr
  rw [gr_M ip]
  repeat (first
    | exact n_gr_loop hM hr 6 0 0 0 [] (Or.inl rfl) (by omega) (by omega) (gr_k ip)
    | exact go_ret rfl rfl rfl rfl
    | exact go_end rfl rfl rfl rfl
    | refine go_add rfl ?_
    | refine go_mul rfl ?_
    | refine go_sub rfl (by omega) ?_
    | refine go_inc rfl rfl rfl rfl rfl ?_
    | refine go_dec rfl rfl rfl (by omega) rfl rfl ?_
    | refine go_wrth rfl (by omega) ?_
    | refine go_div rfl (by omega) ?_
    | refine go_rem rfl (by omega) ?_
    | refine go_icT rfl (by dsimp only [ncd]; omega) ?_
    | refine go_icF rfl (by dsimp only [ncd]; omega) ?_
    | refine go_ifT rfl (by dsimp only [ncd]; omega) ?_
    | refine go_ifF rfl (by dsimp only [ncd]; omega) ?_
    | refine go_ift rfl (by decide) ?_
    | refine go_s rfl ?_
    )
theorem n_at_loop (hM : MR B n ps m len pr) {r w its : Nat} (hr : r < n) {oo : zOut} :
    ∀ (q k acc : Nat), k + q = 6 → Go X (fu + 1) mX4_aboutTold (50, [(0, .ref 36), (1, .int (nI r)), (2, .int (nI w)), (3, .int (nI its)), (4, .int (nI (lp (fun k a => a + if dg (ps r) k = k then 1 else 0) q k acc))), (5, .int (nI 6))], [], (cc A c1 c2 c3 c4 c5 c6 c7 c8 ++ (mm B th (nI n) (nI m) co ch sp ++ R), e)) oo → Go X (fu + 1) mX4_aboutTold (15, [(0, .ref 36), (1, .int (nI r)), (2, .int (nI w)), (3, .int (nI its)), (4, .int (nI acc)), (5, .int (nI k))], [], (cc A c1 c2 c3 c4 c5 c6 c7 c8 ++ (mm B th (nI n) (nI m) co ch sp ++ R), e)) oo := by
  intro q
  induction q with
  | zero =>
    intro k acc hk K
    obtain rfl : k = 6 := by omega
    repeat (first
      | exact K
      | exact go_ret rfl rfl rfl rfl
      | exact go_end rfl rfl rfl rfl
      | refine go_add rfl ?_
      | refine go_mul rfl ?_
      | refine go_sub rfl (by omega) ?_
      | refine go_inc rfl rfl rfl rfl rfl ?_
      | refine go_dec rfl rfl rfl (by omega) rfl rfl ?_
      | refine go_wrth rfl (by omega) ?_
      | refine go_div rfl (by omega) ?_
      | refine go_rem rfl (by omega) ?_
      | refine go_icT rfl (by dsimp only [ncd]; omega) ?_
      | refine go_icF rfl (by dsimp only [ncd]; omega) ?_
      | refine go_ifT rfl (by dsimp only [ncd]; omega) ?_
      | refine go_ifF rfl (by dsimp only [ncd]; omega) ?_
      | refine go_ift rfl (by decide) ?_
      | refine go_s rfl ?_
      )
  | succ q ih =>
    intro k acc hk K
    have h1 := dg_lt (ps r) k
    have K1 := ih (k + 1) (acc + if dg (ps r) k = k then 1 else 0) (by omega) K
    have G := n_to (X := X) (fu := fu) (e := e) (A := A) (c1 := c1) (c2 := c2) (c3 := c3) (c4 := c4) (c5 := c5) (c6 := c6) (c7 := c7) (c8 := c8) (th := th) (co := co) (ch := ch) (sp := sp) (R := R) hM hr (k := k) (by omega)
    by_cases e : dg (ps r) k = k
    · rw [if_pos e] at K1
      repeat (first
        | exact K1
        | exact go_ret rfl rfl rfl rfl
        | exact go_end rfl rfl rfl rfl
        | refine go_add rfl ?_
        | refine go_mul rfl ?_
        | refine go_sub rfl (by omega) ?_
        | refine go_inc rfl rfl rfl rfl rfl ?_
        | refine go_dec rfl rfl rfl (by omega) rfl rfl ?_
        | refine go_wrth rfl (by omega) ?_
        | refine go_div rfl (by omega) ?_
        | refine go_rem rfl (by omega) ?_
        | refine go_ci rfl rfl rfl rfl rfl G ?_
        | refine go_icT rfl (by dsimp only [ncd]; omega) ?_
        | refine go_icF rfl (by dsimp only [ncd]; omega) ?_
        | refine go_ifT rfl (by dsimp only [ncd]; omega) ?_
        | refine go_ifF rfl (by dsimp only [ncd]; omega) ?_
        | refine go_ift rfl (by decide) ?_
        | refine go_s rfl ?_
        )
    · rw [if_neg e] at K1
      repeat (first
        | exact K1
        | exact go_ret rfl rfl rfl rfl
        | exact go_end rfl rfl rfl rfl
        | refine go_add rfl ?_
        | refine go_mul rfl ?_
        | refine go_sub rfl (by omega) ?_
        | refine go_inc rfl rfl rfl rfl rfl ?_
        | refine go_dec rfl rfl rfl (by omega) rfl rfl ?_
        | refine go_wrth rfl (by omega) ?_
        | refine go_div rfl (by omega) ?_
        | refine go_rem rfl (by omega) ?_
        | refine go_ci rfl rfl rfl rfl rfl G ?_
        | refine go_icT rfl (by dsimp only [ncd]; omega) ?_
        | refine go_icF rfl (by dsimp only [ncd]; omega) ?_
        | refine go_ifT rfl (by dsimp only [ncd]; omega) ?_
        | refine go_ifF rfl (by dsimp only [ncd]; omega) ?_
        | refine go_ift rfl (by decide) ?_
        | refine go_s rfl ?_
        )
theorem n_aboutTold {C0 : Nat → Nat → Int32} (hM : MR B n ps m len pr) {r w : Nat} (hr : r < n) (hw : w < 5) : Go X (fu + 3) mX4_aboutTold (0, [(0, .ref 36), (1, .int (nI r)), (2, .int (nI w))], [], (cc A c1 c2 c3 c4 c5 c6 c7 c8 ++ (mm B th (nI n) (nI m) co ch sp ++ R), e)) (.inl (some (.int (fR n ps r w))), (cc A c1 c2 c3 c4 c5 c6 c7 c8 ++ (mm B th (nI n) (nI m) co ch sp ++ R), e)) := by
  have ip := hM.2.2.1 r hr
  have hn := hM.1
  have e0 : rng R0 (ps r) = inv (ps r) := inv_eq _
  have G := n_ringed (X := X) (fu := fu + 1) (e := e) (A := A) (c1 := c1) (c2 := c2) (c3 := c3) (c4 := c4) (c5 := c5) (c6 := c6) (c7 := c7) (c8 := c8) (th := th) (co := co) (ch := ch) (sp := sp) (R := R) hM (c := R0) (row_lt R0_row) hr
  rw [e0] at G
  dsimp only [R0] at G
  have ii := inv_row ip
  have G0 := n_order (X := X) (fu := fu + 1) (h := (cc A c1 c2 c3 c4 c5 c6 c7 c8 ++ (mm B th (nI n) (nI m) co ch sp ++ R), e)) ii
  have G2 := n_odd (X := X) (fu := fu + 1) (h := (cc A c1 c2 c3 c4 c5 c6 c7 c8 ++ (mm B th (nI n) (nI m) co ch sp ++ R), e)) (row_lt ii)
  rw [← od_inv ip] at G2
  have G3 := n_groups (X := X) (fu := fu + 1) (e := e) (A := A) (c1 := c1) (c2 := c2) (c3 := c3) (c4 := c4) (c5 := c5) (c6 := c6) (c7 := c7) (c8 := c8) (th := th) (co := co) (ch := ch) (sp := sp) (R := R) hM hr
  have G4 := n_undoes (X := X) (fu := fu) (e := e) (A := A) (c1 := c1) (c2 := c2) (c3 := c3) (c4 := c4) (c5 := c5) (c6 := c6) (c7 := c7) (c8 := c8) (th := th) (co := co) (ch := ch) (sp := sp) (R := R) hM hr
  have e4 : fs1 (fun o => Nat.beq (rng (rng R0 (ps r)) (ps o)) R0) n 0 = fR n ps r 4 := by
    refine fs1_congr n 0 fun o _ ho => ?_
    have h1 := undo_iff (hM.2.2.1 o (by omega)) ip
    have h2 := al_le (fun k => Nat.beq (dg (ps o) (dg (ps r) k)) k) 6 0
    cases q : Nat.beq (rng (rng R0 (ps r)) (ps o)) R0 with
    | true =>
      rw [h1.mpr (Nat.eq_of_beq_eq_true q)]
      rfl
    | false =>
      have h3 : ¬ al (fun k => Nat.beq (dg (ps o) (dg (ps r) k)) k) 6 0 = 1 := fun z => by
        rw [h1.mp z, Nat.beq_refl] at q
        cases q
      rw [nbeq h3]
  rw [e4] at G4
  have K : Go X (fu + 3) mX4_aboutTold (50, [(0, .ref 36), (1, .int (nI r)), (2, .int (nI w)), (3, .int (nI (inv (ps r)))), (4, .int (nI (leC (dg (ps r))))), (5, .int (nI 6))], [], (cc A c1 c2 c3 c4 c5 c6 c7 c8 ++ (mm B th (nI n) (nI m) co ch sp ++ R), e)) (.inl (some (.int (fR n ps r w))), (cc A c1 c2 c3 c4 c5 c6 c7 c8 ++ (mm B th (nI n) (nI m) co ch sp ++ R), e)) := by
    rcases (show w = 0 ∨ w = 1 ∨ w = 2 ∨ w = 3 ∨ w = 4 by omega) with rfl | rfl | rfl | rfl | rfl
    · repeat (first
      | exact go_ret rfl rfl rfl rfl
      | exact go_end rfl rfl rfl rfl
      | refine go_add rfl ?_
      | refine go_mul rfl ?_
      | refine go_sub rfl (by omega) ?_
      | refine go_inc rfl rfl rfl rfl rfl ?_
      | refine go_dec rfl rfl rfl (by omega) rfl rfl ?_
      | refine go_wrth rfl (by omega) ?_
      | refine go_div rfl (by omega) ?_
      | refine go_rem rfl (by omega) ?_
      | refine go_ci rfl rfl rfl rfl rfl G0 ?_
      | refine go_ci rfl rfl rfl rfl rfl G2 ?_
      | refine go_ci rfl rfl rfl rfl rfl G3 ?_
      | refine go_ci rfl rfl rfl rfl rfl G4 ?_
      | refine go_icT rfl (by dsimp only [ncd]; omega) ?_
      | refine go_icF rfl (by dsimp only [ncd]; omega) ?_
      | refine go_ifT rfl (by dsimp only [ncd]; omega) ?_
      | refine go_ifF rfl (by dsimp only [ncd]; omega) ?_
      | refine go_ift rfl (by decide) ?_
      | refine go_s rfl ?_
      )
    · repeat (first
      | exact go_ret rfl rfl rfl rfl
      | exact go_end rfl rfl rfl rfl
      | refine go_add rfl ?_
      | refine go_mul rfl ?_
      | refine go_sub rfl (by omega) ?_
      | refine go_inc rfl rfl rfl rfl rfl ?_
      | refine go_dec rfl rfl rfl (by omega) rfl rfl ?_
      | refine go_wrth rfl (by omega) ?_
      | refine go_div rfl (by omega) ?_
      | refine go_rem rfl (by omega) ?_
      | refine go_ci rfl rfl rfl rfl rfl G0 ?_
      | refine go_ci rfl rfl rfl rfl rfl G2 ?_
      | refine go_ci rfl rfl rfl rfl rfl G3 ?_
      | refine go_ci rfl rfl rfl rfl rfl G4 ?_
      | refine go_icT rfl (by dsimp only [ncd]; omega) ?_
      | refine go_icF rfl (by dsimp only [ncd]; omega) ?_
      | refine go_ifT rfl (by dsimp only [ncd]; omega) ?_
      | refine go_ifF rfl (by dsimp only [ncd]; omega) ?_
      | refine go_ift rfl (by decide) ?_
      | refine go_s rfl ?_
      )
    · repeat (first
      | exact go_ret rfl rfl rfl rfl
      | exact go_end rfl rfl rfl rfl
      | refine go_add rfl ?_
      | refine go_mul rfl ?_
      | refine go_sub rfl (by omega) ?_
      | refine go_inc rfl rfl rfl rfl rfl ?_
      | refine go_dec rfl rfl rfl (by omega) rfl rfl ?_
      | refine go_wrth rfl (by omega) ?_
      | refine go_div rfl (by omega) ?_
      | refine go_rem rfl (by omega) ?_
      | refine go_ci rfl rfl rfl rfl rfl G0 ?_
      | refine go_ci rfl rfl rfl rfl rfl G2 ?_
      | refine go_ci rfl rfl rfl rfl rfl G3 ?_
      | refine go_ci rfl rfl rfl rfl rfl G4 ?_
      | refine go_icT rfl (by dsimp only [ncd]; omega) ?_
      | refine go_icF rfl (by dsimp only [ncd]; omega) ?_
      | refine go_ifT rfl (by dsimp only [ncd]; omega) ?_
      | refine go_ifF rfl (by dsimp only [ncd]; omega) ?_
      | refine go_ift rfl (by decide) ?_
      | refine go_s rfl ?_
      )
    · repeat (first
      | exact go_ret rfl rfl rfl rfl
      | exact go_end rfl rfl rfl rfl
      | refine go_add rfl ?_
      | refine go_mul rfl ?_
      | refine go_sub rfl (by omega) ?_
      | refine go_inc rfl rfl rfl rfl rfl ?_
      | refine go_dec rfl rfl rfl (by omega) rfl rfl ?_
      | refine go_wrth rfl (by omega) ?_
      | refine go_div rfl (by omega) ?_
      | refine go_rem rfl (by omega) ?_
      | refine go_ci rfl rfl rfl rfl rfl G0 ?_
      | refine go_ci rfl rfl rfl rfl rfl G2 ?_
      | refine go_ci rfl rfl rfl rfl rfl G3 ?_
      | refine go_ci rfl rfl rfl rfl rfl G4 ?_
      | refine go_icT rfl (by dsimp only [ncd]; omega) ?_
      | refine go_icF rfl (by dsimp only [ncd]; omega) ?_
      | refine go_ifT rfl (by dsimp only [ncd]; omega) ?_
      | refine go_ifF rfl (by dsimp only [ncd]; omega) ?_
      | refine go_ift rfl (by decide) ?_
      | refine go_s rfl ?_
      )
    · repeat (first
      | exact go_ret rfl rfl rfl rfl
      | exact go_end rfl rfl rfl rfl
      | refine go_add rfl ?_
      | refine go_mul rfl ?_
      | refine go_sub rfl (by omega) ?_
      | refine go_inc rfl rfl rfl rfl rfl ?_
      | refine go_dec rfl rfl rfl (by omega) rfl rfl ?_
      | refine go_wrth rfl (by omega) ?_
      | refine go_div rfl (by omega) ?_
      | refine go_rem rfl (by omega) ?_
      | refine go_ci rfl rfl rfl rfl rfl G0 ?_
      | refine go_ci rfl rfl rfl rfl rfl G2 ?_
      | refine go_ci rfl rfl rfl rfl rfl G3 ?_
      | refine go_ci rfl rfl rfl rfl rfl G4 ?_
      | refine go_icT rfl (by dsimp only [ncd]; omega) ?_
      | refine go_icF rfl (by dsimp only [ncd]; omega) ?_
      | refine go_ifT rfl (by dsimp only [ncd]; omega) ?_
      | refine go_ifF rfl (by dsimp only [ncd]; omega) ?_
      | refine go_ift rfl (by decide) ?_
      | refine go_s rfl ?_
      )
  have K2 := n_at_loop (X := X) (fu := fu + 2) (e := e) (A := A) (c1 := c1) (c2 := c2) (c3 := c3) (c4 := c4) (c5 := c5) (c6 := c6) (c7 := c7) (c8 := c8) (th := th) (co := co) (ch := ch) (sp := sp) (R := R) hM (w := w) (its := inv (ps r)) hr 6 0 0 (by omega) K
  repeat (first
    | exact K2
    | exact go_ret rfl rfl rfl rfl
    | exact go_end rfl rfl rfl rfl
    | refine go_add rfl ?_
    | refine go_mul rfl ?_
    | refine go_sub rfl (by omega) ?_
    | refine go_inc rfl rfl rfl rfl rfl ?_
    | refine go_dec rfl rfl rfl (by omega) rfl rfl ?_
    | refine go_wrth rfl (by omega) ?_
    | refine go_div rfl (by omega) ?_
    | refine go_rem rfl (by omega) ?_
    | refine go_ci rfl rfl rfl rfl rfl G ?_
    | refine go_icT rfl (by dsimp only [ncd]; omega) ?_
    | refine go_icF rfl (by dsimp only [ncd]; omega) ?_
    | refine go_ifT rfl (by dsimp only [ncd]; omega) ?_
    | refine go_ifF rfl (by dsimp only [ncd]; omega) ?_
    | refine go_ift rfl (by decide) ?_
    | refine go_s rfl ?_
    )
end MCORE
