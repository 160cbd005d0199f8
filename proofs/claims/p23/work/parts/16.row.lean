/-! ===== Row: its methods over any heap ===== -/
theorem cpy_hold {n : Nat} {f g : Nat → Int32} {w : Nat → Nat} (h : hold n f w) : hold n (va_cpy f g 0 0 n) w := by
  intro k hk
  rw [pk_cpy_in (by omega) (by omega)]
  show f (0 + (k - 0)) = _
  rw [Nat.zero_add, Nat.sub_zero]
  exact h k hk
/-- six stores at a row's digits -/
theorem chg_row {f : Nat → Int32} {c p : Nat} (hp : isRow p) : rw6 (upd (upd (upd (upd (upd (upd f (dg p 0) (nI (dg c 0))) (dg p 1) (nI (dg c 1))) (dg p 2) (nI (dg c 2))) (dg p 3) (nI (dg c 3))) (dg p 4) (nI (dg c 4))) (dg p 5) (nI (dg c 5))) (rng c p) := by
  have n : ∀ i j, i < 6 → j < 6 → i ≠ j → dg p i ≠ dg p j := fun i j hi hj hij e => hij (row_inj hp i j hi hj e)
  rw [rng_cmp hp]
  intro k hk
  rw [dg_cmp hk]
  obtain ⟨j, hj, rfl⟩ := row_onto hp hk
  rw [(inv_dg hp hj).1]
  revert j
  refine six ?_ ?_ ?_ ?_ ?_ ?_
  · intro _; rw [pk_un (n 0 5 (by omega) (by omega) (by omega)), pk_un (n 0 4 (by omega) (by omega) (by omega)), pk_un (n 0 3 (by omega) (by omega) (by omega)), pk_un (n 0 2 (by omega) (by omega) (by omega)), pk_un (n 0 1 (by omega) (by omega) (by omega)), pk_us]
  · intro _; rw [pk_un (n 1 5 (by omega) (by omega) (by omega)), pk_un (n 1 4 (by omega) (by omega) (by omega)), pk_un (n 1 3 (by omega) (by omega) (by omega)), pk_un (n 1 2 (by omega) (by omega) (by omega)), pk_us]
  · intro _; rw [pk_un (n 2 5 (by omega) (by omega) (by omega)), pk_un (n 2 4 (by omega) (by omega) (by omega)), pk_un (n 2 3 (by omega) (by omega) (by omega)), pk_us]
  · intro _; rw [pk_un (n 3 5 (by omega) (by omega) (by omega)), pk_un (n 3 4 (by omega) (by omega) (by omega)), pk_us]
  · intro _; rw [pk_un (n 4 5 (by omega) (by omega) (by omega)), pk_us]
  · intro _; rw [pk_us]
theorem six_st {f : Nat → Int32} {v : Nat → Nat} {c : Nat} (hv : ∀ k, k < 6 → v k = dg c k) : rw6 (upd (upd (upd (upd (upd (upd f 0 (nI (v 0))) 1 (nI (v 1))) 2 (nI (v 2))) 3 (nI (v 3))) 4 (nI (v 4))) 5 (nI (v 5))) c := by
  refine six ?_ ?_ ?_ ?_ ?_ ?_
  · exact congrArg nI (hv 0 (by omega))
  · exact congrArg nI (hv 1 (by omega))
  · exact congrArg nI (hv 2 (by omega))
  · exact congrArg nI (hv 3 (by omega))
  · exact congrArg nI (hv 4 (by omega))
  · exact congrArg nI (hv 5 (by omega))
theorem six_ts {f : Nat → Int32} {v : Nat → Nat} {c : Nat} (hv : ∀ k, k < 6 → v k = dg c k) : rw6 (upd (upd (upd (upd (upd (upd f 5 (nI (v 5))) 4 (nI (v 4))) 3 (nI (v 3))) 2 (nI (v 2))) 1 (nI (v 1))) 0 (nI (v 0))) c := by
  refine six ?_ ?_ ?_ ?_ ?_ ?_
  · exact congrArg nI (hv 0 (by omega))
  · exact congrArg nI (hv 1 (by omega))
  · exact congrArg nI (hv 2 (by omega))
  · exact congrArg nI (hv 3 (by omega))
  · exact congrArg nI (hv 4 (by omega))
  · exact congrArg nI (hv 5 (by omega))
section ROW
variable {X : zX} {fu : Nat} {h : zH} {r s b : Nat} {f : Nat → Int32} {c : Nat}
theorem code_loop (hr : h.1[r]? = some (.inr (0, [.ref s, .ref b]))) (hs : h.1[s]? = some (.inl (6, .inl f))) (g : Nat → Nat) (hf : hold 6 f g) :
    ∀ (m k acc : Nat), k + m = 6 → Go X fu mX0_code (4, [(0, .ref r), (1, .int (nI acc)), (2, .int (nI k))], [], h) (.inl (some (.int (nI (lp (fun k a => a * 6 + g k) m k acc)))), h) := by
  intro m
  induction m with
  | zero =>
    intro k acc hk
    repeat (first
      | exact go_ret rfl rfl rfl rfl
      | exact go_end rfl rfl rfl rfl
      | refine go_add rfl ?_
      | refine go_mul rfl ?_
      | refine go_sub rfl (by omega) ?_
      | refine go_inc rfl rfl rfl rfl rfl ?_
      | refine go_dec rfl rfl rfl (by omega) rfl rfl ?_
      | refine go_div rfl (by omega) ?_
      | refine go_rem rfl (by omega) ?_
      | refine go_icT rfl (by dsimp only [ncd]; omega) ?_
      | refine go_icF rfl (by dsimp only [ncd]; omega) ?_
      | refine go_ifT rfl (by dsimp only [ncd]; omega) ?_
      | refine go_ifF rfl (by dsimp only [ncd]; omega) ?_
      | refine go_ift rfl (by decide) ?_
      | refine go_s rfl ?_
      )
  | succ m ih =>
    intro k acc hk
    repeat (first
      | exact ih (k + 1) _ (by omega)
      | exact go_ret rfl rfl rfl rfl
      | exact go_end rfl rfl rfl rfl
      | refine go_add rfl ?_
      | refine go_mul rfl ?_
      | refine go_sub rfl (by omega) ?_
      | refine go_inc rfl rfl rfl rfl rfl ?_
      | refine go_dec rfl rfl rfl (by omega) rfl rfl ?_
      | refine go_ial rfl hs (by first | omega | exact ⟨dg_lt _ _, by omega⟩) (hf _ (by first | omega | exact dg_lt _ _)) ?_
      | refine go_gf rfl hr rfl rfl ?_
      | refine go_div rfl (by omega) ?_
      | refine go_rem rfl (by omega) ?_
      | refine go_icT rfl (by dsimp only [ncd]; omega) ?_
      | refine go_icF rfl (by dsimp only [ncd]; omega) ?_
      | refine go_ifT rfl (by dsimp only [ncd]; omega) ?_
      | refine go_ifF rfl (by dsimp only [ncd]; omega) ?_
      | refine go_ift rfl (by decide) ?_
      | refine go_s rfl ?_
      )
theorem m_code (hr : h.1[r]? = some (.inr (0, [.ref s, .ref b]))) (hs : h.1[s]? = some (.inl (6, .inl f))) (hf : rw6 f c) (hc : c < 46656) : Go X fu mX0_code (0, [(0, .ref r)], [], h) (.inl (some (.int (nI c))), h) := by
  repeat (first
    | refine go_eq (code_loop hr hs (dg c) hf 6 0 0 (by omega)) ?_
    | exact go_ret rfl rfl rfl rfl
    | exact go_end rfl rfl rfl rfl
    | refine go_add rfl ?_
    | refine go_mul rfl ?_
    | refine go_sub rfl (by omega) ?_
    | refine go_inc rfl rfl rfl rfl rfl ?_
    | refine go_dec rfl rfl rfl (by omega) rfl rfl ?_
    | refine go_div rfl (by omega) ?_
    | refine go_rem rfl (by omega) ?_
    | refine go_icT rfl (by dsimp only [ncd]; omega) ?_
    | refine go_icF rfl (by dsimp only [ncd]; omega) ?_
    | refine go_ifT rfl (by dsimp only [ncd]; omega) ?_
    | refine go_ifF rfl (by dsimp only [ncd]; omega) ?_
    | refine go_ift rfl (by decide) ?_
    | refine go_s rfl ?_
    )
  have e : lp (fun k a => a * 6 + dg c k) 6 0 0 = c := by
    have e1 := mk6_dg hc
    simp only [mk6] at e1
    simp only [lp, Nat.reduceAdd]
    omega
  rw [e]
theorem place_loop (hr : h.1[r]? = some (.inr (0, [.ref s, .ref b]))) (hs : h.1[s]? = some (.inl (6, .inl f))) (hf : rw6 f c) (hc : isRow c) {k0 : Nat} (hk0 : k0 < 6) :
    ∀ (m k : Nat), k + m = 5 → k ≤ k0 → Go X fu mX0_placeOf (2, [(0, .ref r), (1, .int (nI (dg c k0))), (2, .int (nI k))], [], h) (.inl (some (.int (nI k0))), h) := by
  have hb := dg_lt c k0
  intro m
  induction m with
  | zero =>
    intro k hk hl
    obtain rfl : k0 = 5 := by omega
    repeat (first
      | exact go_ret rfl rfl rfl rfl
      | exact go_end rfl rfl rfl rfl
      | refine go_add rfl ?_
      | refine go_mul rfl ?_
      | refine go_sub rfl (by omega) ?_
      | refine go_inc rfl rfl rfl rfl rfl ?_
      | refine go_dec rfl rfl rfl (by omega) rfl rfl ?_
      | refine go_div rfl (by omega) ?_
      | refine go_rem rfl (by omega) ?_
      | refine go_icT rfl (by dsimp only [ncd]; omega) ?_
      | refine go_icF rfl (by dsimp only [ncd]; omega) ?_
      | refine go_ifT rfl (by dsimp only [ncd]; omega) ?_
      | refine go_ifF rfl (by dsimp only [ncd]; omega) ?_
      | refine go_ift rfl (by decide) ?_
      | refine go_s rfl ?_
      )
  | succ m ih =>
    intro k hk hl
    have hb2 := dg_lt c k
    by_cases e : k = k0
    · subst e
      repeat (first
        | exact go_ret rfl rfl rfl rfl
        | exact go_end rfl rfl rfl rfl
        | refine go_add rfl ?_
        | refine go_mul rfl ?_
        | refine go_sub rfl (by omega) ?_
        | refine go_inc rfl rfl rfl rfl rfl ?_
        | refine go_dec rfl rfl rfl (by omega) rfl rfl ?_
        | refine go_ial rfl hs (by first | omega | exact ⟨dg_lt _ _, by omega⟩) (hf _ (by first | omega | exact dg_lt _ _)) ?_
        | refine go_gf rfl hr rfl rfl ?_
        | refine go_div rfl (by omega) ?_
        | refine go_rem rfl (by omega) ?_
        | refine go_icT rfl (by dsimp only [ncd]; omega) ?_
        | refine go_icF rfl (by dsimp only [ncd]; omega) ?_
        | refine go_ifT rfl (by dsimp only [ncd]; omega) ?_
        | refine go_ifF rfl (by dsimp only [ncd]; omega) ?_
        | refine go_ift rfl (by decide) ?_
        | refine go_s rfl ?_
        )
    · have e2 : dg c k ≠ dg c k0 := fun q => e (row_inj hc _ _ (by omega) hk0 q)
      repeat (first
        | exact ih (k + 1) (by omega) (by omega)
        | exact go_ret rfl rfl rfl rfl
        | exact go_end rfl rfl rfl rfl
        | refine go_add rfl ?_
        | refine go_mul rfl ?_
        | refine go_sub rfl (by omega) ?_
        | refine go_inc rfl rfl rfl rfl rfl ?_
        | refine go_dec rfl rfl rfl (by omega) rfl rfl ?_
        | refine go_ial rfl hs (by first | omega | exact ⟨dg_lt _ _, by omega⟩) (hf _ (by first | omega | exact dg_lt _ _)) ?_
        | refine go_gf rfl hr rfl rfl ?_
        | refine go_div rfl (by omega) ?_
        | refine go_rem rfl (by omega) ?_
        | refine go_icT rfl (by dsimp only [ncd]; omega) ?_
        | refine go_icF rfl (by dsimp only [ncd]; omega) ?_
        | refine go_ifT rfl (by dsimp only [ncd]; omega) ?_
        | refine go_ifF rfl (by dsimp only [ncd]; omega) ?_
        | refine go_ift rfl (by decide) ?_
        | refine go_s rfl ?_
        )
theorem m_placeOf (hr : h.1[r]? = some (.inr (0, [.ref s, .ref b]))) (hs : h.1[s]? = some (.inl (6, .inl f))) (hf : rw6 f c) (hc : isRow c) {v : Nat} (hv : v < 6) : Go X fu mX0_placeOf (0, [(0, .ref r), (1, .int (nI v))], [], h) (.inl (some (.int (nI (dg (inv c) v)))), h) := by
  obtain ⟨k0, hk0, rfl⟩ := row_onto hc hv
  rw [(inv_dg hc hk0).1]
  repeat (first
    | exact place_loop hr hs hf hc hk0 5 0 (by omega) (by omega)
    | exact go_ret rfl rfl rfl rfl
    | exact go_end rfl rfl rfl rfl
    | refine go_add rfl ?_
    | refine go_mul rfl ?_
    | refine go_sub rfl (by omega) ?_
    | refine go_inc rfl rfl rfl rfl rfl ?_
    | refine go_dec rfl rfl rfl (by omega) rfl rfl ?_
    | refine go_div rfl (by omega) ?_
    | refine go_rem rfl (by omega) ?_
    | refine go_icT rfl (by dsimp only [ncd]; omega) ?_
    | refine go_icF rfl (by dsimp only [ncd]; omega) ?_
    | refine go_ifT rfl (by dsimp only [ncd]; omega) ?_
    | refine go_ifF rfl (by dsimp only [ncd]; omega) ?_
    | refine go_ift rfl (by decide) ?_
    | refine go_s rfl ?_
    )
def sbF (g : Nat → Nat) (p b s : Nat) : Nat := s + if g b < g p then 1 else 0
def rkF (g : Nat → Nat) (p a : Nat) : Nat := a * (6 - p) + lp (sbF g p) (5 - p) (p + 1) 0
theorem rank_in (hr : h.1[r]? = some (.inr (0, [.ref s, .ref b]))) (hs : h.1[s]? = some (.inl (6, .inl f))) (g : Nat → Nat) (hf : hold 6 f g) (hg : ∀ k, k < 6 → g k < 6) {p a : Nat} (hp : p < 6) {oo : zOut} :
    ∀ (m k acc : Nat), k + m = 6 → Go X fu mX0_rank (49, [(0, .ref r), (1, .int (nI a)), (2, .int (nI p)), (3, .int (nI (lp (sbF g p) m k acc))), (4, .int (nI 6))], [], h) oo → Go X fu mX0_rank (17, [(0, .ref r), (1, .int (nI a)), (2, .int (nI p)), (3, .int (nI acc)), (4, .int (nI k))], [], h) oo := by
  intro m
  induction m with
  | zero =>
    intro k acc hk K
    obtain rfl : k = 6 := by omega
    repeat (first
      | exact K
      | exact go_ret rfl rfl rfl rfl
      | exact go_end rfl rfl rfl rfl
      | refine go_add rfl ?_
      | refine go_mul rfl ?_
      | refine go_sub rfl (by omega) ?_
      | refine go_inc rfl rfl rfl rfl rfl ?_
      | refine go_dec rfl rfl rfl (by omega) rfl rfl ?_
      | refine go_div rfl (by omega) ?_
      | refine go_rem rfl (by omega) ?_
      | refine go_icT rfl (by dsimp only [ncd]; omega) ?_
      | refine go_icF rfl (by dsimp only [ncd]; omega) ?_
      | refine go_ifT rfl (by dsimp only [ncd]; omega) ?_
      | refine go_ifF rfl (by dsimp only [ncd]; omega) ?_
      | refine go_ift rfl (by decide) ?_
      | refine go_s rfl ?_
      )
  | succ m ih =>
    intro k acc hk K
    have h1 := hg k (by omega)
    have h2 := hg p hp
    have K2 : Go X fu mX0_rank (49, [(0, .ref r), (1, .int (nI a)), (2, .int (nI p)), (3, .int (nI (lp (sbF g p) m (k + 1) (sbF g p k acc)))), (4, .int (nI 6))], [], h) oo := K
    by_cases e : g k < g p
    · have e3 : sbF g p k acc = acc + 1 := by rw [sbF, if_pos e]
      rw [e3] at K2
      repeat (first
        | exact ih (k + 1) _ (by omega) K2
        | exact go_ret rfl rfl rfl rfl
        | exact go_end rfl rfl rfl rfl
        | refine go_add rfl ?_
        | refine go_mul rfl ?_
        | refine go_sub rfl (by omega) ?_
        | refine go_inc rfl rfl rfl rfl rfl ?_
        | refine go_dec rfl rfl rfl (by omega) rfl rfl ?_
        | refine go_ial rfl hs (by first | omega | exact ⟨dg_lt _ _, by omega⟩) (hf _ (by first | omega | exact dg_lt _ _)) ?_
        | refine go_gf rfl hr rfl rfl ?_
        | refine go_div rfl (by omega) ?_
        | refine go_rem rfl (by omega) ?_
        | refine go_icT rfl (by dsimp only [ncd]; omega) ?_
        | refine go_icF rfl (by dsimp only [ncd]; omega) ?_
        | refine go_ifT rfl (by dsimp only [ncd]; omega) ?_
        | refine go_ifF rfl (by dsimp only [ncd]; omega) ?_
        | refine go_ift rfl (by decide) ?_
        | refine go_s rfl ?_
        )
    · have e3 : sbF g p k acc = acc := by rw [sbF, if_neg e]; rfl
      rw [e3] at K2
      repeat (first
        | exact ih (k + 1) _ (by omega) K2
        | exact go_ret rfl rfl rfl rfl
        | exact go_end rfl rfl rfl rfl
        | refine go_add rfl ?_
        | refine go_mul rfl ?_
        | refine go_sub rfl (by omega) ?_
        | refine go_inc rfl rfl rfl rfl rfl ?_
        | refine go_dec rfl rfl rfl (by omega) rfl rfl ?_
        | refine go_ial rfl hs (by first | omega | exact ⟨dg_lt _ _, by omega⟩) (hf _ (by first | omega | exact dg_lt _ _)) ?_
        | refine go_gf rfl hr rfl rfl ?_
        | refine go_div rfl (by omega) ?_
        | refine go_rem rfl (by omega) ?_
        | refine go_icT rfl (by dsimp only [ncd]; omega) ?_
        | refine go_icF rfl (by dsimp only [ncd]; omega) ?_
        | refine go_ifT rfl (by dsimp only [ncd]; omega) ?_
        | refine go_ifF rfl (by dsimp only [ncd]; omega) ?_
        | refine go_ift rfl (by decide) ?_
        | refine go_s rfl ?_
        )
theorem rank_loop (hr : h.1[r]? = some (.inr (0, [.ref s, .ref b]))) (hs : h.1[s]? = some (.inl (6, .inl f))) (g : Nat → Nat) (hf : hold 6 f g) (hg : ∀ k, k < 6 → g k < 6) (L4 : List (Nat × Value)) (hL4 : L4 = [] ∨ L4 = [(4, .int (nI 6))]) :
    ∀ (m k acc : Nat) (L3 : List (Nat × Value)), (L3 = [] ∨ ∃ z : Nat, L3 = [(3, .int (nI z)), (4, .int (nI 6))]) → k + m = 6 → Go X fu mX0_rank (4, [(0, .ref r), (1, .int (nI acc)), (2, .int (nI k))] ++ L3, [], h) (.inl (some (.int (nI (lp (rkF g) m k acc)))), h) := by
  intro m
  induction m with
  | zero =>
    intro k acc L3 hL3 hk
    obtain rfl : k = 6 := by omega
    rcases hL3 with rfl | ⟨z, rfl⟩
    · show Go X fu mX0_rank (4, [(0, .ref r), (1, .int (nI acc)), (2, .int (nI 6))], [], h) _
      repeat (first
        | exact go_ret rfl rfl rfl rfl
        | exact go_end rfl rfl rfl rfl
        | refine go_add rfl ?_
        | refine go_mul rfl ?_
        | refine go_sub rfl (by omega) ?_
        | refine go_inc rfl rfl rfl rfl rfl ?_
        | refine go_dec rfl rfl rfl (by omega) rfl rfl ?_
        | refine go_div rfl (by omega) ?_
        | refine go_rem rfl (by omega) ?_
        | refine go_icT rfl (by dsimp only [ncd]; omega) ?_
        | refine go_icF rfl (by dsimp only [ncd]; omega) ?_
        | refine go_ifT rfl (by dsimp only [ncd]; omega) ?_
        | refine go_ifF rfl (by dsimp only [ncd]; omega) ?_
        | refine go_ift rfl (by decide) ?_
        | refine go_s rfl ?_
        )
    · show Go X fu mX0_rank (4, [(0, .ref r), (1, .int (nI acc)), (2, .int (nI 6)), (3, .int (nI z)), (4, .int (nI 6))], [], h) _
      repeat (first
        | exact go_ret rfl rfl rfl rfl
        | exact go_end rfl rfl rfl rfl
        | refine go_add rfl ?_
        | refine go_mul rfl ?_
        | refine go_sub rfl (by omega) ?_
        | refine go_inc rfl rfl rfl rfl rfl ?_
        | refine go_dec rfl rfl rfl (by omega) rfl rfl ?_
        | refine go_div rfl (by omega) ?_
        | refine go_rem rfl (by omega) ?_
        | refine go_icT rfl (by dsimp only [ncd]; omega) ?_
        | refine go_icF rfl (by dsimp only [ncd]; omega) ?_
        | refine go_ifT rfl (by dsimp only [ncd]; omega) ?_
        | refine go_ifF rfl (by dsimp only [ncd]; omega) ?_
        | refine go_ift rfl (by decide) ?_
        | refine go_s rfl ?_
        )
  | succ m ih =>
    intro k acc L3 hL3 hk
    have K : Go X fu mX0_rank (49, [(0, .ref r), (1, .int (nI acc)), (2, .int (nI k)), (3, .int (nI (lp (sbF g k) (5 - k) (k + 1) 0))), (4, .int (nI 6))], [], h) (.inl (some (.int (nI (lp (rkF g) (m + 1) k acc)))), h) := by
      repeat (first
        | exact ih (k + 1) _ [(3, _), (4, _)] (Or.inr ⟨_, rfl⟩) (by omega)
        | exact go_ret rfl rfl rfl rfl
        | exact go_end rfl rfl rfl rfl
        | refine go_add rfl ?_
        | refine go_mul rfl ?_
        | refine go_sub rfl (by omega) ?_
        | refine go_inc rfl rfl rfl rfl rfl ?_
        | refine go_dec rfl rfl rfl (by omega) rfl rfl ?_
        | refine go_div rfl (by omega) ?_
        | refine go_rem rfl (by omega) ?_
        | refine go_icT rfl (by dsimp only [ncd]; omega) ?_
        | refine go_icF rfl (by dsimp only [ncd]; omega) ?_
        | refine go_ifT rfl (by dsimp only [ncd]; omega) ?_
        | refine go_ifF rfl (by dsimp only [ncd]; omega) ?_
        | refine go_ift rfl (by decide) ?_
        | refine go_s rfl ?_
        )
    rcases hL3 with rfl | ⟨z, rfl⟩
    · show Go X fu mX0_rank (4, [(0, .ref r), (1, .int (nI acc)), (2, .int (nI k))], [], h) _
      repeat (first
        | exact rank_in hr hs g hf hg (by omega) (5 - k) (k + 1) 0 (by omega) K
        | exact go_ret rfl rfl rfl rfl
        | exact go_end rfl rfl rfl rfl
        | refine go_add rfl ?_
        | refine go_mul rfl ?_
        | refine go_sub rfl (by omega) ?_
        | refine go_inc rfl rfl rfl rfl rfl ?_
        | refine go_dec rfl rfl rfl (by omega) rfl rfl ?_
        | refine go_div rfl (by omega) ?_
        | refine go_rem rfl (by omega) ?_
        | refine go_icT rfl (by dsimp only [ncd]; omega) ?_
        | refine go_icF rfl (by dsimp only [ncd]; omega) ?_
        | refine go_ifT rfl (by dsimp only [ncd]; omega) ?_
        | refine go_ifF rfl (by dsimp only [ncd]; omega) ?_
        | refine go_ift rfl (by decide) ?_
        | refine go_s rfl ?_
        )
    · show Go X fu mX0_rank (4, [(0, .ref r), (1, .int (nI acc)), (2, .int (nI k)), (3, .int (nI z)), (4, .int (nI 6))], [], h) _
      repeat (first
        | exact rank_in hr hs g hf hg (by omega) (5 - k) (k + 1) 0 (by omega) K
        | exact go_ret rfl rfl rfl rfl
        | exact go_end rfl rfl rfl rfl
        | refine go_add rfl ?_
        | refine go_mul rfl ?_
        | refine go_sub rfl (by omega) ?_
        | refine go_inc rfl rfl rfl rfl rfl ?_
        | refine go_dec rfl rfl rfl (by omega) rfl rfl ?_
        | refine go_div rfl (by omega) ?_
        | refine go_rem rfl (by omega) ?_
        | refine go_icT rfl (by dsimp only [ncd]; omega) ?_
        | refine go_icF rfl (by dsimp only [ncd]; omega) ?_
        | refine go_ifT rfl (by dsimp only [ncd]; omega) ?_
        | refine go_ifF rfl (by dsimp only [ncd]; omega) ?_
        | refine go_ift rfl (by decide) ?_
        | refine go_s rfl ?_
        )
theorem lp_congr {F G : Nat → Nat → Nat} : ∀ (m k acc : Nat), (∀ j a, k ≤ j → j < k + m → F j a = G j a) → lp F m k acc = lp G m k acc := by
  intro m
  induction m with
  | zero => intro k acc _; rfl
  | succ m ih =>
    intro k acc hh
    show lp F m (k + 1) (F k acc) = lp G m (k + 1) (G k acc)
    rw [hh k acc (by omega) (by omega)]
    exact ih _ _ fun j a h1 h2 => hh j a (by omega) (by omega)
theorem sb_lp (g : Nat → Nat) (p : Nat) : ∀ (m k acc : Nat), lp (sbF g p) m k acc = acc + sbf g p m k := by
  intro m
  induction m with
  | zero => intro k acc; rfl
  | succ m ih =>
    intro k acc
    show lp (sbF g p) m (k + 1) (sbF g p k acc) = acc + ((if g k < g p then 1 else 0) + sbf g p m (k + 1))
    rw [ih, sbF]
    omega
theorem rk_lp (g : Nat → Nat) : ∀ (m k acc : Nat), lp (rkF g) m k acc = rkf g m k acc := by
  intro m
  induction m with
  | zero => intro k acc; rfl
  | succ m ih =>
    intro k acc
    show lp (rkF g) m (k + 1) (rkF g k acc) = rkf g m (k + 1) (acc * (6 - k) + sbf g k (5 - k) (k + 1))
    rw [ih, rkF, sb_lp, Nat.zero_add]
theorem m_rank (hr : h.1[r]? = some (.inr (0, [.ref s, .ref b]))) (hs : h.1[s]? = some (.inl (6, .inl f))) (hf : rw6 f c) : Go X fu mX0_rank (0, [(0, .ref r)], [], h) (.inl (some (.int (nI (rk c)))), h) := by
  have e : rk c = lp (rkF (dg c)) 6 0 0 := (rk_lp _ _ _ _).symm
  rw [e]
  repeat (first
    | exact rank_loop hr hs (dg c) hf (fun k _ => dg_lt _ _) [] (Or.inl rfl) 6 0 0 [] (Or.inl rfl) (by omega)
    | exact go_ret rfl rfl rfl rfl
    | exact go_end rfl rfl rfl rfl
    | refine go_add rfl ?_
    | refine go_mul rfl ?_
    | refine go_sub rfl (by omega) ?_
    | refine go_inc rfl rfl rfl rfl rfl ?_
    | refine go_dec rfl rfl rfl (by omega) rfl rfl ?_
    | refine go_div rfl (by omega) ?_
    | refine go_rem rfl (by omega) ?_
    | refine go_icT rfl (by dsimp only [ncd]; omega) ?_
    | refine go_icF rfl (by dsimp only [ncd]; omega) ?_
    | refine go_ifT rfl (by dsimp only [ncd]; omega) ?_
    | refine go_ifF rfl (by dsimp only [ncd]; omega) ?_
    | refine go_ift rfl (by decide) ?_
    | refine go_s rfl ?_
    )
end ROW
section ROWW
variable {X : zX} {fu e : Nat} {r s b : Nat} {c : Nat}
theorem m_toRounds {f : Nat → Int32} {H : (Nat → Int32) → List zC} (hr : ∀ f, (H f)[r]? = some (.inr (0, [.ref s, .ref b]))) (hs : ∀ f, (H f)[s]? = some (.inl (6, .inl f))) (us : ∀ f g, (H f).set s (.inl (6, .inl g)) = H g) :
    ∃ f2, rw6 f2 R0 ∧ Go X fu mX0_toRounds (0, [(0, .ref r)], [], (H f, e)) (.inl none, (H f2, e)) := by
  refine ⟨_, six_st (f := f) (v := fun k => k) (c := R0) (fun k hk => (R0_dg k hk).symm), ?_⟩
  repeat (first
    | exact go_ret rfl rfl rfl rfl
    | exact go_end rfl rfl rfl rfl
    | refine go_add rfl ?_
    | refine go_mul rfl ?_
    | refine go_sub rfl (by omega) ?_
    | refine go_inc rfl rfl rfl rfl rfl ?_
    | refine go_dec rfl rfl rfl (by omega) rfl rfl ?_
    | refine go_gf rfl (hr _) rfl rfl ?_
    | refine go_iash rfl (hs _) (by first | omega | exact ⟨dg_lt _ _, by omega⟩) (us _ _) ?_
    | refine go_div rfl (by omega) ?_
    | refine go_rem rfl (by omega) ?_
    | refine go_icT rfl (by dsimp only [ncd]; omega) ?_
    | refine go_icF rfl (by dsimp only [ncd]; omega) ?_
    | refine go_ifT rfl (by dsimp only [ncd]; omega) ?_
    | refine go_ifF rfl (by dsimp only [ncd]; omega) ?_
    | refine go_ift rfl (by decide) ?_
    | refine go_s rfl ?_
    )
theorem m_read {f : Nat → Int32} {H : (Nat → Int32) → List zC} (hr : ∀ f, (H f)[r]? = some (.inr (0, [.ref s, .ref b]))) (hs : ∀ f, (H f)[s]? = some (.inl (6, .inl f))) (us : ∀ f g, (H f).set s (.inl (6, .inl g)) = H g) (hc : c < 46656) :
    ∃ f2, rw6 f2 c ∧ Go X fu mX0_read (0, [(0, .ref r), (1, .int (nI c))], [], (H f, e)) (.inl none, (H f2, e)) := by
  have hv : ∀ k, k < 6 → (fun k => match k with | 5 => c % 6 | 4 => c / 6 % 6 | 3 => c / 6 / 6 % 6 | 2 => c / 6 / 6 / 6 % 6 | 1 => c / 6 / 6 / 6 / 6 % 6 | _ => c / 6 / 6 / 6 / 6 / 6 % 6 : Nat → Nat) k = dg c k := by
    refine six ?_ ?_ ?_ ?_ ?_ ?_ <;> simp only [dg, wt] <;> omega
  refine ⟨_, six_ts (f := f) hv, ?_⟩
  repeat (first
    | exact go_ret rfl rfl rfl rfl
    | exact go_end rfl rfl rfl rfl
    | refine go_add rfl ?_
    | refine go_mul rfl ?_
    | refine go_sub rfl (by omega) ?_
    | refine go_inc rfl rfl rfl rfl rfl ?_
    | refine go_dec rfl rfl rfl (by omega) rfl rfl ?_
    | refine go_gf rfl (hr _) rfl rfl ?_
    | refine go_iash rfl (hs _) (by first | omega | exact ⟨dg_lt _ _, by omega⟩) (us _ _) ?_
    | refine go_div rfl (by omega) ?_
    | refine go_rem rfl (by omega) ?_
    | refine go_icT rfl (by dsimp only [ncd]; omega) ?_
    | refine go_icF rfl (by dsimp only [ncd]; omega) ?_
    | refine go_ifT rfl (by dsimp only [ncd]; omega) ?_
    | refine go_ifF rfl (by dsimp only [ncd]; omega) ?_
    | refine go_ift rfl (by decide) ?_
    | refine go_s rfl ?_
    )
section TWO
variable {t p : Nat} {f g : Nat → Int32} {H : (Nat → Int32) → (Nat → Int32) → List zC} {tt : Nat → Int32}
theorem m_change (hr : ∀ f g, (H f g)[r]? = some (.inr (0, [.ref s, .ref b]))) (hs : ∀ f g, (H f g)[s]? = some (.inl (6, .inl f))) (hb : ∀ f g, (H f g)[b]? = some (.inl (6, .inl g))) (ht : ∀ f g, (H f g)[t]? = some (.inl (6, .inl tt)))
    (us : ∀ f g x, (H f g).set s (.inl (6, .inl x)) = H x g) (ub : ∀ f g x, (H f g).set b (.inl (6, .inl x)) = H f x) (hf : rw6 f c) (hp : rw6 tt p) (ip : isRow p) :
    ∃ f2 g2, rw6 f2 (rng c p) ∧ Go X (fu + 1) mX0_change (0, [(0, .ref r), (1, .ref t)], [], (H f g, e)) (.inl none, (H f2 g2, e)) := by
  have d0 := dg_lt p 0
  have d1 := dg_lt p 1
  have d2 := dg_lt p 2
  have d3 := dg_lt p 3
  have d4 := dg_lt p 4
  have d5 := dg_lt p 5
  have hb2 := cpy_hold (g := g) hf
  refine ⟨_, va_cpy f g 0 0 6, chg_row (f := f) (c := c) ip, ?_⟩
  repeat (first
    | exact go_ret rfl rfl rfl rfl
    | exact go_end rfl rfl rfl rfl
    | refine go_add rfl ?_
    | refine go_mul rfl ?_
    | refine go_sub rfl (by omega) ?_
    | refine go_inc rfl rfl rfl rfl rfl ?_
    | refine go_dec rfl rfl rfl (by omega) rfl rfl ?_
    | refine go_ial rfl (ht _ _) (by first | omega | exact ⟨dg_lt _ _, by omega⟩) (hp _ (by first | omega | exact dg_lt _ _)) ?_
    | refine go_ial rfl (hb _ _) (by first | omega | exact ⟨dg_lt _ _, by omega⟩) (hb2 _ (by first | omega | exact dg_lt _ _)) ?_
    | refine go_gf rfl (hr _ _) rfl rfl ?_
    | refine go_iash rfl (hs _ _) (by first | omega | exact ⟨dg_lt _ _, by omega⟩) (us _ _ _) ?_
    | refine go_div rfl (by omega) ?_
    | refine go_rem rfl (by omega) ?_
    | refine go_acp rfl (hs _ _) (hb _ _) 0 0 (by omega) (by decide) (ub _ _ _) ?_
    | refine go_icT rfl (by dsimp only [ncd]; omega) ?_
    | refine go_icF rfl (by dsimp only [ncd]; omega) ?_
    | refine go_ifT rfl (by dsimp only [ncd]; omega) ?_
    | refine go_ifF rfl (by dsimp only [ncd]; omega) ?_
    | refine go_ift rfl (by decide) ?_
    | refine go_s rfl ?_
    )
theorem m_changeBack (hr : ∀ f g, (H f g)[r]? = some (.inr (0, [.ref s, .ref b]))) (hs : ∀ f g, (H f g)[s]? = some (.inl (6, .inl f))) (hb : ∀ f g, (H f g)[b]? = some (.inl (6, .inl g))) (ht : ∀ f g, (H f g)[t]? = some (.inl (6, .inl tt)))
    (us : ∀ f g x, (H f g).set s (.inl (6, .inl x)) = H x g) (ub : ∀ f g x, (H f g).set b (.inl (6, .inl x)) = H f x) (hf : rw6 f c) (hp : rw6 tt p) :
    ∃ f2 g2, rw6 f2 (cmp c p) ∧ Go X (fu + 1) mX0_changeBack (0, [(0, .ref r), (1, .ref t)], [], (H f g, e)) (.inl none, (H f2 g2, e)) := by
  have d0 := dg_lt p 0
  have d1 := dg_lt p 1
  have d2 := dg_lt p 2
  have d3 := dg_lt p 3
  have d4 := dg_lt p 4
  have d5 := dg_lt p 5
  have hb2 := cpy_hold (g := g) hf
  refine ⟨_, va_cpy f g 0 0 6, six_st (f := f) (v := fun k => dg c (dg p k)) (c := cmp c p) (fun k hk => (dg_cmp hk).symm), ?_⟩
  repeat (first
    | exact go_ret rfl rfl rfl rfl
    | exact go_end rfl rfl rfl rfl
    | refine go_add rfl ?_
    | refine go_mul rfl ?_
    | refine go_sub rfl (by omega) ?_
    | refine go_inc rfl rfl rfl rfl rfl ?_
    | refine go_dec rfl rfl rfl (by omega) rfl rfl ?_
    | refine go_ial rfl (ht _ _) (by first | omega | exact ⟨dg_lt _ _, by omega⟩) (hp _ (by first | omega | exact dg_lt _ _)) ?_
    | refine go_ial rfl (hb _ _) (by first | omega | exact ⟨dg_lt _ _, by omega⟩) (hb2 _ (by first | omega | exact dg_lt _ _)) ?_
    | refine go_gf rfl (hr _ _) rfl rfl ?_
    | refine go_iash rfl (hs _ _) (by first | omega | exact ⟨dg_lt _ _, by omega⟩) (us _ _ _) ?_
    | refine go_div rfl (by omega) ?_
    | refine go_rem rfl (by omega) ?_
    | refine go_acp rfl (hs _ _) (hb _ _) 0 0 (by omega) (by decide) (ub _ _ _) ?_
    | refine go_icT rfl (by dsimp only [ncd]; omega) ?_
    | refine go_icF rfl (by dsimp only [ncd]; omega) ?_
    | refine go_ifT rfl (by dsimp only [ncd]; omega) ?_
    | refine go_ifF rfl (by dsimp only [ncd]; omega) ?_
    | refine go_ift rfl (by decide) ?_
    | refine go_s rfl ?_
    )
end TWO
end ROWW
