/-! ===== what the ways' numbers say, as the law compares them ===== -/
theorem lcmp_r (x : Int64) : lg_cmp x x = nI 0 := (lg_cmp_eq x x).mpr rfl
theorem go_lcmp {X : zX} {f : Nat} {d : zMd} {o : zOut} {pc pc0 np a b w : Nat} {L : List (Nat × Value)} {S : List Value} {h : zH} {x : Int64} (h1 : zf (zi d) pc = some (pc0, np, .lcmp, a, b, w)) (K : Go X f d (np, L, .int (nI 0) :: S, h) o) : Go X f d (pc, L, .long x :: .long x :: S, h) o :=
  go_s ((zs1_of h1 rfl).trans (congrArg (fun z => some (np, L, Value.int z :: S, h)) (lcmp_r x))) K
theorem neg_toInt : (-nI 1 : Int32).toInt = -1 := by decide +kernel
theorem nI_toI {k : Nat} (hk : k < 2147483648) : (nI k).toInt = (k : Int) := nI_toInt hk
theorem nlt_neg {k : Nat} (hk : k < 2147483648) : ¬ (nI k : Int32) < -nI 1 := fun h => by
  have h1 := Int32.lt_iff_toInt_lt.mp h
  rw [neg_toInt, nI_toI hk] at h1
  omega
theorem ne_neg {k : Nat} (hk : k < 2147483648) : nI k ≠ -nI 1 := fun h => by
  have h1 := congrArg Int32.toInt h
  rw [neg_toInt, nI_toI hk] at h1
  omega
theorem sub0 : nI 0 - nI 1 = -nI 1 := by decide +kernel
section FACTS
variable {n : Nat} {ps : Nat → Nat}
theorem wl_b (hn : n ≤ 8) (hp : ∀ r, r < n → isRow (ps r)) : (WL n ps).length ≤ 720 ∧ laD (WL n ps) < 720 ∧ suD (WL n ps) < 2147483648 := by
  have h1 := (WL_pos hn hp).2
  have h2 := wl_far hn hp
  have h3 := wl_sum hn hp
  have h4 : laD (WL n ps) * (WL n ps).length ≤ 720 * 720 := Nat.mul_le_mul (by omega) h1
  exact ⟨h1, by omega, by omega⟩
/-- the steps and the next rule to a row -/
theorem ways_1 (hn : n ≤ 8) (hp : ∀ r, r < n → isRow (ps r)) (y : Nat) : ¬ zcq .gt (fwD (lk (WL n ps) y)) (nI (laD (WL n ps))) ∧
    ((¬ zcq .ge (fwD (lk (WL n ps) y)) (nI 1) ∧ ¬ zcq .ge (fwR (lk (WL n ps) y)) 0 ∧ zcq .lt (fwR (lk (WL n ps) y)) 0) ∨ (zcq .ge (fwD (lk (WL n ps) y)) (nI 1) ∧ zcq .ge (fwR (lk (WL n ps) y)) 0 ∧ ¬ zcq .lt (fwR (lk (WL n ps) y)) 0 ∧ ∃ q, q < n ∧ fwR (lk (WL n ps) y) = nI q)) := by
  have hb := wl_b hn hp
  cases h : lk (WL n ps) y with
  | none =>
    refine ⟨nlt_neg (by omega), .inl ⟨?_, neg1_ge, neg1_lt⟩⟩
    show ¬ nI 1 ≤ -nI 1
    decide +kernel
  | some k =>
    have hk := wl_le hn hp h
    have e1 : fwD (some k) = nI (k / 8) := rfl
    rw [e1]
    refine ⟨fun q => ?_, ?_⟩
    · have h9 := (ncd_iff .gt (a := k / 8) (b := laD (WL n ps)) (by omega) (by omega)).mp q
      dsimp only [ncd] at h9
      omega
    · by_cases hy : y = R0
      · subst hy
        rw [wl_0 hn hp] at h
        cases h
        refine .inl ⟨fun q => ?_, neg1_ge, neg1_lt⟩
        have h9 := (ncd_iff .ge (a := 0 / 8) (b := 1) (by omega) (by omega)).mp q
        dsimp only [ncd] at h9
        omega
      · obtain ⟨d, e2, -, e3, e4⟩ := wl_fw hn hp h hy
        obtain ⟨k2, rfl⟩ : ∃ k2, k = k2 + 1 := ⟨k - 1, by omega⟩
        have e5 : fwR (some (k2 + 1)) = nI ((k2 + 1) % 8) := rfl
        rw [e5]
        refine .inr ⟨?_, ?_, fun q => ?_, _, e3, rfl⟩
        · refine (ncd_iff .ge (by omega) (by omega)).mpr ?_
          dsimp only [ncd]
          omega
        · refine (ncd_iff .ge (b := 0) (by omega) (by omega)).mpr ?_
          dsimp only [ncd]
          omega
        · have h9 := (ncd_iff .lt (a := (k2 + 1) % 8) (b := 0) (by omega) (by omega)).mp q
          dsimp only [ncd] at h9
          omega
/-- the steps behind a rule -/
theorem ways_2 (hn : n ≤ 8) (hp : ∀ r, r < n → isRow (ps r)) {r y : Nat} (hr : r < n) (hy : isRow y) :
    (¬ zcq .ge (fwD (lk (WL n ps) (cmp (ps r) y))) 0 ∧ zcq .lt (fwD (lk (WL n ps) (cmp (ps r) y))) 0 ∧ ¬ zcq .ge (fwD (lk (WL n ps) y)) 0 ∧ nI r ≠ fwR (lk (WL n ps) y)) ∨
    (zcq .ge (fwD (lk (WL n ps) (cmp (ps r) y))) 0 ∧ ¬ zcq .lt (fwD (lk (WL n ps) (cmp (ps r) y))) 0 ∧ zcq .ge (fwD (lk (WL n ps) y)) 0 ∧ ¬ zcq .lt (fwD (lk (WL n ps) (cmp (ps r) y))) (fwD (lk (WL n ps) y) - nI 1) ∧ (nI r = fwR (lk (WL n ps) y) → fwD (lk (WL n ps) (cmp (ps r) y)) = fwD (lk (WL n ps) y) - nI 1)) := by
  have hb := wl_b hn hp
  cases h : lk (WL n ps) y with
  | none =>
    cases h2 : lk (WL n ps) (cmp (ps r) y) with
    | none => exact .inl ⟨neg1_ge, neg1_lt, neg1_ge, ne_neg (by omega)⟩
    | some k2 =>
      obtain ⟨k, e, -⟩ := step_a hn hp hr hy h2
      rw [h] at e
      cases e
  | some k =>
    have hk := wl_le hn hp h
    obtain ⟨k2, h2⟩ := step_b hn hp hr h
    obtain ⟨k9, e, hle⟩ := step_a hn hp hr hy h2
    rw [h] at e
    cases e
    have hk2 := wl_le hn hp h2
    rw [h2]
    have e1 : fwD (some k) = nI (k / 8) := rfl
    have e2 : fwD (some k2) = nI (k2 / 8) := rfl
    have nn : ∀ j, j < 1000 → zcq .ge (nI j) 0 ∧ ¬ zcq .lt (nI j) 0 := fun j hj => by
      refine ⟨(ncd_iff .ge (b := 0) (by omega) (by omega)).mpr ?_, fun q => ?_⟩
      · dsimp only [ncd]
        omega
      · have h9 := (ncd_iff .lt (a := j) (b := 0) (by omega) (by omega)).mp q
        dsimp only [ncd] at h9
        omega
    rw [e1, e2]
    refine .inr ⟨(nn _ (by omega)).1, (nn _ (by omega)).2, (nn _ (by omega)).1, ?_, fun q => ?_⟩
    · by_cases h0 : k / 8 = 0
      · rw [h0, sub0]
        exact nlt_neg (by omega)
      · rw [pk_sub (by omega)]
        intro q
        have h9 := (ncd_iff .lt (a := k2 / 8) (b := k / 8 - 1) (by omega) (by omega)).mp q
        dsimp only [ncd] at h9
        omega
    · have hy0 : y ≠ R0 := by
        intro e
        subst e
        rw [wl_0 hn hp] at h
        cases h
        exact ne_neg (by omega) q
      obtain ⟨d, f1, f2, f3, f4⟩ := wl_fw hn hp h hy0
      obtain ⟨j, rfl⟩ : ∃ j, k = j + 1 := ⟨k - 1, by omega⟩
      have e5 : fwR (some (j + 1)) = nI ((j + 1) % 8) := rfl
      rw [e5] at q
      have e6 := nI_inj (by omega) (by omega) q
      obtain ⟨k3, h3, h4⟩ := step_c hn hp h hy0
      rw [← e6, h2] at h3
      cases h3
      rw [pk_sub (by omega)]
      congr 1
      omega
theorem ways_3 (hn : n ≤ 8) (hp : ∀ r, r < n → isRow (ps r)) {r : Nat} (hr : r < n) : ∃ k, fwD (lk (WL n ps) (ps r)) = nI k ∧ k ≤ ord (inv (ps r)) - 1 ∧ 0 < ord (inv (ps r)) ∧ ord (inv (ps r)) < 7 := by
  obtain ⟨k, e, h⟩ := step_d hn hp hr
  have h2 := ord_ok (inv_row (hp r hr))
  rw [e]
  exact ⟨k / 8, rfl, h, h2.1, h2.2.1⟩
end FACTS
