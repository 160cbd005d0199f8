/-! ===== rows for the law's instructions ===== -/
def low (x : Int32) : Nat := x.toBitVec.toNat % 2147483648
theorem low_lt (x : Int32) : low x < 2147483648 := Nat.mod_lt _ (by decide)
def blw (x : Int32) (n : Nat) : Nat := low x % n
theorem blw_lt (x : Int32) {n : Nat} (h : 0 < n) : blw x n < n := Nat.mod_lt _ h
theorem and_low (x : Int32) : x &&& nI 2147483647 = nI (low x) := by
  apply Int32.toBitVec_inj.mp
  apply BitVec.eq_of_toNat_eq
  rw [Int32.toBitVec_and, BitVec.toNat_and]
  show x.toBitVec.toNat &&& (2147483647 % 2 ^ 32) = (x.toBitVec.toNat % 2147483648) % 2 ^ 32
  rw [show 2147483647 % 2 ^ 32 = 2 ^ 31 - 1 from rfl, Nat.and_two_pow_sub_one_eq_mod]
  omega
theorem zsz_nil : zsz [] = 0 := rfl
theorem zsz_c (c : zC) (t : List zC) : zsz (c :: t) = zszc c + zsz t := by
  unfold zsz
  rw [List.map_cons, List.sum_cons]
theorem cc_len (A : Nat → Nat → Int32) (c1 c2 c3 c4 c5 c6 c7 c8 : Int32) : (cc A c1 c2 c3 c4 c5 c6 c7 c8).length = 36 := rfl
theorem cc_size (A : Nat → Nat → Int32) (c1 c2 c3 c4 c5 c6 c7 c8 : Int32) : zsz (cc A c1 c2 c3 c4 c5 c6 c7 c8) = 3205 := by
  unfold cc
  simp only [zsz_c, zsz_nil, zszc, zN]
/-- an array of int's arrays -/
abbrev aA (n : Nat) (G : Nat → Option Nat) : zC := .inl (n, .inr (.inr (.inr (.inr G))))
/-- an array of int -/
abbrev aI (n : Nat) (f : Nat → Int32) : zC := .inl (n, .inl f)
section LROWS
variable {X : zX} {f : Nat} {d : zMd} {o : zOut} {pc pc0 np a b w : Nat} {L : List (Nat × Value)} {S : List Value} {h : zH}
theorem go_and31 {x : Int32} (h1 : zf (zi d) pc = some (pc0, np, .iand, a, b, w)) (k : Go X f d (np, L, .int (nI (low x)) :: S, h) o) : Go X f d (pc, L, .int (nI 2147483647) :: .int x :: S, h) o :=
  go_s ((zs1_of h1 rfl).trans (congrArg (fun z => some (np, L, Value.int z :: S, h)) (and_low x))) k
theorem go_scl (h1 : zf (zi d) pc = some (pc0, np, .arraylength, a, b, w)) (K : Go X f d (np, L, .int (nI X.1) :: S, h) o) : Go X f d (pc, L, .retAddr 0 :: S, h) o :=
  go_s ((zs1_of h1 rfl).trans rfl) K
theorem go_isc {j : Nat} {y : Int32} (h1 : zf (zi d) pc = some (pc0, np, .iaload, a, b, w)) (hj : j < X.1 ∧ X.1 < 2147483648) (hv : X.2 j = y) (K : Go X f d (np, L, .int y :: S, h) o) : Go X f d (pc, L, .int (nI j) :: .retAddr 0 :: S, h) o := by
  subst hv
  refine go_s ((zs1_of h1 rfl).trans ?_) K
  show (if zins (nI j) X.1 then some (np, L, Value.int (X.2 (nI j).toNatClampNeg) :: S, h) else none) = _
  rw [if_pos (zin_n hj.1 hj.2), nI_cl (by omega)]
theorem go_alA {k n : Nat} {g : Nat → Option Nat} (h1 : zf (zi d) pc = some (pc0, np, .arraylength, a, b, w)) (hk : h.1[k]? = some (aA n g)) (K : Go X f d (np, L, .int (nI n) :: S, h) o) : Go X f d (pc, L, .ref k :: S, h) o := by
  refine go_s ((zs1_of h1 rfl).trans ?_) K
  show zalen X np L (.ref k :: S) h = _
  unfold zalen
  dsimp only
  rw [hk]
theorem go_aas {k k1 n n1 i e : Nat} {g : Nat → Option Nat} {f1 : Nat → Int32} {H H2 : List zC} (h1 : zf (zi d) pc = some (pc0, np, .aastore, a, b, w)) (hk : H[k]? = some (aA n g)) (hk1 : H[k1]? = some (aI n1 f1)) (hi : i < n ∧ n < 2147483648) (hH : H.set k (aA n (va_up g i (some k1))) = H2) (K : Go X f d (np, L, S, (H2, e)) o) : Go X f d (pc, L, .ref k1 :: .int (nI i) :: .ref k :: S, (H, e)) o := by
  subst hH
  refine go_s ((zs1_of h1 rfl).trans ?_) K
  show zaas np L (.ref k1 :: .int (nI i) :: .ref k :: S) (H, e) = _
  unfold zaas
  dsimp only
  rw [hk, hk1]
  dsimp only
  rw [if_pos (zin_n hi.1 hi.2), nI_cl (by omega)]
theorem go_ana {H H2 : List zC} {idx e k p : Nat} (h1 : zf (zi d) pc = some (pc0, np, .anewarray idx, a, b, w)) (hk : k < 100000) (hl : H.length = p) (hH : H ++ [aA k (fun _ => none)] = H2) (K : Go X f d (np, L, .ref p :: S, (H2, e)) o) : Go X f d (pc, L, .int (nI k) :: S, (H, e)) o := by
  subst hl
  subst hH
  refine go_s ((zs1_of h1 rfl).trans ?_) K
  show (if ¬ nI k < 0 ∧ (nI k).toNatClampNeg * 4 ≤ 536870912 then some (np, L, Value.ref H.length :: S, ((H ++ [aA (nI k).toNatClampNeg (fun _ => none)], e) : zH)) else none) = _
  rw [nI_cl (by omega), if_pos ⟨nI_pos (by omega), by omega⟩]
end LROWS
theorem last_get (H : List zC) (c : zC) {p : Nat} (hp : H.length = p) : (H ++ [c])[p]? = some c := by
  subst hp
  rw [List.getElem?_append_right (Nat.le_refl _), Nat.sub_self]
  rfl
theorem last_set (H : List zC) (c c2 : zC) {p : Nat} (hp : H.length = p) : (H ++ [c]).set p c2 = H ++ [c2] := by
  subst hp
  rw [List.set_append_right _ _ (Nat.le_refl _), Nat.sub_self]
  rfl
/-- two shutters of a row change -/
theorem swp_row {c i j : Nat} (hc : isRow c) (hi : i < 6) (hj : j < 6) {f : Nat → Int32} (hf : rw6 f c) : ∃ c2, isRow c2 ∧ rw6 (upd (upd f i (nI (dg c j))) j (nI (dg c i))) c2 := by
  obtain ⟨s, hs⟩ : ∃ s : Nat → Nat, s = fun k => if k = j then i else if k = i then j else k := ⟨_, rfl⟩
  obtain ⟨g, hg⟩ : ∃ g : Nat → Nat, g = fun k => if k = j then dg c i else if k = i then dg c j else dg c k := ⟨_, rfl⟩
  have gs : ∀ k, g k = dg c (s k) := by
    intro k
    rw [hs, hg]
    dsimp only
    split
    · rfl
    · split <;> rfl
  have s6 : ∀ k, k < 6 → s k < 6 := by
    intro k hk
    rw [hs]
    dsimp only
    split
    · exact hi
    · split
      · exact hj
      · exact hk
  have g6 : ∀ k, k < 6 → g k < 6 := fun k _ => by rw [gs]; exact dg_lt _ _
  refine ⟨mk6 g, row_of_inj (mk6_lt g6) fun x y hx hy e => ?_, ?_⟩
  · rw [dg_mk6 g6 x hx, dg_mk6 g6 y hy, gs, gs] at e
    have e2 := row_inj hc _ _ (s6 x hx) (s6 y hy) e
    rw [hs] at e2
    dsimp only at e2
    repeat' split at e2
    all_goals omega
  · refine hold_congr (hold_upd (hold_upd hf i (dg c j)) j (dg c i)) fun k hk => ?_
    rw [dg_mk6 g6 k hk, hg]
section HELP
variable {X : zX} {fu e : Nat} {h : zH}
theorem l_below {x : Int32} {n : Nat} (hn : 0 < n ∧ n < 2147483648) : Go X fu mL_below (0, [(0, .int x), (1, .int (nI n))], [], h) (.inl (some (.int (nI (blw x n)))), h) := by
  refine go_s rfl ?_
  refine go_s rfl ?_
  refine go_and31 rfl ?_
  refine go_s rfl ?_
  refine go_rem rfl ⟨low_lt x, hn.1, hn.2⟩ ?_
  exact go_ret rfl rfl rfl rfl
def cel (X : zX) (k : Nat) : Int32 := if k < X.1 then X.2 k else nI 790386105 * (nI k + nI 3)
theorem l_cell {k : Nat} (hX : X.1 ≤ 260) (hk : k < 1000) : Go X fu mL_cell (0, [(0, .retAddr 0), (1, .int (nI k))], [], h) (.inl (some (.int (cel X k))), h) := by
  by_cases hk2 : k < X.1
  · have e1 : cel X k = X.2 k := if_pos hk2
    rw [e1]
    refine go_s rfl ?_
    refine go_s rfl ?_
    refine go_scl rfl ?_
    refine go_icF rfl (by dsimp only [ncd]; omega) ?_
    refine go_s rfl ?_
    refine go_s rfl ?_
    refine go_isc rfl (by omega) rfl ?_
    refine go_s rfl ?_
    exact go_ret rfl rfl rfl rfl
  · have e1 : cel X k = nI 790386105 * (nI k + nI 3) := if_neg hk2
    rw [e1]
    refine go_s rfl ?_
    refine go_s rfl ?_
    refine go_scl rfl ?_
    refine go_icT rfl (by dsimp only [ncd]; omega) ?_
    refine go_s rfl ?_
    refine go_s rfl ?_
    refine go_s rfl ?_
    refine go_s rfl ?_
    refine go_s rfl ?_
    exact go_ret rfl rfl rfl rfl
theorem l_code {t c : Nat} {f : Nat → Int32} (ht : h.1[t]? = some (aI 6 f)) (hf : rw6 f c) (hc : c < 46656) : Go X fu mL_code (0, [(0, .ref t)], [], h) (.inl (some (.int (nI c))), h) := by
  have e1 : 6 * (6 * (6 * (6 * (6 * (6 * 0 + dg c 0) + dg c 1) + dg c 2) + dg c 3) + dg c 4) + dg c 5 = c := by
    have e2 := mk6_dg hc
    unfold mk6 at e2
    omega
  refine go_s rfl ?_
  refine go_s rfl ?_
  refine go_s rfl ?_
  refine go_s rfl ?_
  refine go_s rfl ?_
  refine go_alen rfl ht ?_
  refine go_s rfl ?_
  refine go_s rfl ?_
  refine go_s rfl ?_
  refine go_s rfl ?_
  refine go_s rfl ?_
  refine go_icF rfl (by dsimp only [ncd]; omega) ?_
  refine go_s rfl ?_
  refine go_s rfl ?_
  refine go_ial rfl ht (by omega) (hf _ (by omega)) ?_
  refine go_s rfl ?_
  refine go_s rfl ?_
  refine go_s rfl ?_
  refine go_mul rfl ?_
  refine go_s rfl ?_
  refine go_add rfl ?_
  refine go_s rfl ?_
  refine go_inc rfl rfl rfl rfl rfl ?_
  refine go_s rfl ?_
  refine go_s rfl ?_
  refine go_s rfl ?_
  refine go_icF rfl (by dsimp only [ncd]; omega) ?_
  refine go_s rfl ?_
  refine go_s rfl ?_
  refine go_ial rfl ht (by omega) (hf _ (by omega)) ?_
  refine go_s rfl ?_
  refine go_s rfl ?_
  refine go_s rfl ?_
  refine go_mul rfl ?_
  refine go_s rfl ?_
  refine go_add rfl ?_
  refine go_s rfl ?_
  refine go_inc rfl rfl rfl rfl rfl ?_
  refine go_s rfl ?_
  refine go_s rfl ?_
  refine go_s rfl ?_
  refine go_icF rfl (by dsimp only [ncd]; omega) ?_
  refine go_s rfl ?_
  refine go_s rfl ?_
  refine go_ial rfl ht (by omega) (hf _ (by omega)) ?_
  refine go_s rfl ?_
  refine go_s rfl ?_
  refine go_s rfl ?_
  refine go_mul rfl ?_
  refine go_s rfl ?_
  refine go_add rfl ?_
  refine go_s rfl ?_
  refine go_inc rfl rfl rfl rfl rfl ?_
  refine go_s rfl ?_
  refine go_s rfl ?_
  refine go_s rfl ?_
  refine go_icF rfl (by dsimp only [ncd]; omega) ?_
  refine go_s rfl ?_
  refine go_s rfl ?_
  refine go_ial rfl ht (by omega) (hf _ (by omega)) ?_
  refine go_s rfl ?_
  refine go_s rfl ?_
  refine go_s rfl ?_
  refine go_mul rfl ?_
  refine go_s rfl ?_
  refine go_add rfl ?_
  refine go_s rfl ?_
  refine go_inc rfl rfl rfl rfl rfl ?_
  refine go_s rfl ?_
  refine go_s rfl ?_
  refine go_s rfl ?_
  refine go_icF rfl (by dsimp only [ncd]; omega) ?_
  refine go_s rfl ?_
  refine go_s rfl ?_
  refine go_ial rfl ht (by omega) (hf _ (by omega)) ?_
  refine go_s rfl ?_
  refine go_s rfl ?_
  refine go_s rfl ?_
  refine go_mul rfl ?_
  refine go_s rfl ?_
  refine go_add rfl ?_
  refine go_s rfl ?_
  refine go_inc rfl rfl rfl rfl rfl ?_
  refine go_s rfl ?_
  refine go_s rfl ?_
  refine go_s rfl ?_
  refine go_icF rfl (by dsimp only [ncd]; omega) ?_
  refine go_s rfl ?_
  refine go_s rfl ?_
  refine go_ial rfl ht (by omega) (hf _ (by omega)) ?_
  refine go_s rfl ?_
  refine go_s rfl ?_
  refine go_s rfl ?_
  refine go_mul rfl ?_
  refine go_s rfl ?_
  refine go_add rfl ?_
  refine go_s rfl ?_
  refine go_inc rfl rfl rfl rfl rfl ?_
  refine go_s rfl ?_
  refine go_s rfl ?_
  refine go_s rfl ?_
  refine go_icT rfl (by dsimp only [ncd]; omega) ?_
  refine go_s rfl ?_
  exact go_ret rfl rfl rfl (congrArg (fun z => ((.inl (some (.int (nI z))), h) : zOut)) e1.symm)
theorem order_loop {x y : Int32} {H : List zC} : ∀ (k c : Nat) (f : Nat → Int32), k ≤ 5 → isRow c → rw6 f c → ∃ c2 f2, isRow c2 ∧ rw6 f2 c2 ∧ Go X (fu + 1) mL_order (31, [(0, .int x), (1, .int y), (2, .ref H.length), (3, .int (nI k))], [], (H ++ [aI 6 f], e)) (.inl (some (.ref H.length)), (H ++ [aI 6 f2], e)) := by
  intro k
  induction k with
  | zero =>
    intro c f _ hc hf
    refine ⟨c, f, hc, hf, ?_⟩
    refine go_s rfl ?_
    refine go_ifT rfl (by dsimp only [ncd]; omega) ?_
    refine go_s rfl ?_
    exact go_ret rfl rfl rfl rfl
  | succ k ih =>
    intro c f hk hc hf
    have key : ∀ z : Int32, ∃ c2 f2, isRow c2 ∧ rw6 f2 c2 ∧ Go X (fu + 1) mL_order (46, [(0, .int x), (1, .int y), (2, .ref H.length), (3, .int (nI (k + 1)))], [.int z], (H ++ [aI 6 f], e)) (.inl (some (.ref H.length)), (H ++ [aI 6 f2], e)) := by
      intro z
      have ho := blw_lt (z >>> (nI (3 * (k + 1)) &&& 31)) (n := k + 1 + 1) (by omega)
      generalize ho2 : blw (z >>> (nI (3 * (k + 1)) &&& 31)) (k + 1 + 1) = q at ho
      obtain ⟨c3, hc3, hf3⟩ := swp_row (i := k + 1) (j := q) hc (by omega) (by omega) hf
      obtain ⟨c2, f2, j1, j2, G⟩ := ih c3 _ (by omega) hc3 hf3
      refine ⟨c2, f2, j1, j2, ?_⟩
      have B := l_below (X := X) (fu := fu) (h := (H ++ [aI 6 f], e)) (x := z >>> (nI (3 * (k + 1)) &&& 31)) (n := k + 1 + 1) (by omega)
      rw [ho2] at B
      refine go_s rfl ?_
      refine go_s rfl ?_
      refine go_mul rfl ?_
      refine go_s rfl ?_
      refine go_s rfl ?_
      refine go_s rfl ?_
      refine go_add rfl ?_
      refine go_ci rfl rfl rfl rfl rfl B ?_
      refine go_s rfl ?_
      refine go_s rfl ?_
      refine go_s rfl ?_
      refine go_ial rfl (last_get H _ rfl) (by omega) (hf _ (by omega)) ?_
      refine go_s rfl ?_
      refine go_s rfl ?_
      refine go_s rfl ?_
      refine go_s rfl ?_
      refine go_s rfl ?_
      refine go_ial rfl (last_get H _ rfl) (by omega) (hf _ (by omega)) ?_
      refine go_iash rfl (last_get H _ rfl) (by omega) (last_set H _ _ rfl) ?_
      refine go_s rfl ?_
      refine go_s rfl ?_
      refine go_s rfl ?_
      refine go_iash rfl (last_get H _ rfl) (by omega) (last_set H _ _ rfl) ?_
      refine go_dec rfl rfl rfl (by omega) rfl rfl ?_
      refine go_s rfl ?_
      exact G
    by_cases hp : (k + 1) % 2 = 0
    · obtain ⟨c2, f2, j1, j2, G⟩ := key x
      refine ⟨c2, f2, j1, j2, ?_⟩
      refine go_s rfl ?_
      refine go_ifF rfl (by dsimp only [ncd]; omega) ?_
      refine go_s rfl ?_
      refine go_s rfl ?_
      refine go_rem rfl (by omega) ?_
      refine go_ifF rfl (by dsimp only [ncd]; omega) ?_
      refine go_s rfl ?_
      refine go_s rfl ?_
      exact G
    · obtain ⟨c2, f2, j1, j2, G⟩ := key y
      refine ⟨c2, f2, j1, j2, ?_⟩
      refine go_s rfl ?_
      refine go_ifF rfl (by dsimp only [ncd]; omega) ?_
      refine go_s rfl ?_
      refine go_s rfl ?_
      refine go_rem rfl (by omega) ?_
      refine go_ifT rfl (by dsimp only [ncd]; omega) ?_
      refine go_s rfl ?_
      exact G
def f06 : Nat → Int32 := upd (upd (upd (upd (upd (upd (fun _ => 0) 0 (nI 0)) 1 (nI 1)) 2 (nI 2)) 3 (nI 3)) 4 (nI 4)) 5 (nI 5)
theorem f06_row : rw6 f06 R0 := six_st (v := fun k => k) fun k hk => (R0_dg k hk).symm
theorem l_order {x y : Int32} {H : List zC} : ∃ c f, isRow c ∧ rw6 f c ∧ Go X (fu + 1) mL_order (0, [(0, .int x), (1, .int y)], [], (H, e)) (.inl (some (.ref H.length)), (H ++ [aI 6 f], e)) := by
  obtain ⟨c2, f2, j1, j2, G⟩ := order_loop (X := X) (fu := fu) (e := e) (x := x) (y := y) (H := H) 5 R0 f06 (Nat.le_refl _) R0_row f06_row
  refine ⟨c2, f2, j1, j2, ?_⟩
  refine go_s rfl ?_
  refine go_nwaE (p := H.length) rfl (by omega) rfl rfl ?_
  refine go_s rfl ?_
  refine go_s rfl ?_
  refine go_s rfl ?_
  refine go_iash rfl (last_get H _ rfl) (by omega) (last_set H _ _ rfl) ?_
  refine go_s rfl ?_
  refine go_s rfl ?_
  refine go_s rfl ?_
  refine go_iash rfl (last_get H _ rfl) (by omega) (last_set H _ _ rfl) ?_
  refine go_s rfl ?_
  refine go_s rfl ?_
  refine go_s rfl ?_
  refine go_iash rfl (last_get H _ rfl) (by omega) (last_set H _ _ rfl) ?_
  refine go_s rfl ?_
  refine go_s rfl ?_
  refine go_s rfl ?_
  refine go_iash rfl (last_get H _ rfl) (by omega) (last_set H _ _ rfl) ?_
  refine go_s rfl ?_
  refine go_s rfl ?_
  refine go_s rfl ?_
  refine go_iash rfl (last_get H _ rfl) (by omega) (last_set H _ _ rfl) ?_
  refine go_s rfl ?_
  refine go_s rfl ?_
  refine go_s rfl ?_
  refine go_iash rfl (last_get H _ rfl) (by omega) (last_set H _ _ rfl) ?_
  refine go_s rfl ?_
  refine go_s rfl ?_
  refine go_s rfl ?_
  exact G
theorem l_rule {n m : Nat} {A : Nat → Nat → Int32} {ch wf rd mo sm mk : Int32} {R : List zC} {ps len : Nat → Nat} {pr : Nat → Nat → Nat} (hC : CP A n ps m len pr) (hn : n < 8) {p t : Nat} {f : Nat → Int32} (ip : isRow p) (ht : (cc A (nI n) (nI m) ch wf rd mo sm mk ++ R)[t]? = some (aI 6 f)) (hf : rw6 f p) :
    ∃ A2, (∀ k, k ≠ 2 + n → A2 k = A k) ∧ rw6 (A2 (2 + n)) p ∧ Go X (fu + 3) mL_rule (0, [(0, .ref 0), (1, .ref t)], [], (cc A (nI n) (nI m) ch wf rd mo sm mk ++ R, e)) (.inl (some (.int (nI n))), (cc A2 (nI (n + 1)) (nI m) ch (nI 0) rd mo sm mk ++ R, e)) := by
  obtain ⟨A2, k1, x1, G⟩ := m_rule_t (X := X) (fu := fu) (e := e) (ch := ch) (wf := wf) (rd := rd) (mo := mo) (sm := sm) (mk := mk) (R := R) hC hn ip
  refine ⟨A2, k1, x1, ?_⟩
  refine go_s rfl ?_
  refine go_s rfl ?_
  refine go_s rfl ?_
  refine go_ial rfl ht (by omega) (hf 0 (by omega)) ?_
  refine go_s rfl ?_
  refine go_s rfl ?_
  refine go_ial rfl ht (by omega) (hf 1 (by omega)) ?_
  refine go_s rfl ?_
  refine go_s rfl ?_
  refine go_ial rfl ht (by omega) (hf 2 (by omega)) ?_
  refine go_s rfl ?_
  refine go_s rfl ?_
  refine go_ial rfl ht (by omega) (hf 3 (by omega)) ?_
  refine go_s rfl ?_
  refine go_s rfl ?_
  refine go_ial rfl ht (by omega) (hf 4 (by omega)) ?_
  refine go_s rfl ?_
  refine go_s rfl ?_
  refine go_ial rfl ht (by omega) (hf 5 (by omega)) ?_
  refine go_ci rfl rfl rfl rfl rfl G ?_
  exact go_ret rfl rfl rfl rfl
end HELP
