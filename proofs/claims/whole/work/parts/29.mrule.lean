/-! ===== the reference: rule and digest ===== -/
def okS (a : Nat → Int32) : Nat → Nat → Nat → Prop
  | 0, _, _ => True
  | q + 1, k, s => ∃ v, v < 6 ∧ a k = nI v ∧ tb s v = 0 ∧ okS a q (k + 1) (s ||| 2 ^ v)
theorem tb_all : ((List.range 64).all fun s => D6.all fun v => D6.all fun u => Nat.beq (tb (s ||| 2 ^ v) u) (bif Nat.beq u v then 1 else tb s u)) = true := by decide +kernel
theorem tb_or {s v u : Nat} (hs : s < 64) (hv : v < 6) (hu : u < 6) : tb (s ||| 2 ^ v) u = bif Nat.beq u v then 1 else tb s u :=
  Nat.eq_of_beq_eq_true (List.all_eq_true.mp (List.all_eq_true.mp (List.all_eq_true.mp tb_all s (List.mem_range.mpr hs)) v (D6_m hv)) u (D6_m hu))
theorem or_lt {s v : Nat} (hs : s < 64) (hv : v < 6) : s ||| 2 ^ v < 64 := Nat.or_lt_two_pow (n := 6) hs (Nat.pow_lt_pow_right (by decide) hv)
theorem okS_get {a : Nat → Int32} : ∀ (q k s : Nat), s < 64 → okS a q k s → ∃ v : Nat → Nat, ∀ j, k ≤ j → j < k + q → v j < 6 ∧ a j = nI (v j) ∧ tb s (v j) = 0 ∧ ∀ j2, k ≤ j2 → j2 < j → v j2 ≠ v j := by
  intro q
  induction q with
  | zero => intro k s _ _; exact ⟨fun _ => 0, fun j h1 h2 => absurd h2 (by omega)⟩
  | succ q ih =>
    intro k s hs h
    obtain ⟨v0, h1, h2, h3, h4⟩ := h
    obtain ⟨v, hv⟩ := ih (k + 1) (s ||| 2 ^ v0) (or_lt hs h1) h4
    refine ⟨fun j => if j = k then v0 else v j, fun j g1 g2 => ?_⟩
    by_cases e : j = k
    · subst e
      dsimp only
      rw [if_pos rfl]
      exact ⟨h1, h2, h3, fun j2 g3 g4 => absurd g3 (by omega)⟩
    · dsimp only
      rw [if_neg e]
      obtain ⟨w1, w2, w3, w4⟩ := hv j (by omega) (by omega)
      rw [tb_or hs h1 w1] at w3
      have e3 : ¬ v j = v0 := fun q => by
        rw [q, Nat.beq_refl, cond_true] at w3
        exact absurd w3 (by decide)
      rw [nbeq e3] at w3
      refine ⟨w1, w2, w3, fun j2 g3 g4 => ?_⟩
      by_cases e2 : j2 = k
      · rw [if_pos e2]
        exact fun q => e3 q.symm
      · rw [if_neg e2]
        exact w4 j2 (by omega) g4
theorem okS_row {a : Nat → Int32} (h : okS a 6 0 0) : ∃ p, isRow p ∧ ∀ k, k < 6 → a k = nI (dg p k) := by
  obtain ⟨v, hv⟩ := okS_get 6 0 0 (by omega) h
  have h6 : ∀ k, k < 6 → v k < 6 := fun k hk => (hv k (by omega) (by omega)).1
  refine ⟨mk6 v, row_of_inj (mk6_lt h6) fun i j hi hj e => ?_, fun k hk => by rw [dg_mk6 h6 k hk]; exact (hv k (by omega) (by omega)).2.1⟩
  rw [dg_mk6 h6 i hi, dg_mk6 h6 j hj] at e
  by_cases e1 : i < j
  · exact absurd e ((hv j (by omega) (by omega)).2.2.2 i (by omega) e1)
  · by_cases e2 : j < i
    · exact absurd e.symm ((hv i (by omega) (by omega)).2.2.2 j (by omega) e2)
    · omega
theorem row_okS1 {a : Nat → Int32} {p : Nat} (ip : isRow p) (ha : ∀ k, k < 6 → a k = nI (dg p k)) : ∀ (q k s : Nat), k + q = 6 → s < 64 → (∀ j, k ≤ j → j < 6 → tb s (dg p j) = 0) → okS a q k s := by
  intro q
  induction q with
  | zero => intro k s _ _ _; exact trivial
  | succ q ih =>
    intro k s hk hs ht
    refine ⟨dg p k, dg_lt _ _, ha k (by omega), ht k (by omega) (by omega), ih (k + 1) _ (by omega) (or_lt hs (dg_lt _ _)) fun j h1 h2 => ?_⟩
    rw [tb_or hs (dg_lt _ _) (dg_lt _ _), nbeq fun q => by have := row_inj ip _ _ h2 (by omega) q; omega]
    exact ht j (by omega) h2
theorem tb0 : ∀ v, v < 6 → tb 0 v = 0 := six rfl rfl rfl rfl rfl rfl
theorem row_okS {a : Nat → Int32} {p : Nat} (ip : isRow p) (ha : ∀ k, k < 6 → a k = nI (dg p k)) : okS a 6 0 0 := row_okS1 ip ha 6 0 0 (by omega) (by omega) fun j _ h2 => tb0 _ (dg_lt _ _)
theorem place_cases (x : Int32) (n : Nat) (hn : n < 1073741824) : (x < 0 ∨ nI n ≤ x) ∨ ∃ v, v < n ∧ x = nI v := by
  by_cases h1 : x < 0
  · exact .inl (.inl h1)
  · by_cases h2 : nI n ≤ x
    · exact .inl (.inr h2)
    · right
      have h3 : 0 ≤ x.toInt := Int.not_lt.mp fun q => h1 (Int32.lt_iff_toInt_lt.mpr q)
      have h4 : x.toInt < n := Int.not_le.mp fun q => h2 (Int32.le_iff_toInt_le.mpr (by rw [nI_toInt (by omega)]; exact q))
      refine ⟨x.toInt.toNat, by omega, ?_⟩
      apply Int32.toInt_inj.mp
      rw [nI_toInt (by omega)]
      omega
def sx (x0 x1 x2 x3 x4 x5 : Int32) : Nat → Int32 := upd (upd (upd (upd (upd (upd (fun _ => 0) 0 x0) 1 x1) 2 x2) 3 x3) 4 x4) 5 x5
theorem go_ialr2 {X : zX} {f : Nat} {d : zMd} {o : zOut} {pc pc0 np a b w : Nat} {L : List (Nat × Value)} {S : List Value} {h : zH} {k n i : Nat} {g : Nat → Int32} {y : Int32} (h1 : zf (zi d) pc = some (pc0, np, .iaload, a, b, w)) (hk : h.1[k]? = some (.inl (n, .inl g))) (hi : i < n ∧ n < 2147483648) (hv : g i = y) (K : Go X f d (np, L, .int y :: S, h) o) : Go X f d (pc, L, .int (nI i) :: .ref k :: S, h) o := by
  subst hv
  exact go_ialr h1 hk hi K
section MRULE
variable {X : zX} {fu e n m : Nat} {A B : Nat → Nat → Int32} {c1 c2 c3 c4 c5 c6 c7 c8 th ch : Int32} {R : List zC} {ps len : Nat → Nat} {pr : Nat → Nat → Nat} {c : Nat} {l : List (Nat × Nat)}
theorem nr_step {HH : List zC} {f : Nat → Int32} {x0 x1 x2 x3 x4 x5 : Int32} {oo : zOut} {s k v : Nat} (hs : s < 64) (hk : k < 6) (hv : v < 6) (hf : f k = nI v) (h0 : tb s v = 0) {L12 : List (Nat × Value)} (hL : L12 = [] ∨ ∃ z : Nat, L12 = [(12, .int (nI z))])
    (K : Go X (fu + 3) mX4_rule (53, [(0, .ref 36), (1, .int x0), (2, .int x1), (3, .int x2), (4, .int x3), (5, .int x4), (6, .int x5), (7, .ref HH.length), (8, .int (nI (s ||| 2 ^ v))), (9, .ref HH.length), (10, .int (nI 6)), (11, .int (nI (k + 1)))] ++ [(12, .int (nI v))], [], (HH ++ [.inl (6, .inl f)], e)) oo) : Go X (fu + 3) mX4_rule (53, [(0, .ref 36), (1, .int x0), (2, .int x1), (3, .int x2), (4, .int x3), (5, .int x4), (6, .int x5), (7, .ref HH.length), (8, .int (nI s)), (9, .ref HH.length), (10, .int (nI 6)), (11, .int (nI k))] ++ L12, [], (HH ++ [.inl (6, .inl f)], e)) oo := by
  have h1 : (s >>> v) % 2 = 0 := h0
  have h2 : s >>> v < 4294967296 := Nat.lt_of_le_of_lt (Nat.shiftRight_le s v) (by omega)
  rcases hL with rfl | ⟨z, rfl⟩
  · repeat (first
      | exact K
      | exact go_ret rfl rfl rfl rfl
      | exact go_end rfl rfl rfl rfl
      | refine go_add rfl ?_
      | refine go_mul rfl ?_
      | refine go_sub rfl (by omega) ?_
      | refine go_inc rfl rfl rfl rfl rfl ?_
      | refine go_dec rfl rfl rfl (by omega) rfl rfl ?_
      | refine go_wrth rfl (by omega) ?_
      | refine go_ial rfl (app_g _ _) (by first | omega | exact ⟨dg_lt _ _, by omega⟩) (hf) ?_
      | refine go_div rfl (by omega) ?_
      | refine go_rem rfl (by omega) ?_
      | refine go_ci rfl rfl rfl rfl rfl (n_isPlace_t hv) ?_
      | refine go_shr rfl ⟨hs, hv⟩ ?_
      | refine go_and1 rfl h2 ?_
      | refine go_shl rfl hv ?_
      | refine go_or rfl ?_
      | refine go_icT rfl (by dsimp only [ncd]; omega) ?_
      | refine go_icF rfl (by dsimp only [ncd]; omega) ?_
      | refine go_ifT rfl (by dsimp only [ncd]; omega) ?_
      | refine go_ifF rfl (by dsimp only [ncd]; omega) ?_
      | refine go_ift rfl (by decide) ?_
      | refine go_s rfl ?_
      )
  · repeat (first
      | exact K
      | exact go_ret rfl rfl rfl rfl
      | exact go_end rfl rfl rfl rfl
      | refine go_add rfl ?_
      | refine go_mul rfl ?_
      | refine go_sub rfl (by omega) ?_
      | refine go_inc rfl rfl rfl rfl rfl ?_
      | refine go_dec rfl rfl rfl (by omega) rfl rfl ?_
      | refine go_wrth rfl (by omega) ?_
      | refine go_ial rfl (app_g _ _) (by first | omega | exact ⟨dg_lt _ _, by omega⟩) (hf) ?_
      | refine go_div rfl (by omega) ?_
      | refine go_rem rfl (by omega) ?_
      | refine go_ci rfl rfl rfl rfl rfl (n_isPlace_t hv) ?_
      | refine go_shr rfl ⟨hs, hv⟩ ?_
      | refine go_and1 rfl h2 ?_
      | refine go_shl rfl hv ?_
      | refine go_or rfl ?_
      | refine go_icT rfl (by dsimp only [ncd]; omega) ?_
      | refine go_icF rfl (by dsimp only [ncd]; omega) ?_
      | refine go_ifT rfl (by dsimp only [ncd]; omega) ?_
      | refine go_ifF rfl (by dsimp only [ncd]; omega) ?_
      | refine go_ift rfl (by decide) ?_
      | refine go_s rfl ?_
      )
theorem nr_loop {HH : List zC} {f : Nat → Int32} {x0 x1 x2 x3 x4 x5 : Int32} {oo : zOut} :
    ∀ (q k s : Nat) (L12 : List (Nat × Value)), k + q = 6 → s < 64 → okS f q k s → (L12 = [] ∨ ∃ z : Nat, L12 = [(12, .int (nI z))]) → (∀ s2 z, Go X (fu + 3) mX4_rule (107, [(0, .ref 36), (1, .int x0), (2, .int x1), (3, .int x2), (4, .int x3), (5, .int x4), (6, .int x5), (7, .ref HH.length), (8, .int (nI s2)), (9, .ref HH.length), (10, .int (nI 6)), (11, .int (nI 6))] ++ [(12, .int (nI z))], [], (HH ++ [.inl (6, .inl f)], e)) oo) → 0 < q → Go X (fu + 3) mX4_rule (53, [(0, .ref 36), (1, .int x0), (2, .int x1), (3, .int x2), (4, .int x3), (5, .int x4), (6, .int x5), (7, .ref HH.length), (8, .int (nI s)), (9, .ref HH.length), (10, .int (nI 6)), (11, .int (nI k))] ++ L12, [], (HH ++ [.inl (6, .inl f)], e)) oo := by
  intro q
  induction q with
  | zero => intro k s L12 hk hs ho hL K hq; omega
  | succ q ih =>
    intro k s L12 hk hs ho hL K _
    obtain ⟨v, h1, h2, h3, h4⟩ := ho
    refine nr_step hs (by omega) h1 h2 h3 hL ?_
    by_cases hq : q = 0
    · obtain rfl : k = 5 := by omega
      have K1 := K (s ||| 2 ^ v) v
      repeat (first
        | exact K1
        | exact go_ret rfl rfl rfl rfl
        | exact go_end rfl rfl rfl rfl
        | refine go_add rfl ?_
        | refine go_mul rfl ?_
        | refine go_sub rfl (by omega) ?_
        | refine go_inc rfl rfl rfl rfl rfl ?_
        | refine go_dec rfl rfl rfl (by omega) rfl rfl ?_
        | refine go_wrth rfl (by omega) ?_
        | refine go_div rfl (by omega) ?_
        | refine go_rem rfl (by omega) ?_
        | refine go_icT rfl (by dsimp only [ncd]; omega) ?_
        | refine go_icF rfl (by dsimp only [ncd]; omega) ?_
        | refine go_ifT rfl (by dsimp only [ncd]; omega) ?_
        | refine go_ifF rfl (by dsimp only [ncd]; omega) ?_
        | refine go_ift rfl (by decide) ?_
        | refine go_s rfl ?_
        )
    · exact ih (k + 1) _ _ (by omega) (or_lt hs h1) h4 (.inr ⟨v, rfl⟩) K (by omega)
theorem tb_le (s a : Nat) : tb s a = 0 ∨ tb s a = 1 := by
  unfold tb
  omega
theorem nr_bad {f : Nat → Int32} {x0 x1 x2 x3 x4 x5 : Int32} {HH : List zC} (hHH : HH = cc A c1 c2 c3 c4 c5 c6 c7 c8 ++ (mm B (nI 0) (nI n) (nI m) (nI c) ch (nI l.length) ++ R)) :
    ∀ (q k s : Nat) (L12 : List (Nat × Value)), k + q = 6 → s < 64 → ¬ okS f q k s → (L12 = [] ∨ ∃ z : Nat, L12 = [(12, .int (nI z))]) → Go X (fu + 3) mX4_rule (53, [(0, .ref 36), (1, .int x0), (2, .int x1), (3, .int x2), (4, .int x3), (5, .int x4), (6, .int x5), (7, .ref HH.length), (8, .int (nI s)), (9, .ref HH.length), (10, .int (nI 6)), (11, .int (nI k))] ++ L12, [], (HH ++ [.inl (6, .inl f)], e)) (.inl (some (.int (nI 0))), (cc A c1 c2 c3 c4 c5 c6 c7 c8 ++ (mm B (nI 1) (nI n) (nI m) (nI c) ch (nI l.length) ++ (R ++ [.inl (6, .inl f)])), e)) := by
  have eH : HH ++ [.inl (6, .inl f)] = cc A c1 c2 c3 c4 c5 c6 c7 c8 ++ (mm B (nI 0) (nI n) (nI m) (nI c) ch (nI l.length) ++ (R ++ [.inl (6, .inl f)])) := by rw [hHH, List.append_assoc, List.append_assoc]
  have gH : (cc A c1 c2 c3 c4 c5 c6 c7 c8 ++ (mm B (nI 0) (nI n) (nI m) (nI c) ch (nI l.length) ++ (R ++ [.inl (6, .inl f)])))[HH.length]? = some (.inl (6, .inl f)) := by rw [← eH]; exact app_g _ _
  have NO := n_no (X := X) (fu := fu + 2) (e := e) (A := A) (B := B) (c1 := c1) (c2 := c2) (c3 := c3) (c4 := c4) (c5 := c5) (c6 := c6) (c7 := c7) (c8 := c8) (th := nI 0) (n := n) (m := m) (co := nI c) (ch := ch) (sp := nI l.length) (R := R ++ [.inl (6, .inl f)]) (k := 1)
  intro q
  induction q with
  | zero => intro k s L12 hk hs ho hL; exact absurd trivial ho
  | succ q ih =>
    intro k s L12 hk hs ho hL
    rcases place_cases (f k) 6 (by omega) with hb | ⟨v, hv, e1⟩
    · rw [eH]
      generalize hy : f k = y at hb
      rcases hL with rfl | ⟨z, rfl⟩
      · repeat (first
        | (exact go_ci rfl rfl rfl rfl rfl NO (go_ret rfl rfl rfl rfl))
        | refine go_add rfl ?_
        | refine go_ialr2 rfl gH (by omega) hy ?_
        | refine go_ci rfl rfl rfl rfl rfl (n_isPlace_f hb) ?_
        | refine go_icT rfl (by dsimp only [ncd]; omega) ?_
        | refine go_icF rfl (by dsimp only [ncd]; omega) ?_
        | refine go_ifT rfl (by dsimp only [ncd]; omega) ?_
        | refine go_ifF rfl (by dsimp only [ncd]; omega) ?_
        | refine go_s rfl ?_)
      · repeat (first
        | (exact go_ci rfl rfl rfl rfl rfl NO (go_ret rfl rfl rfl rfl))
        | refine go_add rfl ?_
        | refine go_ialr2 rfl gH (by omega) hy ?_
        | refine go_ci rfl rfl rfl rfl rfl (n_isPlace_f hb) ?_
        | refine go_icT rfl (by dsimp only [ncd]; omega) ?_
        | refine go_icF rfl (by dsimp only [ncd]; omega) ?_
        | refine go_ifT rfl (by dsimp only [ncd]; omega) ?_
        | refine go_ifF rfl (by dsimp only [ncd]; omega) ?_
        | refine go_s rfl ?_)
    · rcases tb_le s v with h3 | h3
      · have ho2 : ¬ okS f q (k + 1) (s ||| 2 ^ v) := fun h4 => ho ⟨v, hv, e1, h3, h4⟩
        exact nr_step hs (by omega) hv e1 h3 hL (ih (k + 1) _ _ (by omega) (or_lt hs hv) ho2 (.inr ⟨v, rfl⟩))
      · rw [eH]
        have h1 : (s >>> v) % 2 = 1 := h3
        have h2 : s >>> v < 4294967296 := Nat.lt_of_le_of_lt (Nat.shiftRight_le s v) (by omega)
        rcases hL with rfl | ⟨z, rfl⟩
        · repeat (first
          | (exact go_ci rfl rfl rfl rfl rfl NO (go_ret rfl rfl rfl rfl))
          | refine go_add rfl ?_
          | refine go_ialr2 rfl gH (by omega) e1 ?_
          | refine go_ci rfl rfl rfl rfl rfl (n_isPlace_t hv) ?_
          | refine go_shr rfl ⟨hs, hv⟩ ?_
          | refine go_and1 rfl h2 ?_
          | refine go_icT rfl (by dsimp only [ncd]; omega) ?_
          | refine go_icF rfl (by dsimp only [ncd]; omega) ?_
          | refine go_ifT rfl (by dsimp only [ncd]; omega) ?_
          | refine go_ifF rfl (by dsimp only [ncd]; omega) ?_
          | refine go_s rfl ?_)
        · repeat (first
          | (exact go_ci rfl rfl rfl rfl rfl NO (go_ret rfl rfl rfl rfl))
          | refine go_add rfl ?_
          | refine go_ialr2 rfl gH (by omega) e1 ?_
          | refine go_ci rfl rfl rfl rfl rfl (n_isPlace_t hv) ?_
          | refine go_shr rfl ⟨hs, hv⟩ ?_
          | refine go_and1 rfl h2 ?_
          | refine go_icT rfl (by dsimp only [ncd]; omega) ?_
          | refine go_icF rfl (by dsimp only [ncd]; omega) ?_
          | refine go_ifT rfl (by dsimp only [ncd]; omega) ?_
          | refine go_ifF rfl (by dsimp only [ncd]; omega) ?_
          | refine go_s rfl ?_)
/-- the start: six places are laid down -/
theorem nr_start {x0 x1 x2 x3 x4 x5 : Int32} {HH : List zC} (hHH : HH = cc A c1 c2 c3 c4 c5 c6 c7 c8 ++ (mm B (nI 0) (nI n) (nI m) (nI c) ch (nI l.length) ++ R)) {oo : zOut} (K : Go X (fu + 3) mX4_rule (53, [(0, .ref 36), (1, .int x0), (2, .int x1), (3, .int x2), (4, .int x3), (5, .int x4), (6, .int x5), (7, .ref HH.length), (8, .int (nI 0)), (9, .ref HH.length), (10, .int (nI 6)), (11, .int (nI 0))] ++ [], [], (HH ++ [.inl (6, .inl (sx x0 x1 x2 x3 x4 x5))], e)) oo) : Go X (fu + 3) mX4_rule (0, [(0, .ref 36), (1, .int x0), (2, .int x1), (3, .int x2), (4, .int x3), (5, .int x4), (6, .int x5)], [], (cc A c1 c2 c3 c4 c5 c6 c7 c8 ++ (mm B th (nI n) (nI m) (nI c) ch (nI l.length) ++ R), e)) oo := by
  refine go_s rfl ?_
  refine go_s rfl ?_
  refine go_pf (H2 := cc A c1 c2 c3 c4 c5 c6 c7 c8 ++ (mm B (nI 0) (nI n) (nI m) (nI c) ch (nI l.length) ++ R)) rfl rfl rfl rfl ?_
  rw [← hHH]
  have lenr : ∀ {x : zC}, True := fun {_} => trivial
  have al2 : ∀ (f : Nat → Int32) (L : List (Nat × Value)) (S : List Value) (pc pc0 np a b w : Nat), zf (zi mX4_rule) pc = some (pc0, np, .arraylength, a, b, w) → Go X (fu + 3) mX4_rule (np, L, .int (nI 6) :: S, (HH ++ [.inl (6, .inl f)], e)) oo → Go X (fu + 3) mX4_rule (pc, L, .ref HH.length :: S, (HH ++ [.inl (6, .inl f)], e)) oo := by
    intro f L S pc pc0 np a b w h1 k
    refine go_s ((zs1_of h1 rfl).trans ?_) k
    show zalen X np L (.ref HH.length :: S) (HH ++ [.inl (6, .inl f)], e) = _
    unfold zalen
    dsimp only
    rw [app_g]
  repeat (first
    | exact K
    | refine go_nwa rfl (by omega) ?_
    | refine go_iash rfl (app_g _ _) (by omega) (app_s _ _ _) ?_
    | refine al2 _ _ _ _ _ _ _ _ _ rfl ?_
    | refine go_s rfl ?_)
theorem n_rule_f1 {x0 x1 x2 x3 x4 x5 : Int32} (hx : ¬ okS (sx x0 x1 x2 x3 x4 x5) 6 0 0) : Go X (fu + 3) mX4_rule (0, [(0, .ref 36), (1, .int x0), (2, .int x1), (3, .int x2), (4, .int x3), (5, .int x4), (6, .int x5)], [], (cc A c1 c2 c3 c4 c5 c6 c7 c8 ++ (mm B th (nI n) (nI m) (nI c) ch (nI l.length) ++ R), e)) (.inl (some (.int (nI 0))), (cc A c1 c2 c3 c4 c5 c6 c7 c8 ++ (mm B (nI 1) (nI n) (nI m) (nI c) ch (nI l.length) ++ (R ++ [.inl (6, .inl (sx x0 x1 x2 x3 x4 x5))])), e)) :=
  nr_start rfl (nr_bad rfl 6 0 0 [] (by omega) (by omega) hx (.inl rfl))
theorem n_rule_f2 {x0 x1 x2 x3 x4 x5 : Int32} (hx : okS (sx x0 x1 x2 x3 x4 x5) 6 0 0) : Go X (fu + 3) mX4_rule (0, [(0, .ref 36), (1, .int x0), (2, .int x1), (3, .int x2), (4, .int x3), (5, .int x4), (6, .int x5)], [], (cc A c1 c2 c3 c4 c5 c6 c7 c8 ++ (mm B th (nI 8) (nI m) (nI c) ch (nI l.length) ++ R), e)) (.inl (some (.int (nI 0))), (cc A c1 c2 c3 c4 c5 c6 c7 c8 ++ (mm B (nI 2) (nI 8) (nI m) (nI c) ch (nI l.length) ++ (R ++ [.inl (6, .inl (sx x0 x1 x2 x3 x4 x5))])), e)) := by
  refine nr_start (n := 8) rfl (nr_loop 6 0 0 [] (by omega) (by omega) hx (.inl rfl) (fun s2 z => ?_) (by omega))
  have NO := n_no (X := X) (fu := fu + 2) (e := e) (A := A) (B := B) (c1 := c1) (c2 := c2) (c3 := c3) (c4 := c4) (c5 := c5) (c6 := c6) (c7 := c7) (c8 := c8) (th := nI 0) (n := 8) (m := m) (co := nI c) (ch := ch) (sp := nI l.length) (R := R ++ [.inl (6, .inl (sx x0 x1 x2 x3 x4 x5))]) (k := 2)
  rw [List.append_assoc, List.append_assoc]
  repeat (first
    | exact go_ret rfl rfl rfl rfl
    | exact go_end rfl rfl rfl rfl
    | refine go_add rfl ?_
    | refine go_mul rfl ?_
    | refine go_sub rfl (by omega) ?_
    | refine go_inc rfl rfl rfl rfl rfl ?_
    | refine go_dec rfl rfl rfl (by omega) rfl rfl ?_
    | refine go_wrth rfl (by omega) ?_
    | refine go_div rfl (by omega) ?_
    | refine go_rem rfl (by omega) ?_
    | refine go_ci rfl rfl rfl rfl rfl NO ?_
    | refine go_icT rfl (by dsimp only [ncd]; omega) ?_
    | refine go_icF rfl (by dsimp only [ncd]; omega) ?_
    | refine go_ifT rfl (by dsimp only [ncd]; omega) ?_
    | refine go_ifF rfl (by dsimp only [ncd]; omega) ?_
    | refine go_ift rfl (by decide) ?_
    | refine go_s rfl ?_
    )
theorem n_rule_t (hM : MR B n ps m len pr) (hn : n < 8) {x0 x1 x2 x3 x4 x5 : Int32} {p : Nat} (ip : isRow p) (hp : ∀ k, k < 6 → (sx x0 x1 x2 x3 x4 x5) k = nI (dg p k)) : ∃ B2, B2 40 = B 40 ∧ B2 41 = B 41 ∧ MR B2 (n + 1) (upN ps n p) m len pr ∧ Go X (fu + 3) mX4_rule (0, [(0, .ref 36), (1, .int x0), (2, .int x1), (3, .int x2), (4, .int x3), (5, .int x4), (6, .int x5)], [], (cc A c1 c2 c3 c4 c5 c6 c7 c8 ++ (mm B th (nI n) (nI m) (nI c) ch (nI l.length) ++ R), e)) (.inl (some (.int (nI n))), (cc A c1 c2 c3 c4 c5 c6 c7 c8 ++ (mm B2 (nI 0) (nI (n + 1)) (nI m) (nI c) ch (nI l.length) ++ (R ++ [.inl (6, .inl (sx x0 x1 x2 x3 x4 x5))])), e)) := by
  generalize hg : (sx x0 x1 x2 x3 x4 x5) = g at hp
  refine ⟨aset B 37 (va_cpy g (B 37) 0 (6 * n) 6), aset_n (by omega), aset_n (by omega), ?_, ?_⟩
  · obtain ⟨d1, d2, d3, d4, d5, d6⟩ := hM
    refine ⟨by omega, d2, fun i hi => ?_, fun i hi k hk => ?_, ?_, fun j hj => ?_⟩
    · by_cases e1 : i = n
      · show isRow (if i = n then p else ps i)
        rw [if_pos e1]; exact ip
      · show isRow (if i = n then p else ps i)
        rw [if_neg e1]; exact d3 i (by omega)
    · rw [aset_s]
      show (if 6 * n ≤ 6 * i + k ∧ 6 * i + k < 6 * n + 6 then g (0 + (6 * i + k - 6 * n)) else B 37 (6 * i + k)) = nI (dg (if i = n then p else ps i) k)
      by_cases e1 : i = n
      · rw [if_pos (by omega), if_pos e1, show 0 + (6 * i + k - 6 * n) = k by omega]
        exact hp k hk
      · rw [if_neg (by omega), if_neg e1]
        exact d4 i (by omega) k hk
    · rw [aset_n (by omega)]; exact d5
    · rw [aset_n (by omega)]
      obtain ⟨z1, z2, z3⟩ := d6 j hj
      exact ⟨z1, z2, fun i hi => by have := z3 i hi; omega⟩
  · have ho : okS (sx x0 x1 x2 x3 x4 x5) 6 0 0 := row_okS ip (by rw [hg]; exact hp)
    refine nr_start rfl (nr_loop 6 0 0 [] (by omega) (by omega) ho (.inl rfl) (fun s2 z => ?_) (by omega))
    rw [hg]
    generalize hHH : cc A c1 c2 c3 c4 c5 c6 c7 c8 ++ (mm B (nI 0) (nI n) (nI m) (nI c) ch (nI l.length) ++ R) = HH
    have eH : HH ++ [.inl (6, .inl g)] = cc A c1 c2 c3 c4 c5 c6 c7 c8 ++ (mm B (nI 0) (nI n) (nI m) (nI c) ch (nI l.length) ++ (R ++ [.inl (6, .inl g)])) := by rw [← hHH, List.append_assoc, List.append_assoc]
    have gH : (cc A c1 c2 c3 c4 c5 c6 c7 c8 ++ (mm B (nI 0) (nI n) (nI m) (nI c) ch (nI l.length) ++ (R ++ [.inl (6, .inl g)])))[HH.length]? = some (.inl (6, .inl g)) := by rw [← eH]; exact app_g _ _
    rw [eH]
    repeat (first
      | exact go_ret rfl rfl rfl rfl
      | exact go_end rfl rfl rfl rfl
      | refine go_add rfl ?_
      | refine go_mul rfl ?_
      | refine go_sub rfl (by omega) ?_
      | refine go_inc rfl rfl rfl rfl rfl ?_
      | refine go_dec rfl rfl rfl (by omega) rfl rfl ?_
      | refine go_wrth rfl (by omega) ?_
      | refine go_div rfl (by omega) ?_
      | refine go_rem rfl (by omega) ?_
      | refine go_acp rfl gH rfl 0 (6 * n) (by omega) (by decide) rfl ?_
      | refine go_icT rfl (by dsimp only [ncd]; omega) ?_
      | refine go_icF rfl (by dsimp only [ncd]; omega) ?_
      | refine go_ifT rfl (by dsimp only [ncd]; omega) ?_
      | refine go_ifF rfl (by dsimp only [ncd]; omega) ?_
      | refine go_ift rfl (by decide) ?_
      | refine go_s rfl ?_
      )
end MRULE
section MDIG
variable {X : zX} {fu e n m : Nat} {A B : Nat → Nat → Int32} {c1 c2 c3 c4 c5 c6 c7 c8 th ch : Int32} {R : List zC} {ps len : Nat → Nat} {pr : Nat → Nat → Nat} {c : Nat} {l : List (Nat × Nat)}
theorem zsz_c (x : zC) (t : List zC) : zsz (x :: t) = zszc x + zsz t := by
  unfold zsz
  rw [List.map_cons, List.sum_cons]
theorem dm1_loop (ic : isRow c) :
    ∀ (q k : Nat) (d : Int64) (R : List zC), k + q = 5 → ∃ t, t.length ≤ q ∧ zsz t ≤ 6 * q ∧ ∀ oo, Go X (fu + 5) mX4_digest (35, [(0, .ref 36), (1, .long (lpl (fC n m ch c) q k d)), (3, .int (nI 5))], [], (cc A c1 c2 c3 c4 c5 c6 c7 c8 ++ (mm B (nI 0) (nI n) (nI m) (nI c) ch (nI l.length) ++ (R ++ t)), e)) oo → Go X (fu + 5) mX4_digest (11, [(0, .ref 36), (1, .long d), (3, .int (nI k))], [], (cc A c1 c2 c3 c4 c5 c6 c7 c8 ++ (mm B (nI 0) (nI n) (nI m) (nI c) ch (nI l.length) ++ R), e)) oo := by
  intro q
  induction q with
  | zero =>
    intro k d R hk
    obtain rfl : k = 5 := by omega
    refine ⟨[], Nat.le_refl _, Nat.le_refl _, fun oo K => ?_⟩
    rw [List.append_nil] at K
    repeat (first
      | exact K
      | exact go_ret rfl rfl rfl rfl
      | exact go_end rfl rfl rfl rfl
      | refine go_add rfl ?_
      | refine go_mul rfl ?_
      | refine go_sub rfl (by omega) ?_
      | refine go_inc rfl rfl rfl rfl rfl ?_
      | refine go_dec rfl rfl rfl (by omega) rfl rfl ?_
      | refine go_wrth rfl (by omega) ?_
      | refine go_div rfl (by omega) ?_
      | refine go_rem rfl (by omega) ?_
      | refine go_icT rfl (by dsimp only [ncd]; omega) ?_
      | refine go_icF rfl (by dsimp only [ncd]; omega) ?_
      | refine go_ifT rfl (by dsimp only [ncd]; omega) ?_
      | refine go_ifF rfl (by dsimp only [ncd]; omega) ?_
      | refine go_ift rfl (by decide) ?_
      | refine go_s rfl ?_
      )
  | succ q ih =>
    intro k d R hk
    obtain ⟨f, G⟩ := n_counted (X := X) (fu := fu + 2) (e := e) (A := A) (c1 := c1) (c2 := c2) (c3 := c3) (c4 := c4) (c5 := c5) (c6 := c6) (c7 := c7) (c8 := c8) (th := nI 0) (ch := ch) (sp := nI l.length) (R := R) (n := n) (m := m) (B := B) ic (w := k) (by omega)
    obtain ⟨t, t1, t2, K0⟩ := ih (k + 1) (d * lN 31 + (fC n m ch c k).toInt64) (R ++ [.inl (5, .inl f)]) (by omega)
    refine ⟨.inl (5, .inl f) :: t, by rw [List.length_cons]; omega, by rw [zsz_c]; show 5 + zsz t ≤ _; omega, fun oo K => ?_⟩
    rw [List.append_cons R] at K
    have K1 := K0 oo K
    repeat (first
      | exact K1
      | exact go_ret rfl rfl rfl rfl
      | exact go_end rfl rfl rfl rfl
      | refine go_add rfl ?_
      | refine go_mul rfl ?_
      | refine go_sub rfl (by omega) ?_
      | refine go_inc rfl rfl rfl rfl rfl ?_
      | refine go_dec rfl rfl rfl (by omega) rfl rfl ?_
      | refine go_wrth rfl (by omega) ?_
      | refine go_div rfl (by omega) ?_
      | refine go_rem rfl (by omega) ?_
      | refine go_ci rfl rfl rfl rfl rfl G ?_
      | refine go_icT rfl (by dsimp only [ncd]; omega) ?_
      | refine go_icF rfl (by dsimp only [ncd]; omega) ?_
      | refine go_ifT rfl (by dsimp only [ncd]; omega) ?_
      | refine go_ifF rfl (by dsimp only [ncd]; omega) ?_
      | refine go_ift rfl (by decide) ?_
      | refine go_s rfl ?_
      )
theorem dm2a_loop (hM : MR B n ps m len pr) {r : Nat} (hr : r < n) {oo : zOut} :
    ∀ (q k : Nat) (d : Int64), k + q = 6 → Go X (fu + 5) mX4_digest (76, [(0, .ref 36), (1, .long (lpl (fun k => nI (dg (ps r) k)) q k d)), (3, .int (nI r)), (4, .int (nI 6))], [], (cc A c1 c2 c3 c4 c5 c6 c7 c8 ++ (mm B (nI 0) (nI n) (nI m) (nI c) ch (nI l.length) ++ R), e)) oo → Go X (fu + 5) mX4_digest (48, [(0, .ref 36), (1, .long d), (3, .int (nI r)), (4, .int (nI k))], [], (cc A c1 c2 c3 c4 c5 c6 c7 c8 ++ (mm B (nI 0) (nI n) (nI m) (nI c) ch (nI l.length) ++ R), e)) oo := by
  intro q
  induction q with
  | zero =>
    intro k d hk K
    obtain rfl : k = 6 := by omega
    repeat (first
      | exact K
      | exact go_ret rfl rfl rfl rfl
      | exact go_end rfl rfl rfl rfl
      | refine go_add rfl ?_
      | refine go_mul rfl ?_
      | refine go_sub rfl (by omega) ?_
      | refine go_inc rfl rfl rfl rfl rfl ?_
      | refine go_dec rfl rfl rfl (by omega) rfl rfl ?_
      | refine go_wrth rfl (by omega) ?_
      | refine go_div rfl (by omega) ?_
      | refine go_rem rfl (by omega) ?_
      | refine go_icT rfl (by dsimp only [ncd]; omega) ?_
      | refine go_icF rfl (by dsimp only [ncd]; omega) ?_
      | refine go_ifT rfl (by dsimp only [ncd]; omega) ?_
      | refine go_ifF rfl (by dsimp only [ncd]; omega) ?_
      | refine go_ift rfl (by decide) ?_
      | refine go_s rfl ?_
      )
  | succ q ih =>
    intro k d hk K
    have G := ih (k + 1) _ (by omega) K
    have G2 := n_to (X := X) (fu := fu + 4) (e := e) (A := A) (c1 := c1) (c2 := c2) (c3 := c3) (c4 := c4) (c5 := c5) (c6 := c6) (c7 := c7) (c8 := c8) (th := nI 0) (co := nI c) (ch := ch) (sp := nI l.length) (R := R) hM hr (k := k) (by omega)
    repeat (first
      | exact G
      | exact go_ret rfl rfl rfl rfl
      | exact go_end rfl rfl rfl rfl
      | refine go_add rfl ?_
      | refine go_mul rfl ?_
      | refine go_sub rfl (by omega) ?_
      | refine go_inc rfl rfl rfl rfl rfl ?_
      | refine go_dec rfl rfl rfl (by omega) rfl rfl ?_
      | refine go_wrth rfl (by omega) ?_
      | refine go_div rfl (by omega) ?_
      | refine go_rem rfl (by omega) ?_
      | refine go_ci rfl rfl rfl rfl rfl G2 ?_
      | refine go_icT rfl (by dsimp only [ncd]; omega) ?_
      | refine go_icF rfl (by dsimp only [ncd]; omega) ?_
      | refine go_ifT rfl (by dsimp only [ncd]; omega) ?_
      | refine go_ifF rfl (by dsimp only [ncd]; omega) ?_
      | refine go_ift rfl (by decide) ?_
      | refine go_s rfl ?_
      )
theorem dm2b_loop (hM : MR B n ps m len pr) {r : Nat} (hr : r < n) {oo : zOut} :
    ∀ (q k : Nat) (d : Int64), k + q = 5 → Go X (fu + 5) mX4_digest (106, [(0, .ref 36), (1, .long (lpl (fR n ps r) q k d)), (3, .int (nI r)), (4, .int (nI 5))], [], (cc A c1 c2 c3 c4 c5 c6 c7 c8 ++ (mm B (nI 0) (nI n) (nI m) (nI c) ch (nI l.length) ++ R), e)) oo → Go X (fu + 5) mX4_digest (79, [(0, .ref 36), (1, .long d), (3, .int (nI r)), (4, .int (nI k))], [], (cc A c1 c2 c3 c4 c5 c6 c7 c8 ++ (mm B (nI 0) (nI n) (nI m) (nI c) ch (nI l.length) ++ R), e)) oo := by
  intro q
  induction q with
  | zero =>
    intro k d hk K
    obtain rfl : k = 5 := by omega
    repeat (first
      | exact K
      | exact go_ret rfl rfl rfl rfl
      | exact go_end rfl rfl rfl rfl
      | refine go_add rfl ?_
      | refine go_mul rfl ?_
      | refine go_sub rfl (by omega) ?_
      | refine go_inc rfl rfl rfl rfl rfl ?_
      | refine go_dec rfl rfl rfl (by omega) rfl rfl ?_
      | refine go_wrth rfl (by omega) ?_
      | refine go_div rfl (by omega) ?_
      | refine go_rem rfl (by omega) ?_
      | refine go_icT rfl (by dsimp only [ncd]; omega) ?_
      | refine go_icF rfl (by dsimp only [ncd]; omega) ?_
      | refine go_ifT rfl (by dsimp only [ncd]; omega) ?_
      | refine go_ifF rfl (by dsimp only [ncd]; omega) ?_
      | refine go_ift rfl (by decide) ?_
      | refine go_s rfl ?_
      )
  | succ q ih =>
    intro k d hk K
    have G := ih (k + 1) _ (by omega) K
    have G2 := n_aboutTold (C0 := B) (X := X) (fu := fu + 1) (e := e) (A := A) (c1 := c1) (c2 := c2) (c3 := c3) (c4 := c4) (c5 := c5) (c6 := c6) (c7 := c7) (c8 := c8) (th := nI 0) (co := nI c) (ch := ch) (sp := nI l.length) (R := R) hM hr (w := k) (by omega)
    repeat (first
      | exact G
      | exact go_ret rfl rfl rfl rfl
      | exact go_end rfl rfl rfl rfl
      | refine go_add rfl ?_
      | refine go_mul rfl ?_
      | refine go_sub rfl (by omega) ?_
      | refine go_inc rfl rfl rfl rfl rfl ?_
      | refine go_dec rfl rfl rfl (by omega) rfl rfl ?_
      | refine go_wrth rfl (by omega) ?_
      | refine go_div rfl (by omega) ?_
      | refine go_rem rfl (by omega) ?_
      | refine go_ci rfl rfl rfl rfl rfl G2 ?_
      | refine go_icT rfl (by dsimp only [ncd]; omega) ?_
      | refine go_icF rfl (by dsimp only [ncd]; omega) ?_
      | refine go_ifT rfl (by dsimp only [ncd]; omega) ?_
      | refine go_ifF rfl (by dsimp only [ncd]; omega) ?_
      | refine go_ift rfl (by decide) ?_
      | refine go_s rfl ?_
      )
theorem dm2_loop (hM : MR B n ps m len pr) {oo : zOut} :
    ∀ (q k : Nat) (d : Int64) (L4 : List (Nat × Value)), (L4 = [] ∨ ∃ z : Nat, L4 = [(4, .int (nI z))]) → k + q = n → (∀ L4, (L4 = [] ∨ ∃ z : Nat, L4 = [(4, .int (nI z))]) → Go X (fu + 5) mX4_digest (112, [(0, .ref 36), (1, .long (lpg (dgR n ps) q k d)), (3, .int (nI n))] ++ L4, [], (cc A c1 c2 c3 c4 c5 c6 c7 c8 ++ (mm B (nI 0) (nI n) (nI m) (nI c) ch (nI l.length) ++ R), e)) oo) → Go X (fu + 5) mX4_digest (37, [(0, .ref 36), (1, .long d), (3, .int (nI k))] ++ L4, [], (cc A c1 c2 c3 c4 c5 c6 c7 c8 ++ (mm B (nI 0) (nI n) (nI m) (nI c) ch (nI l.length) ++ R), e)) oo := by
  have hn := hM.1
  intro q
  induction q with
  | zero =>
    intro k d L4 hL hk K0
    obtain rfl : k = n := by omega
    have K := K0 L4 hL
    rcases hL with rfl | ⟨z, rfl⟩
    · repeat (first
        | exact K
        | exact go_ret rfl rfl rfl rfl
        | exact go_end rfl rfl rfl rfl
        | refine go_add rfl ?_
        | refine go_mul rfl ?_
        | refine go_sub rfl (by omega) ?_
        | refine go_inc rfl rfl rfl rfl rfl ?_
        | refine go_dec rfl rfl rfl (by omega) rfl rfl ?_
        | refine go_wrth rfl (by omega) ?_
        | refine go_div rfl (by omega) ?_
        | refine go_rem rfl (by omega) ?_
        | refine go_icT rfl (by dsimp only [ncd]; omega) ?_
        | refine go_icF rfl (by dsimp only [ncd]; omega) ?_
        | refine go_ifT rfl (by dsimp only [ncd]; omega) ?_
        | refine go_ifF rfl (by dsimp only [ncd]; omega) ?_
        | refine go_ift rfl (by decide) ?_
        | refine go_s rfl ?_
        )
    · repeat (first
        | exact K
        | exact go_ret rfl rfl rfl rfl
        | exact go_end rfl rfl rfl rfl
        | refine go_add rfl ?_
        | refine go_mul rfl ?_
        | refine go_sub rfl (by omega) ?_
        | refine go_inc rfl rfl rfl rfl rfl ?_
        | refine go_dec rfl rfl rfl (by omega) rfl rfl ?_
        | refine go_wrth rfl (by omega) ?_
        | refine go_div rfl (by omega) ?_
        | refine go_rem rfl (by omega) ?_
        | refine go_icT rfl (by dsimp only [ncd]; omega) ?_
        | refine go_icF rfl (by dsimp only [ncd]; omega) ?_
        | refine go_ifT rfl (by dsimp only [ncd]; omega) ?_
        | refine go_ifF rfl (by dsimp only [ncd]; omega) ?_
        | refine go_ift rfl (by decide) ?_
        | refine go_s rfl ?_
        )
  | succ q ih =>
    intro k d L4 hL hk K0
    have K := ih (k + 1) (dgR n ps k d) [(4, .int (nI 5))] (.inr ⟨5, rfl⟩) (by omega) K0
    have K2 := dm2b_loop (X := X) (fu := fu) (e := e) (A := A) (c1 := c1) (c2 := c2) (c3 := c3) (c4 := c4) (c5 := c5) (c6 := c6) (c7 := c7) (c8 := c8) (ch := ch) (R := R) (l := l) (c := c) hM (r := k) (by omega) (oo := oo) 5 0 (lpl (fun j => nI (dg (ps k) j)) 6 0 d) (by omega) (by
      repeat (first
        | exact K
        | exact go_ret rfl rfl rfl rfl
        | exact go_end rfl rfl rfl rfl
        | refine go_add rfl ?_
        | refine go_mul rfl ?_
        | refine go_sub rfl (by omega) ?_
        | refine go_inc rfl rfl rfl rfl rfl ?_
        | refine go_dec rfl rfl rfl (by omega) rfl rfl ?_
        | refine go_wrth rfl (by omega) ?_
        | refine go_div rfl (by omega) ?_
        | refine go_rem rfl (by omega) ?_
        | refine go_icT rfl (by dsimp only [ncd]; omega) ?_
        | refine go_icF rfl (by dsimp only [ncd]; omega) ?_
        | refine go_ifT rfl (by dsimp only [ncd]; omega) ?_
        | refine go_ifF rfl (by dsimp only [ncd]; omega) ?_
        | refine go_ift rfl (by decide) ?_
        | refine go_s rfl ?_
        ))
    have K3 := dm2a_loop (X := X) (fu := fu) (e := e) (A := A) (c1 := c1) (c2 := c2) (c3 := c3) (c4 := c4) (c5 := c5) (c6 := c6) (c7 := c7) (c8 := c8) (ch := ch) (R := R) (l := l) (c := c) hM (r := k) (by omega) (oo := oo) 6 0 d (by omega) (by
      repeat (first
        | exact K2
        | exact go_ret rfl rfl rfl rfl
        | exact go_end rfl rfl rfl rfl
        | refine go_add rfl ?_
        | refine go_mul rfl ?_
        | refine go_sub rfl (by omega) ?_
        | refine go_inc rfl rfl rfl rfl rfl ?_
        | refine go_dec rfl rfl rfl (by omega) rfl rfl ?_
        | refine go_wrth rfl (by omega) ?_
        | refine go_div rfl (by omega) ?_
        | refine go_rem rfl (by omega) ?_
        | refine go_icT rfl (by dsimp only [ncd]; omega) ?_
        | refine go_icF rfl (by dsimp only [ncd]; omega) ?_
        | refine go_ifT rfl (by dsimp only [ncd]; omega) ?_
        | refine go_ifF rfl (by dsimp only [ncd]; omega) ?_
        | refine go_ift rfl (by decide) ?_
        | refine go_s rfl ?_
        ))
    rcases hL with rfl | ⟨z, rfl⟩
    · repeat (first
        | exact K3
        | exact go_ret rfl rfl rfl rfl
        | exact go_end rfl rfl rfl rfl
        | refine go_add rfl ?_
        | refine go_mul rfl ?_
        | refine go_sub rfl (by omega) ?_
        | refine go_inc rfl rfl rfl rfl rfl ?_
        | refine go_dec rfl rfl rfl (by omega) rfl rfl ?_
        | refine go_wrth rfl (by omega) ?_
        | refine go_div rfl (by omega) ?_
        | refine go_rem rfl (by omega) ?_
        | refine go_icT rfl (by dsimp only [ncd]; omega) ?_
        | refine go_icF rfl (by dsimp only [ncd]; omega) ?_
        | refine go_ifT rfl (by dsimp only [ncd]; omega) ?_
        | refine go_ifF rfl (by dsimp only [ncd]; omega) ?_
        | refine go_ift rfl (by decide) ?_
        | refine go_s rfl ?_
        )
    · repeat (first
        | exact K3
        | exact go_ret rfl rfl rfl rfl
        | exact go_end rfl rfl rfl rfl
        | refine go_add rfl ?_
        | refine go_mul rfl ?_
        | refine go_sub rfl (by omega) ?_
        | refine go_inc rfl rfl rfl rfl rfl ?_
        | refine go_dec rfl rfl rfl (by omega) rfl rfl ?_
        | refine go_wrth rfl (by omega) ?_
        | refine go_div rfl (by omega) ?_
        | refine go_rem rfl (by omega) ?_
        | refine go_icT rfl (by dsimp only [ncd]; omega) ?_
        | refine go_icF rfl (by dsimp only [ncd]; omega) ?_
        | refine go_ifT rfl (by dsimp only [ncd]; omega) ?_
        | refine go_ifF rfl (by dsimp only [ncd]; omega) ?_
        | refine go_ift rfl (by decide) ?_
        | refine go_s rfl ?_
        )
theorem dm3a_loop {p : Nat} (hp : p < m) :
    ∀ (q k : Nat) (d : Int64) (B : Nat → Nat → Int32) (l : List (Nat × Nat)), MR B n ps m len pr → VB B l → k + q = 5 → ∃ B2 l2, (∀ j, j < 40 → B2 j = B j) ∧ VB B2 l2 ∧ ∀ oo, Go X (fu + 5) mX4_digest (152, [(0, .ref 36), (1, .long (lpl (fP ps len pr p) q k d)), (3, .int (nI p)), (4, .int (nI 5))], [], (cc A c1 c2 c3 c4 c5 c6 c7 c8 ++ (mm B2 (nI 0) (nI n) (nI m) (nI c) ch (nI l2.length) ++ R), e)) oo → Go X (fu + 5) mX4_digest (125, [(0, .ref 36), (1, .long d), (3, .int (nI p)), (4, .int (nI k))], [], (cc A c1 c2 c3 c4 c5 c6 c7 c8 ++ (mm B (nI 0) (nI n) (nI m) (nI c) ch (nI l.length) ++ R), e)) oo := by
  intro q
  induction q with
  | zero =>
    intro k d B l hM hV hk
    obtain rfl : k = 5 := by omega
    refine ⟨B, l, fun _ _ => rfl, hV, fun oo K => ?_⟩
    repeat (first
      | exact K
      | exact go_ret rfl rfl rfl rfl
      | exact go_end rfl rfl rfl rfl
      | refine go_add rfl ?_
      | refine go_mul rfl ?_
      | refine go_sub rfl (by omega) ?_
      | refine go_inc rfl rfl rfl rfl rfl ?_
      | refine go_dec rfl rfl rfl (by omega) rfl rfl ?_
      | refine go_wrth rfl (by omega) ?_
      | refine go_div rfl (by omega) ?_
      | refine go_rem rfl (by omega) ?_
      | refine go_icT rfl (by dsimp only [ncd]; omega) ?_
      | refine go_icF rfl (by dsimp only [ncd]; omega) ?_
      | refine go_ifT rfl (by dsimp only [ncd]; omega) ?_
      | refine go_ifF rfl (by dsimp only [ncd]; omega) ?_
      | refine go_ift rfl (by decide) ?_
      | refine go_s rfl ?_
      )
  | succ q ih =>
    intro k d B l hM hV hk
    obtain ⟨B2, l2, k2, hV2, G2⟩ := n_pealTold (X := X) (fu := fu) (e := e) (A := A) (c1 := c1) (c2 := c2) (c3 := c3) (c4 := c4) (c5 := c5) (c6 := c6) (c7 := c7) (c8 := c8) (th := nI 0) (co := nI c) (ch := ch) (R := R) hM hV hp (w := k) (by omega)
    obtain ⟨B3, l3, k3, hV3, G3⟩ := ih (k + 1) (d * lN 31 + (fP ps len pr p k).toInt64) B2 l2 (MR_keep hM k2) hV2 (by omega)
    refine ⟨B3, l3, fun j hj => (k3 j hj).trans (k2 j hj), hV3, fun oo K => ?_⟩
    have G4 := G3 oo K
    repeat (first
      | exact G4
      | exact go_ret rfl rfl rfl rfl
      | exact go_end rfl rfl rfl rfl
      | refine go_add rfl ?_
      | refine go_mul rfl ?_
      | refine go_sub rfl (by omega) ?_
      | refine go_inc rfl rfl rfl rfl rfl ?_
      | refine go_dec rfl rfl rfl (by omega) rfl rfl ?_
      | refine go_wrth rfl (by omega) ?_
      | refine go_div rfl (by omega) ?_
      | refine go_rem rfl (by omega) ?_
      | refine go_ci rfl rfl rfl rfl rfl G2 ?_
      | refine go_icT rfl (by dsimp only [ncd]; omega) ?_
      | refine go_icF rfl (by dsimp only [ncd]; omega) ?_
      | refine go_ifT rfl (by dsimp only [ncd]; omega) ?_
      | refine go_ifF rfl (by dsimp only [ncd]; omega) ?_
      | refine go_ift rfl (by decide) ?_
      | refine go_s rfl ?_
      )
theorem dm3b_loop (hM : MR B n ps m len pr) {p : Nat} (hp : p < m) {oo : zOut} :
    ∀ (q k : Nat) (d : Int64), k + q = len p → Go X (fu + 5) mX4_digest (192, [(0, .ref 36), (1, .long (lpl (fun i => nI (pr p i)) q k d)), (3, .int (nI p)), (4, .int (nI (len p)))], [], (cc A c1 c2 c3 c4 c5 c6 c7 c8 ++ (mm B (nI 0) (nI n) (nI m) (nI c) ch (nI l.length) ++ R), e)) oo → Go X (fu + 5) mX4_digest (155, [(0, .ref 36), (1, .long d), (3, .int (nI p)), (4, .int (nI k))], [], (cc A c1 c2 c3 c4 c5 c6 c7 c8 ++ (mm B (nI 0) (nI n) (nI m) (nI c) ch (nI l.length) ++ R), e)) oo := by
  have hm := hM.2.1
  have h38 := hM.2.2.2.2.1 p (by omega)
  obtain ⟨l1, l2, l3⟩ := hM.2.2.2.2.2 p (by omega)
  intro q
  induction q with
  | zero =>
    intro k d hk K
    obtain rfl : k = len p := by omega
    repeat (first
      | exact K
      | exact go_ret rfl rfl rfl rfl
      | exact go_end rfl rfl rfl rfl
      | refine go_add rfl ?_
      | refine go_mul rfl ?_
      | refine go_sub rfl (by omega) ?_
      | refine go_inc rfl rfl rfl rfl rfl ?_
      | refine go_dec rfl rfl rfl (by omega) rfl rfl ?_
      | refine go_wrth rfl (by omega) ?_
      | refine go_ial rfl rfl (by first | omega | exact ⟨dg_lt _ _, by omega⟩) (h38) ?_
      | refine go_div rfl (by omega) ?_
      | refine go_rem rfl (by omega) ?_
      | refine go_icT rfl (by dsimp only [ncd]; omega) ?_
      | refine go_icF rfl (by dsimp only [ncd]; omega) ?_
      | refine go_ifT rfl (by dsimp only [ncd]; omega) ?_
      | refine go_ifF rfl (by dsimp only [ncd]; omega) ?_
      | refine go_ift rfl (by decide) ?_
      | refine go_s rfl ?_
      )
  | succ q ih =>
    intro k d hk K
    have G := ih (k + 1) _ (by omega) K
    repeat (first
      | exact G
      | exact go_ret rfl rfl rfl rfl
      | exact go_end rfl rfl rfl rfl
      | refine go_add rfl ?_
      | refine go_mul rfl ?_
      | refine go_sub rfl (by omega) ?_
      | refine go_inc rfl rfl rfl rfl rfl ?_
      | refine go_dec rfl rfl rfl (by omega) rfl rfl ?_
      | refine go_wrth rfl (by omega) ?_
      | refine go_ial rfl rfl (by first | omega | exact ⟨dg_lt _ _, by omega⟩) (h38) ?_
      | refine go_ial rfl rfl (by first | omega | exact ⟨dg_lt _ _, by omega⟩) (l2 _ (by first | omega | exact dg_lt _ _)) ?_
      | refine go_div rfl (by omega) ?_
      | refine go_rem rfl (by omega) ?_
      | refine go_icT rfl (by dsimp only [ncd]; omega) ?_
      | refine go_icF rfl (by dsimp only [ncd]; omega) ?_
      | refine go_ifT rfl (by dsimp only [ncd]; omega) ?_
      | refine go_ifF rfl (by dsimp only [ncd]; omega) ?_
      | refine go_ift rfl (by decide) ?_
      | refine go_s rfl ?_
      )
theorem dm3_loop :
    ∀ (q k : Nat) (d : Int64) (B : Nat → Nat → Int32) (l : List (Nat × Nat)), MR B n ps m len pr → VB B l → k + q = m → ∃ B2 l2, (∀ j, j < 40 → B2 j = B j) ∧ VB B2 l2 ∧ ∀ L4 : List (Nat × Value), (L4 = [] ∨ ∃ z : Nat, L4 = [(4, .int (nI z))]) → Go X (fu + 5) mX4_digest (114, [(0, .ref 36), (1, .long d), (3, .int (nI k))] ++ L4, [], (cc A c1 c2 c3 c4 c5 c6 c7 c8 ++ (mm B (nI 0) (nI n) (nI m) (nI c) ch (nI l.length) ++ R), e)) (.inl (some (.long (lpg (dgP ps len pr) q k d))), (cc A c1 c2 c3 c4 c5 c6 c7 c8 ++ (mm B2 (nI 0) (nI n) (nI m) (nI c) ch (nI l2.length) ++ R), e)) := by
  intro q
  induction q with
  | zero =>
    intro k d B l hM hV hk
    have hm := hM.2.1
    obtain rfl : k = m := by omega
    refine ⟨B, l, fun _ _ => rfl, hV, fun L4 hL => ?_⟩
    rcases hL with rfl | ⟨z, rfl⟩
    · repeat (first
        | exact go_ret rfl rfl rfl rfl
        | exact go_end rfl rfl rfl rfl
        | refine go_add rfl ?_
        | refine go_mul rfl ?_
        | refine go_sub rfl (by omega) ?_
        | refine go_inc rfl rfl rfl rfl rfl ?_
        | refine go_dec rfl rfl rfl (by omega) rfl rfl ?_
        | refine go_wrth rfl (by omega) ?_
        | refine go_div rfl (by omega) ?_
        | refine go_rem rfl (by omega) ?_
        | refine go_icT rfl (by dsimp only [ncd]; omega) ?_
        | refine go_icF rfl (by dsimp only [ncd]; omega) ?_
        | refine go_ifT rfl (by dsimp only [ncd]; omega) ?_
        | refine go_ifF rfl (by dsimp only [ncd]; omega) ?_
        | refine go_ift rfl (by decide) ?_
        | refine go_s rfl ?_
        )
    · repeat (first
        | exact go_ret rfl rfl rfl rfl
        | exact go_end rfl rfl rfl rfl
        | refine go_add rfl ?_
        | refine go_mul rfl ?_
        | refine go_sub rfl (by omega) ?_
        | refine go_inc rfl rfl rfl rfl rfl ?_
        | refine go_dec rfl rfl rfl (by omega) rfl rfl ?_
        | refine go_wrth rfl (by omega) ?_
        | refine go_div rfl (by omega) ?_
        | refine go_rem rfl (by omega) ?_
        | refine go_icT rfl (by dsimp only [ncd]; omega) ?_
        | refine go_icF rfl (by dsimp only [ncd]; omega) ?_
        | refine go_ifT rfl (by dsimp only [ncd]; omega) ?_
        | refine go_ifF rfl (by dsimp only [ncd]; omega) ?_
        | refine go_ift rfl (by decide) ?_
        | refine go_s rfl ?_
        )
  | succ q ih =>
    intro k d B l hM hV hk
    have hm := hM.2.1
    obtain ⟨B2, l2, k2, hV2, G2⟩ := dm3a_loop (X := X) (fu := fu) (e := e) (A := A) (c1 := c1) (c2 := c2) (c3 := c3) (c4 := c4) (c5 := c5) (c6 := c6) (c7 := c7) (c8 := c8) (ch := ch) (R := R) (n := n) (ps := ps) (len := len) (pr := pr) (c := c) (p := k) (m := m) (by omega) 5 0 d B l hM hV (by omega)
    have hM2 := MR_keep hM k2
    obtain ⟨B3, l3, k3, hV3, G3⟩ := ih (k + 1) (dgP ps len pr k d) B2 l2 hM2 hV2 (by omega)
    have G3a := G3 [(4, .int (nI (len k)))] (.inr ⟨_, rfl⟩)
    refine ⟨B3, l3, fun j hj => (k3 j hj).trans (k2 j hj), hV3, fun L4 hL => ?_⟩
    have K2 := dm3b_loop (X := X) (fu := fu) (e := e) (A := A) (c1 := c1) (c2 := c2) (c3 := c3) (c4 := c4) (c5 := c5) (c6 := c6) (c7 := c7) (c8 := c8) (ch := ch) (R := R) (l := l2) (c := c) hM2 (p := k) (by omega) (oo := (.inl (some (.long (lpg (dgP ps len pr) (q + 1) k d))), (cc A c1 c2 c3 c4 c5 c6 c7 c8 ++ (mm B3 (nI 0) (nI n) (nI m) (nI c) ch (nI l3.length) ++ R), e))) (len k) 0 (lpl (fP ps len pr k) 5 0 d) (by omega) (by
      repeat (first
        | exact G3a
        | exact go_ret rfl rfl rfl rfl
        | exact go_end rfl rfl rfl rfl
        | refine go_add rfl ?_
        | refine go_mul rfl ?_
        | refine go_sub rfl (by omega) ?_
        | refine go_inc rfl rfl rfl rfl rfl ?_
        | refine go_dec rfl rfl rfl (by omega) rfl rfl ?_
        | refine go_wrth rfl (by omega) ?_
        | refine go_div rfl (by omega) ?_
        | refine go_rem rfl (by omega) ?_
        | refine go_icT rfl (by dsimp only [ncd]; omega) ?_
        | refine go_icF rfl (by dsimp only [ncd]; omega) ?_
        | refine go_ifT rfl (by dsimp only [ncd]; omega) ?_
        | refine go_ifF rfl (by dsimp only [ncd]; omega) ?_
        | refine go_ift rfl (by decide) ?_
        | refine go_s rfl ?_
        ))
    have K3 := G2 (.inl (some (.long (lpg (dgP ps len pr) (q + 1) k d))), (cc A c1 c2 c3 c4 c5 c6 c7 c8 ++ (mm B3 (nI 0) (nI n) (nI m) (nI c) ch (nI l3.length) ++ R), e)) (by
      repeat (first
        | exact K2
        | exact go_ret rfl rfl rfl rfl
        | exact go_end rfl rfl rfl rfl
        | refine go_add rfl ?_
        | refine go_mul rfl ?_
        | refine go_sub rfl (by omega) ?_
        | refine go_inc rfl rfl rfl rfl rfl ?_
        | refine go_dec rfl rfl rfl (by omega) rfl rfl ?_
        | refine go_wrth rfl (by omega) ?_
        | refine go_div rfl (by omega) ?_
        | refine go_rem rfl (by omega) ?_
        | refine go_icT rfl (by dsimp only [ncd]; omega) ?_
        | refine go_icF rfl (by dsimp only [ncd]; omega) ?_
        | refine go_ifT rfl (by dsimp only [ncd]; omega) ?_
        | refine go_ifF rfl (by dsimp only [ncd]; omega) ?_
        | refine go_ift rfl (by decide) ?_
        | refine go_s rfl ?_
        ))
    rcases hL with rfl | ⟨z, rfl⟩
    · repeat (first
        | exact K3
        | exact go_ret rfl rfl rfl rfl
        | exact go_end rfl rfl rfl rfl
        | refine go_add rfl ?_
        | refine go_mul rfl ?_
        | refine go_sub rfl (by omega) ?_
        | refine go_inc rfl rfl rfl rfl rfl ?_
        | refine go_dec rfl rfl rfl (by omega) rfl rfl ?_
        | refine go_wrth rfl (by omega) ?_
        | refine go_div rfl (by omega) ?_
        | refine go_rem rfl (by omega) ?_
        | refine go_icT rfl (by dsimp only [ncd]; omega) ?_
        | refine go_icF rfl (by dsimp only [ncd]; omega) ?_
        | refine go_ifT rfl (by dsimp only [ncd]; omega) ?_
        | refine go_ifF rfl (by dsimp only [ncd]; omega) ?_
        | refine go_ift rfl (by decide) ?_
        | refine go_s rfl ?_
        )
    · repeat (first
        | exact K3
        | exact go_ret rfl rfl rfl rfl
        | exact go_end rfl rfl rfl rfl
        | refine go_add rfl ?_
        | refine go_mul rfl ?_
        | refine go_sub rfl (by omega) ?_
        | refine go_inc rfl rfl rfl rfl rfl ?_
        | refine go_dec rfl rfl rfl (by omega) rfl rfl ?_
        | refine go_wrth rfl (by omega) ?_
        | refine go_div rfl (by omega) ?_
        | refine go_rem rfl (by omega) ?_
        | refine go_icT rfl (by dsimp only [ncd]; omega) ?_
        | refine go_icF rfl (by dsimp only [ncd]; omega) ?_
        | refine go_ifT rfl (by dsimp only [ncd]; omega) ?_
        | refine go_ifF rfl (by dsimp only [ncd]; omega) ?_
        | refine go_ift rfl (by decide) ?_
        | refine go_s rfl ?_
        )
theorem n_digest (hM : MR B n ps m len pr) (hV : VB B l) (ic : isRow c) : ∃ B2 l2 t, (∀ j, j < 40 → B2 j = B j) ∧ VB B2 l2 ∧ t.length ≤ 5 ∧ zsz t ≤ 30 ∧ Go X (fu + 5) mX4_digest (0, [(0, .ref 36)], [], (cc A c1 c2 c3 c4 c5 c6 c7 c8 ++ (mm B th (nI n) (nI m) (nI c) ch (nI l.length) ++ R), e)) (.inl (some (.long (dgA n ps m len pr ch c))), (cc A c1 c2 c3 c4 c5 c6 c7 c8 ++ (mm B2 (nI 0) (nI n) (nI m) (nI c) ch (nI l2.length) ++ (R ++ t)), e)) := by
  obtain ⟨t, t1, t2, G1⟩ := dm1_loop (X := X) (fu := fu) (e := e) (A := A) (c1 := c1) (c2 := c2) (c3 := c3) (c4 := c4) (c5 := c5) (c6 := c6) (c7 := c7) (c8 := c8) (ch := ch) (B := B) (l := l) (n := n) (m := m) (c := c) ic 5 0 (lN 1123) R (by omega)
  obtain ⟨B2, l2, k2, hV2, G3⟩ := dm3_loop (X := X) (fu := fu) (e := e) (A := A) (c1 := c1) (c2 := c2) (c3 := c3) (c4 := c4) (c5 := c5) (c6 := c6) (c7 := c7) (c8 := c8) (ch := ch) (R := R ++ t) (n := n) (ps := ps) (len := len) (pr := pr) (c := c) (m := m) m 0 (lpg (dgR n ps) n 0 (lpl (fC n m ch c) 5 0 (lN 1123))) B l hM hV (by omega)
  refine ⟨B2, l2, t, k2, hV2, t1, t2, ?_⟩
  have G2 := dm2_loop (X := X) (fu := fu) (e := e) (A := A) (c1 := c1) (c2 := c2) (c3 := c3) (c4 := c4) (c5 := c5) (c6 := c6) (c7 := c7) (c8 := c8) (ch := ch) (R := R ++ t) (l := l) (c := c) hM (oo := (.inl (some (.long (dgA n ps m len pr ch c))), (cc A c1 c2 c3 c4 c5 c6 c7 c8 ++ (mm B2 (nI 0) (nI n) (nI m) (nI c) ch (nI l2.length) ++ (R ++ t)), e))) n 0 (lpl (fC n m ch c) 5 0 (lN 1123)) [] (.inl rfl) (by omega) (fun L4 hL => by
    have K := G3 L4 hL
    rcases hL with rfl | ⟨z, rfl⟩
    · repeat (first
        | exact K
        | exact go_ret rfl rfl rfl rfl
        | exact go_end rfl rfl rfl rfl
        | refine go_add rfl ?_
        | refine go_mul rfl ?_
        | refine go_sub rfl (by omega) ?_
        | refine go_inc rfl rfl rfl rfl rfl ?_
        | refine go_dec rfl rfl rfl (by omega) rfl rfl ?_
        | refine go_wrth rfl (by omega) ?_
        | refine go_div rfl (by omega) ?_
        | refine go_rem rfl (by omega) ?_
        | refine go_icT rfl (by dsimp only [ncd]; omega) ?_
        | refine go_icF rfl (by dsimp only [ncd]; omega) ?_
        | refine go_ifT rfl (by dsimp only [ncd]; omega) ?_
        | refine go_ifF rfl (by dsimp only [ncd]; omega) ?_
        | refine go_ift rfl (by decide) ?_
        | refine go_s rfl ?_
        )
    · repeat (first
        | exact K
        | exact go_ret rfl rfl rfl rfl
        | exact go_end rfl rfl rfl rfl
        | refine go_add rfl ?_
        | refine go_mul rfl ?_
        | refine go_sub rfl (by omega) ?_
        | refine go_inc rfl rfl rfl rfl rfl ?_
        | refine go_dec rfl rfl rfl (by omega) rfl rfl ?_
        | refine go_wrth rfl (by omega) ?_
        | refine go_div rfl (by omega) ?_
        | refine go_rem rfl (by omega) ?_
        | refine go_icT rfl (by dsimp only [ncd]; omega) ?_
        | refine go_icF rfl (by dsimp only [ncd]; omega) ?_
        | refine go_ifT rfl (by dsimp only [ncd]; omega) ?_
        | refine go_ifF rfl (by dsimp only [ncd]; omega) ?_
        | refine go_ift rfl (by decide) ?_
        | refine go_s rfl ?_
        ))
  have G4 := G1 (.inl (some (.long (dgA n ps m len pr ch c))), (cc A c1 c2 c3 c4 c5 c6 c7 c8 ++ (mm B2 (nI 0) (nI n) (nI m) (nI c) ch (nI l2.length) ++ (R ++ t)), e)) (by
    repeat (first
      | exact G2
      | exact go_ret rfl rfl rfl rfl
      | exact go_end rfl rfl rfl rfl
      | refine go_add rfl ?_
      | refine go_mul rfl ?_
      | refine go_sub rfl (by omega) ?_
      | refine go_inc rfl rfl rfl rfl rfl ?_
      | refine go_dec rfl rfl rfl (by omega) rfl rfl ?_
      | refine go_wrth rfl (by omega) ?_
      | refine go_div rfl (by omega) ?_
      | refine go_rem rfl (by omega) ?_
      | refine go_icT rfl (by dsimp only [ncd]; omega) ?_
      | refine go_icF rfl (by dsimp only [ncd]; omega) ?_
      | refine go_ifT rfl (by dsimp only [ncd]; omega) ?_
      | refine go_ifF rfl (by dsimp only [ncd]; omega) ?_
      | refine go_ift rfl (by decide) ?_
      | refine go_s rfl ?_
      ))
  refine go_s rfl ?_
  refine go_s rfl ?_
  refine go_pf (H2 := cc A c1 c2 c3 c4 c5 c6 c7 c8 ++ (mm B (nI 0) (nI n) (nI m) (nI c) ch (nI l.length) ++ R)) rfl rfl rfl rfl ?_
  repeat (first
    | exact G4
    | exact go_ret rfl rfl rfl rfl
    | exact go_end rfl rfl rfl rfl
    | refine go_add rfl ?_
    | refine go_mul rfl ?_
    | refine go_sub rfl (by omega) ?_
    | refine go_inc rfl rfl rfl rfl rfl ?_
    | refine go_dec rfl rfl rfl (by omega) rfl rfl ?_
    | refine go_wrth rfl (by omega) ?_
    | refine go_div rfl (by omega) ?_
    | refine go_rem rfl (by omega) ?_
    | refine go_icT rfl (by dsimp only [ncd]; omega) ?_
    | refine go_icF rfl (by dsimp only [ncd]; omega) ?_
    | refine go_ifT rfl (by dsimp only [ncd]; omega) ?_
    | refine go_ifF rfl (by dsimp only [ncd]; omega) ?_
    | refine go_ift rfl (by decide) ?_
    | refine go_s rfl ?_
    )
end MDIG
