/-! ===== one turn of the law's loop: the first questions, the goal ===== -/
theorem HF_at {A : Nat → Nat → Int32} {n m e u : Nat} {ps : Nat → Nat} {ch mk : Int32} {T : List zC} {y : zC} (h : T[u]? = some y) : (HF A n ps m ch mk T e).1[36 + u]? = some y := by
  show (cc A (nI n) (nI m) ch (nI 1) (nI (WL n ps).length) (nI (laD (WL n ps))) (nI (suD (WL n ps))) mk ++ T)[36 + u]? = _
  rw [List.getElem?_append_right (by rw [cc_len]; omega), cc_len, show 36 + u - 36 = u by omega]
  exact h
theorem cc_at {A : Nat → Nat → Int32} {c1 c2 c3 c4 c5 c6 c7 c8 : Int32} {u : Nat} {T : List zC} {y : zC} (h : T[u]? = some y) : (cc A c1 c2 c3 c4 c5 c6 c7 c8 ++ T)[36 + u]? = some y := by
  rw [List.getElem?_append_right (by rw [cc_len]; omega), cc_len, show 36 + u - 36 = u by omega]
  exact h
section ROUND1
variable {X : zX} {e n m c i kp : Nat} {A : Nat → Nat → Int32} {ch mk x : Int32} {u : UInt64} {w : Int64} {T : List zC} {G : Nat → Option Nat} {ps len : Nat → Nat} {pr : Nat → Nat → Nat}
theorem op_order {fu : Nat} {y z : Int32} : ∃ c2 f, isRow c2 ∧ rw6 f c2 ∧ Go X (fu + 1) mL_order (0, [(0, .int y), (1, .int z)], [], HF A n ps m ch mk T e) (.inl (some (.ref (36 + T.length))), HF A n ps m ch mk (T ++ [aI 6 f]) e) := by
  obtain ⟨c2, f, h1, h2, O⟩ := l_order (X := X) (fu := fu) (e := e) (x := y) (y := z) (H := cc A (nI n) (nI m) ch (nI 1) (nI (WL n ps).length) (nI (laD (WL n ps))) (nI (suD (WL n ps))) mk ++ T)
  rw [List.length_append, cc_len, List.append_assoc] at O
  exact ⟨c2, f, h1, h2, O⟩
set_option maxRecDepth 20000 in
theorem d_1 {wf rd mo sm : Int32} (hX : X.1 ≤ 260) (hi : i < 24) (hn : n ≤ 6) (hC : CP A n ps m len pr) (hW : WF A n ps wf rd mo sm) (hx : rw6 (A 19) c) (ic : isRow c) (hT : T[0]? = some (aA n G)) : ∃ A2 mk2 x u w, FS A2 n ps m len pr c ∧ w = dgA n ps m len pr ch c ∧ ∀ oo, Go X 9 mL_law (352, [(0, .retAddr 0), (1, .ref 0), (2, .ref 36), (3, .ref kp), (4, .int (nI i)), (5, .int x), (6, .int (nI c)), (7, .int (nI (odC (dg c)))), (8, .int ch), (9, .int (nI (WL n ps).length)), (10, .int (nI (laD (WL n ps)))), (11, .double u), (13, .long w)], [], HF A2 n ps m ch mk2 T e) oo → Go X 9 mL_law (209, [(0, .retAddr 0), (1, .ref 0), (2, .ref 36), (3, .ref kp), (4, .int (nI i))], [], (cc A (nI n) (nI m) ch wf rd mo sm mk ++ T, e)) oo := by
  have hp : ∀ r, r < n → isRow (ps r) := fun r hr => (hC.2.2.1 r hr).2
  have hn8 : n ≤ 8 := by omega
  obtain ⟨A1, S1, G1⟩ := op_first (X := X) (e := e) (ch := ch) (mk := mk) (T := T) hC hW hx ic
  obtain ⟨A2, S2, G2⟩ := op_farthest (X := X) (e := e) (ch := ch) (mk := mk) (T := T) S1
  obtain ⟨A3, S3, G3⟩ := op_mean (X := X) (e := e) (ch := ch) (mk := mk) (T := T) S2
  obtain ⟨A4, mk4, S4, G4⟩ := op_digest (X := X) (e := e) (ch := ch) (mk := mk) (T := T) S3
  obtain ⟨A5, S5, G5⟩ := op_steps (X := X) (e := e) (ch := ch) (mk := mk4) (T := T) S4 ic
  obtain ⟨A6, S6, G6⟩ := op_next (X := X) (e := e) (ch := ch) (mk := mk4) (T := T) S5 ic
  have e0 : fwD (some 0) = nI 0 := rfl
  have e1 : fwR (some 0) = -nI 1 := rfl
  rw [(cmp_inv ic).2, wl_0 hn8 hp, e0] at G5
  rw [(cmp_inv ic).2, wl_0 hn8 hp, e1] at G6
  have K3 := m_count_t (X := X) (fu := 6) (e := e) (n := n) (m := m) (ch := ch) (wf := wf) (rd := rd) (mo := mo) (sm := sm) (mk := mk) (R := T) (w := 3) hx ic (by omega)
  have K4 := m_count_t (X := X) (fu := 6) (e := e) (n := n) (m := m) (ch := ch) (wf := wf) (rd := rd) (mo := mo) (sm := sm) (mk := mk) (R := T) (w := 4) hx ic (by omega)
  have K2 := m_count_t (X := X) (fu := 6) (e := e) (n := n) (m := m) (ch := ch) (wf := wf) (rd := rd) (mo := mo) (sm := sm) (mk := mk) (R := T) (w := 2) hx ic (by omega)
  have C1 := l_cell (X := X) (fu := 8) (h := (cc A (nI n) (nI m) ch wf rd mo sm mk ++ T, e)) (k := i % 16) hX (by omega)
  obtain ⟨x, hx0⟩ : ∃ x, x = cel X (i % 16) >>> (nI (i / 16 * 6) &&& 31) := ⟨_, rfl⟩
  obtain ⟨u, hu⟩ : ∃ u, u = FP.ddiv (FP.i2d (nI (suD (WL n ps)))) (FP.i2d (nI (WL n ps).length)) := ⟨_, rfl⟩
  obtain ⟨w, hw⟩ : ∃ w, w = dgA n ps m len pr ch c := ⟨_, rfl⟩
  rw [← hu] at G3
  rw [← hw] at G4
  have b1 := WL_pos hn8 hp
  have b2 := wl_far hn8 hp
  have b3 := wl_b hn8 hp
  have b4 := mean_le (s := suD (WL n ps)) (l := (WL n ps).length) (f := laD (WL n ps)) b3.2.2 (by omega) (by omega) b1.1 (wl_sum hn8 hp)
  rw [← hu] at b4
  have b5 := wl_720 hn8 hp
  refine ⟨A6, mk4, x, u, w, S6, hw, fun oo K => ?_⟩
  have T331 : Go X 9 mL_law (331, [(0, .retAddr 0), (1, .ref 0), (2, .ref 36), (3, .ref kp), (4, .int (nI i)), (5, .int x), (6, .int (nI c)), (7, .int (nI (odC (dg c)))), (8, .int ch), (9, .int (nI (WL n ps).length)), (10, .int (nI (laD (WL n ps)))), (11, .double u), (13, .long w)], [], HF A4 n ps m ch mk4 T e) oo := by
    refine go_s rfl ?_
    refine go_s rfl ?_
    refine go_ci rfl rfl rfl rfl rfl G5 ?_
    refine go_ifF rfl (by dsimp only [ncd]; omega) ?_
    refine go_s rfl ?_
    refine go_s rfl ?_
    refine go_ci rfl rfl rfl rfl rfl G6 ?_
    refine go_s rfl ?_
    refine go_ict rfl rfl ?_
    exact K
  refine go_s rfl ?_
  refine go_s rfl ?_
  refine go_icF rfl (by dsimp only [ncd]; omega) ?_
  refine go_s rfl ?_
  refine go_s rfl ?_
  refine go_s rfl ?_
  refine go_rem rfl (by omega) ?_
  refine go_ci rfl rfl rfl rfl rfl C1 ?_
  refine go_s rfl ?_
  refine go_s rfl ?_
  refine go_div rfl (by omega) ?_
  refine go_s rfl ?_
  refine go_mul rfl ?_
  refine go_s rfl ?_
  rw [← hx0]
  refine go_s rfl ?_
  refine go_s rfl ?_
  refine go_s rfl ?_
  refine go_ci rfl rfl rfl rfl rfl K3 ?_
  refine go_s rfl ?_
  refine go_s rfl ?_
  refine go_s rfl ?_
  refine go_ci rfl rfl rfl rfl rfl K4 ?_
  refine go_s rfl ?_
  refine go_s rfl ?_
  refine go_s rfl ?_
  refine go_ci rfl rfl rfl rfl rfl K2 ?_
  refine go_s rfl ?_
  refine go_s rfl ?_
  refine go_ci rfl rfl rfl rfl rfl G1 ?_
  refine go_s rfl ?_
  refine go_s rfl ?_
  refine go_ci rfl rfl rfl rfl rfl G2 ?_
  refine go_s rfl ?_
  refine go_s rfl ?_
  refine go_ci rfl rfl rfl rfl rfl G3 ?_
  refine go_s rfl ?_
  refine go_s rfl ?_
  refine go_ci rfl rfl rfl rfl rfl G4 ?_
  refine go_s rfl ?_
  refine go_s rfl ?_
  refine go_s rfl ?_
  refine go_icF rfl (by dsimp only [ncd]; omega) ?_
  refine go_s rfl ?_
  refine go_s rfl ?_
  refine go_icF rfl (by dsimp only [ncd]; omega) ?_
  refine go_s rfl ?_
  refine go_s rfl ?_
  refine go_icF rfl (by dsimp only [ncd]; omega) ?_
  refine go_s rfl ?_
  refine go_s rfl ?_
  refine go_s rfl ?_
  refine go_s rfl ?_
  refine go_iff rfl b4 ?_
  refine go_s rfl ?_
  refine go_s rfl ?_
  refine go_rem rfl ⟨by omega, by omega, by omega⟩ ?_
  rw [b5]
  refine go_ifF rfl (by dsimp only [ncd]; omega) ?_
  refine go_s rfl ?_
  refine go_alA rfl (HF_at hT) ?_
  by_cases h0 : n = 0
  · have b6 := wl_one hp h0
    refine go_ifF rfl (by dsimp only [ncd]; omega) ?_
    refine go_s rfl ?_
    refine go_s rfl ?_
    refine go_icF rfl (by dsimp only [ncd]; omega) ?_
    exact T331
  · refine go_ifT rfl (by dsimp only [ncd]; omega) ?_
    exact T331
set_option maxRecDepth 20000 in
theorem d_2 (hX : X.1 ≤ 260) (hi : i < 24) (hn : n ≤ 6) (hS : FS A n ps m len pr c) (hw : w = dgA n ps m len pr ch c) : ∃ A2 mk2 goal f s nx, FS A2 n ps m len pr c ∧ isRow goal ∧ s = fwD (lk (WL n ps) (cmp (inv c) goal)) ∧ nx = fwR (lk (WL n ps) (cmp (inv c) goal)) ∧ ∀ oo, Go X 9 mL_law (429, [(0, .retAddr 0), (1, .ref 0), (2, .ref 36), (3, .ref kp), (4, .int (nI i)), (5, .int x), (6, .int (nI c)), (7, .int (nI (odC (dg c)))), (8, .int ch), (9, .int (nI (WL n ps).length)), (10, .int (nI (laD (WL n ps)))), (11, .double u), (13, .long w), (15, .int (nI goal)), (16, .int s), (17, .int nx)], [], HF A2 n ps m ch mk2 (T ++ [aI 6 f]) e) oo → Go X 9 mL_law (352, [(0, .retAddr 0), (1, .ref 0), (2, .ref 36), (3, .ref kp), (4, .int (nI i)), (5, .int x), (6, .int (nI c)), (7, .int (nI (odC (dg c)))), (8, .int ch), (9, .int (nI (WL n ps).length)), (10, .int (nI (laD (WL n ps)))), (11, .double u), (13, .long w)], [], HF A n ps m ch mk T e) oo := by
  have hp : ∀ r, r < n → isRow (ps r) := fun r hr => (hS.1.2.2.1 r hr).2
  have hn8 : n ≤ 8 := by omega
  have C1 := l_cell (X := X) (fu := 8) (h := HF A n ps m ch mk T e) (k := i % 5) hX (by omega)
  obtain ⟨goal, f, h1, h2, O⟩ := op_order (X := X) (fu := 7) (e := e) (n := n) (m := m) (A := A) (ch := ch) (mk := mk) (T := T) (ps := ps) (y := x) (z := cel X (i % 5))
  have Cd := l_code (X := X) (fu := 8) (h := HF A n ps m ch mk (T ++ [aI 6 f]) e) (t := 36 + T.length) (HF_at (last_get T _ rfl)) h2 (row_lt h1)
  obtain ⟨A1, S1, G1⟩ := op_steps (X := X) (e := e) (ch := ch) (mk := mk) (T := T ++ [aI 6 f]) hS h1
  obtain ⟨A2, S2, G2⟩ := op_next (X := X) (e := e) (ch := ch) (mk := mk) (T := T ++ [aI 6 f]) S1 h1
  obtain ⟨A3, mk3, S3, G3⟩ := op_digest (X := X) (e := e) (ch := ch) (mk := mk) (T := T ++ [aI 6 f]) S2
  rw [← hw] at G3
  obtain ⟨f1, f2⟩ := ways_1 hn8 hp (cmp (inv c) goal)
  obtain ⟨s, hs⟩ : ∃ s, s = fwD (lk (WL n ps) (cmp (inv c) goal)) := ⟨_, rfl⟩
  obtain ⟨nx, hnx⟩ : ∃ nx, nx = fwR (lk (WL n ps) (cmp (inv c) goal)) := ⟨_, rfl⟩
  rw [← hs] at G1 f1 f2
  rw [← hnx] at G2 f2
  refine ⟨A3, mk3, goal, f, s, nx, S3, h1, hs, hnx, fun oo K => ?_⟩
  have T417 : Go X 9 mL_law (417, [(0, .retAddr 0), (1, .ref 0), (2, .ref 36), (3, .ref kp), (4, .int (nI i)), (5, .int x), (6, .int (nI c)), (7, .int (nI (odC (dg c)))), (8, .int ch), (9, .int (nI (WL n ps).length)), (10, .int (nI (laD (WL n ps)))), (11, .double u), (13, .long w), (15, .int (nI goal)), (16, .int s), (17, .int nx)], [], HF A2 n ps m ch mk (T ++ [aI 6 f]) e) oo := by
    refine go_s rfl ?_
    refine go_ci rfl rfl rfl rfl rfl G3 ?_
    refine go_s rfl ?_
    refine go_lcmp rfl ?_
    refine go_ifT rfl (by dsimp only [ncd]; omega) ?_
    exact K
  refine go_s rfl ?_
  refine go_s rfl ?_
  refine go_s rfl ?_
  refine go_s rfl ?_
  refine go_rem rfl (by omega) ?_
  refine go_ci rfl rfl rfl rfl rfl C1 ?_
  refine go_ci rfl rfl rfl rfl rfl O ?_
  refine go_ci rfl rfl rfl rfl rfl Cd ?_
  refine go_s rfl ?_
  refine go_s rfl ?_
  refine go_s rfl ?_
  refine go_ci rfl rfl rfl rfl rfl G1 ?_
  refine go_s rfl ?_
  refine go_s rfl ?_
  refine go_s rfl ?_
  refine go_ci rfl rfl rfl rfl rfl G2 ?_
  refine go_s rfl ?_
  refine go_s rfl ?_
  refine go_s rfl ?_
  refine go_icf rfl f1 ?_
  rcases f2 with ⟨q1, q2, q3⟩ | ⟨q1, q2, q3, q4⟩
  · refine go_s rfl ?_
    refine go_s rfl ?_
    refine go_icf rfl q1 ?_
    refine go_s rfl ?_
    refine go_s rfl ?_
    refine go_s rfl ?_
    refine go_iff rfl q2 ?_
    refine go_s rfl ?_
    refine go_s rfl ?_
    refine go_icF rfl (by dsimp only [ncd]; omega) ?_
    exact T417
  · refine go_s rfl ?_
    refine go_s rfl ?_
    refine go_ict rfl q1 ?_
    refine go_s rfl ?_
    refine go_s rfl ?_
    refine go_ift rfl q2 ?_
    refine go_s rfl ?_
    refine go_icF rfl (by dsimp only [ncd]; omega) ?_
    exact T417
end ROUND1
