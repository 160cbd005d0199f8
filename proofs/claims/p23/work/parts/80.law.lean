/-! ===== the law's loop, and its whole run ===== -/
theorem room_of {A : Nat → Nat → Int32} {c1 c2 c3 c4 c5 c6 c7 c8 : Int32} {T : List zC} (h1 : T.length ≤ 100) (h2 : zsz T ≤ 1000) : (cc A c1 c2 c3 c4 c5 c6 c7 c8 ++ T).length + 0 ≤ 600074 ∧ zsz (cc A c1 c2 c3 c4 c5 c6 c7 c8 ++ T) + 6 * 0 ≤ 7301550 := by
  rw [List.length_append, cc_len, zsz_app, cc_size]
  omega
section LAW
variable {X : zX} {n m u9 : Nat} {G Gp : Nat → Option Nat} {ps len : Nat → Nat} {pr : Nat → Nat → Nat}
set_option maxRecDepth 20000 in
theorem loop (hX : X.1 ≤ 260) (hn : n ≤ 6) (hm3 : m ≤ 3) : ∀ (j i c : Nat) (A : Nat → Nat → Int32) (ch wf rd mo sm mk : Int32) (T : List zC), i + j = 24 → CP A n ps m len pr → WF A n ps wf rd mo sm → rw6 (A 19) c → isRow c → T[0]? = some (aA n G) → PT T u9 m Gp len pr m → T.length ≤ 40 + i → zsz T ≤ 400 + 6 * i → ∃ h9 : zH, Go X 9 mL_law (209, [(0, .retAddr 0), (1, .ref 0), (2, .ref 36), (3, .ref (36 + u9)), (4, .int (nI i))], [], (cc A (nI n) (nI m) ch wf rd mo sm mk ++ T, 0)) (.inl (some (.int (nI 1))), h9) ∧ h9.1.length + h9.2 ≤ 600074 ∧ zsz h9.1 + 6 * h9.2 ≤ 7301550 := by
  intro j
  induction j with
  | zero =>
    intro i c A ch wf rd mo sm mk T hi hC hW hx ic hT hP b1 b2
    obtain rfl : i = 24 := hi
    refine ⟨(cc A (nI n) (nI m) ch wf rd mo sm mk ++ T, 0), ?_, room_of (by omega) (by omega)⟩
    refine go_s rfl ?_
    refine go_s rfl ?_
    refine go_icT rfl (by dsimp only [ncd]; omega) ?_
    refine go_s rfl ?_
    exact go_ret rfl rfl rfl rfl
  | succ j ih =>
    intro i c A ch wf rd mo sm mk T hi hC hW hx ic hT hP b1 b2
    obtain ⟨A1, mk1, x, u, w, S1, hw, F1⟩ := d_1 (X := X) (e := 0) (n := n) (m := m) (i := i) (kp := 36 + u9) (ch := ch) (mk := mk) (T := T) (G := G) hX (by omega) hn hC hW hx ic hT
    obtain ⟨A2, mk2, goal, f, s, nx, S2, hg, hs, hnx, F2⟩ := d_2 (X := X) (e := 0) (i := i) (kp := 36 + u9) (ch := ch) (mk := mk1) (x := x) (u := u) (w := w) (T := T) hX (by omega) hn S1 hw
    obtain ⟨A3, ch3, c3, S3, F3⟩ := d_3 (X := X) (e := 0) (i := i) (kp := 36 + u9) (ch := ch) (mk := mk2) (x := x) (u := u) (w := w) (T := T ++ [aI 6 f]) (G := G) hn S2 hg (get_app hT) hs hnx
    obtain ⟨A4, mk4, ch4, c4, S4, F4⟩ := d_4 (X := X) (e := 0) (i := i) (ch := ch3) (mk := mk2) (x := x) (u := u) (w := w) (T := T ++ [aI 6 f]) (c := c) (goal := goal) (s := s) (nx := nx) (ch0 := ch) (v9 := u9) (Gp := Gp) hn hm3 S3 (PT_app hP)
    obtain ⟨h9, G9, r1, r2⟩ := ih (i + 1) c4 A4 ch4 (nI 1) (nI (WL n ps).length) (nI (laD (WL n ps))) (nI (suD (WL n ps))) mk4 (T ++ [aI 6 f]) (by omega) S4.1 (FS_WF S4) S4.2.2.1 S4.2.2.2 (get_app hT) (PT_app hP) (by rw [List.length_append]; show T.length + 1 ≤ _; omega) (by rw [zsz_app]; show zsz T + 6 ≤ _; omega)
    exact ⟨h9, F1 _ (F2 _ (F3 _ (F4 _ G9))), r1, r2⟩
set_option maxRecDepth 20000 in
theorem zlaw (L : Nat) (xs : Nat → Int32) (hL : L ≤ 260) : ∃ h9 : zH, Go (L, xs) 9 mL_law (0, [(0, .retAddr 0)], [], ([], 0)) (.inl (some (.int 1)), h9) ∧ h9.1.length + h9.2 ≤ 600074 ∧ zsz h9.1 + 6 * h9.2 ≤ 7301550 := by
  have hX : ((L, xs) : zX).1 ≤ 260 := hL
  generalize ((L, xs) : zX) = X at hX
  obtain ⟨A, hx, h17, G1⟩ := i_class (X := X) (fu := 5) (e := 0)
  obtain ⟨n, H2, G, ps, hn, hRA, ⟨T, hT, t1, t2⟩, GR⟩ := l_rules (X := X) (fu := 6) (e := 0) hX (cc A (nI 0) (nI 0) (nI 0) (nI 0) (nI 0) (nI 0) (nI 0) (nI 0))
  subst hT
  have hRT : RT T n G ps := RT_of hRA
  have ht0 := get_lt hRT.1
  have hC : CP A 0 ps 0 (fun _ => 0) (fun _ _ => 0) := ⟨by omega, by omega, fun i hi => absurd hi (by omega), h17, fun j hj => ⟨Nat.zero_le _, fun k hk => absurd hk (Nat.not_lt_zero _), fun i hi => absurd hi (Nat.not_lt_zero _)⟩⟩
  obtain ⟨A1, C1, x1, F1⟩ := s_rules (X := X) (e := 0) (ch := nI 0) (rd := nI 0) (mo := nI 0) (sm := nI 0) (mk := nI 0) hn hRT n 0 A (Nat.zero_add _) hC
  have Cl := l_cell (X := X) (fu := 8) (h := (cc A1 (nI n) (nI 0) (nI 0) (nI 0) (nI 0) (nI 0) (nI 0) (nI 0) ++ T, 0)) (k := 9) hX (by omega)
  have Bl := l_below (X := X) (fu := 8) (h := (cc A1 (nI n) (nI 0) (nI 0) (nI 0) (nI 0) (nI 0) (nI 0) (nI 0) ++ T, 0)) (x := cel X 9) (n := 4) (by omega)
  have hm := blw_lt (cel X 9) (n := 4) (by omega)
  generalize blw (cel X 9) 4 = m at Bl hm
  obtain ⟨A2, T2, Gp, len, pr, C2, x2, hT2, hP2, b1, b2, F2⟩ := s_peals (X := X) (e := 0) (u9 := T.length) (ch := nI 0) (rd := nI 0) (mo := nI 0) (sm := nI 0) (mk := nI 0) (G := G) hX hn (by omega) m 0 A1 (T ++ [aA m (fun _ => none)]) (fun _ => none) (fun _ => 0) (fun _ _ => 0) (Nat.zero_add _) C1 (fun i _ => rfl) (get_app hRT.1) ht0 ⟨last_get T _ rfl, fun i hi => absurd hi (Nat.not_lt_zero _)⟩
  have hx2 : rw6 (A2 19) R0 := by rw [x2, x1]; exact hx
  have b3 : (T ++ [aA m (fun _ => none)]).length = T.length + 1 := by rw [List.length_append]; rfl
  have b4 : zsz (T ++ [aA m (fun _ => none)]) = zsz T + m := by rw [zsz_app]; rfl
  have D1 := l_cell (X := X) (fu := 8) (h := (cc A2 (nI n) (nI m) (nI 0) (nI 0) (nI 0) (nI 0) (nI 0) (nI 0) ++ T2, 0)) (k := 14) hX (by omega)
  have D2 := l_cell (X := X) (fu := 8) (h := (cc A2 (nI n) (nI m) (nI 0) (nI 0) (nI 0) (nI 0) (nI 0) (nI 0) ++ T2, 0)) (k := 15) hX (by omega)
  obtain ⟨c, f, ic, hf, O⟩ := l_order (X := X) (fu := 7) (e := 0) (x := cel X 14) (y := cel X 15) (H := cc A2 (nI n) (nI m) (nI 0) (nI 0) (nI 0) (nI 0) (nI 0) (nI 0) ++ T2)
  rw [List.length_append, cc_len, List.append_assoc] at O
  have Cd := l_code (X := X) (fu := 8) (h := (cc A2 (nI n) (nI m) (nI 0) (nI 0) (nI 0) (nI 0) (nI 0) (nI 0) ++ (T2 ++ [aI 6 f]), 0)) (t := 36 + T2.length) (cc_at (last_get T2 _ rfl)) hf (row_lt ic)
  obtain ⟨A3, k3, x3, G3⟩ := m_set_t (X := X) (fu := 6) (e := 0) (n := n) (m := m) (ch := nI 0) (wf := nI 0) (rd := nI 0) (mo := nI 0) (sm := nI 0) (mk := nI 0) (R := T2 ++ [aI 6 f]) hx2 R0_row ic
  have C3 : CP A3 n ps m len pr := CP_keep C2 fun j hj => k3 j (by omega) (by omega)
  obtain ⟨h9, G9, r1, r2⟩ := loop (X := X) (n := n) (m := m) (u9 := T.length) (G := G) (Gp := Gp) (ps := ps) (len := len) (pr := pr) hX hn (by omega) 24 0 c A3 (nI 0) (nI 0) (nI 0) (nI 0) (nI 0) (nI 0) (T2 ++ [aI 6 f]) rfl C3 (.inl rfl) x3 ic (get_app hT2) (PT_app hP2) (by rw [List.length_append]; show T2.length + 1 ≤ _; omega) (by rw [zsz_app]; show zsz T2 + 6 ≤ _; omega)
  refine ⟨h9, ?_, r1, r2⟩
  show Go X 9 mL_law (0, [(0, .retAddr 0)], [], ([], 0)) (.inl (some (.int (nI 1))), h9)
  have K183 := F2 (.inl (some (.int (nI 1))), h9) (by
    refine go_s rfl ?_
    refine go_s rfl ?_
    refine go_s rfl ?_
    refine go_ci rfl rfl rfl rfl rfl D1 ?_
    refine go_s rfl ?_
    refine go_s rfl ?_
    refine go_ci rfl rfl rfl rfl rfl D2 ?_
    refine go_ci rfl rfl rfl rfl rfl O ?_
    refine go_ci rfl rfl rfl rfl rfl Cd ?_
    refine go_ci rfl rfl rfl rfl rfl G3 ?_
    refine go_s rfl ?_
    refine go_s rfl ?_
    refine go_s rfl ?_
    exact G9)
  have K42 := F1 (.inl (some (.int (nI 1))), h9) (by
    refine go_s rfl ?_
    refine go_s rfl ?_
    refine go_ci rfl rfl rfl rfl rfl Cl ?_
    refine go_s rfl ?_
    refine go_ci rfl rfl rfl rfl rfl Bl ?_
    refine go_ana (p := 36 + T.length) (H2 := cc A1 (nI n) (nI 0) (nI 0) (nI 0) (nI 0) (nI 0) (nI 0) (nI 0) ++ (T ++ [aA m (fun _ => none)])) rfl (by omega) (by rw [List.length_append, cc_len]) (by rw [List.append_assoc]) ?_
    refine go_s rfl ?_
    refine go_s rfl ?_
    refine go_s rfl ?_
    exact K183)
  refine go_new (p := 0) (H2 := [.inr (3, [.null, .int (nI 0), .null, .null, .int (nI 0), .null, .int (nI 0), .null, .int (nI 0), .null, .null])]) rfl rfl rfl rfl ?_
  refine go_s rfl ?_
  refine go_cn rfl rfl rfl rfl rfl G1 ?_
  refine go_s rfl ?_
  refine go_s rfl ?_
  refine go_s rfl ?_
  refine go_ci rfl rfl rfl rfl rfl GR ?_
  refine go_s rfl ?_
  refine go_s rfl ?_
  refine go_s rfl ?_
  exact K42
end LAW
