/-! ===== the reference's public methods ===== -/
section MPUB
variable {X : zX} {fu e n m : Nat} {A B : Nat → Nat → Int32} {c1 c2 c3 c4 c5 c6 c7 c8 th ch : Int32} {R : List zC} {ps len : Nat → Nat} {pr : Nat → Nat → Nat} {c : Nat} {l : List (Nat × Nat)}
theorem p5 {y : Int32} (hy : y < 0 ∨ nI 5 ≤ y) : y < nI 0 ∨ nI 4 < y := hy.imp (fun q => q) (fun q => by
  have h1 := Int32.le_iff_toInt_le.mp q
  rw [nI_toInt (by omega)] at h1
  rw [Int32.lt_iff_toInt_lt, nI_toInt (by omega)]
  omega)
theorem n_goes_t (hM : MR B n ps m len pr) {r k : Nat} (hr : r < n) (hk : k < 6) : Go X (fu + 2) mX4_goes (0, [(0, .ref 36), (1, .int (nI r)), (2, .int (nI k))], [], (cc A c1 c2 c3 c4 c5 c6 c7 c8 ++ (mm B th (nI n) (nI m) (nI c) ch (nI l.length) ++ R), e)) (.inl (some (.int (nI (dg (ps r) k)))), (cc A c1 c2 c3 c4 c5 c6 c7 c8 ++ (mm B (nI 0) (nI n) (nI m) (nI c) ch (nI l.length) ++ R), e)) := by
  refine go_s rfl ?_
  refine go_s rfl ?_
  refine go_pf (H2 := cc A c1 c2 c3 c4 c5 c6 c7 c8 ++ (mm B (nI 0) (nI n) (nI m) (nI c) ch (nI l.length) ++ R)) rfl rfl rfl rfl ?_
  repeat (first
    | exact go_ret rfl rfl rfl rfl
    | exact go_end rfl rfl rfl rfl
    | refine go_add rfl ?_
    | refine go_mul rfl ?_
    | refine go_sub rfl (by omega) ?_
    | refine go_inc rfl rfl rfl rfl rfl ?_
    | refine go_dec rfl rfl rfl (by omega) rfl rfl ?_
    | refine go_wrth rfl (by omega) ?_
    | refine go_div rfl (by omega) ?_
    | refine go_rem rfl (by omega) ?_
    | refine go_ci rfl rfl rfl rfl rfl (n_isRule_t hM.1 hr) ?_
    | refine go_ci rfl rfl rfl rfl rfl (n_isPlace_t hk) ?_
    | refine go_ci rfl rfl rfl rfl rfl (n_to hM hr hk) ?_
    | refine go_icT rfl (by dsimp only [ncd]; omega) ?_
    | refine go_icF rfl (by dsimp only [ncd]; omega) ?_
    | refine go_ifT rfl (by dsimp only [ncd]; omega) ?_
    | refine go_ifF rfl (by dsimp only [ncd]; omega) ?_
    | refine go_ift rfl (by decide) ?_
    | refine go_s rfl ?_
    )
theorem n_goes_f1 (hn : n ≤ 8) {x y : Int32} (hx : x < 0 ∨ nI n ≤ x) : Go X (fu + 2) mX4_goes (0, [(0, .ref 36), (1, .int x), (2, .int y)], [], (cc A c1 c2 c3 c4 c5 c6 c7 c8 ++ (mm B th (nI n) (nI m) (nI c) ch (nI l.length) ++ R), e)) (.inl (some (.int (nI 0))), (cc A c1 c2 c3 c4 c5 c6 c7 c8 ++ (mm B (nI 1) (nI n) (nI m) (nI c) ch (nI l.length) ++ R), e)) := by
  refine go_s rfl ?_
  refine go_s rfl ?_
  refine go_pf (H2 := cc A c1 c2 c3 c4 c5 c6 c7 c8 ++ (mm B (nI 0) (nI n) (nI m) (nI c) ch (nI l.length) ++ R)) rfl rfl rfl rfl ?_
  repeat (first
    | exact go_ret rfl rfl rfl rfl
    | exact go_end rfl rfl rfl rfl
    | refine go_add rfl ?_
    | refine go_mul rfl ?_
    | refine go_sub rfl (by omega) ?_
    | refine go_inc rfl rfl rfl rfl rfl ?_
    | refine go_dec rfl rfl rfl (by omega) rfl rfl ?_
    | refine go_wrth rfl (by omega) ?_
    | refine go_div rfl (by omega) ?_
    | refine go_rem rfl (by omega) ?_
    | refine go_ci rfl rfl rfl rfl rfl (n_isRule_f hn hx) ?_
    | refine go_ci rfl rfl rfl rfl rfl n_no ?_
    | refine go_icT rfl (by dsimp only [ncd]; omega) ?_
    | refine go_icF rfl (by dsimp only [ncd]; omega) ?_
    | refine go_ifT rfl (by dsimp only [ncd]; omega) ?_
    | refine go_ifF rfl (by dsimp only [ncd]; omega) ?_
    | refine go_ift rfl (by decide) ?_
    | refine go_s rfl ?_
    )
theorem n_goes_f2 (hM : MR B n ps m len pr) {r : Nat} {y : Int32} (hr : r < n) (hy : y < 0 ∨ nI 6 ≤ y) : Go X (fu + 2) mX4_goes (0, [(0, .ref 36), (1, .int (nI r)), (2, .int y)], [], (cc A c1 c2 c3 c4 c5 c6 c7 c8 ++ (mm B th (nI n) (nI m) (nI c) ch (nI l.length) ++ R), e)) (.inl (some (.int (nI 0))), (cc A c1 c2 c3 c4 c5 c6 c7 c8 ++ (mm B (nI 1) (nI n) (nI m) (nI c) ch (nI l.length) ++ R), e)) := by
  refine go_s rfl ?_
  refine go_s rfl ?_
  refine go_pf (H2 := cc A c1 c2 c3 c4 c5 c6 c7 c8 ++ (mm B (nI 0) (nI n) (nI m) (nI c) ch (nI l.length) ++ R)) rfl rfl rfl rfl ?_
  repeat (first
    | exact go_ret rfl rfl rfl rfl
    | exact go_end rfl rfl rfl rfl
    | refine go_add rfl ?_
    | refine go_mul rfl ?_
    | refine go_sub rfl (by omega) ?_
    | refine go_inc rfl rfl rfl rfl rfl ?_
    | refine go_dec rfl rfl rfl (by omega) rfl rfl ?_
    | refine go_wrth rfl (by omega) ?_
    | refine go_div rfl (by omega) ?_
    | refine go_rem rfl (by omega) ?_
    | refine go_ci rfl rfl rfl rfl rfl (n_isRule_t hM.1 hr) ?_
    | refine go_ci rfl rfl rfl rfl rfl (n_isPlace_f hy) ?_
    | refine go_ci rfl rfl rfl rfl rfl n_no ?_
    | refine go_icT rfl (by dsimp only [ncd]; omega) ?_
    | refine go_icF rfl (by dsimp only [ncd]; omega) ?_
    | refine go_ifT rfl (by dsimp only [ncd]; omega) ?_
    | refine go_ifF rfl (by dsimp only [ncd]; omega) ?_
    | refine go_ift rfl (by decide) ?_
    | refine go_s rfl ?_
    )
theorem n_about_t (hM : MR B n ps m len pr) {r w : Nat} (hr : r < n) (hw : w < 5) : Go X (fu + 4) mX4_about (0, [(0, .ref 36), (1, .int (nI r)), (2, .int (nI w))], [], (cc A c1 c2 c3 c4 c5 c6 c7 c8 ++ (mm B th (nI n) (nI m) (nI c) ch (nI l.length) ++ R), e)) (.inl (some (.int (fR n ps r w))), (cc A c1 c2 c3 c4 c5 c6 c7 c8 ++ (mm B (nI 0) (nI n) (nI m) (nI c) ch (nI l.length) ++ R), e)) := by
  refine go_s rfl ?_
  refine go_s rfl ?_
  refine go_pf (H2 := cc A c1 c2 c3 c4 c5 c6 c7 c8 ++ (mm B (nI 0) (nI n) (nI m) (nI c) ch (nI l.length) ++ R)) rfl rfl rfl rfl ?_
  repeat (first
    | exact go_ret rfl rfl rfl rfl
    | exact go_end rfl rfl rfl rfl
    | refine go_add rfl ?_
    | refine go_mul rfl ?_
    | refine go_sub rfl (by omega) ?_
    | refine go_inc rfl rfl rfl rfl rfl ?_
    | refine go_dec rfl rfl rfl (by omega) rfl rfl ?_
    | refine go_wrth rfl (by omega) ?_
    | refine go_div rfl (by omega) ?_
    | refine go_rem rfl (by omega) ?_
    | refine go_ci rfl rfl rfl rfl rfl (n_isRule_t hM.1 hr) ?_
    | refine go_ci rfl rfl rfl rfl rfl (n_isIn_t (by omega)) ?_
    | refine go_ci rfl rfl rfl rfl rfl (n_aboutTold (C0 := B) hM hr hw) ?_
    | refine go_icT rfl (by dsimp only [ncd]; omega) ?_
    | refine go_icF rfl (by dsimp only [ncd]; omega) ?_
    | refine go_ifT rfl (by dsimp only [ncd]; omega) ?_
    | refine go_ifF rfl (by dsimp only [ncd]; omega) ?_
    | refine go_ift rfl (by decide) ?_
    | refine go_s rfl ?_
    )
theorem n_about_f1 (hn : n ≤ 8) {x y : Int32} (hx : x < 0 ∨ nI n ≤ x) : Go X (fu + 2) mX4_about (0, [(0, .ref 36), (1, .int x), (2, .int y)], [], (cc A c1 c2 c3 c4 c5 c6 c7 c8 ++ (mm B th (nI n) (nI m) (nI c) ch (nI l.length) ++ R), e)) (.inl (some (.int (nI 0))), (cc A c1 c2 c3 c4 c5 c6 c7 c8 ++ (mm B (nI 1) (nI n) (nI m) (nI c) ch (nI l.length) ++ R), e)) := by
  refine go_s rfl ?_
  refine go_s rfl ?_
  refine go_pf (H2 := cc A c1 c2 c3 c4 c5 c6 c7 c8 ++ (mm B (nI 0) (nI n) (nI m) (nI c) ch (nI l.length) ++ R)) rfl rfl rfl rfl ?_
  repeat (first
    | exact go_ret rfl rfl rfl rfl
    | exact go_end rfl rfl rfl rfl
    | refine go_add rfl ?_
    | refine go_mul rfl ?_
    | refine go_sub rfl (by omega) ?_
    | refine go_inc rfl rfl rfl rfl rfl ?_
    | refine go_dec rfl rfl rfl (by omega) rfl rfl ?_
    | refine go_wrth rfl (by omega) ?_
    | refine go_div rfl (by omega) ?_
    | refine go_rem rfl (by omega) ?_
    | refine go_ci rfl rfl rfl rfl rfl (n_isRule_f hn hx) ?_
    | refine go_ci rfl rfl rfl rfl rfl n_no ?_
    | refine go_icT rfl (by dsimp only [ncd]; omega) ?_
    | refine go_icF rfl (by dsimp only [ncd]; omega) ?_
    | refine go_ifT rfl (by dsimp only [ncd]; omega) ?_
    | refine go_ifF rfl (by dsimp only [ncd]; omega) ?_
    | refine go_ift rfl (by decide) ?_
    | refine go_s rfl ?_
    )
theorem n_about_f2 (hM : MR B n ps m len pr) {r : Nat} {y : Int32} (hr : r < n) (hy : y < 0 ∨ nI 5 ≤ y) : Go X (fu + 2) mX4_about (0, [(0, .ref 36), (1, .int (nI r)), (2, .int y)], [], (cc A c1 c2 c3 c4 c5 c6 c7 c8 ++ (mm B th (nI n) (nI m) (nI c) ch (nI l.length) ++ R), e)) (.inl (some (.int (nI 0))), (cc A c1 c2 c3 c4 c5 c6 c7 c8 ++ (mm B (nI 1) (nI n) (nI m) (nI c) ch (nI l.length) ++ R), e)) := by
  refine go_s rfl ?_
  refine go_s rfl ?_
  refine go_pf (H2 := cc A c1 c2 c3 c4 c5 c6 c7 c8 ++ (mm B (nI 0) (nI n) (nI m) (nI c) ch (nI l.length) ++ R)) rfl rfl rfl rfl ?_
  repeat (first
    | exact go_ret rfl rfl rfl rfl
    | exact go_end rfl rfl rfl rfl
    | refine go_add rfl ?_
    | refine go_mul rfl ?_
    | refine go_sub rfl (by omega) ?_
    | refine go_inc rfl rfl rfl rfl rfl ?_
    | refine go_dec rfl rfl rfl (by omega) rfl rfl ?_
    | refine go_wrth rfl (by omega) ?_
    | refine go_div rfl (by omega) ?_
    | refine go_rem rfl (by omega) ?_
    | refine go_ci rfl rfl rfl rfl rfl (n_isRule_t hM.1 hr) ?_
    | refine go_ci rfl rfl rfl rfl rfl (n_isIn_f (p5 hy)) ?_
    | refine go_ci rfl rfl rfl rfl rfl n_no ?_
    | refine go_icT rfl (by dsimp only [ncd]; omega) ?_
    | refine go_icF rfl (by dsimp only [ncd]; omega) ?_
    | refine go_ifT rfl (by dsimp only [ncd]; omega) ?_
    | refine go_ifF rfl (by dsimp only [ncd]; omega) ?_
    | refine go_ift rfl (by decide) ?_
    | refine go_s rfl ?_
    )
theorem n_told_t (hM : MR B n ps m len pr) (hV : VB B l) {p w : Nat} (hp : p < m) (hw : w < 5) : ∃ B2 l2, (∀ j, j < 40 → B2 j = B j) ∧ VB B2 l2 ∧ Go X (fu + 5) mX4_told (0, [(0, .ref 36), (1, .int (nI p)), (2, .int (nI w))], [], (cc A c1 c2 c3 c4 c5 c6 c7 c8 ++ (mm B th (nI n) (nI m) (nI c) ch (nI l.length) ++ R), e)) (.inl (some (.int (fP ps len pr p w))), (cc A c1 c2 c3 c4 c5 c6 c7 c8 ++ (mm B2 (nI 0) (nI n) (nI m) (nI c) ch (nI l2.length) ++ R), e)) := by
  obtain ⟨B2, l2, k2, hV2, G⟩ := n_pealTold (X := X) (fu := fu) (e := e) (A := A) (c1 := c1) (c2 := c2) (c3 := c3) (c4 := c4) (c5 := c5) (c6 := c6) (c7 := c7) (c8 := c8) (th := nI 0) (co := nI c) (ch := ch) (R := R) hM hV hp hw
  refine ⟨B2, l2, k2, hV2, ?_⟩
  refine go_s rfl ?_
  refine go_s rfl ?_
  refine go_pf (H2 := cc A c1 c2 c3 c4 c5 c6 c7 c8 ++ (mm B (nI 0) (nI n) (nI m) (nI c) ch (nI l.length) ++ R)) rfl rfl rfl rfl ?_
  repeat (first
    | exact go_ret rfl rfl rfl rfl
    | exact go_end rfl rfl rfl rfl
    | refine go_add rfl ?_
    | refine go_mul rfl ?_
    | refine go_sub rfl (by omega) ?_
    | refine go_inc rfl rfl rfl rfl rfl ?_
    | refine go_dec rfl rfl rfl (by omega) rfl rfl ?_
    | refine go_wrth rfl (by omega) ?_
    | refine go_div rfl (by omega) ?_
    | refine go_rem rfl (by omega) ?_
    | refine go_ci rfl rfl rfl rfl rfl (n_isPeal_t hM.2.1 hp) ?_
    | refine go_ci rfl rfl rfl rfl rfl (n_isIn_t (by omega)) ?_
    | refine go_ci rfl rfl rfl rfl rfl G ?_
    | refine go_icT rfl (by dsimp only [ncd]; omega) ?_
    | refine go_icF rfl (by dsimp only [ncd]; omega) ?_
    | refine go_ifT rfl (by dsimp only [ncd]; omega) ?_
    | refine go_ifF rfl (by dsimp only [ncd]; omega) ?_
    | refine go_ift rfl (by decide) ?_
    | refine go_s rfl ?_
    )
theorem n_told_f1 (hm : m ≤ 6) {x y : Int32} (hx : x < 0 ∨ nI m ≤ x) : Go X (fu + 2) mX4_told (0, [(0, .ref 36), (1, .int x), (2, .int y)], [], (cc A c1 c2 c3 c4 c5 c6 c7 c8 ++ (mm B th (nI n) (nI m) (nI c) ch (nI l.length) ++ R), e)) (.inl (some (.int (nI 0))), (cc A c1 c2 c3 c4 c5 c6 c7 c8 ++ (mm B (nI 1) (nI n) (nI m) (nI c) ch (nI l.length) ++ R), e)) := by
  refine go_s rfl ?_
  refine go_s rfl ?_
  refine go_pf (H2 := cc A c1 c2 c3 c4 c5 c6 c7 c8 ++ (mm B (nI 0) (nI n) (nI m) (nI c) ch (nI l.length) ++ R)) rfl rfl rfl rfl ?_
  repeat (first
    | exact go_ret rfl rfl rfl rfl
    | exact go_end rfl rfl rfl rfl
    | refine go_add rfl ?_
    | refine go_mul rfl ?_
    | refine go_sub rfl (by omega) ?_
    | refine go_inc rfl rfl rfl rfl rfl ?_
    | refine go_dec rfl rfl rfl (by omega) rfl rfl ?_
    | refine go_wrth rfl (by omega) ?_
    | refine go_div rfl (by omega) ?_
    | refine go_rem rfl (by omega) ?_
    | refine go_ci rfl rfl rfl rfl rfl (n_isPeal_f hm hx) ?_
    | refine go_ci rfl rfl rfl rfl rfl n_no ?_
    | refine go_icT rfl (by dsimp only [ncd]; omega) ?_
    | refine go_icF rfl (by dsimp only [ncd]; omega) ?_
    | refine go_ifT rfl (by dsimp only [ncd]; omega) ?_
    | refine go_ifF rfl (by dsimp only [ncd]; omega) ?_
    | refine go_ift rfl (by decide) ?_
    | refine go_s rfl ?_
    )
theorem n_told_f2 (hM : MR B n ps m len pr) {p : Nat} {y : Int32} (hp : p < m) (hy : y < 0 ∨ nI 5 ≤ y) : Go X (fu + 2) mX4_told (0, [(0, .ref 36), (1, .int (nI p)), (2, .int y)], [], (cc A c1 c2 c3 c4 c5 c6 c7 c8 ++ (mm B th (nI n) (nI m) (nI c) ch (nI l.length) ++ R), e)) (.inl (some (.int (nI 0))), (cc A c1 c2 c3 c4 c5 c6 c7 c8 ++ (mm B (nI 1) (nI n) (nI m) (nI c) ch (nI l.length) ++ R), e)) := by
  refine go_s rfl ?_
  refine go_s rfl ?_
  refine go_pf (H2 := cc A c1 c2 c3 c4 c5 c6 c7 c8 ++ (mm B (nI 0) (nI n) (nI m) (nI c) ch (nI l.length) ++ R)) rfl rfl rfl rfl ?_
  repeat (first
    | exact go_ret rfl rfl rfl rfl
    | exact go_end rfl rfl rfl rfl
    | refine go_add rfl ?_
    | refine go_mul rfl ?_
    | refine go_sub rfl (by omega) ?_
    | refine go_inc rfl rfl rfl rfl rfl ?_
    | refine go_dec rfl rfl rfl (by omega) rfl rfl ?_
    | refine go_wrth rfl (by omega) ?_
    | refine go_div rfl (by omega) ?_
    | refine go_rem rfl (by omega) ?_
    | refine go_ci rfl rfl rfl rfl rfl (n_isPeal_t hM.2.1 hp) ?_
    | refine go_ci rfl rfl rfl rfl rfl (n_isIn_f (p5 hy)) ?_
    | refine go_ci rfl rfl rfl rfl rfl n_no ?_
    | refine go_icT rfl (by dsimp only [ncd]; omega) ?_
    | refine go_icF rfl (by dsimp only [ncd]; omega) ?_
    | refine go_ifT rfl (by dsimp only [ncd]; omega) ?_
    | refine go_ifF rfl (by dsimp only [ncd]; omega) ?_
    | refine go_ift rfl (by decide) ?_
    | refine go_s rfl ?_
    )
theorem n_count_t (ic : isRow c) {w : Nat} (hw : w < 5) : ∃ f, Go X (fu + 3) mX4_count (0, [(0, .ref 36), (1, .int (nI w))], [], (cc A c1 c2 c3 c4 c5 c6 c7 c8 ++ (mm B th (nI n) (nI m) (nI c) ch (nI l.length) ++ R), e)) (.inl (some (.int (fC n m ch c w))), (cc A c1 c2 c3 c4 c5 c6 c7 c8 ++ (mm B (nI 0) (nI n) (nI m) (nI c) ch (nI l.length) ++ (R ++ [.inl (5, .inl f)])), e)) := by
  obtain ⟨f, G⟩ := n_counted (X := X) (fu := fu) (e := e) (A := A) (c1 := c1) (c2 := c2) (c3 := c3) (c4 := c4) (c5 := c5) (c6 := c6) (c7 := c7) (c8 := c8) (th := nI 0) (ch := ch) (sp := nI l.length) (R := R) (n := n) (m := m) (B := B) ic hw
  refine ⟨f, ?_⟩
  refine go_s rfl ?_
  refine go_s rfl ?_
  refine go_pf (H2 := cc A c1 c2 c3 c4 c5 c6 c7 c8 ++ (mm B (nI 0) (nI n) (nI m) (nI c) ch (nI l.length) ++ R)) rfl rfl rfl rfl ?_
  repeat (first
    | exact go_ret rfl rfl rfl rfl
    | exact go_end rfl rfl rfl rfl
    | refine go_add rfl ?_
    | refine go_mul rfl ?_
    | refine go_sub rfl (by omega) ?_
    | refine go_inc rfl rfl rfl rfl rfl ?_
    | refine go_dec rfl rfl rfl (by omega) rfl rfl ?_
    | refine go_wrth rfl (by omega) ?_
    | refine go_div rfl (by omega) ?_
    | refine go_rem rfl (by omega) ?_
    | refine go_ci rfl rfl rfl rfl rfl (n_isIn_t (by omega)) ?_
    | refine go_ci rfl rfl rfl rfl rfl G ?_
    | refine go_icT rfl (by dsimp only [ncd]; omega) ?_
    | refine go_icF rfl (by dsimp only [ncd]; omega) ?_
    | refine go_ifT rfl (by dsimp only [ncd]; omega) ?_
    | refine go_ifF rfl (by dsimp only [ncd]; omega) ?_
    | refine go_ift rfl (by decide) ?_
    | refine go_s rfl ?_
    )
theorem n_count_f {y : Int32} (hy : y < 0 ∨ nI 5 ≤ y) : Go X (fu + 2) mX4_count (0, [(0, .ref 36), (1, .int y)], [], (cc A c1 c2 c3 c4 c5 c6 c7 c8 ++ (mm B th (nI n) (nI m) (nI c) ch (nI l.length) ++ R), e)) (.inl (some (.int (nI 0))), (cc A c1 c2 c3 c4 c5 c6 c7 c8 ++ (mm B (nI 1) (nI n) (nI m) (nI c) ch (nI l.length) ++ R), e)) := by
  refine go_s rfl ?_
  refine go_s rfl ?_
  refine go_pf (H2 := cc A c1 c2 c3 c4 c5 c6 c7 c8 ++ (mm B (nI 0) (nI n) (nI m) (nI c) ch (nI l.length) ++ R)) rfl rfl rfl rfl ?_
  repeat (first
    | exact go_ret rfl rfl rfl rfl
    | exact go_end rfl rfl rfl rfl
    | refine go_add rfl ?_
    | refine go_mul rfl ?_
    | refine go_sub rfl (by omega) ?_
    | refine go_inc rfl rfl rfl rfl rfl ?_
    | refine go_dec rfl rfl rfl (by omega) rfl rfl ?_
    | refine go_wrth rfl (by omega) ?_
    | refine go_div rfl (by omega) ?_
    | refine go_rem rfl (by omega) ?_
    | refine go_ci rfl rfl rfl rfl rfl (n_isIn_f (p5 hy)) ?_
    | refine go_ci rfl rfl rfl rfl rfl n_no ?_
    | refine go_icT rfl (by dsimp only [ncd]; omega) ?_
    | refine go_icF rfl (by dsimp only [ncd]; omega) ?_
    | refine go_ifT rfl (by dsimp only [ncd]; omega) ?_
    | refine go_ifF rfl (by dsimp only [ncd]; omega) ?_
    | refine go_ift rfl (by decide) ?_
    | refine go_s rfl ?_
    )
theorem n_swaps_t (hM : MR B n ps m len pr) {a b : Nat} (ha : a < n) (hb : b < n) : Go X (fu + 3) mX4_swaps (0, [(0, .ref 36), (1, .int (nI a)), (2, .int (nI b))], [], (cc A c1 c2 c3 c4 c5 c6 c7 c8 ++ (mm B th (nI n) (nI m) (nI c) ch (nI l.length) ++ R), e)) (.inl (some (.int (nI (al (fun k => Nat.beq (dg (ps b) (dg (ps a) k)) (dg (ps a) (dg (ps b) k))) 6 0)))), (cc A c1 c2 c3 c4 c5 c6 c7 c8 ++ (mm B (nI 0) (nI n) (nI m) (nI c) ch (nI l.length) ++ R), e)) := by
  have ia := hM.2.2.1 a ha
  have ib := hM.2.2.1 b hb
  have ra := rng_row R0_row ia
  have rb := rng_row R0_row ib
  have rab := row_lt (rng_row ra ib)
  have rba := row_lt (rng_row rb ia)
  have G1 := n_ringed (X := X) (fu := fu + 1) (e := e) (A := A) (c1 := c1) (c2 := c2) (c3 := c3) (c4 := c4) (c5 := c5) (c6 := c6) (c7 := c7) (c8 := c8) (th := nI 0) (co := nI c) (ch := ch) (sp := nI l.length) (R := R) hM (c := R0) (row_lt R0_row) ha
  have G2 := n_ringed (X := X) (fu := fu + 1) (e := e) (A := A) (c1 := c1) (c2 := c2) (c3 := c3) (c4 := c4) (c5 := c5) (c6 := c6) (c7 := c7) (c8 := c8) (th := nI 0) (co := nI c) (ch := ch) (sp := nI l.length) (R := R) hM (row_lt ra) hb
  have G3 := n_ringed (X := X) (fu := fu + 1) (e := e) (A := A) (c1 := c1) (c2 := c2) (c3 := c3) (c4 := c4) (c5 := c5) (c6 := c6) (c7 := c7) (c8 := c8) (th := nI 0) (co := nI c) (ch := ch) (sp := nI l.length) (R := R) hM (c := R0) (row_lt R0_row) hb
  have G4 := n_ringed (X := X) (fu := fu + 1) (e := e) (A := A) (c1 := c1) (c2 := c2) (c3 := c3) (c4 := c4) (c5 := c5) (c6 := c6) (c7 := c7) (c8 := c8) (th := nI 0) (co := nI c) (ch := ch) (sp := nI l.length) (R := R) hM (row_lt rb) ha
  have hi := swap_iff ia ib
  have hl := al_le (fun k => Nat.beq (dg (ps b) (dg (ps a) k)) (dg (ps a) (dg (ps b) k))) 6 0
  generalize al (fun k => Nat.beq (dg (ps b) (dg (ps a) k)) (dg (ps a) (dg (ps b) k))) 6 0 = z at *
  have IA := n_isRule_t (X := X) (fu := fu + 1) (e := e) (A := A) (c1 := c1) (c2 := c2) (c3 := c3) (c4 := c4) (c5 := c5) (c6 := c6) (c7 := c7) (c8 := c8) (th := nI 0) (co := nI c) (ch := ch) (sp := nI l.length) (R := R) (B := B) (m := m) hM.1 ha
  have IB := n_isRule_t (X := X) (fu := fu + 1) (e := e) (A := A) (c1 := c1) (c2 := c2) (c3 := c3) (c4 := c4) (c5 := c5) (c6 := c6) (c7 := c7) (c8 := c8) (th := nI 0) (co := nI c) (ch := ch) (sp := nI l.length) (R := R) (B := B) (m := m) hM.1 hb
  by_cases e1 : rng (rng R0 (ps a)) (ps b) = rng (rng R0 (ps b)) (ps a)
  · obtain rfl : z = 1 := hi.mpr e1
    refine go_s rfl ?_
    refine go_s rfl ?_
    refine go_pf (H2 := cc A c1 c2 c3 c4 c5 c6 c7 c8 ++ (mm B (nI 0) (nI n) (nI m) (nI c) ch (nI l.length) ++ R)) rfl rfl rfl rfl ?_
    repeat (first
      | exact go_ret rfl rfl rfl rfl
      | exact go_end rfl rfl rfl rfl
      | refine go_add rfl ?_
      | refine go_mul rfl ?_
      | refine go_sub rfl (by omega) ?_
      | refine go_inc rfl rfl rfl rfl rfl ?_
      | refine go_dec rfl rfl rfl (by omega) rfl rfl ?_
      | refine go_wrth rfl (by omega) ?_
      | refine go_div rfl (by omega) ?_
      | refine go_rem rfl (by omega) ?_
      | refine go_ci rfl rfl rfl rfl rfl IA ?_
      | refine go_ci rfl rfl rfl rfl rfl IB ?_
      | refine go_ci rfl rfl rfl rfl rfl G1 ?_
      | refine go_ci rfl rfl rfl rfl rfl G2 ?_
      | refine go_ci rfl rfl rfl rfl rfl G3 ?_
      | refine go_ci rfl rfl rfl rfl rfl G4 ?_
      | refine go_icT rfl (by dsimp only [ncd]; omega) ?_
      | refine go_icF rfl (by dsimp only [ncd]; omega) ?_
      | refine go_ifT rfl (by dsimp only [ncd]; omega) ?_
      | refine go_ifF rfl (by dsimp only [ncd]; omega) ?_
      | refine go_ift rfl (by decide) ?_
      | refine go_s rfl ?_
      )
  · obtain rfl : z = 0 := by
      by_cases q : z = 1
      · exact absurd (hi.mp q) e1
      · omega
    refine go_s rfl ?_
    refine go_s rfl ?_
    refine go_pf (H2 := cc A c1 c2 c3 c4 c5 c6 c7 c8 ++ (mm B (nI 0) (nI n) (nI m) (nI c) ch (nI l.length) ++ R)) rfl rfl rfl rfl ?_
    repeat (first
      | exact go_ret rfl rfl rfl rfl
      | exact go_end rfl rfl rfl rfl
      | refine go_add rfl ?_
      | refine go_mul rfl ?_
      | refine go_sub rfl (by omega) ?_
      | refine go_inc rfl rfl rfl rfl rfl ?_
      | refine go_dec rfl rfl rfl (by omega) rfl rfl ?_
      | refine go_wrth rfl (by omega) ?_
      | refine go_div rfl (by omega) ?_
      | refine go_rem rfl (by omega) ?_
      | refine go_ci rfl rfl rfl rfl rfl IA ?_
      | refine go_ci rfl rfl rfl rfl rfl IB ?_
      | refine go_ci rfl rfl rfl rfl rfl G1 ?_
      | refine go_ci rfl rfl rfl rfl rfl G2 ?_
      | refine go_ci rfl rfl rfl rfl rfl G3 ?_
      | refine go_ci rfl rfl rfl rfl rfl G4 ?_
      | refine go_icT rfl (by dsimp only [ncd]; omega) ?_
      | refine go_icF rfl (by dsimp only [ncd]; omega) ?_
      | refine go_ifT rfl (by dsimp only [ncd]; omega) ?_
      | refine go_ifF rfl (by dsimp only [ncd]; omega) ?_
      | refine go_ift rfl (by decide) ?_
      | refine go_s rfl ?_
      )
theorem n_swaps_f1 (hn : n ≤ 8) {x y : Int32} (hx : x < 0 ∨ nI n ≤ x) : Go X (fu + 2) mX4_swaps (0, [(0, .ref 36), (1, .int x), (2, .int y)], [], (cc A c1 c2 c3 c4 c5 c6 c7 c8 ++ (mm B th (nI n) (nI m) (nI c) ch (nI l.length) ++ R), e)) (.inl (some (.int (nI 0))), (cc A c1 c2 c3 c4 c5 c6 c7 c8 ++ (mm B (nI 1) (nI n) (nI m) (nI c) ch (nI l.length) ++ R), e)) := by
  refine go_s rfl ?_
  refine go_s rfl ?_
  refine go_pf (H2 := cc A c1 c2 c3 c4 c5 c6 c7 c8 ++ (mm B (nI 0) (nI n) (nI m) (nI c) ch (nI l.length) ++ R)) rfl rfl rfl rfl ?_
  repeat (first
    | exact go_ret rfl rfl rfl rfl
    | exact go_end rfl rfl rfl rfl
    | refine go_add rfl ?_
    | refine go_mul rfl ?_
    | refine go_sub rfl (by omega) ?_
    | refine go_inc rfl rfl rfl rfl rfl ?_
    | refine go_dec rfl rfl rfl (by omega) rfl rfl ?_
    | refine go_wrth rfl (by omega) ?_
    | refine go_div rfl (by omega) ?_
    | refine go_rem rfl (by omega) ?_
    | refine go_ci rfl rfl rfl rfl rfl (n_isRule_f hn hx) ?_
    | refine go_ci rfl rfl rfl rfl rfl n_no ?_
    | refine go_icT rfl (by dsimp only [ncd]; omega) ?_
    | refine go_icF rfl (by dsimp only [ncd]; omega) ?_
    | refine go_ifT rfl (by dsimp only [ncd]; omega) ?_
    | refine go_ifF rfl (by dsimp only [ncd]; omega) ?_
    | refine go_ift rfl (by decide) ?_
    | refine go_s rfl ?_
    )
theorem n_swaps_f2 (hM : MR B n ps m len pr) {r : Nat} {x : Int32} (hr : r < n) (hx : x < 0 ∨ nI n ≤ x) : Go X (fu + 2) mX4_swaps (0, [(0, .ref 36), (1, .int (nI r)), (2, .int x)], [], (cc A c1 c2 c3 c4 c5 c6 c7 c8 ++ (mm B th (nI n) (nI m) (nI c) ch (nI l.length) ++ R), e)) (.inl (some (.int (nI 0))), (cc A c1 c2 c3 c4 c5 c6 c7 c8 ++ (mm B (nI 1) (nI n) (nI m) (nI c) ch (nI l.length) ++ R), e)) := by
  have hn := hM.1
  refine go_s rfl ?_
  refine go_s rfl ?_
  refine go_pf (H2 := cc A c1 c2 c3 c4 c5 c6 c7 c8 ++ (mm B (nI 0) (nI n) (nI m) (nI c) ch (nI l.length) ++ R)) rfl rfl rfl rfl ?_
  repeat (first
    | exact go_ret rfl rfl rfl rfl
    | exact go_end rfl rfl rfl rfl
    | refine go_add rfl ?_
    | refine go_mul rfl ?_
    | refine go_sub rfl (by omega) ?_
    | refine go_inc rfl rfl rfl rfl rfl ?_
    | refine go_dec rfl rfl rfl (by omega) rfl rfl ?_
    | refine go_wrth rfl (by omega) ?_
    | refine go_div rfl (by omega) ?_
    | refine go_rem rfl (by omega) ?_
    | refine go_ci rfl rfl rfl rfl rfl (n_isRule_t hM.1 hr) ?_
    | refine go_ci rfl rfl rfl rfl rfl (n_isRule_f hn hx) ?_
    | refine go_ci rfl rfl rfl rfl rfl n_no ?_
    | refine go_icT rfl (by dsimp only [ncd]; omega) ?_
    | refine go_icF rfl (by dsimp only [ncd]; omega) ?_
    | refine go_ifT rfl (by dsimp only [ncd]; omega) ?_
    | refine go_ifF rfl (by dsimp only [ncd]; omega) ?_
    | refine go_ift rfl (by decide) ?_
    | refine go_s rfl ?_
    )
theorem n_ring_t (hM : MR B n ps m len pr) (ic : isRow c) {r : Nat} (hr : r < n) : Go X (fu + 2) mX4_ring (0, [(0, .ref 36), (1, .int (nI r))], [], (cc A c1 c2 c3 c4 c5 c6 c7 c8 ++ (mm B th (nI n) (nI m) (nI c) ch (nI l.length) ++ R), e)) (.inl (some (.int (nI (rng c (ps r))))), (cc A c1 c2 c3 c4 c5 c6 c7 c8 ++ (mm B (nI 0) (nI n) (nI m) (nI (rng c (ps r))) (ch + nI 1) (nI l.length) ++ R), e)) := by
  have lc := row_lt ic
  refine go_s rfl ?_
  refine go_s rfl ?_
  refine go_pf (H2 := cc A c1 c2 c3 c4 c5 c6 c7 c8 ++ (mm B (nI 0) (nI n) (nI m) (nI c) ch (nI l.length) ++ R)) rfl rfl rfl rfl ?_
  repeat (first
    | exact go_ret rfl rfl rfl rfl
    | exact go_end rfl rfl rfl rfl
    | refine go_add rfl ?_
    | refine go_mul rfl ?_
    | refine go_sub rfl (by omega) ?_
    | refine go_inc rfl rfl rfl rfl rfl ?_
    | refine go_dec rfl rfl rfl (by omega) rfl rfl ?_
    | refine go_wrth rfl (by omega) ?_
    | refine go_div rfl (by omega) ?_
    | refine go_rem rfl (by omega) ?_
    | refine go_ci rfl rfl rfl rfl rfl (n_isRule_t hM.1 hr) ?_
    | refine go_ci rfl rfl rfl rfl rfl (n_ringed hM lc hr) ?_
    | refine go_icT rfl (by dsimp only [ncd]; omega) ?_
    | refine go_icF rfl (by dsimp only [ncd]; omega) ?_
    | refine go_ifT rfl (by dsimp only [ncd]; omega) ?_
    | refine go_ifF rfl (by dsimp only [ncd]; omega) ?_
    | refine go_ift rfl (by decide) ?_
    | refine go_s rfl ?_
    )
theorem n_ring_f (hn : n ≤ 8) {x : Int32} (hx : x < 0 ∨ nI n ≤ x) : Go X (fu + 2) mX4_ring (0, [(0, .ref 36), (1, .int x)], [], (cc A c1 c2 c3 c4 c5 c6 c7 c8 ++ (mm B th (nI n) (nI m) (nI c) ch (nI l.length) ++ R), e)) (.inl (some (.int (nI 0))), (cc A c1 c2 c3 c4 c5 c6 c7 c8 ++ (mm B (nI 1) (nI n) (nI m) (nI c) ch (nI l.length) ++ R), e)) := by
  refine go_s rfl ?_
  refine go_s rfl ?_
  refine go_pf (H2 := cc A c1 c2 c3 c4 c5 c6 c7 c8 ++ (mm B (nI 0) (nI n) (nI m) (nI c) ch (nI l.length) ++ R)) rfl rfl rfl rfl ?_
  repeat (first
    | exact go_ret rfl rfl rfl rfl
    | exact go_end rfl rfl rfl rfl
    | refine go_add rfl ?_
    | refine go_mul rfl ?_
    | refine go_sub rfl (by omega) ?_
    | refine go_inc rfl rfl rfl rfl rfl ?_
    | refine go_dec rfl rfl rfl (by omega) rfl rfl ?_
    | refine go_wrth rfl (by omega) ?_
    | refine go_div rfl (by omega) ?_
    | refine go_rem rfl (by omega) ?_
    | refine go_ci rfl rfl rfl rfl rfl (n_isRule_f hn hx) ?_
    | refine go_ci rfl rfl rfl rfl rfl n_no ?_
    | refine go_icT rfl (by dsimp only [ncd]; omega) ?_
    | refine go_icF rfl (by dsimp only [ncd]; omega) ?_
    | refine go_ifT rfl (by dsimp only [ncd]; omega) ?_
    | refine go_ifF rfl (by dsimp only [ncd]; omega) ?_
    | refine go_ift rfl (by decide) ?_
    | refine go_s rfl ?_
    )
theorem n_undo_t (hM : MR B n ps m len pr) (ic : isRow c) {r : Nat} (hr : r < n) : Go X (fu + 2) mX4_undo (0, [(0, .ref 36), (1, .int (nI r))], [], (cc A c1 c2 c3 c4 c5 c6 c7 c8 ++ (mm B th (nI n) (nI m) (nI c) ch (nI l.length) ++ R), e)) (.inl (some (.int (nI (cmp c (ps r))))), (cc A c1 c2 c3 c4 c5 c6 c7 c8 ++ (mm B (nI 0) (nI n) (nI m) (nI (cmp c (ps r))) (ch + nI 1) (nI l.length) ++ R), e)) := by
  have lc := row_lt ic
  refine go_s rfl ?_
  refine go_s rfl ?_
  refine go_pf (H2 := cc A c1 c2 c3 c4 c5 c6 c7 c8 ++ (mm B (nI 0) (nI n) (nI m) (nI c) ch (nI l.length) ++ R)) rfl rfl rfl rfl ?_
  repeat (first
    | exact go_ret rfl rfl rfl rfl
    | exact go_end rfl rfl rfl rfl
    | refine go_add rfl ?_
    | refine go_mul rfl ?_
    | refine go_sub rfl (by omega) ?_
    | refine go_inc rfl rfl rfl rfl rfl ?_
    | refine go_dec rfl rfl rfl (by omega) rfl rfl ?_
    | refine go_wrth rfl (by omega) ?_
    | refine go_div rfl (by omega) ?_
    | refine go_rem rfl (by omega) ?_
    | refine go_ci rfl rfl rfl rfl rfl (n_isRule_t hM.1 hr) ?_
    | refine go_ci rfl rfl rfl rfl rfl (n_undone hM lc hr) ?_
    | refine go_icT rfl (by dsimp only [ncd]; omega) ?_
    | refine go_icF rfl (by dsimp only [ncd]; omega) ?_
    | refine go_ifT rfl (by dsimp only [ncd]; omega) ?_
    | refine go_ifF rfl (by dsimp only [ncd]; omega) ?_
    | refine go_ift rfl (by decide) ?_
    | refine go_s rfl ?_
    )
theorem n_undo_f (hn : n ≤ 8) {x : Int32} (hx : x < 0 ∨ nI n ≤ x) : Go X (fu + 2) mX4_undo (0, [(0, .ref 36), (1, .int x)], [], (cc A c1 c2 c3 c4 c5 c6 c7 c8 ++ (mm B th (nI n) (nI m) (nI c) ch (nI l.length) ++ R), e)) (.inl (some (.int (nI 0))), (cc A c1 c2 c3 c4 c5 c6 c7 c8 ++ (mm B (nI 1) (nI n) (nI m) (nI c) ch (nI l.length) ++ R), e)) := by
  refine go_s rfl ?_
  refine go_s rfl ?_
  refine go_pf (H2 := cc A c1 c2 c3 c4 c5 c6 c7 c8 ++ (mm B (nI 0) (nI n) (nI m) (nI c) ch (nI l.length) ++ R)) rfl rfl rfl rfl ?_
  repeat (first
    | exact go_ret rfl rfl rfl rfl
    | exact go_end rfl rfl rfl rfl
    | refine go_add rfl ?_
    | refine go_mul rfl ?_
    | refine go_sub rfl (by omega) ?_
    | refine go_inc rfl rfl rfl rfl rfl ?_
    | refine go_dec rfl rfl rfl (by omega) rfl rfl ?_
    | refine go_wrth rfl (by omega) ?_
    | refine go_div rfl (by omega) ?_
    | refine go_rem rfl (by omega) ?_
    | refine go_ci rfl rfl rfl rfl rfl (n_isRule_f hn hx) ?_
    | refine go_ci rfl rfl rfl rfl rfl n_no ?_
    | refine go_icT rfl (by dsimp only [ncd]; omega) ?_
    | refine go_icF rfl (by dsimp only [ncd]; omega) ?_
    | refine go_ifT rfl (by dsimp only [ncd]; omega) ?_
    | refine go_ifF rfl (by dsimp only [ncd]; omega) ?_
    | refine go_ift rfl (by decide) ?_
    | refine go_s rfl ?_
    )
theorem n_at_t (ic : isRow c) {k : Nat} (hk : k < 6) : Go X (fu + 2) mX4_at (0, [(0, .ref 36), (1, .int (nI k))], [], (cc A c1 c2 c3 c4 c5 c6 c7 c8 ++ (mm B th (nI n) (nI m) (nI c) ch (nI l.length) ++ R), e)) (.inl (some (.int (nI (dg c k)))), (cc A c1 c2 c3 c4 c5 c6 c7 c8 ++ (mm B (nI 0) (nI n) (nI m) (nI c) ch (nI l.length) ++ R), e)) := by
  have lc := row_lt ic
  refine go_s rfl ?_
  refine go_s rfl ?_
  refine go_pf (H2 := cc A c1 c2 c3 c4 c5 c6 c7 c8 ++ (mm B (nI 0) (nI n) (nI m) (nI c) ch (nI l.length) ++ R)) rfl rfl rfl rfl ?_
  repeat (first
    | exact go_ret rfl rfl rfl rfl
    | exact go_end rfl rfl rfl rfl
    | refine go_add rfl ?_
    | refine go_mul rfl ?_
    | refine go_sub rfl (by omega) ?_
    | refine go_inc rfl rfl rfl rfl rfl ?_
    | refine go_dec rfl rfl rfl (by omega) rfl rfl ?_
    | refine go_wrth rfl (by omega) ?_
    | refine go_div rfl (by omega) ?_
    | refine go_rem rfl (by omega) ?_
    | refine go_ci rfl rfl rfl rfl rfl (n_isPlace_t hk) ?_
    | refine go_ci rfl rfl rfl rfl rfl (n_digit lc hk) ?_
    | refine go_icT rfl (by dsimp only [ncd]; omega) ?_
    | refine go_icF rfl (by dsimp only [ncd]; omega) ?_
    | refine go_ifT rfl (by dsimp only [ncd]; omega) ?_
    | refine go_ifF rfl (by dsimp only [ncd]; omega) ?_
    | refine go_ift rfl (by decide) ?_
    | refine go_s rfl ?_
    )
theorem n_at_f {y : Int32} (hy : y < 0 ∨ nI 6 ≤ y) : Go X (fu + 2) mX4_at (0, [(0, .ref 36), (1, .int y)], [], (cc A c1 c2 c3 c4 c5 c6 c7 c8 ++ (mm B th (nI n) (nI m) (nI c) ch (nI l.length) ++ R), e)) (.inl (some (.int (nI 0))), (cc A c1 c2 c3 c4 c5 c6 c7 c8 ++ (mm B (nI 1) (nI n) (nI m) (nI c) ch (nI l.length) ++ R), e)) := by
  refine go_s rfl ?_
  refine go_s rfl ?_
  refine go_pf (H2 := cc A c1 c2 c3 c4 c5 c6 c7 c8 ++ (mm B (nI 0) (nI n) (nI m) (nI c) ch (nI l.length) ++ R)) rfl rfl rfl rfl ?_
  repeat (first
    | exact go_ret rfl rfl rfl rfl
    | exact go_end rfl rfl rfl rfl
    | refine go_add rfl ?_
    | refine go_mul rfl ?_
    | refine go_sub rfl (by omega) ?_
    | refine go_inc rfl rfl rfl rfl rfl ?_
    | refine go_dec rfl rfl rfl (by omega) rfl rfl ?_
    | refine go_wrth rfl (by omega) ?_
    | refine go_div rfl (by omega) ?_
    | refine go_rem rfl (by omega) ?_
    | refine go_ci rfl rfl rfl rfl rfl (n_isPlace_f hy) ?_
    | refine go_ci rfl rfl rfl rfl rfl n_no ?_
    | refine go_icT rfl (by dsimp only [ncd]; omega) ?_
    | refine go_icF rfl (by dsimp only [ncd]; omega) ?_
    | refine go_ifT rfl (by dsimp only [ncd]; omega) ?_
    | refine go_ifF rfl (by dsimp only [ncd]; omega) ?_
    | refine go_ift rfl (by decide) ?_
    | refine go_s rfl ?_
    )
theorem n_find_loop (ic : isRow c) {k0 : Nat} (h0 : k0 < 6) : ∀ (q k : Nat), k + q = k0 → Go X (fu + 1) mX4_find (20, [(0, .ref 36), (1, .int (nI (dg c k0))), (2, .int (nI k))], [], (cc A c1 c2 c3 c4 c5 c6 c7 c8 ++ (mm B th (nI n) (nI m) (nI c) ch (nI l.length) ++ R), e)) (.inl (some (.int (nI k0))), (cc A c1 c2 c3 c4 c5 c6 c7 c8 ++ (mm B th (nI n) (nI m) (nI c) ch (nI l.length) ++ R), e)) := by
  have lc := row_lt ic
  have d0 := dg_lt c k0
  intro q
  induction q with
  | zero =>
    intro k hk
    obtain rfl : k = k0 := by omega
    repeat (first
      | exact go_ret rfl rfl rfl rfl
      | exact go_end rfl rfl rfl rfl
      | refine go_add rfl ?_
      | refine go_mul rfl ?_
      | refine go_sub rfl (by omega) ?_
      | refine go_inc rfl rfl rfl rfl rfl ?_
      | refine go_dec rfl rfl rfl (by omega) rfl rfl ?_
      | refine go_wrth rfl (by omega) ?_
      | refine go_div rfl (by omega) ?_
      | refine go_rem rfl (by omega) ?_
      | refine go_ci rfl rfl rfl rfl rfl (n_digit lc (by omega)) ?_
      | refine go_icT rfl (by dsimp only [ncd]; omega) ?_
      | refine go_icF rfl (by dsimp only [ncd]; omega) ?_
      | refine go_ifT rfl (by dsimp only [ncd]; omega) ?_
      | refine go_ifF rfl (by dsimp only [ncd]; omega) ?_
      | refine go_ift rfl (by decide) ?_
      | refine go_s rfl ?_
      )
  | succ q ih =>
    intro k hk
    have d1 := dg_lt c k
    have e2 : dg c k ≠ dg c k0 := fun z => by
      have := row_inj ic _ _ (by omega) h0 z
      omega
    have K := ih (k + 1) (by omega)
    repeat (first
      | exact K
      | exact go_ret rfl rfl rfl rfl
      | exact go_end rfl rfl rfl rfl
      | refine go_add rfl ?_
      | refine go_mul rfl ?_
      | refine go_sub rfl (by omega) ?_
      | refine go_inc rfl rfl rfl rfl rfl ?_
      | refine go_dec rfl rfl rfl (by omega) rfl rfl ?_
      | refine go_wrth rfl (by omega) ?_
      | refine go_div rfl (by omega) ?_
      | refine go_rem rfl (by omega) ?_
      | refine go_ci rfl rfl rfl rfl rfl (n_digit lc (by omega)) ?_
      | refine go_icT rfl (by dsimp only [ncd]; omega) ?_
      | refine go_icF rfl (by dsimp only [ncd]; omega) ?_
      | refine go_ifT rfl (by dsimp only [ncd]; omega) ?_
      | refine go_ifF rfl (by dsimp only [ncd]; omega) ?_
      | refine go_ift rfl (by decide) ?_
      | refine go_s rfl ?_
      )
theorem n_find_t (ic : isRow c) {v : Nat} (hv : v < 6) : Go X (fu + 2) mX4_find (0, [(0, .ref 36), (1, .int (nI v))], [], (cc A c1 c2 c3 c4 c5 c6 c7 c8 ++ (mm B th (nI n) (nI m) (nI c) ch (nI l.length) ++ R), e)) (.inl (some (.int (nI (dg (inv c) v)))), (cc A c1 c2 c3 c4 c5 c6 c7 c8 ++ (mm B (nI 0) (nI n) (nI m) (nI c) ch (nI l.length) ++ R), e)) := by
  obtain ⟨k0, h0, rfl⟩ := row_onto ic hv
  rw [(inv_dg ic h0).1]
  have K := n_find_loop (X := X) (fu := fu + 1) (e := e) (A := A) (c1 := c1) (c2 := c2) (c3 := c3) (c4 := c4) (c5 := c5) (c6 := c6) (c7 := c7) (c8 := c8) (th := nI 0) (ch := ch) (R := R) (l := l) (B := B) (n := n) (m := m) ic h0 k0 0 (by omega)
  refine go_s rfl ?_
  refine go_s rfl ?_
  refine go_pf (H2 := cc A c1 c2 c3 c4 c5 c6 c7 c8 ++ (mm B (nI 0) (nI n) (nI m) (nI c) ch (nI l.length) ++ R)) rfl rfl rfl rfl ?_
  repeat (first
    | exact K
    | exact go_ret rfl rfl rfl rfl
    | exact go_end rfl rfl rfl rfl
    | refine go_add rfl ?_
    | refine go_mul rfl ?_
    | refine go_sub rfl (by omega) ?_
    | refine go_inc rfl rfl rfl rfl rfl ?_
    | refine go_dec rfl rfl rfl (by omega) rfl rfl ?_
    | refine go_wrth rfl (by omega) ?_
    | refine go_div rfl (by omega) ?_
    | refine go_rem rfl (by omega) ?_
    | refine go_ci rfl rfl rfl rfl rfl (n_isPlace_t hv) ?_
    | refine go_icT rfl (by dsimp only [ncd]; omega) ?_
    | refine go_icF rfl (by dsimp only [ncd]; omega) ?_
    | refine go_ifT rfl (by dsimp only [ncd]; omega) ?_
    | refine go_ifF rfl (by dsimp only [ncd]; omega) ?_
    | refine go_ift rfl (by decide) ?_
    | refine go_s rfl ?_
    )
theorem n_find_f {y : Int32} (hy : y < 0 ∨ nI 6 ≤ y) : Go X (fu + 2) mX4_find (0, [(0, .ref 36), (1, .int y)], [], (cc A c1 c2 c3 c4 c5 c6 c7 c8 ++ (mm B th (nI n) (nI m) (nI c) ch (nI l.length) ++ R), e)) (.inl (some (.int (nI 0))), (cc A c1 c2 c3 c4 c5 c6 c7 c8 ++ (mm B (nI 1) (nI n) (nI m) (nI c) ch (nI l.length) ++ R), e)) := by
  refine go_s rfl ?_
  refine go_s rfl ?_
  refine go_pf (H2 := cc A c1 c2 c3 c4 c5 c6 c7 c8 ++ (mm B (nI 0) (nI n) (nI m) (nI c) ch (nI l.length) ++ R)) rfl rfl rfl rfl ?_
  repeat (first
    | exact go_ret rfl rfl rfl rfl
    | exact go_end rfl rfl rfl rfl
    | refine go_add rfl ?_
    | refine go_mul rfl ?_
    | refine go_sub rfl (by omega) ?_
    | refine go_inc rfl rfl rfl rfl rfl ?_
    | refine go_dec rfl rfl rfl (by omega) rfl rfl ?_
    | refine go_wrth rfl (by omega) ?_
    | refine go_div rfl (by omega) ?_
    | refine go_rem rfl (by omega) ?_
    | refine go_ci rfl rfl rfl rfl rfl (n_isPlace_f hy) ?_
    | refine go_ci rfl rfl rfl rfl rfl n_no ?_
    | refine go_icT rfl (by dsimp only [ncd]; omega) ?_
    | refine go_icF rfl (by dsimp only [ncd]; omega) ?_
    | refine go_ifT rfl (by dsimp only [ncd]; omega) ?_
    | refine go_ifF rfl (by dsimp only [ncd]; omega) ?_
    | refine go_ift rfl (by decide) ?_
    | refine go_s rfl ?_
    )
theorem n_set_t {its : Nat} (ii : isRow its) : Go X (fu + 2) mX4_set (0, [(0, .ref 36), (1, .int (nI its))], [], (cc A c1 c2 c3 c4 c5 c6 c7 c8 ++ (mm B th (nI n) (nI m) (nI c) ch (nI l.length) ++ R), e)) (.inl (some (.int (nI c))), (cc A c1 c2 c3 c4 c5 c6 c7 c8 ++ (mm B (nI 0) (nI n) (nI m) (nI its) ch (nI l.length) ++ R), e)) := by
  refine go_s rfl ?_
  refine go_s rfl ?_
  refine go_pf (H2 := cc A c1 c2 c3 c4 c5 c6 c7 c8 ++ (mm B (nI 0) (nI n) (nI m) (nI c) ch (nI l.length) ++ R)) rfl rfl rfl rfl ?_
  repeat (first
    | exact go_ret rfl rfl rfl rfl
    | exact go_end rfl rfl rfl rfl
    | refine go_add rfl ?_
    | refine go_mul rfl ?_
    | refine go_sub rfl (by omega) ?_
    | refine go_inc rfl rfl rfl rfl rfl ?_
    | refine go_dec rfl rfl rfl (by omega) rfl rfl ?_
    | refine go_wrth rfl (by omega) ?_
    | refine go_div rfl (by omega) ?_
    | refine go_rem rfl (by omega) ?_
    | refine go_ci rfl rfl rfl rfl rfl (n_isRow_t ii) ?_
    | refine go_icT rfl (by dsimp only [ncd]; omega) ?_
    | refine go_icF rfl (by dsimp only [ncd]; omega) ?_
    | refine go_ifT rfl (by dsimp only [ncd]; omega) ?_
    | refine go_ifF rfl (by dsimp only [ncd]; omega) ?_
    | refine go_ift rfl (by decide) ?_
    | refine go_s rfl ?_
    )
theorem n_set_f {x : Int32} (hx : ∀ c, isRow c → x ≠ nI c) : Go X (fu + 2) mX4_set (0, [(0, .ref 36), (1, .int x)], [], (cc A c1 c2 c3 c4 c5 c6 c7 c8 ++ (mm B th (nI n) (nI m) (nI c) ch (nI l.length) ++ R), e)) (.inl (some (.int (nI 0))), (cc A c1 c2 c3 c4 c5 c6 c7 c8 ++ (mm B (nI 1) (nI n) (nI m) (nI c) ch (nI l.length) ++ R), e)) := by
  refine go_s rfl ?_
  refine go_s rfl ?_
  refine go_pf (H2 := cc A c1 c2 c3 c4 c5 c6 c7 c8 ++ (mm B (nI 0) (nI n) (nI m) (nI c) ch (nI l.length) ++ R)) rfl rfl rfl rfl ?_
  repeat (first
    | exact go_ret rfl rfl rfl rfl
    | exact go_end rfl rfl rfl rfl
    | refine go_add rfl ?_
    | refine go_mul rfl ?_
    | refine go_sub rfl (by omega) ?_
    | refine go_inc rfl rfl rfl rfl rfl ?_
    | refine go_dec rfl rfl rfl (by omega) rfl rfl ?_
    | refine go_wrth rfl (by omega) ?_
    | refine go_div rfl (by omega) ?_
    | refine go_rem rfl (by omega) ?_
    | refine go_ci rfl rfl rfl rfl rfl (n_isRow_f hx) ?_
    | refine go_ci rfl rfl rfl rfl rfl n_no ?_
    | refine go_icT rfl (by dsimp only [ncd]; omega) ?_
    | refine go_icF rfl (by dsimp only [ncd]; omega) ?_
    | refine go_ifT rfl (by dsimp only [ncd]; omega) ?_
    | refine go_ifF rfl (by dsimp only [ncd]; omega) ?_
    | refine go_ift rfl (by decide) ?_
    | refine go_s rfl ?_
    )
theorem n_peal_t (hm : m < 6) : Go X (fu + 1) mX4_peal (0, [(0, .ref 36)], [], (cc A c1 c2 c3 c4 c5 c6 c7 c8 ++ (mm B th (nI n) (nI m) (nI c) ch (nI l.length) ++ R), e)) (.inl (some (.int (nI m))), (cc A c1 c2 c3 c4 c5 c6 c7 c8 ++ (mm B (nI 0) (nI n) (nI (m + 1)) (nI c) ch (nI l.length) ++ R), e)) := by
  refine go_s rfl ?_
  refine go_s rfl ?_
  refine go_pf (H2 := cc A c1 c2 c3 c4 c5 c6 c7 c8 ++ (mm B (nI 0) (nI n) (nI m) (nI c) ch (nI l.length) ++ R)) rfl rfl rfl rfl ?_
  repeat (first
    | exact go_ret rfl rfl rfl rfl
    | exact go_end rfl rfl rfl rfl
    | refine go_add rfl ?_
    | refine go_mul rfl ?_
    | refine go_sub rfl (by omega) ?_
    | refine go_inc rfl rfl rfl rfl rfl ?_
    | refine go_dec rfl rfl rfl (by omega) rfl rfl ?_
    | refine go_wrth rfl (by omega) ?_
    | refine go_div rfl (by omega) ?_
    | refine go_rem rfl (by omega) ?_
    | refine go_icT rfl (by dsimp only [ncd]; omega) ?_
    | refine go_icF rfl (by dsimp only [ncd]; omega) ?_
    | refine go_ifT rfl (by dsimp only [ncd]; omega) ?_
    | refine go_ifF rfl (by dsimp only [ncd]; omega) ?_
    | refine go_ift rfl (by decide) ?_
    | refine go_s rfl ?_
    )
theorem n_peal_f : Go X (fu + 1) mX4_peal (0, [(0, .ref 36)], [], (cc A c1 c2 c3 c4 c5 c6 c7 c8 ++ (mm B th (nI n) (nI 6) (nI c) ch (nI l.length) ++ R), e)) (.inl (some (.int (nI 0))), (cc A c1 c2 c3 c4 c5 c6 c7 c8 ++ (mm B (nI 1) (nI n) (nI 6) (nI c) ch (nI l.length) ++ R), e)) := by
  refine go_s rfl ?_
  refine go_s rfl ?_
  refine go_pf (H2 := cc A c1 c2 c3 c4 c5 c6 c7 c8 ++ (mm B (nI 0) (nI n) (nI 6) (nI c) ch (nI l.length) ++ R)) rfl rfl rfl rfl ?_
  repeat (first
    | exact go_ret rfl rfl rfl rfl
    | exact go_end rfl rfl rfl rfl
    | refine go_add rfl ?_
    | refine go_mul rfl ?_
    | refine go_sub rfl (by omega) ?_
    | refine go_inc rfl rfl rfl rfl rfl ?_
    | refine go_dec rfl rfl rfl (by omega) rfl rfl ?_
    | refine go_wrth rfl (by omega) ?_
    | refine go_div rfl (by omega) ?_
    | refine go_rem rfl (by omega) ?_
    | refine go_ci rfl rfl rfl rfl rfl n_no ?_
    | refine go_icT rfl (by dsimp only [ncd]; omega) ?_
    | refine go_icF rfl (by dsimp only [ncd]; omega) ?_
    | refine go_ifT rfl (by dsimp only [ncd]; omega) ?_
    | refine go_ifF rfl (by dsimp only [ncd]; omega) ?_
    | refine go_ift rfl (by decide) ?_
    | refine go_s rfl ?_
    )
theorem n_add_t (hM : MR B n ps m len pr) {p r : Nat} (hp : p < m) (hr : r < n) (hl : len p < 30) : ∃ B2, B2 40 = B 40 ∧ B2 41 = B 41 ∧ MR B2 n ps m (upN len p (len p + 1)) (upP pr p (len p) r) ∧ Go X (fu + 2) mX4_add (0, [(0, .ref 36), (1, .int (nI p)), (2, .int (nI r))], [], (cc A c1 c2 c3 c4 c5 c6 c7 c8 ++ (mm B th (nI n) (nI m) (nI c) ch (nI l.length) ++ R), e)) (.inl (some (.int (nI (len p + 1)))), (cc A c1 c2 c3 c4 c5 c6 c7 c8 ++ (mm B2 (nI 0) (nI n) (nI m) (nI c) ch (nI l.length) ++ R), e)) := by
  have hm := hM.2.1
  have h38 := hM.2.2.2.2.1 p (by omega)
  obtain ⟨l1, l2, l3⟩ := hM.2.2.2.2.2 p (by omega)
  have hv : (upd (B 38) p (nI (len p + 1))) p = nI (len p + 1) := pk_us
  refine ⟨aset (aset B 39 (upd (B 39) (30 * p + len p) (nI r))) 38 (upd (B 38) p (nI (len p + 1))), by rw [aset_n (by omega), aset_n (by omega)], by rw [aset_n (by omega), aset_n (by omega)], ?_, ?_⟩
  · obtain ⟨d1, d2, d3, d4, d5, d6⟩ := hM
    refine ⟨d1, d2, d3, fun i hi k hk => ?_, ?_, fun j hj => ?_⟩
    · rw [aset_n (by omega), aset_n (by omega)]; exact d4 i hi k hk
    · rw [aset_s]; exact hold_upd d5 p (len p + 1)
    · rw [aset_n (by omega), aset_s]
      by_cases e1 : j = p
      · subst e1
        have e2 : upN len j (len j + 1) j = len j + 1 := if_pos rfl
        have e3 : ∀ i, upP pr j (len j) r j i = if i = len j then r else pr j i := fun i => if_pos rfl
        rw [e2]
        refine ⟨by omega, fun i hi => ?_, fun i hi => ?_⟩
        · rw [e3]
          by_cases e4 : i = len j
          · subst e4; rw [pk_us, if_pos rfl]
          · rw [pk_un (by omega), if_neg e4]; exact l2 i (by omega)
        · rw [e3]
          by_cases e4 : i = len j
          · rw [if_pos e4]; exact hr
          · rw [if_neg e4]; exact l3 i (by omega)
      · have e2 : upN len p (len p + 1) j = len j := if_neg e1
        have e3 : upP pr p (len p) r j = pr j := by funext i; exact if_neg e1
        rw [e2, e3]
        obtain ⟨z1, z2, z3⟩ := d6 j hj
        refine ⟨z1, fun i hi => ?_, z3⟩
        rw [pk_un (by omega)]
        exact z2 i hi
  · have h38b : (aset B 39 (upd (B 39) (30 * p + len p) (nI r))) 38 = B 38 := aset_n (by omega)
    have e0 : aset (aset B 39 (upd (B 39) (30 * p + len p) (nI r))) 38 (upd (B 38) p (nI (len p + 1))) = aset (aset B 39 (upd (B 39) (30 * p + len p) (nI r))) 38 (upd ((aset B 39 (upd (B 39) (30 * p + len p) (nI r))) 38) p (nI (len p + 1))) := by rw [h38b]
    rw [e0]
    refine go_s rfl ?_
    refine go_s rfl ?_
    refine go_pf (H2 := cc A c1 c2 c3 c4 c5 c6 c7 c8 ++ (mm B (nI 0) (nI n) (nI m) (nI c) ch (nI l.length) ++ R)) rfl rfl rfl rfl ?_
    repeat (first
      | exact go_ret rfl rfl rfl rfl
      | exact go_end rfl rfl rfl rfl
      | refine go_add rfl ?_
      | refine go_mul rfl ?_
      | refine go_sub rfl (by omega) ?_
      | refine go_inc rfl rfl rfl rfl rfl ?_
      | refine go_dec rfl rfl rfl (by omega) rfl rfl ?_
      | refine go_wrth rfl (by omega) ?_
      | refine go_ial rfl rfl (by first | omega | exact ⟨dg_lt _ _, by omega⟩) (h38) ?_
      | refine go_ial rfl rfl (by first | omega | exact ⟨dg_lt _ _, by omega⟩) (hv) ?_
      | refine go_iash rfl rfl (by first | omega | exact ⟨dg_lt _ _, by omega⟩) rfl ?_
      | refine go_div rfl (by omega) ?_
      | refine go_rem rfl (by omega) ?_
      | refine go_ci rfl rfl rfl rfl rfl (n_isPeal_t hM.2.1 hp) ?_
      | refine go_ci rfl rfl rfl rfl rfl (n_isRule_t hM.1 hr) ?_
      | refine go_icT rfl (by dsimp only [ncd]; omega) ?_
      | refine go_icF rfl (by dsimp only [ncd]; omega) ?_
      | refine go_ifT rfl (by dsimp only [ncd]; omega) ?_
      | refine go_ifF rfl (by dsimp only [ncd]; omega) ?_
      | refine go_ift rfl (by decide) ?_
      | refine go_s rfl ?_
      )
theorem n_add_f1 (hm : m ≤ 6) {x y : Int32} (hx : x < 0 ∨ nI m ≤ x) : Go X (fu + 2) mX4_add (0, [(0, .ref 36), (1, .int x), (2, .int y)], [], (cc A c1 c2 c3 c4 c5 c6 c7 c8 ++ (mm B th (nI n) (nI m) (nI c) ch (nI l.length) ++ R), e)) (.inl (some (.int (nI 0))), (cc A c1 c2 c3 c4 c5 c6 c7 c8 ++ (mm B (nI 1) (nI n) (nI m) (nI c) ch (nI l.length) ++ R), e)) := by
  refine go_s rfl ?_
  refine go_s rfl ?_
  refine go_pf (H2 := cc A c1 c2 c3 c4 c5 c6 c7 c8 ++ (mm B (nI 0) (nI n) (nI m) (nI c) ch (nI l.length) ++ R)) rfl rfl rfl rfl ?_
  repeat (first
    | exact go_ret rfl rfl rfl rfl
    | exact go_end rfl rfl rfl rfl
    | refine go_add rfl ?_
    | refine go_mul rfl ?_
    | refine go_sub rfl (by omega) ?_
    | refine go_inc rfl rfl rfl rfl rfl ?_
    | refine go_dec rfl rfl rfl (by omega) rfl rfl ?_
    | refine go_wrth rfl (by omega) ?_
    | refine go_div rfl (by omega) ?_
    | refine go_rem rfl (by omega) ?_
    | refine go_ci rfl rfl rfl rfl rfl (n_isPeal_f hm hx) ?_
    | refine go_ci rfl rfl rfl rfl rfl n_no ?_
    | refine go_icT rfl (by dsimp only [ncd]; omega) ?_
    | refine go_icF rfl (by dsimp only [ncd]; omega) ?_
    | refine go_ifT rfl (by dsimp only [ncd]; omega) ?_
    | refine go_ifF rfl (by dsimp only [ncd]; omega) ?_
    | refine go_ift rfl (by decide) ?_
    | refine go_s rfl ?_
    )
theorem n_add_f2 (hM : MR B n ps m len pr) {p : Nat} {x : Int32} (hp : p < m) (hx : x < 0 ∨ nI n ≤ x) : Go X (fu + 2) mX4_add (0, [(0, .ref 36), (1, .int (nI p)), (2, .int x)], [], (cc A c1 c2 c3 c4 c5 c6 c7 c8 ++ (mm B th (nI n) (nI m) (nI c) ch (nI l.length) ++ R), e)) (.inl (some (.int (nI 0))), (cc A c1 c2 c3 c4 c5 c6 c7 c8 ++ (mm B (nI 1) (nI n) (nI m) (nI c) ch (nI l.length) ++ R), e)) := by
  have hn := hM.1
  refine go_s rfl ?_
  refine go_s rfl ?_
  refine go_pf (H2 := cc A c1 c2 c3 c4 c5 c6 c7 c8 ++ (mm B (nI 0) (nI n) (nI m) (nI c) ch (nI l.length) ++ R)) rfl rfl rfl rfl ?_
  repeat (first
    | exact go_ret rfl rfl rfl rfl
    | exact go_end rfl rfl rfl rfl
    | refine go_add rfl ?_
    | refine go_mul rfl ?_
    | refine go_sub rfl (by omega) ?_
    | refine go_inc rfl rfl rfl rfl rfl ?_
    | refine go_dec rfl rfl rfl (by omega) rfl rfl ?_
    | refine go_wrth rfl (by omega) ?_
    | refine go_div rfl (by omega) ?_
    | refine go_rem rfl (by omega) ?_
    | refine go_ci rfl rfl rfl rfl rfl (n_isPeal_t hM.2.1 hp) ?_
    | refine go_ci rfl rfl rfl rfl rfl (n_isRule_f hn hx) ?_
    | refine go_ci rfl rfl rfl rfl rfl n_no ?_
    | refine go_icT rfl (by dsimp only [ncd]; omega) ?_
    | refine go_icF rfl (by dsimp only [ncd]; omega) ?_
    | refine go_ifT rfl (by dsimp only [ncd]; omega) ?_
    | refine go_ifF rfl (by dsimp only [ncd]; omega) ?_
    | refine go_ift rfl (by decide) ?_
    | refine go_s rfl ?_
    )
theorem n_add_f3 (hM : MR B n ps m len pr) {p r : Nat} (hp : p < m) (hr : r < n) (hl : ¬ len p < 30) : Go X (fu + 2) mX4_add (0, [(0, .ref 36), (1, .int (nI p)), (2, .int (nI r))], [], (cc A c1 c2 c3 c4 c5 c6 c7 c8 ++ (mm B th (nI n) (nI m) (nI c) ch (nI l.length) ++ R), e)) (.inl (some (.int (nI 0))), (cc A c1 c2 c3 c4 c5 c6 c7 c8 ++ (mm B (nI 2) (nI n) (nI m) (nI c) ch (nI l.length) ++ R), e)) := by
  have hm := hM.2.1
  have h38 := hM.2.2.2.2.1 p (by omega)
  have l1 := (hM.2.2.2.2.2 p (by omega)).1
  refine go_s rfl ?_
  refine go_s rfl ?_
  refine go_pf (H2 := cc A c1 c2 c3 c4 c5 c6 c7 c8 ++ (mm B (nI 0) (nI n) (nI m) (nI c) ch (nI l.length) ++ R)) rfl rfl rfl rfl ?_
  repeat (first
    | exact go_ret rfl rfl rfl rfl
    | exact go_end rfl rfl rfl rfl
    | refine go_add rfl ?_
    | refine go_mul rfl ?_
    | refine go_sub rfl (by omega) ?_
    | refine go_inc rfl rfl rfl rfl rfl ?_
    | refine go_dec rfl rfl rfl (by omega) rfl rfl ?_
    | refine go_wrth rfl (by omega) ?_
    | refine go_ial rfl rfl (by first | omega | exact ⟨dg_lt _ _, by omega⟩) (h38) ?_
    | refine go_div rfl (by omega) ?_
    | refine go_rem rfl (by omega) ?_
    | refine go_ci rfl rfl rfl rfl rfl (n_isPeal_t hM.2.1 hp) ?_
    | refine go_ci rfl rfl rfl rfl rfl (n_isRule_t hM.1 hr) ?_
    | refine go_ci rfl rfl rfl rfl rfl n_no ?_
    | refine go_icT rfl (by dsimp only [ncd]; omega) ?_
    | refine go_icF rfl (by dsimp only [ncd]; omega) ?_
    | refine go_ifT rfl (by dsimp only [ncd]; omega) ?_
    | refine go_ifF rfl (by dsimp only [ncd]; omega) ?_
    | refine go_ift rfl (by decide) ?_
    | refine go_s rfl ?_
    )
theorem n_play_t (hM : MR B n ps m len pr) (ic : isRow c) {p : Nat} (hp : p < m) : Go X (fu + 3) mX4_play (0, [(0, .ref 36), (1, .int (nI p))], [], (cc A c1 c2 c3 c4 c5 c6 c7 c8 ++ (mm B th (nI n) (nI m) (nI c) ch (nI l.length) ++ R), e)) (.inl (some (.int (nI (pl ps (pr p) (len p) 0 c)))), (cc A c1 c2 c3 c4 c5 c6 c7 c8 ++ (mm B (nI 0) (nI n) (nI m) (nI (pl ps (pr p) (len p) 0 c)) (ch + nI (len p)) (nI l.length) ++ R), e)) := by
  have hm := hM.2.1
  have h38 := hM.2.2.2.2.1 p (by omega)
  refine go_s rfl ?_
  refine go_s rfl ?_
  refine go_pf (H2 := cc A c1 c2 c3 c4 c5 c6 c7 c8 ++ (mm B (nI 0) (nI n) (nI m) (nI c) ch (nI l.length) ++ R)) rfl rfl rfl rfl ?_
  repeat (first
    | exact go_ret rfl rfl rfl rfl
    | exact go_end rfl rfl rfl rfl
    | refine go_add rfl ?_
    | refine go_mul rfl ?_
    | refine go_sub rfl (by omega) ?_
    | refine go_inc rfl rfl rfl rfl rfl ?_
    | refine go_dec rfl rfl rfl (by omega) rfl rfl ?_
    | refine go_wrth rfl (by omega) ?_
    | refine go_ial rfl rfl (by first | omega | exact ⟨dg_lt _ _, by omega⟩) (h38) ?_
    | refine go_div rfl (by omega) ?_
    | refine go_rem rfl (by omega) ?_
    | refine go_ci rfl rfl rfl rfl rfl (n_isPeal_t hM.2.1 hp) ?_
    | refine go_ci rfl rfl rfl rfl rfl (n_played hM hp ic) ?_
    | refine go_icT rfl (by dsimp only [ncd]; omega) ?_
    | refine go_icF rfl (by dsimp only [ncd]; omega) ?_
    | refine go_ifT rfl (by dsimp only [ncd]; omega) ?_
    | refine go_ifF rfl (by dsimp only [ncd]; omega) ?_
    | refine go_ift rfl (by decide) ?_
    | refine go_s rfl ?_
    )
theorem n_play_f (hm : m ≤ 6) {x : Int32} (hx : x < 0 ∨ nI m ≤ x) : Go X (fu + 2) mX4_play (0, [(0, .ref 36), (1, .int x)], [], (cc A c1 c2 c3 c4 c5 c6 c7 c8 ++ (mm B th (nI n) (nI m) (nI c) ch (nI l.length) ++ R), e)) (.inl (some (.int (nI 0))), (cc A c1 c2 c3 c4 c5 c6 c7 c8 ++ (mm B (nI 1) (nI n) (nI m) (nI c) ch (nI l.length) ++ R), e)) := by
  refine go_s rfl ?_
  refine go_s rfl ?_
  refine go_pf (H2 := cc A c1 c2 c3 c4 c5 c6 c7 c8 ++ (mm B (nI 0) (nI n) (nI m) (nI c) ch (nI l.length) ++ R)) rfl rfl rfl rfl ?_
  repeat (first
    | exact go_ret rfl rfl rfl rfl
    | exact go_end rfl rfl rfl rfl
    | refine go_add rfl ?_
    | refine go_mul rfl ?_
    | refine go_sub rfl (by omega) ?_
    | refine go_inc rfl rfl rfl rfl rfl ?_
    | refine go_dec rfl rfl rfl (by omega) rfl rfl ?_
    | refine go_wrth rfl (by omega) ?_
    | refine go_div rfl (by omega) ?_
    | refine go_rem rfl (by omega) ?_
    | refine go_ci rfl rfl rfl rfl rfl (n_isPeal_f hm hx) ?_
    | refine go_ci rfl rfl rfl rfl rfl n_no ?_
    | refine go_icT rfl (by dsimp only [ncd]; omega) ?_
    | refine go_icF rfl (by dsimp only [ncd]; omega) ?_
    | refine go_ifT rfl (by dsimp only [ncd]; omega) ?_
    | refine go_ifF rfl (by dsimp only [ncd]; omega) ?_
    | refine go_ift rfl (by decide) ?_
    | refine go_s rfl ?_
    )
theorem n_steps_t (hM : MR B n ps m len pr) (hV : VB B l) (ic : isRow c) {its : Nat} (ii : isRow its) : ∃ B2 l2, (∀ j, j < 40 → B2 j = B j) ∧ VB B2 l2 ∧ Go X (fu + 4) mX4_steps (0, [(0, .ref 36), (1, .int (nI its))], [], (cc A c1 c2 c3 c4 c5 c6 c7 c8 ++ (mm B th (nI n) (nI m) (nI c) ch (nI l.length) ++ R), e)) (.inl (some (.int (fwD (lk (WL n ps) (cmp (inv c) its))))), (cc A c1 c2 c3 c4 c5 c6 c7 c8 ++ (mm B2 (nI 0) (nI n) (nI m) (nI c) ch (nI l2.length) ++ R), e)) := by
  obtain ⟨B2, k2, hV2, G⟩ := n_spreads0 (X := X) (fu := fu + 1) (e := e) (A := A) (c1 := c1) (c2 := c2) (c3 := c3) (c4 := c4) (c5 := c5) (c6 := c6) (c7 := c7) (c8 := c8) (th := nI 0) (co := nI c) (ch := ch) (R := R) hM hV ic
  have li := row_lt ii
  have v := (hV2.1 its ii).trans (FL_lk hM.1 hM.2.2.1 ic ii)
  refine ⟨B2, _, k2, hV2, ?_⟩
  rw [← v]
  refine go_s rfl ?_
  refine go_s rfl ?_
  refine go_pf (H2 := cc A c1 c2 c3 c4 c5 c6 c7 c8 ++ (mm B (nI 0) (nI n) (nI m) (nI c) ch (nI l.length) ++ R)) rfl rfl rfl rfl ?_
  repeat (first
    | exact go_ret rfl rfl rfl rfl
    | exact go_end rfl rfl rfl rfl
    | refine go_add rfl ?_
    | refine go_mul rfl ?_
    | refine go_sub rfl (by omega) ?_
    | refine go_inc rfl rfl rfl rfl rfl ?_
    | refine go_dec rfl rfl rfl (by omega) rfl rfl ?_
    | refine go_wrth rfl (by omega) ?_
    | refine go_div rfl (by omega) ?_
    | refine go_rem rfl (by omega) ?_
    | refine go_ci rfl rfl rfl rfl rfl (n_isRow_t ii) ?_
    | refine go_ci rfl rfl rfl rfl rfl G ?_
    | refine go_ialr rfl rfl (by omega) ?_
    | refine go_icT rfl (by dsimp only [ncd]; omega) ?_
    | refine go_icF rfl (by dsimp only [ncd]; omega) ?_
    | refine go_ifT rfl (by dsimp only [ncd]; omega) ?_
    | refine go_ifF rfl (by dsimp only [ncd]; omega) ?_
    | refine go_ift rfl (by decide) ?_
    | refine go_s rfl ?_
    )
theorem n_steps_f {x : Int32} (hx : ∀ c, isRow c → x ≠ nI c) : Go X (fu + 4) mX4_steps (0, [(0, .ref 36), (1, .int x)], [], (cc A c1 c2 c3 c4 c5 c6 c7 c8 ++ (mm B th (nI n) (nI m) (nI c) ch (nI l.length) ++ R), e)) (.inl (some (.int (nI 0))), (cc A c1 c2 c3 c4 c5 c6 c7 c8 ++ (mm B (nI 1) (nI n) (nI m) (nI c) ch (nI l.length) ++ R), e)) := by
  refine go_s rfl ?_
  refine go_s rfl ?_
  refine go_pf (H2 := cc A c1 c2 c3 c4 c5 c6 c7 c8 ++ (mm B (nI 0) (nI n) (nI m) (nI c) ch (nI l.length) ++ R)) rfl rfl rfl rfl ?_
  repeat (first
    | exact go_ret rfl rfl rfl rfl
    | exact go_end rfl rfl rfl rfl
    | refine go_add rfl ?_
    | refine go_mul rfl ?_
    | refine go_sub rfl (by omega) ?_
    | refine go_inc rfl rfl rfl rfl rfl ?_
    | refine go_dec rfl rfl rfl (by omega) rfl rfl ?_
    | refine go_wrth rfl (by omega) ?_
    | refine go_div rfl (by omega) ?_
    | refine go_rem rfl (by omega) ?_
    | refine go_ci rfl rfl rfl rfl rfl (n_isRow_f hx) ?_
    | refine go_ci rfl rfl rfl rfl rfl n_no ?_
    | refine go_icT rfl (by dsimp only [ncd]; omega) ?_
    | refine go_icF rfl (by dsimp only [ncd]; omega) ?_
    | refine go_ifT rfl (by dsimp only [ncd]; omega) ?_
    | refine go_ifF rfl (by dsimp only [ncd]; omega) ?_
    | refine go_ift rfl (by decide) ?_
    | refine go_s rfl ?_
    )
theorem n_reach_t (hM : MR B n ps m len pr) (hV : VB B l) (ic : isRow c) : ∃ B2 l2, (∀ j, j < 40 → B2 j = B j) ∧ VB B2 l2 ∧ Go X (fu + 4) mX4_reach (0, [(0, .ref 36)], [], (cc A c1 c2 c3 c4 c5 c6 c7 c8 ++ (mm B th (nI n) (nI m) (nI c) ch (nI l.length) ++ R), e)) (.inl (some (.int (nI (WL n ps).length))), (cc A c1 c2 c3 c4 c5 c6 c7 c8 ++ (mm B2 (nI 0) (nI n) (nI m) (nI c) ch (nI l2.length) ++ R), e)) := by
  obtain ⟨B2, k2, hV2, G⟩ := n_spreads0 (X := X) (fu := fu + 1) (e := e) (A := A) (c1 := c1) (c2 := c2) (c3 := c3) (c4 := c4) (c5 := c5) (c6 := c6) (c7 := c7) (c8 := c8) (th := nI 0) (co := nI c) (ch := ch) (R := R) hM hV ic
  refine ⟨B2, _, k2, hV2, ?_⟩
  rw [← FL_len hM.1 hM.2.2.1 ic]
  refine go_s rfl ?_
  refine go_s rfl ?_
  refine go_pf (H2 := cc A c1 c2 c3 c4 c5 c6 c7 c8 ++ (mm B (nI 0) (nI n) (nI m) (nI c) ch (nI l.length) ++ R)) rfl rfl rfl rfl ?_
  repeat (first
    | exact go_ret rfl rfl rfl rfl
    | exact go_end rfl rfl rfl rfl
    | refine go_add rfl ?_
    | refine go_mul rfl ?_
    | refine go_sub rfl (by omega) ?_
    | refine go_inc rfl rfl rfl rfl rfl ?_
    | refine go_dec rfl rfl rfl (by omega) rfl rfl ?_
    | refine go_wrth rfl (by omega) ?_
    | refine go_div rfl (by omega) ?_
    | refine go_rem rfl (by omega) ?_
    | refine go_ci rfl rfl rfl rfl rfl G ?_
    | refine go_icT rfl (by dsimp only [ncd]; omega) ?_
    | refine go_icF rfl (by dsimp only [ncd]; omega) ?_
    | refine go_ifT rfl (by dsimp only [ncd]; omega) ?_
    | refine go_ifF rfl (by dsimp only [ncd]; omega) ?_
    | refine go_ift rfl (by decide) ?_
    | refine go_s rfl ?_
    )
theorem n_farthest_t (hM : MR B n ps m len pr) (hV : VB B l) (ic : isRow c) : ∃ B2 l2, (∀ j, j < 40 → B2 j = B j) ∧ VB B2 l2 ∧ Go X (fu + 4) mX4_farthest (0, [(0, .ref 36)], [], (cc A c1 c2 c3 c4 c5 c6 c7 c8 ++ (mm B th (nI n) (nI m) (nI c) ch (nI l.length) ++ R), e)) (.inl (some (.int (nI (laD (WL n ps))))), (cc A c1 c2 c3 c4 c5 c6 c7 c8 ++ (mm B2 (nI 0) (nI n) (nI m) (nI c) ch (nI l2.length) ++ R), e)) := by
  obtain ⟨B2, k2, hV2, G⟩ := n_spreads0 (X := X) (fu := fu + 1) (e := e) (A := A) (c1 := c1) (c2 := c2) (c3 := c3) (c4 := c4) (c5 := c5) (c6 := c6) (c7 := c7) (c8 := c8) (th := nI 0) (co := nI c) (ch := ch) (R := R) hM hV ic
  refine ⟨B2, _, k2, hV2, ?_⟩
  rw [← FL_la hM.1 hM.2.2.1 ic]
  refine go_s rfl ?_
  refine go_s rfl ?_
  refine go_pf (H2 := cc A c1 c2 c3 c4 c5 c6 c7 c8 ++ (mm B (nI 0) (nI n) (nI m) (nI c) ch (nI l.length) ++ R)) rfl rfl rfl rfl ?_
  repeat (first
    | exact go_ret rfl rfl rfl rfl
    | exact go_end rfl rfl rfl rfl
    | refine go_add rfl ?_
    | refine go_mul rfl ?_
    | refine go_sub rfl (by omega) ?_
    | refine go_inc rfl rfl rfl rfl rfl ?_
    | refine go_dec rfl rfl rfl (by omega) rfl rfl ?_
    | refine go_wrth rfl (by omega) ?_
    | refine go_div rfl (by omega) ?_
    | refine go_rem rfl (by omega) ?_
    | refine go_ci rfl rfl rfl rfl rfl G ?_
    | refine go_icT rfl (by dsimp only [ncd]; omega) ?_
    | refine go_icF rfl (by dsimp only [ncd]; omega) ?_
    | refine go_ifT rfl (by dsimp only [ncd]; omega) ?_
    | refine go_ifF rfl (by dsimp only [ncd]; omega) ?_
    | refine go_ift rfl (by decide) ?_
    | refine go_s rfl ?_
    )
theorem suM_drop (l : List (Nat × Nat)) {k : Nat} {q : Nat × Nat} (h : l[k]? = some q) : suM (l.drop k) = q.2 + suM (l.drop (k + 1)) := by
  obtain ⟨h1, h2⟩ := List.getElem?_eq_some_iff.mp h
  rw [List.drop_eq_getElem_cons h1, h2]
  unfold suM
  rw [List.map_cons, List.sum_cons]
theorem mn_loop (hV : VB B l) (h0 : 0 < l.length) : ∀ (q k acc : Nat), k + q = l.length → Go X (fu + 1) mX4_mean (19, [(0, .ref 36), (1, .int (nI acc)), (2, .int (nI k))], [], (cc A c1 c2 c3 c4 c5 c6 c7 c8 ++ (mm B th (nI n) (nI m) (nI c) ch (nI l.length) ++ R), e)) (.inl (some (.double (FP.ddiv (FP.i2d (nI (acc + suM (l.drop k)))) (FP.i2d (nI l.length))))), (cc A c1 c2 c3 c4 c5 c6 c7 c8 ++ (mm B th (nI n) (nI m) (nI c) ch (nI l.length) ++ R), e)) := by
  have hl := len_720 hV.2.2.1 hV.2.2.2.1
  have nz : nI l.length ≠ 0 := nI_nz h0 (by omega)
  intro q
  induction q with
  | zero =>
    intro k acc hk
    obtain rfl : k = l.length := by omega
    rw [List.drop_length, show suM [] = 0 from rfl, Nat.add_zero]
    repeat (first
      | exact go_ret rfl rfl rfl rfl
      | exact go_end rfl rfl rfl rfl
      | refine go_add rfl ?_
      | refine go_mul rfl ?_
      | refine go_sub rfl (by omega) ?_
      | refine go_inc rfl rfl rfl rfl rfl ?_
      | refine go_dec rfl rfl rfl (by omega) rfl rfl ?_
      | refine go_wrth rfl (by omega) ?_
      | refine go_div rfl (by omega) ?_
      | refine go_rem rfl (by omega) ?_
      | refine go_ddiv rfl (mean_ok nz) ?_
      | refine go_icT rfl (by dsimp only [ncd]; omega) ?_
      | refine go_icF rfl (by dsimp only [ncd]; omega) ?_
      | refine go_ifT rfl (by dsimp only [ncd]; omega) ?_
      | refine go_ifF rfl (by dsimp only [ncd]; omega) ?_
      | refine go_ift rfl (by decide) ?_
      | refine go_s rfl ?_
      )
  | succ q ih =>
    intro k acc hk
    obtain ⟨z, e1⟩ : ∃ z, l[k]? = some z := ⟨_, List.getElem?_eq_getElem (by omega)⟩
    have hm := List.mem_of_getElem? e1
    have ip := hV.2.2.2.1 _ hm
    have lp := row_lt ip
    have h41 := hV.2.1 _ _ e1
    have h40 : B 40 z.1 = nI z.2 := by rw [hV.1 _ ip, lk_of (k := z.2) hV.2.2.1 hm]; rfl
    have K := ih (k + 1) (acc + z.2) (by omega)
    rw [Nat.add_assoc, ← suM_drop l e1] at K
    repeat (first
      | exact K
      | exact go_ret rfl rfl rfl rfl
      | exact go_end rfl rfl rfl rfl
      | refine go_add rfl ?_
      | refine go_mul rfl ?_
      | refine go_sub rfl (by omega) ?_
      | refine go_inc rfl rfl rfl rfl rfl ?_
      | refine go_dec rfl rfl rfl (by omega) rfl rfl ?_
      | refine go_wrth rfl (by omega) ?_
      | refine go_ial rfl rfl (by first | omega | exact ⟨dg_lt _ _, by omega⟩) (h41) ?_
      | refine go_ial rfl rfl (by first | omega | exact ⟨dg_lt _ _, by omega⟩) (h40) ?_
      | refine go_div rfl (by omega) ?_
      | refine go_rem rfl (by omega) ?_
      | refine go_icT rfl (by dsimp only [ncd]; omega) ?_
      | refine go_icF rfl (by dsimp only [ncd]; omega) ?_
      | refine go_ifT rfl (by dsimp only [ncd]; omega) ?_
      | refine go_ifF rfl (by dsimp only [ncd]; omega) ?_
      | refine go_ift rfl (by decide) ?_
      | refine go_s rfl ?_
      )
theorem n_mean_t (hM : MR B n ps m len pr) (hV : VB B l) (ic : isRow c) : ∃ B2 l2, (∀ j, j < 40 → B2 j = B j) ∧ VB B2 l2 ∧ Go X (fu + 4) mX4_mean (0, [(0, .ref 36)], [], (cc A c1 c2 c3 c4 c5 c6 c7 c8 ++ (mm B th (nI n) (nI m) (nI c) ch (nI l.length) ++ R), e)) (.inl (some (.double (FP.ddiv (FP.i2d (nI (suD (WL n ps)))) (FP.i2d (nI (WL n ps).length))))), (cc A c1 c2 c3 c4 c5 c6 c7 c8 ++ (mm B2 (nI 0) (nI n) (nI m) (nI c) ch (nI l2.length) ++ R), e)) := by
  obtain ⟨B2, k2, hV2, G⟩ := n_spreads0 (X := X) (fu := fu + 1) (e := e) (A := A) (c1 := c1) (c2 := c2) (c3 := c3) (c4 := c4) (c5 := c5) (c6 := c6) (c7 := c7) (c8 := c8) (th := nI 0) (co := nI c) (ch := ch) (R := R) hM hV ic
  have hp := WL_pos hM.1 hM.2.2.1
  have e1 := FL_len hM.1 hM.2.2.1 ic
  have e2 := FL_su hM.1 hM.2.2.1 ic
  have K := mn_loop (X := X) (fu := fu + 3) (e := e) (A := A) (c1 := c1) (c2 := c2) (c3 := c3) (c4 := c4) (c5 := c5) (c6 := c6) (c7 := c7) (c8 := c8) (th := nI 0) (ch := ch) (R := R) (n := n) (m := m) (c := c) hV2 (by rw [e1]; exact hp.1) _ 0 0 (by rw [Nat.zero_add])
  rw [Nat.zero_add, List.drop_zero, e2] at K
  refine ⟨B2, _, k2, hV2, ?_⟩
  rw [← e1]
  refine go_s rfl ?_
  refine go_s rfl ?_
  refine go_pf (H2 := cc A c1 c2 c3 c4 c5 c6 c7 c8 ++ (mm B (nI 0) (nI n) (nI m) (nI c) ch (nI l.length) ++ R)) rfl rfl rfl rfl ?_
  repeat (first
    | exact K
    | exact go_ret rfl rfl rfl rfl
    | exact go_end rfl rfl rfl rfl
    | refine go_add rfl ?_
    | refine go_mul rfl ?_
    | refine go_sub rfl (by omega) ?_
    | refine go_inc rfl rfl rfl rfl rfl ?_
    | refine go_dec rfl rfl rfl (by omega) rfl rfl ?_
    | refine go_wrth rfl (by omega) ?_
    | refine go_div rfl (by omega) ?_
    | refine go_rem rfl (by omega) ?_
    | refine go_ci rfl rfl rfl rfl rfl G ?_
    | refine go_icT rfl (by dsimp only [ncd]; omega) ?_
    | refine go_icF rfl (by dsimp only [ncd]; omega) ?_
    | refine go_ifT rfl (by dsimp only [ncd]; omega) ?_
    | refine go_ifF rfl (by dsimp only [ncd]; omega) ?_
    | refine go_ift rfl (by decide) ?_
    | refine go_s rfl ?_
    )
theorem fwM_ne {x : Option Nat} {d : Nat} (hx : ∀ k, x = some k → k ≤ 10900) (hd : d ≤ 10900) (h : x ≠ some d) : fwM x ≠ nI d := by
  intro q
  cases x with
  | none => exact neg1_nat (by omega) q.symm
  | some k =>
    have h1 := hx k rfl
    exact h (congrArg some (nI_inj (by omega) (by omega) q))
theorem nx_loop (hM : MR B n ps m len pr) (hV : VB B l) (ic : isRow c) {its r0 d : Nat} (hr0 : r0 < n) (hd : 0 < d ∧ d ≤ 10900) (h1 : lk l c = some d) (h2 : lk l (cmp c (inv (ps r0))) = some (d - 1)) (h3 : ∀ r, r < r0 → lk l (cmp c (inv (ps r))) ≠ some (d - 1)) :
    ∀ (q r : Nat), r + q = r0 → Go X (fu + 2) mX4_next (42, [(0, .ref 36), (1, .int (nI its)), (2, .int (nI r))], [], (cc A c1 c2 c3 c4 c5 c6 c7 c8 ++ (mm B th (nI n) (nI m) (nI c) ch (nI l.length) ++ R), e)) (.inl (some (.int (nI r0))), (cc A c1 c2 c3 c4 c5 c6 c7 c8 ++ (mm B th (nI n) (nI m) (nI c) ch (nI l.length) ++ R), e)) := by
  have lc := row_lt ic
  have hc : B 40 c = nI d := by rw [hV.1 c ic, h1]; rfl
  intro q
  induction q with
  | zero =>
    intro r hr
    obtain rfl : r = r0 := by omega
    have hp := hM.2.2.1 r hr0
    have ix := rng_row ic hp
    have lx := row_lt ix
    have G := n_ringed (X := X) (fu := fu) (e := e) (A := A) (c1 := c1) (c2 := c2) (c3 := c3) (c4 := c4) (c5 := c5) (c6 := c6) (c7 := c7) (c8 := c8) (th := th) (co := nI c) (ch := ch) (sp := nI l.length) (R := R) hM lc hr0
    have hx : B 40 (rng c (ps r)) = nI (d - 1) := by rw [hV.1 _ ix, rng_cmp hp, h2]; rfl
    repeat (first
      | exact go_ret rfl rfl rfl rfl
      | exact go_end rfl rfl rfl rfl
      | refine go_add rfl ?_
      | refine go_mul rfl ?_
      | refine go_sub rfl (by omega) ?_
      | refine go_inc rfl rfl rfl rfl rfl ?_
      | refine go_dec rfl rfl rfl (by omega) rfl rfl ?_
      | refine go_wrth rfl (by omega) ?_
      | refine go_ial rfl rfl (by first | omega | exact ⟨dg_lt _ _, by omega⟩) (hc) ?_
      | refine go_ial rfl rfl (by first | omega | exact ⟨dg_lt _ _, by omega⟩) (hx) ?_
      | refine go_div rfl (by omega) ?_
      | refine go_rem rfl (by omega) ?_
      | refine go_ci rfl rfl rfl rfl rfl G ?_
      | refine go_icT rfl (by dsimp only [ncd]; omega) ?_
      | refine go_icF rfl (by dsimp only [ncd]; omega) ?_
      | refine go_ifT rfl (by dsimp only [ncd]; omega) ?_
      | refine go_ifF rfl (by dsimp only [ncd]; omega) ?_
      | refine go_ift rfl (by decide) ?_
      | refine go_s rfl ?_
      )
  | succ q ih =>
    intro r hr
    have hrn : r < n := by omega
    have hp := hM.2.2.1 r hrn
    have ix := rng_row ic hp
    have lx := row_lt ix
    have G := n_ringed (X := X) (fu := fu) (e := e) (A := A) (c1 := c1) (c2 := c2) (c3 := c3) (c4 := c4) (c5 := c5) (c6 := c6) (c7 := c7) (c8 := c8) (th := th) (co := nI c) (ch := ch) (sp := nI l.length) (R := R) hM lc hrn
    have K := ih (r + 1) (by omega)
    have hx : B 40 (rng c (ps r)) ≠ nI (d - 1) := by
      rw [hV.1 _ ix]
      refine fwM_ne (fun k hk => hV.2.2.2.2 _ (lk_some hk)) (by omega) ?_
      rw [rng_cmp hp]
      exact h3 r (by omega)
    have hx2 : ¬ zcq .eq (B 40 (rng c (ps r))) (nI (d - 1)) := hx
    repeat (first
      | exact K
      | refine go_ci rfl rfl rfl rfl rfl G ?_
      | refine go_ial rfl rfl (by omega) hc ?_
      | refine go_ialr rfl rfl (by omega) ?_
      | refine go_sub rfl (by omega) ?_
      | refine go_inc rfl rfl rfl rfl rfl ?_
      | refine go_icf rfl hx2 ?_
      | refine go_s rfl ?_)
theorem n_next_t (hM : MR B n ps m len pr) (hV : VB B l) (ic : isRow c) {its : Nat} (ii : isRow its) : ∃ B2 l2, (∀ j, j < 40 → B2 j = B j) ∧ VB B2 l2 ∧ Go X (fu + 4) mX4_next (0, [(0, .ref 36), (1, .int (nI its))], [], (cc A c1 c2 c3 c4 c5 c6 c7 c8 ++ (mm B th (nI n) (nI m) (nI c) ch (nI l.length) ++ R), e)) (.inl (some (.int (fwR (lk (WL n ps) (cmp (inv c) its))))), (cc A c1 c2 c3 c4 c5 c6 c7 c8 ++ (mm B2 (nI 0) (nI n) (nI m) (nI c) ch (nI l2.length) ++ R), e)) := by
  obtain ⟨B2, k2, hV2, G⟩ := n_spreads1 (X := X) (fu := fu + 1) (e := e) (A := A) (c1 := c1) (c2 := c2) (c3 := c3) (c4 := c4) (c5 := c5) (c6 := c6) (c7 := c7) (c8 := c8) (th := nI 0) (co := nI c) (ch := ch) (R := R) hM hV ii
  have hn := hM.1
  have hM2 := MR_keep hM k2
  have hg : ∀ r, r < n → isRow ((fun r => inv (ps r)) r) := fun r hr => inv_row (hM.2.2.1 r hr)
  obtain ⟨w1, w2⟩ := bfs_ok (nb := nbC (fun r => inv (ps r))) (nk := nkC) (lo := 8) (n := n) (s := R0) (KM_C hn) (nb_row hg) R0_row
  obtain ⟨w3, w4⟩ := bfs_ok (nb := nbC ps) (nk := nkM) (lo := 1) (n := n) (s := its) KM_M (nb_row hM.2.2.1) ii
  have nx := next_ok hn hM.2.2.1 ic ii w1 w2 w3 w4
  have lc := row_lt ic
  have v := hV2.1 c ic
  refine ⟨B2, _, k2, hV2, ?_⟩
  change (match lk (WL n ps) (cmp (inv c) its) with
    | none => lk (bfs (nbC ps) nkM n its) c = none
    | some 0 => lk (bfs (nbC ps) nkM n its) c = some 0
    | some (k + 1) => lk (bfs (nbC ps) nkM n its) c = some ((k + 1) / 8) ∧ 0 < (k + 1) / 8 ∧ (k + 1) % 8 < n ∧ lk (bfs (nbC ps) nkM n its) (cmp c (inv (ps ((k + 1) % 8)))) = some ((k + 1) / 8 - 1) ∧ ∀ r, r < (k + 1) % 8 → lk (bfs (nbC ps) nkM n its) (cmp c (inv (ps r))) ≠ some ((k + 1) / 8 - 1)) at nx
  cases e1 : lk (WL n ps) (cmp (inv c) its) with
  | none =>
    rw [e1] at nx
    have nx2 : lk (bfs (nbC ps) nkM n its) c = none := nx
    rw [nx2] at v
    have v2 : B2 40 c = -nI 1 := v
    have ng : ¬ zcq .ge (-nI 1) (nI 1) := show ¬ nI 1 ≤ (-nI 1 : Int32) by decide +kernel
    show Go X (fu + 4) mX4_next _ (.inl (some (.int (-nI 1))), _)
    refine go_s rfl ?_
    refine go_s rfl ?_
    refine go_pf (H2 := cc A c1 c2 c3 c4 c5 c6 c7 c8 ++ (mm B (nI 0) (nI n) (nI m) (nI c) ch (nI l.length) ++ R)) rfl rfl rfl rfl ?_
    repeat (first
      | exact go_ret rfl rfl rfl rfl
      | refine go_ci rfl rfl rfl rfl rfl (n_isRow_t ii) ?_
      | refine go_ifT rfl (by dsimp only [ncd]; omega) ?_
      | refine go_ci rfl rfl rfl rfl rfl G ?_
      | (refine go_ialr rfl rfl (by omega) ?_; rw [v2]; refine go_s rfl ?_; refine go_icf rfl ng ?_)
      | refine go_s rfl ?_)
  | some key =>
    rw [e1] at nx
    cases key with
    | zero =>
      have nx2 : lk (bfs (nbC ps) nkM n its) c = some 0 := nx
      rw [nx2] at v
      have v2 : B2 40 c = nI 0 := v
      show Go X (fu + 4) mX4_next _ (.inl (some (.int (-nI 1))), _)
      refine go_s rfl ?_
      refine go_s rfl ?_
      refine go_pf (H2 := cc A c1 c2 c3 c4 c5 c6 c7 c8 ++ (mm B (nI 0) (nI n) (nI m) (nI c) ch (nI l.length) ++ R)) rfl rfl rfl rfl ?_
      repeat (first
        | exact go_ret rfl rfl rfl rfl
        | exact go_end rfl rfl rfl rfl
        | refine go_add rfl ?_
        | refine go_mul rfl ?_
        | refine go_sub rfl (by omega) ?_
        | refine go_inc rfl rfl rfl rfl rfl ?_
        | refine go_dec rfl rfl rfl (by omega) rfl rfl ?_
        | refine go_wrth rfl (by omega) ?_
        | refine go_ial rfl rfl (by first | omega | exact ⟨dg_lt _ _, by omega⟩) (v2) ?_
        | refine go_div rfl (by omega) ?_
        | refine go_rem rfl (by omega) ?_
        | refine go_ci rfl rfl rfl rfl rfl (n_isRow_t ii) ?_
        | refine go_ci rfl rfl rfl rfl rfl G ?_
        | refine go_icT rfl (by dsimp only [ncd]; omega) ?_
        | refine go_icF rfl (by dsimp only [ncd]; omega) ?_
        | refine go_ifT rfl (by dsimp only [ncd]; omega) ?_
        | refine go_ifF rfl (by dsimp only [ncd]; omega) ?_
        | refine go_ift rfl (by decide) ?_
        | refine go_s rfl ?_
        )
    | succ k =>
      obtain ⟨x1, x2, x3, x4, x5⟩ := nx
      have hkb := hV2.2.2.2.2 _ (lk_some x1)
      have hkb2 : (k + 1) / 8 ≤ 10900 := hkb
      rw [x1] at v
      have v2 : B2 40 c = nI ((k + 1) / 8) := v
      show Go X (fu + 4) mX4_next _ (.inl (some (.int (nI ((k + 1) % 8)))), _)
      have K := nx_loop (X := X) (fu := fu + 2) (e := e) (A := A) (c1 := c1) (c2 := c2) (c3 := c3) (c4 := c4) (c5 := c5) (c6 := c6) (c7 := c7) (c8 := c8) (th := nI 0) (ch := ch) (R := R) (its := its) hM2 hV2 ic x3 ⟨x2, hkb2⟩ x1 x4 x5 ((k + 1) % 8) 0 (by omega)
      refine go_s rfl ?_
      refine go_s rfl ?_
      refine go_pf (H2 := cc A c1 c2 c3 c4 c5 c6 c7 c8 ++ (mm B (nI 0) (nI n) (nI m) (nI c) ch (nI l.length) ++ R)) rfl rfl rfl rfl ?_
      repeat (first
        | exact K
        | exact go_ret rfl rfl rfl rfl
        | exact go_end rfl rfl rfl rfl
        | refine go_add rfl ?_
        | refine go_mul rfl ?_
        | refine go_sub rfl (by omega) ?_
        | refine go_inc rfl rfl rfl rfl rfl ?_
        | refine go_dec rfl rfl rfl (by omega) rfl rfl ?_
        | refine go_wrth rfl (by omega) ?_
        | refine go_ial rfl rfl (by first | omega | exact ⟨dg_lt _ _, by omega⟩) (v2) ?_
        | refine go_div rfl (by omega) ?_
        | refine go_rem rfl (by omega) ?_
        | refine go_ci rfl rfl rfl rfl rfl (n_isRow_t ii) ?_
        | refine go_ci rfl rfl rfl rfl rfl G ?_
        | refine go_icT rfl (by dsimp only [ncd]; omega) ?_
        | refine go_icF rfl (by dsimp only [ncd]; omega) ?_
        | refine go_ifT rfl (by dsimp only [ncd]; omega) ?_
        | refine go_ifF rfl (by dsimp only [ncd]; omega) ?_
        | refine go_ift rfl (by decide) ?_
        | refine go_s rfl ?_
        )
theorem n_next_f {x : Int32} (hx : ∀ c, isRow c → x ≠ nI c) : Go X (fu + 4) mX4_next (0, [(0, .ref 36), (1, .int x)], [], (cc A c1 c2 c3 c4 c5 c6 c7 c8 ++ (mm B th (nI n) (nI m) (nI c) ch (nI l.length) ++ R), e)) (.inl (some (.int (nI 0))), (cc A c1 c2 c3 c4 c5 c6 c7 c8 ++ (mm B (nI 1) (nI n) (nI m) (nI c) ch (nI l.length) ++ R), e)) := by
  refine go_s rfl ?_
  refine go_s rfl ?_
  refine go_pf (H2 := cc A c1 c2 c3 c4 c5 c6 c7 c8 ++ (mm B (nI 0) (nI n) (nI m) (nI c) ch (nI l.length) ++ R)) rfl rfl rfl rfl ?_
  repeat (first
    | exact go_ret rfl rfl rfl rfl
    | exact go_end rfl rfl rfl rfl
    | refine go_add rfl ?_
    | refine go_mul rfl ?_
    | refine go_sub rfl (by omega) ?_
    | refine go_inc rfl rfl rfl rfl rfl ?_
    | refine go_dec rfl rfl rfl (by omega) rfl rfl ?_
    | refine go_wrth rfl (by omega) ?_
    | refine go_div rfl (by omega) ?_
    | refine go_rem rfl (by omega) ?_
    | refine go_ci rfl rfl rfl rfl rfl (n_isRow_f hx) ?_
    | refine go_ci rfl rfl rfl rfl rfl n_no ?_
    | refine go_icT rfl (by dsimp only [ncd]; omega) ?_
    | refine go_icF rfl (by dsimp only [ncd]; omega) ?_
    | refine go_ifT rfl (by dsimp only [ncd]; omega) ?_
    | refine go_ifF rfl (by dsimp only [ncd]; omega) ?_
    | refine go_ift rfl (by decide) ?_
    | refine go_s rfl ?_
    )
end MPUB
