/-! ===== the law's loop ===== -/
def INV (k : Nat) (h : zH) : Prop := ∃ (A B : Nat → Nat → Int32) (n m c : Nat) (ps len : Nat → Nat) (pr : Nat → Nat → Nat) (l : List (Nat × Nat)) (ch wf rd mo sm mk th : Int32) (f : Nat → Int64) (tl : List zC) (e : Nat),
  h = (cc A (nI n) (nI m) ch wf rd mo sm mk ++ (mm B th (nI n) (nI m) (nI c) ch (nI l.length) ++ (.inl (1, .inr (.inl f)) :: tl)), e) ∧ CP A n ps m len pr ∧ MR B n ps m len pr ∧ VB B l ∧ rw6 (A 19) c ∧ isRow c ∧ WF A n ps wf rd mo sm ∧ tl.length ≤ 6 * k ∧ zsz tl ≤ 36 * k ∧ e ≤ k
section LOOP
variable {X : zX} {e i k : Nat} {A B : Nat → Nat → Int32} {n m c : Nat} {ps len : Nat → Nat} {pr : Nat → Nat → Nat} {l : List (Nat × Nat)} {ch wf rd mo sm mk th : Int32} {f : Nat → Int64} {tl : List zC} {T : List (Nat × Value)} {o : zOut}
theorem inv_mk (hC : CP A n ps m len pr) (hM : MR B n ps m len pr) (hV : VB B l) (hx : rw6 (A 19) c) (ic : isRow c) (hW : WF A n ps wf rd mo sm) (b1 : tl.length ≤ 6 * k) (b2 : zsz tl ≤ 36 * k) (b3 : e ≤ k) :
    INV k (cc A (nI n) (nI m) ch wf rd mo sm mk ++ (mm B th (nI n) (nI m) (nI c) ch (nI l.length) ++ (.inl (1, .inr (.inl f)) :: tl)), e) :=
  ⟨A, B, n, m, c, ps, len, pr, l, ch, wf, rd, mo, sm, mk, th, f, tl, e, rfl, hC, hM, hV, hx, ic, hW, b1, b2, b3⟩
theorem zsz_1 (tl : List zC) (a : vp_A) : zsz (tl ++ [.inl a]) = zsz tl + a.1 := by
  rw [zsz_app]
  rfl
theorem row_cases (x : Int32) : (∀ c, isRow c → x ≠ nI c) ∨ ∃ c, isRow c ∧ x = nI c := by
  by_cases h : ∃ c, isRow c ∧ x = nI c
  · exact .inr h
  · exact .inl fun c h1 h2 => h ⟨c, h1, h2⟩
theorem b_goes (hi : i + 7 ≤ X.1 ∧ X.1 ≤ 3584) (hC : CP A n ps m len pr) (hM : MR B n ps m len pr) (hV : VB B l) (hx : rw6 (A 19) c) (ic : isRow c) (hW : WF A n ps wf rd mo sm) (b1 : tl.length ≤ 6 * k) (b2 : zsz tl ≤ 36 * k) (b3 : e ≤ k) : ∃ h2 T2, INV (k + 1) h2 ∧ ∀ o, Go X 11 mL_law (1230, bs i T2, [], h2) o → Go X 11 mL_law (254, bs i T, [], (cc A (nI n) (nI m) ch wf rd mo sm mk ++ (mm B th (nI n) (nI m) (nI c) ch (nI l.length) ++ (.inl (1, .inr (.inl f)) :: tl)), e)) o := by
  have hn := hC.1
  have hm := hC.2.1
  rcases place_cases (X.2 (i + 1)) n (by omega) with h1 | ⟨r, hr, e1⟩
  · refine ⟨_, _, ?_, fun o K => lw_goes_x1 hi rfl rfl (m_goes_f1 h1) (n_goes_f1 hn h1) K⟩
    exact inv_mk hC hM hV hx ic hW (by omega) (by omega) (by omega)
  · rcases place_cases (X.2 (i + 2)) 6 (by omega) with h2 | ⟨q, hq, e2⟩
    · refine ⟨_, _, ?_, fun o K => lw_goes_x1 hi e1 rfl (m_goes_f2 hC hr h2) (n_goes_f2 hM hr h2) K⟩
      exact inv_mk hC hM hV hx ic hW (by omega) (by omega) (by omega)
    · refine ⟨_, _, ?_, fun o K => lw_goes_v hi e1 e2 (m_goes_t hC hr hq) (n_goes_t hM hr hq) K⟩
      exact inv_mk hC hM hV hx ic hW (by omega) (by omega) (by omega)
theorem b_about (hi : i + 7 ≤ X.1 ∧ X.1 ≤ 3584) (hC : CP A n ps m len pr) (hM : MR B n ps m len pr) (hV : VB B l) (hx : rw6 (A 19) c) (ic : isRow c) (hW : WF A n ps wf rd mo sm) (b1 : tl.length ≤ 6 * k) (b2 : zsz tl ≤ 36 * k) (b3 : e ≤ k) : ∃ h2 T2, INV (k + 1) h2 ∧ ∀ o, Go X 11 mL_law (1230, bs i T2, [], h2) o → Go X 11 mL_law (322, bs i T, [], (cc A (nI n) (nI m) ch wf rd mo sm mk ++ (mm B th (nI n) (nI m) (nI c) ch (nI l.length) ++ (.inl (1, .inr (.inl f)) :: tl)), e)) o := by
  have hn := hC.1
  have hm := hC.2.1
  rcases place_cases (X.2 (i + 1)) n (by omega) with h1 | ⟨r, hr, e1⟩
  · refine ⟨_, _, ?_, fun o K => lw_about_x1 hi rfl rfl (m_about_f1 h1) (n_about_f1 hn h1) K⟩
    exact inv_mk hC hM hV hx ic hW (by omega) (by omega) (by omega)
  · rcases place_cases (X.2 (i + 2)) 5 (by omega) with h2 | ⟨q, hq, e2⟩
    · refine ⟨_, _, ?_, fun o K => lw_about_x1 hi e1 rfl (m_about_f2 hC hr h2) (n_about_f2 hM hr h2) K⟩
      exact inv_mk hC hM hV hx ic hW (by omega) (by omega) (by omega)
    · obtain ⟨A2, k1, G1⟩ := m_about_t (X := X) (fu := 5) (e := e) (ch := ch) (wf := wf) (rd := rd) (mo := mo) (sm := sm) (mk := mk) (R := mm B th (nI n) (nI m) (nI c) ch (nI l.length) ++ (.inl (1, .inr (.inl f)) :: tl)) hC hr hq
      refine ⟨_, _, ?_, fun o K => lw_about_v hi e1 e2 G1 (n_about_t hM hr hq) K⟩
      exact inv_mk (CP_k hC k1) hM hV (by rw [k1.1 19 (by omega)]; exact hx) ic (WF_keep hW k1.2.1 k1.2.2) (by omega) (by omega) (by omega)
theorem b_swaps (hi : i + 7 ≤ X.1 ∧ X.1 ≤ 3584) (hC : CP A n ps m len pr) (hM : MR B n ps m len pr) (hV : VB B l) (hx : rw6 (A 19) c) (ic : isRow c) (hW : WF A n ps wf rd mo sm) (b1 : tl.length ≤ 6 * k) (b2 : zsz tl ≤ 36 * k) (b3 : e ≤ k) : ∃ h2 T2, INV (k + 1) h2 ∧ ∀ o, Go X 11 mL_law (1230, bs i T2, [], h2) o → Go X 11 mL_law (390, bs i T, [], (cc A (nI n) (nI m) ch wf rd mo sm mk ++ (mm B th (nI n) (nI m) (nI c) ch (nI l.length) ++ (.inl (1, .inr (.inl f)) :: tl)), e)) o := by
  have hn := hC.1
  have hm := hC.2.1
  rcases place_cases (X.2 (i + 1)) n (by omega) with h1 | ⟨r, hr, e1⟩
  · refine ⟨_, _, ?_, fun o K => lw_swaps_x1 hi rfl rfl (m_swaps_f1 h1) (n_swaps_f1 hn h1) K⟩
    exact inv_mk hC hM hV hx ic hW (by omega) (by omega) (by omega)
  · rcases place_cases (X.2 (i + 2)) n (by omega) with h2 | ⟨q, hq, e2⟩
    · refine ⟨_, _, ?_, fun o K => lw_swaps_x1 hi e1 rfl (m_swaps_f2 hC hr h2) (n_swaps_f2 hM hr h2) K⟩
      exact inv_mk hC hM hV hx ic hW (by omega) (by omega) (by omega)
    · have G1 := fun R => m_swaps_t (X := X) (fu := 7) (e := e) (ch := ch) (wf := wf) (rd := rd) (mo := mo) (sm := sm) (mk := mk) (R := R) hC hr hq
      have G3 := fun A c1 c2 c3 c4 c5 c6 c7 c8 th ch R => n_swaps_t (X := X) (fu := 7) (e := e) (A := A) (c1 := c1) (c2 := c2) (c3 := c3) (c4 := c4) (c5 := c5) (c6 := c6) (c7 := c7) (c8 := c8) (th := th) (ch := ch) (R := R) (l := l) (c := c) hM hr hq
      have hl := al_le (fun k => Nat.beq (dg (ps q) (dg (ps r) k)) (dg (ps r) (dg (ps q) k))) 6 0
      generalize al (fun k => Nat.beq (dg (ps q) (dg (ps r) k)) (dg (ps r) (dg (ps q) k))) 6 0 = z at *
      rcases (show z = 0 ∨ z = 1 by omega) with rfl | rfl
      · refine ⟨_, _, ?_, fun o K => lw_swaps_v0 hi e1 e2 (G1 _) (G3 _ _ _ _ _ _ _ _ _ _ _ _) K⟩
        exact inv_mk hC hM hV hx ic hW (by omega) (by omega) (by omega)
      · refine ⟨_, _, ?_, fun o K => lw_swaps_v1 hi e1 e2 (G1 _) (G3 _ _ _ _ _ _ _ _ _ _ _ _) K⟩
        exact inv_mk hC hM hV hx ic hW (by omega) (by omega) (by omega)
theorem b_ring (hi : i + 7 ≤ X.1 ∧ X.1 ≤ 3584) (hC : CP A n ps m len pr) (hM : MR B n ps m len pr) (hV : VB B l) (hx : rw6 (A 19) c) (ic : isRow c) (hW : WF A n ps wf rd mo sm) (b1 : tl.length ≤ 6 * k) (b2 : zsz tl ≤ 36 * k) (b3 : e ≤ k) : ∃ h2 T2, INV (k + 1) h2 ∧ ∀ o, Go X 11 mL_law (1230, bs i T2, [], h2) o → Go X 11 mL_law (465, bs i T, [], (cc A (nI n) (nI m) ch wf rd mo sm mk ++ (mm B th (nI n) (nI m) (nI c) ch (nI l.length) ++ (.inl (1, .inr (.inl f)) :: tl)), e)) o := by
  have hn := hC.1
  have hm := hC.2.1
  rcases place_cases (X.2 (i + 1)) n (by omega) with h1 | ⟨r, hr, e1⟩
  · refine ⟨_, _, ?_, fun o K => lw_ring_x1 hi rfl (m_ring_f h1) (n_ring_f hn h1) K⟩
    exact inv_mk hC hM hV hx ic hW (by omega) (by omega) (by omega)
  · obtain ⟨A2, k1, x1, G1⟩ := m_ring_t (X := X) (fu := 7) (e := e) (ch := ch) (wf := wf) (rd := rd) (mo := mo) (sm := sm) (mk := mk) (R := mm B th (nI n) (nI m) (nI c) ch (nI l.length) ++ (.inl (1, .inr (.inl f)) :: tl)) hC hx ic hr
    refine ⟨_, _, ?_, fun o K => lw_ring_v hi e1 G1 (n_ring_t hM ic hr) K⟩
    exact inv_mk (CP_keep hC fun j hj => k1 j (by omega) (by omega)) hM hV x1 (rng_row ic (hC.2.2.1 r hr).2) (WF_keep hW (k1 22 (by omega) (by omega)) (k1 23 (by omega) (by omega))) (by omega) (by omega) (by omega)
theorem b_undo (hi : i + 7 ≤ X.1 ∧ X.1 ≤ 3584) (hC : CP A n ps m len pr) (hM : MR B n ps m len pr) (hV : VB B l) (hx : rw6 (A 19) c) (ic : isRow c) (hW : WF A n ps wf rd mo sm) (b1 : tl.length ≤ 6 * k) (b2 : zsz tl ≤ 36 * k) (b3 : e ≤ k) : ∃ h2 T2, INV (k + 1) h2 ∧ ∀ o, Go X 11 mL_law (1230, bs i T2, [], h2) o → Go X 11 mL_law (521, bs i T, [], (cc A (nI n) (nI m) ch wf rd mo sm mk ++ (mm B th (nI n) (nI m) (nI c) ch (nI l.length) ++ (.inl (1, .inr (.inl f)) :: tl)), e)) o := by
  have hn := hC.1
  have hm := hC.2.1
  rcases place_cases (X.2 (i + 1)) n (by omega) with h1 | ⟨r, hr, e1⟩
  · refine ⟨_, _, ?_, fun o K => lw_undo_x1 hi rfl (m_undo_f h1) (n_undo_f hn h1) K⟩
    exact inv_mk hC hM hV hx ic hW (by omega) (by omega) (by omega)
  · obtain ⟨A2, k1, x1, G1⟩ := m_undo_t (X := X) (fu := 7) (e := e) (ch := ch) (wf := wf) (rd := rd) (mo := mo) (sm := sm) (mk := mk) (R := mm B th (nI n) (nI m) (nI c) ch (nI l.length) ++ (.inl (1, .inr (.inl f)) :: tl)) hC hx ic hr
    refine ⟨_, _, ?_, fun o K => lw_undo_v hi e1 G1 (n_undo_t hM ic hr) K⟩
    exact inv_mk (CP_keep hC fun j hj => k1 j (by omega) (by omega)) hM hV x1 (cmp_row ic (hC.2.2.1 r hr).2) (WF_keep hW (k1 22 (by omega) (by omega)) (k1 23 (by omega) (by omega))) (by omega) (by omega) (by omega)
theorem b_at (hi : i + 7 ≤ X.1 ∧ X.1 ≤ 3584) (hC : CP A n ps m len pr) (hM : MR B n ps m len pr) (hV : VB B l) (hx : rw6 (A 19) c) (ic : isRow c) (hW : WF A n ps wf rd mo sm) (b1 : tl.length ≤ 6 * k) (b2 : zsz tl ≤ 36 * k) (b3 : e ≤ k) : ∃ h2 T2, INV (k + 1) h2 ∧ ∀ o, Go X 11 mL_law (1230, bs i T2, [], h2) o → Go X 11 mL_law (577, bs i T, [], (cc A (nI n) (nI m) ch wf rd mo sm mk ++ (mm B th (nI n) (nI m) (nI c) ch (nI l.length) ++ (.inl (1, .inr (.inl f)) :: tl)), e)) o := by
  have hn := hC.1
  have hm := hC.2.1
  rcases place_cases (X.2 (i + 1)) 6 (by omega) with h1 | ⟨r, hr, e1⟩
  · refine ⟨_, _, ?_, fun o K => lw_at_x1 hi rfl (m_at_f h1) (n_at_f h1) K⟩
    exact inv_mk hC hM hV hx ic hW (by omega) (by omega) (by omega)
  · refine ⟨_, _, ?_, fun o K => lw_at_v hi e1 (m_at_t hx hr) (n_at_t ic hr) K⟩
    exact inv_mk hC hM hV hx ic hW (by omega) (by omega) (by omega)
theorem b_find (hi : i + 7 ≤ X.1 ∧ X.1 ≤ 3584) (hC : CP A n ps m len pr) (hM : MR B n ps m len pr) (hV : VB B l) (hx : rw6 (A 19) c) (ic : isRow c) (hW : WF A n ps wf rd mo sm) (b1 : tl.length ≤ 6 * k) (b2 : zsz tl ≤ 36 * k) (b3 : e ≤ k) : ∃ h2 T2, INV (k + 1) h2 ∧ ∀ o, Go X 11 mL_law (1230, bs i T2, [], h2) o → Go X 11 mL_law (633, bs i T, [], (cc A (nI n) (nI m) ch wf rd mo sm mk ++ (mm B th (nI n) (nI m) (nI c) ch (nI l.length) ++ (.inl (1, .inr (.inl f)) :: tl)), e)) o := by
  have hn := hC.1
  have hm := hC.2.1
  rcases place_cases (X.2 (i + 1)) 6 (by omega) with h1 | ⟨r, hr, e1⟩
  · refine ⟨_, _, ?_, fun o K => lw_find_x1 hi rfl (m_find_f h1) (n_find_f h1) K⟩
    exact inv_mk hC hM hV hx ic hW (by omega) (by omega) (by omega)
  · refine ⟨_, _, ?_, fun o K => lw_find_v hi e1 (m_find_t hx ic hr) (n_find_t ic hr) K⟩
    exact inv_mk hC hM hV hx ic hW (by omega) (by omega) (by omega)
theorem b_set (hi : i + 7 ≤ X.1 ∧ X.1 ≤ 3584) (hC : CP A n ps m len pr) (hM : MR B n ps m len pr) (hV : VB B l) (hx : rw6 (A 19) c) (ic : isRow c) (hW : WF A n ps wf rd mo sm) (b1 : tl.length ≤ 6 * k) (b2 : zsz tl ≤ 36 * k) (b3 : e ≤ k) : ∃ h2 T2, INV (k + 1) h2 ∧ ∀ o, Go X 11 mL_law (1230, bs i T2, [], h2) o → Go X 11 mL_law (689, bs i T, [], (cc A (nI n) (nI m) ch wf rd mo sm mk ++ (mm B th (nI n) (nI m) (nI c) ch (nI l.length) ++ (.inl (1, .inr (.inl f)) :: tl)), e)) o := by
  have hn := hC.1
  have hm := hC.2.1
  rcases row_cases (X.2 (i + 1)) with h1 | ⟨its, ii, e1⟩
  · refine ⟨_, _, ?_, fun o K => lw_set_x1 hi rfl (m_set_f h1) (n_set_f h1) K⟩
    exact inv_mk hC hM hV hx ic hW (by omega) (by omega) (by omega)
  · obtain ⟨A2, k1, x1, G1⟩ := m_set_t (X := X) (fu := 7) (e := e) (ch := ch) (wf := wf) (rd := rd) (mo := mo) (sm := sm) (mk := mk) (R := mm B th (nI n) (nI m) (nI c) ch (nI l.length) ++ (.inl (1, .inr (.inl f)) :: tl)) (n := n) (m := m) hx ic ii
    refine ⟨_, _, ?_, fun o K => lw_set_v hi e1 G1 (n_set_t ii) K⟩
    exact inv_mk (CP_keep hC fun j hj => k1 j (by omega) (by omega)) hM hV x1 ii (WF_keep hW (k1 22 (by omega) (by omega)) (k1 23 (by omega) (by omega))) (by omega) (by omega) (by omega)
theorem b_peal (hi : i + 7 ≤ X.1 ∧ X.1 ≤ 3584) (hC : CP A n ps m len pr) (hM : MR B n ps m len pr) (hV : VB B l) (hx : rw6 (A 19) c) (ic : isRow c) (hW : WF A n ps wf rd mo sm) (b1 : tl.length ≤ 6 * k) (b2 : zsz tl ≤ 36 * k) (b3 : e ≤ k) : ∃ h2 T2, INV (k + 1) h2 ∧ ∀ o, Go X 11 mL_law (1230, bs i T2, [], h2) o → Go X 11 mL_law (745, bs i T, [], (cc A (nI n) (nI m) ch wf rd mo sm mk ++ (mm B th (nI n) (nI m) (nI c) ch (nI l.length) ++ (.inl (1, .inr (.inl f)) :: tl)), e)) o := by
  have hn := hC.1
  have hm := hC.2.1
  by_cases h1 : m < 6
  · refine ⟨_, _, ?_, fun o K => lw_peal_v hi (m_peal_t h1) (n_peal_t h1) K⟩
    exact inv_mk ⟨hC.1, h1, hC.2.2⟩ ⟨hM.1, h1, hM.2.2⟩ hV hx ic hW (by omega) (by omega) (by omega)
  · obtain rfl : m = 6 := by omega
    refine ⟨_, _, ?_, fun o K => lw_peal_x1 hi m_peal_f n_peal_f K⟩
    exact inv_mk hC hM hV hx ic hW (by omega) (by omega) (by omega)
theorem b_add (hi : i + 7 ≤ X.1 ∧ X.1 ≤ 3584) (hC : CP A n ps m len pr) (hM : MR B n ps m len pr) (hV : VB B l) (hx : rw6 (A 19) c) (ic : isRow c) (hW : WF A n ps wf rd mo sm) (b1 : tl.length ≤ 6 * k) (b2 : zsz tl ≤ 36 * k) (b3 : e ≤ k) : ∃ h2 T2, INV (k + 1) h2 ∧ ∀ o, Go X 11 mL_law (1230, bs i T2, [], h2) o → Go X 11 mL_law (789, bs i T, [], (cc A (nI n) (nI m) ch wf rd mo sm mk ++ (mm B th (nI n) (nI m) (nI c) ch (nI l.length) ++ (.inl (1, .inr (.inl f)) :: tl)), e)) o := by
  have hn := hC.1
  have hm := hC.2.1
  rcases place_cases (X.2 (i + 1)) m (by omega) with h1 | ⟨p, hp, e1⟩
  · refine ⟨_, _, ?_, fun o K => lw_add_x1 hi rfl rfl (m_add_f1 h1) (n_add_f1 hm h1) K⟩
    exact inv_mk hC hM hV hx ic hW (by omega) (by omega) (by omega)
  · rcases place_cases (X.2 (i + 2)) n (by omega) with h2 | ⟨r, hr, e2⟩
    · refine ⟨_, _, ?_, fun o K => lw_add_x1 hi e1 rfl (m_add_f2 hC hp h2) (n_add_f2 hM hp h2) K⟩
      exact inv_mk hC hM hV hx ic hW (by omega) (by omega) (by omega)
    · by_cases h3 : len p < 30
      · obtain ⟨A2, k1, C2, G1⟩ := m_add_t (X := X) (fu := 7) (e := e) (ch := ch) (wf := wf) (rd := rd) (mo := mo) (sm := sm) (mk := mk) (R := mm B th (nI n) (nI m) (nI c) ch (nI l.length) ++ (.inl (1, .inr (.inl f)) :: tl)) hC hp hr h3
        obtain ⟨B2, q1, q2, M2, G3⟩ := n_add_t (X := X) (fu := 8) (e := e) (A := A2) (c1 := nI n) (c2 := nI m) (c3 := ch) (c4 := wf) (c5 := rd) (c6 := mo) (c7 := sm) (c8 := mk) (th := th) (ch := ch) (R := .inl (1, .inr (.inl (vp_updL f 0 (nI (len p + 1)).toInt64))) :: tl) (l := l) (c := c) hM hp hr h3
        refine ⟨_, _, ?_, fun o K => lw_add_v hi e1 e2 G1 G3 K⟩
        exact inv_mk C2 M2 (VB_keep hV q1 q2) (by rw [k1 19 (by omega) (by omega)]; exact hx) ic (WF_keep hW (k1 22 (by omega) (by omega)) (k1 23 (by omega) (by omega))) (by omega) (by omega) (by omega)
      · refine ⟨_, _, ?_, fun o K => lw_add_x2 hi e1 e2 (m_add_f3 hC hp hr h3) (n_add_f3 hM hp hr h3) K⟩
        exact inv_mk hC hM hV hx ic hW (by omega) (by omega) (by omega)
theorem b_play (hi : i + 7 ≤ X.1 ∧ X.1 ≤ 3584) (hC : CP A n ps m len pr) (hM : MR B n ps m len pr) (hV : VB B l) (hx : rw6 (A 19) c) (ic : isRow c) (hW : WF A n ps wf rd mo sm) (b1 : tl.length ≤ 6 * k) (b2 : zsz tl ≤ 36 * k) (b3 : e ≤ k) : ∃ h2 T2, INV (k + 1) h2 ∧ ∀ o, Go X 11 mL_law (1230, bs i T2, [], h2) o → Go X 11 mL_law (857, bs i T, [], (cc A (nI n) (nI m) ch wf rd mo sm mk ++ (mm B th (nI n) (nI m) (nI c) ch (nI l.length) ++ (.inl (1, .inr (.inl f)) :: tl)), e)) o := by
  have hn := hC.1
  have hm := hC.2.1
  rcases place_cases (X.2 (i + 1)) m (by omega) with h1 | ⟨p, hp, e1⟩
  · refine ⟨_, _, ?_, fun o K => lw_play_x1 hi rfl (m_play_f h1) (n_play_f hm h1) K⟩
    exact inv_mk hC hM hV hx ic hW (by omega) (by omega) (by omega)
  · obtain ⟨A2, k1, x1, G1⟩ := m_play_t (X := X) (fu := 6) (e := e) (ch := ch) (wf := wf) (rd := rd) (mo := mo) (sm := sm) (mk := mk) (R := mm B th (nI n) (nI m) (nI c) ch (nI l.length) ++ (.inl (1, .inr (.inl f)) :: tl)) hC hx ic hp
    have ip : isRow (pl ps (pr p) (len p) 0 c) := peal_row (len p) 0 c (MR_rows hM hp) ic
    refine ⟨_, _, ?_, fun o K => lw_play_v hi e1 G1 (n_play_t hM ic hp) K⟩
    exact inv_mk (CP_keep hC fun j hj => k1 j (by omega) (by omega)) hM hV x1 ip (WF_keep hW (k1 22 (by omega) (by omega)) (k1 23 (by omega) (by omega))) (by omega) (by omega) (by omega)
theorem b_told (hi : i + 7 ≤ X.1 ∧ X.1 ≤ 3584) (hC : CP A n ps m len pr) (hM : MR B n ps m len pr) (hV : VB B l) (hx : rw6 (A 19) c) (ic : isRow c) (hW : WF A n ps wf rd mo sm) (b1 : tl.length ≤ 6 * k) (b2 : zsz tl ≤ 36 * k) (b3 : e ≤ k) : ∃ h2 T2, INV (k + 1) h2 ∧ ∀ o, Go X 11 mL_law (1230, bs i T2, [], h2) o → Go X 11 mL_law (913, bs i T, [], (cc A (nI n) (nI m) ch wf rd mo sm mk ++ (mm B th (nI n) (nI m) (nI c) ch (nI l.length) ++ (.inl (1, .inr (.inl f)) :: tl)), e)) o := by
  have hn := hC.1
  have hm := hC.2.1
  rcases place_cases (X.2 (i + 1)) m (by omega) with h1 | ⟨p, hp, e1⟩
  · refine ⟨_, _, ?_, fun o K => lw_told_x1 hi rfl rfl (m_told_f1 h1) (n_told_f1 hm h1) K⟩
    exact inv_mk hC hM hV hx ic hW (by omega) (by omega) (by omega)
  · rcases place_cases (X.2 (i + 2)) 5 (by omega) with h2 | ⟨q, hq, e2⟩
    · refine ⟨_, _, ?_, fun o K => lw_told_x1 hi e1 rfl (m_told_f2 hC hp h2) (n_told_f2 hM hp h2) K⟩
      exact inv_mk hC hM hV hx ic hW (by omega) (by omega) (by omega)
    · obtain ⟨A2, mk2, k1, G1⟩ := m_told_t (X := X) (fu := 4) (e := e) (ch := ch) (wf := wf) (rd := rd) (mo := mo) (sm := sm) (mk := mk) (R := mm B th (nI n) (nI m) (nI c) ch (nI l.length) ++ (.inl (1, .inr (.inl f)) :: tl)) hC hp hq
      obtain ⟨B2, l2, q1, V2, G3⟩ := n_told_t (X := X) (fu := 5) (e := e) (A := A2) (c1 := nI n) (c2 := nI m) (c3 := ch) (c4 := wf) (c5 := rd) (c6 := mo) (c7 := sm) (c8 := mk2) (th := th) (ch := ch) (R := .inl (1, .inr (.inl (vp_updL f 0 (fP ps len pr p q).toInt64))) :: tl) (c := c) hM hV hp hq
      refine ⟨_, _, ?_, fun o K => lw_told_v hi e1 e2 G1 G3 K⟩
      exact inv_mk (CP_k hC k1) (MR_keep hM q1) V2 (by rw [k1.1 19 (by omega)]; exact hx) ic (WF_keep hW k1.2.1 k1.2.2) (by omega) (by omega) (by omega)
theorem b_count (hi : i + 7 ≤ X.1 ∧ X.1 ≤ 3584) (hC : CP A n ps m len pr) (hM : MR B n ps m len pr) (hV : VB B l) (hx : rw6 (A 19) c) (ic : isRow c) (hW : WF A n ps wf rd mo sm) (b1 : tl.length ≤ 6 * k) (b2 : zsz tl ≤ 36 * k) (b3 : e ≤ k) : ∃ h2 T2, INV (k + 1) h2 ∧ ∀ o, Go X 11 mL_law (1230, bs i T2, [], h2) o → Go X 11 mL_law (981, bs i T, [], (cc A (nI n) (nI m) ch wf rd mo sm mk ++ (mm B th (nI n) (nI m) (nI c) ch (nI l.length) ++ (.inl (1, .inr (.inl f)) :: tl)), e)) o := by
  have hn := hC.1
  have hm := hC.2.1
  rcases place_cases (X.2 (i + 1)) 5 (by omega) with h1 | ⟨q, hq, e1⟩
  · refine ⟨_, _, ?_, fun o K => lw_count_x1 hi rfl (m_count_f h1) (n_count_f h1) K⟩
    exact inv_mk hC hM hV hx ic hW (by omega) (by omega) (by omega)
  · obtain ⟨g, G3⟩ := n_count_t (X := X) (fu := 7) (e := e) (A := A) (B := B) (c1 := nI n) (c2 := nI m) (c3 := ch) (c4 := wf) (c5 := rd) (c6 := mo) (c7 := sm) (c8 := mk) (n := n) (m := m) (th := th) (ch := ch) (R := .inl (1, .inr (.inl (vp_updL f 0 (fC n m ch c q).toInt64))) :: tl) (c := c) (l := l) ic hq
    refine ⟨_, _, ?_, fun o K => lw_count_v (tl2 := tl ++ [.inl (5, .inl g)]) hi e1 (m_count_t hx ic hq) G3 K⟩
    exact inv_mk hC hM hV hx ic hW (by rw [List.length_append]; show tl.length + 1 ≤ _; omega) (by rw [zsz_1]; show zsz tl + 5 ≤ _; omega) (by omega)
theorem b_steps (hi : i + 7 ≤ X.1 ∧ X.1 ≤ 3584) (hC : CP A n ps m len pr) (hM : MR B n ps m len pr) (hV : VB B l) (hx : rw6 (A 19) c) (ic : isRow c) (hW : WF A n ps wf rd mo sm) (b1 : tl.length ≤ 6 * k) (b2 : zsz tl ≤ 36 * k) (b3 : e ≤ k) : ∃ h2 T2, INV (k + 1) h2 ∧ ∀ o, Go X 11 mL_law (1230, bs i T2, [], h2) o → Go X 11 mL_law (1037, bs i T, [], (cc A (nI n) (nI m) ch wf rd mo sm mk ++ (mm B th (nI n) (nI m) (nI c) ch (nI l.length) ++ (.inl (1, .inr (.inl f)) :: tl)), e)) o := by
  have hn := hC.1
  have hm := hC.2.1
  rcases row_cases (X.2 (i + 1)) with h1 | ⟨its, ii, e1⟩
  · refine ⟨_, _, ?_, fun o K => lw_steps_x1 hi rfl (m_steps_f h1) (n_steps_f h1) K⟩
    exact inv_mk hC hM hV hx ic hW (by omega) (by omega) (by omega)
  · obtain ⟨A2, k1, Q2, G1⟩ := m_steps_t (X := X) (fu := 5) (e := e) (ch := ch) (wf := wf) (rd := rd) (mo := mo) (sm := sm) (mk := mk) (R := mm B th (nI n) (nI m) (nI c) ch (nI l.length) ++ (.inl (1, .inr (.inl f)) :: tl)) hC hW hx ic ii
    obtain ⟨B2, l2, q1, V2, G3⟩ := n_steps_t (X := X) (fu := 6) (e := e) (A := A2) (c1 := nI n) (c2 := nI m) (c3 := ch) (c4 := (nI 1)) (c5 := (nI (WL n ps).length)) (c6 := (nI (laD (WL n ps)))) (c7 := (nI (suD (WL n ps)))) (c8 := mk) (th := th) (ch := ch) (R := .inl (1, .inr (.inl (vp_updL f 0 (fwD (lk (WL n ps) (cmp (inv c) its))).toInt64))) :: tl) (c := c) hM hV ic ii
    refine ⟨_, _, ?_, fun o K => lw_steps_v hi e1 G1 G3 K⟩
    exact inv_mk (CP_keep hC fun j hj => k1 j (by omega)) (MR_keep hM q1) V2 (by rw [k1 19 (by omega)]; exact hx) ic (.inr ⟨rfl, Q2, rfl, rfl, rfl⟩) (by omega) (by omega) (by omega)
theorem b_next (hi : i + 7 ≤ X.1 ∧ X.1 ≤ 3584) (hC : CP A n ps m len pr) (hM : MR B n ps m len pr) (hV : VB B l) (hx : rw6 (A 19) c) (ic : isRow c) (hW : WF A n ps wf rd mo sm) (b1 : tl.length ≤ 6 * k) (b2 : zsz tl ≤ 36 * k) (b3 : e ≤ k) : ∃ h2 T2, INV (k + 1) h2 ∧ ∀ o, Go X 11 mL_law (1230, bs i T2, [], h2) o → Go X 11 mL_law (1093, bs i T, [], (cc A (nI n) (nI m) ch wf rd mo sm mk ++ (mm B th (nI n) (nI m) (nI c) ch (nI l.length) ++ (.inl (1, .inr (.inl f)) :: tl)), e)) o := by
  have hn := hC.1
  have hm := hC.2.1
  rcases row_cases (X.2 (i + 1)) with h1 | ⟨its, ii, e1⟩
  · refine ⟨_, _, ?_, fun o K => lw_next_x1 hi rfl (m_next_f h1) (n_next_f h1) K⟩
    exact inv_mk hC hM hV hx ic hW (by omega) (by omega) (by omega)
  · obtain ⟨A2, k1, Q2, G1⟩ := m_next_t (X := X) (fu := 5) (e := e) (ch := ch) (wf := wf) (rd := rd) (mo := mo) (sm := sm) (mk := mk) (R := mm B th (nI n) (nI m) (nI c) ch (nI l.length) ++ (.inl (1, .inr (.inl f)) :: tl)) hC hW hx ic ii
    obtain ⟨B2, l2, q1, V2, G3⟩ := n_next_t (X := X) (fu := 6) (e := e) (A := A2) (c1 := nI n) (c2 := nI m) (c3 := ch) (c4 := (nI 1)) (c5 := (nI (WL n ps).length)) (c6 := (nI (laD (WL n ps)))) (c7 := (nI (suD (WL n ps)))) (c8 := mk) (th := th) (ch := ch) (R := .inl (1, .inr (.inl (vp_updL f 0 (fwR (lk (WL n ps) (cmp (inv c) its))).toInt64))) :: tl) (c := c) hM hV ic ii
    refine ⟨_, _, ?_, fun o K => lw_next_v hi e1 G1 G3 K⟩
    exact inv_mk (CP_keep hC fun j hj => k1 j (by omega)) (MR_keep hM q1) V2 (by rw [k1 19 (by omega)]; exact hx) ic (.inr ⟨rfl, Q2, rfl, rfl, rfl⟩) (by omega) (by omega) (by omega)
theorem b_reach (hi : i + 7 ≤ X.1 ∧ X.1 ≤ 3584) (hC : CP A n ps m len pr) (hM : MR B n ps m len pr) (hV : VB B l) (hx : rw6 (A 19) c) (ic : isRow c) (hW : WF A n ps wf rd mo sm) (b1 : tl.length ≤ 6 * k) (b2 : zsz tl ≤ 36 * k) (b3 : e ≤ k) : ∃ h2 T2, INV (k + 1) h2 ∧ ∀ o, Go X 11 mL_law (1230, bs i T2, [], h2) o → Go X 11 mL_law (1149, bs i T, [], (cc A (nI n) (nI m) ch wf rd mo sm mk ++ (mm B th (nI n) (nI m) (nI c) ch (nI l.length) ++ (.inl (1, .inr (.inl f)) :: tl)), e)) o := by
  have hn := hC.1
  have hm := hC.2.1
  obtain ⟨A2, k1, Q2, G1⟩ := m_reach_t (X := X) (fu := 6) (e := e) (ch := ch) (wf := wf) (rd := rd) (mo := mo) (sm := sm) (mk := mk) (R := mm B th (nI n) (nI m) (nI c) ch (nI l.length) ++ (.inl (1, .inr (.inl f)) :: tl)) hC hW
  obtain ⟨B2, l2, q1, V2, G3⟩ := n_reach_t (X := X) (fu := 6) (e := e) (A := A2) (c1 := nI n) (c2 := nI m) (c3 := ch) (c4 := (nI 1)) (c5 := (nI (WL n ps).length)) (c6 := (nI (laD (WL n ps)))) (c7 := (nI (suD (WL n ps)))) (c8 := mk) (th := th) (ch := ch) (R := .inl (1, .inr (.inl f)) :: tl) (c := c) hM hV ic
  refine ⟨_, _, ?_, fun o K => lw_reach G1 G3 K⟩
  exact inv_mk (CP_keep hC fun j hj => k1 j (by omega)) (MR_keep hM q1) V2 (by rw [k1 19 (by omega)]; exact hx) ic (.inr ⟨rfl, Q2, rfl, rfl, rfl⟩) (by omega) (by omega) (by omega)
theorem b_farthest (hi : i + 7 ≤ X.1 ∧ X.1 ≤ 3584) (hC : CP A n ps m len pr) (hM : MR B n ps m len pr) (hV : VB B l) (hx : rw6 (A 19) c) (ic : isRow c) (hW : WF A n ps wf rd mo sm) (b1 : tl.length ≤ 6 * k) (b2 : zsz tl ≤ 36 * k) (b3 : e ≤ k) : ∃ h2 T2, INV (k + 1) h2 ∧ ∀ o, Go X 11 mL_law (1230, bs i T2, [], h2) o → Go X 11 mL_law (1162, bs i T, [], (cc A (nI n) (nI m) ch wf rd mo sm mk ++ (mm B th (nI n) (nI m) (nI c) ch (nI l.length) ++ (.inl (1, .inr (.inl f)) :: tl)), e)) o := by
  have hn := hC.1
  have hm := hC.2.1
  obtain ⟨A2, k1, Q2, G1⟩ := m_farthest_t (X := X) (fu := 6) (e := e) (ch := ch) (wf := wf) (rd := rd) (mo := mo) (sm := sm) (mk := mk) (R := mm B th (nI n) (nI m) (nI c) ch (nI l.length) ++ (.inl (1, .inr (.inl f)) :: tl)) hC hW
  obtain ⟨B2, l2, q1, V2, G3⟩ := n_farthest_t (X := X) (fu := 6) (e := e) (A := A2) (c1 := nI n) (c2 := nI m) (c3 := ch) (c4 := (nI 1)) (c5 := (nI (WL n ps).length)) (c6 := (nI (laD (WL n ps)))) (c7 := (nI (suD (WL n ps)))) (c8 := mk) (th := th) (ch := ch) (R := .inl (1, .inr (.inl f)) :: tl) (c := c) hM hV ic
  refine ⟨_, _, ?_, fun o K => lw_farthest G1 G3 K⟩
  exact inv_mk (CP_keep hC fun j hj => k1 j (by omega)) (MR_keep hM q1) V2 (by rw [k1 19 (by omega)]; exact hx) ic (.inr ⟨rfl, Q2, rfl, rfl, rfl⟩) (by omega) (by omega) (by omega)
theorem b_mean (hi : i + 7 ≤ X.1 ∧ X.1 ≤ 3584) (hC : CP A n ps m len pr) (hM : MR B n ps m len pr) (hV : VB B l) (hx : rw6 (A 19) c) (ic : isRow c) (hW : WF A n ps wf rd mo sm) (b1 : tl.length ≤ 6 * k) (b2 : zsz tl ≤ 36 * k) (b3 : e ≤ k) : ∃ h2 T2, INV (k + 1) h2 ∧ ∀ o, Go X 11 mL_law (1230, bs i T2, [], h2) o → Go X 11 mL_law (1175, bs i T, [], (cc A (nI n) (nI m) ch wf rd mo sm mk ++ (mm B th (nI n) (nI m) (nI c) ch (nI l.length) ++ (.inl (1, .inr (.inl f)) :: tl)), e)) o := by
  have hn := hC.1
  have hm := hC.2.1
  obtain ⟨A2, k1, Q2, G1⟩ := m_mean_t (X := X) (fu := 6) (e := e) (ch := ch) (wf := wf) (rd := rd) (mo := mo) (sm := sm) (mk := mk) (R := mm B th (nI n) (nI m) (nI c) ch (nI l.length) ++ (.inl (1, .inr (.inl f)) :: tl)) hC hW
  obtain ⟨B2, l2, q1, V2, G3⟩ := n_mean_t (X := X) (fu := 6) (e := e) (A := A2) (c1 := nI n) (c2 := nI m) (c3 := ch) (c4 := (nI 1)) (c5 := (nI (WL n ps).length)) (c6 := (nI (laD (WL n ps)))) (c7 := (nI (suD (WL n ps)))) (c8 := mk) (th := th) (ch := ch) (R := .inl (1, .inr (.inl f)) :: tl) (c := c) hM hV ic
  refine ⟨_, _, ?_, fun o K => lw_mean G1 G3 K⟩
  exact inv_mk (CP_keep hC fun j hj => k1 j (by omega)) (MR_keep hM q1) V2 (by rw [k1 19 (by omega)]; exact hx) ic (.inr ⟨rfl, Q2, rfl, rfl, rfl⟩) (by omega) (by omega) (by omega)
theorem b_digest (hi : i + 7 ≤ X.1 ∧ X.1 ≤ 3584) (hC : CP A n ps m len pr) (hM : MR B n ps m len pr) (hV : VB B l) (hx : rw6 (A 19) c) (ic : isRow c) (hW : WF A n ps wf rd mo sm) (b1 : tl.length ≤ 6 * k) (b2 : zsz tl ≤ 36 * k) (b3 : e ≤ k) : ∃ h2 T2, INV (k + 1) h2 ∧ ∀ o, Go X 11 mL_law (1230, bs i T2, [], h2) o → Go X 11 mL_law (1216, bs i T, [], (cc A (nI n) (nI m) ch wf rd mo sm mk ++ (mm B th (nI n) (nI m) (nI c) ch (nI l.length) ++ (.inl (1, .inr (.inl f)) :: tl)), e)) o := by
  have hn := hC.1
  have hm := hC.2.1
  obtain ⟨A2, mk2, k1, G1⟩ := m_digest (X := X) (fu := 4) (e := e) (ch := ch) (wf := wf) (rd := rd) (mo := mo) (sm := sm) (mk := mk) (R := mm B th (nI n) (nI m) (nI c) ch (nI l.length) ++ (.inl (1, .inr (.inl f)) :: tl)) hC hx ic
  obtain ⟨B2, l2, t, q1, V2, z1, z2, G3⟩ := n_digest (X := X) (fu := 5) (e := e) (A := A2) (c1 := nI n) (c2 := nI m) (c3 := ch) (c4 := wf) (c5 := rd) (c6 := mo) (c7 := sm) (c8 := mk2) (th := th) (ch := ch) (R := .inl (1, .inr (.inl f)) :: tl) (c := c) hM hV ic
  refine ⟨_, _, ?_, fun o K => lw_digest (tl2 := tl ++ t) G1 G3 K⟩
  exact inv_mk (CP_k hC k1) (MR_keep hM q1) V2 (by rw [k1.1 19 (by omega)]; exact hx) ic (WF_keep hW k1.2.1 k1.2.2) (by rw [List.length_append]; omega) (by rw [zsz_app]; omega) (by omega)
theorem rule_bad {x0 x1 x2 x3 x4 x5 : Int32} {R : List zC} (h : ¬ okS (sx x0 x1 x2 x3 x4 x5) 6 0 0) : Go X 9 mX3_rule (0, [(0, .ref 0), (1, .int x0), (2, .int x1), (3, .int x2), (4, .int x3), (5, .int x4), (6, .int x5)], [], (cc A (nI n) (nI m) ch wf rd mo sm mk ++ R, e)) (.inr 5, (cc A (nI n) (nI m) ch wf rd mo sm mk ++ R, e + 1)) := by
  rcases place_cases x0 6 (by omega) with h0 | ⟨v0, l0, rfl⟩
  · exact m_rule_b0 h0
  rcases place_cases x1 6 (by omega) with h1 | ⟨v1, l1, rfl⟩
  · exact m_rule_b1 l0 h1
  rcases place_cases x2 6 (by omega) with h2 | ⟨v2, l2, rfl⟩
  · exact m_rule_b2 l0 l1 h2
  rcases place_cases x3 6 (by omega) with h3 | ⟨v3, l3, rfl⟩
  · exact m_rule_b3 l0 l1 l2 h3
  rcases place_cases x4 6 (by omega) with h4 | ⟨v4, l4, rfl⟩
  · exact m_rule_b4 l0 l1 l2 l3 h4
  rcases place_cases x5 6 (by omega) with h5 | ⟨v5, l5, rfl⟩
  · exact m_rule_b5 l0 l1 l2 l3 l4 h5
  have hF : ∃ F : Nat → Nat, F 0 = v0 ∧ F 1 = v1 ∧ F 2 = v2 ∧ F 3 = v3 ∧ F 4 = v4 ∧ F 5 = v5 := ⟨fun j => match j with | 0 => v0 | 1 => v1 | 2 => v2 | 3 => v3 | 4 => v4 | _ => v5, rfl, rfl, rfl, rfl, rfl, rfl⟩
  obtain ⟨F, f0, f1, f2, f3, f4, f5⟩ := hF
  have hl : ∀ j, j < 6 → F j < 6 := six (by omega) (by omega) (by omega) (by omega) (by omega) (by omega)
  have hd := dg_mk6 hl
  have np : ¬ isRow (mk6 F) := fun ip => h (row_okS ip (six (by rw [hd 0 (by omega), f0]; rfl) (by rw [hd 1 (by omega), f1]; rfl) (by rw [hd 2 (by omega), f2]; rfl) (by rw [hd 3 (by omega), f3]; rfl) (by rw [hd 4 (by omega), f4]; rfl) (by rw [hd 5 (by omega), f5]; rfl)))
  have G := m_rule_f1 (X := X) (fu := 1) (e := e) (A := A) (ch := ch) (wf := wf) (rd := rd) (mo := mo) (sm := sm) (mk := mk) (R := R) (n := n) (m := m) (mk6_lt hl) np
  rw [hd 0 (by omega), hd 1 (by omega), hd 2 (by omega), hd 3 (by omega), hd 4 (by omega), hd 5 (by omega), f0, f1, f2, f3, f4, f5] at G
  exact G
theorem b_rule (hi : i + 7 ≤ X.1 ∧ X.1 ≤ 3584) (hC : CP A n ps m len pr) (hM : MR B n ps m len pr) (hV : VB B l) (hx : rw6 (A 19) c) (ic : isRow c) (hW : WF A n ps wf rd mo sm) (b1 : tl.length ≤ 6 * k) (b2 : zsz tl ≤ 36 * k) (b3 : e ≤ k) : ∃ h2 T2, INV (k + 1) h2 ∧ ∀ o, Go X 11 mL_law (1230, bs i T2, [], h2) o → Go X 11 mL_law (136, bs i T, [], (cc A (nI n) (nI m) ch wf rd mo sm mk ++ (mm B th (nI n) (nI m) (nI c) ch (nI l.length) ++ (.inl (1, .inr (.inl f)) :: tl)), e)) o := by
  have hn := hC.1
  have hm := hC.2.1
  by_cases h1 : okS (sx (X.2 (i + 1)) (X.2 (i + 2)) (X.2 (i + 3)) (X.2 (i + 4)) (X.2 (i + 5)) (X.2 (i + 6))) 6 0 0
  · obtain ⟨p, ip, hp⟩ := okS_row h1
    have p0 : X.2 (i + 1) = nI (dg p 0) := hp 0 (by omega)
    have p1 : X.2 (i + 2) = nI (dg p 1) := hp 1 (by omega)
    have p2 : X.2 (i + 3) = nI (dg p 2) := hp 2 (by omega)
    have p3 : X.2 (i + 4) = nI (dg p 3) := hp 3 (by omega)
    have p4 : X.2 (i + 5) = nI (dg p 4) := hp 4 (by omega)
    have p5 : X.2 (i + 6) = nI (dg p 5) := hp 5 (by omega)
    rw [p0, p1, p2, p3, p4, p5] at hp h1
    by_cases h2 : n < 8
    · obtain ⟨A2, k1, x1, G1⟩ := m_rule_t (X := X) (fu := 7) (e := e) (ch := ch) (wf := wf) (rd := rd) (mo := mo) (sm := sm) (mk := mk) (R := mm B th (nI n) (nI m) (nI c) ch (nI l.length) ++ (.inl (1, .inr (.inl f)) :: tl)) hC h2 ip
      obtain ⟨B2, q1, q2, M2, G3⟩ := n_rule_t (X := X) (fu := 7) (e := e) (A := A2) (c1 := nI (n + 1)) (c2 := nI m) (c3 := ch) (c4 := nI 0) (c5 := rd) (c6 := mo) (c7 := sm) (c8 := mk) (th := th) (ch := ch) (R := .inl (1, .inr (.inl (vp_updL f 0 (nI n).toInt64))) :: tl) (l := l) (c := c) hM h2 ip hp
      have C2 : CP A2 (n + 1) (upN ps n p) m len pr := by
        obtain ⟨d1, d2, d3, d4, d5⟩ := hC
        refine ⟨by omega, d2, fun j hj => ?_, by rw [k1 17 (by omega)]; exact d4, fun j hj => ?_⟩
        · show rw6 (A2 (2 + j)) (if j = n then p else ps j) ∧ isRow (if j = n then p else ps j)
          by_cases e1 : j = n
          · subst e1; rw [if_pos rfl]; exact ⟨x1, ip⟩
          · rw [if_neg e1, k1 (2 + j) (by omega)]; exact d3 j (by omega)
        · rw [k1 (11 + j) (by omega)]
          obtain ⟨z1, z2, z3⟩ := d5 j hj
          exact ⟨z1, z2, fun j hj => by have := z3 j hj; omega⟩
      refine ⟨_, _, ?_, fun o K => lw_rule_v (tl2 := tl ++ [_]) hi p0 p1 p2 p3 p4 p5 G1 G3 K⟩
      exact inv_mk C2 M2 (VB_keep hV q1 q2) (by rw [k1 19 (by omega)]; exact hx) ic (.inl rfl) (by rw [List.length_append]; show tl.length + 1 ≤ _; omega) (by rw [zsz_1]; show zsz tl + 6 ≤ _; omega) (by omega)
    · obtain rfl : n = 8 := by omega
      refine ⟨_, _, ?_, fun o K => lw_rule_x2 (tl2 := tl ++ [_]) hi p0 p1 p2 p3 p4 p5 (m_rule_f2 ip) (n_rule_f2 h1) K⟩
      exact inv_mk hC hM hV hx ic hW (by rw [List.length_append]; show tl.length + 1 ≤ _; omega) (by rw [zsz_1]; show zsz tl + 6 ≤ _; omega) (by omega)
  · refine ⟨_, _, ?_, fun o K => lw_rule_x1 (tl2 := tl ++ [_]) hi rfl rfl rfl rfl rfl rfl (rule_bad h1) (n_rule_f1 h1) K⟩
    exact inv_mk hC hM hV hx ic hW (by rw [List.length_append]; show tl.length + 1 ≤ _; omega) (by rw [zsz_1]; show zsz tl + 6 ≤ _; omega) (by omega)
set_option maxRecDepth 20000 in
theorem b_all (hi : i + 7 ≤ X.1 ∧ X.1 ≤ 3584) (hC : CP A n ps m len pr) (hM : MR B n ps m len pr) (hV : VB B l) (hx : rw6 (A 19) c) (ic : isRow c) (hW : WF A n ps wf rd mo sm) (b1 : tl.length ≤ 6 * k) (b2 : zsz tl ≤ 36 * k) (b3 : e ≤ k) : ∃ h2 T2, INV (k + 1) h2 ∧ ∀ o, Go X 11 mL_law (1230, bs i T2, [], h2) o → Go X 11 mL_law (33, bs i T, [], (cc A (nI n) (nI m) ch wf rd mo sm mk ++ (mm B th (nI n) (nI m) (nI c) ch (nI l.length) ++ (.inl (1, .inr (.inl f)) :: tl)), e)) o := by
  obtain ⟨s, hs, es⟩ := and31 (X.2 i)
  have pre : ∀ o, Go X 11 mL_law (40, bs i T, [.int (nI s)], (cc A (nI n) (nI m) ch wf rd mo sm mk ++ (mm B th (nI n) (nI m) (nI c) ch (nI l.length) ++ (.inl (1, .inr (.inl f)) :: tl)), e)) o → Go X 11 mL_law (33, bs i T, [], (cc A (nI n) (nI m) ch wf rd mo sm mk ++ (mm B th (nI n) (nI m) (nI c) ch (nI l.length) ++ (.inl (1, .inr (.inl f)) :: tl)), e)) o := by
    intro o K
    rw [← es] at K
    refine go_s rfl ?_
    refine go_s rfl ?_
    refine go_isc rfl (by omega) rfl ?_
    refine go_s rfl ?_
    refine go_s rfl ?_
    exact K
  clear es
  by_cases h20 : 20 ≤ s
  · refine ⟨_, T, inv_mk (k := k + 1) hC hM hV hx ic hW (by omega) (by omega) (by omega), fun o K => pre o (go_tsd (t := 1230) rfl ?_ (by decide) K)⟩
    rw [nI_toInt (by omega)]
    omega
  · have hc : s = 0 ∨ s = 1 ∨ s = 2 ∨ s = 3 ∨ s = 4 ∨ s = 5 ∨ s = 6 ∨ s = 7 ∨ s = 8 ∨ s = 9 ∨ s = 10 ∨ s = 11 ∨ s = 12 ∨ s = 13 ∨ s = 14 ∨ s = 15 ∨ s = 16 ∨ s = 17 ∨ s = 18 ∨ s = 19 := by omega
    rcases hc with rfl | rfl | rfl | rfl | rfl | rfl | rfl | rfl | rfl | rfl | rfl | rfl | rfl | rfl | rfl | rfl | rfl | rfl | rfl | rfl
    · obtain ⟨h2, T2, I2, F⟩ := b_rule (T := T) hi hC hM hV hx ic hW b1 b2 b3
      exact ⟨h2, T2, I2, fun o K => pre o (go_tsw (t := 136) (off := 96) rfl (by decide +kernel) (by decide +kernel) (by decide +kernel) (F o K))⟩
    · obtain ⟨h2, T2, I2, F⟩ := b_goes (T := T) hi hC hM hV hx ic hW b1 b2 b3
      exact ⟨h2, T2, I2, fun o K => pre o (go_tsw (t := 254) (off := 214) rfl (by decide +kernel) (by decide +kernel) (by decide +kernel) (F o K))⟩
    · obtain ⟨h2, T2, I2, F⟩ := b_about (T := T) hi hC hM hV hx ic hW b1 b2 b3
      exact ⟨h2, T2, I2, fun o K => pre o (go_tsw (t := 322) (off := 282) rfl (by decide +kernel) (by decide +kernel) (by decide +kernel) (F o K))⟩
    · obtain ⟨h2, T2, I2, F⟩ := b_swaps (T := T) hi hC hM hV hx ic hW b1 b2 b3
      exact ⟨h2, T2, I2, fun o K => pre o (go_tsw (t := 390) (off := 350) rfl (by decide +kernel) (by decide +kernel) (by decide +kernel) (F o K))⟩
    · obtain ⟨h2, T2, I2, F⟩ := b_ring (T := T) hi hC hM hV hx ic hW b1 b2 b3
      exact ⟨h2, T2, I2, fun o K => pre o (go_tsw (t := 465) (off := 425) rfl (by decide +kernel) (by decide +kernel) (by decide +kernel) (F o K))⟩
    · obtain ⟨h2, T2, I2, F⟩ := b_undo (T := T) hi hC hM hV hx ic hW b1 b2 b3
      exact ⟨h2, T2, I2, fun o K => pre o (go_tsw (t := 521) (off := 481) rfl (by decide +kernel) (by decide +kernel) (by decide +kernel) (F o K))⟩
    · obtain ⟨h2, T2, I2, F⟩ := b_at (T := T) hi hC hM hV hx ic hW b1 b2 b3
      exact ⟨h2, T2, I2, fun o K => pre o (go_tsw (t := 577) (off := 537) rfl (by decide +kernel) (by decide +kernel) (by decide +kernel) (F o K))⟩
    · obtain ⟨h2, T2, I2, F⟩ := b_find (T := T) hi hC hM hV hx ic hW b1 b2 b3
      exact ⟨h2, T2, I2, fun o K => pre o (go_tsw (t := 633) (off := 593) rfl (by decide +kernel) (by decide +kernel) (by decide +kernel) (F o K))⟩
    · obtain ⟨h2, T2, I2, F⟩ := b_set (T := T) hi hC hM hV hx ic hW b1 b2 b3
      exact ⟨h2, T2, I2, fun o K => pre o (go_tsw (t := 689) (off := 649) rfl (by decide +kernel) (by decide +kernel) (by decide +kernel) (F o K))⟩
    · obtain ⟨h2, T2, I2, F⟩ := b_peal (T := T) hi hC hM hV hx ic hW b1 b2 b3
      exact ⟨h2, T2, I2, fun o K => pre o (go_tsw (t := 745) (off := 705) rfl (by decide +kernel) (by decide +kernel) (by decide +kernel) (F o K))⟩
    · obtain ⟨h2, T2, I2, F⟩ := b_add (T := T) hi hC hM hV hx ic hW b1 b2 b3
      exact ⟨h2, T2, I2, fun o K => pre o (go_tsw (t := 789) (off := 749) rfl (by decide +kernel) (by decide +kernel) (by decide +kernel) (F o K))⟩
    · obtain ⟨h2, T2, I2, F⟩ := b_play (T := T) hi hC hM hV hx ic hW b1 b2 b3
      exact ⟨h2, T2, I2, fun o K => pre o (go_tsw (t := 857) (off := 817) rfl (by decide +kernel) (by decide +kernel) (by decide +kernel) (F o K))⟩
    · obtain ⟨h2, T2, I2, F⟩ := b_told (T := T) hi hC hM hV hx ic hW b1 b2 b3
      exact ⟨h2, T2, I2, fun o K => pre o (go_tsw (t := 913) (off := 873) rfl (by decide +kernel) (by decide +kernel) (by decide +kernel) (F o K))⟩
    · obtain ⟨h2, T2, I2, F⟩ := b_count (T := T) hi hC hM hV hx ic hW b1 b2 b3
      exact ⟨h2, T2, I2, fun o K => pre o (go_tsw (t := 981) (off := 941) rfl (by decide +kernel) (by decide +kernel) (by decide +kernel) (F o K))⟩
    · obtain ⟨h2, T2, I2, F⟩ := b_steps (T := T) hi hC hM hV hx ic hW b1 b2 b3
      exact ⟨h2, T2, I2, fun o K => pre o (go_tsw (t := 1037) (off := 997) rfl (by decide +kernel) (by decide +kernel) (by decide +kernel) (F o K))⟩
    · obtain ⟨h2, T2, I2, F⟩ := b_next (T := T) hi hC hM hV hx ic hW b1 b2 b3
      exact ⟨h2, T2, I2, fun o K => pre o (go_tsw (t := 1093) (off := 1053) rfl (by decide +kernel) (by decide +kernel) (by decide +kernel) (F o K))⟩
    · obtain ⟨h2, T2, I2, F⟩ := b_reach (T := T) hi hC hM hV hx ic hW b1 b2 b3
      exact ⟨h2, T2, I2, fun o K => pre o (go_tsw (t := 1149) (off := 1109) rfl (by decide +kernel) (by decide +kernel) (by decide +kernel) (F o K))⟩
    · obtain ⟨h2, T2, I2, F⟩ := b_farthest (T := T) hi hC hM hV hx ic hW b1 b2 b3
      exact ⟨h2, T2, I2, fun o K => pre o (go_tsw (t := 1162) (off := 1122) rfl (by decide +kernel) (by decide +kernel) (by decide +kernel) (F o K))⟩
    · obtain ⟨h2, T2, I2, F⟩ := b_mean (T := T) hi hC hM hV hx ic hW b1 b2 b3
      exact ⟨h2, T2, I2, fun o K => pre o (go_tsw (t := 1175) (off := 1135) rfl (by decide +kernel) (by decide +kernel) (by decide +kernel) (F o K))⟩
    · obtain ⟨h2, T2, I2, F⟩ := b_digest (T := T) hi hC hM hV hx ic hW b1 b2 b3
      exact ⟨h2, T2, I2, fun o K => pre o (go_tsw (t := 1216) (off := 1176) rfl (by decide +kernel) (by decide +kernel) (by decide +kernel) (F o K))⟩
end LOOP
theorem neg7 : ∀ L, L < 7 → zcq .gt (nI 0) (nI L - nI 7) := by
  intro L hL
  show nI L - nI 7 < nI 0
  revert L
  decide +kernel
set_option maxRecDepth 20000 in
theorem leave {X : zX} {i : Nat} {h : zH} {T : List (Nat × Value)} (hX : X.1 ≤ 3584) (hi : X.1 < i + 7) (h0 : i = 0 ∨ 7 ≤ X.1) (hb : i ≤ 4000) : Go X 11 mL_law (23, bs i T, [], h) (.inl (some (.int (nI 1))), h) := by
  refine go_s rfl ?_
  refine go_s rfl ?_
  refine go_s (st2 := (27, bs i T, [.int (nI X.1), .int (nI i)], h)) rfl ?_
  refine go_s rfl ?_
  by_cases h7 : 7 ≤ X.1
  · refine go_sub rfl h7 ?_
    refine go_icT rfl (by dsimp only [ncd]; omega) ?_
    refine go_s rfl ?_
    exact go_ret rfl rfl rfl rfl
  · obtain rfl : i = 0 := by omega
    refine go_s rfl ?_
    refine go_ict rfl (neg7 X.1 (by omega)) ?_
    refine go_s rfl ?_
    exact go_ret rfl rfl rfl rfl
set_option maxRecDepth 20000 in
theorem stay {X : zX} {i : Nat} {h : zH} {T : List (Nat × Value)} {o : zOut} (hX : X.1 ≤ 3584) (hi : i + 7 ≤ X.1) (K : Go X 11 mL_law (33, bs i T, [], h) o) : Go X 11 mL_law (23, bs i T, [], h) o := by
  refine go_s rfl ?_
  refine go_s rfl ?_
  refine go_s (st2 := (27, bs i T, [.int (nI X.1), .int (nI i)], h)) rfl ?_
  refine go_s rfl ?_
  refine go_sub rfl (by omega) ?_
  refine go_icF rfl (by dsimp only [ncd]; omega) ?_
  exact K
set_option maxRecDepth 20000 in
theorem loop {X : zX} (hX : X.1 ≤ 3584) : ∀ (q k : Nat) (h : zH) (T : List (Nat × Value)), INV k h → X.1 < 7 * k + 7 + 7 * q → (k = 0 ∨ 7 * k ≤ X.1) → ∃ h9 k9, k9 ≤ 513 ∧ INV k9 h9 ∧ Go X 11 mL_law (23, bs (7 * k) T, [], h) (.inl (some (.int (nI 1))), h9) := by
  intro q
  induction q with
  | zero =>
    intro k h T hI hq hk
    exact ⟨h, k, by omega, hI, leave hX (by omega) (by omega) (by omega)⟩
  | succ q ih =>
    intro k h T hI hq hk
    by_cases h7 : 7 * k + 7 ≤ X.1
    · obtain ⟨A, B, n, m, c, ps, len, pr, l, ch, wf, rd, mo, sm, mk, th, f, tl, e, rfl, hC, hM, hV, hx, ic, hW, b1, b2, b3⟩ := hI
      obtain ⟨h2, T2, I2, F⟩ := b_all (X := X) (i := 7 * k) (T := T) (mk := mk) (th := th) (ch := ch) (f := f) ⟨h7, hX⟩ hC hM hV hx ic hW b1 b2 b3
      obtain ⟨h9, k9, j1, j2, G⟩ := ih (k + 1) h2 (zfil 4 (.int (nI (7 * k + 7))) T2) I2 (by omega) (by omega)
      refine ⟨h9, k9, j1, j2, stay hX h7 (F _ (go_inc4 rfl (go_s rfl G)))⟩
    · exact ⟨h, k, by omega, hI, leave hX (by omega) (by omega) (by omega)⟩
theorem zsz_nil : zsz [] = 0 := rfl
theorem cc_size (A : Nat → Nat → Int32) (c1 c2 c3 c4 c5 c6 c7 c8 : Int32) : zsz (cc A c1 c2 c3 c4 c5 c6 c7 c8) = 3205 := by
  unfold cc
  simp only [zsz_c, zsz_nil, zszc, zN]
theorem mm_size (B : Nat → Nat → Int32) (t1 t2 t3 t4 t5 t6 : Int32) : zsz (mm B t1 t2 t3 t4 t5 t6) = 47621 := by
  unfold mm
  simp only [zsz_c, zsz_nil, zszc, zN]
theorem cc_len (A : Nat → Nat → Int32) (c1 c2 c3 c4 c5 c6 c7 c8 : Int32) : (cc A c1 c2 c3 c4 c5 c6 c7 c8).length = 36 := rfl
theorem mm_len (B : Nat → Nat → Int32) (t1 t2 t3 t4 t5 t6 : Int32) : (mm B t1 t2 t3 t4 t5 t6).length = 6 := rfl
theorem inv_room {k : Nat} {h : zH} (hI : INV k h) (hk : k ≤ 513) : h.1.length + h.2 ≤ 601024 ∧ zsz h.1 + 6 * h.2 ≤ 7293034 := by
  obtain ⟨A, B, n, m, c, ps, len, pr, l, ch, wf, rd, mo, sm, mk, th, f, tl, e, eh, hC, hM, hV, hx, ic, hW, b1, b2, b3⟩ := hI
  have z3 : zszc (.inl (1, .inr (.inl f))) = 1 := rfl
  have q1 : h.1.length = 43 + tl.length := by
    rw [eh]
    dsimp only
    rw [List.length_append, List.length_append, List.length_cons, cc_len, mm_len]
    omega
  have q2 : zsz h.1 = 50827 + zsz tl := by
    rw [eh]
    dsimp only
    rw [zsz_app, zsz_app, zsz_c, cc_size, mm_size, z3]
    omega
  have q3 : h.2 = e := by rw [eh]
  rw [q1, q2, q3]
  clear eh q1 q2 q3 hC hM hV hx hW
  omega
set_option maxRecDepth 20000 in
theorem zlaw (L : Nat) (xs : Nat → Int32) (hL : L ≤ 3584) : ∃ h9 : zH, Go (L, xs) 11 mL_law (0, [(0, .retAddr 0)], [], ([], 0)) (.inl (some (.int 1)), h9) ∧ h9.1.length + h9.2 ≤ 601024 ∧ zsz h9.1 + 6 * h9.2 ≤ 7293034 := by
  obtain ⟨A, hx, h17, G1⟩ := i_class (X := (L, xs)) (fu := 7) (e := 0)
  obtain ⟨f2, hf, G2⟩ := i_model (X := (L, xs)) (fu := 9) (e := 0) (A := A) (c1 := nI 0) (c2 := nI 0) (c3 := nI 0) (c4 := nI 0) (c5 := nI 0) (c6 := nI 0) (c7 := nI 0) (c8 := nI 0)
  have hC : CP A 0 (fun _ => R0) 0 (fun _ => 0) (fun _ _ => 0) := ⟨by omega, by omega, fun i hi => absurd hi (by omega), h17, fun j hj => ⟨Nat.zero_le _, fun k hk => absurd hk (Nat.not_lt_zero _), fun i hi => absurd hi (Nat.not_lt_zero _)⟩⟩
  have hM : MR (zB f2) 0 (fun _ => R0) 0 (fun _ => 0) (fun _ _ => 0) := ⟨by omega, by omega, fun i hi => absurd hi (by omega), fun i hi => absurd hi (by omega), fun k hk => rfl, fun j hj => ⟨Nat.zero_le _, fun i hi => absurd hi (Nat.not_lt_zero _), fun i hi => absurd hi (Nat.not_lt_zero _)⟩⟩
  have hV : VB (zB f2) [] := ⟨fun y hy => hf y (row_lt hy), fun i q h => absurd h (by simp), List.nodup_nil, fun q h => absurd h (List.not_mem_nil), fun q h => absurd h (List.not_mem_nil)⟩
  have I0 : INV 0 (cc A (nI 0) (nI 0) (nI 0) (nI 0) (nI 0) (nI 0) (nI 0) (nI 0) ++ (mm (zB f2) (nI 0) (nI 0) (nI 0) (nI 1865) (nI 0) (nI 0) ++ (.inl (1, .inr (.inl (fun _ => 0))) :: [])), 0) :=
    inv_mk (c := R0) (l := []) (tl := []) hC hM hV hx R0_row (.inl rfl) (Nat.zero_le _) (Nat.zero_le _) (Nat.le_refl _)
  obtain ⟨h9, k9, j1, j2, G9⟩ := loop (X := (L, xs)) hL 512 0 _ [] I0 (by show L < _; omega) (.inl rfl)
  obtain ⟨r1, r2⟩ := inv_room j2 j1
  refine ⟨h9, ?_, r1, r2⟩
  show Go (L, xs) 11 mL_law (0, [(0, .retAddr 0)], [], ([], 0)) (.inl (some (.int (nI 1))), h9)
  refine go_new (p := 0) (H2 := [.inr (3, [.null, .int (nI 0), .null, .null, .int (nI 0), .null, .int (nI 0), .null, .int (nI 0), .null, .null])]) rfl rfl rfl rfl ?_
  refine go_s rfl ?_
  refine go_cn rfl rfl rfl rfl rfl G1 ?_
  refine go_s rfl ?_
  refine go_new (p := 36) (H2 := cc A (nI 0) (nI 0) (nI 0) (nI 0) (nI 0) (nI 0) (nI 0) (nI 0) ++ [.inr (4, [.int (nI 0), .int (nI 0), .null, .int (nI 0), .null, .null, .int (nI 0), .int (nI 0), .null, .null, .int (nI 0)])]) rfl rfl rfl rfl ?_
  refine go_s rfl ?_
  refine go_cn rfl rfl rfl rfl rfl G2 ?_
  refine go_s rfl ?_
  refine go_s rfl ?_
  refine go_nwlE (p := 42) (H2 := cc A (nI 0) (nI 0) (nI 0) (nI 0) (nI 0) (nI 0) (nI 0) (nI 0) ++ (mm (zB f2) (nI 0) (nI 0) (nI 0) (nI 1865) (nI 0) (nI 0) ++ (.inl (1, .inr (.inl (fun _ => 0))) :: []))) rfl (by omega) rfl rfl ?_
  refine go_s rfl ?_
  refine go_s rfl ?_
  refine go_s rfl ?_
  exact G9
