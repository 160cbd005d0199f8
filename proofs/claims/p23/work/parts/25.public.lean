/-! ===== the class's public methods ===== -/
theorem nlt_of {x : Int32} {n : Nat} (h : nI n ≤ x) : ¬ x < nI n := fun q => absurd (Int32.le_iff_toInt_le.mp h) (by have := Int32.lt_iff_toInt_lt.mp q; omega)
def upN (f : Nat → Nat) (i x : Nat) : Nat → Nat := fun j => if j = i then x else f j
def upP (f : Nat → Nat → Nat) (p i x : Nat) : Nat → Nat → Nat := fun j k => if j = p then (if k = i then x else f j k) else f j k
theorem go_ddiv {X : zX} {f : Nat} {d : zMd} {o : zOut} {pc pc0 np a b w : Nat} {L : List (Nat × Value)} {S : List Value} {h : zH} {x y : UInt64} (h1 : zf (zi d) pc = some (pc0, np, .ddiv, a, b, w)) (hy : (FP.ddiv x y) &&& 0x7fffffffffffffff ≤ 0x7ff0000000000000) (k : Go X f d (np, L, .double (FP.ddiv x y) :: S, h) o) : Go X f d (pc, L, .double y :: .double x :: S, h) o :=
  go_s ((zs1_of h1 rfl).trans (if_pos hy)) k
section PUB
variable {X : zX} {fu e n m : Nat} {A : Nat → Nat → Int32} {ch wf rd mo sm mk : Int32} {R : List zC} {ps len : Nat → Nat} {pr : Nat → Nat → Nat} {c : Nat}
theorem m_about_t (hC : CP A n ps m len pr) {r w : Nat} (hr : r < n) (hw : w < 5) : ∃ A2, keep A A2 ∧ Go X (fu + 4) mX3_about (0, [(0, .ref 0), (1, .int (nI r)), (2, .int (nI w))], [], (cc A (nI n) (nI m) ch wf rd mo sm mk ++ R, e)) (.inl (some (.int (fR n ps r w))), (cc A2 (nI n) (nI m) ch wf rd mo sm mk ++ R, e)) := by
  obtain ⟨A2, k2, G⟩ := m_factOfRule (X := X) (fu := fu) (e := e) (ch := ch) (wf := wf) (rd := rd) (mo := mo) (sm := sm) (mk := mk) (R := R) hC hr hw
  refine ⟨A2, k2, ?_⟩
  repeat (first
    | exact go_ret rfl rfl rfl rfl
    | exact go_end rfl rfl rfl rfl
    | refine go_add rfl ?_
    | refine go_mul rfl ?_
    | refine go_sub rfl (by omega) ?_
    | refine go_inc rfl rfl rfl rfl rfl ?_
    | refine go_dec rfl rfl rfl (by omega) rfl rfl ?_
    | refine go_div rfl (by omega) ?_
    | refine go_rem rfl (by omega) ?_
    | refine go_cn rfl rfl rfl rfl rfl (m_requireRule_t hC.1 hr) ?_
    | refine go_ci rfl rfl rfl rfl rfl G ?_
    | refine go_icT rfl (by dsimp only [ncd]; omega) ?_
    | refine go_icF rfl (by dsimp only [ncd]; omega) ?_
    | refine go_ifT rfl (by dsimp only [ncd]; omega) ?_
    | refine go_ifF rfl (by dsimp only [ncd]; omega) ?_
    | refine go_ift rfl (by decide) ?_
    | refine go_s rfl ?_
    )
theorem m_told_t (hC : CP A n ps m len pr) {p w : Nat} (hp : p < m) (hw : w < 5) : ∃ A2 mk2, keep A A2 ∧ Go X (fu + 5) mX3_told (0, [(0, .ref 0), (1, .int (nI p)), (2, .int (nI w))], [], (cc A (nI n) (nI m) ch wf rd mo sm mk ++ R, e)) (.inl (some (.int (fP ps len pr p w))), (cc A2 (nI n) (nI m) ch wf rd mo sm mk2 ++ R, e)) := by
  obtain ⟨A2, mk2, k2, G⟩ := m_factOfPeal (X := X) (fu := fu) (e := e) (ch := ch) (wf := wf) (rd := rd) (mo := mo) (sm := sm) (mk := mk) (R := R) hC hp hw
  refine ⟨A2, mk2, k2, ?_⟩
  repeat (first
    | exact go_ret rfl rfl rfl rfl
    | exact go_end rfl rfl rfl rfl
    | refine go_add rfl ?_
    | refine go_mul rfl ?_
    | refine go_sub rfl (by omega) ?_
    | refine go_inc rfl rfl rfl rfl rfl ?_
    | refine go_dec rfl rfl rfl (by omega) rfl rfl ?_
    | refine go_div rfl (by omega) ?_
    | refine go_rem rfl (by omega) ?_
    | refine go_cn rfl rfl rfl rfl rfl (m_requirePeal_t hC.2.1 hp) ?_
    | refine go_ci rfl rfl rfl rfl rfl G ?_
    | refine go_icT rfl (by dsimp only [ncd]; omega) ?_
    | refine go_icF rfl (by dsimp only [ncd]; omega) ?_
    | refine go_ifT rfl (by dsimp only [ncd]; omega) ?_
    | refine go_ifF rfl (by dsimp only [ncd]; omega) ?_
    | refine go_ift rfl (by decide) ?_
    | refine go_s rfl ?_
    )
theorem m_count_t (hx : rw6 (A 19) c) (ix : isRow c) {w : Nat} (hw : w < 5) : Go X (fu + 2) mX3_count (0, [(0, .ref 0), (1, .int (nI w))], [], (cc A (nI n) (nI m) ch wf rd mo sm mk ++ R, e)) (.inl (some (.int (fC n m ch c w))), (cc A (nI n) (nI m) ch wf rd mo sm mk ++ R, e)) := by
  have G := m_countOf (X := X) (fu := fu) (e := e) (ch := ch) (wf := wf) (rd := rd) (mo := mo) (sm := sm) (mk := mk) (R := R) (n := n) (m := m) hx ix hw
  repeat (first
    | exact go_ret rfl rfl rfl rfl
    | exact go_end rfl rfl rfl rfl
    | refine go_add rfl ?_
    | refine go_mul rfl ?_
    | refine go_sub rfl (by omega) ?_
    | refine go_inc rfl rfl rfl rfl rfl ?_
    | refine go_dec rfl rfl rfl (by omega) rfl rfl ?_
    | refine go_div rfl (by omega) ?_
    | refine go_rem rfl (by omega) ?_
    | refine go_ci rfl rfl rfl rfl rfl G ?_
    | refine go_icT rfl (by dsimp only [ncd]; omega) ?_
    | refine go_icF rfl (by dsimp only [ncd]; omega) ?_
    | refine go_ifT rfl (by dsimp only [ncd]; omega) ?_
    | refine go_ifF rfl (by dsimp only [ncd]; omega) ?_
    | refine go_ift rfl (by decide) ?_
    | refine go_s rfl ?_
    )
theorem sw_loop (hC : CP A n ps m len pr) {a b : Nat} (ha : a < n) (hb : b < n) :
    ∀ (q k : Nat), k + q = 6 → Go X fu mX3_swaps (28, [(0, .ref 0), (1, .int (nI a)), (2, .int (nI b)), (3, .ref (2 + a)), (4, .ref (2 + b)), (5, .int (nI k))], [], (cc A (nI n) (nI m) ch wf rd mo sm mk ++ R, e)) (.inl (some (.int (nI (al (fun k => Nat.beq (dg (ps b) (dg (ps a) k)) (dg (ps a) (dg (ps b) k))) q k)))), (cc A (nI n) (nI m) ch wf rd mo sm mk ++ R, e)) := by
  have hn := hC.1
  have pa := hC.2.2.1 a ha
  have pb := hC.2.2.1 b hb
  intro q
  induction q with
  | zero =>
    intro k hk
    obtain rfl : k = 6 := by omega
    repeat (first
      | exact go_ret rfl rfl rfl rfl
      | exact go_end rfl rfl rfl rfl
      | refine go_add rfl ?_
      | refine go_mul rfl ?_
      | refine go_sub rfl (by omega) ?_
      | refine go_inc rfl rfl rfl rfl rfl ?_
      | refine go_dec rfl rfl rfl (by omega) rfl rfl ?_
      | refine go_div rfl (by omega) ?_
      | refine go_rem rfl (by omega) ?_
      | refine go_icT rfl (by dsimp only [ncd]; omega) ?_
      | refine go_icF rfl (by dsimp only [ncd]; omega) ?_
      | refine go_ifT rfl (by dsimp only [ncd]; omega) ?_
      | refine go_ifF rfl (by dsimp only [ncd]; omega) ?_
      | refine go_ift rfl (by decide) ?_
      | refine go_s rfl ?_
      )
  | succ q ih =>
    intro k hk
    have K := ih (k + 1) (by omega)
    have d1 := dg_lt (ps a) k
    have d2 := dg_lt (ps b) k
    have d3 := dg_lt (ps b) (dg (ps a) k)
    have d4 := dg_lt (ps a) (dg (ps b) k)
    have v1 := pa.1 k (by omega)
    have v2 := pb.1 k (by omega)
    have v3 := pb.1 _ d1
    have v4 := pa.1 _ d2
    show Go X fu mX3_swaps _ (.inl (some (.int (nI (bif Nat.beq (dg (ps b) (dg (ps a) k)) (dg (ps a) (dg (ps b) k)) then al (fun k => Nat.beq (dg (ps b) (dg (ps a) k)) (dg (ps a) (dg (ps b) k))) q (k + 1) else 0)))), _)
    have AR := 0
    by_cases e1 : dg (ps b) (dg (ps a) k) = dg (ps a) (dg (ps b) k)
    · rw [show Nat.beq (dg (ps b) (dg (ps a) k)) (dg (ps a) (dg (ps b) k)) = true by rw [e1, Nat.beq_refl]]
      repeat (first
        | exact K
        | exact go_ret rfl rfl rfl rfl
        | exact go_end rfl rfl rfl rfl
        | refine go_add rfl ?_
        | refine go_mul rfl ?_
        | refine go_sub rfl (by omega) ?_
        | refine go_inc rfl rfl rfl rfl rfl ?_
        | refine go_dec rfl rfl rfl (by omega) rfl rfl ?_
        | refine go_ial rfl (cc_p a (by omega)) (by first | omega | exact ⟨dg_lt _ _, by omega⟩) (v1) ?_
        | refine go_ial rfl (cc_p b (by omega)) (by first | omega | exact ⟨dg_lt _ _, by omega⟩) (v3) ?_
        | refine go_ial rfl (cc_p b (by omega)) (by first | omega | exact ⟨dg_lt _ _, by omega⟩) (v2) ?_
        | refine go_ial rfl (cc_p a (by omega)) (by first | omega | exact ⟨dg_lt _ _, by omega⟩) (v4) ?_
        | refine go_div rfl (by omega) ?_
        | refine go_rem rfl (by omega) ?_
        | refine go_icT rfl (by dsimp only [ncd]; omega) ?_
        | refine go_icF rfl (by dsimp only [ncd]; omega) ?_
        | refine go_ifT rfl (by dsimp only [ncd]; omega) ?_
        | refine go_ifF rfl (by dsimp only [ncd]; omega) ?_
        | refine go_ift rfl (by decide) ?_
        | refine go_s rfl ?_
        )
    · rw [nbeq e1]
      repeat (first
        | exact go_ret rfl rfl rfl rfl
        | exact go_end rfl rfl rfl rfl
        | refine go_add rfl ?_
        | refine go_mul rfl ?_
        | refine go_sub rfl (by omega) ?_
        | refine go_inc rfl rfl rfl rfl rfl ?_
        | refine go_dec rfl rfl rfl (by omega) rfl rfl ?_
        | refine go_ial rfl (cc_p a (by omega)) (by first | omega | exact ⟨dg_lt _ _, by omega⟩) (v1) ?_
        | refine go_ial rfl (cc_p b (by omega)) (by first | omega | exact ⟨dg_lt _ _, by omega⟩) (v3) ?_
        | refine go_ial rfl (cc_p b (by omega)) (by first | omega | exact ⟨dg_lt _ _, by omega⟩) (v2) ?_
        | refine go_ial rfl (cc_p a (by omega)) (by first | omega | exact ⟨dg_lt _ _, by omega⟩) (v4) ?_
        | refine go_div rfl (by omega) ?_
        | refine go_rem rfl (by omega) ?_
        | refine go_icT rfl (by dsimp only [ncd]; omega) ?_
        | refine go_icF rfl (by dsimp only [ncd]; omega) ?_
        | refine go_ifT rfl (by dsimp only [ncd]; omega) ?_
        | refine go_ifF rfl (by dsimp only [ncd]; omega) ?_
        | refine go_ift rfl (by decide) ?_
        | refine go_s rfl ?_
        )
theorem m_swaps_t (hC : CP A n ps m len pr) {a b : Nat} (ha : a < n) (hb : b < n) : Go X (fu + 2) mX3_swaps (0, [(0, .ref 0), (1, .int (nI a)), (2, .int (nI b))], [], (cc A (nI n) (nI m) ch wf rd mo sm mk ++ R, e)) (.inl (some (.int (nI (al (fun k => Nat.beq (dg (ps b) (dg (ps a) k)) (dg (ps a) (dg (ps b) k))) 6 0)))), (cc A (nI n) (nI m) ch wf rd mo sm mk ++ R, e)) := by
  have hn := hC.1
  repeat (first
    | exact sw_loop hC ha hb 6 0 (by omega)
    | exact go_ret rfl rfl rfl rfl
    | exact go_end rfl rfl rfl rfl
    | refine go_add rfl ?_
    | refine go_mul rfl ?_
    | refine go_sub rfl (by omega) ?_
    | refine go_inc rfl rfl rfl rfl rfl ?_
    | refine go_dec rfl rfl rfl (by omega) rfl rfl ?_
    | refine go_aal rfl rfl (by omega) (gP_s (by omega)) ?_
    | refine go_aal rfl rfl (by omega) (gQ_s (by omega)) ?_
    | refine go_div rfl (by omega) ?_
    | refine go_rem rfl (by omega) ?_
    | refine go_cn rfl rfl rfl rfl rfl (m_requireRule_t hC.1 ha) ?_
    | refine go_cn rfl rfl rfl rfl rfl (m_requireRule_t hC.1 hb) ?_
    | refine go_icT rfl (by dsimp only [ncd]; omega) ?_
    | refine go_icF rfl (by dsimp only [ncd]; omega) ?_
    | refine go_ifT rfl (by dsimp only [ncd]; omega) ?_
    | refine go_ifF rfl (by dsimp only [ncd]; omega) ?_
    | refine go_ift rfl (by decide) ?_
    | refine go_s rfl ?_
    )
theorem m_ring_t (hC : CP A n ps m len pr) (hx : rw6 (A 19) c) (ix : isRow c) {r : Nat} (hr : r < n) : ∃ A2, (∀ k, k ≠ 19 → k ≠ 20 → A2 k = A k) ∧ rw6 (A2 19) (rng c (ps r)) ∧ Go X (fu + 2) mX3_ring (0, [(0, .ref 0), (1, .int (nI r))], [], (cc A (nI n) (nI m) ch wf rd mo sm mk ++ R, e)) (.inl (some (.int (nI (rng c (ps r))))), (cc A2 (nI n) (nI m) (ch + nI 1) wf rd mo sm mk ++ R, e)) := by
  have hn := hC.1
  have hq := hC.2.2.1 r hr
  obtain ⟨A2, k2, hx2, G1⟩ := c_change (X := X) (fu := fu) (e := e) (A := A) (rc := nI n) (pc := nI m) (ch := ch) (wf := wf) (rd := rd) (mo := mo) (sm := sm) (mk := mk) (R := R) rw_row hx (i := r) (by omega) hq.1 hq.2
  have G2 := c_code (X := X) (fu := fu + 1) (e := e) (A := A2) (rc := nI n) (pc := nI m) (ch := ch + nI 1) (wf := wf) (rd := rd) (mo := mo) (sm := sm) (mk := mk) (R := R) rw_row hx2 (rng_row ix hq.2)
  refine ⟨A2, k2, hx2, ?_⟩
  repeat (first
    | exact go_ret rfl rfl rfl rfl
    | exact go_end rfl rfl rfl rfl
    | refine go_add rfl ?_
    | refine go_mul rfl ?_
    | refine go_sub rfl (by omega) ?_
    | refine go_inc rfl rfl rfl rfl rfl ?_
    | refine go_dec rfl rfl rfl (by omega) rfl rfl ?_
    | refine go_aal rfl rfl (by omega) (gP_s (by omega)) ?_
    | refine go_aal rfl rfl (by omega) (gQ_s (by omega)) ?_
    | refine go_div rfl (by omega) ?_
    | refine go_rem rfl (by omega) ?_
    | refine go_cn rfl rfl rfl rfl rfl (m_requireRule_t hC.1 hr) ?_
    | refine go_cn rfl rfl rfl rfl rfl G1 ?_
    | refine go_ci rfl rfl rfl rfl rfl G2 ?_
    | refine go_icT rfl (by dsimp only [ncd]; omega) ?_
    | refine go_icF rfl (by dsimp only [ncd]; omega) ?_
    | refine go_ifT rfl (by dsimp only [ncd]; omega) ?_
    | refine go_ifF rfl (by dsimp only [ncd]; omega) ?_
    | refine go_ift rfl (by decide) ?_
    | refine go_s rfl ?_
    )
theorem m_undo_t (hC : CP A n ps m len pr) (hx : rw6 (A 19) c) (ix : isRow c) {r : Nat} (hr : r < n) : ∃ A2, (∀ k, k ≠ 19 → k ≠ 20 → A2 k = A k) ∧ rw6 (A2 19) (cmp c (ps r)) ∧ Go X (fu + 2) mX3_undo (0, [(0, .ref 0), (1, .int (nI r))], [], (cc A (nI n) (nI m) ch wf rd mo sm mk ++ R, e)) (.inl (some (.int (nI (cmp c (ps r))))), (cc A2 (nI n) (nI m) (ch + nI 1) wf rd mo sm mk ++ R, e)) := by
  have hn := hC.1
  have hq := hC.2.2.1 r hr
  obtain ⟨A2, k2, hx2, G1⟩ := c_changeBack (X := X) (fu := fu) (e := e) (A := A) (rc := nI n) (pc := nI m) (ch := ch) (wf := wf) (rd := rd) (mo := mo) (sm := sm) (mk := mk) (R := R) rw_row hx (i := r) (by omega) hq.1
  have G2 := c_code (X := X) (fu := fu + 1) (e := e) (A := A2) (rc := nI n) (pc := nI m) (ch := ch + nI 1) (wf := wf) (rd := rd) (mo := mo) (sm := sm) (mk := mk) (R := R) rw_row hx2 (cmp_row ix hq.2)
  refine ⟨A2, k2, hx2, ?_⟩
  repeat (first
    | exact go_ret rfl rfl rfl rfl
    | exact go_end rfl rfl rfl rfl
    | refine go_add rfl ?_
    | refine go_mul rfl ?_
    | refine go_sub rfl (by omega) ?_
    | refine go_inc rfl rfl rfl rfl rfl ?_
    | refine go_dec rfl rfl rfl (by omega) rfl rfl ?_
    | refine go_aal rfl rfl (by omega) (gP_s (by omega)) ?_
    | refine go_aal rfl rfl (by omega) (gQ_s (by omega)) ?_
    | refine go_div rfl (by omega) ?_
    | refine go_rem rfl (by omega) ?_
    | refine go_cn rfl rfl rfl rfl rfl (m_requireRule_t hC.1 hr) ?_
    | refine go_cn rfl rfl rfl rfl rfl G1 ?_
    | refine go_ci rfl rfl rfl rfl rfl G2 ?_
    | refine go_icT rfl (by dsimp only [ncd]; omega) ?_
    | refine go_icF rfl (by dsimp only [ncd]; omega) ?_
    | refine go_ifT rfl (by dsimp only [ncd]; omega) ?_
    | refine go_ifF rfl (by dsimp only [ncd]; omega) ?_
    | refine go_ift rfl (by decide) ?_
    | refine go_s rfl ?_
    )
theorem m_at_t (hx : rw6 (A 19) c) {k : Nat} (hk : k < 6) : Go X (fu + 2) mX3_at (0, [(0, .ref 0), (1, .int (nI k))], [], (cc A (nI n) (nI m) ch wf rd mo sm mk ++ R, e)) (.inl (some (.int (nI (dg c k)))), (cc A (nI n) (nI m) ch wf rd mo sm mk ++ R, e)) := by
  repeat (first
    | exact go_ret rfl rfl rfl rfl
    | exact go_end rfl rfl rfl rfl
    | refine go_add rfl ?_
    | refine go_mul rfl ?_
    | refine go_sub rfl (by omega) ?_
    | refine go_inc rfl rfl rfl rfl rfl ?_
    | refine go_dec rfl rfl rfl (by omega) rfl rfl ?_
    | refine go_ial rfl rfl (by first | omega | exact ⟨dg_lt _ _, by omega⟩) (hx _ (by first | omega | exact dg_lt _ _)) ?_
    | refine go_div rfl (by omega) ?_
    | refine go_rem rfl (by omega) ?_
    | refine go_cn rfl rfl rfl rfl rfl (m_requirePlace_t hk) ?_
    | refine go_icT rfl (by dsimp only [ncd]; omega) ?_
    | refine go_icF rfl (by dsimp only [ncd]; omega) ?_
    | refine go_ifT rfl (by dsimp only [ncd]; omega) ?_
    | refine go_ifF rfl (by dsimp only [ncd]; omega) ?_
    | refine go_ift rfl (by decide) ?_
    | refine go_s rfl ?_
    )
theorem m_find_t (hx : rw6 (A 19) c) (ix : isRow c) {k : Nat} (hk : k < 6) : Go X (fu + 2) mX3_find (0, [(0, .ref 0), (1, .int (nI k))], [], (cc A (nI n) (nI m) ch wf rd mo sm mk ++ R, e)) (.inl (some (.int (nI (dg (inv c) k)))), (cc A (nI n) (nI m) ch wf rd mo sm mk ++ R, e)) := by
  have G1 := c_placeOf (X := X) (fu := fu + 1) (e := e) (A := A) (rc := nI n) (pc := nI m) (ch := ch) (wf := wf) (rd := rd) (mo := mo) (sm := sm) (mk := mk) (R := R) rw_row hx ix hk
  repeat (first
    | exact go_ret rfl rfl rfl rfl
    | exact go_end rfl rfl rfl rfl
    | refine go_add rfl ?_
    | refine go_mul rfl ?_
    | refine go_sub rfl (by omega) ?_
    | refine go_inc rfl rfl rfl rfl rfl ?_
    | refine go_dec rfl rfl rfl (by omega) rfl rfl ?_
    | refine go_div rfl (by omega) ?_
    | refine go_rem rfl (by omega) ?_
    | refine go_ci rfl rfl rfl rfl rfl G1 ?_
    | refine go_icT rfl (by dsimp only [ncd]; omega) ?_
    | refine go_icF rfl (by dsimp only [ncd]; omega) ?_
    | refine go_ifT rfl (by dsimp only [ncd]; omega) ?_
    | refine go_ifF rfl (by dsimp only [ncd]; omega) ?_
    | refine go_ift rfl (by decide) ?_
    | refine go_s rfl ?_
    )
theorem m_set_t (hx : rw6 (A 19) c) (ix : isRow c) {its : Nat} (ii : isRow its) : ∃ A2, (∀ k, k ≠ 19 → k ≠ 20 → A2 k = A k) ∧ rw6 (A2 19) its ∧ Go X (fu + 2) mX3_set (0, [(0, .ref 0), (1, .int (nI its))], [], (cc A (nI n) (nI m) ch wf rd mo sm mk ++ R, e)) (.inl (some (.int (nI c))), (cc A2 (nI n) (nI m) ch wf rd mo sm mk ++ R, e)) := by
  have G1 := c_code (X := X) (fu := fu + 1) (e := e) (A := A) (rc := nI n) (pc := nI m) (ch := ch) (wf := wf) (rd := rd) (mo := mo) (sm := sm) (mk := mk) (R := R) rw_row hx ix
  obtain ⟨A2, k2, hx2, G2⟩ := c_read (X := X) (fu := fu + 1) (e := e) (A := A) (rc := nI n) (pc := nI m) (ch := ch) (wf := wf) (rd := rd) (mo := mo) (sm := sm) (mk := mk) (R := R) rw_row ii
  refine ⟨A2, k2, hx2, ?_⟩
  repeat (first
    | exact go_ret rfl rfl rfl rfl
    | exact go_end rfl rfl rfl rfl
    | refine go_add rfl ?_
    | refine go_mul rfl ?_
    | refine go_sub rfl (by omega) ?_
    | refine go_inc rfl rfl rfl rfl rfl ?_
    | refine go_dec rfl rfl rfl (by omega) rfl rfl ?_
    | refine go_div rfl (by omega) ?_
    | refine go_rem rfl (by omega) ?_
    | refine go_cn rfl rfl rfl rfl rfl (m_requireRowCode_t ii) ?_
    | refine go_ci rfl rfl rfl rfl rfl G1 ?_
    | refine go_cn rfl rfl rfl rfl rfl G2 ?_
    | refine go_icT rfl (by dsimp only [ncd]; omega) ?_
    | refine go_icF rfl (by dsimp only [ncd]; omega) ?_
    | refine go_ifT rfl (by dsimp only [ncd]; omega) ?_
    | refine go_ifF rfl (by dsimp only [ncd]; omega) ?_
    | refine go_ift rfl (by decide) ?_
    | refine go_s rfl ?_
    )
theorem m_peal_t (hm : m < 6) : Go X (fu + 1) mX3_peal (0, [(0, .ref 0)], [], (cc A (nI n) (nI m) ch wf rd mo sm mk ++ R, e)) (.inl (some (.int (nI m))), (cc A (nI n) (nI (m + 1)) ch wf rd mo sm mk ++ R, e)) := by
  repeat (first
    | exact go_ret rfl rfl rfl rfl
    | exact go_end rfl rfl rfl rfl
    | refine go_add rfl ?_
    | refine go_mul rfl ?_
    | refine go_sub rfl (by omega) ?_
    | refine go_inc rfl rfl rfl rfl rfl ?_
    | refine go_dec rfl rfl rfl (by omega) rfl rfl ?_
    | refine go_div rfl (by omega) ?_
    | refine go_rem rfl (by omega) ?_
    | refine go_icT rfl (by dsimp only [ncd]; omega) ?_
    | refine go_icF rfl (by dsimp only [ncd]; omega) ?_
    | refine go_ifT rfl (by dsimp only [ncd]; omega) ?_
    | refine go_ifF rfl (by dsimp only [ncd]; omega) ?_
    | refine go_ift rfl (by decide) ?_
    | refine go_s rfl ?_
    )
theorem m_add_t (hC : CP A n ps m len pr) {p r : Nat} (hp : p < m) (hr : r < n) (hl : len p < 30) : ∃ A2, (∀ k, k ≠ 17 → k ≠ 11 + p → A2 k = A k) ∧ CP A2 n ps m (upN len p (len p + 1)) (upP pr p (len p) r) ∧ Go X (fu + 2) mX3_add (0, [(0, .ref 0), (1, .int (nI p)), (2, .int (nI r))], [], (cc A (nI n) (nI m) ch wf rd mo sm mk ++ R, e)) (.inl (some (.int (nI (len p + 1)))), (cc A2 (nI n) (nI m) ch wf rd mo sm mk ++ R, e)) := by
  have hm := hC.2.1
  have h17 := hC.2.2.2.1
  obtain ⟨l1, l2, l3⟩ := hC.2.2.2.2 p (by omega)
  refine ⟨aset (aset A (11 + p) (upd (A (11 + p)) (len p) (nI r))) 17 (upd (A 17) p (nI (len p + 1))), fun k a b => by rw [aset_n a, aset_n b], ?_, ?_⟩
  · obtain ⟨c1, c2, c3, c4, c5⟩ := hC
    refine ⟨c1, c2, fun i hi => ?_, ?_, fun j hj => ?_⟩
    · rw [aset_n (by omega), aset_n (by omega)]; exact c3 i hi
    · rw [aset_s]; exact hold_upd c4 p (len p + 1)
    · rw [aset_n (by omega)]
      by_cases e1 : j = p
      · subst e1
        rw [aset_s]
        have e2 : upN len j (len j + 1) j = len j + 1 := if_pos rfl
        have e3 : ∀ i, upP pr j (len j) r j i = if i = len j then r else pr j i := fun i => if_pos rfl
        rw [e2]
        refine ⟨by omega, fun i hi => ?_, fun i hi => ?_⟩
        · rw [e3]
          by_cases e4 : i = len j
          · subst e4; rw [pk_us, if_pos rfl]
          · rw [pk_un e4, if_neg e4]; exact l2 i (by omega)
        · rw [e3]
          by_cases e4 : i = len j
          · rw [if_pos e4]; exact hr
          · rw [if_neg e4]; exact l3 i (by omega)
      · rw [aset_n (by omega)]
        have e2 : upN len p (len p + 1) j = len j := if_neg e1
        have e3 : upP pr p (len p) r j = pr j := by funext i; exact if_neg e1
        rw [e2, e3]
        exact c5 j hj
  · have G0 : ∀ oo, Go X (fu + 2) mX3_add (42, [(0, .ref 0), (1, .int (nI p)), (2, .int (nI r)), (3, .int (nI (len p)))], [], (cc (aset A (11 + p) (upd (A (11 + p)) (len p) (nI r))) (nI n) (nI m) ch wf rd mo sm mk ++ R, e)) oo → Go X (fu + 2) mX3_add (0, [(0, .ref 0), (1, .int (nI p)), (2, .int (nI r))], [], (cc A (nI n) (nI m) ch wf rd mo sm mk ++ R, e)) oo := by
      intro oo K
      repeat (first
        | exact K
        | exact go_ret rfl rfl rfl rfl
        | exact go_end rfl rfl rfl rfl
        | refine go_add rfl ?_
        | refine go_mul rfl ?_
        | refine go_sub rfl (by omega) ?_
        | refine go_inc rfl rfl rfl rfl rfl ?_
        | refine go_dec rfl rfl rfl (by omega) rfl rfl ?_
        | refine go_ial rfl rfl (by first | omega | exact ⟨dg_lt _ _, by omega⟩) (h17 _ (by first | omega | exact dg_lt _ _)) ?_
        | refine go_aal rfl rfl (by omega) (gP_s (by omega)) ?_
        | refine go_aal rfl rfl (by omega) (gQ_s (by omega)) ?_
        | refine go_iash rfl (cc_q p (by omega)) (by first | omega | exact ⟨dg_lt _ _, by omega⟩) (cc_qs p (by omega) _) ?_
        | refine go_div rfl (by omega) ?_
        | refine go_rem rfl (by omega) ?_
        | refine go_cn rfl rfl rfl rfl rfl (m_requirePeal_t hC.2.1 hp) ?_
        | refine go_cn rfl rfl rfl rfl rfl (m_requireRule_t hC.1 hr) ?_
        | refine go_icT rfl (by dsimp only [ncd]; omega) ?_
        | refine go_icF rfl (by dsimp only [ncd]; omega) ?_
        | refine go_ifT rfl (by dsimp only [ncd]; omega) ?_
        | refine go_ifF rfl (by dsimp only [ncd]; omega) ?_
        | refine go_ift rfl (by decide) ?_
        | refine go_s rfl ?_
        )
    refine G0 _ ?_
    have h17b : (aset A (11 + p) (upd (A (11 + p)) (len p) (nI r))) 17 = A 17 := aset_n (by omega)
    rw [← h17b]
    repeat (first
      | exact go_ret rfl rfl rfl rfl
      | exact go_end rfl rfl rfl rfl
      | refine go_add rfl ?_
      | refine go_mul rfl ?_
      | refine go_sub rfl (by omega) ?_
      | refine go_inc rfl rfl rfl rfl rfl ?_
      | refine go_dec rfl rfl rfl (by omega) rfl rfl ?_
      | refine go_iash rfl rfl (by first | omega | exact ⟨dg_lt _ _, by omega⟩) rfl ?_
      | refine go_div rfl (by omega) ?_
      | refine go_rem rfl (by omega) ?_
      | refine go_icT rfl (by dsimp only [ncd]; omega) ?_
      | refine go_icF rfl (by dsimp only [ncd]; omega) ?_
      | refine go_ifT rfl (by dsimp only [ncd]; omega) ?_
      | refine go_ifF rfl (by dsimp only [ncd]; omega) ?_
      | refine go_ift rfl (by decide) ?_
      | refine go_s rfl ?_
      )
theorem m_play_t (hC : CP A n ps m len pr) (hx : rw6 (A 19) c) (ix : isRow c) {p : Nat} (hp : p < m) : ∃ A2, (∀ k, k ≠ 19 → k ≠ 20 → A2 k = A k) ∧ rw6 (A2 19) (pl ps (pr p) (len p) 0 c) ∧ Go X (fu + 3) mX3_play (0, [(0, .ref 0), (1, .int (nI p))], [], (cc A (nI n) (nI m) ch wf rd mo sm mk ++ R, e)) (.inl (some (.int (nI (pl ps (pr p) (len p) 0 c)))), (cc A2 (nI n) (nI m) (ch + nI (len p)) wf rd mo sm mk ++ R, e)) := by
  have hm := hC.2.1
  obtain ⟨A2, k2, hx2, G1⟩ := m_ringPealOn (X := X) (fu := fu) (e := e) (ch := ch) (wf := wf) (rd := rd) (mo := mo) (sm := sm) (mk := mk) (R := R) rw_row hC hp hx ix
  have G2 := c_code (X := X) (fu := fu + 2) (e := e) (A := A2) (rc := nI n) (pc := nI m) (ch := ch + nI (len p)) (wf := wf) (rd := rd) (mo := mo) (sm := sm) (mk := mk) (R := R) rw_row hx2 (peal_row (len p) 0 c (peal_rows hC hp) ix)
  have h17 : hold 6 (A2 17) len := by rw [k2 17 (by omega) (by omega)]; exact hC.2.2.2.1
  refine ⟨A2, k2, hx2, ?_⟩
  repeat (first
    | exact go_ret rfl rfl rfl rfl
    | exact go_end rfl rfl rfl rfl
    | refine go_add rfl ?_
    | refine go_mul rfl ?_
    | refine go_sub rfl (by omega) ?_
    | refine go_inc rfl rfl rfl rfl rfl ?_
    | refine go_dec rfl rfl rfl (by omega) rfl rfl ?_
    | refine go_ial rfl rfl (by first | omega | exact ⟨dg_lt _ _, by omega⟩) (h17 _ (by first | omega | exact dg_lt _ _)) ?_
    | refine go_div rfl (by omega) ?_
    | refine go_rem rfl (by omega) ?_
    | refine go_cn rfl rfl rfl rfl rfl (m_requirePeal_t hC.2.1 hp) ?_
    | refine go_cn rfl rfl rfl rfl rfl G1 ?_
    | refine go_ci rfl rfl rfl rfl rfl G2 ?_
    | refine go_icT rfl (by dsimp only [ncd]; omega) ?_
    | refine go_icF rfl (by dsimp only [ncd]; omega) ?_
    | refine go_ifT rfl (by dsimp only [ncd]; omega) ?_
    | refine go_ifF rfl (by dsimp only [ncd]; omega) ?_
    | refine go_ift rfl (by decide) ?_
    | refine go_s rfl ?_
    )
theorem WF_keep {A A2 : Nat → Nat → Int32} (h : WF A n ps wf rd mo sm) (k1 : A2 22 = A 22) (k2 : A2 23 = A 23) : WF A2 n ps wf rd mo sm := by
  rcases h with h | ⟨h1, h2, h3⟩
  · exact Or.inl h
  · exact Or.inr ⟨h1, fun y hy => by rw [k1, k2]; exact h2 y hy, h3⟩
theorem m_steps_t (hC : CP A n ps m len pr) (hW : WF A n ps wf rd mo sm) (hx : rw6 (A 19) c) (ix : isRow c) {its : Nat} (ii : isRow its) : ∃ A2, (∀ j, j < 20 → A2 j = A j) ∧ QT A2 (WL n ps) ∧ Go X (fu + 4) mX3_steps (0, [(0, .ref 0), (1, .int (nI its))], [], (cc A (nI n) (nI m) ch wf rd mo sm mk ++ R, e)) (.inl (some (.int (fwD (lk (WL n ps) (cmp (inv c) its))))), (cc A2 (nI n) (nI m) ch (nI 1) (nI (WL n ps).length) (nI (laD (WL n ps))) (nI (suD (WL n ps))) mk ++ R, e)) := by
  obtain ⟨A1, k1, hQ1, G1⟩ := m_fitWays (X := X) (fu := fu) (e := e) (ch := ch) (wf := wf) (rd := rd) (mo := mo) (sm := sm) (mk := mk) (R := R) hC hW
  obtain ⟨A2, k2, G2⟩ := m_rankSeen (X := X) (fu := fu + 2) (e := e) (A := A1) (n := n) (m := m) (ch := ch) (wf := nI 1) (rd := nI (WL n ps).length) (mo := nI (laD (WL n ps))) (sm := nI (suD (WL n ps))) (mk := mk) (R := R) (by rw [k1 19 (by omega)]; exact hx) ix ii
  have iy := cmp_row (inv_row ix) ii
  have hQ2 : QT A2 (WL n ps) := fun y hy => by rw [k2.2.1, k2.2.2]; exact hQ1 y hy
  have v1 := rk_lt iy
  have v2 := (hQ2 _ iy).1
  refine ⟨A2, fun j hj => (k2.1 j (by omega)).trans (k1 j (by omega)), hQ2, ?_⟩
  rw [← v2]
  repeat (first
    | exact go_ret rfl rfl rfl rfl
    | exact go_end rfl rfl rfl rfl
    | refine go_add rfl ?_
    | refine go_mul rfl ?_
    | refine go_sub rfl (by omega) ?_
    | refine go_inc rfl rfl rfl rfl rfl ?_
    | refine go_dec rfl rfl rfl (by omega) rfl rfl ?_
    | refine go_div rfl (by omega) ?_
    | refine go_rem rfl (by omega) ?_
    | refine go_cn rfl rfl rfl rfl rfl (m_requireRowCode_t ii) ?_
    | refine go_cn rfl rfl rfl rfl rfl G1 ?_
    | refine go_ci rfl rfl rfl rfl rfl G2 ?_
    | refine go_ialr rfl rfl (by omega) ?_
    | refine go_icT rfl (by dsimp only [ncd]; omega) ?_
    | refine go_icF rfl (by dsimp only [ncd]; omega) ?_
    | refine go_ifT rfl (by dsimp only [ncd]; omega) ?_
    | refine go_ifF rfl (by dsimp only [ncd]; omega) ?_
    | refine go_ift rfl (by decide) ?_
    | refine go_s rfl ?_
    )
theorem m_next_t (hC : CP A n ps m len pr) (hW : WF A n ps wf rd mo sm) (hx : rw6 (A 19) c) (ix : isRow c) {its : Nat} (ii : isRow its) : ∃ A2, (∀ j, j < 20 → A2 j = A j) ∧ QT A2 (WL n ps) ∧ Go X (fu + 4) mX3_next (0, [(0, .ref 0), (1, .int (nI its))], [], (cc A (nI n) (nI m) ch wf rd mo sm mk ++ R, e)) (.inl (some (.int (fwR (lk (WL n ps) (cmp (inv c) its))))), (cc A2 (nI n) (nI m) ch (nI 1) (nI (WL n ps).length) (nI (laD (WL n ps))) (nI (suD (WL n ps))) mk ++ R, e)) := by
  obtain ⟨A1, k1, hQ1, G1⟩ := m_fitWays (X := X) (fu := fu) (e := e) (ch := ch) (wf := wf) (rd := rd) (mo := mo) (sm := sm) (mk := mk) (R := R) hC hW
  obtain ⟨A2, k2, G2⟩ := m_rankSeen (X := X) (fu := fu + 2) (e := e) (A := A1) (n := n) (m := m) (ch := ch) (wf := nI 1) (rd := nI (WL n ps).length) (mo := nI (laD (WL n ps))) (sm := nI (suD (WL n ps))) (mk := mk) (R := R) (by rw [k1 19 (by omega)]; exact hx) ix ii
  have iy := cmp_row (inv_row ix) ii
  have hQ2 : QT A2 (WL n ps) := fun y hy => by rw [k2.2.1, k2.2.2]; exact hQ1 y hy
  have v1 := rk_lt iy
  have v2 := (hQ2 _ iy).2
  refine ⟨A2, fun j hj => (k2.1 j (by omega)).trans (k1 j (by omega)), hQ2, ?_⟩
  rw [← v2]
  repeat (first
    | exact go_ret rfl rfl rfl rfl
    | exact go_end rfl rfl rfl rfl
    | refine go_add rfl ?_
    | refine go_mul rfl ?_
    | refine go_sub rfl (by omega) ?_
    | refine go_inc rfl rfl rfl rfl rfl ?_
    | refine go_dec rfl rfl rfl (by omega) rfl rfl ?_
    | refine go_div rfl (by omega) ?_
    | refine go_rem rfl (by omega) ?_
    | refine go_cn rfl rfl rfl rfl rfl (m_requireRowCode_t ii) ?_
    | refine go_cn rfl rfl rfl rfl rfl G1 ?_
    | refine go_ci rfl rfl rfl rfl rfl G2 ?_
    | refine go_ialr rfl rfl (by omega) ?_
    | refine go_icT rfl (by dsimp only [ncd]; omega) ?_
    | refine go_icF rfl (by dsimp only [ncd]; omega) ?_
    | refine go_ifT rfl (by dsimp only [ncd]; omega) ?_
    | refine go_ifF rfl (by dsimp only [ncd]; omega) ?_
    | refine go_ift rfl (by decide) ?_
    | refine go_s rfl ?_
    )
theorem m_reach_t (hC : CP A n ps m len pr) (hW : WF A n ps wf rd mo sm) : ∃ A2, (∀ j, j < 20 → A2 j = A j) ∧ QT A2 (WL n ps) ∧ Go X (fu + 4) mX3_reach (0, [(0, .ref 0)], [], (cc A (nI n) (nI m) ch wf rd mo sm mk ++ R, e)) (.inl (some (.int (nI (WL n ps).length))), (cc A2 (nI n) (nI m) ch (nI 1) (nI (WL n ps).length) (nI (laD (WL n ps))) (nI (suD (WL n ps))) mk ++ R, e)) := by
  obtain ⟨A1, k1, hQ1, G1⟩ := m_fitWays (X := X) (fu := fu) (e := e) (ch := ch) (wf := wf) (rd := rd) (mo := mo) (sm := sm) (mk := mk) (R := R) hC hW
  refine ⟨A1, fun j hj => k1 j (by omega), hQ1, ?_⟩
  repeat (first
    | exact go_ret rfl rfl rfl rfl
    | exact go_end rfl rfl rfl rfl
    | refine go_add rfl ?_
    | refine go_mul rfl ?_
    | refine go_sub rfl (by omega) ?_
    | refine go_inc rfl rfl rfl rfl rfl ?_
    | refine go_dec rfl rfl rfl (by omega) rfl rfl ?_
    | refine go_div rfl (by omega) ?_
    | refine go_rem rfl (by omega) ?_
    | refine go_cn rfl rfl rfl rfl rfl G1 ?_
    | refine go_icT rfl (by dsimp only [ncd]; omega) ?_
    | refine go_icF rfl (by dsimp only [ncd]; omega) ?_
    | refine go_ifT rfl (by dsimp only [ncd]; omega) ?_
    | refine go_ifF rfl (by dsimp only [ncd]; omega) ?_
    | refine go_ift rfl (by decide) ?_
    | refine go_s rfl ?_
    )
theorem m_farthest_t (hC : CP A n ps m len pr) (hW : WF A n ps wf rd mo sm) : ∃ A2, (∀ j, j < 20 → A2 j = A j) ∧ QT A2 (WL n ps) ∧ Go X (fu + 4) mX3_farthest (0, [(0, .ref 0)], [], (cc A (nI n) (nI m) ch wf rd mo sm mk ++ R, e)) (.inl (some (.int (nI (laD (WL n ps))))), (cc A2 (nI n) (nI m) ch (nI 1) (nI (WL n ps).length) (nI (laD (WL n ps))) (nI (suD (WL n ps))) mk ++ R, e)) := by
  obtain ⟨A1, k1, hQ1, G1⟩ := m_fitWays (X := X) (fu := fu) (e := e) (ch := ch) (wf := wf) (rd := rd) (mo := mo) (sm := sm) (mk := mk) (R := R) hC hW
  refine ⟨A1, fun j hj => k1 j (by omega), hQ1, ?_⟩
  repeat (first
    | exact go_ret rfl rfl rfl rfl
    | exact go_end rfl rfl rfl rfl
    | refine go_add rfl ?_
    | refine go_mul rfl ?_
    | refine go_sub rfl (by omega) ?_
    | refine go_inc rfl rfl rfl rfl rfl ?_
    | refine go_dec rfl rfl rfl (by omega) rfl rfl ?_
    | refine go_div rfl (by omega) ?_
    | refine go_rem rfl (by omega) ?_
    | refine go_cn rfl rfl rfl rfl rfl G1 ?_
    | refine go_icT rfl (by dsimp only [ncd]; omega) ?_
    | refine go_icF rfl (by dsimp only [ncd]; omega) ?_
    | refine go_ifT rfl (by dsimp only [ncd]; omega) ?_
    | refine go_ifF rfl (by dsimp only [ncd]; omega) ?_
    | refine go_ift rfl (by decide) ?_
    | refine go_s rfl ?_
    )
theorem WL_pos (hn : n ≤ 8) (hp : ∀ r, r < n → isRow (ps r)) : 0 < (WL n ps).length ∧ (WL n ps).length ≤ 720 := by
  have h := (bfs_ok (nb := nbC (fun r => inv (ps r))) (nk := nkC) (lo := 8) (n := n) (s := R0) (KM_C hn) (nb_row (fun r hr => inv_row (hp r hr))) R0_row).1
  exact ⟨idx_lt h.2.2.1, len_720 h.1 h.2.1⟩
theorem m_mean_t (hC : CP A n ps m len pr) (hW : WF A n ps wf rd mo sm) : ∃ A2, (∀ j, j < 20 → A2 j = A j) ∧ QT A2 (WL n ps) ∧ Go X (fu + 4) mX3_mean (0, [(0, .ref 0)], [], (cc A (nI n) (nI m) ch wf rd mo sm mk ++ R, e)) (.inl (some (.double (FP.ddiv (FP.i2d (nI (suD (WL n ps)))) (FP.i2d (nI (WL n ps).length))))), (cc A2 (nI n) (nI m) ch (nI 1) (nI (WL n ps).length) (nI (laD (WL n ps))) (nI (suD (WL n ps))) mk ++ R, e)) := by
  obtain ⟨A1, k1, hQ1, G1⟩ := m_fitWays (X := X) (fu := fu) (e := e) (ch := ch) (wf := wf) (rd := rd) (mo := mo) (sm := sm) (mk := mk) (R := R) hC hW
  have hl := WL_pos hC.1 (fun r hr => (hC.2.2.1 r hr).2)
  have nz : nI (WL n ps).length ≠ 0 := nI_nz hl.1 (by omega)
  refine ⟨A1, fun j hj => k1 j (by omega), hQ1, ?_⟩
  repeat (first
    | exact go_ret rfl rfl rfl rfl
    | exact go_end rfl rfl rfl rfl
    | refine go_add rfl ?_
    | refine go_mul rfl ?_
    | refine go_sub rfl (by omega) ?_
    | refine go_inc rfl rfl rfl rfl rfl ?_
    | refine go_dec rfl rfl rfl (by omega) rfl rfl ?_
    | refine go_div rfl (by omega) ?_
    | refine go_rem rfl (by omega) ?_
    | refine go_cn rfl rfl rfl rfl rfl G1 ?_
    | refine go_ddiv rfl (mean_ok nz) ?_
    | refine go_icT rfl (by dsimp only [ncd]; omega) ?_
    | refine go_icF rfl (by dsimp only [ncd]; omega) ?_
    | refine go_ifT rfl (by dsimp only [ncd]; omega) ?_
    | refine go_ifF rfl (by dsimp only [ncd]; omega) ?_
    | refine go_ift rfl (by decide) ?_
    | refine go_s rfl ?_
    )
theorem rule_st {H2 : (Nat → Int32) → List zC} {k0 u : Nat} (hs : ∀ f, (H2 f)[k0]? = some (.inl (6, .inl f))) (us : ∀ f g, (H2 f).set k0 (.inl (6, .inl g)) = H2 g) {p : Nat} {f : Nat → Int32} :
    ∃ f2, rw6 f2 p ∧ ∀ oo, Go X fu mX3_rule (163, [(0, .ref 0), (1, .int (nI (dg p 0))), (2, .int (nI (dg p 1))), (3, .int (nI (dg p 2))), (4, .int (nI (dg p 3))), (5, .int (nI (dg p 4))), (6, .int (nI (dg p 5))), (7, .int (nI u)), (8, .ref k0)], [], (H2 f2, e)) oo → Go X fu mX3_rule (130, [(0, .ref 0), (1, .int (nI (dg p 0))), (2, .int (nI (dg p 1))), (3, .int (nI (dg p 2))), (4, .int (nI (dg p 3))), (5, .int (nI (dg p 4))), (6, .int (nI (dg p 5))), (7, .int (nI u)), (8, .ref k0)], [], (H2 f, e)) oo := by
  refine ⟨_, six_st (f := f) (v := dg p) (c := p) (fun _ _ => rfl), fun oo K => ?_⟩
  repeat (first
    | exact K
    | exact go_ret rfl rfl rfl rfl
    | exact go_end rfl rfl rfl rfl
    | refine go_add rfl ?_
    | refine go_mul rfl ?_
    | refine go_sub rfl (by omega) ?_
    | refine go_inc rfl rfl rfl rfl rfl ?_
    | refine go_dec rfl rfl rfl (by omega) rfl rfl ?_
    | refine go_iash rfl (hs _) (by first | omega | exact ⟨dg_lt _ _, by omega⟩) (us _ _) ?_
    | refine go_div rfl (by omega) ?_
    | refine go_rem rfl (by omega) ?_
    | refine go_icT rfl (by dsimp only [ncd]; omega) ?_
    | refine go_icF rfl (by dsimp only [ncd]; omega) ?_
    | refine go_ifT rfl (by dsimp only [ncd]; omega) ?_
    | refine go_ifF rfl (by dsimp only [ncd]; omega) ?_
    | refine go_ift rfl (by decide) ?_
    | refine go_s rfl ?_
    )
theorem m_rule_t (hC : CP A n ps m len pr) (hn : n < 8) {p : Nat} (ip : isRow p) : ∃ A2, (∀ k, k ≠ 2 + n → A2 k = A k) ∧ rw6 (A2 (2 + n)) p ∧ Go X (fu + 2) mX3_rule (0, [(0, .ref 0), (1, .int (nI (dg p 0))), (2, .int (nI (dg p 1))), (3, .int (nI (dg p 2))), (4, .int (nI (dg p 3))), (5, .int (nI (dg p 4))), (6, .int (nI (dg p 5)))], [], (cc A (nI n) (nI m) ch wf rd mo sm mk ++ R, e)) (.inl (some (.int (nI n))), (cc A2 (nI (n + 1)) (nI m) ch (nI 0) rd mo sm mk ++ R, e)) := by
  have e1 : ((((2 ^ dg p 0 ||| 2 ^ dg p 1) ||| 2 ^ dg p 2) ||| 2 ^ dg p 3) ||| 2 ^ dg p 4) ||| 2 ^ dg p 5 = 63 := row_bits ip
  obtain ⟨f2, h1, G0⟩ := rule_st (X := X) (fu := fu + 2) (e := e) (u := 63) (p := p) (k0 := 2 + n) (f := A (2 + n)) (H2 := fun f => cc (aset A (2 + n) f) (nI n) (nI m) ch wf rd mo sm mk ++ R) (fun f => (cc_p n (by omega)).trans (by rw [aset_s])) (fun f g => (cc_ps n (by omega) g).trans (by rw [aset_bb]))
  rw [aset_id] at G0
  refine ⟨aset A (2 + n) f2, fun k hk => aset_n hk, by rw [aset_s]; exact h1, ?_⟩
  have K := G0 (.inl (some (.int (nI n))), (cc (aset A (2 + n) f2) (nI (n + 1)) (nI m) ch (nI 0) rd mo sm mk ++ R, e)) (by
    repeat (first
      | exact go_ret rfl rfl rfl rfl
      | exact go_end rfl rfl rfl rfl
      | refine go_add rfl ?_
      | refine go_mul rfl ?_
      | refine go_sub rfl (by omega) ?_
      | refine go_inc rfl rfl rfl rfl rfl ?_
      | refine go_dec rfl rfl rfl (by omega) rfl rfl ?_
      | refine go_div rfl (by omega) ?_
      | refine go_rem rfl (by omega) ?_
      | refine go_icT rfl (by dsimp only [ncd]; omega) ?_
      | refine go_icF rfl (by dsimp only [ncd]; omega) ?_
      | refine go_ifT rfl (by dsimp only [ncd]; omega) ?_
      | refine go_ifF rfl (by dsimp only [ncd]; omega) ?_
      | refine go_ift rfl (by decide) ?_
      | refine go_s rfl ?_
      ))
  repeat (first
    | exact K
    | (rw [e1]; refine go_s rfl ?_)
    | exact go_ret rfl rfl rfl rfl
    | exact go_end rfl rfl rfl rfl
    | refine go_add rfl ?_
    | refine go_mul rfl ?_
    | refine go_sub rfl (by omega) ?_
    | refine go_inc rfl rfl rfl rfl rfl ?_
    | refine go_dec rfl rfl rfl (by omega) rfl rfl ?_
    | refine go_aal rfl rfl (by omega) (gP_s (by omega)) ?_
    | refine go_aal rfl rfl (by omega) (gQ_s (by omega)) ?_
    | refine go_div rfl (by omega) ?_
    | refine go_rem rfl (by omega) ?_
    | refine go_ci rfl rfl rfl rfl rfl (m_isPlace_t (v := dg p 0) (dg_lt _ _)) ?_
    | refine go_ci rfl rfl rfl rfl rfl (m_isPlace_t (v := dg p 1) (dg_lt _ _)) ?_
    | refine go_ci rfl rfl rfl rfl rfl (m_isPlace_t (v := dg p 2) (dg_lt _ _)) ?_
    | refine go_ci rfl rfl rfl rfl rfl (m_isPlace_t (v := dg p 3) (dg_lt _ _)) ?_
    | refine go_ci rfl rfl rfl rfl rfl (m_isPlace_t (v := dg p 4) (dg_lt _ _)) ?_
    | refine go_ci rfl rfl rfl rfl rfl (m_isPlace_t (v := dg p 5) (dg_lt _ _)) ?_
    | refine go_shl rfl (dg_lt _ _) ?_
    | refine go_or rfl ?_
    | refine go_icT rfl (by dsimp only [ncd]; omega) ?_
    | refine go_icF rfl (by dsimp only [ncd]; omega) ?_
    | refine go_ifT rfl (by dsimp only [ncd]; omega) ?_
    | refine go_ifF rfl (by dsimp only [ncd]; omega) ?_
    | refine go_ift rfl (by decide) ?_
    | refine go_s rfl ?_
    )
end PUB
