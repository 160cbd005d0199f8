/-! ===== peals: truth, different rows; counts and the digest ===== -/
section PEALS2
variable {X : zX} {fu e n m : Nat} {ch wf rd mo sm mk : Int32} {R : List zC} {ps len : Nat → Nat} {pr : Nat → Nat → Nat}
theorem keep_3 {A A2 : Nat → Nat → Int32} (h : ∀ k, k ≠ 35 → A2 k = A k) : keep A A2 := keep_o 35 35 (fun k h1 _ => h k h1) (by omega)
theorem true_loop {p : Nat} (hp : p < m) :
    ∀ (q k x : Nat) (l : List Nat) (A : Nat → Nat → Int32) (L : List (Nat × Value)), (L = [] ∨ ∃ y z : Int32, L = [(4, .int y), (5, .int z)]) → CP A n ps m len pr → k + q = len p → rw6 (A 32) x → isRow x → MK A l →
    ∃ A2 mk2, keep A A2 ∧ Go X (fu + 2) mX3_isTrue (35, [(0, .ref 0), (1, .int (nI p)), (2, .int (nI (len p))), (3, .int (nI k))] ++ L, [], (cc A (nI n) (nI m) ch wf rd mo sm (nI l.length) ++ R, e)) (.inl (some (.int (nI (tr ps (pr p) q k x l)))), (cc A2 (nI n) (nI m) ch wf rd mo sm mk2 ++ R, e)) := by
  intro q
  induction q with
  | zero =>
    intro k x l A L hL hC hk hx ix hM
    have hm := hC.2.1
    obtain ⟨l1, l2, l3⟩ := hC.2.2.2.2 p (by omega)
    obtain rfl : k = len p := by omega
    refine ⟨A, nI l.length, keep_r A, ?_⟩
    rcases hL with rfl | ⟨y, z, rfl⟩
    · show Go X (fu + 2) mX3_isTrue (35, [(0, .ref 0), (1, .int (nI p)), (2, .int (nI (len p))), (3, .int (nI (len p)))], [], _) _
      repeat (first
        | exact go_ret rfl rfl rfl rfl
        | exact go_end rfl rfl rfl rfl
        | refine go_add rfl ?_
        | refine go_mul rfl ?_
        | refine go_sub rfl (by omega) ?_
        | refine go_inc rfl rfl rfl rfl rfl ?_
        | refine go_dec rfl rfl rfl (by omega) rfl rfl ?_
        | refine go_div rfl (by omega) ?_
        | refine go_rem rfl (by omega) ?_
        | refine go_icT rfl (by dsimp only [ncd]; omega) ?_
        | refine go_icF rfl (by dsimp only [ncd]; omega) ?_
        | refine go_ifT rfl (by dsimp only [ncd]; omega) ?_
        | refine go_ifF rfl (by dsimp only [ncd]; omega) ?_
        | refine go_ift rfl (by decide) ?_
        | refine go_s rfl ?_
        )
    · show Go X (fu + 2) mX3_isTrue (35, [(0, .ref 0), (1, .int (nI p)), (2, .int (nI (len p))), (3, .int (nI (len p))), (4, .int y), (5, .int z)], [], _) _
      repeat (first
        | exact go_ret rfl rfl rfl rfl
        | exact go_end rfl rfl rfl rfl
        | refine go_add rfl ?_
        | refine go_mul rfl ?_
        | refine go_sub rfl (by omega) ?_
        | refine go_inc rfl rfl rfl rfl rfl ?_
        | refine go_dec rfl rfl rfl (by omega) rfl rfl ?_
        | refine go_div rfl (by omega) ?_
        | refine go_rem rfl (by omega) ?_
        | refine go_icT rfl (by dsimp only [ncd]; omega) ?_
        | refine go_icF rfl (by dsimp only [ncd]; omega) ?_
        | refine go_ifT rfl (by dsimp only [ncd]; omega) ?_
        | refine go_ifF rfl (by dsimp only [ncd]; omega) ?_
        | refine go_ift rfl (by decide) ?_
        | refine go_s rfl ?_
        )
  | succ q ih =>
    intro k x l A L hL hC hk hx ix hM
    have hm := hC.2.1
    have hn := hC.1
    obtain ⟨l1, l2, l3⟩ := hC.2.2.2.2 p (by omega)
    have l4 := l3 k (by omega)
    have hq := hC.2.2.1 _ l4
    obtain ⟨A2, k2, hx2, G⟩ := c_change (X := X) (fu := fu) (e := e) (rc := nI n) (pc := nI m) (ch := ch) (wf := wf) (rd := rd) (mo := mo) (sm := sm) (mk := nI l.length) (R := R) rw_trial hx (i := pr p k) (by omega) hq.1 hq.2
    have ix2 := rng_row ix hq.2
    have b2 := row_lt ix2
    have hM2 : MK A2 l := fun y hy => by rw [k2 35 (by omega) (by omega)]; exact hM y hy
    obtain ⟨A3, k3, hM3, G3⟩ := c_mark (X := X) (fu := fu) (e := e) (ch := ch) (wf := wf) (rd := rd) (mo := mo) (sm := sm) (R := R) (n := n) (m := m) hM2 hx2 ix2
    have hx3 : rw6 (A3 32) (rng x (ps (pr p k))) := by rw [k3 32 (by omega)]; exact hx2
    have G4 := c_code (X := X) (fu := fu + 1) (e := e) (A := A3) (rc := nI n) (pc := nI m) (ch := ch) (wf := wf) (rd := rd) (mo := mo) (sm := sm) (mk := nI (addv l (rng x (ps (pr p k)))).length) (R := R) rw_trial hx3 ix2
    have K3 : keep A A3 := keep_t (keep_o 32 33 k2 (by omega)) (keep_3 k3)
    show ∃ A4 mk2, keep A A4 ∧ Go X (fu + 2) mX3_isTrue _ (.inl (some (.int (nI (if rng x (ps (pr p k)) ∈ l ∧ ¬ (q = 0 ∧ rng x (ps (pr p k)) = R0) then 0 else tr ps (pr p) q (k + 1) (rng x (ps (pr p k))) (addv l (rng x (ps (pr p k)))))))), _)
    have IH := fun L hL => ih (k + 1) _ _ A3 L hL (CP_k hC K3) (by omega) hx3 ix2 hM3
    generalize rng x (ps (pr p k)) = z at *
    have fin : ∀ (y1 y2 : Nat), (¬ (z ∈ l ∧ ¬ (q = 0 ∧ z = R0))) → ∃ A4 mk2, keep A A4 ∧ Go X (fu + 2) mX3_isTrue (35, [(0, .ref 0), (1, .int (nI p)), (2, .int (nI (len p))), (3, .int (nI (k + 1))), (4, .int (nI y1)), (5, .int (nI y2))], [], (cc A3 (nI n) (nI m) ch wf rd mo sm (nI (addv l z).length) ++ R, e)) (.inl (some (.int (nI (if z ∈ l ∧ ¬ (q = 0 ∧ z = R0) then 0 else tr ps (pr p) q (k + 1) z (addv l z))))), (cc A4 (nI n) (nI m) ch wf rd mo sm mk2 ++ R, e)) := by
      intro y1 y2 hc
      rw [if_neg hc]
      obtain ⟨A4, mk2, k4, G5⟩ := IH [(4, .int (nI y1)), (5, .int (nI y2))] (Or.inr ⟨_, _, rfl⟩)
      exact ⟨A4, mk2, keep_t K3 k4, G5⟩
    have hL2 : ∀ oo, Go X (fu + 2) mX3_isTrue (71, [(0, .ref 0), (1, .int (nI p)), (2, .int (nI (len p))), (3, .int (nI k))] ++ L, [.int (nI (if z ∈ l then 0 else 1))], (cc A3 (nI n) (nI m) ch wf rd mo sm (nI (addv l z).length) ++ R, e)) oo → Go X (fu + 2) mX3_isTrue (35, [(0, .ref 0), (1, .int (nI p)), (2, .int (nI (len p))), (3, .int (nI k))] ++ L, [], (cc A (nI n) (nI m) ch wf rd mo sm (nI l.length) ++ R, e)) oo := by
      intro oo K
      rcases hL with rfl | ⟨y, z2, rfl⟩
      · replace K : Go X (fu + 2) mX3_isTrue (71, [(0, .ref 0), (1, .int (nI p)), (2, .int (nI (len p))), (3, .int (nI k))], [.int (nI (if z ∈ l then 0 else 1))], (cc A3 (nI n) (nI m) ch wf rd mo sm (nI (addv l z).length) ++ R, e)) oo := K
        show Go X (fu + 2) mX3_isTrue (35, [(0, .ref 0), (1, .int (nI p)), (2, .int (nI (len p))), (3, .int (nI k))], [], (cc A (nI n) (nI m) ch wf rd mo sm (nI l.length) ++ R, e)) oo
        repeat (first
          | exact K
          | exact go_ret rfl rfl rfl rfl
          | exact go_end rfl rfl rfl rfl
          | refine go_add rfl ?_
          | refine go_mul rfl ?_
          | refine go_sub rfl (by omega) ?_
          | refine go_inc rfl rfl rfl rfl rfl ?_
          | refine go_dec rfl rfl rfl (by omega) rfl rfl ?_
          | refine go_ial rfl (cc_q p (by omega)) (by first | omega | exact ⟨dg_lt _ _, by omega⟩) (l2 _ (by first | omega | exact dg_lt _ _)) ?_
          | refine go_aal rfl rfl (by omega) (gP_s (by omega)) ?_
          | refine go_aal rfl rfl (by omega) (gQ_s (by omega)) ?_
          | refine go_div rfl (by omega) ?_
          | refine go_rem rfl (by omega) ?_
          | refine go_cn rfl rfl rfl rfl rfl G ?_
          | refine go_ci rfl rfl rfl rfl rfl G3 ?_
          | refine go_icT rfl (by dsimp only [ncd]; omega) ?_
          | refine go_icF rfl (by dsimp only [ncd]; omega) ?_
          | refine go_ifT rfl (by dsimp only [ncd]; omega) ?_
          | refine go_ifF rfl (by dsimp only [ncd]; omega) ?_
          | refine go_ift rfl (by decide) ?_
          | refine go_s rfl ?_
          )
      · replace K : Go X (fu + 2) mX3_isTrue (71, [(0, .ref 0), (1, .int (nI p)), (2, .int (nI (len p))), (3, .int (nI k)), (4, .int y), (5, .int z2)], [.int (nI (if z ∈ l then 0 else 1))], (cc A3 (nI n) (nI m) ch wf rd mo sm (nI (addv l z).length) ++ R, e)) oo := K
        show Go X (fu + 2) mX3_isTrue (35, [(0, .ref 0), (1, .int (nI p)), (2, .int (nI (len p))), (3, .int (nI k)), (4, .int y), (5, .int z2)], [], (cc A (nI n) (nI m) ch wf rd mo sm (nI l.length) ++ R, e)) oo
        repeat (first
          | exact K
          | exact go_ret rfl rfl rfl rfl
          | exact go_end rfl rfl rfl rfl
          | refine go_add rfl ?_
          | refine go_mul rfl ?_
          | refine go_sub rfl (by omega) ?_
          | refine go_inc rfl rfl rfl rfl rfl ?_
          | refine go_dec rfl rfl rfl (by omega) rfl rfl ?_
          | refine go_ial rfl (cc_q p (by omega)) (by first | omega | exact ⟨dg_lt _ _, by omega⟩) (l2 _ (by first | omega | exact dg_lt _ _)) ?_
          | refine go_aal rfl rfl (by omega) (gP_s (by omega)) ?_
          | refine go_aal rfl rfl (by omega) (gQ_s (by omega)) ?_
          | refine go_div rfl (by omega) ?_
          | refine go_rem rfl (by omega) ?_
          | refine go_cn rfl rfl rfl rfl rfl G ?_
          | refine go_ci rfl rfl rfl rfl rfl G3 ?_
          | refine go_icT rfl (by dsimp only [ncd]; omega) ?_
          | refine go_icF rfl (by dsimp only [ncd]; omega) ?_
          | refine go_ifT rfl (by dsimp only [ncd]; omega) ?_
          | refine go_ifF rfl (by dsimp only [ncd]; omega) ?_
          | refine go_ift rfl (by decide) ?_
          | refine go_s rfl ?_
          )
    have hend : ∀ (L5 : List (Nat × Value)), (L5 = [] ∨ ∃ z2 : Int32, L5 = [(5, .int z2)]) → ∃ A4 mk2, keep A A4 ∧ Go X (fu + 2) mX3_isTrue (73, [(0, .ref 0), (1, .int (nI p)), (2, .int (nI (len p))), (3, .int (nI k)), (4, .int (nI (if z ∈ l then 0 else 1)))] ++ L5, [], (cc A3 (nI n) (nI m) ch wf rd mo sm (nI (addv l z).length) ++ R, e)) (.inl (some (.int (nI (if z ∈ l ∧ ¬ (q = 0 ∧ z = R0) then 0 else tr ps (pr p) q (k + 1) z (addv l z))))), (cc A4 (nI n) (nI m) ch wf rd mo sm mk2 ++ R, e)) := by
      intro L5 hL5
      rcases hL5 with rfl | ⟨z2, rfl⟩
      · show ∃ A4 mk2, keep A A4 ∧ Go X (fu + 2) mX3_isTrue (73, [(0, .ref 0), (1, .int (nI p)), (2, .int (nI (len p))), (3, .int (nI k)), (4, .int (nI (if z ∈ l then 0 else 1)))], [], (cc A3 (nI n) (nI m) ch wf rd mo sm (nI (addv l z).length) ++ R, e)) _
        by_cases e1 : q = 0
        · by_cases e2 : z = R0
          · by_cases e3 : z ∈ l
            · have hi : z ∈ l := e3
              have hz : z = 1865 := e2
              rw [if_pos hi]
              obtain ⟨A4, mk2, k4, G5⟩ := fin 0 1 (fun w => w.2 ⟨e1, e2⟩)
              refine ⟨A4, mk2, k4, ?_⟩
              repeat (first
                | exact G5
                | exact go_ret rfl rfl rfl rfl
                | exact go_end rfl rfl rfl rfl
                | refine go_add rfl ?_
                | refine go_mul rfl ?_
                | refine go_sub rfl (by omega) ?_
                | refine go_inc rfl rfl rfl rfl rfl ?_
                | refine go_dec rfl rfl rfl (by omega) rfl rfl ?_
                | refine go_div rfl (by omega) ?_
                | refine go_rem rfl (by omega) ?_
                | refine go_ci rfl rfl rfl rfl rfl G4 ?_
                | refine go_icT rfl (by dsimp only [ncd]; omega) ?_
                | refine go_icF rfl (by dsimp only [ncd]; omega) ?_
                | refine go_ifT rfl (by dsimp only [ncd]; omega) ?_
                | refine go_ifF rfl (by dsimp only [ncd]; omega) ?_
                | refine go_ift rfl (by decide) ?_
                | refine go_s rfl ?_
                )
            · have hi : ¬ z ∈ l := e3
              have hz : z = 1865 := e2
              rw [if_neg hi]
              obtain ⟨A4, mk2, k4, G5⟩ := fin 1 1 (fun w => e3 w.1)
              refine ⟨A4, mk2, k4, ?_⟩
              repeat (first
                | exact G5
                | exact go_ret rfl rfl rfl rfl
                | exact go_end rfl rfl rfl rfl
                | refine go_add rfl ?_
                | refine go_mul rfl ?_
                | refine go_sub rfl (by omega) ?_
                | refine go_inc rfl rfl rfl rfl rfl ?_
                | refine go_dec rfl rfl rfl (by omega) rfl rfl ?_
                | refine go_div rfl (by omega) ?_
                | refine go_rem rfl (by omega) ?_
                | refine go_ci rfl rfl rfl rfl rfl G4 ?_
                | refine go_icT rfl (by dsimp only [ncd]; omega) ?_
                | refine go_icF rfl (by dsimp only [ncd]; omega) ?_
                | refine go_ifT rfl (by dsimp only [ncd]; omega) ?_
                | refine go_ifF rfl (by dsimp only [ncd]; omega) ?_
                | refine go_ift rfl (by decide) ?_
                | refine go_s rfl ?_
                )
          · by_cases e3 : z ∈ l
            · have hi : z ∈ l := e3
              have hz : z ≠ 1865 := e2
              have hc : z ∈ l ∧ ¬ (q = 0 ∧ z = R0) := ⟨e3, fun w => e2 w.2⟩
              rw [if_pos hi, if_pos hc]
              refine ⟨A3, nI (addv l z).length, K3, ?_⟩
              repeat (first
                | exact go_ret rfl rfl rfl rfl
                | exact go_end rfl rfl rfl rfl
                | refine go_add rfl ?_
                | refine go_mul rfl ?_
                | refine go_sub rfl (by omega) ?_
                | refine go_inc rfl rfl rfl rfl rfl ?_
                | refine go_dec rfl rfl rfl (by omega) rfl rfl ?_
                | refine go_div rfl (by omega) ?_
                | refine go_rem rfl (by omega) ?_
                | refine go_ci rfl rfl rfl rfl rfl G4 ?_
                | refine go_icT rfl (by dsimp only [ncd]; omega) ?_
                | refine go_icF rfl (by dsimp only [ncd]; omega) ?_
                | refine go_ifT rfl (by dsimp only [ncd]; omega) ?_
                | refine go_ifF rfl (by dsimp only [ncd]; omega) ?_
                | refine go_ift rfl (by decide) ?_
                | refine go_s rfl ?_
                )
            · have hi : ¬ z ∈ l := e3
              have hz : z ≠ 1865 := e2
              rw [if_neg hi]
              obtain ⟨A4, mk2, k4, G5⟩ := fin 1 0 (fun w => e3 w.1)
              refine ⟨A4, mk2, k4, ?_⟩
              repeat (first
                | exact G5
                | exact go_ret rfl rfl rfl rfl
                | exact go_end rfl rfl rfl rfl
                | refine go_add rfl ?_
                | refine go_mul rfl ?_
                | refine go_sub rfl (by omega) ?_
                | refine go_inc rfl rfl rfl rfl rfl ?_
                | refine go_dec rfl rfl rfl (by omega) rfl rfl ?_
                | refine go_div rfl (by omega) ?_
                | refine go_rem rfl (by omega) ?_
                | refine go_ci rfl rfl rfl rfl rfl G4 ?_
                | refine go_icT rfl (by dsimp only [ncd]; omega) ?_
                | refine go_icF rfl (by dsimp only [ncd]; omega) ?_
                | refine go_ifT rfl (by dsimp only [ncd]; omega) ?_
                | refine go_ifF rfl (by dsimp only [ncd]; omega) ?_
                | refine go_ift rfl (by decide) ?_
                | refine go_s rfl ?_
                )
        · by_cases e2 : z = R0
          · by_cases e3 : z ∈ l
            · have hi : z ∈ l := e3
              have hz : z = 1865 := e2
              have hc : z ∈ l ∧ ¬ (q = 0 ∧ z = R0) := ⟨e3, fun w => e1 w.1⟩
              rw [if_pos hi, if_pos hc]
              refine ⟨A3, nI (addv l z).length, K3, ?_⟩
              repeat (first
                | exact go_ret rfl rfl rfl rfl
                | exact go_end rfl rfl rfl rfl
                | refine go_add rfl ?_
                | refine go_mul rfl ?_
                | refine go_sub rfl (by omega) ?_
                | refine go_inc rfl rfl rfl rfl rfl ?_
                | refine go_dec rfl rfl rfl (by omega) rfl rfl ?_
                | refine go_div rfl (by omega) ?_
                | refine go_rem rfl (by omega) ?_
                | refine go_ci rfl rfl rfl rfl rfl G4 ?_
                | refine go_icT rfl (by dsimp only [ncd]; omega) ?_
                | refine go_icF rfl (by dsimp only [ncd]; omega) ?_
                | refine go_ifT rfl (by dsimp only [ncd]; omega) ?_
                | refine go_ifF rfl (by dsimp only [ncd]; omega) ?_
                | refine go_ift rfl (by decide) ?_
                | refine go_s rfl ?_
                )
            · have hi : ¬ z ∈ l := e3
              have hz : z = 1865 := e2
              rw [if_neg hi]
              obtain ⟨A4, mk2, k4, G5⟩ := fin 1 0 (fun w => e3 w.1)
              refine ⟨A4, mk2, k4, ?_⟩
              repeat (first
                | exact G5
                | exact go_ret rfl rfl rfl rfl
                | exact go_end rfl rfl rfl rfl
                | refine go_add rfl ?_
                | refine go_mul rfl ?_
                | refine go_sub rfl (by omega) ?_
                | refine go_inc rfl rfl rfl rfl rfl ?_
                | refine go_dec rfl rfl rfl (by omega) rfl rfl ?_
                | refine go_div rfl (by omega) ?_
                | refine go_rem rfl (by omega) ?_
                | refine go_ci rfl rfl rfl rfl rfl G4 ?_
                | refine go_icT rfl (by dsimp only [ncd]; omega) ?_
                | refine go_icF rfl (by dsimp only [ncd]; omega) ?_
                | refine go_ifT rfl (by dsimp only [ncd]; omega) ?_
                | refine go_ifF rfl (by dsimp only [ncd]; omega) ?_
                | refine go_ift rfl (by decide) ?_
                | refine go_s rfl ?_
                )
          · by_cases e3 : z ∈ l
            · have hi : z ∈ l := e3
              have hz : z ≠ 1865 := e2
              have hc : z ∈ l ∧ ¬ (q = 0 ∧ z = R0) := ⟨e3, fun w => e1 w.1⟩
              rw [if_pos hi, if_pos hc]
              refine ⟨A3, nI (addv l z).length, K3, ?_⟩
              repeat (first
                | exact go_ret rfl rfl rfl rfl
                | exact go_end rfl rfl rfl rfl
                | refine go_add rfl ?_
                | refine go_mul rfl ?_
                | refine go_sub rfl (by omega) ?_
                | refine go_inc rfl rfl rfl rfl rfl ?_
                | refine go_dec rfl rfl rfl (by omega) rfl rfl ?_
                | refine go_div rfl (by omega) ?_
                | refine go_rem rfl (by omega) ?_
                | refine go_ci rfl rfl rfl rfl rfl G4 ?_
                | refine go_icT rfl (by dsimp only [ncd]; omega) ?_
                | refine go_icF rfl (by dsimp only [ncd]; omega) ?_
                | refine go_ifT rfl (by dsimp only [ncd]; omega) ?_
                | refine go_ifF rfl (by dsimp only [ncd]; omega) ?_
                | refine go_ift rfl (by decide) ?_
                | refine go_s rfl ?_
                )
            · have hi : ¬ z ∈ l := e3
              have hz : z ≠ 1865 := e2
              rw [if_neg hi]
              obtain ⟨A4, mk2, k4, G5⟩ := fin 1 0 (fun w => e3 w.1)
              refine ⟨A4, mk2, k4, ?_⟩
              repeat (first
                | exact G5
                | exact go_ret rfl rfl rfl rfl
                | exact go_end rfl rfl rfl rfl
                | refine go_add rfl ?_
                | refine go_mul rfl ?_
                | refine go_sub rfl (by omega) ?_
                | refine go_inc rfl rfl rfl rfl rfl ?_
                | refine go_dec rfl rfl rfl (by omega) rfl rfl ?_
                | refine go_div rfl (by omega) ?_
                | refine go_rem rfl (by omega) ?_
                | refine go_ci rfl rfl rfl rfl rfl G4 ?_
                | refine go_icT rfl (by dsimp only [ncd]; omega) ?_
                | refine go_icF rfl (by dsimp only [ncd]; omega) ?_
                | refine go_ifT rfl (by dsimp only [ncd]; omega) ?_
                | refine go_ifF rfl (by dsimp only [ncd]; omega) ?_
                | refine go_ift rfl (by decide) ?_
                | refine go_s rfl ?_
                )
      · show ∃ A4 mk2, keep A A4 ∧ Go X (fu + 2) mX3_isTrue (73, [(0, .ref 0), (1, .int (nI p)), (2, .int (nI (len p))), (3, .int (nI k)), (4, .int (nI (if z ∈ l then 0 else 1))), (5, .int z2)], [], (cc A3 (nI n) (nI m) ch wf rd mo sm (nI (addv l z).length) ++ R, e)) _
        by_cases e1 : q = 0
        · by_cases e2 : z = R0
          · by_cases e3 : z ∈ l
            · have hi : z ∈ l := e3
              have hz : z = 1865 := e2
              rw [if_pos hi]
              obtain ⟨A4, mk2, k4, G5⟩ := fin 0 1 (fun w => w.2 ⟨e1, e2⟩)
              refine ⟨A4, mk2, k4, ?_⟩
              repeat (first
                | exact G5
                | exact go_ret rfl rfl rfl rfl
                | exact go_end rfl rfl rfl rfl
                | refine go_add rfl ?_
                | refine go_mul rfl ?_
                | refine go_sub rfl (by omega) ?_
                | refine go_inc rfl rfl rfl rfl rfl ?_
                | refine go_dec rfl rfl rfl (by omega) rfl rfl ?_
                | refine go_div rfl (by omega) ?_
                | refine go_rem rfl (by omega) ?_
                | refine go_ci rfl rfl rfl rfl rfl G4 ?_
                | refine go_icT rfl (by dsimp only [ncd]; omega) ?_
                | refine go_icF rfl (by dsimp only [ncd]; omega) ?_
                | refine go_ifT rfl (by dsimp only [ncd]; omega) ?_
                | refine go_ifF rfl (by dsimp only [ncd]; omega) ?_
                | refine go_ift rfl (by decide) ?_
                | refine go_s rfl ?_
                )
            · have hi : ¬ z ∈ l := e3
              have hz : z = 1865 := e2
              rw [if_neg hi]
              obtain ⟨A4, mk2, k4, G5⟩ := fin 1 1 (fun w => e3 w.1)
              refine ⟨A4, mk2, k4, ?_⟩
              repeat (first
                | exact G5
                | exact go_ret rfl rfl rfl rfl
                | exact go_end rfl rfl rfl rfl
                | refine go_add rfl ?_
                | refine go_mul rfl ?_
                | refine go_sub rfl (by omega) ?_
                | refine go_inc rfl rfl rfl rfl rfl ?_
                | refine go_dec rfl rfl rfl (by omega) rfl rfl ?_
                | refine go_div rfl (by omega) ?_
                | refine go_rem rfl (by omega) ?_
                | refine go_ci rfl rfl rfl rfl rfl G4 ?_
                | refine go_icT rfl (by dsimp only [ncd]; omega) ?_
                | refine go_icF rfl (by dsimp only [ncd]; omega) ?_
                | refine go_ifT rfl (by dsimp only [ncd]; omega) ?_
                | refine go_ifF rfl (by dsimp only [ncd]; omega) ?_
                | refine go_ift rfl (by decide) ?_
                | refine go_s rfl ?_
                )
          · by_cases e3 : z ∈ l
            · have hi : z ∈ l := e3
              have hz : z ≠ 1865 := e2
              have hc : z ∈ l ∧ ¬ (q = 0 ∧ z = R0) := ⟨e3, fun w => e2 w.2⟩
              rw [if_pos hi, if_pos hc]
              refine ⟨A3, nI (addv l z).length, K3, ?_⟩
              repeat (first
                | exact go_ret rfl rfl rfl rfl
                | exact go_end rfl rfl rfl rfl
                | refine go_add rfl ?_
                | refine go_mul rfl ?_
                | refine go_sub rfl (by omega) ?_
                | refine go_inc rfl rfl rfl rfl rfl ?_
                | refine go_dec rfl rfl rfl (by omega) rfl rfl ?_
                | refine go_div rfl (by omega) ?_
                | refine go_rem rfl (by omega) ?_
                | refine go_ci rfl rfl rfl rfl rfl G4 ?_
                | refine go_icT rfl (by dsimp only [ncd]; omega) ?_
                | refine go_icF rfl (by dsimp only [ncd]; omega) ?_
                | refine go_ifT rfl (by dsimp only [ncd]; omega) ?_
                | refine go_ifF rfl (by dsimp only [ncd]; omega) ?_
                | refine go_ift rfl (by decide) ?_
                | refine go_s rfl ?_
                )
            · have hi : ¬ z ∈ l := e3
              have hz : z ≠ 1865 := e2
              rw [if_neg hi]
              obtain ⟨A4, mk2, k4, G5⟩ := fin 1 0 (fun w => e3 w.1)
              refine ⟨A4, mk2, k4, ?_⟩
              repeat (first
                | exact G5
                | exact go_ret rfl rfl rfl rfl
                | exact go_end rfl rfl rfl rfl
                | refine go_add rfl ?_
                | refine go_mul rfl ?_
                | refine go_sub rfl (by omega) ?_
                | refine go_inc rfl rfl rfl rfl rfl ?_
                | refine go_dec rfl rfl rfl (by omega) rfl rfl ?_
                | refine go_div rfl (by omega) ?_
                | refine go_rem rfl (by omega) ?_
                | refine go_ci rfl rfl rfl rfl rfl G4 ?_
                | refine go_icT rfl (by dsimp only [ncd]; omega) ?_
                | refine go_icF rfl (by dsimp only [ncd]; omega) ?_
                | refine go_ifT rfl (by dsimp only [ncd]; omega) ?_
                | refine go_ifF rfl (by dsimp only [ncd]; omega) ?_
                | refine go_ift rfl (by decide) ?_
                | refine go_s rfl ?_
                )
        · by_cases e2 : z = R0
          · by_cases e3 : z ∈ l
            · have hi : z ∈ l := e3
              have hz : z = 1865 := e2
              have hc : z ∈ l ∧ ¬ (q = 0 ∧ z = R0) := ⟨e3, fun w => e1 w.1⟩
              rw [if_pos hi, if_pos hc]
              refine ⟨A3, nI (addv l z).length, K3, ?_⟩
              repeat (first
                | exact go_ret rfl rfl rfl rfl
                | exact go_end rfl rfl rfl rfl
                | refine go_add rfl ?_
                | refine go_mul rfl ?_
                | refine go_sub rfl (by omega) ?_
                | refine go_inc rfl rfl rfl rfl rfl ?_
                | refine go_dec rfl rfl rfl (by omega) rfl rfl ?_
                | refine go_div rfl (by omega) ?_
                | refine go_rem rfl (by omega) ?_
                | refine go_ci rfl rfl rfl rfl rfl G4 ?_
                | refine go_icT rfl (by dsimp only [ncd]; omega) ?_
                | refine go_icF rfl (by dsimp only [ncd]; omega) ?_
                | refine go_ifT rfl (by dsimp only [ncd]; omega) ?_
                | refine go_ifF rfl (by dsimp only [ncd]; omega) ?_
                | refine go_ift rfl (by decide) ?_
                | refine go_s rfl ?_
                )
            · have hi : ¬ z ∈ l := e3
              have hz : z = 1865 := e2
              rw [if_neg hi]
              obtain ⟨A4, mk2, k4, G5⟩ := fin 1 0 (fun w => e3 w.1)
              refine ⟨A4, mk2, k4, ?_⟩
              repeat (first
                | exact G5
                | exact go_ret rfl rfl rfl rfl
                | exact go_end rfl rfl rfl rfl
                | refine go_add rfl ?_
                | refine go_mul rfl ?_
                | refine go_sub rfl (by omega) ?_
                | refine go_inc rfl rfl rfl rfl rfl ?_
                | refine go_dec rfl rfl rfl (by omega) rfl rfl ?_
                | refine go_div rfl (by omega) ?_
                | refine go_rem rfl (by omega) ?_
                | refine go_ci rfl rfl rfl rfl rfl G4 ?_
                | refine go_icT rfl (by dsimp only [ncd]; omega) ?_
                | refine go_icF rfl (by dsimp only [ncd]; omega) ?_
                | refine go_ifT rfl (by dsimp only [ncd]; omega) ?_
                | refine go_ifF rfl (by dsimp only [ncd]; omega) ?_
                | refine go_ift rfl (by decide) ?_
                | refine go_s rfl ?_
                )
          · by_cases e3 : z ∈ l
            · have hi : z ∈ l := e3
              have hz : z ≠ 1865 := e2
              have hc : z ∈ l ∧ ¬ (q = 0 ∧ z = R0) := ⟨e3, fun w => e1 w.1⟩
              rw [if_pos hi, if_pos hc]
              refine ⟨A3, nI (addv l z).length, K3, ?_⟩
              repeat (first
                | exact go_ret rfl rfl rfl rfl
                | exact go_end rfl rfl rfl rfl
                | refine go_add rfl ?_
                | refine go_mul rfl ?_
                | refine go_sub rfl (by omega) ?_
                | refine go_inc rfl rfl rfl rfl rfl ?_
                | refine go_dec rfl rfl rfl (by omega) rfl rfl ?_
                | refine go_div rfl (by omega) ?_
                | refine go_rem rfl (by omega) ?_
                | refine go_ci rfl rfl rfl rfl rfl G4 ?_
                | refine go_icT rfl (by dsimp only [ncd]; omega) ?_
                | refine go_icF rfl (by dsimp only [ncd]; omega) ?_
                | refine go_ifT rfl (by dsimp only [ncd]; omega) ?_
                | refine go_ifF rfl (by dsimp only [ncd]; omega) ?_
                | refine go_ift rfl (by decide) ?_
                | refine go_s rfl ?_
                )
            · have hi : ¬ z ∈ l := e3
              have hz : z ≠ 1865 := e2
              rw [if_neg hi]
              obtain ⟨A4, mk2, k4, G5⟩ := fin 1 0 (fun w => e3 w.1)
              refine ⟨A4, mk2, k4, ?_⟩
              repeat (first
                | exact G5
                | exact go_ret rfl rfl rfl rfl
                | exact go_end rfl rfl rfl rfl
                | refine go_add rfl ?_
                | refine go_mul rfl ?_
                | refine go_sub rfl (by omega) ?_
                | refine go_inc rfl rfl rfl rfl rfl ?_
                | refine go_dec rfl rfl rfl (by omega) rfl rfl ?_
                | refine go_div rfl (by omega) ?_
                | refine go_rem rfl (by omega) ?_
                | refine go_ci rfl rfl rfl rfl rfl G4 ?_
                | refine go_icT rfl (by dsimp only [ncd]; omega) ?_
                | refine go_icF rfl (by dsimp only [ncd]; omega) ?_
                | refine go_ifT rfl (by dsimp only [ncd]; omega) ?_
                | refine go_ifF rfl (by dsimp only [ncd]; omega) ?_
                | refine go_ift rfl (by decide) ?_
                | refine go_s rfl ?_
                )
    rcases hL with rfl | ⟨y, z2, rfl⟩
    · obtain ⟨A4, mk2, k4, G5⟩ := hend [] (Or.inl rfl)
      refine ⟨A4, mk2, k4, hL2 _ ?_⟩
      refine go_s rfl ?_
      exact G5
    · obtain ⟨A4, mk2, k4, G5⟩ := hend [(5, .int z2)] (Or.inr ⟨_, rfl⟩)
      refine ⟨A4, mk2, k4, hL2 _ ?_⟩
      refine go_s rfl ?_
      exact G5
theorem m_isTrue {A : Nat → Nat → Int32} (hC : CP A n ps m len pr) {p : Nat} (hp : p < m) : ∃ A2 mk2, keep A A2 ∧ Go X (fu + 2) mX3_isTrue (0, [(0, .ref 0), (1, .int (nI p))], [], (cc A (nI n) (nI m) ch wf rd mo sm mk ++ R, e)) (.inl (some (.int (nI (tr ps (pr p) (len p) 0 R0 [R0])))), (cc A2 (nI n) (nI m) ch wf rd mo sm mk2 ++ R, e)) := by
  have hm := hC.2.1
  have h17 := hC.2.2.2.1
  obtain ⟨A1, k1, hM1, G1⟩ := c_clear (X := X) (fu := fu) (e := e) (A := A) (ch := ch) (wf := wf) (rd := rd) (mo := mo) (sm := sm) (mk := mk) (R := R) (n := n) (m := m)
  obtain ⟨A2, k2, hx2, G2⟩ := c_toRounds (X := X) (fu := fu + 1) (e := e) (A := A1) (rc := nI n) (pc := nI m) (ch := ch) (wf := wf) (rd := rd) (mo := mo) (sm := sm) (mk := nI 0) (R := R) rw_trial
  have hM2 : MK A2 [] := fun y hy => by rw [k2 35 (by omega) (by omega)]; exact hM1 y hy
  obtain ⟨A3, k3, hM3, G3⟩ := c_mark (X := X) (fu := fu) (e := e) (ch := ch) (wf := wf) (rd := rd) (mo := mo) (sm := sm) (R := R) (n := n) (m := m) hM2 hx2 R0_row
  have hx3 : rw6 (A3 32) R0 := by rw [k3 32 (by omega)]; exact hx2
  have K3 : keep A A3 := keep_t (keep_3 k1) (keep_t (keep_o 32 33 k2 (by omega)) (keep_3 k3))
  obtain ⟨A4, mk2, k4, G4⟩ := true_loop (X := X) (fu := fu) (e := e) (ch := ch) (wf := wf) (rd := rd) (mo := mo) (sm := sm) (R := R) (n := n) (m := m) hp (len p) 0 R0 [R0] A3 [] (Or.inl rfl) (CP_k hC K3) (by omega) hx3 R0_row hM3
  refine ⟨A4, mk2, keep_t K3 k4, ?_⟩
  repeat (first
    | exact G4
    | exact go_ret rfl rfl rfl rfl
    | exact go_end rfl rfl rfl rfl
    | refine go_add rfl ?_
    | refine go_mul rfl ?_
    | refine go_sub rfl (by omega) ?_
    | refine go_inc rfl rfl rfl rfl rfl ?_
    | refine go_dec rfl rfl rfl (by omega) rfl rfl ?_
    | refine go_ial rfl rfl (by first | omega | exact ⟨dg_lt _ _, by omega⟩) (h17 _ (by first | omega | exact dg_lt _ _)) ?_
    | refine go_div rfl (by omega) ?_
    | refine go_rem rfl (by omega) ?_
    | refine go_cn rfl rfl rfl rfl rfl G1 ?_
    | refine go_cn rfl rfl rfl rfl rfl G2 ?_
    | refine go_ci rfl rfl rfl rfl rfl G3 ?_
    | refine go_icT rfl (by dsimp only [ncd]; omega) ?_
    | refine go_icF rfl (by dsimp only [ncd]; omega) ?_
    | refine go_ifT rfl (by dsimp only [ncd]; omega) ?_
    | refine go_ifF rfl (by dsimp only [ncd]; omega) ?_
    | refine go_ift rfl (by decide) ?_
    | refine go_s rfl ?_
    )
theorem dr_in {p ti : Nat} {tt : Nat} (hp : p < m) :
    ∀ (q k x : Nat) (l : List Nat) (A : Nat → Nat → Int32), CP A n ps m len pr → k + q = len p → rw6 (A 32) x → isRow x → MK A l →
    ∃ A2, keep A A2 ∧ rw6 (A2 32) (vs (fun k => ps (pr p k)) q k x l).1 ∧ MK A2 (vs (fun k => ps (pr p k)) q k x l).2 ∧ ∀ oo, Go X (fu + 2) mX3_differentRows (90, [(0, .ref 0), (1, .int (nI p)), (2, .int (nI tt)), (3, .int (nI (len p))), (4, .int (nI ti)), (5, .int (nI (len p)))], [], (cc A2 (nI n) (nI m) ch wf rd mo sm (nI (vs (fun k => ps (pr p k)) q k x l).2.length) ++ R, e)) oo → Go X (fu + 2) mX3_differentRows (45, [(0, .ref 0), (1, .int (nI p)), (2, .int (nI tt)), (3, .int (nI (len p))), (4, .int (nI ti)), (5, .int (nI k))], [], (cc A (nI n) (nI m) ch wf rd mo sm (nI l.length) ++ R, e)) oo := by
  intro q
  induction q with
  | zero =>
    intro k x l A hC hk hx ix hM
    have hm := hC.2.1
    obtain ⟨l1, l2, l3⟩ := hC.2.2.2.2 p (by omega)
    obtain rfl : k = len p := by omega
    refine ⟨A, keep_r A, hx, hM, fun oo K => ?_⟩
    repeat (first
      | exact K
      | exact go_ret rfl rfl rfl rfl
      | exact go_end rfl rfl rfl rfl
      | refine go_add rfl ?_
      | refine go_mul rfl ?_
      | refine go_sub rfl (by omega) ?_
      | refine go_inc rfl rfl rfl rfl rfl ?_
      | refine go_dec rfl rfl rfl (by omega) rfl rfl ?_
      | refine go_div rfl (by omega) ?_
      | refine go_rem rfl (by omega) ?_
      | refine go_icT rfl (by dsimp only [ncd]; omega) ?_
      | refine go_icF rfl (by dsimp only [ncd]; omega) ?_
      | refine go_ifT rfl (by dsimp only [ncd]; omega) ?_
      | refine go_ifF rfl (by dsimp only [ncd]; omega) ?_
      | refine go_ift rfl (by decide) ?_
      | refine go_s rfl ?_
      )
  | succ q ih =>
    intro k x l A hC hk hx ix hM
    have hm := hC.2.1
    have hn := hC.1
    obtain ⟨l1, l2, l3⟩ := hC.2.2.2.2 p (by omega)
    have l4 := l3 k (by omega)
    have hq := hC.2.2.1 _ l4
    obtain ⟨A2, k2, hx2, G⟩ := c_change (X := X) (fu := fu) (e := e) (rc := nI n) (pc := nI m) (ch := ch) (wf := wf) (rd := rd) (mo := mo) (sm := sm) (mk := nI l.length) (R := R) rw_trial hx (i := pr p k) (by omega) hq.1 hq.2
    have ix2 := rng_row ix hq.2
    have hM2 : MK A2 l := fun y hy => by rw [k2 35 (by omega) (by omega)]; exact hM y hy
    obtain ⟨A3, k3, hM3, G3⟩ := c_mark (X := X) (fu := fu) (e := e) (ch := ch) (wf := wf) (rd := rd) (mo := mo) (sm := sm) (R := R) (n := n) (m := m) hM2 hx2 ix2
    have hx3 : rw6 (A3 32) (rng x (ps (pr p k))) := by rw [k3 32 (by omega)]; exact hx2
    have K3 : keep A A3 := keep_t (keep_o 32 33 k2 (by omega)) (keep_3 k3)
    obtain ⟨A4, k4, hx4, hM4, G5⟩ := ih (k + 1) _ _ A3 (CP_k hC K3) (by omega) hx3 ix2 hM3
    refine ⟨A4, keep_t K3 k4, hx4, hM4, fun oo K => ?_⟩
    have G6 := G5 oo K
    repeat (first
      | exact G6
      | exact go_ret rfl rfl rfl rfl
      | exact go_end rfl rfl rfl rfl
      | refine go_add rfl ?_
      | refine go_mul rfl ?_
      | refine go_sub rfl (by omega) ?_
      | refine go_inc rfl rfl rfl rfl rfl ?_
      | refine go_dec rfl rfl rfl (by omega) rfl rfl ?_
      | refine go_ial rfl (cc_q p (by omega)) (by first | omega | exact ⟨dg_lt _ _, by omega⟩) (l2 _ (by first | omega | exact dg_lt _ _)) ?_
      | refine go_aal rfl rfl (by omega) (gP_s (by omega)) ?_
      | refine go_aal rfl rfl (by omega) (gQ_s (by omega)) ?_
      | refine go_div rfl (by omega) ?_
      | refine go_rem rfl (by omega) ?_
      | refine go_cn rfl rfl rfl rfl rfl G ?_
      | refine go_ci rfl rfl rfl rfl rfl G3 ?_
      | refine go_icT rfl (by dsimp only [ncd]; omega) ?_
      | refine go_icF rfl (by dsimp only [ncd]; omega) ?_
      | refine go_ifT rfl (by dsimp only [ncd]; omega) ?_
      | refine go_ifF rfl (by dsimp only [ncd]; omega) ?_
      | refine go_ift rfl (by decide) ?_
      | refine go_s rfl ?_
      )
theorem dr_loop {p tt : Nat} (hp : p < m) (ht : tt < 1000) :
    ∀ (q k x : Nat) (l : List Nat) (A : Nat → Nat → Int32) (L : List (Nat × Value)), (L = [] ∨ ∃ y : Nat, L = [(5, .int (nI y))]) → CP A n ps m len pr → k + q = tt → rw6 (A 32) x → isRow x → MK A l →
    ∃ A2 mk2, keep A A2 ∧ Go X (fu + 2) mX3_differentRows (36, [(0, .ref 0), (1, .int (nI p)), (2, .int (nI tt)), (3, .int (nI (len p))), (4, .int (nI k))] ++ L, [], (cc A (nI n) (nI m) ch wf rd mo sm (nI l.length) ++ R, e)) (.inl (some (.int (nI (vo (fun k => ps (pr p k)) (len p) q x l).2.length))), (cc A2 (nI n) (nI m) ch wf rd mo sm mk2 ++ R, e)) := by
  intro q
  induction q with
  | zero =>
    intro k x l A L hL hC hk hx ix hM
    obtain rfl : k = tt := by omega
    refine ⟨A, nI l.length, keep_r A, ?_⟩
    rcases hL with rfl | ⟨y, rfl⟩
    · show Go X (fu + 2) mX3_differentRows (36, [(0, .ref 0), (1, .int (nI p)), (2, .int (nI k)), (3, .int (nI (len p))), (4, .int (nI k))], [], _) _
      repeat (first
        | exact go_ret rfl rfl rfl rfl
        | exact go_end rfl rfl rfl rfl
        | refine go_add rfl ?_
        | refine go_mul rfl ?_
        | refine go_sub rfl (by omega) ?_
        | refine go_inc rfl rfl rfl rfl rfl ?_
        | refine go_dec rfl rfl rfl (by omega) rfl rfl ?_
        | refine go_div rfl (by omega) ?_
        | refine go_rem rfl (by omega) ?_
        | refine go_icT rfl (by dsimp only [ncd]; omega) ?_
        | refine go_icF rfl (by dsimp only [ncd]; omega) ?_
        | refine go_ifT rfl (by dsimp only [ncd]; omega) ?_
        | refine go_ifF rfl (by dsimp only [ncd]; omega) ?_
        | refine go_ift rfl (by decide) ?_
        | refine go_s rfl ?_
        )
    · show Go X (fu + 2) mX3_differentRows (36, [(0, .ref 0), (1, .int (nI p)), (2, .int (nI k)), (3, .int (nI (len p))), (4, .int (nI k)), (5, .int (nI y))], [], _) _
      repeat (first
        | exact go_ret rfl rfl rfl rfl
        | exact go_end rfl rfl rfl rfl
        | refine go_add rfl ?_
        | refine go_mul rfl ?_
        | refine go_sub rfl (by omega) ?_
        | refine go_inc rfl rfl rfl rfl rfl ?_
        | refine go_dec rfl rfl rfl (by omega) rfl rfl ?_
        | refine go_div rfl (by omega) ?_
        | refine go_rem rfl (by omega) ?_
        | refine go_icT rfl (by dsimp only [ncd]; omega) ?_
        | refine go_icF rfl (by dsimp only [ncd]; omega) ?_
        | refine go_ifT rfl (by dsimp only [ncd]; omega) ?_
        | refine go_ifF rfl (by dsimp only [ncd]; omega) ?_
        | refine go_ift rfl (by decide) ?_
        | refine go_s rfl ?_
        )
  | succ q ih =>
    intro k x l A L hL hC hk hx ix hM
    have ro := peal_rows hC hp
    obtain ⟨A2, k2, hx2, hM2, G⟩ := dr_in (X := X) (fu := fu) (e := e) (ch := ch) (wf := wf) (rd := rd) (mo := mo) (sm := sm) (R := R) (n := n) (m := m) (ti := k) (tt := tt) hp (len p) 0 x l A hC (by omega) hx ix hM
    obtain ⟨A3, mk3, k3, G3⟩ := ih (k + 1) _ _ A2 [(5, .int (nI (len p)))] (Or.inr ⟨_, rfl⟩) (CP_k hC k2) (by omega) hx2 (vs_row (len p) 0 x l ro ix) hM2
    refine ⟨A3, mk3, keep_t k2 k3, ?_⟩
    have G4 := G (.inl (some (.int (nI (vo (fun k => ps (pr p k)) (len p) (q + 1) x l).2.length))), (cc A3 (nI n) (nI m) ch wf rd mo sm mk3 ++ R, e)) (by
      repeat (first
        | exact G3
        | exact go_ret rfl rfl rfl rfl
        | exact go_end rfl rfl rfl rfl
        | refine go_add rfl ?_
        | refine go_mul rfl ?_
        | refine go_sub rfl (by omega) ?_
        | refine go_inc rfl rfl rfl rfl rfl ?_
        | refine go_dec rfl rfl rfl (by omega) rfl rfl ?_
        | refine go_div rfl (by omega) ?_
        | refine go_rem rfl (by omega) ?_
        | refine go_icT rfl (by dsimp only [ncd]; omega) ?_
        | refine go_icF rfl (by dsimp only [ncd]; omega) ?_
        | refine go_ifT rfl (by dsimp only [ncd]; omega) ?_
        | refine go_ifF rfl (by dsimp only [ncd]; omega) ?_
        | refine go_ift rfl (by decide) ?_
        | refine go_s rfl ?_
        ))
    rcases hL with rfl | ⟨y, rfl⟩
    · show Go X (fu + 2) mX3_differentRows (36, [(0, .ref 0), (1, .int (nI p)), (2, .int (nI tt)), (3, .int (nI (len p))), (4, .int (nI k))], [], _) _
      repeat (first
        | exact G4
        | exact go_ret rfl rfl rfl rfl
        | exact go_end rfl rfl rfl rfl
        | refine go_add rfl ?_
        | refine go_mul rfl ?_
        | refine go_sub rfl (by omega) ?_
        | refine go_inc rfl rfl rfl rfl rfl ?_
        | refine go_dec rfl rfl rfl (by omega) rfl rfl ?_
        | refine go_div rfl (by omega) ?_
        | refine go_rem rfl (by omega) ?_
        | refine go_icT rfl (by dsimp only [ncd]; omega) ?_
        | refine go_icF rfl (by dsimp only [ncd]; omega) ?_
        | refine go_ifT rfl (by dsimp only [ncd]; omega) ?_
        | refine go_ifF rfl (by dsimp only [ncd]; omega) ?_
        | refine go_ift rfl (by decide) ?_
        | refine go_s rfl ?_
        )
    · show Go X (fu + 2) mX3_differentRows (36, [(0, .ref 0), (1, .int (nI p)), (2, .int (nI tt)), (3, .int (nI (len p))), (4, .int (nI k)), (5, .int (nI y))], [], _) _
      repeat (first
        | exact G4
        | exact go_ret rfl rfl rfl rfl
        | exact go_end rfl rfl rfl rfl
        | refine go_add rfl ?_
        | refine go_mul rfl ?_
        | refine go_sub rfl (by omega) ?_
        | refine go_inc rfl rfl rfl rfl rfl ?_
        | refine go_dec rfl rfl rfl (by omega) rfl rfl ?_
        | refine go_div rfl (by omega) ?_
        | refine go_rem rfl (by omega) ?_
        | refine go_icT rfl (by dsimp only [ncd]; omega) ?_
        | refine go_icF rfl (by dsimp only [ncd]; omega) ?_
        | refine go_ifT rfl (by dsimp only [ncd]; omega) ?_
        | refine go_ifF rfl (by dsimp only [ncd]; omega) ?_
        | refine go_ift rfl (by decide) ?_
        | refine go_s rfl ?_
        )
theorem m_differentRows {A : Nat → Nat → Int32} (hC : CP A n ps m len pr) {p tt : Nat} (hp : p < m) (ht : tt < 1000) : ∃ A2 mk2, keep A A2 ∧ Go X (fu + 2) mX3_differentRows (0, [(0, .ref 0), (1, .int (nI p)), (2, .int (nI tt))], [], (cc A (nI n) (nI m) ch wf rd mo sm mk ++ R, e)) (.inl (some (.int (nI (vo (fun k => ps (pr p k)) (len p) tt R0 [R0]).2.length))), (cc A2 (nI n) (nI m) ch wf rd mo sm mk2 ++ R, e)) := by
  have hm := hC.2.1
  have h17 := hC.2.2.2.1
  obtain ⟨A1, k1, hM1, G1⟩ := c_clear (X := X) (fu := fu) (e := e) (A := A) (ch := ch) (wf := wf) (rd := rd) (mo := mo) (sm := sm) (mk := mk) (R := R) (n := n) (m := m)
  obtain ⟨A2, k2, hx2, G2⟩ := c_toRounds (X := X) (fu := fu + 1) (e := e) (A := A1) (rc := nI n) (pc := nI m) (ch := ch) (wf := wf) (rd := rd) (mo := mo) (sm := sm) (mk := nI 0) (R := R) rw_trial
  have hM2 : MK A2 [] := fun y hy => by rw [k2 35 (by omega) (by omega)]; exact hM1 y hy
  obtain ⟨A3, k3, hM3, G3⟩ := c_mark (X := X) (fu := fu) (e := e) (ch := ch) (wf := wf) (rd := rd) (mo := mo) (sm := sm) (R := R) (n := n) (m := m) hM2 hx2 R0_row
  have hx3 : rw6 (A3 32) R0 := by rw [k3 32 (by omega)]; exact hx2
  have K3 : keep A A3 := keep_t (keep_3 k1) (keep_t (keep_o 32 33 k2 (by omega)) (keep_3 k3))
  obtain ⟨A4, mk2, k4, G4⟩ := dr_loop (X := X) (fu := fu) (e := e) (ch := ch) (wf := wf) (rd := rd) (mo := mo) (sm := sm) (R := R) (n := n) (m := m) hp ht tt 0 R0 [R0] A3 [] (Or.inl rfl) (CP_k hC K3) (by omega) hx3 R0_row hM3
  refine ⟨A4, mk2, keep_t K3 k4, ?_⟩
  repeat (first
    | exact G4
    | exact go_ret rfl rfl rfl rfl
    | exact go_end rfl rfl rfl rfl
    | refine go_add rfl ?_
    | refine go_mul rfl ?_
    | refine go_sub rfl (by omega) ?_
    | refine go_inc rfl rfl rfl rfl rfl ?_
    | refine go_dec rfl rfl rfl (by omega) rfl rfl ?_
    | refine go_ial rfl rfl (by first | omega | exact ⟨dg_lt _ _, by omega⟩) (h17 _ (by first | omega | exact dg_lt _ _)) ?_
    | refine go_div rfl (by omega) ?_
    | refine go_rem rfl (by omega) ?_
    | refine go_cn rfl rfl rfl rfl rfl G1 ?_
    | refine go_cn rfl rfl rfl rfl rfl G2 ?_
    | refine go_ci rfl rfl rfl rfl rfl G3 ?_
    | refine go_icT rfl (by dsimp only [ncd]; omega) ?_
    | refine go_icF rfl (by dsimp only [ncd]; omega) ?_
    | refine go_ifT rfl (by dsimp only [ncd]; omega) ?_
    | refine go_ifF rfl (by dsimp only [ncd]; omega) ?_
    | refine go_ift rfl (by decide) ?_
    | refine go_s rfl ?_
    )
theorem tr_le (ps pr : Nat → Nat) : ∀ (q k x : Nat) (l : List Nat), tr ps pr q k x l ≤ 1 := by
  intro q
  induction q with
  | zero => intro k x l; exact Nat.le_refl 1
  | succ q ih =>
    intro k x l
    rw [tr]
    split
    · exact Nat.zero_le 1
    · exact ih _ _ _
theorem m_factOfPeal {A : Nat → Nat → Int32} (hC : CP A n ps m len pr) {p w : Nat} (hp : p < m) (hw : w < 5) : ∃ A2 mk2, keep A A2 ∧ Go X (fu + 4) mX3_factOfPeal (0, [(0, .ref 0), (1, .int (nI p)), (2, .int (nI w))], [], (cc A (nI n) (nI m) ch wf rd mo sm mk ++ R, e)) (.inl (some (.int (fP ps len pr p w))), (cc A2 (nI n) (nI m) ch wf rd mo sm mk2 ++ R, e)) := by
  have hm := hC.2.1
  have h17 := hC.2.2.2.1
  have ro := peal_rows hC hp
  have ip := peal_row (len p) 0 R0 ro R0_row
  rcases (show w = 0 ∨ w = 1 ∨ w = 2 ∨ w = 3 ∨ w = 4 by omega) with rfl | rfl | rfl | rfl | rfl
  · refine ⟨A, mk, keep_r A, ?_⟩
    repeat (first
      | exact go_ret rfl rfl rfl rfl
      | exact go_end rfl rfl rfl rfl
      | refine go_add rfl ?_
      | refine go_mul rfl ?_
      | refine go_sub rfl (by omega) ?_
      | refine go_inc rfl rfl rfl rfl rfl ?_
      | refine go_dec rfl rfl rfl (by omega) rfl rfl ?_
      | refine go_ial rfl rfl (by first | omega | exact ⟨dg_lt _ _, by omega⟩) (h17 _ (by first | omega | exact dg_lt _ _)) ?_
      | refine go_div rfl (by omega) ?_
      | refine go_rem rfl (by omega) ?_
      | refine go_icT rfl (by dsimp only [ncd]; omega) ?_
      | refine go_icF rfl (by dsimp only [ncd]; omega) ?_
      | refine go_ifT rfl (by dsimp only [ncd]; omega) ?_
      | refine go_ifF rfl (by dsimp only [ncd]; omega) ?_
      | refine go_ift rfl (by decide) ?_
      | refine go_s rfl ?_
      )
  · obtain ⟨A1, k1, hx1, G1⟩ := c_toRounds (X := X) (fu := fu + 3) (e := e) (A := A) (rc := nI n) (pc := nI m) (ch := ch) (wf := wf) (rd := rd) (mo := mo) (sm := sm) (mk := mk) (R := R) rw_trial
    obtain ⟨A2, k2, hx2, G2⟩ := m_ringPealOn (X := X) (fu := fu + 1) (e := e) (ch := ch) (wf := wf) (rd := rd) (mo := mo) (sm := sm) (mk := mk) (R := R) rw_trial (CP_k hC (keep_o 32 33 k1 (by omega))) hp hx1 R0_row
    have G3 := c_code (X := X) (fu := fu + 3) (e := e) (rc := nI n) (pc := nI m) (ch := ch) (wf := wf) (rd := rd) (mo := mo) (sm := sm) (mk := mk) (R := R) rw_trial hx2 ip
    refine ⟨A2, mk, keep_t (keep_o 32 33 k1 (by omega)) (keep_o 32 33 k2 (by omega)), ?_⟩
    repeat (first
      | exact go_ret rfl rfl rfl rfl
      | exact go_end rfl rfl rfl rfl
      | refine go_add rfl ?_
      | refine go_mul rfl ?_
      | refine go_sub rfl (by omega) ?_
      | refine go_inc rfl rfl rfl rfl rfl ?_
      | refine go_dec rfl rfl rfl (by omega) rfl rfl ?_
      | refine go_div rfl (by omega) ?_
      | refine go_rem rfl (by omega) ?_
      | refine go_cn rfl rfl rfl rfl rfl G1 ?_
      | refine go_cn rfl rfl rfl rfl rfl G2 ?_
      | refine go_ci rfl rfl rfl rfl rfl G3 ?_
      | refine go_icT rfl (by dsimp only [ncd]; omega) ?_
      | refine go_icF rfl (by dsimp only [ncd]; omega) ?_
      | refine go_ifT rfl (by dsimp only [ncd]; omega) ?_
      | refine go_ifF rfl (by dsimp only [ncd]; omega) ?_
      | refine go_ift rfl (by decide) ?_
      | refine go_s rfl ?_
      )
  · obtain ⟨A2, mk2, k2, G⟩ := m_isTrue (X := X) (fu := fu + 1) (e := e) (ch := ch) (wf := wf) (rd := rd) (mo := mo) (sm := sm) (mk := mk) (R := R) hC hp
    refine ⟨A2, mk2, k2, ?_⟩
    have h1 := tr_le ps (pr p) (len p) 0 R0 [R0]
    show Go X (fu + 4) mX3_factOfPeal _ (.inl (some (.int (nI (tr ps (pr p) (len p) 0 R0 [R0])))), _)
    generalize tr ps (pr p) (len p) 0 R0 [R0] = z at *
    by_cases e1 : z = 1
    · subst e1
      repeat (first
        | exact go_ret rfl rfl rfl rfl
        | exact go_end rfl rfl rfl rfl
        | refine go_add rfl ?_
        | refine go_mul rfl ?_
        | refine go_sub rfl (by omega) ?_
        | refine go_inc rfl rfl rfl rfl rfl ?_
        | refine go_dec rfl rfl rfl (by omega) rfl rfl ?_
        | refine go_div rfl (by omega) ?_
        | refine go_rem rfl (by omega) ?_
        | refine go_ci rfl rfl rfl rfl rfl G ?_
        | refine go_icT rfl (by dsimp only [ncd]; omega) ?_
        | refine go_icF rfl (by dsimp only [ncd]; omega) ?_
        | refine go_ifT rfl (by dsimp only [ncd]; omega) ?_
        | refine go_ifF rfl (by dsimp only [ncd]; omega) ?_
        | refine go_ift rfl (by decide) ?_
        | refine go_s rfl ?_
        )
    · obtain rfl : z = 0 := by omega
      repeat (first
        | exact go_ret rfl rfl rfl rfl
        | exact go_end rfl rfl rfl rfl
        | refine go_add rfl ?_
        | refine go_mul rfl ?_
        | refine go_sub rfl (by omega) ?_
        | refine go_inc rfl rfl rfl rfl rfl ?_
        | refine go_dec rfl rfl rfl (by omega) rfl rfl ?_
        | refine go_div rfl (by omega) ?_
        | refine go_rem rfl (by omega) ?_
        | refine go_ci rfl rfl rfl rfl rfl G ?_
        | refine go_icT rfl (by dsimp only [ncd]; omega) ?_
        | refine go_icF rfl (by dsimp only [ncd]; omega) ?_
        | refine go_ifT rfl (by dsimp only [ncd]; omega) ?_
        | refine go_ifF rfl (by dsimp only [ncd]; omega) ?_
        | refine go_ift rfl (by decide) ?_
        | refine go_s rfl ?_
        )
  · obtain ⟨A2, k2, G⟩ := m_orderOfPeal (X := X) (fu := fu) (e := e) (ch := ch) (wf := wf) (rd := rd) (mo := mo) (sm := sm) (mk := mk) (R := R) hC hp
    refine ⟨A2, mk, k2, ?_⟩
    repeat (first
      | exact go_ret rfl rfl rfl rfl
      | exact go_end rfl rfl rfl rfl
      | refine go_add rfl ?_
      | refine go_mul rfl ?_
      | refine go_sub rfl (by omega) ?_
      | refine go_inc rfl rfl rfl rfl rfl ?_
      | refine go_dec rfl rfl rfl (by omega) rfl rfl ?_
      | refine go_div rfl (by omega) ?_
      | refine go_rem rfl (by omega) ?_
      | refine go_ci rfl rfl rfl rfl rfl G ?_
      | refine go_icT rfl (by dsimp only [ncd]; omega) ?_
      | refine go_icF rfl (by dsimp only [ncd]; omega) ?_
      | refine go_ifT rfl (by dsimp only [ncd]; omega) ?_
      | refine go_ifF rfl (by dsimp only [ncd]; omega) ?_
      | refine go_ift rfl (by decide) ?_
      | refine go_s rfl ?_
      )
  · obtain ⟨A2, k2, G⟩ := m_orderOfPeal (X := X) (fu := fu) (e := e) (ch := ch) (wf := wf) (rd := rd) (mo := mo) (sm := sm) (mk := mk) (R := R) hC hp
    have o2 := (ord_ok ip).2.1
    obtain ⟨A3, mk3, k3, G3⟩ := m_differentRows (X := X) (fu := fu + 1) (e := e) (ch := ch) (wf := wf) (rd := rd) (mo := mo) (sm := sm) (mk := mk) (R := R) (CP_k hC k2) hp (tt := ord (pl ps (pr p) (len p) 0 R0)) (by omega)
    refine ⟨A3, mk3, keep_t k2 k3, ?_⟩
    repeat (first
      | exact go_ret rfl rfl rfl rfl
      | exact go_end rfl rfl rfl rfl
      | refine go_add rfl ?_
      | refine go_mul rfl ?_
      | refine go_sub rfl (by omega) ?_
      | refine go_inc rfl rfl rfl rfl rfl ?_
      | refine go_dec rfl rfl rfl (by omega) rfl rfl ?_
      | refine go_div rfl (by omega) ?_
      | refine go_rem rfl (by omega) ?_
      | refine go_ci rfl rfl rfl rfl rfl G ?_
      | refine go_ci rfl rfl rfl rfl rfl G3 ?_
      | refine go_icT rfl (by dsimp only [ncd]; omega) ?_
      | refine go_icF rfl (by dsimp only [ncd]; omega) ?_
      | refine go_ifT rfl (by dsimp only [ncd]; omega) ?_
      | refine go_ifF rfl (by dsimp only [ncd]; omega) ?_
      | refine go_ift rfl (by decide) ?_
      | refine go_s rfl ?_
      )
theorem m_countOf {A : Nat → Nat → Int32} {c w : Nat} (hx : rw6 (A 19) c) (ix : isRow c) (hw : w < 5) : Go X (fu + 1) mX3_countOf (0, [(0, .ref 0), (1, .int (nI w))], [], (cc A (nI n) (nI m) ch wf rd mo sm mk ++ R, e)) (.inl (some (.int (fC n m ch c w))), (cc A (nI n) (nI m) ch wf rd mo sm mk ++ R, e)) := by
  have G := c_code (X := X) (fu := fu) (e := e) (rc := nI n) (pc := nI m) (ch := ch) (wf := wf) (rd := rd) (mo := mo) (sm := sm) (mk := mk) (R := R) rw_row hx ix
  have G2 := m_oddness (X := X) (fu := fu) (h := (cc A (nI n) (nI m) ch wf rd mo sm mk ++ R, e)) (t := 19) rfl hx (fun _ _ => dg_lt _ _)
  rcases (show w = 0 ∨ w = 1 ∨ w = 2 ∨ w = 3 ∨ w = 4 by omega) with rfl | rfl | rfl | rfl | rfl
  · repeat (first
    | exact go_ret rfl rfl rfl rfl
    | exact go_end rfl rfl rfl rfl
    | refine go_add rfl ?_
    | refine go_mul rfl ?_
    | refine go_sub rfl (by omega) ?_
    | refine go_inc rfl rfl rfl rfl rfl ?_
    | refine go_dec rfl rfl rfl (by omega) rfl rfl ?_
    | refine go_div rfl (by omega) ?_
    | refine go_rem rfl (by omega) ?_
    | refine go_ci rfl rfl rfl rfl rfl G ?_
    | refine go_ci rfl rfl rfl rfl rfl G2 ?_
    | refine go_icT rfl (by dsimp only [ncd]; omega) ?_
    | refine go_icF rfl (by dsimp only [ncd]; omega) ?_
    | refine go_ifT rfl (by dsimp only [ncd]; omega) ?_
    | refine go_ifF rfl (by dsimp only [ncd]; omega) ?_
    | refine go_ift rfl (by decide) ?_
    | refine go_s rfl ?_
    )
  · repeat (first
    | exact go_ret rfl rfl rfl rfl
    | exact go_end rfl rfl rfl rfl
    | refine go_add rfl ?_
    | refine go_mul rfl ?_
    | refine go_sub rfl (by omega) ?_
    | refine go_inc rfl rfl rfl rfl rfl ?_
    | refine go_dec rfl rfl rfl (by omega) rfl rfl ?_
    | refine go_div rfl (by omega) ?_
    | refine go_rem rfl (by omega) ?_
    | refine go_ci rfl rfl rfl rfl rfl G ?_
    | refine go_ci rfl rfl rfl rfl rfl G2 ?_
    | refine go_icT rfl (by dsimp only [ncd]; omega) ?_
    | refine go_icF rfl (by dsimp only [ncd]; omega) ?_
    | refine go_ifT rfl (by dsimp only [ncd]; omega) ?_
    | refine go_ifF rfl (by dsimp only [ncd]; omega) ?_
    | refine go_ift rfl (by decide) ?_
    | refine go_s rfl ?_
    )
  · repeat (first
    | exact go_ret rfl rfl rfl rfl
    | exact go_end rfl rfl rfl rfl
    | refine go_add rfl ?_
    | refine go_mul rfl ?_
    | refine go_sub rfl (by omega) ?_
    | refine go_inc rfl rfl rfl rfl rfl ?_
    | refine go_dec rfl rfl rfl (by omega) rfl rfl ?_
    | refine go_div rfl (by omega) ?_
    | refine go_rem rfl (by omega) ?_
    | refine go_ci rfl rfl rfl rfl rfl G ?_
    | refine go_ci rfl rfl rfl rfl rfl G2 ?_
    | refine go_icT rfl (by dsimp only [ncd]; omega) ?_
    | refine go_icF rfl (by dsimp only [ncd]; omega) ?_
    | refine go_ifT rfl (by dsimp only [ncd]; omega) ?_
    | refine go_ifF rfl (by dsimp only [ncd]; omega) ?_
    | refine go_ift rfl (by decide) ?_
    | refine go_s rfl ?_
    )
  · repeat (first
    | exact go_ret rfl rfl rfl rfl
    | exact go_end rfl rfl rfl rfl
    | refine go_add rfl ?_
    | refine go_mul rfl ?_
    | refine go_sub rfl (by omega) ?_
    | refine go_inc rfl rfl rfl rfl rfl ?_
    | refine go_dec rfl rfl rfl (by omega) rfl rfl ?_
    | refine go_div rfl (by omega) ?_
    | refine go_rem rfl (by omega) ?_
    | refine go_ci rfl rfl rfl rfl rfl G ?_
    | refine go_ci rfl rfl rfl rfl rfl G2 ?_
    | refine go_icT rfl (by dsimp only [ncd]; omega) ?_
    | refine go_icF rfl (by dsimp only [ncd]; omega) ?_
    | refine go_ifT rfl (by dsimp only [ncd]; omega) ?_
    | refine go_ifF rfl (by dsimp only [ncd]; omega) ?_
    | refine go_ift rfl (by decide) ?_
    | refine go_s rfl ?_
    )
  · repeat (first
    | exact go_ret rfl rfl rfl rfl
    | exact go_end rfl rfl rfl rfl
    | refine go_add rfl ?_
    | refine go_mul rfl ?_
    | refine go_sub rfl (by omega) ?_
    | refine go_inc rfl rfl rfl rfl rfl ?_
    | refine go_dec rfl rfl rfl (by omega) rfl rfl ?_
    | refine go_div rfl (by omega) ?_
    | refine go_rem rfl (by omega) ?_
    | refine go_ci rfl rfl rfl rfl rfl G ?_
    | refine go_ci rfl rfl rfl rfl rfl G2 ?_
    | refine go_icT rfl (by dsimp only [ncd]; omega) ?_
    | refine go_icF rfl (by dsimp only [ncd]; omega) ?_
    | refine go_ifT rfl (by dsimp only [ncd]; omega) ?_
    | refine go_ifF rfl (by dsimp only [ncd]; omega) ?_
    | refine go_ift rfl (by decide) ?_
    | refine go_s rfl ?_
    )
/-! the digest -/
def lpl (F : Nat → Int32) : Nat → Nat → Int64 → Int64
  | 0, _, d => d
  | q + 1, k, d => lpl F q (k + 1) (d * lN 31 + (F k).toInt64)
def lpg (F : Nat → Int64 → Int64) : Nat → Nat → Int64 → Int64
  | 0, _, d => d
  | q + 1, k, d => lpg F q (k + 1) (F k d)
def dgR (n : Nat) (ps : Nat → Nat) (r : Nat) (d : Int64) : Int64 := lpl (fR n ps r) 5 0 (lpl (fun k => nI (dg (ps r) k)) 6 0 d)
def dgP (ps len : Nat → Nat) (pr : Nat → Nat → Nat) (p : Nat) (d : Int64) : Int64 := lpl (fun i => nI (pr p i)) (len p) 0 (lpl (fP ps len pr p) 5 0 d)
def dgA (n : Nat) (ps : Nat → Nat) (m : Nat) (len : Nat → Nat) (pr : Nat → Nat → Nat) (ch : Int32) (c : Nat) : Int64 :=
  lpg (dgP ps len pr) m 0 (lpg (dgR n ps) n 0 (lpl (fC n m ch c) 5 0 (lN 1123)))
theorem dgR1_loop {A : Nat → Nat → Int32} (hC : CP A n ps m len pr) {r : Nat} (hr : r < n) {d0 : Int64} {oo : zOut} :
    ∀ (q k : Nat) (d : Int64), k + q = 6 → Go X fu mX3_digestWithRule (38, [(0, .ref 0), (1, .long d0), (3, .int (nI r)), (4, .long (lpl (fun k => nI (dg (ps r) k)) q k d)), (6, .int (nI 6))], [], (cc A (nI n) (nI m) ch wf rd mo sm mk ++ R, e)) oo → Go X fu mX3_digestWithRule (6, [(0, .ref 0), (1, .long d0), (3, .int (nI r)), (4, .long d), (6, .int (nI k))], [], (cc A (nI n) (nI m) ch wf rd mo sm mk ++ R, e)) oo := by
  have hn := hC.1
  have hq := hC.2.2.1 r hr
  intro q
  induction q with
  | zero =>
    intro k d hk K
    obtain rfl : k = 6 := by omega
    repeat (first
      | exact K
      | exact go_ret rfl rfl rfl rfl
      | exact go_end rfl rfl rfl rfl
      | refine go_add rfl ?_
      | refine go_mul rfl ?_
      | refine go_sub rfl (by omega) ?_
      | refine go_inc rfl rfl rfl rfl rfl ?_
      | refine go_dec rfl rfl rfl (by omega) rfl rfl ?_
      | refine go_div rfl (by omega) ?_
      | refine go_rem rfl (by omega) ?_
      | refine go_icT rfl (by dsimp only [ncd]; omega) ?_
      | refine go_icF rfl (by dsimp only [ncd]; omega) ?_
      | refine go_ifT rfl (by dsimp only [ncd]; omega) ?_
      | refine go_ifF rfl (by dsimp only [ncd]; omega) ?_
      | refine go_ift rfl (by decide) ?_
      | refine go_s rfl ?_
      )
  | succ q ih =>
    intro k d hk K
    have G := ih (k + 1) _ (by omega) K
    repeat (first
      | exact G
      | exact go_ret rfl rfl rfl rfl
      | exact go_end rfl rfl rfl rfl
      | refine go_add rfl ?_
      | refine go_mul rfl ?_
      | refine go_sub rfl (by omega) ?_
      | refine go_inc rfl rfl rfl rfl rfl ?_
      | refine go_dec rfl rfl rfl (by omega) rfl rfl ?_
      | refine go_ial rfl (cc_p r (by omega)) (by first | omega | exact ⟨dg_lt _ _, by omega⟩) (hq.1 _ (by first | omega | exact dg_lt _ _)) ?_
      | refine go_aal rfl rfl (by omega) (gP_s (by omega)) ?_
      | refine go_aal rfl rfl (by omega) (gQ_s (by omega)) ?_
      | refine go_div rfl (by omega) ?_
      | refine go_rem rfl (by omega) ?_
      | refine go_icT rfl (by dsimp only [ncd]; omega) ?_
      | refine go_icF rfl (by dsimp only [ncd]; omega) ?_
      | refine go_ifT rfl (by dsimp only [ncd]; omega) ?_
      | refine go_ifF rfl (by dsimp only [ncd]; omega) ?_
      | refine go_ift rfl (by decide) ?_
      | refine go_s rfl ?_
      )
theorem dgR2_loop {r : Nat} (hr : r < n) {d0 : Int64} :
    ∀ (q k : Nat) (d : Int64) (A : Nat → Nat → Int32), CP A n ps m len pr → k + q = 5 → ∃ A2, keep A A2 ∧ Go X (fu + 4) mX3_digestWithRule (41, [(0, .ref 0), (1, .long d0), (3, .int (nI r)), (4, .long d), (6, .int (nI k))], [], (cc A (nI n) (nI m) ch wf rd mo sm mk ++ R, e)) (.inl (some (.long (lpl (fR n ps r) q k d))), (cc A2 (nI n) (nI m) ch wf rd mo sm mk ++ R, e)) := by
  intro q
  induction q with
  | zero =>
    intro k d A hC hk
    obtain rfl : k = 5 := by omega
    refine ⟨A, keep_r A, ?_⟩
    repeat (first
      | exact go_ret rfl rfl rfl rfl
      | exact go_end rfl rfl rfl rfl
      | refine go_add rfl ?_
      | refine go_mul rfl ?_
      | refine go_sub rfl (by omega) ?_
      | refine go_inc rfl rfl rfl rfl rfl ?_
      | refine go_dec rfl rfl rfl (by omega) rfl rfl ?_
      | refine go_div rfl (by omega) ?_
      | refine go_rem rfl (by omega) ?_
      | refine go_icT rfl (by dsimp only [ncd]; omega) ?_
      | refine go_icF rfl (by dsimp only [ncd]; omega) ?_
      | refine go_ifT rfl (by dsimp only [ncd]; omega) ?_
      | refine go_ifF rfl (by dsimp only [ncd]; omega) ?_
      | refine go_ift rfl (by decide) ?_
      | refine go_s rfl ?_
      )
  | succ q ih =>
    intro k d A hC hk
    obtain ⟨A2, k2, G2⟩ := m_factOfRule (X := X) (fu := fu) (e := e) (ch := ch) (wf := wf) (rd := rd) (mo := mo) (sm := sm) (mk := mk) (R := R) hC hr (w := k) (by omega)
    obtain ⟨A3, k3, G3⟩ := ih (k + 1) (d * lN 31 + (fR n ps r k).toInt64) A2 (CP_k hC k2) (by omega)
    refine ⟨A3, keep_t k2 k3, ?_⟩
    repeat (first
      | exact G3
      | exact go_ret rfl rfl rfl rfl
      | exact go_end rfl rfl rfl rfl
      | refine go_add rfl ?_
      | refine go_mul rfl ?_
      | refine go_sub rfl (by omega) ?_
      | refine go_inc rfl rfl rfl rfl rfl ?_
      | refine go_dec rfl rfl rfl (by omega) rfl rfl ?_
      | refine go_div rfl (by omega) ?_
      | refine go_rem rfl (by omega) ?_
      | refine go_ci rfl rfl rfl rfl rfl G2 ?_
      | refine go_icT rfl (by dsimp only [ncd]; omega) ?_
      | refine go_icF rfl (by dsimp only [ncd]; omega) ?_
      | refine go_ifT rfl (by dsimp only [ncd]; omega) ?_
      | refine go_ifF rfl (by dsimp only [ncd]; omega) ?_
      | refine go_ift rfl (by decide) ?_
      | refine go_s rfl ?_
      )
theorem m_digestWithRule {A : Nat → Nat → Int32} (hC : CP A n ps m len pr) {r : Nat} (hr : r < n) (d : Int64) : ∃ A2, keep A A2 ∧ Go X (fu + 4) mX3_digestWithRule (0, [(0, .ref 0), (1, .long d), (3, .int (nI r))], [], (cc A (nI n) (nI m) ch wf rd mo sm mk ++ R, e)) (.inl (some (.long (dgR n ps r d))), (cc A2 (nI n) (nI m) ch wf rd mo sm mk ++ R, e)) := by
  obtain ⟨A2, k2, G2⟩ := dgR2_loop (X := X) (fu := fu) (e := e) (ch := ch) (wf := wf) (rd := rd) (mo := mo) (sm := sm) (mk := mk) (R := R) (n := n) (m := m) (ps := ps) (len := len) (pr := pr) hr (d0 := d) 5 0 (lpl (fun k => nI (dg (ps r) k)) 6 0 d) A hC (by omega)
  have G1 := dgR1_loop (X := X) (fu := fu + 4) (e := e) (ch := ch) (wf := wf) (rd := rd) (mo := mo) (sm := sm) (mk := mk) (R := R) hC hr (d0 := d) (oo := (.inl (some (.long (dgR n ps r d))), (cc A2 (nI n) (nI m) ch wf rd mo sm mk ++ R, e))) 6 0 d (by omega) (by
    repeat (first
      | exact G2
      | exact go_ret rfl rfl rfl rfl
      | exact go_end rfl rfl rfl rfl
      | refine go_add rfl ?_
      | refine go_mul rfl ?_
      | refine go_sub rfl (by omega) ?_
      | refine go_inc rfl rfl rfl rfl rfl ?_
      | refine go_dec rfl rfl rfl (by omega) rfl rfl ?_
      | refine go_div rfl (by omega) ?_
      | refine go_rem rfl (by omega) ?_
      | refine go_icT rfl (by dsimp only [ncd]; omega) ?_
      | refine go_icF rfl (by dsimp only [ncd]; omega) ?_
      | refine go_ifT rfl (by dsimp only [ncd]; omega) ?_
      | refine go_ifF rfl (by dsimp only [ncd]; omega) ?_
      | refine go_ift rfl (by decide) ?_
      | refine go_s rfl ?_
      ))
  refine ⟨A2, k2, ?_⟩
  repeat (first
    | exact G1
    | exact go_ret rfl rfl rfl rfl
    | exact go_end rfl rfl rfl rfl
    | refine go_add rfl ?_
    | refine go_mul rfl ?_
    | refine go_sub rfl (by omega) ?_
    | refine go_inc rfl rfl rfl rfl rfl ?_
    | refine go_dec rfl rfl rfl (by omega) rfl rfl ?_
    | refine go_div rfl (by omega) ?_
    | refine go_rem rfl (by omega) ?_
    | refine go_icT rfl (by dsimp only [ncd]; omega) ?_
    | refine go_icF rfl (by dsimp only [ncd]; omega) ?_
    | refine go_ifT rfl (by dsimp only [ncd]; omega) ?_
    | refine go_ifF rfl (by dsimp only [ncd]; omega) ?_
    | refine go_ift rfl (by decide) ?_
    | refine go_s rfl ?_
    )
theorem dgP1_loop {p : Nat} (hp : p < m) {d0 : Int64} :
    ∀ (q k : Nat) (d : Int64) (A : Nat → Nat → Int32) (mk : Int32), CP A n ps m len pr → k + q = 5 → ∃ A2 mk2, keep A A2 ∧ ∀ oo, Go X (fu + 5) mX3_digestWithPeal (35, [(0, .ref 0), (1, .long d0), (3, .int (nI p)), (4, .long (lpl (fP ps len pr p) q k d)), (6, .int (nI 5))], [], (cc A2 (nI n) (nI m) ch wf rd mo sm mk2 ++ R, e)) oo → Go X (fu + 5) mX3_digestWithPeal (6, [(0, .ref 0), (1, .long d0), (3, .int (nI p)), (4, .long d), (6, .int (nI k))], [], (cc A (nI n) (nI m) ch wf rd mo sm mk ++ R, e)) oo := by
  intro q
  induction q with
  | zero =>
    intro k d A mk hC hk
    obtain rfl : k = 5 := by omega
    refine ⟨A, mk, keep_r A, fun oo K => ?_⟩
    repeat (first
      | exact K
      | exact go_ret rfl rfl rfl rfl
      | exact go_end rfl rfl rfl rfl
      | refine go_add rfl ?_
      | refine go_mul rfl ?_
      | refine go_sub rfl (by omega) ?_
      | refine go_inc rfl rfl rfl rfl rfl ?_
      | refine go_dec rfl rfl rfl (by omega) rfl rfl ?_
      | refine go_div rfl (by omega) ?_
      | refine go_rem rfl (by omega) ?_
      | refine go_icT rfl (by dsimp only [ncd]; omega) ?_
      | refine go_icF rfl (by dsimp only [ncd]; omega) ?_
      | refine go_ifT rfl (by dsimp only [ncd]; omega) ?_
      | refine go_ifF rfl (by dsimp only [ncd]; omega) ?_
      | refine go_ift rfl (by decide) ?_
      | refine go_s rfl ?_
      )
  | succ q ih =>
    intro k d A mk hC hk
    obtain ⟨A2, mk2, k2, G2⟩ := m_factOfPeal (X := X) (fu := fu) (e := e) (ch := ch) (wf := wf) (rd := rd) (mo := mo) (sm := sm) (mk := mk) (R := R) hC hp (w := k) (by omega)
    obtain ⟨A3, mk3, k3, G3⟩ := ih (k + 1) (d * lN 31 + (fP ps len pr p k).toInt64) A2 mk2 (CP_k hC k2) (by omega)
    refine ⟨A3, mk3, keep_t k2 k3, fun oo K => ?_⟩
    have G4 := G3 oo K
    repeat (first
      | exact G4
      | exact go_ret rfl rfl rfl rfl
      | exact go_end rfl rfl rfl rfl
      | refine go_add rfl ?_
      | refine go_mul rfl ?_
      | refine go_sub rfl (by omega) ?_
      | refine go_inc rfl rfl rfl rfl rfl ?_
      | refine go_dec rfl rfl rfl (by omega) rfl rfl ?_
      | refine go_div rfl (by omega) ?_
      | refine go_rem rfl (by omega) ?_
      | refine go_ci rfl rfl rfl rfl rfl G2 ?_
      | refine go_icT rfl (by dsimp only [ncd]; omega) ?_
      | refine go_icF rfl (by dsimp only [ncd]; omega) ?_
      | refine go_ifT rfl (by dsimp only [ncd]; omega) ?_
      | refine go_ifF rfl (by dsimp only [ncd]; omega) ?_
      | refine go_ift rfl (by decide) ?_
      | refine go_s rfl ?_
      )
theorem dgP2_loop {A : Nat → Nat → Int32} (hC : CP A n ps m len pr) {p : Nat} (hp : p < m) {d0 : Int64} :
    ∀ (q k : Nat) (d : Int64), k + q = len p → Go X fu mX3_digestWithPeal (46, [(0, .ref 0), (1, .long d0), (3, .int (nI p)), (4, .long d), (6, .int (nI (len p))), (7, .int (nI k))], [], (cc A (nI n) (nI m) ch wf rd mo sm mk ++ R, e)) (.inl (some (.long (lpl (fun i => nI (pr p i)) q k d))), (cc A (nI n) (nI m) ch wf rd mo sm mk ++ R, e)) := by
  have hm := hC.2.1
  obtain ⟨l1, l2, l3⟩ := hC.2.2.2.2 p (by omega)
  intro q
  induction q with
  | zero =>
    intro k d hk
    obtain rfl : k = len p := by omega
    repeat (first
      | exact go_ret rfl rfl rfl rfl
      | exact go_end rfl rfl rfl rfl
      | refine go_add rfl ?_
      | refine go_mul rfl ?_
      | refine go_sub rfl (by omega) ?_
      | refine go_inc rfl rfl rfl rfl rfl ?_
      | refine go_dec rfl rfl rfl (by omega) rfl rfl ?_
      | refine go_div rfl (by omega) ?_
      | refine go_rem rfl (by omega) ?_
      | refine go_icT rfl (by dsimp only [ncd]; omega) ?_
      | refine go_icF rfl (by dsimp only [ncd]; omega) ?_
      | refine go_ifT rfl (by dsimp only [ncd]; omega) ?_
      | refine go_ifF rfl (by dsimp only [ncd]; omega) ?_
      | refine go_ift rfl (by decide) ?_
      | refine go_s rfl ?_
      )
  | succ q ih =>
    intro k d hk
    have G := ih (k + 1) (d * lN 31 + (nI (pr p k)).toInt64) (by omega)
    repeat (first
      | exact G
      | exact go_ret rfl rfl rfl rfl
      | exact go_end rfl rfl rfl rfl
      | refine go_add rfl ?_
      | refine go_mul rfl ?_
      | refine go_sub rfl (by omega) ?_
      | refine go_inc rfl rfl rfl rfl rfl ?_
      | refine go_dec rfl rfl rfl (by omega) rfl rfl ?_
      | refine go_ial rfl (cc_q p (by omega)) (by first | omega | exact ⟨dg_lt _ _, by omega⟩) (l2 _ (by first | omega | exact dg_lt _ _)) ?_
      | refine go_aal rfl rfl (by omega) (gP_s (by omega)) ?_
      | refine go_aal rfl rfl (by omega) (gQ_s (by omega)) ?_
      | refine go_div rfl (by omega) ?_
      | refine go_rem rfl (by omega) ?_
      | refine go_icT rfl (by dsimp only [ncd]; omega) ?_
      | refine go_icF rfl (by dsimp only [ncd]; omega) ?_
      | refine go_ifT rfl (by dsimp only [ncd]; omega) ?_
      | refine go_ifF rfl (by dsimp only [ncd]; omega) ?_
      | refine go_ift rfl (by decide) ?_
      | refine go_s rfl ?_
      )
theorem m_digestWithPeal {A : Nat → Nat → Int32} (hC : CP A n ps m len pr) {p : Nat} (hp : p < m) (d : Int64) : ∃ A2 mk2, keep A A2 ∧ Go X (fu + 5) mX3_digestWithPeal (0, [(0, .ref 0), (1, .long d), (3, .int (nI p))], [], (cc A (nI n) (nI m) ch wf rd mo sm mk ++ R, e)) (.inl (some (.long (dgP ps len pr p d))), (cc A2 (nI n) (nI m) ch wf rd mo sm mk2 ++ R, e)) := by
  have hm := hC.2.1
  obtain ⟨A2, mk2, k2, G2⟩ := dgP1_loop (X := X) (fu := fu) (e := e) (ch := ch) (wf := wf) (rd := rd) (mo := mo) (sm := sm) (R := R) (n := n) (m := m) (ps := ps) (len := len) (pr := pr) hp (d0 := d) 5 0 d A mk hC (by omega)
  have hC2 := CP_k hC k2
  have h17 := hC2.2.2.2.1
  have G1 := dgP2_loop (X := X) (fu := fu + 5) (e := e) (ch := ch) (wf := wf) (rd := rd) (mo := mo) (sm := sm) (mk := mk2) (R := R) hC2 hp (d0 := d) (len p) 0 (lpl (fP ps len pr p) 5 0 d) (by omega)
  refine ⟨A2, mk2, k2, ?_⟩
  have G3 := G2 (.inl (some (.long (dgP ps len pr p d))), (cc A2 (nI n) (nI m) ch wf rd mo sm mk2 ++ R, e)) (by
    repeat (first
      | exact G1
      | exact go_ret rfl rfl rfl rfl
      | exact go_end rfl rfl rfl rfl
      | refine go_add rfl ?_
      | refine go_mul rfl ?_
      | refine go_sub rfl (by omega) ?_
      | refine go_inc rfl rfl rfl rfl rfl ?_
      | refine go_dec rfl rfl rfl (by omega) rfl rfl ?_
      | refine go_ial rfl rfl (by first | omega | exact ⟨dg_lt _ _, by omega⟩) (h17 _ (by first | omega | exact dg_lt _ _)) ?_
      | refine go_div rfl (by omega) ?_
      | refine go_rem rfl (by omega) ?_
      | refine go_icT rfl (by dsimp only [ncd]; omega) ?_
      | refine go_icF rfl (by dsimp only [ncd]; omega) ?_
      | refine go_ifT rfl (by dsimp only [ncd]; omega) ?_
      | refine go_ifF rfl (by dsimp only [ncd]; omega) ?_
      | refine go_ift rfl (by decide) ?_
      | refine go_s rfl ?_
      ))
  repeat (first
    | exact G3
    | exact go_ret rfl rfl rfl rfl
    | exact go_end rfl rfl rfl rfl
    | refine go_add rfl ?_
    | refine go_mul rfl ?_
    | refine go_sub rfl (by omega) ?_
    | refine go_inc rfl rfl rfl rfl rfl ?_
    | refine go_dec rfl rfl rfl (by omega) rfl rfl ?_
    | refine go_div rfl (by omega) ?_
    | refine go_rem rfl (by omega) ?_
    | refine go_icT rfl (by dsimp only [ncd]; omega) ?_
    | refine go_icF rfl (by dsimp only [ncd]; omega) ?_
    | refine go_ifT rfl (by dsimp only [ncd]; omega) ?_
    | refine go_ifF rfl (by dsimp only [ncd]; omega) ?_
    | refine go_ift rfl (by decide) ?_
    | refine go_s rfl ?_
    )
theorem dg1_loop {A : Nat → Nat → Int32} {c : Nat} (hx : rw6 (A 19) c) (ix : isRow c) {oo : zOut} :
    ∀ (q k : Nat) (d : Int64), k + q = 5 → Go X (fu + 6) mX3_digest (30, [(0, .ref 0), (1, .long (lpl (fC n m ch c) q k d)), (3, .int (nI 5))], [], (cc A (nI n) (nI m) ch wf rd mo sm mk ++ R, e)) oo → Go X (fu + 6) mX3_digest (6, [(0, .ref 0), (1, .long d), (3, .int (nI k))], [], (cc A (nI n) (nI m) ch wf rd mo sm mk ++ R, e)) oo := by
  intro q
  induction q with
  | zero =>
    intro k d hk K
    obtain rfl : k = 5 := by omega
    repeat (first
      | exact K
      | exact go_ret rfl rfl rfl rfl
      | exact go_end rfl rfl rfl rfl
      | refine go_add rfl ?_
      | refine go_mul rfl ?_
      | refine go_sub rfl (by omega) ?_
      | refine go_inc rfl rfl rfl rfl rfl ?_
      | refine go_dec rfl rfl rfl (by omega) rfl rfl ?_
      | refine go_div rfl (by omega) ?_
      | refine go_rem rfl (by omega) ?_
      | refine go_icT rfl (by dsimp only [ncd]; omega) ?_
      | refine go_icF rfl (by dsimp only [ncd]; omega) ?_
      | refine go_ifT rfl (by dsimp only [ncd]; omega) ?_
      | refine go_ifF rfl (by dsimp only [ncd]; omega) ?_
      | refine go_ift rfl (by decide) ?_
      | refine go_s rfl ?_
      )
  | succ q ih =>
    intro k d hk K
    have G2 := m_countOf (X := X) (fu := fu + 4) (e := e) (ch := ch) (wf := wf) (rd := rd) (mo := mo) (sm := sm) (mk := mk) (R := R) (n := n) (m := m) hx ix (w := k) (by omega)
    have G := ih (k + 1) _ (by omega) K
    repeat (first
      | exact G
      | exact go_ret rfl rfl rfl rfl
      | exact go_end rfl rfl rfl rfl
      | refine go_add rfl ?_
      | refine go_mul rfl ?_
      | refine go_sub rfl (by omega) ?_
      | refine go_inc rfl rfl rfl rfl rfl ?_
      | refine go_dec rfl rfl rfl (by omega) rfl rfl ?_
      | refine go_div rfl (by omega) ?_
      | refine go_rem rfl (by omega) ?_
      | refine go_ci rfl rfl rfl rfl rfl G2 ?_
      | refine go_icT rfl (by dsimp only [ncd]; omega) ?_
      | refine go_icF rfl (by dsimp only [ncd]; omega) ?_
      | refine go_ifT rfl (by dsimp only [ncd]; omega) ?_
      | refine go_ifF rfl (by dsimp only [ncd]; omega) ?_
      | refine go_ift rfl (by decide) ?_
      | refine go_s rfl ?_
      )
theorem dg2_loop :
    ∀ (q k : Nat) (d : Int64) (A : Nat → Nat → Int32), CP A n ps m len pr → k + q = n → ∃ A2, keep A A2 ∧ ∀ oo, Go X (fu + 6) mX3_digest (53, [(0, .ref 0), (1, .long (lpg (dgR n ps) q k d)), (3, .int (nI n))], [], (cc A2 (nI n) (nI m) ch wf rd mo sm mk ++ R, e)) oo → Go X (fu + 6) mX3_digest (32, [(0, .ref 0), (1, .long d), (3, .int (nI k))], [], (cc A (nI n) (nI m) ch wf rd mo sm mk ++ R, e)) oo := by
  intro q
  induction q with
  | zero =>
    intro k d A hC hk
    have hn := hC.1
    obtain rfl : k = n := by omega
    refine ⟨A, keep_r A, fun oo K => ?_⟩
    repeat (first
      | exact K
      | exact go_ret rfl rfl rfl rfl
      | exact go_end rfl rfl rfl rfl
      | refine go_add rfl ?_
      | refine go_mul rfl ?_
      | refine go_sub rfl (by omega) ?_
      | refine go_inc rfl rfl rfl rfl rfl ?_
      | refine go_dec rfl rfl rfl (by omega) rfl rfl ?_
      | refine go_div rfl (by omega) ?_
      | refine go_rem rfl (by omega) ?_
      | refine go_icT rfl (by dsimp only [ncd]; omega) ?_
      | refine go_icF rfl (by dsimp only [ncd]; omega) ?_
      | refine go_ifT rfl (by dsimp only [ncd]; omega) ?_
      | refine go_ifF rfl (by dsimp only [ncd]; omega) ?_
      | refine go_ift rfl (by decide) ?_
      | refine go_s rfl ?_
      )
  | succ q ih =>
    intro k d A hC hk
    have hn := hC.1
    obtain ⟨A2, k2, G2⟩ := m_digestWithRule (X := X) (fu := fu + 1) (e := e) (ch := ch) (wf := wf) (rd := rd) (mo := mo) (sm := sm) (mk := mk) (R := R) hC (r := k) (by omega) d
    obtain ⟨A3, k3, G3⟩ := ih (k + 1) (dgR n ps k d) A2 (CP_k hC k2) (by omega)
    refine ⟨A3, keep_t k2 k3, fun oo K => ?_⟩
    have G4 := G3 oo K
    repeat (first
      | exact G4
      | exact go_ret rfl rfl rfl rfl
      | exact go_end rfl rfl rfl rfl
      | refine go_add rfl ?_
      | refine go_mul rfl ?_
      | refine go_sub rfl (by omega) ?_
      | refine go_inc rfl rfl rfl rfl rfl ?_
      | refine go_dec rfl rfl rfl (by omega) rfl rfl ?_
      | refine go_div rfl (by omega) ?_
      | refine go_rem rfl (by omega) ?_
      | refine go_ci rfl rfl rfl rfl rfl G2 ?_
      | refine go_icT rfl (by dsimp only [ncd]; omega) ?_
      | refine go_icF rfl (by dsimp only [ncd]; omega) ?_
      | refine go_ifT rfl (by dsimp only [ncd]; omega) ?_
      | refine go_ifF rfl (by dsimp only [ncd]; omega) ?_
      | refine go_ift rfl (by decide) ?_
      | refine go_s rfl ?_
      )
theorem dg3_loop :
    ∀ (q k : Nat) (d : Int64) (A : Nat → Nat → Int32) (mk : Int32), CP A n ps m len pr → k + q = m → ∃ A2 mk2, keep A A2 ∧ Go X (fu + 6) mX3_digest (55, [(0, .ref 0), (1, .long d), (3, .int (nI k))], [], (cc A (nI n) (nI m) ch wf rd mo sm mk ++ R, e)) (.inl (some (.long (lpg (dgP ps len pr) q k d))), (cc A2 (nI n) (nI m) ch wf rd mo sm mk2 ++ R, e)) := by
  intro q
  induction q with
  | zero =>
    intro k d A mk hC hk
    have hm := hC.2.1
    obtain rfl : k = m := by omega
    refine ⟨A, mk, keep_r A, ?_⟩
    repeat (first
      | exact go_ret rfl rfl rfl rfl
      | exact go_end rfl rfl rfl rfl
      | refine go_add rfl ?_
      | refine go_mul rfl ?_
      | refine go_sub rfl (by omega) ?_
      | refine go_inc rfl rfl rfl rfl rfl ?_
      | refine go_dec rfl rfl rfl (by omega) rfl rfl ?_
      | refine go_div rfl (by omega) ?_
      | refine go_rem rfl (by omega) ?_
      | refine go_icT rfl (by dsimp only [ncd]; omega) ?_
      | refine go_icF rfl (by dsimp only [ncd]; omega) ?_
      | refine go_ifT rfl (by dsimp only [ncd]; omega) ?_
      | refine go_ifF rfl (by dsimp only [ncd]; omega) ?_
      | refine go_ift rfl (by decide) ?_
      | refine go_s rfl ?_
      )
  | succ q ih =>
    intro k d A mk hC hk
    have hm := hC.2.1
    obtain ⟨A2, mk2, k2, G2⟩ := m_digestWithPeal (X := X) (fu := fu) (e := e) (ch := ch) (wf := wf) (rd := rd) (mo := mo) (sm := sm) (mk := mk) (R := R) hC (p := k) (by omega) d
    obtain ⟨A3, mk3, k3, G3⟩ := ih (k + 1) (dgP ps len pr k d) A2 mk2 (CP_k hC k2) (by omega)
    refine ⟨A3, mk3, keep_t k2 k3, ?_⟩
    repeat (first
      | exact G3
      | exact go_ret rfl rfl rfl rfl
      | exact go_end rfl rfl rfl rfl
      | refine go_add rfl ?_
      | refine go_mul rfl ?_
      | refine go_sub rfl (by omega) ?_
      | refine go_inc rfl rfl rfl rfl rfl ?_
      | refine go_dec rfl rfl rfl (by omega) rfl rfl ?_
      | refine go_div rfl (by omega) ?_
      | refine go_rem rfl (by omega) ?_
      | refine go_ci rfl rfl rfl rfl rfl G2 ?_
      | refine go_icT rfl (by dsimp only [ncd]; omega) ?_
      | refine go_icF rfl (by dsimp only [ncd]; omega) ?_
      | refine go_ifT rfl (by dsimp only [ncd]; omega) ?_
      | refine go_ifF rfl (by dsimp only [ncd]; omega) ?_
      | refine go_ift rfl (by decide) ?_
      | refine go_s rfl ?_
      )
theorem m_digest {A : Nat → Nat → Int32} {c : Nat} (hC : CP A n ps m len pr) (hx : rw6 (A 19) c) (ix : isRow c) : ∃ A2 mk2, keep A A2 ∧ Go X (fu + 6) mX3_digest (0, [(0, .ref 0)], [], (cc A (nI n) (nI m) ch wf rd mo sm mk ++ R, e)) (.inl (some (.long (dgA n ps m len pr ch c))), (cc A2 (nI n) (nI m) ch wf rd mo sm mk2 ++ R, e)) := by
  obtain ⟨A2, k2, G2⟩ := dg2_loop (X := X) (fu := fu) (e := e) (ch := ch) (wf := wf) (rd := rd) (mo := mo) (sm := sm) (mk := mk) (R := R) (n := n) (m := m) (ps := ps) (len := len) (pr := pr) n 0 (lpl (fC n m ch c) 5 0 (lN 1123)) A hC (by omega)
  obtain ⟨A3, mk3, k3, G3⟩ := dg3_loop (X := X) (fu := fu) (e := e) (ch := ch) (wf := wf) (rd := rd) (mo := mo) (sm := sm) (R := R) (n := n) (m := m) (ps := ps) (len := len) (pr := pr) m 0 (lpg (dgR n ps) n 0 (lpl (fC n m ch c) 5 0 (lN 1123))) A2 mk (CP_k hC k2) (by omega)
  have G4 := G2 (.inl (some (.long (dgA n ps m len pr ch c))), (cc A3 (nI n) (nI m) ch wf rd mo sm mk3 ++ R, e)) (by
    repeat (first
      | exact G3
      | exact go_ret rfl rfl rfl rfl
      | exact go_end rfl rfl rfl rfl
      | refine go_add rfl ?_
      | refine go_mul rfl ?_
      | refine go_sub rfl (by omega) ?_
      | refine go_inc rfl rfl rfl rfl rfl ?_
      | refine go_dec rfl rfl rfl (by omega) rfl rfl ?_
      | refine go_div rfl (by omega) ?_
      | refine go_rem rfl (by omega) ?_
      | refine go_icT rfl (by dsimp only [ncd]; omega) ?_
      | refine go_icF rfl (by dsimp only [ncd]; omega) ?_
      | refine go_ifT rfl (by dsimp only [ncd]; omega) ?_
      | refine go_ifF rfl (by dsimp only [ncd]; omega) ?_
      | refine go_ift rfl (by decide) ?_
      | refine go_s rfl ?_
      ))
  have G5 := dg1_loop (X := X) (fu := fu) (e := e) (ch := ch) (wf := wf) (rd := rd) (mo := mo) (sm := sm) (mk := mk) (R := R) (n := n) (m := m) hx ix (oo := (.inl (some (.long (dgA n ps m len pr ch c))), (cc A3 (nI n) (nI m) ch wf rd mo sm mk3 ++ R, e))) 5 0 (lN 1123) (by omega) (by
    repeat (first
      | exact G4
      | exact go_ret rfl rfl rfl rfl
      | exact go_end rfl rfl rfl rfl
      | refine go_add rfl ?_
      | refine go_mul rfl ?_
      | refine go_sub rfl (by omega) ?_
      | refine go_inc rfl rfl rfl rfl rfl ?_
      | refine go_dec rfl rfl rfl (by omega) rfl rfl ?_
      | refine go_div rfl (by omega) ?_
      | refine go_rem rfl (by omega) ?_
      | refine go_icT rfl (by dsimp only [ncd]; omega) ?_
      | refine go_icF rfl (by dsimp only [ncd]; omega) ?_
      | refine go_ifT rfl (by dsimp only [ncd]; omega) ?_
      | refine go_ifF rfl (by dsimp only [ncd]; omega) ?_
      | refine go_ift rfl (by decide) ?_
      | refine go_s rfl ?_
      ))
  refine ⟨A3, mk3, keep_t k2 k3, ?_⟩
  repeat (first
    | exact G5
    | exact go_ret rfl rfl rfl rfl
    | exact go_end rfl rfl rfl rfl
    | refine go_add rfl ?_
    | refine go_mul rfl ?_
    | refine go_sub rfl (by omega) ?_
    | refine go_inc rfl rfl rfl rfl rfl ?_
    | refine go_dec rfl rfl rfl (by omega) rfl rfl ?_
    | refine go_div rfl (by omega) ?_
    | refine go_rem rfl (by omega) ?_
    | refine go_icT rfl (by dsimp only [ncd]; omega) ?_
    | refine go_icF rfl (by dsimp only [ncd]; omega) ?_
    | refine go_ifT rfl (by dsimp only [ncd]; omega) ?_
    | refine go_ifF rfl (by dsimp only [ncd]; omega) ?_
    | refine go_ift rfl (by decide) ?_
    | refine go_s rfl ?_
    )
end PEALS2
