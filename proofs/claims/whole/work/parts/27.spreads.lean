/-! ===== the reference: spreading, counts, public methods ===== -/
theorem go_nwa {X : zX} {f : Nat} {d : zMd} {o : zOut} {pc pc0 np a b w : Nat} {L : List (Nat × Value)} {S : List Value} {H : List zC} {e k : Nat} (h1 : zf (zi d) pc = some (pc0, np, .newarray .int, a, b, w)) (hk : k < 1000) (K : Go X f d (np, L, .ref H.length :: S, (H ++ [.inl (k, .inl (fun _ => 0))], e)) o) : Go X f d (pc, L, .int (nI k) :: S, (H, e)) o := by
  refine go_s ((zs1_of h1 rfl).trans ?_) K
  show (if ¬ nI k < 0 ∧ (nI k).toNatClampNeg * 4 ≤ 536870912 then some (np, L, Value.ref H.length :: S, ((H ++ [.inl ((nI k).toNatClampNeg, .inl (fun _ => 0))], e) : zH)) else none) = _
  rw [nI_cl (by omega), if_pos ⟨nI_pos (by omega), by omega⟩]
theorem app_g (H : List zC) (c : zC) : (H ++ [c])[H.length]? = some c := by rw [List.getElem?_append_right (Nat.le_refl _), Nat.sub_self]; rfl
theorem app_s (H : List zC) (c c2 : zC) : (H ++ [c]).set H.length c2 = H ++ [c2] := by rw [List.set_append_right _ _ (Nat.le_refl _), Nat.sub_self]; rfl
def laM (l : List (Nat × Nat)) : Nat := match l.getLast? with
  | some q => q.2
  | none => 0
def suM (l : List (Nat × Nat)) : Nat := (l.map fun q => q.2).sum
section SPREAD
variable {X : zX} {fu e n m : Nat} {A B : Nat → Nat → Int32} {c1 c2 c3 c4 c5 c6 c7 c8 th co ch sp : Int32} {R : List zC} {ps len : Nat → Nat} {pr : Nat → Nat → Nat} {c : Nat}
theorem n_counted {w : Nat} (ic : isRow c) (hw : w < 5) : ∃ f, Go X (fu + 2) mX4_counted (0, [(0, .ref 36), (1, .int (nI w))], [], (cc A c1 c2 c3 c4 c5 c6 c7 c8 ++ (mm B th (nI n) (nI m) (nI c) ch sp ++ R), e)) (.inl (some (.int (fC n m ch c w))), (cc A c1 c2 c3 c4 c5 c6 c7 c8 ++ (mm B th (nI n) (nI m) (nI c) ch sp ++ (R ++ [.inl (5, .inl f)])), e)) := by
  have lc := row_lt ic
  refine ⟨upd (upd (upd (upd (upd (fun _ => 0) 0 (nI n)) 1 (nI m)) 2 ch) 3 (nI c)) 4 (nI (odM (dg c))), ?_⟩
  have e4 : nI (odC (dg c)) = nI (odM (dg c)) := congrArg nI (od_M ic)
  have ev : fC n m ch c w = (upd (upd (upd (upd (upd (fun _ => 0) 0 (nI n)) 1 (nI m)) 2 ch) 3 (nI c)) 4 (nI (odM (dg c)))) w := by
    rcases (show w = 0 ∨ w = 1 ∨ w = 2 ∨ w = 3 ∨ w = 4 by omega) with rfl | rfl | rfl | rfl | rfl
    · rfl
    · rfl
    · rfl
    · rfl
    · exact e4
  rw [ev]
  repeat (first
    | exact go_ret rfl rfl rfl rfl
    | refine go_nwa rfl (by omega) ?_
    | refine go_iash rfl (app_g _ _) (by omega) (app_s _ _ _) ?_
    | refine go_ialr rfl (app_g _ _) (by omega) ?_
    | refine go_ci rfl rfl rfl rfl rfl (n_odd lc) ?_
    | refine go_s rfl ?_)
theorem sp_in0 {i s f0 : Nat} {p : Nat × Nat} :
    ∀ (q r : Nat) (l : List (Nat × Nat)) (B : Nat → Nat → Int32), r + q = n → MR B n ps m len pr → VB B l → BV (nbC (fun r => inv (ps r))) nkM 1 n s l → l[i]? = some p → (∀ q, q ∈ l → ∀ r2, r ≤ r2 → r2 < n → q.2 ≤ nkM p.2 r2) →
    ∃ B2, (∀ j, j < 40 → B2 j = B j) ∧ VB B2 (bi (nbC (fun r => inv (ps r))) nkM p.1 p.2 q r l) ∧ ∀ oo, Go X (fu + 2) mX4_spreads (88, [(0, .ref 36), (1, .int (nI f0)), (2, .int (nI 0)), (3, .int (nI i)), (4, .int (nI n))], [], (cc A c1 c2 c3 c4 c5 c6 c7 c8 ++ (mm B2 th (nI n) (nI m) co ch (nI (bi (nbC (fun r => inv (ps r))) nkM p.1 p.2 q r l).length) ++ R), e)) oo → Go X (fu + 2) mX4_spreads (24, [(0, .ref 36), (1, .int (nI f0)), (2, .int (nI 0)), (3, .int (nI i)), (4, .int (nI r))], [], (cc A c1 c2 c3 c4 c5 c6 c7 c8 ++ (mm B th (nI n) (nI m) co ch (nI l.length) ++ R), e)) oo := by
  intro q
  induction q with
  | zero =>
    intro r l B hr hM hV hB hi hu
    have hn := hM.1
    obtain rfl : r = n := by omega
    refine ⟨B, fun _ _ => rfl, hV, fun oo K => ?_⟩
    repeat (first
      | exact K
      | exact go_ret rfl rfl rfl rfl
      | exact go_end rfl rfl rfl rfl
      | refine go_add rfl ?_
      | refine go_mul rfl ?_
      | refine go_sub rfl (by omega) ?_
      | refine go_inc rfl rfl rfl rfl rfl ?_
      | refine go_dec rfl rfl rfl (by omega) rfl rfl ?_
      | refine go_wrth rfl (by omega) ?_
      | refine go_div rfl (by omega) ?_
      | refine go_rem rfl (by omega) ?_
      | refine go_icT rfl (by dsimp only [ncd]; omega) ?_
      | refine go_icF rfl (by dsimp only [ncd]; omega) ?_
      | refine go_ifT rfl (by dsimp only [ncd]; omega) ?_
      | refine go_ifF rfl (by dsimp only [ncd]; omega) ?_
      | refine go_ift rfl (by decide) ?_
      | refine go_s rfl ?_
      )
  | succ q ih =>
    intro r l B hr hM hV hB hi hu
    have hn := hM.1
    have hr2 : r < n := by omega
    have hp := hM.2.2.1 r hr2
    have hg : ∀ r, r < n → isRow ((fun r => inv (ps r)) r) := fun r hr => inv_row (hM.2.2.1 r hr)
    have ip := hB.2.1 p (List.mem_of_getElem? hi)
    have il := idx_lt hi
    have hl7 := len_720 hB.1 hB.2.1
    have hbd := hB.2.2.2.2.2 i p hi
    have lkp : lk l p.1 = some p.2 := lk_of hB.1 (List.mem_of_getElem? hi)
    have h41 := hV.2.1 i p hi
    have h40 : B 40 p.1 = nI p.2 := by rw [hV.1 p.1 ip, lkp]; rfl
    have lp := row_lt ip
    have G := n_ringed (X := X) (fu := fu) (e := e) (A := A) (c1 := c1) (c2 := c2) (c3 := c3) (c4 := c4) (c5 := c5) (c6 := c6) (c7 := c7) (c8 := c8) (th := th) (co := co) (ch := ch) (sp := nI l.length) (R := R) hM lp hr2
    have iy : isRow ((nbC (fun r => inv (ps r))) p.1 r) := nb_row hg _ _ ip hr2
    rw [rng_cmp hp] at G
    obtain ⟨B2, k2, hV2, G2⟩ := n_comes (X := X) (fu := fu + 1) (e := e) (A := A) (c1 := c1) (c2 := c2) (c3 := c3) (c4 := c4) (c5 := c5) (c6 := c6) (c7 := c7) (c8 := c8) (th := th) (co := co) (ch := ch) (R := R) (n := n) (m := m) hV iy (k := nkM p.2 r) (by unfold nkM; omega)
    have kb : ∀ j, j < 40 → B2 j = B j := fun j hj => k2 j (by omega) (by omega)
    have hK := KM_M (n := n)
    obtain ⟨f1, f2, f3, f4⟩ := BV_add (s := s) hK hB hi hr2 iy (fun q hq => hu q hq r (by omega) hr2)
    obtain ⟨B3, k3, hV3, G3⟩ := ih (r + 1) _ B2 (by omega) (MR_keep hM kb) hV2 f1 (f2.2 _ _ hi) (fun q hq r2 h1 h2 => by
      rcases f4 q hq with hq | hq
      · exact hu q hq r2 (by omega) h2
      · rw [hq]; exact hK.2.2.1 _ _ _ (by omega) h2)
    refine ⟨B3, fun j hj => (k3 j hj).trans (kb j hj), hV3, fun oo K => ?_⟩
    have K2 := G3 oo K
    repeat (first
      | exact K2
      | exact go_ret rfl rfl rfl rfl
      | exact go_end rfl rfl rfl rfl
      | refine go_add rfl ?_
      | refine go_mul rfl ?_
      | refine go_sub rfl (by omega) ?_
      | refine go_inc rfl rfl rfl rfl rfl ?_
      | refine go_dec rfl rfl rfl (by omega) rfl rfl ?_
      | refine go_wrth rfl (by omega) ?_
      | refine go_ial rfl rfl (by first | omega | exact ⟨dg_lt _ _, by omega⟩) (h41) ?_
      | refine go_ial rfl rfl (by first | omega | exact ⟨dg_lt _ _, by omega⟩) (h40) ?_
      | refine go_div rfl (by omega) ?_
      | refine go_rem rfl (by omega) ?_
      | refine go_ci rfl rfl rfl rfl rfl G ?_
      | refine go_ci rfl rfl rfl rfl rfl G2 ?_
      | refine go_icT rfl (by dsimp only [ncd]; omega) ?_
      | refine go_icF rfl (by dsimp only [ncd]; omega) ?_
      | refine go_ifT rfl (by dsimp only [ncd]; omega) ?_
      | refine go_ifF rfl (by dsimp only [ncd]; omega) ?_
      | refine go_ift rfl (by decide) ?_
      | refine go_s rfl ?_
      )
theorem sp_out0 {s f0 : Nat} :
    ∀ (q i : Nat) (l : List (Nat × Nat)) (B : Nat → Nat → Int32) (L : List (Nat × Value)), (L = [] ∨ ∃ y : Nat, L = [(4, .int (nI y))]) → i + q = 720 → MR B n ps m len pr → VB B l → BV (nbC (fun r => inv (ps r))) nkM 1 n s l → (∀ p, l[i]? = some p → ∀ q, q ∈ l → ∀ r, r < n → q.2 ≤ nkM p.2 r) →
    ∃ B2, (∀ j, j < 40 → B2 j = B j) ∧ VB B2 (bo (nbC (fun r => inv (ps r))) nkM n q i l) ∧ Go X (fu + 2) mX4_spreads (13, [(0, .ref 36), (1, .int (nI f0)), (2, .int (nI 0)), (3, .int (nI i))] ++ L, [], (cc A c1 c2 c3 c4 c5 c6 c7 c8 ++ (mm B th (nI n) (nI m) co ch (nI l.length) ++ R), e)) (.inl (some (.int (nI (laM (bo (nbC (fun r => inv (ps r))) nkM n q i l))))), (cc A c1 c2 c3 c4 c5 c6 c7 c8 ++ (mm B2 th (nI n) (nI m) co ch (nI (bo (nbC (fun r => inv (ps r))) nkM n q i l).length) ++ R), e)) := by
  have fin : ∀ (l : List (Nat × Nat)) (B : Nat → Nat → Int32) (i : Nat) (L : List (Nat × Value)), (L = [] ∨ ∃ y : Nat, L = [(4, .int (nI y))]) → VB B l → BV (nbC (fun r => inv (ps r))) nkM 1 n s l → l.length ≤ i → i ≤ 720 → Go X (fu + 2) mX4_spreads (13, [(0, .ref 36), (1, .int (nI f0)), (2, .int (nI 0)), (3, .int (nI i))] ++ L, [], (cc A c1 c2 c3 c4 c5 c6 c7 c8 ++ (mm B th (nI n) (nI m) co ch (nI l.length) ++ R), e)) (.inl (some (.int (nI (laM l)))), (cc A c1 c2 c3 c4 c5 c6 c7 c8 ++ (mm B th (nI n) (nI m) co ch (nI l.length) ++ R), e)) := by
    intro l B i L hL hV hB hl hi
    have h0 := idx_lt hB.2.2.1
    obtain ⟨z, e1⟩ : ∃ z, l[l.length - 1]? = some z := ⟨_, List.getElem?_eq_getElem (by omega)⟩
    have e2 : laM l = z.2 := by
      unfold laM
      rw [List.getLast?_eq_getElem?, e1]
    have hm := List.mem_of_getElem? e1
    have ip := hB.2.1 _ hm
    have lp := row_lt ip
    have h41 := hV.2.1 _ _ e1
    have h40 : B 40 z.1 = nI z.2 := by rw [hV.1 _ ip, lk_of (k := z.2) hB.1 hm]; rfl
    rw [e2]
    rcases hL with rfl | ⟨y, rfl⟩
    · show Go X (fu + 2) mX4_spreads (13, [(0, .ref 36), (1, .int (nI f0)), (2, .int (nI 0)), (3, .int (nI i))], [], _) _
      repeat (first
        | exact go_ret rfl rfl rfl rfl
        | exact go_end rfl rfl rfl rfl
        | refine go_add rfl ?_
        | refine go_mul rfl ?_
        | refine go_sub rfl (by omega) ?_
        | refine go_inc rfl rfl rfl rfl rfl ?_
        | refine go_dec rfl rfl rfl (by omega) rfl rfl ?_
        | refine go_wrth rfl (by omega) ?_
        | refine go_ial rfl rfl (by first | omega | exact ⟨dg_lt _ _, by omega⟩) (h41) ?_
        | refine go_ial rfl rfl (by first | omega | exact ⟨dg_lt _ _, by omega⟩) (h40) ?_
        | refine go_div rfl (by omega) ?_
        | refine go_rem rfl (by omega) ?_
        | refine go_icT rfl (by dsimp only [ncd]; omega) ?_
        | refine go_icF rfl (by dsimp only [ncd]; omega) ?_
        | refine go_ifT rfl (by dsimp only [ncd]; omega) ?_
        | refine go_ifF rfl (by dsimp only [ncd]; omega) ?_
        | refine go_ift rfl (by decide) ?_
        | refine go_s rfl ?_
        )
    · show Go X (fu + 2) mX4_spreads (13, [(0, .ref 36), (1, .int (nI f0)), (2, .int (nI 0)), (3, .int (nI i)), (4, .int (nI y))], [], _) _
      repeat (first
        | exact go_ret rfl rfl rfl rfl
        | exact go_end rfl rfl rfl rfl
        | refine go_add rfl ?_
        | refine go_mul rfl ?_
        | refine go_sub rfl (by omega) ?_
        | refine go_inc rfl rfl rfl rfl rfl ?_
        | refine go_dec rfl rfl rfl (by omega) rfl rfl ?_
        | refine go_wrth rfl (by omega) ?_
        | refine go_ial rfl rfl (by first | omega | exact ⟨dg_lt _ _, by omega⟩) (h41) ?_
        | refine go_ial rfl rfl (by first | omega | exact ⟨dg_lt _ _, by omega⟩) (h40) ?_
        | refine go_div rfl (by omega) ?_
        | refine go_rem rfl (by omega) ?_
        | refine go_icT rfl (by dsimp only [ncd]; omega) ?_
        | refine go_icF rfl (by dsimp only [ncd]; omega) ?_
        | refine go_ifT rfl (by dsimp only [ncd]; omega) ?_
        | refine go_ifF rfl (by dsimp only [ncd]; omega) ?_
        | refine go_ift rfl (by decide) ?_
        | refine go_s rfl ?_
        )
  intro q
  induction q with
  | zero =>
    intro i l B L hL hi hM hV hB hu
    have hl7 := len_720 hB.1 hB.2.1
    exact ⟨B, fun _ _ => rfl, hV, fin l B i L hL hV hB (by omega) (by omega)⟩
  | succ q ih =>
    intro i l B L hL hi hM hV hB hu
    have hl7 := len_720 hB.1 hB.2.1
    rw [bo]
    cases e1 : l[i]? with
    | none =>
      have l1 : l.length ≤ i := by
        rw [List.getElem?_eq_none_iff] at e1
        exact e1
      exact ⟨B, fun _ _ => rfl, hV, fin l B i L hL hV hB l1 (by omega)⟩
    | some p =>
      have il := idx_lt e1
      have hg : ∀ r, r < n → isRow ((fun r => inv (ps r)) r) := fun r hr => inv_row (hM.2.2.1 r hr)
      have hK := KM_M (n := n)
      obtain ⟨B2, k2, hV2, G3⟩ := sp_in0 (X := X) (fu := fu) (e := e) (A := A) (c1 := c1) (c2 := c2) (c3 := c3) (c4 := c4) (c5 := c5) (c6 := c6) (c7 := c7) (c8 := c8) (th := th) (co := co) (ch := ch) (R := R) (n := n) (m := m) (ps := ps) (len := len) (pr := pr) (f0 := f0) (i := i) (s := s) (p := p) n 0 l B (by omega) hM hV hB e1 (fun q hq r2 _ h2 => hu p e1 q hq r2 h2)
      obtain ⟨f1, f2, f3, f4⟩ := BV_in (s := s) hK (nb_row hg) n 0 l (by omega) hB e1 (fun q hq r2 _ h2 => hu p e1 q hq r2 h2)
      obtain ⟨B3, k3, hV3, G4⟩ := ih (i + 1) _ B2 [(4, .int (nI n))] (Or.inr ⟨_, rfl⟩) (by omega) (MR_keep hM k2) hV2 f1 (fun p2 hp2 q hq r hr => by
        have s1 := f1.2.2.2.1 i (i + 1) p p2 (by omega) (f2.2 _ _ e1) hp2
        have s2 := (f1.2.2.2.2.1 (i + 1) p2 (by omega) hp2).1
        rcases f4 q hq with hq | ⟨r2, hr2, hq⟩
        · refine Nat.le_trans (hu p e1 q hq r hr) ?_
          by_cases e6 : p.2 = p2.2
          · rw [e6]; exact Nat.le_refl _
          · exact hK.2.1 _ _ _ _ hr hr s2 (by omega)
        · rw [hq]
          by_cases e6 : p.2 = p2.2
          · rw [e6, hK.2.2.2 _ _ _ s2 hr2 hr]; exact Nat.le_refl _
          · exact hK.2.1 _ _ _ _ hr2 hr s2 (by omega))
      refine ⟨B3, fun j hj => (k3 j hj).trans (k2 j hj), hV3, ?_⟩
      have G5 := G3 (.inl (some (.int (nI (laM (bo (nbC (fun r => inv (ps r))) nkM n q (i + 1) (bi (nbC (fun r => inv (ps r))) nkM p.1 p.2 n 0 l)))))), (cc A c1 c2 c3 c4 c5 c6 c7 c8 ++ (mm B3 th (nI n) (nI m) co ch (nI (bo (nbC (fun r => inv (ps r))) nkM n q (i + 1) (bi (nbC (fun r => inv (ps r))) nkM p.1 p.2 n 0 l)).length) ++ R), e)) (by
        repeat (first
          | exact G4
          | exact go_ret rfl rfl rfl rfl
          | exact go_end rfl rfl rfl rfl
          | refine go_add rfl ?_
          | refine go_mul rfl ?_
          | refine go_sub rfl (by omega) ?_
          | refine go_inc rfl rfl rfl rfl rfl ?_
          | refine go_dec rfl rfl rfl (by omega) rfl rfl ?_
          | refine go_wrth rfl (by omega) ?_
          | refine go_div rfl (by omega) ?_
          | refine go_rem rfl (by omega) ?_
          | refine go_icT rfl (by dsimp only [ncd]; omega) ?_
          | refine go_icF rfl (by dsimp only [ncd]; omega) ?_
          | refine go_ifT rfl (by dsimp only [ncd]; omega) ?_
          | refine go_ifF rfl (by dsimp only [ncd]; omega) ?_
          | refine go_ift rfl (by decide) ?_
          | refine go_s rfl ?_
          ))
      rcases hL with rfl | ⟨y, rfl⟩
      · show Go X (fu + 2) mX4_spreads (13, [(0, .ref 36), (1, .int (nI f0)), (2, .int (nI 0)), (3, .int (nI i))], [], _) _
        repeat (first
          | exact G5
          | exact go_ret rfl rfl rfl rfl
          | exact go_end rfl rfl rfl rfl
          | refine go_add rfl ?_
          | refine go_mul rfl ?_
          | refine go_sub rfl (by omega) ?_
          | refine go_inc rfl rfl rfl rfl rfl ?_
          | refine go_dec rfl rfl rfl (by omega) rfl rfl ?_
          | refine go_wrth rfl (by omega) ?_
          | refine go_div rfl (by omega) ?_
          | refine go_rem rfl (by omega) ?_
          | refine go_icT rfl (by dsimp only [ncd]; omega) ?_
          | refine go_icF rfl (by dsimp only [ncd]; omega) ?_
          | refine go_ifT rfl (by dsimp only [ncd]; omega) ?_
          | refine go_ifF rfl (by dsimp only [ncd]; omega) ?_
          | refine go_ift rfl (by decide) ?_
          | refine go_s rfl ?_
          )
      · show Go X (fu + 2) mX4_spreads (13, [(0, .ref 36), (1, .int (nI f0)), (2, .int (nI 0)), (3, .int (nI i)), (4, .int (nI y))], [], _) _
        repeat (first
          | exact G5
          | exact go_ret rfl rfl rfl rfl
          | exact go_end rfl rfl rfl rfl
          | refine go_add rfl ?_
          | refine go_mul rfl ?_
          | refine go_sub rfl (by omega) ?_
          | refine go_inc rfl rfl rfl rfl rfl ?_
          | refine go_dec rfl rfl rfl (by omega) rfl rfl ?_
          | refine go_wrth rfl (by omega) ?_
          | refine go_div rfl (by omega) ?_
          | refine go_rem rfl (by omega) ?_
          | refine go_icT rfl (by dsimp only [ncd]; omega) ?_
          | refine go_icF rfl (by dsimp only [ncd]; omega) ?_
          | refine go_ifT rfl (by dsimp only [ncd]; omega) ?_
          | refine go_ifF rfl (by dsimp only [ncd]; omega) ?_
          | refine go_ift rfl (by decide) ?_
          | refine go_s rfl ?_
          )
theorem n_spreads0 {l : List (Nat × Nat)} (hM : MR B n ps m len pr) (hV : VB B l) {s : Nat} (is : isRow s) : ∃ B2, (∀ j, j < 40 → B2 j = B j) ∧ VB B2 (bfs (nbC (fun r => inv (ps r))) nkM n s) ∧ Go X (fu + 2) mX4_spreads (0, [(0, .ref 36), (1, .int (nI s)), (2, .int (nI 0))], [], (cc A c1 c2 c3 c4 c5 c6 c7 c8 ++ (mm B th (nI n) (nI m) co ch (nI l.length) ++ R), e)) (.inl (some (.int (nI (laM (bfs (nbC (fun r => inv (ps r))) nkM n s))))), (cc A c1 c2 c3 c4 c5 c6 c7 c8 ++ (mm B2 th (nI n) (nI m) co ch (nI (bfs (nbC (fun r => inv (ps r))) nkM n s).length) ++ R), e)) := by
  obtain ⟨B1, k1, hV1, G1⟩ := n_forget (X := X) (fu := fu + 1) (e := e) (A := A) (c1 := c1) (c2 := c2) (c3 := c3) (c4 := c4) (c5 := c5) (c6 := c6) (c7 := c7) (c8 := c8) (th := th) (co := co) (ch := ch) (R := R) (n := n) (m := m) hV
  obtain ⟨B2, k2, hV2, G2⟩ := n_comes (X := X) (fu := fu + 1) (e := e) (A := A) (c1 := c1) (c2 := c2) (c3 := c3) (c4 := c4) (c5 := c5) (c6 := c6) (c7 := c7) (c8 := c8) (th := th) (co := co) (ch := ch) (R := R) (n := n) (m := m) hV1 is (k := 0) (by omega)
  have kb : ∀ j, j < 40 → B2 j = B j := fun j hj => (k2 j (by omega) (by omega)).trans (k1 j (by omega))
  obtain ⟨B3, k3, hV3, G3⟩ := sp_out0 (X := X) (fu := fu) (e := e) (A := A) (c1 := c1) (c2 := c2) (c3 := c3) (c4 := c4) (c5 := c5) (c6 := c6) (c7 := c7) (c8 := c8) (th := th) (co := co) (ch := ch) (R := R) (n := n) (m := m) (ps := ps) (len := len) (pr := pr) (s := s) (f0 := s) 720 0 [(s, 0)] B2 [] (Or.inl rfl) (by omega) (MR_keep hM kb) hV2 (BV_0 is) (fun p hp q hq r hr => by
    have e1 : q = (s, 0) := by simpa using hq
    rw [e1]
    exact Nat.zero_le _)
  refine ⟨B3, fun j hj => (k3 j hj).trans (kb j hj), hV3, ?_⟩
  repeat (first
    | exact G3
    | exact go_ret rfl rfl rfl rfl
    | exact go_end rfl rfl rfl rfl
    | refine go_add rfl ?_
    | refine go_mul rfl ?_
    | refine go_sub rfl (by omega) ?_
    | refine go_inc rfl rfl rfl rfl rfl ?_
    | refine go_dec rfl rfl rfl (by omega) rfl rfl ?_
    | refine go_wrth rfl (by omega) ?_
    | refine go_div rfl (by omega) ?_
    | refine go_rem rfl (by omega) ?_
    | refine go_cn rfl rfl rfl rfl rfl G1 ?_
    | refine go_ci rfl rfl rfl rfl rfl G2 ?_
    | refine go_icT rfl (by dsimp only [ncd]; omega) ?_
    | refine go_icF rfl (by dsimp only [ncd]; omega) ?_
    | refine go_ifT rfl (by dsimp only [ncd]; omega) ?_
    | refine go_ifF rfl (by dsimp only [ncd]; omega) ?_
    | refine go_ift rfl (by decide) ?_
    | refine go_s rfl ?_
    )
theorem sp_in1 {i s f0 : Nat} {p : Nat × Nat} :
    ∀ (q r : Nat) (l : List (Nat × Nat)) (B : Nat → Nat → Int32), r + q = n → MR B n ps m len pr → VB B l → BV (nbC ps) nkM 1 n s l → l[i]? = some p → (∀ q, q ∈ l → ∀ r2, r ≤ r2 → r2 < n → q.2 ≤ nkM p.2 r2) →
    ∃ B2, (∀ j, j < 40 → B2 j = B j) ∧ VB B2 (bi (nbC ps) nkM p.1 p.2 q r l) ∧ ∀ oo, Go X (fu + 2) mX4_spreads (88, [(0, .ref 36), (1, .int (nI f0)), (2, .int (nI 1)), (3, .int (nI i)), (4, .int (nI n))], [], (cc A c1 c2 c3 c4 c5 c6 c7 c8 ++ (mm B2 th (nI n) (nI m) co ch (nI (bi (nbC ps) nkM p.1 p.2 q r l).length) ++ R), e)) oo → Go X (fu + 2) mX4_spreads (24, [(0, .ref 36), (1, .int (nI f0)), (2, .int (nI 1)), (3, .int (nI i)), (4, .int (nI r))], [], (cc A c1 c2 c3 c4 c5 c6 c7 c8 ++ (mm B th (nI n) (nI m) co ch (nI l.length) ++ R), e)) oo := by
  intro q
  induction q with
  | zero =>
    intro r l B hr hM hV hB hi hu
    have hn := hM.1
    obtain rfl : r = n := by omega
    refine ⟨B, fun _ _ => rfl, hV, fun oo K => ?_⟩
    repeat (first
      | exact K
      | exact go_ret rfl rfl rfl rfl
      | exact go_end rfl rfl rfl rfl
      | refine go_add rfl ?_
      | refine go_mul rfl ?_
      | refine go_sub rfl (by omega) ?_
      | refine go_inc rfl rfl rfl rfl rfl ?_
      | refine go_dec rfl rfl rfl (by omega) rfl rfl ?_
      | refine go_wrth rfl (by omega) ?_
      | refine go_div rfl (by omega) ?_
      | refine go_rem rfl (by omega) ?_
      | refine go_icT rfl (by dsimp only [ncd]; omega) ?_
      | refine go_icF rfl (by dsimp only [ncd]; omega) ?_
      | refine go_ifT rfl (by dsimp only [ncd]; omega) ?_
      | refine go_ifF rfl (by dsimp only [ncd]; omega) ?_
      | refine go_ift rfl (by decide) ?_
      | refine go_s rfl ?_
      )
  | succ q ih =>
    intro r l B hr hM hV hB hi hu
    have hn := hM.1
    have hr2 : r < n := by omega
    have hp := hM.2.2.1 r hr2
    have hg : ∀ r, r < n → isRow (ps r) := fun r hr => hM.2.2.1 r hr
    have ip := hB.2.1 p (List.mem_of_getElem? hi)
    have il := idx_lt hi
    have hl7 := len_720 hB.1 hB.2.1
    have hbd := hB.2.2.2.2.2 i p hi
    have lkp : lk l p.1 = some p.2 := lk_of hB.1 (List.mem_of_getElem? hi)
    have h41 := hV.2.1 i p hi
    have h40 : B 40 p.1 = nI p.2 := by rw [hV.1 p.1 ip, lkp]; rfl
    have lp := row_lt ip
    have G := n_undone (X := X) (fu := fu) (e := e) (A := A) (c1 := c1) (c2 := c2) (c3 := c3) (c4 := c4) (c5 := c5) (c6 := c6) (c7 := c7) (c8 := c8) (th := th) (co := co) (ch := ch) (sp := nI l.length) (R := R) hM lp hr2
    have iy : isRow ((nbC ps) p.1 r) := nb_row hg _ _ ip hr2
    obtain ⟨B2, k2, hV2, G2⟩ := n_comes (X := X) (fu := fu + 1) (e := e) (A := A) (c1 := c1) (c2 := c2) (c3 := c3) (c4 := c4) (c5 := c5) (c6 := c6) (c7 := c7) (c8 := c8) (th := th) (co := co) (ch := ch) (R := R) (n := n) (m := m) hV iy (k := nkM p.2 r) (by unfold nkM; omega)
    have kb : ∀ j, j < 40 → B2 j = B j := fun j hj => k2 j (by omega) (by omega)
    have hK := KM_M (n := n)
    obtain ⟨f1, f2, f3, f4⟩ := BV_add (s := s) hK hB hi hr2 iy (fun q hq => hu q hq r (by omega) hr2)
    obtain ⟨B3, k3, hV3, G3⟩ := ih (r + 1) _ B2 (by omega) (MR_keep hM kb) hV2 f1 (f2.2 _ _ hi) (fun q hq r2 h1 h2 => by
      rcases f4 q hq with hq | hq
      · exact hu q hq r2 (by omega) h2
      · rw [hq]; exact hK.2.2.1 _ _ _ (by omega) h2)
    refine ⟨B3, fun j hj => (k3 j hj).trans (kb j hj), hV3, fun oo K => ?_⟩
    have K2 := G3 oo K
    repeat (first
      | exact K2
      | exact go_ret rfl rfl rfl rfl
      | exact go_end rfl rfl rfl rfl
      | refine go_add rfl ?_
      | refine go_mul rfl ?_
      | refine go_sub rfl (by omega) ?_
      | refine go_inc rfl rfl rfl rfl rfl ?_
      | refine go_dec rfl rfl rfl (by omega) rfl rfl ?_
      | refine go_wrth rfl (by omega) ?_
      | refine go_ial rfl rfl (by first | omega | exact ⟨dg_lt _ _, by omega⟩) (h41) ?_
      | refine go_ial rfl rfl (by first | omega | exact ⟨dg_lt _ _, by omega⟩) (h40) ?_
      | refine go_div rfl (by omega) ?_
      | refine go_rem rfl (by omega) ?_
      | refine go_ci rfl rfl rfl rfl rfl G ?_
      | refine go_ci rfl rfl rfl rfl rfl G2 ?_
      | refine go_icT rfl (by dsimp only [ncd]; omega) ?_
      | refine go_icF rfl (by dsimp only [ncd]; omega) ?_
      | refine go_ifT rfl (by dsimp only [ncd]; omega) ?_
      | refine go_ifF rfl (by dsimp only [ncd]; omega) ?_
      | refine go_ift rfl (by decide) ?_
      | refine go_s rfl ?_
      )
theorem sp_out1 {s f0 : Nat} :
    ∀ (q i : Nat) (l : List (Nat × Nat)) (B : Nat → Nat → Int32) (L : List (Nat × Value)), (L = [] ∨ ∃ y : Nat, L = [(4, .int (nI y))]) → i + q = 720 → MR B n ps m len pr → VB B l → BV (nbC ps) nkM 1 n s l → (∀ p, l[i]? = some p → ∀ q, q ∈ l → ∀ r, r < n → q.2 ≤ nkM p.2 r) →
    ∃ B2, (∀ j, j < 40 → B2 j = B j) ∧ VB B2 (bo (nbC ps) nkM n q i l) ∧ Go X (fu + 2) mX4_spreads (13, [(0, .ref 36), (1, .int (nI f0)), (2, .int (nI 1)), (3, .int (nI i))] ++ L, [], (cc A c1 c2 c3 c4 c5 c6 c7 c8 ++ (mm B th (nI n) (nI m) co ch (nI l.length) ++ R), e)) (.inl (some (.int (nI (laM (bo (nbC ps) nkM n q i l))))), (cc A c1 c2 c3 c4 c5 c6 c7 c8 ++ (mm B2 th (nI n) (nI m) co ch (nI (bo (nbC ps) nkM n q i l).length) ++ R), e)) := by
  have fin : ∀ (l : List (Nat × Nat)) (B : Nat → Nat → Int32) (i : Nat) (L : List (Nat × Value)), (L = [] ∨ ∃ y : Nat, L = [(4, .int (nI y))]) → VB B l → BV (nbC ps) nkM 1 n s l → l.length ≤ i → i ≤ 720 → Go X (fu + 2) mX4_spreads (13, [(0, .ref 36), (1, .int (nI f0)), (2, .int (nI 1)), (3, .int (nI i))] ++ L, [], (cc A c1 c2 c3 c4 c5 c6 c7 c8 ++ (mm B th (nI n) (nI m) co ch (nI l.length) ++ R), e)) (.inl (some (.int (nI (laM l)))), (cc A c1 c2 c3 c4 c5 c6 c7 c8 ++ (mm B th (nI n) (nI m) co ch (nI l.length) ++ R), e)) := by
    intro l B i L hL hV hB hl hi
    have h0 := idx_lt hB.2.2.1
    obtain ⟨z, e1⟩ : ∃ z, l[l.length - 1]? = some z := ⟨_, List.getElem?_eq_getElem (by omega)⟩
    have e2 : laM l = z.2 := by
      unfold laM
      rw [List.getLast?_eq_getElem?, e1]
    have hm := List.mem_of_getElem? e1
    have ip := hB.2.1 _ hm
    have lp := row_lt ip
    have h41 := hV.2.1 _ _ e1
    have h40 : B 40 z.1 = nI z.2 := by rw [hV.1 _ ip, lk_of (k := z.2) hB.1 hm]; rfl
    rw [e2]
    rcases hL with rfl | ⟨y, rfl⟩
    · show Go X (fu + 2) mX4_spreads (13, [(0, .ref 36), (1, .int (nI f0)), (2, .int (nI 1)), (3, .int (nI i))], [], _) _
      repeat (first
        | exact go_ret rfl rfl rfl rfl
        | exact go_end rfl rfl rfl rfl
        | refine go_add rfl ?_
        | refine go_mul rfl ?_
        | refine go_sub rfl (by omega) ?_
        | refine go_inc rfl rfl rfl rfl rfl ?_
        | refine go_dec rfl rfl rfl (by omega) rfl rfl ?_
        | refine go_wrth rfl (by omega) ?_
        | refine go_ial rfl rfl (by first | omega | exact ⟨dg_lt _ _, by omega⟩) (h41) ?_
        | refine go_ial rfl rfl (by first | omega | exact ⟨dg_lt _ _, by omega⟩) (h40) ?_
        | refine go_div rfl (by omega) ?_
        | refine go_rem rfl (by omega) ?_
        | refine go_icT rfl (by dsimp only [ncd]; omega) ?_
        | refine go_icF rfl (by dsimp only [ncd]; omega) ?_
        | refine go_ifT rfl (by dsimp only [ncd]; omega) ?_
        | refine go_ifF rfl (by dsimp only [ncd]; omega) ?_
        | refine go_ift rfl (by decide) ?_
        | refine go_s rfl ?_
        )
    · show Go X (fu + 2) mX4_spreads (13, [(0, .ref 36), (1, .int (nI f0)), (2, .int (nI 1)), (3, .int (nI i)), (4, .int (nI y))], [], _) _
      repeat (first
        | exact go_ret rfl rfl rfl rfl
        | exact go_end rfl rfl rfl rfl
        | refine go_add rfl ?_
        | refine go_mul rfl ?_
        | refine go_sub rfl (by omega) ?_
        | refine go_inc rfl rfl rfl rfl rfl ?_
        | refine go_dec rfl rfl rfl (by omega) rfl rfl ?_
        | refine go_wrth rfl (by omega) ?_
        | refine go_ial rfl rfl (by first | omega | exact ⟨dg_lt _ _, by omega⟩) (h41) ?_
        | refine go_ial rfl rfl (by first | omega | exact ⟨dg_lt _ _, by omega⟩) (h40) ?_
        | refine go_div rfl (by omega) ?_
        | refine go_rem rfl (by omega) ?_
        | refine go_icT rfl (by dsimp only [ncd]; omega) ?_
        | refine go_icF rfl (by dsimp only [ncd]; omega) ?_
        | refine go_ifT rfl (by dsimp only [ncd]; omega) ?_
        | refine go_ifF rfl (by dsimp only [ncd]; omega) ?_
        | refine go_ift rfl (by decide) ?_
        | refine go_s rfl ?_
        )
  intro q
  induction q with
  | zero =>
    intro i l B L hL hi hM hV hB hu
    have hl7 := len_720 hB.1 hB.2.1
    exact ⟨B, fun _ _ => rfl, hV, fin l B i L hL hV hB (by omega) (by omega)⟩
  | succ q ih =>
    intro i l B L hL hi hM hV hB hu
    have hl7 := len_720 hB.1 hB.2.1
    rw [bo]
    cases e1 : l[i]? with
    | none =>
      have l1 : l.length ≤ i := by
        rw [List.getElem?_eq_none_iff] at e1
        exact e1
      exact ⟨B, fun _ _ => rfl, hV, fin l B i L hL hV hB l1 (by omega)⟩
    | some p =>
      have il := idx_lt e1
      have hg : ∀ r, r < n → isRow (ps r) := fun r hr => hM.2.2.1 r hr
      have hK := KM_M (n := n)
      obtain ⟨B2, k2, hV2, G3⟩ := sp_in1 (X := X) (fu := fu) (e := e) (A := A) (c1 := c1) (c2 := c2) (c3 := c3) (c4 := c4) (c5 := c5) (c6 := c6) (c7 := c7) (c8 := c8) (th := th) (co := co) (ch := ch) (R := R) (n := n) (m := m) (ps := ps) (len := len) (pr := pr) (f0 := f0) (i := i) (s := s) (p := p) n 0 l B (by omega) hM hV hB e1 (fun q hq r2 _ h2 => hu p e1 q hq r2 h2)
      obtain ⟨f1, f2, f3, f4⟩ := BV_in (s := s) hK (nb_row hg) n 0 l (by omega) hB e1 (fun q hq r2 _ h2 => hu p e1 q hq r2 h2)
      obtain ⟨B3, k3, hV3, G4⟩ := ih (i + 1) _ B2 [(4, .int (nI n))] (Or.inr ⟨_, rfl⟩) (by omega) (MR_keep hM k2) hV2 f1 (fun p2 hp2 q hq r hr => by
        have s1 := f1.2.2.2.1 i (i + 1) p p2 (by omega) (f2.2 _ _ e1) hp2
        have s2 := (f1.2.2.2.2.1 (i + 1) p2 (by omega) hp2).1
        rcases f4 q hq with hq | ⟨r2, hr2, hq⟩
        · refine Nat.le_trans (hu p e1 q hq r hr) ?_
          by_cases e6 : p.2 = p2.2
          · rw [e6]; exact Nat.le_refl _
          · exact hK.2.1 _ _ _ _ hr hr s2 (by omega)
        · rw [hq]
          by_cases e6 : p.2 = p2.2
          · rw [e6, hK.2.2.2 _ _ _ s2 hr2 hr]; exact Nat.le_refl _
          · exact hK.2.1 _ _ _ _ hr2 hr s2 (by omega))
      refine ⟨B3, fun j hj => (k3 j hj).trans (k2 j hj), hV3, ?_⟩
      have G5 := G3 (.inl (some (.int (nI (laM (bo (nbC ps) nkM n q (i + 1) (bi (nbC ps) nkM p.1 p.2 n 0 l)))))), (cc A c1 c2 c3 c4 c5 c6 c7 c8 ++ (mm B3 th (nI n) (nI m) co ch (nI (bo (nbC ps) nkM n q (i + 1) (bi (nbC ps) nkM p.1 p.2 n 0 l)).length) ++ R), e)) (by
        repeat (first
          | exact G4
          | exact go_ret rfl rfl rfl rfl
          | exact go_end rfl rfl rfl rfl
          | refine go_add rfl ?_
          | refine go_mul rfl ?_
          | refine go_sub rfl (by omega) ?_
          | refine go_inc rfl rfl rfl rfl rfl ?_
          | refine go_dec rfl rfl rfl (by omega) rfl rfl ?_
          | refine go_wrth rfl (by omega) ?_
          | refine go_div rfl (by omega) ?_
          | refine go_rem rfl (by omega) ?_
          | refine go_icT rfl (by dsimp only [ncd]; omega) ?_
          | refine go_icF rfl (by dsimp only [ncd]; omega) ?_
          | refine go_ifT rfl (by dsimp only [ncd]; omega) ?_
          | refine go_ifF rfl (by dsimp only [ncd]; omega) ?_
          | refine go_ift rfl (by decide) ?_
          | refine go_s rfl ?_
          ))
      rcases hL with rfl | ⟨y, rfl⟩
      · show Go X (fu + 2) mX4_spreads (13, [(0, .ref 36), (1, .int (nI f0)), (2, .int (nI 1)), (3, .int (nI i))], [], _) _
        repeat (first
          | exact G5
          | exact go_ret rfl rfl rfl rfl
          | exact go_end rfl rfl rfl rfl
          | refine go_add rfl ?_
          | refine go_mul rfl ?_
          | refine go_sub rfl (by omega) ?_
          | refine go_inc rfl rfl rfl rfl rfl ?_
          | refine go_dec rfl rfl rfl (by omega) rfl rfl ?_
          | refine go_wrth rfl (by omega) ?_
          | refine go_div rfl (by omega) ?_
          | refine go_rem rfl (by omega) ?_
          | refine go_icT rfl (by dsimp only [ncd]; omega) ?_
          | refine go_icF rfl (by dsimp only [ncd]; omega) ?_
          | refine go_ifT rfl (by dsimp only [ncd]; omega) ?_
          | refine go_ifF rfl (by dsimp only [ncd]; omega) ?_
          | refine go_ift rfl (by decide) ?_
          | refine go_s rfl ?_
          )
      · show Go X (fu + 2) mX4_spreads (13, [(0, .ref 36), (1, .int (nI f0)), (2, .int (nI 1)), (3, .int (nI i)), (4, .int (nI y))], [], _) _
        repeat (first
          | exact G5
          | exact go_ret rfl rfl rfl rfl
          | exact go_end rfl rfl rfl rfl
          | refine go_add rfl ?_
          | refine go_mul rfl ?_
          | refine go_sub rfl (by omega) ?_
          | refine go_inc rfl rfl rfl rfl rfl ?_
          | refine go_dec rfl rfl rfl (by omega) rfl rfl ?_
          | refine go_wrth rfl (by omega) ?_
          | refine go_div rfl (by omega) ?_
          | refine go_rem rfl (by omega) ?_
          | refine go_icT rfl (by dsimp only [ncd]; omega) ?_
          | refine go_icF rfl (by dsimp only [ncd]; omega) ?_
          | refine go_ifT rfl (by dsimp only [ncd]; omega) ?_
          | refine go_ifF rfl (by dsimp only [ncd]; omega) ?_
          | refine go_ift rfl (by decide) ?_
          | refine go_s rfl ?_
          )
theorem n_spreads1 {l : List (Nat × Nat)} (hM : MR B n ps m len pr) (hV : VB B l) {s : Nat} (is : isRow s) : ∃ B2, (∀ j, j < 40 → B2 j = B j) ∧ VB B2 (bfs (nbC ps) nkM n s) ∧ Go X (fu + 2) mX4_spreads (0, [(0, .ref 36), (1, .int (nI s)), (2, .int (nI 1))], [], (cc A c1 c2 c3 c4 c5 c6 c7 c8 ++ (mm B th (nI n) (nI m) co ch (nI l.length) ++ R), e)) (.inl (some (.int (nI (laM (bfs (nbC ps) nkM n s))))), (cc A c1 c2 c3 c4 c5 c6 c7 c8 ++ (mm B2 th (nI n) (nI m) co ch (nI (bfs (nbC ps) nkM n s).length) ++ R), e)) := by
  obtain ⟨B1, k1, hV1, G1⟩ := n_forget (X := X) (fu := fu + 1) (e := e) (A := A) (c1 := c1) (c2 := c2) (c3 := c3) (c4 := c4) (c5 := c5) (c6 := c6) (c7 := c7) (c8 := c8) (th := th) (co := co) (ch := ch) (R := R) (n := n) (m := m) hV
  obtain ⟨B2, k2, hV2, G2⟩ := n_comes (X := X) (fu := fu + 1) (e := e) (A := A) (c1 := c1) (c2 := c2) (c3 := c3) (c4 := c4) (c5 := c5) (c6 := c6) (c7 := c7) (c8 := c8) (th := th) (co := co) (ch := ch) (R := R) (n := n) (m := m) hV1 is (k := 0) (by omega)
  have kb : ∀ j, j < 40 → B2 j = B j := fun j hj => (k2 j (by omega) (by omega)).trans (k1 j (by omega))
  obtain ⟨B3, k3, hV3, G3⟩ := sp_out1 (X := X) (fu := fu) (e := e) (A := A) (c1 := c1) (c2 := c2) (c3 := c3) (c4 := c4) (c5 := c5) (c6 := c6) (c7 := c7) (c8 := c8) (th := th) (co := co) (ch := ch) (R := R) (n := n) (m := m) (ps := ps) (len := len) (pr := pr) (s := s) (f0 := s) 720 0 [(s, 0)] B2 [] (Or.inl rfl) (by omega) (MR_keep hM kb) hV2 (BV_0 is) (fun p hp q hq r hr => by
    have e1 : q = (s, 0) := by simpa using hq
    rw [e1]
    exact Nat.zero_le _)
  refine ⟨B3, fun j hj => (k3 j hj).trans (kb j hj), hV3, ?_⟩
  repeat (first
    | exact G3
    | exact go_ret rfl rfl rfl rfl
    | exact go_end rfl rfl rfl rfl
    | refine go_add rfl ?_
    | refine go_mul rfl ?_
    | refine go_sub rfl (by omega) ?_
    | refine go_inc rfl rfl rfl rfl rfl ?_
    | refine go_dec rfl rfl rfl (by omega) rfl rfl ?_
    | refine go_wrth rfl (by omega) ?_
    | refine go_div rfl (by omega) ?_
    | refine go_rem rfl (by omega) ?_
    | refine go_cn rfl rfl rfl rfl rfl G1 ?_
    | refine go_ci rfl rfl rfl rfl rfl G2 ?_
    | refine go_icT rfl (by dsimp only [ncd]; omega) ?_
    | refine go_icF rfl (by dsimp only [ncd]; omega) ?_
    | refine go_ifT rfl (by dsimp only [ncd]; omega) ?_
    | refine go_ifF rfl (by dsimp only [ncd]; omega) ?_
    | refine go_ift rfl (by decide) ?_
    | refine go_s rfl ?_
    )
/-- the reference's rows from c on are the class's, seen from c -/
theorem FL_map (hn : n ≤ 8) (hp : ∀ r, r < n → isRow (ps r)) (ic : isRow c) : bfs (nbC (fun r => inv (ps r))) nkM n c = (WL n ps).map (im (cmp c) (fun k => k / 8)) := by
  have h := bo_map (nb := nbC (fun r => inv (ps r))) (nk := nkC) (nb2 := nbC (fun r => inv (ps r))) (nk2 := nkM) (n := n) (F := cmp c) (K := fun k => k / 8)
    (fun x y hx hy e => cmp_cancel_l hx hy ic e) (nb_row (fun r hr => inv_row (hp r hr))) (fun x r hx hr => (cmp_assoc _ _ _).symm) (fun k r hr => by
      unfold nkC nkM
      split <;> omega) 720 0 [(R0, 0)] (fun q hq => by
      have e1 : q = (R0, 0) := by simpa using hq
      rw [e1]; exact R0_row)
  have e2 : [(R0, 0)].map (im (cmp c) (fun k => k / 8)) = [(c, 0)] := by
    show [(cmp c R0, 0 / 8)] = [(c, 0)]
    rw [cmp_R0 (row_lt ic)]
  rw [e2] at h
  exact h
theorem WL_rows (hn : n ≤ 8) (hp : ∀ r, r < n → isRow (ps r)) : ∀ q, q ∈ WL n ps → isRow q.1 :=
  (bfs_ok (nb := nbC (fun r => inv (ps r))) (nk := nkC) (lo := 8) (n := n) (s := R0) (KM_C hn) (nb_row (fun r hr => inv_row (hp r hr))) R0_row).1.2.1
theorem FL_lk (hn : n ≤ 8) (hp : ∀ r, r < n → isRow (ps r)) (ic : isRow c) {its : Nat} (ii : isRow its) : fwM (lk (bfs (nbC (fun r => inv (ps r))) nkM n c) its) = fwD (lk (WL n ps) (cmp (inv c) its)) := by
  have e1 : its = cmp c (cmp (inv c) its) := by rw [← cmp_assoc, (cmp_inv ic).1, R0_cmp (row_lt ii)]
  have e2 := lk_map (F := cmp c) (K := fun k => k / 8) (fun x y hx hy e => cmp_cancel_l hx hy ic e) (cmp_row (inv_row ic) ii) (WL n ps) (WL_rows hn hp)
  rw [← e1, ← FL_map hn hp ic] at e2
  rw [e2]
  cases lk (WL n ps) (cmp (inv c) its) <;> rfl
theorem FL_len (hn : n ≤ 8) (hp : ∀ r, r < n → isRow (ps r)) (ic : isRow c) : (bfs (nbC (fun r => inv (ps r))) nkM n c).length = (WL n ps).length := by
  rw [FL_map hn hp ic, List.length_map]
theorem FL_la (hn : n ≤ 8) (hp : ∀ r, r < n → isRow (ps r)) (ic : isRow c) : laM (bfs (nbC (fun r => inv (ps r))) nkM n c) = laD (WL n ps) := by
  rw [FL_map hn hp ic]
  unfold laM laD
  rw [List.getLast?_map]
  cases (WL n ps).getLast? <;> rfl
theorem FL_su (hn : n ≤ 8) (hp : ∀ r, r < n → isRow (ps r)) (ic : isRow c) : suM (bfs (nbC (fun r => inv (ps r))) nkM n c) = suD (WL n ps) := by
  rw [FL_map hn hp ic]
  unfold suM suD
  rw [List.map_map]
  rfl
end SPREAD
