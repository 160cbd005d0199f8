/-! ===== the law from its entry to its loop ===== -/
theorem cc_set {A : Nat → Nat → Int32} {c1 c2 c3 c4 c5 c6 c7 c8 : Int32} {u : Nat} {T : List zC} {y : zC} : (cc A c1 c2 c3 c4 c5 c6 c7 c8 ++ T).set (36 + u) y = cc A c1 c2 c3 c4 c5 c6 c7 c8 ++ T.set u y := by
  rw [List.set_append_right _ _ (by rw [cc_len]; omega), cc_len, show 36 + u - 36 = u by omega]
/-- the law's rules, by places behind the class's cells -/
def RT (T : List zC) (n : Nat) (G : Nat → Option Nat) (ps : Nat → Nat) : Prop := T[0]? = some (aA n G) ∧ ∀ i, i < n → ∃ q f, G i = some (36 + q) ∧ T[q]? = some (aI 6 f) ∧ rw6 f (ps i) ∧ isRow (ps i)
theorem RT_of {A : Nat → Nat → Int32} {c1 c2 c3 c4 c5 c6 c7 c8 : Int32} {T : List zC} {n : Nat} {G : Nat → Option Nat} {ps : Nat → Nat} (h : RA (cc A c1 c2 c3 c4 c5 c6 c7 c8 ++ T) 36 n n G ps) : RT T n G ps := by
  have key : ∀ q y, 36 ≤ q → (cc A c1 c2 c3 c4 c5 c6 c7 c8 ++ T)[q]? = some y → T[q - 36]? = some y := fun q y hq hy => by
    rw [List.getElem?_append_right (by rw [cc_len]; exact hq), cc_len] at hy
    exact hy
  refine ⟨key 36 _ (Nat.le_refl _) h.1, fun i hi => ?_⟩
  obtain ⟨q, f, h1, h2, h3, h4⟩ := h.2 i hi
  exact ⟨q - 36, f, by rw [h2]; congr 1; omega, key q _ (by omega) h3, h4⟩
section START
variable {X : zX} {e n m c kp u9 lp : Nat} {A : Nat → Nat → Int32} {ch rd mo sm mk : Int32} {T Ty : List zC} {G Gp : Nat → Option Nat} {ps len : Nat → Nat} {pr : Nat → Nat → Nat}
set_option maxRecDepth 20000 in
theorem s_rules (hn : n ≤ 6) (hT : RT T n G ps) : ∀ (j k : Nat) (A : Nat → Nat → Int32), k + j = n → CP A k ps 0 len pr → ∃ A2, CP A2 n ps 0 len pr ∧ A2 19 = A 19 ∧ ∀ oo, Go X 9 mL_law (42, [(0, .retAddr 0), (1, .ref 0), (2, .ref 36), (3, .int (nI n))], [], (cc A2 (nI n) (nI 0) ch (nI 0) rd mo sm mk ++ T, e)) oo → Go X 9 mL_law (17, [(0, .retAddr 0), (1, .ref 0), (2, .ref 36), (3, .int (nI k))], [], (cc A (nI k) (nI 0) ch (nI 0) rd mo sm mk ++ T, e)) oo := by
  intro j
  induction j with
  | zero =>
    intro k A hk hC
    obtain rfl : k = n := hk
    refine ⟨A, hC, rfl, fun oo K => ?_⟩
    refine go_s rfl ?_
    refine go_s rfl ?_
    refine go_alA rfl (cc_at hT.1) ?_
    refine go_icT rfl (by dsimp only [ncd]; omega) ?_
    exact K
  | succ j ih =>
    intro k A hk hC
    obtain ⟨q, f, g1, g2, g3, g4⟩ := hT.2 k (by omega)
    obtain ⟨A1, k1, x1, G1⟩ := l_rule (X := X) (fu := 5) (e := e) (ch := ch) (wf := nI 0) (rd := rd) (mo := mo) (sm := sm) (mk := mk) (R := T) hC (by omega) g4 (cc_at g2) g3
    have C1 : CP A1 (k + 1) ps 0 len pr := by
      obtain ⟨d1, d2, d3, d4, d5⟩ := hC
      refine ⟨by omega, d2, fun i hi => ?_, by rw [k1 17 (by omega)]; exact d4, fun i hi => ?_⟩
      · by_cases e1 : i = k
        · subst e1; exact ⟨x1, g4⟩
        · rw [k1 (2 + i) (by omega)]; exact d3 i (by omega)
      · rw [k1 (11 + i) (by omega)]
        obtain ⟨z1, z2, z3⟩ := d5 i hi
        exact ⟨z1, z2, fun i2 hi2 => Nat.lt_succ_of_lt (z3 i2 hi2)⟩
    obtain ⟨A2, C2, k2, F2⟩ := ih (k + 1) A1 (by omega) C1
    refine ⟨A2, C2, k2.trans (k1 19 (by omega)), fun oo K => ?_⟩
    have K2 := F2 oo K
    refine go_s rfl ?_
    refine go_s rfl ?_
    refine go_alA rfl (cc_at hT.1) ?_
    refine go_icF rfl (by dsimp only [ncd]; omega) ?_
    refine go_s rfl ?_
    refine go_s rfl ?_
    refine go_s rfl ?_
    refine go_aal rfl (cc_at hT.1) (by omega) g1 ?_
    refine go_ci rfl rfl rfl rfl rfl G1 ?_
    refine go_s rfl ?_
    refine go_icT rfl (by dsimp only [ncd]; omega) ?_
    refine go_inc rfl rfl rfl rfl rfl ?_
    refine go_s rfl ?_
    exact K2
set_option maxRecDepth 20000 in
theorem s_add {p : Nat} (hX : X.1 ≤ 260) (hp3 : p < m) (hm3 : m ≤ 3) (hlp : lp ≤ 30) (hT0 : Ty[0]? = some (aA n G)) (hn0 : 0 < lp → 0 < n) (hu : Ty[u9]? = some (aA m Gp)) (hG : Gp p = some (36 + Ty.length)) : ∀ (j k : Nat) (A : Nat → Nat → Int32) (f : Nat → Int32) (len : Nat → Nat) (pr : Nat → Nat → Nat), k + j = lp → CP A n ps (p + 1) len pr → len p = k → hold k f (pr p) → ∃ A2 f2 len2 pr2, CP A2 n ps (p + 1) len2 pr2 ∧ A2 19 = A 19 ∧ len2 p = lp ∧ hold lp f2 (pr2 p) ∧ (∀ i, i ≠ p → len2 i = len i ∧ pr2 i = pr i) ∧ ∀ oo, Go X 9 mL_law (177, [(0, .retAddr 0), (1, .ref 0), (2, .ref 36), (3, .ref (36 + u9)), (4, .int (nI p)), (5, .int (nI lp))], [], (cc A2 (nI n) (nI (p + 1)) ch (nI 0) rd mo sm mk ++ (Ty ++ [aI lp f2]), e)) oo → Go X 9 mL_law (109, [(0, .retAddr 0), (1, .ref 0), (2, .ref 36), (3, .ref (36 + u9)), (4, .int (nI p)), (5, .int (nI k))], [], (cc A (nI n) (nI (p + 1)) ch (nI 0) rd mo sm mk ++ (Ty ++ [aI lp f]), e)) oo := by
  intro j
  induction j with
  | zero =>
    intro k A f len pr hk hC hl hh
    obtain rfl : k = lp := hk
    refine ⟨A, f, len, pr, hC, rfl, hl, hh, fun i _ => ⟨rfl, rfl⟩, fun oo K => ?_⟩
    refine go_s rfl ?_
    refine go_s rfl ?_
    refine go_s rfl ?_
    refine go_aal rfl (cc_at (get_app hu)) (by omega) hG ?_
    refine go_alen rfl (cc_at (last_get Ty _ rfl)) ?_
    refine go_icT rfl (by dsimp only [ncd]; omega) ?_
    exact K
  | succ j ih =>
    intro k A f len pr hk hC hl hh
    have hn := hn0 (by omega)
    have hn8 := hC.1
    have C1 := l_cell (X := X) (fu := 8) (h := (cc A (nI n) (nI (p + 1)) ch (nI 0) rd mo sm mk ++ (Ty ++ [aI lp f]), e)) (k := 11 + p) hX (by omega)
    obtain ⟨z, hz⟩ : ∃ z, z = cel X (11 + p) >>> (nI (k % 20) &&& 31) := ⟨_, rfl⟩
    have B := l_below (X := X) (fu := 8) (h := (cc A (nI n) (nI (p + 1)) ch (nI 0) rd mo sm mk ++ (Ty ++ [aI lp f]), e)) (x := z + nI k) (n := n) (by omega)
    have hr := blw_lt (z + nI k) (n := n) (by omega)
    generalize blw (z + nI k) n = r at B hr
    obtain ⟨A1, k1, C2, G1⟩ := m_add_t (X := X) (fu := 6) (e := e) (ch := ch) (wf := nI 0) (rd := rd) (mo := mo) (sm := sm) (mk := mk) (R := Ty ++ [aI lp (upd f k (nI r))]) hC (p := p) (by omega) hr (by omega)
    rw [hl] at C2 G1
    have hl2 : upN len p (k + 1) p = k + 1 := if_pos rfl
    have hh2 : hold (k + 1) (upd f k (nI r)) (upP pr p k r p) := by
      intro i hi
      by_cases e1 : i = k
      · subst e1
        rw [pk_us]
        show nI r = nI (if p = p then (if i = i then r else pr p i) else pr p i)
        rw [if_pos rfl, if_pos rfl]
      · rw [pk_un e1]
        show f i = nI (if p = p then (if i = k then r else pr p i) else pr p i)
        rw [if_pos rfl, if_neg e1]
        exact hh i (by omega)
    obtain ⟨A2, f2, len2, pr2, D1, D2, D3, D4, D5, F2⟩ := ih (k + 1) A1 (upd f k (nI r)) (upN len p (k + 1)) (upP pr p k r) (by omega) C2 hl2 hh2
    refine ⟨A2, f2, len2, pr2, D1, D2.trans (k1 19 (by omega) (by omega)), D3, D4, fun i hi => ?_, fun oo K => ?_⟩
    · obtain ⟨y1, y2⟩ := D5 i hi
      refine ⟨y1.trans (if_neg hi), y2.trans ?_⟩
      funext k2
      exact if_neg hi
    · have K2 := F2 oo K
      refine go_s rfl ?_
      refine go_s rfl ?_
      refine go_s rfl ?_
      refine go_aal rfl (cc_at (get_app hu)) (by omega) hG ?_
      refine go_alen rfl (cc_at (last_get Ty _ rfl)) ?_
      refine go_icF rfl (by dsimp only [ncd]; omega) ?_
      refine go_s rfl ?_
      refine go_s rfl ?_
      refine go_aal rfl (cc_at (get_app hu)) (by omega) hG ?_
      refine go_s rfl ?_
      refine go_s rfl ?_
      refine go_s rfl ?_
      refine go_s rfl ?_
      refine go_add rfl ?_
      refine go_ci rfl rfl rfl rfl rfl C1 ?_
      refine go_s rfl ?_
      refine go_s rfl ?_
      refine go_rem rfl (by omega) ?_
      refine go_s rfl ?_
      rw [← hz]
      refine go_s rfl ?_
      refine go_s rfl ?_
      refine go_s rfl ?_
      refine go_alA rfl (cc_at (get_app hT0)) ?_
      refine go_ci rfl rfl rfl rfl rfl B ?_
      refine go_iash rfl (cc_at (last_get Ty _ rfl)) (by omega) (cc_set.trans (congrArg (fun z => cc A (nI n) (nI (p + 1)) ch (nI 0) rd mo sm mk ++ z) (last_set Ty _ _ rfl))) ?_
      refine go_s rfl ?_
      refine go_s rfl ?_
      refine go_s rfl ?_
      refine go_s rfl ?_
      refine go_aal rfl (cc_at (get_app hu)) (by omega) hG ?_
      refine go_s rfl ?_
      refine go_ial (v := r) rfl (cc_at (last_get Ty _ rfl)) (by omega) pk_us ?_
      refine go_ci rfl rfl rfl rfl rfl G1 ?_
      refine go_s rfl ?_
      refine go_s rfl ?_
      refine go_add rfl ?_
      refine go_icT rfl (by dsimp only [ncd]; omega) ?_
      refine go_inc rfl rfl rfl rfl rfl ?_
      refine go_s rfl ?_
      exact K2
set_option maxRecDepth 20000 in
theorem s_peals (hX : X.1 ≤ 260) (hn : n ≤ 6) (hm3 : m ≤ 3) : ∀ (j p : Nat) (A : Nat → Nat → Int32) (T : List zC) (Gp : Nat → Option Nat) (len : Nat → Nat) (pr : Nat → Nat → Nat), p + j = m → CP A n ps p len pr → (∀ i, p ≤ i → len i = 0) → T[0]? = some (aA n G) → 0 < u9 → PT T u9 m Gp len pr p → ∃ A2 T2 Gp2 len2 pr2, CP A2 n ps m len2 pr2 ∧ A2 19 = A 19 ∧ T2[0]? = some (aA n G) ∧ PT T2 u9 m Gp2 len2 pr2 m ∧ T2.length ≤ T.length + j ∧ zsz T2 ≤ zsz T + 30 * j ∧ ∀ oo, Go X 9 mL_law (183, [(0, .retAddr 0), (1, .ref 0), (2, .ref 36), (3, .ref (36 + u9)), (4, .int (nI m))], [], (cc A2 (nI n) (nI m) ch (nI 0) rd mo sm mk ++ T2, e)) oo → Go X 9 mL_law (59, [(0, .retAddr 0), (1, .ref 0), (2, .ref 36), (3, .ref (36 + u9)), (4, .int (nI p))], [], (cc A (nI n) (nI p) ch (nI 0) rd mo sm mk ++ T, e)) oo := by
  intro j
  induction j with
  | zero =>
    intro p A T Gp len pr hp hC h0 hT0 hu0 hP
    obtain rfl : p = m := hp
    refine ⟨A, T, Gp, len, pr, hC, rfl, hT0, hP, Nat.le_refl _, Nat.le_refl _, fun oo K => ?_⟩
    refine go_s rfl ?_
    refine go_s rfl ?_
    refine go_alA rfl (cc_at hP.1) ?_
    refine go_icT rfl (by dsimp only [ncd]; omega) ?_
    exact K
  | succ j ih =>
    intro p A T Gp len pr hp hC h0 hT0 hu0 hP
    have ht : u9 < T.length := get_lt hP.1
    have C1 : CP A n ps (p + 1) len pr := ⟨hC.1, by omega, hC.2.2⟩
    have G1 := m_peal_t (X := X) (fu := 7) (e := e) (A := A) (n := n) (m := p) (ch := ch) (wf := nI 0) (rd := rd) (mo := mo) (sm := sm) (mk := mk) (R := T) (by omega)
    obtain ⟨Ty, hTy⟩ : ∃ Ty, Ty = T.set u9 (aA m (va_up Gp p (some (36 + T.length)))) := ⟨_, rfl⟩
    have hl : Ty.length = T.length := by rw [hTy, List.length_set]
    have hu : Ty[u9]? = some (aA m (va_up Gp p (some (36 + T.length)))) := by rw [hTy, List.getElem?_set_self ht]
    have hTy0 : Ty[0]? = some (aA n G) := by rw [hTy, List.getElem?_set_ne (by omega), hT0]
    have key : ∀ lp, lp ≤ 30 → (0 < lp → 0 < n) → ∃ A2 T2 Gp2 len2 pr2, CP A2 n ps m len2 pr2 ∧ A2 19 = A 19 ∧ T2[0]? = some (aA n G) ∧ PT T2 u9 m Gp2 len2 pr2 m ∧ T2.length ≤ T.length + (j + 1) ∧ zsz T2 ≤ zsz T + 30 * (j + 1) ∧ ∀ oo, Go X 9 mL_law (183, [(0, .retAddr 0), (1, .ref 0), (2, .ref 36), (3, .ref (36 + u9)), (4, .int (nI m))], [], (cc A2 (nI n) (nI m) ch (nI 0) rd mo sm mk ++ T2, e)) oo → Go X 9 mL_law (103, [(0, .retAddr 0), (1, .ref 0), (2, .ref 36), (3, .ref (36 + u9)), (4, .int (nI p))], [.int (nI lp), .int (nI p), .ref (36 + u9)], (cc A (nI n) (nI (p + 1)) ch (nI 0) rd mo sm mk ++ T, e)) oo := by
      intro lp hlp hn0
      obtain ⟨A1, f1, len1, pr1, D1, D2, D3, D4, D5, F1⟩ := s_add (X := X) (e := e) (n := n) (m := m) (u9 := u9) (lp := lp) (ch := ch) (rd := rd) (mo := mo) (sm := sm) (mk := mk) (Ty := Ty) (G := G) (Gp := va_up Gp p (some (36 + T.length))) (ps := ps) (p := p) hX (by omega) hm3 hlp hTy0 hn0 hu (by rw [hl]; exact va_up_self _ _ _) lp 0 A (fun _ => 0) len pr (Nat.zero_add _) C1 (h0 p (Nat.le_refl _)) (fun i hi => absurd hi (Nat.not_lt_zero _))
      have P1 : PT (Ty ++ [aI lp f1]) u9 m (va_up Gp p (some (36 + T.length))) len1 pr1 (p + 1) := by
        refine ⟨get_app hu, fun i hi => ?_⟩
        by_cases e1 : i = p
        · subst e1
          refine ⟨T.length, f1, va_up_self _ _ _, ?_, ?_⟩
          · rw [D3]; exact last_get Ty _ hl
          · rw [D3]; exact D4
        · obtain ⟨q, g, q1, q2, q3⟩ := hP.2 i (by omega)
          obtain ⟨y1, y2⟩ := D5 i e1
          have hq : q ≠ u9 := by
            intro z
            subst z
            rw [hP.1] at q2
            cases q2
          refine ⟨q, g, (va_up_ne _ _ e1).trans q1, get_app ?_, ?_⟩
          · rw [hTy, List.getElem?_set_ne (fun z => hq z.symm), q2, y1]
          · rw [y1, y2]; exact q3
      obtain ⟨A2, T2, Gp2, len2, pr2, E1, E2, E3, E4, E5, E6, F2⟩ := ih (p + 1) A1 (Ty ++ [aI lp f1]) (va_up Gp p (some (36 + T.length))) len1 pr1 (by omega) D1 (fun i hi => by rw [(D5 i (by omega)).1]; exact h0 i (by omega)) (get_app hTy0) hu0 P1
      have hz1 : zsz (Ty ++ [aI lp f1]) = zsz T + lp := by
        rw [zsz_app, hTy, zsz_set (c2 := aA m (va_up Gp p (some (36 + T.length)))) hP.1 rfl]
        rfl
      have hl1 : (Ty ++ [aI lp f1]).length = T.length + 1 := by rw [List.length_append, hl]; rfl
      refine ⟨A2, T2, Gp2, len2, pr2, E1, E2.trans D2, E3, E4, by omega, by omega, fun oo K => ?_⟩
      have K2 := F2 oo K
      have K1 := F1 oo (go_inc rfl rfl rfl rfl rfl (go_s rfl K2))
      refine go_nwaE (p := 36 + T.length) (H2 := cc A (nI n) (nI (p + 1)) ch (nI 0) rd mo sm mk ++ (T ++ [aI lp (fun _ => 0)])) rfl (by omega) (by rw [List.length_append, cc_len]) (by rw [List.append_assoc]) ?_
      refine go_aas (n := m) (g := Gp) (H2 := cc A (nI n) (nI (p + 1)) ch (nI 0) rd mo sm mk ++ (Ty ++ [aI lp (fun _ => 0)])) rfl (cc_at (get_app hP.1)) (cc_at (last_get T _ rfl)) (by omega) (by rw [cc_set, set_app ht, hTy]) ?_
      refine go_s rfl ?_
      refine go_s rfl ?_
      exact K1
    have C9 := l_cell (X := X) (fu := 8) (h := (cc A (nI n) (nI (p + 1)) ch (nI 0) rd mo sm mk ++ T, e)) (k := 10 + p) hX (by omega)
    have B9 := l_below (X := X) (fu := 8) (h := (cc A (nI n) (nI (p + 1)) ch (nI 0) rd mo sm mk ++ T, e)) (x := cel X (10 + p)) (n := 31) (by omega)
    have hb := blw_lt (cel X (10 + p)) (n := 31) (by omega)
    by_cases hz : n = 0
    · obtain ⟨A2, T2, Gp2, len2, pr2, E1, E2, E3, E4, E5, E6, F2⟩ := key 0 (by omega) (fun z => absurd z (Nat.lt_irrefl _))
      refine ⟨A2, T2, Gp2, len2, pr2, E1, E2, E3, E4, E5, E6, fun oo K => ?_⟩
      have K2 := F2 oo K
      refine go_s rfl ?_
      refine go_s rfl ?_
      refine go_alA rfl (cc_at hP.1) ?_
      refine go_icF rfl (by dsimp only [ncd]; omega) ?_
      refine go_s rfl ?_
      refine go_ci rfl rfl rfl rfl rfl G1 ?_
      refine go_s rfl ?_
      refine go_icT rfl (by dsimp only [ncd]; omega) ?_
      refine go_s rfl ?_
      refine go_s rfl ?_
      refine go_s rfl ?_
      refine go_alA rfl (cc_at hT0) ?_
      refine go_ifF rfl (by dsimp only [ncd]; omega) ?_
      refine go_s rfl ?_
      refine go_s rfl ?_
      exact K2
    · obtain ⟨A2, T2, Gp2, len2, pr2, E1, E2, E3, E4, E5, E6, F2⟩ := key (blw (cel X (10 + p)) 31) (by omega) (fun _ => by omega)
      refine ⟨A2, T2, Gp2, len2, pr2, E1, E2, E3, E4, E5, E6, fun oo K => ?_⟩
      have K2 := F2 oo K
      refine go_s rfl ?_
      refine go_s rfl ?_
      refine go_alA rfl (cc_at hP.1) ?_
      refine go_icF rfl (by dsimp only [ncd]; omega) ?_
      refine go_s rfl ?_
      refine go_ci rfl rfl rfl rfl rfl G1 ?_
      refine go_s rfl ?_
      refine go_icT rfl (by dsimp only [ncd]; omega) ?_
      refine go_s rfl ?_
      refine go_s rfl ?_
      refine go_s rfl ?_
      refine go_alA rfl (cc_at hT0) ?_
      refine go_ifT rfl (by dsimp only [ncd]; omega) ?_
      refine go_s rfl ?_
      refine go_s rfl ?_
      refine go_s rfl ?_
      refine go_add rfl ?_
      refine go_ci rfl rfl rfl rfl rfl C9 ?_
      refine go_s rfl ?_
      refine go_ci rfl rfl rfl rfl rfl B9 ?_
      exact K2
end START
