/-! ===== the law's rules: arrays that hold rows ===== -/
/-- an array whose first k places hold arrays of rows -/
def RA (H : List zC) (kr n k : Nat) (G : Nat → Option Nat) (ps : Nat → Nat) : Prop := H[kr]? = some (aA n G) ∧ ∀ i, i < k → ∃ q f, kr < q ∧ G i = some q ∧ H[q]? = some (aI 6 f) ∧ rw6 f (ps i) ∧ isRow (ps i)
theorem RA_less {H : List zC} {kr n k j : Nat} {G : Nat → Option Nat} {ps : Nat → Nat} (h : RA H kr n k G ps) (hj : j ≤ k) : RA H kr n j G ps := ⟨h.1, fun i hi => h.2 i (by omega)⟩
theorem set_app {H : List zC} {kr : Nat} {c y : zC} (h : kr < H.length) : (H ++ [c]).set kr y = H.set kr y ++ [c] := List.set_append_left _ _ h
theorem get_app {H : List zC} {kr : Nat} {c y : zC} (h : H[kr]? = some y) : (H ++ [c])[kr]? = some y := by
  rw [List.getElem?_append_left (List.getElem?_eq_some_iff.mp h).1, h]
theorem get_lt {H : List zC} {kr : Nat} {y : zC} (h : H[kr]? = some y) : kr < H.length := (List.getElem?_eq_some_iff.mp h).1
theorem RA_put {H : List zC} {kr n k c : Nat} {G : Nat → Option Nat} {ps : Nat → Nat} {f : Nat → Int32} (h : RA H kr n k G ps) (hf : rw6 f c) (hc : isRow c) : RA (H.set kr (aA n (va_up G k (some H.length))) ++ [aI 6 f]) kr n (k + 1) (va_up G k (some H.length)) (upN ps k c) := by
  obtain ⟨h1, h2⟩ := h
  have hlt := get_lt h1
  have hl : (H.set kr (aA n (va_up G k (some H.length)))).length = H.length := List.length_set ..
  refine ⟨?_, fun i hi => ?_⟩
  · rw [List.getElem?_append_left (by rw [hl]; exact hlt), List.getElem?_set_self hlt]
  · by_cases e : i = k
    · subst e
      refine ⟨H.length, f, hlt, va_up_self _ _ _, last_get _ _ hl, ?_⟩
      rw [show upN ps i c i = c from if_pos rfl]
      exact ⟨hf, hc⟩
    · obtain ⟨q, g, q1, q2, q3, q4, q5⟩ := h2 i (by omega)
      refine ⟨q, g, q1, (va_up_ne _ _ e).trans q2, ?_, ?_⟩
      · rw [List.getElem?_append_left (by rw [hl]; exact get_lt q3), List.getElem?_set_ne (by omega), q3]
      · rw [show upN ps k c i = ps i from if_neg e]
        exact ⟨q4, q5⟩
/-- what has come behind P: an array and b others at most -/
def GRW (P : List zC) (b : Nat) (H : List zC) : Prop := ∃ T : List zC, H = P ++ T ∧ T.length ≤ 1 + b ∧ zsz T ≤ 6 + 6 * b
theorem GRW_le {P H : List zC} {b b2 : Nat} (h : GRW P b H) (hb : b ≤ b2) : GRW P b2 H := by
  obtain ⟨T, h1, h2, h3⟩ := h
  exact ⟨T, h1, by omega, by omega⟩
theorem GRW_put {P H : List zC} {b n : Nat} {G G2 : Nat → Option Nat} {f : Nat → Int32} (h : GRW P b H) (hk : H[P.length]? = some (aA n G)) : GRW P (b + 1) (H.set P.length (aA n G2) ++ [aI 6 f]) := by
  obtain ⟨T, h1, h2, h3⟩ := h
  subst h1
  have hk0 : T[0]? = some (aA n G) := by
    rw [List.getElem?_append_right (Nat.le_refl _), Nat.sub_self] at hk
    exact hk
  refine ⟨T.set 0 (aA n G2) ++ [aI 6 f], ?_, ?_, ?_⟩
  · rw [List.set_append_right _ _ (Nat.le_refl _), Nat.sub_self, List.append_assoc]
  · rw [List.length_append, List.length_set]
    show T.length + 1 ≤ _
    omega
  · rw [zsz_app, zsz_set (c2 := aA n G2) hk0 rfl]
    show zsz T + 6 ≤ _
    omega
section RULES
variable {X : zX} {fu e n k kr b : Nat} {H P : List zC} {G : Nat → Option Nat} {ps : Nat → Nat} {x : Int32}
theorem rl_c {T5 : List (Nat × Value)} (hT5 : T5 = [] ∨ ∃ z q, T5 = [(5, .int z), (6, .ref q)]) (hX : X.1 ≤ 260) (hk : k < n) (hn : n ≤ 6) (hG : GRW P b H) (hP : P.length = kr) (hR : RA H kr n (k + 1) G ps) : ∃ H2 G2 ps2, RA H2 kr n (k + 1) G2 ps2 ∧ GRW P (b + 1) H2 ∧ ∀ oo, Go X (fu + 2) mL_rules (17, [(0, .retAddr 0), (1, .int (nI 6)), (2, .ref kr), (3, .int (nI (k + 1)))], [], (H2, e)) oo → Go X (fu + 2) mL_rules (150, [(0, .retAddr 0), (1, .int (nI 6)), (2, .ref kr), (3, .int (nI k)), (4, .int x)] ++ T5, [], (H, e)) oo := by
  subst hP
  by_cases hk0 : k = 0
  · refine ⟨H, G, ps, hR, GRW_le hG (Nat.le_succ _), fun oo K => ?_⟩
    rcases hT5 with rfl | ⟨z, q, rfl⟩
    · refine go_s rfl ?_
      refine go_ifT rfl (by dsimp only [ncd]; omega) ?_
      refine go_inc rfl rfl rfl rfl rfl ?_
      refine go_s rfl ?_
      exact K
    · refine go_s rfl ?_
      refine go_ifT rfl (by dsimp only [ncd]; omega) ?_
      refine go_inc rfl rfl rfl rfl rfl ?_
      refine go_s rfl ?_
      exact K
  · have hb := blw_lt (x >>> (nI 9 &&& 31)) (n := 4) (by omega)
    have B := fun h => l_below (X := X) (fu := fu + 1) (h := h) (x := x >>> (nI 9 &&& 31)) (n := 4) (by omega)
    by_cases hz : blw (x >>> (nI 9 &&& 31)) 4 = 0
    · obtain ⟨qp, fp, p1, p2, p3, p4, p5⟩ := hR.2 (k - 1) (by omega)
      have hlt := get_lt hR.1
      have hfi := chg_row (f := fun _ => 0) (c := R0) (p := ps (k - 1)) p5
      rw [R0_dg 0 (by omega), R0_dg 1 (by omega), R0_dg 2 (by omega), R0_dg 3 (by omega), R0_dg 4 (by omega), R0_dg 5 (by omega)] at hfi
      have hRp := RA_put (RA_less hR (Nat.le_succ k)) hfi (rng_row R0_row p5)
      obtain ⟨Hx, hHx⟩ : ∃ Hx, Hx = H.set P.length (aA n (va_up G k (some H.length))) := ⟨_, rfl⟩
      have hl : Hx.length = H.length := by rw [hHx, List.length_set]
      have gk : ∀ c, (Hx ++ [c])[P.length]? = some (aA n (va_up G k (some H.length))) := fun c => get_app (by rw [hHx, List.getElem?_set_self hlt])
      have gp : ∀ c, (Hx ++ [c])[qp]? = some (aI 6 fp) := fun c => get_app (by rw [hHx, List.getElem?_set_ne (by omega), p3])
      have g1 : va_up G k (some H.length) k = some H.length := va_up_self _ _ _
      have g2 : va_up G k (some H.length) (k - 1) = some qp := (va_up_ne _ _ (by omega)).trans p2
      refine ⟨_, _, _, hRp, GRW_put hG hR.1, fun oo K => ?_⟩
      rw [← hHx] at K
      rcases hT5 with rfl | ⟨z, q, rfl⟩
      · refine go_s rfl ?_
        refine go_ifF rfl (by dsimp only [ncd]; omega) ?_
        refine go_s rfl ?_
        refine go_s rfl ?_
        refine go_s rfl ?_
        refine go_s rfl ?_
        refine go_ci rfl rfl rfl rfl rfl (B _) ?_
        refine go_ifF rfl (by dsimp only [ncd]; omega) ?_
        refine go_s rfl ?_
        refine go_s rfl ?_
        refine go_s rfl ?_
        refine go_nwaE (p := H.length) rfl (by omega) rfl rfl ?_
        refine go_aas (n := n) (g := G) (H2 := Hx ++ [aI 6 (fun _ => 0)]) rfl (get_app hR.1) (last_get H _ rfl) (by omega) (by rw [set_app hlt, hHx]) ?_
        refine go_s rfl ?_
        refine go_s rfl ?_
        refine go_s rfl ?_
        refine go_s rfl ?_
        refine go_icF rfl (by dsimp only [ncd]; omega) ?_
        refine go_s rfl ?_
        refine go_s rfl ?_
        refine go_aal rfl (gk _) (by omega) g1 ?_
        refine go_s rfl ?_
        refine go_s rfl ?_
        refine go_s rfl ?_
        refine go_sub rfl (by omega) ?_
        refine go_aal rfl (gk _) (by omega) g2 ?_
        refine go_s rfl ?_
        refine go_ial rfl (gp _) (by omega) (p4 _ (by omega)) ?_
        refine go_s rfl ?_
        refine go_iash rfl (last_get Hx _ hl) ⟨dg_lt _ _, by omega⟩ (last_set Hx _ _ hl) ?_
        refine go_inc rfl rfl rfl rfl rfl ?_
        refine go_s rfl ?_
        refine go_s rfl ?_
        refine go_s rfl ?_
        refine go_icF rfl (by dsimp only [ncd]; omega) ?_
        refine go_s rfl ?_
        refine go_s rfl ?_
        refine go_aal rfl (gk _) (by omega) g1 ?_
        refine go_s rfl ?_
        refine go_s rfl ?_
        refine go_s rfl ?_
        refine go_sub rfl (by omega) ?_
        refine go_aal rfl (gk _) (by omega) g2 ?_
        refine go_s rfl ?_
        refine go_ial rfl (gp _) (by omega) (p4 _ (by omega)) ?_
        refine go_s rfl ?_
        refine go_iash rfl (last_get Hx _ hl) ⟨dg_lt _ _, by omega⟩ (last_set Hx _ _ hl) ?_
        refine go_inc rfl rfl rfl rfl rfl ?_
        refine go_s rfl ?_
        refine go_s rfl ?_
        refine go_s rfl ?_
        refine go_icF rfl (by dsimp only [ncd]; omega) ?_
        refine go_s rfl ?_
        refine go_s rfl ?_
        refine go_aal rfl (gk _) (by omega) g1 ?_
        refine go_s rfl ?_
        refine go_s rfl ?_
        refine go_s rfl ?_
        refine go_sub rfl (by omega) ?_
        refine go_aal rfl (gk _) (by omega) g2 ?_
        refine go_s rfl ?_
        refine go_ial rfl (gp _) (by omega) (p4 _ (by omega)) ?_
        refine go_s rfl ?_
        refine go_iash rfl (last_get Hx _ hl) ⟨dg_lt _ _, by omega⟩ (last_set Hx _ _ hl) ?_
        refine go_inc rfl rfl rfl rfl rfl ?_
        refine go_s rfl ?_
        refine go_s rfl ?_
        refine go_s rfl ?_
        refine go_icF rfl (by dsimp only [ncd]; omega) ?_
        refine go_s rfl ?_
        refine go_s rfl ?_
        refine go_aal rfl (gk _) (by omega) g1 ?_
        refine go_s rfl ?_
        refine go_s rfl ?_
        refine go_s rfl ?_
        refine go_sub rfl (by omega) ?_
        refine go_aal rfl (gk _) (by omega) g2 ?_
        refine go_s rfl ?_
        refine go_ial rfl (gp _) (by omega) (p4 _ (by omega)) ?_
        refine go_s rfl ?_
        refine go_iash rfl (last_get Hx _ hl) ⟨dg_lt _ _, by omega⟩ (last_set Hx _ _ hl) ?_
        refine go_inc rfl rfl rfl rfl rfl ?_
        refine go_s rfl ?_
        refine go_s rfl ?_
        refine go_s rfl ?_
        refine go_icF rfl (by dsimp only [ncd]; omega) ?_
        refine go_s rfl ?_
        refine go_s rfl ?_
        refine go_aal rfl (gk _) (by omega) g1 ?_
        refine go_s rfl ?_
        refine go_s rfl ?_
        refine go_s rfl ?_
        refine go_sub rfl (by omega) ?_
        refine go_aal rfl (gk _) (by omega) g2 ?_
        refine go_s rfl ?_
        refine go_ial rfl (gp _) (by omega) (p4 _ (by omega)) ?_
        refine go_s rfl ?_
        refine go_iash rfl (last_get Hx _ hl) ⟨dg_lt _ _, by omega⟩ (last_set Hx _ _ hl) ?_
        refine go_inc rfl rfl rfl rfl rfl ?_
        refine go_s rfl ?_
        refine go_s rfl ?_
        refine go_s rfl ?_
        refine go_icF rfl (by dsimp only [ncd]; omega) ?_
        refine go_s rfl ?_
        refine go_s rfl ?_
        refine go_aal rfl (gk _) (by omega) g1 ?_
        refine go_s rfl ?_
        refine go_s rfl ?_
        refine go_s rfl ?_
        refine go_sub rfl (by omega) ?_
        refine go_aal rfl (gk _) (by omega) g2 ?_
        refine go_s rfl ?_
        refine go_ial rfl (gp _) (by omega) (p4 _ (by omega)) ?_
        refine go_s rfl ?_
        refine go_iash rfl (last_get Hx _ hl) ⟨dg_lt _ _, by omega⟩ (last_set Hx _ _ hl) ?_
        refine go_inc rfl rfl rfl rfl rfl ?_
        refine go_s rfl ?_
        refine go_s rfl ?_
        refine go_s rfl ?_
        refine go_icT rfl (by dsimp only [ncd]; omega) ?_
        refine go_inc rfl rfl rfl rfl rfl ?_
        refine go_s rfl ?_
        exact K
      · refine go_s rfl ?_
        refine go_ifF rfl (by dsimp only [ncd]; omega) ?_
        refine go_s rfl ?_
        refine go_s rfl ?_
        refine go_s rfl ?_
        refine go_s rfl ?_
        refine go_ci rfl rfl rfl rfl rfl (B _) ?_
        refine go_ifF rfl (by dsimp only [ncd]; omega) ?_
        refine go_s rfl ?_
        refine go_s rfl ?_
        refine go_s rfl ?_
        refine go_nwaE (p := H.length) rfl (by omega) rfl rfl ?_
        refine go_aas (n := n) (g := G) (H2 := Hx ++ [aI 6 (fun _ => 0)]) rfl (get_app hR.1) (last_get H _ rfl) (by omega) (by rw [set_app hlt, hHx]) ?_
        refine go_s rfl ?_
        refine go_s rfl ?_
        refine go_s rfl ?_
        refine go_s rfl ?_
        refine go_icF rfl (by dsimp only [ncd]; omega) ?_
        refine go_s rfl ?_
        refine go_s rfl ?_
        refine go_aal rfl (gk _) (by omega) g1 ?_
        refine go_s rfl ?_
        refine go_s rfl ?_
        refine go_s rfl ?_
        refine go_sub rfl (by omega) ?_
        refine go_aal rfl (gk _) (by omega) g2 ?_
        refine go_s rfl ?_
        refine go_ial rfl (gp _) (by omega) (p4 _ (by omega)) ?_
        refine go_s rfl ?_
        refine go_iash rfl (last_get Hx _ hl) ⟨dg_lt _ _, by omega⟩ (last_set Hx _ _ hl) ?_
        refine go_inc rfl rfl rfl rfl rfl ?_
        refine go_s rfl ?_
        refine go_s rfl ?_
        refine go_s rfl ?_
        refine go_icF rfl (by dsimp only [ncd]; omega) ?_
        refine go_s rfl ?_
        refine go_s rfl ?_
        refine go_aal rfl (gk _) (by omega) g1 ?_
        refine go_s rfl ?_
        refine go_s rfl ?_
        refine go_s rfl ?_
        refine go_sub rfl (by omega) ?_
        refine go_aal rfl (gk _) (by omega) g2 ?_
        refine go_s rfl ?_
        refine go_ial rfl (gp _) (by omega) (p4 _ (by omega)) ?_
        refine go_s rfl ?_
        refine go_iash rfl (last_get Hx _ hl) ⟨dg_lt _ _, by omega⟩ (last_set Hx _ _ hl) ?_
        refine go_inc rfl rfl rfl rfl rfl ?_
        refine go_s rfl ?_
        refine go_s rfl ?_
        refine go_s rfl ?_
        refine go_icF rfl (by dsimp only [ncd]; omega) ?_
        refine go_s rfl ?_
        refine go_s rfl ?_
        refine go_aal rfl (gk _) (by omega) g1 ?_
        refine go_s rfl ?_
        refine go_s rfl ?_
        refine go_s rfl ?_
        refine go_sub rfl (by omega) ?_
        refine go_aal rfl (gk _) (by omega) g2 ?_
        refine go_s rfl ?_
        refine go_ial rfl (gp _) (by omega) (p4 _ (by omega)) ?_
        refine go_s rfl ?_
        refine go_iash rfl (last_get Hx _ hl) ⟨dg_lt _ _, by omega⟩ (last_set Hx _ _ hl) ?_
        refine go_inc rfl rfl rfl rfl rfl ?_
        refine go_s rfl ?_
        refine go_s rfl ?_
        refine go_s rfl ?_
        refine go_icF rfl (by dsimp only [ncd]; omega) ?_
        refine go_s rfl ?_
        refine go_s rfl ?_
        refine go_aal rfl (gk _) (by omega) g1 ?_
        refine go_s rfl ?_
        refine go_s rfl ?_
        refine go_s rfl ?_
        refine go_sub rfl (by omega) ?_
        refine go_aal rfl (gk _) (by omega) g2 ?_
        refine go_s rfl ?_
        refine go_ial rfl (gp _) (by omega) (p4 _ (by omega)) ?_
        refine go_s rfl ?_
        refine go_iash rfl (last_get Hx _ hl) ⟨dg_lt _ _, by omega⟩ (last_set Hx _ _ hl) ?_
        refine go_inc rfl rfl rfl rfl rfl ?_
        refine go_s rfl ?_
        refine go_s rfl ?_
        refine go_s rfl ?_
        refine go_icF rfl (by dsimp only [ncd]; omega) ?_
        refine go_s rfl ?_
        refine go_s rfl ?_
        refine go_aal rfl (gk _) (by omega) g1 ?_
        refine go_s rfl ?_
        refine go_s rfl ?_
        refine go_s rfl ?_
        refine go_sub rfl (by omega) ?_
        refine go_aal rfl (gk _) (by omega) g2 ?_
        refine go_s rfl ?_
        refine go_ial rfl (gp _) (by omega) (p4 _ (by omega)) ?_
        refine go_s rfl ?_
        refine go_iash rfl (last_get Hx _ hl) ⟨dg_lt _ _, by omega⟩ (last_set Hx _ _ hl) ?_
        refine go_inc rfl rfl rfl rfl rfl ?_
        refine go_s rfl ?_
        refine go_s rfl ?_
        refine go_s rfl ?_
        refine go_icF rfl (by dsimp only [ncd]; omega) ?_
        refine go_s rfl ?_
        refine go_s rfl ?_
        refine go_aal rfl (gk _) (by omega) g1 ?_
        refine go_s rfl ?_
        refine go_s rfl ?_
        refine go_s rfl ?_
        refine go_sub rfl (by omega) ?_
        refine go_aal rfl (gk _) (by omega) g2 ?_
        refine go_s rfl ?_
        refine go_ial rfl (gp _) (by omega) (p4 _ (by omega)) ?_
        refine go_s rfl ?_
        refine go_iash rfl (last_get Hx _ hl) ⟨dg_lt _ _, by omega⟩ (last_set Hx _ _ hl) ?_
        refine go_inc rfl rfl rfl rfl rfl ?_
        refine go_s rfl ?_
        refine go_s rfl ?_
        refine go_s rfl ?_
        refine go_icT rfl (by dsimp only [ncd]; omega) ?_
        refine go_inc rfl rfl rfl rfl rfl ?_
        refine go_s rfl ?_
        exact K
    · refine ⟨H, G, ps, hR, GRW_le hG (Nat.le_succ _), fun oo K => ?_⟩
      rcases hT5 with rfl | ⟨z, q, rfl⟩
      · refine go_s rfl ?_
        refine go_ifF rfl (by dsimp only [ncd]; omega) ?_
        refine go_s rfl ?_
        refine go_s rfl ?_
        refine go_s rfl ?_
        refine go_s rfl ?_
        refine go_ci rfl rfl rfl rfl rfl (B _) ?_
        refine go_ifT rfl (by dsimp only [ncd]; omega) ?_
        refine go_inc rfl rfl rfl rfl rfl ?_
        refine go_s rfl ?_
        exact K
      · refine go_s rfl ?_
        refine go_ifF rfl (by dsimp only [ncd]; omega) ?_
        refine go_s rfl ?_
        refine go_s rfl ?_
        refine go_s rfl ?_
        refine go_s rfl ?_
        refine go_ci rfl rfl rfl rfl rfl (B _) ?_
        refine go_ifT rfl (by dsimp only [ncd]; omega) ?_
        refine go_inc rfl rfl rfl rfl rfl ?_
        refine go_s rfl ?_
        exact K
theorem rl_b (hX : X.1 ≤ 260) (hk : k < n) (hn : n ≤ 6) (hG : GRW P b H) (hP : P.length = kr) (hR : RA H kr n (k + 1) G ps) : ∃ H2 G2 ps2, RA H2 kr n (k + 1) G2 ps2 ∧ GRW P (b + 2) H2 ∧ ∀ oo, Go X (fu + 2) mL_rules (17, [(0, .retAddr 0), (1, .int (nI 6)), (2, .ref kr), (3, .int (nI (k + 1)))], [], (H2, e)) oo → Go X (fu + 2) mL_rules (77, [(0, .retAddr 0), (1, .int (nI 6)), (2, .ref kr), (3, .int (nI k)), (4, .int x)], [], (H, e)) oo := by
  have hb := blw_lt (x >>> (nI 7 &&& 31)) (n := 3) (by omega)
  have B := fun h => l_below (X := X) (fu := fu + 1) (h := h) (x := x >>> (nI 7 &&& 31)) (n := 3) (by omega)
  by_cases hz : blw (x >>> (nI 7 &&& 31)) 3 = 0
  · have ha := blw_lt x (n := 5) (by omega)
    have B2 := fun h => l_below (X := X) (fu := fu + 1) (h := h) (x := x) (n := 5) (by omega)
    generalize blw x 5 = a at ha B2
    obtain ⟨c, hc, hf⟩ := swp_row (i := a) (j := a + 1) R0_row (by omega) (by omega) f06_row
    rw [R0_dg a (by omega), R0_dg (a + 1) (by omega)] at hf
    have hlt := get_lt hR.1
    obtain ⟨H2, G2, ps2, r1, r2, r3⟩ := rl_c (X := X) (fu := fu) (e := e) (x := x) (b := b + 1) (T5 := [(5, .int (nI a)), (6, .ref H.length)]) (.inr ⟨_, _, rfl⟩) hX hk hn (by rw [← hP]; exact GRW_put hG (by rw [hP]; exact hR.1)) hP (RA_put (RA_less hR (Nat.le_succ k)) hf hc)
    refine ⟨H2, G2, ps2, r1, r2, fun oo K => ?_⟩
    have K2 := r3 oo K
    refine go_s rfl ?_
    refine go_s rfl ?_
    refine go_s rfl ?_
    refine go_s rfl ?_
    refine go_ci rfl rfl rfl rfl rfl (B _) ?_
    refine go_ifF rfl (by dsimp only [ncd]; omega) ?_
    refine go_s rfl ?_
    refine go_s rfl ?_
    refine go_ci rfl rfl rfl rfl rfl (B2 _) ?_
    refine go_s rfl ?_
    refine go_s rfl ?_
    refine go_nwaE (p := H.length) rfl (by omega) rfl rfl ?_
    refine go_s rfl ?_
    refine go_s rfl ?_
    refine go_s rfl ?_
    refine go_iash rfl (last_get H _ rfl) (by omega) (last_set H _ _ rfl) ?_
    refine go_s rfl ?_
    refine go_s rfl ?_
    refine go_s rfl ?_
    refine go_iash rfl (last_get H _ rfl) (by omega) (last_set H _ _ rfl) ?_
    refine go_s rfl ?_
    refine go_s rfl ?_
    refine go_s rfl ?_
    refine go_iash rfl (last_get H _ rfl) (by omega) (last_set H _ _ rfl) ?_
    refine go_s rfl ?_
    refine go_s rfl ?_
    refine go_s rfl ?_
    refine go_iash rfl (last_get H _ rfl) (by omega) (last_set H _ _ rfl) ?_
    refine go_s rfl ?_
    refine go_s rfl ?_
    refine go_s rfl ?_
    refine go_iash rfl (last_get H _ rfl) (by omega) (last_set H _ _ rfl) ?_
    refine go_s rfl ?_
    refine go_s rfl ?_
    refine go_s rfl ?_
    refine go_iash rfl (last_get H _ rfl) (by omega) (last_set H _ _ rfl) ?_
    refine go_s rfl ?_
    refine go_s rfl ?_
    refine go_s rfl ?_
    refine go_s rfl ?_
    refine go_s rfl ?_
    refine go_add rfl ?_
    refine go_iash rfl (last_get H _ rfl) (by omega) (last_set H _ _ rfl) ?_
    refine go_s rfl ?_
    refine go_s rfl ?_
    refine go_s rfl ?_
    refine go_add rfl ?_
    refine go_s rfl ?_
    refine go_iash rfl (last_get H _ rfl) (by omega) (last_set H _ _ rfl) ?_
    refine go_s rfl ?_
    refine go_s rfl ?_
    refine go_s rfl ?_
    refine go_aas (n := n) (g := G) rfl (get_app hR.1) (last_get H _ rfl) (by omega) (set_app hlt) ?_
    exact K2
  · obtain ⟨H2, G2, ps2, r1, r2, r3⟩ := rl_c (X := X) (fu := fu) (e := e) (x := x) (T5 := []) (.inl rfl) hX hk hn hG hP hR
    refine ⟨H2, G2, ps2, r1, GRW_le r2 (Nat.le_succ _), fun oo K => ?_⟩
    have K2 := r3 oo K
    refine go_s rfl ?_
    refine go_s rfl ?_
    refine go_s rfl ?_
    refine go_s rfl ?_
    refine go_ci rfl rfl rfl rfl rfl (B _) ?_
    refine go_ifT rfl (by dsimp only [ncd]; omega) ?_
    exact K2
theorem rl_a (hX : X.1 ≤ 260) (hk : k < n) (hn : n ≤ 6) (hG : GRW P b H) (hP : P.length = kr) (hR : RA H kr n k G ps) : ∃ H2 G2 ps2, RA H2 kr n (k + 1) G2 ps2 ∧ GRW P (b + 3) H2 ∧ ∀ oo, Go X (fu + 2) mL_rules (17, [(0, .retAddr 0), (1, .int (nI 6)), (2, .ref kr), (3, .int (nI (k + 1)))], [], (H2, e)) oo → Go X (fu + 2) mL_rules (17, [(0, .retAddr 0), (1, .int (nI 6)), (2, .ref kr), (3, .int (nI k))], [], (H, e)) oo := by
  have C1 := fun h => l_cell (X := X) (fu := fu + 1) (h := h) (k := 1 + k % 7) hX (by omega)
  have C2 := fun h => l_cell (X := X) (fu := fu + 1) (h := h) (k := 8 + k % 8) hX (by omega)
  obtain ⟨x, hx⟩ : ∃ x, x = cel X (1 + k % 7) >>> (nI (k / 7 * 3) &&& 31) := ⟨_, rfl⟩
  have hlt := get_lt hR.1
  have B := fun h => l_below (X := X) (fu := fu + 1) (h := h) (x := x >>> (nI 5 &&& 31)) (n := 3) (by omega)
  have hb := blw_lt (x >>> (nI 5 &&& 31)) (n := 3) (by omega)
  have key : ∀ z : Int32, ∃ H2 G2 ps2, RA H2 kr n (k + 1) G2 ps2 ∧ GRW P (b + 3) H2 ∧ ∀ oo, Go X (fu + 2) mL_rules (17, [(0, .retAddr 0), (1, .int (nI 6)), (2, .ref kr), (3, .int (nI (k + 1)))], [], (H2, e)) oo → Go X (fu + 2) mL_rules (73, [(0, .retAddr 0), (1, .int (nI 6)), (2, .ref kr), (3, .int (nI k)), (4, .int x)], [.int z, .int x, .int (nI k), .ref kr], (H, e)) oo := by
    intro z
    obtain ⟨c, f, hc, hf, O⟩ := l_order (X := X) (fu := fu) (e := e) (x := x) (y := z) (H := H)
    obtain ⟨H2, G2, ps2, r1, r2, r3⟩ := rl_b (X := X) (fu := fu) (e := e) (x := x) (b := b + 1) hX hk hn (by rw [← hP]; exact GRW_put hG (by rw [hP]; exact hR.1)) hP (RA_put hR hf hc)
    refine ⟨H2, G2, ps2, r1, r2, fun oo K => ?_⟩
    have K2 := r3 oo K
    refine go_ci rfl rfl rfl rfl rfl O ?_
    refine go_aas (n := n) (g := G) rfl (get_app hR.1) (last_get H _ rfl) (by omega) (set_app hlt) ?_
    exact K2
  have pre : ∀ oo, Go X (fu + 2) mL_rules (54, [(0, .retAddr 0), (1, .int (nI 6)), (2, .ref kr), (3, .int (nI k)), (4, .int x)], [.int (nI (blw (x >>> (nI 5 &&& 31)) 3)), .int x, .int (nI k), .ref kr], (H, e)) oo → Go X (fu + 2) mL_rules (17, [(0, .retAddr 0), (1, .int (nI 6)), (2, .ref kr), (3, .int (nI k))], [], (H, e)) oo := by
    intro oo K
    refine go_s rfl ?_
    refine go_s rfl ?_
    refine go_alA rfl hR.1 ?_
    refine go_icF rfl (by dsimp only [ncd]; omega) ?_
    refine go_s rfl ?_
    refine go_s rfl ?_
    refine go_s rfl ?_
    refine go_s rfl ?_
    refine go_rem rfl (by omega) ?_
    refine go_add rfl ?_
    refine go_ci rfl rfl rfl rfl rfl (C1 _) ?_
    refine go_s rfl ?_
    refine go_s rfl ?_
    refine go_div rfl (by omega) ?_
    refine go_s rfl ?_
    refine go_mul rfl ?_
    refine go_s rfl ?_
    rw [← hx]
    refine go_s rfl ?_
    refine go_s rfl ?_
    refine go_s rfl ?_
    refine go_s rfl ?_
    refine go_s rfl ?_
    refine go_s rfl ?_
    refine go_s rfl ?_
    refine go_s rfl ?_
    refine go_ci rfl rfl rfl rfl rfl (B _) ?_
    exact K
  by_cases hz : blw (x >>> (nI 5 &&& 31)) 3 = 0
  · obtain ⟨H2, G2, ps2, r1, r2, r3⟩ := key x
    refine ⟨H2, G2, ps2, r1, r2, fun oo K => pre oo ?_⟩
    refine go_ifF rfl (by dsimp only [ncd]; omega) ?_
    refine go_s rfl ?_
    refine go_s rfl ?_
    exact r3 oo K
  · obtain ⟨H2, G2, ps2, r1, r2, r3⟩ := key (cel X (8 + k % 8))
    refine ⟨H2, G2, ps2, r1, r2, fun oo K => pre oo ?_⟩
    refine go_ifT rfl (by dsimp only [ncd]; omega) ?_
    refine go_s rfl ?_
    refine go_s rfl ?_
    refine go_s rfl ?_
    refine go_s rfl ?_
    refine go_rem rfl (by omega) ?_
    refine go_add rfl ?_
    refine go_ci rfl rfl rfl rfl rfl (C2 _) ?_
    exact r3 oo K
theorem rl_loop (hX : X.1 ≤ 260) (hn : n ≤ 6) (hP : P.length = kr) : ∀ (j k b : Nat) (H : List zC) (G : Nat → Option Nat) (ps : Nat → Nat), k + j = n → RA H kr n k G ps → GRW P b H → ∃ H2 G2 ps2, RA H2 kr n n G2 ps2 ∧ GRW P (b + 3 * j) H2 ∧ Go X (fu + 2) mL_rules (17, [(0, .retAddr 0), (1, .int (nI 6)), (2, .ref kr), (3, .int (nI k))], [], (H, e)) (.inl (some (.ref kr)), (H2, e)) := by
  intro j
  induction j with
  | zero =>
    intro k b H G ps hkj hR hG
    obtain rfl : k = n := hkj
    refine ⟨H, G, ps, hR, hG, ?_⟩
    refine go_s rfl ?_
    refine go_s rfl ?_
    refine go_alA rfl hR.1 ?_
    refine go_icT rfl (by dsimp only [ncd]; omega) ?_
    refine go_s rfl ?_
    exact go_ret rfl rfl rfl rfl
  | succ j ih =>
    intro k b H G ps hkj hR hG
    obtain ⟨H1, G1, ps1, r1, r2, r3⟩ := rl_a (X := X) (fu := fu) (e := e) hX (by omega) hn hG hP hR
    obtain ⟨H2, G2, ps2, s1, s2, s3⟩ := ih (k + 1) (b + 3) H1 G1 ps1 (by omega) r1 r2
    exact ⟨H2, G2, ps2, s1, GRW_le s2 (by omega), r3 _ s3⟩
theorem l_rules (hX : X.1 ≤ 260) (H : List zC) : ∃ n H2 G ps, n ≤ 6 ∧ RA H2 H.length n n G ps ∧ GRW H 18 H2 ∧ Go X (fu + 2) mL_rules (0, [(0, .retAddr 0), (1, .int (nI 6))], [], (H, e)) (.inl (some (.ref H.length)), (H2, e)) := by
  have C := fun h => l_cell (X := X) (fu := fu + 1) (h := h) (k := 0) hX (by omega)
  have B := fun h => l_below (X := X) (fu := fu + 1) (h := h) (x := cel X 0) (n := 6 + 1) (by omega)
  have hb := blw_lt (cel X 0) (n := 6 + 1) (by omega)
  generalize blw (cel X 0) (6 + 1) = n at B hb
  obtain ⟨H2, G2, ps2, s1, s2, s3⟩ := rl_loop (X := X) (fu := fu) (e := e) (n := n) (kr := H.length) (P := H) hX (by omega) rfl n 0 0 (H ++ [aA n (fun _ => none)]) (fun _ => none) (fun _ => R0) (by omega) ⟨last_get H _ rfl, fun i hi => absurd hi (Nat.not_lt_zero _)⟩ ⟨[aA n (fun _ => none)], rfl, Nat.le_refl _, by rw [zsz_c, zsz_nil]; show n + 0 ≤ _; omega⟩
  refine ⟨n, H2, G2, ps2, by omega, s1, GRW_le s2 (by omega), ?_⟩
  refine go_s rfl ?_
  refine go_s rfl ?_
  refine go_ci rfl rfl rfl rfl rfl (C _) ?_
  refine go_s rfl ?_
  refine go_s rfl ?_
  refine go_add rfl ?_
  refine go_ci rfl rfl rfl rfl rfl (B _) ?_
  refine go_ana (p := H.length) rfl (by omega) rfl rfl ?_
  refine go_s rfl ?_
  refine go_s rfl ?_
  refine go_s rfl ?_
  exact s3
end RULES
