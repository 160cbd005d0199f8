/-! ===== the class's ways ===== -/
def fwD : Option Nat → Int32
  | none => -nI 1
  | some k => nI (k / 8)
def fwR : Option Nat → Int32
  | none => -nI 1
  | some 0 => -nI 1
  | some (k + 1) => nI ((k + 1) % 8)
def laD (l : List (Nat × Nat)) : Nat := match l.getLast? with
  | some q => q.2 / 8
  | none => 0
def suD (l : List (Nat × Nat)) : Nat := (l.map fun q => q.2 / 8).sum
theorem laD_app (l : List (Nat × Nat)) (q : Nat × Nat) : laD (l ++ [q]) = q.2 / 8 := by
  unfold laD
  rw [List.getLast?_append]
  rfl
theorem suD_app (l : List (Nat × Nat)) (q : Nat × Nat) : suD (l ++ [q]) = suD l + q.2 / 8 := by
  unfold suD
  rw [List.map_append, List.sum_append]
  simp
/-- the tables of the ways -/
def QT (A : Nat → Nat → Int32) (l : List (Nat × Nat)) : Prop := ∀ y, isRow y → A 22 (rk y) = fwD (lk l y) ∧ A 23 (rk y) = fwR (lk l y)
def QW (A : Nat → Nat → Int32) (l : List (Nat × Nat)) : Prop := QT A l ∧ ∀ (i : Nat) (q : Nat × Nat), l[i]? = some q → A 24 i = nI q.1
theorem neg1_lt : zcq .lt (-nI 1) 0 := show (-nI 1 : Int32) < 0 by decide +kernel
theorem neg1_ge : ¬ zcq .ge (-nI 1) 0 := show ¬ (0 : Int32) ≤ -nI 1 by decide +kernel
theorem mean_ok {s l : Int32} (h : l ≠ 0) : FP.ddiv (FP.i2d s) (FP.i2d l) &&& 0x7fffffffffffffff ≤ 0x7ff0000000000000 := Jvm.Free.Fl.ddiv_out (Jvm.Free.Fl.i2d_fin s).noNaN (Jvm.Free.Fl.i2d_fin l) (Jvm.Free.Fl.i2d_nz h)
section WAYS
variable {X : zX} {fu e n m : Nat} {A : Nat → Nat → Int32} {ch wf rd mo sm mk : Int32} {R : List zC} {ps len : Nat → Nat} {pr : Nat → Nat → Nat}
theorem c_fill {k : Nat} (hk : k = 22 ∨ k = 23) {x : Int32} : ∃ f2, (∀ j, j < 720 → f2 j = x) ∧ Go X fu mJ7_fill_53178 (0, [(0, .ref k), (1, .int x)], [], (cc A (nI n) (nI m) ch wf rd mo sm mk ++ R, e)) (.inl none, (cc (aset A k f2) (nI n) (nI m) ch wf rd mo sm mk ++ R, e)) := by
  rcases hk with rfl | rfl
  · obtain ⟨f2, h1, h2⟩ := m_fill (X := X) (fu := fu) (e := e) (t := 22) (n := 720) (x := x) (f := A 22) (H := fun f => cc (aset A 22 f) (nI n) (nI m) ch wf rd mo sm mk ++ R) (fun _ => rfl) (fun f g => (show _ = cc (aset (aset A 22 f) 22 g) (nI n) (nI m) ch wf rd mo sm mk ++ R from rfl).trans (by rw [aset_bb])) (by omega)
    rw [aset_id] at h2
    exact ⟨f2, h1, h2⟩
  · obtain ⟨f2, h1, h2⟩ := m_fill (X := X) (fu := fu) (e := e) (t := 23) (n := 720) (x := x) (f := A 23) (H := fun f => cc (aset A 23 f) (nI n) (nI m) ch wf rd mo sm mk ++ R) (fun _ => rfl) (fun f g => (show _ = cc (aset (aset A 23 f) 23 g) (nI n) (nI m) ch wf rd mo sm mk ++ R from rfl).trans (by rw [aset_bb])) (by omega)
    rw [aset_id] at h2
    exact ⟨f2, h1, h2⟩
theorem c_begin : ∃ A2, (∀ j, j < 22 → A2 j = A j) ∧ QW A2 [(R0, 0)] ∧ Go X (fu + 1) mX2_begin (0, [(0, .ref 21)], [], (cc A (nI n) (nI m) ch wf rd mo sm mk ++ R, e)) (.inl none, (cc A2 (nI n) (nI m) ch wf (nI [(R0, 0)].length) (nI (laD [(R0, 0)])) (nI (suD [(R0, 0)])) mk ++ R, e)) := by
  obtain ⟨f1, h1, G1⟩ := c_fill (X := X) (fu := fu) (e := e) (n := n) (m := m) (A := A) (ch := ch) (wf := wf) (rd := rd) (mo := mo) (sm := sm) (mk := mk) (R := R) (k := 22) (Or.inl rfl) (x := -nI 1)
  obtain ⟨f2, h2, G2⟩ := c_fill (X := X) (fu := fu) (e := e) (n := n) (m := m) (A := aset A 22 f1) (ch := ch) (wf := wf) (rd := rd) (mo := mo) (sm := sm) (mk := mk) (R := R) (k := 23) (Or.inr rfl) (x := -nI 1)
  obtain ⟨A3, k3, hx3, G3⟩ := c_toRounds (X := X) (fu := fu) (e := e) (A := (aset (aset A 22 f1) 23 f2)) (rc := nI n) (pc := nI m) (ch := ch) (wf := wf) (rd := rd) (mo := mo) (sm := sm) (mk := mk) (R := R) rw_from
  have G4 := c_rank (X := X) (fu := fu) (e := e) (rc := nI n) (pc := nI m) (ch := ch) (wf := wf) (rd := rd) (mo := mo) (sm := sm) (mk := mk) (R := R) rw_from hx3
  have r0 : rk R0 < 720 := rk_lt R0_row
  refine ⟨aset (aset A3 22 (upd (A3 22) (rk R0) (nI 0))) 24 (upd (A3 24) 0 (nI 1865)), fun j hj => ?_, ⟨fun y hy => ?_, fun i q hq => ?_⟩, ?_⟩
  · rw [aset_n (by omega), aset_n (by omega), k3 j (by omega) (by omega), aset_n (by omega), aset_n (by omega)]
  · have e22 : A3 22 = f1 := by rw [k3 22 (by omega) (by omega), aset_n (by omega), aset_s]
    have e23 : A3 23 = f2 := by rw [k3 23 (by omega) (by omega), aset_s]
    rw [aset_n (by omega), aset_s, aset_n (by omega), aset_n (by omega), e22, e23, h2 _ (rk_lt hy)]
    by_cases q : y = R0
    · subst q
      rw [pk_us]
      exact ⟨rfl, rfl⟩
    · have e3 : lk [(R0, 0)] y = none := by
        show (if R0 = y then some 0 else none) = none
        rw [if_neg (fun z => q z.symm)]
      rw [pk_un (fun z => q (rk_inj hy R0_row z)), h1 _ (rk_lt hy), e3]
      exact ⟨rfl, rfl⟩
  · have e1 := idx_lt hq
    have e2 : i = 0 := by simp at e1; exact e1
    subst e2
    cases hq
    rw [aset_s, pk_us]
    rfl
  · show Go X (fu + 1) mX2_begin _ (.inl none, (cc (aset (aset A3 22 (upd (A3 22) (rk R0) (nI 0))) 24 (upd (A3 24) 0 (nI 1865))) (nI n) (nI m) ch wf (nI 1) (nI 0) (nI 0) mk ++ R, e))
    repeat (first
      | exact go_ret rfl rfl rfl rfl
      | exact go_end rfl rfl rfl rfl
      | refine go_add rfl ?_
      | refine go_mul rfl ?_
      | refine go_sub rfl (by omega) ?_
      | refine go_inc rfl rfl rfl rfl rfl ?_
      | refine go_dec rfl rfl rfl (by omega) rfl rfl ?_
      | refine go_iash rfl rfl (by first | omega | exact ⟨dg_lt _ _, by omega⟩) rfl ?_
      | refine go_div rfl (by omega) ?_
      | refine go_rem rfl (by omega) ?_
      | refine go_cn rfl rfl rfl rfl rfl G1 ?_
      | refine go_cn rfl rfl rfl rfl rfl G2 ?_
      | refine go_cn rfl rfl rfl rfl rfl G3 ?_
      | refine go_ci rfl rfl rfl rfl rfl G4 ?_
      | refine go_icT rfl (by dsimp only [ncd]; omega) ?_
      | refine go_icF rfl (by dsimp only [ncd]; omega) ?_
      | refine go_ifT rfl (by dsimp only [ncd]; omega) ?_
      | refine go_ifF rfl (by dsimp only [ncd]; omega) ?_
      | refine go_ift rfl (by decide) ?_
      | refine go_s rfl ?_
      )
theorem key_le {l : List (Nat × Nat)} (hb : ∀ q, q ∈ l → q.2 ≤ 10800) {y k : Nat} (h : lk l y = some k) : k ≤ 10800 := hb _ (lk_some h)
theorem c_arrive {l : List (Nat × Nat)} {y k : Nat} (hQ : QW A l) (hd : (l.map Prod.fst).Nodup) (hr : ∀ q, q ∈ l → isRow q.1) (hb : ∀ q, q ∈ l → q.2 ≤ 10800) (hy : rw6 (A 29) y) (iy : isRow y) (hk : 8 ≤ k) (hk2 : k ≤ 10900) :
    ∃ A2, (∀ j, j < 22 → A2 j = A j) ∧ QW A2 (addk l y k) ∧ Go X (fu + 1) mX2_arrive (0, [(0, .ref 21), (1, .int (nI (k / 8))), (2, .int (nI (k % 8)))], [], (cc A (nI n) (nI m) ch wf (nI l.length) (nI (laD l)) (nI (suD l)) mk ++ R, e)) (.inl none, (cc A2 (nI n) (nI m) ch wf (nI (addk l y k).length) (nI (laD (addk l y k))) (nI (suD (addk l y k))) mk ++ R, e)) := by
  have G1 := c_rank (X := X) (fu := fu) (e := e) (A := A) (rc := nI n) (pc := nI m) (ch := ch) (wf := wf) (rd := (nI l.length)) (mo := (nI (laD l))) (sm := (nI (suD l))) (mk := mk) (R := R) rw_to hy
  have G2 := fun A2 (h : A2 29 = A 29) => c_code (X := X) (fu := fu) (e := e) (A := A2) (rc := nI n) (pc := nI m) (ch := ch) (wf := wf) (rd := (nI l.length)) (mo := (nI (laD l))) (sm := (nI (suD l))) (mk := mk) (R := R) rw_to (show rw6 (A2 29) y by rw [h]; exact hy) iy
  have r1 := rk_lt iy
  obtain ⟨t1, t2⟩ := hQ.1 y iy
  cases e1 : lk l y with
  | some j =>
    have j1 := key_le hb e1
    rw [e1] at t1
    have t3 : A 22 (rk y) = nI (j / 8) := t1
    refine ⟨A, fun _ _ => rfl, by rw [addk_s e1]; exact hQ, ?_⟩
    rw [addk_s e1]
    repeat (first
      | exact go_ret rfl rfl rfl rfl
      | exact go_end rfl rfl rfl rfl
      | refine go_add rfl ?_
      | refine go_mul rfl ?_
      | refine go_sub rfl (by omega) ?_
      | refine go_inc rfl rfl rfl rfl rfl ?_
      | refine go_dec rfl rfl rfl (by omega) rfl rfl ?_
      | refine go_ial rfl rfl (by first | omega | exact ⟨dg_lt _ _, by omega⟩) (t3) ?_
      | refine go_div rfl (by omega) ?_
      | refine go_rem rfl (by omega) ?_
      | refine go_ci rfl rfl rfl rfl rfl G1 ?_
      | refine go_icT rfl (by dsimp only [ncd]; omega) ?_
      | refine go_icF rfl (by dsimp only [ncd]; omega) ?_
      | refine go_ifT rfl (by dsimp only [ncd]; omega) ?_
      | refine go_ifF rfl (by dsimp only [ncd]; omega) ?_
      | refine go_ift rfl (by decide) ?_
      | refine go_s rfl ?_
      )
  | none =>
    have l1 := len_lt hd hr iy e1
    rw [e1] at t1
    have t3 : A 22 (rk y) = -nI 1 := t1
    refine ⟨aset (aset (aset A 22 (upd (A 22) (rk y) (nI (k / 8)))) 23 (upd (A 23) (rk y) (nI (k % 8)))) 24 (upd (A 24) l.length (nI y)), fun j hj => ?_, ⟨fun z hz => ?_, fun i q hq => ?_⟩, ?_⟩
    · rw [aset_n (by omega), aset_n (by omega), aset_n (by omega)]
    · rw [aset_n (by omega), aset_n (by omega), aset_s, aset_n (by omega), aset_s, addk_n e1]
      by_cases q : z = y
      · subst q
        rw [pk_us, pk_us, lk_app_n e1]
        refine ⟨rfl, ?_⟩
        obtain ⟨k1, rfl⟩ : ∃ k1, k = k1 + 1 := ⟨k - 1, by omega⟩
        rfl
      · rw [pk_un (fun w => q (rk_inj hz iy w)), pk_un (fun w => q (rk_inj hz iy w)), (hQ.1 z hz).1, (hQ.1 z hz).2]
        cases e2 : lk l z with
        | some v => rw [lk_app_s e2]; exact ⟨rfl, rfl⟩
        | none => rw [lk_app_o e2 (fun w => q w.symm)]; exact ⟨rfl, rfl⟩
    · rw [aset_s]
      rw [addk_n e1] at hq
      rcases idx_app hq with hq | ⟨q1, q2⟩
      · have := idx_lt hq
        rw [pk_un (by omega)]
        exact hQ.2 i q hq
      · rw [q1, q2, pk_us]
    · rw [addk_n e1, laD_app, suD_app, List.length_append]
      have G3 := G2 (aset (aset A 22 (upd (A 22) (rk y) (nI (k / 8)))) 23 (upd (A 23) (rk y) (nI (k % 8)))) (by rw [aset_n (by omega), aset_n (by omega)])
      show Go X (fu + 1) mX2_arrive _ (.inl none, (cc (aset (aset (aset A 22 (upd (A 22) (rk y) (nI (k / 8)))) 23 (upd (A 23) (rk y) (nI (k % 8)))) 24 (upd (A 24) l.length (nI y))) (nI n) (nI m) ch wf (nI (l.length + 1)) (nI (k / 8)) (nI (suD l + k / 8)) mk ++ R, e))
      repeat (first
        | exact go_end rfl rfl rfl rfl
        | refine go_add rfl ?_
        | (refine go_ialr rfl rfl (by omega) ?_; rw [t3]; refine go_iff rfl neg1_ge ?_)
        | refine go_iash rfl rfl (by omega) rfl ?_
        | refine go_ci rfl rfl rfl rfl rfl G1 ?_
        | refine go_ci rfl rfl rfl rfl rfl G3 ?_
        | refine go_icT rfl (by dsimp only [ncd]; omega) ?_
        | refine go_s rfl ?_)
theorem ex_in {G0 : Nat → Nat} (hG0 : G0 = fun r => inv (ps r)) {i : Nat} {p : Nat × Nat} {fr : Nat} (hfr : fr = rk p.1) :
    ∀ (q r : Nat) (l : List (Nat × Nat)) (A : Nat → Nat → Int32), r + q = n → CP A n ps m len pr → QW A l → BV (nbC G0) nkC 8 n R0 l → l[i]? = some p → (∀ q, q ∈ l → ∀ r2, r ≤ r2 → r2 < n → q.2 ≤ nkC p.2 r2) →
    ∃ A2, (∀ j, j < 22 → A2 j = A j) ∧ QW A2 (bi (nbC G0) nkC p.1 p.2 q r l) ∧ ∀ oo, Go X (fu + 2) mX2_explore (111, [(0, .ref 21), (1, .ref 1), (2, .int (nI n)), (3, .int (nI i)), (4, .int (nI fr)), (5, .int (nI n))], [], (cc A2 (nI n) (nI m) ch wf (nI (bi (nbC G0) nkC p.1 p.2 q r l).length) (nI (laD (bi (nbC G0) nkC p.1 p.2 q r l))) (nI (suD (bi (nbC G0) nkC p.1 p.2 q r l))) mk ++ R, e)) oo → Go X (fu + 2) mX2_explore (46, [(0, .ref 21), (1, .ref 1), (2, .int (nI n)), (3, .int (nI i)), (4, .int (nI fr)), (5, .int (nI r))], [], (cc A (nI n) (nI m) ch wf (nI l.length) (nI (laD l)) (nI (suD l)) mk ++ R, e)) oo := by
  intro q
  induction q with
  | zero =>
    intro r l A hr hC hQ hB hi hu
    have hn := hC.1
    obtain rfl : r = n := by omega
    refine ⟨A, fun _ _ => rfl, hQ, fun oo K => ?_⟩
    repeat (first
      | exact K
      | exact go_ret rfl rfl rfl rfl
      | exact go_end rfl rfl rfl rfl
      | refine go_add rfl ?_
      | refine go_mul rfl ?_
      | refine go_sub rfl (by omega) ?_
      | refine go_inc rfl rfl rfl rfl rfl ?_
      | refine go_dec rfl rfl rfl (by omega) rfl rfl ?_
      | refine go_div rfl (by omega) ?_
      | refine go_rem rfl (by omega) ?_
      | refine go_icT rfl (by dsimp only [ncd]; omega) ?_
      | refine go_icF rfl (by dsimp only [ncd]; omega) ?_
      | refine go_ifT rfl (by dsimp only [ncd]; omega) ?_
      | refine go_ifF rfl (by dsimp only [ncd]; omega) ?_
      | refine go_ift rfl (by decide) ?_
      | refine go_s rfl ?_
      )
  | succ q ih =>
    intro r l A hr hC hQ hB hi hu
    have hn := hC.1
    have hg : ∀ r, r < n → isRow (G0 r) := fun r hr => by rw [hG0]; exact inv_row (hC.2.2.1 r hr).2
    have hr2 : r < n := by omega
    have hp := hC.2.2.1 r hr2
    have ip := hB.2.1 p (List.mem_of_getElem? hi)
    have il := idx_lt hi
    have hl7 := len_720 hB.1 hB.2.1
    have hbd : ∀ q, q ∈ l → q.2 ≤ 10800 := fun q hq => by
      obtain ⟨a, ha, e1⟩ := List.getElem_of_mem hq
      have := hB.2.2.2.2.2 a q (by rw [List.getElem?_eq_getElem ha, e1])
      omega
    have hpk := hbd p (List.mem_of_getElem? hi)
    have lkp : lk l p.1 = some p.2 := lk_of hB.1 (List.mem_of_getElem? hi)
    have hq24 := hQ.2 i p hi
    have rp := rk_lt ip
    obtain ⟨A1, k1, hx1, G1⟩ := c_read (X := X) (fu := fu + 1) (e := e) (A := A) (rc := nI n) (pc := nI m) (ch := ch) (wf := wf) (rd := (nI l.length)) (mo := (nI (laD l))) (sm := (nI (suD l))) (mk := mk) (R := R) rw_to ip
    obtain ⟨A2, k2, hx2, G2⟩ := c_change (X := X) (fu := fu) (e := e) (A := A1) (rc := nI n) (pc := nI m) (ch := ch) (wf := wf) (rd := (nI l.length)) (mo := (nI (laD l))) (sm := (nI (suD l))) (mk := mk) (R := R) rw_to hx1 (i := r) (by omega) (by rw [k1 (2 + r) (by omega) (by omega)]; exact hp.1) hp.2
    have iy : isRow (rng p.1 (ps r)) := rng_row ip hp.2
    have ey : rng p.1 (ps r) = nbC G0 p.1 r := by rw [hG0, rng_cmp hp.2]; rfl
    have kk : ∀ j, j ≠ 29 → j ≠ 30 → A2 j = A j := fun j a b => (k2 j a b).trans (k1 j a b)
    have hQ2 : QW A2 l := ⟨fun y hy => by rw [kk 22 (by omega) (by omega), kk 23 (by omega) (by omega)]; exact hQ.1 y hy, fun i q hq => by rw [kk 24 (by omega) (by omega)]; exact hQ.2 i q hq⟩
    have hK := KM_C hn
    have nk1 := hK.1 p.2 r hr2
    obtain ⟨A3, k3, hQ3, G3⟩ := c_arrive (X := X) (fu := fu + 0) (e := e) (A := A2) (n := n) (m := m) (ch := ch) (wf := wf) (mk := mk) (R := R) hQ2 hB.1 hB.2.1 hbd hx2 iy (k := nkC p.2 r) nk1.1 (by omega)
    rw [ey] at hQ3 G3
    obtain ⟨f1, f2, f3, f4⟩ := BV_add (s := R0) hK hB hi hr2 (nb_row hg _ _ ip hr2) (fun q hq => hu q hq r (by omega) hr2)
    have kA : ∀ j, j < 22 → A3 j = A j := fun j hj => (k3 j hj).trans (kk j (by omega) (by omega))
    obtain ⟨A4, k4, hQ4, G4⟩ := ih (r + 1) _ A3 (by omega) (CP_keep hC fun j hj => kA j (by omega)) hQ3 f1 (f2.2 _ _ hi) (fun q hq r2 h1 h2 => by
      rcases f4 q hq with hq | hq
      · exact hu q hq r2 (by omega) h2
      · rw [hq]; exact hK.2.2.1 _ _ _ (by omega) h2)
    refine ⟨A4, fun j hj => (k4 j hj).trans (kA j hj), hQ4, fun oo K => ?_⟩
    have K2 := G4 oo K
    obtain ⟨t1, t2⟩ := hQ2.1 p.1 ip
    rw [lkp] at t1 t2
    have t3 : A2 22 fr = nI (p.2 / 8) := by rw [hfr]; exact t1
    have q24 : A2 24 i = nI p.1 := by rw [kk 24 (by omega) (by omega)]; exact hq24
    have fr7 : fr < 720 := by rw [hfr]; exact rp
    by_cases e0 : i = 0
    · have ep : p = (R0, 0) := by
        rw [e0, hB.2.2.1] at hi
        exact (Option.some.inj hi).symm
      have ed : nkC p.2 r / 8 = p.2 / 8 + 1 := by rw [ep]; show (8 + r) / 8 = 0 / 8 + 1; omega
      have er : nkC p.2 r % 8 = r := by rw [ep]; show (8 + r) % 8 = r; omega
      rw [ed, er] at G3
      subst e0
      repeat (first
        | exact K2
        | exact go_ret rfl rfl rfl rfl
        | exact go_end rfl rfl rfl rfl
        | refine go_add rfl ?_
        | refine go_mul rfl ?_
        | refine go_sub rfl (by omega) ?_
        | refine go_inc rfl rfl rfl rfl rfl ?_
        | refine go_dec rfl rfl rfl (by omega) rfl rfl ?_
        | refine go_ial rfl rfl (by first | omega | exact ⟨dg_lt _ _, by omega⟩) (hq24) ?_
        | refine go_ial rfl rfl (by first | omega | exact ⟨dg_lt _ _, by omega⟩) (t3) ?_
        | refine go_aal rfl rfl (by omega) (gP_s (by omega)) ?_
        | refine go_aal rfl rfl (by omega) (gQ_s (by omega)) ?_
        | refine go_div rfl (by omega) ?_
        | refine go_rem rfl (by omega) ?_
        | refine go_cn rfl rfl rfl rfl rfl G1 ?_
        | refine go_cn rfl rfl rfl rfl rfl G2 ?_
        | refine go_cn rfl rfl rfl rfl rfl G3 ?_
        | refine go_icT rfl (by dsimp only [ncd]; omega) ?_
        | refine go_icF rfl (by dsimp only [ncd]; omega) ?_
        | refine go_ifT rfl (by dsimp only [ncd]; omega) ?_
        | refine go_ifF rfl (by dsimp only [ncd]; omega) ?_
        | refine go_ift rfl (by decide) ?_
        | refine go_s rfl ?_
        )
    · have hp8 := (hB.2.2.2.2.1 i p (by omega) hi).1
      have ed : nkC p.2 r / 8 = p.2 / 8 + 1 := by unfold nkC; rw [if_neg (by omega)]; omega
      have er : nkC p.2 r % 8 = p.2 % 8 := by unfold nkC; rw [if_neg (by omega)]; omega
      have t4 : A2 23 fr = nI (p.2 % 8) := by
        rw [hfr, t2]
        obtain ⟨z, ez⟩ : ∃ z, p.2 = z + 1 := ⟨p.2 - 1, by omega⟩
        rw [ez]
        rfl
      rw [ed, er] at G3
      repeat (first
        | exact K2
        | exact go_ret rfl rfl rfl rfl
        | exact go_end rfl rfl rfl rfl
        | refine go_add rfl ?_
        | refine go_mul rfl ?_
        | refine go_sub rfl (by omega) ?_
        | refine go_inc rfl rfl rfl rfl rfl ?_
        | refine go_dec rfl rfl rfl (by omega) rfl rfl ?_
        | refine go_ial rfl rfl (by first | omega | exact ⟨dg_lt _ _, by omega⟩) (hq24) ?_
        | refine go_ial rfl rfl (by first | omega | exact ⟨dg_lt _ _, by omega⟩) (t3) ?_
        | refine go_ial rfl rfl (by first | omega | exact ⟨dg_lt _ _, by omega⟩) (t4) ?_
        | refine go_aal rfl rfl (by omega) (gP_s (by omega)) ?_
        | refine go_aal rfl rfl (by omega) (gQ_s (by omega)) ?_
        | refine go_div rfl (by omega) ?_
        | refine go_rem rfl (by omega) ?_
        | refine go_cn rfl rfl rfl rfl rfl G1 ?_
        | refine go_cn rfl rfl rfl rfl rfl G2 ?_
        | refine go_cn rfl rfl rfl rfl rfl G3 ?_
        | refine go_icT rfl (by dsimp only [ncd]; omega) ?_
        | refine go_icF rfl (by dsimp only [ncd]; omega) ?_
        | refine go_ifT rfl (by dsimp only [ncd]; omega) ?_
        | refine go_ifF rfl (by dsimp only [ncd]; omega) ?_
        | refine go_ift rfl (by decide) ?_
        | refine go_s rfl ?_
        )
theorem ex_out {G0 : Nat → Nat} (hG0 : G0 = fun r => inv (ps r)) :
    ∀ (q i : Nat) (l : List (Nat × Nat)) (A : Nat → Nat → Int32) (L : List (Nat × Value)), (L = [] ∨ ∃ y z : Nat, L = [(4, .int (nI y)), (5, .int (nI z))]) → i + q = 720 → CP A n ps m len pr → QW A l → BV (nbC G0) nkC 8 n R0 l → (∀ p, l[i]? = some p → ∀ q, q ∈ l → ∀ r, r < n → q.2 ≤ nkC p.2 r) →
    ∃ A2, (∀ j, j < 22 → A2 j = A j) ∧ QW A2 (bo (nbC G0) nkC n q i l) ∧ Go X (fu + 2) mX2_explore (6, [(0, .ref 21), (1, .ref 1), (2, .int (nI n)), (3, .int (nI i))] ++ L, [], (cc A (nI n) (nI m) ch wf (nI l.length) (nI (laD l)) (nI (suD l)) mk ++ R, e)) (.inl none, (cc A2 (nI n) (nI m) ch wf (nI (bo (nbC G0) nkC n q i l).length) (nI (laD (bo (nbC G0) nkC n q i l))) (nI (suD (bo (nbC G0) nkC n q i l))) mk ++ R, e)) := by
  intro q
  induction q with
  | zero =>
    intro i l A L hL hi hC hQ hB hu
    obtain rfl : i = 720 := by omega
    refine ⟨A, fun _ _ => rfl, hQ, ?_⟩
    rcases hL with rfl | ⟨y, z, rfl⟩
    · show Go X (fu + 2) mX2_explore (6, [(0, .ref 21), (1, .ref 1), (2, .int (nI n)), (3, .int (nI 720))], [], _) _
      repeat (first
        | exact go_ret rfl rfl rfl rfl
        | exact go_end rfl rfl rfl rfl
        | refine go_add rfl ?_
        | refine go_mul rfl ?_
        | refine go_sub rfl (by omega) ?_
        | refine go_inc rfl rfl rfl rfl rfl ?_
        | refine go_dec rfl rfl rfl (by omega) rfl rfl ?_
        | refine go_div rfl (by omega) ?_
        | refine go_rem rfl (by omega) ?_
        | refine go_icT rfl (by dsimp only [ncd]; omega) ?_
        | refine go_icF rfl (by dsimp only [ncd]; omega) ?_
        | refine go_ifT rfl (by dsimp only [ncd]; omega) ?_
        | refine go_ifF rfl (by dsimp only [ncd]; omega) ?_
        | refine go_ift rfl (by decide) ?_
        | refine go_s rfl ?_
        )
    · show Go X (fu + 2) mX2_explore (6, [(0, .ref 21), (1, .ref 1), (2, .int (nI n)), (3, .int (nI 720)), (4, .int (nI y)), (5, .int (nI z))], [], _) _
      repeat (first
        | exact go_ret rfl rfl rfl rfl
        | exact go_end rfl rfl rfl rfl
        | refine go_add rfl ?_
        | refine go_mul rfl ?_
        | refine go_sub rfl (by omega) ?_
        | refine go_inc rfl rfl rfl rfl rfl ?_
        | refine go_dec rfl rfl rfl (by omega) rfl rfl ?_
        | refine go_div rfl (by omega) ?_
        | refine go_rem rfl (by omega) ?_
        | refine go_icT rfl (by dsimp only [ncd]; omega) ?_
        | refine go_icF rfl (by dsimp only [ncd]; omega) ?_
        | refine go_ifT rfl (by dsimp only [ncd]; omega) ?_
        | refine go_ifF rfl (by dsimp only [ncd]; omega) ?_
        | refine go_ift rfl (by decide) ?_
        | refine go_s rfl ?_
        )
  | succ q ih =>
    intro i l A L hL hi hC hQ hB hu
    have hn := hC.1
    have hl7 := len_720 hB.1 hB.2.1
    rw [bo]
    cases e1 : l[i]? with
    | none =>
      have l1 : l.length ≤ i := by
        rw [List.getElem?_eq_none_iff] at e1
        exact e1
      refine ⟨A, fun _ _ => rfl, hQ, ?_⟩
      rcases hL with rfl | ⟨y, z, rfl⟩
      · show Go X (fu + 2) mX2_explore (6, [(0, .ref 21), (1, .ref 1), (2, .int (nI n)), (3, .int (nI i))], [], _) _
        repeat (first
          | exact go_ret rfl rfl rfl rfl
          | exact go_end rfl rfl rfl rfl
          | refine go_add rfl ?_
          | refine go_mul rfl ?_
          | refine go_sub rfl (by omega) ?_
          | refine go_inc rfl rfl rfl rfl rfl ?_
          | refine go_dec rfl rfl rfl (by omega) rfl rfl ?_
          | refine go_div rfl (by omega) ?_
          | refine go_rem rfl (by omega) ?_
          | refine go_icT rfl (by dsimp only [ncd]; omega) ?_
          | refine go_icF rfl (by dsimp only [ncd]; omega) ?_
          | refine go_ifT rfl (by dsimp only [ncd]; omega) ?_
          | refine go_ifF rfl (by dsimp only [ncd]; omega) ?_
          | refine go_ift rfl (by decide) ?_
          | refine go_s rfl ?_
          )
      · show Go X (fu + 2) mX2_explore (6, [(0, .ref 21), (1, .ref 1), (2, .int (nI n)), (3, .int (nI i)), (4, .int (nI y)), (5, .int (nI z))], [], _) _
        repeat (first
          | exact go_ret rfl rfl rfl rfl
          | exact go_end rfl rfl rfl rfl
          | refine go_add rfl ?_
          | refine go_mul rfl ?_
          | refine go_sub rfl (by omega) ?_
          | refine go_inc rfl rfl rfl rfl rfl ?_
          | refine go_dec rfl rfl rfl (by omega) rfl rfl ?_
          | refine go_div rfl (by omega) ?_
          | refine go_rem rfl (by omega) ?_
          | refine go_icT rfl (by dsimp only [ncd]; omega) ?_
          | refine go_icF rfl (by dsimp only [ncd]; omega) ?_
          | refine go_ifT rfl (by dsimp only [ncd]; omega) ?_
          | refine go_ifF rfl (by dsimp only [ncd]; omega) ?_
          | refine go_ift rfl (by decide) ?_
          | refine go_s rfl ?_
          )
    | some p =>
      have il := idx_lt e1
      have hg : ∀ r, r < n → isRow (G0 r) := fun r hr => by rw [hG0]; exact inv_row (hC.2.2.1 r hr).2
      have ip := hB.2.1 p (List.mem_of_getElem? e1)
      have q24 := hQ.2 i p e1
      have hK := KM_C hn
      obtain ⟨A1, k1, hx1, G1⟩ := c_read (X := X) (fu := fu + 1) (e := e) (A := A) (rc := nI n) (pc := nI m) (ch := ch) (wf := wf) (rd := (nI l.length)) (mo := (nI (laD l))) (sm := (nI (suD l))) (mk := mk) (R := R) rw_from ip
      have G2 := c_rank (X := X) (fu := fu + 1) (e := e) (A := A1) (rc := nI n) (pc := nI m) (ch := ch) (wf := wf) (rd := (nI l.length)) (mo := (nI (laD l))) (sm := (nI (suD l))) (mk := mk) (R := R) rw_from hx1
      have hQ1 : QW A1 l := ⟨fun y hy => by rw [k1 22 (by omega) (by omega), k1 23 (by omega) (by omega)]; exact hQ.1 y hy, fun i q hq => by rw [k1 24 (by omega) (by omega)]; exact hQ.2 i q hq⟩
      have hC1 : CP A1 n ps m len pr := CP_keep hC fun j hj => k1 j (by omega) (by omega)
      obtain ⟨A2, k2, hQ2, G3⟩ := ex_in (X := X) (fu := fu) (e := e) (n := n) (m := m) (ch := ch) (wf := wf) (mk := mk) (R := R) (ps := ps) (len := len) (pr := pr) hG0 (i := i) (p := p) (fr := rk p.1) rfl n 0 l A1 (by omega) hC1 hQ1 hB e1 (fun q hq r2 _ h2 => hu p e1 q hq r2 h2)
      obtain ⟨f1, f2, f3, f4⟩ := BV_in (s := R0) hK (nb_row hg) n 0 l (by omega) hB e1 (fun q hq r2 _ h2 => hu p e1 q hq r2 h2)
      obtain ⟨A3, k3, hQ3, G4⟩ := ih (i + 1) _ A2 [(4, .int (nI (rk p.1))), (5, .int (nI n))] (Or.inr ⟨_, _, rfl⟩) (by omega) (CP_keep hC1 fun j hj => k2 j (by omega)) hQ2 f1 (fun p2 hp2 q hq r hr => by
        have s1 := f1.2.2.2.1 i (i + 1) p p2 (by omega) (f2.2 _ _ e1) hp2
        have s2 := (f1.2.2.2.2.1 (i + 1) p2 (by omega) hp2).1
        rcases f4 q hq with hq | ⟨r2, hr2, hq⟩
        · refine Nat.le_trans (hu p e1 q hq r hr) ?_
          by_cases e6 : p.2 = p2.2
          · rw [e6]; exact Nat.le_refl _
          · exact hK.2.1 _ _ _ _ hr hr s2 (by omega)
        · rw [hq]
          by_cases e6 : p.2 = p2.2
          · rw [e6, hK.2.2.2 _ _ _ s2 hr2 hr]; exact Nat.le_refl _
          · exact hK.2.1 _ _ _ _ hr2 hr s2 (by omega))
      refine ⟨A3, fun j hj => (k3 j hj).trans ((k2 j hj).trans (k1 j (by omega) (by omega))), hQ3, ?_⟩
      have G5 := G3 (.inl none, (cc A3 (nI n) (nI m) ch wf (nI (bo (nbC G0) nkC n q (i + 1) (bi (nbC G0) nkC p.1 p.2 n 0 l)).length) (nI (laD (bo (nbC G0) nkC n q (i + 1) (bi (nbC G0) nkC p.1 p.2 n 0 l)))) (nI (suD (bo (nbC G0) nkC n q (i + 1) (bi (nbC G0) nkC p.1 p.2 n 0 l)))) mk ++ R, e)) (by
        repeat (first
          | exact G4
          | exact go_ret rfl rfl rfl rfl
          | exact go_end rfl rfl rfl rfl
          | refine go_add rfl ?_
          | refine go_mul rfl ?_
          | refine go_sub rfl (by omega) ?_
          | refine go_inc rfl rfl rfl rfl rfl ?_
          | refine go_dec rfl rfl rfl (by omega) rfl rfl ?_
          | refine go_div rfl (by omega) ?_
          | refine go_rem rfl (by omega) ?_
          | refine go_icT rfl (by dsimp only [ncd]; omega) ?_
          | refine go_icF rfl (by dsimp only [ncd]; omega) ?_
          | refine go_ifT rfl (by dsimp only [ncd]; omega) ?_
          | refine go_ifF rfl (by dsimp only [ncd]; omega) ?_
          | refine go_ift rfl (by decide) ?_
          | refine go_s rfl ?_
          ))
      rcases hL with rfl | ⟨y, z, rfl⟩
      · show Go X (fu + 2) mX2_explore (6, [(0, .ref 21), (1, .ref 1), (2, .int (nI n)), (3, .int (nI i))], [], _) _
        repeat (first
          | exact G5
          | exact go_ret rfl rfl rfl rfl
          | exact go_end rfl rfl rfl rfl
          | refine go_add rfl ?_
          | refine go_mul rfl ?_
          | refine go_sub rfl (by omega) ?_
          | refine go_inc rfl rfl rfl rfl rfl ?_
          | refine go_dec rfl rfl rfl (by omega) rfl rfl ?_
          | refine go_ial rfl rfl (by first | omega | exact ⟨dg_lt _ _, by omega⟩) (q24) ?_
          | refine go_div rfl (by omega) ?_
          | refine go_rem rfl (by omega) ?_
          | refine go_cn rfl rfl rfl rfl rfl G1 ?_
          | refine go_ci rfl rfl rfl rfl rfl G2 ?_
          | refine go_icT rfl (by dsimp only [ncd]; omega) ?_
          | refine go_icF rfl (by dsimp only [ncd]; omega) ?_
          | refine go_ifT rfl (by dsimp only [ncd]; omega) ?_
          | refine go_ifF rfl (by dsimp only [ncd]; omega) ?_
          | refine go_ift rfl (by decide) ?_
          | refine go_s rfl ?_
          )
      · show Go X (fu + 2) mX2_explore (6, [(0, .ref 21), (1, .ref 1), (2, .int (nI n)), (3, .int (nI i)), (4, .int (nI y)), (5, .int (nI z))], [], _) _
        repeat (first
          | exact G5
          | exact go_ret rfl rfl rfl rfl
          | exact go_end rfl rfl rfl rfl
          | refine go_add rfl ?_
          | refine go_mul rfl ?_
          | refine go_sub rfl (by omega) ?_
          | refine go_inc rfl rfl rfl rfl rfl ?_
          | refine go_dec rfl rfl rfl (by omega) rfl rfl ?_
          | refine go_ial rfl rfl (by first | omega | exact ⟨dg_lt _ _, by omega⟩) (q24) ?_
          | refine go_div rfl (by omega) ?_
          | refine go_rem rfl (by omega) ?_
          | refine go_cn rfl rfl rfl rfl rfl G1 ?_
          | refine go_ci rfl rfl rfl rfl rfl G2 ?_
          | refine go_icT rfl (by dsimp only [ncd]; omega) ?_
          | refine go_icF rfl (by dsimp only [ncd]; omega) ?_
          | refine go_ifT rfl (by dsimp only [ncd]; omega) ?_
          | refine go_ifF rfl (by dsimp only [ncd]; omega) ?_
          | refine go_ift rfl (by decide) ?_
          | refine go_s rfl ?_
          )
/-- the rows from rounds, with their keys -/
def WL (n : Nat) (ps : Nat → Nat) : List (Nat × Nat) := bfs (nbC (fun r => inv (ps r))) nkC n R0
theorem m_explore (hC : CP A n ps m len pr) : ∃ A2, (∀ j, j < 22 → A2 j = A j) ∧ QT A2 (WL n ps) ∧ Go X (fu + 2) mX2_explore (0, [(0, .ref 21), (1, .ref 1), (2, .int (nI n))], [], (cc A (nI n) (nI m) ch wf rd mo sm mk ++ R, e)) (.inl none, (cc A2 (nI n) (nI m) ch wf (nI (WL n ps).length) (nI (laD (WL n ps))) (nI (suD (WL n ps))) mk ++ R, e)) := by
  obtain ⟨A1, k1, hQ1, G1⟩ := c_begin (X := X) (fu := fu) (e := e) (n := n) (m := m) (A := A) (ch := ch) (wf := wf) (rd := rd) (mo := mo) (sm := sm) (mk := mk) (R := R)
  obtain ⟨A2, k2, hQ2, G2⟩ := ex_out (X := X) (fu := fu) (e := e) (n := n) (m := m) (ch := ch) (wf := wf) (mk := mk) (R := R) (ps := ps) (len := len) (pr := pr) (G0 := fun r => inv (ps r)) rfl 720 0 [(R0, 0)] A1 [] (Or.inl rfl) (by omega) (CP_keep hC fun j hj => k1 j (by omega)) hQ1 (BV_0 R0_row) (fun p hp q hq r hr => by
    have e1 : q = (R0, 0) := by simpa using hq
    rw [e1]
    exact Nat.zero_le _)
  refine ⟨A2, fun j hj => (k2 j hj).trans (k1 j hj), hQ2.1, ?_⟩
  repeat (first
    | exact G2
    | exact go_ret rfl rfl rfl rfl
    | exact go_end rfl rfl rfl rfl
    | refine go_add rfl ?_
    | refine go_mul rfl ?_
    | refine go_sub rfl (by omega) ?_
    | refine go_inc rfl rfl rfl rfl rfl ?_
    | refine go_dec rfl rfl rfl (by omega) rfl rfl ?_
    | refine go_div rfl (by omega) ?_
    | refine go_rem rfl (by omega) ?_
    | refine go_cn rfl rfl rfl rfl rfl G1 ?_
    | refine go_icT rfl (by dsimp only [ncd]; omega) ?_
    | refine go_icF rfl (by dsimp only [ncd]; omega) ?_
    | refine go_ifT rfl (by dsimp only [ncd]; omega) ?_
    | refine go_ifF rfl (by dsimp only [ncd]; omega) ?_
    | refine go_ift rfl (by decide) ?_
    | refine go_s rfl ?_
    )
/-- the ways are not known, or they are these -/
def WF (A : Nat → Nat → Int32) (n : Nat) (ps : Nat → Nat) (wf rd mo sm : Int32) : Prop := wf = nI 0 ∨ (wf = nI 1 ∧ QT A (WL n ps) ∧ rd = nI (WL n ps).length ∧ mo = nI (laD (WL n ps)) ∧ sm = nI (suD (WL n ps)))
theorem m_fitWays (hC : CP A n ps m len pr) (hW : WF A n ps wf rd mo sm) : ∃ A2, (∀ j, j < 22 → A2 j = A j) ∧ QT A2 (WL n ps) ∧ Go X (fu + 3) mX3_fitWays (0, [(0, .ref 0)], [], (cc A (nI n) (nI m) ch wf rd mo sm mk ++ R, e)) (.inl none, (cc A2 (nI n) (nI m) ch (nI 1) (nI (WL n ps).length) (nI (laD (WL n ps))) (nI (suD (WL n ps))) mk ++ R, e)) := by
  rcases hW with rfl | ⟨rfl, hQ, rfl, rfl, rfl⟩
  · obtain ⟨A2, k2, hQ2, G2⟩ := m_explore (X := X) (fu := fu) (e := e) (ch := ch) (wf := nI 0) (rd := rd) (mo := mo) (sm := sm) (mk := mk) (R := R) hC
    refine ⟨A2, k2, hQ2, ?_⟩
    repeat (first
      | exact go_ret rfl rfl rfl rfl
      | exact go_end rfl rfl rfl rfl
      | refine go_add rfl ?_
      | refine go_mul rfl ?_
      | refine go_sub rfl (by omega) ?_
      | refine go_inc rfl rfl rfl rfl rfl ?_
      | refine go_dec rfl rfl rfl (by omega) rfl rfl ?_
      | refine go_div rfl (by omega) ?_
      | refine go_rem rfl (by omega) ?_
      | refine go_cn rfl rfl rfl rfl rfl G2 ?_
      | refine go_icT rfl (by dsimp only [ncd]; omega) ?_
      | refine go_icF rfl (by dsimp only [ncd]; omega) ?_
      | refine go_ifT rfl (by dsimp only [ncd]; omega) ?_
      | refine go_ifF rfl (by dsimp only [ncd]; omega) ?_
      | refine go_ift rfl (by decide) ?_
      | refine go_s rfl ?_
      )
  · refine ⟨A, fun _ _ => rfl, hQ, ?_⟩
    repeat (first
      | exact go_ret rfl rfl rfl rfl
      | exact go_end rfl rfl rfl rfl
      | refine go_add rfl ?_
      | refine go_mul rfl ?_
      | refine go_sub rfl (by omega) ?_
      | refine go_inc rfl rfl rfl rfl rfl ?_
      | refine go_dec rfl rfl rfl (by omega) rfl rfl ?_
      | refine go_div rfl (by omega) ?_
      | refine go_rem rfl (by omega) ?_
      | refine go_icT rfl (by dsimp only [ncd]; omega) ?_
      | refine go_icF rfl (by dsimp only [ncd]; omega) ?_
      | refine go_ifT rfl (by dsimp only [ncd]; omega) ?_
      | refine go_ifF rfl (by dsimp only [ncd]; omega) ?_
      | refine go_ift rfl (by decide) ?_
      | refine go_s rfl ?_
      )
theorem keep_s (A : Nat → Nat → Int32) {k : Nat} (f : Nat → Int32) (hk : 20 ≤ k ∧ k ≠ 22 ∧ k ≠ 23) : keep A (aset A k f) :=
  ⟨fun j hj => aset_n (by omega), aset_n (by omega), aset_n (by omega)⟩
theorem rs_loop {c its : Nat} (ic : isRow c) (ii : isRow its) {oo : zOut} :
    ∀ (q k : Nat) (A : Nat → Nat → Int32), k + q = 6 → rw6 (A 19) c → (∀ j, j < 6 → A 32 j = nI (if j < k then dg (inv c) (dg its j) else dg its j)) → ∃ A2, keep A A2 ∧ rw6 (A2 32) (cmp (inv c) its) ∧ ∀ oo, Go X (fu + 1) mX3_rankSeenFromTheRow (47, [(0, .ref 0), (1, .int (nI its)), (2, .int (nI 6))], [], (cc A2 (nI n) (nI m) ch wf rd mo sm mk ++ R, e)) oo → Go X (fu + 1) mX3_rankSeenFromTheRow (10, [(0, .ref 0), (1, .int (nI its)), (2, .int (nI k))], [], (cc A (nI n) (nI m) ch wf rd mo sm mk ++ R, e)) oo := by
  intro q
  induction q with
  | zero =>
    intro k A hk hx hv
    obtain rfl : k = 6 := by omega
    refine ⟨A, keep_r A, fun j hj => ?_, fun oo K => ?_⟩
    · rw [hv j hj, if_pos hj, dg_cmp hj]
    · repeat (first
      | exact K
      | exact go_ret rfl rfl rfl rfl
      | exact go_end rfl rfl rfl rfl
      | refine go_add rfl ?_
      | refine go_mul rfl ?_
      | refine go_sub rfl (by omega) ?_
      | refine go_inc rfl rfl rfl rfl rfl ?_
      | refine go_dec rfl rfl rfl (by omega) rfl rfl ?_
      | refine go_div rfl (by omega) ?_
      | refine go_rem rfl (by omega) ?_
      | refine go_icT rfl (by dsimp only [ncd]; omega) ?_
      | refine go_icF rfl (by dsimp only [ncd]; omega) ?_
      | refine go_ifT rfl (by dsimp only [ncd]; omega) ?_
      | refine go_ifF rfl (by dsimp only [ncd]; omega) ?_
      | refine go_ift rfl (by decide) ?_
      | refine go_s rfl ?_
      )
  | succ q ih =>
    intro k A hk hx hv
    have h1 : A 32 k = nI (dg its k) := by rw [hv k (by omega), if_neg (by omega)]
    have G := c_placeOf (X := X) (fu := fu) (e := e) (A := A) (rc := nI n) (pc := nI m) (ch := ch) (wf := wf) (rd := rd) (mo := mo) (sm := sm) (mk := mk) (R := R) rw_row hx ic (v := dg its k) (dg_lt _ _)
    obtain ⟨A2, k2, hx2, G2⟩ := ih (k + 1) (aset A 32 (upd (A 32) k (nI (dg (inv c) (dg its k))))) (by omega) (by rw [aset_n (by omega)]; exact hx) (fun j hj => by
      rw [aset_s]
      by_cases e1 : j = k
      · subst e1
        rw [pk_us, if_pos (by omega)]
      · rw [pk_un e1, hv j hj]
        by_cases e2 : j < k
        · rw [if_pos e2, if_pos (by omega)]
        · rw [if_neg e2, if_neg (by omega)])
    refine ⟨A2, keep_t (keep_s A _ (by omega)) k2, hx2, fun oo K => ?_⟩
    have K2 := G2 oo K
    repeat (first
      | exact K2
      | exact go_ret rfl rfl rfl rfl
      | exact go_end rfl rfl rfl rfl
      | refine go_add rfl ?_
      | refine go_mul rfl ?_
      | refine go_sub rfl (by omega) ?_
      | refine go_inc rfl rfl rfl rfl rfl ?_
      | refine go_dec rfl rfl rfl (by omega) rfl rfl ?_
      | refine go_ial rfl rfl (by first | omega | exact ⟨dg_lt _ _, by omega⟩) (h1) ?_
      | refine go_iash rfl rfl (by first | omega | exact ⟨dg_lt _ _, by omega⟩) rfl ?_
      | refine go_div rfl (by omega) ?_
      | refine go_rem rfl (by omega) ?_
      | refine go_ci rfl rfl rfl rfl rfl G ?_
      | refine go_icT rfl (by dsimp only [ncd]; omega) ?_
      | refine go_icF rfl (by dsimp only [ncd]; omega) ?_
      | refine go_ifT rfl (by dsimp only [ncd]; omega) ?_
      | refine go_ifF rfl (by dsimp only [ncd]; omega) ?_
      | refine go_ift rfl (by decide) ?_
      | refine go_s rfl ?_
      )
theorem m_rankSeen {c its : Nat} (hx : rw6 (A 19) c) (ic : isRow c) (ii : isRow its) : ∃ A2, keep A A2 ∧ Go X (fu + 1) mX3_rankSeenFromTheRow (0, [(0, .ref 0), (1, .int (nI its))], [], (cc A (nI n) (nI m) ch wf rd mo sm mk ++ R, e)) (.inl (some (.int (nI (rk (cmp (inv c) its))))), (cc A2 (nI n) (nI m) ch wf rd mo sm mk ++ R, e)) := by
  obtain ⟨A1, k1, hx1, G1⟩ := c_read (X := X) (fu := fu) (e := e) (A := A) (rc := nI n) (pc := nI m) (ch := ch) (wf := wf) (rd := rd) (mo := mo) (sm := sm) (mk := mk) (R := R) rw_trial ii
  obtain ⟨A2, k2, hx2, G2⟩ := rs_loop (X := X) (fu := fu) (e := e) (n := n) (m := m) (ch := ch) (wf := wf) (rd := rd) (mo := mo) (sm := sm) (mk := mk) (R := R) ic ii (oo := (.inl none, ([], 0))) 6 0 A1 (by omega) (by rw [k1 19 (by omega) (by omega)]; exact hx) (fun j hj => by rw [if_neg (by omega)]; exact hx1 j hj)
  have G3 := c_rank (X := X) (fu := fu) (e := e) (A := A2) (rc := nI n) (pc := nI m) (ch := ch) (wf := wf) (rd := rd) (mo := mo) (sm := sm) (mk := mk) (R := R) rw_trial hx2
  refine ⟨A2, keep_t (keep_o 32 33 k1 (by omega)) k2, ?_⟩
  have G4 := G2 (.inl (some (.int (nI (rk (cmp (inv c) its))))), (cc A2 (nI n) (nI m) ch wf rd mo sm mk ++ R, e)) (by
    repeat (first
      | exact go_ret rfl rfl rfl rfl
      | exact go_end rfl rfl rfl rfl
      | refine go_add rfl ?_
      | refine go_mul rfl ?_
      | refine go_sub rfl (by omega) ?_
      | refine go_inc rfl rfl rfl rfl rfl ?_
      | refine go_dec rfl rfl rfl (by omega) rfl rfl ?_
      | refine go_div rfl (by omega) ?_
      | refine go_rem rfl (by omega) ?_
      | refine go_ci rfl rfl rfl rfl rfl G3 ?_
      | refine go_icT rfl (by dsimp only [ncd]; omega) ?_
      | refine go_icF rfl (by dsimp only [ncd]; omega) ?_
      | refine go_ifT rfl (by dsimp only [ncd]; omega) ?_
      | refine go_ifF rfl (by dsimp only [ncd]; omega) ?_
      | refine go_ift rfl (by decide) ?_
      | refine go_s rfl ?_
      ))
  repeat (first
    | exact G4
    | exact go_ret rfl rfl rfl rfl
    | exact go_end rfl rfl rfl rfl
    | refine go_add rfl ?_
    | refine go_mul rfl ?_
    | refine go_sub rfl (by omega) ?_
    | refine go_inc rfl rfl rfl rfl rfl ?_
    | refine go_dec rfl rfl rfl (by omega) rfl rfl ?_
    | refine go_div rfl (by omega) ?_
    | refine go_rem rfl (by omega) ?_
    | refine go_cn rfl rfl rfl rfl rfl G1 ?_
    | refine go_icT rfl (by dsimp only [ncd]; omega) ?_
    | refine go_icF rfl (by dsimp only [ncd]; omega) ?_
    | refine go_ifT rfl (by dsimp only [ncd]; omega) ?_
    | refine go_ifF rfl (by dsimp only [ncd]; omega) ?_
    | refine go_ift rfl (by decide) ?_
    | refine go_s rfl ?_
    )
end WAYS
