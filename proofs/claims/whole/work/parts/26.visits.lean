/-! ===== the reference: visits, peals, spreading ===== -/
theorem go_and0 {X : zX} {f : Nat} {d : zMd} {o : zOut} {pc pc0 np a b w : Nat} {L : List (Nat × Value)} {S : List Value} {h : zH} {x : Int32} (h1 : zf (zi d) pc = some (pc0, np, .iand, a, b, w)) (k : Go X f d (np, L, .int (nI 0) :: S, h) o) : Go X f d (pc, L, .int (nI 0) :: .int x :: S, h) o :=
  go_s ((zs1_of h1 rfl).trans (congrArg (fun z => some (np, L, Value.int z :: S, h)) (show x &&& nI 0 = nI 0 by
    apply Int32.toBitVec_inj.mp
    rw [Int32.toBitVec_and]
    exact BitVec.and_zero))) k
def fwM : Option Nat → Int32
  | none => -nI 1
  | some k => nI k
/-- the rows that are visited -/
def VB (B : Nat → Nat → Int32) (l : List (Nat × Nat)) : Prop := (∀ y, isRow y → B 40 y = fwM (lk l y)) ∧ (∀ (i : Nat) (q : Nat × Nat), l[i]? = some q → B 41 i = nI q.1) ∧ (l.map Prod.fst).Nodup ∧ (∀ q, q ∈ l → isRow q.1) ∧ ∀ q, q ∈ l → q.2 ≤ 10900
theorem VB_keep {B B2 : Nat → Nat → Int32} {l : List (Nat × Nat)} (h : VB B l) (k1 : B2 40 = B 40) (k2 : B2 41 = B 41) : VB B2 l := by
  obtain ⟨h1, h2, h3⟩ := h
  exact ⟨fun y hy => by rw [k1]; exact h1 y hy, fun i q hq => by rw [k2]; exact h2 i q hq, h3⟩
theorem MR_keep {B B2 : Nat → Nat → Int32} {n m : Nat} {ps len : Nat → Nat} {pr : Nat → Nat → Nat} (h : MR B n ps m len pr) (k : ∀ j, j < 40 → B2 j = B j) : MR B2 n ps m len pr := by
  obtain ⟨h1, h2, h3, h4, h5, h6⟩ := h
  refine ⟨h1, h2, h3, fun i hi j hj => ?_, ?_, fun j hj => ?_⟩
  · rw [k 37 (by omega)]; exact h4 i hi j hj
  · rw [k 38 (by omega)]; exact h5
  · rw [k 39 (by omega)]; exact h6 j hj
theorem neg1_nat {k : Nat} (hk : k < 2147483648) : ¬ nI k = -nI 1 := fun q => by
  have h1 := congrArg Int32.toInt q
  rw [nI_toInt hk, show (-nI 1 : Int32).toInt = -1 from by decide +kernel] at h1
  omega
theorem addk_fst (l : List (Nat × Nat)) (x k : Nat) : (addk l x k).map Prod.fst = addv (l.map Prod.fst) x := by
  have h : x ∈ l.map Prod.fst ↔ lk l x ≠ none := by
    rw [Ne, lk_none]
    constructor
    · intro h1 h2
      obtain ⟨q, hq, e⟩ := List.mem_map.mp h1
      exact h2 q hq e
    · intro h1
      by_cases q : x ∈ l.map Prod.fst
      · exact q
      · exact absurd (fun p hp e => q (List.mem_map.mpr ⟨p, hp, e⟩)) h1
  unfold addv
  cases e : lk l x with
  | some j =>
    rw [addk_s e, if_pos (h.mpr (by rw [e]; simp))]
  | none =>
    rw [addk_n e, if_neg (fun z => h.mp z e), List.map_append]
    rfl
theorem mem_fst {l : List (Nat × Nat)} {x : Nat} : x ∈ l.map Prod.fst ↔ lk l x ≠ none := by
  rw [Ne, lk_none]
  constructor
  · intro h1 h2
    obtain ⟨q, hq, e⟩ := List.mem_map.mp h1
    exact h2 q hq e
  · intro h1
    by_cases q : x ∈ l.map Prod.fst
    · exact q
    · exact absurd (fun p hp e => q (List.mem_map.mpr ⟨p, hp, e⟩)) h1
section VISIT
variable {X : zX} {fu e n m : Nat} {A B : Nat → Nat → Int32} {c1 c2 c3 c4 c5 c6 c7 c8 th co ch sp : Int32} {R : List zC} {ps len : Nat → Nat} {pr : Nat → Nat → Nat}
theorem fg_loop {l : List (Nat × Nat)} (hl : l.length ≤ 720) (hr : ∀ q, q ∈ l → isRow q.1) (h41 : ∀ (i : Nat) (q : Nat × Nat), l[i]? = some q → B 41 i = nI q.1) :
    ∀ (q k : Nat) (B1 : Nat → Nat → Int32), k + q = l.length → (∀ j, j ≠ 40 → B1 j = B j) → (∀ y, isRow y → (lk l y = none ∨ ∃ i d, i < k ∧ l[i]? = some (y, d)) → B1 40 y = -nI 1) → ∃ B2, (∀ j, j ≠ 40 → B2 j = B j) ∧ VB B2 [] ∧ Go X fu mX4_forget (2, [(0, .ref 36), (1, .int (nI k))], [], (cc A c1 c2 c3 c4 c5 c6 c7 c8 ++ (mm B1 th (nI n) (nI m) co ch (nI l.length) ++ R), e)) (.inl none, (cc A c1 c2 c3 c4 c5 c6 c7 c8 ++ (mm B2 th (nI n) (nI m) co ch (nI 0) ++ R), e)) := by
  intro q
  induction q with
  | zero =>
    intro k B1 hk hj hv
    obtain rfl : k = l.length := by omega
    refine ⟨B1, hj, ⟨fun y hy => ?_, fun i q hq => by simp at hq, by simp, fun q hq => by simp at hq, fun q hq => by simp at hq⟩, ?_⟩
    · refine hv y hy ?_
      cases e1 : lk l y with
      | none => exact Or.inl rfl
      | some d =>
        obtain ⟨a, ha, e2⟩ := List.getElem_of_mem (lk_some e1)
        exact Or.inr ⟨a, d, ha, by rw [List.getElem?_eq_getElem ha, e2]⟩
    · repeat (first
      | exact go_ret rfl rfl rfl rfl
      | exact go_end rfl rfl rfl rfl
      | refine go_add rfl ?_
      | refine go_mul rfl ?_
      | refine go_sub rfl (by omega) ?_
      | refine go_inc rfl rfl rfl rfl rfl ?_
      | refine go_dec rfl rfl rfl (by omega) rfl rfl ?_
      | refine go_wrth rfl (by omega) ?_
      | refine go_div rfl (by omega) ?_
      | refine go_rem rfl (by omega) ?_
      | refine go_icT rfl (by dsimp only [ncd]; omega) ?_
      | refine go_icF rfl (by dsimp only [ncd]; omega) ?_
      | refine go_ifT rfl (by dsimp only [ncd]; omega) ?_
      | refine go_ifF rfl (by dsimp only [ncd]; omega) ?_
      | refine go_ift rfl (by decide) ?_
      | refine go_s rfl ?_
      )
  | succ q ih =>
    intro k B1 hk hj hv
    have hkl : k < l.length := by omega
    have hx := h41 k l[k] (List.getElem?_eq_getElem hkl)
    have ix := hr l[k] (List.getElem_mem hkl)
    have lx := row_lt ix
    have h41b : B1 41 k = nI l[k].1 := by rw [hj 41 (by omega)]; exact hx
    obtain ⟨B2, k2, hV, G⟩ := ih (k + 1) (aset B1 40 (upd (B1 40) l[k].1 (-nI 1))) (by omega) (fun j h => by rw [aset_n h]; exact hj j h) (fun y hy h => by
      rw [aset_s]
      by_cases e1 : y = l[k].1
      · rw [e1, pk_us]
      · rw [pk_un e1]
        refine hv y hy (h.imp (fun z => z) ?_)
        rintro ⟨i, d, hi, e2⟩
        refine ⟨i, d, ?_, e2⟩
        by_cases e3 : i = k
        · subst e3
          rw [List.getElem?_eq_getElem hkl] at e2
          exact absurd (congrArg Prod.fst (Option.some.inj e2)).symm e1
        · omega)
    refine ⟨B2, k2, hV, ?_⟩
    repeat (first
      | exact G
      | refine go_inc rfl rfl rfl rfl rfl ?_
      | refine go_ial rfl rfl (by omega) h41b ?_
      | refine go_iash rfl rfl (by omega) rfl ?_
      | refine go_icF rfl (by dsimp only [ncd]; omega) ?_
      | refine go_s rfl ?_)
theorem n_forget {l : List (Nat × Nat)} (hV : VB B l) : ∃ B2, (∀ j, j ≠ 40 → B2 j = B j) ∧ VB B2 [] ∧ Go X fu mX4_forget (0, [(0, .ref 36)], [], (cc A c1 c2 c3 c4 c5 c6 c7 c8 ++ (mm B th (nI n) (nI m) co ch (nI l.length) ++ R), e)) (.inl none, (cc A c1 c2 c3 c4 c5 c6 c7 c8 ++ (mm B2 th (nI n) (nI m) co ch (nI 0) ++ R), e)) := by
  obtain ⟨B2, k2, h2, G⟩ := fg_loop (X := X) (fu := fu) (e := e) (A := A) (c1 := c1) (c2 := c2) (c3 := c3) (c4 := c4) (c5 := c5) (c6 := c6) (c7 := c7) (c8 := c8) (th := th) (co := co) (ch := ch) (R := R) (n := n) (m := m) (len_720 hV.2.2.1 hV.2.2.2.1) hV.2.2.2.1 hV.2.1 l.length 0 B (by omega) (fun _ _ => rfl) (fun y hy h => by
    rcases h with h | ⟨i, d, h1, _⟩
    · rw [hV.1 y hy, h]; rfl
    · omega)
  refine ⟨B2, k2, h2, ?_⟩
  repeat (first
    | exact G
    | exact go_ret rfl rfl rfl rfl
    | exact go_end rfl rfl rfl rfl
    | refine go_add rfl ?_
    | refine go_mul rfl ?_
    | refine go_sub rfl (by omega) ?_
    | refine go_inc rfl rfl rfl rfl rfl ?_
    | refine go_dec rfl rfl rfl (by omega) rfl rfl ?_
    | refine go_wrth rfl (by omega) ?_
    | refine go_div rfl (by omega) ?_
    | refine go_rem rfl (by omega) ?_
    | refine go_icT rfl (by dsimp only [ncd]; omega) ?_
    | refine go_icF rfl (by dsimp only [ncd]; omega) ?_
    | refine go_ifT rfl (by dsimp only [ncd]; omega) ?_
    | refine go_ifF rfl (by dsimp only [ncd]; omega) ?_
    | refine go_ift rfl (by decide) ?_
    | refine go_s rfl ?_
    )
theorem n_comes {l : List (Nat × Nat)} (hV : VB B l) {y k : Nat} (iy : isRow y) (hk : k ≤ 10900) : ∃ B2, (∀ j, j ≠ 40 → j ≠ 41 → B2 j = B j) ∧ VB B2 (addk l y k) ∧ Go X fu mX4_comes (0, [(0, .ref 36), (1, .int (nI y)), (2, .int (nI k))], [], (cc A c1 c2 c3 c4 c5 c6 c7 c8 ++ (mm B th (nI n) (nI m) co ch (nI l.length) ++ R), e)) (.inl (some (.int (nI (if lk l y = none then 1 else 0)))), (cc A c1 c2 c3 c4 c5 c6 c7 c8 ++ (mm B2 th (nI n) (nI m) co ch (nI (addk l y k).length) ++ R), e)) := by
  have ly := row_lt iy
  have t1 := hV.1 y iy
  cases e1 : lk l y with
  | some j =>
    have j1 := hV.2.2.2.2 _ (lk_some e1)
    have nj : ¬ zcq .eq (nI j) (-nI 1) := neg1_nat (by have : j ≤ 10900 := j1; omega)
    rw [e1] at t1
    have t2 : B 40 y = nI j := t1
    refine ⟨B, fun _ _ _ => rfl, by rw [addk_s e1]; exact hV, ?_⟩
    rw [addk_s e1, if_neg (fun z => by cases z)]
    repeat (first
      | exact go_ret rfl rfl rfl rfl
      | exact go_end rfl rfl rfl rfl
      | refine go_add rfl ?_
      | refine go_mul rfl ?_
      | refine go_sub rfl (by omega) ?_
      | refine go_inc rfl rfl rfl rfl rfl ?_
      | refine go_dec rfl rfl rfl (by omega) rfl rfl ?_
      | refine go_wrth rfl (by omega) ?_
      | refine go_ial rfl rfl (by first | omega | exact ⟨dg_lt _ _, by omega⟩) (t2) ?_
      | refine go_div rfl (by omega) ?_
      | refine go_rem rfl (by omega) ?_
      | refine go_icf rfl nj ?_
      | refine go_icT rfl (by dsimp only [ncd]; omega) ?_
      | refine go_icF rfl (by dsimp only [ncd]; omega) ?_
      | refine go_ifT rfl (by dsimp only [ncd]; omega) ?_
      | refine go_ifF rfl (by dsimp only [ncd]; omega) ?_
      | refine go_ift rfl (by decide) ?_
      | refine go_s rfl ?_
      )
  | none =>
    have l1 := len_lt hV.2.2.1 hV.2.2.2.1 iy e1
    rw [e1] at t1
    have t2 : B 40 y = -nI 1 := t1
    have n1 : zcq .eq (-nI 1) (-nI 1) := rfl
    refine ⟨aset (aset B 40 (upd (B 40) y (nI k))) 41 (upd (B 41) l.length (nI y)), fun j a b => by rw [aset_n b, aset_n a], ⟨fun z hz => ?_, fun i q hq => ?_, ?_, addk_rows hV.2.2.2.1 iy, fun q hq => ?_⟩, ?_⟩
    · rw [aset_n (by omega), aset_s, addk_n e1]
      by_cases q : z = y
      · subst q
        rw [pk_us, lk_app_n e1]
        rfl
      · rw [pk_un q, hV.1 z hz]
        cases e2 : lk l z with
        | some v => rw [lk_app_s e2]
        | none => rw [lk_app_o e2 (fun w => q w.symm)]
    · rw [aset_s]
      rw [addk_n e1] at hq
      rcases idx_app hq with hq | ⟨q1, q2⟩
      · have := idx_lt hq
        rw [pk_un (by omega)]
        exact hV.2.1 i q hq
      · rw [q1, q2, pk_us]
    · rw [addk_n e1]; exact nodup_add hV.2.2.1 e1
    · rw [addk_n e1] at hq
      rcases List.mem_append.mp hq with hq | hq
      · exact hV.2.2.2.2 q hq
      · have e3 : q = (y, k) := by simpa using hq
        rw [e3]; exact hk
    · rw [addk_n e1, if_pos rfl, List.length_append]
      show Go X fu mX4_comes _ (.inl (some (.int (nI 1))), (cc A c1 c2 c3 c4 c5 c6 c7 c8 ++ (mm (aset (aset B 40 (upd (B 40) y (nI k))) 41 (upd (B 41) l.length (nI y))) th (nI n) (nI m) co ch (nI (l.length + 1)) ++ R), e))
      repeat (first
        | exact go_ret rfl rfl rfl rfl
        | refine go_add rfl ?_
        | (refine go_ialr rfl rfl (by omega) ?_; rw [t2]; refine go_s rfl ?_; refine go_ict rfl n1 ?_)
        | refine go_iash rfl rfl (by omega) rfl ?_
        | refine go_s rfl ?_)
/-! peals -/
theorem pd_loop (hM : MR B n ps m len pr) {p c0 : Nat} (hp : p < m) :
    ∀ (q k x : Nat), k + q = len p → isRow x → Go X (fu + 2) mX4_played (5, [(0, .ref 36), (1, .int (nI c0)), (2, .int (nI p)), (3, .int (nI x)), (4, .int (nI k))], [], (cc A c1 c2 c3 c4 c5 c6 c7 c8 ++ (mm B th (nI n) (nI m) co ch sp ++ R), e)) (.inl (some (.int (nI (pl ps (pr p) q k x)))), (cc A c1 c2 c3 c4 c5 c6 c7 c8 ++ (mm B th (nI n) (nI m) co ch sp ++ R), e)) := by
  have hm := hM.2.1
  have h38 := hM.2.2.2.2.1 p (by omega)
  obtain ⟨l1, l2, l3⟩ := hM.2.2.2.2.2 p (by omega)
  intro q
  induction q with
  | zero =>
    intro k x hk ix
    obtain rfl : k = len p := by omega
    repeat (first
      | exact go_ret rfl rfl rfl rfl
      | exact go_end rfl rfl rfl rfl
      | refine go_add rfl ?_
      | refine go_mul rfl ?_
      | refine go_sub rfl (by omega) ?_
      | refine go_inc rfl rfl rfl rfl rfl ?_
      | refine go_dec rfl rfl rfl (by omega) rfl rfl ?_
      | refine go_wrth rfl (by omega) ?_
      | refine go_ial rfl rfl (by first | omega | exact ⟨dg_lt _ _, by omega⟩) (h38) ?_
      | refine go_div rfl (by omega) ?_
      | refine go_rem rfl (by omega) ?_
      | refine go_icT rfl (by dsimp only [ncd]; omega) ?_
      | refine go_icF rfl (by dsimp only [ncd]; omega) ?_
      | refine go_ifT rfl (by dsimp only [ncd]; omega) ?_
      | refine go_ifF rfl (by dsimp only [ncd]; omega) ?_
      | refine go_ift rfl (by decide) ?_
      | refine go_s rfl ?_
      )
  | succ q ih =>
    intro k x hk ix
    have h39 := l2 k (by omega)
    have l4 := l3 k (by omega)
    have G := n_ringed (X := X) (fu := fu) (e := e) (A := A) (c1 := c1) (c2 := c2) (c3 := c3) (c4 := c4) (c5 := c5) (c6 := c6) (c7 := c7) (c8 := c8) (th := th) (co := co) (ch := ch) (sp := sp) (R := R) hM (row_lt ix) l4
    have K := ih (k + 1) _ (by omega) (rng_row ix (hM.2.2.1 _ l4))
    repeat (first
      | exact K
      | exact go_ret rfl rfl rfl rfl
      | exact go_end rfl rfl rfl rfl
      | refine go_add rfl ?_
      | refine go_mul rfl ?_
      | refine go_sub rfl (by omega) ?_
      | refine go_inc rfl rfl rfl rfl rfl ?_
      | refine go_dec rfl rfl rfl (by omega) rfl rfl ?_
      | refine go_wrth rfl (by omega) ?_
      | refine go_ial rfl rfl (by first | omega | exact ⟨dg_lt _ _, by omega⟩) (h38) ?_
      | refine go_ial rfl rfl (by first | omega | exact ⟨dg_lt _ _, by omega⟩) (h39) ?_
      | refine go_div rfl (by omega) ?_
      | refine go_rem rfl (by omega) ?_
      | refine go_ci rfl rfl rfl rfl rfl G ?_
      | refine go_icT rfl (by dsimp only [ncd]; omega) ?_
      | refine go_icF rfl (by dsimp only [ncd]; omega) ?_
      | refine go_ifT rfl (by dsimp only [ncd]; omega) ?_
      | refine go_ifF rfl (by dsimp only [ncd]; omega) ?_
      | refine go_ift rfl (by decide) ?_
      | refine go_s rfl ?_
      )
theorem n_played (hM : MR B n ps m len pr) {p x : Nat} (hp : p < m) (ix : isRow x) : Go X (fu + 2) mX4_played (0, [(0, .ref 36), (1, .int (nI x)), (2, .int (nI p))], [], (cc A c1 c2 c3 c4 c5 c6 c7 c8 ++ (mm B th (nI n) (nI m) co ch sp ++ R), e)) (.inl (some (.int (nI (pl ps (pr p) (len p) 0 x)))), (cc A c1 c2 c3 c4 c5 c6 c7 c8 ++ (mm B th (nI n) (nI m) co ch sp ++ R), e)) := by
  repeat (first
    | exact pd_loop hM hp (len p) 0 x (by omega) ix
    | exact go_ret rfl rfl rfl rfl
    | exact go_end rfl rfl rfl rfl
    | refine go_add rfl ?_
    | refine go_mul rfl ?_
    | refine go_sub rfl (by omega) ?_
    | refine go_inc rfl rfl rfl rfl rfl ?_
    | refine go_dec rfl rfl rfl (by omega) rfl rfl ?_
    | refine go_wrth rfl (by omega) ?_
    | refine go_div rfl (by omega) ?_
    | refine go_rem rfl (by omega) ?_
    | refine go_icT rfl (by dsimp only [ncd]; omega) ?_
    | refine go_icF rfl (by dsimp only [ncd]; omega) ?_
    | refine go_ifT rfl (by dsimp only [ncd]; omega) ?_
    | refine go_ifF rfl (by dsimp only [ncd]; omega) ?_
    | refine go_ift rfl (by decide) ?_
    | refine go_s rfl ?_
    )
theorem MR_rows (hM : MR B n ps m len pr) {p : Nat} (hp : p < m) : ∀ j, 0 ≤ j → j < 0 + len p → isRow (ps (pr p j)) := by
  intro j _ hj
  have hm := hM.2.1
  exact hM.2.2.1 _ ((hM.2.2.2.2.2 p (by omega)).2.2 j (by omega))
set_option maxHeartbeats 4000000 in
theorem nt_loop {p : Nat} (hp : p < m) :
    ∀ (q k x b : Nat) (l : List (Nat × Nat)) (B : Nat → Nat → Int32), b ≤ 1 → MR B n ps m len pr → k + q = len p → isRow x → VB B l → ∃ B2 l2, (∀ j, j < 40 → B2 j = B j) ∧ VB B2 l2 ∧ Go X (fu + 2) mX4_isTrue (20, [(0, .ref 36), (1, .int (nI p)), (2, .int (nI b)), (3, .int (nI x)), (4, .int (nI k))], [], (cc A c1 c2 c3 c4 c5 c6 c7 c8 ++ (mm B th (nI n) (nI m) co ch (nI l.length) ++ R), e)) (.inl (some (.int (nI (b * tr ps (pr p) q k x (l.map Prod.fst))))), (cc A c1 c2 c3 c4 c5 c6 c7 c8 ++ (mm B2 th (nI n) (nI m) co ch (nI l2.length) ++ R), e)) := by
  intro q
  induction q with
  | zero =>
    intro k x b l B hb hM hk ix hV
    have hm := hM.2.1
    have h38 := hM.2.2.2.2.1 p (by omega)
    obtain ⟨l1, l2, l3⟩ := hM.2.2.2.2.2 p (by omega)
    obtain rfl : k = len p := by omega
    refine ⟨B, l, fun _ _ => rfl, hV, ?_⟩
    rw [show b * tr ps (pr p) 0 (len p) x (l.map Prod.fst) = b from Nat.mul_one b]
    rcases (show b = 0 ∨ b = 1 by omega) with rfl | rfl
    · repeat (first
      | exact go_ret rfl rfl rfl rfl
      | exact go_end rfl rfl rfl rfl
      | refine go_add rfl ?_
      | refine go_mul rfl ?_
      | refine go_sub rfl (by omega) ?_
      | refine go_inc rfl rfl rfl rfl rfl ?_
      | refine go_dec rfl rfl rfl (by omega) rfl rfl ?_
      | refine go_wrth rfl (by omega) ?_
      | refine go_ial rfl rfl (by first | omega | exact ⟨dg_lt _ _, by omega⟩) (h38) ?_
      | refine go_div rfl (by omega) ?_
      | refine go_rem rfl (by omega) ?_
      | refine go_icT rfl (by dsimp only [ncd]; omega) ?_
      | refine go_icF rfl (by dsimp only [ncd]; omega) ?_
      | refine go_ifT rfl (by dsimp only [ncd]; omega) ?_
      | refine go_ifF rfl (by dsimp only [ncd]; omega) ?_
      | refine go_ift rfl (by decide) ?_
      | refine go_s rfl ?_
      )
    · repeat (first
      | exact go_ret rfl rfl rfl rfl
      | exact go_end rfl rfl rfl rfl
      | refine go_add rfl ?_
      | refine go_mul rfl ?_
      | refine go_sub rfl (by omega) ?_
      | refine go_inc rfl rfl rfl rfl rfl ?_
      | refine go_dec rfl rfl rfl (by omega) rfl rfl ?_
      | refine go_wrth rfl (by omega) ?_
      | refine go_ial rfl rfl (by first | omega | exact ⟨dg_lt _ _, by omega⟩) (h38) ?_
      | refine go_div rfl (by omega) ?_
      | refine go_rem rfl (by omega) ?_
      | refine go_icT rfl (by dsimp only [ncd]; omega) ?_
      | refine go_icF rfl (by dsimp only [ncd]; omega) ?_
      | refine go_ifT rfl (by dsimp only [ncd]; omega) ?_
      | refine go_ifF rfl (by dsimp only [ncd]; omega) ?_
      | refine go_ift rfl (by decide) ?_
      | refine go_s rfl ?_
      )
  | succ q ih =>
    intro k x b l B hb hM hk ix hV
    have hm := hM.2.1
    have h38 := hM.2.2.2.2.1 p (by omega)
    obtain ⟨l1, l2, l3⟩ := hM.2.2.2.2.2 p (by omega)
    have h39 := l2 k (by omega)
    have l4 := l3 k (by omega)
    have G := n_ringed (X := X) (fu := fu) (e := e) (A := A) (c1 := c1) (c2 := c2) (c3 := c3) (c4 := c4) (c5 := c5) (c6 := c6) (c7 := c7) (c8 := c8) (th := th) (co := co) (ch := ch) (sp := nI l.length) (R := R) hM (row_lt ix) l4
    have i2 := rng_row ix (hM.2.2.1 _ l4)
    obtain ⟨B2, k2, hV2, G2⟩ := n_comes (X := X) (fu := fu + 1) (e := e) (A := A) (c1 := c1) (c2 := c2) (c3 := c3) (c4 := c4) (c5 := c5) (c6 := c6) (c7 := c7) (c8 := c8) (th := th) (co := co) (ch := ch) (R := R) (n := n) (m := m) hV i2 (k := 0) (by omega)
    have kb : ∀ j, j < 40 → B2 j = B j := fun j hj => k2 j (by omega) (by omega)
    have h38b : B2 38 p = nI (len p) := by rw [kb 38 (by omega)]; exact h38
    have IH := fun b hb => ih (k + 1) _ b _ B2 hb (MR_keep hM kb) (by omega) i2 hV2
    rw [addk_fst] at IH
    show ∃ B3 l3, (∀ j, j < 40 → B3 j = B j) ∧ VB B3 l3 ∧ Go X (fu + 2) mX4_isTrue _ (.inl (some (.int (nI (b * if rng x (ps (pr p k)) ∈ l.map Prod.fst ∧ ¬ (q = 0 ∧ rng x (ps (pr p k)) = R0) then 0 else tr ps (pr p) q (k + 1) (rng x (ps (pr p k))) (addv (l.map Prod.fst) (rng x (ps (pr p k)))))))), _)
    have SA : ∀ oo, Go X (fu + 2) mX4_isTrue (56, [(0, .ref 36), (1, .int (nI p)), (2, .int (nI b)), (3, .int (nI (rng x (ps (pr p k))))), (4, .int (nI k))], [.int (nI (if lk l (rng x (ps (pr p k))) = none then 1 else 0)), .int (nI b)], (cc A c1 c2 c3 c4 c5 c6 c7 c8 ++ (mm B2 th (nI n) (nI m) co ch (nI (addk l (rng x (ps (pr p k))) 0).length) ++ R), e)) oo → Go X (fu + 2) mX4_isTrue (20, [(0, .ref 36), (1, .int (nI p)), (2, .int (nI b)), (3, .int (nI x)), (4, .int (nI k))], [], (cc A c1 c2 c3 c4 c5 c6 c7 c8 ++ (mm B th (nI n) (nI m) co ch (nI l.length) ++ R), e)) oo := by
      intro oo K
      repeat (first
        | exact K
        | exact go_ret rfl rfl rfl rfl
        | exact go_end rfl rfl rfl rfl
        | refine go_add rfl ?_
        | refine go_mul rfl ?_
        | refine go_sub rfl (by omega) ?_
        | refine go_inc rfl rfl rfl rfl rfl ?_
        | refine go_dec rfl rfl rfl (by omega) rfl rfl ?_
        | refine go_wrth rfl (by omega) ?_
        | refine go_ial rfl rfl (by first | omega | exact ⟨dg_lt _ _, by omega⟩) (h38) ?_
        | refine go_ial rfl rfl (by first | omega | exact ⟨dg_lt _ _, by omega⟩) (h39) ?_
        | refine go_div rfl (by omega) ?_
        | refine go_rem rfl (by omega) ?_
        | refine go_ci rfl rfl rfl rfl rfl G ?_
        | refine go_ci rfl rfl rfl rfl rfl G2 ?_
        | refine go_icT rfl (by dsimp only [ncd]; omega) ?_
        | refine go_icF rfl (by dsimp only [ncd]; omega) ?_
        | refine go_ifT rfl (by dsimp only [ncd]; omega) ?_
        | refine go_ifF rfl (by dsimp only [ncd]; omega) ?_
        | refine go_ift rfl (by decide) ?_
        | refine go_s rfl ?_
        )
    clear G G2
    have b2 := row_lt i2
    generalize rng x (ps (pr p k)) = z at *
    have fin : ∀ b2 v, b2 ≤ 1 → (b2 * tr ps (pr p) q (k + 1) z (addv (l.map Prod.fst) z) = v) → ∃ B3 l3, (∀ j, j < 40 → B3 j = B j) ∧ VB B3 l3 ∧ Go X (fu + 2) mX4_isTrue (20, [(0, .ref 36), (1, .int (nI p)), (2, .int (nI b2)), (3, .int (nI z)), (4, .int (nI (k + 1)))], [], (cc A c1 c2 c3 c4 c5 c6 c7 c8 ++ (mm B2 th (nI n) (nI m) co ch (nI (addk l z 0).length) ++ R), e)) (.inl (some (.int (nI v))), (cc A c1 c2 c3 c4 c5 c6 c7 c8 ++ (mm B3 th (nI n) (nI m) co ch (nI l3.length) ++ R), e)) := by
      intro b2 v h1 h2
      obtain ⟨B3, l3, k3, hV3, G3⟩ := IH b2 h1
      rw [h2] at G3
      exact ⟨B3, l3, fun j hj => (k3 j hj).trans (kb j hj), hV3, G3⟩
    rcases (show b = 0 ∨ b = 1 by omega) with rfl | rfl
    · by_cases e1 : q = 0
      · by_cases e2 : z = R0
        · by_cases e3 : lk l z = none
          · have hz : z = 1865 := e2
            have hm2 : ¬ z ∈ l.map Prod.fst := fun w => (mem_fst.mp w) e3
            rw [if_pos e3] at SA
            rw [if_neg (fun w => hm2 w.1)]
            obtain ⟨B3, l3, k3, hV3, G3⟩ := fin 0 _ (by omega) rfl
            refine ⟨B3, l3, k3, hV3, SA _ ?_⟩
            repeat (first
              | exact G3
              | exact go_ret rfl rfl rfl rfl
              | exact go_end rfl rfl rfl rfl
              | refine go_add rfl ?_
              | refine go_mul rfl ?_
              | refine go_sub rfl (by omega) ?_
              | refine go_inc rfl rfl rfl rfl rfl ?_
              | refine go_dec rfl rfl rfl (by omega) rfl rfl ?_
              | refine go_wrth rfl (by omega) ?_
              | refine go_ial rfl rfl (by first | omega | exact ⟨dg_lt _ _, by omega⟩) (h38b) ?_
              | refine go_div rfl (by omega) ?_
              | refine go_rem rfl (by omega) ?_
              | refine go_and1 rfl (by omega) ?_
              | refine go_and0 rfl ?_
              | refine go_icT rfl (by dsimp only [ncd]; omega) ?_
              | refine go_icF rfl (by dsimp only [ncd]; omega) ?_
              | refine go_ifT rfl (by dsimp only [ncd]; omega) ?_
              | refine go_ifF rfl (by dsimp only [ncd]; omega) ?_
              | refine go_ift rfl (by decide) ?_
              | refine go_s rfl ?_
              )
          · have hz : z = 1865 := e2
            have hm2 : z ∈ l.map Prod.fst := mem_fst.mpr e3
            rw [if_neg e3] at SA
            rw [if_neg (fun w => w.2 ⟨e1, e2⟩)]
            obtain ⟨B3, l3, k3, hV3, G3⟩ := fin 0 _ (by omega) rfl
            refine ⟨B3, l3, k3, hV3, SA _ ?_⟩
            repeat (first
              | exact G3
              | exact go_ret rfl rfl rfl rfl
              | exact go_end rfl rfl rfl rfl
              | refine go_add rfl ?_
              | refine go_mul rfl ?_
              | refine go_sub rfl (by omega) ?_
              | refine go_inc rfl rfl rfl rfl rfl ?_
              | refine go_dec rfl rfl rfl (by omega) rfl rfl ?_
              | refine go_wrth rfl (by omega) ?_
              | refine go_ial rfl rfl (by first | omega | exact ⟨dg_lt _ _, by omega⟩) (h38b) ?_
              | refine go_div rfl (by omega) ?_
              | refine go_rem rfl (by omega) ?_
              | refine go_and1 rfl (by omega) ?_
              | refine go_and0 rfl ?_
              | refine go_icT rfl (by dsimp only [ncd]; omega) ?_
              | refine go_icF rfl (by dsimp only [ncd]; omega) ?_
              | refine go_ifT rfl (by dsimp only [ncd]; omega) ?_
              | refine go_ifF rfl (by dsimp only [ncd]; omega) ?_
              | refine go_ift rfl (by decide) ?_
              | refine go_s rfl ?_
              )
        · by_cases e3 : lk l z = none
          · have hz : z ≠ 1865 := e2
            have hm2 : ¬ z ∈ l.map Prod.fst := fun w => (mem_fst.mp w) e3
            rw [if_pos e3] at SA
            rw [if_neg (fun w => hm2 w.1)]
            obtain ⟨B3, l3, k3, hV3, G3⟩ := fin 0 _ (by omega) rfl
            refine ⟨B3, l3, k3, hV3, SA _ ?_⟩
            repeat (first
              | exact G3
              | exact go_ret rfl rfl rfl rfl
              | exact go_end rfl rfl rfl rfl
              | refine go_add rfl ?_
              | refine go_mul rfl ?_
              | refine go_sub rfl (by omega) ?_
              | refine go_inc rfl rfl rfl rfl rfl ?_
              | refine go_dec rfl rfl rfl (by omega) rfl rfl ?_
              | refine go_wrth rfl (by omega) ?_
              | refine go_ial rfl rfl (by first | omega | exact ⟨dg_lt _ _, by omega⟩) (h38b) ?_
              | refine go_div rfl (by omega) ?_
              | refine go_rem rfl (by omega) ?_
              | refine go_and1 rfl (by omega) ?_
              | refine go_and0 rfl ?_
              | refine go_icT rfl (by dsimp only [ncd]; omega) ?_
              | refine go_icF rfl (by dsimp only [ncd]; omega) ?_
              | refine go_ifT rfl (by dsimp only [ncd]; omega) ?_
              | refine go_ifF rfl (by dsimp only [ncd]; omega) ?_
              | refine go_ift rfl (by decide) ?_
              | refine go_s rfl ?_
              )
          · have hz : z ≠ 1865 := e2
            have hm2 : z ∈ l.map Prod.fst := mem_fst.mpr e3
            rw [if_neg e3] at SA
            rw [if_pos ⟨hm2, fun w => e2 w.2⟩]
            obtain ⟨B3, l3, k3, hV3, G3⟩ := fin 0 _ (by omega) (show 0 * tr ps (pr p) q (k + 1) z (addv (l.map Prod.fst) z) = 0 * 0 by rw [Nat.zero_mul])
            refine ⟨B3, l3, k3, hV3, SA _ ?_⟩
            repeat (first
              | exact G3
              | exact go_ret rfl rfl rfl rfl
              | exact go_end rfl rfl rfl rfl
              | refine go_add rfl ?_
              | refine go_mul rfl ?_
              | refine go_sub rfl (by omega) ?_
              | refine go_inc rfl rfl rfl rfl rfl ?_
              | refine go_dec rfl rfl rfl (by omega) rfl rfl ?_
              | refine go_wrth rfl (by omega) ?_
              | refine go_ial rfl rfl (by first | omega | exact ⟨dg_lt _ _, by omega⟩) (h38b) ?_
              | refine go_div rfl (by omega) ?_
              | refine go_rem rfl (by omega) ?_
              | refine go_and1 rfl (by omega) ?_
              | refine go_and0 rfl ?_
              | refine go_icT rfl (by dsimp only [ncd]; omega) ?_
              | refine go_icF rfl (by dsimp only [ncd]; omega) ?_
              | refine go_ifT rfl (by dsimp only [ncd]; omega) ?_
              | refine go_ifF rfl (by dsimp only [ncd]; omega) ?_
              | refine go_ift rfl (by decide) ?_
              | refine go_s rfl ?_
              )
      · by_cases e2 : z = R0
        · by_cases e3 : lk l z = none
          · have hz : z = 1865 := e2
            have hm2 : ¬ z ∈ l.map Prod.fst := fun w => (mem_fst.mp w) e3
            rw [if_pos e3] at SA
            rw [if_neg (fun w => hm2 w.1)]
            obtain ⟨B3, l3, k3, hV3, G3⟩ := fin 0 _ (by omega) rfl
            refine ⟨B3, l3, k3, hV3, SA _ ?_⟩
            repeat (first
              | exact G3
              | exact go_ret rfl rfl rfl rfl
              | exact go_end rfl rfl rfl rfl
              | refine go_add rfl ?_
              | refine go_mul rfl ?_
              | refine go_sub rfl (by omega) ?_
              | refine go_inc rfl rfl rfl rfl rfl ?_
              | refine go_dec rfl rfl rfl (by omega) rfl rfl ?_
              | refine go_wrth rfl (by omega) ?_
              | refine go_ial rfl rfl (by first | omega | exact ⟨dg_lt _ _, by omega⟩) (h38b) ?_
              | refine go_div rfl (by omega) ?_
              | refine go_rem rfl (by omega) ?_
              | refine go_and1 rfl (by omega) ?_
              | refine go_and0 rfl ?_
              | refine go_icT rfl (by dsimp only [ncd]; omega) ?_
              | refine go_icF rfl (by dsimp only [ncd]; omega) ?_
              | refine go_ifT rfl (by dsimp only [ncd]; omega) ?_
              | refine go_ifF rfl (by dsimp only [ncd]; omega) ?_
              | refine go_ift rfl (by decide) ?_
              | refine go_s rfl ?_
              )
          · have hz : z = 1865 := e2
            have hm2 : z ∈ l.map Prod.fst := mem_fst.mpr e3
            rw [if_neg e3] at SA
            rw [if_pos ⟨hm2, fun w => e1 w.1⟩]
            obtain ⟨B3, l3, k3, hV3, G3⟩ := fin 0 _ (by omega) (show 0 * tr ps (pr p) q (k + 1) z (addv (l.map Prod.fst) z) = 0 * 0 by rw [Nat.zero_mul])
            refine ⟨B3, l3, k3, hV3, SA _ ?_⟩
            repeat (first
              | exact G3
              | exact go_ret rfl rfl rfl rfl
              | exact go_end rfl rfl rfl rfl
              | refine go_add rfl ?_
              | refine go_mul rfl ?_
              | refine go_sub rfl (by omega) ?_
              | refine go_inc rfl rfl rfl rfl rfl ?_
              | refine go_dec rfl rfl rfl (by omega) rfl rfl ?_
              | refine go_wrth rfl (by omega) ?_
              | refine go_ial rfl rfl (by first | omega | exact ⟨dg_lt _ _, by omega⟩) (h38b) ?_
              | refine go_div rfl (by omega) ?_
              | refine go_rem rfl (by omega) ?_
              | refine go_and1 rfl (by omega) ?_
              | refine go_and0 rfl ?_
              | refine go_icT rfl (by dsimp only [ncd]; omega) ?_
              | refine go_icF rfl (by dsimp only [ncd]; omega) ?_
              | refine go_ifT rfl (by dsimp only [ncd]; omega) ?_
              | refine go_ifF rfl (by dsimp only [ncd]; omega) ?_
              | refine go_ift rfl (by decide) ?_
              | refine go_s rfl ?_
              )
        · by_cases e3 : lk l z = none
          · have hz : z ≠ 1865 := e2
            have hm2 : ¬ z ∈ l.map Prod.fst := fun w => (mem_fst.mp w) e3
            rw [if_pos e3] at SA
            rw [if_neg (fun w => hm2 w.1)]
            obtain ⟨B3, l3, k3, hV3, G3⟩ := fin 0 _ (by omega) rfl
            refine ⟨B3, l3, k3, hV3, SA _ ?_⟩
            repeat (first
              | exact G3
              | exact go_ret rfl rfl rfl rfl
              | exact go_end rfl rfl rfl rfl
              | refine go_add rfl ?_
              | refine go_mul rfl ?_
              | refine go_sub rfl (by omega) ?_
              | refine go_inc rfl rfl rfl rfl rfl ?_
              | refine go_dec rfl rfl rfl (by omega) rfl rfl ?_
              | refine go_wrth rfl (by omega) ?_
              | refine go_ial rfl rfl (by first | omega | exact ⟨dg_lt _ _, by omega⟩) (h38b) ?_
              | refine go_div rfl (by omega) ?_
              | refine go_rem rfl (by omega) ?_
              | refine go_and1 rfl (by omega) ?_
              | refine go_and0 rfl ?_
              | refine go_icT rfl (by dsimp only [ncd]; omega) ?_
              | refine go_icF rfl (by dsimp only [ncd]; omega) ?_
              | refine go_ifT rfl (by dsimp only [ncd]; omega) ?_
              | refine go_ifF rfl (by dsimp only [ncd]; omega) ?_
              | refine go_ift rfl (by decide) ?_
              | refine go_s rfl ?_
              )
          · have hz : z ≠ 1865 := e2
            have hm2 : z ∈ l.map Prod.fst := mem_fst.mpr e3
            rw [if_neg e3] at SA
            rw [if_pos ⟨hm2, fun w => e2 w.2⟩]
            obtain ⟨B3, l3, k3, hV3, G3⟩ := fin 0 _ (by omega) (show 0 * tr ps (pr p) q (k + 1) z (addv (l.map Prod.fst) z) = 0 * 0 by rw [Nat.zero_mul])
            refine ⟨B3, l3, k3, hV3, SA _ ?_⟩
            repeat (first
              | exact G3
              | exact go_ret rfl rfl rfl rfl
              | exact go_end rfl rfl rfl rfl
              | refine go_add rfl ?_
              | refine go_mul rfl ?_
              | refine go_sub rfl (by omega) ?_
              | refine go_inc rfl rfl rfl rfl rfl ?_
              | refine go_dec rfl rfl rfl (by omega) rfl rfl ?_
              | refine go_wrth rfl (by omega) ?_
              | refine go_ial rfl rfl (by first | omega | exact ⟨dg_lt _ _, by omega⟩) (h38b) ?_
              | refine go_div rfl (by omega) ?_
              | refine go_rem rfl (by omega) ?_
              | refine go_and1 rfl (by omega) ?_
              | refine go_and0 rfl ?_
              | refine go_icT rfl (by dsimp only [ncd]; omega) ?_
              | refine go_icF rfl (by dsimp only [ncd]; omega) ?_
              | refine go_ifT rfl (by dsimp only [ncd]; omega) ?_
              | refine go_ifF rfl (by dsimp only [ncd]; omega) ?_
              | refine go_ift rfl (by decide) ?_
              | refine go_s rfl ?_
              )
    · by_cases e1 : q = 0
      · by_cases e2 : z = R0
        · by_cases e3 : lk l z = none
          · have hz : z = 1865 := e2
            have hm2 : ¬ z ∈ l.map Prod.fst := fun w => (mem_fst.mp w) e3
            rw [if_pos e3] at SA
            rw [if_neg (fun w => hm2 w.1)]
            obtain ⟨B3, l3, k3, hV3, G3⟩ := fin 1 _ (by omega) rfl
            refine ⟨B3, l3, k3, hV3, SA _ ?_⟩
            repeat (first
              | exact G3
              | exact go_ret rfl rfl rfl rfl
              | exact go_end rfl rfl rfl rfl
              | refine go_add rfl ?_
              | refine go_mul rfl ?_
              | refine go_sub rfl (by omega) ?_
              | refine go_inc rfl rfl rfl rfl rfl ?_
              | refine go_dec rfl rfl rfl (by omega) rfl rfl ?_
              | refine go_wrth rfl (by omega) ?_
              | refine go_ial rfl rfl (by first | omega | exact ⟨dg_lt _ _, by omega⟩) (h38b) ?_
              | refine go_div rfl (by omega) ?_
              | refine go_rem rfl (by omega) ?_
              | refine go_and1 rfl (by omega) ?_
              | refine go_and0 rfl ?_
              | refine go_icT rfl (by dsimp only [ncd]; omega) ?_
              | refine go_icF rfl (by dsimp only [ncd]; omega) ?_
              | refine go_ifT rfl (by dsimp only [ncd]; omega) ?_
              | refine go_ifF rfl (by dsimp only [ncd]; omega) ?_
              | refine go_ift rfl (by decide) ?_
              | refine go_s rfl ?_
              )
          · have hz : z = 1865 := e2
            have hm2 : z ∈ l.map Prod.fst := mem_fst.mpr e3
            rw [if_neg e3] at SA
            rw [if_neg (fun w => w.2 ⟨e1, e2⟩)]
            obtain ⟨B3, l3, k3, hV3, G3⟩ := fin 1 _ (by omega) rfl
            refine ⟨B3, l3, k3, hV3, SA _ ?_⟩
            repeat (first
              | exact G3
              | exact go_ret rfl rfl rfl rfl
              | exact go_end rfl rfl rfl rfl
              | refine go_add rfl ?_
              | refine go_mul rfl ?_
              | refine go_sub rfl (by omega) ?_
              | refine go_inc rfl rfl rfl rfl rfl ?_
              | refine go_dec rfl rfl rfl (by omega) rfl rfl ?_
              | refine go_wrth rfl (by omega) ?_
              | refine go_ial rfl rfl (by first | omega | exact ⟨dg_lt _ _, by omega⟩) (h38b) ?_
              | refine go_div rfl (by omega) ?_
              | refine go_rem rfl (by omega) ?_
              | refine go_and1 rfl (by omega) ?_
              | refine go_and0 rfl ?_
              | refine go_icT rfl (by dsimp only [ncd]; omega) ?_
              | refine go_icF rfl (by dsimp only [ncd]; omega) ?_
              | refine go_ifT rfl (by dsimp only [ncd]; omega) ?_
              | refine go_ifF rfl (by dsimp only [ncd]; omega) ?_
              | refine go_ift rfl (by decide) ?_
              | refine go_s rfl ?_
              )
        · by_cases e3 : lk l z = none
          · have hz : z ≠ 1865 := e2
            have hm2 : ¬ z ∈ l.map Prod.fst := fun w => (mem_fst.mp w) e3
            rw [if_pos e3] at SA
            rw [if_neg (fun w => hm2 w.1)]
            obtain ⟨B3, l3, k3, hV3, G3⟩ := fin 1 _ (by omega) rfl
            refine ⟨B3, l3, k3, hV3, SA _ ?_⟩
            repeat (first
              | exact G3
              | exact go_ret rfl rfl rfl rfl
              | exact go_end rfl rfl rfl rfl
              | refine go_add rfl ?_
              | refine go_mul rfl ?_
              | refine go_sub rfl (by omega) ?_
              | refine go_inc rfl rfl rfl rfl rfl ?_
              | refine go_dec rfl rfl rfl (by omega) rfl rfl ?_
              | refine go_wrth rfl (by omega) ?_
              | refine go_ial rfl rfl (by first | omega | exact ⟨dg_lt _ _, by omega⟩) (h38b) ?_
              | refine go_div rfl (by omega) ?_
              | refine go_rem rfl (by omega) ?_
              | refine go_and1 rfl (by omega) ?_
              | refine go_and0 rfl ?_
              | refine go_icT rfl (by dsimp only [ncd]; omega) ?_
              | refine go_icF rfl (by dsimp only [ncd]; omega) ?_
              | refine go_ifT rfl (by dsimp only [ncd]; omega) ?_
              | refine go_ifF rfl (by dsimp only [ncd]; omega) ?_
              | refine go_ift rfl (by decide) ?_
              | refine go_s rfl ?_
              )
          · have hz : z ≠ 1865 := e2
            have hm2 : z ∈ l.map Prod.fst := mem_fst.mpr e3
            rw [if_neg e3] at SA
            rw [if_pos ⟨hm2, fun w => e2 w.2⟩]
            obtain ⟨B3, l3, k3, hV3, G3⟩ := fin 0 _ (by omega) (show 0 * tr ps (pr p) q (k + 1) z (addv (l.map Prod.fst) z) = 1 * 0 by rw [Nat.zero_mul])
            refine ⟨B3, l3, k3, hV3, SA _ ?_⟩
            repeat (first
              | exact G3
              | exact go_ret rfl rfl rfl rfl
              | exact go_end rfl rfl rfl rfl
              | refine go_add rfl ?_
              | refine go_mul rfl ?_
              | refine go_sub rfl (by omega) ?_
              | refine go_inc rfl rfl rfl rfl rfl ?_
              | refine go_dec rfl rfl rfl (by omega) rfl rfl ?_
              | refine go_wrth rfl (by omega) ?_
              | refine go_ial rfl rfl (by first | omega | exact ⟨dg_lt _ _, by omega⟩) (h38b) ?_
              | refine go_div rfl (by omega) ?_
              | refine go_rem rfl (by omega) ?_
              | refine go_and1 rfl (by omega) ?_
              | refine go_and0 rfl ?_
              | refine go_icT rfl (by dsimp only [ncd]; omega) ?_
              | refine go_icF rfl (by dsimp only [ncd]; omega) ?_
              | refine go_ifT rfl (by dsimp only [ncd]; omega) ?_
              | refine go_ifF rfl (by dsimp only [ncd]; omega) ?_
              | refine go_ift rfl (by decide) ?_
              | refine go_s rfl ?_
              )
      · by_cases e2 : z = R0
        · by_cases e3 : lk l z = none
          · have hz : z = 1865 := e2
            have hm2 : ¬ z ∈ l.map Prod.fst := fun w => (mem_fst.mp w) e3
            rw [if_pos e3] at SA
            rw [if_neg (fun w => hm2 w.1)]
            obtain ⟨B3, l3, k3, hV3, G3⟩ := fin 1 _ (by omega) rfl
            refine ⟨B3, l3, k3, hV3, SA _ ?_⟩
            repeat (first
              | exact G3
              | exact go_ret rfl rfl rfl rfl
              | exact go_end rfl rfl rfl rfl
              | refine go_add rfl ?_
              | refine go_mul rfl ?_
              | refine go_sub rfl (by omega) ?_
              | refine go_inc rfl rfl rfl rfl rfl ?_
              | refine go_dec rfl rfl rfl (by omega) rfl rfl ?_
              | refine go_wrth rfl (by omega) ?_
              | refine go_ial rfl rfl (by first | omega | exact ⟨dg_lt _ _, by omega⟩) (h38b) ?_
              | refine go_div rfl (by omega) ?_
              | refine go_rem rfl (by omega) ?_
              | refine go_and1 rfl (by omega) ?_
              | refine go_and0 rfl ?_
              | refine go_icT rfl (by dsimp only [ncd]; omega) ?_
              | refine go_icF rfl (by dsimp only [ncd]; omega) ?_
              | refine go_ifT rfl (by dsimp only [ncd]; omega) ?_
              | refine go_ifF rfl (by dsimp only [ncd]; omega) ?_
              | refine go_ift rfl (by decide) ?_
              | refine go_s rfl ?_
              )
          · have hz : z = 1865 := e2
            have hm2 : z ∈ l.map Prod.fst := mem_fst.mpr e3
            rw [if_neg e3] at SA
            rw [if_pos ⟨hm2, fun w => e1 w.1⟩]
            obtain ⟨B3, l3, k3, hV3, G3⟩ := fin 0 _ (by omega) (show 0 * tr ps (pr p) q (k + 1) z (addv (l.map Prod.fst) z) = 1 * 0 by rw [Nat.zero_mul])
            refine ⟨B3, l3, k3, hV3, SA _ ?_⟩
            repeat (first
              | exact G3
              | exact go_ret rfl rfl rfl rfl
              | exact go_end rfl rfl rfl rfl
              | refine go_add rfl ?_
              | refine go_mul rfl ?_
              | refine go_sub rfl (by omega) ?_
              | refine go_inc rfl rfl rfl rfl rfl ?_
              | refine go_dec rfl rfl rfl (by omega) rfl rfl ?_
              | refine go_wrth rfl (by omega) ?_
              | refine go_ial rfl rfl (by first | omega | exact ⟨dg_lt _ _, by omega⟩) (h38b) ?_
              | refine go_div rfl (by omega) ?_
              | refine go_rem rfl (by omega) ?_
              | refine go_and1 rfl (by omega) ?_
              | refine go_and0 rfl ?_
              | refine go_icT rfl (by dsimp only [ncd]; omega) ?_
              | refine go_icF rfl (by dsimp only [ncd]; omega) ?_
              | refine go_ifT rfl (by dsimp only [ncd]; omega) ?_
              | refine go_ifF rfl (by dsimp only [ncd]; omega) ?_
              | refine go_ift rfl (by decide) ?_
              | refine go_s rfl ?_
              )
        · by_cases e3 : lk l z = none
          · have hz : z ≠ 1865 := e2
            have hm2 : ¬ z ∈ l.map Prod.fst := fun w => (mem_fst.mp w) e3
            rw [if_pos e3] at SA
            rw [if_neg (fun w => hm2 w.1)]
            obtain ⟨B3, l3, k3, hV3, G3⟩ := fin 1 _ (by omega) rfl
            refine ⟨B3, l3, k3, hV3, SA _ ?_⟩
            repeat (first
              | exact G3
              | exact go_ret rfl rfl rfl rfl
              | exact go_end rfl rfl rfl rfl
              | refine go_add rfl ?_
              | refine go_mul rfl ?_
              | refine go_sub rfl (by omega) ?_
              | refine go_inc rfl rfl rfl rfl rfl ?_
              | refine go_dec rfl rfl rfl (by omega) rfl rfl ?_
              | refine go_wrth rfl (by omega) ?_
              | refine go_ial rfl rfl (by first | omega | exact ⟨dg_lt _ _, by omega⟩) (h38b) ?_
              | refine go_div rfl (by omega) ?_
              | refine go_rem rfl (by omega) ?_
              | refine go_and1 rfl (by omega) ?_
              | refine go_and0 rfl ?_
              | refine go_icT rfl (by dsimp only [ncd]; omega) ?_
              | refine go_icF rfl (by dsimp only [ncd]; omega) ?_
              | refine go_ifT rfl (by dsimp only [ncd]; omega) ?_
              | refine go_ifF rfl (by dsimp only [ncd]; omega) ?_
              | refine go_ift rfl (by decide) ?_
              | refine go_s rfl ?_
              )
          · have hz : z ≠ 1865 := e2
            have hm2 : z ∈ l.map Prod.fst := mem_fst.mpr e3
            rw [if_neg e3] at SA
            rw [if_pos ⟨hm2, fun w => e2 w.2⟩]
            obtain ⟨B3, l3, k3, hV3, G3⟩ := fin 0 _ (by omega) (show 0 * tr ps (pr p) q (k + 1) z (addv (l.map Prod.fst) z) = 1 * 0 by rw [Nat.zero_mul])
            refine ⟨B3, l3, k3, hV3, SA _ ?_⟩
            repeat (first
              | exact G3
              | exact go_ret rfl rfl rfl rfl
              | exact go_end rfl rfl rfl rfl
              | refine go_add rfl ?_
              | refine go_mul rfl ?_
              | refine go_sub rfl (by omega) ?_
              | refine go_inc rfl rfl rfl rfl rfl ?_
              | refine go_dec rfl rfl rfl (by omega) rfl rfl ?_
              | refine go_wrth rfl (by omega) ?_
              | refine go_ial rfl rfl (by first | omega | exact ⟨dg_lt _ _, by omega⟩) (h38b) ?_
              | refine go_div rfl (by omega) ?_
              | refine go_rem rfl (by omega) ?_
              | refine go_and1 rfl (by omega) ?_
              | refine go_and0 rfl ?_
              | refine go_icT rfl (by dsimp only [ncd]; omega) ?_
              | refine go_icF rfl (by dsimp only [ncd]; omega) ?_
              | refine go_ifT rfl (by dsimp only [ncd]; omega) ?_
              | refine go_ifF rfl (by dsimp only [ncd]; omega) ?_
              | refine go_ift rfl (by decide) ?_
              | refine go_s rfl ?_
              )
theorem n_isTrue {l : List (Nat × Nat)} (hM : MR B n ps m len pr) (hV : VB B l) {p : Nat} (hp : p < m) : ∃ B2 l2, (∀ j, j < 40 → B2 j = B j) ∧ VB B2 l2 ∧ Go X (fu + 2) mX4_isTrue (0, [(0, .ref 36), (1, .int (nI p))], [], (cc A c1 c2 c3 c4 c5 c6 c7 c8 ++ (mm B th (nI n) (nI m) co ch (nI l.length) ++ R), e)) (.inl (some (.int (nI (tr ps (pr p) (len p) 0 R0 [R0])))), (cc A c1 c2 c3 c4 c5 c6 c7 c8 ++ (mm B2 th (nI n) (nI m) co ch (nI l2.length) ++ R), e)) := by
  obtain ⟨B1, k1, hV1, G1⟩ := n_forget (X := X) (fu := fu + 1) (e := e) (A := A) (c1 := c1) (c2 := c2) (c3 := c3) (c4 := c4) (c5 := c5) (c6 := c6) (c7 := c7) (c8 := c8) (th := th) (co := co) (ch := ch) (R := R) (n := n) (m := m) hV
  obtain ⟨B2, k2, hV2, G2⟩ := n_comes (X := X) (fu := fu + 1) (e := e) (A := A) (c1 := c1) (c2 := c2) (c3 := c3) (c4 := c4) (c5 := c5) (c6 := c6) (c7 := c7) (c8 := c8) (th := th) (co := co) (ch := ch) (R := R) (n := n) (m := m) hV1 R0_row (k := 0) (by omega)
  rw [show (if lk [] R0 = none then 1 else 0 : Nat) = 1 from rfl] at G2
  have kb : ∀ j, j < 40 → B2 j = B j := fun j hj => (k2 j (by omega) (by omega)).trans (k1 j (by omega))
  obtain ⟨B3, l3, k3, hV3, G3⟩ := nt_loop (X := X) (fu := fu) (e := e) (A := A) (c1 := c1) (c2 := c2) (c3 := c3) (c4 := c4) (c5 := c5) (c6 := c6) (c7 := c7) (c8 := c8) (th := th) (co := co) (ch := ch) (R := R) (n := n) (m := m) hp (len p) 0 R0 1 _ B2 (by omega) (MR_keep hM kb) (by omega) R0_row hV2
  rw [Nat.one_mul] at G3
  refine ⟨B3, l3, fun j hj => (k3 j hj).trans (kb j hj), hV3, ?_⟩
  repeat (first
    | exact G3
    | exact go_ret rfl rfl rfl rfl
    | exact go_end rfl rfl rfl rfl
    | refine go_add rfl ?_
    | refine go_mul rfl ?_
    | refine go_sub rfl (by omega) ?_
    | refine go_inc rfl rfl rfl rfl rfl ?_
    | refine go_dec rfl rfl rfl (by omega) rfl rfl ?_
    | refine go_wrth rfl (by omega) ?_
    | refine go_div rfl (by omega) ?_
    | refine go_rem rfl (by omega) ?_
    | refine go_cn rfl rfl rfl rfl rfl G1 ?_
    | refine go_ci rfl rfl rfl rfl rfl G2 ?_
    | refine go_icT rfl (by dsimp only [ncd]; omega) ?_
    | refine go_icF rfl (by dsimp only [ncd]; omega) ?_
    | refine go_ifT rfl (by dsimp only [ncd]; omega) ?_
    | refine go_ifF rfl (by dsimp only [ncd]; omega) ?_
    | refine go_ift rfl (by decide) ?_
    | refine go_s rfl ?_
    )
theorem nd_loop {p ti : Nat} (hp : p < m) (ht : ti < 1000) :
    ∀ (q k x : Nat) (l : List (Nat × Nat)) (B : Nat → Nat → Int32), MR B n ps m len pr → k + q = ti * len p → isRow x → VB B l → ∃ B2 l2, (∀ j, j < 40 → B2 j = B j) ∧ VB B2 l2 ∧ Go X (fu + 2) mX4_different (30, [(0, .ref 36), (1, .int (nI p)), (2, .int (nI ti)), (3, .int (nI x)), (4, .int (nI k))], [], (cc A c1 c2 c3 c4 c5 c6 c7 c8 ++ (mm B th (nI n) (nI m) co ch (nI l.length) ++ R), e)) (.inl (some (.int (nI (vs (fun k => ps (pr p (k % len p))) q k x (l.map Prod.fst)).2.length))), (cc A c1 c2 c3 c4 c5 c6 c7 c8 ++ (mm B2 th (nI n) (nI m) co ch (nI l2.length) ++ R), e)) := by
  intro q
  induction q with
  | zero =>
    intro k x l B hM hk ix hV
    have hm := hM.2.1
    have h38 := hM.2.2.2.2.1 p (by omega)
    obtain ⟨l1, l2, l3⟩ := hM.2.2.2.2.2 p (by omega)
    have b1 : ti * len p ≤ 1000 * 30 := Nat.mul_le_mul (by omega) l1
    obtain rfl : k = ti * len p := by omega
    refine ⟨B, l, fun _ _ => rfl, hV, ?_⟩
    rw [show (vs (fun k => ps (pr p (k % len p))) 0 (ti * len p) x (l.map Prod.fst)).2.length = l.length from List.length_map ..]
    repeat (first
      | exact go_ret rfl rfl rfl rfl
      | exact go_end rfl rfl rfl rfl
      | refine go_add rfl ?_
      | refine go_mul rfl ?_
      | refine go_sub rfl (by omega) ?_
      | refine go_inc rfl rfl rfl rfl rfl ?_
      | refine go_dec rfl rfl rfl (by omega) rfl rfl ?_
      | refine go_wrth rfl (by omega) ?_
      | refine go_ial rfl rfl (by first | omega | exact ⟨dg_lt _ _, by omega⟩) (h38) ?_
      | refine go_div rfl (by omega) ?_
      | refine go_rem rfl (by omega) ?_
      | refine go_icT rfl (by dsimp only [ncd]; omega) ?_
      | refine go_icF rfl (by dsimp only [ncd]; omega) ?_
      | refine go_ifT rfl (by dsimp only [ncd]; omega) ?_
      | refine go_ifF rfl (by dsimp only [ncd]; omega) ?_
      | refine go_ift rfl (by decide) ?_
      | refine go_s rfl ?_
      )
  | succ q ih =>
    intro k x l B hM hk ix hV
    have hm := hM.2.1
    have h38 := hM.2.2.2.2.1 p (by omega)
    obtain ⟨l1, l2, l3⟩ := hM.2.2.2.2.2 p (by omega)
    have b1 : ti * len p ≤ 1000 * 30 := Nat.mul_le_mul (by omega) l1
    have hl0 : 0 < len p := by
      rcases Nat.eq_zero_or_pos (len p) with z | z
      · rw [z, Nat.mul_zero] at hk; omega
      · exact z
    have km : k % len p < len p := Nat.mod_lt _ hl0
    have h39 := l2 _ km
    have l4 := l3 _ km
    have G := n_ringed (X := X) (fu := fu) (e := e) (A := A) (c1 := c1) (c2 := c2) (c3 := c3) (c4 := c4) (c5 := c5) (c6 := c6) (c7 := c7) (c8 := c8) (th := th) (co := co) (ch := ch) (sp := nI l.length) (R := R) hM (row_lt ix) l4
    have i2 := rng_row ix (hM.2.2.1 _ l4)
    obtain ⟨B2, k2, hV2, G2⟩ := n_comes (X := X) (fu := fu + 1) (e := e) (A := A) (c1 := c1) (c2 := c2) (c3 := c3) (c4 := c4) (c5 := c5) (c6 := c6) (c7 := c7) (c8 := c8) (th := th) (co := co) (ch := ch) (R := R) (n := n) (m := m) hV i2 (k := 0) (by omega)
    have kb : ∀ j, j < 40 → B2 j = B j := fun j hj => k2 j (by omega) (by omega)
    obtain ⟨B3, l3, k3, hV3, G3⟩ := ih (k + 1) _ _ B2 (MR_keep hM kb) (by omega) i2 hV2
    rw [addk_fst] at G3
    refine ⟨B3, l3, fun j hj => (k3 j hj).trans (kb j hj), hV3, ?_⟩
    repeat (first
      | exact G3
      | exact go_ret rfl rfl rfl rfl
      | exact go_end rfl rfl rfl rfl
      | refine go_add rfl ?_
      | refine go_mul rfl ?_
      | refine go_sub rfl (by omega) ?_
      | refine go_inc rfl rfl rfl rfl rfl ?_
      | refine go_dec rfl rfl rfl (by omega) rfl rfl ?_
      | refine go_wrth rfl (by omega) ?_
      | refine go_ial rfl rfl (by first | omega | exact ⟨dg_lt _ _, by omega⟩) (h38) ?_
      | refine go_ial rfl rfl (by first | omega | exact ⟨dg_lt _ _, by omega⟩) (h39) ?_
      | refine go_div rfl (by omega) ?_
      | refine go_rem rfl (by omega) ?_
      | refine go_ci rfl rfl rfl rfl rfl G ?_
      | refine go_ci rfl rfl rfl rfl rfl G2 ?_
      | refine go_icT rfl (by dsimp only [ncd]; omega) ?_
      | refine go_icF rfl (by dsimp only [ncd]; omega) ?_
      | refine go_ifT rfl (by dsimp only [ncd]; omega) ?_
      | refine go_ifF rfl (by dsimp only [ncd]; omega) ?_
      | refine go_ift rfl (by decide) ?_
      | refine go_s rfl ?_
      )
/-- a peal's rows: turn by turn, or all in one go -/
theorem vs_app {F : Nat → Nat} : ∀ (a b k x : Nat) (l : List Nat), vs F (a + b) k x l = vs F b (k + a) (vs F a k x l).1 (vs F a k x l).2 := by
  intro a
  induction a with
  | zero => intro b k x l; rw [Nat.zero_add]; rfl
  | succ a ih =>
    intro b k x l
    rw [show a + 1 + b = (a + b) + 1 by omega]
    show vs F (a + b) (k + 1) _ _ = _
    rw [ih, show k + 1 + a = k + (a + 1) by omega]
    rfl
theorem vs_congr {F F2 : Nat → Nat} (s : Nat) : ∀ (a k x : Nat) (l : List Nat), (∀ j, k ≤ j → j < k + a → F (j + s) = F2 j) → vs F a (k + s) x l = vs F2 a k x l := by
  intro a
  induction a with
  | zero => intro k x l _; rfl
  | succ a ih =>
    intro k x l h
    show vs F a (k + s + 1) _ _ = vs F2 a (k + 1) _ _
    rw [h k (by omega) (by omega), show k + s + 1 = k + 1 + s by omega]
    exact ih _ _ _ fun j h1 h2 => h j (by omega) (by omega)
theorem vs_vo {F : Nat → Nat} {w : Nat} : ∀ (t s x : Nat) (l : List Nat), vs (fun k => F (k % w)) (t * w) (s * w) x l = vo F w t x l := by
  intro t
  induction t with
  | zero => intro s x l; rw [Nat.zero_mul]; rfl
  | succ t ih =>
    intro s x l
    rw [show (t + 1) * w = w + t * w by rw [Nat.succ_mul, Nat.add_comm], vs_app, show s * w + w = (s + 1) * w by rw [Nat.succ_mul], ih]
    have e1 : vs (fun k => F (k % w)) w (s * w) x l = vs F w 0 x l := by
      have h := vs_congr (F := fun k => F (k % w)) (F2 := F) (s * w) w 0 x l (fun j _ hj => by
        show F ((j + s * w) % w) = F j
        rw [Nat.add_mul_mod_self_right, Nat.mod_eq_of_lt (by omega)])
      rw [Nat.zero_add] at h
      exact h
    rw [e1]
    rfl
theorem n_different {l : List (Nat × Nat)} (hM : MR B n ps m len pr) (hV : VB B l) {p : Nat} (hp : p < m) : ∃ B2 l2, (∀ j, j < 40 → B2 j = B j) ∧ VB B2 l2 ∧ Go X (fu + 3) mX4_different (0, [(0, .ref 36), (1, .int (nI p))], [], (cc A c1 c2 c3 c4 c5 c6 c7 c8 ++ (mm B th (nI n) (nI m) co ch (nI l.length) ++ R), e)) (.inl (some (.int (fP ps len pr p 4))), (cc A c1 c2 c3 c4 c5 c6 c7 c8 ++ (mm B2 th (nI n) (nI m) co ch (nI l2.length) ++ R), e)) := by
  have ro := MR_rows hM hp
  have ip := peal_row (len p) 0 R0 ro R0_row
  have o2 := (ord_ok ip).2.1
  have G0 := n_played (X := X) (fu := fu) (e := e) (A := A) (c1 := c1) (c2 := c2) (c3 := c3) (c4 := c4) (c5 := c5) (c6 := c6) (c7 := c7) (c8 := c8) (th := th) (co := co) (ch := ch) (sp := nI l.length) (R := R) hM hp R0_row
  have G01 := n_order (X := X) (fu := fu + 1) (h := (cc A c1 c2 c3 c4 c5 c6 c7 c8 ++ (mm B th (nI n) (nI m) co ch (nI l.length) ++ R), e)) ip
  obtain ⟨B1, k1, hV1, G1⟩ := n_forget (X := X) (fu := fu + 2) (e := e) (A := A) (c1 := c1) (c2 := c2) (c3 := c3) (c4 := c4) (c5 := c5) (c6 := c6) (c7 := c7) (c8 := c8) (th := th) (co := co) (ch := ch) (R := R) (n := n) (m := m) hV
  obtain ⟨B2, k2, hV2, G2⟩ := n_comes (X := X) (fu := fu + 2) (e := e) (A := A) (c1 := c1) (c2 := c2) (c3 := c3) (c4 := c4) (c5 := c5) (c6 := c6) (c7 := c7) (c8 := c8) (th := th) (co := co) (ch := ch) (R := R) (n := n) (m := m) hV1 R0_row (k := 0) (by omega)
  rw [show (if lk [] R0 = none then 1 else 0 : Nat) = 1 from rfl] at G2
  have kb : ∀ j, j < 40 → B2 j = B j := fun j hj => (k2 j (by omega) (by omega)).trans (k1 j (by omega))
  obtain ⟨B3, l3, k3, hV3, G3⟩ := nd_loop (X := X) (fu := fu + 1) (e := e) (A := A) (c1 := c1) (c2 := c2) (c3 := c3) (c4 := c4) (c5 := c5) (c6 := c6) (c7 := c7) (c8 := c8) (th := th) (co := co) (ch := ch) (R := R) (n := n) (m := m) hp (ti := ord (pl ps (pr p) (len p) 0 R0)) (by omega) (ord (pl ps (pr p) (len p) 0 R0) * len p) 0 R0 _ B2 (MR_keep hM kb) (by omega) R0_row hV2
  have e1 := vs_vo (F := fun k => ps (pr p k)) (w := len p) (ord (pl ps (pr p) (len p) 0 R0)) 0 R0 [R0]
  rw [Nat.zero_mul] at e1
  rw [show ((addk [] R0 0).map Prod.fst) = [R0] from rfl, e1] at G3
  refine ⟨B3, l3, fun j hj => (k3 j hj).trans (kb j hj), hV3, ?_⟩
  repeat (first
    | exact G3
    | exact go_ret rfl rfl rfl rfl
    | exact go_end rfl rfl rfl rfl
    | refine go_add rfl ?_
    | refine go_mul rfl ?_
    | refine go_sub rfl (by omega) ?_
    | refine go_inc rfl rfl rfl rfl rfl ?_
    | refine go_dec rfl rfl rfl (by omega) rfl rfl ?_
    | refine go_wrth rfl (by omega) ?_
    | refine go_div rfl (by omega) ?_
    | refine go_rem rfl (by omega) ?_
    | refine go_ci rfl rfl rfl rfl rfl G0 ?_
    | refine go_ci rfl rfl rfl rfl rfl G01 ?_
    | refine go_cn rfl rfl rfl rfl rfl G1 ?_
    | refine go_ci rfl rfl rfl rfl rfl G2 ?_
    | refine go_icT rfl (by dsimp only [ncd]; omega) ?_
    | refine go_icF rfl (by dsimp only [ncd]; omega) ?_
    | refine go_ifT rfl (by dsimp only [ncd]; omega) ?_
    | refine go_ifF rfl (by dsimp only [ncd]; omega) ?_
    | refine go_ift rfl (by decide) ?_
    | refine go_s rfl ?_
    )
theorem n_pealTold {l : List (Nat × Nat)} (hM : MR B n ps m len pr) (hV : VB B l) {p w : Nat} (hp : p < m) (hw : w < 5) : ∃ B2 l2, (∀ j, j < 40 → B2 j = B j) ∧ VB B2 l2 ∧ Go X (fu + 4) mX4_pealTold (0, [(0, .ref 36), (1, .int (nI p)), (2, .int (nI w))], [], (cc A c1 c2 c3 c4 c5 c6 c7 c8 ++ (mm B th (nI n) (nI m) co ch (nI l.length) ++ R), e)) (.inl (some (.int (fP ps len pr p w))), (cc A c1 c2 c3 c4 c5 c6 c7 c8 ++ (mm B2 th (nI n) (nI m) co ch (nI l2.length) ++ R), e)) := by
  have hm := hM.2.1
  have h38 := hM.2.2.2.2.1 p (by omega)
  have ro := MR_rows hM hp
  have ip := peal_row (len p) 0 R0 ro R0_row
  have G0 := n_played (X := X) (fu := fu + 1) (e := e) (A := A) (c1 := c1) (c2 := c2) (c3 := c3) (c4 := c4) (c5 := c5) (c6 := c6) (c7 := c7) (c8 := c8) (th := th) (co := co) (ch := ch) (sp := nI l.length) (R := R) hM hp R0_row
  have G01 := n_order (X := X) (fu := fu + 2) (h := (cc A c1 c2 c3 c4 c5 c6 c7 c8 ++ (mm B th (nI n) (nI m) co ch (nI l.length) ++ R), e)) ip
  rcases (show w = 0 ∨ w = 1 ∨ w = 2 ∨ w = 3 ∨ w = 4 by omega) with rfl | rfl | rfl | rfl | rfl
  · refine ⟨B, l, fun _ _ => rfl, hV, ?_⟩
    repeat (first
      | exact go_ret rfl rfl rfl rfl
      | exact go_end rfl rfl rfl rfl
      | refine go_add rfl ?_
      | refine go_mul rfl ?_
      | refine go_sub rfl (by omega) ?_
      | refine go_inc rfl rfl rfl rfl rfl ?_
      | refine go_dec rfl rfl rfl (by omega) rfl rfl ?_
      | refine go_wrth rfl (by omega) ?_
      | refine go_ial rfl rfl (by first | omega | exact ⟨dg_lt _ _, by omega⟩) (h38) ?_
      | refine go_div rfl (by omega) ?_
      | refine go_rem rfl (by omega) ?_
      | refine go_icT rfl (by dsimp only [ncd]; omega) ?_
      | refine go_icF rfl (by dsimp only [ncd]; omega) ?_
      | refine go_ifT rfl (by dsimp only [ncd]; omega) ?_
      | refine go_ifF rfl (by dsimp only [ncd]; omega) ?_
      | refine go_ift rfl (by decide) ?_
      | refine go_s rfl ?_
      )
  · refine ⟨B, l, fun _ _ => rfl, hV, ?_⟩
    repeat (first
      | exact go_ret rfl rfl rfl rfl
      | exact go_end rfl rfl rfl rfl
      | refine go_add rfl ?_
      | refine go_mul rfl ?_
      | refine go_sub rfl (by omega) ?_
      | refine go_inc rfl rfl rfl rfl rfl ?_
      | refine go_dec rfl rfl rfl (by omega) rfl rfl ?_
      | refine go_wrth rfl (by omega) ?_
      | refine go_div rfl (by omega) ?_
      | refine go_rem rfl (by omega) ?_
      | refine go_ci rfl rfl rfl rfl rfl G0 ?_
      | refine go_icT rfl (by dsimp only [ncd]; omega) ?_
      | refine go_icF rfl (by dsimp only [ncd]; omega) ?_
      | refine go_ifT rfl (by dsimp only [ncd]; omega) ?_
      | refine go_ifF rfl (by dsimp only [ncd]; omega) ?_
      | refine go_ift rfl (by decide) ?_
      | refine go_s rfl ?_
      )
  · obtain ⟨B2, l2, k2, hV2, G⟩ := n_isTrue (X := X) (fu := fu + 1) (e := e) (A := A) (c1 := c1) (c2 := c2) (c3 := c3) (c4 := c4) (c5 := c5) (c6 := c6) (c7 := c7) (c8 := c8) (th := th) (co := co) (ch := ch) (R := R) hM hV hp
    refine ⟨B2, l2, k2, hV2, ?_⟩
    have h1 := tr_le ps (pr p) (len p) 0 R0 [R0]
    show Go X (fu + 4) mX4_pealTold _ (.inl (some (.int (nI (tr ps (pr p) (len p) 0 R0 [R0])))), _)
    generalize tr ps (pr p) (len p) 0 R0 [R0] = z at *
    by_cases e1 : z = 1
    · subst e1
      repeat (first
        | exact go_ret rfl rfl rfl rfl
        | exact go_end rfl rfl rfl rfl
        | refine go_add rfl ?_
        | refine go_mul rfl ?_
        | refine go_sub rfl (by omega) ?_
        | refine go_inc rfl rfl rfl rfl rfl ?_
        | refine go_dec rfl rfl rfl (by omega) rfl rfl ?_
        | refine go_wrth rfl (by omega) ?_
        | refine go_div rfl (by omega) ?_
        | refine go_rem rfl (by omega) ?_
        | refine go_ci rfl rfl rfl rfl rfl G ?_
        | refine go_icT rfl (by dsimp only [ncd]; omega) ?_
        | refine go_icF rfl (by dsimp only [ncd]; omega) ?_
        | refine go_ifT rfl (by dsimp only [ncd]; omega) ?_
        | refine go_ifF rfl (by dsimp only [ncd]; omega) ?_
        | refine go_ift rfl (by decide) ?_
        | refine go_s rfl ?_
        )
    · obtain rfl : z = 0 := by omega
      repeat (first
        | exact go_ret rfl rfl rfl rfl
        | exact go_end rfl rfl rfl rfl
        | refine go_add rfl ?_
        | refine go_mul rfl ?_
        | refine go_sub rfl (by omega) ?_
        | refine go_inc rfl rfl rfl rfl rfl ?_
        | refine go_dec rfl rfl rfl (by omega) rfl rfl ?_
        | refine go_wrth rfl (by omega) ?_
        | refine go_div rfl (by omega) ?_
        | refine go_rem rfl (by omega) ?_
        | refine go_ci rfl rfl rfl rfl rfl G ?_
        | refine go_icT rfl (by dsimp only [ncd]; omega) ?_
        | refine go_icF rfl (by dsimp only [ncd]; omega) ?_
        | refine go_ifT rfl (by dsimp only [ncd]; omega) ?_
        | refine go_ifF rfl (by dsimp only [ncd]; omega) ?_
        | refine go_ift rfl (by decide) ?_
        | refine go_s rfl ?_
        )
  · refine ⟨B, l, fun _ _ => rfl, hV, ?_⟩
    repeat (first
      | exact go_ret rfl rfl rfl rfl
      | exact go_end rfl rfl rfl rfl
      | refine go_add rfl ?_
      | refine go_mul rfl ?_
      | refine go_sub rfl (by omega) ?_
      | refine go_inc rfl rfl rfl rfl rfl ?_
      | refine go_dec rfl rfl rfl (by omega) rfl rfl ?_
      | refine go_wrth rfl (by omega) ?_
      | refine go_div rfl (by omega) ?_
      | refine go_rem rfl (by omega) ?_
      | refine go_ci rfl rfl rfl rfl rfl G0 ?_
      | refine go_ci rfl rfl rfl rfl rfl G01 ?_
      | refine go_icT rfl (by dsimp only [ncd]; omega) ?_
      | refine go_icF rfl (by dsimp only [ncd]; omega) ?_
      | refine go_ifT rfl (by dsimp only [ncd]; omega) ?_
      | refine go_ifF rfl (by dsimp only [ncd]; omega) ?_
      | refine go_ift rfl (by decide) ?_
      | refine go_s rfl ?_
      )
  · obtain ⟨B2, l2, k2, hV2, G⟩ := n_different (X := X) (fu := fu) (e := e) (A := A) (c1 := c1) (c2 := c2) (c3 := c3) (c4 := c4) (c5 := c5) (c6 := c6) (c7 := c7) (c8 := c8) (th := th) (co := co) (ch := ch) (R := R) hM hV hp
    refine ⟨B2, l2, k2, hV2, ?_⟩
    repeat (first
      | exact go_ret rfl rfl rfl rfl
      | exact go_end rfl rfl rfl rfl
      | refine go_add rfl ?_
      | refine go_mul rfl ?_
      | refine go_sub rfl (by omega) ?_
      | refine go_inc rfl rfl rfl rfl rfl ?_
      | refine go_dec rfl rfl rfl (by omega) rfl rfl ?_
      | refine go_wrth rfl (by omega) ?_
      | refine go_div rfl (by omega) ?_
      | refine go_rem rfl (by omega) ?_
      | refine go_ci rfl rfl rfl rfl rfl G ?_
      | refine go_icT rfl (by dsimp only [ncd]; omega) ?_
      | refine go_icF rfl (by dsimp only [ncd]; omega) ?_
      | refine go_ifT rfl (by dsimp only [ncd]; omega) ?_
      | refine go_ifF rfl (by dsimp only [ncd]; omega) ?_
      | refine go_ift rfl (by decide) ?_
      | refine go_s rfl ?_
      )
end VISIT
