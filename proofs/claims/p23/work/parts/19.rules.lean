/-! ===== the class's methods of rules and peals ===== -/
/-- a peal, rung on a row -/
def pl (ps : Nat → Nat) (pr : Nat → Nat) : Nat → Nat → Nat → Nat := lp (fun k x => rng x (ps (pr k)))
theorem peal_row {ps pr : Nat → Nat} : ∀ (m k x : Nat), (∀ j, k ≤ j → j < k + m → isRow (ps (pr j))) → isRow x → isRow (pl ps pr m k x) := by
  intro m
  induction m with
  | zero => intro k x _ hx; exact hx
  | succ m ih =>
    intro k x hp hx
    exact ih (k + 1) _ (fun j h1 h2 => hp j (by omega) (by omega)) (rng_row hx (hp k (by omega) (by omega)))
theorem pl_cmp {ps pr : Nat → Nat} : ∀ (m k x : Nat), (∀ j, k ≤ j → j < k + m → isRow (ps (pr j))) → isRow x → pl ps pr m k x = cmp x (pl ps pr m k R0) := by
  intro m
  induction m with
  | zero => intro k x _ hx; exact (cmp_R0 (row_lt hx)).symm
  | succ m ih =>
    intro k x hp hx
    have h0 := hp k (by omega) (by omega)
    have h1 : ∀ j, k + 1 ≤ j → j < k + 1 + m → isRow (ps (pr j)) := fun j h1 h2 => hp j (by omega) (by omega)
    show pl ps pr m (k + 1) (rng x (ps (pr k))) = cmp x (pl ps pr m (k + 1) (rng R0 (ps (pr k))))
    rw [ih (k + 1) _ h1 (rng_row hx h0), ih (k + 1) _ h1 (rng_row R0_row h0), rng_cmp h0, rng_cmp h0, R0_cmp (row_lt (inv_row h0)), cmp_assoc]
def addv (l : List Nat) (x : Nat) : List Nat := if x ∈ l then l else l ++ [x]
/-- a peal's truth: 1 if no row comes again but rounds at the end -/
def tr (ps pr : Nat → Nat) : Nat → Nat → Nat → List Nat → Nat
  | 0, _, _, _ => 1
  | m + 1, k, x, l => if rng x (ps (pr k)) ∈ l ∧ ¬ (m = 0 ∧ rng x (ps (pr k)) = R0) then 0 else tr ps pr m (k + 1) (rng x (ps (pr k))) (addv l (rng x (ps (pr k))))
/-- the rows met -/
def vs (F : Nat → Nat) : Nat → Nat → Nat → List Nat → Nat × List Nat
  | 0, _, x, l => (x, l)
  | m + 1, k, x, l => vs F m (k + 1) (rng x (F k)) (addv l (rng x (F k)))
def vo (F : Nat → Nat) (len : Nat) : Nat → Nat → List Nat → Nat × List Nat
  | 0, x, l => (x, l)
  | t + 1, x, l => vo F len t (vs F len 0 x l).1 (vs F len 0 x l).2
theorem vs_row {F : Nat → Nat} : ∀ (m k x : Nat) (l : List Nat), (∀ j, k ≤ j → j < k + m → isRow (F j)) → isRow x → isRow (vs F m k x l).1 := by
  intro m
  induction m with
  | zero => intro k x l _ hx; exact hx
  | succ m ih =>
    intro k x l hp hx
    exact ih (k + 1) _ _ (fun j h1 h2 => hp j (by omega) (by omega)) (rng_row hx (hp k (by omega) (by omega)))
/-- what is told of a rule, of a peal, of all -/
def fR (n : Nat) (ps : Nat → Nat) (r w : Nat) : Int32 := match w with
  | 0 => nI (ord (inv (ps r)))
  | 1 => nI (leC (dg (ps r)))
  | 2 => nI (odC (dg (ps r)))
  | 3 => nI (grC (dg (ps r)))
  | _ => fs1 (fun o => Nat.beq (al (fun k => Nat.beq (dg (ps o) (dg (ps r) k)) k) 6 0) 1) n 0
def fP (ps len : Nat → Nat) (pr : Nat → Nat → Nat) (p w : Nat) : Int32 := match w with
  | 0 => nI (len p)
  | 1 => nI (pl ps (pr p) (len p) 0 R0)
  | 2 => nI (tr ps (pr p) (len p) 0 R0 [R0])
  | 3 => nI (ord (pl ps (pr p) (len p) 0 R0))
  | _ => nI (vo (fun k => ps (pr p k)) (len p) (ord (pl ps (pr p) (len p) 0 R0)) R0 [R0]).2.length
def fC (n m : Nat) (ch : Int32) (c w : Nat) : Int32 := match w with
  | 0 => nI n
  | 1 => nI m
  | 2 => ch
  | 3 => nI c
  | _ => nI (odC (dg c))
theorem go_alen {X : zX} {f : Nat} {d : zMd} {o : zOut} {pc pc0 np a b w : Nat} {L : List (Nat × Value)} {S : List Value} {h : zH} {k n : Nat} {g : Nat → Int32} (h1 : zf (zi d) pc = some (pc0, np, .arraylength, a, b, w)) (hk : h.1[k]? = some (.inl (n, .inl g))) (K : Go X f d (np, L, .int (nI n) :: S, h) o) : Go X f d (pc, L, .ref k :: S, h) o := by
  refine go_s ((zs1_of h1 rfl).trans ?_) K
  show zalen X np L (.ref k :: S) h = _
  unfold zalen
  dsimp only
  rw [hk]
section FILL
variable {X : zX} {fu e t n : Nat} {x : Int32} {H : (Nat → Int32) → List zC}
theorem fill_loop (hs : ∀ f, (H f)[t]? = some (.inl (n, .inl f))) (us : ∀ f g, (H f).set t (.inl (n, .inl g)) = H g) (hn : n < 2147483648) :
    ∀ (m k : Nat) (f : Nat → Int32), k + m = n → (∀ j, j < k → f j = x) → ∃ f2, (∀ j, j < n → f2 j = x) ∧ Go X fu mJ7_fill_53178 (5, [(0, .ref t), (1, .int x), (2, .int (nI k)), (3, .int (nI n))], [], (H f, e)) (.inl none, (H f2, e)) := by
  intro m
  induction m with
  | zero =>
    intro k f hk hf
    obtain rfl : k = n := by omega
    refine ⟨f, hf, ?_⟩
    repeat (first
      | exact go_ret rfl rfl rfl rfl
      | exact go_end rfl rfl rfl rfl
      | refine go_add rfl ?_
      | refine go_mul rfl ?_
      | refine go_sub rfl (by omega) ?_
      | refine go_inc rfl rfl rfl rfl rfl ?_
      | refine go_dec rfl rfl rfl (by omega) rfl rfl ?_
      | refine go_div rfl (by omega) ?_
      | refine go_rem rfl (by omega) ?_
      | refine go_icT rfl (by dsimp only [ncd]; omega) ?_
      | refine go_icF rfl (by dsimp only [ncd]; omega) ?_
      | refine go_ifT rfl (by dsimp only [ncd]; omega) ?_
      | refine go_ifF rfl (by dsimp only [ncd]; omega) ?_
      | refine go_ift rfl (by decide) ?_
      | refine go_s rfl ?_
      )
  | succ m ih =>
    intro k f hk hf
    obtain ⟨f2, h1, h2⟩ := ih (k + 1) (upd f k x) (by omega) (fun j hj => by
      by_cases q : j = k
      · subst q; exact pk_us
      · rw [pk_un q]; exact hf j (by omega))
    refine ⟨f2, h1, ?_⟩
    repeat (first
      | exact h2
      | exact go_ret rfl rfl rfl rfl
      | exact go_end rfl rfl rfl rfl
      | refine go_add rfl ?_
      | refine go_mul rfl ?_
      | refine go_sub rfl (by omega) ?_
      | refine go_inc rfl rfl rfl rfl rfl ?_
      | refine go_dec rfl rfl rfl (by omega) rfl rfl ?_
      | refine go_iash rfl (hs _) (by first | omega | exact ⟨dg_lt _ _, by omega⟩) (us _ _) ?_
      | refine go_div rfl (by omega) ?_
      | refine go_rem rfl (by omega) ?_
      | refine go_icT rfl (by dsimp only [ncd]; omega) ?_
      | refine go_icF rfl (by dsimp only [ncd]; omega) ?_
      | refine go_ifT rfl (by dsimp only [ncd]; omega) ?_
      | refine go_ifF rfl (by dsimp only [ncd]; omega) ?_
      | refine go_ift rfl (by decide) ?_
      | refine go_s rfl ?_
      )
theorem m_fill {f : Nat → Int32} (hs : ∀ f, (H f)[t]? = some (.inl (n, .inl f))) (us : ∀ f g, (H f).set t (.inl (n, .inl g)) = H g) (hn : n < 2147483648) : ∃ f2, (∀ j, j < n → f2 j = x) ∧ Go X fu mJ7_fill_53178 (0, [(0, .ref t), (1, .int x)], [], (H f, e)) (.inl none, (H f2, e)) := by
  obtain ⟨f2, h1, h2⟩ := fill_loop (X := X) (fu := fu) (e := e) (x := x) hs us hn n 0 f (by omega) (fun j hj => absurd hj (by omega))
  refine ⟨f2, h1, ?_⟩
  refine go_s rfl ?_
  refine go_s rfl ?_
  refine go_s rfl ?_
  refine go_alen rfl (hs _) ?_
  refine go_s rfl ?_
  exact h2
end FILL
section PEALS
variable {X : zX} {fu e n m : Nat} {A : Nat → Nat → Int32} {ch wf rd mo sm mk : Int32} {R : List zC} {ps len : Nat → Nat} {pr : Nat → Nat → Nat}
/-- the marks of the rows met -/
def MK (A : Nat → Nat → Int32) (l : List Nat) : Prop := ∀ y, isRow y → A 35 (rk y) = nI (if y ∈ l then 1 else 0)
theorem c_clear : ∃ A2, (∀ k, k ≠ 35 → A2 k = A k) ∧ MK A2 [] ∧ Go X (fu + 1) mX1_clear (0, [(0, .ref 34)], [], (cc A (nI n) (nI m) ch wf rd mo sm mk ++ R, e)) (.inl none, (cc A2 (nI n) (nI m) ch wf rd mo sm (nI 0) ++ R, e)) := by
  obtain ⟨f2, h1, h2⟩ := m_fill (X := X) (fu := fu) (e := e) (t := 35) (n := 720) (x := nI 0) (f := A 35) (H := fun f => cc (aset A 35 f) (nI n) (nI m) ch wf rd mo sm mk ++ R) (fun _ => rfl) (fun f g => (show _ = cc (aset (aset A 35 f) 35 g) (nI n) (nI m) ch wf rd mo sm mk ++ R from rfl).trans (by rw [aset_bb])) (by omega)
  rw [aset_id] at h2
  refine ⟨aset A 35 f2, fun k hk => aset_n hk, ?_, ?_⟩
  · intro y hy
    rw [aset_s, h1 _ (rk_lt hy), if_neg (by simp)]
  · repeat (first
      | exact go_end rfl rfl rfl rfl
      | refine go_cn rfl rfl rfl rfl rfl h2 ?_
      | refine go_s rfl ?_)
theorem c_mark {x : Nat} {l : List Nat} (hM : MK A l) (hx : rw6 (A 32) x) (ix : isRow x) : ∃ A2, (∀ k, k ≠ 35 → A2 k = A k) ∧ MK A2 (addv l x) ∧ Go X (fu + 1) mX1_mark (0, [(0, .ref 34), (1, .ref 31)], [], (cc A (nI n) (nI m) ch wf rd mo sm (nI l.length) ++ R, e)) (.inl (some (.int (nI (if x ∈ l then 0 else 1)))), (cc A2 (nI n) (nI m) ch wf rd mo sm (nI (addv l x).length) ++ R, e)) := by
  have h1 := rk_lt ix
  have G1 := c_rank (X := X) (fu := fu) (e := e) (rc := nI n) (pc := nI m) (ch := ch) (wf := wf) (rd := rd) (mo := mo) (sm := sm) (mk := nI l.length) (R := R) rw_trial hx
  have h2 := hM x ix
  by_cases q : x ∈ l
  · rw [if_pos q] at h2
    refine ⟨A, fun _ _ => rfl, ?_, ?_⟩
    · rw [addv, if_pos q]; exact hM
    · rw [addv, if_pos q, if_pos q]
      repeat (first
        | exact go_ret rfl rfl rfl rfl
        | exact go_end rfl rfl rfl rfl
        | refine go_add rfl ?_
        | refine go_mul rfl ?_
        | refine go_sub rfl (by omega) ?_
        | refine go_inc rfl rfl rfl rfl rfl ?_
        | refine go_dec rfl rfl rfl (by omega) rfl rfl ?_
        | refine go_ial rfl rfl (by first | omega | exact ⟨dg_lt _ _, by omega⟩) (h2) ?_
        | refine go_div rfl (by omega) ?_
        | refine go_rem rfl (by omega) ?_
        | refine go_ci rfl rfl rfl rfl rfl G1 ?_
        | refine go_icT rfl (by dsimp only [ncd]; omega) ?_
        | refine go_icF rfl (by dsimp only [ncd]; omega) ?_
        | refine go_ifT rfl (by dsimp only [ncd]; omega) ?_
        | refine go_ifF rfl (by dsimp only [ncd]; omega) ?_
        | refine go_ift rfl (by decide) ?_
        | refine go_s rfl ?_
        )
  · rw [if_neg q] at h2
    refine ⟨aset A 35 (upd (A 35) (rk x) (nI 1)), fun k hk => aset_n hk, ?_, ?_⟩
    · intro y hy
      rw [aset_s, addv, if_neg q]
      by_cases q2 : y = x
      · subst q2
        rw [pk_us, if_pos (by simp)]
      · rw [pk_un (fun z => q2 (rk_inj hy ix z)), hM y hy]
        have e3 : (y ∈ l ++ [x]) ↔ y ∈ l := by simp [q2]
        by_cases q3 : y ∈ l
        · rw [if_pos q3, if_pos (e3.mpr q3)]
        · rw [if_neg q3, if_neg (fun z => q3 (e3.mp z))]
    · rw [addv, if_neg q, if_neg q, List.length_append]
      show Go X (fu + 1) mX1_mark _ (.inl (some (.int (nI 1))), (cc (aset A 35 (upd (A 35) (rk x) (nI 1))) (nI n) (nI m) ch wf rd mo sm (nI (l.length + 1)) ++ R, e))
      repeat (first
        | exact go_ret rfl rfl rfl rfl
        | exact go_end rfl rfl rfl rfl
        | refine go_add rfl ?_
        | refine go_mul rfl ?_
        | refine go_sub rfl (by omega) ?_
        | refine go_inc rfl rfl rfl rfl rfl ?_
        | refine go_dec rfl rfl rfl (by omega) rfl rfl ?_
        | refine go_ial rfl rfl (by first | omega | exact ⟨dg_lt _ _, by omega⟩) (h2) ?_
        | refine go_iash rfl rfl (by first | omega | exact ⟨dg_lt _ _, by omega⟩) rfl ?_
        | refine go_div rfl (by omega) ?_
        | refine go_rem rfl (by omega) ?_
        | refine go_ci rfl rfl rfl rfl rfl G1 ?_
        | refine go_icT rfl (by dsimp only [ncd]; omega) ?_
        | refine go_icF rfl (by dsimp only [ncd]; omega) ?_
        | refine go_ifT rfl (by dsimp only [ncd]; omega) ?_
        | refine go_ifF rfl (by dsimp only [ncd]; omega) ?_
        | refine go_ift rfl (by decide) ?_
        | refine go_s rfl ?_
        )
theorem undoer_loop (hC : CP A n ps m len pr) {r : Nat} (hr : r < n) :
    ∀ (q k : Nat), k + q = n → Go X (fu + 1) mX3_undoer (2, [(0, .ref 0), (1, .int (nI r)), (2, .int (nI k))], [], (cc A (nI n) (nI m) ch wf rd mo sm mk ++ R, e)) (.inl (some (.int (fs1 (fun o => Nat.beq (al (fun k => Nat.beq (dg (ps o) (dg (ps r) k)) k) 6 0) 1) q k))), (cc A (nI n) (nI m) ch wf rd mo sm mk ++ R, e)) := by
  have hn := hC.1
  intro q
  induction q with
  | zero =>
    intro k hk
    obtain rfl : k = n := by omega
    repeat (first
      | exact go_ret rfl rfl rfl rfl
      | exact go_end rfl rfl rfl rfl
      | refine go_add rfl ?_
      | refine go_mul rfl ?_
      | refine go_sub rfl (by omega) ?_
      | refine go_inc rfl rfl rfl rfl rfl ?_
      | refine go_dec rfl rfl rfl (by omega) rfl rfl ?_
      | refine go_div rfl (by omega) ?_
      | refine go_rem rfl (by omega) ?_
      | refine go_icT rfl (by dsimp only [ncd]; omega) ?_
      | refine go_icF rfl (by dsimp only [ncd]; omega) ?_
      | refine go_ifT rfl (by dsimp only [ncd]; omega) ?_
      | refine go_ifF rfl (by dsimp only [ncd]; omega) ?_
      | refine go_ift rfl (by decide) ?_
      | refine go_s rfl ?_
      )
  | succ q ih =>
    intro k hk
    have G := m_undoes (X := X) (fu := fu) (h := (cc A (nI n) (nI m) ch wf rd mo sm mk ++ R, e)) (t := 2 + k) (u := 2 + r) (cc_p k (by omega)) (hC.2.2.1 k (by omega)).1 (fun _ _ => dg_lt _ _) (cc_p r (by omega)) (hC.2.2.1 r hr).1 (fun _ _ => dg_lt _ _)
    have G0 := ih (k + 1) (by omega)
    have hb := al_le (fun j => Nat.beq (dg (ps k) (dg (ps r) j)) j) 6 0
    show Go X (fu + 1) mX3_undoer _ (.inl (some (.int (bif Nat.beq (al (fun j => Nat.beq (dg (ps k) (dg (ps r) j)) j) 6 0) 1 then nI k else fs1 (fun o => Nat.beq (al (fun k => Nat.beq (dg (ps o) (dg (ps r) k)) k) 6 0) 1) q (k + 1)))), _)
    generalize al (fun j => Nat.beq (dg (ps k) (dg (ps r) j)) j) 6 0 = z at G hb ⊢
    by_cases e1 : z = 1
    · subst e1
      repeat (first
        | exact go_ret rfl rfl rfl rfl
        | exact go_end rfl rfl rfl rfl
        | refine go_add rfl ?_
        | refine go_mul rfl ?_
        | refine go_sub rfl (by omega) ?_
        | refine go_inc rfl rfl rfl rfl rfl ?_
        | refine go_dec rfl rfl rfl (by omega) rfl rfl ?_
        | refine go_aal rfl rfl (by omega) (gP_s (by omega)) ?_
        | refine go_aal rfl rfl (by omega) (gQ_s (by omega)) ?_
        | refine go_div rfl (by omega) ?_
        | refine go_rem rfl (by omega) ?_
        | refine go_ci rfl rfl rfl rfl rfl G ?_
        | refine go_icT rfl (by dsimp only [ncd]; omega) ?_
        | refine go_icF rfl (by dsimp only [ncd]; omega) ?_
        | refine go_ifT rfl (by dsimp only [ncd]; omega) ?_
        | refine go_ifF rfl (by dsimp only [ncd]; omega) ?_
        | refine go_ift rfl (by decide) ?_
        | refine go_s rfl ?_
        )
    · obtain rfl : z = 0 := by omega
      repeat (first
        | exact G0
        | exact go_ret rfl rfl rfl rfl
        | exact go_end rfl rfl rfl rfl
        | refine go_add rfl ?_
        | refine go_mul rfl ?_
        | refine go_sub rfl (by omega) ?_
        | refine go_inc rfl rfl rfl rfl rfl ?_
        | refine go_dec rfl rfl rfl (by omega) rfl rfl ?_
        | refine go_aal rfl rfl (by omega) (gP_s (by omega)) ?_
        | refine go_aal rfl rfl (by omega) (gQ_s (by omega)) ?_
        | refine go_div rfl (by omega) ?_
        | refine go_rem rfl (by omega) ?_
        | refine go_ci rfl rfl rfl rfl rfl G ?_
        | refine go_icT rfl (by dsimp only [ncd]; omega) ?_
        | refine go_icF rfl (by dsimp only [ncd]; omega) ?_
        | refine go_ifT rfl (by dsimp only [ncd]; omega) ?_
        | refine go_ifF rfl (by dsimp only [ncd]; omega) ?_
        | refine go_ift rfl (by decide) ?_
        | refine go_s rfl ?_
        )
theorem m_undoer (hC : CP A n ps m len pr) {r : Nat} (hr : r < n) : Go X (fu + 1) mX3_undoer (0, [(0, .ref 0), (1, .int (nI r))], [], (cc A (nI n) (nI m) ch wf rd mo sm mk ++ R, e)) (.inl (some (.int (fR n ps r 4))), (cc A (nI n) (nI m) ch wf rd mo sm mk ++ R, e)) := by
  repeat (first
    | exact undoer_loop hC hr n 0 (by omega)
    | exact go_ret rfl rfl rfl rfl
    | exact go_end rfl rfl rfl rfl
    | refine go_add rfl ?_
    | refine go_mul rfl ?_
    | refine go_sub rfl (by omega) ?_
    | refine go_inc rfl rfl rfl rfl rfl ?_
    | refine go_dec rfl rfl rfl (by omega) rfl rfl ?_
    | refine go_div rfl (by omega) ?_
    | refine go_rem rfl (by omega) ?_
    | refine go_icT rfl (by dsimp only [ncd]; omega) ?_
    | refine go_icF rfl (by dsimp only [ncd]; omega) ?_
    | refine go_ifT rfl (by dsimp only [ncd]; omega) ?_
    | refine go_ifF rfl (by dsimp only [ncd]; omega) ?_
    | refine go_ift rfl (by decide) ?_
    | refine go_s rfl ?_
    )
theorem oRule_loop (hC : CP A n ps m len pr) {r : Nat} (hr : r < n) :
    ∀ (q t : Nat) (A1 : Nat → Nat → Int32), t + 1 + q = ord (inv (ps r)) → keep A A1 → rw6 (A1 32) (pw (inv (ps r)) t) → ∃ A2, keep A A2 ∧ Go X (fu + 2) mX3_orderOfRule (9, [(0, .ref 0), (1, .ref (2 + r)), (2, .int (nI t))], [], (cc A1 (nI n) (nI m) ch wf rd mo sm mk ++ R, e)) (.inl (some (.int (nI (ord (inv (ps r)))))), (cc A2 (nI n) (nI m) ch wf rd mo sm mk ++ R, e)) := by
  have hn := hC.1
  have ip := (hC.2.2.1 r hr).2
  obtain ⟨o1, o2, o3, o4⟩ := ord_ok (inv_row ip)
  intro q
  induction q with
  | zero =>
    intro t A1 hq k1 hx
    obtain ⟨A2, k2, hx2, G⟩ := c_change (X := X) (fu := fu) (e := e) (rc := nI n) (pc := nI m) (ch := ch) (wf := wf) (rd := rd) (mo := mo) (sm := sm) (mk := mk) (R := R) rw_trial hx (i := r) (by omega) ((CP_k hC k1).2.2.1 r hr).1 ip
    have e1 : rng (pw (inv (ps r)) t) (ps r) = R0 := by
      rw [rng_cmp ip, ← o3, ← hq]
      rfl
    rw [e1] at hx2
    have G2 := c_code (X := X) (fu := fu + 1) (e := e) (rc := nI n) (pc := nI m) (ch := ch) (wf := wf) (rd := rd) (mo := mo) (sm := sm) (mk := mk) (R := R) rw_trial hx2 R0_row
    refine ⟨A2, keep_t k1 (keep_o 32 33 k2 (by omega)), ?_⟩
    rw [← hq]
    repeat (first
      | exact go_ret rfl rfl rfl rfl
      | exact go_end rfl rfl rfl rfl
      | refine go_add rfl ?_
      | refine go_mul rfl ?_
      | refine go_sub rfl (by omega) ?_
      | refine go_inc rfl rfl rfl rfl rfl ?_
      | refine go_dec rfl rfl rfl (by omega) rfl rfl ?_
      | refine go_div rfl (by omega) ?_
      | refine go_rem rfl (by omega) ?_
      | refine go_cn rfl rfl rfl rfl rfl G ?_
      | refine go_ci rfl rfl rfl rfl rfl G2 ?_
      | (dsimp only [R0]; refine go_icF rfl (by dsimp only [ncd]; omega) ?_)
      | refine go_icT rfl (by dsimp only [ncd]; omega) ?_
      | refine go_icF rfl (by dsimp only [ncd]; omega) ?_
      | refine go_ifT rfl (by dsimp only [ncd]; omega) ?_
      | refine go_ifF rfl (by dsimp only [ncd]; omega) ?_
      | refine go_ift rfl (by decide) ?_
      | refine go_s rfl ?_
      )
  | succ q ih =>
    intro t A1 hq k1 hx
    obtain ⟨A2, k2, hx2, G⟩ := c_change (X := X) (fu := fu) (e := e) (rc := nI n) (pc := nI m) (ch := ch) (wf := wf) (rd := rd) (mo := mo) (sm := sm) (mk := mk) (R := R) rw_trial hx (i := r) (by omega) ((CP_k hC k1).2.2.1 r hr).1 ip
    have e1 : rng (pw (inv (ps r)) t) (ps r) = pw (inv (ps r)) (t + 1) := rng_cmp ip
    rw [e1] at hx2
    have i2 := pw_row (inv_row ip) (t + 1)
    have l2 := row_lt i2
    have n2 := o4 (t + 1) (by omega) (by omega)
    have n3 : pw (inv (ps r)) (t + 1) ≠ 1865 := n2
    have G2 := c_code (X := X) (fu := fu + 1) (e := e) (rc := nI n) (pc := nI m) (ch := ch) (wf := wf) (rd := rd) (mo := mo) (sm := sm) (mk := mk) (R := R) rw_trial hx2 i2
    obtain ⟨A3, k3, G3⟩ := ih (t + 1) A2 (by omega) (keep_t k1 (keep_o 32 33 k2 (by omega))) hx2
    refine ⟨A3, k3, ?_⟩
    refine go_s rfl ?_
    refine go_s rfl ?_
    refine go_s rfl ?_
    repeat (first
      | exact G3
      | exact go_ret rfl rfl rfl rfl
      | exact go_end rfl rfl rfl rfl
      | refine go_add rfl ?_
      | refine go_mul rfl ?_
      | refine go_sub rfl (by omega) ?_
      | refine go_inc rfl rfl rfl rfl rfl ?_
      | refine go_dec rfl rfl rfl (by omega) rfl rfl ?_
      | refine go_div rfl (by omega) ?_
      | refine go_rem rfl (by omega) ?_
      | refine go_cn rfl rfl rfl rfl rfl G ?_
      | refine go_ci rfl rfl rfl rfl rfl G2 ?_
      | refine go_icT rfl (by dsimp only [ncd]; omega) ?_
      | refine go_icF rfl (by dsimp only [ncd]; omega) ?_
      | refine go_ifT rfl (by dsimp only [ncd]; omega) ?_
      | refine go_ifF rfl (by dsimp only [ncd]; omega) ?_
      | refine go_ift rfl (by decide) ?_
      | refine go_s rfl ?_
      )
theorem m_orderOfRule (hC : CP A n ps m len pr) {r : Nat} (hr : r < n) : ∃ A2, keep A A2 ∧ Go X (fu + 2) mX3_orderOfRule (0, [(0, .ref 0), (1, .ref (2 + r))], [], (cc A (nI n) (nI m) ch wf rd mo sm mk ++ R, e)) (.inl (some (.int (fR n ps r 0))), (cc A2 (nI n) (nI m) ch wf rd mo sm mk ++ R, e)) := by
  have ip := (hC.2.2.1 r hr).2
  obtain ⟨o1, o2, o3, o4⟩ := ord_ok (inv_row ip)
  obtain ⟨A1, k1, hx, G⟩ := c_toRounds (X := X) (fu := fu + 1) (e := e) (A := A) (rc := nI n) (pc := nI m) (ch := ch) (wf := wf) (rd := rd) (mo := mo) (sm := sm) (mk := mk) (R := R) rw_trial
  obtain ⟨A2, k2, G2⟩ := oRule_loop (X := X) (fu := fu) (e := e) (ch := ch) (wf := wf) (rd := rd) (mo := mo) (sm := sm) (mk := mk) (R := R) hC hr (ord (inv (ps r)) - 1) 0 A1 (by omega) (keep_o 32 33 k1 (by omega)) hx
  refine ⟨A2, k2, ?_⟩
  repeat (first
    | exact G2
    | exact go_ret rfl rfl rfl rfl
    | exact go_end rfl rfl rfl rfl
    | refine go_add rfl ?_
    | refine go_mul rfl ?_
    | refine go_sub rfl (by omega) ?_
    | refine go_inc rfl rfl rfl rfl rfl ?_
    | refine go_dec rfl rfl rfl (by omega) rfl rfl ?_
    | refine go_div rfl (by omega) ?_
    | refine go_rem rfl (by omega) ?_
    | refine go_cn rfl rfl rfl rfl rfl G ?_
    | refine go_icT rfl (by dsimp only [ncd]; omega) ?_
    | refine go_icF rfl (by dsimp only [ncd]; omega) ?_
    | refine go_ifT rfl (by dsimp only [ncd]; omega) ?_
    | refine go_ifF rfl (by dsimp only [ncd]; omega) ?_
    | refine go_ift rfl (by decide) ?_
    | refine go_s rfl ?_
    )
theorem m_factOfRule (hC : CP A n ps m len pr) {r w : Nat} (hr : r < n) (hw : w < 5) : ∃ A2, keep A A2 ∧ Go X (fu + 3) mX3_factOfRule (0, [(0, .ref 0), (1, .int (nI r)), (2, .int (nI w))], [], (cc A (nI n) (nI m) ch wf rd mo sm mk ++ R, e)) (.inl (some (.int (fR n ps r w))), (cc A2 (nI n) (nI m) ch wf rd mo sm mk ++ R, e)) := by
  have hn := hC.1
  have hp := hC.2.2.1 r hr
  rcases (show w = 0 ∨ w = 1 ∨ w = 2 ∨ w = 3 ∨ w = 4 by omega) with rfl | rfl | rfl | rfl | rfl
  · obtain ⟨A2, k2, G⟩ := m_orderOfRule (X := X) (fu := fu) (e := e) (ch := ch) (wf := wf) (rd := rd) (mo := mo) (sm := sm) (mk := mk) (R := R) hC hr
    refine ⟨A2, k2, ?_⟩
    repeat (first
      | exact go_ret rfl rfl rfl rfl
      | exact go_end rfl rfl rfl rfl
      | refine go_add rfl ?_
      | refine go_mul rfl ?_
      | refine go_sub rfl (by omega) ?_
      | refine go_inc rfl rfl rfl rfl rfl ?_
      | refine go_dec rfl rfl rfl (by omega) rfl rfl ?_
      | refine go_aal rfl rfl (by omega) (gP_s (by omega)) ?_
      | refine go_aal rfl rfl (by omega) (gQ_s (by omega)) ?_
      | refine go_div rfl (by omega) ?_
      | refine go_rem rfl (by omega) ?_
      | refine go_ci rfl rfl rfl rfl rfl G ?_
      | refine go_icT rfl (by dsimp only [ncd]; omega) ?_
      | refine go_icF rfl (by dsimp only [ncd]; omega) ?_
      | refine go_ifT rfl (by dsimp only [ncd]; omega) ?_
      | refine go_ifF rfl (by dsimp only [ncd]; omega) ?_
      | refine go_ift rfl (by decide) ?_
      | refine go_s rfl ?_
      )
  · have G := m_placesLeft (X := X) (fu := fu + 2) (h := (cc A (nI n) (nI m) ch wf rd mo sm mk ++ R, e)) (t := 2 + r) (cc_p r (by omega)) hp.1 (fun _ _ => dg_lt _ _)
    refine ⟨A, keep_r A, ?_⟩
    repeat (first
      | exact go_ret rfl rfl rfl rfl
      | exact go_end rfl rfl rfl rfl
      | refine go_add rfl ?_
      | refine go_mul rfl ?_
      | refine go_sub rfl (by omega) ?_
      | refine go_inc rfl rfl rfl rfl rfl ?_
      | refine go_dec rfl rfl rfl (by omega) rfl rfl ?_
      | refine go_aal rfl rfl (by omega) (gP_s (by omega)) ?_
      | refine go_aal rfl rfl (by omega) (gQ_s (by omega)) ?_
      | refine go_div rfl (by omega) ?_
      | refine go_rem rfl (by omega) ?_
      | refine go_ci rfl rfl rfl rfl rfl G ?_
      | refine go_icT rfl (by dsimp only [ncd]; omega) ?_
      | refine go_icF rfl (by dsimp only [ncd]; omega) ?_
      | refine go_ifT rfl (by dsimp only [ncd]; omega) ?_
      | refine go_ifF rfl (by dsimp only [ncd]; omega) ?_
      | refine go_ift rfl (by decide) ?_
      | refine go_s rfl ?_
      )
  · have G := m_oddness (X := X) (fu := fu + 2) (h := (cc A (nI n) (nI m) ch wf rd mo sm mk ++ R, e)) (t := 2 + r) (cc_p r (by omega)) hp.1 (fun _ _ => dg_lt _ _)
    refine ⟨A, keep_r A, ?_⟩
    repeat (first
      | exact go_ret rfl rfl rfl rfl
      | exact go_end rfl rfl rfl rfl
      | refine go_add rfl ?_
      | refine go_mul rfl ?_
      | refine go_sub rfl (by omega) ?_
      | refine go_inc rfl rfl rfl rfl rfl ?_
      | refine go_dec rfl rfl rfl (by omega) rfl rfl ?_
      | refine go_aal rfl rfl (by omega) (gP_s (by omega)) ?_
      | refine go_aal rfl rfl (by omega) (gQ_s (by omega)) ?_
      | refine go_div rfl (by omega) ?_
      | refine go_rem rfl (by omega) ?_
      | refine go_ci rfl rfl rfl rfl rfl G ?_
      | refine go_icT rfl (by dsimp only [ncd]; omega) ?_
      | refine go_icF rfl (by dsimp only [ncd]; omega) ?_
      | refine go_ifT rfl (by dsimp only [ncd]; omega) ?_
      | refine go_ifF rfl (by dsimp only [ncd]; omega) ?_
      | refine go_ift rfl (by decide) ?_
      | refine go_s rfl ?_
      )
  · have G := m_groups (X := X) (fu := fu + 2) (h := (cc A (nI n) (nI m) ch wf rd mo sm mk ++ R, e)) (t := 2 + r) (cc_p r (by omega)) hp.1 (fun _ _ => dg_lt _ _)
    refine ⟨A, keep_r A, ?_⟩
    repeat (first
      | exact go_ret rfl rfl rfl rfl
      | exact go_end rfl rfl rfl rfl
      | refine go_add rfl ?_
      | refine go_mul rfl ?_
      | refine go_sub rfl (by omega) ?_
      | refine go_inc rfl rfl rfl rfl rfl ?_
      | refine go_dec rfl rfl rfl (by omega) rfl rfl ?_
      | refine go_aal rfl rfl (by omega) (gP_s (by omega)) ?_
      | refine go_aal rfl rfl (by omega) (gQ_s (by omega)) ?_
      | refine go_div rfl (by omega) ?_
      | refine go_rem rfl (by omega) ?_
      | refine go_ci rfl rfl rfl rfl rfl G ?_
      | refine go_icT rfl (by dsimp only [ncd]; omega) ?_
      | refine go_icF rfl (by dsimp only [ncd]; omega) ?_
      | refine go_ifT rfl (by dsimp only [ncd]; omega) ?_
      | refine go_ifF rfl (by dsimp only [ncd]; omega) ?_
      | refine go_ift rfl (by decide) ?_
      | refine go_s rfl ?_
      )
  · have G := m_undoer (X := X) (fu := fu + 1) (e := e) (ch := ch) (wf := wf) (rd := rd) (mo := mo) (sm := sm) (mk := mk) (R := R) hC hr
    refine ⟨A, keep_r A, ?_⟩
    repeat (first
      | exact go_ret rfl rfl rfl rfl
      | exact go_end rfl rfl rfl rfl
      | refine go_add rfl ?_
      | refine go_mul rfl ?_
      | refine go_sub rfl (by omega) ?_
      | refine go_inc rfl rfl rfl rfl rfl ?_
      | refine go_dec rfl rfl rfl (by omega) rfl rfl ?_
      | refine go_aal rfl rfl (by omega) (gP_s (by omega)) ?_
      | refine go_aal rfl rfl (by omega) (gQ_s (by omega)) ?_
      | refine go_div rfl (by omega) ?_
      | refine go_rem rfl (by omega) ?_
      | refine go_ci rfl rfl rfl rfl rfl G ?_
      | refine go_icT rfl (by dsimp only [ncd]; omega) ?_
      | refine go_icF rfl (by dsimp only [ncd]; omega) ?_
      | refine go_ifT rfl (by dsimp only [ncd]; omega) ?_
      | refine go_ifF rfl (by dsimp only [ncd]; omega) ?_
      | refine go_ift rfl (by decide) ?_
      | refine go_s rfl ?_
      )
theorem rpo_loop {r s b p : Nat} (w : isRw r s b) (hp : p < m) :
    ∀ (q k x : Nat) (A : Nat → Nat → Int32), CP A n ps m len pr → k + q = len p → rw6 (A s) x → isRow x → ∃ A2, (∀ k, k ≠ s → k ≠ b → A2 k = A k) ∧ rw6 (A2 s) (pl ps (pr p) q k x) ∧ Go X (fu + 2) mX3_ringPealOn (10, [(0, .ref 0), (1, .ref r), (2, .int (nI p)), (3, .int (nI (len p))), (4, .int (nI k))], [], (cc A (nI n) (nI m) ch wf rd mo sm mk ++ R, e)) (.inl none, (cc A2 (nI n) (nI m) ch wf rd mo sm mk ++ R, e)) := by
  intro q
  induction q with
  | zero =>
    intro k x A hC hk hx ix
    have hm := hC.2.1
    obtain ⟨l1, l2, l3⟩ := hC.2.2.2.2 p (by omega)
    obtain rfl : k = len p := by omega
    refine ⟨A, fun _ _ _ => rfl, hx, ?_⟩
    repeat (first
      | exact go_ret rfl rfl rfl rfl
      | exact go_end rfl rfl rfl rfl
      | refine go_add rfl ?_
      | refine go_mul rfl ?_
      | refine go_sub rfl (by omega) ?_
      | refine go_inc rfl rfl rfl rfl rfl ?_
      | refine go_dec rfl rfl rfl (by omega) rfl rfl ?_
      | refine go_div rfl (by omega) ?_
      | refine go_rem rfl (by omega) ?_
      | refine go_icT rfl (by dsimp only [ncd]; omega) ?_
      | refine go_icF rfl (by dsimp only [ncd]; omega) ?_
      | refine go_ifT rfl (by dsimp only [ncd]; omega) ?_
      | refine go_ifF rfl (by dsimp only [ncd]; omega) ?_
      | refine go_ift rfl (by decide) ?_
      | refine go_s rfl ?_
      )
  | succ q ih =>
    intro k x A hC hk hx ix
    have hm := hC.2.1
    have hn := hC.1
    obtain ⟨l1, l2, l3⟩ := hC.2.2.2.2 p (by omega)
    have l4 := l3 k (by omega)
    have hq := hC.2.2.1 _ l4
    obtain ⟨A2, k2, hx2, G⟩ := c_change (X := X) (fu := fu) (e := e) (rc := nI n) (pc := nI m) (ch := ch) (wf := wf) (rd := rd) (mo := mo) (sm := sm) (mk := mk) (R := R) w hx (i := pr p k) (by omega) hq.1 hq.2
    have w2 := w.2
    obtain ⟨A3, k3, hx3, G3⟩ := ih (k + 1) _ A2 (CP_keep hC fun j hj => k2 j (by omega) (by omega)) (by omega) hx2 (rng_row ix hq.2)
    refine ⟨A3, fun j h1 h2 => (k3 j h1 h2).trans (k2 j h1 h2), hx3, ?_⟩
    repeat (first
      | exact G3
      | exact go_ret rfl rfl rfl rfl
      | exact go_end rfl rfl rfl rfl
      | refine go_add rfl ?_
      | refine go_mul rfl ?_
      | refine go_sub rfl (by omega) ?_
      | refine go_inc rfl rfl rfl rfl rfl ?_
      | refine go_dec rfl rfl rfl (by omega) rfl rfl ?_
      | refine go_ial rfl (cc_q p (by omega)) (by first | omega | exact ⟨dg_lt _ _, by omega⟩) (l2 _ (by first | omega | exact dg_lt _ _)) ?_
      | refine go_aal rfl rfl (by omega) (gP_s (by omega)) ?_
      | refine go_aal rfl rfl (by omega) (gQ_s (by omega)) ?_
      | refine go_div rfl (by omega) ?_
      | refine go_rem rfl (by omega) ?_
      | refine go_cn rfl rfl rfl (zcall_v rfl rfl rfl rfl (w.2.2.2 A _ _ _ _ _ _ _ _ _).1 rfl) rfl G ?_
      | refine go_icT rfl (by dsimp only [ncd]; omega) ?_
      | refine go_icF rfl (by dsimp only [ncd]; omega) ?_
      | refine go_ifT rfl (by dsimp only [ncd]; omega) ?_
      | refine go_ifF rfl (by dsimp only [ncd]; omega) ?_
      | refine go_ift rfl (by decide) ?_
      | refine go_s rfl ?_
      )
theorem m_ringPealOn {r s b p x : Nat} (w : isRw r s b) (hC : CP A n ps m len pr) (hp : p < m) (hx : rw6 (A s) x) (ix : isRow x) : ∃ A2, (∀ k, k ≠ s → k ≠ b → A2 k = A k) ∧ rw6 (A2 s) (pl ps (pr p) (len p) 0 x) ∧ Go X (fu + 2) mX3_ringPealOn (0, [(0, .ref 0), (1, .ref r), (2, .int (nI p))], [], (cc A (nI n) (nI m) ch wf rd mo sm mk ++ R, e)) (.inl none, (cc A2 (nI n) (nI m) ch wf rd mo sm mk ++ R, e)) := by
  have hm := hC.2.1
  have h17 := hC.2.2.2.1
  obtain ⟨A2, k2, h2, G2⟩ := rpo_loop (X := X) (fu := fu) (e := e) (ch := ch) (wf := wf) (rd := rd) (mo := mo) (sm := sm) (mk := mk) (R := R) w hp (len p) 0 x A hC (by omega) hx ix
  refine ⟨A2, k2, h2, ?_⟩
  repeat (first
    | exact G2
    | exact go_ret rfl rfl rfl rfl
    | exact go_end rfl rfl rfl rfl
    | refine go_add rfl ?_
    | refine go_mul rfl ?_
    | refine go_sub rfl (by omega) ?_
    | refine go_inc rfl rfl rfl rfl rfl ?_
    | refine go_dec rfl rfl rfl (by omega) rfl rfl ?_
    | refine go_ial rfl rfl (by first | omega | exact ⟨dg_lt _ _, by omega⟩) (h17 _ (by first | omega | exact dg_lt _ _)) ?_
    | refine go_div rfl (by omega) ?_
    | refine go_rem rfl (by omega) ?_
    | refine go_icT rfl (by dsimp only [ncd]; omega) ?_
    | refine go_icF rfl (by dsimp only [ncd]; omega) ?_
    | refine go_ifT rfl (by dsimp only [ncd]; omega) ?_
    | refine go_ifF rfl (by dsimp only [ncd]; omega) ?_
    | refine go_ift rfl (by decide) ?_
    | refine go_s rfl ?_
    )
theorem peal_rows (hC : CP A n ps m len pr) {p : Nat} (hp : p < m) : ∀ j, 0 ≤ j → j < 0 + len p → isRow (ps (pr p j)) := by
  intro j _ hj
  have hm := hC.2.1
  exact (hC.2.2.1 _ ((hC.2.2.2.2 p (by omega)).2.2 j (by omega))).2
theorem oPeal_loop (hC : CP A n ps m len pr) {p : Nat} (hp : p < m) :
    ∀ (q t : Nat) (A1 : Nat → Nat → Int32), t + 1 + q = ord (pl ps (pr p) (len p) 0 R0) → keep A A1 → rw6 (A1 32) (pw (pl ps (pr p) (len p) 0 R0) t) → ∃ A2, keep A A2 ∧ Go X (fu + 3) mX3_orderOfPeal (9, [(0, .ref 0), (1, .int (nI p)), (2, .int (nI t))], [], (cc A1 (nI n) (nI m) ch wf rd mo sm mk ++ R, e)) (.inl (some (.int (nI (ord (pl ps (pr p) (len p) 0 R0))))), (cc A2 (nI n) (nI m) ch wf rd mo sm mk ++ R, e)) := by
  have ro := peal_rows hC hp
  have ip := peal_row (len p) 0 R0 ro R0_row
  obtain ⟨o1, o2, o3, o4⟩ := ord_ok ip
  intro q
  induction q with
  | zero =>
    intro t A1 hq k1 hx
    obtain ⟨A2, k2, hx2, G⟩ := m_ringPealOn (X := X) (fu := fu) (e := e) (ch := ch) (wf := wf) (rd := rd) (mo := mo) (sm := sm) (mk := mk) (R := R) rw_trial (CP_k hC k1) hp hx (pw_row ip t)
    have e1 : pl ps (pr p) (len p) 0 (pw (pl ps (pr p) (len p) 0 R0) t) = R0 := by
      rw [pl_cmp _ _ _ ro (pw_row ip t)]
      show pw (pl ps (pr p) (len p) 0 R0) (t + 1) = R0
      rw [show t + 1 = ord (pl ps (pr p) (len p) 0 R0) by omega, o3]
    rw [e1] at hx2
    have G2 := c_code (X := X) (fu := fu + 2) (e := e) (rc := nI n) (pc := nI m) (ch := ch) (wf := wf) (rd := rd) (mo := mo) (sm := sm) (mk := mk) (R := R) rw_trial hx2 R0_row
    refine ⟨A2, keep_t k1 (keep_o 32 33 k2 (by omega)), ?_⟩
    rw [← hq]
    repeat (first
      | exact go_ret rfl rfl rfl rfl
      | exact go_end rfl rfl rfl rfl
      | refine go_add rfl ?_
      | refine go_mul rfl ?_
      | refine go_sub rfl (by omega) ?_
      | refine go_inc rfl rfl rfl rfl rfl ?_
      | refine go_dec rfl rfl rfl (by omega) rfl rfl ?_
      | refine go_div rfl (by omega) ?_
      | refine go_rem rfl (by omega) ?_
      | refine go_cn rfl rfl rfl rfl rfl G ?_
      | refine go_ci rfl rfl rfl rfl rfl G2 ?_
      | (dsimp only [R0]; refine go_icF rfl (by dsimp only [ncd]; omega) ?_)
      | refine go_icT rfl (by dsimp only [ncd]; omega) ?_
      | refine go_icF rfl (by dsimp only [ncd]; omega) ?_
      | refine go_ifT rfl (by dsimp only [ncd]; omega) ?_
      | refine go_ifF rfl (by dsimp only [ncd]; omega) ?_
      | refine go_ift rfl (by decide) ?_
      | refine go_s rfl ?_
      )
  | succ q ih =>
    intro t A1 hq k1 hx
    obtain ⟨A2, k2, hx2, G⟩ := m_ringPealOn (X := X) (fu := fu) (e := e) (ch := ch) (wf := wf) (rd := rd) (mo := mo) (sm := sm) (mk := mk) (R := R) rw_trial (CP_k hC k1) hp hx (pw_row ip t)
    have e1 : pl ps (pr p) (len p) 0 (pw (pl ps (pr p) (len p) 0 R0) t) = pw (pl ps (pr p) (len p) 0 R0) (t + 1) := pl_cmp _ _ _ ro (pw_row ip t)
    rw [e1] at hx2
    have i2 := pw_row ip (t + 1)
    have l2 := row_lt i2
    have n2 := o4 (t + 1) (by omega) (by omega)
    have n3 : pw (pl ps (pr p) (len p) 0 R0) (t + 1) ≠ 1865 := n2
    have G2 := c_code (X := X) (fu := fu + 2) (e := e) (rc := nI n) (pc := nI m) (ch := ch) (wf := wf) (rd := rd) (mo := mo) (sm := sm) (mk := mk) (R := R) rw_trial hx2 i2
    obtain ⟨A3, k3, G3⟩ := ih (t + 1) A2 (by omega) (keep_t k1 (keep_o 32 33 k2 (by omega))) hx2
    refine ⟨A3, k3, ?_⟩
    refine go_s rfl ?_
    refine go_s rfl ?_
    refine go_s rfl ?_
    repeat (first
      | exact G3
      | exact go_ret rfl rfl rfl rfl
      | exact go_end rfl rfl rfl rfl
      | refine go_add rfl ?_
      | refine go_mul rfl ?_
      | refine go_sub rfl (by omega) ?_
      | refine go_inc rfl rfl rfl rfl rfl ?_
      | refine go_dec rfl rfl rfl (by omega) rfl rfl ?_
      | refine go_div rfl (by omega) ?_
      | refine go_rem rfl (by omega) ?_
      | refine go_cn rfl rfl rfl rfl rfl G ?_
      | refine go_ci rfl rfl rfl rfl rfl G2 ?_
      | refine go_icT rfl (by dsimp only [ncd]; omega) ?_
      | refine go_icF rfl (by dsimp only [ncd]; omega) ?_
      | refine go_ifT rfl (by dsimp only [ncd]; omega) ?_
      | refine go_ifF rfl (by dsimp only [ncd]; omega) ?_
      | refine go_ift rfl (by decide) ?_
      | refine go_s rfl ?_
      )
theorem m_orderOfPeal (hC : CP A n ps m len pr) {p : Nat} (hp : p < m) : ∃ A2, keep A A2 ∧ Go X (fu + 3) mX3_orderOfPeal (0, [(0, .ref 0), (1, .int (nI p))], [], (cc A (nI n) (nI m) ch wf rd mo sm mk ++ R, e)) (.inl (some (.int (fP ps len pr p 3))), (cc A2 (nI n) (nI m) ch wf rd mo sm mk ++ R, e)) := by
  have ro := peal_rows hC hp
  have ip := peal_row (len p) 0 R0 ro R0_row
  obtain ⟨o1, o2, o3, o4⟩ := ord_ok ip
  obtain ⟨A1, k1, hx, G⟩ := c_toRounds (X := X) (fu := fu + 2) (e := e) (A := A) (rc := nI n) (pc := nI m) (ch := ch) (wf := wf) (rd := rd) (mo := mo) (sm := sm) (mk := mk) (R := R) rw_trial
  obtain ⟨A2, k2, G2⟩ := oPeal_loop (X := X) (fu := fu) (e := e) (ch := ch) (wf := wf) (rd := rd) (mo := mo) (sm := sm) (mk := mk) (R := R) hC hp (ord (pl ps (pr p) (len p) 0 R0) - 1) 0 A1 (by omega) (keep_o 32 33 k1 (by omega)) hx
  refine ⟨A2, k2, ?_⟩
  repeat (first
    | exact G2
    | exact go_ret rfl rfl rfl rfl
    | exact go_end rfl rfl rfl rfl
    | refine go_add rfl ?_
    | refine go_mul rfl ?_
    | refine go_sub rfl (by omega) ?_
    | refine go_inc rfl rfl rfl rfl rfl ?_
    | refine go_dec rfl rfl rfl (by omega) rfl rfl ?_
    | refine go_div rfl (by omega) ?_
    | refine go_rem rfl (by omega) ?_
    | refine go_cn rfl rfl rfl rfl rfl G ?_
    | refine go_icT rfl (by dsimp only [ncd]; omega) ?_
    | refine go_icF rfl (by dsimp only [ncd]; omega) ?_
    | refine go_ifT rfl (by dsimp only [ncd]; omega) ?_
    | refine go_ifF rfl (by dsimp only [ncd]; omega) ?_
    | refine go_ift rfl (by decide) ?_
    | refine go_s rfl ?_
    )
end PEALS
