/-! ===== rows of bits ===== -/
theorem nI_or (a b : Nat) : nI a ||| nI b = nI (a ||| b) := by
  apply Int32.toBitVec_inj.mp
  apply BitVec.eq_of_toNat_eq
  rw [Int32.toBitVec_or, BitVec.toNat_or]
  show (a % 2 ^ 32) ||| (b % 2 ^ 32) = (a ||| b) % 2 ^ 32
  exact Nat.or_mod_two_pow.symm
theorem nI_shl1 : ∀ a, a < 6 → nI 1 <<< (nI a &&& 31) = nI (2 ^ a) := by
  refine six ?_ ?_ ?_ ?_ ?_ ?_ <;> decide +kernel
theorem nI_shr6 : ∀ s, s < 64 → ∀ a, a < 6 → nI s >>> (nI a &&& 31) = nI (s >>> a) := by decide +kernel
def tb (s a : Nat) : Nat := (s >>> a) % 2
section GB
variable {X : zX} {f : Nat} {d : zMd} {o : zOut} {pc pc0 np a b w : Nat} {L : List (Nat × Value)} {S : List Value} {h : zH}
theorem go_or {x y : Nat} (h1 : zf (zi d) pc = some (pc0, np, .ior, a, b, w)) (k : Go X f d (np, L, .int (nI (x ||| y)) :: S, h) o) : Go X f d (pc, L, .int (nI y) :: .int (nI x) :: S, h) o :=
  go_s ((zs1_of h1 rfl).trans (congrArg (fun z => some (np, L, Value.int z :: S, h)) (nI_or x y))) k
theorem go_shl {y : Nat} (h1 : zf (zi d) pc = some (pc0, np, .ishl, a, b, w)) (hy : y < 6) (k : Go X f d (np, L, .int (nI (2 ^ y)) :: S, h) o) : Go X f d (pc, L, .int (nI y) :: .int (nI 1) :: S, h) o :=
  go_s ((zs1_of h1 rfl).trans (congrArg (fun z => some (np, L, Value.int z :: S, h)) (nI_shl1 y hy))) k
theorem go_shr {x y : Nat} (h1 : zf (zi d) pc = some (pc0, np, .ishr, a, b, w)) (hy : x < 64 ∧ y < 6) (k : Go X f d (np, L, .int (nI (x >>> y)) :: S, h) o) : Go X f d (pc, L, .int (nI y) :: .int (nI x) :: S, h) o :=
  go_s ((zs1_of h1 rfl).trans (congrArg (fun z => some (np, L, Value.int z :: S, h)) (nI_shr6 x hy.1 y hy.2))) k
theorem go_and1 {x : Nat} (h1 : zf (zi d) pc = some (pc0, np, .iand, a, b, w)) (hx : x < 4294967296) (k : Go X f d (np, L, .int (nI (x % 2)) :: S, h) o) : Go X f d (pc, L, .int (nI 1) :: .int (nI x) :: S, h) o :=
  go_s ((zs1_of h1 rfl).trans (congrArg (fun z => some (np, L, Value.int z :: S, h)) (pk_andN hx 1 rfl))) k
/-- a list of values, laid bare -/
def zvl {α : Type} : List Value → (List Value → α) → α
  | [], k => k []
  | a :: t, k => zvl t (fun l => k (a :: l))
theorem zvl_eq {α : Type} (l : List Value) : ∀ (g : List Value → α), zvl l g = g l := by
  induction l with
  | nil => intro g; rfl
  | cons q t ih => intro g; exact ih (fun l => g (q :: l))
theorem go_ci {i : Instr} {y : zMd} {args rest rest2 : List Value} {v : Value} {h2 : zH} (h1 : zf (zi d) pc = some (pc0, np, i, a, b, w)) (hc : zctl i a = 3) (hy : zM[a]? = some y) (hq : zcall y S h = some (args, rest)) (hr : zvl rest some = some rest2)
    (hM : Go X f y (0, lv_args 0 args, [], h) (.inl (some v), h2)) (k : Go X (f + 1) d (np, L, v :: rest2, h2) o) : Go X (f + 1) d (pc, L, S, h) o := by
  rw [zvl_eq] at hr
  cases hr
  exact go_c h1 hc hy hq hM k
theorem go_cn {i : Instr} {y : zMd} {args rest rest2 : List Value} {h2 : zH} (h1 : zf (zi d) pc = some (pc0, np, i, a, b, w)) (hc : zctl i a = 3) (hy : zM[a]? = some y) (hq : zcall y S h = some (args, rest)) (hr : zvl rest some = some rest2)
    (hM : Go X f y (0, lv_args 0 args, [], h) (.inl none, h2)) (k : Go X (f + 1) d (np, L, rest2, h2) o) : Go X (f + 1) d (pc, L, S, h) o := by
  rw [zvl_eq] at hr
  cases hr
  exact go_c h1 hc hy hq hM k
end GB
/-! ===== what the two sides count of a row ===== -/
def odC (g : Nat → Nat) : Nat := lp (fun a acc => lp (fun b acc => acc + if g b < g a then 1 else 0) (5 - a) (a + 1) acc) 6 0 0 % 2
def odM (g : Nat → Nat) : Nat := lp (fun b acc => lp (fun a acc => acc + if g b < g a then 1 else 0) b 0 acc) 6 0 0 % 2
def leC (g : Nat → Nat) : Nat := lp (fun k a => a + if g k = k then 1 else 0) 6 0 0
def gwC (g : Nat → Nat) (k : Nat) : Nat → Nat → Nat
  | 0, x => x
  | n + 1, x => if k < x then gwC g k n (g x) else x
def grC (g : Nat → Nat) : Nat := lp (fun k a => a + if gwC g k 6 (g k) = k then 1 else 0) 6 0 0
def gmw (g : Nat → Nat) : Nat → Nat → Nat → Nat
  | 0, _, s => s
  | n + 1, a, s => if tb s a = 0 then gmw g n (g a) (s ||| 2 ^ a) else s
def gmk (g : Nat → Nat) : Nat → Nat → Nat → Bool
  | 0, a, s => decide (tb s a ≠ 0)
  | n + 1, a, s => if tb s a = 0 then gmk g n (g a) (s ||| 2 ^ a) else true
def grM (g : Nat → Nat) : Nat → Nat → Nat → Nat → Nat
  | 0, _, _, sum => sum
  | m + 1, k, s, sum => if tb s k = 1 then grM g m (k + 1) s sum else grM g m (k + 1) (gmw g 7 k s) (sum + 1)
def grk (g : Nat → Nat) : Nat → Nat → Nat → Bool
  | 0, _, _ => true
  | m + 1, k, s => if tb s k = 1 then grk g m (k + 1) s else gmk g 7 k s && grk g m (k + 1) (gmw g 7 k s)
set_option maxRecDepth 100000 in
theorem od_all : PL.all (fun p => Nat.beq (odC (dg p)) (odM (dg p)) && (Nat.beq (odC (dg p)) (odM (dg (inv p))))) = true := by decide +kernel
theorem od_M {p : Nat} (hp : isRow p) : odC (dg p) = odM (dg p) := Nat.eq_of_beq_eq_true (Bool.and_eq_true_iff.mp (row_all od_all hp)).1
theorem od_inv {p : Nat} (hp : isRow p) : odC (dg p) = odM (dg (inv p)) := Nat.eq_of_beq_eq_true (Bool.and_eq_true_iff.mp (row_all od_all hp)).2
set_option maxRecDepth 100000 in
theorem gr_all : PL.all (fun p => grk (dg p) 6 0 0 && Nat.beq (grC (dg p)) (grM (dg p) 6 0 0 0)) = true := by decide +kernel
theorem gr_k {p : Nat} (hp : isRow p) : grk (dg p) 6 0 0 = true := (Bool.and_eq_true_iff.mp (row_all gr_all hp)).1
theorem gr_M {p : Nat} (hp : isRow p) : grC (dg p) = grM (dg p) 6 0 0 0 := Nat.eq_of_beq_eq_true (Bool.and_eq_true_iff.mp (row_all gr_all hp)).2
def al (F : Nat → Bool) : Nat → Nat → Nat
  | 0, _ => 1
  | m + 1, k => bif F k then al F m (k + 1) else 0
theorem al_le (F : Nat → Bool) : ∀ m k, al F m k ≤ 1 := by
  intro m
  induction m with
  | zero => intro k; exact Nat.le_refl 1
  | succ m ih =>
    intro k
    show (bif F k then al F m (k + 1) else 0) ≤ 1
    cases F k
    · exact Nat.zero_le 1
    · exact ih _
theorem al_iff (F : Nat → Bool) : ∀ m k, al F m k = 1 ↔ ∀ j, k ≤ j → j < k + m → F j = true := by
  intro m
  induction m with
  | zero => intro k; exact ⟨fun _ j h1 h2 => absurd h2 (by omega), fun _ => rfl⟩
  | succ m ih =>
    intro k
    show (bif F k then al F m (k + 1) else 0) = 1 ↔ _
    cases e : F k with
    | false => exact ⟨fun q => by simp at q, fun q => by rw [q k (by omega) (by omega)] at e; cases e⟩
    | true =>
      show al F m (k + 1) = 1 ↔ _
      rw [ih]
      refine ⟨fun q j h1 h2 => ?_, fun q j h1 h2 => q j (by omega) (by omega)⟩
      by_cases e2 : j = k
      · rw [e2]; exact e
      · exact q j (by omega) (by omega)
/-- the first one, or -1 -/
def fs1 (F : Nat → Bool) : Nat → Nat → Int32
  | 0, _ => -nI 1
  | m + 1, k => bif F k then nI k else fs1 F m (k + 1)
theorem fs1_congr {F G : Nat → Bool} : ∀ (m k : Nat), (∀ j, k ≤ j → j < k + m → F j = G j) → fs1 F m k = fs1 G m k := by
  intro m
  induction m with
  | zero => intro k _; rfl
  | succ m ih =>
    intro k hh
    show (bif F k then nI k else fs1 F m (k + 1)) = bif G k then nI k else fs1 G m (k + 1)
    rw [hh k (by omega) (by omega), ih (k + 1) fun j h1 h2 => hh j (by omega) (by omega)]
/-! orders -/
def pw (q : Nat) : Nat → Nat
  | 0 => R0
  | t + 1 => cmp (pw q t) q
def ord1 (q : Nat) : Nat → Nat → Nat
  | 0, t => t
  | n + 1, t => if pw q t = R0 then t else ord1 q n (t + 1)
def ord (q : Nat) : Nat := ord1 q 8 1
set_option maxRecDepth 100000 in
theorem ord_all : PL.all (fun q => Nat.blt 0 (ord q) && (Nat.blt (ord q) 7 && (Nat.beq (pw q (ord q)) R0 && (List.range (ord q)).all (fun t => Nat.beq t 0 || !(Nat.beq (pw q t) R0))))) = true := by decide +kernel
theorem ord_ok {q : Nat} (hq : isRow q) : 0 < ord q ∧ ord q < 7 ∧ pw q (ord q) = R0 ∧ ∀ t, 0 < t → t < ord q → pw q t ≠ R0 := by
  have h1 := row_all ord_all hq
  rw [Bool.and_eq_true_iff, Bool.and_eq_true_iff, Bool.and_eq_true_iff] at h1
  refine ⟨Nat.blt_eq.mp h1.1, Nat.blt_eq.mp h1.2.1, Nat.eq_of_beq_eq_true h1.2.2.1, fun t h2 h3 e => ?_⟩
  have h4 := List.all_eq_true.mp h1.2.2.2 t (List.mem_range.mpr h3)
  rw [e, Nat.beq_refl, nbeq (by omega)] at h4
  cases h4
theorem pw_row {q : Nat} (hq : isRow q) : ∀ t, isRow (pw q t) := by
  intro t
  induction t with
  | zero => exact R0_row
  | succ t ih => exact cmp_row ih hq
/-! groups of rows: inverses -/
theorem cmp_cancel_r {a b p : Nat} (ha : isRow a) (hb : isRow b) (hp : isRow p) (h : cmp a p = cmp b p) : a = b := by
  have h1 : cmp (cmp a p) (inv p) = cmp (cmp b p) (inv p) := by rw [h]
  rw [cmp_assoc, cmp_assoc, (cmp_inv hp).1, cmp_R0 (row_lt ha), cmp_R0 (row_lt hb)] at h1
  exact h1
theorem cmp_cancel_l {a b p : Nat} (ha : isRow a) (hb : isRow b) (hp : isRow p) (h : cmp p a = cmp p b) : a = b := by
  have h1 : cmp (inv p) (cmp p a) = cmp (inv p) (cmp p b) := by rw [h]
  rw [← cmp_assoc, ← cmp_assoc, (cmp_inv hp).2, R0_cmp (row_lt ha), R0_cmp (row_lt hb)] at h1
  exact h1
theorem inv_cmp {a b : Nat} (ha : isRow a) (hb : isRow b) : inv (cmp a b) = cmp (inv b) (inv a) := by
  refine cmp_cancel_l (inv_row (cmp_row ha hb)) (cmp_row (inv_row hb) (inv_row ha)) (cmp_row ha hb) ?_
  rw [(cmp_inv (cmp_row ha hb)).1, cmp_assoc, ← cmp_assoc b, (cmp_inv hb).1, R0_cmp (row_lt (inv_row ha)), (cmp_inv ha).1]
theorem inv_R0 : inv R0 = R0 := by decide +kernel
theorem inv_inv {a : Nat} (ha : isRow a) : inv (inv a) = a := by
  refine cmp_cancel_l (inv_row (inv_row ha)) ha (inv_row ha) ?_
  rw [(cmp_inv (inv_row ha)).1, (cmp_inv ha).2]
theorem inv_inj {a b : Nat} (ha : isRow a) (hb : isRow b) (h : inv a = inv b) : a = b := by
  rw [← inv_inv ha, ← inv_inv hb, h]
theorem rng_row {c p : Nat} (hc : isRow c) (hp : isRow p) : isRow (rng c p) := by
  rw [rng_cmp hp]
  exact cmp_row hc (inv_row hp)
/-- the rule o undoes p: by places, and by ringing both -/
theorem undo_iff {o p : Nat} (ho : isRow o) (hp : isRow p) : al (fun k => Nat.beq (dg o (dg p k)) k) 6 0 = 1 ↔ rng (rng R0 p) o = R0 := by
  rw [al_iff, rng_cmp ho, rng_cmp hp, R0_cmp (row_lt (inv_row hp)), ← inv_cmp ho hp]
  constructor
  · intro h
    have e : cmp o p = R0 := dg_ext (cmp_lt _ _) (row_lt R0_row) fun k hk => by
      rw [dg_cmp hk, R0_dg k hk]
      exact Nat.eq_of_beq_eq_true (h k (by omega) (by omega))
    rw [e, inv_R0]
  · intro h j _ hj
    have e : cmp o p = R0 := inv_inj (cmp_row ho hp) R0_row (by rw [h, inv_R0])
    have e2 : dg _ j = dg _ j := congrArg (fun z => dg z j) e
    rw [dg_cmp (by omega), R0_dg j (by omega)] at e2
    rw [e2, Nat.beq_refl]
theorem swap_iff {a b : Nat} (ha : isRow a) (hb : isRow b) : al (fun k => Nat.beq (dg b (dg a k)) (dg a (dg b k))) 6 0 = 1 ↔ rng (rng R0 a) b = rng (rng R0 b) a := by
  rw [al_iff, rng_cmp ha, rng_cmp hb, rng_cmp ha, rng_cmp hb, R0_cmp (row_lt (inv_row ha)), R0_cmp (row_lt (inv_row hb)), ← inv_cmp ha hb, ← inv_cmp hb ha]
  constructor
  · intro h
    have e : cmp b a = cmp a b := dg_ext (cmp_lt _ _) (cmp_lt _ _) fun k hk => by
      rw [dg_cmp hk, dg_cmp hk]
      exact Nat.eq_of_beq_eq_true (h k (by omega) (by omega))
    rw [e]
  · intro h j _ hj
    have e : cmp b a = cmp a b := inv_inj (cmp_row hb ha) (cmp_row ha hb) h
    have e2 : dg _ j = dg _ j := congrArg (fun z => dg z j) e
    rw [dg_cmp (by omega), dg_cmp (by omega)] at e2
    rw [e2, Nat.beq_refl]
/-! ===== the heap of the law: the class's cells, then the reference's ===== -/
def aset (A : Nat → Nat → Int32) (k : Nat) (f : Nat → Int32) : Nat → Nat → Int32 := fun j => bif Nat.beq j k then f else A j
theorem aset_s {A : Nat → Nat → Int32} {k : Nat} {f : Nat → Int32} : aset A k f k = f := by
  unfold aset
  rw [Nat.beq_refl]
  rfl
theorem aset_n {A : Nat → Nat → Int32} {k j : Nat} {f : Nat → Int32} (h : j ≠ k) : aset A k f j = A j := by
  unfold aset
  rw [nbeq h]
  rfl
def gP : Nat → Option Nat := fun i => if i < 8 then some (2 + i) else none
def gQ : Nat → Option Nat := fun i => if i < 6 then some (11 + i) else none
theorem gP_s {i : Nat} (h : i < 8) : gP i = some (2 + i) := if_pos h
theorem gQ_s {i : Nat} (h : i < 6) : gQ i = some (11 + i) := if_pos h
def cc (A : Nat → Nat → Int32) (rc pc ch wf rd mo sm mk : Int32) : List zC := [
  .inr (3, [.ref 1, .int rc, .ref 10, .ref 17, .int pc, .ref 18, .int ch, .ref 21, .int wf, .ref 31, .ref 34]),
  .inl (8, .inr (.inr (.inr (.inr gP)))), .inl (6, .inl (A 2)), .inl (6, .inl (A 3)), .inl (6, .inl (A 4)), .inl (6, .inl (A 5)), .inl (6, .inl (A 6)), .inl (6, .inl (A 7)), .inl (6, .inl (A 8)), .inl (6, .inl (A 9)),
  .inl (6, .inr (.inr (.inr (.inr gQ)))), .inl (30, .inl (A 11)), .inl (30, .inl (A 12)), .inl (30, .inl (A 13)), .inl (30, .inl (A 14)), .inl (30, .inl (A 15)), .inl (30, .inl (A 16)),
  .inl (6, .inl (A 17)), .inr (0, [.ref 19, .ref 20]), .inl (6, .inl (A 19)), .inl (6, .inl (A 20)),
  .inr (2, [.ref 22, .ref 23, .ref 24, .ref 25, .ref 28, .int rd, .int mo, .int sm]), .inl (720, .inl (A 22)), .inl (720, .inl (A 23)), .inl (720, .inl (A 24)),
  .inr (0, [.ref 26, .ref 27]), .inl (6, .inl (A 26)), .inl (6, .inl (A 27)), .inr (0, [.ref 29, .ref 30]), .inl (6, .inl (A 29)), .inl (6, .inl (A 30)),
  .inr (0, [.ref 32, .ref 33]), .inl (6, .inl (A 32)), .inl (6, .inl (A 33)), .inr (1, [.ref 35, .int mk]), .inl (720, .inl (A 35))]
section CORE
variable {A : Nat → Nat → Int32} {rc pc ch wf rd mo sm mk : Int32} {R : List zC}
theorem cc_p : ∀ i, i < 8 → (cc A rc pc ch wf rd mo sm mk ++ R)[2 + i]? = some (.inl (6, .inl (A (2 + i)))) := by
  intro i hi
  rcases (show i = 0 ∨ i = 1 ∨ i = 2 ∨ i = 3 ∨ i = 4 ∨ i = 5 ∨ i = 6 ∨ i = 7 by omega) with rfl | rfl | rfl | rfl | rfl | rfl | rfl | rfl <;> rfl
theorem cc_q : ∀ i, i < 6 → (cc A rc pc ch wf rd mo sm mk ++ R)[11 + i]? = some (.inl (30, .inl (A (11 + i)))) := by
  intro i hi
  rcases (show i = 0 ∨ i = 1 ∨ i = 2 ∨ i = 3 ∨ i = 4 ∨ i = 5 by omega) with rfl | rfl | rfl | rfl | rfl | rfl <;> rfl
theorem cc_ps : ∀ i, i < 8 → ∀ g, (cc A rc pc ch wf rd mo sm mk ++ R).set (2 + i) (.inl (6, .inl g)) = cc (aset A (2 + i) g) rc pc ch wf rd mo sm mk ++ R := by
  intro i hi g
  rcases (show i = 0 ∨ i = 1 ∨ i = 2 ∨ i = 3 ∨ i = 4 ∨ i = 5 ∨ i = 6 ∨ i = 7 by omega) with rfl | rfl | rfl | rfl | rfl | rfl | rfl | rfl <;> rfl
theorem cc_qs : ∀ i, i < 6 → ∀ g, (cc A rc pc ch wf rd mo sm mk ++ R).set (11 + i) (.inl (30, .inl g)) = cc (aset A (11 + i) g) rc pc ch wf rd mo sm mk ++ R := by
  intro i hi g
  rcases (show i = 0 ∨ i = 1 ∨ i = 2 ∨ i = 3 ∨ i = 4 ∨ i = 5 by omega) with rfl | rfl | rfl | rfl | rfl | rfl <;> rfl
end CORE
/-- the class's arrays hold these rules and peals -/
def CP (A : Nat → Nat → Int32) (n : Nat) (ps : Nat → Nat) (m : Nat) (len : Nat → Nat) (pr : Nat → Nat → Nat) : Prop :=
  n ≤ 8 ∧ m ≤ 6 ∧ (∀ i, i < n → rw6 (A (2 + i)) (ps i) ∧ isRow (ps i)) ∧ hold 6 (A 17) len ∧ (∀ j, j < 6 → len j ≤ 30 ∧ hold (len j) (A (11 + j)) (pr j) ∧ ∀ i, i < len j → pr j i < n)
theorem CP_keep {A A2 : Nat → Nat → Int32} {n : Nat} {ps : Nat → Nat} {m : Nat} {len : Nat → Nat} {pr : Nat → Nat → Nat} (h : CP A n ps m len pr) (k : ∀ j, j < 18 → A2 j = A j) : CP A2 n ps m len pr := by
  obtain ⟨h1, h2, h3, h4, h5⟩ := h
  refine ⟨h1, h2, fun i hi => ?_, ?_, fun j hj => ?_⟩
  · rw [k (2 + i) (by omega)]; exact h3 i hi
  · rw [k 17 (by omega)]; exact h4
  · rw [k (11 + j) (by omega)]; exact h5 j hj
/-- nothing that the rules, the peals, the row and the ways need is changed -/
def keep (A A2 : Nat → Nat → Int32) : Prop := (∀ k, k < 20 → A2 k = A k) ∧ A2 22 = A 22 ∧ A2 23 = A 23
theorem keep_r (A : Nat → Nat → Int32) : keep A A := ⟨fun _ _ => rfl, rfl, rfl⟩
theorem keep_t {A A2 A3 : Nat → Nat → Int32} (h : keep A A2) (h2 : keep A2 A3) : keep A A3 :=
  ⟨fun k hk => (h2.1 k hk).trans (h.1 k hk), h2.2.1.trans h.2.1, h2.2.2.trans h.2.2⟩
theorem keep_o {A A2 : Nat → Nat → Int32} (s b : Nat) (h : ∀ k, k ≠ s → k ≠ b → A2 k = A k) (hs : 20 ≤ s ∧ 20 ≤ b ∧ s ≠ 22 ∧ s ≠ 23 ∧ b ≠ 22 ∧ b ≠ 23) : keep A A2 :=
  ⟨fun k hk => h k (by omega) (by omega), h 22 (by omega) (by omega), h 23 (by omega) (by omega)⟩
theorem CP_k {A A2 : Nat → Nat → Int32} {n : Nat} {ps : Nat → Nat} {m : Nat} {len : Nat → Nat} {pr : Nat → Nat → Nat} (h : CP A n ps m len pr) (k : keep A A2) : CP A2 n ps m len pr := CP_keep h fun j hj => k.1 j (by omega)
/-! the four rows of the heap -/
theorem aset_id (A : Nat → Nat → Int32) (k : Nat) : aset A k (A k) = A := by
  funext j
  by_cases e : j = k
  · subst e; exact aset_s
  · exact aset_n e
theorem aset_sb (A : Nat → Nat → Int32) {s b : Nat} (h : s ≠ b) (f g x : Nat → Int32) : aset (aset (aset A s f) b g) s x = aset (aset A s x) b g := by
  funext j
  by_cases e : j = s
  · subst e; rw [aset_s, aset_n h, aset_s]
  · by_cases e2 : j = b
    · subst e2; rw [aset_n e, aset_s, aset_s]
    · rw [aset_n e, aset_n e2, aset_n e, aset_n e2, aset_n e]
theorem aset_bb (A : Nat → Nat → Int32) (b : Nat) (g x : Nat → Int32) : aset (aset A b g) b x = aset A b x := by
  funext j
  by_cases e2 : j = b
  · subst e2; rw [aset_s, aset_s]
  · rw [aset_n e2, aset_n e2, aset_n e2]
def isRw (r s b : Nat) : Prop := s ≠ b ∧ 19 ≤ s ∧ 19 ≤ b ∧ ∀ (A : Nat → Nat → Int32) (rc pc ch wf rd mo sm mk : Int32) (R : List zC), (cc A rc pc ch wf rd mo sm mk ++ R)[r]? = some (.inr (0, [.ref s, .ref b])) ∧ (cc A rc pc ch wf rd mo sm mk ++ R)[s]? = some (.inl (6, .inl (A s))) ∧ (cc A rc pc ch wf rd mo sm mk ++ R)[b]? = some (.inl (6, .inl (A b))) ∧
  (∀ g, (cc A rc pc ch wf rd mo sm mk ++ R).set s (.inl (6, .inl g)) = cc (aset A s g) rc pc ch wf rd mo sm mk ++ R) ∧ ∀ g, (cc A rc pc ch wf rd mo sm mk ++ R).set b (.inl (6, .inl g)) = cc (aset A b g) rc pc ch wf rd mo sm mk ++ R
theorem rw_row : isRw 18 19 20 := ⟨by decide, by decide, by decide, fun _ _ _ _ _ _ _ _ _ _ => ⟨rfl, rfl, rfl, fun _ => rfl, fun _ => rfl⟩⟩
theorem rw_from : isRw 25 26 27 := ⟨by decide, by decide, by decide, fun _ _ _ _ _ _ _ _ _ _ => ⟨rfl, rfl, rfl, fun _ => rfl, fun _ => rfl⟩⟩
theorem rw_to : isRw 28 29 30 := ⟨by decide, by decide, by decide, fun _ _ _ _ _ _ _ _ _ _ => ⟨rfl, rfl, rfl, fun _ => rfl, fun _ => rfl⟩⟩
theorem rw_trial : isRw 31 32 33 := ⟨by decide, by decide, by decide, fun _ _ _ _ _ _ _ _ _ _ => ⟨rfl, rfl, rfl, fun _ => rfl, fun _ => rfl⟩⟩
section RWS
variable {X : zX} {fu e r s b x : Nat} {A : Nat → Nat → Int32} {rc pc ch wf rd mo sm mk : Int32} {R : List zC}
theorem c_code (w : isRw r s b) (hx : rw6 (A s) x) (ix : isRow x) : Go X fu mX0_code (0, [(0, .ref r)], [], (cc A rc pc ch wf rd mo sm mk ++ R, e)) (.inl (some (.int (nI x))), (cc A rc pc ch wf rd mo sm mk ++ R, e)) := by
  obtain ⟨w1, w2, w3, w4⟩ := w
  obtain ⟨a1, a2, a3, a4, a5⟩ := w4 A rc pc ch wf rd mo sm mk R
  exact m_code a1 a2 hx (row_lt ix)
theorem c_rank (w : isRw r s b) (hx : rw6 (A s) x) : Go X fu mX0_rank (0, [(0, .ref r)], [], (cc A rc pc ch wf rd mo sm mk ++ R, e)) (.inl (some (.int (nI (rk x)))), (cc A rc pc ch wf rd mo sm mk ++ R, e)) := by
  obtain ⟨w1, w2, w3, w4⟩ := w
  obtain ⟨a1, a2, a3, a4, a5⟩ := w4 A rc pc ch wf rd mo sm mk R
  exact m_rank a1 a2 hx
theorem c_placeOf (w : isRw r s b) (hx : rw6 (A s) x) (ix : isRow x) {v : Nat} (hv : v < 6) : Go X fu mX0_placeOf (0, [(0, .ref r), (1, .int (nI v))], [], (cc A rc pc ch wf rd mo sm mk ++ R, e)) (.inl (some (.int (nI (dg (inv x) v)))), (cc A rc pc ch wf rd mo sm mk ++ R, e)) := by
  obtain ⟨w1, w2, w3, w4⟩ := w
  obtain ⟨a1, a2, a3, a4, a5⟩ := w4 A rc pc ch wf rd mo sm mk R
  exact m_placeOf a1 a2 hx ix hv
theorem c_toRounds (w : isRw r s b) : ∃ A2, (∀ k, k ≠ s → k ≠ b → A2 k = A k) ∧ rw6 (A2 s) R0 ∧ Go X fu mX0_toRounds (0, [(0, .ref r)], [], (cc A rc pc ch wf rd mo sm mk ++ R, e)) (.inl none, (cc A2 rc pc ch wf rd mo sm mk ++ R, e)) := by
  obtain ⟨w1, w2, w3, w4⟩ := w
  obtain ⟨f2, h1, h2⟩ := m_toRounds (X := X) (fu := fu) (e := e) (r := r) (s := s) (b := b) (f := A s) (H := fun f => cc (aset A s f) rc pc ch wf rd mo sm mk ++ R) (fun f => (w4 _ _ _ _ _ _ _ _ _ _).1) (fun f => (w4 _ _ _ _ _ _ _ _ _ _).2.1.trans (by rw [aset_s])) (fun f g => ((w4 _ _ _ _ _ _ _ _ _ _).2.2.2.1 g).trans (by rw [aset_bb]))
  rw [aset_id] at h2
  exact ⟨_, fun k hk _ => aset_n hk, by rw [aset_s]; exact h1, h2⟩
theorem c_read (w : isRw r s b) (ix : isRow x) : ∃ A2, (∀ k, k ≠ s → k ≠ b → A2 k = A k) ∧ rw6 (A2 s) x ∧ Go X fu mX0_read (0, [(0, .ref r), (1, .int (nI x))], [], (cc A rc pc ch wf rd mo sm mk ++ R, e)) (.inl none, (cc A2 rc pc ch wf rd mo sm mk ++ R, e)) := by
  obtain ⟨w1, w2, w3, w4⟩ := w
  obtain ⟨f2, h1, h2⟩ := m_read (X := X) (fu := fu) (e := e) (r := r) (s := s) (b := b) (f := A s) (H := fun f => cc (aset A s f) rc pc ch wf rd mo sm mk ++ R) (fun f => (w4 _ _ _ _ _ _ _ _ _ _).1) (fun f => (w4 _ _ _ _ _ _ _ _ _ _).2.1.trans (by rw [aset_s])) (fun f g => ((w4 _ _ _ _ _ _ _ _ _ _).2.2.2.1 g).trans (by rw [aset_bb])) (row_lt ix)
  rw [aset_id] at h2
  exact ⟨_, fun k hk _ => aset_n hk, by rw [aset_s]; exact h1, h2⟩
theorem c_change (w : isRw r s b) (hx : rw6 (A s) x) {i p : Nat} (hi : i < 8) (hp : rw6 (A (2 + i)) p) (ip : isRow p) : ∃ A2, (∀ k, k ≠ s → k ≠ b → A2 k = A k) ∧ rw6 (A2 s) (rng x p) ∧ Go X (fu + 1) mX0_change (0, [(0, .ref r), (1, .ref (2 + i))], [], (cc A rc pc ch wf rd mo sm mk ++ R, e)) (.inl none, (cc A2 rc pc ch wf rd mo sm mk ++ R, e)) := by
  obtain ⟨w1, w2, w3, w4⟩ := w
  obtain ⟨f2, g2, h1, h2⟩ := m_change (X := X) (fu := fu) (e := e) (r := r) (s := s) (b := b) (t := 2 + i) (f := A s) (g := A b) (tt := A (2 + i)) (c := x) (p := p) (H := fun f g => cc (aset (aset A s f) b g) rc pc ch wf rd mo sm mk ++ R) (fun f g => (w4 _ _ _ _ _ _ _ _ _ _).1) (fun f g => (w4 _ _ _ _ _ _ _ _ _ _).2.1.trans (by rw [aset_n w1, aset_s])) (fun f g => (w4 _ _ _ _ _ _ _ _ _ _).2.2.1.trans (by rw [aset_s])) (fun f g => (cc_p i hi).trans (by rw [aset_n (by omega), aset_n (by omega)])) (fun f g z => ((w4 _ _ _ _ _ _ _ _ _ _).2.2.2.1 z).trans (by rw [aset_sb A w1])) (fun f g z => ((w4 _ _ _ _ _ _ _ _ _ _).2.2.2.2 z).trans (by rw [aset_bb])) hx hp ip
  rw [aset_id, aset_id] at h2
  exact ⟨_, fun k hk hk2 => (aset_n hk2).trans (aset_n hk), by rw [aset_n w1, aset_s]; exact h1, h2⟩
theorem c_changeBack (w : isRw r s b) (hx : rw6 (A s) x) {i p : Nat} (hi : i < 8) (hp : rw6 (A (2 + i)) p) : ∃ A2, (∀ k, k ≠ s → k ≠ b → A2 k = A k) ∧ rw6 (A2 s) (cmp x p) ∧ Go X (fu + 1) mX0_changeBack (0, [(0, .ref r), (1, .ref (2 + i))], [], (cc A rc pc ch wf rd mo sm mk ++ R, e)) (.inl none, (cc A2 rc pc ch wf rd mo sm mk ++ R, e)) := by
  obtain ⟨w1, w2, w3, w4⟩ := w
  obtain ⟨f2, g2, h1, h2⟩ := m_changeBack (X := X) (fu := fu) (e := e) (r := r) (s := s) (b := b) (t := 2 + i) (f := A s) (g := A b) (tt := A (2 + i)) (c := x) (p := p) (H := fun f g => cc (aset (aset A s f) b g) rc pc ch wf rd mo sm mk ++ R) (fun f g => (w4 _ _ _ _ _ _ _ _ _ _).1) (fun f g => (w4 _ _ _ _ _ _ _ _ _ _).2.1.trans (by rw [aset_n w1, aset_s])) (fun f g => (w4 _ _ _ _ _ _ _ _ _ _).2.2.1.trans (by rw [aset_s])) (fun f g => (cc_p i hi).trans (by rw [aset_n (by omega), aset_n (by omega)])) (fun f g z => ((w4 _ _ _ _ _ _ _ _ _ _).2.2.2.1 z).trans (by rw [aset_sb A w1])) (fun f g z => ((w4 _ _ _ _ _ _ _ _ _ _).2.2.2.2 z).trans (by rw [aset_bb])) hx hp
  rw [aset_id, aset_id] at h2
  exact ⟨_, fun k hk hk2 => (aset_n hk2).trans (aset_n hk), by rw [aset_n w1, aset_s]; exact h1, h2⟩
end RWS
