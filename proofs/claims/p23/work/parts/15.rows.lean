/-! ===== rows of a run over small naturals ===== -/
def ncd (c : ClassFile.Cond) (a b : Nat) : Prop := match c with
  | .eq => a = b
  | .ne => a ≠ b
  | .lt => a < b
  | .ge => b ≤ a
  | .gt => b < a
  | .le => a ≤ b
def zcq (c : ClassFile.Cond) (x y : Int32) : Prop := match c with
  | .eq => x = y
  | .ne => x ≠ y
  | .lt => x < y
  | .ge => y ≤ x
  | .gt => y < x
  | .le => x ≤ y
theorem ncd_iff (c : ClassFile.Cond) {a b : Nat} (ha : a < 2147483648) (hb : b < 2147483648) : zcq c (nI a) (nI b) ↔ ncd c a b := by
  cases c
  · exact nI_eq ha hb
  · exact not_congr (nI_eq ha hb)
  · exact nI_ltI ha hb
  · exact nI_leI hb ha
  · exact nI_ltI hb ha
  · exact nI_leI ha hb
theorem zic_t {c : ClassFile.Cond} {a np : Nat} {L : List (Nat × Value)} {S : List Value} {h : zH} {x y : Int32} (hp : zcq c x y) : zic c a np L (.int y :: .int x :: S) h = some (a, L, S, h) := by
  cases c <;> exact if_pos hp
theorem zic_f {c : ClassFile.Cond} {a np : Nat} {L : List (Nat × Value)} {S : List Value} {h : zH} {x y : Int32} (hp : ¬ zcq c x y) : zic c a np L (.int y :: .int x :: S) h = some (np, L, S, h) := by
  cases c <;> exact if_neg hp
theorem zif_t {c : ClassFile.Cond} {a np : Nat} {L : List (Nat × Value)} {S : List Value} {h : zH} {x : Int32} (hp : zcq c x 0) : zif c a np L (.int x :: S) h = some (a, L, S, h) := by
  cases c <;> exact if_pos hp
theorem zif_f {c : ClassFile.Cond} {a np : Nat} {L : List (Nat × Value)} {S : List Value} {h : zH} {x : Int32} (hp : ¬ zcq c x 0) : zif c a np L (.int x :: S) h = some (np, L, S, h) := by
  cases c <;> exact if_neg hp
theorem zs1_of {X : zX} {f : Nat} {d : zMd} {pc pc0 np a b w : Nat} {i : Instr} {L : List (Nat × Value)} {S : List Value} {h : zH} (h1 : zf (zi d) pc = some (pc0, np, i, a, b, w)) (hc : zctl i a = 0) :
    zs1 X f d (pc, L, S, h) = zop X d f pc0 np i a b L S h := by
  unfold zs1
  dsimp only
  rw [h1]
  dsimp only
  rw [hc]
  rfl
theorem nI_inj {a b : Nat} (ha : a < 2147483648) (hb : b < 2147483648) (h : nI a = nI b) : a = b := (nI_eq ha hb).mp h
section GN
variable {X : zX} {f : Nat} {d : zMd} {o : zOut} {pc pc0 np a b w : Nat} {L : List (Nat × Value)} {S : List Value} {h : zH}
theorem go_ict {c : ClassFile.Cond} {off : Int} {x y : Int32} (h1 : zf (zi d) pc = some (pc0, np, .if_icmp c off, a, b, w)) (hp : zcq c x y) (k : Go X f d (a, L, S, h) o) : Go X f d (pc, L, .int y :: .int x :: S, h) o :=
  go_s ((zs1_of h1 rfl).trans (zic_t hp)) k
theorem go_icf {c : ClassFile.Cond} {off : Int} {x y : Int32} (h1 : zf (zi d) pc = some (pc0, np, .if_icmp c off, a, b, w)) (hp : ¬ zcq c x y) (k : Go X f d (np, L, S, h) o) : Go X f d (pc, L, .int y :: .int x :: S, h) o :=
  go_s ((zs1_of h1 rfl).trans (zic_f hp)) k
theorem go_ift {c : ClassFile.Cond} {off : Int} {x : Int32} (h1 : zf (zi d) pc = some (pc0, np, .ifCond c off, a, b, w)) (hp : zcq c x 0) (k : Go X f d (a, L, S, h) o) : Go X f d (pc, L, .int x :: S, h) o :=
  go_s ((zs1_of h1 rfl).trans (zif_t hp)) k
theorem go_iff {c : ClassFile.Cond} {off : Int} {x : Int32} (h1 : zf (zi d) pc = some (pc0, np, .ifCond c off, a, b, w)) (hp : ¬ zcq c x 0) (k : Go X f d (np, L, S, h) o) : Go X f d (pc, L, .int x :: S, h) o :=
  go_s ((zs1_of h1 rfl).trans (zif_f hp)) k
theorem go_icT {c : ClassFile.Cond} {off : Int} {x y : Nat} (h1 : zf (zi d) pc = some (pc0, np, .if_icmp c off, a, b, w)) (hp : x < 2147483648 ∧ y < 2147483648 ∧ ncd c x y) (k : Go X f d (a, L, S, h) o) : Go X f d (pc, L, .int (nI y) :: .int (nI x) :: S, h) o :=
  go_ict h1 ((ncd_iff c hp.1 hp.2.1).mpr hp.2.2) k
theorem go_icF {c : ClassFile.Cond} {off : Int} {x y : Nat} (h1 : zf (zi d) pc = some (pc0, np, .if_icmp c off, a, b, w)) (hp : x < 2147483648 ∧ y < 2147483648 ∧ ¬ ncd c x y) (k : Go X f d (np, L, S, h) o) : Go X f d (pc, L, .int (nI y) :: .int (nI x) :: S, h) o :=
  go_icf h1 (fun q => hp.2.2 ((ncd_iff c hp.1 hp.2.1).mp q)) k
theorem go_ifT {c : ClassFile.Cond} {off : Int} {x : Nat} (h1 : zf (zi d) pc = some (pc0, np, .ifCond c off, a, b, w)) (hp : x < 2147483648 ∧ ncd c x 0) (k : Go X f d (a, L, S, h) o) : Go X f d (pc, L, .int (nI x) :: S, h) o :=
  go_ift h1 ((ncd_iff c (b := 0) hp.1 (by decide)).mpr hp.2) k
theorem go_ifF {c : ClassFile.Cond} {off : Int} {x : Nat} (h1 : zf (zi d) pc = some (pc0, np, .ifCond c off, a, b, w)) (hp : x < 2147483648 ∧ ¬ ncd c x 0) (k : Go X f d (np, L, S, h) o) : Go X f d (pc, L, .int (nI x) :: S, h) o :=
  go_iff h1 (fun q => hp.2 ((ncd_iff c (b := 0) hp.1 (by decide)).mp q)) k
theorem go_add {x y : Nat} (h1 : zf (zi d) pc = some (pc0, np, .iadd, a, b, w)) (k : Go X f d (np, L, .int (nI (x + y)) :: S, h) o) : Go X f d (pc, L, .int (nI y) :: .int (nI x) :: S, h) o :=
  go_s ((zs1_of h1 rfl).trans (congrArg (fun z => some (np, L, Value.int z :: S, h)) (nI_add x y))) k
theorem go_mul {x y : Nat} (h1 : zf (zi d) pc = some (pc0, np, .imul, a, b, w)) (k : Go X f d (np, L, .int (nI (x * y)) :: S, h) o) : Go X f d (pc, L, .int (nI y) :: .int (nI x) :: S, h) o :=
  go_s ((zs1_of h1 rfl).trans (congrArg (fun z => some (np, L, Value.int z :: S, h)) (pk_mul x y))) k
theorem go_sub {x y : Nat} (h1 : zf (zi d) pc = some (pc0, np, .isub, a, b, w)) (hy : y ≤ x) (k : Go X f d (np, L, .int (nI (x - y)) :: S, h) o) : Go X f d (pc, L, .int (nI y) :: .int (nI x) :: S, h) o :=
  go_s ((zs1_of h1 rfl).trans (congrArg (fun z => some (np, L, Value.int z :: S, h)) (pk_sub hy))) k
theorem nI_nz {y : Nat} (h0 : 0 < y) (hy : y < 2147483648) : ¬ nI y = 0 := fun e => by
  have := nI_inj (b := 0) hy (by decide) e
  omega
theorem go_div {x y : Nat} (h1 : zf (zi d) pc = some (pc0, np, .idiv, a, b, w)) (hy : x < 2147483648 ∧ 0 < y ∧ y < 2147483648) (k : Go X f d (np, L, .int (nI (x / y)) :: S, h) o) : Go X f d (pc, L, .int (nI y) :: .int (nI x) :: S, h) o :=
  go_s ((zs1_of h1 rfl).trans ((if_neg (nI_nz hy.2.1 hy.2.2)).trans (congrArg (fun z => some (np, L, Value.int z :: S, h)) (pk_div hy.1 hy.2.1 hy.2.2)))) k
theorem go_rem {x y : Nat} (h1 : zf (zi d) pc = some (pc0, np, .irem, a, b, w)) (hy : x < 2147483648 ∧ 0 < y ∧ y < 2147483648) (k : Go X f d (np, L, .int (nI (x % y)) :: S, h) o) : Go X f d (pc, L, .int (nI y) :: .int (nI x) :: S, h) o :=
  go_s ((zs1_of h1 rfl).trans ((if_neg (nI_nz hy.2.1 hy.2.2)).trans (congrArg (fun z => some (np, L, Value.int z :: S, h)) (pk_rem hy.1 hy.2.1 hy.2.2)))) k
theorem go_inc {k : Nat} {off : Int} {x : Nat} {L2 : List (Nat × Value)} (h1 : zf (zi d) pc = some (pc0, np, .iinc k off, a, b, w)) (hb : b = 0) (hg : zget L k = some (.int (nI x))) (hl : Nat.blt k (zl d) = true) (hL : zfl (zset k (.int (nI (x + a))) L) some = some L2) (K : Go X f d (np, L2, S, h) o) : Go X f d (pc, L, S, h) o := by
  have e : ∀ {α β : Type} (l : List (Nat × Value)) (g : List (Nat × Value) → α) (F : α → β), zfl l (fun q => F (g q)) = F (zfl l g) := by
    intro α β l
    induction l with
    | nil => intro g F; rfl
    | cons q t ih => intro g F; exact ih (fun l => g (q :: l)) F
  have e2 : ∀ {α : Type} (l : List (Nat × Value)) (g : List (Nat × Value) → α), zfl l g = g l := by
    intro α l
    induction l with
    | nil => intro g; rfl
    | cons q t ih => intro g; exact ih (fun l => g (q :: l))
  refine go_s ((zs1_of h1 rfl).trans ?_) K
  subst hb
  rw [e2] at hL
  show (match zget L k with
    | some (.int x) => bif Nat.blt k (zl d) then zint a 0 (fun y => zfl (zset k (.int (x + y)) L) (fun l => some (np, l, S, h))) else none
    | _ => none) = _
  rw [hg]
  dsimp only
  rw [hl]
  show zfl (zset k (.int (nI x + nI a)) L) (fun l => some (np, l, S, h)) = _
  rw [e2, nI_add, Option.some.inj hL]
theorem go_dec {k : Nat} {off : Int} {x : Nat} {L2 : List (Nat × Value)} (h1 : zf (zi d) pc = some (pc0, np, .iinc k off, a, b, w)) (hb : b = 1) (hg : zget L k = some (.int (nI x))) (hx : a ≤ x) (hl : Nat.blt k (zl d) = true) (hL : zfl (zset k (.int (nI (x - a))) L) some = some L2) (K : Go X f d (np, L2, S, h) o) : Go X f d (pc, L, S, h) o := by
  have e2 : ∀ {α : Type} (l : List (Nat × Value)) (g : List (Nat × Value) → α), zfl l g = g l := by
    intro α l
    induction l with
    | nil => intro g; rfl
    | cons q t ih => intro g; exact ih (fun l => g (q :: l))
  refine go_s ((zs1_of h1 rfl).trans ?_) K
  subst hb
  rw [e2] at hL
  show (match zget L k with
    | some (.int x) => bif Nat.blt k (zl d) then zint a 1 (fun y => zfl (zset k (.int (x + y)) L) (fun l => some (np, l, S, h))) else none
    | _ => none) = _
  rw [hg]
  dsimp only
  rw [hl]
  show zfl (zset k (.int (nI x + -nI a)) L) (fun l => some (np, l, S, h)) = _
  rw [e2, ← Int32.sub_eq_add_neg, pk_sub hx, Option.some.inj hL]
/-! arrays and fields of a cell -/
theorem nI_cl {i : Nat} (h : i < 2147483648) : (nI i).toNatClampNeg = i := nI_clamp h
theorem zin_n {i n : Nat} (hi : i < n) (hn : n < 2147483648) : zins (nI i) n := nI_in hi hn
theorem go_ialr {k n i : Nat} {g : Nat → Int32} (h1 : zf (zi d) pc = some (pc0, np, .iaload, a, b, w)) (hk : h.1[k]? = some (.inl (n, .inl g))) (hi : i < n ∧ n < 2147483648) (K : Go X f d (np, L, .int (g i) :: S, h) o) : Go X f d (pc, L, .int (nI i) :: .ref k :: S, h) o := by
  refine go_s ((zs1_of h1 rfl).trans ?_) K
  show zial X np L (.int (nI i) :: .ref k :: S) h = _
  unfold zial
  dsimp only
  rw [hk]
  dsimp only
  rw [if_pos (zin_n hi.1 hi.2), nI_cl (by omega)]
theorem go_ial {k n i v : Nat} {g : Nat → Int32} (h1 : zf (zi d) pc = some (pc0, np, .iaload, a, b, w)) (hk : h.1[k]? = some (.inl (n, .inl g))) (hi : i < n ∧ n < 2147483648) (hv : g i = nI v) (K : Go X f d (np, L, .int (nI v) :: S, h) o) : Go X f d (pc, L, .int (nI i) :: .ref k :: S, h) o :=
  go_ialr h1 hk hi (hv ▸ K)
theorem go_ias {k n i : Nat} {x : Int32} {g : Nat → Int32} (h1 : zf (zi d) pc = some (pc0, np, .iastore, a, b, w)) (hk : h.1[k]? = some (.inl (n, .inl g))) (hi : i < n ∧ n < 2147483648) (K : Go X f d (np, L, S, (h.1.set k (.inl (n, .inl (upd g i x))), h.2)) o) : Go X f d (pc, L, .int x :: .int (nI i) :: .ref k :: S, h) o := by
  refine go_s ((zs1_of h1 rfl).trans ?_) K
  show zias np L (.int x :: .int (nI i) :: .ref k :: S) h = _
  unfold zias
  dsimp only
  rw [hk]
  dsimp only
  rw [if_pos (zin_n hi.1 hi.2), nI_cl (by omega)]
/-- a store, the heap after it named -/
theorem go_iash {k n i : Nat} {x : Int32} {g : Nat → Int32} {H2 : List zC} {H : List zC} {e : Nat} (h1 : zf (zi d) pc = some (pc0, np, .iastore, a, b, w)) (hk : H[k]? = some (.inl (n, .inl g))) (hi : i < n ∧ n < 2147483648) (hH : H.set k (.inl (n, .inl (upd g i x))) = H2) (K : Go X f d (np, L, S, (H2, e)) o) : Go X f d (pc, L, .int x :: .int (nI i) :: .ref k :: S, (H, e)) o := by
  subst hH
  exact go_ias (h := (H, e)) h1 hk hi K
theorem go_aal {k n i q : Nat} {g : Nat → Option Nat} (h1 : zf (zi d) pc = some (pc0, np, .aaload, a, b, w)) (hk : h.1[k]? = some (.inl (n, .inr (.inr (.inr (.inr g)))))) (hi : i < n ∧ n < 2147483648) (hq : g i = some q) (K : Go X f d (np, L, .ref q :: S, h) o) : Go X f d (pc, L, .int (nI i) :: .ref k :: S, h) o := by
  refine go_s ((zs1_of h1 rfl).trans ?_) K
  show zaal np L (.int (nI i) :: .ref k :: S) h = _
  unfold zaal
  dsimp only
  rw [hk]
  dsimp only
  rw [if_pos (zin_n hi.1 hi.2), nI_cl (by omega), hq]
theorem go_gf {idx k ci : Nat} {fs : List Value} {v : Value} (h1 : zf (zi d) pc = some (pc0, np, .getfield idx, a, b, w)) (hk : h.1[k]? = some (.inr (ci, fs))) (hc : Nat.beq ci a = true) (hv : fs[b]? = some v) (K : Go X f d (np, L, v :: S, h) o) : Go X f d (pc, L, .ref k :: S, h) o := by
  refine go_s ((zs1_of h1 rfl).trans ?_) K
  show zgf a b np L (.ref k :: S) h = _
  unfold zgf
  dsimp only
  rw [hk]
  dsimp only
  rw [hc, hv]
  rfl
theorem go_pf {idx k ci : Nat} {fs : List Value} {v : Value} {H H2 : List zC} {e : Nat} (h1 : zf (zi d) pc = some (pc0, np, .putfield idx, a, b, w)) (hk : H[k]? = some (.inr (ci, fs))) (hc : (Nat.beq ci a && (Nat.blt b fs.length && zfit (zty a b) v)) = true) (hH : H.set k (.inr (ci, fs.set b v)) = H2) (K : Go X f d (np, L, S, (H2, e)) o) : Go X f d (pc, L, v :: .ref k :: S, (H, e)) o := by
  subst hH
  refine go_s ((zs1_of h1 rfl).trans ?_) K
  show zpf a b np L (v :: .ref k :: S) (H, e) = _
  unfold zpf
  dsimp only
  rw [hk]
  dsimp only
  rw [hc]
  rfl
theorem go_acp {idx k0 k1 n0 n1 : Nat} {n : Nat} {g0 g1 : Nat → Int32} {H H2 : List zC} {e : Nat} (h1 : zf (zi d) pc = some (pc0, np, .invokestatic idx, 1001, b, w)) (hk0 : H[k0]? = some (.inl (n0, .inl g0))) (hk1 : H[k1]? = some (.inl (n1, .inl g1))) (sp dp : Nat) (hn : sp + n ≤ n0 ∧ dp + n ≤ n1 ∧ n0 < 2147483648 ∧ n1 < 2147483648) (hs : zcat S ≤ 8) (hH : H.set k1 (.inl (n1, .inl (va_cpy g0 g1 sp dp n))) = H2)
    (K : Go X (f + 1) d (np, L, S, (H2, e)) o) : Go X (f + 1) d (pc, L, .int (nI n) :: .int (nI dp) :: .ref k1 :: .int (nI sp) :: .ref k0 :: S, (H, e)) o := by
  subst hH
  refine go_s ((zs1_of h1 rfl).trans ?_) K
  show zacp (f + 1) np L (.int (nI n) :: .int (nI dp) :: .ref k1 :: .int (nI sp) :: .ref k0 :: S) (H, e) = _
  unfold zacp
  dsimp only
  rw [hk0, hk1]
  dsimp only
  rw [nI_cl (i := n) (by omega), nI_cl (i := dp) (by omega), nI_cl (i := sp) (by omega)]
  rw [if_pos ⟨nI_pos (by omega), nI_pos (by omega), nI_pos (by omega), hn.1, hn.2.1, by omega, hs⟩]
/-- a call of an object's method, its receiver known by a cell -/
theorem zcall_v {y : zMd} {k ci : Nat} {fs t rest : List Value} (hz : zk y = 0) (hl : (Nat.ble (za y) S.length && (Nat.ble (zcat (S.drop (za y))) 8 && Nat.ble (zcat (S.take (za y))) (zl y))) = true) (hr : (S.take (za y)).reverse = .ref k :: t) (hd : S.drop (za y) = rest) (hk : h.1[k]? = some (.inr (ci, fs))) (hc : Nat.beq ci (zo y) = true) : zcall y S h = some (.ref k :: t, rest) := by
  unfold zcall
  rw [hl, hz, hr, hd]
  dsimp only
  rw [hk]
  dsimp only
  rw [hc]
  rfl
/-- runs end alike -/
theorem go_eq {st : zS} {o2 : zOut} (k : Go X f d st o) (e : o = o2) : Go X f d st o2 := e ▸ k
end GN
/-- a loop over naturals -/
def lp (F : Nat → Nat → Nat) : Nat → Nat → Nat → Nat
  | 0, _, acc => acc
  | m + 1, k, acc => lp F m (k + 1) (F k acc)
/-- an array that holds these naturals -/
def hold (n : Nat) (f : Nat → Int32) (g : Nat → Nat) : Prop := ∀ k, k < n → f k = nI (g k)
theorem hold_upd {n : Nat} {f : Nat → Int32} {g : Nat → Nat} (h : hold n f g) (i x : Nat) : hold n (upd f i (nI x)) (fun j => if j = i then x else g j) := by
  intro k hk
  by_cases e : k = i
  · subst e
    rw [pk_us]
    show nI x = nI (if k = k then x else g k)
    rw [if_pos rfl]
  · rw [pk_un e]
    show f k = nI (if k = i then x else g k)
    rw [if_neg e]
    exact h k hk
theorem hold_congr {n : Nat} {f : Nat → Int32} {g g2 : Nat → Nat} (h : hold n f g) (e : ∀ k, k < n → g k = g2 k) : hold n f g2 := fun k hk => by rw [h k hk, e k hk]
/-- a row's cells -/
abbrev rw6 (f : Nat → Int32) (c : Nat) : Prop := hold 6 f (dg c)
