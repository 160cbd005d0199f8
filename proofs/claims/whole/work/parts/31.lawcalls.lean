/-! ===== the law's body: rows, and one lemma a call and an outcome ===== -/
theorem zflx_eq {α : Type} (l : List (Nat × Value)) : ∀ (g : List (Nat × Value) → α), zfl l g = g l := by
  induction l with
  | nil => intro g; rfl
  | cons q t ih => intro g; exact ih (fun l => g (q :: l))
theorem zget_cons (q : Nat × Value) (t : List (Nat × Value)) (j : Nat) : zget (q :: t) j = bif Nat.beq q.1 j then some q.2 else zget t j := rfl
theorem zfil_cons (i : Nat) (v : Value) (q : Nat × Value) (t : List (Nat × Value)) : zfil i v (q :: t) = bif zleft i v q then q :: zfil i v t else zfil i v t := rfl
theorem zset_cons (i : Nat) (v : Value) (q : Nat × Value) (t : List (Nat × Value)) : zset i v (q :: t) = bif Nat.beq q.1 i then (i, v) :: zfil i v t else bif zleft i v q then q :: zset i v t else zset i v t := rfl
theorem zget_set (i : Nat) (v : Value) : ∀ T, zget (zset i v T) i = some v := by
  intro T
  induction T with
  | nil =>
    show zget [(i, v)] i = some v
    rw [zget_cons, Nat.beq_refl]
    rfl
  | cons q t ih =>
    rw [zset_cons]
    cases e1 : Nat.beq q.1 i with
    | true =>
      rw [cond_true, zget_cons, Nat.beq_refl]
      rfl
    | false =>
      rw [cond_false]
      cases e2 : zleft i v q with
      | true => rw [cond_true, zget_cons, e1, cond_false]; exact ih
      | false => rw [cond_false]; exact ih
theorem zget_fil {i j : Nat} {v w : Value} (hl : zleft i v (j, w) = true) : ∀ T, zget T j = some w → zget (zfil i v T) j = some w := by
  intro T
  induction T with
  | nil => intro h; exact h
  | cons q t ih =>
    intro h
    rw [zget_cons] at h
    rw [zfil_cons]
    cases e1 : Nat.beq q.1 j with
    | true =>
      rw [e1, cond_true] at h
      obtain ⟨q1, q2⟩ := q
      have a1 : q1 = j := Nat.eq_of_beq_eq_true e1
      have a2 : q2 = w := Option.some.inj h
      subst a1
      subst a2
      rw [hl, cond_true, zget_cons, e1]
      rfl
    | false =>
      rw [e1, cond_false] at h
      cases e2 : zleft i v q with
      | true => rw [cond_true, zget_cons, e1, cond_false]; exact ih h
      | false => rw [cond_false]; exact ih h
theorem zget_sne {i j : Nat} {v w : Value} (hij : j ≠ i) (hl : zleft i v (j, w) = true) : ∀ T, zget T j = some w → zget (zset i v T) j = some w := by
  intro T
  induction T with
  | nil => intro h; cases h
  | cons q t ih =>
    intro h
    rw [zget_cons] at h
    rw [zset_cons]
    cases e1 : Nat.beq q.1 j with
    | true =>
      rw [e1, cond_true] at h
      obtain ⟨q1, q2⟩ := q
      have a1 : q1 = j := Nat.eq_of_beq_eq_true e1
      have a2 : q2 = w := Option.some.inj h
      subst a1
      subst a2
      rw [show Nat.beq (q1, q2).1 i = false from nbeq hij, cond_false, hl, cond_true, zget_cons, e1]
      rfl
    | false =>
      rw [e1, cond_false] at h
      cases e3 : Nat.beq q.1 i with
      | true =>
        have a1 : q.1 = i := Nat.eq_of_beq_eq_true e3
        rw [cond_true, zget_cons, show Nat.beq (i, v).1 j = false from nbeq (fun z => hij z.symm), cond_false]
        exact zget_fil hl t h
      | false =>
        rw [cond_false]
        cases e2 : zleft i v q with
        | true => rw [cond_true, zget_cons, e1, cond_false]; exact ih h
        | false => rw [cond_false]; exact ih h
def bs (i : Nat) (T : List (Nat × Value)) : List (Nat × Value) := (0, .retAddr 0) :: (1, .ref 0) :: (2, .ref 36) :: (3, .ref 42) :: (4, .int (nI i)) :: T
theorem lcmp_r (x : Int64) : lg_cmp x x = nI 0 := (lg_cmp_eq x x).mpr rfl
theorem and31 (x : Int32) : ∃ s, s < 32 ∧ x &&& nI 31 = nI s := by
  refine ⟨x.toBitVec.toNat % 32, Nat.mod_lt _ (by decide), ?_⟩
  apply Int32.toBitVec_inj.mp
  apply BitVec.eq_of_toNat_eq
  rw [Int32.toBitVec_and, BitVec.toNat_and]
  show x.toBitVec.toNat &&& (31 % 2 ^ 32) = (x.toBitVec.toNat % 32) % 2 ^ 32
  rw [show 31 % 2 ^ 32 = 2 ^ 5 - 1 from rfl, Nat.and_two_pow_sub_one_eq_mod]
  omega
section LROWS
variable {X : zX} {f : Nat} {o : zOut} {pc pc0 np a b w i : Nat} {S : List Value} {h : zH} {T : List (Nat × Value)}
theorem go_i5 {x : Int32} (h1 : zf (zi mL_law) pc = some (pc0, np, .istore 5, a, b, w)) (K : Go X f mL_law (np, bs i (zset 5 (.int x) T), S, h) o) : Go X f mL_law (pc, bs i T, .int x :: S, h) o := by
  refine go_s ((zs1_of h1 rfl).trans ?_) K
  show zfl (zset 5 (.int x) (bs i T)) (fun l => some (np, l, S, h)) = _
  rw [zflx_eq]
  rfl
theorem go_i6 {x : Int32} (h1 : zf (zi mL_law) pc = some (pc0, np, .istore 6, a, b, w)) (K : Go X f mL_law (np, bs i (zset 6 (.int x) T), S, h) o) : Go X f mL_law (pc, bs i T, .int x :: S, h) o := by
  refine go_s ((zs1_of h1 rfl).trans ?_) K
  show zfl (zset 6 (.int x) (bs i T)) (fun l => some (np, l, S, h)) = _
  rw [zflx_eq]
  rfl
theorem go_d5 {x : UInt64} (h1 : zf (zi mL_law) pc = some (pc0, np, .dstore 5, a, b, w)) (K : Go X f mL_law (np, bs i (zset 5 (.double x) T), S, h) o) : Go X f mL_law (pc, bs i T, .double x :: S, h) o := by
  refine go_s ((zs1_of h1 rfl).trans ?_) K
  show zfl (zset 5 (.double x) (bs i T)) (fun l => some (np, l, S, h)) = _
  rw [zflx_eq]
  rfl
theorem go_d7 {x : UInt64} (h1 : zf (zi mL_law) pc = some (pc0, np, .dstore 7, a, b, w)) (K : Go X f mL_law (np, bs i (zset 7 (.double x) T), S, h) o) : Go X f mL_law (pc, bs i T, .double x :: S, h) o := by
  refine go_s ((zs1_of h1 rfl).trans ?_) K
  show zfl (zset 7 (.double x) (bs i T)) (fun l => some (np, l, S, h)) = _
  rw [zflx_eq]
  rfl
theorem go_l5 {u : Int32} (h1 : zf (zi mL_law) pc = some (pc0, np, .iload 5, a, b, w)) (h5 : zget T 5 = some (.int u)) (K : Go X f mL_law (np, bs i T, .int u :: S, h) o) : Go X f mL_law (pc, bs i T, S, h) o := by
  refine go_s ((zs1_of h1 rfl).trans ?_) K
  show (match zget T 5 with
    | some (.int x) => some (np, bs i T, Value.int x :: S, h)
    | _ => none) = _
  rw [h5]
theorem go_l6 {u : Int32} (h1 : zf (zi mL_law) pc = some (pc0, np, .iload 6, a, b, w)) (h5 : zget T 6 = some (.int u)) (K : Go X f mL_law (np, bs i T, .int u :: S, h) o) : Go X f mL_law (pc, bs i T, S, h) o := by
  refine go_s ((zs1_of h1 rfl).trans ?_) K
  show (match zget T 6 with
    | some (.int x) => some (np, bs i T, Value.int x :: S, h)
    | _ => none) = _
  rw [h5]
theorem go_ld5 {u : UInt64} (h1 : zf (zi mL_law) pc = some (pc0, np, .dload 5, a, b, w)) (h5 : zget T 5 = some (.double u)) (K : Go X f mL_law (np, bs i T, .double u :: S, h) o) : Go X f mL_law (pc, bs i T, S, h) o := by
  refine go_s ((zs1_of h1 rfl).trans ?_) K
  show (match zget T 5 with
    | some (.double x) => some (np, bs i T, Value.double x :: S, h)
    | _ => none) = _
  rw [h5]
theorem go_ld7 {u : UInt64} (h1 : zf (zi mL_law) pc = some (pc0, np, .dload 7, a, b, w)) (h5 : zget T 7 = some (.double u)) (K : Go X f mL_law (np, bs i T, .double u :: S, h) o) : Go X f mL_law (pc, bs i T, S, h) o := by
  refine go_s ((zs1_of h1 rfl).trans ?_) K
  show (match zget T 7 with
    | some (.double x) => some (np, bs i T, Value.double x :: S, h)
    | _ => none) = _
  rw [h5]
theorem go_inc4 (h1 : zf (zi mL_law) pc = some (pc0, np, .iinc 4 7, 7, 0, w)) (K : Go X f mL_law (np, bs (i + 7) (zfil 4 (.int (nI (i + 7))) T), S, h) o) : Go X f mL_law (pc, bs i T, S, h) o := by
  refine go_s ((zs1_of h1 rfl).trans ?_) K
  show zfl (zset 4 (.int (nI i + nI 7)) (bs i T)) (fun l => some (np, l, S, h)) = _
  rw [zflx_eq, nI_add]
  rfl
section ANY
variable {d : zMd} {L : List (Nat × Value)}
theorem go_isc {j : Nat} {y : Int32} (h1 : zf (zi d) pc = some (pc0, np, .iaload, a, b, w)) (hj : j < X.1 ∧ X.1 < 2147483648) (hv : X.2 j = y) (K : Go X f d (np, L, .int y :: S, h) o) : Go X f d (pc, L, .int (nI j) :: .retAddr 0 :: S, h) o := by
  subst hv
  refine go_s ((zs1_of h1 rfl).trans ?_) K
  show (if zins (nI j) X.1 then some (np, L, Value.int (X.2 (nI j).toNatClampNeg) :: S, h) else none) = _
  rw [if_pos (zin_n hj.1 hj.2), nI_cl (by omega)]
theorem go_las {H H2 : List zC} {e : Nat} {x : Int64} {g : Nat → Int64} (h1 : zf (zi d) pc = some (pc0, np, .lastore, a, b, w)) (hk : H[42]? = some (.inl (1, .inr (.inl g)))) (hH : H.set 42 (.inl (1, .inr (.inl (vp_updL g 0 x)))) = H2) (K : Go X f d (np, L, S, (H2, e)) o) : Go X f d (pc, L, .long x :: .int (nI 0) :: .ref 42 :: S, (H, e)) o := by
  subst hH
  refine go_s ((zs1_of h1 rfl).trans ?_) K
  show zlas np L (.long x :: .int (nI 0) :: .ref 42 :: S) (H, e) = _
  unfold zlas
  dsimp only
  rw [hk]
  dsimp only
  rw [if_pos (zin_n (by omega) (by omega)), nI_cl (by omega)]
theorem go_lal {H : List zC} {e : Nat} {x : Int64} {g : Nat → Int64} (h1 : zf (zi d) pc = some (pc0, np, .laload, a, b, w)) (hk : H[42]? = some (.inl (1, .inr (.inl g)))) (hv : g 0 = x) (K : Go X f d (np, L, .long x :: S, (H, e)) o) : Go X f d (pc, L, .int (nI 0) :: .ref 42 :: S, (H, e)) o := by
  subst hv
  refine go_s ((zs1_of h1 rfl).trans ?_) K
  show zlal np L (.int (nI 0) :: .ref 42 :: S) (H, e) = _
  unfold zlal
  dsimp only
  rw [hk]
  dsimp only
  rw [if_pos (zin_n (by omega) (by omega)), nI_cl (by omega)]
theorem go_lcmp {x : Int64} (h1 : zf (zi d) pc = some (pc0, np, .lcmp, a, b, w)) (K : Go X f d (np, L, .int (nI 0) :: S, h) o) : Go X f d (pc, L, .long x :: .long x :: S, h) o :=
  go_s ((zs1_of h1 rfl).trans (congrArg (fun z => some (np, L, Value.int z :: S, h)) (lcmp_r x))) K
theorem go_tsw {s t : Nat} {df lo hi off : Int} {offs : Array Int} (h1 : zf (zi d) pc = some (pc0, np, .tableswitch df lo hi offs, a, b, w)) (h2 : ¬ ((nI s).toInt < lo ∨ hi < (nI s).toInt)) (h3 : offs[((nI s).toInt - lo).toNat]? = some off) (h4 : (pc0 : Int) + off = (t : Int)) (K : Go X f d (t, L, S, h) o) : Go X f d (pc, L, .int (nI s) :: S, h) o := by
  refine go_s ((zs1_of h1 rfl).trans ?_) K
  show (if (nI s).toInt < lo ∨ hi < (nI s).toInt then zjmp ((pc0 : Int) + df) L S h else (match offs[((nI s).toInt - lo).toNat]? with
      | some off => zjmp ((pc0 : Int) + off) L S h
      | none => none)) = _
  rw [if_neg h2, h3]
  dsimp only
  rw [h4]
  show (if 0 ≤ (t : Int) then some ((t : Int).toNat, L, S, h) else none) = _
  rw [if_pos (by omega)]
  rfl
theorem go_tsd {s t : Nat} {df lo hi : Int} {offs : Array Int} (h1 : zf (zi d) pc = some (pc0, np, .tableswitch df lo hi offs, a, b, w)) (h2 : hi < (nI s).toInt) (h4 : (pc0 : Int) + df = (t : Int)) (K : Go X f d (t, L, S, h) o) : Go X f d (pc, L, .int (nI s) :: S, h) o := by
  refine go_s ((zs1_of h1 rfl).trans ?_) K
  show (if (nI s).toInt < lo ∨ hi < (nI s).toInt then zjmp ((pc0 : Int) + df) L S h else (match offs[((nI s).toInt - lo).toNat]? with
      | some off => zjmp ((pc0 : Int) + off) L S h
      | none => none)) = _
  rw [if_pos (.inr h2), h4]
  show (if 0 ≤ (t : Int) then some ((t : Int).toNat, L, S, h) else none) = _
  rw [if_pos (by omega)]
  rfl
end ANY
end LROWS
section LAW
variable {X : zX} {e i : Nat} {A A2 B B2 : Nat → Nat → Int32} {c1 c2 c3 c4 c5 c6 c7 c8 d1 d2 d3 d4 d5 d6 d7 d8 t1 t2 t3 t4 t5 t6 u2 u3 u4 u5 u6 v : Int32} {f : Nat → Int64} {tl tl2 : List zC} {T : List (Nat × Value)} {o : zOut} {x1 x2 x3 x4 x5 x6 : Int32}
theorem n_thrown {th ru pe co ch sp : Int32} {fu : Nat} {R : List zC} {A : Nat → Nat → Int32} {c1 c2 c3 c4 c5 c6 c7 c8 : Int32} : Go X fu mX4_thrown (0, [(0, .ref 36)], [], (cc A c1 c2 c3 c4 c5 c6 c7 c8 ++ (mm B th ru pe co ch sp ++ R), e)) (.inl (some (.int th)), (cc A c1 c2 c3 c4 c5 c6 c7 c8 ++ (mm B th ru pe co ch sp ++ R), e)) := by
  repeat (first
    | exact go_ret rfl rfl rfl rfl
    | refine go_s rfl ?_)
set_option maxRecDepth 20000 in
theorem lw_rule_v (hi : i + 7 ≤ X.1 ∧ X.1 ≤ 3584) (a1 : X.2 (i + 1) = x1) (a2 : X.2 (i + 2) = x2) (a3 : X.2 (i + 3) = x3) (a4 : X.2 (i + 4) = x4) (a5 : X.2 (i + 5) = x5) (a6 : X.2 (i + 6) = x6) (G1 : Go X 9 mX3_rule (0, [(0, .ref 0), (1, .int x1), (2, .int x2), (3, .int x3), (4, .int x4), (5, .int x5), (6, .int x6)], [], (cc A c1 c2 c3 c4 c5 c6 c7 c8 ++ (mm B t1 t2 t3 t4 t5 t6 ++ (.inl (1, .inr (.inl f)) :: tl)), e)) (.inl (some (.int v)), (cc A2 d1 d2 d3 d4 d5 d6 d7 d8 ++ (mm B t1 t2 t3 t4 t5 t6 ++ (.inl (1, .inr (.inl f)) :: tl)), e))) (G3 : Go X 10 mX4_rule (0, [(0, .ref 36), (1, .int x1), (2, .int x2), (3, .int x3), (4, .int x4), (5, .int x5), (6, .int x6)], [], (cc A2 d1 d2 d3 d4 d5 d6 d7 d8 ++ (mm B t1 t2 t3 t4 t5 t6 ++ (.inl (1, .inr (.inl (vp_updL f 0 v.toInt64))) :: tl)), e)) (.inl (some (.int v)), (cc A2 d1 d2 d3 d4 d5 d6 d7 d8 ++ (mm B2 (nI 0) u2 u3 u4 u5 u6 ++ (.inl (1, .inr (.inl (vp_updL f 0 v.toInt64))) :: tl2)), e))) (K : Go X 11 mL_law (1230, bs i (zset 6 (.int v) (zset 5 (.int (nI 0)) T)), [], (cc A2 d1 d2 d3 d4 d5 d6 d7 d8 ++ (mm B2 (nI 0) u2 u3 u4 u5 u6 ++ (.inl (1, .inr (.inl (vp_updL f 0 v.toInt64))) :: tl2)), e)) o) : Go X 11 mL_law (136, bs i T, [], (cc A c1 c2 c3 c4 c5 c6 c7 c8 ++ (mm B t1 t2 t3 t4 t5 t6 ++ (.inl (1, .inr (.inl f)) :: tl)), e)) o := by
  have W : Go X 10 mL_rule (0, [(0, .ref 0), (1, .int x1), (2, .int x2), (3, .int x3), (4, .int x4), (5, .int x5), (6, .int x6), (7, .ref 42)], [], (cc A c1 c2 c3 c4 c5 c6 c7 c8 ++ (mm B t1 t2 t3 t4 t5 t6 ++ (.inl (1, .inr (.inl f)) :: tl)), e)) (.inl (some (.int (nI 0))), (cc A2 d1 d2 d3 d4 d5 d6 d7 d8 ++ (mm B t1 t2 t3 t4 t5 t6 ++ (.inl (1, .inr (.inl (vp_updL f 0 v.toInt64))) :: tl)), e)) := by
    repeat (first
      | exact go_ret rfl rfl rfl rfl
      | refine go_ci rfl rfl rfl rfl rfl G1 ?_
      | refine go_las (H2 := cc A2 d1 d2 d3 d4 d5 d6 d7 d8 ++ (mm B t1 t2 t3 t4 t5 t6 ++ (.inl (1, .inr (.inl (vp_updL f 0 v.toInt64))) :: tl))) rfl rfl rfl ?_
      | refine go_ifT rfl (by dsimp only [ncd]; omega) ?_
      | refine go_ifF rfl (by dsimp only [ncd]; omega) ?_
      | refine go_s rfl ?_)
  refine go_s rfl ?_
  refine go_s rfl ?_
  refine go_s rfl ?_
  refine go_s rfl ?_
  refine go_add rfl ?_
  refine go_isc rfl (by omega) a1 ?_
  refine go_s rfl ?_
  refine go_s rfl ?_
  refine go_s rfl ?_
  refine go_add rfl ?_
  refine go_isc rfl (by omega) a2 ?_
  refine go_s rfl ?_
  refine go_s rfl ?_
  refine go_s rfl ?_
  refine go_add rfl ?_
  refine go_isc rfl (by omega) a3 ?_
  refine go_s rfl ?_
  refine go_s rfl ?_
  refine go_s rfl ?_
  refine go_add rfl ?_
  refine go_isc rfl (by omega) a4 ?_
  refine go_s rfl ?_
  refine go_s rfl ?_
  refine go_s rfl ?_
  refine go_add rfl ?_
  refine go_isc rfl (by omega) a5 ?_
  refine go_s rfl ?_
  refine go_s rfl ?_
  refine go_s rfl ?_
  refine go_add rfl ?_
  refine go_isc rfl (by omega) a6 ?_
  refine go_s rfl ?_
  refine go_ci rfl rfl rfl rfl rfl W ?_
  refine go_i5 rfl ?_
  refine go_s rfl ?_
  refine go_s rfl ?_
  refine go_s rfl ?_
  refine go_s rfl ?_
  refine go_add rfl ?_
  refine go_isc rfl (by omega) a1 ?_
  refine go_s rfl ?_
  refine go_s rfl ?_
  refine go_s rfl ?_
  refine go_add rfl ?_
  refine go_isc rfl (by omega) a2 ?_
  refine go_s rfl ?_
  refine go_s rfl ?_
  refine go_s rfl ?_
  refine go_add rfl ?_
  refine go_isc rfl (by omega) a3 ?_
  refine go_s rfl ?_
  refine go_s rfl ?_
  refine go_s rfl ?_
  refine go_add rfl ?_
  refine go_isc rfl (by omega) a4 ?_
  refine go_s rfl ?_
  refine go_s rfl ?_
  refine go_s rfl ?_
  refine go_add rfl ?_
  refine go_isc rfl (by omega) a5 ?_
  refine go_s rfl ?_
  refine go_s rfl ?_
  refine go_s rfl ?_
  refine go_add rfl ?_
  refine go_isc rfl (by omega) a6 ?_
  refine go_ci rfl rfl rfl rfl rfl G3 ?_
  refine go_i6 rfl ?_
  refine go_s rfl ?_
  refine go_ci rfl rfl rfl rfl rfl n_thrown ?_
  refine go_l5 rfl (zget_sne (by decide) rfl _ (zget_set _ _ _)) ?_
  refine go_icT rfl (by dsimp only [ncd]; omega) ?_
  refine go_l5 rfl (zget_sne (by decide) rfl _ (zget_set _ _ _)) ?_
  refine go_ifF rfl (by dsimp only [ncd]; omega) ?_
  refine go_s rfl ?_
  refine go_s rfl ?_
  refine go_lal rfl rfl rfl ?_
  refine go_l6 rfl (zget_set _ _ _) ?_
  refine go_s rfl ?_
  refine go_lcmp rfl ?_
  refine go_ifT rfl (by dsimp only [ncd]; omega) ?_
  refine go_s rfl ?_
  exact K
set_option maxRecDepth 20000 in
theorem lw_rule_x1 (hi : i + 7 ≤ X.1 ∧ X.1 ≤ 3584) (a1 : X.2 (i + 1) = x1) (a2 : X.2 (i + 2) = x2) (a3 : X.2 (i + 3) = x3) (a4 : X.2 (i + 4) = x4) (a5 : X.2 (i + 5) = x5) (a6 : X.2 (i + 6) = x6) (G1 : Go X 9 mX3_rule (0, [(0, .ref 0), (1, .int x1), (2, .int x2), (3, .int x3), (4, .int x4), (5, .int x5), (6, .int x6)], [], (cc A c1 c2 c3 c4 c5 c6 c7 c8 ++ (mm B t1 t2 t3 t4 t5 t6 ++ (.inl (1, .inr (.inl f)) :: tl)), e)) (.inr 5, (cc A c1 c2 c3 c4 c5 c6 c7 c8 ++ (mm B t1 t2 t3 t4 t5 t6 ++ (.inl (1, .inr (.inl f)) :: tl)), e + 1))) (G3 : Go X 10 mX4_rule (0, [(0, .ref 36), (1, .int x1), (2, .int x2), (3, .int x3), (4, .int x4), (5, .int x5), (6, .int x6)], [], (cc A c1 c2 c3 c4 c5 c6 c7 c8 ++ (mm B t1 t2 t3 t4 t5 t6 ++ (.inl (1, .inr (.inl f)) :: tl)), e + 1)) (.inl (some (.int (nI 0))), (cc A c1 c2 c3 c4 c5 c6 c7 c8 ++ (mm B2 (nI 1) u2 u3 u4 u5 u6 ++ (.inl (1, .inr (.inl f)) :: tl2)), e + 1))) (K : Go X 11 mL_law (1230, bs i (zset 6 (.int (nI 0)) (zset 5 (.int (nI 1)) T)), [], (cc A c1 c2 c3 c4 c5 c6 c7 c8 ++ (mm B2 (nI 1) u2 u3 u4 u5 u6 ++ (.inl (1, .inr (.inl f)) :: tl2)), e + 1)) o) : Go X 11 mL_law (136, bs i T, [], (cc A c1 c2 c3 c4 c5 c6 c7 c8 ++ (mm B t1 t2 t3 t4 t5 t6 ++ (.inl (1, .inr (.inl f)) :: tl)), e)) o := by
  have W : Go X 10 mL_rule (0, [(0, .ref 0), (1, .int x1), (2, .int x2), (3, .int x3), (4, .int x4), (5, .int x5), (6, .int x6), (7, .ref 42)], [], (cc A c1 c2 c3 c4 c5 c6 c7 c8 ++ (mm B t1 t2 t3 t4 t5 t6 ++ (.inl (1, .inr (.inl f)) :: tl)), e)) (.inl (some (.int (nI 1))), (cc A c1 c2 c3 c4 c5 c6 c7 c8 ++ (mm B t1 t2 t3 t4 t5 t6 ++ (.inl (1, .inr (.inl f)) :: tl)), e + 1)) := by
    repeat (first
      | exact go_ret rfl rfl rfl rfl
      | refine go_h rfl rfl rfl rfl G1 rfl rfl ?_
      | refine go_s rfl ?_)
  refine go_s rfl ?_
  refine go_s rfl ?_
  refine go_s rfl ?_
  refine go_s rfl ?_
  refine go_add rfl ?_
  refine go_isc rfl (by omega) a1 ?_
  refine go_s rfl ?_
  refine go_s rfl ?_
  refine go_s rfl ?_
  refine go_add rfl ?_
  refine go_isc rfl (by omega) a2 ?_
  refine go_s rfl ?_
  refine go_s rfl ?_
  refine go_s rfl ?_
  refine go_add rfl ?_
  refine go_isc rfl (by omega) a3 ?_
  refine go_s rfl ?_
  refine go_s rfl ?_
  refine go_s rfl ?_
  refine go_add rfl ?_
  refine go_isc rfl (by omega) a4 ?_
  refine go_s rfl ?_
  refine go_s rfl ?_
  refine go_s rfl ?_
  refine go_add rfl ?_
  refine go_isc rfl (by omega) a5 ?_
  refine go_s rfl ?_
  refine go_s rfl ?_
  refine go_s rfl ?_
  refine go_add rfl ?_
  refine go_isc rfl (by omega) a6 ?_
  refine go_s rfl ?_
  refine go_ci rfl rfl rfl rfl rfl W ?_
  refine go_i5 rfl ?_
  refine go_s rfl ?_
  refine go_s rfl ?_
  refine go_s rfl ?_
  refine go_s rfl ?_
  refine go_add rfl ?_
  refine go_isc rfl (by omega) a1 ?_
  refine go_s rfl ?_
  refine go_s rfl ?_
  refine go_s rfl ?_
  refine go_add rfl ?_
  refine go_isc rfl (by omega) a2 ?_
  refine go_s rfl ?_
  refine go_s rfl ?_
  refine go_s rfl ?_
  refine go_add rfl ?_
  refine go_isc rfl (by omega) a3 ?_
  refine go_s rfl ?_
  refine go_s rfl ?_
  refine go_s rfl ?_
  refine go_add rfl ?_
  refine go_isc rfl (by omega) a4 ?_
  refine go_s rfl ?_
  refine go_s rfl ?_
  refine go_s rfl ?_
  refine go_add rfl ?_
  refine go_isc rfl (by omega) a5 ?_
  refine go_s rfl ?_
  refine go_s rfl ?_
  refine go_s rfl ?_
  refine go_add rfl ?_
  refine go_isc rfl (by omega) a6 ?_
  refine go_ci rfl rfl rfl rfl rfl G3 ?_
  refine go_i6 rfl ?_
  refine go_s rfl ?_
  refine go_ci rfl rfl rfl rfl rfl n_thrown ?_
  refine go_l5 rfl (zget_sne (by decide) rfl _ (zget_set _ _ _)) ?_
  refine go_icT rfl (by dsimp only [ncd]; omega) ?_
  refine go_l5 rfl (zget_sne (by decide) rfl _ (zget_set _ _ _)) ?_
  refine go_ifT rfl (by dsimp only [ncd]; omega) ?_
  refine go_s rfl ?_
  exact K
set_option maxRecDepth 20000 in
theorem lw_rule_x2 (hi : i + 7 ≤ X.1 ∧ X.1 ≤ 3584) (a1 : X.2 (i + 1) = x1) (a2 : X.2 (i + 2) = x2) (a3 : X.2 (i + 3) = x3) (a4 : X.2 (i + 4) = x4) (a5 : X.2 (i + 5) = x5) (a6 : X.2 (i + 6) = x6) (G1 : Go X 9 mX3_rule (0, [(0, .ref 0), (1, .int x1), (2, .int x2), (3, .int x3), (4, .int x4), (5, .int x5), (6, .int x6)], [], (cc A c1 c2 c3 c4 c5 c6 c7 c8 ++ (mm B t1 t2 t3 t4 t5 t6 ++ (.inl (1, .inr (.inl f)) :: tl)), e)) (.inr 6, (cc A c1 c2 c3 c4 c5 c6 c7 c8 ++ (mm B t1 t2 t3 t4 t5 t6 ++ (.inl (1, .inr (.inl f)) :: tl)), e + 1))) (G3 : Go X 10 mX4_rule (0, [(0, .ref 36), (1, .int x1), (2, .int x2), (3, .int x3), (4, .int x4), (5, .int x5), (6, .int x6)], [], (cc A c1 c2 c3 c4 c5 c6 c7 c8 ++ (mm B t1 t2 t3 t4 t5 t6 ++ (.inl (1, .inr (.inl f)) :: tl)), e + 1)) (.inl (some (.int (nI 0))), (cc A c1 c2 c3 c4 c5 c6 c7 c8 ++ (mm B2 (nI 2) u2 u3 u4 u5 u6 ++ (.inl (1, .inr (.inl f)) :: tl2)), e + 1))) (K : Go X 11 mL_law (1230, bs i (zset 6 (.int (nI 0)) (zset 5 (.int (nI 2)) T)), [], (cc A c1 c2 c3 c4 c5 c6 c7 c8 ++ (mm B2 (nI 2) u2 u3 u4 u5 u6 ++ (.inl (1, .inr (.inl f)) :: tl2)), e + 1)) o) : Go X 11 mL_law (136, bs i T, [], (cc A c1 c2 c3 c4 c5 c6 c7 c8 ++ (mm B t1 t2 t3 t4 t5 t6 ++ (.inl (1, .inr (.inl f)) :: tl)), e)) o := by
  have W : Go X 10 mL_rule (0, [(0, .ref 0), (1, .int x1), (2, .int x2), (3, .int x3), (4, .int x4), (5, .int x5), (6, .int x6), (7, .ref 42)], [], (cc A c1 c2 c3 c4 c5 c6 c7 c8 ++ (mm B t1 t2 t3 t4 t5 t6 ++ (.inl (1, .inr (.inl f)) :: tl)), e)) (.inl (some (.int (nI 2))), (cc A c1 c2 c3 c4 c5 c6 c7 c8 ++ (mm B t1 t2 t3 t4 t5 t6 ++ (.inl (1, .inr (.inl f)) :: tl)), e + 1)) := by
    repeat (first
      | exact go_ret rfl rfl rfl rfl
      | refine go_h rfl rfl rfl rfl G1 rfl rfl ?_
      | refine go_s rfl ?_)
  refine go_s rfl ?_
  refine go_s rfl ?_
  refine go_s rfl ?_
  refine go_s rfl ?_
  refine go_add rfl ?_
  refine go_isc rfl (by omega) a1 ?_
  refine go_s rfl ?_
  refine go_s rfl ?_
  refine go_s rfl ?_
  refine go_add rfl ?_
  refine go_isc rfl (by omega) a2 ?_
  refine go_s rfl ?_
  refine go_s rfl ?_
  refine go_s rfl ?_
  refine go_add rfl ?_
  refine go_isc rfl (by omega) a3 ?_
  refine go_s rfl ?_
  refine go_s rfl ?_
  refine go_s rfl ?_
  refine go_add rfl ?_
  refine go_isc rfl (by omega) a4 ?_
  refine go_s rfl ?_
  refine go_s rfl ?_
  refine go_s rfl ?_
  refine go_add rfl ?_
  refine go_isc rfl (by omega) a5 ?_
  refine go_s rfl ?_
  refine go_s rfl ?_
  refine go_s rfl ?_
  refine go_add rfl ?_
  refine go_isc rfl (by omega) a6 ?_
  refine go_s rfl ?_
  refine go_ci rfl rfl rfl rfl rfl W ?_
  refine go_i5 rfl ?_
  refine go_s rfl ?_
  refine go_s rfl ?_
  refine go_s rfl ?_
  refine go_s rfl ?_
  refine go_add rfl ?_
  refine go_isc rfl (by omega) a1 ?_
  refine go_s rfl ?_
  refine go_s rfl ?_
  refine go_s rfl ?_
  refine go_add rfl ?_
  refine go_isc rfl (by omega) a2 ?_
  refine go_s rfl ?_
  refine go_s rfl ?_
  refine go_s rfl ?_
  refine go_add rfl ?_
  refine go_isc rfl (by omega) a3 ?_
  refine go_s rfl ?_
  refine go_s rfl ?_
  refine go_s rfl ?_
  refine go_add rfl ?_
  refine go_isc rfl (by omega) a4 ?_
  refine go_s rfl ?_
  refine go_s rfl ?_
  refine go_s rfl ?_
  refine go_add rfl ?_
  refine go_isc rfl (by omega) a5 ?_
  refine go_s rfl ?_
  refine go_s rfl ?_
  refine go_s rfl ?_
  refine go_add rfl ?_
  refine go_isc rfl (by omega) a6 ?_
  refine go_ci rfl rfl rfl rfl rfl G3 ?_
  refine go_i6 rfl ?_
  refine go_s rfl ?_
  refine go_ci rfl rfl rfl rfl rfl n_thrown ?_
  refine go_l5 rfl (zget_sne (by decide) rfl _ (zget_set _ _ _)) ?_
  refine go_icT rfl (by dsimp only [ncd]; omega) ?_
  refine go_l5 rfl (zget_sne (by decide) rfl _ (zget_set _ _ _)) ?_
  refine go_ifT rfl (by dsimp only [ncd]; omega) ?_
  refine go_s rfl ?_
  exact K
set_option maxRecDepth 20000 in
theorem lw_goes_v (hi : i + 7 ≤ X.1 ∧ X.1 ≤ 3584) (a1 : X.2 (i + 1) = x1) (a2 : X.2 (i + 2) = x2) (G1 : Go X 9 mX3_goes (0, [(0, .ref 0), (1, .int x1), (2, .int x2)], [], (cc A c1 c2 c3 c4 c5 c6 c7 c8 ++ (mm B t1 t2 t3 t4 t5 t6 ++ (.inl (1, .inr (.inl f)) :: tl)), e)) (.inl (some (.int v)), (cc A2 d1 d2 d3 d4 d5 d6 d7 d8 ++ (mm B t1 t2 t3 t4 t5 t6 ++ (.inl (1, .inr (.inl f)) :: tl)), e))) (G3 : Go X 10 mX4_goes (0, [(0, .ref 36), (1, .int x1), (2, .int x2)], [], (cc A2 d1 d2 d3 d4 d5 d6 d7 d8 ++ (mm B t1 t2 t3 t4 t5 t6 ++ (.inl (1, .inr (.inl (vp_updL f 0 v.toInt64))) :: tl)), e)) (.inl (some (.int v)), (cc A2 d1 d2 d3 d4 d5 d6 d7 d8 ++ (mm B2 (nI 0) u2 u3 u4 u5 u6 ++ (.inl (1, .inr (.inl (vp_updL f 0 v.toInt64))) :: tl2)), e))) (K : Go X 11 mL_law (1230, bs i (zset 6 (.int v) (zset 5 (.int (nI 0)) T)), [], (cc A2 d1 d2 d3 d4 d5 d6 d7 d8 ++ (mm B2 (nI 0) u2 u3 u4 u5 u6 ++ (.inl (1, .inr (.inl (vp_updL f 0 v.toInt64))) :: tl2)), e)) o) : Go X 11 mL_law (254, bs i T, [], (cc A c1 c2 c3 c4 c5 c6 c7 c8 ++ (mm B t1 t2 t3 t4 t5 t6 ++ (.inl (1, .inr (.inl f)) :: tl)), e)) o := by
  have W : Go X 10 mL_goes (0, [(0, .ref 0), (1, .int x1), (2, .int x2), (3, .ref 42)], [], (cc A c1 c2 c3 c4 c5 c6 c7 c8 ++ (mm B t1 t2 t3 t4 t5 t6 ++ (.inl (1, .inr (.inl f)) :: tl)), e)) (.inl (some (.int (nI 0))), (cc A2 d1 d2 d3 d4 d5 d6 d7 d8 ++ (mm B t1 t2 t3 t4 t5 t6 ++ (.inl (1, .inr (.inl (vp_updL f 0 v.toInt64))) :: tl)), e)) := by
    repeat (first
      | exact go_ret rfl rfl rfl rfl
      | refine go_ci rfl rfl rfl rfl rfl G1 ?_
      | refine go_las (H2 := cc A2 d1 d2 d3 d4 d5 d6 d7 d8 ++ (mm B t1 t2 t3 t4 t5 t6 ++ (.inl (1, .inr (.inl (vp_updL f 0 v.toInt64))) :: tl))) rfl rfl rfl ?_
      | refine go_ifT rfl (by dsimp only [ncd]; omega) ?_
      | refine go_ifF rfl (by dsimp only [ncd]; omega) ?_
      | refine go_s rfl ?_)
  refine go_s rfl ?_
  refine go_s rfl ?_
  refine go_s rfl ?_
  refine go_s rfl ?_
  refine go_add rfl ?_
  refine go_isc rfl (by omega) a1 ?_
  refine go_s rfl ?_
  refine go_s rfl ?_
  refine go_s rfl ?_
  refine go_add rfl ?_
  refine go_isc rfl (by omega) a2 ?_
  refine go_s rfl ?_
  refine go_ci rfl rfl rfl rfl rfl W ?_
  refine go_i5 rfl ?_
  refine go_s rfl ?_
  refine go_s rfl ?_
  refine go_s rfl ?_
  refine go_s rfl ?_
  refine go_add rfl ?_
  refine go_isc rfl (by omega) a1 ?_
  refine go_s rfl ?_
  refine go_s rfl ?_
  refine go_s rfl ?_
  refine go_add rfl ?_
  refine go_isc rfl (by omega) a2 ?_
  refine go_ci rfl rfl rfl rfl rfl G3 ?_
  refine go_i6 rfl ?_
  refine go_s rfl ?_
  refine go_ci rfl rfl rfl rfl rfl n_thrown ?_
  refine go_l5 rfl (zget_sne (by decide) rfl _ (zget_set _ _ _)) ?_
  refine go_icT rfl (by dsimp only [ncd]; omega) ?_
  refine go_l5 rfl (zget_sne (by decide) rfl _ (zget_set _ _ _)) ?_
  refine go_ifF rfl (by dsimp only [ncd]; omega) ?_
  refine go_s rfl ?_
  refine go_s rfl ?_
  refine go_lal rfl rfl rfl ?_
  refine go_l6 rfl (zget_set _ _ _) ?_
  refine go_s rfl ?_
  refine go_lcmp rfl ?_
  refine go_ifT rfl (by dsimp only [ncd]; omega) ?_
  refine go_s rfl ?_
  exact K
set_option maxRecDepth 20000 in
theorem lw_goes_x1 (hi : i + 7 ≤ X.1 ∧ X.1 ≤ 3584) (a1 : X.2 (i + 1) = x1) (a2 : X.2 (i + 2) = x2) (G1 : Go X 9 mX3_goes (0, [(0, .ref 0), (1, .int x1), (2, .int x2)], [], (cc A c1 c2 c3 c4 c5 c6 c7 c8 ++ (mm B t1 t2 t3 t4 t5 t6 ++ (.inl (1, .inr (.inl f)) :: tl)), e)) (.inr 7, (cc A c1 c2 c3 c4 c5 c6 c7 c8 ++ (mm B t1 t2 t3 t4 t5 t6 ++ (.inl (1, .inr (.inl f)) :: tl)), e + 1))) (G3 : Go X 10 mX4_goes (0, [(0, .ref 36), (1, .int x1), (2, .int x2)], [], (cc A c1 c2 c3 c4 c5 c6 c7 c8 ++ (mm B t1 t2 t3 t4 t5 t6 ++ (.inl (1, .inr (.inl f)) :: tl)), e + 1)) (.inl (some (.int (nI 0))), (cc A c1 c2 c3 c4 c5 c6 c7 c8 ++ (mm B2 (nI 1) u2 u3 u4 u5 u6 ++ (.inl (1, .inr (.inl f)) :: tl2)), e + 1))) (K : Go X 11 mL_law (1230, bs i (zset 6 (.int (nI 0)) (zset 5 (.int (nI 1)) T)), [], (cc A c1 c2 c3 c4 c5 c6 c7 c8 ++ (mm B2 (nI 1) u2 u3 u4 u5 u6 ++ (.inl (1, .inr (.inl f)) :: tl2)), e + 1)) o) : Go X 11 mL_law (254, bs i T, [], (cc A c1 c2 c3 c4 c5 c6 c7 c8 ++ (mm B t1 t2 t3 t4 t5 t6 ++ (.inl (1, .inr (.inl f)) :: tl)), e)) o := by
  have W : Go X 10 mL_goes (0, [(0, .ref 0), (1, .int x1), (2, .int x2), (3, .ref 42)], [], (cc A c1 c2 c3 c4 c5 c6 c7 c8 ++ (mm B t1 t2 t3 t4 t5 t6 ++ (.inl (1, .inr (.inl f)) :: tl)), e)) (.inl (some (.int (nI 1))), (cc A c1 c2 c3 c4 c5 c6 c7 c8 ++ (mm B t1 t2 t3 t4 t5 t6 ++ (.inl (1, .inr (.inl f)) :: tl)), e + 1)) := by
    repeat (first
      | exact go_ret rfl rfl rfl rfl
      | refine go_h rfl rfl rfl rfl G1 rfl rfl ?_
      | refine go_s rfl ?_)
  refine go_s rfl ?_
  refine go_s rfl ?_
  refine go_s rfl ?_
  refine go_s rfl ?_
  refine go_add rfl ?_
  refine go_isc rfl (by omega) a1 ?_
  refine go_s rfl ?_
  refine go_s rfl ?_
  refine go_s rfl ?_
  refine go_add rfl ?_
  refine go_isc rfl (by omega) a2 ?_
  refine go_s rfl ?_
  refine go_ci rfl rfl rfl rfl rfl W ?_
  refine go_i5 rfl ?_
  refine go_s rfl ?_
  refine go_s rfl ?_
  refine go_s rfl ?_
  refine go_s rfl ?_
  refine go_add rfl ?_
  refine go_isc rfl (by omega) a1 ?_
  refine go_s rfl ?_
  refine go_s rfl ?_
  refine go_s rfl ?_
  refine go_add rfl ?_
  refine go_isc rfl (by omega) a2 ?_
  refine go_ci rfl rfl rfl rfl rfl G3 ?_
  refine go_i6 rfl ?_
  refine go_s rfl ?_
  refine go_ci rfl rfl rfl rfl rfl n_thrown ?_
  refine go_l5 rfl (zget_sne (by decide) rfl _ (zget_set _ _ _)) ?_
  refine go_icT rfl (by dsimp only [ncd]; omega) ?_
  refine go_l5 rfl (zget_sne (by decide) rfl _ (zget_set _ _ _)) ?_
  refine go_ifT rfl (by dsimp only [ncd]; omega) ?_
  refine go_s rfl ?_
  exact K
set_option maxRecDepth 20000 in
theorem lw_about_v (hi : i + 7 ≤ X.1 ∧ X.1 ≤ 3584) (a1 : X.2 (i + 1) = x1) (a2 : X.2 (i + 2) = x2) (G1 : Go X 9 mX3_about (0, [(0, .ref 0), (1, .int x1), (2, .int x2)], [], (cc A c1 c2 c3 c4 c5 c6 c7 c8 ++ (mm B t1 t2 t3 t4 t5 t6 ++ (.inl (1, .inr (.inl f)) :: tl)), e)) (.inl (some (.int v)), (cc A2 d1 d2 d3 d4 d5 d6 d7 d8 ++ (mm B t1 t2 t3 t4 t5 t6 ++ (.inl (1, .inr (.inl f)) :: tl)), e))) (G3 : Go X 10 mX4_about (0, [(0, .ref 36), (1, .int x1), (2, .int x2)], [], (cc A2 d1 d2 d3 d4 d5 d6 d7 d8 ++ (mm B t1 t2 t3 t4 t5 t6 ++ (.inl (1, .inr (.inl (vp_updL f 0 v.toInt64))) :: tl)), e)) (.inl (some (.int v)), (cc A2 d1 d2 d3 d4 d5 d6 d7 d8 ++ (mm B2 (nI 0) u2 u3 u4 u5 u6 ++ (.inl (1, .inr (.inl (vp_updL f 0 v.toInt64))) :: tl2)), e))) (K : Go X 11 mL_law (1230, bs i (zset 6 (.int v) (zset 5 (.int (nI 0)) T)), [], (cc A2 d1 d2 d3 d4 d5 d6 d7 d8 ++ (mm B2 (nI 0) u2 u3 u4 u5 u6 ++ (.inl (1, .inr (.inl (vp_updL f 0 v.toInt64))) :: tl2)), e)) o) : Go X 11 mL_law (322, bs i T, [], (cc A c1 c2 c3 c4 c5 c6 c7 c8 ++ (mm B t1 t2 t3 t4 t5 t6 ++ (.inl (1, .inr (.inl f)) :: tl)), e)) o := by
  have W : Go X 10 mL_about (0, [(0, .ref 0), (1, .int x1), (2, .int x2), (3, .ref 42)], [], (cc A c1 c2 c3 c4 c5 c6 c7 c8 ++ (mm B t1 t2 t3 t4 t5 t6 ++ (.inl (1, .inr (.inl f)) :: tl)), e)) (.inl (some (.int (nI 0))), (cc A2 d1 d2 d3 d4 d5 d6 d7 d8 ++ (mm B t1 t2 t3 t4 t5 t6 ++ (.inl (1, .inr (.inl (vp_updL f 0 v.toInt64))) :: tl)), e)) := by
    repeat (first
      | exact go_ret rfl rfl rfl rfl
      | refine go_ci rfl rfl rfl rfl rfl G1 ?_
      | refine go_las (H2 := cc A2 d1 d2 d3 d4 d5 d6 d7 d8 ++ (mm B t1 t2 t3 t4 t5 t6 ++ (.inl (1, .inr (.inl (vp_updL f 0 v.toInt64))) :: tl))) rfl rfl rfl ?_
      | refine go_ifT rfl (by dsimp only [ncd]; omega) ?_
      | refine go_ifF rfl (by dsimp only [ncd]; omega) ?_
      | refine go_s rfl ?_)
  refine go_s rfl ?_
  refine go_s rfl ?_
  refine go_s rfl ?_
  refine go_s rfl ?_
  refine go_add rfl ?_
  refine go_isc rfl (by omega) a1 ?_
  refine go_s rfl ?_
  refine go_s rfl ?_
  refine go_s rfl ?_
  refine go_add rfl ?_
  refine go_isc rfl (by omega) a2 ?_
  refine go_s rfl ?_
  refine go_ci rfl rfl rfl rfl rfl W ?_
  refine go_i5 rfl ?_
  refine go_s rfl ?_
  refine go_s rfl ?_
  refine go_s rfl ?_
  refine go_s rfl ?_
  refine go_add rfl ?_
  refine go_isc rfl (by omega) a1 ?_
  refine go_s rfl ?_
  refine go_s rfl ?_
  refine go_s rfl ?_
  refine go_add rfl ?_
  refine go_isc rfl (by omega) a2 ?_
  refine go_ci rfl rfl rfl rfl rfl G3 ?_
  refine go_i6 rfl ?_
  refine go_s rfl ?_
  refine go_ci rfl rfl rfl rfl rfl n_thrown ?_
  refine go_l5 rfl (zget_sne (by decide) rfl _ (zget_set _ _ _)) ?_
  refine go_icT rfl (by dsimp only [ncd]; omega) ?_
  refine go_l5 rfl (zget_sne (by decide) rfl _ (zget_set _ _ _)) ?_
  refine go_ifF rfl (by dsimp only [ncd]; omega) ?_
  refine go_s rfl ?_
  refine go_s rfl ?_
  refine go_lal rfl rfl rfl ?_
  refine go_l6 rfl (zget_set _ _ _) ?_
  refine go_s rfl ?_
  refine go_lcmp rfl ?_
  refine go_ifT rfl (by dsimp only [ncd]; omega) ?_
  refine go_s rfl ?_
  exact K
set_option maxRecDepth 20000 in
theorem lw_about_x1 (hi : i + 7 ≤ X.1 ∧ X.1 ≤ 3584) (a1 : X.2 (i + 1) = x1) (a2 : X.2 (i + 2) = x2) (G1 : Go X 9 mX3_about (0, [(0, .ref 0), (1, .int x1), (2, .int x2)], [], (cc A c1 c2 c3 c4 c5 c6 c7 c8 ++ (mm B t1 t2 t3 t4 t5 t6 ++ (.inl (1, .inr (.inl f)) :: tl)), e)) (.inr 7, (cc A c1 c2 c3 c4 c5 c6 c7 c8 ++ (mm B t1 t2 t3 t4 t5 t6 ++ (.inl (1, .inr (.inl f)) :: tl)), e + 1))) (G3 : Go X 10 mX4_about (0, [(0, .ref 36), (1, .int x1), (2, .int x2)], [], (cc A c1 c2 c3 c4 c5 c6 c7 c8 ++ (mm B t1 t2 t3 t4 t5 t6 ++ (.inl (1, .inr (.inl f)) :: tl)), e + 1)) (.inl (some (.int (nI 0))), (cc A c1 c2 c3 c4 c5 c6 c7 c8 ++ (mm B2 (nI 1) u2 u3 u4 u5 u6 ++ (.inl (1, .inr (.inl f)) :: tl2)), e + 1))) (K : Go X 11 mL_law (1230, bs i (zset 6 (.int (nI 0)) (zset 5 (.int (nI 1)) T)), [], (cc A c1 c2 c3 c4 c5 c6 c7 c8 ++ (mm B2 (nI 1) u2 u3 u4 u5 u6 ++ (.inl (1, .inr (.inl f)) :: tl2)), e + 1)) o) : Go X 11 mL_law (322, bs i T, [], (cc A c1 c2 c3 c4 c5 c6 c7 c8 ++ (mm B t1 t2 t3 t4 t5 t6 ++ (.inl (1, .inr (.inl f)) :: tl)), e)) o := by
  have W : Go X 10 mL_about (0, [(0, .ref 0), (1, .int x1), (2, .int x2), (3, .ref 42)], [], (cc A c1 c2 c3 c4 c5 c6 c7 c8 ++ (mm B t1 t2 t3 t4 t5 t6 ++ (.inl (1, .inr (.inl f)) :: tl)), e)) (.inl (some (.int (nI 1))), (cc A c1 c2 c3 c4 c5 c6 c7 c8 ++ (mm B t1 t2 t3 t4 t5 t6 ++ (.inl (1, .inr (.inl f)) :: tl)), e + 1)) := by
    repeat (first
      | exact go_ret rfl rfl rfl rfl
      | refine go_h rfl rfl rfl rfl G1 rfl rfl ?_
      | refine go_s rfl ?_)
  refine go_s rfl ?_
  refine go_s rfl ?_
  refine go_s rfl ?_
  refine go_s rfl ?_
  refine go_add rfl ?_
  refine go_isc rfl (by omega) a1 ?_
  refine go_s rfl ?_
  refine go_s rfl ?_
  refine go_s rfl ?_
  refine go_add rfl ?_
  refine go_isc rfl (by omega) a2 ?_
  refine go_s rfl ?_
  refine go_ci rfl rfl rfl rfl rfl W ?_
  refine go_i5 rfl ?_
  refine go_s rfl ?_
  refine go_s rfl ?_
  refine go_s rfl ?_
  refine go_s rfl ?_
  refine go_add rfl ?_
  refine go_isc rfl (by omega) a1 ?_
  refine go_s rfl ?_
  refine go_s rfl ?_
  refine go_s rfl ?_
  refine go_add rfl ?_
  refine go_isc rfl (by omega) a2 ?_
  refine go_ci rfl rfl rfl rfl rfl G3 ?_
  refine go_i6 rfl ?_
  refine go_s rfl ?_
  refine go_ci rfl rfl rfl rfl rfl n_thrown ?_
  refine go_l5 rfl (zget_sne (by decide) rfl _ (zget_set _ _ _)) ?_
  refine go_icT rfl (by dsimp only [ncd]; omega) ?_
  refine go_l5 rfl (zget_sne (by decide) rfl _ (zget_set _ _ _)) ?_
  refine go_ifT rfl (by dsimp only [ncd]; omega) ?_
  refine go_s rfl ?_
  exact K
set_option maxRecDepth 20000 in
theorem lw_swaps_v0 (hi : i + 7 ≤ X.1 ∧ X.1 ≤ 3584) (a1 : X.2 (i + 1) = x1) (a2 : X.2 (i + 2) = x2) (G1 : Go X 9 mX3_swaps (0, [(0, .ref 0), (1, .int x1), (2, .int x2)], [], (cc A c1 c2 c3 c4 c5 c6 c7 c8 ++ (mm B t1 t2 t3 t4 t5 t6 ++ (.inl (1, .inr (.inl f)) :: tl)), e)) (.inl (some (.int (nI 0))), (cc A2 d1 d2 d3 d4 d5 d6 d7 d8 ++ (mm B t1 t2 t3 t4 t5 t6 ++ (.inl (1, .inr (.inl f)) :: tl)), e))) (G3 : Go X 10 mX4_swaps (0, [(0, .ref 36), (1, .int x1), (2, .int x2)], [], (cc A2 d1 d2 d3 d4 d5 d6 d7 d8 ++ (mm B t1 t2 t3 t4 t5 t6 ++ (.inl (1, .inr (.inl (vp_updL f 0 (lN 0)))) :: tl)), e)) (.inl (some (.int (nI 0))), (cc A2 d1 d2 d3 d4 d5 d6 d7 d8 ++ (mm B2 (nI 0) u2 u3 u4 u5 u6 ++ (.inl (1, .inr (.inl (vp_updL f 0 (lN 0)))) :: tl2)), e))) (K : Go X 11 mL_law (1230, bs i (zset 6 (.int (nI 0)) (zset 5 (.int (nI 0)) T)), [], (cc A2 d1 d2 d3 d4 d5 d6 d7 d8 ++ (mm B2 (nI 0) u2 u3 u4 u5 u6 ++ (.inl (1, .inr (.inl (vp_updL f 0 (lN 0)))) :: tl2)), e)) o) : Go X 11 mL_law (390, bs i T, [], (cc A c1 c2 c3 c4 c5 c6 c7 c8 ++ (mm B t1 t2 t3 t4 t5 t6 ++ (.inl (1, .inr (.inl f)) :: tl)), e)) o := by
  have W : Go X 10 mL_swaps (0, [(0, .ref 0), (1, .int x1), (2, .int x2), (3, .ref 42)], [], (cc A c1 c2 c3 c4 c5 c6 c7 c8 ++ (mm B t1 t2 t3 t4 t5 t6 ++ (.inl (1, .inr (.inl f)) :: tl)), e)) (.inl (some (.int (nI 0))), (cc A2 d1 d2 d3 d4 d5 d6 d7 d8 ++ (mm B t1 t2 t3 t4 t5 t6 ++ (.inl (1, .inr (.inl (vp_updL f 0 (lN 0)))) :: tl)), e)) := by
    repeat (first
      | exact go_ret rfl rfl rfl rfl
      | refine go_ci rfl rfl rfl rfl rfl G1 ?_
      | refine go_las (H2 := cc A2 d1 d2 d3 d4 d5 d6 d7 d8 ++ (mm B t1 t2 t3 t4 t5 t6 ++ (.inl (1, .inr (.inl (vp_updL f 0 (lN 0)))) :: tl))) rfl rfl rfl ?_
      | refine go_ifT rfl (by dsimp only [ncd]; omega) ?_
      | refine go_ifF rfl (by dsimp only [ncd]; omega) ?_
      | refine go_s rfl ?_)
  refine go_s rfl ?_
  refine go_s rfl ?_
  refine go_s rfl ?_
  refine go_s rfl ?_
  refine go_add rfl ?_
  refine go_isc rfl (by omega) a1 ?_
  refine go_s rfl ?_
  refine go_s rfl ?_
  refine go_s rfl ?_
  refine go_add rfl ?_
  refine go_isc rfl (by omega) a2 ?_
  refine go_s rfl ?_
  refine go_ci rfl rfl rfl rfl rfl W ?_
  refine go_i5 rfl ?_
  refine go_s rfl ?_
  refine go_s rfl ?_
  refine go_s rfl ?_
  refine go_s rfl ?_
  refine go_add rfl ?_
  refine go_isc rfl (by omega) a1 ?_
  refine go_s rfl ?_
  refine go_s rfl ?_
  refine go_s rfl ?_
  refine go_add rfl ?_
  refine go_isc rfl (by omega) a2 ?_
  refine go_ci rfl rfl rfl rfl rfl G3 ?_
  refine go_i6 rfl ?_
  refine go_s rfl ?_
  refine go_ci rfl rfl rfl rfl rfl n_thrown ?_
  refine go_l5 rfl (zget_sne (by decide) rfl _ (zget_set _ _ _)) ?_
  refine go_icT rfl (by dsimp only [ncd]; omega) ?_
  refine go_l5 rfl (zget_sne (by decide) rfl _ (zget_set _ _ _)) ?_
  refine go_ifF rfl (by dsimp only [ncd]; omega) ?_
  refine go_s rfl ?_
  refine go_s rfl ?_
  refine go_lal rfl rfl rfl ?_
  refine go_l6 rfl (zget_set _ _ _) ?_
  refine go_ifT rfl (by dsimp only [ncd]; omega) ?_
  refine go_s rfl ?_
  refine go_lcmp rfl ?_
  refine go_ifT rfl (by dsimp only [ncd]; omega) ?_
  refine go_s rfl ?_
  exact K
set_option maxRecDepth 20000 in
theorem lw_swaps_v1 (hi : i + 7 ≤ X.1 ∧ X.1 ≤ 3584) (a1 : X.2 (i + 1) = x1) (a2 : X.2 (i + 2) = x2) (G1 : Go X 9 mX3_swaps (0, [(0, .ref 0), (1, .int x1), (2, .int x2)], [], (cc A c1 c2 c3 c4 c5 c6 c7 c8 ++ (mm B t1 t2 t3 t4 t5 t6 ++ (.inl (1, .inr (.inl f)) :: tl)), e)) (.inl (some (.int (nI 1))), (cc A2 d1 d2 d3 d4 d5 d6 d7 d8 ++ (mm B t1 t2 t3 t4 t5 t6 ++ (.inl (1, .inr (.inl f)) :: tl)), e))) (G3 : Go X 10 mX4_swaps (0, [(0, .ref 36), (1, .int x1), (2, .int x2)], [], (cc A2 d1 d2 d3 d4 d5 d6 d7 d8 ++ (mm B t1 t2 t3 t4 t5 t6 ++ (.inl (1, .inr (.inl (vp_updL f 0 (lN 1)))) :: tl)), e)) (.inl (some (.int (nI 1))), (cc A2 d1 d2 d3 d4 d5 d6 d7 d8 ++ (mm B2 (nI 0) u2 u3 u4 u5 u6 ++ (.inl (1, .inr (.inl (vp_updL f 0 (lN 1)))) :: tl2)), e))) (K : Go X 11 mL_law (1230, bs i (zset 6 (.int (nI 1)) (zset 5 (.int (nI 0)) T)), [], (cc A2 d1 d2 d3 d4 d5 d6 d7 d8 ++ (mm B2 (nI 0) u2 u3 u4 u5 u6 ++ (.inl (1, .inr (.inl (vp_updL f 0 (lN 1)))) :: tl2)), e)) o) : Go X 11 mL_law (390, bs i T, [], (cc A c1 c2 c3 c4 c5 c6 c7 c8 ++ (mm B t1 t2 t3 t4 t5 t6 ++ (.inl (1, .inr (.inl f)) :: tl)), e)) o := by
  have W : Go X 10 mL_swaps (0, [(0, .ref 0), (1, .int x1), (2, .int x2), (3, .ref 42)], [], (cc A c1 c2 c3 c4 c5 c6 c7 c8 ++ (mm B t1 t2 t3 t4 t5 t6 ++ (.inl (1, .inr (.inl f)) :: tl)), e)) (.inl (some (.int (nI 0))), (cc A2 d1 d2 d3 d4 d5 d6 d7 d8 ++ (mm B t1 t2 t3 t4 t5 t6 ++ (.inl (1, .inr (.inl (vp_updL f 0 (lN 1)))) :: tl)), e)) := by
    repeat (first
      | exact go_ret rfl rfl rfl rfl
      | refine go_ci rfl rfl rfl rfl rfl G1 ?_
      | refine go_las (H2 := cc A2 d1 d2 d3 d4 d5 d6 d7 d8 ++ (mm B t1 t2 t3 t4 t5 t6 ++ (.inl (1, .inr (.inl (vp_updL f 0 (lN 1)))) :: tl))) rfl rfl rfl ?_
      | refine go_ifT rfl (by dsimp only [ncd]; omega) ?_
      | refine go_ifF rfl (by dsimp only [ncd]; omega) ?_
      | refine go_s rfl ?_)
  refine go_s rfl ?_
  refine go_s rfl ?_
  refine go_s rfl ?_
  refine go_s rfl ?_
  refine go_add rfl ?_
  refine go_isc rfl (by omega) a1 ?_
  refine go_s rfl ?_
  refine go_s rfl ?_
  refine go_s rfl ?_
  refine go_add rfl ?_
  refine go_isc rfl (by omega) a2 ?_
  refine go_s rfl ?_
  refine go_ci rfl rfl rfl rfl rfl W ?_
  refine go_i5 rfl ?_
  refine go_s rfl ?_
  refine go_s rfl ?_
  refine go_s rfl ?_
  refine go_s rfl ?_
  refine go_add rfl ?_
  refine go_isc rfl (by omega) a1 ?_
  refine go_s rfl ?_
  refine go_s rfl ?_
  refine go_s rfl ?_
  refine go_add rfl ?_
  refine go_isc rfl (by omega) a2 ?_
  refine go_ci rfl rfl rfl rfl rfl G3 ?_
  refine go_i6 rfl ?_
  refine go_s rfl ?_
  refine go_ci rfl rfl rfl rfl rfl n_thrown ?_
  refine go_l5 rfl (zget_sne (by decide) rfl _ (zget_set _ _ _)) ?_
  refine go_icT rfl (by dsimp only [ncd]; omega) ?_
  refine go_l5 rfl (zget_sne (by decide) rfl _ (zget_set _ _ _)) ?_
  refine go_ifF rfl (by dsimp only [ncd]; omega) ?_
  refine go_s rfl ?_
  refine go_s rfl ?_
  refine go_lal rfl rfl rfl ?_
  refine go_l6 rfl (zget_set _ _ _) ?_
  refine go_ifF rfl (by dsimp only [ncd]; omega) ?_
  refine go_s rfl ?_
  refine go_s rfl ?_
  refine go_lcmp rfl ?_
  refine go_ifT rfl (by dsimp only [ncd]; omega) ?_
  refine go_s rfl ?_
  exact K
set_option maxRecDepth 20000 in
theorem lw_swaps_x1 (hi : i + 7 ≤ X.1 ∧ X.1 ≤ 3584) (a1 : X.2 (i + 1) = x1) (a2 : X.2 (i + 2) = x2) (G1 : Go X 9 mX3_swaps (0, [(0, .ref 0), (1, .int x1), (2, .int x2)], [], (cc A c1 c2 c3 c4 c5 c6 c7 c8 ++ (mm B t1 t2 t3 t4 t5 t6 ++ (.inl (1, .inr (.inl f)) :: tl)), e)) (.inr 7, (cc A c1 c2 c3 c4 c5 c6 c7 c8 ++ (mm B t1 t2 t3 t4 t5 t6 ++ (.inl (1, .inr (.inl f)) :: tl)), e + 1))) (G3 : Go X 10 mX4_swaps (0, [(0, .ref 36), (1, .int x1), (2, .int x2)], [], (cc A c1 c2 c3 c4 c5 c6 c7 c8 ++ (mm B t1 t2 t3 t4 t5 t6 ++ (.inl (1, .inr (.inl f)) :: tl)), e + 1)) (.inl (some (.int (nI 0))), (cc A c1 c2 c3 c4 c5 c6 c7 c8 ++ (mm B2 (nI 1) u2 u3 u4 u5 u6 ++ (.inl (1, .inr (.inl f)) :: tl2)), e + 1))) (K : Go X 11 mL_law (1230, bs i (zset 6 (.int (nI 0)) (zset 5 (.int (nI 1)) T)), [], (cc A c1 c2 c3 c4 c5 c6 c7 c8 ++ (mm B2 (nI 1) u2 u3 u4 u5 u6 ++ (.inl (1, .inr (.inl f)) :: tl2)), e + 1)) o) : Go X 11 mL_law (390, bs i T, [], (cc A c1 c2 c3 c4 c5 c6 c7 c8 ++ (mm B t1 t2 t3 t4 t5 t6 ++ (.inl (1, .inr (.inl f)) :: tl)), e)) o := by
  have W : Go X 10 mL_swaps (0, [(0, .ref 0), (1, .int x1), (2, .int x2), (3, .ref 42)], [], (cc A c1 c2 c3 c4 c5 c6 c7 c8 ++ (mm B t1 t2 t3 t4 t5 t6 ++ (.inl (1, .inr (.inl f)) :: tl)), e)) (.inl (some (.int (nI 1))), (cc A c1 c2 c3 c4 c5 c6 c7 c8 ++ (mm B t1 t2 t3 t4 t5 t6 ++ (.inl (1, .inr (.inl f)) :: tl)), e + 1)) := by
    repeat (first
      | exact go_ret rfl rfl rfl rfl
      | refine go_h rfl rfl rfl rfl G1 rfl rfl ?_
      | refine go_s rfl ?_)
  refine go_s rfl ?_
  refine go_s rfl ?_
  refine go_s rfl ?_
  refine go_s rfl ?_
  refine go_add rfl ?_
  refine go_isc rfl (by omega) a1 ?_
  refine go_s rfl ?_
  refine go_s rfl ?_
  refine go_s rfl ?_
  refine go_add rfl ?_
  refine go_isc rfl (by omega) a2 ?_
  refine go_s rfl ?_
  refine go_ci rfl rfl rfl rfl rfl W ?_
  refine go_i5 rfl ?_
  refine go_s rfl ?_
  refine go_s rfl ?_
  refine go_s rfl ?_
  refine go_s rfl ?_
  refine go_add rfl ?_
  refine go_isc rfl (by omega) a1 ?_
  refine go_s rfl ?_
  refine go_s rfl ?_
  refine go_s rfl ?_
  refine go_add rfl ?_
  refine go_isc rfl (by omega) a2 ?_
  refine go_ci rfl rfl rfl rfl rfl G3 ?_
  refine go_i6 rfl ?_
  refine go_s rfl ?_
  refine go_ci rfl rfl rfl rfl rfl n_thrown ?_
  refine go_l5 rfl (zget_sne (by decide) rfl _ (zget_set _ _ _)) ?_
  refine go_icT rfl (by dsimp only [ncd]; omega) ?_
  refine go_l5 rfl (zget_sne (by decide) rfl _ (zget_set _ _ _)) ?_
  refine go_ifT rfl (by dsimp only [ncd]; omega) ?_
  refine go_s rfl ?_
  exact K
set_option maxRecDepth 20000 in
theorem lw_ring_v (hi : i + 7 ≤ X.1 ∧ X.1 ≤ 3584) (a1 : X.2 (i + 1) = x1) (G1 : Go X 9 mX3_ring (0, [(0, .ref 0), (1, .int x1)], [], (cc A c1 c2 c3 c4 c5 c6 c7 c8 ++ (mm B t1 t2 t3 t4 t5 t6 ++ (.inl (1, .inr (.inl f)) :: tl)), e)) (.inl (some (.int v)), (cc A2 d1 d2 d3 d4 d5 d6 d7 d8 ++ (mm B t1 t2 t3 t4 t5 t6 ++ (.inl (1, .inr (.inl f)) :: tl)), e))) (G3 : Go X 10 mX4_ring (0, [(0, .ref 36), (1, .int x1)], [], (cc A2 d1 d2 d3 d4 d5 d6 d7 d8 ++ (mm B t1 t2 t3 t4 t5 t6 ++ (.inl (1, .inr (.inl (vp_updL f 0 v.toInt64))) :: tl)), e)) (.inl (some (.int v)), (cc A2 d1 d2 d3 d4 d5 d6 d7 d8 ++ (mm B2 (nI 0) u2 u3 u4 u5 u6 ++ (.inl (1, .inr (.inl (vp_updL f 0 v.toInt64))) :: tl2)), e))) (K : Go X 11 mL_law (1230, bs i (zset 6 (.int v) (zset 5 (.int (nI 0)) T)), [], (cc A2 d1 d2 d3 d4 d5 d6 d7 d8 ++ (mm B2 (nI 0) u2 u3 u4 u5 u6 ++ (.inl (1, .inr (.inl (vp_updL f 0 v.toInt64))) :: tl2)), e)) o) : Go X 11 mL_law (465, bs i T, [], (cc A c1 c2 c3 c4 c5 c6 c7 c8 ++ (mm B t1 t2 t3 t4 t5 t6 ++ (.inl (1, .inr (.inl f)) :: tl)), e)) o := by
  have W : Go X 10 mL_ring (0, [(0, .ref 0), (1, .int x1), (2, .ref 42)], [], (cc A c1 c2 c3 c4 c5 c6 c7 c8 ++ (mm B t1 t2 t3 t4 t5 t6 ++ (.inl (1, .inr (.inl f)) :: tl)), e)) (.inl (some (.int (nI 0))), (cc A2 d1 d2 d3 d4 d5 d6 d7 d8 ++ (mm B t1 t2 t3 t4 t5 t6 ++ (.inl (1, .inr (.inl (vp_updL f 0 v.toInt64))) :: tl)), e)) := by
    repeat (first
      | exact go_ret rfl rfl rfl rfl
      | refine go_ci rfl rfl rfl rfl rfl G1 ?_
      | refine go_las (H2 := cc A2 d1 d2 d3 d4 d5 d6 d7 d8 ++ (mm B t1 t2 t3 t4 t5 t6 ++ (.inl (1, .inr (.inl (vp_updL f 0 v.toInt64))) :: tl))) rfl rfl rfl ?_
      | refine go_ifT rfl (by dsimp only [ncd]; omega) ?_
      | refine go_ifF rfl (by dsimp only [ncd]; omega) ?_
      | refine go_s rfl ?_)
  refine go_s rfl ?_
  refine go_s rfl ?_
  refine go_s rfl ?_
  refine go_s rfl ?_
  refine go_add rfl ?_
  refine go_isc rfl (by omega) a1 ?_
  refine go_s rfl ?_
  refine go_ci rfl rfl rfl rfl rfl W ?_
  refine go_i5 rfl ?_
  refine go_s rfl ?_
  refine go_s rfl ?_
  refine go_s rfl ?_
  refine go_s rfl ?_
  refine go_add rfl ?_
  refine go_isc rfl (by omega) a1 ?_
  refine go_ci rfl rfl rfl rfl rfl G3 ?_
  refine go_i6 rfl ?_
  refine go_s rfl ?_
  refine go_ci rfl rfl rfl rfl rfl n_thrown ?_
  refine go_l5 rfl (zget_sne (by decide) rfl _ (zget_set _ _ _)) ?_
  refine go_icT rfl (by dsimp only [ncd]; omega) ?_
  refine go_l5 rfl (zget_sne (by decide) rfl _ (zget_set _ _ _)) ?_
  refine go_ifF rfl (by dsimp only [ncd]; omega) ?_
  refine go_s rfl ?_
  refine go_s rfl ?_
  refine go_lal rfl rfl rfl ?_
  refine go_l6 rfl (zget_set _ _ _) ?_
  refine go_s rfl ?_
  refine go_lcmp rfl ?_
  refine go_ifT rfl (by dsimp only [ncd]; omega) ?_
  refine go_s rfl ?_
  exact K
set_option maxRecDepth 20000 in
theorem lw_ring_x1 (hi : i + 7 ≤ X.1 ∧ X.1 ≤ 3584) (a1 : X.2 (i + 1) = x1) (G1 : Go X 9 mX3_ring (0, [(0, .ref 0), (1, .int x1)], [], (cc A c1 c2 c3 c4 c5 c6 c7 c8 ++ (mm B t1 t2 t3 t4 t5 t6 ++ (.inl (1, .inr (.inl f)) :: tl)), e)) (.inr 7, (cc A c1 c2 c3 c4 c5 c6 c7 c8 ++ (mm B t1 t2 t3 t4 t5 t6 ++ (.inl (1, .inr (.inl f)) :: tl)), e + 1))) (G3 : Go X 10 mX4_ring (0, [(0, .ref 36), (1, .int x1)], [], (cc A c1 c2 c3 c4 c5 c6 c7 c8 ++ (mm B t1 t2 t3 t4 t5 t6 ++ (.inl (1, .inr (.inl f)) :: tl)), e + 1)) (.inl (some (.int (nI 0))), (cc A c1 c2 c3 c4 c5 c6 c7 c8 ++ (mm B2 (nI 1) u2 u3 u4 u5 u6 ++ (.inl (1, .inr (.inl f)) :: tl2)), e + 1))) (K : Go X 11 mL_law (1230, bs i (zset 6 (.int (nI 0)) (zset 5 (.int (nI 1)) T)), [], (cc A c1 c2 c3 c4 c5 c6 c7 c8 ++ (mm B2 (nI 1) u2 u3 u4 u5 u6 ++ (.inl (1, .inr (.inl f)) :: tl2)), e + 1)) o) : Go X 11 mL_law (465, bs i T, [], (cc A c1 c2 c3 c4 c5 c6 c7 c8 ++ (mm B t1 t2 t3 t4 t5 t6 ++ (.inl (1, .inr (.inl f)) :: tl)), e)) o := by
  have W : Go X 10 mL_ring (0, [(0, .ref 0), (1, .int x1), (2, .ref 42)], [], (cc A c1 c2 c3 c4 c5 c6 c7 c8 ++ (mm B t1 t2 t3 t4 t5 t6 ++ (.inl (1, .inr (.inl f)) :: tl)), e)) (.inl (some (.int (nI 1))), (cc A c1 c2 c3 c4 c5 c6 c7 c8 ++ (mm B t1 t2 t3 t4 t5 t6 ++ (.inl (1, .inr (.inl f)) :: tl)), e + 1)) := by
    repeat (first
      | exact go_ret rfl rfl rfl rfl
      | refine go_h rfl rfl rfl rfl G1 rfl rfl ?_
      | refine go_s rfl ?_)
  refine go_s rfl ?_
  refine go_s rfl ?_
  refine go_s rfl ?_
  refine go_s rfl ?_
  refine go_add rfl ?_
  refine go_isc rfl (by omega) a1 ?_
  refine go_s rfl ?_
  refine go_ci rfl rfl rfl rfl rfl W ?_
  refine go_i5 rfl ?_
  refine go_s rfl ?_
  refine go_s rfl ?_
  refine go_s rfl ?_
  refine go_s rfl ?_
  refine go_add rfl ?_
  refine go_isc rfl (by omega) a1 ?_
  refine go_ci rfl rfl rfl rfl rfl G3 ?_
  refine go_i6 rfl ?_
  refine go_s rfl ?_
  refine go_ci rfl rfl rfl rfl rfl n_thrown ?_
  refine go_l5 rfl (zget_sne (by decide) rfl _ (zget_set _ _ _)) ?_
  refine go_icT rfl (by dsimp only [ncd]; omega) ?_
  refine go_l5 rfl (zget_sne (by decide) rfl _ (zget_set _ _ _)) ?_
  refine go_ifT rfl (by dsimp only [ncd]; omega) ?_
  refine go_s rfl ?_
  exact K
set_option maxRecDepth 20000 in
theorem lw_undo_v (hi : i + 7 ≤ X.1 ∧ X.1 ≤ 3584) (a1 : X.2 (i + 1) = x1) (G1 : Go X 9 mX3_undo (0, [(0, .ref 0), (1, .int x1)], [], (cc A c1 c2 c3 c4 c5 c6 c7 c8 ++ (mm B t1 t2 t3 t4 t5 t6 ++ (.inl (1, .inr (.inl f)) :: tl)), e)) (.inl (some (.int v)), (cc A2 d1 d2 d3 d4 d5 d6 d7 d8 ++ (mm B t1 t2 t3 t4 t5 t6 ++ (.inl (1, .inr (.inl f)) :: tl)), e))) (G3 : Go X 10 mX4_undo (0, [(0, .ref 36), (1, .int x1)], [], (cc A2 d1 d2 d3 d4 d5 d6 d7 d8 ++ (mm B t1 t2 t3 t4 t5 t6 ++ (.inl (1, .inr (.inl (vp_updL f 0 v.toInt64))) :: tl)), e)) (.inl (some (.int v)), (cc A2 d1 d2 d3 d4 d5 d6 d7 d8 ++ (mm B2 (nI 0) u2 u3 u4 u5 u6 ++ (.inl (1, .inr (.inl (vp_updL f 0 v.toInt64))) :: tl2)), e))) (K : Go X 11 mL_law (1230, bs i (zset 6 (.int v) (zset 5 (.int (nI 0)) T)), [], (cc A2 d1 d2 d3 d4 d5 d6 d7 d8 ++ (mm B2 (nI 0) u2 u3 u4 u5 u6 ++ (.inl (1, .inr (.inl (vp_updL f 0 v.toInt64))) :: tl2)), e)) o) : Go X 11 mL_law (521, bs i T, [], (cc A c1 c2 c3 c4 c5 c6 c7 c8 ++ (mm B t1 t2 t3 t4 t5 t6 ++ (.inl (1, .inr (.inl f)) :: tl)), e)) o := by
  have W : Go X 10 mL_undo (0, [(0, .ref 0), (1, .int x1), (2, .ref 42)], [], (cc A c1 c2 c3 c4 c5 c6 c7 c8 ++ (mm B t1 t2 t3 t4 t5 t6 ++ (.inl (1, .inr (.inl f)) :: tl)), e)) (.inl (some (.int (nI 0))), (cc A2 d1 d2 d3 d4 d5 d6 d7 d8 ++ (mm B t1 t2 t3 t4 t5 t6 ++ (.inl (1, .inr (.inl (vp_updL f 0 v.toInt64))) :: tl)), e)) := by
    repeat (first
      | exact go_ret rfl rfl rfl rfl
      | refine go_ci rfl rfl rfl rfl rfl G1 ?_
      | refine go_las (H2 := cc A2 d1 d2 d3 d4 d5 d6 d7 d8 ++ (mm B t1 t2 t3 t4 t5 t6 ++ (.inl (1, .inr (.inl (vp_updL f 0 v.toInt64))) :: tl))) rfl rfl rfl ?_
      | refine go_ifT rfl (by dsimp only [ncd]; omega) ?_
      | refine go_ifF rfl (by dsimp only [ncd]; omega) ?_
      | refine go_s rfl ?_)
  refine go_s rfl ?_
  refine go_s rfl ?_
  refine go_s rfl ?_
  refine go_s rfl ?_
  refine go_add rfl ?_
  refine go_isc rfl (by omega) a1 ?_
  refine go_s rfl ?_
  refine go_ci rfl rfl rfl rfl rfl W ?_
  refine go_i5 rfl ?_
  refine go_s rfl ?_
  refine go_s rfl ?_
  refine go_s rfl ?_
  refine go_s rfl ?_
  refine go_add rfl ?_
  refine go_isc rfl (by omega) a1 ?_
  refine go_ci rfl rfl rfl rfl rfl G3 ?_
  refine go_i6 rfl ?_
  refine go_s rfl ?_
  refine go_ci rfl rfl rfl rfl rfl n_thrown ?_
  refine go_l5 rfl (zget_sne (by decide) rfl _ (zget_set _ _ _)) ?_
  refine go_icT rfl (by dsimp only [ncd]; omega) ?_
  refine go_l5 rfl (zget_sne (by decide) rfl _ (zget_set _ _ _)) ?_
  refine go_ifF rfl (by dsimp only [ncd]; omega) ?_
  refine go_s rfl ?_
  refine go_s rfl ?_
  refine go_lal rfl rfl rfl ?_
  refine go_l6 rfl (zget_set _ _ _) ?_
  refine go_s rfl ?_
  refine go_lcmp rfl ?_
  refine go_ifT rfl (by dsimp only [ncd]; omega) ?_
  refine go_s rfl ?_
  exact K
set_option maxRecDepth 20000 in
theorem lw_undo_x1 (hi : i + 7 ≤ X.1 ∧ X.1 ≤ 3584) (a1 : X.2 (i + 1) = x1) (G1 : Go X 9 mX3_undo (0, [(0, .ref 0), (1, .int x1)], [], (cc A c1 c2 c3 c4 c5 c6 c7 c8 ++ (mm B t1 t2 t3 t4 t5 t6 ++ (.inl (1, .inr (.inl f)) :: tl)), e)) (.inr 7, (cc A c1 c2 c3 c4 c5 c6 c7 c8 ++ (mm B t1 t2 t3 t4 t5 t6 ++ (.inl (1, .inr (.inl f)) :: tl)), e + 1))) (G3 : Go X 10 mX4_undo (0, [(0, .ref 36), (1, .int x1)], [], (cc A c1 c2 c3 c4 c5 c6 c7 c8 ++ (mm B t1 t2 t3 t4 t5 t6 ++ (.inl (1, .inr (.inl f)) :: tl)), e + 1)) (.inl (some (.int (nI 0))), (cc A c1 c2 c3 c4 c5 c6 c7 c8 ++ (mm B2 (nI 1) u2 u3 u4 u5 u6 ++ (.inl (1, .inr (.inl f)) :: tl2)), e + 1))) (K : Go X 11 mL_law (1230, bs i (zset 6 (.int (nI 0)) (zset 5 (.int (nI 1)) T)), [], (cc A c1 c2 c3 c4 c5 c6 c7 c8 ++ (mm B2 (nI 1) u2 u3 u4 u5 u6 ++ (.inl (1, .inr (.inl f)) :: tl2)), e + 1)) o) : Go X 11 mL_law (521, bs i T, [], (cc A c1 c2 c3 c4 c5 c6 c7 c8 ++ (mm B t1 t2 t3 t4 t5 t6 ++ (.inl (1, .inr (.inl f)) :: tl)), e)) o := by
  have W : Go X 10 mL_undo (0, [(0, .ref 0), (1, .int x1), (2, .ref 42)], [], (cc A c1 c2 c3 c4 c5 c6 c7 c8 ++ (mm B t1 t2 t3 t4 t5 t6 ++ (.inl (1, .inr (.inl f)) :: tl)), e)) (.inl (some (.int (nI 1))), (cc A c1 c2 c3 c4 c5 c6 c7 c8 ++ (mm B t1 t2 t3 t4 t5 t6 ++ (.inl (1, .inr (.inl f)) :: tl)), e + 1)) := by
    repeat (first
      | exact go_ret rfl rfl rfl rfl
      | refine go_h rfl rfl rfl rfl G1 rfl rfl ?_
      | refine go_s rfl ?_)
  refine go_s rfl ?_
  refine go_s rfl ?_
  refine go_s rfl ?_
  refine go_s rfl ?_
  refine go_add rfl ?_
  refine go_isc rfl (by omega) a1 ?_
  refine go_s rfl ?_
  refine go_ci rfl rfl rfl rfl rfl W ?_
  refine go_i5 rfl ?_
  refine go_s rfl ?_
  refine go_s rfl ?_
  refine go_s rfl ?_
  refine go_s rfl ?_
  refine go_add rfl ?_
  refine go_isc rfl (by omega) a1 ?_
  refine go_ci rfl rfl rfl rfl rfl G3 ?_
  refine go_i6 rfl ?_
  refine go_s rfl ?_
  refine go_ci rfl rfl rfl rfl rfl n_thrown ?_
  refine go_l5 rfl (zget_sne (by decide) rfl _ (zget_set _ _ _)) ?_
  refine go_icT rfl (by dsimp only [ncd]; omega) ?_
  refine go_l5 rfl (zget_sne (by decide) rfl _ (zget_set _ _ _)) ?_
  refine go_ifT rfl (by dsimp only [ncd]; omega) ?_
  refine go_s rfl ?_
  exact K
set_option maxRecDepth 20000 in
theorem lw_at_v (hi : i + 7 ≤ X.1 ∧ X.1 ≤ 3584) (a1 : X.2 (i + 1) = x1) (G1 : Go X 9 mX3_at (0, [(0, .ref 0), (1, .int x1)], [], (cc A c1 c2 c3 c4 c5 c6 c7 c8 ++ (mm B t1 t2 t3 t4 t5 t6 ++ (.inl (1, .inr (.inl f)) :: tl)), e)) (.inl (some (.int v)), (cc A2 d1 d2 d3 d4 d5 d6 d7 d8 ++ (mm B t1 t2 t3 t4 t5 t6 ++ (.inl (1, .inr (.inl f)) :: tl)), e))) (G3 : Go X 10 mX4_at (0, [(0, .ref 36), (1, .int x1)], [], (cc A2 d1 d2 d3 d4 d5 d6 d7 d8 ++ (mm B t1 t2 t3 t4 t5 t6 ++ (.inl (1, .inr (.inl (vp_updL f 0 v.toInt64))) :: tl)), e)) (.inl (some (.int v)), (cc A2 d1 d2 d3 d4 d5 d6 d7 d8 ++ (mm B2 (nI 0) u2 u3 u4 u5 u6 ++ (.inl (1, .inr (.inl (vp_updL f 0 v.toInt64))) :: tl2)), e))) (K : Go X 11 mL_law (1230, bs i (zset 6 (.int v) (zset 5 (.int (nI 0)) T)), [], (cc A2 d1 d2 d3 d4 d5 d6 d7 d8 ++ (mm B2 (nI 0) u2 u3 u4 u5 u6 ++ (.inl (1, .inr (.inl (vp_updL f 0 v.toInt64))) :: tl2)), e)) o) : Go X 11 mL_law (577, bs i T, [], (cc A c1 c2 c3 c4 c5 c6 c7 c8 ++ (mm B t1 t2 t3 t4 t5 t6 ++ (.inl (1, .inr (.inl f)) :: tl)), e)) o := by
  have W : Go X 10 mL_at (0, [(0, .ref 0), (1, .int x1), (2, .ref 42)], [], (cc A c1 c2 c3 c4 c5 c6 c7 c8 ++ (mm B t1 t2 t3 t4 t5 t6 ++ (.inl (1, .inr (.inl f)) :: tl)), e)) (.inl (some (.int (nI 0))), (cc A2 d1 d2 d3 d4 d5 d6 d7 d8 ++ (mm B t1 t2 t3 t4 t5 t6 ++ (.inl (1, .inr (.inl (vp_updL f 0 v.toInt64))) :: tl)), e)) := by
    repeat (first
      | exact go_ret rfl rfl rfl rfl
      | refine go_ci rfl rfl rfl rfl rfl G1 ?_
      | refine go_las (H2 := cc A2 d1 d2 d3 d4 d5 d6 d7 d8 ++ (mm B t1 t2 t3 t4 t5 t6 ++ (.inl (1, .inr (.inl (vp_updL f 0 v.toInt64))) :: tl))) rfl rfl rfl ?_
      | refine go_ifT rfl (by dsimp only [ncd]; omega) ?_
      | refine go_ifF rfl (by dsimp only [ncd]; omega) ?_
      | refine go_s rfl ?_)
  refine go_s rfl ?_
  refine go_s rfl ?_
  refine go_s rfl ?_
  refine go_s rfl ?_
  refine go_add rfl ?_
  refine go_isc rfl (by omega) a1 ?_
  refine go_s rfl ?_
  refine go_ci rfl rfl rfl rfl rfl W ?_
  refine go_i5 rfl ?_
  refine go_s rfl ?_
  refine go_s rfl ?_
  refine go_s rfl ?_
  refine go_s rfl ?_
  refine go_add rfl ?_
  refine go_isc rfl (by omega) a1 ?_
  refine go_ci rfl rfl rfl rfl rfl G3 ?_
  refine go_i6 rfl ?_
  refine go_s rfl ?_
  refine go_ci rfl rfl rfl rfl rfl n_thrown ?_
  refine go_l5 rfl (zget_sne (by decide) rfl _ (zget_set _ _ _)) ?_
  refine go_icT rfl (by dsimp only [ncd]; omega) ?_
  refine go_l5 rfl (zget_sne (by decide) rfl _ (zget_set _ _ _)) ?_
  refine go_ifF rfl (by dsimp only [ncd]; omega) ?_
  refine go_s rfl ?_
  refine go_s rfl ?_
  refine go_lal rfl rfl rfl ?_
  refine go_l6 rfl (zget_set _ _ _) ?_
  refine go_s rfl ?_
  refine go_lcmp rfl ?_
  refine go_ifT rfl (by dsimp only [ncd]; omega) ?_
  refine go_s rfl ?_
  exact K
set_option maxRecDepth 20000 in
theorem lw_at_x1 (hi : i + 7 ≤ X.1 ∧ X.1 ≤ 3584) (a1 : X.2 (i + 1) = x1) (G1 : Go X 9 mX3_at (0, [(0, .ref 0), (1, .int x1)], [], (cc A c1 c2 c3 c4 c5 c6 c7 c8 ++ (mm B t1 t2 t3 t4 t5 t6 ++ (.inl (1, .inr (.inl f)) :: tl)), e)) (.inr 7, (cc A c1 c2 c3 c4 c5 c6 c7 c8 ++ (mm B t1 t2 t3 t4 t5 t6 ++ (.inl (1, .inr (.inl f)) :: tl)), e + 1))) (G3 : Go X 10 mX4_at (0, [(0, .ref 36), (1, .int x1)], [], (cc A c1 c2 c3 c4 c5 c6 c7 c8 ++ (mm B t1 t2 t3 t4 t5 t6 ++ (.inl (1, .inr (.inl f)) :: tl)), e + 1)) (.inl (some (.int (nI 0))), (cc A c1 c2 c3 c4 c5 c6 c7 c8 ++ (mm B2 (nI 1) u2 u3 u4 u5 u6 ++ (.inl (1, .inr (.inl f)) :: tl2)), e + 1))) (K : Go X 11 mL_law (1230, bs i (zset 6 (.int (nI 0)) (zset 5 (.int (nI 1)) T)), [], (cc A c1 c2 c3 c4 c5 c6 c7 c8 ++ (mm B2 (nI 1) u2 u3 u4 u5 u6 ++ (.inl (1, .inr (.inl f)) :: tl2)), e + 1)) o) : Go X 11 mL_law (577, bs i T, [], (cc A c1 c2 c3 c4 c5 c6 c7 c8 ++ (mm B t1 t2 t3 t4 t5 t6 ++ (.inl (1, .inr (.inl f)) :: tl)), e)) o := by
  have W : Go X 10 mL_at (0, [(0, .ref 0), (1, .int x1), (2, .ref 42)], [], (cc A c1 c2 c3 c4 c5 c6 c7 c8 ++ (mm B t1 t2 t3 t4 t5 t6 ++ (.inl (1, .inr (.inl f)) :: tl)), e)) (.inl (some (.int (nI 1))), (cc A c1 c2 c3 c4 c5 c6 c7 c8 ++ (mm B t1 t2 t3 t4 t5 t6 ++ (.inl (1, .inr (.inl f)) :: tl)), e + 1)) := by
    repeat (first
      | exact go_ret rfl rfl rfl rfl
      | refine go_h rfl rfl rfl rfl G1 rfl rfl ?_
      | refine go_s rfl ?_)
  refine go_s rfl ?_
  refine go_s rfl ?_
  refine go_s rfl ?_
  refine go_s rfl ?_
  refine go_add rfl ?_
  refine go_isc rfl (by omega) a1 ?_
  refine go_s rfl ?_
  refine go_ci rfl rfl rfl rfl rfl W ?_
  refine go_i5 rfl ?_
  refine go_s rfl ?_
  refine go_s rfl ?_
  refine go_s rfl ?_
  refine go_s rfl ?_
  refine go_add rfl ?_
  refine go_isc rfl (by omega) a1 ?_
  refine go_ci rfl rfl rfl rfl rfl G3 ?_
  refine go_i6 rfl ?_
  refine go_s rfl ?_
  refine go_ci rfl rfl rfl rfl rfl n_thrown ?_
  refine go_l5 rfl (zget_sne (by decide) rfl _ (zget_set _ _ _)) ?_
  refine go_icT rfl (by dsimp only [ncd]; omega) ?_
  refine go_l5 rfl (zget_sne (by decide) rfl _ (zget_set _ _ _)) ?_
  refine go_ifT rfl (by dsimp only [ncd]; omega) ?_
  refine go_s rfl ?_
  exact K
set_option maxRecDepth 20000 in
theorem lw_find_v (hi : i + 7 ≤ X.1 ∧ X.1 ≤ 3584) (a1 : X.2 (i + 1) = x1) (G1 : Go X 9 mX3_find (0, [(0, .ref 0), (1, .int x1)], [], (cc A c1 c2 c3 c4 c5 c6 c7 c8 ++ (mm B t1 t2 t3 t4 t5 t6 ++ (.inl (1, .inr (.inl f)) :: tl)), e)) (.inl (some (.int v)), (cc A2 d1 d2 d3 d4 d5 d6 d7 d8 ++ (mm B t1 t2 t3 t4 t5 t6 ++ (.inl (1, .inr (.inl f)) :: tl)), e))) (G3 : Go X 10 mX4_find (0, [(0, .ref 36), (1, .int x1)], [], (cc A2 d1 d2 d3 d4 d5 d6 d7 d8 ++ (mm B t1 t2 t3 t4 t5 t6 ++ (.inl (1, .inr (.inl (vp_updL f 0 v.toInt64))) :: tl)), e)) (.inl (some (.int v)), (cc A2 d1 d2 d3 d4 d5 d6 d7 d8 ++ (mm B2 (nI 0) u2 u3 u4 u5 u6 ++ (.inl (1, .inr (.inl (vp_updL f 0 v.toInt64))) :: tl2)), e))) (K : Go X 11 mL_law (1230, bs i (zset 6 (.int v) (zset 5 (.int (nI 0)) T)), [], (cc A2 d1 d2 d3 d4 d5 d6 d7 d8 ++ (mm B2 (nI 0) u2 u3 u4 u5 u6 ++ (.inl (1, .inr (.inl (vp_updL f 0 v.toInt64))) :: tl2)), e)) o) : Go X 11 mL_law (633, bs i T, [], (cc A c1 c2 c3 c4 c5 c6 c7 c8 ++ (mm B t1 t2 t3 t4 t5 t6 ++ (.inl (1, .inr (.inl f)) :: tl)), e)) o := by
  have W : Go X 10 mL_find (0, [(0, .ref 0), (1, .int x1), (2, .ref 42)], [], (cc A c1 c2 c3 c4 c5 c6 c7 c8 ++ (mm B t1 t2 t3 t4 t5 t6 ++ (.inl (1, .inr (.inl f)) :: tl)), e)) (.inl (some (.int (nI 0))), (cc A2 d1 d2 d3 d4 d5 d6 d7 d8 ++ (mm B t1 t2 t3 t4 t5 t6 ++ (.inl (1, .inr (.inl (vp_updL f 0 v.toInt64))) :: tl)), e)) := by
    repeat (first
      | exact go_ret rfl rfl rfl rfl
      | refine go_ci rfl rfl rfl rfl rfl G1 ?_
      | refine go_las (H2 := cc A2 d1 d2 d3 d4 d5 d6 d7 d8 ++ (mm B t1 t2 t3 t4 t5 t6 ++ (.inl (1, .inr (.inl (vp_updL f 0 v.toInt64))) :: tl))) rfl rfl rfl ?_
      | refine go_ifT rfl (by dsimp only [ncd]; omega) ?_
      | refine go_ifF rfl (by dsimp only [ncd]; omega) ?_
      | refine go_s rfl ?_)
  refine go_s rfl ?_
  refine go_s rfl ?_
  refine go_s rfl ?_
  refine go_s rfl ?_
  refine go_add rfl ?_
  refine go_isc rfl (by omega) a1 ?_
  refine go_s rfl ?_
  refine go_ci rfl rfl rfl rfl rfl W ?_
  refine go_i5 rfl ?_
  refine go_s rfl ?_
  refine go_s rfl ?_
  refine go_s rfl ?_
  refine go_s rfl ?_
  refine go_add rfl ?_
  refine go_isc rfl (by omega) a1 ?_
  refine go_ci rfl rfl rfl rfl rfl G3 ?_
  refine go_i6 rfl ?_
  refine go_s rfl ?_
  refine go_ci rfl rfl rfl rfl rfl n_thrown ?_
  refine go_l5 rfl (zget_sne (by decide) rfl _ (zget_set _ _ _)) ?_
  refine go_icT rfl (by dsimp only [ncd]; omega) ?_
  refine go_l5 rfl (zget_sne (by decide) rfl _ (zget_set _ _ _)) ?_
  refine go_ifF rfl (by dsimp only [ncd]; omega) ?_
  refine go_s rfl ?_
  refine go_s rfl ?_
  refine go_lal rfl rfl rfl ?_
  refine go_l6 rfl (zget_set _ _ _) ?_
  refine go_s rfl ?_
  refine go_lcmp rfl ?_
  refine go_ifT rfl (by dsimp only [ncd]; omega) ?_
  refine go_s rfl ?_
  exact K
set_option maxRecDepth 20000 in
theorem lw_find_x1 (hi : i + 7 ≤ X.1 ∧ X.1 ≤ 3584) (a1 : X.2 (i + 1) = x1) (G1 : Go X 9 mX3_find (0, [(0, .ref 0), (1, .int x1)], [], (cc A c1 c2 c3 c4 c5 c6 c7 c8 ++ (mm B t1 t2 t3 t4 t5 t6 ++ (.inl (1, .inr (.inl f)) :: tl)), e)) (.inr 7, (cc A c1 c2 c3 c4 c5 c6 c7 c8 ++ (mm B t1 t2 t3 t4 t5 t6 ++ (.inl (1, .inr (.inl f)) :: tl)), e + 1))) (G3 : Go X 10 mX4_find (0, [(0, .ref 36), (1, .int x1)], [], (cc A c1 c2 c3 c4 c5 c6 c7 c8 ++ (mm B t1 t2 t3 t4 t5 t6 ++ (.inl (1, .inr (.inl f)) :: tl)), e + 1)) (.inl (some (.int (nI 0))), (cc A c1 c2 c3 c4 c5 c6 c7 c8 ++ (mm B2 (nI 1) u2 u3 u4 u5 u6 ++ (.inl (1, .inr (.inl f)) :: tl2)), e + 1))) (K : Go X 11 mL_law (1230, bs i (zset 6 (.int (nI 0)) (zset 5 (.int (nI 1)) T)), [], (cc A c1 c2 c3 c4 c5 c6 c7 c8 ++ (mm B2 (nI 1) u2 u3 u4 u5 u6 ++ (.inl (1, .inr (.inl f)) :: tl2)), e + 1)) o) : Go X 11 mL_law (633, bs i T, [], (cc A c1 c2 c3 c4 c5 c6 c7 c8 ++ (mm B t1 t2 t3 t4 t5 t6 ++ (.inl (1, .inr (.inl f)) :: tl)), e)) o := by
  have W : Go X 10 mL_find (0, [(0, .ref 0), (1, .int x1), (2, .ref 42)], [], (cc A c1 c2 c3 c4 c5 c6 c7 c8 ++ (mm B t1 t2 t3 t4 t5 t6 ++ (.inl (1, .inr (.inl f)) :: tl)), e)) (.inl (some (.int (nI 1))), (cc A c1 c2 c3 c4 c5 c6 c7 c8 ++ (mm B t1 t2 t3 t4 t5 t6 ++ (.inl (1, .inr (.inl f)) :: tl)), e + 1)) := by
    repeat (first
      | exact go_ret rfl rfl rfl rfl
      | refine go_h rfl rfl rfl rfl G1 rfl rfl ?_
      | refine go_s rfl ?_)
  refine go_s rfl ?_
  refine go_s rfl ?_
  refine go_s rfl ?_
  refine go_s rfl ?_
  refine go_add rfl ?_
  refine go_isc rfl (by omega) a1 ?_
  refine go_s rfl ?_
  refine go_ci rfl rfl rfl rfl rfl W ?_
  refine go_i5 rfl ?_
  refine go_s rfl ?_
  refine go_s rfl ?_
  refine go_s rfl ?_
  refine go_s rfl ?_
  refine go_add rfl ?_
  refine go_isc rfl (by omega) a1 ?_
  refine go_ci rfl rfl rfl rfl rfl G3 ?_
  refine go_i6 rfl ?_
  refine go_s rfl ?_
  refine go_ci rfl rfl rfl rfl rfl n_thrown ?_
  refine go_l5 rfl (zget_sne (by decide) rfl _ (zget_set _ _ _)) ?_
  refine go_icT rfl (by dsimp only [ncd]; omega) ?_
  refine go_l5 rfl (zget_sne (by decide) rfl _ (zget_set _ _ _)) ?_
  refine go_ifT rfl (by dsimp only [ncd]; omega) ?_
  refine go_s rfl ?_
  exact K
set_option maxRecDepth 20000 in
theorem lw_set_v (hi : i + 7 ≤ X.1 ∧ X.1 ≤ 3584) (a1 : X.2 (i + 1) = x1) (G1 : Go X 9 mX3_set (0, [(0, .ref 0), (1, .int x1)], [], (cc A c1 c2 c3 c4 c5 c6 c7 c8 ++ (mm B t1 t2 t3 t4 t5 t6 ++ (.inl (1, .inr (.inl f)) :: tl)), e)) (.inl (some (.int v)), (cc A2 d1 d2 d3 d4 d5 d6 d7 d8 ++ (mm B t1 t2 t3 t4 t5 t6 ++ (.inl (1, .inr (.inl f)) :: tl)), e))) (G3 : Go X 10 mX4_set (0, [(0, .ref 36), (1, .int x1)], [], (cc A2 d1 d2 d3 d4 d5 d6 d7 d8 ++ (mm B t1 t2 t3 t4 t5 t6 ++ (.inl (1, .inr (.inl (vp_updL f 0 v.toInt64))) :: tl)), e)) (.inl (some (.int v)), (cc A2 d1 d2 d3 d4 d5 d6 d7 d8 ++ (mm B2 (nI 0) u2 u3 u4 u5 u6 ++ (.inl (1, .inr (.inl (vp_updL f 0 v.toInt64))) :: tl2)), e))) (K : Go X 11 mL_law (1230, bs i (zset 6 (.int v) (zset 5 (.int (nI 0)) T)), [], (cc A2 d1 d2 d3 d4 d5 d6 d7 d8 ++ (mm B2 (nI 0) u2 u3 u4 u5 u6 ++ (.inl (1, .inr (.inl (vp_updL f 0 v.toInt64))) :: tl2)), e)) o) : Go X 11 mL_law (689, bs i T, [], (cc A c1 c2 c3 c4 c5 c6 c7 c8 ++ (mm B t1 t2 t3 t4 t5 t6 ++ (.inl (1, .inr (.inl f)) :: tl)), e)) o := by
  have W : Go X 10 mL_set (0, [(0, .ref 0), (1, .int x1), (2, .ref 42)], [], (cc A c1 c2 c3 c4 c5 c6 c7 c8 ++ (mm B t1 t2 t3 t4 t5 t6 ++ (.inl (1, .inr (.inl f)) :: tl)), e)) (.inl (some (.int (nI 0))), (cc A2 d1 d2 d3 d4 d5 d6 d7 d8 ++ (mm B t1 t2 t3 t4 t5 t6 ++ (.inl (1, .inr (.inl (vp_updL f 0 v.toInt64))) :: tl)), e)) := by
    repeat (first
      | exact go_ret rfl rfl rfl rfl
      | refine go_ci rfl rfl rfl rfl rfl G1 ?_
      | refine go_las (H2 := cc A2 d1 d2 d3 d4 d5 d6 d7 d8 ++ (mm B t1 t2 t3 t4 t5 t6 ++ (.inl (1, .inr (.inl (vp_updL f 0 v.toInt64))) :: tl))) rfl rfl rfl ?_
      | refine go_ifT rfl (by dsimp only [ncd]; omega) ?_
      | refine go_ifF rfl (by dsimp only [ncd]; omega) ?_
      | refine go_s rfl ?_)
  refine go_s rfl ?_
  refine go_s rfl ?_
  refine go_s rfl ?_
  refine go_s rfl ?_
  refine go_add rfl ?_
  refine go_isc rfl (by omega) a1 ?_
  refine go_s rfl ?_
  refine go_ci rfl rfl rfl rfl rfl W ?_
  refine go_i5 rfl ?_
  refine go_s rfl ?_
  refine go_s rfl ?_
  refine go_s rfl ?_
  refine go_s rfl ?_
  refine go_add rfl ?_
  refine go_isc rfl (by omega) a1 ?_
  refine go_ci rfl rfl rfl rfl rfl G3 ?_
  refine go_i6 rfl ?_
  refine go_s rfl ?_
  refine go_ci rfl rfl rfl rfl rfl n_thrown ?_
  refine go_l5 rfl (zget_sne (by decide) rfl _ (zget_set _ _ _)) ?_
  refine go_icT rfl (by dsimp only [ncd]; omega) ?_
  refine go_l5 rfl (zget_sne (by decide) rfl _ (zget_set _ _ _)) ?_
  refine go_ifF rfl (by dsimp only [ncd]; omega) ?_
  refine go_s rfl ?_
  refine go_s rfl ?_
  refine go_lal rfl rfl rfl ?_
  refine go_l6 rfl (zget_set _ _ _) ?_
  refine go_s rfl ?_
  refine go_lcmp rfl ?_
  refine go_ifT rfl (by dsimp only [ncd]; omega) ?_
  refine go_s rfl ?_
  exact K
set_option maxRecDepth 20000 in
theorem lw_set_x1 (hi : i + 7 ≤ X.1 ∧ X.1 ≤ 3584) (a1 : X.2 (i + 1) = x1) (G1 : Go X 9 mX3_set (0, [(0, .ref 0), (1, .int x1)], [], (cc A c1 c2 c3 c4 c5 c6 c7 c8 ++ (mm B t1 t2 t3 t4 t5 t6 ++ (.inl (1, .inr (.inl f)) :: tl)), e)) (.inr 5, (cc A c1 c2 c3 c4 c5 c6 c7 c8 ++ (mm B t1 t2 t3 t4 t5 t6 ++ (.inl (1, .inr (.inl f)) :: tl)), e + 1))) (G3 : Go X 10 mX4_set (0, [(0, .ref 36), (1, .int x1)], [], (cc A c1 c2 c3 c4 c5 c6 c7 c8 ++ (mm B t1 t2 t3 t4 t5 t6 ++ (.inl (1, .inr (.inl f)) :: tl)), e + 1)) (.inl (some (.int (nI 0))), (cc A c1 c2 c3 c4 c5 c6 c7 c8 ++ (mm B2 (nI 1) u2 u3 u4 u5 u6 ++ (.inl (1, .inr (.inl f)) :: tl2)), e + 1))) (K : Go X 11 mL_law (1230, bs i (zset 6 (.int (nI 0)) (zset 5 (.int (nI 1)) T)), [], (cc A c1 c2 c3 c4 c5 c6 c7 c8 ++ (mm B2 (nI 1) u2 u3 u4 u5 u6 ++ (.inl (1, .inr (.inl f)) :: tl2)), e + 1)) o) : Go X 11 mL_law (689, bs i T, [], (cc A c1 c2 c3 c4 c5 c6 c7 c8 ++ (mm B t1 t2 t3 t4 t5 t6 ++ (.inl (1, .inr (.inl f)) :: tl)), e)) o := by
  have W : Go X 10 mL_set (0, [(0, .ref 0), (1, .int x1), (2, .ref 42)], [], (cc A c1 c2 c3 c4 c5 c6 c7 c8 ++ (mm B t1 t2 t3 t4 t5 t6 ++ (.inl (1, .inr (.inl f)) :: tl)), e)) (.inl (some (.int (nI 1))), (cc A c1 c2 c3 c4 c5 c6 c7 c8 ++ (mm B t1 t2 t3 t4 t5 t6 ++ (.inl (1, .inr (.inl f)) :: tl)), e + 1)) := by
    repeat (first
      | exact go_ret rfl rfl rfl rfl
      | refine go_h rfl rfl rfl rfl G1 rfl rfl ?_
      | refine go_s rfl ?_)
  refine go_s rfl ?_
  refine go_s rfl ?_
  refine go_s rfl ?_
  refine go_s rfl ?_
  refine go_add rfl ?_
  refine go_isc rfl (by omega) a1 ?_
  refine go_s rfl ?_
  refine go_ci rfl rfl rfl rfl rfl W ?_
  refine go_i5 rfl ?_
  refine go_s rfl ?_
  refine go_s rfl ?_
  refine go_s rfl ?_
  refine go_s rfl ?_
  refine go_add rfl ?_
  refine go_isc rfl (by omega) a1 ?_
  refine go_ci rfl rfl rfl rfl rfl G3 ?_
  refine go_i6 rfl ?_
  refine go_s rfl ?_
  refine go_ci rfl rfl rfl rfl rfl n_thrown ?_
  refine go_l5 rfl (zget_sne (by decide) rfl _ (zget_set _ _ _)) ?_
  refine go_icT rfl (by dsimp only [ncd]; omega) ?_
  refine go_l5 rfl (zget_sne (by decide) rfl _ (zget_set _ _ _)) ?_
  refine go_ifT rfl (by dsimp only [ncd]; omega) ?_
  refine go_s rfl ?_
  exact K
set_option maxRecDepth 20000 in
theorem lw_peal_v (hi : i + 7 ≤ X.1 ∧ X.1 ≤ 3584) (G1 : Go X 9 mX3_peal (0, [(0, .ref 0)], [], (cc A c1 c2 c3 c4 c5 c6 c7 c8 ++ (mm B t1 t2 t3 t4 t5 t6 ++ (.inl (1, .inr (.inl f)) :: tl)), e)) (.inl (some (.int v)), (cc A2 d1 d2 d3 d4 d5 d6 d7 d8 ++ (mm B t1 t2 t3 t4 t5 t6 ++ (.inl (1, .inr (.inl f)) :: tl)), e))) (G3 : Go X 10 mX4_peal (0, [(0, .ref 36)], [], (cc A2 d1 d2 d3 d4 d5 d6 d7 d8 ++ (mm B t1 t2 t3 t4 t5 t6 ++ (.inl (1, .inr (.inl (vp_updL f 0 v.toInt64))) :: tl)), e)) (.inl (some (.int v)), (cc A2 d1 d2 d3 d4 d5 d6 d7 d8 ++ (mm B2 (nI 0) u2 u3 u4 u5 u6 ++ (.inl (1, .inr (.inl (vp_updL f 0 v.toInt64))) :: tl2)), e))) (K : Go X 11 mL_law (1230, bs i (zset 6 (.int v) (zset 5 (.int (nI 0)) T)), [], (cc A2 d1 d2 d3 d4 d5 d6 d7 d8 ++ (mm B2 (nI 0) u2 u3 u4 u5 u6 ++ (.inl (1, .inr (.inl (vp_updL f 0 v.toInt64))) :: tl2)), e)) o) : Go X 11 mL_law (745, bs i T, [], (cc A c1 c2 c3 c4 c5 c6 c7 c8 ++ (mm B t1 t2 t3 t4 t5 t6 ++ (.inl (1, .inr (.inl f)) :: tl)), e)) o := by
  have W : Go X 10 mL_peal (0, [(0, .ref 0), (1, .ref 42)], [], (cc A c1 c2 c3 c4 c5 c6 c7 c8 ++ (mm B t1 t2 t3 t4 t5 t6 ++ (.inl (1, .inr (.inl f)) :: tl)), e)) (.inl (some (.int (nI 0))), (cc A2 d1 d2 d3 d4 d5 d6 d7 d8 ++ (mm B t1 t2 t3 t4 t5 t6 ++ (.inl (1, .inr (.inl (vp_updL f 0 v.toInt64))) :: tl)), e)) := by
    repeat (first
      | exact go_ret rfl rfl rfl rfl
      | refine go_ci rfl rfl rfl rfl rfl G1 ?_
      | refine go_las (H2 := cc A2 d1 d2 d3 d4 d5 d6 d7 d8 ++ (mm B t1 t2 t3 t4 t5 t6 ++ (.inl (1, .inr (.inl (vp_updL f 0 v.toInt64))) :: tl))) rfl rfl rfl ?_
      | refine go_ifT rfl (by dsimp only [ncd]; omega) ?_
      | refine go_ifF rfl (by dsimp only [ncd]; omega) ?_
      | refine go_s rfl ?_)
  refine go_s rfl ?_
  refine go_s rfl ?_
  refine go_ci rfl rfl rfl rfl rfl W ?_
  refine go_i5 rfl ?_
  refine go_s rfl ?_
  refine go_ci rfl rfl rfl rfl rfl G3 ?_
  refine go_i6 rfl ?_
  refine go_s rfl ?_
  refine go_ci rfl rfl rfl rfl rfl n_thrown ?_
  refine go_l5 rfl (zget_sne (by decide) rfl _ (zget_set _ _ _)) ?_
  refine go_icT rfl (by dsimp only [ncd]; omega) ?_
  refine go_l5 rfl (zget_sne (by decide) rfl _ (zget_set _ _ _)) ?_
  refine go_ifF rfl (by dsimp only [ncd]; omega) ?_
  refine go_s rfl ?_
  refine go_s rfl ?_
  refine go_lal rfl rfl rfl ?_
  refine go_l6 rfl (zget_set _ _ _) ?_
  refine go_s rfl ?_
  refine go_lcmp rfl ?_
  refine go_ifT rfl (by dsimp only [ncd]; omega) ?_
  refine go_s rfl ?_
  exact K
set_option maxRecDepth 20000 in
theorem lw_peal_x1 (hi : i + 7 ≤ X.1 ∧ X.1 ≤ 3584) (G1 : Go X 9 mX3_peal (0, [(0, .ref 0)], [], (cc A c1 c2 c3 c4 c5 c6 c7 c8 ++ (mm B t1 t2 t3 t4 t5 t6 ++ (.inl (1, .inr (.inl f)) :: tl)), e)) (.inr 6, (cc A c1 c2 c3 c4 c5 c6 c7 c8 ++ (mm B t1 t2 t3 t4 t5 t6 ++ (.inl (1, .inr (.inl f)) :: tl)), e + 1))) (G3 : Go X 10 mX4_peal (0, [(0, .ref 36)], [], (cc A c1 c2 c3 c4 c5 c6 c7 c8 ++ (mm B t1 t2 t3 t4 t5 t6 ++ (.inl (1, .inr (.inl f)) :: tl)), e + 1)) (.inl (some (.int (nI 0))), (cc A c1 c2 c3 c4 c5 c6 c7 c8 ++ (mm B2 (nI 1) u2 u3 u4 u5 u6 ++ (.inl (1, .inr (.inl f)) :: tl2)), e + 1))) (K : Go X 11 mL_law (1230, bs i (zset 6 (.int (nI 0)) (zset 5 (.int (nI 1)) T)), [], (cc A c1 c2 c3 c4 c5 c6 c7 c8 ++ (mm B2 (nI 1) u2 u3 u4 u5 u6 ++ (.inl (1, .inr (.inl f)) :: tl2)), e + 1)) o) : Go X 11 mL_law (745, bs i T, [], (cc A c1 c2 c3 c4 c5 c6 c7 c8 ++ (mm B t1 t2 t3 t4 t5 t6 ++ (.inl (1, .inr (.inl f)) :: tl)), e)) o := by
  have W : Go X 10 mL_peal (0, [(0, .ref 0), (1, .ref 42)], [], (cc A c1 c2 c3 c4 c5 c6 c7 c8 ++ (mm B t1 t2 t3 t4 t5 t6 ++ (.inl (1, .inr (.inl f)) :: tl)), e)) (.inl (some (.int (nI 1))), (cc A c1 c2 c3 c4 c5 c6 c7 c8 ++ (mm B t1 t2 t3 t4 t5 t6 ++ (.inl (1, .inr (.inl f)) :: tl)), e + 1)) := by
    repeat (first
      | exact go_ret rfl rfl rfl rfl
      | refine go_h rfl rfl rfl rfl G1 rfl rfl ?_
      | refine go_s rfl ?_)
  refine go_s rfl ?_
  refine go_s rfl ?_
  refine go_ci rfl rfl rfl rfl rfl W ?_
  refine go_i5 rfl ?_
  refine go_s rfl ?_
  refine go_ci rfl rfl rfl rfl rfl G3 ?_
  refine go_i6 rfl ?_
  refine go_s rfl ?_
  refine go_ci rfl rfl rfl rfl rfl n_thrown ?_
  refine go_l5 rfl (zget_sne (by decide) rfl _ (zget_set _ _ _)) ?_
  refine go_icT rfl (by dsimp only [ncd]; omega) ?_
  refine go_l5 rfl (zget_sne (by decide) rfl _ (zget_set _ _ _)) ?_
  refine go_ifT rfl (by dsimp only [ncd]; omega) ?_
  refine go_s rfl ?_
  exact K
set_option maxRecDepth 20000 in
theorem lw_add_v (hi : i + 7 ≤ X.1 ∧ X.1 ≤ 3584) (a1 : X.2 (i + 1) = x1) (a2 : X.2 (i + 2) = x2) (G1 : Go X 9 mX3_add (0, [(0, .ref 0), (1, .int x1), (2, .int x2)], [], (cc A c1 c2 c3 c4 c5 c6 c7 c8 ++ (mm B t1 t2 t3 t4 t5 t6 ++ (.inl (1, .inr (.inl f)) :: tl)), e)) (.inl (some (.int v)), (cc A2 d1 d2 d3 d4 d5 d6 d7 d8 ++ (mm B t1 t2 t3 t4 t5 t6 ++ (.inl (1, .inr (.inl f)) :: tl)), e))) (G3 : Go X 10 mX4_add (0, [(0, .ref 36), (1, .int x1), (2, .int x2)], [], (cc A2 d1 d2 d3 d4 d5 d6 d7 d8 ++ (mm B t1 t2 t3 t4 t5 t6 ++ (.inl (1, .inr (.inl (vp_updL f 0 v.toInt64))) :: tl)), e)) (.inl (some (.int v)), (cc A2 d1 d2 d3 d4 d5 d6 d7 d8 ++ (mm B2 (nI 0) u2 u3 u4 u5 u6 ++ (.inl (1, .inr (.inl (vp_updL f 0 v.toInt64))) :: tl2)), e))) (K : Go X 11 mL_law (1230, bs i (zset 6 (.int v) (zset 5 (.int (nI 0)) T)), [], (cc A2 d1 d2 d3 d4 d5 d6 d7 d8 ++ (mm B2 (nI 0) u2 u3 u4 u5 u6 ++ (.inl (1, .inr (.inl (vp_updL f 0 v.toInt64))) :: tl2)), e)) o) : Go X 11 mL_law (789, bs i T, [], (cc A c1 c2 c3 c4 c5 c6 c7 c8 ++ (mm B t1 t2 t3 t4 t5 t6 ++ (.inl (1, .inr (.inl f)) :: tl)), e)) o := by
  have W : Go X 10 mL_add (0, [(0, .ref 0), (1, .int x1), (2, .int x2), (3, .ref 42)], [], (cc A c1 c2 c3 c4 c5 c6 c7 c8 ++ (mm B t1 t2 t3 t4 t5 t6 ++ (.inl (1, .inr (.inl f)) :: tl)), e)) (.inl (some (.int (nI 0))), (cc A2 d1 d2 d3 d4 d5 d6 d7 d8 ++ (mm B t1 t2 t3 t4 t5 t6 ++ (.inl (1, .inr (.inl (vp_updL f 0 v.toInt64))) :: tl)), e)) := by
    repeat (first
      | exact go_ret rfl rfl rfl rfl
      | refine go_ci rfl rfl rfl rfl rfl G1 ?_
      | refine go_las (H2 := cc A2 d1 d2 d3 d4 d5 d6 d7 d8 ++ (mm B t1 t2 t3 t4 t5 t6 ++ (.inl (1, .inr (.inl (vp_updL f 0 v.toInt64))) :: tl))) rfl rfl rfl ?_
      | refine go_ifT rfl (by dsimp only [ncd]; omega) ?_
      | refine go_ifF rfl (by dsimp only [ncd]; omega) ?_
      | refine go_s rfl ?_)
  refine go_s rfl ?_
  refine go_s rfl ?_
  refine go_s rfl ?_
  refine go_s rfl ?_
  refine go_add rfl ?_
  refine go_isc rfl (by omega) a1 ?_
  refine go_s rfl ?_
  refine go_s rfl ?_
  refine go_s rfl ?_
  refine go_add rfl ?_
  refine go_isc rfl (by omega) a2 ?_
  refine go_s rfl ?_
  refine go_ci rfl rfl rfl rfl rfl W ?_
  refine go_i5 rfl ?_
  refine go_s rfl ?_
  refine go_s rfl ?_
  refine go_s rfl ?_
  refine go_s rfl ?_
  refine go_add rfl ?_
  refine go_isc rfl (by omega) a1 ?_
  refine go_s rfl ?_
  refine go_s rfl ?_
  refine go_s rfl ?_
  refine go_add rfl ?_
  refine go_isc rfl (by omega) a2 ?_
  refine go_ci rfl rfl rfl rfl rfl G3 ?_
  refine go_i6 rfl ?_
  refine go_s rfl ?_
  refine go_ci rfl rfl rfl rfl rfl n_thrown ?_
  refine go_l5 rfl (zget_sne (by decide) rfl _ (zget_set _ _ _)) ?_
  refine go_icT rfl (by dsimp only [ncd]; omega) ?_
  refine go_l5 rfl (zget_sne (by decide) rfl _ (zget_set _ _ _)) ?_
  refine go_ifF rfl (by dsimp only [ncd]; omega) ?_
  refine go_s rfl ?_
  refine go_s rfl ?_
  refine go_lal rfl rfl rfl ?_
  refine go_l6 rfl (zget_set _ _ _) ?_
  refine go_s rfl ?_
  refine go_lcmp rfl ?_
  refine go_ifT rfl (by dsimp only [ncd]; omega) ?_
  refine go_s rfl ?_
  exact K
set_option maxRecDepth 20000 in
theorem lw_add_x1 (hi : i + 7 ≤ X.1 ∧ X.1 ≤ 3584) (a1 : X.2 (i + 1) = x1) (a2 : X.2 (i + 2) = x2) (G1 : Go X 9 mX3_add (0, [(0, .ref 0), (1, .int x1), (2, .int x2)], [], (cc A c1 c2 c3 c4 c5 c6 c7 c8 ++ (mm B t1 t2 t3 t4 t5 t6 ++ (.inl (1, .inr (.inl f)) :: tl)), e)) (.inr 7, (cc A c1 c2 c3 c4 c5 c6 c7 c8 ++ (mm B t1 t2 t3 t4 t5 t6 ++ (.inl (1, .inr (.inl f)) :: tl)), e + 1))) (G3 : Go X 10 mX4_add (0, [(0, .ref 36), (1, .int x1), (2, .int x2)], [], (cc A c1 c2 c3 c4 c5 c6 c7 c8 ++ (mm B t1 t2 t3 t4 t5 t6 ++ (.inl (1, .inr (.inl f)) :: tl)), e + 1)) (.inl (some (.int (nI 0))), (cc A c1 c2 c3 c4 c5 c6 c7 c8 ++ (mm B2 (nI 1) u2 u3 u4 u5 u6 ++ (.inl (1, .inr (.inl f)) :: tl2)), e + 1))) (K : Go X 11 mL_law (1230, bs i (zset 6 (.int (nI 0)) (zset 5 (.int (nI 1)) T)), [], (cc A c1 c2 c3 c4 c5 c6 c7 c8 ++ (mm B2 (nI 1) u2 u3 u4 u5 u6 ++ (.inl (1, .inr (.inl f)) :: tl2)), e + 1)) o) : Go X 11 mL_law (789, bs i T, [], (cc A c1 c2 c3 c4 c5 c6 c7 c8 ++ (mm B t1 t2 t3 t4 t5 t6 ++ (.inl (1, .inr (.inl f)) :: tl)), e)) o := by
  have W : Go X 10 mL_add (0, [(0, .ref 0), (1, .int x1), (2, .int x2), (3, .ref 42)], [], (cc A c1 c2 c3 c4 c5 c6 c7 c8 ++ (mm B t1 t2 t3 t4 t5 t6 ++ (.inl (1, .inr (.inl f)) :: tl)), e)) (.inl (some (.int (nI 1))), (cc A c1 c2 c3 c4 c5 c6 c7 c8 ++ (mm B t1 t2 t3 t4 t5 t6 ++ (.inl (1, .inr (.inl f)) :: tl)), e + 1)) := by
    repeat (first
      | exact go_ret rfl rfl rfl rfl
      | refine go_h rfl rfl rfl rfl G1 rfl rfl ?_
      | refine go_s rfl ?_)
  refine go_s rfl ?_
  refine go_s rfl ?_
  refine go_s rfl ?_
  refine go_s rfl ?_
  refine go_add rfl ?_
  refine go_isc rfl (by omega) a1 ?_
  refine go_s rfl ?_
  refine go_s rfl ?_
  refine go_s rfl ?_
  refine go_add rfl ?_
  refine go_isc rfl (by omega) a2 ?_
  refine go_s rfl ?_
  refine go_ci rfl rfl rfl rfl rfl W ?_
  refine go_i5 rfl ?_
  refine go_s rfl ?_
  refine go_s rfl ?_
  refine go_s rfl ?_
  refine go_s rfl ?_
  refine go_add rfl ?_
  refine go_isc rfl (by omega) a1 ?_
  refine go_s rfl ?_
  refine go_s rfl ?_
  refine go_s rfl ?_
  refine go_add rfl ?_
  refine go_isc rfl (by omega) a2 ?_
  refine go_ci rfl rfl rfl rfl rfl G3 ?_
  refine go_i6 rfl ?_
  refine go_s rfl ?_
  refine go_ci rfl rfl rfl rfl rfl n_thrown ?_
  refine go_l5 rfl (zget_sne (by decide) rfl _ (zget_set _ _ _)) ?_
  refine go_icT rfl (by dsimp only [ncd]; omega) ?_
  refine go_l5 rfl (zget_sne (by decide) rfl _ (zget_set _ _ _)) ?_
  refine go_ifT rfl (by dsimp only [ncd]; omega) ?_
  refine go_s rfl ?_
  exact K
set_option maxRecDepth 20000 in
theorem lw_add_x2 (hi : i + 7 ≤ X.1 ∧ X.1 ≤ 3584) (a1 : X.2 (i + 1) = x1) (a2 : X.2 (i + 2) = x2) (G1 : Go X 9 mX3_add (0, [(0, .ref 0), (1, .int x1), (2, .int x2)], [], (cc A c1 c2 c3 c4 c5 c6 c7 c8 ++ (mm B t1 t2 t3 t4 t5 t6 ++ (.inl (1, .inr (.inl f)) :: tl)), e)) (.inr 6, (cc A c1 c2 c3 c4 c5 c6 c7 c8 ++ (mm B t1 t2 t3 t4 t5 t6 ++ (.inl (1, .inr (.inl f)) :: tl)), e + 1))) (G3 : Go X 10 mX4_add (0, [(0, .ref 36), (1, .int x1), (2, .int x2)], [], (cc A c1 c2 c3 c4 c5 c6 c7 c8 ++ (mm B t1 t2 t3 t4 t5 t6 ++ (.inl (1, .inr (.inl f)) :: tl)), e + 1)) (.inl (some (.int (nI 0))), (cc A c1 c2 c3 c4 c5 c6 c7 c8 ++ (mm B2 (nI 2) u2 u3 u4 u5 u6 ++ (.inl (1, .inr (.inl f)) :: tl2)), e + 1))) (K : Go X 11 mL_law (1230, bs i (zset 6 (.int (nI 0)) (zset 5 (.int (nI 2)) T)), [], (cc A c1 c2 c3 c4 c5 c6 c7 c8 ++ (mm B2 (nI 2) u2 u3 u4 u5 u6 ++ (.inl (1, .inr (.inl f)) :: tl2)), e + 1)) o) : Go X 11 mL_law (789, bs i T, [], (cc A c1 c2 c3 c4 c5 c6 c7 c8 ++ (mm B t1 t2 t3 t4 t5 t6 ++ (.inl (1, .inr (.inl f)) :: tl)), e)) o := by
  have W : Go X 10 mL_add (0, [(0, .ref 0), (1, .int x1), (2, .int x2), (3, .ref 42)], [], (cc A c1 c2 c3 c4 c5 c6 c7 c8 ++ (mm B t1 t2 t3 t4 t5 t6 ++ (.inl (1, .inr (.inl f)) :: tl)), e)) (.inl (some (.int (nI 2))), (cc A c1 c2 c3 c4 c5 c6 c7 c8 ++ (mm B t1 t2 t3 t4 t5 t6 ++ (.inl (1, .inr (.inl f)) :: tl)), e + 1)) := by
    repeat (first
      | exact go_ret rfl rfl rfl rfl
      | refine go_h rfl rfl rfl rfl G1 rfl rfl ?_
      | refine go_s rfl ?_)
  refine go_s rfl ?_
  refine go_s rfl ?_
  refine go_s rfl ?_
  refine go_s rfl ?_
  refine go_add rfl ?_
  refine go_isc rfl (by omega) a1 ?_
  refine go_s rfl ?_
  refine go_s rfl ?_
  refine go_s rfl ?_
  refine go_add rfl ?_
  refine go_isc rfl (by omega) a2 ?_
  refine go_s rfl ?_
  refine go_ci rfl rfl rfl rfl rfl W ?_
  refine go_i5 rfl ?_
  refine go_s rfl ?_
  refine go_s rfl ?_
  refine go_s rfl ?_
  refine go_s rfl ?_
  refine go_add rfl ?_
  refine go_isc rfl (by omega) a1 ?_
  refine go_s rfl ?_
  refine go_s rfl ?_
  refine go_s rfl ?_
  refine go_add rfl ?_
  refine go_isc rfl (by omega) a2 ?_
  refine go_ci rfl rfl rfl rfl rfl G3 ?_
  refine go_i6 rfl ?_
  refine go_s rfl ?_
  refine go_ci rfl rfl rfl rfl rfl n_thrown ?_
  refine go_l5 rfl (zget_sne (by decide) rfl _ (zget_set _ _ _)) ?_
  refine go_icT rfl (by dsimp only [ncd]; omega) ?_
  refine go_l5 rfl (zget_sne (by decide) rfl _ (zget_set _ _ _)) ?_
  refine go_ifT rfl (by dsimp only [ncd]; omega) ?_
  refine go_s rfl ?_
  exact K
set_option maxRecDepth 20000 in
theorem lw_play_v (hi : i + 7 ≤ X.1 ∧ X.1 ≤ 3584) (a1 : X.2 (i + 1) = x1) (G1 : Go X 9 mX3_play (0, [(0, .ref 0), (1, .int x1)], [], (cc A c1 c2 c3 c4 c5 c6 c7 c8 ++ (mm B t1 t2 t3 t4 t5 t6 ++ (.inl (1, .inr (.inl f)) :: tl)), e)) (.inl (some (.int v)), (cc A2 d1 d2 d3 d4 d5 d6 d7 d8 ++ (mm B t1 t2 t3 t4 t5 t6 ++ (.inl (1, .inr (.inl f)) :: tl)), e))) (G3 : Go X 10 mX4_play (0, [(0, .ref 36), (1, .int x1)], [], (cc A2 d1 d2 d3 d4 d5 d6 d7 d8 ++ (mm B t1 t2 t3 t4 t5 t6 ++ (.inl (1, .inr (.inl (vp_updL f 0 v.toInt64))) :: tl)), e)) (.inl (some (.int v)), (cc A2 d1 d2 d3 d4 d5 d6 d7 d8 ++ (mm B2 (nI 0) u2 u3 u4 u5 u6 ++ (.inl (1, .inr (.inl (vp_updL f 0 v.toInt64))) :: tl2)), e))) (K : Go X 11 mL_law (1230, bs i (zset 6 (.int v) (zset 5 (.int (nI 0)) T)), [], (cc A2 d1 d2 d3 d4 d5 d6 d7 d8 ++ (mm B2 (nI 0) u2 u3 u4 u5 u6 ++ (.inl (1, .inr (.inl (vp_updL f 0 v.toInt64))) :: tl2)), e)) o) : Go X 11 mL_law (857, bs i T, [], (cc A c1 c2 c3 c4 c5 c6 c7 c8 ++ (mm B t1 t2 t3 t4 t5 t6 ++ (.inl (1, .inr (.inl f)) :: tl)), e)) o := by
  have W : Go X 10 mL_play (0, [(0, .ref 0), (1, .int x1), (2, .ref 42)], [], (cc A c1 c2 c3 c4 c5 c6 c7 c8 ++ (mm B t1 t2 t3 t4 t5 t6 ++ (.inl (1, .inr (.inl f)) :: tl)), e)) (.inl (some (.int (nI 0))), (cc A2 d1 d2 d3 d4 d5 d6 d7 d8 ++ (mm B t1 t2 t3 t4 t5 t6 ++ (.inl (1, .inr (.inl (vp_updL f 0 v.toInt64))) :: tl)), e)) := by
    repeat (first
      | exact go_ret rfl rfl rfl rfl
      | refine go_ci rfl rfl rfl rfl rfl G1 ?_
      | refine go_las (H2 := cc A2 d1 d2 d3 d4 d5 d6 d7 d8 ++ (mm B t1 t2 t3 t4 t5 t6 ++ (.inl (1, .inr (.inl (vp_updL f 0 v.toInt64))) :: tl))) rfl rfl rfl ?_
      | refine go_ifT rfl (by dsimp only [ncd]; omega) ?_
      | refine go_ifF rfl (by dsimp only [ncd]; omega) ?_
      | refine go_s rfl ?_)
  refine go_s rfl ?_
  refine go_s rfl ?_
  refine go_s rfl ?_
  refine go_s rfl ?_
  refine go_add rfl ?_
  refine go_isc rfl (by omega) a1 ?_
  refine go_s rfl ?_
  refine go_ci rfl rfl rfl rfl rfl W ?_
  refine go_i5 rfl ?_
  refine go_s rfl ?_
  refine go_s rfl ?_
  refine go_s rfl ?_
  refine go_s rfl ?_
  refine go_add rfl ?_
  refine go_isc rfl (by omega) a1 ?_
  refine go_ci rfl rfl rfl rfl rfl G3 ?_
  refine go_i6 rfl ?_
  refine go_s rfl ?_
  refine go_ci rfl rfl rfl rfl rfl n_thrown ?_
  refine go_l5 rfl (zget_sne (by decide) rfl _ (zget_set _ _ _)) ?_
  refine go_icT rfl (by dsimp only [ncd]; omega) ?_
  refine go_l5 rfl (zget_sne (by decide) rfl _ (zget_set _ _ _)) ?_
  refine go_ifF rfl (by dsimp only [ncd]; omega) ?_
  refine go_s rfl ?_
  refine go_s rfl ?_
  refine go_lal rfl rfl rfl ?_
  refine go_l6 rfl (zget_set _ _ _) ?_
  refine go_s rfl ?_
  refine go_lcmp rfl ?_
  refine go_ifT rfl (by dsimp only [ncd]; omega) ?_
  refine go_s rfl ?_
  exact K
set_option maxRecDepth 20000 in
theorem lw_play_x1 (hi : i + 7 ≤ X.1 ∧ X.1 ≤ 3584) (a1 : X.2 (i + 1) = x1) (G1 : Go X 9 mX3_play (0, [(0, .ref 0), (1, .int x1)], [], (cc A c1 c2 c3 c4 c5 c6 c7 c8 ++ (mm B t1 t2 t3 t4 t5 t6 ++ (.inl (1, .inr (.inl f)) :: tl)), e)) (.inr 7, (cc A c1 c2 c3 c4 c5 c6 c7 c8 ++ (mm B t1 t2 t3 t4 t5 t6 ++ (.inl (1, .inr (.inl f)) :: tl)), e + 1))) (G3 : Go X 10 mX4_play (0, [(0, .ref 36), (1, .int x1)], [], (cc A c1 c2 c3 c4 c5 c6 c7 c8 ++ (mm B t1 t2 t3 t4 t5 t6 ++ (.inl (1, .inr (.inl f)) :: tl)), e + 1)) (.inl (some (.int (nI 0))), (cc A c1 c2 c3 c4 c5 c6 c7 c8 ++ (mm B2 (nI 1) u2 u3 u4 u5 u6 ++ (.inl (1, .inr (.inl f)) :: tl2)), e + 1))) (K : Go X 11 mL_law (1230, bs i (zset 6 (.int (nI 0)) (zset 5 (.int (nI 1)) T)), [], (cc A c1 c2 c3 c4 c5 c6 c7 c8 ++ (mm B2 (nI 1) u2 u3 u4 u5 u6 ++ (.inl (1, .inr (.inl f)) :: tl2)), e + 1)) o) : Go X 11 mL_law (857, bs i T, [], (cc A c1 c2 c3 c4 c5 c6 c7 c8 ++ (mm B t1 t2 t3 t4 t5 t6 ++ (.inl (1, .inr (.inl f)) :: tl)), e)) o := by
  have W : Go X 10 mL_play (0, [(0, .ref 0), (1, .int x1), (2, .ref 42)], [], (cc A c1 c2 c3 c4 c5 c6 c7 c8 ++ (mm B t1 t2 t3 t4 t5 t6 ++ (.inl (1, .inr (.inl f)) :: tl)), e)) (.inl (some (.int (nI 1))), (cc A c1 c2 c3 c4 c5 c6 c7 c8 ++ (mm B t1 t2 t3 t4 t5 t6 ++ (.inl (1, .inr (.inl f)) :: tl)), e + 1)) := by
    repeat (first
      | exact go_ret rfl rfl rfl rfl
      | refine go_h rfl rfl rfl rfl G1 rfl rfl ?_
      | refine go_s rfl ?_)
  refine go_s rfl ?_
  refine go_s rfl ?_
  refine go_s rfl ?_
  refine go_s rfl ?_
  refine go_add rfl ?_
  refine go_isc rfl (by omega) a1 ?_
  refine go_s rfl ?_
  refine go_ci rfl rfl rfl rfl rfl W ?_
  refine go_i5 rfl ?_
  refine go_s rfl ?_
  refine go_s rfl ?_
  refine go_s rfl ?_
  refine go_s rfl ?_
  refine go_add rfl ?_
  refine go_isc rfl (by omega) a1 ?_
  refine go_ci rfl rfl rfl rfl rfl G3 ?_
  refine go_i6 rfl ?_
  refine go_s rfl ?_
  refine go_ci rfl rfl rfl rfl rfl n_thrown ?_
  refine go_l5 rfl (zget_sne (by decide) rfl _ (zget_set _ _ _)) ?_
  refine go_icT rfl (by dsimp only [ncd]; omega) ?_
  refine go_l5 rfl (zget_sne (by decide) rfl _ (zget_set _ _ _)) ?_
  refine go_ifT rfl (by dsimp only [ncd]; omega) ?_
  refine go_s rfl ?_
  exact K
set_option maxRecDepth 20000 in
theorem lw_told_v (hi : i + 7 ≤ X.1 ∧ X.1 ≤ 3584) (a1 : X.2 (i + 1) = x1) (a2 : X.2 (i + 2) = x2) (G1 : Go X 9 mX3_told (0, [(0, .ref 0), (1, .int x1), (2, .int x2)], [], (cc A c1 c2 c3 c4 c5 c6 c7 c8 ++ (mm B t1 t2 t3 t4 t5 t6 ++ (.inl (1, .inr (.inl f)) :: tl)), e)) (.inl (some (.int v)), (cc A2 d1 d2 d3 d4 d5 d6 d7 d8 ++ (mm B t1 t2 t3 t4 t5 t6 ++ (.inl (1, .inr (.inl f)) :: tl)), e))) (G3 : Go X 10 mX4_told (0, [(0, .ref 36), (1, .int x1), (2, .int x2)], [], (cc A2 d1 d2 d3 d4 d5 d6 d7 d8 ++ (mm B t1 t2 t3 t4 t5 t6 ++ (.inl (1, .inr (.inl (vp_updL f 0 v.toInt64))) :: tl)), e)) (.inl (some (.int v)), (cc A2 d1 d2 d3 d4 d5 d6 d7 d8 ++ (mm B2 (nI 0) u2 u3 u4 u5 u6 ++ (.inl (1, .inr (.inl (vp_updL f 0 v.toInt64))) :: tl2)), e))) (K : Go X 11 mL_law (1230, bs i (zset 6 (.int v) (zset 5 (.int (nI 0)) T)), [], (cc A2 d1 d2 d3 d4 d5 d6 d7 d8 ++ (mm B2 (nI 0) u2 u3 u4 u5 u6 ++ (.inl (1, .inr (.inl (vp_updL f 0 v.toInt64))) :: tl2)), e)) o) : Go X 11 mL_law (913, bs i T, [], (cc A c1 c2 c3 c4 c5 c6 c7 c8 ++ (mm B t1 t2 t3 t4 t5 t6 ++ (.inl (1, .inr (.inl f)) :: tl)), e)) o := by
  have W : Go X 10 mL_told (0, [(0, .ref 0), (1, .int x1), (2, .int x2), (3, .ref 42)], [], (cc A c1 c2 c3 c4 c5 c6 c7 c8 ++ (mm B t1 t2 t3 t4 t5 t6 ++ (.inl (1, .inr (.inl f)) :: tl)), e)) (.inl (some (.int (nI 0))), (cc A2 d1 d2 d3 d4 d5 d6 d7 d8 ++ (mm B t1 t2 t3 t4 t5 t6 ++ (.inl (1, .inr (.inl (vp_updL f 0 v.toInt64))) :: tl)), e)) := by
    repeat (first
      | exact go_ret rfl rfl rfl rfl
      | refine go_ci rfl rfl rfl rfl rfl G1 ?_
      | refine go_las (H2 := cc A2 d1 d2 d3 d4 d5 d6 d7 d8 ++ (mm B t1 t2 t3 t4 t5 t6 ++ (.inl (1, .inr (.inl (vp_updL f 0 v.toInt64))) :: tl))) rfl rfl rfl ?_
      | refine go_ifT rfl (by dsimp only [ncd]; omega) ?_
      | refine go_ifF rfl (by dsimp only [ncd]; omega) ?_
      | refine go_s rfl ?_)
  refine go_s rfl ?_
  refine go_s rfl ?_
  refine go_s rfl ?_
  refine go_s rfl ?_
  refine go_add rfl ?_
  refine go_isc rfl (by omega) a1 ?_
  refine go_s rfl ?_
  refine go_s rfl ?_
  refine go_s rfl ?_
  refine go_add rfl ?_
  refine go_isc rfl (by omega) a2 ?_
  refine go_s rfl ?_
  refine go_ci rfl rfl rfl rfl rfl W ?_
  refine go_i5 rfl ?_
  refine go_s rfl ?_
  refine go_s rfl ?_
  refine go_s rfl ?_
  refine go_s rfl ?_
  refine go_add rfl ?_
  refine go_isc rfl (by omega) a1 ?_
  refine go_s rfl ?_
  refine go_s rfl ?_
  refine go_s rfl ?_
  refine go_add rfl ?_
  refine go_isc rfl (by omega) a2 ?_
  refine go_ci rfl rfl rfl rfl rfl G3 ?_
  refine go_i6 rfl ?_
  refine go_s rfl ?_
  refine go_ci rfl rfl rfl rfl rfl n_thrown ?_
  refine go_l5 rfl (zget_sne (by decide) rfl _ (zget_set _ _ _)) ?_
  refine go_icT rfl (by dsimp only [ncd]; omega) ?_
  refine go_l5 rfl (zget_sne (by decide) rfl _ (zget_set _ _ _)) ?_
  refine go_ifF rfl (by dsimp only [ncd]; omega) ?_
  refine go_s rfl ?_
  refine go_s rfl ?_
  refine go_lal rfl rfl rfl ?_
  refine go_l6 rfl (zget_set _ _ _) ?_
  refine go_s rfl ?_
  refine go_lcmp rfl ?_
  refine go_ifT rfl (by dsimp only [ncd]; omega) ?_
  refine go_s rfl ?_
  exact K
set_option maxRecDepth 20000 in
theorem lw_told_x1 (hi : i + 7 ≤ X.1 ∧ X.1 ≤ 3584) (a1 : X.2 (i + 1) = x1) (a2 : X.2 (i + 2) = x2) (G1 : Go X 9 mX3_told (0, [(0, .ref 0), (1, .int x1), (2, .int x2)], [], (cc A c1 c2 c3 c4 c5 c6 c7 c8 ++ (mm B t1 t2 t3 t4 t5 t6 ++ (.inl (1, .inr (.inl f)) :: tl)), e)) (.inr 7, (cc A c1 c2 c3 c4 c5 c6 c7 c8 ++ (mm B t1 t2 t3 t4 t5 t6 ++ (.inl (1, .inr (.inl f)) :: tl)), e + 1))) (G3 : Go X 10 mX4_told (0, [(0, .ref 36), (1, .int x1), (2, .int x2)], [], (cc A c1 c2 c3 c4 c5 c6 c7 c8 ++ (mm B t1 t2 t3 t4 t5 t6 ++ (.inl (1, .inr (.inl f)) :: tl)), e + 1)) (.inl (some (.int (nI 0))), (cc A c1 c2 c3 c4 c5 c6 c7 c8 ++ (mm B2 (nI 1) u2 u3 u4 u5 u6 ++ (.inl (1, .inr (.inl f)) :: tl2)), e + 1))) (K : Go X 11 mL_law (1230, bs i (zset 6 (.int (nI 0)) (zset 5 (.int (nI 1)) T)), [], (cc A c1 c2 c3 c4 c5 c6 c7 c8 ++ (mm B2 (nI 1) u2 u3 u4 u5 u6 ++ (.inl (1, .inr (.inl f)) :: tl2)), e + 1)) o) : Go X 11 mL_law (913, bs i T, [], (cc A c1 c2 c3 c4 c5 c6 c7 c8 ++ (mm B t1 t2 t3 t4 t5 t6 ++ (.inl (1, .inr (.inl f)) :: tl)), e)) o := by
  have W : Go X 10 mL_told (0, [(0, .ref 0), (1, .int x1), (2, .int x2), (3, .ref 42)], [], (cc A c1 c2 c3 c4 c5 c6 c7 c8 ++ (mm B t1 t2 t3 t4 t5 t6 ++ (.inl (1, .inr (.inl f)) :: tl)), e)) (.inl (some (.int (nI 1))), (cc A c1 c2 c3 c4 c5 c6 c7 c8 ++ (mm B t1 t2 t3 t4 t5 t6 ++ (.inl (1, .inr (.inl f)) :: tl)), e + 1)) := by
    repeat (first
      | exact go_ret rfl rfl rfl rfl
      | refine go_h rfl rfl rfl rfl G1 rfl rfl ?_
      | refine go_s rfl ?_)
  refine go_s rfl ?_
  refine go_s rfl ?_
  refine go_s rfl ?_
  refine go_s rfl ?_
  refine go_add rfl ?_
  refine go_isc rfl (by omega) a1 ?_
  refine go_s rfl ?_
  refine go_s rfl ?_
  refine go_s rfl ?_
  refine go_add rfl ?_
  refine go_isc rfl (by omega) a2 ?_
  refine go_s rfl ?_
  refine go_ci rfl rfl rfl rfl rfl W ?_
  refine go_i5 rfl ?_
  refine go_s rfl ?_
  refine go_s rfl ?_
  refine go_s rfl ?_
  refine go_s rfl ?_
  refine go_add rfl ?_
  refine go_isc rfl (by omega) a1 ?_
  refine go_s rfl ?_
  refine go_s rfl ?_
  refine go_s rfl ?_
  refine go_add rfl ?_
  refine go_isc rfl (by omega) a2 ?_
  refine go_ci rfl rfl rfl rfl rfl G3 ?_
  refine go_i6 rfl ?_
  refine go_s rfl ?_
  refine go_ci rfl rfl rfl rfl rfl n_thrown ?_
  refine go_l5 rfl (zget_sne (by decide) rfl _ (zget_set _ _ _)) ?_
  refine go_icT rfl (by dsimp only [ncd]; omega) ?_
  refine go_l5 rfl (zget_sne (by decide) rfl _ (zget_set _ _ _)) ?_
  refine go_ifT rfl (by dsimp only [ncd]; omega) ?_
  refine go_s rfl ?_
  exact K
set_option maxRecDepth 20000 in
theorem lw_count_v (hi : i + 7 ≤ X.1 ∧ X.1 ≤ 3584) (a1 : X.2 (i + 1) = x1) (G1 : Go X 9 mX3_count (0, [(0, .ref 0), (1, .int x1)], [], (cc A c1 c2 c3 c4 c5 c6 c7 c8 ++ (mm B t1 t2 t3 t4 t5 t6 ++ (.inl (1, .inr (.inl f)) :: tl)), e)) (.inl (some (.int v)), (cc A2 d1 d2 d3 d4 d5 d6 d7 d8 ++ (mm B t1 t2 t3 t4 t5 t6 ++ (.inl (1, .inr (.inl f)) :: tl)), e))) (G3 : Go X 10 mX4_count (0, [(0, .ref 36), (1, .int x1)], [], (cc A2 d1 d2 d3 d4 d5 d6 d7 d8 ++ (mm B t1 t2 t3 t4 t5 t6 ++ (.inl (1, .inr (.inl (vp_updL f 0 v.toInt64))) :: tl)), e)) (.inl (some (.int v)), (cc A2 d1 d2 d3 d4 d5 d6 d7 d8 ++ (mm B2 (nI 0) u2 u3 u4 u5 u6 ++ (.inl (1, .inr (.inl (vp_updL f 0 v.toInt64))) :: tl2)), e))) (K : Go X 11 mL_law (1230, bs i (zset 6 (.int v) (zset 5 (.int (nI 0)) T)), [], (cc A2 d1 d2 d3 d4 d5 d6 d7 d8 ++ (mm B2 (nI 0) u2 u3 u4 u5 u6 ++ (.inl (1, .inr (.inl (vp_updL f 0 v.toInt64))) :: tl2)), e)) o) : Go X 11 mL_law (981, bs i T, [], (cc A c1 c2 c3 c4 c5 c6 c7 c8 ++ (mm B t1 t2 t3 t4 t5 t6 ++ (.inl (1, .inr (.inl f)) :: tl)), e)) o := by
  have W : Go X 10 mL_count (0, [(0, .ref 0), (1, .int x1), (2, .ref 42)], [], (cc A c1 c2 c3 c4 c5 c6 c7 c8 ++ (mm B t1 t2 t3 t4 t5 t6 ++ (.inl (1, .inr (.inl f)) :: tl)), e)) (.inl (some (.int (nI 0))), (cc A2 d1 d2 d3 d4 d5 d6 d7 d8 ++ (mm B t1 t2 t3 t4 t5 t6 ++ (.inl (1, .inr (.inl (vp_updL f 0 v.toInt64))) :: tl)), e)) := by
    repeat (first
      | exact go_ret rfl rfl rfl rfl
      | refine go_ci rfl rfl rfl rfl rfl G1 ?_
      | refine go_las (H2 := cc A2 d1 d2 d3 d4 d5 d6 d7 d8 ++ (mm B t1 t2 t3 t4 t5 t6 ++ (.inl (1, .inr (.inl (vp_updL f 0 v.toInt64))) :: tl))) rfl rfl rfl ?_
      | refine go_ifT rfl (by dsimp only [ncd]; omega) ?_
      | refine go_ifF rfl (by dsimp only [ncd]; omega) ?_
      | refine go_s rfl ?_)
  refine go_s rfl ?_
  refine go_s rfl ?_
  refine go_s rfl ?_
  refine go_s rfl ?_
  refine go_add rfl ?_
  refine go_isc rfl (by omega) a1 ?_
  refine go_s rfl ?_
  refine go_ci rfl rfl rfl rfl rfl W ?_
  refine go_i5 rfl ?_
  refine go_s rfl ?_
  refine go_s rfl ?_
  refine go_s rfl ?_
  refine go_s rfl ?_
  refine go_add rfl ?_
  refine go_isc rfl (by omega) a1 ?_
  refine go_ci rfl rfl rfl rfl rfl G3 ?_
  refine go_i6 rfl ?_
  refine go_s rfl ?_
  refine go_ci rfl rfl rfl rfl rfl n_thrown ?_
  refine go_l5 rfl (zget_sne (by decide) rfl _ (zget_set _ _ _)) ?_
  refine go_icT rfl (by dsimp only [ncd]; omega) ?_
  refine go_l5 rfl (zget_sne (by decide) rfl _ (zget_set _ _ _)) ?_
  refine go_ifF rfl (by dsimp only [ncd]; omega) ?_
  refine go_s rfl ?_
  refine go_s rfl ?_
  refine go_lal rfl rfl rfl ?_
  refine go_l6 rfl (zget_set _ _ _) ?_
  refine go_s rfl ?_
  refine go_lcmp rfl ?_
  refine go_ifT rfl (by dsimp only [ncd]; omega) ?_
  refine go_s rfl ?_
  exact K
set_option maxRecDepth 20000 in
theorem lw_count_x1 (hi : i + 7 ≤ X.1 ∧ X.1 ≤ 3584) (a1 : X.2 (i + 1) = x1) (G1 : Go X 9 mX3_count (0, [(0, .ref 0), (1, .int x1)], [], (cc A c1 c2 c3 c4 c5 c6 c7 c8 ++ (mm B t1 t2 t3 t4 t5 t6 ++ (.inl (1, .inr (.inl f)) :: tl)), e)) (.inr 7, (cc A c1 c2 c3 c4 c5 c6 c7 c8 ++ (mm B t1 t2 t3 t4 t5 t6 ++ (.inl (1, .inr (.inl f)) :: tl)), e + 1))) (G3 : Go X 10 mX4_count (0, [(0, .ref 36), (1, .int x1)], [], (cc A c1 c2 c3 c4 c5 c6 c7 c8 ++ (mm B t1 t2 t3 t4 t5 t6 ++ (.inl (1, .inr (.inl f)) :: tl)), e + 1)) (.inl (some (.int (nI 0))), (cc A c1 c2 c3 c4 c5 c6 c7 c8 ++ (mm B2 (nI 1) u2 u3 u4 u5 u6 ++ (.inl (1, .inr (.inl f)) :: tl2)), e + 1))) (K : Go X 11 mL_law (1230, bs i (zset 6 (.int (nI 0)) (zset 5 (.int (nI 1)) T)), [], (cc A c1 c2 c3 c4 c5 c6 c7 c8 ++ (mm B2 (nI 1) u2 u3 u4 u5 u6 ++ (.inl (1, .inr (.inl f)) :: tl2)), e + 1)) o) : Go X 11 mL_law (981, bs i T, [], (cc A c1 c2 c3 c4 c5 c6 c7 c8 ++ (mm B t1 t2 t3 t4 t5 t6 ++ (.inl (1, .inr (.inl f)) :: tl)), e)) o := by
  have W : Go X 10 mL_count (0, [(0, .ref 0), (1, .int x1), (2, .ref 42)], [], (cc A c1 c2 c3 c4 c5 c6 c7 c8 ++ (mm B t1 t2 t3 t4 t5 t6 ++ (.inl (1, .inr (.inl f)) :: tl)), e)) (.inl (some (.int (nI 1))), (cc A c1 c2 c3 c4 c5 c6 c7 c8 ++ (mm B t1 t2 t3 t4 t5 t6 ++ (.inl (1, .inr (.inl f)) :: tl)), e + 1)) := by
    repeat (first
      | exact go_ret rfl rfl rfl rfl
      | refine go_h rfl rfl rfl rfl G1 rfl rfl ?_
      | refine go_s rfl ?_)
  refine go_s rfl ?_
  refine go_s rfl ?_
  refine go_s rfl ?_
  refine go_s rfl ?_
  refine go_add rfl ?_
  refine go_isc rfl (by omega) a1 ?_
  refine go_s rfl ?_
  refine go_ci rfl rfl rfl rfl rfl W ?_
  refine go_i5 rfl ?_
  refine go_s rfl ?_
  refine go_s rfl ?_
  refine go_s rfl ?_
  refine go_s rfl ?_
  refine go_add rfl ?_
  refine go_isc rfl (by omega) a1 ?_
  refine go_ci rfl rfl rfl rfl rfl G3 ?_
  refine go_i6 rfl ?_
  refine go_s rfl ?_
  refine go_ci rfl rfl rfl rfl rfl n_thrown ?_
  refine go_l5 rfl (zget_sne (by decide) rfl _ (zget_set _ _ _)) ?_
  refine go_icT rfl (by dsimp only [ncd]; omega) ?_
  refine go_l5 rfl (zget_sne (by decide) rfl _ (zget_set _ _ _)) ?_
  refine go_ifT rfl (by dsimp only [ncd]; omega) ?_
  refine go_s rfl ?_
  exact K
set_option maxRecDepth 20000 in
theorem lw_steps_v (hi : i + 7 ≤ X.1 ∧ X.1 ≤ 3584) (a1 : X.2 (i + 1) = x1) (G1 : Go X 9 mX3_steps (0, [(0, .ref 0), (1, .int x1)], [], (cc A c1 c2 c3 c4 c5 c6 c7 c8 ++ (mm B t1 t2 t3 t4 t5 t6 ++ (.inl (1, .inr (.inl f)) :: tl)), e)) (.inl (some (.int v)), (cc A2 d1 d2 d3 d4 d5 d6 d7 d8 ++ (mm B t1 t2 t3 t4 t5 t6 ++ (.inl (1, .inr (.inl f)) :: tl)), e))) (G3 : Go X 10 mX4_steps (0, [(0, .ref 36), (1, .int x1)], [], (cc A2 d1 d2 d3 d4 d5 d6 d7 d8 ++ (mm B t1 t2 t3 t4 t5 t6 ++ (.inl (1, .inr (.inl (vp_updL f 0 v.toInt64))) :: tl)), e)) (.inl (some (.int v)), (cc A2 d1 d2 d3 d4 d5 d6 d7 d8 ++ (mm B2 (nI 0) u2 u3 u4 u5 u6 ++ (.inl (1, .inr (.inl (vp_updL f 0 v.toInt64))) :: tl2)), e))) (K : Go X 11 mL_law (1230, bs i (zset 6 (.int v) (zset 5 (.int (nI 0)) T)), [], (cc A2 d1 d2 d3 d4 d5 d6 d7 d8 ++ (mm B2 (nI 0) u2 u3 u4 u5 u6 ++ (.inl (1, .inr (.inl (vp_updL f 0 v.toInt64))) :: tl2)), e)) o) : Go X 11 mL_law (1037, bs i T, [], (cc A c1 c2 c3 c4 c5 c6 c7 c8 ++ (mm B t1 t2 t3 t4 t5 t6 ++ (.inl (1, .inr (.inl f)) :: tl)), e)) o := by
  have W : Go X 10 mL_steps (0, [(0, .ref 0), (1, .int x1), (2, .ref 42)], [], (cc A c1 c2 c3 c4 c5 c6 c7 c8 ++ (mm B t1 t2 t3 t4 t5 t6 ++ (.inl (1, .inr (.inl f)) :: tl)), e)) (.inl (some (.int (nI 0))), (cc A2 d1 d2 d3 d4 d5 d6 d7 d8 ++ (mm B t1 t2 t3 t4 t5 t6 ++ (.inl (1, .inr (.inl (vp_updL f 0 v.toInt64))) :: tl)), e)) := by
    repeat (first
      | exact go_ret rfl rfl rfl rfl
      | refine go_ci rfl rfl rfl rfl rfl G1 ?_
      | refine go_las (H2 := cc A2 d1 d2 d3 d4 d5 d6 d7 d8 ++ (mm B t1 t2 t3 t4 t5 t6 ++ (.inl (1, .inr (.inl (vp_updL f 0 v.toInt64))) :: tl))) rfl rfl rfl ?_
      | refine go_ifT rfl (by dsimp only [ncd]; omega) ?_
      | refine go_ifF rfl (by dsimp only [ncd]; omega) ?_
      | refine go_s rfl ?_)
  refine go_s rfl ?_
  refine go_s rfl ?_
  refine go_s rfl ?_
  refine go_s rfl ?_
  refine go_add rfl ?_
  refine go_isc rfl (by omega) a1 ?_
  refine go_s rfl ?_
  refine go_ci rfl rfl rfl rfl rfl W ?_
  refine go_i5 rfl ?_
  refine go_s rfl ?_
  refine go_s rfl ?_
  refine go_s rfl ?_
  refine go_s rfl ?_
  refine go_add rfl ?_
  refine go_isc rfl (by omega) a1 ?_
  refine go_ci rfl rfl rfl rfl rfl G3 ?_
  refine go_i6 rfl ?_
  refine go_s rfl ?_
  refine go_ci rfl rfl rfl rfl rfl n_thrown ?_
  refine go_l5 rfl (zget_sne (by decide) rfl _ (zget_set _ _ _)) ?_
  refine go_icT rfl (by dsimp only [ncd]; omega) ?_
  refine go_l5 rfl (zget_sne (by decide) rfl _ (zget_set _ _ _)) ?_
  refine go_ifF rfl (by dsimp only [ncd]; omega) ?_
  refine go_s rfl ?_
  refine go_s rfl ?_
  refine go_lal rfl rfl rfl ?_
  refine go_l6 rfl (zget_set _ _ _) ?_
  refine go_s rfl ?_
  refine go_lcmp rfl ?_
  refine go_ifT rfl (by dsimp only [ncd]; omega) ?_
  refine go_s rfl ?_
  exact K
set_option maxRecDepth 20000 in
theorem lw_steps_x1 (hi : i + 7 ≤ X.1 ∧ X.1 ≤ 3584) (a1 : X.2 (i + 1) = x1) (G1 : Go X 9 mX3_steps (0, [(0, .ref 0), (1, .int x1)], [], (cc A c1 c2 c3 c4 c5 c6 c7 c8 ++ (mm B t1 t2 t3 t4 t5 t6 ++ (.inl (1, .inr (.inl f)) :: tl)), e)) (.inr 5, (cc A c1 c2 c3 c4 c5 c6 c7 c8 ++ (mm B t1 t2 t3 t4 t5 t6 ++ (.inl (1, .inr (.inl f)) :: tl)), e + 1))) (G3 : Go X 10 mX4_steps (0, [(0, .ref 36), (1, .int x1)], [], (cc A c1 c2 c3 c4 c5 c6 c7 c8 ++ (mm B t1 t2 t3 t4 t5 t6 ++ (.inl (1, .inr (.inl f)) :: tl)), e + 1)) (.inl (some (.int (nI 0))), (cc A c1 c2 c3 c4 c5 c6 c7 c8 ++ (mm B2 (nI 1) u2 u3 u4 u5 u6 ++ (.inl (1, .inr (.inl f)) :: tl2)), e + 1))) (K : Go X 11 mL_law (1230, bs i (zset 6 (.int (nI 0)) (zset 5 (.int (nI 1)) T)), [], (cc A c1 c2 c3 c4 c5 c6 c7 c8 ++ (mm B2 (nI 1) u2 u3 u4 u5 u6 ++ (.inl (1, .inr (.inl f)) :: tl2)), e + 1)) o) : Go X 11 mL_law (1037, bs i T, [], (cc A c1 c2 c3 c4 c5 c6 c7 c8 ++ (mm B t1 t2 t3 t4 t5 t6 ++ (.inl (1, .inr (.inl f)) :: tl)), e)) o := by
  have W : Go X 10 mL_steps (0, [(0, .ref 0), (1, .int x1), (2, .ref 42)], [], (cc A c1 c2 c3 c4 c5 c6 c7 c8 ++ (mm B t1 t2 t3 t4 t5 t6 ++ (.inl (1, .inr (.inl f)) :: tl)), e)) (.inl (some (.int (nI 1))), (cc A c1 c2 c3 c4 c5 c6 c7 c8 ++ (mm B t1 t2 t3 t4 t5 t6 ++ (.inl (1, .inr (.inl f)) :: tl)), e + 1)) := by
    repeat (first
      | exact go_ret rfl rfl rfl rfl
      | refine go_h rfl rfl rfl rfl G1 rfl rfl ?_
      | refine go_s rfl ?_)
  refine go_s rfl ?_
  refine go_s rfl ?_
  refine go_s rfl ?_
  refine go_s rfl ?_
  refine go_add rfl ?_
  refine go_isc rfl (by omega) a1 ?_
  refine go_s rfl ?_
  refine go_ci rfl rfl rfl rfl rfl W ?_
  refine go_i5 rfl ?_
  refine go_s rfl ?_
  refine go_s rfl ?_
  refine go_s rfl ?_
  refine go_s rfl ?_
  refine go_add rfl ?_
  refine go_isc rfl (by omega) a1 ?_
  refine go_ci rfl rfl rfl rfl rfl G3 ?_
  refine go_i6 rfl ?_
  refine go_s rfl ?_
  refine go_ci rfl rfl rfl rfl rfl n_thrown ?_
  refine go_l5 rfl (zget_sne (by decide) rfl _ (zget_set _ _ _)) ?_
  refine go_icT rfl (by dsimp only [ncd]; omega) ?_
  refine go_l5 rfl (zget_sne (by decide) rfl _ (zget_set _ _ _)) ?_
  refine go_ifT rfl (by dsimp only [ncd]; omega) ?_
  refine go_s rfl ?_
  exact K
set_option maxRecDepth 20000 in
theorem lw_next_v (hi : i + 7 ≤ X.1 ∧ X.1 ≤ 3584) (a1 : X.2 (i + 1) = x1) (G1 : Go X 9 mX3_next (0, [(0, .ref 0), (1, .int x1)], [], (cc A c1 c2 c3 c4 c5 c6 c7 c8 ++ (mm B t1 t2 t3 t4 t5 t6 ++ (.inl (1, .inr (.inl f)) :: tl)), e)) (.inl (some (.int v)), (cc A2 d1 d2 d3 d4 d5 d6 d7 d8 ++ (mm B t1 t2 t3 t4 t5 t6 ++ (.inl (1, .inr (.inl f)) :: tl)), e))) (G3 : Go X 10 mX4_next (0, [(0, .ref 36), (1, .int x1)], [], (cc A2 d1 d2 d3 d4 d5 d6 d7 d8 ++ (mm B t1 t2 t3 t4 t5 t6 ++ (.inl (1, .inr (.inl (vp_updL f 0 v.toInt64))) :: tl)), e)) (.inl (some (.int v)), (cc A2 d1 d2 d3 d4 d5 d6 d7 d8 ++ (mm B2 (nI 0) u2 u3 u4 u5 u6 ++ (.inl (1, .inr (.inl (vp_updL f 0 v.toInt64))) :: tl2)), e))) (K : Go X 11 mL_law (1230, bs i (zset 6 (.int v) (zset 5 (.int (nI 0)) T)), [], (cc A2 d1 d2 d3 d4 d5 d6 d7 d8 ++ (mm B2 (nI 0) u2 u3 u4 u5 u6 ++ (.inl (1, .inr (.inl (vp_updL f 0 v.toInt64))) :: tl2)), e)) o) : Go X 11 mL_law (1093, bs i T, [], (cc A c1 c2 c3 c4 c5 c6 c7 c8 ++ (mm B t1 t2 t3 t4 t5 t6 ++ (.inl (1, .inr (.inl f)) :: tl)), e)) o := by
  have W : Go X 10 mL_next (0, [(0, .ref 0), (1, .int x1), (2, .ref 42)], [], (cc A c1 c2 c3 c4 c5 c6 c7 c8 ++ (mm B t1 t2 t3 t4 t5 t6 ++ (.inl (1, .inr (.inl f)) :: tl)), e)) (.inl (some (.int (nI 0))), (cc A2 d1 d2 d3 d4 d5 d6 d7 d8 ++ (mm B t1 t2 t3 t4 t5 t6 ++ (.inl (1, .inr (.inl (vp_updL f 0 v.toInt64))) :: tl)), e)) := by
    repeat (first
      | exact go_ret rfl rfl rfl rfl
      | refine go_ci rfl rfl rfl rfl rfl G1 ?_
      | refine go_las (H2 := cc A2 d1 d2 d3 d4 d5 d6 d7 d8 ++ (mm B t1 t2 t3 t4 t5 t6 ++ (.inl (1, .inr (.inl (vp_updL f 0 v.toInt64))) :: tl))) rfl rfl rfl ?_
      | refine go_ifT rfl (by dsimp only [ncd]; omega) ?_
      | refine go_ifF rfl (by dsimp only [ncd]; omega) ?_
      | refine go_s rfl ?_)
  refine go_s rfl ?_
  refine go_s rfl ?_
  refine go_s rfl ?_
  refine go_s rfl ?_
  refine go_add rfl ?_
  refine go_isc rfl (by omega) a1 ?_
  refine go_s rfl ?_
  refine go_ci rfl rfl rfl rfl rfl W ?_
  refine go_i5 rfl ?_
  refine go_s rfl ?_
  refine go_s rfl ?_
  refine go_s rfl ?_
  refine go_s rfl ?_
  refine go_add rfl ?_
  refine go_isc rfl (by omega) a1 ?_
  refine go_ci rfl rfl rfl rfl rfl G3 ?_
  refine go_i6 rfl ?_
  refine go_s rfl ?_
  refine go_ci rfl rfl rfl rfl rfl n_thrown ?_
  refine go_l5 rfl (zget_sne (by decide) rfl _ (zget_set _ _ _)) ?_
  refine go_icT rfl (by dsimp only [ncd]; omega) ?_
  refine go_l5 rfl (zget_sne (by decide) rfl _ (zget_set _ _ _)) ?_
  refine go_ifF rfl (by dsimp only [ncd]; omega) ?_
  refine go_s rfl ?_
  refine go_s rfl ?_
  refine go_lal rfl rfl rfl ?_
  refine go_l6 rfl (zget_set _ _ _) ?_
  refine go_s rfl ?_
  refine go_lcmp rfl ?_
  refine go_ifT rfl (by dsimp only [ncd]; omega) ?_
  refine go_s rfl ?_
  exact K
set_option maxRecDepth 20000 in
theorem lw_next_x1 (hi : i + 7 ≤ X.1 ∧ X.1 ≤ 3584) (a1 : X.2 (i + 1) = x1) (G1 : Go X 9 mX3_next (0, [(0, .ref 0), (1, .int x1)], [], (cc A c1 c2 c3 c4 c5 c6 c7 c8 ++ (mm B t1 t2 t3 t4 t5 t6 ++ (.inl (1, .inr (.inl f)) :: tl)), e)) (.inr 5, (cc A c1 c2 c3 c4 c5 c6 c7 c8 ++ (mm B t1 t2 t3 t4 t5 t6 ++ (.inl (1, .inr (.inl f)) :: tl)), e + 1))) (G3 : Go X 10 mX4_next (0, [(0, .ref 36), (1, .int x1)], [], (cc A c1 c2 c3 c4 c5 c6 c7 c8 ++ (mm B t1 t2 t3 t4 t5 t6 ++ (.inl (1, .inr (.inl f)) :: tl)), e + 1)) (.inl (some (.int (nI 0))), (cc A c1 c2 c3 c4 c5 c6 c7 c8 ++ (mm B2 (nI 1) u2 u3 u4 u5 u6 ++ (.inl (1, .inr (.inl f)) :: tl2)), e + 1))) (K : Go X 11 mL_law (1230, bs i (zset 6 (.int (nI 0)) (zset 5 (.int (nI 1)) T)), [], (cc A c1 c2 c3 c4 c5 c6 c7 c8 ++ (mm B2 (nI 1) u2 u3 u4 u5 u6 ++ (.inl (1, .inr (.inl f)) :: tl2)), e + 1)) o) : Go X 11 mL_law (1093, bs i T, [], (cc A c1 c2 c3 c4 c5 c6 c7 c8 ++ (mm B t1 t2 t3 t4 t5 t6 ++ (.inl (1, .inr (.inl f)) :: tl)), e)) o := by
  have W : Go X 10 mL_next (0, [(0, .ref 0), (1, .int x1), (2, .ref 42)], [], (cc A c1 c2 c3 c4 c5 c6 c7 c8 ++ (mm B t1 t2 t3 t4 t5 t6 ++ (.inl (1, .inr (.inl f)) :: tl)), e)) (.inl (some (.int (nI 1))), (cc A c1 c2 c3 c4 c5 c6 c7 c8 ++ (mm B t1 t2 t3 t4 t5 t6 ++ (.inl (1, .inr (.inl f)) :: tl)), e + 1)) := by
    repeat (first
      | exact go_ret rfl rfl rfl rfl
      | refine go_h rfl rfl rfl rfl G1 rfl rfl ?_
      | refine go_s rfl ?_)
  refine go_s rfl ?_
  refine go_s rfl ?_
  refine go_s rfl ?_
  refine go_s rfl ?_
  refine go_add rfl ?_
  refine go_isc rfl (by omega) a1 ?_
  refine go_s rfl ?_
  refine go_ci rfl rfl rfl rfl rfl W ?_
  refine go_i5 rfl ?_
  refine go_s rfl ?_
  refine go_s rfl ?_
  refine go_s rfl ?_
  refine go_s rfl ?_
  refine go_add rfl ?_
  refine go_isc rfl (by omega) a1 ?_
  refine go_ci rfl rfl rfl rfl rfl G3 ?_
  refine go_i6 rfl ?_
  refine go_s rfl ?_
  refine go_ci rfl rfl rfl rfl rfl n_thrown ?_
  refine go_l5 rfl (zget_sne (by decide) rfl _ (zget_set _ _ _)) ?_
  refine go_icT rfl (by dsimp only [ncd]; omega) ?_
  refine go_l5 rfl (zget_sne (by decide) rfl _ (zget_set _ _ _)) ?_
  refine go_ifT rfl (by dsimp only [ncd]; omega) ?_
  refine go_s rfl ?_
  exact K
set_option maxRecDepth 20000 in
theorem lw_reach (G1 : Go X 10 mX3_reach (0, [(0, .ref 0)], [], (cc A c1 c2 c3 c4 c5 c6 c7 c8 ++ (mm B t1 t2 t3 t4 t5 t6 ++ (.inl (1, .inr (.inl f)) :: tl)), e)) (.inl (some (.int v)), (cc A2 d1 d2 d3 d4 d5 d6 d7 d8 ++ (mm B t1 t2 t3 t4 t5 t6 ++ (.inl (1, .inr (.inl f)) :: tl)), e))) (G3 : Go X 10 mX4_reach (0, [(0, .ref 36)], [], (cc A2 d1 d2 d3 d4 d5 d6 d7 d8 ++ (mm B t1 t2 t3 t4 t5 t6 ++ (.inl (1, .inr (.inl f)) :: tl)), e)) (.inl (some (.int v)), (cc A2 d1 d2 d3 d4 d5 d6 d7 d8 ++ (mm B2 (nI 0) u2 u3 u4 u5 u6 ++ (.inl (1, .inr (.inl f)) :: tl2)), e))) (K : Go X 11 mL_law (1230, bs i T, [], (cc A2 d1 d2 d3 d4 d5 d6 d7 d8 ++ (mm B2 (nI 0) u2 u3 u4 u5 u6 ++ (.inl (1, .inr (.inl f)) :: tl2)), e)) o) : Go X 11 mL_law (1149, bs i T, [], (cc A c1 c2 c3 c4 c5 c6 c7 c8 ++ (mm B t1 t2 t3 t4 t5 t6 ++ (.inl (1, .inr (.inl f)) :: tl)), e)) o := by
  refine go_s rfl ?_
  refine go_ci rfl rfl rfl rfl rfl G1 ?_
  refine go_s rfl ?_
  refine go_ci rfl rfl rfl rfl rfl G3 ?_
  refine go_ict (c := .eq) rfl rfl ?_
  exact K
set_option maxRecDepth 20000 in
theorem lw_farthest (G1 : Go X 10 mX3_farthest (0, [(0, .ref 0)], [], (cc A c1 c2 c3 c4 c5 c6 c7 c8 ++ (mm B t1 t2 t3 t4 t5 t6 ++ (.inl (1, .inr (.inl f)) :: tl)), e)) (.inl (some (.int v)), (cc A2 d1 d2 d3 d4 d5 d6 d7 d8 ++ (mm B t1 t2 t3 t4 t5 t6 ++ (.inl (1, .inr (.inl f)) :: tl)), e))) (G3 : Go X 10 mX4_farthest (0, [(0, .ref 36)], [], (cc A2 d1 d2 d3 d4 d5 d6 d7 d8 ++ (mm B t1 t2 t3 t4 t5 t6 ++ (.inl (1, .inr (.inl f)) :: tl)), e)) (.inl (some (.int v)), (cc A2 d1 d2 d3 d4 d5 d6 d7 d8 ++ (mm B2 (nI 0) u2 u3 u4 u5 u6 ++ (.inl (1, .inr (.inl f)) :: tl2)), e))) (K : Go X 11 mL_law (1230, bs i T, [], (cc A2 d1 d2 d3 d4 d5 d6 d7 d8 ++ (mm B2 (nI 0) u2 u3 u4 u5 u6 ++ (.inl (1, .inr (.inl f)) :: tl2)), e)) o) : Go X 11 mL_law (1162, bs i T, [], (cc A c1 c2 c3 c4 c5 c6 c7 c8 ++ (mm B t1 t2 t3 t4 t5 t6 ++ (.inl (1, .inr (.inl f)) :: tl)), e)) o := by
  refine go_s rfl ?_
  refine go_ci rfl rfl rfl rfl rfl G1 ?_
  refine go_s rfl ?_
  refine go_ci rfl rfl rfl rfl rfl G3 ?_
  refine go_ict (c := .eq) rfl rfl ?_
  exact K
set_option maxRecDepth 20000 in
theorem lw_digest {v : Int64} (G1 : Go X 10 mX3_digest (0, [(0, .ref 0)], [], (cc A c1 c2 c3 c4 c5 c6 c7 c8 ++ (mm B t1 t2 t3 t4 t5 t6 ++ (.inl (1, .inr (.inl f)) :: tl)), e)) (.inl (some (.long v)), (cc A2 d1 d2 d3 d4 d5 d6 d7 d8 ++ (mm B t1 t2 t3 t4 t5 t6 ++ (.inl (1, .inr (.inl f)) :: tl)), e))) (G3 : Go X 10 mX4_digest (0, [(0, .ref 36)], [], (cc A2 d1 d2 d3 d4 d5 d6 d7 d8 ++ (mm B t1 t2 t3 t4 t5 t6 ++ (.inl (1, .inr (.inl f)) :: tl)), e)) (.inl (some (.long v)), (cc A2 d1 d2 d3 d4 d5 d6 d7 d8 ++ (mm B2 (nI 0) u2 u3 u4 u5 u6 ++ (.inl (1, .inr (.inl f)) :: tl2)), e))) (K : Go X 11 mL_law (1230, bs i T, [], (cc A2 d1 d2 d3 d4 d5 d6 d7 d8 ++ (mm B2 (nI 0) u2 u3 u4 u5 u6 ++ (.inl (1, .inr (.inl f)) :: tl2)), e)) o) : Go X 11 mL_law (1216, bs i T, [], (cc A c1 c2 c3 c4 c5 c6 c7 c8 ++ (mm B t1 t2 t3 t4 t5 t6 ++ (.inl (1, .inr (.inl f)) :: tl)), e)) o := by
  refine go_s rfl ?_
  refine go_ci rfl rfl rfl rfl rfl G1 ?_
  refine go_s rfl ?_
  refine go_ci rfl rfl rfl rfl rfl G3 ?_
  refine go_lcmp rfl ?_
  refine go_ifT rfl (by dsimp only [ncd]; omega) ?_
  exact K
set_option maxRecDepth 20000 in
theorem lw_mean {v : UInt64} (G1 : Go X 10 mX3_mean (0, [(0, .ref 0)], [], (cc A c1 c2 c3 c4 c5 c6 c7 c8 ++ (mm B t1 t2 t3 t4 t5 t6 ++ (.inl (1, .inr (.inl f)) :: tl)), e)) (.inl (some (.double v)), (cc A2 d1 d2 d3 d4 d5 d6 d7 d8 ++ (mm B t1 t2 t3 t4 t5 t6 ++ (.inl (1, .inr (.inl f)) :: tl)), e))) (G3 : Go X 10 mX4_mean (0, [(0, .ref 36)], [], (cc A2 d1 d2 d3 d4 d5 d6 d7 d8 ++ (mm B t1 t2 t3 t4 t5 t6 ++ (.inl (1, .inr (.inl f)) :: tl)), e)) (.inl (some (.double v)), (cc A2 d1 d2 d3 d4 d5 d6 d7 d8 ++ (mm B2 (nI 0) u2 u3 u4 u5 u6 ++ (.inl (1, .inr (.inl f)) :: tl2)), e))) (K : Go X 11 mL_law (1230, bs i (zset 7 (.double v) (zset 5 (.double v) T)), [], (cc A2 d1 d2 d3 d4 d5 d6 d7 d8 ++ (mm B2 (nI 0) u2 u3 u4 u5 u6 ++ (.inl (1, .inr (.inl f)) :: tl2)), e)) o) : Go X 11 mL_law (1175, bs i T, [], (cc A c1 c2 c3 c4 c5 c6 c7 c8 ++ (mm B t1 t2 t3 t4 t5 t6 ++ (.inl (1, .inr (.inl f)) :: tl)), e)) o := by
  by_cases hv : Op.cmpValue (FP.dcmp v v) .l = 0
  · have hz : zcq .eq (Op.cmpValue (FP.dcmp v v) .l) 0 := hv
    refine go_s rfl ?_
    refine go_ci rfl rfl rfl rfl rfl G1 ?_
    refine go_d5 rfl ?_
    refine go_s rfl ?_
    refine go_ci rfl rfl rfl rfl rfl G3 ?_
    refine go_d7 rfl ?_
    refine go_ld5 rfl (zget_sne (by decide) rfl _ (zget_set _ _ _)) ?_
    refine go_ld7 rfl (zget_set _ _ _) ?_
    refine go_s rfl ?_
    refine go_ift rfl hz ?_
    refine go_s rfl ?_
    exact K
  · have hz : ¬ zcq .eq (Op.cmpValue (FP.dcmp v v) .l) 0 := hv
    have hw : zcq .ne (Op.cmpValue (FP.dcmp v v) .l) 0 := hv
    refine go_s rfl ?_
    refine go_ci rfl rfl rfl rfl rfl G1 ?_
    refine go_d5 rfl ?_
    refine go_s rfl ?_
    refine go_ci rfl rfl rfl rfl rfl G3 ?_
    refine go_d7 rfl ?_
    refine go_ld5 rfl (zget_sne (by decide) rfl _ (zget_set _ _ _)) ?_
    refine go_ld7 rfl (zget_set _ _ _) ?_
    refine go_s rfl ?_
    refine go_iff rfl hz ?_
    refine go_ld5 rfl (zget_sne (by decide) rfl _ (zget_set _ _ _)) ?_
    refine go_ld5 rfl (zget_sne (by decide) rfl _ (zget_set _ _ _)) ?_
    refine go_s rfl ?_
    refine go_iff rfl hz ?_
    refine go_ld7 rfl (zget_set _ _ _) ?_
    refine go_ld7 rfl (zget_set _ _ _) ?_
    refine go_s rfl ?_
    refine go_ift rfl hw ?_
    refine go_s rfl ?_
    exact K
end LAW
