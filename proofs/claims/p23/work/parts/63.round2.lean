/-! ===== one turn of the law's loop: rules ===== -/
/-- the shutters met at the first places, as bits -/
def sb (t : Nat) : Nat → Nat
  | 0 => 0
  | k + 1 => sb t k ||| 2 ^ dg t k
theorem sb_6 {t : Nat} (ht : isRow t) : sb t 6 = 63 := by
  have h := row_bits ht
  unfold bits at h
  simp only [sb, Nat.zero_or]
  exact h
section ROUND2
variable {X : zX} {e n m c i kp : Nat} {A : Nat → Nat → Int32} {ch mk x : Int32} {u : UInt64} {w : Int64} {T : List zC} {G : Nat → Option Nat} {ps len : Nat → Nat} {pr : Nat → Nat → Nat}
variable {r t goal : Nat} {s nx left : Int32} {ch0 : Int32}
set_option maxRecDepth 20000 in
theorem d_at (hS : FS A n ps m len pr t) : ∀ (j k : Nat), k + j = 6 → ∀ oo, Go X 9 mL_law (521, [(0, .retAddr 0), (1, .ref 0), (2, .ref 36), (3, .ref kp), (4, .int (nI i)), (5, .int x), (6, .int (nI c)), (7, .int (nI (odC (dg c)))), (8, .int ch0), (9, .int (nI (WL n ps).length)), (10, .int (nI (laD (WL n ps)))), (11, .double u), (13, .long w), (15, .int (nI goal)), (16, .int s), (17, .int nx), (18, .int (nI r)), (19, .int (nI t)), (20, .int (nI (sb t 6))), (21, .int (nI 6))], [], HF A n ps m ch mk T e) oo → Go X 9 mL_law (478, [(0, .retAddr 0), (1, .ref 0), (2, .ref 36), (3, .ref kp), (4, .int (nI i)), (5, .int x), (6, .int (nI c)), (7, .int (nI (odC (dg c)))), (8, .int ch0), (9, .int (nI (WL n ps).length)), (10, .int (nI (laD (WL n ps)))), (11, .double u), (13, .long w), (15, .int (nI goal)), (16, .int s), (17, .int nx), (18, .int (nI r)), (19, .int (nI t)), (20, .int (nI (sb t k))), (21, .int (nI k))], [], HF A n ps m ch mk T e) oo := by
  intro j
  induction j with
  | zero =>
    intro k hk oo K
    obtain rfl : k = 6 := hk
    refine go_s rfl ?_
    refine go_s rfl ?_
    refine go_icT rfl (by dsimp only [ncd]; omega) ?_
    exact K
  | succ j ih =>
    intro k hk oo K
    have K2 := ih (k + 1) (by omega) oo K
    have Ga := op_at (X := X) (e := e) (ch := ch) (mk := mk) (T := T) hS (k := k) (by omega)
    have Gf := op_find (X := X) (e := e) (ch := ch) (mk := mk) (T := T) hS (k := dg t k) (dg_lt _ _)
    rw [(inv_dg hS.2.2.2 (k := k) (by omega)).1] at Gf
    refine go_s rfl ?_
    refine go_s rfl ?_
    refine go_icF rfl (by dsimp only [ncd]; omega) ?_
    refine go_s rfl ?_
    refine go_s rfl ?_
    refine go_s rfl ?_
    refine go_s rfl ?_
    refine go_ci rfl rfl rfl rfl rfl Ga ?_
    refine go_shl rfl (dg_lt _ _) ?_
    refine go_or rfl ?_
    refine go_s rfl ?_
    refine go_s rfl ?_
    refine go_s rfl ?_
    refine go_s rfl ?_
    refine go_ci rfl rfl rfl rfl rfl Ga ?_
    refine go_ci rfl rfl rfl rfl rfl Gf ?_
    refine go_s rfl ?_
    refine go_icT rfl (by dsimp only [ncd]; omega) ?_
    refine go_inc rfl rfl rfl rfl rfl ?_
    refine go_s rfl ?_
    exact K2
set_option maxRecDepth 20000 in
theorem d_3a (hn : n ≤ 6) (hS : FS A n ps m len pr c) (hr : r < n) (hg : isRow goal) (hs : s = fwD (lk (WL n ps) (cmp (inv c) goal))) (hx : nx = fwR (lk (WL n ps) (cmp (inv c) goal))) : ∃ A2 left, FS A2 n ps m len pr (rng c (ps r)) ∧ ∀ oo, Go X 9 mL_law (657, [(0, .retAddr 0), (1, .ref 0), (2, .ref 36), (3, .ref kp), (4, .int (nI i)), (5, .int x), (6, .int (nI c)), (7, .int (nI (odC (dg c)))), (8, .int ch), (9, .int (nI (WL n ps).length)), (10, .int (nI (laD (WL n ps)))), (11, .double u), (13, .long w), (15, .int (nI goal)), (16, .int s), (17, .int nx), (18, .int (nI r)), (19, .int (nI (rng c (ps r)))), (20, .int (nI 63)), (21, .int left)], [], HF A2 n ps m (ch + nI 1) mk T e) oo → Go X 9 mL_law (462, [(0, .retAddr 0), (1, .ref 0), (2, .ref 36), (3, .ref kp), (4, .int (nI i)), (5, .int x), (6, .int (nI c)), (7, .int (nI (odC (dg c)))), (8, .int ch), (9, .int (nI (WL n ps).length)), (10, .int (nI (laD (WL n ps)))), (11, .double u), (13, .long w), (15, .int (nI goal)), (16, .int s), (17, .int nx)], [.int (nI r)], HF A n ps m ch mk T e) oo := by
  have hp : ∀ r, r < n → isRow (ps r) := fun r hr => (hS.1.2.2.1 r hr).2
  have hn8 : n ≤ 8 := by omega
  have ic := hS.2.2.2
  have ip := hp r hr
  have it : isRow (rng c (ps r)) := rng_row ic ip
  have iy : isRow (cmp (inv c) goal) := cmp_row (inv_row ic) hg
  obtain ⟨A1, S1, G1⟩ := op_ring (X := X) (e := e) (ch := ch) (mk := mk) (T := T) hS hr
  obtain ⟨A2, S2, G2⟩ := op_steps (X := X) (e := e) (ch := ch + nI 1) (mk := mk) (T := T) S1 hg
  have K3 := op_count (X := X) (e := e) (ch := ch + nI 1) (mk := mk) (T := T) S2 (w := 3) (by omega)
  have K4 := op_count (X := X) (e := e) (ch := ch + nI 1) (mk := mk) (T := T) S2 (w := 4) (by omega)
  obtain ⟨A3, S3, G3⟩ := op_about (X := X) (e := e) (ch := ch + nI 1) (mk := mk) (T := T) S2 hr (w := 2) (by omega)
  obtain ⟨A4, S4, G4⟩ := op_reach (X := X) (e := e) (ch := ch + nI 1) (mk := mk) (T := T) S3
  obtain ⟨A5, S5, G5⟩ := op_farthest (X := X) (e := e) (ch := ch + nI 1) (mk := mk) (T := T) S4
  obtain ⟨A6, S6, G6⟩ := op_steps (X := X) (e := e) (ch := ch + nI 1) (mk := mk) (T := T) S5 ic
  obtain ⟨A7, S7, G7⟩ := op_about (X := X) (e := e) (ch := ch + nI 1) (mk := mk) (T := T) S6 hr (w := 0) (by omega)
  have f2 := ways_2 hn8 hp hr iy
  rw [← rel_1 ic ip, ← hs, ← hx] at f2
  obtain ⟨left, hl⟩ : ∃ left, left = fwD (lk (WL n ps) (cmp (inv (rng c (ps r))) goal)) := ⟨_, rfl⟩
  rw [← hl] at G2 f2
  obtain ⟨k, e3, h3, h4, h5⟩ := ways_3 hn8 hp hr
  rw [rel_1 ic ip, (cmp_inv ic).2, cmp_R0 (row_lt ip), e3] at G6
  have hod := od_rng ic ip
  have o1 := od_lt (dg c)
  have o2 := od_lt (dg (ps r))
  have o3 := od_lt (dg (rng c (ps r)))
  have z1 := row_lt it
  have b3 := wl_b hn8 hp
  have e7 : fR n ps r 0 = nI (ord (inv (ps r))) := rfl
  rw [e7] at G7
  have e8 : fR n ps r 2 = nI (odC (dg (ps r))) := rfl
  rw [e8] at G3
  have e9 : fC n m (ch + nI 1) (rng c (ps r)) 3 = nI (rng c (ps r)) := rfl
  rw [e9] at K3
  have e10 : fC n m (ch + nI 1) (rng c (ps r)) 4 = nI (odC (dg (rng c (ps r)))) := rfl
  rw [e10] at K4
  refine ⟨A7, left, S7, fun oo K => ?_⟩
  have T637 : Go X 9 mL_law (637, [(0, .retAddr 0), (1, .ref 0), (2, .ref 36), (3, .ref kp), (4, .int (nI i)), (5, .int x), (6, .int (nI c)), (7, .int (nI (odC (dg c)))), (8, .int ch), (9, .int (nI (WL n ps).length)), (10, .int (nI (laD (WL n ps)))), (11, .double u), (13, .long w), (15, .int (nI goal)), (16, .int s), (17, .int nx), (18, .int (nI r)), (19, .int (nI (rng c (ps r)))), (20, .int (nI 63)), (21, .int left)], [], HF A5 n ps m (ch + nI 1) mk T e) oo := by
    refine go_s rfl ?_
    refine go_s rfl ?_
    refine go_ci rfl rfl rfl rfl rfl G6 ?_
    refine go_s rfl ?_
    refine go_s rfl ?_
    refine go_s rfl ?_
    refine go_ci rfl rfl rfl rfl rfl G7 ?_
    refine go_s rfl ?_
    refine go_sub rfl (by omega) ?_
    refine go_icT rfl (by dsimp only [ncd]; omega) ?_
    exact K
  have T584 : Go X 9 mL_law (584, [(0, .retAddr 0), (1, .ref 0), (2, .ref 36), (3, .ref kp), (4, .int (nI i)), (5, .int x), (6, .int (nI c)), (7, .int (nI (odC (dg c)))), (8, .int ch), (9, .int (nI (WL n ps).length)), (10, .int (nI (laD (WL n ps)))), (11, .double u), (13, .long w), (15, .int (nI goal)), (16, .int s), (17, .int nx), (18, .int (nI r)), (19, .int (nI (rng c (ps r)))), (20, .int (nI 63)), (21, .int left)], [], HF A5 n ps m (ch + nI 1) mk T e) oo := by
    rcases f2 with ⟨q1, q2, q3, q4⟩ | ⟨q1, q2, q3, q4, q5⟩
    · refine go_s rfl ?_
      refine go_iff rfl q1 ?_
      refine go_s rfl ?_
      refine go_s rfl ?_
      refine go_s rfl ?_
      refine go_iff rfl q3 ?_
      refine go_s rfl ?_
      refine go_s rfl ?_
      refine go_icF rfl (by dsimp only [ncd]; omega) ?_
      refine go_s rfl ?_
      refine go_ift rfl q2 ?_
      refine go_s rfl ?_
      refine go_s rfl ?_
      refine go_ict rfl q4 ?_
      exact T637
    · by_cases q : nI r = nx
      · refine go_s rfl ?_
        refine go_ift rfl q1 ?_
        refine go_s rfl ?_
        refine go_s rfl ?_
        refine go_ift rfl q3 ?_
        refine go_s rfl ?_
        refine go_icF rfl (by dsimp only [ncd]; omega) ?_
        refine go_s rfl ?_
        refine go_iff rfl q2 ?_
        refine go_s rfl ?_
        refine go_s rfl ?_
        refine go_s rfl ?_
        refine go_s rfl ?_
        refine go_icf rfl q4 ?_
        refine go_s rfl ?_
        refine go_s rfl ?_
        refine go_icf rfl (fun z => z q) ?_
        refine go_s rfl ?_
        refine go_s rfl ?_
        refine go_s rfl ?_
        refine go_s rfl ?_
        refine go_icf rfl (fun z => z (q5 q)) ?_
        exact T637
      · refine go_s rfl ?_
        refine go_ift rfl q1 ?_
        refine go_s rfl ?_
        refine go_s rfl ?_
        refine go_ift rfl q3 ?_
        refine go_s rfl ?_
        refine go_icF rfl (by dsimp only [ncd]; omega) ?_
        refine go_s rfl ?_
        refine go_iff rfl q2 ?_
        refine go_s rfl ?_
        refine go_s rfl ?_
        refine go_s rfl ?_
        refine go_s rfl ?_
        refine go_icf rfl q4 ?_
        refine go_s rfl ?_
        refine go_s rfl ?_
        refine go_ict rfl q ?_
        exact T637
  have T521 : Go X 9 mL_law (521, [(0, .retAddr 0), (1, .ref 0), (2, .ref 36), (3, .ref kp), (4, .int (nI i)), (5, .int x), (6, .int (nI c)), (7, .int (nI (odC (dg c)))), (8, .int ch), (9, .int (nI (WL n ps).length)), (10, .int (nI (laD (WL n ps)))), (11, .double u), (13, .long w), (15, .int (nI goal)), (16, .int s), (17, .int nx), (18, .int (nI r)), (19, .int (nI (rng c (ps r)))), (20, .int (nI (sb (rng c (ps r)) 6))), (21, .int (nI 6))], [], HF A1 n ps m (ch + nI 1) mk T e) oo := by
    rw [sb_6 it]
    refine go_s rfl ?_
    refine go_s rfl ?_
    refine go_ci rfl rfl rfl rfl rfl G2 ?_
    refine go_s rfl ?_
    refine go_s rfl ?_
    refine go_s rfl ?_
    refine go_icF rfl (by dsimp only [ncd]; omega) ?_
    refine go_s rfl ?_
    refine go_s rfl ?_
    refine go_ci rfl rfl rfl rfl rfl K3 ?_
    refine go_s rfl ?_
    refine go_icF rfl (by dsimp only [ncd]; omega) ?_
    refine go_s rfl ?_
    refine go_s rfl ?_
    refine go_ci rfl rfl rfl rfl rfl K4 ?_
    refine go_s rfl ?_
    refine go_s rfl ?_
    refine go_s rfl ?_
    refine go_s rfl ?_
    refine go_ci rfl rfl rfl rfl rfl G3 ?_
    refine go_add rfl ?_
    refine go_s rfl ?_
    refine go_rem rfl (by omega) ?_
    refine go_icF rfl (by dsimp only [ncd]; omega) ?_
    refine go_s rfl ?_
    refine go_ci rfl rfl rfl rfl rfl G4 ?_
    refine go_s rfl ?_
    refine go_icF rfl (by dsimp only [ncd]; omega) ?_
    refine go_s rfl ?_
    refine go_ci rfl rfl rfl rfl rfl G5 ?_
    refine go_s rfl ?_
    refine go_icF rfl (by dsimp only [ncd]; omega) ?_
    exact T584
  have T478 := d_at (X := X) (e := e) (i := i) (kp := kp) (ch := ch + nI 1) (mk := mk) (x := x) (u := u) (w := w) (T := T) (c := c) (r := r) (goal := goal) (s := s) (nx := nx) (ch0 := ch) S1 6 0 rfl oo T521
  refine go_s rfl ?_
  refine go_s rfl ?_
  refine go_s rfl ?_
  refine go_ci rfl rfl rfl rfl rfl G1 ?_
  refine go_s rfl ?_
  refine go_s rfl ?_
  refine go_s rfl ?_
  refine go_s rfl ?_
  refine go_s rfl ?_
  exact T478
set_option maxRecDepth 20000 in
theorem d_ord (hr : r < n) (ip : isRow (ps r)) (it : isRow t) : ∀ (j i9 : Nat) (A : Nat → Nat → Int32) (ch : Int32), i9 + j = ord (inv (ps r)) → FS A n ps m len pr (rit (ps r) t i9) → ∃ A2 ch2, FS A2 n ps m len pr t ∧ ∀ oo, Go X 9 mL_law (745, [(0, .retAddr 0), (1, .ref 0), (2, .ref 36), (3, .ref kp), (4, .int (nI i)), (5, .int x), (6, .int (nI c)), (7, .int (nI (odC (dg c)))), (8, .int ch0), (9, .int (nI (WL n ps).length)), (10, .int (nI (laD (WL n ps)))), (11, .double u), (13, .long w), (15, .int (nI goal)), (16, .int s), (17, .int nx), (18, .int (nI r)), (19, .int (nI t)), (20, .int (nI 63)), (21, .int left), (22, .int (nI 0))], [], HF A2 n ps m ch2 mk T e) oo → Go X 9 mL_law (702, [(0, .retAddr 0), (1, .ref 0), (2, .ref 36), (3, .ref kp), (4, .int (nI i)), (5, .int x), (6, .int (nI c)), (7, .int (nI (odC (dg c)))), (8, .int ch0), (9, .int (nI (WL n ps).length)), (10, .int (nI (laD (WL n ps)))), (11, .double u), (13, .long w), (15, .int (nI goal)), (16, .int s), (17, .int nx), (18, .int (nI r)), (19, .int (nI t)), (20, .int (nI 63)), (21, .int left), (22, .int (nI j))], [], HF A n ps m ch mk T e) oo := by
  have hb := (ord_ok (inv_row ip)).2.1
  intro j
  induction j with
  | zero =>
    intro i9 A ch hj hS
    obtain rfl : i9 = ord (inv (ps r)) := hj
    rw [rit_end ip it] at hS
    refine ⟨A, ch, hS, fun oo K => ?_⟩
    refine go_s rfl ?_
    refine go_ifT rfl (by dsimp only [ncd]; omega) ?_
    exact K
  | succ j ih =>
    intro i9 A ch hj hS
    obtain ⟨A1, S1, G1⟩ := op_ring (X := X) (e := e) (ch := ch) (mk := mk) (T := T) hS hr
    have e1 : rng (rit (ps r) t i9) (ps r) = rit (ps r) t (i9 + 1) := rfl
    rw [e1] at S1 G1
    obtain ⟨A2, ch2, S2, F2⟩ := ih (i9 + 1) A1 (ch + nI 1) (by omega) S1
    refine ⟨A2, ch2, S2, fun oo K => ?_⟩
    have K2 := F2 oo K
    have z1 := row_lt it
    have z2 := row_lt (rit_row ip it (i9 + 1))
    have T739 : Go X 9 mL_law (739, [(0, .retAddr 0), (1, .ref 0), (2, .ref 36), (3, .ref kp), (4, .int (nI i)), (5, .int x), (6, .int (nI c)), (7, .int (nI (odC (dg c)))), (8, .int ch0), (9, .int (nI (WL n ps).length)), (10, .int (nI (laD (WL n ps)))), (11, .double u), (13, .long w), (15, .int (nI goal)), (16, .int s), (17, .int nx), (18, .int (nI r)), (19, .int (nI t)), (20, .int (nI 63)), (21, .int left), (22, .int (nI (j + 1)))], [], HF A1 n ps m (ch + nI 1) mk T e) oo := by
      refine go_dec rfl rfl rfl (by omega) rfl rfl ?_
      refine go_s rfl ?_
      exact K2
    by_cases hj0 : j = 0
    · have e2 : rit (ps r) t (i9 + 1) = t := by
        rw [show i9 + 1 = ord (inv (ps r)) by omega]
        exact rit_end ip it
      rw [e2] at G1
      refine go_s rfl ?_
      refine go_ifF rfl (by dsimp only [ncd]; omega) ?_
      refine go_s rfl ?_
      refine go_s rfl ?_
      refine go_ci rfl rfl rfl rfl rfl G1 ?_
      refine go_s rfl ?_
      refine go_icF rfl (by dsimp only [ncd]; omega) ?_
      refine go_s rfl ?_
      refine go_s rfl ?_
      refine go_s rfl ?_
      refine go_s rfl ?_
      refine go_icF rfl (by dsimp only [ncd]; omega) ?_
      refine go_s rfl ?_
      refine go_s rfl ?_
      refine go_icT rfl (by dsimp only [ncd]; omega) ?_
      exact T739
    · have e2 : rit (ps r) t (i9 + 1) ≠ t := rit_ne ip it (by omega) (by omega)
      refine go_s rfl ?_
      refine go_ifF rfl (by dsimp only [ncd]; omega) ?_
      refine go_s rfl ?_
      refine go_s rfl ?_
      refine go_ci rfl rfl rfl rfl rfl G1 ?_
      refine go_s rfl ?_
      refine go_icT rfl (by dsimp only [ncd]; omega) ?_
      refine go_s rfl ?_
      refine go_s rfl ?_
      refine go_s rfl ?_
      refine go_icT rfl (by dsimp only [ncd]; omega) ?_
      refine go_s rfl ?_
      refine go_icT rfl (by dsimp only [ncd]; omega) ?_
      exact T739
set_option maxRecDepth 20000 in
theorem d_3b (hn : n ≤ 6) (ic : isRow c) (hS : FS A n ps m len pr (rng c (ps r))) (hr : r < n) : ∃ A2 ch2, FS A2 n ps m len pr (rng c (ps r)) ∧ ∀ oo, Go X 9 mL_law (745, [(0, .retAddr 0), (1, .ref 0), (2, .ref 36), (3, .ref kp), (4, .int (nI i)), (5, .int x), (6, .int (nI c)), (7, .int (nI (odC (dg c)))), (8, .int ch), (9, .int (nI (WL n ps).length)), (10, .int (nI (laD (WL n ps)))), (11, .double u), (13, .long w), (15, .int (nI goal)), (16, .int s), (17, .int nx), (18, .int (nI r)), (19, .int (nI (rng c (ps r)))), (20, .int (nI 63)), (21, .int left), (22, .int (nI 0))], [], HF A2 n ps m ch2 mk T e) oo → Go X 9 mL_law (657, [(0, .retAddr 0), (1, .ref 0), (2, .ref 36), (3, .ref kp), (4, .int (nI i)), (5, .int x), (6, .int (nI c)), (7, .int (nI (odC (dg c)))), (8, .int ch), (9, .int (nI (WL n ps).length)), (10, .int (nI (laD (WL n ps)))), (11, .double u), (13, .long w), (15, .int (nI goal)), (16, .int s), (17, .int nx), (18, .int (nI r)), (19, .int (nI (rng c (ps r)))), (20, .int (nI 63)), (21, .int left)], [], HF A n ps m (ch + nI 1) mk T e) oo := by
  have ip := (hS.1.2.2.1 r hr).2
  have it : isRow (rng c (ps r)) := rng_row ic ip
  obtain ⟨A1, S1, G1⟩ := op_undo (X := X) (e := e) (ch := ch + nI 1) (mk := mk) (T := T) hS hr
  rw [undo_back ic ip] at S1 G1
  have K2 := op_count (X := X) (e := e) (ch := ch + nI 1 + nI 1) (mk := mk) (T := T) S1 (w := 2) (by omega)
  have e9 : fC n m (ch + nI 1 + nI 1) c 2 = ch + nI 1 + nI 1 := rfl
  rw [e9] at K2
  obtain ⟨A2, S2, G2⟩ := op_ring (X := X) (e := e) (ch := ch + nI 1 + nI 1) (mk := mk) (T := T) S1 hr
  obtain ⟨A3, S3, G3⟩ := op_about (X := X) (e := e) (ch := ch + nI 1 + nI 1 + nI 1) (mk := mk) (T := T) S2 hr (w := 0) (by omega)
  have e7 : fR n ps r 0 = nI (ord (inv (ps r))) := rfl
  rw [e7] at G3
  obtain ⟨A4, ch4, S4, F4⟩ := d_ord (X := X) (e := e) (i := i) (kp := kp) (mk := mk) (x := x) (u := u) (w := w) (T := T) (c := c) (goal := goal) (s := s) (nx := nx) (left := left) (ch0 := ch) hr ip it (ord (inv (ps r))) 0 A3 (ch + nI 1 + nI 1 + nI 1) (Nat.zero_add _) S3
  have hch : ch + nI 1 + nI 1 = ch + nI 2 := by rw [Int32.add_assoc, nI_add]
  have z1 := row_lt it
  have z2 := row_lt ic
  refine ⟨A4, ch4, S4, fun oo K => ?_⟩
  have K3 := F4 oo K
  refine go_s rfl ?_
  refine go_s rfl ?_
  refine go_ci rfl rfl rfl rfl rfl G1 ?_
  refine go_s rfl ?_
  refine go_icF rfl (by dsimp only [ncd]; omega) ?_
  refine go_s rfl ?_
  refine go_s rfl ?_
  refine go_ci rfl rfl rfl rfl rfl K2 ?_
  refine go_s rfl ?_
  refine go_s rfl ?_
  refine go_s rfl ?_
  refine go_icf rfl (fun z => z hch) ?_
  refine go_s rfl ?_
  refine go_s rfl ?_
  refine go_ci rfl rfl rfl rfl rfl G2 ?_
  refine go_s rfl ?_
  refine go_icT rfl (by dsimp only [ncd]; omega) ?_
  refine go_s rfl ?_
  refine go_s rfl ?_
  refine go_s rfl ?_
  refine go_ci rfl rfl rfl rfl rfl G3 ?_
  refine go_s rfl ?_
  exact K3
set_option maxRecDepth 20000 in
theorem d_3c (hn : n ≤ 6) (hS : FS A n ps m len pr t) (hr : r < n) (hT : T[0]? = some (aA n G)) : ∃ A2 ch2, FS A2 n ps m len pr t ∧ ∀ oo, Go X 9 mL_law (840, [(0, .retAddr 0), (1, .ref 0), (2, .ref 36), (3, .ref kp), (4, .int (nI i)), (5, .int x), (6, .int (nI c)), (7, .int (nI (odC (dg c)))), (8, .int ch0), (9, .int (nI (WL n ps).length)), (10, .int (nI (laD (WL n ps)))), (11, .double u), (13, .long w), (15, .int (nI goal)), (16, .int s), (17, .int nx)], [], HF A2 n ps m ch2 mk T e) oo → Go X 9 mL_law (745, [(0, .retAddr 0), (1, .ref 0), (2, .ref 36), (3, .ref kp), (4, .int (nI i)), (5, .int x), (6, .int (nI c)), (7, .int (nI (odC (dg c)))), (8, .int ch0), (9, .int (nI (WL n ps).length)), (10, .int (nI (laD (WL n ps)))), (11, .double u), (13, .long w), (15, .int (nI goal)), (16, .int s), (17, .int nx), (18, .int (nI r)), (19, .int (nI t)), (20, .int (nI 63)), (21, .int left), (22, .int (nI 0))], [], HF A n ps m ch mk T e) oo := by
  have it := hS.2.2.2
  have ip := (hS.1.2.2.1 r hr).2
  have B := l_below (X := X) (fu := 8) (h := HF A n ps m ch mk T e) (x := x >>> (nI 5 &&& 31)) (n := n) (by omega)
  have hq := blw_lt (x >>> (nI 5 &&& 31)) (n := n) (by omega)
  generalize blw (x >>> (nI 5 &&& 31)) n = q at B hq
  have iq := (hS.1.2.2.1 q hq).2
  obtain ⟨A1, S1, G1⟩ := op_ring (X := X) (e := e) (ch := ch) (mk := mk) (T := T) hS hq
  obtain ⟨A2, S2, G2⟩ := op_ring (X := X) (e := e) (ch := ch + nI 1) (mk := mk) (T := T) S1 hr
  obtain ⟨A3, S3, G3⟩ := op_set (X := X) (e := e) (ch := ch + nI 1 + nI 1) (mk := mk) (T := T) S2 it
  obtain ⟨A4, S4, G4⟩ := op_ring (X := X) (e := e) (ch := ch + nI 1 + nI 1) (mk := mk) (T := T) S3 hr
  have G5 := op_swaps (X := X) (e := e) (ch := ch + nI 1 + nI 1 + nI 1) (mk := mk) (T := T) S4 hr hq
  obtain ⟨A6, S6, G6⟩ := op_ring (X := X) (e := e) (ch := ch + nI 1 + nI 1 + nI 1) (mk := mk) (T := T) S4 hq
  have G7 := op_swaps (X := X) (e := e) (ch := ch + nI 1 + nI 1 + nI 1 + nI 1) (mk := mk) (T := T) S6 hr hq
  have G8 := op_swaps (X := X) (e := e) (ch := ch + nI 1 + nI 1 + nI 1 + nI 1) (mk := mk) (T := T) S6 hq hr
  rw [← swaps_sym (a := ps r) (b := ps q)] at G8
  obtain ⟨A9, S9, G9⟩ := op_set (X := X) (e := e) (ch := ch + nI 1 + nI 1 + nI 1 + nI 1) (mk := mk) (T := T) S6 it
  have hsw := swaps_rows it ip iq
  have hv := al_le (fun k => Nat.beq (dg (ps q) (dg (ps r) k)) (dg (ps r) (dg (ps q) k))) 6 0
  generalize al (fun k => Nat.beq (dg (ps q) (dg (ps r) k)) (dg (ps r) (dg (ps q) k))) 6 0 = v at G5 G7 G8 hsw hv
  have z1 := row_lt it
  have z2 := row_lt S2.2.2.2
  have z3 := row_lt S6.2.2.2
  refine ⟨A9, ch + nI 1 + nI 1 + nI 1 + nI 1, S9, fun oo K => ?_⟩
  have T812 : Go X 9 mL_law (812, [(0, .retAddr 0), (1, .ref 0), (2, .ref 36), (3, .ref kp), (4, .int (nI i)), (5, .int x), (6, .int (nI c)), (7, .int (nI (odC (dg c)))), (8, .int ch0), (9, .int (nI (WL n ps).length)), (10, .int (nI (laD (WL n ps)))), (11, .double u), (13, .long w), (15, .int (nI goal)), (16, .int s), (17, .int nx), (18, .int (nI r)), (19, .int (nI t)), (20, .int (nI 63)), (21, .int left), (22, .int (nI q)), (23, .int (nI (rng (rng t (ps q)) (ps r))))], [], HF A6 n ps m (ch + nI 1 + nI 1 + nI 1 + nI 1) mk T e) oo := by
    refine go_s rfl ?_
    refine go_s rfl ?_
    refine go_s rfl ?_
    refine go_ci rfl rfl rfl rfl rfl G7 ?_
    refine go_s rfl ?_
    refine go_s rfl ?_
    refine go_s rfl ?_
    refine go_ci rfl rfl rfl rfl rfl G8 ?_
    refine go_icT rfl (by dsimp only [ncd]; omega) ?_
    refine go_s rfl ?_
    refine go_s rfl ?_
    refine go_ci rfl rfl rfl rfl rfl G9 ?_
    refine go_s rfl ?_
    exact K
  refine go_s rfl ?_
  refine go_s rfl ?_
  refine go_s rfl ?_
  refine go_s rfl ?_
  refine go_alA rfl (HF_at hT) ?_
  refine go_ci rfl rfl rfl rfl rfl B ?_
  refine go_s rfl ?_
  refine go_s rfl ?_
  refine go_s rfl ?_
  refine go_ci rfl rfl rfl rfl rfl G1 ?_
  refine go_s rfl ?_
  refine go_s rfl ?_
  refine go_s rfl ?_
  refine go_ci rfl rfl rfl rfl rfl G2 ?_
  refine go_s rfl ?_
  refine go_s rfl ?_
  refine go_s rfl ?_
  refine go_ci rfl rfl rfl rfl rfl G3 ?_
  refine go_s rfl ?_
  refine go_s rfl ?_
  refine go_s rfl ?_
  refine go_ci rfl rfl rfl rfl rfl G4 ?_
  refine go_s rfl ?_
  refine go_s rfl ?_
  refine go_s rfl ?_
  refine go_s rfl ?_
  refine go_ci rfl rfl rfl rfl rfl G5 ?_
  refine go_s rfl ?_
  refine go_s rfl ?_
  refine go_ci rfl rfl rfl rfl rfl G6 ?_
  refine go_s rfl ?_
  by_cases h1 : v = 1
  · have e1 := hsw.mp h1
    refine go_icF rfl (by dsimp only [ncd]; omega) ?_
    refine go_s rfl ?_
    refine go_s rfl ?_
    refine go_icF rfl (by dsimp only [ncd]; omega) ?_
    exact T812
  · have e1 : ¬ rng (rng t (ps r)) (ps q) = rng (rng t (ps q)) (ps r) := fun z => h1 (hsw.mpr z)
    refine go_icT rfl (by dsimp only [ncd]; omega) ?_
    refine go_s rfl ?_
    refine go_icF rfl (by dsimp only [ncd]; omega) ?_
    exact T812
set_option maxRecDepth 20000 in
theorem d_3 (hn : n ≤ 6) (hS : FS A n ps m len pr c) (hg : isRow goal) (hT : T[0]? = some (aA n G)) (hs : s = fwD (lk (WL n ps) (cmp (inv c) goal))) (hx : nx = fwR (lk (WL n ps) (cmp (inv c) goal))) : ∃ A2 ch2 c2, FS A2 n ps m len pr c2 ∧ ∀ oo, Go X 9 mL_law (840, [(0, .retAddr 0), (1, .ref 0), (2, .ref 36), (3, .ref kp), (4, .int (nI i)), (5, .int x), (6, .int (nI c)), (7, .int (nI (odC (dg c)))), (8, .int ch), (9, .int (nI (WL n ps).length)), (10, .int (nI (laD (WL n ps)))), (11, .double u), (13, .long w), (15, .int (nI goal)), (16, .int s), (17, .int nx)], [], HF A2 n ps m ch2 mk T e) oo → Go X 9 mL_law (429, [(0, .retAddr 0), (1, .ref 0), (2, .ref 36), (3, .ref kp), (4, .int (nI i)), (5, .int x), (6, .int (nI c)), (7, .int (nI (odC (dg c)))), (8, .int ch), (9, .int (nI (WL n ps).length)), (10, .int (nI (laD (WL n ps)))), (11, .double u), (13, .long w), (15, .int (nI goal)), (16, .int s), (17, .int nx)], [], HF A n ps m ch mk T e) oo := by
  have hp : ∀ r, r < n → isRow (ps r) := fun r hr => (hS.1.2.2.1 r hr).2
  have hn8 : n ≤ 8 := by omega
  have ic := hS.2.2.2
  by_cases h0 : n = 0
  · refine ⟨A, ch, c, hS, fun oo K => ?_⟩
    refine go_s rfl ?_
    refine go_alA rfl (HF_at hT) ?_
    refine go_ifT rfl (by dsimp only [ncd]; omega) ?_
    exact K
  · have key : ∀ r, r < n → ∃ A2 ch2 c2, FS A2 n ps m len pr c2 ∧ ∀ oo, Go X 9 mL_law (840, [(0, .retAddr 0), (1, .ref 0), (2, .ref 36), (3, .ref kp), (4, .int (nI i)), (5, .int x), (6, .int (nI c)), (7, .int (nI (odC (dg c)))), (8, .int ch), (9, .int (nI (WL n ps).length)), (10, .int (nI (laD (WL n ps)))), (11, .double u), (13, .long w), (15, .int (nI goal)), (16, .int s), (17, .int nx)], [], HF A2 n ps m ch2 mk T e) oo → Go X 9 mL_law (462, [(0, .retAddr 0), (1, .ref 0), (2, .ref 36), (3, .ref kp), (4, .int (nI i)), (5, .int x), (6, .int (nI c)), (7, .int (nI (odC (dg c)))), (8, .int ch), (9, .int (nI (WL n ps).length)), (10, .int (nI (laD (WL n ps)))), (11, .double u), (13, .long w), (15, .int (nI goal)), (16, .int s), (17, .int nx)], [.int (nI r)], HF A n ps m ch mk T e) oo := by
      intro r hr
      obtain ⟨A1, left, S1, F1⟩ := d_3a (X := X) (e := e) (i := i) (kp := kp) (ch := ch) (mk := mk) (x := x) (u := u) (w := w) (T := T) hn hS hr hg hs hx
      obtain ⟨A2, ch2, S2, F2⟩ := d_3b (X := X) (e := e) (i := i) (kp := kp) (ch := ch) (mk := mk) (x := x) (u := u) (w := w) (T := T) (goal := goal) (s := s) (nx := nx) (left := left) hn ic S1 hr
      obtain ⟨A3, ch3, S3, F3⟩ := d_3c (X := X) (e := e) (i := i) (kp := kp) (ch := ch2) (mk := mk) (x := x) (u := u) (w := w) (T := T) (c := c) (goal := goal) (s := s) (nx := nx) (left := left) (ch0 := ch) hn S2 hr hT
      exact ⟨A3, ch3, _, S3, fun oo K => F1 oo (F2 oo (F3 oo K))⟩
    have B2 := l_below (X := X) (fu := 8) (h := HF A n ps m ch mk T e) (x := x) (n := 2) (by omega)
    have hb2 := blw_lt x (n := 2) (by omega)
    have B3 := l_below (X := X) (fu := 8) (h := HF A n ps m ch mk T e) (x := x >>> (nI 3 &&& 31)) (n := n) (by omega)
    have hb3 := blw_lt (x >>> (nI 3 &&& 31)) (n := n) (by omega)
    have f2 := (ways_1 hn8 hp (cmp (inv c) goal)).2
    rw [← hs, ← hx] at f2
    generalize blw (x >>> (nI 3 &&& 31)) n = q3 at B3 hb3
    have T453 : ∀ oo, Go X 9 mL_law (462, [(0, .retAddr 0), (1, .ref 0), (2, .ref 36), (3, .ref kp), (4, .int (nI i)), (5, .int x), (6, .int (nI c)), (7, .int (nI (odC (dg c)))), (8, .int ch), (9, .int (nI (WL n ps).length)), (10, .int (nI (laD (WL n ps)))), (11, .double u), (13, .long w), (15, .int (nI goal)), (16, .int s), (17, .int nx)], [.int (nI q3)], HF A n ps m ch mk T e) oo → Go X 9 mL_law (453, [(0, .retAddr 0), (1, .ref 0), (2, .ref 36), (3, .ref kp), (4, .int (nI i)), (5, .int x), (6, .int (nI c)), (7, .int (nI (odC (dg c)))), (8, .int ch), (9, .int (nI (WL n ps).length)), (10, .int (nI (laD (WL n ps)))), (11, .double u), (13, .long w), (15, .int (nI goal)), (16, .int s), (17, .int nx)], [], HF A n ps m ch mk T e) oo := by
      intro oo K
      refine go_s rfl ?_
      refine go_s rfl ?_
      refine go_s rfl ?_
      refine go_s rfl ?_
      refine go_alA rfl (HF_at hT) ?_
      refine go_ci rfl rfl rfl rfl rfl B3 ?_
      exact K
    rcases f2 with ⟨-, -, q1⟩ | ⟨-, -, q1, q, hq, eq⟩
    · obtain ⟨A2, ch2, c2, S2, F2⟩ := key q3 hb3
      refine ⟨A2, ch2, c2, S2, fun oo K => ?_⟩
      have K2 := T453 oo (F2 oo K)
      refine go_s rfl ?_
      refine go_alA rfl (HF_at hT) ?_
      refine go_ifF rfl (by dsimp only [ncd]; omega) ?_
      refine go_s rfl ?_
      refine go_ift rfl q1 ?_
      exact K2
    · by_cases hz : blw x 2 = 0
      · obtain ⟨A2, ch2, c2, S2, F2⟩ := key q hq
        refine ⟨A2, ch2, c2, S2, fun oo K => ?_⟩
        have K2 := F2 oo K
        rw [← eq] at K2
        refine go_s rfl ?_
        refine go_alA rfl (HF_at hT) ?_
        refine go_ifF rfl (by dsimp only [ncd]; omega) ?_
        refine go_s rfl ?_
        refine go_iff rfl q1 ?_
        refine go_s rfl ?_
        refine go_s rfl ?_
        refine go_ci rfl rfl rfl rfl rfl B2 ?_
        refine go_ifF rfl (by dsimp only [ncd]; omega) ?_
        refine go_s rfl ?_
        refine go_s rfl ?_
        exact K2
      · obtain ⟨A2, ch2, c2, S2, F2⟩ := key q3 hb3
        refine ⟨A2, ch2, c2, S2, fun oo K => ?_⟩
        have K2 := T453 oo (F2 oo K)
        refine go_s rfl ?_
        refine go_alA rfl (HF_at hT) ?_
        refine go_ifF rfl (by dsimp only [ncd]; omega) ?_
        refine go_s rfl ?_
        refine go_iff rfl q1 ?_
        refine go_s rfl ?_
        refine go_s rfl ?_
        refine go_ci rfl rfl rfl rfl rfl B2 ?_
        refine go_ifT rfl (by dsimp only [ncd]; omega) ?_
        exact K2
end ROUND2
