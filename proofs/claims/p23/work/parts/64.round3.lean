/-! ===== one turn of the law's loop: a peal ===== -/
/-- an array at the place u whose first j places hold the peals -/
def PT (T : List zC) (u m : Nat) (Gp : Nat → Option Nat) (len : Nat → Nat) (pr : Nat → Nat → Nat) (j : Nat) : Prop := T[u]? = some (aA m Gp) ∧ ∀ i, i < j → ∃ q f, Gp i = some (36 + q) ∧ T[q]? = some (aI (len i) f) ∧ hold (len i) f (pr i)
theorem PT_app {T : List zC} {u m j : Nat} {Gp : Nat → Option Nat} {len : Nat → Nat} {pr : Nat → Nat → Nat} {y : zC} (h : PT T u m Gp len pr j) : PT (T ++ [y]) u m Gp len pr j := by
  refine ⟨get_app h.1, fun i hi => ?_⟩
  obtain ⟨q, f, h1, h2, h3⟩ := h.2 i hi
  exact ⟨q, f, h1, get_app h2, h3⟩
section ROUND3
variable {X : zX} {e n m c i kp : Nat} {A : Nat → Nat → Int32} {ch mk x : Int32} {u : UInt64} {w : Int64} {T : List zC} {G : Nat → Option Nat} {ps len : Nat → Nat} {pr : Nat → Nat → Nat}
variable {t goal p q v9 : Nat} {s nx ch0 : Int32} {f : Nat → Int32} {Gp : Nat → Option Nat} {a rows tr9 : Nat}
set_option maxRecDepth 20000 in
theorem d_un (hlen : len p ≤ 30) (hrow : ∀ j, j < len p → pr p j < n) (it : isRow t) (hps : ∀ r, r < n → isRow (ps r)) (hk : T[v9]? = some (aA m Gp)) (hp : p < m) (hm : m ≤ 6) (hG : Gp p = some (36 + q)) (hf : T[q]? = some (aI (len p) f)) (hh : hold (len p) f (pr p)) {q0 : Nat} : ∀ (j : Nat) (A : Nat → Nat → Int32) (ch v : Int32), j ≤ len p → v = nI j - nI 1 → FS A n ps m len pr (pl ps (pr p) j 0 t) → ∃ A2 ch2 v2, FS A2 n ps m len pr t ∧ ∀ oo, Go X 9 mL_law (1089, [(0, .retAddr 0), (1, .ref 0), (2, .ref 36), (3, .ref (36 + v9)), (4, .int (nI i)), (5, .int x), (6, .int (nI c)), (7, .int (nI (odC (dg c)))), (8, .int ch0), (9, .int (nI (WL n ps).length)), (10, .int (nI (laD (WL n ps)))), (11, .double u), (13, .long w), (15, .int (nI goal)), (16, .int s), (17, .int nx), (18, .int (nI p)), (19, .int (nI t)), (20, .int (nI q0)), (21, .int (nI rows)), (22, .int (nI tr9)), (23, .int (nI a)), (24, .int v2)], [], HF A2 n ps m ch2 mk T e) oo → Go X 9 mL_law (1066, [(0, .retAddr 0), (1, .ref 0), (2, .ref 36), (3, .ref (36 + v9)), (4, .int (nI i)), (5, .int x), (6, .int (nI c)), (7, .int (nI (odC (dg c)))), (8, .int ch0), (9, .int (nI (WL n ps).length)), (10, .int (nI (laD (WL n ps)))), (11, .double u), (13, .long w), (15, .int (nI goal)), (16, .int s), (17, .int nx), (18, .int (nI p)), (19, .int (nI t)), (20, .int (nI q0)), (21, .int (nI rows)), (22, .int (nI tr9)), (23, .int (nI a)), (24, .int v)], [], HF A n ps m ch mk T e) oo := by
  intro j
  induction j with
  | zero =>
    intro A ch v _ hv hS
    rw [sub0] at hv
    subst hv
    refine ⟨A, ch, -nI 1, hS, fun oo K => ?_⟩
    refine go_s rfl ?_
    refine go_ift rfl neg1_lt ?_
    exact K
  | succ j ih =>
    intro A ch v hj hv hS
    rw [pk_sub (by omega), Nat.add_sub_cancel] at hv
    subst hv
    obtain ⟨A1, S1, G1⟩ := op_undo (X := X) (e := e) (ch := ch) (mk := mk) (T := T) hS (r := pr p j) (hrow j (by omega))
    have ij : isRow (pl ps (pr p) j 0 t) := peal_row j 0 t (fun k _ h2 => hps _ (hrow k (by omega))) it
    rw [pl_succ, undo_back ij (hps _ (hrow j (by omega)))] at S1 G1
    obtain ⟨A2, ch2, v2, S2, F2⟩ := ih A1 (ch + nI 1) (nI j + -nI 1) (by omega) (by rw [Int32.sub_eq_add_neg]) S1
    refine ⟨A2, ch2, v2, S2, fun oo K => ?_⟩
    have K2 := F2 oo K
    refine go_s rfl ?_
    refine go_ifF rfl (by dsimp only [ncd]; omega) ?_
    refine go_s rfl ?_
    refine go_s rfl ?_
    refine go_s rfl ?_
    refine go_aal rfl (HF_at hk) (by omega) hG ?_
    refine go_s rfl ?_
    refine go_ial rfl (HF_at hf) (by omega) (hh j (by omega)) ?_
    refine go_ci rfl rfl rfl rfl rfl G1 ?_
    refine go_s rfl ?_
    refine go_s rfl ?_
    refine go_s rfl ?_
    exact K2
set_option maxRecDepth 20000 in
theorem d_4 (hn : n ≤ 6) (hm3 : m ≤ 3) (hS : FS A n ps m len pr t) (hP : PT T v9 m Gp len pr m) : ∃ A2 mk2 ch2 c2, FS A2 n ps m len pr c2 ∧ ∀ oo, Go X 9 mL_law (209, [(0, .retAddr 0), (1, .ref 0), (2, .ref 36), (3, .ref (36 + v9)), (4, .int (nI (i + 1)))], [], HF A2 n ps m ch2 mk2 T e) oo → Go X 9 mL_law (840, [(0, .retAddr 0), (1, .ref 0), (2, .ref 36), (3, .ref (36 + v9)), (4, .int (nI i)), (5, .int x), (6, .int (nI c)), (7, .int (nI (odC (dg c)))), (8, .int ch0), (9, .int (nI (WL n ps).length)), (10, .int (nI (laD (WL n ps)))), (11, .double u), (13, .long w), (15, .int (nI goal)), (16, .int s), (17, .int nx)], [], HF A n ps m ch mk T e) oo := by
  have hps : ∀ r, r < n → isRow (ps r) := fun r hr => (hS.1.2.2.1 r hr).2
  have it := hS.2.2.2
  by_cases h0 : m = 0
  · refine ⟨A, mk, ch, t, hS, fun oo K => ?_⟩
    refine go_s rfl ?_
    refine go_alA rfl (HF_at hP.1) ?_
    refine go_ifF rfl (by dsimp only [ncd]; omega) ?_
    refine go_s rfl ?_
    refine go_inc rfl rfl rfl rfl rfl ?_
    refine go_s rfl ?_
    exact K
  · have B := l_below (X := X) (fu := 8) (h := HF A n ps m ch mk T e) (x := x >>> (nI 4 &&& 31)) (n := m) (by omega)
    have hp := blw_lt (x >>> (nI 4 &&& 31)) (n := m) (by omega)
    generalize blw (x >>> (nI 4 &&& 31)) m = p at B hp
    obtain ⟨q9, f, hG, hf, hh⟩ := hP.2 p hp
    have hC := hS.1
    obtain ⟨hl, -, hrow⟩ := hC.2.2.2.2 p (by omega)
    have hrs := CP_rows hC hp
    have iq : isRow (pl ps (pr p) (len p) 0 R0) := peal_row (len p) 0 R0 hrs R0_row
    have hpl := pl_cmp (len p) 0 t hrs it
    have ho := ord_ok iq
    have K1 := op_count (X := X) (e := e) (ch := ch) (mk := mk) (T := T) hS (w := 3) (by omega)
    have e1 : fC n m ch t 3 = nI t := rfl
    rw [e1] at K1
    obtain ⟨A1, mk1, S1, G1⟩ := op_told (X := X) (e := e) (ch := ch) (mk := mk) (T := T) hS hp (w := 1) (by omega)
    obtain ⟨A2, mk2, S2, G2⟩ := op_told (X := X) (e := e) (ch := ch) (mk := mk1) (T := T) S1 hp (w := 4) (by omega)
    obtain ⟨A3, mk3, S3, G3⟩ := op_told (X := X) (e := e) (ch := ch) (mk := mk2) (T := T) S2 hp (w := 2) (by omega)
    obtain ⟨A4, mk4, S4, G4⟩ := op_told (X := X) (e := e) (ch := ch) (mk := mk3) (T := T) S3 hp (w := 0) (by omega)
    obtain ⟨A5, mk5, S5, G5⟩ := op_told (X := X) (e := e) (ch := ch) (mk := mk4) (T := T) S4 hp (w := 3) (by omega)
    obtain ⟨A6, S6, G6⟩ := op_play (X := X) (e := e) (ch := ch) (mk := mk5) (T := T) S5 hp
    obtain ⟨A7, mk7, S7, G7⟩ := op_told (X := X) (e := e) (ch := ch + nI (len p)) (mk := mk5) (T := T) S6 hp (w := 3) (by omega)
    obtain ⟨A8, S8, G8⟩ := op_set (X := X) (e := e) (ch := ch + nI (len p)) (mk := mk7) (T := T) S7 R0_row
    obtain ⟨A9, S9, G9⟩ := op_play (X := X) (e := e) (ch := ch + nI (len p)) (mk := mk7) (T := T) S8 hp
    obtain ⟨A10, S10, G10⟩ := op_set (X := X) (e := e) (ch := ch + nI (len p) + nI (len p)) (mk := mk7) (T := T) S9 S6.2.2.2
    have r1 : fP ps len pr p 1 = nI (pl ps (pr p) (len p) 0 R0) := rfl
    have r4 : fP ps len pr p 4 = nI (vo (fun k => ps (pr p k)) (len p) (ord (pl ps (pr p) (len p) 0 R0)) R0 [R0]).2.length := rfl
    have r2 : fP ps len pr p 2 = nI (tr ps (pr p) (len p) 0 R0 [R0]) := rfl
    have r0 : fP ps len pr p 0 = nI (len p) := rfl
    have r3 : fP ps len pr p 3 = nI (ord (pl ps (pr p) (len p) 0 R0)) := rfl
    rw [r1] at G1
    rw [r4] at G2
    rw [r2] at G3
    rw [r0] at G4
    rw [r3] at G5 G7
    have w1 := vo_len (fun k => ps (pr p k)) (len p) (ord (pl ps (pr p) (len p) 0 R0)) R0 [R0]
    have w2 := rows_ge ps (pr p) (len p) (ord (pl ps (pr p) (len p) 0 R0)) ho.1
    have w3 := tr_le ps (pr p) (len p) 0 R0 [R0]
    have w4 : len p * ord (pl ps (pr p) (len p) 0 R0) ≤ 30 * 6 := Nat.mul_le_mul hl (by omega)
    have w5 := ord_one iq
    have w6 := home_iff it iq
    have w7 : ([R0] : List Nat).length = 1 := rfl
    have z1 := row_lt it
    have z2 := row_lt iq
    have z3 := row_lt S6.2.2.2
    have aeq := hpl
    obtain ⟨a, ha⟩ : ∃ a, a = pl ps (pr p) (len p) 0 t := ⟨_, rfl⟩
    rw [← ha] at S6 G6 S10 G10 z3 aeq
    rw [← aeq] at w6
    have hR : R0 = 1865 := rfl
    obtain ⟨A11, ch11, v11, S11, F11⟩ := d_un (X := X) (e := e) (i := i) (mk := mk7) (x := x) (u := u) (w := w) (T := T) (c := c) (goal := goal) (s := s) (nx := nx) (ch0 := ch0) (v9 := v9) (a := a) (p := p) (t := t) (rows := (vo (fun k => ps (pr p k)) (len p) (ord (pl ps (pr p) (len p) 0 R0)) R0 [R0]).2.length) (tr9 := tr ps (pr p) (len p) 0 R0 [R0]) (q0 := pl ps (pr p) (len p) 0 R0) hl hrow it hps hP.1 hp (by omega) hG hf hh (len p) A10 (ch + nI (len p) + nI (len p)) (nI (len p) - nI 1) (Nat.le_refl _) rfl (by rw [← ha]; exact S10)
    have K11 := op_count (X := X) (e := e) (ch := ch11) (mk := mk7) (T := T) S11 (w := 3) (by omega)
    have e11 : fC n m ch11 t 3 = nI t := rfl
    rw [e11] at K11
    generalize (vo (fun k => ps (pr p k)) (len p) (ord (pl ps (pr p) (len p) 0 R0)) R0 [R0]).2.length = rows at *
    generalize tr ps (pr p) (len p) 0 R0 [R0] = tr9 at *
    generalize pl ps (pr p) (len p) 0 R0 = q at *
    refine ⟨A11, mk7, ch11, t, S11, fun oo K => ?_⟩
    have T1029 : Go X 9 mL_law (1029, [(0, .retAddr 0), (1, .ref 0), (2, .ref 36), (3, .ref (36 + v9)), (4, .int (nI i)), (5, .int x), (6, .int (nI c)), (7, .int (nI (odC (dg c)))), (8, .int ch0), (9, .int (nI (WL n ps).length)), (10, .int (nI (laD (WL n ps)))), (11, .double u), (13, .long w), (15, .int (nI goal)), (16, .int s), (17, .int nx), (18, .int (nI p)), (19, .int (nI t)), (20, .int (nI q)), (21, .int (nI rows)), (22, .int (nI tr9)), (23, .int (nI a))], [], HF A7 n ps m (ch + nI (len p)) mk7 T e) oo := by
      have K2 : Go X 9 mL_law (1089, [(0, .retAddr 0), (1, .ref 0), (2, .ref 36), (3, .ref (36 + v9)), (4, .int (nI i)), (5, .int x), (6, .int (nI c)), (7, .int (nI (odC (dg c)))), (8, .int ch0), (9, .int (nI (WL n ps).length)), (10, .int (nI (laD (WL n ps)))), (11, .double u), (13, .long w), (15, .int (nI goal)), (16, .int s), (17, .int nx), (18, .int (nI p)), (19, .int (nI t)), (20, .int (nI q)), (21, .int (nI rows)), (22, .int (nI tr9)), (23, .int (nI a)), (24, .int v11)], [], HF A11 n ps m ch11 mk7 T e) oo := by
        refine go_s rfl ?_
        refine go_s rfl ?_
        refine go_ci rfl rfl rfl rfl rfl K11 ?_
        refine go_s rfl ?_
        refine go_icT rfl (by dsimp only [ncd]; omega) ?_
        refine go_inc rfl rfl rfl rfl rfl ?_
        refine go_s rfl ?_
        exact K
      have K3 := F11 oo K2
      refine go_s rfl ?_
      refine go_s rfl ?_
      refine go_ci rfl rfl rfl rfl rfl G8 ?_
      refine go_s rfl ?_
      refine go_s rfl ?_
      refine go_s rfl ?_
      refine go_ci rfl rfl rfl rfl rfl G9 ?_
      refine go_s rfl ?_
      refine go_icT rfl (by dsimp only [ncd]; omega) ?_
      refine go_s rfl ?_
      refine go_s rfl ?_
      refine go_ci rfl rfl rfl rfl rfl G10 ?_
      refine go_s rfl ?_
      refine go_s rfl ?_
      refine go_s rfl ?_
      refine go_aal rfl (HF_at hP.1) (by omega) hG ?_
      refine go_alen rfl (HF_at hf) ?_
      refine go_s rfl ?_
      refine go_s rfl ?_
      refine go_s rfl ?_
      exact K3
    have T968 : Go X 9 mL_law (968, [(0, .retAddr 0), (1, .ref 0), (2, .ref 36), (3, .ref (36 + v9)), (4, .int (nI i)), (5, .int x), (6, .int (nI c)), (7, .int (nI (odC (dg c)))), (8, .int ch0), (9, .int (nI (WL n ps).length)), (10, .int (nI (laD (WL n ps)))), (11, .double u), (13, .long w), (15, .int (nI goal)), (16, .int s), (17, .int nx), (18, .int (nI p)), (19, .int (nI t)), (20, .int (nI q)), (21, .int (nI rows)), (22, .int (nI tr9)), (23, .int (nI a))], [], HF A6 n ps m (ch + nI (len p)) mk5 T e) oo := by
      by_cases hq : q = R0
      · have ea := w6.mpr hq
        have eo := w5.mpr hq
        refine go_s rfl ?_
        refine go_s rfl ?_
        refine go_icF rfl (by dsimp only [ncd]; omega) ?_
        refine go_s rfl ?_
        refine go_s rfl ?_
        refine go_s rfl ?_
        refine go_s rfl ?_
        refine go_icF rfl (by dsimp only [ncd]; omega) ?_
        refine go_s rfl ?_
        refine go_s rfl ?_
        refine go_icF rfl (by dsimp only [ncd]; omega) ?_
        refine go_s rfl ?_
        refine go_s rfl ?_
        refine go_icF rfl (by dsimp only [ncd]; omega) ?_
        refine go_s rfl ?_
        refine go_s rfl ?_
        refine go_s rfl ?_
        refine go_s rfl ?_
        refine go_s rfl ?_
        refine go_ci rfl rfl rfl rfl rfl G7 ?_
        refine go_s rfl ?_
        refine go_icF rfl (by dsimp only [ncd]; omega) ?_
        refine go_s rfl ?_
        refine go_s rfl ?_
        refine go_icT rfl (by dsimp only [ncd]; omega) ?_
        exact T1029
      · have ea : ¬ a = t := fun z => hq (w6.mp z)
        have eo : ¬ ord q = 1 := fun z => hq (w5.mp z)
        refine go_s rfl ?_
        refine go_s rfl ?_
        refine go_icT rfl (by dsimp only [ncd]; omega) ?_
        refine go_s rfl ?_
        refine go_s rfl ?_
        refine go_s rfl ?_
        refine go_icT rfl (by dsimp only [ncd]; omega) ?_
        refine go_s rfl ?_
        refine go_icF rfl (by dsimp only [ncd]; omega) ?_
        refine go_s rfl ?_
        refine go_s rfl ?_
        refine go_icT rfl (by dsimp only [ncd]; omega) ?_
        refine go_s rfl ?_
        refine go_s rfl ?_
        refine go_s rfl ?_
        refine go_s rfl ?_
        refine go_ci rfl rfl rfl rfl rfl G7 ?_
        refine go_s rfl ?_
        refine go_icT rfl (by dsimp only [ncd]; omega) ?_
        refine go_s rfl ?_
        refine go_icT rfl (by dsimp only [ncd]; omega) ?_
        exact T1029
    have T902 : Go X 9 mL_law (902, [(0, .retAddr 0), (1, .ref 0), (2, .ref 36), (3, .ref (36 + v9)), (4, .int (nI i)), (5, .int x), (6, .int (nI c)), (7, .int (nI (odC (dg c)))), (8, .int ch0), (9, .int (nI (WL n ps).length)), (10, .int (nI (laD (WL n ps)))), (11, .double u), (13, .long w), (15, .int (nI goal)), (16, .int s), (17, .int nx), (18, .int (nI p)), (19, .int (nI t)), (20, .int (nI q)), (21, .int (nI rows)), (22, .int (nI tr9))], [], HF A3 n ps m ch mk3 T e) oo := by
      have T960 : Go X 9 mL_law (960, [(0, .retAddr 0), (1, .ref 0), (2, .ref 36), (3, .ref (36 + v9)), (4, .int (nI i)), (5, .int x), (6, .int (nI c)), (7, .int (nI (odC (dg c)))), (8, .int ch0), (9, .int (nI (WL n ps).length)), (10, .int (nI (laD (WL n ps)))), (11, .double u), (13, .long w), (15, .int (nI goal)), (16, .int s), (17, .int nx), (18, .int (nI p)), (19, .int (nI t)), (20, .int (nI q)), (21, .int (nI rows)), (22, .int (nI tr9))], [], HF A5 n ps m ch mk5 T e) oo := by
        refine go_s rfl ?_
        refine go_s rfl ?_
        refine go_ci rfl rfl rfl rfl rfl G6 ?_
        refine go_s rfl ?_
        exact T968
      refine go_s rfl ?_
      refine go_s rfl ?_
      refine go_s rfl ?_
      refine go_ci rfl rfl rfl rfl rfl G4 ?_
      refine go_s rfl ?_
      refine go_s rfl ?_
      refine go_aal rfl (HF_at hP.1) (by omega) hG ?_
      refine go_alen rfl (HF_at hf) ?_
      refine go_icF rfl (by dsimp only [ncd]; omega) ?_
      refine go_s rfl ?_
      refine go_s rfl ?_
      refine go_icF rfl (by dsimp only [ncd]; omega) ?_
      refine go_s rfl ?_
      refine go_s rfl ?_
      refine go_s rfl ?_
      refine go_s rfl ?_
      refine go_aal rfl (HF_at hP.1) (by omega) hG ?_
      refine go_alen rfl (HF_at hf) ?_
      refine go_s rfl ?_
      refine go_s rfl ?_
      refine go_s rfl ?_
      refine go_ci rfl rfl rfl rfl rfl G5 ?_
      refine go_mul rfl ?_
      refine go_add rfl ?_
      refine go_icF rfl (by dsimp only [ncd]; omega) ?_
      by_cases hz : tr9 = 1
      · have hrw := w2 hz
        refine go_s rfl ?_
        refine go_ifF rfl (by dsimp only [ncd]; omega) ?_
        refine go_s rfl ?_
        refine go_s rfl ?_
        refine go_s rfl ?_
        refine go_aal rfl (HF_at hP.1) (by omega) hG ?_
        refine go_alen rfl (HF_at hf) ?_
        refine go_icT rfl (by dsimp only [ncd]; omega) ?_
        exact T960
      · refine go_s rfl ?_
        refine go_ifT rfl (by dsimp only [ncd]; omega) ?_
        exact T960
    refine go_s rfl ?_
    refine go_alA rfl (HF_at hP.1) ?_
    refine go_ifT rfl (by dsimp only [ncd]; omega) ?_
    refine go_s rfl ?_
    refine go_s rfl ?_
    refine go_s rfl ?_
    refine go_s rfl ?_
    refine go_alA rfl (HF_at hP.1) ?_
    refine go_ci rfl rfl rfl rfl rfl B ?_
    refine go_s rfl ?_
    refine go_s rfl ?_
    refine go_s rfl ?_
    refine go_ci rfl rfl rfl rfl rfl K1 ?_
    refine go_s rfl ?_
    refine go_s rfl ?_
    refine go_s rfl ?_
    refine go_s rfl ?_
    refine go_ci rfl rfl rfl rfl rfl G1 ?_
    refine go_s rfl ?_
    refine go_s rfl ?_
    refine go_s rfl ?_
    refine go_s rfl ?_
    refine go_ci rfl rfl rfl rfl rfl G2 ?_
    refine go_s rfl ?_
    refine go_s rfl ?_
    refine go_s rfl ?_
    refine go_s rfl ?_
    refine go_ci rfl rfl rfl rfl rfl G3 ?_
    refine go_s rfl ?_
    by_cases hz : tr9 = 1
    · subst hz
      refine go_icF rfl (by dsimp only [ncd]; omega) ?_
      refine go_s rfl ?_
      refine go_s rfl ?_
      refine go_s rfl ?_
      exact T902
    · obtain rfl : tr9 = 0 := by omega
      refine go_icT rfl (by dsimp only [ncd]; omega) ?_
      refine go_s rfl ?_
      refine go_s rfl ?_
      exact T902
end ROUND3
