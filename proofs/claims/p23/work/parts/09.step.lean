theorem zint_ex {a b : Nat} {v : Int32} (hw : zcst a b v = true) {α : Type} (k : Int32 → α) : zint a b k = k v := by
  unfold zcst zint at hw
  unfold zint
  cases b with
  | zero => exact congrArg k (of_decide_eq_true hw).symm
  | succ b => exact congrArg k (of_decide_eq_true hw).symm
theorem zlen_d {k pc np : Nat} {i : Instr} {cc : ByteArray} (hk : zlen i = k + 1) (hln : zlen i = 0 ∨ np = pc + zlen i) (hdc : decode cc pc = .ok (i, np - pc)) : np = pc + (k + 1) ∧ decode cc pc = .ok (i, k + 1) := by
  have e : np = pc + (k + 1) := by
    rcases hln with h | h
    · omega
    · rw [h, hk]
  refine ⟨e, ?_⟩
  rw [hdc, e, Nat.add_sub_cancel_left]
theorem zW0_mem {w : Cond} (h1 : w ∈ lw_tbl) (h2 : goodWord w = true) : w ∈ zW0 := List.mem_filter.mpr ⟨h1, h2⟩
theorem zat_m {i : Nat} {w : Cond} (h : zat i w = true) : w ∈ zW0 := by
  obtain ⟨h1, h2⟩ := Bool.and_eq_true_iff.mp h
  exact zW0_mem (List.mem_of_getElem? (of_decide_eq_true h1)) h2
theorem zat_w {i : Nat} {w : Cond} {args : Array Value} {s : State} (hts : ∀ w ∈ zW0, w.before args s = true) (h : zat i w = true) : w.before args s = true := hts w (zat_m h)
theorem zv_cat (ro : Nat → Nat) (ad : List Nat) (v : Value) : (zv ro ad v).category = v.category := by cases v <;> rfl
theorem zget_mem {k : Nat} {v : Value} : ∀ {L : List (Nat × Value)}, zget L k = some v → (k, v) ∈ L
  | [], h => by cases h
  | q :: t, h => by
    unfold zget at h
    cases hb : Nat.beq q.1 k with
    | true =>
      rw [hb, cond_true] at h
      have e1 := Nat.eq_of_beq_eq_true hb
      cases h
      rw [← e1]
      exact List.mem_cons_self
    | false =>
      rw [hb, cond_false] at h
      exact List.mem_cons_of_mem _ (zget_mem h)
theorem zget_lv {ro : Nat → Nat} {ad : List Nat} {k : Nat} {v : Value} {L : List (Nat × Value)} (h : zget L k = some v) : (k, zv ro ad v) ∈ L.map (fun q => (q.1, zv ro ad q.2)) := List.mem_map.mpr ⟨(k, v), zget_mem h, rfl⟩
theorem zget_ls {ro : Nat → Nat} {ad : List Nat} {ls : Array Slot} {n k : Nat} {v : Value} {L : List (Nat × Value)} (hls : lv_has ls n (L.map (fun q => (q.1, zv ro ad q.2)))) (h : zget L k = some v) : ls[k]? = some (.val (zv ro ad v)) := hls.2.2 _ (zget_lv h)
theorem zfl_eq {α : Type} : ∀ (l : List (Nat × Value)) (k : List (Nat × Value) → α), zfl l k = k l
  | [], k => rfl
  | (a, b) :: t, k => by
    unfold zfl
    exact zfl_eq t _
theorem zfil_sub {i : Nat} {v : Value} : ∀ {L : List (Nat × Value)} {q : Nat × Value}, q ∈ zfil i v L → q ∈ L ∧ zleft i v q = true
  | [], q, h => by cases h
  | x :: t, q, h => by
    unfold zfil at h
    cases hb : zleft i v x with
    | true =>
      rw [hb, cond_true] at h
      rcases List.mem_cons.mp h with e | e
      · rw [e]; exact ⟨List.mem_cons_self, hb⟩
      · exact ⟨List.mem_cons_of_mem _ (zfil_sub e).1, (zfil_sub e).2⟩
    | false =>
      rw [hb, cond_false] at h
      exact ⟨List.mem_cons_of_mem _ (zfil_sub h).1, (zfil_sub h).2⟩
theorem zset_sub {i : Nat} {v : Value} : ∀ {L : List (Nat × Value)} {q : Nat × Value}, q ∈ zset i v L → q = (i, v) ∨ (q ∈ L ∧ zleft i v q = true)
  | [], q, h => by
    unfold zset at h
    exact Or.inl (List.mem_singleton.mp h)
  | x :: t, q, h => by
    unfold zset at h
    cases hb0 : Nat.beq x.1 i with
    | true =>
      rw [hb0, cond_true] at h
      rcases List.mem_cons.mp h with e | e
      · exact Or.inl e
      · exact Or.inr ⟨List.mem_cons_of_mem _ (zfil_sub e).1, (zfil_sub e).2⟩
    | false =>
      rw [hb0, cond_false] at h
      cases hb : zleft i v x with
      | true =>
        rw [hb, cond_true] at h
        rcases List.mem_cons.mp h with e | e
        · rw [e]; exact Or.inr ⟨List.mem_cons_self, hb⟩
        · rcases zset_sub e with e2 | e2
          · exact Or.inl e2
          · exact Or.inr ⟨List.mem_cons_of_mem _ e2.1, e2.2⟩
      | false =>
        rw [hb, cond_false] at h
        rcases zset_sub h with e2 | e2
        · exact Or.inl e2
        · exact Or.inr ⟨List.mem_cons_of_mem _ e2.1, e2.2⟩
theorem zset_ok {n i : Nat} {v : Value} {L : List (Nat × Value)} (hL : ∀ q ∈ L, zok n q.2) (hv : zok n v) : ∀ q ∈ zset i v L, zok n q.2 := by
  intro q hq
  rcases zset_sub hq with e | e
  · rw [e]; exact hv
  · exact hL q e.1
theorem zleft_p {i : Nat} {v : Value} {q : Nat × Value} (h : zleft i v q = true) : q.1 ≠ i ∧ ¬ (q.1 + 1 = i ∧ q.2.category = 2) ∧ ¬ (q.1 = i + 1 ∧ v.category = 2) := by
  unfold zleft at h
  simp only [Bool.and_eq_true, Bool.not_eq_true', Bool.and_eq_false_iff] at h
  obtain ⟨h1, h2, h3⟩ := h
  refine ⟨fun e => ?_, fun e => ?_, fun e => ?_⟩
  · rw [e, Nat.beq_refl] at h1; cases h1
  · rw [e.1, e.2, Nat.beq_refl, Nat.beq_refl] at h2
    rcases h2 with q | q <;> cases q
  · rw [e.1, e.2, Nat.beq_refl, Nat.beq_refl] at h3
    rcases h3 with q | q <;> cases q
theorem zset_has1 {ro : Nat → Nat} {ad : List Nat} {ls : Array Slot} {n i : Nat} {v : Value} {L : List (Nat × Value)} (_hv : v.category = 1) (h : lv_has ls n ((i, zv ro ad v) :: (L.map (fun q => (q.1, zv ro ad q.2))).filter (fun q => !(q.1 == i) && !(q.1 + 1 == i && q.2.category == 2)))) : lv_has ls n ((zset i v L).map (fun q => (q.1, zv ro ad q.2))) := by
  refine ⟨h.1, h.2.1, fun q hq => h.2.2 q ?_⟩
  obtain ⟨x, hx, rfl⟩ := List.mem_map.mp hq
  rcases zset_sub hx with e | ⟨e1, e2⟩
  · rw [e]; exact List.mem_cons_self
  · obtain ⟨p1, p2, -⟩ := zleft_p e2
    refine List.mem_cons_of_mem _ (List.mem_filter.mpr ⟨List.mem_map.mpr ⟨x, e1, rfl⟩, ?_⟩)
    simp only [zv_cat, Bool.and_eq_true, Bool.not_eq_true', beq_eq_false_iff_ne, ne_eq, Bool.and_eq_false_iff]
    refine ⟨p1, ?_⟩
    by_cases q1 : x.1 + 1 = i
    · exact Or.inr fun q2 => p2 ⟨q1, q2⟩
    · exact Or.inl q1
theorem zset_has2 {ro : Nat → Nat} {ad : List Nat} {ls : Array Slot} {n i : Nat} {v : Value} {L : List (Nat × Value)} (hv : v.category = 2) (h : lv_has ls n ((i, zv ro ad v) :: (L.map (fun q => (q.1, zv ro ad q.2))).filter (fun q => !(q.1 == i) && (!(q.1 == i + 1) && !(q.1 + 1 == i && q.2.category == 2))))) : lv_has ls n ((zset i v L).map (fun q => (q.1, zv ro ad q.2))) := by
  refine ⟨h.1, h.2.1, fun q hq => h.2.2 q ?_⟩
  obtain ⟨x, hx, rfl⟩ := List.mem_map.mp hq
  rcases zset_sub hx with e | ⟨e1, e2⟩
  · rw [e]; exact List.mem_cons_self
  · obtain ⟨p1, p2, p3⟩ := zleft_p e2
    refine List.mem_cons_of_mem _ (List.mem_filter.mpr ⟨List.mem_map.mpr ⟨x, e1, rfl⟩, ?_⟩)
    simp only [zv_cat, Bool.and_eq_true, Bool.not_eq_true', beq_eq_false_iff_ne, ne_eq, Bool.and_eq_false_iff]
    refine ⟨p1, fun q1 => p3 ⟨q1, hv⟩, ?_⟩
    by_cases q1 : x.1 + 1 = i
    · exact Or.inr fun q2 => p2 ⟨q1, q2⟩
    · exact Or.inl q1
theorem zcl_at {a : Nat} (h : a < 4) : zcl[a]? = some (zcn a, zTT a, zN a) := by
  match a, h with
  | 0, _ => rfl
  | 1, _ => rfl
  | 2, _ => rfl
  | 3, _ => rfl
  | n + 4, h => omega
theorem z_ty {a : Nat} (h : a < 4) : ∀ k, k < zN a → parseFieldDescriptor (zTT a k).2.2.1 = some (zty a k) := by
  match a, h with
  | 0, _ => exact tyX0_ok
  | 1, _ => exact tyX1_ok
  | 2, _ => exact tyX2_ok
  | 3, _ => exact tyX3_ok
  | n + 4, h => omega
theorem z_nm {a : Nat} (h : a < 4) : ∀ i, i < zN a → ∀ j, j < zN a → i ≠ j → (zTT a i).2.1 ≠ (zTT a j).2.1 := by
  match a, h with
  | 0, _ => exact nmX0
  | 1, _ => exact nmX1
  | 2, _ => exact nmX2
  | 3, _ => exact nmX3
  | n + 4, h => omega
set_option maxRecDepth 100000 in
theorem zin_u0 : (u_ws RX0 TX0 2).all zmem = true := by decide +kernel
set_option maxRecDepth 100000 in
theorem zin_u1 : (u_ws RX1 TX1 2).all zmem = true := by decide +kernel
set_option maxRecDepth 100000 in
theorem zin_u2 : (u_ws RX2 TX2 8).all zmem = true := by decide +kernel
set_option maxRecDepth 100000 in
theorem zin_u3 : (u_ws RX3 TX3 11).all zmem = true := by decide +kernel
theorem zmem_w {w : Cond} (h : zmem w = true) : w ∈ zW0 := by
  obtain ⟨h1, h2⟩ := Bool.and_eq_true_iff.mp h
  exact zW0_mem (of_decide_eq_true h1) h2
theorem zin_u {a : Nat} (h : a < 4) : ∀ w ∈ u_ws (zcn a) (zTT a) (zN a), w ∈ zW0 := by
  match a, h with
  | 0, _ => exact fun w hw => zmem_w (List.all_eq_true.mp zin_u0 w hw)
  | 1, _ => exact fun w hw => zmem_w (List.all_eq_true.mp zin_u1 w hw)
  | 2, _ => exact fun w hw => zmem_w (List.all_eq_true.mp zin_u2 w hw)
  | 3, _ => exact fun w hw => zmem_w (List.all_eq_true.mp zin_u3 w hw)
  | n + 4, h => omega
theorem zfit_okh {n : Nat} {ty : FieldType} {v : Value} (h : zfit ty v = true) (hv : zok n v) : zokh n v := by
  cases v with
  | retAddr t => cases ty <;> cases h
  | _ => exact hv
theorem zfit_n {ro : Nat → Nat} {ad : List Nat} {ty : FieldType} {v : Value} (h : zfit ty v = true) : narrow ty (zv ro ad v) = zv ro ad v := by
  cases ty with
  | boolean =>
    cases v with
    | int x =>
      have h : (decide (x = 0) || decide (x = 1)) = true := h
      rcases (Bool.or_eq_true _ _).mp h with q | q
      · have e := of_decide_eq_true q
        subst e
        rfl
      · have e := of_decide_eq_true q
        subst e
        rfl
    | _ => cases h
  | int => cases v <;> first | rfl | cases h
  | object n => cases v <;> first | rfl | cases h
  | array t => cases v <;> first | rfl | cases h
  | _ => cases v <;> cases h
theorem zfit_f {ro : Nat → Nat} {ad : List Nat} {ty : FieldType} {v : Value} (h : zfit ty v = true) : fits ty (zv ro ad v) = true := by
  cases ty with
  | boolean =>
    cases v with
    | int x =>
      have h : (decide (x = 0) || decide (x = 1)) = true := h
      rcases (Bool.or_eq_true _ _).mp h with q | q
      · have e := of_decide_eq_true q
        subst e
        rfl
      · have e := of_decide_eq_true q
        subst e
        rfl
    | _ => cases h
  | int => cases v <;> first | rfl | cases h
  | object n => cases v <;> first | rfl | cases h
  | array t => cases v <;> first | rfl | cases h
  | _ => cases v <;> cases h
theorem z_inst {a : Nat} (h : a < 4) : Cond.instantiable (zcn a) (zN a) ∈ zW0 := by
  match a, h with
  | 0, _ => exact zmem_w (by decide +kernel)
  | 1, _ => exact zmem_w (by decide +kernel)
  | 2, _ => exact zmem_w (by decide +kernel)
  | 3, _ => exact zmem_w (by decide +kernel)
  | n + 4, h => omega
theorem z_init {a : Nat} (h : a < 4) : Cond.initialized (zcn a) ∈ zW0 := by
  match a, h with
  | 0, _ => exact zmem_w (by decide +kernel)
  | 1, _ => exact zmem_w (by decide +kernel)
  | 2, _ => exact zmem_w (by decide +kernel)
  | 3, _ => exact zmem_w (by decide +kernel)
  | n + 4, h => omega
theorem z_ai : Cond.arrayClass .int ∈ zW0 := zmem_w (by decide +kernel)
theorem z_oi1 : Cond.instanceMethod objectInit ∈ zW0 := zmem_w (by decide +kernel)
theorem z_oi2 : Cond.code objectInit ⟨#[0xb1]⟩ 1 none ∈ zW0 := zmem_w (by decide +kernel)
theorem z_ac1 : Cond.native arraycopyName ∈ zW0 := zmem_w (by decide +kernel)
theorem z_ac2 : Cond.static arraycopyName ∈ zW0 := zmem_w (by decide +kernel)
theorem z_ac3 : Cond.initialized "java/lang/System" ∈ zW0 := zmem_w (by decide +kernel)
theorem z_nfw : nativeFrameWords "java/lang/System" "arraycopy" 5 + 11 ≤ 27 := by decide +kernel
theorem zcat_map {ro : Nat → Nat} {ad : List Nat} {S : List Value} : zcat (S.map (zv ro ad)) = zcat S := by
  unfold zcat
  rw [List.map_map]
  congr 1
  exact List.map_congr_left fun v _ => zv_cat ro ad v
theorem zdef_v {ro : Nat → Nat} {ad : List Nat} {a : Nat} : (zdef a).map (zv ro ad) = zdef a := by
  match a with
  | 0 => rfl
  | 1 => rfl
  | 2 => rfl
  | n + 3 => rfl
theorem zdef_ok (a n : Nat) : zokc n (.inr (a, zdef a)) := by
  show ∀ v ∈ zdef a, zokh n v
  match a with
  | 0 => simp [zdef, zokh]
  | 1 => simp [zdef, zokh]
  | 2 => simp [zdef, zokh]
  | k + 3 => simp [zdef, zokh]
theorem z_def {a : Nat} (h : a < 4) : ∀ j, j < zN a → defaultValue (zty a j) = vp_V (zdef a) j := by
  match a, h with
  | 0, _ => exact (by decide +kernel : ∀ j, j < 2 → defaultValue (tyX0 j) = vp_V (zdef 0) j)
  | 1, _ => exact (by decide +kernel : ∀ j, j < 2 → defaultValue (tyX1 j) = vp_V (zdef 1) j)
  | 2, _ => exact (by decide +kernel : ∀ j, j < 8 → defaultValue (tyX2 j) = vp_V (zdef 2) j)
  | 3, _ => exact (by decide +kernel : ∀ j, j < 11 → defaultValue (tyX3 j) = vp_V (zdef 3) j)
  | n + 4, h => omega
theorem zsz_rep (N : Nat) (M : Nat) (f : Nat → Int32) : zsz (List.replicate N (.inl (M, .inl f) : zC)) = N * M := by
  unfold zsz
  rw [List.map_replicate, List.sum_replicate_nat]
  rfl
theorem zls_app {ro : Nat → Nat} {ad x : List Nat} {ls : Array Slot} {n : Nat} {L : List (Nat × Value)} (h : lv_has ls n (L.map (fun q => (q.1, zv ro ad q.2)))) (hL : ∀ q ∈ L, zok ad.length q.2) : lv_has ls n (L.map (fun q => (q.1, zv ro (ad ++ x) q.2))) := by
  rw [show L.map (fun q => (q.1, zv ro (ad ++ x) q.2)) = L.map (fun q => (q.1, zv ro ad q.2)) from List.map_congr_left fun q hq => by rw [zv_app (hL q hq)]]
  exact h
theorem zkp_sub {n : Nat} : ∀ {L : List (Nat × Value)} {q : Nat × Value}, q ∈ zkp n L → q ∈ L
  | [], q, h => by cases h
  | x :: t, q, h => by
    unfold zkp at h
    cases hb : Nat.blt x.1 n with
    | true =>
      rw [hb, cond_true] at h
      rcases List.mem_cons.mp h with e | e
      · rw [e]; exact List.mem_cons_self
      · exact List.mem_cons_of_mem _ (zkp_sub e)
    | false =>
      rw [hb, cond_false] at h
      exact List.mem_cons_of_mem _ (zkp_sub h)
def zkq (n : Nat) (L : List (Nat × Value)) : List (Nat × Value) := match n with
  | 0 => L
  | m + 1 => zkp (m + 1) L
theorem zkl_eq {α : Type} (n : Nat) (L : List (Nat × Value)) (k : List (Nat × Value) → α) : zkl n L k = k (zkq n L) := by
  cases n with
  | zero => rfl
  | succ m => exact zfl_eq _ _
theorem zkq_sub {n : Nat} {L : List (Nat × Value)} {q : Nat × Value} (h : q ∈ zkq n L) : q ∈ L := by
  cases n with
  | zero => exact h
  | succ m => exact zkp_sub h
theorem zkq_has {ro : Nat → Nat} {ad : List Nat} {ls : Array Slot} {n b : Nat} {L : List (Nat × Value)} (h : lv_has ls n (L.map (fun q => (q.1, zv ro ad q.2)))) : lv_has ls n ((zkq b L).map (fun q => (q.1, zv ro ad q.2))) := by
  refine ⟨h.1, h.2.1, fun q hq => h.2.2 q ?_⟩
  obtain ⟨x, hx, rfl⟩ := List.mem_map.mp hq
  exact List.mem_map.mpr ⟨x, zkq_sub hx, rfl⟩
theorem zasg (vm : Vm) (c : ClassId) : vm.assignable c c = true := by
  show (c == c || _) = true
  rw [beq_self_eq_true, Bool.true_or]
section VAST
variable {p : Program} {l : Launch} {e : Env} {R : Room} {s : State} {m : MethodId} {args : Array Value} {below : List Frame} {meth : Method} {c : Code} {H : Heap} {locs : List Loc} {cells slots : Nat} {Q : State → Prop}
variable {cc : ByteArray} {pc : Nat} {ls : Array Slot} {rest : List Value} {D : va_G} {cl : List vw_C} {A : Nat → Prop} {a : Nat} {ws : va_W} {H0 : Heap}
/-- an array of int goes into an array of such -/
theorem va_astqA (hexec : p.tables.exec = Jvm.exec) (hb : c.code = cc) (hover : va_AOA .int s) (hP : va_P D cl ws H) (hD : va_D A ws) (hS : va_S A H0 H locs) (q0 qk : Nat) {cA cI : ClassId} {n v n1 : Nat} {f : Nat → Option Nat} {g : Nat → Int32} (ha : ws[q0]? = some (a, .inl (cA, n, .inr (.inr (.inr (.inr f)))))) (hv : ws[qk]? = some (v, .inl (cI, n1, .inl g)))
    (hA2 : s.vm.findClass ("[" ++ (FieldType.array .int).toString) = some cA) (hI : s.vm.findClass (FieldType.array .int).toString = some cI) {i : Int32} (hin : vp_in i n) (hdg : decode cc pc = .ok (.aastore, 1))
    (kk : ∀ (H1 : Heap) (locs1 : List Loc), va_P D cl (ws.set q0 (a, .inl (cA, n, .inr (.inr (.inr (.inr (va_up f i.toNatClampNeg (some v)))))))) H1 → va_D A (ws.set q0 (a, .inl (cA, n, .inr (.inr (.inr (.inr (va_up f i.toNatClampNeg (some v)))))))) → va_S A H0 H1 locs1 → W p l e R s m args below meth c H1 locs1 cells slots Q (F0 m (pc + 1) ls rest)) : W p l e R s m args below meth c H locs cells slots Q (F0 m pc ls (.ref v :: .int i :: .ref a :: rest)) := by
  have hlt : i.toNatClampNeg < n := Nat.not_le.mp fun q => hin (Or.inr q)
  have h0 : ¬ i < 0 := fun q => hin (Or.inl q)
  obtain ⟨comp, cA9, kA, g1, -, g2, g3, g4⟩ := arrayOverA_spec (va_AOA.use (A := args) hover)
  cases hA2.symm.trans g4
  cases hI.symm.trans g1
  obtain ⟨kC, hkC, -⟩ := Vm.findClass_spec hI
  have hvc := hP qk _ hv
  have hac := hP q0 _ ha
  refine W.aast hexec hb hac (fun q h => by cases h) (fun h => by cases h) g2 g3 rfl hkC ⟨h0, by show _ < (arrV _ _ _).slots.size; rw [arrV_size]; exact hlt⟩ hvc (fun q h => by cases h) hkC (zasg s.vm cI) rfl rfl hdg fun H1 e z oq => ?_
  refine kk H1 _ (hP.set hD ha ?_ oq) (hD.set ha) (hS.put z oq (hD.2 q0 _ ha))
  show H1[a]? = some (vp_cell _ _)
  rw [e]
  rw [vp_cell_q, vp_cell_q, arrV_store]
  congr 2
  funext q
  by_cases hq : q = i.toNatClampNeg
  · subst hq
    simp [updV, va_up, va_rf]
  · simp [updV, va_up, hq]
/-- a new array of arrays, empty -/
theorem va_newqA (hexec : p.tables.exec = Jvm.exec) (hb : c.code = cc) {own : String} {index : Nat} {ty : FieldType} (hown : s.vm.findClass own = some m.cls) (hclink : (Cond.classLink own index (FieldType.array ty).toString).before args s = true) (hover : va_AOA ty s) (hP : va_P D cl ws H) (hD : va_D A ws) (hS : va_S A H0 H locs) (hA : ∀ q, H0.size ≤ q → A q)
    {n : Int32} {N' : Nat} (hn : ¬ n < 0) (hN : n.toNatClampNeg = N') (hbytes : N' * 4 ≤ 536870912) (hcells : cells + 1 ≤ R.cells) (hslots : slots + N' ≤ R.slots) (hdg : decode cc pc = .ok (.anewarray index, 3))
    (kk : ∀ (q : Nat) (cA : ClassId) (H1 : Heap), s.vm.findClass ("[" ++ (FieldType.array ty).toString) = some cA → va_P D cl (ws ++ [(q, .inl (cA, N', .inr (.inr (.inr (.inr (fun _ => none))))))]) H1 → va_D A (ws ++ [(q, .inl (cA, N', .inr (.inr (.inr (.inr (fun _ => none))))))]) → va_S A H0 H1 locs →
      W p l e R s m args below meth c H1 locs (cells + 1) (slots + N') Q (F0 m (pc + 3) ls (.ref q :: rest))) : W p l e R s m args below meth c H locs cells slots Q (F0 m pc ls (.int n :: rest)) := by
  subst hN
  refine W.anewA hexec hb hown hclink (va_AOA.use hover) rfl hdg rfl hn hbytes hcells hslots fun cA kA comp f1 f2 f3 f4 => ?_
  generalize hH1 : H.push ({ cls := cA, slots := Array.replicate n.toNatClampNeg .null, vm := .none } : Cell) = H1
  have z1 : H1.size = H.size + 1 := by rw [← hH1, Array.size_push]
  have e1 : H1[H.size]? = some (arrV cA n.toNatClampNeg (fun _ => .null)) := by rw [← hH1, Array.getElem?_push_size, ← arrV_new]
  have o1 : ∀ q : Nat, q < H.size → H1[q]? = H[q]? := fun q hq => by rw [← hH1, Array.getElem?_push, if_neg (Nat.ne_of_lt hq)]
  have hk : ∀ (k : Nat) (x : Nat × va_E), ws[k]? = some x → H1[x.1]? = H[x.1]? := fun k x hx => o1 x.1 ((hP k x hx).lt)
  refine kk H.size cA H1 f1 ((hP.kept hk).app (fun k x hx => ?_)) (hD.push hP rfl (hA _ hS.1)) ⟨Nat.le_trans hS.1 (by omega), fun x h1 h2 => (o1 x (Nat.lt_of_lt_of_le h1 hS.1)).trans (hS.2.1 x h1 h2), hS.2.2⟩
  have hz : k < 1 := (List.getElem?_eq_some_iff.mp hx).1
  rw [show k = 0 by omega] at hx
  cases hx
  show H1[H.size]? = some (vp_cell _ _)
  rw [vp_cell_q]
  exact e1
end VAST
theorem z_I : (FieldType.array FieldType.int).toString = "[I" := by decide +kernel
section STEP
variable {X : zX} {ro : Nat → Nat} {cA : Nat → ClassId} {D : va_G} {A : Nat → Prop} {d : zMd} {p : Program} {l : Launch} {e : Env} {R : Room} {s : State} {m : MethodId} {args : Array Value} {below : List Frame} {meth : Method} {c : Code} {H : Heap} {locs : List Loc} {cells slots : Nat} {Q : State → Prop}
variable {ad : List Nat} {ls : Array Slot} {cb sb f pc np a b w : Nat} {i : Instr} {L : List (Nat × Value)} {S : List Value} {h : zH} {st2 : zS}
set_option maxHeartbeats 4000000 in
theorem zop_W (hF : zFC X ro cA D A d p l s m args meth c) (hdc : decode (zb d) pc = .ok (i, np - pc)) (hln : zlen i = 0 ∨ np = pc + zlen i) (hw : zentw d pc i a b w = true) (hC : zCu ro cA D A d s H locs ad ls L S h) (hop : zop X d f pc np i a b L S h = some st2)
    (hf1 : f ≤ R.frames) (hf2 : 35 * f ≤ R.locals) (ha5 : (∃ j, i = .new j) → Nat.blt a 4 = true) (hcl : cells + cb = h.1.length + h.2) (hsl : slots + sb = zsz h.1 + 6 * h.2) (hR1 : st2.2.2.2.1.length + st2.2.2.2.2 ≤ cb + R.cells) (hR2 : zsz st2.2.2.2.1 + 6 * st2.2.2.2.2 ≤ sb + R.slots)
    (kk : ∀ (H2 : Heap) (locs2 : List Loc) (x : List Nat) (ls2 : Array Slot) (cells2 slots2 : Nat), zCu ro cA D A d s H2 locs2 (ad ++ x) ls2 st2.2.1 st2.2.2.1 st2.2.2.2 → cells2 + cb = st2.2.2.2.1.length + st2.2.2.2.2 → slots2 + sb = zsz st2.2.2.2.1 + 6 * st2.2.2.2.2 →
      W p l e R s m args below meth c H2 locs2 cells2 slots2 Q (F0 m st2.1 ls2 (st2.2.2.1.map (zv ro (ad ++ x))))) : W p l e R s m args below meth c H locs cells slots Q (F0 m pc ls (S.map (zv ro ad))) := by
  obtain ⟨hx, hb, hr, hml, hown, hts, hlocks, hin, htab, hst, hK, hE, hA⟩ := hF
  obtain ⟨hal, hP, hD, hS, hls, hzL, hzS, hwf⟩ := hC
  have kk0 : ∀ (pc2 : Nat) (L2 : List (Nat × Value)) (S2 : List Value) (ls2 : Array Slot), st2 = (pc2, L2, S2, h) → lv_has ls2 (zl d) (L2.map (fun q => (q.1, zv ro ad q.2))) → (∀ q ∈ L2, zok ad.length q.2) → (∀ v ∈ S2, zok ad.length v) → W p l e R s m args below meth c H locs cells slots Q (F0 m pc2 ls2 (S2.map (zv ro ad))) := by
    intro pc2 L2 S2 ls2 e1 e2 e3 e4
    have k9 := kk H locs [] ls2 cells slots
    rw [e1, List.append_nil] at k9
    exact k9 ⟨hal, hP, hD, hS, e2, e3, e4, hwf⟩ hcl hsl
  cases i
  case iconst n =>
    obtain ⟨rfl, hd⟩ := zlen_d (k := 0) rfl hln hdc
    replace hop : zint a b (fun x => some (pc + (0 + 1), L, Value.int x :: S, h)) = some st2 := hop
    rw [zint_ex hw] at hop
    cases hop
    exact lv_iconst hx hb hd rfl (kk0 _ _ (_ :: S) _ rfl hls hzL (List.forall_mem_cons.mpr ⟨trivial, hzS⟩))
  case bipush n =>
    obtain ⟨rfl, hd⟩ := zlen_d (k := 1) rfl hln hdc
    replace hop : zint a b (fun x => some (pc + (1 + 1), L, Value.int x :: S, h)) = some st2 := hop
    rw [zint_ex hw] at hop
    cases hop
    exact lv_bipush hx hb hd rfl (kk0 _ _ (_ :: S) _ rfl hls hzL (List.forall_mem_cons.mpr ⟨trivial, hzS⟩))
  case sipush n =>
    obtain ⟨rfl, hd⟩ := zlen_d (k := 2) rfl hln hdc
    replace hop : zint a b (fun x => some (pc + (2 + 1), L, Value.int x :: S, h)) = some st2 := hop
    rw [zint_ex hw] at hop
    cases hop
    exact lv_sipush hx hb hd rfl (kk0 _ _ (_ :: S) _ rfl hls hzL (List.forall_mem_cons.mpr ⟨trivial, hzS⟩))
  case ldc j =>
    obtain ⟨rfl, hd⟩ := zlen_d (k := 1) rfl hln hdc
    replace hop : (bif Nat.beq b 0 then some (pc + (1 + 1), L, Value.int (nI a) :: S, h) else none) = some st2 := hop
    replace hw : (Nat.beq b 9 || zat w (.constant (zcn (zo d)) j (nI a))) = true := hw
    cases hb0 : Nat.beq b 0 with
    | false => rw [hb0] at hop; cases hop
    | true =>
      rw [hb0] at hop
      cases hop
      have e0 : b = 0 := Nat.eq_of_beq_eq_true hb0
      subst e0
      exact lv_ldc hx hb hown (zat_w hts hw) hd (kk0 _ _ (_ :: S) _ rfl hls hzL (List.forall_mem_cons.mpr ⟨trivial, hzS⟩))
  case ldc2_w j =>
    obtain ⟨rfl, hd⟩ := zlen_d (k := 2) rfl hln hdc
    replace hop : some (pc + (2 + 1), L, Value.long (lN a) :: S, h) = some st2 := hop
    cases hop
    exact lv_ldc2 hx hb hown (zat_w hts hw) hd (kk0 _ _ (_ :: S) _ rfl hls hzL (List.forall_mem_cons.mpr ⟨trivial, hzS⟩))
  case lconst n =>
    obtain ⟨rfl, hd⟩ := zlen_d (k := 0) rfl hln hdc
    replace hop : some (pc + (0 + 1), L, Value.long (lN a) :: S, h) = some st2 := hop
    cases hop
    exact lv_lconst hx hb hd (of_decide_eq_true hw) (kk0 _ _ (_ :: S) _ rfl hls hzL (List.forall_mem_cons.mpr ⟨trivial, hzS⟩))
  case dconst n =>
    obtain ⟨rfl, hd⟩ := zlen_d (k := 0) rfl hln hdc
    replace hop : some (pc + (0 + 1), L, Value.double FP.dconst0 :: S, h) = some st2 := hop
    cases hop
    have e0 : n = 0 := of_decide_eq_true hw
    subst e0
    exact lv_dconst0 hx hb hd (kk0 _ _ (_ :: S) _ rfl hls hzL (List.forall_mem_cons.mpr ⟨trivial, hzS⟩))
  case iload j =>
    obtain ⟨rfl, hd⟩ := zlen_d (k := 1) rfl hln hdc
    replace hop : zild j (pc + (1 + 1)) L S h = some st2 := hop
    unfold zild at hop
    split at hop
    next x hg =>
      cases hop
      exact lv_iload hx hb hd (zget_ls hls hg) (kk0 _ _ (_ :: S) _ rfl hls hzL (List.forall_mem_cons.mpr ⟨hzL _ (zget_mem hg), hzS⟩))
    next => cases hop
  case iload_n j =>
    obtain ⟨rfl, hd⟩ := zlen_d (k := 0) rfl hln hdc
    replace hop : zild a (pc + (0 + 1)) L S h = some st2 := hop
    unfold zild at hop
    split at hop
    next x hg =>
      cases hop
      exact lv_iload_n hx hb hd (of_decide_eq_true hw) (zget_ls hls hg) (kk0 _ _ (_ :: S) _ rfl hls hzL (List.forall_mem_cons.mpr ⟨hzL _ (zget_mem hg), hzS⟩))
    next => cases hop
  case lload j =>
    obtain ⟨rfl, hd⟩ := zlen_d (k := 1) rfl hln hdc
    replace hop : zlld j (pc + (1 + 1)) L S h = some st2 := hop
    unfold zlld at hop
    split at hop
    next x hg =>
      cases hop
      exact lv_lload hx hb hd (zget_ls hls hg) (kk0 _ _ (_ :: S) _ rfl hls hzL (List.forall_mem_cons.mpr ⟨hzL _ (zget_mem hg), hzS⟩))
    next => cases hop
  case lload_n j =>
    obtain ⟨rfl, hd⟩ := zlen_d (k := 0) rfl hln hdc
    replace hop : zlld a (pc + (0 + 1)) L S h = some st2 := hop
    unfold zlld at hop
    split at hop
    next x hg =>
      cases hop
      exact lv_lload_n hx hb hd (of_decide_eq_true hw) (zget_ls hls hg) (kk0 _ _ (_ :: S) _ rfl hls hzL (List.forall_mem_cons.mpr ⟨hzL _ (zget_mem hg), hzS⟩))
    next => cases hop
  case dload j =>
    obtain ⟨rfl, hd⟩ := zlen_d (k := 1) rfl hln hdc
    replace hop : zdld j (pc + (1 + 1)) L S h = some st2 := hop
    unfold zdld at hop
    split at hop
    next x hg =>
      cases hop
      exact lv_dload hx hb hd (zget_ls hls hg) (kk0 _ _ (_ :: S) _ rfl hls hzL (List.forall_mem_cons.mpr ⟨hzL _ (zget_mem hg), hzS⟩))
    next => cases hop
  case aload j =>
    obtain ⟨rfl, hd⟩ := zlen_d (k := 1) rfl hln hdc
    replace hop : zald j (pc + (1 + 1)) L S h = some st2 := hop
    unfold zald at hop
    split at hop
    next x hg =>
      cases hop
      exact lv_aload hx hb hd (zget_ls hls hg) (kk0 _ _ (_ :: S) _ rfl hls hzL (List.forall_mem_cons.mpr ⟨hzL _ (zget_mem hg), hzS⟩))
    next x hg =>
      cases hop
      exact lv_aload hx hb hd (zget_ls hls hg) (kk0 _ _ (_ :: S) _ rfl hls hzL (List.forall_mem_cons.mpr ⟨hzL _ (zget_mem hg), hzS⟩))
    next => cases hop
  case aload_n j =>
    obtain ⟨rfl, hd⟩ := zlen_d (k := 0) rfl hln hdc
    replace hop : zald a (pc + (0 + 1)) L S h = some st2 := hop
    unfold zald at hop
    split at hop
    next x hg =>
      cases hop
      exact lv_aload_n hx hb hd (of_decide_eq_true hw) (zget_ls hls hg) (kk0 _ _ (_ :: S) _ rfl hls hzL (List.forall_mem_cons.mpr ⟨hzL _ (zget_mem hg), hzS⟩))
    next x hg =>
      cases hop
      exact lv_aload_n hx hb hd (of_decide_eq_true hw) (zget_ls hls hg) (kk0 _ _ (_ :: S) _ rfl hls hzL (List.forall_mem_cons.mpr ⟨hzL _ (zget_mem hg), hzS⟩))
    next => cases hop
  case istore j =>
    obtain ⟨rfl, hd⟩ := zlen_d (k := 1) rfl hln hdc
    replace hop : zist d j (pc + (1 + 1)) L S h = some st2 := hop
    unfold zist at hop
    split at hop
    next x r =>
      cases hb0 : Nat.blt j (zl d) with
      | false => rw [hb0] at hop; cases hop
      | true =>
        rw [hb0, cond_true, zfl_eq] at hop
        cases hop
        exact lv_istore hx hb hd hls (Nat.blt_eq.mp hb0) rfl (fun ls2 hl2 => kk0 _ _ r ls2 rfl (zset_has1 rfl hl2) (zset_ok hzL (hzS _ List.mem_cons_self)) (fun v hv => hzS v (List.mem_cons_of_mem _ hv)))
    next => cases hop
  case istore_n j =>
    obtain ⟨rfl, hd⟩ := zlen_d (k := 0) rfl hln hdc
    replace hop : zist d a (pc + (0 + 1)) L S h = some st2 := hop
    unfold zist at hop
    split at hop
    next x r =>
      cases hb0 : Nat.blt a (zl d) with
      | false => rw [hb0] at hop; cases hop
      | true =>
        rw [hb0, cond_true, zfl_eq] at hop
        cases hop
        exact lv_istore_n hx hb hd (of_decide_eq_true hw) hls (Nat.blt_eq.mp hb0) rfl (fun ls2 hl2 => kk0 _ _ r ls2 rfl (zset_has1 rfl hl2) (zset_ok hzL (hzS _ List.mem_cons_self)) (fun v hv => hzS v (List.mem_cons_of_mem _ hv)))
    next => cases hop
  case astore j =>
    obtain ⟨rfl, hd⟩ := zlen_d (k := 1) rfl hln hdc
    replace hop : zast d j (pc + (1 + 1)) L S h = some st2 := hop
    unfold zast at hop
    split at hop
    next x r =>
      cases hb0 : Nat.blt j (zl d) with
      | false => rw [hb0] at hop; cases hop
      | true =>
        rw [hb0, cond_true, zfl_eq] at hop
        cases hop
        exact lv_astore hx hb hd hls (Nat.blt_eq.mp hb0) rfl (fun ls2 hl2 => kk0 _ _ r ls2 rfl (zset_has1 rfl hl2) (zset_ok hzL (hzS _ List.mem_cons_self)) (fun v hv => hzS v (List.mem_cons_of_mem _ hv)))
    next x r =>
      cases hb0 : Nat.blt j (zl d) with
      | false => rw [hb0] at hop; cases hop
      | true =>
        rw [hb0, cond_true, zfl_eq] at hop
        cases hop
        exact lv_astore hx hb hd hls (Nat.blt_eq.mp hb0) rfl (fun ls2 hl2 => kk0 _ _ r ls2 rfl (zset_has1 rfl hl2) (zset_ok hzL (hzS _ List.mem_cons_self)) (fun v hv => hzS v (List.mem_cons_of_mem _ hv)))
    next => cases hop
  case astore_n j =>
    obtain ⟨rfl, hd⟩ := zlen_d (k := 0) rfl hln hdc
    replace hop : zast d a (pc + (0 + 1)) L S h = some st2 := hop
    unfold zast at hop
    split at hop
    next x r =>
      cases hb0 : Nat.blt a (zl d) with
      | false => rw [hb0] at hop; cases hop
      | true =>
        rw [hb0, cond_true, zfl_eq] at hop
        cases hop
        exact lv_astore_n hx hb hd (of_decide_eq_true hw) hls (Nat.blt_eq.mp hb0) rfl (fun ls2 hl2 => kk0 _ _ r ls2 rfl (zset_has1 rfl hl2) (zset_ok hzL (hzS _ List.mem_cons_self)) (fun v hv => hzS v (List.mem_cons_of_mem _ hv)))
    next x r =>
      cases hb0 : Nat.blt a (zl d) with
      | false => rw [hb0] at hop; cases hop
      | true =>
        rw [hb0, cond_true, zfl_eq] at hop
        cases hop
        exact lv_astore_n hx hb hd (of_decide_eq_true hw) hls (Nat.blt_eq.mp hb0) rfl (fun ls2 hl2 => kk0 _ _ r ls2 rfl (zset_has1 rfl hl2) (zset_ok hzL (hzS _ List.mem_cons_self)) (fun v hv => hzS v (List.mem_cons_of_mem _ hv)))
    next => cases hop
  case lstore j =>
    obtain ⟨rfl, hd⟩ := zlen_d (k := 1) rfl hln hdc
    replace hop : zlst d j (pc + (1 + 1)) L S h = some st2 := hop
    unfold zlst at hop
    split at hop
    next x r =>
      cases hb0 : Nat.blt (j + 1) (zl d) with
      | false => rw [hb0] at hop; cases hop
      | true =>
        rw [hb0, cond_true, zfl_eq] at hop
        cases hop
        exact lv_lstore hx hb hd hls (Nat.blt_eq.mp hb0) rfl (fun ls2 hl2 => kk0 _ _ r ls2 rfl (zset_has2 rfl hl2) (zset_ok hzL (hzS _ List.mem_cons_self)) (fun v hv => hzS v (List.mem_cons_of_mem _ hv)))
    next => cases hop
  case lstore_n j =>
    obtain ⟨rfl, hd⟩ := zlen_d (k := 0) rfl hln hdc
    replace hop : zlst d a (pc + (0 + 1)) L S h = some st2 := hop
    unfold zlst at hop
    split at hop
    next x r =>
      cases hb0 : Nat.blt (a + 1) (zl d) with
      | false => rw [hb0] at hop; cases hop
      | true =>
        rw [hb0, cond_true, zfl_eq] at hop
        cases hop
        exact lv_lstore_n hx hb hd (of_decide_eq_true hw) hls (Nat.blt_eq.mp hb0) rfl (fun ls2 hl2 => kk0 _ _ r ls2 rfl (zset_has2 rfl hl2) (zset_ok hzL (hzS _ List.mem_cons_self)) (fun v hv => hzS v (List.mem_cons_of_mem _ hv)))
    next => cases hop
  case dstore j =>
    obtain ⟨rfl, hd⟩ := zlen_d (k := 1) rfl hln hdc
    replace hop : zdst d j (pc + (1 + 1)) L S h = some st2 := hop
    unfold zdst at hop
    split at hop
    next x r =>
      cases hb0 : Nat.blt (j + 1) (zl d) with
      | false => rw [hb0] at hop; cases hop
      | true =>
        rw [hb0, cond_true, zfl_eq] at hop
        cases hop
        exact lv_dstore hx hb hd hls (Nat.blt_eq.mp hb0) rfl (fun ls2 hl2 => kk0 _ _ r ls2 rfl (zset_has2 rfl hl2) (zset_ok hzL (hzS _ List.mem_cons_self)) (fun v hv => hzS v (List.mem_cons_of_mem _ hv)))
    next => cases hop
  case iinc j n =>
    obtain ⟨rfl, hd⟩ := zlen_d (k := 2) rfl hln hdc
    replace hop : (match zget L j with
      | some (.int x) => bif Nat.blt j (zl d) then zint a b (fun y => zfl (zset j (.int (x + y)) L) (fun l => some (pc + (2 + 1), l, S, h))) else none
      | _ => none) = some st2 := hop
    split at hop
    next x hg =>
      cases hb0 : Nat.blt j (zl d) with
      | false => rw [hb0] at hop; cases hop
      | true =>
        rw [hb0, cond_true, zint_ex hw, zfl_eq] at hop
        cases hop
        obtain ⟨k9, hk9⟩ := List.getElem?_of_mem (zget_lv hg)
        exact lv_iinc hx hb hd hls hk9 rfl (Nat.blt_eq.mp hb0) rfl (fun ls2 hl2 => kk0 _ _ S ls2 rfl (zset_has1 (v := .int _) rfl hl2) (zset_ok hzL trivial) hzS)
    next => cases hop
  case iadd =>
    obtain ⟨rfl, hd⟩ := zlen_d (k := 0) rfl hln hdc
    simp only [zop] at hop
    split at hop
    · cases hop
      exact lv_iadd hx hb hd (kk0 _ _ (_ :: _) _ rfl hls hzL (List.forall_mem_cons.mpr ⟨trivial, (fun v hv => hzS v (List.mem_cons_of_mem _ (List.mem_cons_of_mem _ hv)))⟩))
    · cases hop
  case isub =>
    obtain ⟨rfl, hd⟩ := zlen_d (k := 0) rfl hln hdc
    simp only [zop] at hop
    split at hop
    · cases hop
      exact lv_isub hx hb hd (kk0 _ _ (_ :: _) _ rfl hls hzL (List.forall_mem_cons.mpr ⟨trivial, (fun v hv => hzS v (List.mem_cons_of_mem _ (List.mem_cons_of_mem _ hv)))⟩))
    · cases hop
  case imul =>
    obtain ⟨rfl, hd⟩ := zlen_d (k := 0) rfl hln hdc
    simp only [zop] at hop
    split at hop
    · cases hop
      exact lv_imul hx hb hd (kk0 _ _ (_ :: _) _ rfl hls hzL (List.forall_mem_cons.mpr ⟨trivial, (fun v hv => hzS v (List.mem_cons_of_mem _ (List.mem_cons_of_mem _ hv)))⟩))
    · cases hop
  case iand =>
    obtain ⟨rfl, hd⟩ := zlen_d (k := 0) rfl hln hdc
    simp only [zop] at hop
    split at hop
    · cases hop
      exact lv_iand hx hb hd (kk0 _ _ (_ :: _) _ rfl hls hzL (List.forall_mem_cons.mpr ⟨trivial, (fun v hv => hzS v (List.mem_cons_of_mem _ (List.mem_cons_of_mem _ hv)))⟩))
    · cases hop
  case ior =>
    obtain ⟨rfl, hd⟩ := zlen_d (k := 0) rfl hln hdc
    simp only [zop] at hop
    split at hop
    · cases hop
      exact lv_ior hx hb hd (kk0 _ _ (_ :: _) _ rfl hls hzL (List.forall_mem_cons.mpr ⟨trivial, (fun v hv => hzS v (List.mem_cons_of_mem _ (List.mem_cons_of_mem _ hv)))⟩))
    · cases hop
  case ishl =>
    obtain ⟨rfl, hd⟩ := zlen_d (k := 0) rfl hln hdc
    simp only [zop] at hop
    split at hop
    · cases hop
      exact lv_ishl hx hb hd (kk0 _ _ (_ :: _) _ rfl hls hzL (List.forall_mem_cons.mpr ⟨trivial, (fun v hv => hzS v (List.mem_cons_of_mem _ (List.mem_cons_of_mem _ hv)))⟩))
    · cases hop
  case ishr =>
    obtain ⟨rfl, hd⟩ := zlen_d (k := 0) rfl hln hdc
    simp only [zop] at hop
    split at hop
    · cases hop
      exact lv_ishr hx hb hd (kk0 _ _ (_ :: _) _ rfl hls hzL (List.forall_mem_cons.mpr ⟨trivial, (fun v hv => hzS v (List.mem_cons_of_mem _ (List.mem_cons_of_mem _ hv)))⟩))
    · cases hop
  case ladd =>
    obtain ⟨rfl, hd⟩ := zlen_d (k := 0) rfl hln hdc
    simp only [zop] at hop
    split at hop
    · cases hop
      exact lv_ladd hx hb hd (kk0 _ _ (_ :: _) _ rfl hls hzL (List.forall_mem_cons.mpr ⟨trivial, (fun v hv => hzS v (List.mem_cons_of_mem _ (List.mem_cons_of_mem _ hv)))⟩))
    · cases hop
  case lmul =>
    obtain ⟨rfl, hd⟩ := zlen_d (k := 0) rfl hln hdc
    simp only [zop] at hop
    split at hop
    · cases hop
      exact lv_lmul hx hb hd (kk0 _ _ (_ :: _) _ rfl hls hzL (List.forall_mem_cons.mpr ⟨trivial, (fun v hv => hzS v (List.mem_cons_of_mem _ (List.mem_cons_of_mem _ hv)))⟩))
    · cases hop
  case lcmp =>
    obtain ⟨rfl, hd⟩ := zlen_d (k := 0) rfl hln hdc
    simp only [zop] at hop
    split at hop
    · cases hop
      exact W.lcmp hx hb hd (kk0 _ _ (_ :: _) _ rfl hls hzL (List.forall_mem_cons.mpr ⟨trivial, (fun v hv => hzS v (List.mem_cons_of_mem _ (List.mem_cons_of_mem _ hv)))⟩))
    · cases hop
  case dcmp o =>
    obtain ⟨rfl, hd⟩ := zlen_d (k := 0) rfl hln hdc
    simp only [zop] at hop
    split at hop
    · cases hop
      exact lv_dcmp hx hb hd (kk0 _ _ (_ :: _) _ rfl hls hzL (List.forall_mem_cons.mpr ⟨trivial, (fun v hv => hzS v (List.mem_cons_of_mem _ (List.mem_cons_of_mem _ hv)))⟩))
    · cases hop
  case idiv =>
    obtain ⟨rfl, hd⟩ := zlen_d (k := 0) rfl hln hdc
    simp only [zop] at hop
    split at hop
    · split at hop
      · cases hop
      · next hy =>
        cases hop
        exact lv_idiv hx hb hd hy (kk0 _ _ (_ :: _) _ rfl hls hzL (List.forall_mem_cons.mpr ⟨trivial, (fun v hv => hzS v (List.mem_cons_of_mem _ (List.mem_cons_of_mem _ hv)))⟩))
    · cases hop
  case irem =>
    obtain ⟨rfl, hd⟩ := zlen_d (k := 0) rfl hln hdc
    simp only [zop] at hop
    split at hop
    · split at hop
      · cases hop
      · next hy =>
        cases hop
        exact lv_irem hx hb hd hy (kk0 _ _ (_ :: _) _ rfl hls hzL (List.forall_mem_cons.mpr ⟨trivial, (fun v hv => hzS v (List.mem_cons_of_mem _ (List.mem_cons_of_mem _ hv)))⟩))
    · cases hop
  case ddiv =>
    obtain ⟨rfl, hd⟩ := zlen_d (k := 0) rfl hln hdc
    simp only [zop] at hop
    split at hop
    · split at hop
      · next hy =>
        cases hop
        exact lv_ddiv hx hb hd hy (kk0 _ _ (_ :: _) _ rfl hls hzL (List.forall_mem_cons.mpr ⟨trivial, (fun v hv => hzS v (List.mem_cons_of_mem _ (List.mem_cons_of_mem _ hv)))⟩))
      · cases hop
    · cases hop
  case i2l =>
    obtain ⟨rfl, hd⟩ := zlen_d (k := 0) rfl hln hdc
    simp only [zop] at hop
    split at hop
    · cases hop
      exact lv_i2l hx hb hd rfl (kk0 _ _ (_ :: _) _ rfl hls hzL (List.forall_mem_cons.mpr ⟨trivial, (fun v hv => hzS v (List.mem_cons_of_mem _ hv))⟩))
    · cases hop
  case i2d =>
    obtain ⟨rfl, hd⟩ := zlen_d (k := 0) rfl hln hdc
    simp only [zop] at hop
    split at hop
    · cases hop
      exact lv_i2d hx hb hd (kk0 _ _ (_ :: _) _ rfl hls hzL (List.forall_mem_cons.mpr ⟨trivial, (fun v hv => hzS v (List.mem_cons_of_mem _ hv))⟩))
    · cases hop
  case dup =>
    obtain ⟨rfl, hd⟩ := zlen_d (k := 0) rfl hln hdc
    simp only [zop] at hop
    split at hop
    next v r =>
      cases hb0 : Nat.beq v.category 1 with
      | false => rw [hb0] at hop; cases hop
      | true =>
        rw [hb0] at hop
        cases hop
        exact lv_dup hx hb hd (by rw [zv_cat]; exact Nat.eq_of_beq_eq_true hb0) (kk0 _ _ (v :: v :: r) _ rfl hls hzL (List.forall_mem_cons.mpr ⟨hzS _ List.mem_cons_self, hzS⟩))
    next => cases hop
  case dup2 =>
    obtain ⟨rfl, hd⟩ := zlen_d (k := 0) rfl hln hdc
    simp only [zop] at hop
    split at hop
    next v v2 r =>
      cases hb0 : Nat.beq v.category 1 && Nat.beq v2.category 1 with
      | false => rw [hb0] at hop; cases hop
      | true =>
        rw [hb0] at hop
        cases hop
        have hb1 := Bool.and_eq_true_iff.mp hb0
        exact lv_dup2_11 hx hb hd (by rw [zv_cat]; exact Nat.eq_of_beq_eq_true hb1.1) (by rw [zv_cat]; exact Nat.eq_of_beq_eq_true hb1.2) (kk0 _ _ (v :: v2 :: v :: v2 :: r) _ rfl hls hzL (List.forall_mem_cons.mpr ⟨hzS _ List.mem_cons_self, List.forall_mem_cons.mpr ⟨hzS _ (List.mem_cons_of_mem _ List.mem_cons_self), hzS⟩⟩))
    next => cases hop
  case pop =>
    obtain ⟨rfl, hd⟩ := zlen_d (k := 0) rfl hln hdc
    simp only [zop] at hop
    split at hop
    next v r =>
      cases hb0 : Nat.beq v.category 1 with
      | false => rw [hb0] at hop; cases hop
      | true =>
        rw [hb0] at hop
        rw [cond_true, zkl_eq] at hop
        cases hop
        exact lv_pop hx hb hd (by rw [zv_cat]; exact Nat.eq_of_beq_eq_true hb0) (kk0 _ _ r _ rfl (zkq_has hls) (fun q hq => hzL q (zkq_sub hq)) (fun v hv => hzS v (List.mem_cons_of_mem _ hv)))
    next => cases hop
  case goto off =>
    obtain ⟨rfl, hd⟩ := zlen_d (k := 2) rfl hln hdc
    replace hop : zkl b L (fun l => some (a, l, S, h)) = some st2 := hop
    rw [zkl_eq] at hop
    cases hop
    exact lv_goto hx hb hd (of_decide_eq_true hw) (kk0 _ _ S _ rfl (zkq_has hls) (fun q hq => hzL q (zkq_sub hq)) hzS)
  case ifCond cnd off =>
    obtain ⟨rfl, hd⟩ := zlen_d (k := 2) rfl hln hdc
    replace hop : zif cnd a (pc + (2 + 1)) L S h = some st2 := hop
    unfold zif at hop
    split at hop
    · cases cnd
      case eq => exact lv_if_eq hx hb hd (of_decide_eq_true hw) (fun q => by have e9 := hop.symm.trans (if_pos q); cases e9; exact kk0 _ _ _ _ rfl hls hzL (fun v hv => hzS v (List.mem_cons_of_mem _ hv))) (fun q => by have e9 := hop.symm.trans (if_neg q); cases e9; exact kk0 _ _ _ _ rfl hls hzL (fun v hv => hzS v (List.mem_cons_of_mem _ hv)))
      case ne => exact lv_if_ne hx hb hd (of_decide_eq_true hw) (fun q => by have e9 := hop.symm.trans (if_pos q); cases e9; exact kk0 _ _ _ _ rfl hls hzL (fun v hv => hzS v (List.mem_cons_of_mem _ hv))) (fun q => by have e9 := hop.symm.trans (if_neg (fun z => z q)); cases e9; exact kk0 _ _ _ _ rfl hls hzL (fun v hv => hzS v (List.mem_cons_of_mem _ hv)))
      case lt => exact lv_if_lt hx hb hd (of_decide_eq_true hw) (fun q => by have e9 := hop.symm.trans (if_pos q); cases e9; exact kk0 _ _ _ _ rfl hls hzL (fun v hv => hzS v (List.mem_cons_of_mem _ hv))) (fun q => by have e9 := hop.symm.trans (if_neg q); cases e9; exact kk0 _ _ _ _ rfl hls hzL (fun v hv => hzS v (List.mem_cons_of_mem _ hv)))
      case ge => exact lv_if_ge hx hb hd (of_decide_eq_true hw) (fun q => by have e9 := hop.symm.trans (if_pos q); cases e9; exact kk0 _ _ _ _ rfl hls hzL (fun v hv => hzS v (List.mem_cons_of_mem _ hv))) (fun q => by have e9 := hop.symm.trans (if_neg q); cases e9; exact kk0 _ _ _ _ rfl hls hzL (fun v hv => hzS v (List.mem_cons_of_mem _ hv)))
      case gt => exact lv_if_gt hx hb hd (of_decide_eq_true hw) (fun q => by have e9 := hop.symm.trans (if_pos q); cases e9; exact kk0 _ _ _ _ rfl hls hzL (fun v hv => hzS v (List.mem_cons_of_mem _ hv))) (fun q => by have e9 := hop.symm.trans (if_neg q); cases e9; exact kk0 _ _ _ _ rfl hls hzL (fun v hv => hzS v (List.mem_cons_of_mem _ hv)))
      case le => exact lv_if_le hx hb hd (of_decide_eq_true hw) (fun q => by have e9 := hop.symm.trans (if_pos q); cases e9; exact kk0 _ _ _ _ rfl hls hzL (fun v hv => hzS v (List.mem_cons_of_mem _ hv))) (fun q => by have e9 := hop.symm.trans (if_neg q); cases e9; exact kk0 _ _ _ _ rfl hls hzL (fun v hv => hzS v (List.mem_cons_of_mem _ hv)))
    · cases hop
  case if_icmp cnd off =>
    obtain ⟨rfl, hd⟩ := zlen_d (k := 2) rfl hln hdc
    replace hop : zic cnd a (pc + (2 + 1)) L S h = some st2 := hop
    unfold zic at hop
    split at hop
    · cases cnd
      case eq => exact lv_icmp_eq hx hb hd (of_decide_eq_true hw) (fun q => by have e9 := hop.symm.trans (if_pos q); cases e9; exact kk0 _ _ _ _ rfl hls hzL (fun v hv => hzS v (List.mem_cons_of_mem _ (List.mem_cons_of_mem _ hv)))) (fun q => by have e9 := hop.symm.trans (if_neg q); cases e9; exact kk0 _ _ _ _ rfl hls hzL (fun v hv => hzS v (List.mem_cons_of_mem _ (List.mem_cons_of_mem _ hv))))
      case ne => exact lv_icmp_ne hx hb hd (of_decide_eq_true hw) (fun q => by have e9 := hop.symm.trans (if_pos q); cases e9; exact kk0 _ _ _ _ rfl hls hzL (fun v hv => hzS v (List.mem_cons_of_mem _ (List.mem_cons_of_mem _ hv)))) (fun q => by have e9 := hop.symm.trans (if_neg (fun z => z q)); cases e9; exact kk0 _ _ _ _ rfl hls hzL (fun v hv => hzS v (List.mem_cons_of_mem _ (List.mem_cons_of_mem _ hv))))
      case lt => exact lv_icmp_lt hx hb hd (of_decide_eq_true hw) (fun q => by have e9 := hop.symm.trans (if_pos q); cases e9; exact kk0 _ _ _ _ rfl hls hzL (fun v hv => hzS v (List.mem_cons_of_mem _ (List.mem_cons_of_mem _ hv)))) (fun q => by have e9 := hop.symm.trans (if_neg q); cases e9; exact kk0 _ _ _ _ rfl hls hzL (fun v hv => hzS v (List.mem_cons_of_mem _ (List.mem_cons_of_mem _ hv))))
      case ge => exact lv_icmp_ge hx hb hd (of_decide_eq_true hw) (fun q => by have e9 := hop.symm.trans (if_pos q); cases e9; exact kk0 _ _ _ _ rfl hls hzL (fun v hv => hzS v (List.mem_cons_of_mem _ (List.mem_cons_of_mem _ hv)))) (fun q => by have e9 := hop.symm.trans (if_neg q); cases e9; exact kk0 _ _ _ _ rfl hls hzL (fun v hv => hzS v (List.mem_cons_of_mem _ (List.mem_cons_of_mem _ hv))))
      case gt => exact lv_icmp_gt hx hb hd (of_decide_eq_true hw) (fun q => by have e9 := hop.symm.trans (if_pos q); cases e9; exact kk0 _ _ _ _ rfl hls hzL (fun v hv => hzS v (List.mem_cons_of_mem _ (List.mem_cons_of_mem _ hv)))) (fun q => by have e9 := hop.symm.trans (if_neg q); cases e9; exact kk0 _ _ _ _ rfl hls hzL (fun v hv => hzS v (List.mem_cons_of_mem _ (List.mem_cons_of_mem _ hv))))
      case le => exact lv_icmp_le hx hb hd (of_decide_eq_true hw) (fun q => by have e9 := hop.symm.trans (if_pos q); cases e9; exact kk0 _ _ _ _ rfl hls hzL (fun v hv => hzS v (List.mem_cons_of_mem _ (List.mem_cons_of_mem _ hv)))) (fun q => by have e9 := hop.symm.trans (if_neg q); cases e9; exact kk0 _ _ _ _ rfl hls hzL (fun v hv => hzS v (List.mem_cons_of_mem _ (List.mem_cons_of_mem _ hv))))
    · cases hop
  case tableswitch df lo hi offs =>
    simp only [zop] at hop
    split at hop
    · split at hop
      · next hq =>
        unfold zjmp at hop
        split at hop
        · next hz =>
          cases hop
          exact lv_tableOut hx hb hdc hq (Int.toNat_of_nonneg hz).symm (kk0 _ _ _ _ rfl hls hzL (fun v hv => hzS v (List.mem_cons_of_mem _ hv)))
        · cases hop
      · next hq =>
        split at hop
        · next off ho =>
          unfold zjmp at hop
          split at hop
          · next hz =>
            cases hop
            exact lv_tableIn hx hb hdc (fun q => hq (Or.inl q)) (fun q => hq (Or.inr q)) ho (Int.toNat_of_nonneg hz).symm (kk0 _ _ _ _ rfl hls hzL (fun v hv => hzS v (List.mem_cons_of_mem _ hv)))
          · cases hop
        · cases hop
    · cases hop
  case getfield j =>
    obtain ⟨rfl, hd⟩ := zlen_d (k := 2) rfl hln hdc
    replace hop : zgf a b (pc + (2 + 1)) L S h = some st2 := hop
    replace hw : (Nat.blt a 4 && (Nat.blt b (zN a) && zat w (.fieldLink (zcn (zo d)) j (zTT a b).1 (zTT a b).2.1 (zTT a b).2.2.1))) = true := hw
    obtain ⟨hw1, hw2⟩ := Bool.and_eq_true_iff.mp hw
    obtain ⟨hw2, hw3⟩ := Bool.and_eq_true_iff.mp hw2
    unfold zgf at hop
    split at hop
    · split at hop
      next ci fs hk =>
        cases hb0 : Nat.beq ci a with
        | false => rw [hb0] at hop; cases hop
        | true =>
          rw [hb0, cond_true] at hop
          have e0 : ci = a := Nat.eq_of_beq_eq_true hb0
          subst e0
          split at hop
          next v hv =>
            cases hop
            exact va_get (D := D) hx hb hts (zin_u (Nat.blt_eq.mp hw1)) hown hK hP _ (zWd_get hal hk) (zcl_at (Nat.blt_eq.mp hw1)) b (Nat.blt_eq.mp hw2) (zat_w hts hw3) (fun _ h9 => h9) (by rw [List.getElem?_map, hv]; rfl) hd (kk0 _ _ (v :: _) _ rfl hls hzL (List.forall_mem_cons.mpr ⟨zok_h (hwf _ (List.mem_of_getElem? hk) v (List.mem_of_getElem? hv)), (fun v hv => hzS v (List.mem_cons_of_mem _ hv))⟩))
          next => cases hop
      next => cases hop
    · cases hop
  case putfield j =>
    obtain ⟨rfl, hd⟩ := zlen_d (k := 2) rfl hln hdc
    replace hop : zpf a b (pc + (2 + 1)) L S h = some st2 := hop
    replace hw : (Nat.blt a 4 && (Nat.blt b (zN a) && (zat w (.fieldLink (zcn (zo d)) j (zTT a b).1 (zTT a b).2.1 (zTT a b).2.2.1) && (!(zTT a b).2.2.2 || (Nat.ble 2 (zk d) && (Nat.ble (zk d) 3 && decide ((zTT a b).1 = zcn (zo d)))))))) = true := hw
    obtain ⟨hw1, hw2⟩ := Bool.and_eq_true_iff.mp hw
    obtain ⟨hw2, hw3⟩ := Bool.and_eq_true_iff.mp hw2
    obtain ⟨hw3, hw4⟩ := Bool.and_eq_true_iff.mp hw3
    unfold zpf at hop
    split at hop
    next v k r =>
      split at hop
      next ci fs hk =>
        cases hb0 : Nat.beq ci a && (Nat.blt b fs.length && zfit (zty a b) v) with
        | false => rw [hb0] at hop; cases hop
        | true =>
          rw [hb0, cond_true] at hop
          obtain ⟨hb1, hb2⟩ := Bool.and_eq_true_iff.mp hb0
          obtain ⟨hb4, hb3⟩ := Bool.and_eq_true_iff.mp hb2
          have e0 : ci = a := Nat.eq_of_beq_eq_true hb1
          subst e0
          cases hop
          have hkl : k < h.1.length := (List.getElem?_eq_some_iff.mp hk).1
          have hgo : ∀ (H1 : Heap) (locs1 : List Loc), va_P D zcl ((zWd ro cA ad h.1).set k (zad ad k, .inr (ci, (fs.map (zv ro ad)).set b (zv ro ad v)))) H1 → va_D A ((zWd ro cA ad h.1).set k (zad ad k, .inr (ci, (fs.map (zv ro ad)).set b (zv ro ad v)))) → va_S A s.heap H1 locs1 → W p l e R s m args below meth c H1 locs1 cells slots Q (F0 m (pc + (2 + 1)) ls (r.map (zv ro ad))) := by
            intro H1 locs1 hP1 hD1 hS1
            have e9 : (zWd ro cA ad h.1).set k (zad ad k, .inr (ci, (fs.map (zv ro ad)).set b (zv ro ad v))) = zWd ro cA ad (h.1.set k (.inr (ci, fs.set b v))) := by
              rw [zWd_set _ hal hkl]
              show _ = (zWd ro cA ad h.1).set k (zad ad k, .inr (ci, (fs.set b v).map (zv ro ad)))
              rw [List.map_set]
            rw [e9] at hP1 hD1
            have k9 := kk H1 locs1 [] ls cells slots
            rw [List.append_nil] at k9
            refine k9 ⟨by rw [List.length_set]; exact hal, hP1, hD1, hS1, hls, hzL, fun v hv => hzS v (List.mem_cons_of_mem _ (List.mem_cons_of_mem _ hv)), fun c hc => ?_⟩ (by show _ = (h.1.set k _).length + _; rw [List.length_set]; exact hcl) (by show _ = zsz (h.1.set k _) + _; rw [zsz_set (c2 := .inr (ci, fs.set b v)) hk rfl]; exact hsl)
            rcases List.mem_or_eq_of_mem_set hc with q | q
            · exact hwf c q
            · rw [q]
              intro v9 hv9
              rcases List.mem_or_eq_of_mem_set hv9 with q2 | q2
              · exact hwf _ (List.mem_of_getElem? hk) v9 q2
              · rw [q2]; exact zfit_okh hb3 (hzS v List.mem_cons_self)
          by_cases hfin : (zTT ci b).2.2.2 = true
          · rw [hfin] at hw4
            obtain ⟨g1, g2⟩ := Bool.and_eq_true_iff.mp hw4
            obtain ⟨g2, g3⟩ := Bool.and_eq_true_iff.mp g2
            have g1 := Nat.le_of_ble_eq_true g1
            have g2 := Nat.le_of_ble_eq_true g2
            exact va_putF (D := D) hx hb hts (zin_u (Nat.blt_eq.mp hw1)) (zty ci) (z_ty (Nat.blt_eq.mp hw1)) (z_nm (Nat.blt_eq.mp hw1)) hown hK hP hD hS _ (zWd_get hal hk) (zcl_at (Nat.blt_eq.mp hw1)) b (Nat.blt_eq.mp hw2) (zat_w hts hw3) (fun _ h9 => h9) hfin (hin (by omega)) (of_decide_eq_true g3) (z_ty (Nat.blt_eq.mp hw1) b (Nat.blt_eq.mp hw2)) (zfit_n hb3) (zfit_f hb3) (by rw [List.length_map]; exact Nat.blt_eq.mp hb4) hd hgo
          · exact va_put (D := D) hx hb hts (zin_u (Nat.blt_eq.mp hw1)) (zty ci) (z_ty (Nat.blt_eq.mp hw1)) (z_nm (Nat.blt_eq.mp hw1)) hown hK hP hD hS _ (zWd_get hal hk) (zcl_at (Nat.blt_eq.mp hw1)) b (Nat.blt_eq.mp hw2) (zat_w hts hw3) (fun _ h9 => h9) (by cases q : (zTT ci b).2.2.2 with | true => exact absurd q hfin | false => rfl) (z_ty (Nat.blt_eq.mp hw1) b (Nat.blt_eq.mp hw2)) (zfit_n hb3) (zfit_f hb3) (by rw [List.length_map]; exact Nat.blt_eq.mp hb4) hd hgo
      next => cases hop
    next => cases hop
  case iaload =>
    obtain ⟨rfl, hd⟩ := zlen_d (k := 0) rfl hln hdc
    replace hop : zial X (pc + (0 + 1)) L S h = some st2 := hop
    unfold zial at hop
    split at hop
    · split at hop
      next n f9 hk =>
        split at hop
        next hi =>
          cases hop
          exact va_iald hx hb hK hP _ 0 (zWd_get hal hk) rfl hi hd (kk0 _ _ (_ :: _) _ rfl hls hzL (List.forall_mem_cons.mpr ⟨trivial, (fun v hv => hzS v (List.mem_cons_of_mem _ (List.mem_cons_of_mem _ hv)))⟩))
        next => cases hop
      next => cases hop
    · next t r =>
      cases hb0 : Nat.blt t 1 with
      | false => rw [hb0] at hop; cases hop
      | true =>
        rw [hb0, cond_true] at hop
        split at hop
        next hi =>
          cases hop
          exact va_ti hx hb (hE.2.1 t (Nat.blt_eq.mp hb0)) hS hi rfl hd (kk0 _ _ (_ :: _) _ rfl hls hzL (List.forall_mem_cons.mpr ⟨trivial, (fun v hv => hzS v (List.mem_cons_of_mem _ (List.mem_cons_of_mem _ hv)))⟩))
        next => cases hop
    · cases hop
  case iastore =>
    obtain ⟨rfl, hd⟩ := zlen_d (k := 0) rfl hln hdc
    replace hop : zias (pc + (0 + 1)) L S h = some st2 := hop
    unfold zias at hop
    split at hop
    next x j k r =>
      split at hop
      next n f9 hk =>
        split at hop
        next hi =>
          cases hop
          have hkl : k < h.1.length := (List.getElem?_eq_some_iff.mp hk).1
          exact va_iast hx hb hK hP hD hS _ 0 (zWd_get hal hk) rfl hi hd (fun H1 locs1 hP1 hD1 hS1 => by
            have e9 : (zWd ro cA ad h.1).set k (zad ad k, .inl (cA 0, n, .inl (upd f9 j.toNatClampNeg x))) = zWd ro cA ad (h.1.set k (.inl (n, .inl (upd f9 j.toNatClampNeg x)))) := (zWd_set (ro := ro) (cA := cA) (.inl (n, .inl (upd f9 j.toNatClampNeg x))) hal hkl).symm
            rw [e9] at hP1 hD1
            have k9 := kk H1 locs1 [] ls cells slots
            rw [List.append_nil] at k9
            refine k9 ⟨by rw [List.length_set]; exact hal, hP1, hD1, hS1, hls, hzL, fun v hv => hzS v (List.mem_cons_of_mem _ (List.mem_cons_of_mem _ (List.mem_cons_of_mem _ hv))), fun c hc => ?_⟩ (by show _ = (h.1.set k _).length + _; rw [List.length_set]; exact hcl) (by show _ = zsz (h.1.set k _) + _; rw [zsz_set (c2 := .inl (n, .inl (upd f9 j.toNatClampNeg x))) hk rfl]; exact hsl)
            rcases List.mem_or_eq_of_mem_set hc with q | q
            · exact hwf c q
            · rw [q]; trivial
          )
        next => cases hop
      next => cases hop
    next => cases hop
  case aaload =>
    obtain ⟨rfl, hd⟩ := zlen_d (k := 0) rfl hln hdc
    replace hop : zaal (pc + (0 + 1)) L S h = some st2 := hop
    unfold zaal at hop
    split at hop
    next j k r =>
      split at hop
      next n g9 hk =>
        split at hop
        next hi =>
          split at hop
          next q9 hg =>
            cases hop
            have hlt : j.toNatClampNeg < n := Nat.not_le.mp fun q => hi (Or.inr q)
            have hcell := hP _ _ (zWd_get hal hk)
            refine W.aald (v := .ref (zad ad q9)) (ty := .array .int) hx hb hcell ((hK.2 2 _ rfl).1 n (fun j => va_rf ((g9 j).map (zad ad)))) rfl (fun q => by cases q) (by show ¬ (j < 0 ∨ (arrV _ _ _).slots.size ≤ _); rw [arrV_size]; exact hi) (by show (arrV _ _ _).slots[_]? = _; rw [arrV_read _ _ hlt]; show some (va_rf ((g9 j.toNatClampNeg).map (zad ad))) = _; rw [hg]; rfl) rfl rfl hd ?_
            exact kk0 _ _ (.ref q9 :: r) _ rfl hls hzL (List.forall_mem_cons.mpr ⟨hwf _ (List.mem_of_getElem? hk) _ _ hg, (fun v hv => hzS v (List.mem_cons_of_mem _ (List.mem_cons_of_mem _ hv)))⟩)
          next => cases hop
        next => cases hop
      next => cases hop
    next => cases hop
  case arraylength =>
    obtain ⟨rfl, hd⟩ := zlen_d (k := 0) rfl hln hdc
    replace hop : zalen X (pc + (0 + 1)) L S h = some st2 := hop
    unfold zalen at hop
    split at hop
    · split at hop
      next n f9 hk =>
        cases hop
        exact va_alen hx hb hK hP _ 0 (zWd_get hal hk) rfl rfl hd (kk0 _ _ (_ :: _) _ rfl hls hzL (List.forall_mem_cons.mpr ⟨trivial, (fun v hv => hzS v (List.mem_cons_of_mem _ hv))⟩))
      next n f9 hk =>
        cases hop
        exact va_alen hx hb hK hP _ 2 (zWd_get hal hk) rfl rfl hd (kk0 _ _ (_ :: _) _ rfl hls hzL (List.forall_mem_cons.mpr ⟨trivial, (fun v hv => hzS v (List.mem_cons_of_mem _ hv))⟩))
      next => cases hop
    · next t r =>
      cases hb0 : Nat.blt t 1 with
      | false => rw [hb0] at hop; cases hop
      | true =>
        rw [hb0, cond_true] at hop
        cases hop
        exact va_tlen hx hb (hE.2.1 t (Nat.blt_eq.mp hb0)) hS rfl hd (kk0 _ _ (_ :: _) _ rfl hls hzL (List.forall_mem_cons.mpr ⟨trivial, (fun v hv => hzS v (List.mem_cons_of_mem _ hv))⟩))
    · cases hop
  case new j =>
    obtain ⟨rfl, hd⟩ := zlen_d (k := 2) rfl hln hdc
    replace hop : znew a (pc + (2 + 1)) L S h = some st2 := hop
    replace hw : (bif Nat.blt a 4 then zat w (.classLink (zcn (zo d)) j (zcn a)) else _) = true := hw
    cases hb0 : Nat.blt a 4 with
    | false => rw [ha5 ⟨j, rfl⟩] at hb0; cases hb0
    | true =>
      rw [hb0, cond_true] at hw
      have ha := Nat.blt_eq.mp hb0
      unfold znew at hop
      cases hop
      have hR1 : (h.1 ++ [(.inr (a, zdef a) : zC)]).length + h.2 ≤ cb + R.cells := hR1
      have hR2 : zsz (h.1 ++ [(.inr (a, zdef a) : zC)]) + 6 * h.2 ≤ sb + R.slots := hR2
      have hz1 : zsz (h.1 ++ [(.inr (a, zdef a) : zC)]) = zsz h.1 + zN a := by rw [zsz_app]; rfl
      rw [List.length_append] at hR1
      rw [hz1] at hR2
      have hR1 : h.1.length + 1 + h.2 ≤ cb + R.cells := hR1
      refine va_new (ci := a) (fs := zdef a) (C := zcn a) (T := zTT a) (N := zN a) hx hb hts (zin_u ha) (zty a) (z_ty ha) hown (zat_w hts hw) (hts _ (z_inst ha)) (hts _ (z_init ha)) hK hP hD hS hA (zcl_at ha) (z_def ha) (by omega) (by omega) hd (fun q H1 hP1 hD1 hS1 => ?_)
      have e9 : zWd ro cA ad h.1 ++ [(q, .inr (a, zdef a))] = zWd ro cA (ad ++ [q]) (h.1 ++ [.inr (a, zdef a)]) := by
        rw [zWd_app hal hwf]
        show _ = _ ++ [(q, (Sum.inr (a, (zdef a).map (zv ro (ad ++ [q]))) : va_E))]
        rw [zdef_v]
      rw [e9] at hP1 hD1
      have hln1 : (ad ++ [q]).length = ad.length + 1 := by rw [List.length_append]; rfl
      have k9 := kk H1 locs [q] ls (cells + 1) (slots + zN a) ⟨by rw [hln1, List.length_append, hal]; rfl, hP1, hD1, hS1, zls_app hls hzL, fun q9 hq9 => zok_mono (by omega) (hzL q9 hq9), List.forall_mem_cons.mpr ⟨by show h.1.length < (ad ++ [q]).length; omega, fun v hv => zok_mono (by omega) (hzS v hv)⟩, fun c hc => ?_⟩ (by show _ = (h.1 ++ [(.inr (a, zdef a) : zC)]).length + h.2; rw [List.length_append]; show _ = h.1.length + 1 + h.2; omega) (by show _ = zsz (h.1 ++ [(.inr (a, zdef a) : zC)]) + 6 * h.2; rw [hz1]; omega)
      · have e8 : zad (ad ++ [q]) h.1.length = q := by
          have h8 := zad_get (ad := ad ++ [q]) (k := h.1.length) (by omega)
          rw [← hal, List.getElem?_append_right (Nat.le_refl _), Nat.sub_self] at h8
          rw [← hal]
          exact (Option.some.inj h8).symm
        have e7 : (Value.ref h.1.length :: S).map (zv ro (ad ++ [q])) = Value.ref q :: S.map (zv ro ad) := by
          rw [List.map_cons, zv_map hzS]
          show Value.ref (zad (ad ++ [q]) h.1.length) :: _ = _
          rw [e8]
        have k8 : W p l e R s m args below meth c H1 locs (cells + 1) (slots + zN a) Q (F0 m (pc + (2 + 1)) ls ((Value.ref h.1.length :: S).map (zv ro (ad ++ [q])))) := k9
        rw [e7] at k8
        exact k8
      · rcases List.mem_append.mp hc with q9 | q9
        · exact zokc_mono (by omega) (hwf c q9)
        · rw [List.mem_singleton.mp q9]
          exact zdef_ok a _
  case newarray t =>
    obtain ⟨rfl, hd⟩ := zlen_d (k := 1) rfl hln hdc
    replace hop : znwa t (pc + (1 + 1)) L S h = some st2 := hop
    unfold znwa at hop
    split at hop
    next n r =>
      split at hop
      · split at hop
        next hn =>
          cases hop
          have hR1 : (h.1 ++ [(.inl (n.toNatClampNeg, .inl (fun _ => 0)) : zC)]).length + h.2 ≤ cb + R.cells := hR1
          have hR2 : zsz (h.1 ++ [(.inl (n.toNatClampNeg, .inl (fun _ => 0)) : zC)]) + 6 * h.2 ≤ sb + R.slots := hR2
          have hz1 : zsz (h.1 ++ [(.inl (n.toNatClampNeg, .inl (fun _ => 0)) : zC)]) = zsz h.1 + n.toNatClampNeg := by rw [zsz_app]; rfl
          rw [List.length_append] at hR1
          rw [hz1] at hR2
          have hR1 : h.1.length + 1 + h.2 ≤ cb + R.cells := hR1
          refine va_newa (atype := .int) hx hb (hts _ z_ai) (ty := .int) rfl hK hP hD hS hA (a0 := (n.toNatClampNeg, .inl (fun _ => 0))) (fun c9 => rfl) hn.1 rfl hn.2 (by omega) (by omega) hd (fun q c9 H1 hK1 hP1 hD1 hS1 => ?_)
          have ec : c9 = cA 0 := Option.some.inj (((hK1.2 3 _ rfl).2).symm.trans ((hK.2 0 _ rfl).2))
          subst ec
          have e9 : zWd ro cA ad h.1 ++ [(q, .inl (cA 0, (n.toNatClampNeg, .inl (fun _ => 0))))] = zWd ro cA (ad ++ [q]) (h.1 ++ [.inl (n.toNatClampNeg, .inl (fun _ => 0))]) := by
            rw [zWd_app hal hwf]
            rfl
          rw [e9] at hP1 hD1
          have hln1 : (ad ++ [q]).length = ad.length + 1 := by rw [List.length_append]; rfl
          have hzr : ∀ v ∈ r, zok ad.length v := fun v hv => hzS v (List.mem_cons_of_mem _ hv)
          have k9 := kk H1 locs [q] ls (cells + 1) (slots + n.toNatClampNeg) ⟨by rw [hln1, List.length_append, hal]; rfl, hP1, hD1, hS1, zls_app hls hzL, fun q9 hq9 => zok_mono (by omega) (hzL q9 hq9), List.forall_mem_cons.mpr ⟨by show h.1.length < (ad ++ [q]).length; omega, fun v hv => zok_mono (by omega) (hzr v hv)⟩, fun c hc => ?_⟩ (by show _ = (h.1 ++ [(.inl (n.toNatClampNeg, .inl (fun _ => 0)) : zC)]).length + h.2; rw [List.length_append]; show _ = h.1.length + 1 + h.2; omega) (by show _ = zsz (h.1 ++ [(.inl (n.toNatClampNeg, .inl (fun _ => 0)) : zC)]) + 6 * h.2; rw [hz1]; omega)
          · have e8 : zad (ad ++ [q]) h.1.length = q := by
              have h8 := zad_get (ad := ad ++ [q]) (k := h.1.length) (by omega)
              rw [← hal, List.getElem?_append_right (Nat.le_refl _), Nat.sub_self] at h8
              rw [← hal]
              exact (Option.some.inj h8).symm
            have e7 : (Value.ref h.1.length :: r).map (zv ro (ad ++ [q])) = Value.ref q :: r.map (zv ro ad) := by
              rw [List.map_cons, zv_map hzr]
              show Value.ref (zad (ad ++ [q]) h.1.length) :: _ = _
              rw [e8]
            have k8 : W p l e R s m args below meth c H1 locs (cells + 1) (slots + n.toNatClampNeg) Q (F0 m (pc + (1 + 1)) ls ((Value.ref h.1.length :: r).map (zv ro (ad ++ [q])))) := k9
            rw [e7] at k8
            exact k8
          · rcases List.mem_append.mp hc with q9 | q9
            · exact zokc_mono (by omega) (hwf c q9)
            · rw [List.mem_singleton.mp q9]
              trivial
        next => cases hop
      · cases hop
    next => cases hop
  case anewarray j =>
    obtain ⟨rfl, hd⟩ := zlen_d (k := 2) rfl hln hdc
    replace hop : zana (pc + (2 + 1)) L S h = some st2 := hop
    unfold zana at hop
    split at hop
    next n r =>
      split at hop
      next hn =>
        cases hop
        have hR1 : (h.1 ++ [(.inl (n.toNatClampNeg, .inr (.inr (.inr (.inr (fun _ => none))))) : zC)]).length + h.2 ≤ cb + R.cells := hR1
        have hR2 : zsz (h.1 ++ [(.inl (n.toNatClampNeg, .inr (.inr (.inr (.inr (fun _ => none))))) : zC)]) + 6 * h.2 ≤ sb + R.slots := hR2
        have hz1 : zsz (h.1 ++ [(.inl (n.toNatClampNeg, .inr (.inr (.inr (.inr (fun _ => none))))) : zC)]) = zsz h.1 + n.toNatClampNeg := by rw [zsz_app]; rfl
        rw [List.length_append] at hR1
        rw [hz1] at hR2
        have hR1 : h.1.length + 1 + h.2 ≤ cb + R.cells := hR1
        have hcl9 : (Cond.classLink (zcn (zo d)) j (FieldType.array FieldType.int).toString).before args s = true := by rw [z_I]; exact zat_w hts hw
        refine va_newqA (ty := .int) hx hb hown hcl9 hE.2.2.2.2.2.2.1 hP hD hS hA hn.1 rfl hn.2 (by omega) (by omega) hd (fun q c9 H1 hc9 hP1 hD1 hS1 => ?_)
        have ec : c9 = cA 2 := Option.some.inj (hc9.symm.trans ((hK.2 2 _ rfl).2))
        subst ec
        have e9 : zWd ro cA ad h.1 ++ [(q, .inl (cA 2, (n.toNatClampNeg, .inr (.inr (.inr (.inr (fun _ => none)))))))] = zWd ro cA (ad ++ [q]) (h.1 ++ [.inl (n.toNatClampNeg, .inr (.inr (.inr (.inr (fun _ => none)))))]) := by
          rw [zWd_app hal hwf]
          rfl
        rw [e9] at hP1 hD1
        have hln1 : (ad ++ [q]).length = ad.length + 1 := by rw [List.length_append]; rfl
        have hzr : ∀ v ∈ r, zok ad.length v := fun v hv => hzS v (List.mem_cons_of_mem _ hv)
        have k9 := kk H1 locs [q] ls (cells + 1) (slots + n.toNatClampNeg) ⟨by rw [hln1, List.length_append, hal]; rfl, hP1, hD1, hS1, zls_app hls hzL, fun q9 hq9 => zok_mono (by omega) (hzL q9 hq9), List.forall_mem_cons.mpr ⟨by show h.1.length < (ad ++ [q]).length; omega, fun v hv => zok_mono (by omega) (hzr v hv)⟩, fun c hc => ?_⟩ (by show _ = (h.1 ++ [(.inl (n.toNatClampNeg, .inr (.inr (.inr (.inr (fun _ => none))))) : zC)]).length + h.2; rw [List.length_append]; show _ = h.1.length + 1 + h.2; omega) (by show _ = zsz (h.1 ++ [(.inl (n.toNatClampNeg, .inr (.inr (.inr (.inr (fun _ => none))))) : zC)]) + 6 * h.2; rw [hz1]; omega)
        · have e8 : zad (ad ++ [q]) h.1.length = q := by
            have h8 := zad_get (ad := ad ++ [q]) (k := h.1.length) (by omega)
            rw [← hal, List.getElem?_append_right (Nat.le_refl _), Nat.sub_self] at h8
            rw [← hal]
            exact (Option.some.inj h8).symm
          have e7 : (Value.ref h.1.length :: r).map (zv ro (ad ++ [q])) = Value.ref q :: r.map (zv ro ad) := by
            rw [List.map_cons, zv_map hzr]
            show Value.ref (zad (ad ++ [q]) h.1.length) :: _ = _
            rw [e8]
          have k8 : W p l e R s m args below meth c H1 locs (cells + 1) (slots + n.toNatClampNeg) Q (F0 m (pc + (2 + 1)) ls ((Value.ref h.1.length :: r).map (zv ro (ad ++ [q])))) := k9
          rw [e7] at k8
          exact k8
        · rcases List.mem_append.mp hc with q9 | q9
          · exact zokc_mono (by omega) (hwf c q9)
          · rw [List.mem_singleton.mp q9]
            exact fun _ _ z9 => by cases z9
      next => cases hop
    next => cases hop
  case aastore =>
    obtain ⟨rfl, hd⟩ := zlen_d (k := 0) rfl hln hdc
    replace hop : zaas (pc + (0 + 1)) L S h = some st2 := hop
    unfold zaas at hop
    split at hop
    next k1 j k r =>
      split at hop
      next n g9 n1 f1 hk hk1 =>
        split at hop
        next hi =>
          cases hop
          have hkl : k < h.1.length := (List.getElem?_eq_some_iff.mp hk).1
          exact va_astqA hx hb hE.2.2.2.2.2.2.1 hP hD hS _ _ (zWd_get hal hk) (zWd_get hal hk1) (hK.2 2 _ rfl).2 (hK.2 0 _ rfl).2 hi hd (fun H1 locs1 hP1 hD1 hS1 => by
            have e8 : va_up (fun i9 => (g9 i9).map (zad ad)) j.toNatClampNeg (some (zad ad k1)) = (fun i9 => (va_up g9 j.toNatClampNeg (some k1) i9).map (zad ad)) := by
              funext i9
              by_cases hq : i9 = j.toNatClampNeg
              · subst hq
                simp [va_up]
              · simp [va_up, hq]
            rw [e8] at hP1 hD1
            have e9 : (zWd ro cA ad h.1).set k (zad ad k, .inl (cA 2, n, .inr (.inr (.inr (.inr (fun i9 => (va_up g9 j.toNatClampNeg (some k1) i9).map (zad ad))))))) = zWd ro cA ad (h.1.set k (.inl (n, .inr (.inr (.inr (.inr (va_up g9 j.toNatClampNeg (some k1)))))))) := (zWd_set (ro := ro) (cA := cA) (.inl (n, .inr (.inr (.inr (.inr (va_up g9 j.toNatClampNeg (some k1))))))) hal hkl).symm
            rw [e9] at hP1 hD1
            have k9 := kk H1 locs1 [] ls cells slots
            rw [List.append_nil] at k9
            refine k9 ⟨by rw [List.length_set]; exact hal, hP1, hD1, hS1, hls, hzL, fun v hv => hzS v (List.mem_cons_of_mem _ (List.mem_cons_of_mem _ (List.mem_cons_of_mem _ hv))), fun c hc => ?_⟩ (by show _ = (h.1.set k _).length + _; rw [List.length_set]; exact hcl) (by show _ = zsz (h.1.set k _) + _; rw [zsz_set (c2 := .inl (n, .inr (.inr (.inr (.inr (va_up g9 j.toNatClampNeg (some k1))))))) hk rfl]; exact hsl)
            rcases List.mem_or_eq_of_mem_set hc with q | q
            · exact hwf c q
            · rw [q]
              intro i9 k9 hq9
              by_cases hq : i9 = j.toNatClampNeg
              · subst hq
                have e7 : va_up g9 j.toNatClampNeg (some k1) j.toNatClampNeg = some k1 := by simp [va_up]
                rw [e7] at hq9
                cases hq9
                exact hzS (.ref k1) List.mem_cons_self
              · have e7 : va_up g9 j.toNatClampNeg (some k1) i9 = g9 i9 := by simp [va_up, hq]
                rw [e7] at hq9
                exact hwf _ (List.mem_of_getElem? hk) i9 k9 hq9
          )
        next => cases hop
      next => cases hop
    next => cases hop
  case multianewarray j n =>
    obtain ⟨rfl, hd⟩ := zlen_d (k := 3) rfl hln hdc
    replace hop : zmna (pc + (3 + 1)) L S h = some st2 := hop
    replace hw : (decide (n = 2) && (Nat.beq (zo d) 3 && zat w (.classLink (zcn (zo d)) j "[[I"))) = true := hw
    obtain ⟨hw1, hw2⟩ := Bool.and_eq_true_iff.mp hw
    obtain ⟨hw2, hw3⟩ := Bool.and_eq_true_iff.mp hw2
    have en : n = 2 := of_decide_eq_true hw1
    subst en
    unfold zmna at hop
    split at hop
    next k n r =>
      split at hop
      next hq =>
        obtain ⟨q1, q2, q3, q4⟩ := hq
        generalize hN : n.toNatClampNeg = N at *
        generalize hM : k.toNatClampNeg = M at *
        generalize hy : (h.1 ++ [(.inl (N, .inr (.inr (.inr (.inr (fun i => if i < N then some (h.1.length + 1 + i) else none))))) : zC)] ++ List.replicate N (.inl (M, .inl (fun _ => 0)) : zC)) = h9 at hop
        cases hop
        have hR1 : h9.length + h.2 ≤ cb + R.cells := hR1
        have hR2 : zsz h9 + 6 * h.2 ≤ sb + R.slots := hR2
        have hl9 : h9.length = h.1.length + 1 + N := by rw [← hy, List.length_append, List.length_append, List.length_replicate]; rfl
        have hz9 : zsz h9 = zsz h.1 + N + N * M := by
          rw [← hy, zsz_app, zsz_app, zsz_rep]
          rfl
        have hcl1 : (Cond.classLink (zcn (zo d)) j ("[" ++ (FieldType.array FieldType.int).toString)).before args s = true := by
          have e9 : "[" ++ (FieldType.array FieldType.int).toString = "[[I" := by decide +kernel
          rw [e9]
          exact zat_w hts hw3
        have hcy : s.vm.findClass (FieldType.array FieldType.int).toString = some (cA 0) := (hK.2 0 _ rfl).2
        have hPX : va_P D zcl (zWd ro cA ad h.1 ++ va_pl [] (fun _ => (.inr (0, []) : va_E))) H := by rw [show va_pl [] (fun _ => (.inr (0, []) : va_E)) = [] from rfl, List.append_nil]; exact hP
        have hDX : va_D A (zWd ro cA ad h.1 ++ va_pl [] (fun _ => (.inr (0, []) : va_E))) := by rw [show va_pl [] (fun _ => (.inr (0, []) : va_E)) = [] from rfl, List.append_nil]; exact hD
        refine va_mna (X := zWd ro cA ad h.1) (L := []) (f := fun _ => .inr (0, [])) (z := (M, .inl (fun _ => 0))) hx hb hown hcl1 hE.2.2.2.2.2.2.1 (hts _ z_ai) hcy hK hPX hDX hS hA q1 q2 hN hM q3 q4 (by omega) rfl rfl (by omega) (by omega) (fun c9 => arrV_new c9 M _) hd (fun q rr c9 H1 hinj hnew hK1 hP1 hD1 hS1 => ?_)
        have ec : c9 = cA 2 := Option.some.inj (((hK1.2 3 _ rfl).2).symm.trans ((hK.2 2 _ rfl).2))
        subst ec
        have hzr : ∀ v ∈ r, zok ad.length v := fun v hv => hzS v (List.mem_cons_of_mem _ (List.mem_cons_of_mem _ hv))
        generalize hx9 : q :: (List.range N).map rr = x9
        have hxl : x9.length = 1 + N := by rw [← hx9, List.length_cons, List.length_map, List.length_range]; omega
        have hadl : (ad ++ x9).length = h9.length := by rw [List.length_append, hxl, hl9, hal]; omega
        have hzq : zad (ad ++ x9) h.1.length = q := by
          have h8 := zad_get (ad := ad ++ x9) (k := h.1.length) (by rw [hadl]; omega)
          rw [← hal, List.getElem?_append_right (Nat.le_refl _), Nat.sub_self, ← hx9] at h8
          rw [← hal, ← hx9]
          exact (Option.some.inj h8).symm
        have hzi : ∀ i, i < N → zad (ad ++ x9) (h.1.length + 1 + i) = rr i := by
          intro i hi
          have h8 := zad_get (ad := ad ++ x9) (k := h.1.length + 1 + i) (by rw [hadl]; omega)
          rw [List.getElem?_append_right (by omega), show h.1.length + 1 + i - ad.length = i + 1 by omega, ← hx9, List.getElem?_cons_succ, List.getElem?_map, List.getElem?_range hi] at h8
          rw [← hx9]
          exact (Option.some.inj h8).symm
        have e9 : (zWd ro cA ad h.1 ++ [(q, (.inl (cA 2, N, .inr (.inr (.inr (.inr (fun i => if i < N then some (rr i) else none))))) : va_E))]) ++ va_pl ([] ++ (List.range N).map rr) (vr_up (fun _ => .inr (0, [])) ((List.range N).map rr) (.inl (cA 0, M, .inl (fun _ => 0)))) = zWd ro cA (ad ++ x9) h9 := by
          rw [← hy, List.append_assoc, List.append_assoc, zWd_app hal hwf]
          congr 1
          rw [← hx9] at hzi ⊢
          show _ :: _ = _ :: _
          congr 1
          · have e7 : (fun i => if i < N then some (rr i) else none) = (fun j => (if j < N then some (h.1.length + 1 + j) else none).map (zad (ad ++ q :: (List.range N).map rr))) := by
              funext i
              by_cases hi : i < N
              · rw [if_pos hi, if_pos hi]
                show some _ = some _
                rw [hzi i hi]
              · rw [if_neg hi, if_neg hi]
                rfl
            rw [e7]
            rfl
          · show va_pl ([] ++ (List.range N).map rr) _ = List.zipWith _ ((List.range N).map rr) (List.replicate N _)
            rw [List.nil_append]
            unfold va_pl
            apply List.ext_getElem?
            intro i
            rw [List.getElem?_map, List.getElem?_zipWith, List.getElem?_map, List.getElem?_replicate]
            by_cases hi : i < N
            · rw [List.getElem?_range hi, if_pos hi]
              exact congrArg (fun z => some (rr i, z)) (vr_up_in (List.mem_map.mpr ⟨i, List.mem_range.mpr hi, rfl⟩))
            · rw [List.getElem?_eq_none (by rw [List.length_range]; omega)]
              rfl
        have hP2 : va_P D zcl (zWd ro cA (ad ++ x9) h9) H1 := by rw [← e9]; exact hP1
        have hD2 : va_D A (zWd ro cA (ad ++ x9) h9) := by rw [← e9]; exact hD1
        have k9 := kk H1 locs x9 ls (cells + 1 + N) (slots + N + N * M) ⟨hadl, hP2, hD2, hS1, zls_app hls hzL, fun q9 hq9 => zok_mono (by omega) (hzL q9 hq9), List.forall_mem_cons.mpr ⟨by show h.1.length < (ad ++ x9).length; omega, fun v hv => zok_mono (by omega) (hzr v hv)⟩, fun c hc => ?_⟩ (by show _ = h9.length + h.2; omega) (by show _ = zsz h9 + 6 * h.2; omega)
        · have e7 : (Value.ref h.1.length :: r).map (zv ro (ad ++ x9)) = Value.ref q :: r.map (zv ro ad) := by
            rw [List.map_cons, zv_map hzr]
            show Value.ref (zad (ad ++ x9) h.1.length) :: _ = _
            rw [hzq]
          have k8 : W p l e R s m args below meth c H1 locs (cells + 1 + N) (slots + N + N * M) Q (F0 m (pc + (3 + 1)) ls ((Value.ref h.1.length :: r).map (zv ro (ad ++ x9)))) := k9
          rw [e7] at k8
          exact k8
        · rw [← hy] at hc
          rcases List.mem_append.mp hc with hc | hc
          · rcases List.mem_append.mp hc with q9 | q9
            · exact zokc_mono (by omega) (hwf c q9)
            · rw [List.mem_singleton.mp q9]
              intro i9 k9 hk9
              by_cases hi : i9 < N
              · have hk9 : (if i9 < N then some (h.1.length + 1 + i9) else none) = some k9 := hk9
                rw [if_pos hi] at hk9
                cases hk9
                omega
              · have hk9 : (if i9 < N then some (h.1.length + 1 + i9) else none) = some k9 := hk9
                rw [if_neg hi] at hk9
                cases hk9
          · rw [List.eq_of_mem_replicate hc]
            trivial
      next => cases hop
    next => cases hop
  case invokespecial j =>
    obtain ⟨rfl, hd⟩ := zlen_d (k := 2) rfl hln hdc
    replace hop : (bif Nat.beq a 1000 then zoi f (pc + (2 + 1)) L S h else none) = some st2 := hop
    replace hw : (bif Nat.beq a 1000 then zat w (.methodLink (zcn (zo d)) j objectInit) else _) = true := hw
    cases hb0 : Nat.beq a 1000 with
    | false => rw [hb0] at hop; cases hop
    | true =>
      rw [hb0, cond_true] at hop hw
      unfold zoi at hop
      split at hop
      next k r =>
        cases hb1 : Nat.blt 0 f && Nat.ble (zcat r) 8 with
        | false => rw [hb1] at hop; cases hop
        | true =>
          rw [hb1] at hop
          cases hop
          obtain ⟨g1, g2⟩ := Bool.and_eq_true_iff.mp hb1
          have g1 := Nat.blt_eq.mp g1
          have g2 := Nat.le_of_ble_eq_true g2
          refine W.objInit hx hb hown (zat_w hts hw) (hts _ z_oi1) (hts _ z_oi2) rfl (by rw [hml]; exact hls.1) rfl hd (by omega) (by show 2 * 0 + (List.map (fun v => v.category) (r.map (zv ro ad))).sum + 12 ≤ _; rw [show (List.map (fun v => v.category) (r.map (zv ro ad))).sum = zcat r from zcat_map]; omega) ?_
          exact kk0 _ _ r _ rfl hls hzL (fun v hv => hzS v (List.mem_cons_of_mem _ hv))
      next => cases hop
  case invokestatic j =>
    obtain ⟨rfl, hd⟩ := zlen_d (k := 2) rfl hln hdc
    replace hop : (bif Nat.beq a 1001 then zacp f (pc + (2 + 1)) L S h else none) = some st2 := hop
    replace hw : (bif Nat.beq a 1001 then zat w (.methodLink (zcn (zo d)) j arraycopyName) else _) = true := hw
    cases hb0 : Nat.beq a 1001 with
    | false => rw [hb0] at hop; cases hop
    | true =>
      rw [hb0, cond_true] at hop hw
      unfold zacp at hop
      split at hop
      next n9 dp k1 sp k0 r =>
        split at hop
        next n0 g0 n1 g1 hk0 hk =>
          split at hop
          next hq =>
            cases hop
            obtain ⟨q1, q2, q3, q4, q5, q6, q7⟩ := hq
            have hkl : k1 < h.1.length := (List.getElem?_eq_some_iff.mp hk).1
            refine va_copyi hx hb (by rw [hml]; exact hls.1.symm) hown (zat_w hts hw) (hts _ z_ac1) (hts _ z_ac2) (hts _ z_ac3) hK hP hD hS _ _ 0 0 (zWd_get hal hk0) (zWd_get hal hk) rfl rfl rfl q1 q2 q3 q4 q5 (fun _ _ => rfl) (by omega) (by rw [show (List.map (fun v => v.category) (r.map (zv ro ad))).sum = zcat r from zcat_map]; have := z_nfw; omega) hd (fun H1 locs1 hP1 hD1 hS1 => ?_)
            have e9 : (zWd ro cA ad h.1).set k1 (zad ad k1, .inl (cA 0, n1, .inl (va_cpy g0 g1 sp.toNatClampNeg dp.toNatClampNeg n9.toNatClampNeg))) = zWd ro cA ad (h.1.set k1 (.inl (n1, .inl (va_cpy g0 g1 sp.toNatClampNeg dp.toNatClampNeg n9.toNatClampNeg)))) := (zWd_set (ro := ro) (cA := cA) (.inl (n1, .inl (va_cpy g0 g1 sp.toNatClampNeg dp.toNatClampNeg n9.toNatClampNeg))) hal hkl).symm
            have hP1 : va_P D zcl ((zWd ro cA ad h.1).set k1 (zad ad k1, .inl (cA 0, n1, .inl (va_cpy g0 g1 sp.toNatClampNeg dp.toNatClampNeg n9.toNatClampNeg)))) H1 := hP1
            have hD1 : va_D A ((zWd ro cA ad h.1).set k1 (zad ad k1, .inl (cA 0, n1, .inl (va_cpy g0 g1 sp.toNatClampNeg dp.toNatClampNeg n9.toNatClampNeg)))) := hD1
            rw [e9] at hP1 hD1
            have k9 := kk H1 locs1 [] ls cells slots
            rw [List.append_nil] at k9
            refine k9 ⟨by rw [List.length_set]; exact hal, hP1, hD1, hS1, hls, hzL, fun v hv => hzS v (List.mem_cons_of_mem _ (List.mem_cons_of_mem _ (List.mem_cons_of_mem _ (List.mem_cons_of_mem _ (List.mem_cons_of_mem _ hv))))), fun c hc => ?_⟩ (by show _ = (h.1.set k1 _).length + _; rw [List.length_set]; exact hcl) (by show _ = zsz (h.1.set k1 _) + _; rw [zsz_set (c2 := .inl (n1, .inl (va_cpy g0 g1 sp.toNatClampNeg dp.toNatClampNeg n9.toNatClampNeg))) hk rfl]; exact hsl)
            rcases List.mem_or_eq_of_mem_set hc with q | q
            · exact hwf c q
            · rw [q]; trivial
          next => cases hop
        next => cases hop
      next => cases hop
  all_goals (replace hop : (none : Option zS) = some st2 := hop; cases hop; done)
end STEP
