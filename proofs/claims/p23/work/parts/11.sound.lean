/-! ===== a run of the executor is a run of the machine ===== -/
theorem zf_mem : ∀ {l : List zEnt} {pc : Nat} {e : zEnt}, zf l pc = some e → e ∈ l ∧ e.1 = pc
  | [], _, _, h => by cases h
  | x :: t, pc, e, h => by
    unfold zf at h
    cases hb : Nat.beq x.1 pc with
    | true =>
      rw [hb, cond_true] at h
      cases h
      exact ⟨List.mem_cons_self, Nat.eq_of_beq_eq_true hb⟩
    | false =>
      rw [hb, cond_false] at h
      exact ⟨List.mem_cons_of_mem _ (zf_mem h).1, (zf_mem h).2⟩
theorem zent_p {d : zMd} {pc np a b w : Nat} {i : Instr} (h : zent d (pc, np, i, a, b, w) = true) : decode (zb d) pc = .ok (i, np - pc) ∧ (zlen i = 0 ∨ np = pc + zlen i) ∧ zentw d pc i a b w = true := by
  obtain ⟨h1, h2⟩ := Bool.and_eq_true_iff.mp h
  obtain ⟨-, h3⟩ := Bool.and_eq_true_iff.mp h2
  obtain ⟨h4, h5⟩ := Bool.and_eq_true_iff.mp h3
  refine ⟨of_decide_eq_true h1, ?_, h5⟩
  rcases (Bool.or_eq_true _ _).mp h4 with q | q
  · exact Or.inl (Nat.eq_of_beq_eq_true q)
  · exact Or.inr (Nat.eq_of_beq_eq_true q)
/-- what a frame leaves behind -/
def zEnd (ro : Nat → Nat) (cA : Nat → ClassId) (D : va_G) (A : Nat → Prop) (s : State) (ad : List Nat) (h : zH) (t : State) : Prop :=
  ad.length = h.1.length ∧ va_P D zcl (zWd ro cA ad h.1) t.heap ∧ va_D A (zWd ro cA ad h.1) ∧ (∀ c ∈ h.1, zokc ad.length c) ∧ va_F A s t
def zPW (X : zX) (f : Nat) (d : zMd) (st : zS) (o : zOut) : Prop := ∀ (ro : Nat → Nat) (cA : Nat → ClassId) (D : va_G) (A : Nat → Prop) (p : Program) (l : Launch) (e : Env) (R : Room) (s : State) (m : MethodId) (args : Array Value) (below : List Frame) (meth : Method) (c : Code) (H : Heap) (locs : List Loc) (ad : List Nat) (ls : Array Slot) (cells slots cb sb mc ms : Nat) (free : Addr → Prop) (Qc : Array Value → State → Outcome → State → Prop) (XC : String → State → State → Prop),
  zFC X ro cA D A d p l s m args meth c → zCu ro cA D A d s H locs ad ls st.2.1 st.2.2.1 st.2.2.2 → f ≤ R.frames → 35 * f ≤ R.locals →
  cells + cb = st.2.2.2.1.length + st.2.2.2.2 → slots + sb = zsz st.2.2.2.1 + 6 * st.2.2.2.2 → mc + cb = o.2.1.length + o.2.2 → ms + sb = zsz o.2.1 + 6 * o.2.2 → mc ≤ R.cells → ms ≤ R.slots → (∀ q, A q → free q) →
  (∀ (t : State) (v : Option Value) (x : List Nat), o.1 = .inl v → (∀ k, v ≠ some (.retAddr k)) → zEnd ro cA D A s (ad ++ x) o.2 t → (∀ w, v = some w → zok (ad ++ x).length w) → Qc args s (.returned (v.map (zv ro (ad ++ x)))) t) →
  (∀ (t : State) (k : Nat) (x : List Nat), o.1 = .inr k → zEnd ro cA D A s (ad ++ x) o.2 t → XC (zen k) s t) →
  W p l e R s m args below meth c H locs cells slots (vx_MQ below Qc XC args s mc ms free) (F0 m st.1 ls (st.2.2.1.map (zv ro ad)))
def zQc (ro : Nat → Nat) (cA : Nat → ClassId) (D : va_G) (A : Nat → Prop) (ad : List Nat) (o : zOut) : Array Value → State → Outcome → State → Prop := fun _ st oc t =>
  ∃ (v : Option Value) (x : List Nat), o.1 = .inl v ∧ oc = .returned (v.map (zv ro (ad ++ x))) ∧ (∀ w, v = some w → zok (ad ++ x).length w) ∧ zEnd ro cA D A st (ad ++ x) o.2 t
def zXC (ro : Nat → Nat) (cA : Nat → ClassId) (D : va_G) (A : Nat → Prop) (ad : List Nat) (o : zOut) : String → State → State → Prop := fun E st t =>
  ∃ (k : Nat) (x : List Nat), o.1 = .inr k ∧ E = zen k ∧ zEnd ro cA D A st (ad ++ x) o.2 t
def zrm (f mc ms : Nat) : Room := { frames := f, cells := mc, slots := ms, locals := 35 * f }
def zPc (X : zX) (ro : Nat → Nat) (cA : Nat → ClassId) (D : va_G) (ad : List Nat) (as : List Value) (h : zH) (sz : Nat) : Array Value → State → Prop :=
  va_Pc (as.map (zv ro ad)) (fun U => U.heap.size = sz ∧ va_P D zcl (zWd ro cA ad h.1) U.heap ∧ va_K D zcl (ztys cA) U ∧ va_D (fun _ => True) (zWd ro cA ad h.1) ∧ zEnv X ro (va_A (zWd ro cA ad h.1) sz) U U.heap)
theorem zPc_blind {X : zX} {ro : Nat → Nat} {cA : Nat → ClassId} {D : va_G} {ad : List Nat} {as : List Value} {h : zH} {sz : Nat} : FrameBlind (zPc X ro cA D ad as h sz) := by
  intro a U g mk q
  obtain ⟨q0, q1, q2, q3, q4, q5⟩ := q
  exact ⟨q0, q1, q2, va_K.moved (u := U) (U := U.calling g mk a) (Vm.Alike.refl U.vm) q3, q4, zEnv.move (s := U) (U := U.calling g mk a) (State.WarmedH.refl U) q5⟩
theorem zargs_map {ro : Nat → Nat} {ad : List Nat} : ∀ (as : List Value) (i : Nat), lv_args i (as.map (zv ro ad)) = (lv_args i as).map (fun q => (q.1, zv ro ad q.2))
  | [], _ => rfl
  | v :: vs, i => by
    show (i, zv ro ad v) :: lv_args (if (zv ro ad v).category = 2 then i + 2 else i + 1) (vs.map (zv ro ad)) = (i, zv ro ad v) :: (lv_args (if v.category = 2 then i + 2 else i + 1) vs).map _
    rw [zv_cat, zargs_map vs]
theorem zargs_ok {n : Nat} : ∀ (as : List Value) (i : Nat), (∀ v ∈ as, zok n v) → ∀ q ∈ lv_args i as, zok n q.2
  | [], _, _, q, hq => by cases hq
  | v :: vs, i, h, q, hq => by
    rcases List.mem_cons.mp hq with e | e
    · rw [e]; exact h v List.mem_cons_self
    · exact zargs_ok vs _ (fun w hw => h w (List.mem_cons_of_mem _ hw)) q e
theorem zsl_len : ∀ (as : List Value), (lg_sl as).length = zcat as
  | [] => rfl
  | v :: vs => by
    have e : lg_sl (v :: vs) = (if v.category = 2 then [.val v, .second] else [.val v]) ++ lg_sl vs := rfl
    have e2 : zcat (v :: vs) = v.category + zcat vs := by unfold zcat; rw [List.map_cons, List.sum_cons]
    rw [e, e2, List.length_append, zsl_len vs]
    rcases lv_cat v with q | q
    · rw [if_neg (by omega), q]; rfl
    · rw [if_pos q, q]; rfl
theorem zcat_m {ro : Nat → Nat} {ad : List Nat} {S : List Value} : (lg_sl (S.map (zv ro ad))).length = zcat S := by rw [zsl_len, zcat_map]
set_option maxRecDepth 100000 in
theorem zh_nil0 : zM.all (fun y => Nat.beq (zk y) 4 || (zh y).isEmpty) = true := by decide +kernel
set_option maxRecDepth 100000 in
theorem zh_all0 : zM.all (fun y => (zh y).isEmpty) = true := by decide +kernel
theorem zh_all {y : zMd} (hy : y ∈ zM) : zh y = [] := List.isEmpty_iff.mp (List.all_eq_true.mp zh_all0 y hy)
theorem zh_nil {y : zMd} (hy : y ∈ zM) (hk : zk y ≠ 4) : zh y = [] := by
  have h := List.all_eq_true.mp zh_nil0 y hy
  rcases (Bool.or_eq_true _ _).mp h with q | q
  · exact absurd (Nat.eq_of_beq_eq_true q) hk
  · exact List.isEmpty_iff.mp q
theorem zmtd_c {y : zMd} (h : zmtd y = true) : zl y ≤ 16 ∧ (zn y).cls = zcn (zo y) ∧ plainName (zn y).cls = true ∧ (zn y).cls ≠ "java/lang/invoke/MethodHandle" ∧ (zn y).cls ≠ "java/lang/invoke/VarHandle" ∧ Cond.initialized (zcn (zo y)) ∈ zW0 := by
  obtain ⟨h1, h2⟩ := Bool.and_eq_true_iff.mp h
  obtain ⟨h2, h3⟩ := Bool.and_eq_true_iff.mp h2
  obtain ⟨h3, h4⟩ := Bool.and_eq_true_iff.mp h3
  obtain ⟨h4, h5⟩ := Bool.and_eq_true_iff.mp h4
  obtain ⟨h5, h6⟩ := Bool.and_eq_true_iff.mp h5
  obtain ⟨h6, -⟩ := Bool.and_eq_true_iff.mp h6
  exact ⟨Nat.le_of_ble_eq_true h1, of_decide_eq_true h2, h3, of_decide_eq_true h4, of_decide_eq_true h5, zat_m h6⟩
theorem zmtd_r {y : zMd} (h : zmtd y = true) : (match zk y with
  | 0 => zat ((zw y).getD 1 0) (.instanceMethod (zn y)) && (zat ((zw y).getD 2 0) (.selects (zcn (zo y)) (zn y) (zn y)) && (Nat.blt 0 (za y) && (Nat.blt (zo y) 4 && decide ((parseMethodDescriptor (zn y).desc).map (fun q => q.parameters.length) = some (za y - 1)))))
  | 1 => zat ((zw y).getD 1 0) (.static (zn y)) && decide ((parseMethodDescriptor (zn y).desc).map (fun q => q.parameters.length) = some (za y))
  | 4 => zat ((zw y).getD 1 0) (.static (zn y)) && decide ((parseMethodDescriptor (zn y).desc).map (fun q => q.parameters.length) = some (za y))
  | 2 => zat ((zw y).getD 1 0) (.instanceMethod (zn y)) && (Nat.blt 0 (za y) && (decide ((zn y).name = "<init>") && (decide (zr y = none) && decide ((parseMethodDescriptor (zn y).desc).map (fun q => q.parameters.length) = some (za y - 1)))))
  | 3 => zat ((zw y).getD 1 0) (.instanceMethod (zn y)) && (Nat.blt 0 (za y) && (decide ((zn y).name = "<init>") && (decide (zr y = none) && decide ((parseMethodDescriptor (zn y).desc).map (fun q => q.parameters.length) = some (za y - 1)))))
  | _ => true) = true := by
  obtain ⟨-, h2⟩ := Bool.and_eq_true_iff.mp h
  obtain ⟨-, h3⟩ := Bool.and_eq_true_iff.mp h2
  obtain ⟨-, h4⟩ := Bool.and_eq_true_iff.mp h3
  obtain ⟨-, h5⟩ := Bool.and_eq_true_iff.mp h4
  obtain ⟨-, h6⟩ := Bool.and_eq_true_iff.mp h5
  exact (Bool.and_eq_true_iff.mp h6).2
theorem zmtd_n {y : zMd} (h : zmtd y = true) (hk : zk y = 2 ∨ zk y = 3) : (zn y).name = "<init>" := by
  have h := zmtd_r h
  rcases hk with hk | hk
  · rw [hk] at h
    obtain ⟨-, h2⟩ := Bool.and_eq_true_iff.mp h
    obtain ⟨-, h3⟩ := Bool.and_eq_true_iff.mp h2
    exact of_decide_eq_true (Bool.and_eq_true_iff.mp h3).1
  · rw [hk] at h
    obtain ⟨-, h2⟩ := Bool.and_eq_true_iff.mp h
    obtain ⟨-, h3⟩ := Bool.and_eq_true_iff.mp h2
    exact of_decide_eq_true (Bool.and_eq_true_iff.mp h3).1
/-- a method's body, from its entry: the two forms of a method's start lead here -/
theorem zbody {X : zX} {f : Nat} {y : zMd} {as : List Value} {h : zH} {o : zOut} {ro : Nat → Nat} {cA : Nat → ClassId} {D : va_G} {ad : List Nat} {sz mc ms : Nat} {ws : List Cond} {p : Program} {l : Launch} {e : Env} {s : State} {m : MethodId} {args : Array Value} {below : List Frame} {meth : Method} {c : Code} {s₁ : State}
    (hm : zmtd y = true) (hpw : zPW X f y (0, lv_args 0 as, [], h) o) (hal : ad.length = h.1.length) (hwf : ∀ c ∈ h.1, zokc ad.length c) (hza : ∀ v ∈ as, zok ad.length v) (hfit : zcat as ≤ zl y) (hl : l.stackTraces = false)
    (hmc : mc + (h.1.length + h.2) = o.2.1.length + o.2.2) (hms : ms + (zsz h.1 + 6 * h.2) = zsz o.2.1 + 6 * o.2.2) (hws : ws = zcw y :: zW0)
    (B : BodyLoose p l (zn y) (headSpec ws (zrm f mc ms)) (zb y) (zl y) (zr y) e s m args below meth c s₁) (hml : c.maxLocals = zl y) (htab : c.exceptionTable.toList = tableOf (zh y)) (hPc : zPc X ro cA D ad as h sz args s) :
    W p l e (headSpec ws (zrm f mc ms)).room s m args below meth c s.heap [] 0 0 (vx_MQ below (zQc ro cA D (va_A (zWd ro cA ad h.1) sz) ad o) (zXC ro cA D (va_A (zWd ro cA ad h.1) sz) ad o) args s mc ms (va_A (zWd ro cA ad h.1) sz)) (entryFrame m args (zl y)) := by
  obtain ⟨rfl, hsz, hP, hK, hD0, hE⟩ := hPc
  subst hsz
  have hts := atoms_spec (ws := ws) B.pre
  obtain ⟨m1, m2, m3, m4, m5, m6⟩ := zmtd_c hm
  have hown : s.vm.findClass (zcn (zo y)) = some m.cls := by rw [← m2]; exact findClass_of_methodNamed B.named
  have hD := hD0.self (sz := s.heap.size)
  have hlv := lv_entry (as.map (zv ro ad)) (n := zl y) (by rw [zcat_m]; exact hfit)
  rw [lg_entry_eq]
  rw [zargs_map] at hlv
  refine hpw ro cA D (va_A (zWd ro cA ad h.1) s.heap.size) p l e _ s m _ below meth c s.heap [] ad _ 0 0 (h.1.length + h.2) (zsz h.1 + 6 * h.2) mc ms _ _ _
    ⟨B.exec, B.bytes, B.returns, hml, hown, fun w hw => hts w (by rw [hws]; exact List.mem_cons_of_mem _ hw), B.notSynchronized, fun hk => by rw [(name_of_methodNamed B.named B.method).1]; exact zmtd_n hm hk, htab, hl, hK, hE, fun q hq => Or.inr hq⟩
    ⟨hal, hP, hD, va_S.rf, hlv, zargs_ok as 0 hza, (fun v hv => by cases hv), hwf⟩ (Nat.le_refl _) (Nat.le_refl _) (Nat.zero_add _) (Nat.zero_add _) hmc hms (Nat.le_refl _) (Nat.le_refl _) (fun q hq => hq)
    (fun t v x e1 _ e2 e3 => ⟨v, x, e1, rfl, e3, e2⟩) (fun t k x e1 e2 => ⟨k, x, e1, rfl, e2⟩)
theorem zmet {X : zX} {f : Nat} {y : zMd} {as : List Value} {h : zH} {o : zOut} {ro : Nat → Nat} {cA : Nat → ClassId} {D : va_G} {ad : List Nat} {sz mc ms : Nat} {l : Launch}
    (hy : y ∈ zM) (hk5 : zk y ≠ 5) (hpw : zPW X f y (0, lv_args 0 as, [], h) o) (hal : ad.length = h.1.length) (hwf : ∀ c ∈ h.1, zokc ad.length c) (hza : ∀ v ∈ as, zok ad.length v) (hfit : zcat as ≤ zl y) (hl : l.stackTraces = false)
    (hmc : mc + (h.1.length + h.2) = o.2.1.length + o.2.2) (hms : ms + (zsz h.1 + 6 * h.2) = zsz o.2.1 + 6 * o.2.2) :
    vx_Met l (zn y) (zcw y :: zW0) (zrm f mc ms) (zPc X ro cA D ad as h sz) (zQc ro cA D (va_A (zWd ro cA ad h.1) sz) ad o) (zXC ro cA D (va_A (zWd ro cA ad h.1) sz) ad o) mc ms (va_A (zWd ro cA ad h.1) sz) := by
  obtain ⟨hent, hrest⟩ := zM_ok y hy
  obtain ⟨hm, hcw⟩ := hrest hk5
  obtain ⟨m1, m2, m3, m4, m5, m6⟩ := zmtd_c hm
  by_cases hk : zk y = 4
  · have hz : zcw y = .codeWith (zn y) (zb y) (zl y) (zr y) (zh y) := by unfold zcw; rw [hk]; rfl
    refine vx_ofWH (cc := zb y) (maxL := zl y) (ret := zr y) (hh := zh y) m3 (by rw [hz]) ?_
    intro p e s m args below meth c s₁ B hml hPc
    have hts := atoms_spec (ws := zcw y :: zW0) B.pre
    have htab : c.exceptionTable.toList = tableOf (zh y) := vx_table (x := zn y) B (by have h9 := hts (zcw y) List.mem_cons_self; rw [hz] at h9; exact h9)
    exact zbody hm hpw hal hwf hza hfit hl hmc hms rfl B hml htab hPc
  · have hz : zcw y = .code (zn y) (zb y) (zl y) (zr y) := by
      unfold zcw
      split
      · next q => exact absurd q hk
      · rfl
    refine vx_ofW (cc := zb y) (maxL := zl y) (ret := zr y) m3 (by rw [hz]) ?_
    intro p e s m args below meth c s₁ B hml ht hPc
    have htab : c.exceptionTable.toList = tableOf (zh y) := by
      rw [zh_nil hy hk]
      exact List.eq_nil_iff_forall_not_mem.mpr ht
    exact zbody hm hpw hal hwf hza hfit hl hmc hms rfl B hml htab hPc
