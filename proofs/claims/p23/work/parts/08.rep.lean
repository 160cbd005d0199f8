/-! ===== an abstract heap in a real one ===== -/
theorem va_AOA.moved {ty : FieldType} {u U : State} (hvm : u.vm.Alike U.vm) (h : va_AOA ty u) : va_AOA ty U := by
  have h1 := Cond.arrayOver_setVmC (args := #[]) (s := u) (vm' := U.vm) hvm (.array ty)
  exact h1.trans h
def zad (ad : List Nat) (k : Nat) : Nat := ad.getD k 0
def zv (ro : Nat → Nat) (ad : List Nat) (v : Value) : Value := match v with
  | .ref k => .ref (zad ad k)
  | .retAddr t => .ref (ro t)
  | v => v
def zvc (ro : Nat → Nat) (cA : Nat → ClassId) (ad : List Nat) (c : zC) : va_E := match c with
  | .inl (n, .inl f) => .inl (cA 0, n, .inl f)
  | .inl (n, .inr (.inl f)) => .inl (cA 1, n, .inr (.inl f))
  | .inl (n, .inr (.inr (.inl f))) => .inl (cA 0, n, .inr (.inr (.inl f)))
  | .inl (n, .inr (.inr (.inr (.inl f)))) => .inl (cA 0, n, .inr (.inr (.inr (.inl f))))
  | .inl (n, .inr (.inr (.inr (.inr g)))) => .inl (cA 2, n, .inr (.inr (.inr (.inr (fun j => (g j).map (zad ad))))))
  | .inr (ci, fs) => .inr (ci, fs.map (zv ro ad))
def zWd (ro : Nat → Nat) (cA : Nat → ClassId) (ad : List Nat) (h : List zC) : va_W := List.zipWith (fun a c => (a, zvc ro cA ad c)) ad h
/-- values whose references lie among the first n cells -/
def zok (n : Nat) (v : Value) : Prop := match v with
  | .ref k => k < n
  | .retAddr t => t < 3
  | _ => True
def zokh (n : Nat) (v : Value) : Prop := match v with
  | .ref k => k < n
  | .retAddr _ => False
  | _ => True
def zokc (n : Nat) (c : zC) : Prop := match c with
  | .inl (_, .inr (.inr (.inr (.inr g)))) => ∀ j k, g j = some k → k < n
  | .inl _ => True
  | .inr (_, fs) => ∀ v ∈ fs, zokh n v
def zszc (c : zC) : Nat := match c with
  | .inl a => a.1
  | .inr (ci, _) => zN ci
def zsz (h : List zC) : Nat := (h.map zszc).sum
theorem zad_get {ad : List Nat} {k : Nat} (h : k < ad.length) : ad[k]? = some (zad ad k) := by
  rw [List.getElem?_eq_getElem h]
  unfold zad
  simp [h]
theorem zWd_len {ro : Nat → Nat} {cA : Nat → ClassId} {ad : List Nat} {h : List zC} (hl : ad.length = h.length) : (zWd ro cA ad h).length = h.length := by
  unfold zWd
  rw [List.length_zipWith, hl, Nat.min_self]
theorem zWd_get {ro : Nat → Nat} {cA : Nat → ClassId} {ad : List Nat} {h : List zC} {k : Nat} {c : zC} (hl : ad.length = h.length) (hk : h[k]? = some c) : (zWd ro cA ad h)[k]? = some (zad ad k, zvc ro cA ad c) := by
  have hlt : k < h.length := (List.getElem?_eq_some_iff.mp hk).1
  unfold zWd
  rw [List.getElem?_zipWith, zad_get (by omega), hk]
theorem zWd_inv {ro : Nat → Nat} {cA : Nat → ClassId} {ad : List Nat} {h : List zC} {k : Nat} {q : Nat × va_E} (hl : ad.length = h.length) (hk : (zWd ro cA ad h)[k]? = some q) : ∃ c, h[k]? = some c ∧ q = (zad ad k, zvc ro cA ad c) := by
  have hlt : k < h.length := by
    have := (List.getElem?_eq_some_iff.mp hk).1
    rw [zWd_len hl] at this
    exact this
  refine ⟨h[k], List.getElem?_eq_getElem hlt, ?_⟩
  have e := zWd_get (ro := ro) (cA := cA) hl (List.getElem?_eq_getElem hlt)
  rw [hk] at e
  exact Option.some.inj e
theorem zWd_set {ro : Nat → Nat} {cA : Nat → ClassId} {ad : List Nat} {h : List zC} {k : Nat} (c : zC) (hl : ad.length = h.length) (hk : k < h.length) : zWd ro cA ad (h.set k c) = (zWd ro cA ad h).set k (zad ad k, zvc ro cA ad c) := by
  have hl2 : ad.length = (h.set k c).length := by rw [List.length_set]; exact hl
  apply List.ext_getElem?
  intro i
  by_cases hi : i < h.length
  · by_cases e : i = k
    · subst e
      rw [List.getElem?_set_self (by rw [zWd_len hl]; exact hk), zWd_get hl2 (List.getElem?_set_self hk)]
    · rw [List.getElem?_set_ne (Ne.symm e), zWd_get hl2 (c := h[i]) (by rw [List.getElem?_set_ne (Ne.symm e)]; exact List.getElem?_eq_getElem hi), zWd_get hl (List.getElem?_eq_getElem hi)]
  · rw [List.getElem?_eq_none (by rw [zWd_len hl2, List.length_set]; omega), List.getElem?_eq_none (by rw [List.length_set, zWd_len hl]; omega)]
theorem zad_app {ad x : List Nat} {k : Nat} (h : k < ad.length) : zad (ad ++ x) k = zad ad k := by
  have h1 := zad_get (ad := ad ++ x) (k := k) (by rw [List.length_append]; omega)
  rw [List.getElem?_append_left h, zad_get h] at h1
  exact (Option.some.inj h1).symm
theorem zok_h {n : Nat} {v : Value} (h : zokh n v) : zok n v := by
  cases v <;> first | exact h | exact h.elim
theorem zv_app {ro : Nat → Nat} {ad x : List Nat} {v : Value} (h : zok ad.length v) : zv ro (ad ++ x) v = zv ro ad v := by
  cases v <;> first | rfl | (show Value.ref _ = Value.ref _; rw [zad_app h])
theorem zv_map {ro : Nat → Nat} {ad x : List Nat} {S : List Value} (h : ∀ v ∈ S, zok ad.length v) : S.map (zv ro (ad ++ x)) = S.map (zv ro ad) := List.map_congr_left fun v hv => zv_app (h v hv)
theorem zvc_app {ro : Nat → Nat} {cA : Nat → ClassId} {ad x : List Nat} {c : zC} (h : zokc ad.length c) : zvc ro cA (ad ++ x) c = zvc ro cA ad c := by
  cases c with
  | inl a =>
    obtain ⟨n, f | f | f | f | g⟩ := a
    · rfl
    · rfl
    · rfl
    · rfl
    · show (Sum.inl (cA 2, n, Sum.inr (Sum.inr (Sum.inr (Sum.inr _)))) : va_E) = Sum.inl (cA 2, n, Sum.inr (Sum.inr (Sum.inr (Sum.inr _))))
      have e : (fun j => (g j).map (zad (ad ++ x))) = (fun j => (g j).map (zad ad)) := by
        funext j
        cases hg : g j with
        | none => rfl
        | some k =>
          show some _ = some _
          rw [zad_app (h j k hg)]
      rw [e]
  | inr o =>
    obtain ⟨ci, fs⟩ := o
    show (Sum.inr (ci, _) : va_E) = Sum.inr (ci, _)
    rw [zv_map (fun v hv => zok_h (h v hv))]
theorem zok_mono {n k : Nat} {v : Value} (hk : n ≤ k) (h : zok n v) : zok k v := by
  cases v <;> first | exact h | exact Nat.lt_of_lt_of_le h hk
theorem zokh_mono {n k : Nat} {v : Value} (hk : n ≤ k) (h : zokh n v) : zokh k v := by
  cases v <;> first | exact h | exact Nat.lt_of_lt_of_le h hk
theorem zokc_mono {n k : Nat} {c : zC} (hk : n ≤ k) (h : zokc n c) : zokc k c := by
  cases c with
  | inl a =>
    obtain ⟨m, f | f | f | f | g⟩ := a
    · trivial
    · trivial
    · trivial
    · trivial
    · exact fun j q hq => Nat.lt_of_lt_of_le (h j q hq) hk
  | inr o =>
    obtain ⟨ci, fs⟩ := o
    exact fun v hv => zokh_mono hk (h v hv)
theorem zWd_app {ro : Nat → Nat} {cA : Nat → ClassId} {ad x : List Nat} {h y : List zC} (hl : ad.length = h.length) (hw : ∀ c ∈ h, zokc ad.length c) : zWd ro cA (ad ++ x) (h ++ y) = zWd ro cA ad h ++ List.zipWith (fun a c => (a, zvc ro cA (ad ++ x) c)) x y := by
  unfold zWd
  rw [List.zipWith_append hl]
  congr 1
  apply List.ext_getElem?
  intro i
  rw [List.getElem?_zipWith, List.getElem?_zipWith]
  cases h1 : h[i]? with
  | none => cases ad[i]? <;> rfl
  | some c =>
    cases ad[i]? with
    | none => rfl
    | some a =>
      show some _ = some _
      rw [zvc_app (hw c (List.mem_of_getElem? h1))]
theorem zsz_set {h : List zC} {k : Nat} {c c2 : zC} (hk : h[k]? = some c) (hc : zszc c2 = zszc c) : zsz (h.set k c2) = zsz h := by
  unfold zsz
  rw [List.map_set, hc]
  have hlt := (List.getElem?_eq_some_iff.mp hk).1
  have e : (h.map zszc).set k (zszc c) = h.map zszc := by
    apply List.ext_getElem?
    intro i
    by_cases q : i = k
    · subst q
      rw [List.getElem?_set_self (by rw [List.length_map]; exact hlt), List.getElem?_map, hk]
      rfl
    · rw [List.getElem?_set_ne (Ne.symm q)]
  rw [e]
theorem zsz_app (h y : List zC) : zsz (h ++ y) = zsz h + zsz y := by
  unfold zsz
  rw [List.map_append, List.sum_append]
/-- what a frame takes of the world around: never written -/
def zEnv (X : zX) (ro : Nat → Nat) (A : Nat → Prop) (U : State) (H : Heap) : Prop :=
  True ∧ (∀ t, t < 1 → va_T .int (ro t) (zro X t).1 (fun j => .int ((zro X t).2 j)) A U H) ∧
  vx_Zq Bundle.tN "UNASSIGNED_STACK" Bundle.steD A U H ∧ vx_Zq Bundle.tN "SUPPRESSED_SENTINEL" Bundle.listD A U H ∧
  (∀ q ∈ zSt, ∃ a, vk_R RX3 q.1 q.2 a U) ∧ (∀ w ∈ zNW, va_Nw w U) ∧ va_AOA .int U ∧ True
theorem zNW_warm {s U : State} (hW : s.WarmedH U.vm) (h : ∀ w ∈ zNW, va_Nw w s) : ∀ w ∈ zNW, va_Nw w U := by
  intro w hw
  have h1 := h w hw
  unfold zNW at hw
  simp only [List.mem_cons, List.not_mem_nil, or_false] at hw
  rcases hw with rfl | rfl | rfl | rfl | rfl | rfl | rfl | rfl | rfl | rfl | rfl <;> first | exact va_Nw.warmM hW h1 | exact va_Nw.warmD hW h1 | exact va_Nw.warmC hW h1
theorem zEnv.move {X : zX} {ro : Nat → Nat} {A : Nat → Prop} {s U : State} {H : Heap} (hW : s.WarmedH U.vm) (h : zEnv X ro A s H) : zEnv X ro A U H := by
  obtain ⟨h1, h2, h3, h4, h5, h6, h7, h8⟩ := h
  refine ⟨h1, fun t ht => va_T.moved hW.alike (h2 t ht), vx_Zq.moved hW.alike h3, vx_Zq.moved hW.alike h4, fun q hq => ?_, zNW_warm hW h6, va_AOA.moved hW.alike h7, h8⟩
  · obtain ⟨a, ha⟩ := h5 q hq
    exact ⟨a, vk_R.warm hW ha⟩
theorem zEnv.keep {X : zX} {ro : Nat → Nat} {A : Nat → Prop} {U : State} {H H1 : Heap} (hq : ∀ a : Nat, a < H.size → ¬ A a → H1[a]? = H[a]?) (h : zEnv X ro A U H) : zEnv X ro A U H1 := by
  obtain ⟨h1, h2, h3, h4, h5⟩ := h
  exact ⟨h1, fun t ht => (h2 t ht).kept hq, h3.kept hq, h4.kept hq, h5⟩
theorem zEnv.narrow {X : zX} {ro : Nat → Nat} {A B : Nat → Prop} {U : State} {H : Heap} (hAB : ∀ q, B q → A q) (h : zEnv X ro A U H) : zEnv X ro B U H := by
  obtain ⟨h1, h2, h3, h4, h5⟩ := h
  exact ⟨h1, fun t ht => (h2 t ht).narrow hAB, h3.narrow hAB, h4.narrow hAB, h5⟩
abbrev ztys (cA : Nat → ClassId) : List (ClassId × FieldType) := [(cA 0, .int), (cA 1, .byte), (cA 2, .array .int)]
/-- the frame: what stands fast while the method runs -/
def zFC (X : zX) (ro : Nat → Nat) (cA : Nat → ClassId) (D : va_G) (A : Nat → Prop) (d : zMd) (p : Program) (l : Launch) (s : State) (m : MethodId) (args : Array Value) (meth : Method) (c : Code) : Prop :=
  p.tables.exec = Jvm.exec ∧ c.code = zb d ∧ meth.sig.returnType = zr d ∧ c.maxLocals = zl d ∧ s.vm.findClass (zcn (zo d)) = some m.cls ∧ (∀ w ∈ zW0, w.before args s = true) ∧ meth.locks = false ∧ ((zk d = 2 ∨ zk d = 3) → meth.name = "<init>") ∧
  c.exceptionTable.toList = tableOf (zh d) ∧ l.stackTraces = false ∧ va_K D zcl (ztys cA) s ∧ zEnv X ro A s s.heap ∧ (∀ q, s.heap.size ≤ q → A q)
/-- the moment: the heap, the locals, the stack -/
def zCu (ro : Nat → Nat) (cA : Nat → ClassId) (D : va_G) (A : Nat → Prop) (d : zMd) (s : State) (H : Heap) (locs : List Loc) (ad : List Nat) (ls : Array Slot) (L : List (Nat × Value)) (S : List Value) (h : zH) : Prop :=
  ad.length = h.1.length ∧ va_P D zcl (zWd ro cA ad h.1) H ∧ va_D A (zWd ro cA ad h.1) ∧ va_S A s.heap H locs ∧ lv_has ls (zl d) (L.map (fun q => (q.1, zv ro ad q.2))) ∧ (∀ q ∈ L, zok ad.length q.2) ∧ (∀ v ∈ S, zok ad.length v) ∧ (∀ c ∈ h.1, zokc ad.length c)
