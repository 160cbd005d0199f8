/-! ===== the class's calls, where the ways are known ===== -/
/-- the class's cells: rules, peals, ways, the row c -/
def FS (A : Nat → Nat → Int32) (n : Nat) (ps : Nat → Nat) (m : Nat) (len : Nat → Nat) (pr : Nat → Nat → Nat) (c : Nat) : Prop := CP A n ps m len pr ∧ QT A (WL n ps) ∧ rw6 (A 19) c ∧ isRow c
def HF (A : Nat → Nat → Int32) (n : Nat) (ps : Nat → Nat) (m : Nat) (ch mk : Int32) (T : List zC) (e : Nat) : zH := (cc A (nI n) (nI m) ch (nI 1) (nI (WL n ps).length) (nI (laD (WL n ps))) (nI (suD (WL n ps))) mk ++ T, e)
theorem QT_keep {A A2 : Nat → Nat → Int32} {l : List (Nat × Nat)} (h : QT A l) (k1 : A2 22 = A 22) (k2 : A2 23 = A 23) : QT A2 l := fun y hy => by
  rw [k1, k2]
  exact h y hy
section OPS
variable {X : zX} {e n m c : Nat} {A : Nat → Nat → Int32} {ch mk : Int32} {T : List zC} {ps len : Nat → Nat} {pr : Nat → Nat → Nat}
theorem FS_WF (h : FS A n ps m len pr c) : WF A n ps (nI 1) (nI (WL n ps).length) (nI (laD (WL n ps))) (nI (suD (WL n ps))) := .inr ⟨rfl, h.2.1, rfl, rfl, rfl⟩
theorem FS_k {A2 : Nat → Nat → Int32} (h : FS A n ps m len pr c) (k : keep A A2) : FS A2 n ps m len pr c := ⟨CP_k h.1 k, QT_keep h.2.1 k.2.1 k.2.2, by rw [k.1 19 (by omega)]; exact h.2.2.1, h.2.2.2⟩
theorem FS_r {A2 : Nat → Nat → Int32} {c2 : Nat} (h : FS A n ps m len pr c) (k : ∀ k, k ≠ 19 → k ≠ 20 → A2 k = A k) (hx : rw6 (A2 19) c2) (ic : isRow c2) : FS A2 n ps m len pr c2 := ⟨CP_keep h.1 fun j hj => k j (by omega) (by omega), QT_keep h.2.1 (k 22 (by omega) (by omega)) (k 23 (by omega) (by omega)), hx, ic⟩
theorem FS_w {A2 : Nat → Nat → Int32} (h : FS A n ps m len pr c) (k : ∀ j, j < 20 → A2 j = A j) (hQ : QT A2 (WL n ps)) : FS A2 n ps m len pr c := ⟨CP_keep h.1 fun j hj => k j (by omega), hQ, by rw [k 19 (by omega)]; exact h.2.2.1, h.2.2.2⟩
theorem op_count (h : FS A n ps m len pr c) {w : Nat} (hw : w < 5) : Go X 8 mX3_count (0, [(0, .ref 0), (1, .int (nI w))], [], HF A n ps m ch mk T e) (.inl (some (.int (fC n m ch c w))), HF A n ps m ch mk T e) := m_count_t (fu := 6) h.2.2.1 h.2.2.2 hw
theorem op_at (h : FS A n ps m len pr c) {k : Nat} (hk : k < 6) : Go X 8 mX3_at (0, [(0, .ref 0), (1, .int (nI k))], [], HF A n ps m ch mk T e) (.inl (some (.int (nI (dg c k)))), HF A n ps m ch mk T e) := m_at_t (fu := 6) h.2.2.1 hk
theorem op_find (h : FS A n ps m len pr c) {k : Nat} (hk : k < 6) : Go X 8 mX3_find (0, [(0, .ref 0), (1, .int (nI k))], [], HF A n ps m ch mk T e) (.inl (some (.int (nI (dg (inv c) k)))), HF A n ps m ch mk T e) := m_find_t (fu := 6) h.2.2.1 h.2.2.2 hk
theorem op_swaps (h : FS A n ps m len pr c) {a b : Nat} (ha : a < n) (hb : b < n) : Go X 8 mX3_swaps (0, [(0, .ref 0), (1, .int (nI a)), (2, .int (nI b))], [], HF A n ps m ch mk T e) (.inl (some (.int (nI (al (fun k => Nat.beq (dg (ps b) (dg (ps a) k)) (dg (ps a) (dg (ps b) k))) 6 0)))), HF A n ps m ch mk T e) := m_swaps_t (fu := 6) h.1 ha hb
theorem op_about (h : FS A n ps m len pr c) {r w : Nat} (hr : r < n) (hw : w < 5) : ∃ A2, FS A2 n ps m len pr c ∧ Go X 8 mX3_about (0, [(0, .ref 0), (1, .int (nI r)), (2, .int (nI w))], [], HF A n ps m ch mk T e) (.inl (some (.int (fR n ps r w))), HF A2 n ps m ch mk T e) := by
  obtain ⟨A2, k, G⟩ := m_about_t (fu := 4) (X := X) (e := e) (ch := ch) (wf := nI 1) (rd := nI (WL n ps).length) (mo := nI (laD (WL n ps))) (sm := nI (suD (WL n ps))) (mk := mk) (R := T) h.1 hr hw
  exact ⟨A2, FS_k h k, G⟩
theorem op_told (h : FS A n ps m len pr c) {p w : Nat} (hp : p < m) (hw : w < 5) : ∃ A2 mk2, FS A2 n ps m len pr c ∧ Go X 8 mX3_told (0, [(0, .ref 0), (1, .int (nI p)), (2, .int (nI w))], [], HF A n ps m ch mk T e) (.inl (some (.int (fP ps len pr p w))), HF A2 n ps m ch mk2 T e) := by
  obtain ⟨A2, mk2, k, G⟩ := m_told_t (fu := 3) (X := X) (e := e) (ch := ch) (wf := nI 1) (rd := nI (WL n ps).length) (mo := nI (laD (WL n ps))) (sm := nI (suD (WL n ps))) (mk := mk) (R := T) h.1 hp hw
  exact ⟨A2, mk2, FS_k h k, G⟩
theorem op_digest (h : FS A n ps m len pr c) : ∃ A2 mk2, FS A2 n ps m len pr c ∧ Go X 8 mX3_digest (0, [(0, .ref 0)], [], HF A n ps m ch mk T e) (.inl (some (.long (dgA n ps m len pr ch c))), HF A2 n ps m ch mk2 T e) := by
  obtain ⟨A2, mk2, k, G⟩ := m_digest (fu := 2) (X := X) (e := e) (ch := ch) (wf := nI 1) (rd := nI (WL n ps).length) (mo := nI (laD (WL n ps))) (sm := nI (suD (WL n ps))) (mk := mk) (R := T) h.1 h.2.2.1 h.2.2.2
  exact ⟨A2, mk2, FS_k h k, G⟩
theorem op_ring (h : FS A n ps m len pr c) {r : Nat} (hr : r < n) : ∃ A2, FS A2 n ps m len pr (rng c (ps r)) ∧ Go X 8 mX3_ring (0, [(0, .ref 0), (1, .int (nI r))], [], HF A n ps m ch mk T e) (.inl (some (.int (nI (rng c (ps r))))), HF A2 n ps m (ch + nI 1) mk T e) := by
  obtain ⟨A2, k, x, G⟩ := m_ring_t (fu := 6) (X := X) (e := e) (ch := ch) (wf := nI 1) (rd := nI (WL n ps).length) (mo := nI (laD (WL n ps))) (sm := nI (suD (WL n ps))) (mk := mk) (R := T) h.1 h.2.2.1 h.2.2.2 hr
  exact ⟨A2, FS_r h k x (rng_row h.2.2.2 (h.1.2.2.1 r hr).2), G⟩
theorem op_undo (h : FS A n ps m len pr c) {r : Nat} (hr : r < n) : ∃ A2, FS A2 n ps m len pr (cmp c (ps r)) ∧ Go X 8 mX3_undo (0, [(0, .ref 0), (1, .int (nI r))], [], HF A n ps m ch mk T e) (.inl (some (.int (nI (cmp c (ps r))))), HF A2 n ps m (ch + nI 1) mk T e) := by
  obtain ⟨A2, k, x, G⟩ := m_undo_t (fu := 6) (X := X) (e := e) (ch := ch) (wf := nI 1) (rd := nI (WL n ps).length) (mo := nI (laD (WL n ps))) (sm := nI (suD (WL n ps))) (mk := mk) (R := T) h.1 h.2.2.1 h.2.2.2 hr
  exact ⟨A2, FS_r h k x (cmp_row h.2.2.2 (h.1.2.2.1 r hr).2), G⟩
theorem op_set (h : FS A n ps m len pr c) {its : Nat} (ii : isRow its) : ∃ A2, FS A2 n ps m len pr its ∧ Go X 8 mX3_set (0, [(0, .ref 0), (1, .int (nI its))], [], HF A n ps m ch mk T e) (.inl (some (.int (nI c))), HF A2 n ps m ch mk T e) := by
  obtain ⟨A2, k, x, G⟩ := m_set_t (fu := 6) (n := n) (m := m) (X := X) (e := e) (ch := ch) (wf := nI 1) (rd := nI (WL n ps).length) (mo := nI (laD (WL n ps))) (sm := nI (suD (WL n ps))) (mk := mk) (R := T) h.2.2.1 h.2.2.2 ii
  exact ⟨A2, FS_r h k x ii, G⟩
theorem CP_rows (h : CP A n ps m len pr) {p : Nat} (hp : p < m) : ∀ j, 0 ≤ j → j < 0 + len p → isRow (ps (pr p j)) := peal_rows h hp
theorem op_play (h : FS A n ps m len pr c) {p : Nat} (hp : p < m) : ∃ A2, FS A2 n ps m len pr (pl ps (pr p) (len p) 0 c) ∧ Go X 8 mX3_play (0, [(0, .ref 0), (1, .int (nI p))], [], HF A n ps m ch mk T e) (.inl (some (.int (nI (pl ps (pr p) (len p) 0 c)))), HF A2 n ps m (ch + nI (len p)) mk T e) := by
  obtain ⟨A2, k, x, G⟩ := m_play_t (fu := 5) (X := X) (e := e) (ch := ch) (wf := nI 1) (rd := nI (WL n ps).length) (mo := nI (laD (WL n ps))) (sm := nI (suD (WL n ps))) (mk := mk) (R := T) h.1 h.2.2.1 h.2.2.2 hp
  exact ⟨A2, FS_r h k x (peal_row (len p) 0 c (CP_rows h.1 hp) h.2.2.2), G⟩
theorem op_steps (h : FS A n ps m len pr c) {its : Nat} (ii : isRow its) : ∃ A2, FS A2 n ps m len pr c ∧ Go X 8 mX3_steps (0, [(0, .ref 0), (1, .int (nI its))], [], HF A n ps m ch mk T e) (.inl (some (.int (fwD (lk (WL n ps) (cmp (inv c) its))))), HF A2 n ps m ch mk T e) := by
  obtain ⟨A2, k, Q, G⟩ := m_steps_t (fu := 4) (X := X) (e := e) (ch := ch) (wf := nI 1) (rd := nI (WL n ps).length) (mo := nI (laD (WL n ps))) (sm := nI (suD (WL n ps))) (mk := mk) (R := T) h.1 (FS_WF h) h.2.2.1 h.2.2.2 ii
  exact ⟨A2, FS_w h k Q, G⟩
theorem op_next (h : FS A n ps m len pr c) {its : Nat} (ii : isRow its) : ∃ A2, FS A2 n ps m len pr c ∧ Go X 8 mX3_next (0, [(0, .ref 0), (1, .int (nI its))], [], HF A n ps m ch mk T e) (.inl (some (.int (fwR (lk (WL n ps) (cmp (inv c) its))))), HF A2 n ps m ch mk T e) := by
  obtain ⟨A2, k, Q, G⟩ := m_next_t (fu := 4) (X := X) (e := e) (ch := ch) (wf := nI 1) (rd := nI (WL n ps).length) (mo := nI (laD (WL n ps))) (sm := nI (suD (WL n ps))) (mk := mk) (R := T) h.1 (FS_WF h) h.2.2.1 h.2.2.2 ii
  exact ⟨A2, FS_w h k Q, G⟩
theorem op_reach (h : FS A n ps m len pr c) : ∃ A2, FS A2 n ps m len pr c ∧ Go X 8 mX3_reach (0, [(0, .ref 0)], [], HF A n ps m ch mk T e) (.inl (some (.int (nI (WL n ps).length))), HF A2 n ps m ch mk T e) := by
  obtain ⟨A2, k, Q, G⟩ := m_reach_t (fu := 4) (X := X) (e := e) (ch := ch) (wf := nI 1) (rd := nI (WL n ps).length) (mo := nI (laD (WL n ps))) (sm := nI (suD (WL n ps))) (mk := mk) (R := T) h.1 (FS_WF h)
  exact ⟨A2, FS_w h k Q, G⟩
theorem op_farthest (h : FS A n ps m len pr c) : ∃ A2, FS A2 n ps m len pr c ∧ Go X 8 mX3_farthest (0, [(0, .ref 0)], [], HF A n ps m ch mk T e) (.inl (some (.int (nI (laD (WL n ps))))), HF A2 n ps m ch mk T e) := by
  obtain ⟨A2, k, Q, G⟩ := m_farthest_t (fu := 4) (X := X) (e := e) (ch := ch) (wf := nI 1) (rd := nI (WL n ps).length) (mo := nI (laD (WL n ps))) (sm := nI (suD (WL n ps))) (mk := mk) (R := T) h.1 (FS_WF h)
  exact ⟨A2, FS_w h k Q, G⟩
theorem op_mean (h : FS A n ps m len pr c) : ∃ A2, FS A2 n ps m len pr c ∧ Go X 8 mX3_mean (0, [(0, .ref 0)], [], HF A n ps m ch mk T e) (.inl (some (.double (FP.ddiv (FP.i2d (nI (suD (WL n ps)))) (FP.i2d (nI (WL n ps).length))))), HF A2 n ps m ch mk T e) := by
  obtain ⟨A2, k, Q, G⟩ := m_mean_t (fu := 4) (X := X) (e := e) (ch := ch) (wf := nI 1) (rd := nI (WL n ps).length) (mo := nI (laD (WL n ps))) (sm := nI (suD (WL n ps))) (mk := mk) (R := T) h.1 (FS_WF h)
  exact ⟨A2, FS_w h k Q, G⟩
/-- the first asking makes the ways known -/
theorem op_first {wf rd mo sm : Int32} (hC : CP A n ps m len pr) (hW : WF A n ps wf rd mo sm) (hx : rw6 (A 19) c) (ic : isRow c) : ∃ A2, FS A2 n ps m len pr c ∧ Go X 8 mX3_reach (0, [(0, .ref 0)], [], (cc A (nI n) (nI m) ch wf rd mo sm mk ++ T, e)) (.inl (some (.int (nI (WL n ps).length))), HF A2 n ps m ch mk T e) := by
  obtain ⟨A2, k, Q, G⟩ := m_reach_t (X := X) (fu := 4) (e := e) (ch := ch) (wf := wf) (rd := rd) (mo := mo) (sm := sm) (mk := mk) (R := T) hC hW
  exact ⟨A2, ⟨CP_keep hC fun j hj => k j (by omega), Q, by rw [k 19 (by omega)]; exact hx, ic⟩, G⟩
end OPS
