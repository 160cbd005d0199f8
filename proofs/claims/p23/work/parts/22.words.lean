/-! ===== words of rules: what the keys tell ===== -/
section WORDS
variable {n : Nat} {g : Nat → Nat}
/-- a row that d rules make of rounds -/
def Wd (n : Nat) (g : Nat → Nat) : Nat → Nat → Prop
  | 0, x => x = R0
  | d + 1, x => ∃ w r, r < n ∧ Wd n g d w ∧ x = cmp w (g r)
/-- .. the rule r first, d more behind it -/
def Fw (n : Nat) (g : Nat → Nat) (d x r : Nat) : Prop := r < n ∧ ∃ w, Wd n g d w ∧ x = cmp (g r) w
theorem Wd_row (hg : ∀ r, r < n → isRow (g r)) : ∀ (d x : Nat), Wd n g d x → isRow x := by
  intro d
  induction d with
  | zero => intro x h; rw [show x = R0 from h]; exact R0_row
  | succ d ih =>
    rintro x ⟨w, r, hr, hw, rfl⟩
    exact cmp_row (ih w hw) (hg r hr)
theorem Wd_left (hg : ∀ r, r < n → isRow (g r)) : ∀ (d w r : Nat), r < n → Wd n g d w → Wd n g (d + 1) (cmp (g r) w) := by
  intro d
  induction d with
  | zero =>
    intro w r hr hw
    rw [show w = R0 from hw]
    exact ⟨R0, r, hr, rfl, by rw [cmp_R0 (row_lt (hg r hr)), R0_cmp (row_lt (hg r hr))]⟩
  | succ d ih =>
    rintro w r hr ⟨w2, r2, hr2, hw2, rfl⟩
    exact ⟨cmp (g r) w2, r2, hr2, ih w2 r hr hw2, (cmp_assoc _ _ _).symm⟩
theorem Wd_first (hg : ∀ r, r < n → isRow (g r)) : ∀ (d x : Nat), Wd n g (d + 1) x → ∃ r, Fw n g d x r := by
  intro d
  induction d with
  | zero =>
    rintro x ⟨w, r, hr, hw, rfl⟩
    rw [show w = R0 from hw]
    exact ⟨r, hr, R0, rfl, by rw [cmp_R0 (row_lt (hg r hr)), R0_cmp (row_lt (hg r hr))]⟩
  | succ d ih =>
    rintro x ⟨w, r, hr, hw, rfl⟩
    obtain ⟨r0, h0, w2, hw2, rfl⟩ := ih w hw
    exact ⟨r0, h0, cmp w2 (g r), ⟨w2, r, hr, hw2, rfl⟩, cmp_assoc _ _ _⟩
theorem Fw_W (hg : ∀ r, r < n → isRow (g r)) {d x r : Nat} (h : Fw n g d x r) : Wd n g (d + 1) x := by
  obtain ⟨hr, w, hw, rfl⟩ := h
  exact Wd_left hg d w r hr hw
/-- the class's keys: eight for a rule, and the first rule -/
def nkC (k r : Nat) : Nat := if k = 0 then 8 + r else k + 8
def nkM (k _r : Nat) : Nat := k + 1
def nbC (g : Nat → Nat) (x r : Nat) : Nat := cmp x (g r)
theorem KM_C (hn : n ≤ 8) : KM nkC 8 n := by
  refine ⟨fun k r hr => ?_, fun k k2 r r2 hr hr2 hk => ?_, fun k r r2 h1 h2 => ?_, fun k r r2 h0 h1 h2 => ?_⟩ <;> unfold nkC <;> (repeat' split) <;> omega
theorem KM_M : KM nkM 1 n := by
  refine ⟨fun k r hr => ?_, fun k k2 r r2 hr hr2 hk => ?_, fun k r r2 h1 h2 => ?_, fun k r r2 h0 h1 h2 => ?_⟩ <;> unfold nkM <;> omega
theorem nb_row (hg : ∀ r, r < n → isRow (g r)) : ∀ x r, isRow x → r < n → isRow (nbC g x r) := fun x r hx hr => cmp_row hx (hg r hr)
/-- what a key of the class says -/
theorem key_sound (hn : n ≤ 8) (hg : ∀ r, r < n → isRow (g r)) {l : List (Nat × Nat)} (h : BV (nbC g) nkC 8 n R0 l) : ∀ (b : Nat) (q : Nat × Nat), l[b]? = some q → (q = (R0, 0)) ∨ ∃ d r, q.2 = 8 * (d + 1) + r ∧ Fw n g d q.1 r := by
  intro b
  induction b using Nat.strongRecOn with
  | ind b ih =>
    intro q hq
    by_cases hb : b = 0
    · subst hb
      rw [h.2.2.1] at hq
      exact Or.inl (Option.some.inj hq).symm
    · obtain ⟨h0, a, p, r, hab, hp, hr, rfl⟩ := h.2.2.2.2.1 b q (by omega) hq
      rcases ih a hab p hp with e | ⟨d, r0, e1, hr0, w, hw, e2⟩
      · refine Or.inr ⟨0, r, ?_, hr, R0, rfl, ?_⟩
        · rw [e]; rfl
        · rw [e]
          show cmp R0 (g r) = cmp (g r) R0
          rw [cmp_R0 (row_lt (hg r hr)), R0_cmp (row_lt (hg r hr))]
      · refine Or.inr ⟨d + 1, r0, ?_, hr0, cmp w (g r), ⟨w, r, hr, hw, rfl⟩, ?_⟩
        · show nkC p.2 r = _
          unfold nkC
          rw [if_neg (by omega)]
          omega
        · show cmp p.1 (g r) = _
          rw [e2, cmp_assoc]
theorem key_best (hn : n ≤ 8) (hg : ∀ r, r < n → isRow (g r)) {l : List (Nat × Nat)} (h : BV (nbC g) nkC 8 n R0 l) (hc : CL (nbC g) nkC n l l.length) : ∀ (d x r : Nat), Fw n g d x r → ∃ k, lk l x = some k ∧ k ≤ 8 * (d + 1) + r := by
  have cl : ∀ x k r, lk l x = some k → r < n → ∃ k2, lk l (cmp x (g r)) = some k2 ∧ k2 ≤ nkC k r := by
    intro x k r hx hr
    obtain ⟨a, ha, e⟩ := List.getElem_of_mem (lk_some hx)
    have h2 := hc a (x, k) ha (by rw [List.getElem?_eq_getElem ha, e]) r hr
    exact h2
  have h0 : lk l R0 = some 0 := lk_of h.1 (List.mem_of_getElem? h.2.2.1)
  intro d
  induction d with
  | zero =>
    rintro x r ⟨hr, w, hw, rfl⟩
    rw [show w = R0 from hw]
    obtain ⟨k2, e1, e2⟩ := cl R0 0 r h0 hr
    rw [R0_cmp (row_lt (hg r hr))] at e1
    rw [cmp_R0 (row_lt (hg r hr))]
    exact ⟨k2, e1, e2⟩
  | succ d ih =>
    rintro x r ⟨hr, w, ⟨w2, r2, hr2, hw2, rfl⟩, rfl⟩
    obtain ⟨k, e1, e2⟩ := ih (cmp (g r) w2) r ⟨hr, w2, hw2, rfl⟩
    obtain ⟨k2, e3, e4⟩ := cl _ k r2 e1 hr2
    rw [cmp_assoc] at e3
    refine ⟨k2, e3, ?_⟩
    unfold nkC at e4
    split at e4 <;> omega
end WORDS
