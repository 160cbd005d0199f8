/-! ===== words of rules: what the keys tell ===== -/
section WORDS
variable {n : Nat} {g : Nat → Nat}
/-- a row that d rules make of rounds -/
def Wd (n : Nat) (g : Nat → Nat) : Nat → Nat → Prop
  | 0, x => x = R0
  | d + 1, x => ∃ w r, r < n ∧ Wd n g d w ∧ x = cmp w (g r)
/-- .. the rule r first, d more behind it -/
def Fw (n : Nat) (g : Nat → Nat) (d x r : Nat) : Prop := r < n ∧ ∃ w, Wd n g d w ∧ x = cmp (g r) w
theorem Wd_row (hg : ∀ r, r < n → isRow (g r)) : ∀ (d x : Nat), Wd n g d x → isRow x := by
  intro d
  induction d with
  | zero => intro x h; rw [show x = R0 from h]; exact R0_row
  | succ d ih =>
    rintro x ⟨w, r, hr, hw, rfl⟩
    exact cmp_row (ih w hw) (hg r hr)
theorem Wd_left (hg : ∀ r, r < n → isRow (g r)) : ∀ (d w r : Nat), r < n → Wd n g d w → Wd n g (d + 1) (cmp (g r) w) := by
  intro d
  induction d with
  | zero =>
    intro w r hr hw
    rw [show w = R0 from hw]
    exact ⟨R0, r, hr, rfl, by rw [cmp_R0 (row_lt (hg r hr)), R0_cmp (row_lt (hg r hr))]⟩
  | succ d ih =>
    rintro w r hr ⟨w2, r2, hr2, hw2, rfl⟩
    exact ⟨cmp (g r) w2, r2, hr2, ih w2 r hr hw2, (cmp_assoc _ _ _).symm⟩
theorem Wd_first (hg : ∀ r, r < n → isRow (g r)) : ∀ (d x : Nat), Wd n g (d + 1) x → ∃ r, Fw n g d x r := by
  intro d
  induction d with
  | zero =>
    rintro x ⟨w, r, hr, hw, rfl⟩
    rw [show w = R0 from hw]
    exact ⟨r, hr, R0, rfl, by rw [cmp_R0 (row_lt (hg r hr)), R0_cmp (row_lt (hg r hr))]⟩
  | succ d ih =>
    rintro x ⟨w, r, hr, hw, rfl⟩
    obtain ⟨r0, h0, w2, hw2, rfl⟩ := ih w hw
    exact ⟨r0, h0, cmp w2 (g r), ⟨w2, r, hr, hw2, rfl⟩, cmp_assoc _ _ _⟩
theorem Fw_W (hg : ∀ r, r < n → isRow (g r)) {d x r : Nat} (h : Fw n g d x r) : Wd n g (d + 1) x := by
  obtain ⟨hr, w, hw, rfl⟩ := h
  exact Wd_left hg d w r hr hw
/-- the class's keys: eight for a rule, and the first rule -/
def nkC (k r : Nat) : Nat := if k = 0 then 8 + r else k + 8
def nkM (k _r : Nat) : Nat := k + 1
def nbC (g : Nat → Nat) (x r : Nat) : Nat := cmp x (g r)
theorem KM_C (hn : n ≤ 8) : KM nkC 8 n := by
  refine ⟨fun k r hr => ?_, fun k k2 r r2 hr hr2 hk => ?_, fun k r r2 h1 h2 => ?_, fun k r r2 h0 h1 h2 => ?_⟩ <;> unfold nkC <;> (repeat' split) <;> omega
theorem KM_M : KM nkM 1 n := by
  refine ⟨fun k r hr => ?_, fun k k2 r r2 hr hr2 hk => ?_, fun k r r2 h1 h2 => ?_, fun k r r2 h0 h1 h2 => ?_⟩ <;> unfold nkM <;> omega
theorem nb_row (hg : ∀ r, r < n → isRow (g r)) : ∀ x r, isRow x → r < n → isRow (nbC g x r) := fun x r hx hr => cmp_row hx (hg r hr)
/-- what a key of the class says -/
theorem key_sound (hn : n ≤ 8) (hg : ∀ r, r < n → isRow (g r)) {l : List (Nat × Nat)} (h : BV (nbC g) nkC 8 n R0 l) : ∀ (b : Nat) (q : Nat × Nat), l[b]? = some q → (q = (R0, 0)) ∨ ∃ d r, q.2 = 8 * (d + 1) + r ∧ Fw n g d q.1 r := by
  intro b
  induction b using Nat.strongRecOn with
  | ind b ih =>
    intro q hq
    by_cases hb : b = 0
    · subst hb
      rw [h.2.2.1] at hq
      exact Or.inl (Option.some.inj hq).symm
    · obtain ⟨h0, a, p, r, hab, hp, hr, rfl⟩ := h.2.2.2.2.1 b q (by omega) hq
      rcases ih a hab p hp with e | ⟨d, r0, e1, hr0, w, hw, e2⟩
      · refine Or.inr ⟨0, r, ?_, hr, R0, rfl, ?_⟩
        · rw [e]; rfl
        · rw [e]
          show cmp R0 (g r) = cmp (g r) R0
          rw [cmp_R0 (row_lt (hg r hr)), R0_cmp (row_lt (hg r hr))]
      · refine Or.inr ⟨d + 1, r0, ?_, hr0, cmp w (g r), ⟨w, r, hr, hw, rfl⟩, ?_⟩
        · show nkC p.2 r = _
          unfold nkC
          rw [if_neg (by omega)]
          omega
        · show cmp p.1 (g r) = _
          rw [e2, cmp_assoc]
theorem key_best (hn : n ≤ 8) (hg : ∀ r, r < n → isRow (g r)) {l : List (Nat × Nat)} (h : BV (nbC g) nkC 8 n R0 l) (hc : CL (nbC g) nkC n l l.length) : ∀ (d x r : Nat), Fw n g d x r → ∃ k, lk l x = some k ∧ k ≤ 8 * (d + 1) + r := by
  have cl : ∀ x k r, lk l x = some k → r < n → ∃ k2, lk l (cmp x (g r)) = some k2 ∧ k2 ≤ nkC k r := by
    intro x k r hx hr
    obtain ⟨a, ha, e⟩ := List.getElem_of_mem (lk_some hx)
    have h2 := hc a (x, k) ha (by rw [List.getElem?_eq_getElem ha, e]) r hr
    exact h2
  have h0 : lk l R0 = some 0 := lk_of h.1 (List.mem_of_getElem? h.2.2.1)
  intro d
  induction d with
  | zero =>
    rintro x r ⟨hr, w, hw, rfl⟩
    rw [show w = R0 from hw]
    obtain ⟨k2, e1, e2⟩ := cl R0 0 r h0 hr
    rw [R0_cmp (row_lt (hg r hr))] at e1
    rw [cmp_R0 (row_lt (hg r hr))]
    exact ⟨k2, e1, e2⟩
  | succ d ih =>
    rintro x r ⟨hr, w, ⟨w2, r2, hr2, hw2, rfl⟩, rfl⟩
    obtain ⟨k, e1, e2⟩ := ih (cmp (g r) w2) r ⟨hr, w2, hw2, rfl⟩
    obtain ⟨k2, e3, e4⟩ := cl _ k r2 e1 hr2
    rw [cmp_assoc] at e3
    refine ⟨k2, e3, ?_⟩
    unfold nkC at e4
    split at e4 <;> omega
/-- the reference's keys, back from a row: the fewest rules -/
theorem far_sound {ps : Nat → Nat} (hp : ∀ r, r < n → isRow (ps r)) {its : Nat} (hi : isRow its) {l : List (Nat × Nat)} (h : BV (nbC ps) nkM 1 n its l) : ∀ (b : Nat) (q : Nat × Nat), l[b]? = some q → Wd n (fun r => inv (ps r)) q.2 (cmp (inv q.1) its) := by
  have hg : ∀ r, r < n → isRow ((fun r => inv (ps r)) r) := fun r hr => inv_row (hp r hr)
  intro b
  induction b using Nat.strongRecOn with
  | ind b ih =>
    intro q hq
    by_cases hb : b = 0
    · subst hb
      rw [h.2.2.1] at hq
      rw [← Option.some.inj hq]
      exact (cmp_inv hi).2
    · obtain ⟨h0, a, p, r, hab, hp2, hr, rfl⟩ := h.2.2.2.2.1 b q (by omega) hq
      have h1 := ih a hab p hp2
      have h2 := Wd_left hg _ _ r hr h1
      have h3 := h.2.1 p (List.mem_of_getElem? hp2)
      show Wd n _ (p.2 + 1) (cmp (inv (cmp p.1 (ps r))) its)
      rw [inv_cmp h3 (hp r hr), cmp_assoc]
      exact h2
theorem far_best {ps : Nat → Nat} (hp : ∀ r, r < n → isRow (ps r)) {its : Nat} (hi : isRow its) {l : List (Nat × Nat)} (h : BV (nbC ps) nkM 1 n its l) (hc : CL (nbC ps) nkM n l l.length) : ∀ (d y : Nat), Wd n (fun r => inv (ps r)) d y → ∃ k, lk l (cmp its (inv y)) = some k ∧ k ≤ d := by
  have hg : ∀ r, r < n → isRow ((fun r => inv (ps r)) r) := fun r hr => inv_row (hp r hr)
  have h0 : lk l its = some 0 := lk_of h.1 (List.mem_of_getElem? h.2.2.1)
  intro d
  induction d with
  | zero =>
    intro y hy
    rw [show y = R0 from hy, inv_R0, cmp_R0 (row_lt hi)]
    exact ⟨0, h0, Nat.le_refl _⟩
  | succ d ih =>
    intro y hy
    obtain ⟨r, hr, w, hw, rfl⟩ := Wd_first hg d y hy
    obtain ⟨k, e1, e2⟩ := ih w hw
    have iw := Wd_row hg d w hw
    obtain ⟨a, ha, e⟩ := List.getElem_of_mem (lk_some e1)
    obtain ⟨k2, e3, e4⟩ := hc a _ ha (by rw [List.getElem?_eq_getElem ha, e]) r hr
    refine ⟨k2, ?_, ?_⟩
    · rw [inv_cmp (inv_row (hp r hr)) iw, inv_inv (hp r hr), ← cmp_assoc]
      exact e3
    · unfold nkM at e4
      omega
/-- the two sides' way to a row: the fewest rules, and the smallest first one -/
theorem next_ok {ps : Nat → Nat} (hn : n ≤ 8) (hp : ∀ r, r < n → isRow (ps r)) {c its : Nat} (ic : isRow c) (hi : isRow its) {l l2 : List (Nat × Nat)} (h : BV (nbC (fun r => inv (ps r))) nkC 8 n R0 l) (hc : CL (nbC (fun r => inv (ps r))) nkC n l l.length) (h2 : BV (nbC ps) nkM 1 n its l2) (hc2 : CL (nbC ps) nkM n l2 l2.length) :
    match lk l (cmp (inv c) its) with
    | none => lk l2 c = none
    | some 0 => lk l2 c = some 0
    | some (k + 1) => lk l2 c = some ((k + 1) / 8) ∧ 0 < (k + 1) / 8 ∧ (k + 1) % 8 < n ∧ lk l2 (cmp c (inv (ps ((k + 1) % 8)))) = some ((k + 1) / 8 - 1) ∧ ∀ r, r < (k + 1) % 8 → lk l2 (cmp c (inv (ps r))) ≠ some ((k + 1) / 8 - 1) := by
  have hg : ∀ r, r < n → isRow ((fun r => inv (ps r)) r) := fun r hr => inv_row (hp r hr)
  have ix : isRow (cmp (inv c) its) := cmp_row (inv_row ic) hi
  -- the row behind a place of the second list
  have bk : ∀ x, isRow x → cmp its (inv (cmp (inv x) its)) = x := fun x hx => by
    rw [inv_cmp (inv_row hx) hi, inv_inv hx, ← cmp_assoc, (cmp_inv hi).1, R0_cmp (row_lt hx)]
  have fs : ∀ x k, lk l2 x = some k → Wd n (fun r => inv (ps r)) k (cmp (inv x) its) := fun x k hx => by
    obtain ⟨a, ha, e⟩ := List.getElem_of_mem (lk_some hx)
    exact far_sound hp hi h2 a (x, k) (by rw [List.getElem?_eq_getElem ha, e])
  have fb : ∀ x d, isRow x → Wd n (fun r => inv (ps r)) d (cmp (inv x) its) → ∃ k, lk l2 x = some k ∧ k ≤ d := fun x d hx hw => by
    have h3 := far_best hp hi h2 hc2 d _ hw
    rw [bk x hx] at h3
    exact h3
  have kb : ∀ d, Wd n (fun r => inv (ps r)) d (cmp (inv c) its) → ∃ k, lk l (cmp (inv c) its) = some k ∧ k / 8 ≤ d := fun d hw => by
    cases d with
    | zero =>
      refine ⟨0, ?_, Nat.le_refl _⟩
      rw [show cmp (inv c) its = R0 from hw]
      exact lk_of h.1 (List.mem_of_getElem? h.2.2.1)
    | succ d =>
      obtain ⟨r, hf⟩ := Wd_first hg d _ hw
      obtain ⟨k, e1, e2⟩ := key_best hn hg h hc d _ r hf
      have := hf.1
      exact ⟨k, e1, by omega⟩
  cases e : lk l (cmp (inv c) its) with
  | none =>
    show lk l2 c = none
    cases e2 : lk l2 c with
    | none => rfl
    | some k =>
      obtain ⟨k2, e3, _⟩ := kb k (fs c k e2)
      rw [e] at e3
      cases e3
  | some key =>
    obtain ⟨a, ha, ea⟩ := List.getElem_of_mem (lk_some e)
    have ks := key_sound hn hg h a (cmp (inv c) its, key) (by rw [List.getElem?_eq_getElem ha, ea])
    cases key with
    | zero =>
      show lk l2 c = some 0
      rcases ks with q | ⟨d, r, q, _⟩
      · have q1 : cmp (inv c) its = R0 := congrArg Prod.fst q
        obtain ⟨k, e1, e2⟩ := fb c 0 ic q1
        rw [e1]
        congr 1
        omega
      · exact absurd q (by show ¬ (0 = 8 * (d + 1) + r); omega)
    | succ k =>
      dsimp only
      rcases ks with q | ⟨d, r, q, hf⟩
      · exact absurd (congrArg Prod.snd q) (by simp)
      · have q1 : k + 1 = 8 * (d + 1) + r := q
        have hr := hf.1
        have d1 : (k + 1) / 8 = d + 1 := by omega
        have d2 : (k + 1) % 8 = r := by omega
        rw [d1, d2]
        -- the way is a shortest one
        have far : lk l2 c = some (d + 1) := by
          obtain ⟨k2, e1, e2⟩ := fb c (d + 1) ic (Fw_W hg hf)
          obtain ⟨k3, e3, e4⟩ := kb k2 (fs c k2 e1)
          rw [e] at e3
          cases e3
          rw [e1]
          congr 1
          omega
        -- one rule on: a row one nearer, just if the way may begin so
        have one : ∀ r2, r2 < n → (lk l2 (cmp c (inv (ps r2))) = some d ↔ Fw n (fun r => inv (ps r)) d (cmp (inv c) its) r2) := by
          intro r2 hr2
          have i2 : isRow (cmp c (inv (ps r2))) := cmp_row ic (inv_row (hp r2 hr2))
          have e5 : cmp (inv (cmp c (inv (ps r2)))) its = cmp (ps r2) (cmp (inv c) its) := by
            rw [inv_cmp ic (inv_row (hp r2 hr2)), inv_inv (hp r2 hr2), cmp_assoc]
          have e6 : cmp (inv c) its = cmp (inv (ps r2)) (cmp (ps r2) (cmp (inv c) its)) := by
            rw [← cmp_assoc, (cmp_inv (hp r2 hr2)).2, R0_cmp (row_lt ix)]
          constructor
          · intro h3
            have h4 := fs _ _ h3
            rw [e5] at h4
            exact ⟨hr2, _, h4, e6⟩
          · rintro ⟨_, w, hw, e7⟩
            have e8 : cmp (inv (cmp c (inv (ps r2)))) its = w := by
              rw [e5, e7]
              show cmp (ps r2) (cmp (inv (ps r2)) w) = w
              rw [← cmp_assoc, (cmp_inv (hp r2 hr2)).1, R0_cmp (row_lt (Wd_row hg d w hw))]
            obtain ⟨k2, f1, f2⟩ := fb _ d i2 (by rw [e8]; exact hw)
            have f3 := Wd_left hg _ _ r2 hr2 (fs _ _ f1)
            rw [e5] at f3
            have f4 : Wd n (fun r => inv (ps r)) (k2 + 1) (cmp (inv c) its) := by
              rw [e6]; exact f3
            obtain ⟨k3, f5, f6⟩ := kb _ f4
            rw [e] at f5
            cases f5
            rw [f1]
            congr 1
            omega
        refine ⟨far, by omega, hr, ?_, fun r2 hr2 h3 => ?_⟩
        · rw [Nat.add_sub_cancel]
          exact (one r hr).mpr hf
        · rw [Nat.add_sub_cancel] at h3
          obtain ⟨k2, e1, e2⟩ := key_best hn hg h hc d _ r2 ((one r2 (by omega)).mp h3)
          rw [e] at e1
          cases e1
          omega
end WORDS
