/-! ===== spreading over rows: a list of rows, each with its key ===== -/
def lk : List (Nat × Nat) → Nat → Option Nat
  | [], _ => none
  | q :: t, x => if q.1 = x then some q.2 else lk t x
def addk (l : List (Nat × Nat)) (x k : Nat) : List (Nat × Nat) := match lk l x with
  | some _ => l
  | none => l ++ [(x, k)]
theorem addk_s {l : List (Nat × Nat)} {x k j : Nat} (h : lk l x = some j) : addk l x k = l := by unfold addk; rw [h]
theorem addk_n {l : List (Nat × Nat)} {x k : Nat} (h : lk l x = none) : addk l x k = l ++ [(x, k)] := by unfold addk; rw [h]
theorem lk_none {l : List (Nat × Nat)} {x : Nat} : lk l x = none ↔ ∀ q, q ∈ l → q.1 ≠ x := by
  induction l with
  | nil => exact ⟨fun _ q hq => absurd hq (by simp), fun _ => rfl⟩
  | cons q t ih =>
    rw [lk]
    by_cases e : q.1 = x
    · rw [if_pos e]
      exact ⟨fun h => absurd h (by simp), fun h => absurd e (h q (List.mem_cons_self ..))⟩
    · rw [if_neg e, ih]
      constructor
      · intro h p hp
        rcases List.mem_cons.mp hp with rfl | hp
        · exact e
        · exact h p hp
      · exact fun h p hp => h p (List.mem_cons_of_mem _ hp)
theorem lk_some {l : List (Nat × Nat)} {x k : Nat} (h : lk l x = some k) : (x, k) ∈ l := by
  induction l with
  | nil => cases h
  | cons q t ih =>
    rw [lk] at h
    by_cases e : q.1 = x
    · rw [if_pos e] at h
      have e2 : q = (x, k) := Prod.ext e (Option.some.inj h)
      rw [e2]
      exact List.mem_cons_self ..
    · rw [if_neg e] at h
      exact List.mem_cons_of_mem _ (ih h)
theorem lk_app {l : List (Nat × Nat)} {x k y : Nat} : lk (l ++ [(x, k)]) y = match lk l y with | some v => some v | none => if x = y then some k else none := by
  induction l with
  | nil => rfl
  | cons q t ih =>
    rw [List.cons_append, lk, lk]
    by_cases e : q.1 = y
    · rw [if_pos e, if_pos e]
    · rw [if_neg e, if_neg e, ih]
theorem lk_app_s {l : List (Nat × Nat)} {x k y j : Nat} (h : lk l y = some j) : lk (l ++ [(x, k)]) y = some j := by rw [lk_app, h]
theorem lk_app_n {l : List (Nat × Nat)} {x k : Nat} (h : lk l x = none) : lk (l ++ [(x, k)]) x = some k := by rw [lk_app, h]; exact if_pos rfl
theorem lk_app_o {l : List (Nat × Nat)} {x k y : Nat} (h : lk l y = none) (e : x ≠ y) : lk (l ++ [(x, k)]) y = none := by rw [lk_app, h]; exact if_neg e
theorem lk_of {l : List (Nat × Nat)} (hd : (l.map Prod.fst).Nodup) {x k : Nat} (h : (x, k) ∈ l) : lk l x = some k := by
  induction l with
  | nil => cases h
  | cons q t ih =>
    rw [List.map_cons, List.nodup_cons] at hd
    rw [lk]
    rcases List.mem_cons.mp h with e | hm
    · rw [← e]; exact if_pos rfl
    · have e : q.1 ≠ x := fun z => hd.1 (by rw [z]; exact List.mem_map.mpr ⟨(x, k), hm, rfl⟩)
      rw [if_neg e]
      exact ih hd.2 hm
theorem nodup_add {l : List (Nat × Nat)} (hd : (l.map Prod.fst).Nodup) {x k : Nat} (h : lk l x = none) : ((l ++ [(x, k)]).map Prod.fst).Nodup := by
  rw [List.map_append, List.nodup_append]
  refine ⟨hd, by simp, fun a ha b hb => ?_⟩
  obtain ⟨q, hq, rfl⟩ := List.mem_map.mp ha
  have e : b = x := by simpa using hb
  rw [e]
  exact lk_none.mp h q hq
/-- rows that are all different are 720 at most -/
theorem pig : ∀ (l t : List Nat), l.Nodup → (∀ x, x ∈ l → x ∈ t) → l.length ≤ t.length := by
  intro l
  induction l with
  | nil => intro t _ _; exact Nat.zero_le _
  | cons a l ih =>
    intro t hd hs
    rw [List.nodup_cons] at hd
    have ha := hs a (List.mem_cons_self ..)
    have h1 := ih (t.erase a) hd.2 (fun x hx => by
      have e : x ≠ a := fun z => hd.1 (z ▸ hx)
      exact (List.mem_erase_of_ne e).mpr (hs x (List.mem_cons_of_mem _ hx)))
    rw [List.length_erase_of_mem ha] at h1
    have h2 : 0 < t.length := List.length_pos_of_mem ha
    rw [List.length_cons]
    omega
theorem PL_len : PL.length = 720 := by decide +kernel
theorem len_720 {l : List (Nat × Nat)} (hd : (l.map Prod.fst).Nodup) (hr : ∀ q, q ∈ l → isRow q.1) : l.length ≤ 720 := by
  have h := pig (l.map Prod.fst) PL hd (fun x hx => by
    obtain ⟨q, hq, rfl⟩ := List.mem_map.mp hx
    exact hr q hq)
  rw [List.length_map, PL_len] at h
  exact h
theorem len_lt {l : List (Nat × Nat)} (hd : (l.map Prod.fst).Nodup) (hr : ∀ q, q ∈ l → isRow q.1) {y : Nat} (hy : isRow y) (h : lk l y = none) : l.length < 720 := by
  have h1 := len_720 (l := l ++ [(y, 0)]) (nodup_add hd h) (fun q hq => by
    rcases List.mem_append.mp hq with hq | hq
    · exact hr q hq
    · have e : q = (y, 0) := by simpa using hq
      rw [e]; exact hy)
  rw [List.length_append] at h1
  exact h1
def bi (nb nk : Nat → Nat → Nat) (x k : Nat) : Nat → Nat → List (Nat × Nat) → List (Nat × Nat)
  | 0, _, l => l
  | m + 1, r, l => bi nb nk x k m (r + 1) (addk l (nb x r) (nk k r))
def bo (nb nk : Nat → Nat → Nat) (n : Nat) : Nat → Nat → List (Nat × Nat) → List (Nat × Nat)
  | 0, _, l => l
  | m + 1, i, l => match l[i]? with
    | none => l
    | some q => bo nb nk n m (i + 1) (bi nb nk q.1 q.2 n 0 l)
section BV
variable (nb nk : Nat → Nat → Nat) (lo n s : Nat)
/-- the keys go up -/
def KM : Prop := (∀ k r, r < n → lo ≤ nk k r ∧ nk k r ≤ k + 15) ∧ (∀ k k2 r r2, r < n → r2 < n → lo ≤ k2 → k < k2 → nk k r ≤ nk k2 r2) ∧ (∀ k r r2, r ≤ r2 → r2 < n → nk k r ≤ nk k r2) ∧ ∀ k r r2, lo ≤ k → r < n → r2 < n → nk k r = nk k r2
def BV (l : List (Nat × Nat)) : Prop := (l.map Prod.fst).Nodup ∧ (∀ q, q ∈ l → isRow q.1) ∧ l[0]? = some (s, 0) ∧ (∀ (a b : Nat) (p q : Nat × Nat), a ≤ b → l[a]? = some p → l[b]? = some q → p.2 ≤ q.2) ∧
  (∀ (b : Nat) (q : Nat × Nat), 0 < b → l[b]? = some q → lo ≤ q.2 ∧ ∃ (a : Nat) (p : Nat × Nat) (r : Nat), a < b ∧ l[a]? = some p ∧ r < n ∧ q = (nb p.1 r, nk p.2 r)) ∧ ∀ (b : Nat) (q : Nat × Nat), l[b]? = some q → q.2 ≤ 15 * b
def CL (l : List (Nat × Nat)) (i : Nat) : Prop := ∀ (a : Nat) (p : Nat × Nat), a < i → l[a]? = some p → ∀ r, r < n → ∃ k, lk l (nb p.1 r) = some k ∧ k ≤ nk p.2 r
def GR (l l2 : List (Nat × Nat)) : Prop := (∀ x k, lk l x = some k → lk l2 x = some k) ∧ ∀ (j : Nat) (q : Nat × Nat), l[j]? = some q → l2[j]? = some q
variable {nb nk lo n s}
theorem GR_r (l : List (Nat × Nat)) : GR l l := ⟨fun _ _ h => h, fun _ _ h => h⟩
theorem GR_t {l l2 l3 : List (Nat × Nat)} (h : GR l l2) (h2 : GR l2 l3) : GR l l3 := ⟨fun x k q => h2.1 x k (h.1 x k q), fun j q z => h2.2 j q (h.2 j q z)⟩
theorem idx_app {l : List (Nat × Nat)} {p q : Nat × Nat} {j : Nat} (h : (l ++ [p])[j]? = some q) : l[j]? = some q ∨ (j = l.length ∧ q = p) := by
  by_cases e : j < l.length
  · rw [List.getElem?_append_left e] at h
    exact Or.inl h
  · rw [List.getElem?_append_right (by omega)] at h
    by_cases e2 : j = l.length
    · subst e2
      rw [Nat.sub_self] at h
      exact Or.inr ⟨rfl, (Option.some.inj h).symm⟩
    · have e3 : [p].length ≤ j - l.length := by simp; omega
      rw [List.getElem?_eq_none e3] at h
      cases h
theorem idx_lt {l : List (Nat × Nat)} {q : Nat × Nat} {j : Nat} (h : l[j]? = some q) : j < l.length := by
  by_cases e : j < l.length
  · exact e
  · rw [List.getElem?_eq_none (by omega)] at h
    cases h
theorem BV_add {l : List (Nat × Nat)} (hK : KM nk lo n) (h : BV nb nk lo n s l) {a r : Nat} {p : Nat × Nat} (ha : l[a]? = some p) (hr : r < n) (hy : isRow (nb p.1 r)) (hu : ∀ q, q ∈ l → q.2 ≤ nk p.2 r) :
    BV nb nk lo n s (addk l (nb p.1 r) (nk p.2 r)) ∧ GR l (addk l (nb p.1 r) (nk p.2 r)) ∧ (∃ k, lk (addk l (nb p.1 r) (nk p.2 r)) (nb p.1 r) = some k ∧ k ≤ nk p.2 r) ∧ ∀ q, q ∈ addk l (nb p.1 r) (nk p.2 r) → q ∈ l ∨ q.2 = nk p.2 r := by
  cases e : lk l (nb p.1 r) with
  | some j =>
    rw [addk_s e]
    exact ⟨h, GR_r l, ⟨j, e, hu _ (lk_some e)⟩, fun q hq => Or.inl hq⟩
  | none =>
    rw [addk_n e]
    obtain ⟨h1, h2, h3, h4, h5, h6⟩ := h
    have hal := idx_lt ha
    have ih : ∀ (j : Nat) (q : Nat × Nat), l[j]? = some q → (l ++ [(nb p.1 r, nk p.2 r)])[j]? = some q := fun j q hq => by
      rw [List.getElem?_append_left (idx_lt hq)]; exact hq
    refine ⟨⟨nodup_add h1 e, fun q hq => ?_, ih _ _ h3, fun b c p2 q hbc hp hq => ?_, fun b q hb hq => ?_, fun b q hq => ?_⟩, ⟨fun x k hx => lk_app_s hx, ih⟩, ⟨_, lk_app_n e, Nat.le_refl _⟩, fun q hq => ?_⟩
    · rcases List.mem_append.mp hq with hq | hq
      · exact h2 q hq
      · have e2 : q = (nb p.1 r, nk p.2 r) := by simpa using hq
        rw [e2]; exact hy
    · rcases idx_app hq with hq | ⟨e2, e3⟩
      · rcases idx_app hp with hp | ⟨e4, e5⟩
        · exact h4 b c p2 q hbc hp hq
        · have := idx_lt hq; omega
      · rcases idx_app hp with hp | ⟨e4, e5⟩
        · rw [e3]; exact hu _ (List.mem_of_getElem? hp)
        · rw [e3, e5]; exact Nat.le_refl _
    · rcases idx_app hq with hq | ⟨e2, e3⟩
      · obtain ⟨z1, a2, p2, r2, z2, z3, z4, z5⟩ := h5 b q hb hq
        exact ⟨z1, a2, p2, r2, z2, ih _ _ z3, z4, z5⟩
      · rw [e3]
        exact ⟨(hK.1 _ _ hr).1, a, p, r, by omega, ih _ _ ha, hr, rfl⟩
    · rcases idx_app hq with hq | ⟨e2, e3⟩
      · exact h6 b q hq
      · have z1 := (hK.1 p.2 r hr).2
        have z2 := h6 a p ha
        rw [e3]
        show nk p.2 r ≤ 15 * b
        omega
    · rcases List.mem_append.mp hq with hq | hq
      · exact Or.inl hq
      · have e2 : q = (nb p.1 r, nk p.2 r) := by simpa using hq
        rw [e2]; exact Or.inr rfl
theorem BV_in (hK : KM nk lo n) (hb : ∀ x r, isRow x → r < n → isRow (nb x r)) {a : Nat} {p : Nat × Nat} : ∀ (m r : Nat) (l : List (Nat × Nat)), r + m = n → BV nb nk lo n s l → l[a]? = some p → (∀ q, q ∈ l → ∀ r2, r ≤ r2 → r2 < n → q.2 ≤ nk p.2 r2) →
    BV nb nk lo n s (bi nb nk p.1 p.2 m r l) ∧ GR l (bi nb nk p.1 p.2 m r l) ∧ (∀ r2, r ≤ r2 → r2 < n → ∃ k, lk (bi nb nk p.1 p.2 m r l) (nb p.1 r2) = some k ∧ k ≤ nk p.2 r2) ∧ ∀ q, q ∈ bi nb nk p.1 p.2 m r l → q ∈ l ∨ ∃ r2, r2 < n ∧ q.2 = nk p.2 r2 := by
  intro m
  induction m with
  | zero =>
    intro r l hr h ha hu
    exact ⟨h, GR_r l, fun r2 h1 h2 => absurd h2 (by omega), fun q hq => Or.inl hq⟩
  | succ m ih =>
    intro r l hr h ha hu
    have hr2 : r < n := by omega
    have hp := h.2.1 p (List.mem_of_getElem? ha)
    obtain ⟨g1, g2, ⟨k0, g3, g4⟩, g5⟩ := BV_add hK h ha hr2 (hb _ _ hp hr2) (fun q hq => hu q hq r (by omega) hr2)
    obtain ⟨f1, f2, f3, f4⟩ := ih (r + 1) _ (by omega) g1 (g2.2 _ _ ha) (fun q hq r2 h1 h2 => by
      rcases g5 q hq with hq | hq
      · exact hu q hq r2 (by omega) h2
      · rw [hq]; exact hK.2.2.1 _ _ _ (by omega) h2)
    refine ⟨f1, GR_t g2 f2, fun r2 h1 h2 => ?_, fun q hq => ?_⟩
    · by_cases e : r2 = r
      · subst e
        exact ⟨k0, f2.1 _ _ g3, g4⟩
      · exact f3 r2 (by omega) h2
    · rcases f4 q hq with hq | hq
      · rcases g5 q hq with hq | hq
        · exact Or.inl hq
        · exact Or.inr ⟨r, hr2, hq⟩
      · exact Or.inr hq
theorem BV_out (hK : KM nk lo n) (hb : ∀ x r, isRow x → r < n → isRow (nb x r)) : ∀ (m i : Nat) (l : List (Nat × Nat)), i + m = 720 → BV nb nk lo n s l → CL nb nk n l i → (∀ p, l[i]? = some p → ∀ q, q ∈ l → ∀ r, r < n → q.2 ≤ nk p.2 r) →
    BV nb nk lo n s (bo nb nk n m i l) ∧ CL nb nk n (bo nb nk n m i l) (bo nb nk n m i l).length := by
  intro m
  induction m with
  | zero =>
    intro i l hi h hc _
    have h1 := len_720 h.1 h.2.1
    exact ⟨h, fun a p ha => hc a p (by show a < i; have h2 : a < l.length := ha; omega)⟩
  | succ m ih =>
    intro i l hi h hc hu
    rw [bo]
    cases e : l[i]? with
    | none =>
      have h1 : l.length ≤ i := by
        rw [List.getElem?_eq_none_iff] at e
        exact e
      exact ⟨h, fun a p ha => hc a p (by have h2 : a < l.length := ha; omega)⟩
    | some p =>
      dsimp only
      obtain ⟨f1, f2, f3, f4⟩ := BV_in (s := s) hK hb n 0 l (by omega) h e (fun q hq r2 _ h2 => hu p e q hq r2 h2)
      refine ih (i + 1) _ (by omega) f1 ?_ ?_
      · intro a q ha hq r hr
        by_cases e2 : a = i
        · subst e2
          have e3 := f2.2 _ _ e
          rw [e3] at hq
          cases hq
          exact f3 r (by omega) hr
        · have e3 : a < l.length := by have := idx_lt e; omega
          have e4 : l[a]? = some l[a] := List.getElem?_eq_getElem e3
          have e5 := f2.2 _ _ e4
          rw [e5] at hq
          cases hq
          obtain ⟨k, z1, z2⟩ := hc a _ (by omega) e4 r hr
          exact ⟨k, f2.1 _ _ z1, z2⟩
      · intro p2 hp2 q hq r hr
        have s1 := f1.2.2.2.1 i (i + 1) p p2 (by omega) (f2.2 _ _ e) hp2
        have s2 := (f1.2.2.2.2.1 (i + 1) p2 (by omega) hp2).1
        rcases f4 q hq with hq | ⟨r2, hr2, hq⟩
        · refine Nat.le_trans (hu p e q hq r hr) ?_
          by_cases e6 : p.2 = p2.2
          · rw [e6]; exact Nat.le_refl _
          · exact hK.2.1 _ _ _ _ hr hr s2 (by omega)
        · rw [hq]
          by_cases e6 : p.2 = p2.2
          · rw [e6, hK.2.2.2 _ _ _ s2 hr2 hr]; exact Nat.le_refl _
          · exact hK.2.1 _ _ _ _ hr2 hr s2 (by omega)
def bfs (nb nk : Nat → Nat → Nat) (n s : Nat) : List (Nat × Nat) := bo nb nk n 720 0 [(s, 0)]
theorem BV_0 (hs : isRow s) : BV nb nk lo n s [(s, 0)] := by
  refine ⟨by simp, fun q hq => ?_, rfl, fun a b p q hab hp hq => ?_, fun b q hb hq => ?_, fun b q hq => ?_⟩
  · have e : q = (s, 0) := by simpa using hq
    rw [e]; exact hs
  · have h1 := idx_lt hp
    have h2 := idx_lt hq
    have h3 : a = 0 := by simp at h1; exact h1
    have h4 : b = 0 := by simp at h2; exact h2
    rw [h3] at hp
    rw [h4, hp] at hq
    cases hq
    exact Nat.le_refl _
  · have h2 := idx_lt hq
    simp at h2
    omega
  · have h2 := idx_lt hq
    have h4 : b = 0 := by simp at h2; exact h2
    rw [h4] at hq
    cases hq
    exact Nat.zero_le _
theorem bfs_ok (hK : KM nk lo n) (hb : ∀ x r, isRow x → r < n → isRow (nb x r)) (hs : isRow s) : BV nb nk lo n s (bfs nb nk n s) ∧ CL nb nk n (bfs nb nk n s) (bfs nb nk n s).length := by
  refine BV_out hK hb 720 0 _ (by omega) (BV_0 hs) (fun a p ha => absurd ha (by omega)) (fun p hp q hq r hr => ?_)
  have e : q = (s, 0) := by simpa using hq
  rw [e]
  exact Nat.zero_le _
end BV
/-! one spreading is the other's picture -/
section MAP
variable {nb nk nb2 nk2 : Nat → Nat → Nat} {n : Nat} {F K : Nat → Nat}
end MAP
