/-! ===== rows for runs ===== -/
theorem zmono1 (X : zX) : ∀ (n f : Nat) (d : zMd) (st : zS) (o : zOut), zrun X n f d st = some o → zrun X (n + 1) f d st = some o := by
  intro n
  induction n with
  | zero => intro f d st o h; exact absurd h (by simp [zrun])
  | succ n ih =>
    intro f d st o h
    rw [zrun] at h ⊢
    cases he : zf (zi d) st.1 with
    | none => rw [he] at h; simp at h
    | some e =>
      rw [he] at h
      try dsimp only at h ⊢
      generalize hc : zctl e.2.2.1 e.2.2.2.1 = c at h ⊢
      match c with
      | 0 =>
        try dsimp only at h ⊢
        cases hz : zop X d f e.1 e.2.1 e.2.2.1 e.2.2.2.1 e.2.2.2.2.1 st.2.1 st.2.2.1 st.2.2.2 with
        | none => rw [hz] at h; simp at h
        | some st2 => rw [hz] at h; exact ih _ _ _ _ h
      | 1 => exact h
      | 2 => exact h
      | 3 =>
        try dsimp only at h ⊢
        cases hy : zM[e.2.2.2.1]? with
        | none => rw [hy] at h; simp at h
        | some y =>
          rw [hy] at h
          try dsimp only at h ⊢
          cases f with
          | zero => exact h
          | succ f2 =>
            try dsimp only at h ⊢
            cases hq : zcall y st.2.2.1 st.2.2.2 with
            | none => rw [hq] at h; simp at h
            | some q =>
              rw [hq] at h
              try dsimp only at h ⊢
              cases hr : zrun X n f2 y (0, lv_args 0 q.1, [], st.2.2.2) with
              | none => rw [hr] at h; simp at h
              | some r =>
                rw [hr] at h
                rw [ih _ _ _ _ hr]
                obtain ⟨r1, h2⟩ := r
                cases r1 with
                | inl v => exact ih _ _ _ _ h
                | inr E =>
                  try dsimp only at h ⊢
                  cases hx : zcatch (zh d) e.1 E with
                  | none => rw [hx] at h; exact h
                  | some hp =>
                    rw [hx] at h
                    try dsimp only at h ⊢
                    cases ha : st.2.1.all ztok with
                    | false => rw [ha] at h; simp at h
                    | true => rw [ha] at h; exact ih _ _ _ _ h
      | 4 => exact h
      | k + 5 => exact h
theorem zmono (X : zX) {n k f : Nat} {d : zMd} {st : zS} {o : zOut} (h : zrun X n f d st = some o) (hk : n ≤ k) : zrun X k f d st = some o := by
  obtain ⟨j, rfl⟩ := Nat.exists_eq_add_of_le hk
  clear hk
  induction j with
  | zero => exact h
  | succ j ih => exact zmono1 X _ _ _ _ _ ih
section GO
variable {X : zX} {f : Nat} {d : zMd} {o : zOut} {pc : Nat} {L : List (Nat × Value)} {S : List Value} {h : zH}
def zs1 (X : zX) (f : Nat) (d : zMd) : zS → Option zS
  | (pc, L, S, h) => match zf (zi d) pc with
    | none => none
    | some (pc0, np, i, a, b, _) => match zctl i a with
      | 0 => zop X d f pc0 np i a b L S h
      | _ => none
theorem go_s {st st2 : zS} (h1 : zs1 X f d st = some st2) (k : Go X f d st2 o) : Go X f d st o := by
  obtain ⟨n, hn⟩ := k
  refine ⟨n + 1, ?_⟩
  obtain ⟨pc, L, S, h⟩ := st
  rw [zrun]
  unfold zs1 at h1
  dsimp only at h1 ⊢
  cases he : zf (zi d) pc with
  | none => rw [he] at h1; simp at h1
  | some e =>
    obtain ⟨pc0, np, i, a, b, w⟩ := e
    rw [he] at h1
    dsimp only at h1 ⊢
    generalize hc : zctl i a = c at h1 ⊢
    match c with
    | 0 =>
      have h9 : zop X d f pc0 np i a b L S h = some st2 := h1
      show (match zop X d f pc0 np i a b L S h with
        | some st2 => zrun X n f d st2
        | none => none) = some o
      rw [h9]
      exact hn
    | c + 1 => simp at h1
theorem go_ret {pc0 np a b w : Nat} {i : Instr} {v : Value} (h1 : zf (zi d) pc = some (pc0, np, i, a, b, w)) (hc : zctl i a = 1) (hv : zrv i (zr d) v = true) (ho : o = (.inl (some v), h)) : Go X f d (pc, L, [v], h) o := by
  refine ⟨1, ?_⟩
  rw [zrun]
  try dsimp only
  rw [h1]
  try dsimp only
  rw [hc]
  try dsimp only
  rw [hv, ho]
  rfl
theorem go_end {pc0 np a b w : Nat} {i : Instr} (h1 : zf (zi d) pc = some (pc0, np, i, a, b, w)) (hc : zctl i a = 2) (hv : zr d = none) (ho : o = (.inl none, h)) : Go X f d (pc, L, [], h) o := by
  refine ⟨1, ?_⟩
  rw [zrun]
  try dsimp only
  rw [h1]
  try dsimp only
  rw [hc]
  try dsimp only
  rw [hv, ho]
  rfl
theorem go_c {pc0 np a b w : Nat} {i : Instr} {y : zMd} {args rest : List Value} {v : Option Value} {h2 : zH} (h1 : zf (zi d) pc = some (pc0, np, i, a, b, w)) (hc : zctl i a = 3) (hy : zM[a]? = some y) (hq : zcall y S h = some (args, rest))
    (hM : Go X f y (0, lv_args 0 args, [], h) (.inl v, h2)) (k : Go X (f + 1) d (np, L, v.toList ++ rest, h2) o) : Go X (f + 1) d (pc, L, S, h) o := by
  obtain ⟨n1, e1⟩ := hM
  obtain ⟨n2, e2⟩ := k
  refine ⟨max n1 n2 + 1, ?_⟩
  rw [zrun]
  try dsimp only
  rw [h1]
  try dsimp only
  rw [hc]
  try dsimp only
  rw [hy]
  try dsimp only
  rw [hq]
  try dsimp only
  rw [zmono X e1 (Nat.le_max_left n1 n2)]
  try dsimp only
  exact zmono X e2 (Nat.le_max_right n1 n2)
theorem go_x {pc0 np a b w E : Nat} {i : Instr} {y : zMd} {args rest : List Value} {h2 : zH} (h1 : zf (zi d) pc = some (pc0, np, i, a, b, w)) (hc : zctl i a = 3) (hy : zM[a]? = some y) (hq : zcall y S h = some (args, rest))
    (hM : Go X f y (0, lv_args 0 args, [], h) (.inr E, h2)) (hh : zh d = []) (ho : o = (.inr E, h2)) : Go X (f + 1) d (pc, L, S, h) o := by
  obtain ⟨n1, e1⟩ := hM
  refine ⟨n1 + 1, ?_⟩
  rw [zrun]
  try dsimp only
  rw [h1]
  try dsimp only
  rw [hc]
  try dsimp only
  rw [hy]
  try dsimp only
  rw [hq]
  try dsimp only
  rw [e1]
  try dsimp only
  rw [hh, ho]
  rfl
theorem go_h {pc0 np a b w E hp : Nat} {i : Instr} {y : zMd} {args rest : List Value} {h2 : zH} (h1 : zf (zi d) pc = some (pc0, np, i, a, b, w)) (hc : zctl i a = 3) (hy : zM[a]? = some y) (hq : zcall y S h = some (args, rest))
    (hM : Go X f y (0, lv_args 0 args, [], h) (.inr E, h2)) (hh : zcatch (zh d) pc0 E = some hp) (ht : L.all ztok = true) (k : Go X (f + 1) d (hp, L, [.retAddr 2], h2) o) : Go X (f + 1) d (pc, L, S, h) o := by
  obtain ⟨n1, e1⟩ := hM
  obtain ⟨n2, e2⟩ := k
  refine ⟨max n1 n2 + 1, ?_⟩
  rw [zrun]
  try dsimp only
  rw [h1]
  try dsimp only
  rw [hc]
  try dsimp only
  rw [hy]
  try dsimp only
  rw [hq]
  try dsimp only
  rw [zmono X e1 (Nat.le_max_left n1 n2)]
  try dsimp only
  rw [hh]
  try dsimp only
  rw [ht]
  exact zmono X e2 (Nat.le_max_right n1 n2)
theorem go_t {pc0 np a b w : Nat} {i : Instr} (h1 : zf (zi d) pc = some (pc0, np, i, a, b, w)) (hc : zctl i a = 4) (hh : zh d = []) (hS : Nat.ble (zcat S) 8 = true) (ho : o = (.inr a, (h.1, h.2 + 1))) : Go X (f + 6) d (pc, L, S, h) o := by
  refine ⟨1, ?_⟩
  rw [zrun]
  try dsimp only
  rw [h1]
  try dsimp only
  rw [hc]
  try dsimp only
  rw [hh, hS, ho]
  rw [show Nat.ble 6 (f + 6) = true from Nat.ble_eq.mpr (Nat.le_add_left 6 f)]
  rfl
end GO
