theorem zplus (h : zH) (st2 : zS) (e : st2.2.2.2 = h) : h.1.length + h.2 ≤ st2.2.2.2.1.length + st2.2.2.2.2 ∧ zsz h.1 + 6 * h.2 ≤ zsz st2.2.2.2.1 + 6 * st2.2.2.2.2 := by
  rw [e]
  exact ⟨Nat.le_refl _, Nat.le_refl _⟩
theorem zgrow {h : zH} {y : List zC} {st2 : zS} (e : st2.2.2.2 = (h.1 ++ y, h.2)) : h.1.length + h.2 ≤ st2.2.2.2.1.length + st2.2.2.2.2 ∧ zsz h.1 + 6 * h.2 ≤ zsz st2.2.2.2.1 + 6 * st2.2.2.2.2 := by
  rw [e]
  dsimp only
  rw [List.length_append, zsz_app]
  omega
theorem zkeep {h : zH} {k : Nat} {c c2 : zC} {st2 : zS} (hk : h.1[k]? = some c) (hc : zszc c2 = zszc c) (e : st2.2.2.2 = (h.1.set k c2, h.2)) : h.1.length + h.2 ≤ st2.2.2.2.1.length + st2.2.2.2.2 ∧ zsz h.1 + 6 * h.2 ≤ zsz st2.2.2.2.1 + 6 * st2.2.2.2.2 := by
  rw [e]
  dsimp only
  rw [List.length_set, zsz_set hk hc]
  exact ⟨Nat.le_refl _, Nat.le_refl _⟩
set_option maxHeartbeats 4000000 in
theorem zop_mono {X : zX} {d : zMd} {f pc np a b : Nat} {i : Instr} {L : List (Nat × Value)} {S : List Value} {h : zH} {st2 : zS} (hop : zop X d f pc np i a b L S h = some st2) : h.1.length + h.2 ≤ st2.2.2.2.1.length + st2.2.2.2.2 ∧ zsz h.1 + 6 * h.2 ≤ zsz st2.2.2.2.1 + 6 * st2.2.2.2.2 := by
  cases i
  case putfield j =>
    replace hop : zpf a b np L S h = some st2 := hop
    unfold zpf at hop
    repeat' split at hop
    all_goals first | (cases hop; done) | skip
    rename_i ci fs hk
    rw [Bool.cond_eq_ite] at hop
    split at hop
    · cases hop
      exact zkeep (c2 := .inr (ci, fs.set b _)) hk rfl rfl
    · cases hop
  case iastore =>
    replace hop : zias np L S h = some st2 := hop
    unfold zias at hop
    repeat' split at hop
    all_goals first | (cases hop; done) | skip
    rename_i n9 f9 hk _
    cases hop
    exact zkeep (c2 := .inl (n9, .inl (upd f9 _ _))) hk rfl rfl
  case aastore =>
    replace hop : zaas np L S h = some st2 := hop
    unfold zaas at hop
    repeat' split at hop
    all_goals first | (cases hop; done) | skip
    rename_i n9 g9 _ _ hk _ _
    cases hop
    exact zkeep (c2 := .inl (n9, .inr (.inr (.inr (.inr (va_up g9 _ _)))))) hk rfl rfl
  case anewarray j =>
    replace hop : zana np L S h = some st2 := hop
    unfold zana at hop
    repeat' split at hop
    all_goals first | (cases hop; done) | (cases hop; exact zgrow rfl)
  case invokestatic j =>
    replace hop : (bif Nat.beq a 1001 then zacp f np L S h else none) = some st2 := hop
    rw [Bool.cond_eq_ite] at hop
    split at hop
    · unfold zacp at hop
      repeat' split at hop
      all_goals first | (cases hop; done) | skip
      rename_i n9 g9 _ hk _
      cases hop
      exact zkeep (c2 := .inl (n9, .inl (va_cpy _ g9 _ _ _))) hk rfl rfl
    · cases hop
  case new j =>
    replace hop : znew a np L S h = some st2 := hop
    unfold znew at hop
    cases hop
    exact zgrow rfl
  case newarray t =>
    replace hop : znwa t np L S h = some st2 := hop
    unfold znwa at hop
    repeat' split at hop
    all_goals first | (cases hop; done) | (cases hop; exact zgrow rfl)
  case multianewarray j n =>
    replace hop : zmna np L S h = some st2 := hop
    unfold zmna at hop
    repeat' split at hop
    all_goals first | (cases hop; done) | skip
    rw [List.append_assoc] at hop
    cases hop
    exact zgrow rfl
  all_goals first
    | (replace hop : (none : Option zS) = some st2 := hop; cases hop; done)
    | (simp only [zop, zild, zald, zlld, zdld, zist, zast, zlst, zdst, zif, zic, zgf, zial, zaal, zalen, zoi, zjmp, zfl_eq, zkl_eq, Bool.cond_eq_ite, zint] at hop
       repeat' split at hop
       all_goals first | (cases hop; done) | (cases hop; exact zplus _ _ rfl))
section EQS
variable {X : zX} {n f pc pc0 np a b w : Nat} {d : zMd} {i : Instr} {L : List (Nat × Value)} {S : List Value} {hp : zH}
theorem zrun_0 (he : zf (zi d) pc = some (pc0, np, i, a, b, w)) (hc : zctl i a = 0) : zrun X (n + 1) f d (pc, L, S, hp) = match zop X d f pc0 np i a b L S hp with
    | some st2 => zrun X n f d st2
    | none => none := by
  rw [zrun]
  dsimp only
  rw [he]
  dsimp only
  rw [hc]
  try rfl
theorem zrun_1 (he : zf (zi d) pc = some (pc0, np, i, a, b, w)) (hc : zctl i a = 1) : zrun X (n + 1) f d (pc, L, S, hp) = match S with
    | [v] => bif zrv i (zr d) v then some (.inl (some v), hp) else none
    | _ => none := by
  rw [zrun]
  dsimp only
  rw [he]
  dsimp only
  rw [hc]
  try rfl
theorem zrun_2 (he : zf (zi d) pc = some (pc0, np, i, a, b, w)) (hc : zctl i a = 2) : zrun X (n + 1) f d (pc, L, S, hp) = match S, zr d with
    | [], none => some (.inl none, hp)
    | _, _ => none := by
  rw [zrun]
  dsimp only
  rw [he]
  dsimp only
  rw [hc]
  try rfl
theorem zrun_3 (he : zf (zi d) pc = some (pc0, np, i, a, b, w)) (hc : zctl i a = 3) : zrun X (n + 1) f d (pc, L, S, hp) = match zM[a]? with
    | none => none
    | some y => match f with
      | 0 => none
      | f2 + 1 => match zcall y S hp with
        | none => none
        | some q => match zrun X n f2 y (0, lv_args 0 q.1, [], hp) with
          | none => none
          | some (.inl v, h2) => zrun X n (f2 + 1) d (np, L, v.toList ++ q.2, h2)
          | some (.inr E, h2) => match zcatch (zh d) pc0 E with
            | none => bif (zh d).isEmpty then some (.inr E, h2) else none
            | some hpc => bif L.all ztok then zrun X n (f2 + 1) d (hpc, L, [.retAddr 2], h2) else none := by
  rw [zrun]
  dsimp only
  rw [he]
  dsimp only
  rw [hc]
  try rfl
theorem zrun_4 (he : zf (zi d) pc = some (pc0, np, i, a, b, w)) (hc : zctl i a = 4) : zrun X (n + 1) f d (pc, L, S, hp) = bif Nat.ble 6 f && ((zh d).isEmpty && Nat.ble (zcat S) 8) then some (.inr a, (hp.1, hp.2 + 1)) else none := by
  rw [zrun]
  dsimp only
  rw [he]
  dsimp only
  rw [hc]
  try rfl
theorem zrun_n (he : zf (zi d) pc = none) : zrun X (n + 1) f d (pc, L, S, hp) = none := by
  rw [zrun]
  dsimp only
  rw [he]
theorem zctl_lt (i : Instr) (a : Nat) : zctl i a < 5 := by
  unfold zctl
  split <;> first | (rw [Bool.cond_eq_ite]; split <;> omega) | omega
end EQS
theorem zrun_mono (X : zX) : ∀ (n f : Nat) (d : zMd) (st : zS) (o : zOut), zrun X n f d st = some o → st.2.2.2.1.length + st.2.2.2.2 ≤ o.2.1.length + o.2.2 ∧ zsz st.2.2.2.1 + 6 * st.2.2.2.2 ≤ zsz o.2.1 + 6 * o.2.2 := by
  intro n
  induction n with
  | zero => intro f d st o h; exact absurd h (by simp [zrun])
  | succ n ih =>
    intro f d st o h
    obtain ⟨pc, L, S, hp⟩ := st
    cases he : zf (zi d) pc with
    | none => rw [zrun_n he] at h; cases h
    | some e =>
      obtain ⟨pc0, np, i, a, b, w⟩ := e
      have hlt := zctl_lt i a
      rcases (show zctl i a = 0 ∨ zctl i a = 1 ∨ zctl i a = 2 ∨ zctl i a = 3 ∨ zctl i a = 4 by omega) with hc | hc | hc | hc | hc
      · rw [zrun_0 he hc] at h
        split at h
        · next st2 hz =>
          have h1 := zop_mono hz
          have h2 := ih _ _ _ _ h
          dsimp only at h1 h2 ⊢
          omega
        · cases h
      · rw [zrun_1 he hc] at h
        split at h
        · rw [Bool.cond_eq_ite] at h
          split at h
          · cases h; exact ⟨Nat.le_refl _, Nat.le_refl _⟩
          · cases h
        · cases h
      · rw [zrun_2 he hc] at h
        split at h
        · cases h; exact ⟨Nat.le_refl _, Nat.le_refl _⟩
        · cases h
      · rw [zrun_3 he hc] at h
        split at h
        · cases h
        · split at h
          · cases h
          · split at h
            · cases h
            · split at h
              · cases h
              · next hr =>
                have h1 := ih _ _ _ _ hr
                have h2 := ih _ _ _ _ h
                dsimp only at h1 h2 ⊢
                omega
              · next hr =>
                have h1 := ih _ _ _ _ hr
                split at h
                · rw [Bool.cond_eq_ite] at h
                  split at h
                  · cases h; exact h1
                  · cases h
                · rw [Bool.cond_eq_ite] at h
                  split at h
                  · have h2 := ih _ _ _ _ h
                    dsimp only at h1 h2 ⊢
                    omega
                  · cases h
      · rw [zrun_4 he hc] at h
        rw [Bool.cond_eq_ite] at h
        split at h
        · cases h
          dsimp only
          omega
        · cases h
