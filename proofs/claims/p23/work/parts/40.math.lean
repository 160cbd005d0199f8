/-! ===== what the property rests on: ways, orders, oddness, peals, in mathematics ===== -/
section WAYM
variable {n : Nat} {ps : Nat → Nat}
abbrev gi (ps : Nat → Nat) : Nat → Nat := fun r => inv (ps r)
theorem gi_row (hp : ∀ r, r < n → isRow (ps r)) : ∀ r, r < n → isRow (gi ps r) := fun r hr => inv_row (hp r hr)
theorem wl_ok (hn : n ≤ 8) (hp : ∀ r, r < n → isRow (ps r)) : BV (nbC (gi ps)) nkC 8 n R0 (WL n ps) ∧ CL (nbC (gi ps)) nkC n (WL n ps) (WL n ps).length := bfs_ok (KM_C hn) (nb_row (gi_row hp)) R0_row
theorem wl_0 (hn : n ≤ 8) (hp : ∀ r, r < n → isRow (ps r)) : lk (WL n ps) R0 = some 0 := lk_of (wl_ok hn hp).1.1 (List.mem_of_getElem? (wl_ok hn hp).1.2.2.1)
theorem lk_at {l : List (Nat × Nat)} {x k : Nat} (h : lk l x = some k) : ∃ b : Nat, l[b]? = some (x, k) := by
  obtain ⟨a, ha, e⟩ := List.getElem_of_mem (lk_some h)
  exact ⟨a, by rw [List.getElem?_eq_getElem ha, e]⟩
theorem wl_W (hn : n ≤ 8) (hp : ∀ r, r < n → isRow (ps r)) {x k : Nat} (h : lk (WL n ps) x = some k) : Wd n (gi ps) (k / 8) x := by
  obtain ⟨b, hb⟩ := lk_at h
  rcases key_sound hn (gi_row hp) (wl_ok hn hp).1 b _ hb with e | ⟨d, r, e1, hF⟩
  · have e1 : x = R0 := congrArg Prod.fst e
    have e2 : k = 0 := congrArg Prod.snd e
    subst e1
    subst e2
    show Wd n (gi ps) 0 R0
    exact rfl
  · have e1 : k = 8 * (d + 1) + r := e1
    have hr := hF.1
    have e3 : k / 8 = d + 1 := by omega
    rw [e3]
    exact Fw_W (gi_row hp) hF
theorem wl_best (hn : n ≤ 8) (hp : ∀ r, r < n → isRow (ps r)) : ∀ {d x : Nat}, Wd n (gi ps) d x → ∃ k, lk (WL n ps) x = some k ∧ k / 8 ≤ d := by
  intro d x h
  cases d with
  | zero =>
    have e : x = R0 := h
    rw [e]
    exact ⟨0, wl_0 hn hp, Nat.le_refl _⟩
  | succ d =>
    obtain ⟨r, hF⟩ := Wd_first (gi_row hp) d x h
    obtain ⟨k, e1, e2⟩ := key_best hn (gi_row hp) (wl_ok hn hp).1 (wl_ok hn hp).2 d x r hF
    have hr := hF.1
    exact ⟨k, e1, by omega⟩
theorem wl_fw (hn : n ≤ 8) (hp : ∀ r, r < n → isRow (ps r)) {x k : Nat} (h : lk (WL n ps) x = some k) (hx : x ≠ R0) : ∃ d, k / 8 = d + 1 ∧ Fw n (gi ps) d x (k % 8) ∧ k % 8 < n ∧ k ≠ 0 := by
  obtain ⟨b, hb⟩ := lk_at h
  rcases key_sound hn (gi_row hp) (wl_ok hn hp).1 b _ hb with e | ⟨d, r, e1, hF⟩
  · exact absurd (congrArg Prod.fst e) hx
  · have e1 : k = 8 * (d + 1) + r := e1
    have hr := hF.1
    have e3 : k % 8 = r := by omega
    refine ⟨d, by omega, ?_, by omega, by omega⟩
    rw [e3]
    exact hF
theorem wl_dep (hn : n ≤ 8) (hp : ∀ r, r < n → isRow (ps r)) : ∀ (b : Nat) (q : Nat × Nat), (WL n ps)[b]? = some q → q.2 / 8 ≤ b := by
  intro b
  induction b using Nat.strongRecOn with
  | ind b ih =>
    intro q hq
    by_cases hb : b = 0
    · subst hb
      rw [(wl_ok hn hp).1.2.2.1] at hq
      cases hq
      exact Nat.le_refl _
    · obtain ⟨h0, a, p, r, hab, hp2, hr, rfl⟩ := (wl_ok hn hp).1.2.2.2.2.1 b q (by omega) hq
      have h1 := ih a hab p hp2
      show nkC p.2 r / 8 ≤ b
      unfold nkC
      split <;> omega
theorem laD_eq {l : List (Nat × Nat)} (h : 0 < l.length) : ∃ q, l[l.length - 1]? = some q ∧ laD l = q.2 / 8 := by
  have e := List.getElem?_eq_getElem (l := l) (i := l.length - 1) (by omega)
  refine ⟨_, e, ?_⟩
  unfold laD
  rw [List.getLast?_eq_getElem?, e]
theorem wl_le (hn : n ≤ 8) (hp : ∀ r, r < n → isRow (ps r)) {x k : Nat} (h : lk (WL n ps) x = some k) : k / 8 ≤ laD (WL n ps) := by
  obtain ⟨b, hb⟩ := lk_at h
  obtain ⟨q, hq, e⟩ := laD_eq (WL_pos hn hp).1
  have h1 := idx_lt hb
  have h2 : k ≤ q.2 := (wl_ok hn hp).1.2.2.2.1 b _ _ _ (by omega) hb hq
  rw [e]
  exact Nat.div_le_div_right h2
theorem wl_far (hn : n ≤ 8) (hp : ∀ r, r < n → isRow (ps r)) : laD (WL n ps) < (WL n ps).length := by
  obtain ⟨q, hq, e⟩ := laD_eq (WL_pos hn hp).1
  have h1 := wl_dep hn hp _ _ hq
  have h2 := (WL_pos hn hp).1
  rw [e]
  omega
theorem suD_le (D : Nat) : ∀ (l : List (Nat × Nat)), (∀ q ∈ l, q.2 / 8 ≤ D) → suD l ≤ D * l.length := by
  intro l
  induction l with
  | nil => intro _; exact Nat.zero_le _
  | cons q t ih =>
    intro h
    have h1 := ih fun p hp => h p (List.mem_cons_of_mem _ hp)
    have h2 := h q List.mem_cons_self
    have e : suD (q :: t) = q.2 / 8 + suD t := by unfold suD; rw [List.map_cons, List.sum_cons]
    rw [e, List.length_cons, Nat.mul_add, Nat.mul_one]
    omega
theorem wl_sum (hn : n ≤ 8) (hp : ∀ r, r < n → isRow (ps r)) : suD (WL n ps) ≤ laD (WL n ps) * (WL n ps).length := suD_le _ _ fun q hq => wl_le (x := q.1) hn hp (lk_of (wl_ok hn hp).1.1 (show (q.1, q.2) ∈ _ from hq))
theorem wl_one (hp : ∀ r, r < n → isRow (ps r)) (h0 : n = 0) : (WL n ps).length = 1 := by
  have h1 := (WL_pos (n := n) (ps := ps) (by omega) hp).1
  by_cases h : 1 < (WL n ps).length
  · obtain ⟨_, a, p, r, _, _, hr, _⟩ := (wl_ok (by omega) hp).1.2.2.2.2.1 1 _ (by omega) (List.getElem?_eq_getElem h)
    omega
  · omega
theorem Wd_add {g : Nat → Nat} (hg : ∀ r, r < n → isRow (g r)) {d x : Nat} (hx : Wd n g d x) : ∀ (e y : Nat), Wd n g e y → Wd n g (d + e) (cmp x y) := by
  intro e
  induction e with
  | zero =>
    intro y hy
    rw [show y = R0 from hy, cmp_R0 (row_lt (Wd_row hg d x hx))]
    exact hx
  | succ e ih =>
    rintro y ⟨w, r, hr, hw, rfl⟩
    exact ⟨cmp x w, r, hr, ih w hw, (cmp_assoc _ _ _).symm⟩
theorem Wd_pw {g : Nat → Nat} (hg : ∀ r, r < n → isRow (g r)) {d x : Nat} (hx : Wd n g d x) : ∀ t, Wd n g (d * t) (pw x t) := by
  intro t
  induction t with
  | zero =>
    show Wd n g 0 R0
    exact rfl
  | succ t ih => exact Wd_add hg ih d x hx
theorem inv_pw {x : Nat} (hx : isRow x) : inv x = pw x (ord x - 1) := by
  obtain ⟨h1, h2, h3, h4⟩ := ord_ok hx
  obtain ⟨t, ht⟩ : ∃ t, ord x = t + 1 := ⟨ord x - 1, by omega⟩
  rw [ht] at h3
  have e : cmp (pw x t) x = R0 := h3
  rw [ht, Nat.add_sub_cancel]
  refine cmp_cancel_r (inv_row hx) (pw_row hx t) hx ?_
  rw [(cmp_inv hx).2, e]
theorem Wd_inv {g : Nat → Nat} (hg : ∀ r, r < n → isRow (g r)) {d x : Nat} (hx : Wd n g d x) : ∃ e, Wd n g e (inv x) := by
  rw [inv_pw (Wd_row hg d x hx)]
  exact ⟨_, Wd_pw hg hx _⟩
theorem Wd_1 {g : Nat → Nat} (hg : ∀ r, r < n → isRow (g r)) {r : Nat} (hr : r < n) : Wd n g 1 (g r) := ⟨R0, r, hr, rfl, (R0_cmp (row_lt (hg r hr))).symm⟩
end WAYM
/-! the rows reached are a group: 720 can be divided by their number -/
theorem nodup_im {f : Nat → Nat} : ∀ (l : List Nat), l.Nodup → (∀ x ∈ l, ∀ y ∈ l, f x = f y → x = y) → (l.map f).Nodup := by
  intro l
  induction l with
  | nil => intro _ _; exact List.nodup_nil
  | cons a l ih =>
    intro hd hf
    rw [List.nodup_cons] at hd
    rw [List.map_cons, List.nodup_cons]
    refine ⟨fun h => ?_, ih hd.2 fun x hx y hy => hf x (List.mem_cons_of_mem _ hx) y (List.mem_cons_of_mem _ hy)⟩
    obtain ⟨b, hb, e⟩ := List.mem_map.mp h
    have e2 := hf b (List.mem_cons_of_mem _ hb) a List.mem_cons_self e
    exact hd.1 (e2 ▸ hb)
theorem lag {H : List Nat} (hd : H.Nodup) (hr : ∀ x ∈ H, isRow x) (h1 : R0 ∈ H) (hm : ∀ x ∈ H, ∀ y ∈ H, cmp x y ∈ H) (hi : ∀ x ∈ H, inv x ∈ H) : ∀ L : List Nat, (∀ x ∈ L, isRow x) →
    ∃ T : List Nat, T.Nodup ∧ (∀ x ∈ T, isRow x) ∧ (∀ x ∈ L, x ∈ T) ∧ (∀ x ∈ T, ∀ h ∈ H, cmp x h ∈ T) ∧ T.length % H.length = 0 := by
  intro L
  induction L with
  | nil => intro _; exact ⟨[], List.nodup_nil, (fun x h => by cases h), (fun x h => by cases h), (fun x h => by cases h), Nat.zero_mod _⟩
  | cons a L ih =>
    intro hL
    obtain ⟨T, t1, t2, t3, t4, t5⟩ := ih fun x hx => hL x (List.mem_cons_of_mem _ hx)
    have ia := hL a List.mem_cons_self
    by_cases ha : a ∈ T
    · refine ⟨T, t1, t2, fun x hx => ?_, t4, t5⟩
      rcases List.mem_cons.mp hx with e | e
      · rw [e]; exact ha
      · exact t3 x e
    · refine ⟨T ++ H.map (cmp a), ?_, fun x hx => ?_, fun x hx => ?_, fun x hx h hh => ?_, ?_⟩
      · rw [List.nodup_append]
        refine ⟨t1, nodup_im H hd fun x hx y hy e => cmp_cancel_l (hr x hx) (hr y hy) ia e, fun x hx y hy e => ?_⟩
        obtain ⟨h, hh, rfl⟩ := List.mem_map.mp hy
        rw [e] at hx
        have h3 := t4 _ hx (inv h) (hi h hh)
        rw [cmp_assoc, (cmp_inv (hr h hh)).1, cmp_R0 (row_lt ia)] at h3
        exact ha h3
      · rcases List.mem_append.mp hx with e | e
        · exact t2 x e
        · obtain ⟨h, hh, rfl⟩ := List.mem_map.mp e
          exact cmp_row ia (hr h hh)
      · rcases List.mem_cons.mp hx with e | e
        · exact List.mem_append_right _ (List.mem_map.mpr ⟨R0, h1, by rw [e, cmp_R0 (row_lt ia)]⟩)
        · exact List.mem_append_left _ (t3 x e)
      · rcases List.mem_append.mp hx with e | e
        · exact List.mem_append_left _ (t4 x e h hh)
        · obtain ⟨h2, hh2, rfl⟩ := List.mem_map.mp e
          rw [cmp_assoc]
          exact List.mem_append_right _ (List.mem_map.mpr ⟨_, hm h2 hh2 h hh, rfl⟩)
      · rw [List.length_append, List.length_map, Nat.add_mod_right]
        exact t5
def asc : List Nat → Bool
  | a :: b :: t => Nat.blt a b && asc (b :: t)
  | _ => true
theorem asc_c {a b : Nat} {t : List Nat} (h : asc (a :: b :: t) = true) : a < b ∧ asc (b :: t) = true := by
  rw [asc] at h
  obtain ⟨h1, h2⟩ := Bool.and_eq_true_iff.mp h
  exact ⟨Nat.blt_eq.mp h1, h2⟩
theorem asc_lt : ∀ (l : List Nat) (a : Nat), asc (a :: l) = true → ∀ x ∈ l, a < x
  | [], _, _, x, h => by cases h
  | b :: t, a, h, x, hx => by
    obtain ⟨h1, h2⟩ := asc_c h
    rcases List.mem_cons.mp hx with e | e
    · rw [e]; exact h1
    · exact Nat.lt_trans h1 (asc_lt t b h2 x e)
theorem asc_nodup : ∀ l, asc l = true → l.Nodup
  | [], _ => List.nodup_nil
  | [a], _ => List.nodup_cons.mpr ⟨List.not_mem_nil, List.nodup_nil⟩
  | a :: b :: t, h => List.nodup_cons.mpr ⟨fun z => Nat.lt_irrefl _ (asc_lt (b :: t) a h a z), asc_nodup (b :: t) (asc_c h).2⟩
set_option maxRecDepth 100000 in
theorem PL_asc : asc PL = true := by decide +kernel
theorem lag_720 {H : List Nat} (hd : H.Nodup) (hr : ∀ x ∈ H, isRow x) (h1 : R0 ∈ H) (hm : ∀ x ∈ H, ∀ y ∈ H, cmp x y ∈ H) (hi : ∀ x ∈ H, inv x ∈ H) : 720 % H.length = 0 := by
  obtain ⟨T, t1, t2, t3, t4, t5⟩ := lag hd hr h1 hm hi PL (fun x hx => hx)
  have e1 := pig T PL t1 (fun x hx => t2 x hx)
  have e2 := pig PL T (asc_nodup PL PL_asc) t3
  rw [PL_len] at e1 e2
  have e3 : T.length = 720 := by omega
  rw [e3] at t5
  exact t5
section WAYN
variable {n : Nat} {ps : Nat → Nat}
theorem wl_720 (hn : n ≤ 8) (hp : ∀ r, r < n → isRow (ps r)) : 720 % (WL n ps).length = 0 := by
  have hg := gi_row hp
  have key : ∀ x, x ∈ (WL n ps).map Prod.fst ↔ ∃ d, Wd n (gi ps) d x := by
    intro x
    constructor
    · intro h
      obtain ⟨q, hq, rfl⟩ := List.mem_map.mp h
      exact ⟨_, wl_W hn hp (lk_of (wl_ok hn hp).1.1 (show (q.1, q.2) ∈ _ from hq))⟩
    · rintro ⟨d, h⟩
      obtain ⟨k, e, -⟩ := wl_best hn hp h
      exact List.mem_map.mpr ⟨_, lk_some e, rfl⟩
  have h := lag_720 (H := (WL n ps).map Prod.fst) (wl_ok hn hp).1.1 (fun x hx => by obtain ⟨d, h⟩ := (key x).mp hx; exact Wd_row hg d x h) ((key R0).mpr ⟨0, rfl⟩)
    (fun x hx y hy => by
      obtain ⟨d, h1⟩ := (key x).mp hx
      obtain ⟨e, h2⟩ := (key y).mp hy
      exact (key _).mpr ⟨_, Wd_add hg h1 e y h2⟩)
    (fun x hx => by
      obtain ⟨d, h1⟩ := (key x).mp hx
      exact (key _).mpr (Wd_inv hg h1))
  rw [List.length_map] at h
  exact h
/-! steps behind a rule -/
theorem rel_1 {c p x : Nat} (hc : isRow c) (hp : isRow p) : cmp (inv (rng c p)) x = cmp p (cmp (inv c) x) := by
  rw [rng_cmp hp, inv_cmp hc (inv_row hp), inv_inv hp, cmp_assoc]
theorem bk_1 {p y : Nat} (hp : isRow p) (hy : isRow y) : cmp (inv p) (cmp p y) = y := by
  rw [← cmp_assoc, (cmp_inv hp).2, R0_cmp (row_lt hy)]
theorem step_a (hn : n ≤ 8) (hp : ∀ r, r < n → isRow (ps r)) {r y k2 : Nat} (hr : r < n) (hy : isRow y) (h : lk (WL n ps) (cmp (ps r) y) = some k2) : ∃ k, lk (WL n ps) y = some k ∧ k / 8 ≤ k2 / 8 + 1 := by
  have h1 := Wd_left (gi_row hp) _ _ r hr (wl_W hn hp h)
  have e : cmp (gi ps r) (cmp (ps r) y) = y := bk_1 (hp r hr) hy
  rw [e] at h1
  exact wl_best hn hp h1
theorem step_b (hn : n ≤ 8) (hp : ∀ r, r < n → isRow (ps r)) {r y k : Nat} (hr : r < n) (h : lk (WL n ps) y = some k) : ∃ k2, lk (WL n ps) (cmp (ps r) y) = some k2 := by
  obtain ⟨e, h1⟩ := Wd_inv (gi_row hp) (Wd_1 (gi_row hp) hr)
  have e1 : inv (gi ps r) = ps r := inv_inv (hp r hr)
  rw [e1] at h1
  obtain ⟨k2, e2, -⟩ := wl_best hn hp (Wd_add (gi_row hp) h1 _ y (wl_W hn hp h))
  exact ⟨k2, e2⟩
theorem step_c (hn : n ≤ 8) (hp : ∀ r, r < n → isRow (ps r)) {y k : Nat} (h : lk (WL n ps) y = some k) (hx : y ≠ R0) : ∃ k2, lk (WL n ps) (cmp (ps (k % 8)) y) = some k2 ∧ k2 / 8 + 1 ≤ k / 8 := by
  obtain ⟨d, e1, ⟨hr, w, hw, rfl⟩, h3, h4⟩ := wl_fw hn hp h hx
  have e : cmp (ps (k % 8)) (cmp (gi ps (k % 8)) w) = w := by
    show cmp (ps (k % 8)) (cmp (inv (ps (k % 8))) w) = w
    rw [← cmp_assoc, (cmp_inv (hp _ hr)).1, R0_cmp (row_lt (Wd_row (gi_row hp) d w hw))]
  rw [e]
  obtain ⟨k2, e2, e3⟩ := wl_best hn hp hw
  exact ⟨k2, e2, by omega⟩
theorem step_d (hn : n ≤ 8) (hp : ∀ r, r < n → isRow (ps r)) {r : Nat} (hr : r < n) : ∃ k, lk (WL n ps) (ps r) = some k ∧ k / 8 ≤ ord (inv (ps r)) - 1 := by
  have h1 := Wd_pw (gi_row hp) (Wd_1 (gi_row hp) hr) (ord (gi ps r) - 1)
  rw [← inv_pw (gi_row hp r hr), Nat.one_mul] at h1
  have e1 : inv (gi ps r) = ps r := inv_inv (hp r hr)
  rw [e1] at h1
  exact wl_best hn hp h1
end WAYN
/-! even and odd -/
def TJ : List Nat := [8345, 2945, 2045, 1895, 1870]
theorem TJ_rows : TJ.all (fun t => PL.elem t && Nat.beq (cmp t t) R0) = true := by decide +kernel
set_option maxRecDepth 100000 in
theorem od_t0 : PL.all (fun c => Nat.beq (odC (dg (cmp c 8345))) (1 - odC (dg c))) = true := by decide +kernel
set_option maxRecDepth 100000 in
theorem od_t1 : PL.all (fun c => Nat.beq (odC (dg (cmp c 2945))) (1 - odC (dg c))) = true := by decide +kernel
set_option maxRecDepth 100000 in
theorem od_t2 : PL.all (fun c => Nat.beq (odC (dg (cmp c 2045))) (1 - odC (dg c))) = true := by decide +kernel
set_option maxRecDepth 100000 in
theorem od_t3 : PL.all (fun c => Nat.beq (odC (dg (cmp c 1895))) (1 - odC (dg c))) = true := by decide +kernel
set_option maxRecDepth 100000 in
theorem od_t4 : PL.all (fun c => Nat.beq (odC (dg (cmp c 1870))) (1 - odC (dg c))) = true := by decide +kernel
set_option maxRecDepth 100000 in
theorem od_dn : PL.all (fun p => Nat.beq p R0 || TJ.any (fun t => Nat.blt (cmp p t) p)) = true := by decide +kernel
theorem od_t {c t : Nat} (hc : isRow c) (ht : t ∈ TJ) : odC (dg (cmp c t)) = 1 - odC (dg c) := by
  unfold TJ at ht
  simp only [List.mem_cons, List.not_mem_nil, or_false] at ht
  rcases ht with rfl | rfl | rfl | rfl | rfl
  · exact Nat.eq_of_beq_eq_true (row_all od_t0 hc)
  · exact Nat.eq_of_beq_eq_true (row_all od_t1 hc)
  · exact Nat.eq_of_beq_eq_true (row_all od_t2 hc)
  · exact Nat.eq_of_beq_eq_true (row_all od_t3 hc)
  · exact Nat.eq_of_beq_eq_true (row_all od_t4 hc)
theorem od_lt (g : Nat → Nat) : odC g < 2 := Nat.mod_lt _ (by decide)
theorem od_R0 : odC (dg R0) = 0 := by decide +kernel
theorem od_hom {c : Nat} (hc : isRow c) : ∀ p, isRow p → odC (dg (cmp c p)) = (odC (dg c) + odC (dg p)) % 2 := by
  intro p
  induction p using Nat.strongRecOn with
  | ind p ih =>
    intro hp
    have h0 := row_all od_dn hp
    rcases (Bool.or_eq_true _ _).mp h0 with e | e
    · rw [Nat.eq_of_beq_eq_true e, cmp_R0 (row_lt hc), od_R0]
      have := od_lt (dg c)
      omega
    · obtain ⟨t, ht, hlt⟩ := List.any_eq_true.mp e
      have hlt := Nat.blt_eq.mp hlt
      obtain ⟨k1, k2⟩ := Bool.and_eq_true_iff.mp (List.all_eq_true.mp TJ_rows t ht)
      have it : isRow t := List.elem_iff.mp k1
      have ett := Nat.eq_of_beq_eq_true k2
      have ip2 := cmp_row hp it
      have h1 := ih _ hlt ip2
      have e1 : cmp (cmp p t) t = p := by rw [cmp_assoc, ett, cmp_R0 (row_lt hp)]
      have h2 := od_t (cmp_row hc ip2) ht
      rw [cmp_assoc, e1] at h2
      have h3 := od_t ip2 ht
      rw [e1] at h3
      have l1 := od_lt (dg c)
      have l2 := od_lt (dg (cmp p t))
      omega
theorem od_inv2 {p : Nat} (hp : isRow p) : odC (dg (inv p)) = odC (dg p) := (od_M (inv_row hp)).trans (od_inv hp).symm
theorem od_rng {c p : Nat} (hc : isRow c) (hp : isRow p) : odC (dg (rng c p)) = (odC (dg c) + odC (dg p)) % 2 := by
  rw [rng_cmp hp, od_hom hc _ (inv_row hp), od_inv2 hp]
/-! a rule rung again and again -/
def rit (p t : Nat) : Nat → Nat
  | 0 => t
  | i + 1 => rng (rit p t i) p
theorem rit_eq {p t : Nat} (hp : isRow p) (ht : isRow t) : ∀ i, rit p t i = cmp t (pw (inv p) i) := by
  intro i
  induction i with
  | zero => exact (cmp_R0 (row_lt ht)).symm
  | succ i ih =>
    show rng (rit p t i) p = cmp t (cmp (pw (inv p) i) (inv p))
    rw [ih, rng_cmp hp, cmp_assoc]
theorem rit_row {p t : Nat} (hp : isRow p) (ht : isRow t) : ∀ i, isRow (rit p t i) := by
  intro i
  rw [rit_eq hp ht]
  exact cmp_row ht (pw_row (inv_row hp) i)
theorem rit_ne {p t i : Nat} (hp : isRow p) (ht : isRow t) (h0 : 0 < i) (h1 : i < ord (inv p)) : rit p t i ≠ t := by
  rw [rit_eq hp ht]
  intro e
  refine (ord_ok (inv_row hp)).2.2.2 i h0 h1 (cmp_cancel_l (pw_row (inv_row hp) i) R0_row ht ?_)
  rw [e, cmp_R0 (row_lt ht)]
theorem rit_end {p t : Nat} (hp : isRow p) (ht : isRow t) : rit p t (ord (inv p)) = t := by
  rw [rit_eq hp ht, (ord_ok (inv_row hp)).2.2.1, cmp_R0 (row_lt ht)]
theorem undo_back {c p : Nat} (hc : isRow c) (hp : isRow p) : cmp (rng c p) p = c := by
  rw [rng_cmp hp, cmp_assoc, (cmp_inv hp).2, cmp_R0 (row_lt hc)]
/-! two rules, both orders -/
theorem swaps_rows {t a b : Nat} (ht : isRow t) (ha : isRow a) (hb : isRow b) : al (fun k => Nat.beq (dg b (dg a k)) (dg a (dg b k))) 6 0 = 1 ↔ rng (rng t a) b = rng (rng t b) a := by
  rw [swap_iff ha hb, rng_cmp ha, rng_cmp hb, rng_cmp hb, rng_cmp ha, rng_cmp ha, rng_cmp hb, rng_cmp hb, rng_cmp ha, R0_cmp (row_lt (inv_row ha)), R0_cmp (row_lt (inv_row hb)), cmp_assoc, cmp_assoc]
  exact ⟨fun e => by rw [e], fun e => cmp_cancel_l (cmp_row (inv_row ha) (inv_row hb)) (cmp_row (inv_row hb) (inv_row ha)) ht e⟩
theorem swaps_sym {a b : Nat} : al (fun k => Nat.beq (dg b (dg a k)) (dg a (dg b k))) 6 0 = al (fun k => Nat.beq (dg a (dg b k)) (dg b (dg a k))) 6 0 := by
  have h1 := al_le (fun k => Nat.beq (dg b (dg a k)) (dg a (dg b k))) 6 0
  have h2 := al_le (fun k => Nat.beq (dg a (dg b k)) (dg b (dg a k))) 6 0
  have h3 : al (fun k => Nat.beq (dg b (dg a k)) (dg a (dg b k))) 6 0 = 1 ↔ al (fun k => Nat.beq (dg a (dg b k)) (dg b (dg a k))) 6 0 = 1 := by
    rw [al_iff, al_iff]
    constructor
    · intro h j h4 h5
      have e := Nat.eq_of_beq_eq_true (h j h4 h5)
      rw [e, Nat.beq_refl]
    · intro h j h4 h5
      have e := Nat.eq_of_beq_eq_true (h j h4 h5)
      rw [e, Nat.beq_refl]
  omega
/-! peals -/
theorem lp_succ (F : Nat → Nat → Nat) : ∀ (m k x : Nat), lp F (m + 1) k x = F (k + m) (lp F m k x) := by
  intro m
  induction m with
  | zero => intro k x; rfl
  | succ m ih =>
    intro k x
    show lp F (m + 1) (k + 1) (F k x) = F (k + (m + 1)) (lp F m (k + 1) (F k x))
    rw [ih, show k + 1 + m = k + (m + 1) by omega]
theorem pl_succ (ps pr : Nat → Nat) (m x : Nat) : pl ps pr (m + 1) 0 x = rng (pl ps pr m 0 x) (ps (pr m)) := by
  have h := lp_succ (fun k x => rng x (ps (pr k))) m 0 x
  rw [Nat.zero_add] at h
  exact h
theorem addv_len (l : List Nat) (x : Nat) : l.length ≤ (addv l x).length ∧ (addv l x).length ≤ l.length + 1 := by
  unfold addv
  split
  · exact ⟨Nat.le_refl _, Nat.le_succ _⟩
  · rw [List.length_append]
    exact ⟨Nat.le_add_right _ _, Nat.le_refl _⟩
theorem addv_new {l : List Nat} {x : Nat} (h : x ∉ l) : (addv l x).length = l.length + 1 := by
  unfold addv
  rw [if_neg h, List.length_append]
  rfl
theorem vs_len (F : Nat → Nat) : ∀ (m k x : Nat) (l : List Nat), l.length ≤ (vs F m k x l).2.length ∧ (vs F m k x l).2.length ≤ l.length + m := by
  intro m
  induction m with
  | zero => intro k x l; exact ⟨Nat.le_refl _, Nat.le_refl _⟩
  | succ m ih =>
    intro k x l
    have h1 := ih (k + 1) (rng x (F k)) (addv l (rng x (F k)))
    have h2 := addv_len l (rng x (F k))
    show l.length ≤ (vs F m (k + 1) (rng x (F k)) (addv l (rng x (F k)))).2.length ∧ (vs F m (k + 1) (rng x (F k)) (addv l (rng x (F k)))).2.length ≤ l.length + (m + 1)
    omega
theorem vo_len (F : Nat → Nat) (len : Nat) : ∀ (t x : Nat) (l : List Nat), l.length ≤ (vo F len t x l).2.length ∧ (vo F len t x l).2.length ≤ l.length + len * t := by
  intro t
  induction t with
  | zero => intro x l; exact ⟨Nat.le_refl _, Nat.le_refl _⟩
  | succ t ih =>
    intro x l
    have h1 := ih (vs F len 0 x l).1 (vs F len 0 x l).2
    have h2 := vs_len F len 0 x l
    show l.length ≤ (vo F len t (vs F len 0 x l).1 (vs F len 0 x l).2).2.length ∧ (vo F len t (vs F len 0 x l).1 (vs F len 0 x l).2).2.length ≤ l.length + len * (t + 1)
    rw [Nat.mul_succ]
    omega
theorem tr_vs (ps pr : Nat → Nat) : ∀ (m k x : Nat) (l : List Nat), tr ps pr m k x l = 1 → l.length + m ≤ (vs (fun k => ps (pr k)) m k x l).2.length + 1 := by
  intro m
  induction m with
  | zero => intro k x l _; exact Nat.le_succ _
  | succ m ih =>
    intro k x l h
    have h0 : (if rng x (ps (pr k)) ∈ l ∧ ¬ (m = 0 ∧ rng x (ps (pr k)) = R0) then 0 else tr ps pr m (k + 1) (rng x (ps (pr k))) (addv l (rng x (ps (pr k))))) = 1 := h
    show l.length + (m + 1) ≤ (vs (fun k => ps (pr k)) m (k + 1) (rng x (ps (pr k))) (addv l (rng x (ps (pr k))))).2.length + 1
    split at h0
    · cases h0
    · next hn =>
      have h1 := ih _ _ _ h0
      by_cases hy : rng x (ps (pr k)) ∈ l
      · have hm : m = 0 := by
          by_cases hm : m = 0
          · exact hm
          · exact absurd ⟨hy, fun q => hm q.1⟩ hn
        have h2 := (vs_len (fun k => ps (pr k)) m (k + 1) (rng x (ps (pr k))) (addv l (rng x (ps (pr k))))).1
        have h3 := (addv_len l (rng x (ps (pr k)))).1
        omega
      · have h2 := addv_new hy
        omega
theorem rows_ge (ps pr : Nat → Nat) (len t : Nat) (ht : 0 < t) (h : tr ps pr len 0 R0 [R0] = 1) : len ≤ (vo (fun k => ps (pr k)) len t R0 [R0]).2.length := by
  obtain ⟨t2, rfl⟩ : ∃ t2, t = t2 + 1 := ⟨t - 1, by omega⟩
  have h1 := tr_vs ps pr len 0 R0 [R0] h
  have h2 := (vo_len (fun k => ps (pr k)) len t2 (vs (fun k => ps (pr k)) len 0 R0 [R0]).1 (vs (fun k => ps (pr k)) len 0 R0 [R0]).2).1
  show len ≤ (vo (fun k => ps (pr k)) len t2 (vs (fun k => ps (pr k)) len 0 R0 [R0]).1 (vs (fun k => ps (pr k)) len 0 R0 [R0]).2).2.length
  have h3 : ([R0] : List Nat).length = 1 := rfl
  omega
theorem ord_one {q : Nat} (hq : isRow q) : ord q = 1 ↔ q = R0 := by
  obtain ⟨h1, h2, h3, h4⟩ := ord_ok hq
  constructor
  · intro e
    rw [e] at h3
    have e2 : cmp R0 q = R0 := h3
    rw [R0_cmp (row_lt hq)] at e2
    exact e2
  · intro e
    by_cases h : ord q = 1
    · exact h
    · refine absurd ?_ (h4 1 (by omega) (by omega))
      show cmp R0 q = R0
      rw [e, R0_cmp (row_lt R0_row)]
theorem home_iff {c q : Nat} (hc : isRow c) (hq : isRow q) : cmp c q = c ↔ q = R0 := by
  constructor
  · intro e
    refine cmp_cancel_l hq R0_row hc ?_
    rw [e, cmp_R0 (row_lt hc)]
  · intro e
    rw [e, cmp_R0 (row_lt hc)]
