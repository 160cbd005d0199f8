theorem zv_ro {ro ro2 : Nat → Nat} {ad : List Nat} {v : Value} (h : ∀ k, v ≠ .retAddr k) : zv ro2 ad v = zv ro ad v := by
  cases v with
  | retAddr k => exact absurd rfl (h k)
  | _ => rfl
theorem zWd_ro {ro ro2 : Nat → Nat} {cA : Nat → ClassId} {ad : List Nat} {n : Nat} {h : List zC} (hw : ∀ c ∈ h, zokc n c) : zWd ro2 cA ad h = zWd ro cA ad h := by
  unfold zWd
  apply List.ext_getElem?
  intro i
  rw [List.getElem?_zipWith, List.getElem?_zipWith]
  cases h1 : h[i]? with
  | none => cases ad[i]? <;> rfl
  | some c =>
    cases ad[i]? with
    | none => rfl
    | some a =>
      show some _ = some _
      have hc := hw c (List.mem_of_getElem? h1)
      have e : zvc ro2 cA ad c = zvc ro cA ad c := by
        cases c with
        | inl x =>
          obtain ⟨k, g | g | g | g | g⟩ := x <;> rfl
        | inr o =>
          obtain ⟨ci, fs⟩ := o
          show (Sum.inr (ci, _) : va_E) = Sum.inr (ci, _)
          rw [show fs.map (zv ro2 ad) = fs.map (zv ro ad) from List.map_congr_left fun v hv => zv_ro (fun k q => by have h9 := hc v hv; rw [q] at h9; exact h9)]
      rw [e]
theorem zcatch_p : ∀ {hh : List (Nat × Nat × Nat × Nat)} {pc E hp : Nat}, zcatch hh pc E = some hp → ∃ pre q suf, hh = pre ++ q :: suf ∧ q.2.2.1 = hp ∧ q.1 ≤ pc ∧ pc < q.2.1 ∧ zexc q.2.2.2 = E ∧ ∀ z ∈ pre, ¬ (z.1 ≤ pc ∧ pc < z.2.1) ∨ zexc z.2.2.2 ≠ E
  | [], _, _, _, h => by cases h
  | x :: t, pc, E, hp, h => by
    unfold zcatch at h
    rw [Bool.cond_eq_ite] at h
    split at h
    · next hb =>
      obtain ⟨b1, b2⟩ := Bool.and_eq_true_iff.mp hb
      obtain ⟨b1, b3⟩ := Bool.and_eq_true_iff.mp b1
      exact ⟨[], x, t, rfl, Option.some.inj h, Nat.le_of_ble_eq_true b1, Nat.blt_eq.mp b3, Nat.eq_of_beq_eq_true b2, fun z hz => by cases hz⟩
    · next hb =>
      obtain ⟨pre, q, suf, e1, e2, e3, e4, e5, e6⟩ := zcatch_p h
      refine ⟨x :: pre, q, suf, by rw [e1]; rfl, e2, e3, e4, e5, fun z hz => ?_⟩
      rcases List.mem_cons.mp hz with e | e
      · rw [e]
        by_cases q1 : x.1 ≤ pc ∧ pc < x.2.1
        · refine Or.inr fun q2 => hb ?_
          rw [show Nat.ble x.1 pc = true from Nat.ble_eq.mpr q1.1, show Nat.blt pc x.2.1 = true from Nat.blt_eq.mpr q1.2, q2, Nat.beq_refl]
          rfl
        · exact Or.inl q1
      · exact e6 z e
theorem zen_c (k : Nat) : zen k = "java/lang/IllegalArgumentException" ∨ zen k = "java/lang/IllegalStateException" ∨ zen k = "java/lang/IndexOutOfBoundsException" := by
  unfold zen
  split
  · exact Or.inl rfl
  · exact Or.inr (Or.inl rfl)
  · exact Or.inr (Or.inr rfl)
theorem zcast (k : Nat) : Cond.castable (zen k) (zen k) ∈ zNW := by
  rcases zen_c k with e | e | e <;> rw [e] <;> simp [zNW]
theorem zini_x (k : Nat) : Cond.initialized (zen k) ∈ zW0 := by
  rcases zen_c k with e | e | e <;> rw [e] <;> exact zmem_w (by decide +kernel)
theorem zfit_x (k : Nat) : Bundle.fit (zen k) = true := by
  rcases zen_c k with e | e | e <;> rw [e] <;> decide +kernel
theorem zNW_ot : zNW.all (fun w => w.onTables) = true := by decide +kernel
set_option maxHeartbeats 4000000 in
theorem zsound (X : zX) : ∀ (n f : Nat) (d : zMd) (st : zS) (o : zOut), d ∈ zM → zrun X n f d st = some o → zPW X f d st o := by
  intro n
  induction n with
  | zero => intro f d st o _ h; exact absurd h (by simp [zrun])
  | succ n ih =>
    intro f d st o hdM h
    obtain ⟨pc, L, S, hp⟩ := st
    intro ro cA D A p l e R s m args below meth c H locs ad ls cells slots cb sb mc ms free Qc XC hF hC hf1 hf2 hcl hsl hmc hms hrc hrs hfree hQ hX
    cases he : zf (zi d) pc with
    | none => rw [zrun_n he] at h; cases h
    | some e9 =>
      obtain ⟨pc0, np, i, a, b, w⟩ := e9
      obtain ⟨hmem, epc⟩ := zf_mem he
      have epc : pc0 = pc := epc
      subst epc
      obtain ⟨hdc, hln, hw⟩ := zent_p (List.all_eq_true.mp (zM_ok d hdM).1 _ hmem)
      have hlt := zctl_lt i a
      obtain ⟨hx, hb, hr, hml, hown, hts, hlocks, hin, htab, hst, hK, hE, hA⟩ := id hF
      obtain ⟨hal, hP, hD, hS, hls, hzL, hzS, hwf⟩ := id hC
      dsimp only at hcl hsl hal hP hD hls hzL hzS hwf
      have hEnd : ∀ t : State, t.heap = H → zEnd ro cA D A s (ad ++ []) hp t := fun t ht => by
        rw [List.append_nil]
        exact ⟨hal, by rw [ht]; exact hP, hD, hwf, hS.F ht⟩
      rcases (show zctl i a = 0 ∨ zctl i a = 1 ∨ zctl i a = 2 ∨ zctl i a = 3 ∨ zctl i a = 4 by omega) with hc | hc | hc | hc | hc
      · rw [zrun_0 he hc] at h
        split at h
        · next st2 hz =>
          have hm1 := zrun_mono X _ _ _ _ _ h
          have ha5 : (∃ j, i = .new j) → Nat.blt a 4 = true := by
            rintro ⟨j, rfl⟩
            have hc9 : (bif Nat.blt a 4 then 0 else 4) = 0 := hc
            cases q : Nat.blt a 4 with
            | true => rfl
            | false => rw [q] at hc9; cases hc9
          refine zop_W hF hdc hln hw hC hz hf1 hf2 ha5 hcl hsl (by omega) (by omega) (fun H2 locs2 x ls2 cells2 slots2 hC2 hcl2 hsl2 => ?_)
          exact ih f d st2 o hdM h ro cA D A p l e R s m args below meth c H2 locs2 (ad ++ x) ls2 cells2 slots2 cb sb mc ms free Qc XC hF hC2 hf1 hf2 hcl2 hsl2 hmc hms hrc hrs hfree
            (fun t v y e1 e2 e3 e4 => by rw [List.append_assoc] at e3 e4 ⊢; exact hQ t v (x ++ y) e1 e2 e3 e4) (fun t k y e1 e2 => hX t k (x ++ y) e1 (by rw [← List.append_assoc]; exact e2))
        · cases h
      · rw [zrun_1 he hc] at h
        split at h
        · next v =>
          rw [Bool.cond_eq_ite] at h
          split at h
          · next hb1 =>
            cases h
            dsimp only at hmc hms
            have e1 : mc = cells := by omega
            have e2 : ms = slots := by omega
            subst e1
            subst e2
            have hf9 : ∀ q ∈ locs, free q.base := fun q hq => hfree _ (hS.2.2 q hq)
            have hq9 : ∀ t : State, t.heap = H → (∀ k, v ≠ .retAddr k) → Qc args s (.returned (some (zv ro ad v))) t := by
              intro t ht hv
              have h9 := hQ t (some v) [] rfl (fun k q => hv k (Option.some.inj q)) (hEnd t ht) (fun w q => by cases q; rw [List.append_nil]; exact hzS v List.mem_cons_self)
              rw [List.append_nil] at h9
              exact h9
            unfold zrv at hb1
            split at hb1
            ·
              obtain ⟨-, hd⟩ := zlen_d (k := 0) rfl hln hdc
              exact vx_ret (W.iret hx hb (by rw [hr]; assumption) (fun t ht _ => hq9 t ht (fun k q => by cases q)) hf9 hd)
            ·
              obtain ⟨-, hd⟩ := zlen_d (k := 0) rfl hln hdc
              refine vx_ret (W.zret hx hb (by rw [hr]; assumption) ?_ (fun t ht _ => hq9 t ht (fun k q => by cases q)) hf9 hd)
              rcases (Bool.or_eq_true _ _).mp hb1 with z | z
              · rw [of_decide_eq_true z]; rfl
              · rw [of_decide_eq_true z]; rfl
            ·
              obtain ⟨-, hd⟩ := zlen_d (k := 0) rfl hln hdc
              exact vx_ret (W.lret hx hb (by rw [hr]; assumption) (fun t ht _ => hq9 t ht (fun k q => by cases q)) hf9 hd)
            ·
              obtain ⟨-, hd⟩ := zlen_d (k := 0) rfl hln hdc
              exact vx_ret (W.dret hx hb (by rw [hr]; assumption) (fun t ht _ => hq9 t ht (fun k q => by cases q)) hf9 hd)
            ·
              obtain ⟨-, hd⟩ := zlen_d (k := 0) rfl hln hdc
              exact vx_ret (W.aret hx hb (by rw [hr]; assumption) (Or.inr ⟨_, rfl⟩) (Or.inr ⟨_, rfl⟩) (fun t ht _ => hq9 t ht (fun k q => by cases q)) hf9 hd)
            · cases hb1
          · cases h
        · cases h
      · rw [zrun_2 he hc] at h
        split at h
        · next q =>
          cases h
          dsimp only at hmc hms
          have e1 : mc = cells := by omega
          have e2 : ms = slots := by omega
          subst e1
          subst e2
          have hf9 : ∀ q ∈ locs, free q.base := fun q hq => hfree _ (hS.2.2 q hq)
          have hi : i = .return_ := by
            cases i
            case return_ => rfl
            case new j => exact absurd hc (by show (bif Nat.blt a 4 then 0 else 4) ≠ 2; cases Nat.blt a 4 <;> decide)
            case invokestatic j => exact absurd hc (by show (bif Nat.blt a 1000 then 3 else 0) ≠ 2; cases Nat.blt a 1000 <;> decide)
            case invokespecial j => exact absurd hc (by show (bif Nat.blt a 1000 then 3 else 0) ≠ 2; cases Nat.blt a 1000 <;> decide)
            all_goals (cases hc; done)
          subst hi
          obtain ⟨-, hd⟩ := zlen_d (k := 0) rfl hln hdc
          exact vx_ret (W.vret hx hb (by rw [hr]; exact q) (fun t ht _ => hQ t none [] rfl (fun k q => by cases q) (hEnd t ht) (fun w q => by cases q)) hf9 hd)
        · cases h
      · rw [zrun_3 he hc] at h
        split at h
        · cases h
        · next y hya =>
          split at h
          · cases h
          · next f2 =>
            split at h
            · cases h
            · next q hq =>
              obtain ⟨as, rest⟩ := q
              have hyM : y ∈ zM := List.mem_of_getElem? hya
              have hl3 : zlen i = 2 + 1 := by
                cases i
                case invokevirtual j => rfl
                case invokestatic j => rfl
                case invokespecial j => rfl
                case new j => rfl
                all_goals (cases hc; done)
              obtain ⟨enp, hd⟩ := zlen_d hl3 hln hdc
              have hzr : ∀ v ∈ rest, zok ad.length v := by
                obtain ⟨-, c2, -⟩ := zcall_p hq
                intro v hv
                rw [c2] at hv
                exact hzS v (List.mem_of_mem_drop hv)
              split at h
              · cases h
              · next v h2 hrn =>
                have hm1 := zrun_mono X _ _ _ _ _ hrn
                have hm2 := zrun_mono X _ _ _ _ _ h
                dsimp only at hm1 hm2
                obtain ⟨mc1, hmc1⟩ := Nat.exists_eq_add_of_le hm1.1
                obtain ⟨ms1, hms1⟩ := Nat.exists_eq_add_of_le hm1.2
                obtain ⟨av, hrun⟩ := zrunc (cells := cells) (slots := slots) (R := R) (below := below) (e := e) (mc1 := mc1) (ms1 := ms1) hF hC hf1 hf2 hyM hya hd hw hc hq (ih f2 y _ _ hyM hrn) (by dsimp only; omega) (by dsimp only; omega) (by omega) (by omega)
                refine zcont hA hC hzr hrun (fun v9 x H2 locs2 e1 hC2 => ?_) (fun k x H2 locs2 q ce e1 _ _ _ _ => by cases e1)
                cases e1
                have k9 := ih (f2 + 1) d _ o hdM h ro cA D A p l e R s m args below meth c H2 locs2 (ad ++ x) ls (cells + mc1) (slots + ms1) cb sb mc ms free Qc XC hF hC2 hf1 hf2 (by dsimp only; omega) (by dsimp only; omega) hmc hms hrc hrs hfree
                  (fun t v y e1 e2 e3 e4 => by rw [List.append_assoc] at e3 e4 ⊢; exact hQ t v (x ++ y) e1 e2 e3 e4) (fun t k y e1 e2 => hX t k (x ++ y) e1 (by rw [← List.append_assoc]; exact e2))
                dsimp only at k9
                rw [enp] at k9
                exact k9
              · next E h2 hrn =>
                have hm1 := zrun_mono X _ _ _ _ _ hrn
                dsimp only at hm1
                obtain ⟨mc1, hmc1⟩ := Nat.exists_eq_add_of_le hm1.1
                obtain ⟨ms1, hms1⟩ := Nat.exists_eq_add_of_le hm1.2
                split at h
                · next hcx =>
                  rw [Bool.cond_eq_ite] at h
                  split at h
                  · next hem =>
                    cases h
                    dsimp only at hmc hms
                    obtain ⟨av, hrun⟩ := zrunc (cells := cells) (slots := slots) (R := R) (below := below) (e := e) (mc1 := mc1) (ms1 := ms1) hF hC hf1 hf2 hyM hya hd hw hc hq (ih f2 y _ _ hyM hrn) (by dsimp only; omega) (by dsimp only; omega) (by omega) (by omega)
                    refine zcont hA hC hzr hrun (fun v9 x H2 locs2 e1 _ => by cases e1) (fun k x H2 locs2 q ce e1 hC2 hce hcv hcl2 => ?_)
                    cases e1
                    obtain ⟨hal2, hP2, hD2, hS2, -, -, -, hwf2⟩ := hC2
                    refine vx_out (E := zen E) (fun x9 hx9 => ?_) hlocks hce hcv hcl2 (fun t ht hal9 => ?_) (fun z hz => hfree _ (hS2.2.2 z hz)) (by omega) (by omega)
                    · rw [htab, List.isEmpty_iff.mp hem] at hx9
                      cases hx9
                    · exact hX t E x rfl ⟨hal2, by rw [ht]; exact hP2, hD2, hwf2, hS2.F ht⟩
                  · cases h
                · next hpc hcx =>
                  rw [zh_all hdM] at hcx
                  cases hcx
      · rw [zrun_4 he hc, Bool.cond_eq_ite] at h
        split at h
        · next hbb =>
          cases h
          dsimp only at hmc hms
          obtain ⟨b1, b2⟩ := Bool.and_eq_true_iff.mp hbb
          obtain ⟨b2, b3⟩ := Bool.and_eq_true_iff.mp b2
          have b1 := Nat.le_of_ble_eq_true b1
          have b3 := Nat.le_of_ble_eq_true b3
          cases i
          case new j =>
            replace hc : (bif Nat.blt a 4 then 0 else 4) = 4 := hc
            obtain ⟨enp, hd⟩ := zlen_d (k := 2) rfl hln hdc
            cases hb5 : Nat.blt a 4 with
            | true => rw [hb5] at hc; cases hc
            | false =>
              have hw2 : (bif Nat.blt a 4 then zat w (.classLink (zcn (zo d)) j (zcn a)) else
                (Nat.ble a 7 && (zat w (.classLink (zcn (zo d)) j (zen a)) && (Nat.beq (zo d) 3 && (decide (decode (zb d) (pc0 + 3) = .ok (.dup, 1)) && (decide (decode (zb d) (pc0 + 4) = .ok (.ldc (b / 1000), 2)) && (decide (decode (zb d) (pc0 + 6) = .ok (.invokespecial (b % 1000), 3)) && (decide (decode (zb d) (pc0 + 9) = .ok (.athrow, 1)) &&
                (zSt.any (fun q => Nat.beq q.1 (b / 1000)) && ((vx_atS RX3 (b % 1000) (zen a) zsup).all (fun w => zmem w || decide (w ∈ zNW)) && decide (w = w))))))))))) = true := hw
              rw [hb5, cond_false] at hw2
              obtain ⟨-, hw2⟩ := Bool.and_eq_true_iff.mp hw2
              obtain ⟨hk1, hw2⟩ := Bool.and_eq_true_iff.mp hw2
              obtain ⟨ho3, hw2⟩ := Bool.and_eq_true_iff.mp hw2
              obtain ⟨hd3, hw2⟩ := Bool.and_eq_true_iff.mp hw2
              obtain ⟨hd4, hw2⟩ := Bool.and_eq_true_iff.mp hw2
              obtain ⟨hd6, hw2⟩ := Bool.and_eq_true_iff.mp hw2
              obtain ⟨hd9, hw2⟩ := Bool.and_eq_true_iff.mp hw2
              obtain ⟨hsx, hw2⟩ := Bool.and_eq_true_iff.mp hw2
              obtain ⟨hat, -⟩ := Bool.and_eq_true_iff.mp hw2
              have ho3 := Nat.eq_of_beq_eq_true ho3
              rw [ho3] at hown hk1
              obtain ⟨qs, hqs, hqe⟩ := List.any_eq_true.mp hsx
              have hqe := Nat.eq_of_beq_eq_true hqe
              obtain ⟨sa, hsa⟩ := hE.2.2.2.2.1 qs hqs
              rw [hqe] at hsa
              have hatp : ∀ w9 ∈ vx_atS RX3 (b % 1000) (zen a) zsup, w9.before args s = true ∧ vx_ot w9 = true := by
                intro w9 hw9
                rcases (Bool.or_eq_true _ _).mp (List.all_eq_true.mp hat w9 hw9) with q | q
                · refine ⟨hts _ (zmem_w q), ?_⟩
                  unfold vx_ot
                  rw [(List.mem_filter.mp (zmem_w q)).2, Bool.or_true]
                · have q := of_decide_eq_true q
                  have hot := List.all_eq_true.mp zNW_ot w9 q
                  refine ⟨va_Nw.use hot (hE.2.2.2.2.2.1 w9 q), ?_⟩
                  unfold vx_ot
                  rw [hot]
                  rfl
              have hkw := zat_m hk1
              have hiw := zini_x a
              refine vx_throwS (own := RX3) (cls := zen a) (text := qs.2) (names := zsup) (ik := j) (is := b / 1000) (ic := b % 1000) (sa := sa) (A := A) hx hb hst hown (zfit_x a) (by decide +kernel) (hts _ hkw) (hts _ hiw) hsa (fun w9 hw9 => (hatp w9 hw9).1) ?_ hE.2.2.1 hE.2.2.2.1 hS (by rw [hml]; exact hls.1) hd (of_decide_eq_true hd3) (of_decide_eq_true hd4) (of_decide_eq_true hd6) (of_decide_eq_true hd9) (fun x9 hx9 => by rw [htab, List.isEmpty_iff.mp b2] at hx9; cases hx9) (by show 2 + 3 < _; omega) (by rw [show (List.map (fun v => v.category) (S.map (zv ro ad))).sum = zcat S from zcat_map]; show _ + (13 * (2 + 1) + 43) ≤ _; omega) (by omega) (by omega) hlocks (fun t hal9 hsz9 hq9 => ?_) (fun z hz => hfree _ (hS.2.2 z hz)) (by omega) (by omega)
              · intro w9 hw9
                rcases List.mem_cons.mp hw9 with q | q
                · have hgw : goodWord (Cond.classLink RX3 j (zen a)) = true := (List.mem_filter.mp hkw).2
                  rw [q]; unfold vx_ot; rw [hgw, Bool.or_true]
                · rcases List.mem_cons.mp q with q | q
                  · rw [q]; unfold vx_ot; rw [(List.mem_filter.mp hiw).2, Bool.or_true]
                  · exact (hatp w9 q).2
              · have h9 := hX t a [] rfl (by
                  rw [List.append_nil]
                  exact ⟨hal, hP.kept (fun k q hk => hq9 _ ((hP k q hk).lt)), hD, hwf, ⟨Nat.le_trans hS.1 hsz9, fun q h1 h2 => by rw [hq9 q (Nat.lt_of_lt_of_le h1 hS.1)]; exact hS.2.1 q h1 h2⟩⟩)
                exact h9
          case invokestatic j => exact absurd hc (by show (bif Nat.blt a 1000 then 3 else 0) ≠ 4; cases Nat.blt a 1000 <;> decide)
          case invokespecial j => exact absurd hc (by show (bif Nat.blt a 1000 then 3 else 0) ≠ 4; cases Nat.blt a 1000 <;> decide)
          all_goals (cases hc; done)
        · cases h
