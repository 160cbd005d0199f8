theorem zgood {ws : List Cond} (h : ∀ w ∈ ws, w ∈ zW0) : GoodIn zW0 ws := fun w hw => ⟨h w hw, good_of_word (List.mem_filter.mp (h w hw)).2⟩
theorem zcw_m {y : zMd} (hy : y ∈ zM) (hk5 : zk y ≠ 5) : zcw y ∈ zW0 := by
  obtain ⟨-, hrest⟩ := zM_ok y hy
  obtain ⟨-, hcw⟩ := hrest hk5
  refine zW0_mem (List.mem_of_getElem? hcw) ?_
  unfold zcw
  split <;> rfl
theorem zws_m {y : zMd} (hy : y ∈ zM) (hk5 : zk y ≠ 5) : ∀ w ∈ zcw y :: zW0, w ∈ zW0 := List.forall_mem_cons.mpr ⟨zcw_m hy hk5, fun _ h => h⟩
theorem zcat_rev (S : List Value) : zcat S.reverse = zcat S := by
  unfold zcat
  rw [List.map_reverse, List.sum_reverse]
theorem zcall_p {y : zMd} {S as rest : List Value} {h : zH} (hq : zcall y S h = some (as, rest)) : as = (S.take (za y)).reverse ∧ rest = S.drop (za y) ∧ za y ≤ S.length ∧ zcat rest ≤ 8 ∧ zcat as ≤ zl y ∧
    (zk y = 0 → ∃ k t fs, as = .ref k :: t ∧ h.1[k]? = some (.inr (zo y, fs))) ∧ ((zk y = 2 ∨ zk y = 3) → ∃ k t, as = .ref k :: t) ∧ zk y ≤ 4 := by
  unfold zcall at hq
  rw [Bool.cond_eq_ite] at hq
  split at hq
  · next hb =>
    obtain ⟨b1, b2⟩ := Bool.and_eq_true_iff.mp hb
    obtain ⟨b2, b3⟩ := Bool.and_eq_true_iff.mp b2
    have b1 := Nat.le_of_ble_eq_true b1
    have b2 := Nat.le_of_ble_eq_true b2
    have b3 := Nat.le_of_ble_eq_true b3
    rw [← zcat_rev] at b3
    split at hq
    · next hk =>
      split at hq
      · next k t he =>
        split at hq
        · next ci fs hc =>
          rw [Bool.cond_eq_ite] at hq
          split at hq
          · next hbo =>
            cases hq
            have e := Nat.eq_of_beq_eq_true hbo
            subst e
            exact ⟨he.symm, rfl, b1, b2, by rw [← he]; exact b3, fun _ => ⟨k, t, fs, rfl, hc⟩, fun q => by omega, by omega⟩
          · cases hq
        · cases hq
      · cases hq
    · next hk =>
      cases hq
      exact ⟨rfl, rfl, b1, b2, b3, fun q => by omega, fun q => by omega, by omega⟩
    · next hk =>
      split at hq
      · next k t he =>
        cases hq
        exact ⟨he.symm, rfl, b1, b2, by rw [← he]; exact b3, fun q => by omega, fun _ => ⟨k, t, rfl⟩, by omega⟩
      · cases hq
    · next hk =>
      split at hq
      · next k t he =>
        cases hq
        exact ⟨he.symm, rfl, b1, b2, by rw [← he]; exact b3, fun q => by omega, fun _ => ⟨k, t, rfl⟩, by omega⟩
      · cases hq
    · next hk =>
      cases hq
      exact ⟨rfl, rfl, b1, b2, b3, fun q => by omega, fun q => by omega, by omega⟩
    · cases hq
  · cases hq
section CALLS
variable {X : zX} {ro : Nat → Nat} {cA : Nat → ClassId} {D : va_G} {A : Nat → Prop} {d : zMd} {p : Program} {l : Launch} {e : Env} {R : Room} {s : State} {m : MethodId} {args : Array Value} {below : List Frame} {meth : Method} {c : Code} {H : Heap} {locs : List Loc} {cells slots : Nat} {Q : State → Prop}
variable {ad : List Nat} {ls : Array Slot} {f2 pc a b w : Nat} {i : Instr} {L : List (Nat × Value)} {S : List Value} {h : zH}
theorem zfree (hD : va_D A (zWd ro cA ad h.1)) (hS : va_S A s.heap H locs) (hA : ∀ q, s.heap.size ≤ q → A q) : ∀ q, va_A (zWd ro cA ad h.1) H.size q → A q := by
  intro q hq
  rcases hq with ⟨k, e9, hk⟩ | hq
  · exact hD.2 k _ hk
  · exact hA q (Nat.le_trans hS.1 hq)
theorem zcont {o1 : zOut} {st0 rest : List Value} {av : Array Value} {mc ms : Nat} (hA : ∀ q, s.heap.size ≤ q → A q) (hC : zCu ro cA D A d s H locs ad ls L S h) (hzr : ∀ v ∈ rest, zok ad.length v)
    (hrun : vx_Run p l e R s m args below meth c H locs cells slots mc ms (F0 m pc ls st0) (rest.map (zv ro ad)) (zQc ro cA D (va_A (zWd ro cA ad h.1) H.size) ad o1 av) (zXC ro cA D (va_A (zWd ro cA ad h.1) H.size) ad o1) (va_A (zWd ro cA ad h.1) H.size))
    (kr : ∀ (v : Option Value) (x : List Nat) (H2 : Heap) (locs2 : List Loc), o1.1 = .inl v → zCu ro cA D A d s H2 locs2 (ad ++ x) ls L (v.toList ++ rest) o1.2 → W p l e R s m args below meth c H2 locs2 (cells + mc) (slots + ms) Q (F0 m (pc + 3) ls ((v.toList ++ rest).map (zv ro (ad ++ x)))))
    (kx : ∀ (k : Nat) (x : List Nat) (H2 : Heap) (locs2 : List Loc) (q : Addr) (ce : Cell), o1.1 = .inr k → zCu ro cA D A d s H2 locs2 (ad ++ x) ls L rest o1.2 → H2[q]? = some ce → ce.vm = .none → s.vm.findClass (zen k) = some ce.cls → vx_W p l e R s m args below meth c H2 locs2 (cells + mc) (slots + ms) Q (F0 m pc ls (rest.map (zv ro ad))) q) :
    W p l e R s m args below meth c H locs cells slots Q (F0 m pc ls st0) := by
  obtain ⟨hal, hP, hD, hS, hls, hzL, hzS, hwf⟩ := hC
  have hf := zfree hD hS hA
  intro T hT Xs
  have hlen : ∀ x : List Nat, ad.length ≤ (ad ++ x).length := fun x => by rw [List.length_append]; omega
  rcases hrun T hT Xs with ⟨v, st₀, t, T', L9, h0, X', hL, e1, e2, hq, stp⟩ | ⟨q, st₀, t, T', L9, E, ce, h0, X', hL, e1, e2, hq, hce, hcv, hcl, stp⟩
  · obtain ⟨v9, x, f1, f2, f3, f4, f5, f6, f7, f8⟩ := hq
    cases f2
    obtain ⟨k1, k2, k3⟩ := vx_keep h0 e1 hS (fun q _ h' => hf q h') hf hL f8
    have hzr2 : ∀ v ∈ v9.toList ++ rest, zok (ad ++ x).length v := by
      intro w hw
      rcases List.mem_append.mp hw with q | q
      · cases v9 with
        | none => cases q
        | some z => rw [List.mem_singleton.mp q]; exact f3 z rfl
      · exact zok_mono (hlen x) (hzr w q)
    obtain ⟨t2, a1, b1⟩ := kr v9 x T'.heap (locs ++ L9) f1 ⟨f4, by rw [e1]; exact f5, f6.weaken (fun _ _ _ h => hf _ h), k3, zls_app hls hzL, fun q hq => zok_mono (hlen x) (hzL q hq), hzr2, f7⟩ T' rfl X'
    refine ⟨t2, stp t2 ?_, b1⟩
    have e9 : (v9.toList ++ rest).map (zv ro (ad ++ x)) = (v9.map (zv ro (ad ++ x))).toList ++ rest.map (zv ro ad) := by
      rw [List.map_append, zv_map hzr]
      cases v9 <;> rfl
    rw [e9] at a1
    exact a1
  · obtain ⟨k, x, f1, f2, f4, f5, f6, f7, f8⟩ := hq
    subst f2
    obtain ⟨k1, k2, k3⟩ := vx_keep h0 e1 hS (fun q _ h' => hf q h') hf hL f8
    obtain ⟨t2, a1, b1⟩ := kx k x T'.heap (locs ++ L9) q ce f1 ⟨f4, by rw [e1]; exact f5, f6.weaken (fun _ _ _ h => hf _ h), k3, zls_app hls hzL, fun q hq => zok_mono (hlen x) (hzL q hq), fun w hw => zok_mono (hlen x) (hzr w hw), f7⟩ (by rw [e1]; exact hce) hcv hcl T' rfl X'
    exact ⟨t2, stp.trans a1, b1⟩
theorem zenv_at (hE : zEnv X ro A s s.heap) (hD : va_D A (zWd ro cA ad h.1)) (hS : va_S A s.heap H locs) (hA : ∀ q, s.heap.size ≤ q → A q) {U : State} (hW : s.WarmedH U.vm) : zEnv X ro (va_A (zWd ro cA ad h.1) H.size) U H :=
  zEnv.move hW ((hE.keep hS.2.1).narrow (zfree hD hS hA))
/-- the call itself -/
theorem zrunc {y : zMd} {as rest : List Value} {o1 : zOut} {mc1 ms1 : Nat} (hF : zFC X ro cA D A d p l s m args meth c) (hC : zCu ro cA D A d s H locs ad ls L S h) (hfr : f2 + 1 ≤ R.frames) (hlo : 35 * (f2 + 1) ≤ R.locals)
    (hy : y ∈ zM) (hya : zM[a]? = some y) (hd : decode (zb d) pc = .ok (i, 3)) (hw : zentw d pc i a b w = true) (hct : zctl i a = 3) (hq : zcall y S h = some (as, rest)) (hpw : zPW X f2 y (0, lv_args 0 as, [], h) o1)
    (hmc : mc1 + (h.1.length + h.2) = o1.2.1.length + o1.2.2) (hms : ms1 + (zsz h.1 + 6 * h.2) = zsz o1.2.1 + 6 * o1.2.2) (hrc : cells + mc1 ≤ R.cells) (hrs : slots + ms1 ≤ R.slots) :
    ∃ av, vx_Run p l e R s m args below meth c H locs cells slots mc1 ms1 (F0 m pc ls (S.map (zv ro ad))) (rest.map (zv ro ad)) (zQc ro cA D (va_A (zWd ro cA ad h.1) H.size) ad o1 av) (zXC ro cA D (va_A (zWd ro cA ad h.1) H.size) ad o1) (va_A (zWd ro cA ad h.1) H.size) := by
  obtain ⟨hx, hb, hr, hml, hown, hts, hlocks, hin, htab, hst, hK, hE, hA⟩ := hF
  obtain ⟨hal, hP, hD, hS, hls, hzL, hzS, hwf⟩ := hC
  obtain ⟨c1, c2, c3, c4, c5, c6, c7, c8⟩ := zcall_p hq
  have hk5 : zk y ≠ 5 := by omega
  have hSe : S = as.reverse ++ rest := by rw [c1, c2, List.reverse_reverse, List.take_append_drop]
  have hza : ∀ v ∈ as, zok ad.length v := fun v hv => hzS v (by rw [hSe]; exact List.mem_append_left _ (List.mem_reverse.mpr hv))
  have hM := zmet (ro := ro) (cA := cA) (D := D) (sz := H.size) (l := l) hy hk5 hpw hal hwf hza c5 hst hmc hms
  obtain ⟨hent, hrest⟩ := zM_ok y hy
  obtain ⟨hm, hcw⟩ := hrest hk5
  obtain ⟨m1, m2, m3, m4, m5, m6⟩ := zmtd_c hm
  have hmr := zmtd_r hm
  have hlen : as.length = za y := by rw [c1, List.length_reverse, List.length_take]; omega
  have hroom : (zrm f2 mc1 ms1).frames + 1 ≤ R.frames ∧ 8 + (zl y + 11) + (zrm f2 mc1 ms1).locals ≤ R.locals := ⟨hfr, by show 8 + (zl y + 11) + 35 * f2 ≤ _; omega⟩
  have hpre : ∀ U : State, U.heap = H → s.WarmedH U.vm → zPc X ro cA D ad as h H.size (as.map (zv ro ad)).toArray U := fun U hU hW => ⟨rfl, by rw [hU], by rw [hU]; exact hP, va_K.moved hW.alike hK, hD.weaken (fun _ _ _ _ => trivial), by rw [hU]; exact zenv_at hE hD hS hA hW⟩
  have hW8 : ((rest.map (zv ro ad)).map fun v => v.category).sum ≤ 8 := by rw [show ((rest.map (zv ro ad)).map fun v => v.category).sum = zcat rest from zcat_map]; exact c4
  have hsz : (F0 m pc ls (S.map (zv ro ad))).locals.size = zl d := hls.1
  have hcm := zws_m hy hk5
  have hkc : zk y ≠ 4 → zcw y = .code (zn y) (zb y) (zl y) (zr y) := by
    intro q
    unfold zcw
    split
    · next q2 => exact absurd q2 q
    · rfl
  have inst : zk y = 0 → zat w (.methodLink (zcn (zo d)) (match i with | .invokevirtual j => j | _ => 0) (zn y)) = true → (∃ j, i = .invokevirtual j) → ∃ av, vx_Run p l e R s m args below meth c H locs cells slots mc1 ms1 (F0 m pc ls (S.map (zv ro ad))) (rest.map (zv ro ad)) (zQc ro cA D (va_A (zWd ro cA ad h.1) H.size) ad o1 av) (zXC ro cA D (va_A (zWd ro cA ad h.1) H.size) ad o1) (va_A (zWd ro cA ad h.1) H.size) := by
    intro hk0 hl9 hi
    obtain ⟨j, rfl⟩ := hi
    rw [hk0] at hmr
    obtain ⟨g1, g2⟩ := Bool.and_eq_true_iff.mp hmr
    obtain ⟨g2, g3⟩ := Bool.and_eq_true_iff.mp g2
    obtain ⟨g3, g4⟩ := Bool.and_eq_true_iff.mp g3
    obtain ⟨g4, g5⟩ := Bool.and_eq_true_iff.mp g4
    obtain ⟨k, t, fs, ea, hk⟩ := c6 hk0
    subst ea
    have hz := hkc (by omega)
    rw [hz] at hM hcm
    refine ⟨_, vx_runV (As := t.map (zv ro ad)) (b := zad ad k) (C := zcn (zo y)) ⟨hx, hb, hml, hown, hts⟩ hM (cwV (za y - 1) hts (zgood ?_) rfl rfl rfl ⟨m2, m4, m5, of_decide_eq_true g5⟩ hroom) ⟨zPc_blind, va_recv hK hP (zcl_at (Nat.blt_eq.mp g4)) (zWd_get hal hk), hpre⟩ rfl ?_ hsz ?_ (lv_room hW8) hd ⟨hrc, hrs⟩⟩
    · unfold wsV
      intro w9 hw9
      rcases List.mem_append.mp hw9 with q | q
      · simp only [List.mem_cons, List.not_mem_nil, or_false] at q
        rcases q with rfl | rfl | rfl | rfl
        · exact zat_m hl9
        · exact zat_m g1
        · exact zat_m g2
        · exact m6
      · exact hcm w9 q
    · rw [List.length_map]
      rw [List.length_cons] at hlen
      omega
    · show S.map (zv ro ad) = _
      rw [hSe, List.map_append, List.reverse_cons, List.map_append, List.map_reverse, List.append_assoc]
      rfl
  have stat : (zk y = 1 ∨ zk y = 4) → (∃ j, i = .invokestatic j ∧ zat w (.methodLink (zcn (zo d)) j (zn y)) = true) → ∃ av, vx_Run p l e R s m args below meth c H locs cells slots mc1 ms1 (F0 m pc ls (S.map (zv ro ad))) (rest.map (zv ro ad)) (zQc ro cA D (va_A (zWd ro cA ad h.1) H.size) ad o1 av) (zXC ro cA D (va_A (zWd ro cA ad h.1) H.size) ad o1) (va_A (zWd ro cA ad h.1) H.size) := by
    intro hk0 hi
    obtain ⟨j, rfl, hl9⟩ := hi
    have hst : (F0 m pc ls (S.map (zv ro ad))).stack = (as.map (zv ro ad)).reverse ++ rest.map (zv ro ad) := by
      show S.map (zv ro ad) = _
      rw [hSe, List.map_append, List.map_reverse]
    have hgw : ∀ w9 ∈ va_wsS (zcn (zo d)) j (zn y) (zcw y :: zW0), zat ((zw y).getD 1 0) (.static (zn y)) = true → w9 ∈ zW0 := by
      intro w9 hw9 g1
      unfold va_wsS at hw9
      rcases List.mem_append.mp hw9 with q | q
      · simp only [List.mem_cons, List.not_mem_nil, or_false] at q
        rcases q with rfl | rfl | rfl
        · exact zat_m hl9
        · exact zat_m g1
        · rw [m2]; exact m6
      · exact hcm w9 q
    rcases hk0 with hk0 | hk0
    · rw [hk0] at hmr
      obtain ⟨g1, g2⟩ := Bool.and_eq_true_iff.mp hmr
      have hz := hkc (by omega)
      rw [hz] at hM
      exact ⟨_, vx_runS (As := as.map (zv ro ad)) ⟨hx, hb, hml, hown, hts⟩ hM (va_cwS (za y) hts (zgood (fun w9 hw9 => hgw w9 (by rw [hz]; exact hw9) g1)) rfl rfl rfl ⟨m4, m5, of_decide_eq_true g2⟩ hroom) ⟨zPc_blind, hpre⟩ rfl (by rw [List.length_map]; exact hlen) hsz hst (lv_room hW8) hd ⟨hrc, hrs⟩⟩
    · rw [hk0] at hmr
      obtain ⟨g1, g2⟩ := Bool.and_eq_true_iff.mp hmr
      have hz : zcw y = .codeWith (zn y) (zb y) (zl y) (zr y) (zh y) := by unfold zcw; rw [hk0]; rfl
      rw [hz] at hM
      exact ⟨_, vx_runSX (hh := zh y) (As := as.map (zv ro ad)) ⟨hx, hb, hml, hown, hts⟩ hM (vx_cwSW (za y) hts (zgood (fun w9 hw9 => hgw w9 (by rw [hz]; exact hw9) g1)) rfl rfl rfl ⟨m4, m5, of_decide_eq_true g2⟩ hroom) ⟨zPc_blind, hpre⟩ rfl (by rw [List.length_map]; exact hlen) hsz hst (lv_room hW8) hd ⟨hrc, hrs⟩⟩
  have spec : (∃ j, i = .invokespecial j ∧ ((zk y = 2 ∧ zat w (.methodLink (zcn (zo d)) j (zn y)) = true) ∨ (zk y = 3 ∧ Cond.methodLinkNest (zcn (zo d)) j (zn y) RX3 ∈ zNW))) → ∃ av, vx_Run p l e R s m args below meth c H locs cells slots mc1 ms1 (F0 m pc ls (S.map (zv ro ad))) (rest.map (zv ro ad)) (zQc ro cA D (va_A (zWd ro cA ad h.1) H.size) ad o1 av) (zXC ro cA D (va_A (zWd ro cA ad h.1) H.size) ad o1) (va_A (zWd ro cA ad h.1) H.size) := by
    intro hi
    obtain ⟨j, rfl, hi⟩ := hi
    have hk23 : zk y = 2 ∨ zk y = 3 := by rcases hi with q | q; exact Or.inl q.1; exact Or.inr q.1
    obtain ⟨k, t, ea⟩ := c7 hk23
    subst ea
    have hz := hkc (by omega)
    rw [hz] at hM hcm
    have hall : zat ((zw y).getD 1 0) (.instanceMethod (zn y)) = true ∧ (zn y).name = "<init>" ∧ zr y = none ∧ (parseMethodDescriptor (zn y).desc).map (fun q => q.parameters.length) = some (za y - 1) := by
      rcases hk23 with q | q
      · rw [q] at hmr
        obtain ⟨g1, g2⟩ := Bool.and_eq_true_iff.mp hmr
        obtain ⟨-, g3⟩ := Bool.and_eq_true_iff.mp g2
        obtain ⟨g3, g4⟩ := Bool.and_eq_true_iff.mp g3
        obtain ⟨g4, g5⟩ := Bool.and_eq_true_iff.mp g4
        exact ⟨g1, of_decide_eq_true g3, of_decide_eq_true g4, of_decide_eq_true g5⟩
      · rw [q] at hmr
        obtain ⟨g1, g2⟩ := Bool.and_eq_true_iff.mp hmr
        obtain ⟨-, g3⟩ := Bool.and_eq_true_iff.mp g2
        obtain ⟨g3, g4⟩ := Bool.and_eq_true_iff.mp g3
        obtain ⟨g4, g5⟩ := Bool.and_eq_true_iff.mp g4
        exact ⟨g1, of_decide_eq_true g3, of_decide_eq_true g4, of_decide_eq_true g5⟩
    obtain ⟨g1, g3, g4, g5⟩ := hall
    rw [g4] at hM hcm
    have hst9 : (F0 m pc ls (S.map (zv ro ad))).stack = (t.map (zv ro ad)).reverse ++ .ref (zad ad k) :: rest.map (zv ro ad) := by
      show S.map (zv ro ad) = _
      rw [hSe, List.map_append, List.reverse_cons, List.map_append, List.map_reverse, List.append_assoc]
      rfl
    have hn9 : (t.map (zv ro ad)).length = za y - 1 := by
      rw [List.length_map]
      rw [List.length_cons] at hlen
      omega
    have hini : (Cond.initialized (zn y).cls).before args s = true := by rw [m2]; exact hts _ m6
    rcases hi with ⟨q1, q2⟩ | ⟨q1, q2⟩
    · exact ⟨_, vx_runI (As := t.map (zv ro ad)) (b := zad ad k) ⟨hx, hb, hml, hown, hts⟩ hM (cwI (za y - 1) hts (zgood hcm) rfl rfl rfl hini (zat_w hts q2) (zat_w hts g1) g3 ⟨m4, m5, g5⟩ hroom) ⟨zPc_blind, hpre⟩ rfl hn9 hsz hst9 (lv_room hW8) hd ⟨hrc, hrs⟩⟩
    · exact ⟨_, vx_runIN (host := RX3) (As := t.map (zv ro ad)) (b := zad ad k) ⟨hx, hb, hml, hown, hts⟩ hM ⟨va_cnB (za y - 1) hts (zgood hcm) rfl rfl rfl (hE.2.2.2.2.2.1 _ q2) hini ⟨m4, m5, g5⟩ hroom, g3, zat_w hts g1⟩ ⟨zPc_blind, hpre⟩ rfl hn9 hsz hst9 (lv_room hW8) hd ⟨hrc, hrs⟩⟩
  cases i
  case invokevirtual j =>
    replace hw : (match zM[a]? with
      | some y => Nat.beq (zk y) 0 && zat w (.methodLink (zcn (zo d)) j (zn y))
      | none => false) = true := hw
    rw [hya] at hw
    obtain ⟨h1, h2⟩ := Bool.and_eq_true_iff.mp hw
    exact inst (Nat.eq_of_beq_eq_true h1) h2 ⟨j, rfl⟩
  case invokestatic j =>
    replace hw : (bif Nat.beq a 1001 then zat w (.methodLink (zcn (zo d)) j arraycopyName) else (match zM[a]? with
      | some y => (Nat.beq (zk y) 1 || Nat.beq (zk y) 4) && zat w (.methodLink (zcn (zo d)) j (zn y))
      | none => false)) = true := hw
    replace hct : (bif Nat.blt a 1000 then 3 else 0) = 3 := hct
    cases hb9 : Nat.blt a 1000 with
    | false => rw [hb9] at hct; cases hct
    | true =>
      have h9 := Nat.blt_eq.mp hb9
      have e9 : Nat.beq a 1001 = false := by
        cases q : Nat.beq a 1001 with
        | false => rfl
        | true => have := Nat.eq_of_beq_eq_true q; omega
      rw [e9, cond_false, hya] at hw
      obtain ⟨h1, h2⟩ := Bool.and_eq_true_iff.mp hw
      exact stat ((Bool.or_eq_true _ _).mp h1 |>.imp Nat.eq_of_beq_eq_true Nat.eq_of_beq_eq_true) ⟨j, rfl, h2⟩
  case invokespecial j =>
    replace hw : (bif Nat.beq a 1000 then zat w (.methodLink (zcn (zo d)) j objectInit) else bif Nat.beq a 1002 then true else (match zM[a]? with
      | some y => bif Nat.beq b 1 then Nat.beq (zk y) 3 && decide (Cond.methodLinkNest (zcn (zo d)) j (zn y) RX3 ∈ zNW) else Nat.beq (zk y) 2 && zat w (.methodLink (zcn (zo d)) j (zn y))
      | none => false)) = true := hw
    replace hct : (bif Nat.blt a 1000 then 3 else 0) = 3 := hct
    cases hb9 : Nat.blt a 1000 with
    | false => rw [hb9] at hct; cases hct
    | true =>
      have h9 := Nat.blt_eq.mp hb9
      have e9 : Nat.beq a 1000 = false := by
        cases q : Nat.beq a 1000 with
        | false => rfl
        | true => have := Nat.eq_of_beq_eq_true q; omega
      have e8 : Nat.beq a 1002 = false := by
        cases q : Nat.beq a 1002 with
        | false => rfl
        | true => have := Nat.eq_of_beq_eq_true q; omega
      rw [e9, cond_false, e8, cond_false, hya] at hw
      replace hw : (bif Nat.beq b 1 then Nat.beq (zk y) 3 && decide (Cond.methodLinkNest (zcn (zo d)) j (zn y) RX3 ∈ zNW) else Nat.beq (zk y) 2 && zat w (.methodLink (zcn (zo d)) j (zn y))) = true := hw
      cases hb1 : Nat.beq b 1 with
      | true =>
        rw [hb1, cond_true] at hw
        obtain ⟨h1, h2⟩ := Bool.and_eq_true_iff.mp hw
        exact spec ⟨j, rfl, Or.inr ⟨Nat.eq_of_beq_eq_true h1, of_decide_eq_true h2⟩⟩
      | false =>
        rw [hb1, cond_false] at hw
        obtain ⟨h1, h2⟩ := Bool.and_eq_true_iff.mp hw
        exact spec ⟨j, rfl, Or.inl ⟨Nat.eq_of_beq_eq_true h1, h2⟩⟩
  case new j =>
    replace hct : (bif Nat.blt a 4 then 0 else 4) = 3 := hct
    rw [Bool.cond_eq_ite] at hct
    split at hct <;> cases hct
  all_goals (cases hct; done)
end CALLS
