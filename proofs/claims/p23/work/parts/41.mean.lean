/-! ===== the mean is no more than the farthest ===== -/
theorem fp_qmin : FP.Core.b64.qmin = -1074 := by decide
theorem fp_qmax : FP.Core.b64.qmax = 971 := by decide
theorem fp_nat {k : Nat} (hk : k < 2147483648) : ∃ (c : Nat) (q : Int), FP.Core.val64 (FP.i2d (nI k)) = .fin false c q ∧ -1074 ≤ q ∧ q ≤ 971 ∧ ∀ K : Nat, 1074 ≤ K → c * 2 ^ (q + (K : Int)).toNat = k * 2 ^ K := by
  have e1 : FP.Core.val64 (FP.i2d (nI k)) = FP.Core.roundRatio FP.Core.b64 false k 1 0 := by
    have h1 := FP.Core.val64_i2d (nI k)
    rw [nI_toInt hk] at h1
    have h2 : FP.Core.round FP.Core.b64 (FP.Core.ofInt (k : Int)) = FP.Core.roundRatio FP.Core.b64 false k 1 0 := by
      show FP.Core.roundRatio FP.Core.b64 (decide ((k : Int) < 0)) (k : Int).natAbs 1 0 = _
      rw [show decide ((k : Int) < 0) = false from decide_eq_false (by omega), show (k : Int).natAbs = k by omega]
    exact h1.trans h2
  have hi := FP.Core.i2d_int (nI k)
  have hf := FP.Core.val64_fits (FP.i2d (nI k))
  have hs := FP.Core.sgn_roundRatio FP.Core.b64 false k 1 0
  unfold FP.Core.DInt at hi
  rw [nI_toInt hk] at hi
  rw [← e1] at hs
  have hi : FP.Core.Whole (k : Int) (FP.Core.val64 (FP.i2d (nI k))) := hi
  have hf : FP.Core.fits FP.Core.b64 (FP.Core.val64 (FP.i2d (nI k))) := hf
  clear e1
  generalize FP.Core.val64 (FP.i2d (nI k)) = d at *
  cases d with
  | nan => exact hi.elim
  | inf t => exact hi.elim
  | fin t c q =>
    have ht : t = false := hs
    subst ht
    have h1 : ((c * 2 ^ q.toNat : Nat) : Int) = (k : Int) * ((2 ^ (-q).toNat : Nat) : Int) := hi
    obtain ⟨h2, h3, h4, -⟩ := hf
    rw [fp_qmin] at h3
    rw [fp_qmax] at h4
    have h5 : c * 2 ^ q.toNat = k * 2 ^ (-q).toNat := by
      rw [← Int.natCast_mul] at h1
      exact Int.ofNat.inj h1
    refine ⟨c, q, rfl, h3, h4, fun K hK => ?_⟩
    have e2 : (q + (K : Int)).toNat = q.toNat + (K - (-q).toNat) := by omega
    have e3 : (-q).toNat + (K - (-q).toNat) = K := by omega
    rw [e2, Nat.pow_add, ← Nat.mul_assoc, h5, Nat.mul_assoc, ← Nat.pow_add, e3]
theorem mean_le {s l f : Nat} (hs : s < 2147483648) (hl : l < 2147483648) (hf : f < 2147483648) (h0 : 0 < l) (h : s ≤ f * l) : ¬ zcq .gt (Op.cmpValue (FP.dcmp (FP.ddiv (FP.i2d (nI s)) (FP.i2d (nI l))) (FP.i2d (nI f))) .l) 0 := by
  obtain ⟨cs, qs, es, s1, s2, s3⟩ := fp_nat hs
  obtain ⟨cl, ql, el, l1, l2, l3⟩ := fp_nat hl
  obtain ⟨cf, qf, ef, f1, f2, f3⟩ := fp_nat hf
  have hcl : cl ≠ 0 := by
    intro e
    have h9 := l3 1074 (Nat.le_refl _)
    rw [e, Nat.zero_mul] at h9
    exact absurd h9.symm (Nat.ne_of_gt (Nat.mul_pos h0 (Nat.two_pow_pos _)))
  have em : FP.Core.val64 (FP.ddiv (FP.i2d (nI s)) (FP.i2d (nI l))) = FP.Core.roundRatio FP.Core.b64 false cs cl (qs - ql) := by
    have h1 := FP.Core.val64_ddiv (FP.i2d (nI s)) (FP.i2d (nI l))
    rw [es, el] at h1
    refine Eq.trans h1 ?_
    show (if cl = 0 then _ else FP.Core.roundRatio FP.Core.b64 (false != false) cs cl (qs - ql)) = _
    rw [if_neg hcl]
    rfl
  obtain ⟨K, hK⟩ : ∃ K : Nat, K = 4000 := ⟨_, rfl⟩
  obtain ⟨M, hM⟩ : ∃ M : Nat, M = 1100 := ⟨_, rfl⟩
  have ineq : cs * 2 ^ (qs - ql - (-(K : Int))).toNat ≤ cf * 2 ^ (qf - (-1074)).toNat * 2 ^ (-1074 - (-(K : Int))).toNat * cl := by
    have p1 : 0 < 2 ^ (ql + (M : Int)).toNat := Nat.two_pow_pos _
    refine Nat.le_of_mul_le_mul_right ?_ p1
    have a1 := s3 (K + M) (by omega)
    have a2 := l3 M (by omega)
    have a3 := f3 K (by omega)
    have b1 : cs * 2 ^ (qs - ql - (-(K : Int))).toNat * 2 ^ (ql + (M : Int)).toNat = s * 2 ^ (K + M) := by
      rw [Nat.mul_assoc, ← Nat.pow_add, ← a1]
      congr 2
      omega
    have b2 : cf * 2 ^ (qf - (-1074)).toNat * 2 ^ (-1074 - (-(K : Int))).toNat = f * 2 ^ K := by
      rw [Nat.mul_assoc, ← Nat.pow_add, ← a3]
      congr 2
      omega
    rw [b1, b2, Nat.mul_assoc, a2, Nat.pow_add]
    have b3 : f * 2 ^ K * (l * 2 ^ M) = f * l * (2 ^ K * 2 ^ M) := by ac_rfl
    rw [b3]
    exact Nat.mul_le_mul_right _ h
  have hle := FP.Core.zmag_roundRatio_le FP.Core.good_b64 (s := false) (A := cs) (B := cl) (e := qs - ql) (e0 := -(K : Int)) (V := .fin false cf qf) (by omega) (by rw [← ef]; exact FP.Core.val64_fits _) (fun z => by cases z) (by rw [fp_qmin]; omega) (by omega) (by
    show cs * 2 ^ (qs - ql - (-(K : Int))).toNat ≤ cf * 2 ^ (qf - FP.Core.b64.qmin).toNat * 2 ^ (FP.Core.b64.qmin - (-(K : Int))).toNat * cl
    rw [fp_qmin]
    exact ineq)
  intro hz
  have hz : (0 : Int32) < Op.cmpValue (FP.dcmp (FP.ddiv (FP.i2d (nI s)) (FP.i2d (nI l))) (FP.i2d (nI f))) .l := hz
  have hg : FP.dcmp (FP.ddiv (FP.i2d (nI s)) (FP.i2d (nI l))) (FP.i2d (nI f)) = some .gt := by
    generalize FP.dcmp (FP.ddiv (FP.i2d (nI s)) (FP.i2d (nI l))) (FP.i2d (nI f)) = r at hz
    cases r with
    | none => exact absurd (show (0 : Int32) < -1 from hz) (by decide)
    | some o =>
      cases o with
      | lt => exact absurd (show (0 : Int32) < -1 from hz) (by decide)
      | eq => exact absurd (show (0 : Int32) < 0 from hz) (by decide)
      | gt => rfl
  obtain ⟨-, -, h9⟩ := (FP.Core.dcmp_gt (a := FP.ddiv (FP.i2d (nI s)) (FP.i2d (nI l))) (b := FP.i2d (nI f))).mp hg
  rw [em, ef] at h9
  have e1 : FP.Core.zval FP.Core.b64 (FP.Core.roundRatio FP.Core.b64 false cs cl (qs - ql)) = (FP.Core.zmag FP.Core.b64 (FP.Core.roundRatio FP.Core.b64 false cs cl (qs - ql)) : Int) := by
    unfold FP.Core.zval
    rw [FP.Core.sgn_roundRatio]
    rfl
  have e2 : FP.Core.zval FP.Core.b64 (.fin false cf qf) = (FP.Core.zmag FP.Core.b64 (.fin false cf qf) : Int) := rfl
  rw [e1, e2] at h9
  omega
