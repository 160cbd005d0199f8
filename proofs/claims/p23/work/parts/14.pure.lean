/-! ===== rows by their codes: pure arithmetic ===== -/
def wt (k : Nat) : Nat := match k with
  | 0 => 7776
  | 1 => 1296
  | 2 => 216
  | 3 => 36
  | 4 => 6
  | _ => 1
def dg (c k : Nat) : Nat := c / wt k % 6
def mk6 (f : Nat → Nat) : Nat := ((((f 0 * 6 + f 1) * 6 + f 2) * 6 + f 3) * 6 + f 4) * 6 + f 5
def bits (c : Nat) : Nat := ((((2 ^ dg c 0 ||| 2 ^ dg c 1) ||| 2 ^ dg c 2) ||| 2 ^ dg c 3) ||| 2 ^ dg c 4) ||| 2 ^ dg c 5
def R0 : Nat := 1865
def dgl (c : Nat) : List Nat := [dg c 0, dg c 1, dg c 2, dg c 3, dg c 4, dg c 5]
theorem dg_lt (c k : Nat) : dg c k < 6 := Nat.mod_lt _ (by decide)
theorem six {P : Nat → Prop} (h0 : P 0) (h1 : P 1) (h2 : P 2) (h3 : P 3) (h4 : P 4) (h5 : P 5) : ∀ k, k < 6 → P k := by
  intro k hk
  rcases (show k = 0 ∨ k = 1 ∨ k = 2 ∨ k = 3 ∨ k = 4 ∨ k = 5 by omega) with rfl | rfl | rfl | rfl | rfl | rfl <;> assumption
theorem dg_mk6 {f : Nat → Nat} (hf : ∀ k, k < 6 → f k < 6) : ∀ k, k < 6 → dg (mk6 f) k = f k := by
  have h0 := hf 0 (by omega)
  have h1 := hf 1 (by omega)
  have h2 := hf 2 (by omega)
  have h3 := hf 3 (by omega)
  have h4 := hf 4 (by omega)
  have h5 := hf 5 (by omega)
  apply six <;> simp only [dg, wt, mk6] <;> omega
theorem mk6_lt {f : Nat → Nat} (hf : ∀ k, k < 6 → f k < 6) : mk6 f < 46656 := by
  have h0 := hf 0 (by omega)
  have h1 := hf 1 (by omega)
  have h2 := hf 2 (by omega)
  have h3 := hf 3 (by omega)
  have h4 := hf 4 (by omega)
  have h5 := hf 5 (by omega)
  simp only [mk6]
  omega
theorem mk6_dg {c : Nat} (hc : c < 46656) : mk6 (dg c) = c := by
  simp only [mk6, dg, wt]
  omega
theorem mk6_congr {f g : Nat → Nat} (h : ∀ k, k < 6 → f k = g k) : mk6 f = mk6 g := by
  simp only [mk6, h 0 (by omega), h 1 (by omega), h 2 (by omega), h 3 (by omega), h 4 (by omega), h 5 (by omega)]
theorem dg_ext {a b : Nat} (ha : a < 46656) (hb : b < 46656) (h : ∀ k, k < 6 → dg a k = dg b k) : a = b := by
  rw [← mk6_dg ha, ← mk6_dg hb]
  exact mk6_congr h
def PL : List Nat := [1865, 1870, 1895, 1905, 1930, 1935, 2045, 2050, 2105, 2120, 2140, 2150, 2255, 2265, 2285, 2300, 2355, 2360, 2470, 2475, 2500, 2510, 2535, 2540, 2945, 2950, 2975, 2985, 3010, 3015, 3305, 3310, 3395, 3415, 3430, 3445, 3515, 3525, 3575, 3595, 3645, 3655, 3730, 3735, 3790, 3805, 3825, 3835, 4205, 4210, 4265, 4280, 4300, 4310, 4385, 4390, 4475, 4495, 4510, 4525, 4805, 4820, 4835, 4855, 4940, 4945, 5020, 5030, 5050, 5065, 5120, 5125, 5495, 5505, 5525, 5540, 5595, 5600, 5675, 5685, 5735, 5755, 5805, 5815, 5885, 5900, 5915, 5935, 6020, 6025, 6315, 6320, 6345, 6355, 6380, 6385, 6790, 6795, 6820, 6830, 6855, 6860, 6970, 6975, 7030, 7045, 7065, 7075, 7180, 7190, 7210, 7225, 7280, 7285, 7395, 7400, 7425, 7435, 7460, 7465, 8345, 8350, 8375, 8385, 8410, 8415, 8525, 8530, 8585, 8600, 8620, 8630, 8735, 8745, 8765, 8780, 8835, 8840, 8950, 8955, 8980, 8990, 9015, 9020, 10505, 10510, 10535, 10545, 10570, 10575, 11045, 11050, 11165, 11190, 11200, 11220, 11255, 11265, 11345, 11370, 11415, 11430, 11470, 11475, 11560, 11580, 11595, 11610, 11765, 11770, 11825, 11840, 11860, 11870, 12125, 12130, 12245, 12270, 12280, 12300, 12545, 12560, 12605, 12630, 12710, 12720, 12760, 12770, 12820, 12840, 12890, 12900, 13055, 13065, 13085, 13100, 13155, 13160, 13415, 13425, 13505, 13530, 13575, 13590, 13625, 13640, 13685, 13710, 13790, 13800, 14055, 14060, 14115, 14130, 14150, 14160, 14350, 14355, 14380, 14390, 14415, 14420, 14710, 14715, 14800, 14820, 14835, 14850, 14920, 14930, 14980, 15000, 15050, 15060, 15135, 15140, 15195, 15210, 15230, 15240, 15905, 15910, 15935, 15945, 15970, 15975, 16265, 16270, 16355, 16375, 16390, 16405, 16475, 16485, 16535, 16555, 16605, 16615, 16690, 16695, 16750, 16765, 16785, 16795, 16985, 16990, 17015, 17025, 17050, 17055, 17525, 17530, 17645, 17670, 17680, 17700, 17735, 17745, 17825, 17850, 17895, 17910, 17950, 17955, 18040, 18060, 18075, 18090, 19505, 19510, 19595, 19615, 19630, 19645, 19685, 19690, 19805, 19830, 19840, 19860, 20315, 20335, 20345, 20370, 20485, 20490, 20530, 20545, 20560, 20580, 20665, 20670, 20795, 20805, 20855, 20875, 20925, 20935, 20975, 20985, 21065, 21090, 21135, 21150, 21395, 21415, 21425, 21450, 21565, 21570, 21825, 21835, 21855, 21870, 21925, 21930, 22090, 22095, 22150, 22165, 22185, 22195, 22270, 22275, 22360, 22380, 22395, 22410, 22690, 22705, 22720, 22740, 22825, 22830, 22905, 22915, 22935, 22950, 23005, 23010, 23645, 23650, 23705, 23720, 23740, 23750, 23825, 23830, 23915, 23935, 23950, 23965, 24245, 24260, 24275, 24295, 24380, 24385, 24460, 24470, 24490, 24505, 24560, 24565, 24725, 24730, 24785, 24800, 24820, 24830, 25085, 25090, 25205, 25230, 25240, 25260, 25505, 25520, 25565, 25590, 25670, 25680, 25720, 25730, 25780, 25800, 25850, 25860, 25985, 25990, 26075, 26095, 26110, 26125, 26165, 26170, 26285, 26310, 26320, 26340, 26795, 26815, 26825, 26850, 26965, 26970, 27010, 27025, 27040, 27060, 27145, 27150, 28565, 28580, 28595, 28615, 28700, 28705, 28745, 28760, 28805, 28830, 28910, 28920, 28955, 28975, 28985, 29010, 29125, 29130, 29600, 29605, 29630, 29640, 29665, 29670, 29860, 29870, 29890, 29905, 29960, 29965, 30040, 30050, 30100, 30120, 30170, 30180, 30250, 30265, 30280, 30300, 30385, 30390, 30680, 30685, 30710, 30720, 30745, 30750, 31415, 31425, 31445, 31460, 31515, 31520, 31595, 31605, 31655, 31675, 31725, 31735, 31805, 31820, 31835, 31855, 31940, 31945, 32235, 32240, 32265, 32275, 32300, 32305, 32495, 32505, 32525, 32540, 32595, 32600, 32855, 32865, 32945, 32970, 33015, 33030, 33065, 33080, 33125, 33150, 33230, 33240, 33495, 33500, 33555, 33570, 33590, 33600, 33755, 33765, 33815, 33835, 33885, 33895, 33935, 33945, 34025, 34050, 34095, 34110, 34355, 34375, 34385, 34410, 34525, 34530, 34785, 34795, 34815, 34830, 34885, 34890, 35045, 35060, 35075, 35095, 35180, 35185, 35225, 35240, 35285, 35310, 35390, 35400, 35435, 35455, 35465, 35490, 35605, 35610, 36080, 36085, 36110, 36120, 36145, 36150, 37635, 37640, 37665, 37675, 37700, 37705, 37815, 37820, 37875, 37890, 37910, 37920, 38025, 38035, 38055, 38070, 38125, 38130, 38240, 38245, 38270, 38280, 38305, 38310, 39190, 39195, 39220, 39230, 39255, 39260, 39370, 39375, 39430, 39445, 39465, 39475, 39580, 39590, 39610, 39625, 39680, 39685, 39795, 39800, 39825, 39835, 39860, 39865, 40270, 40275, 40300, 40310, 40335, 40340, 40630, 40635, 40720, 40740, 40755, 40770, 40840, 40850, 40900, 40920, 40970, 40980, 41055, 41060, 41115, 41130, 41150, 41160, 41530, 41535, 41590, 41605, 41625, 41635, 41710, 41715, 41800, 41820, 41835, 41850, 42130, 42145, 42160, 42180, 42265, 42270, 42345, 42355, 42375, 42390, 42445, 42450, 42820, 42830, 42850, 42865, 42920, 42925, 43000, 43010, 43060, 43080, 43130, 43140, 43210, 43225, 43240, 43260, 43345, 43350, 43640, 43645, 43670, 43680, 43705, 43710, 44115, 44120, 44145, 44155, 44180, 44185, 44295, 44300, 44355, 44370, 44390, 44400, 44505, 44515, 44535, 44550, 44605, 44610, 44720, 44725, 44750, 44760, 44785, 44790]
def isRow (c : Nat) : Prop := c ∈ PL
theorem row_pl {c : Nat} (h : isRow c) : c ∈ PL := h
theorem pl_row {c : Nat} (h : c ∈ PL) : isRow c := h
/-- what holds of all rows, by the kernel -/
theorem row_all {P : Nat → Bool} (h : PL.all P = true) {c : Nat} (hc : isRow c) : P c = true := List.all_eq_true.mp h c hc
def D6 : List Nat := [0, 1, 2, 3, 4, 5]
theorem D6_m {k : Nat} (h : k < 6) : k ∈ D6 := by
  rcases (show k = 0 ∨ k = 1 ∨ k = 2 ∨ k = 3 ∨ k = 4 ∨ k = 5 by omega) with rfl | rfl | rfl | rfl | rfl | rfl <;> simp [D6]
def ne2 (a b : Nat) (k : Bool) : Bool := bif Nat.beq a b then true else k
theorem ne2_p {a b : Nat} {k : Bool} (h : ne2 a b k = true) (hab : a ≠ b) : k = true := by
  unfold ne2 at h
  cases q : Nat.beq a b with
  | true => exact absurd (Nat.eq_of_beq_eq_true q) hab
  | false => rw [q] at h; exact h
set_option maxRecDepth 100000 in
theorem dist_all : (D6.all fun a => D6.all fun b => ne2 a b (D6.all fun c => ne2 a c (ne2 b c (D6.all fun d => ne2 a d (ne2 b d (ne2 c d (D6.all fun e => ne2 a e (ne2 b e (ne2 c e (ne2 d e (D6.all fun f => ne2 a f (ne2 b f (ne2 c f (ne2 d f (ne2 e f (PL.elem (((((a * 6 + b) * 6 + c) * 6 + d) * 6 + e) * 6 + f))))))))))))))))) = true := by decide +kernel
theorem row_of_inj {c : Nat} (hc : c < 46656) (h : ∀ i j, i < 6 → j < 6 → dg c i = dg c j → i = j) : isRow c := by
  have n : ∀ i j, i < 6 → j < 6 → i ≠ j → dg c i ≠ dg c j := fun i j hi hj hij e => hij (h i j hi hj e)
  have h0 := List.all_eq_true.mp dist_all (dg c 0) (D6_m (dg_lt _ _))
  have h1 := ne2_p (List.all_eq_true.mp h0 (dg c 1) (D6_m (dg_lt _ _))) (n 0 1 (by omega) (by omega) (by omega))
  have h2 := ne2_p (ne2_p (List.all_eq_true.mp h1 (dg c 2) (D6_m (dg_lt _ _))) (n 0 2 (by omega) (by omega) (by omega))) (n 1 2 (by omega) (by omega) (by omega))
  have h3 := ne2_p (ne2_p (ne2_p (List.all_eq_true.mp h2 (dg c 3) (D6_m (dg_lt _ _))) (n 0 3 (by omega) (by omega) (by omega))) (n 1 3 (by omega) (by omega) (by omega))) (n 2 3 (by omega) (by omega) (by omega))
  have h4 := ne2_p (ne2_p (ne2_p (ne2_p (List.all_eq_true.mp h3 (dg c 4) (D6_m (dg_lt _ _))) (n 0 4 (by omega) (by omega) (by omega))) (n 1 4 (by omega) (by omega) (by omega))) (n 2 4 (by omega) (by omega) (by omega))) (n 3 4 (by omega) (by omega) (by omega))
  have h5 := ne2_p (ne2_p (ne2_p (ne2_p (ne2_p (List.all_eq_true.mp h4 (dg c 5) (D6_m (dg_lt _ _))) (n 0 5 (by omega) (by omega) (by omega))) (n 1 5 (by omega) (by omega) (by omega))) (n 2 5 (by omega) (by omega) (by omega))) (n 3 5 (by omega) (by omega) (by omega))) (n 4 5 (by omega) (by omega) (by omega))
  have e := mk6_dg hc
  unfold mk6 at e
  rw [e] at h5
  exact List.elem_iff.mp h5
def inj6 (c : Nat) : Bool := D6.all fun i => D6.all fun j => Nat.beq i j || !(Nat.beq (dg c i) (dg c j))
set_option maxRecDepth 100000 in
theorem pl_rows : PL.all (fun c => Nat.blt c 46656 && (Nat.beq (bits c) 63 && (inj6 c && (dgl c).isPerm [0, 1, 2, 3, 4, 5]))) = true := by decide +kernel
theorem row_lt {c : Nat} (hc : isRow c) : c < 46656 := Nat.blt_eq.mp (Bool.and_eq_true_iff.mp (row_all pl_rows hc)).1
theorem row_bits {c : Nat} (hc : isRow c) : bits c = 63 := Nat.eq_of_beq_eq_true (Bool.and_eq_true_iff.mp (Bool.and_eq_true_iff.mp (row_all pl_rows hc)).2).1
theorem nbeq {a b : Nat} (h : a ≠ b) : Nat.beq a b = false := by
  cases q : Nat.beq a b with
  | false => rfl
  | true => exact absurd (Nat.eq_of_beq_eq_true q) h
theorem row_inj {c : Nat} (hc : isRow c) : ∀ i j, i < 6 → j < 6 → dg c i = dg c j → i = j := by
  intro i j hi hj e
  have h1 := (Bool.and_eq_true_iff.mp (Bool.and_eq_true_iff.mp (Bool.and_eq_true_iff.mp (row_all pl_rows hc)).2).2).1
  have h2 := List.all_eq_true.mp (List.all_eq_true.mp h1 i (D6_m hi)) j (D6_m hj)
  rw [e, Nat.beq_refl] at h2
  cases q : Nat.beq i j with
  | true => exact Nat.eq_of_beq_eq_true q
  | false => rw [q] at h2; cases h2
theorem row_perm {c : Nat} (hc : isRow c) : (dgl c).Perm [0, 1, 2, 3, 4, 5] :=
  List.isPerm_iff.mp (Bool.and_eq_true_iff.mp (Bool.and_eq_true_iff.mp (Bool.and_eq_true_iff.mp (row_all pl_rows hc)).2).2).2
/-- every place's digit is some place's -/
theorem row_onto {c : Nat} (hc : isRow c) {v : Nat} (hv : v < 6) : ∃ k, k < 6 ∧ dg c k = v := by
  have h1 : v ∈ dgl c := (row_perm hc).mem_iff.mpr (by have := D6_m hv; exact this)
  unfold dgl at h1
  simp only [List.mem_cons, List.not_mem_nil, or_false] at h1
  rcases h1 with e | e | e | e | e | e
  · exact ⟨0, by omega, e.symm⟩
  · exact ⟨1, by omega, e.symm⟩
  · exact ⟨2, by omega, e.symm⟩
  · exact ⟨3, by omega, e.symm⟩
  · exact ⟨4, by omega, e.symm⟩
  · exact ⟨5, by omega, e.symm⟩
theorem bit_hit {c j : Nat} (h : bits c = 63) (hj : j < 6) : ∃ k, k < 6 ∧ dg c k = j := by
  have h1 : (bits c).testBit j = true := by
    rw [h]
    exact six (P := fun j => Nat.testBit 63 j = true) rfl rfl rfl rfl rfl rfl j hj
  unfold bits at h1
  simp only [Nat.testBit_or, Nat.testBit_two_pow, Bool.or_eq_true, decide_eq_true_eq] at h1
  rcases h1 with ((((e | e) | e) | e) | e) | e
  · exact ⟨0, by omega, e⟩
  · exact ⟨1, by omega, e⟩
  · exact ⟨2, by omega, e⟩
  · exact ⟨3, by omega, e⟩
  · exact ⟨4, by omega, e⟩
  · exact ⟨5, by omega, e⟩
theorem row_of_bits {c : Nat} (hc : c < 46656) (h : bits c = 63) : isRow c := by
  obtain ⟨k0, l0, e0⟩ := bit_hit h (j := 0) (by omega)
  obtain ⟨k1, l1, e1⟩ := bit_hit h (j := 1) (by omega)
  obtain ⟨k2, l2, e2⟩ := bit_hit h (j := 2) (by omega)
  obtain ⟨k3, l3, e3⟩ := bit_hit h (j := 3) (by omega)
  obtain ⟨k4, l4, e4⟩ := bit_hit h (j := 4) (by omega)
  obtain ⟨k5, l5, e5⟩ := bit_hit h (j := 5) (by omega)
  have hF : ∃ F : Nat → Nat, F 0 = k0 ∧ F 1 = k1 ∧ F 2 = k2 ∧ F 3 = k3 ∧ F 4 = k4 ∧ F 5 = k5 := ⟨fun j => match j with | 0 => k0 | 1 => k1 | 2 => k2 | 3 => k3 | 4 => k4 | _ => k5, rfl, rfl, rfl, rfl, rfl, rfl⟩
  obtain ⟨F, f0, f1, f2, f3, f4, f5⟩ := hF
  have hl : ∀ j, j < 6 → F j < 6 := six (by omega) (by omega) (by omega) (by omega) (by omega) (by omega)
  have he : ∀ j, j < 6 → dg c (F j) = j := six (by rw [f0]; exact e0) (by rw [f1]; exact e1) (by rw [f2]; exact e2) (by rw [f3]; exact e3) (by rw [f4]; exact e4) (by rw [f5]; exact e5)
  have hK : isRow (mk6 F) := row_of_inj (mk6_lt hl) fun i j hi hj e => by
    rw [dg_mk6 hl i hi, dg_mk6 hl j hj] at e
    rw [← he i hi, ← he j hj, e]
  refine row_of_inj hc fun i j hi hj e => ?_
  obtain ⟨a, ha, ea⟩ := row_onto hK hi
  obtain ⟨b, hb, eb⟩ := row_onto hK hj
  rw [dg_mk6 hl a ha] at ea
  rw [dg_mk6 hl b hb] at eb
  have h1 := he a ha
  have h2 := he b hb
  rw [ea] at h1
  rw [eb] at h2
  have h3 : a = b := by omega
  rw [← ea, ← eb, h3]
/-- one behind the other: the digits of c at those of p -/
def cmp (c p : Nat) : Nat := mk6 (fun k => dg c (dg p k))
theorem dg_cmp {c p k : Nat} (hk : k < 6) : dg (cmp c p) k = dg c (dg p k) := dg_mk6 (f := fun k => dg c (dg p k)) (fun _ _ => dg_lt _ _) k hk
theorem cmp_lt (c p : Nat) : cmp c p < 46656 := mk6_lt fun _ _ => dg_lt _ _
theorem cmp_row {c p : Nat} (hc : isRow c) (hp : isRow p) : isRow (cmp c p) := by
  refine row_of_inj (cmp_lt c p) fun i j hi hj e => ?_
  rw [dg_cmp hi, dg_cmp hj] at e
  exact row_inj hp i j hi hj (row_inj hc _ _ (dg_lt _ _) (dg_lt _ _) e)
theorem cmp_assoc (a b c : Nat) : cmp (cmp a b) c = cmp a (cmp b c) := by
  refine mk6_congr fun k hk => ?_
  rw [dg_cmp (dg_lt _ _), dg_cmp hk]
theorem R0_dg : ∀ k, k < 6 → dg R0 k = k := by decide
theorem R0_row : isRow R0 := by unfold isRow; decide +kernel
theorem cmp_R0 {c : Nat} (hc : c < 46656) : cmp c R0 = c := by
  refine dg_ext (cmp_lt _ _) hc fun k hk => ?_
  rw [dg_cmp hk, R0_dg k hk]
theorem R0_cmp {c : Nat} (hc : c < 46656) : cmp R0 c = c := by
  refine dg_ext (cmp_lt _ _) hc fun k hk => ?_
  rw [dg_cmp hk, R0_dg _ (dg_lt _ _)]
/-- the sums over the six places -/
def sm6 (f : Nat → Nat) : Nat := ((((f 0 + f 1) + f 2) + f 3) + f 4) + f 5
def inv (c : Nat) : Nat := sm6 (fun k => k * wt (dg c k))
set_option maxRecDepth 100000 in
theorem inv_all : PL.all (fun c => PL.elem (inv c) && ((List.range 6).all (fun k => Nat.beq (dg (inv c) (dg c k)) k && Nat.beq (dg c (dg (inv c) k)) k))) = true := by decide +kernel
theorem inv_row {c : Nat} (hc : isRow c) : isRow (inv c) := List.elem_iff.mp (Bool.and_eq_true_iff.mp (row_all inv_all hc)).1
theorem inv_dg {c k : Nat} (hc : isRow c) (hk : k < 6) : dg (inv c) (dg c k) = k ∧ dg c (dg (inv c) k) = k := by
  have h3 := (Bool.and_eq_true_iff.mp (row_all inv_all hc)).2
  have h4 := List.all_eq_true.mp h3 k (List.mem_range.mpr hk)
  obtain ⟨h5, h6⟩ := Bool.and_eq_true_iff.mp h4
  exact ⟨Nat.eq_of_beq_eq_true h5, Nat.eq_of_beq_eq_true h6⟩
theorem cmp_inv {c : Nat} (hc : isRow c) : cmp c (inv c) = R0 ∧ cmp (inv c) c = R0 := by
  refine ⟨dg_ext (cmp_lt _ _) (row_lt R0_row) fun k hk => ?_, dg_ext (cmp_lt _ _) (row_lt R0_row) fun k hk => ?_⟩
  · rw [dg_cmp hk, R0_dg k hk, (inv_dg hc hk).2]
  · rw [dg_cmp hk, R0_dg k hk, (inv_dg hc hk).1]
/-- a sum over the places is one over a row's digits -/
theorem sm6_row {c : Nat} (hc : isRow c) (F : Nat → Nat) : sm6 (fun k => F (dg c k)) = sm6 F := by
  have h1 := ((row_perm hc).map F).sum_nat
  unfold dgl at h1
  simp only [List.map_cons, List.map_nil, List.sum_cons, List.sum_nil] at h1
  simp only [sm6]
  omega
theorem mk6_sm {f : Nat → Nat} : mk6 f = sm6 (fun k => f k * wt k) := by
  simp only [mk6, sm6, wt]
  omega
/-- ringing a rule p: the reference's sum -/
def rng (c p : Nat) : Nat := sm6 (fun k => dg c k * wt (dg p k))
theorem rng_cmp {c p : Nat} (hp : isRow p) : rng c p = cmp c (inv p) := by
  unfold rng cmp
  rw [mk6_sm, ← sm6_row (inv_row hp) (fun k => dg c k * wt (dg p k))]
  have e : ∀ k, k < 6 → dg c (dg (inv p) k) * wt (dg p (dg (inv p) k)) = dg c (dg (inv p) k) * wt k := fun k hk => by rw [(inv_dg hp hk).2]
  simp only [sm6, e 0 (by omega), e 1 (by omega), e 2 (by omega), e 3 (by omega), e 4 (by omega), e 5 (by omega)]
theorem und_cmp {c p : Nat} : sm6 (fun k => dg c (dg p k) * wt k) = cmp c p := by
  unfold cmp
  rw [mk6_sm]
theorem inv_eq (p : Nat) : rng R0 p = inv p := by
  unfold rng inv
  simp only [sm6, R0_dg 0 (by omega), R0_dg 1 (by omega), R0_dg 2 (by omega), R0_dg 3 (by omega), R0_dg 4 (by omega), R0_dg 5 (by omega)]
/-- the rank of a row, as the class counts it -/
def sbf (f : Nat → Nat) (p : Nat) : Nat → Nat → Nat
  | 0, _ => 0
  | n + 1, b => (if f b < f p then 1 else 0) + sbf f p n (b + 1)
def rkf (f : Nat → Nat) : Nat → Nat → Nat → Nat
  | 0, _, acc => acc
  | n + 1, p, acc => rkf f n (p + 1) (acc * (6 - p) + sbf f p (5 - p) (p + 1))
def rk (c : Nat) : Nat := rkf (dg c) 6 0 0
set_option maxRecDepth 100000 in
theorem rk_all : PL.all (fun c => Nat.blt (rk c) 720 && decide (PL[rk c]? = some c)) = true := by decide +kernel
theorem rk_lt {c : Nat} (hc : isRow c) : rk c < 720 := Nat.blt_eq.mp (Bool.and_eq_true_iff.mp (row_all rk_all hc)).1
theorem rk_inj {a b : Nat} (ha : isRow a) (hb : isRow b) (h : rk a = rk b) : a = b := by
  have h1 := of_decide_eq_true (Bool.and_eq_true_iff.mp (row_all rk_all ha)).2
  have h2 := of_decide_eq_true (Bool.and_eq_true_iff.mp (row_all rk_all hb)).2
  rw [h, h2] at h1
  exact (Option.some.inj h1).symm
