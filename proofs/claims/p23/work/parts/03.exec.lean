/-! ===== a run of a method over an abstract heap: cells by number, values of the machine with a cell's number in an address' place ===== -/
abbrev zC : Type := vp_A ⊕ (Nat × List Value)
abbrev zH : Type := List zC × Nat
abbrev zS : Type := Nat × List (Nat × Value) × List Value × zH
abbrev zX : Type := Nat × (Nat → Int32)
abbrev zOut : Type := (Option Value ⊕ Nat) × zH
/-- arrays that nobody writes: 0 the script -/
def zro (X : zX) (_ : Nat) : zX := X
def zf : List zEnt → Nat → Option zEnt
  | [], _ => none
  | e :: t, pc => bif Nat.beq e.1 pc then some e else zf t pc
def zget : List (Nat × Value) → Nat → Option Value
  | [], _ => none
  | q :: t, k => bif Nat.beq q.1 k then some q.2 else zget t k
/-- a listed local that a store at i leaves -/
def zleft (i : Nat) (v : Value) (q : Nat × Value) : Bool := !(Nat.beq q.1 i) && (!(Nat.beq (q.1 + 1) i && Nat.beq q.2.category 2) && !(Nat.beq q.1 (i + 1) && Nat.beq v.category 2))
def zfil (i : Nat) (v : Value) : List (Nat × Value) → List (Nat × Value)
  | [] => []
  | q :: t => bif zleft i v q then q :: zfil i v t else zfil i v t
def zset (i : Nat) (v : Value) : List (Nat × Value) → List (Nat × Value)
  | [] => [(i, v)]
  | q :: t => bif Nat.beq q.1 i then (i, v) :: zfil i v t else bif zleft i v q then q :: zset i v t else zset i v t
/-- a list, laid bare -/
def zfl {α : Type} : List (Nat × Value) → (List (Nat × Value) → α) → α
  | [], k => k []
  | (a, b) :: t, k => zfl t (fun l => k ((a, b) :: l))
/-- the locals below n, laid bare; 0: all of them -/
def zkp (n : Nat) : List (Nat × Value) → List (Nat × Value)
  | [] => []
  | q :: t => bif Nat.blt q.1 n then q :: zkp n t else zkp n t
def zkl {α : Type} (n : Nat) (L : List (Nat × Value)) (k : List (Nat × Value) → α) : α := match n with
  | 0 => k L
  | m + 1 => zfl (zkp (m + 1) L) k
/-- a number of the code, laid bare -/
def zint {α : Type} (a b : Nat) (k : Int32 → α) : α := match b with
  | 0 => k (nI a)
  | _ => k (-nI a)
def zdef : Nat → List Value
  | 0 => [.null, .null]
  | 1 => [.null, .int (nI 0)]
  | 2 => [.null, .null, .null, .null, .null, .int (nI 0), .int (nI 0), .int (nI 0)]
  | _ => [.null, .int (nI 0), .null, .null, .int (nI 0), .null, .int (nI 0), .null, .int (nI 0), .null, .null]
def zty : Nat → Nat → FieldType
  | 0 => tyX0
  | 1 => tyX1
  | 2 => tyX2
  | _ => tyX3
def zfit (ty : FieldType) (v : Value) : Bool := match ty, v with
  | .int, .int _ => true
  | .boolean, .int x => decide (x = 0) || decide (x = 1)
  | .object _, .ref _ => true
  | .array _, .ref _ => true
  | _, _ => false
def zcat (S : List Value) : Nat := (S.map fun v => v.category).sum
abbrev zins (j : Int32) (n : Nat) : Prop := ¬ (j < 0 ∨ n ≤ j.toNatClampNeg)
def zjmp (z : Int) (L : List (Nat × Value)) (S : List Value) (h : zH) : Option zS := if 0 ≤ z then some (z.toNat, L, S, h) else none
def zild (k np : Nat) (L : List (Nat × Value)) (S : List Value) (h : zH) : Option zS := match zget L k with
  | some (.int x) => some (np, L, .int x :: S, h)
  | _ => none
def zald (k np : Nat) (L : List (Nat × Value)) (S : List Value) (h : zH) : Option zS := match zget L k with
  | some (.ref x) => some (np, L, .ref x :: S, h)
  | some (.retAddr x) => some (np, L, .retAddr x :: S, h)
  | _ => none
def zlld (k np : Nat) (L : List (Nat × Value)) (S : List Value) (h : zH) : Option zS := match zget L k with
  | some (.long x) => some (np, L, .long x :: S, h)
  | _ => none
def zdld (k np : Nat) (L : List (Nat × Value)) (S : List Value) (h : zH) : Option zS := match zget L k with
  | some (.double x) => some (np, L, .double x :: S, h)
  | _ => none
def zist (d : zMd) (k np : Nat) (L : List (Nat × Value)) (S : List Value) (h : zH) : Option zS := match S with
  | .int x :: r => bif Nat.blt k (zl d) then zfl (zset k (.int x) L) (fun l => some (np, l, r, h)) else none
  | _ => none
def zast (d : zMd) (k np : Nat) (L : List (Nat × Value)) (S : List Value) (h : zH) : Option zS := match S with
  | .ref x :: r => bif Nat.blt k (zl d) then zfl (zset k (.ref x) L) (fun l => some (np, l, r, h)) else none
  | .retAddr x :: r => bif Nat.blt k (zl d) then zfl (zset k (.retAddr x) L) (fun l => some (np, l, r, h)) else none
  | _ => none
def zlst (d : zMd) (k np : Nat) (L : List (Nat × Value)) (S : List Value) (h : zH) : Option zS := match S with
  | .long x :: r => bif Nat.blt (k + 1) (zl d) then zfl (zset k (.long x) L) (fun l => some (np, l, r, h)) else none
  | _ => none
def zdst (d : zMd) (k np : Nat) (L : List (Nat × Value)) (S : List Value) (h : zH) : Option zS := match S with
  | .double x :: r => bif Nat.blt (k + 1) (zl d) then zfl (zset k (.double x) L) (fun l => some (np, l, r, h)) else none
  | _ => none
def zif (c : ClassFile.Cond) (a np : Nat) (L : List (Nat × Value)) (S : List Value) (h : zH) : Option zS := match S with
  | .int x :: r => match c with
    | .eq => if x = 0 then some (a, L, r, h) else some (np, L, r, h)
    | .ne => if x ≠ 0 then some (a, L, r, h) else some (np, L, r, h)
    | .lt => if x < 0 then some (a, L, r, h) else some (np, L, r, h)
    | .ge => if 0 ≤ x then some (a, L, r, h) else some (np, L, r, h)
    | .gt => if 0 < x then some (a, L, r, h) else some (np, L, r, h)
    | .le => if x ≤ 0 then some (a, L, r, h) else some (np, L, r, h)
  | _ => none
def zic (c : ClassFile.Cond) (a np : Nat) (L : List (Nat × Value)) (S : List Value) (h : zH) : Option zS := match S with
  | .int y :: .int x :: r => match c with
    | .eq => if x = y then some (a, L, r, h) else some (np, L, r, h)
    | .ne => if x ≠ y then some (a, L, r, h) else some (np, L, r, h)
    | .lt => if x < y then some (a, L, r, h) else some (np, L, r, h)
    | .ge => if y ≤ x then some (a, L, r, h) else some (np, L, r, h)
    | .gt => if y < x then some (a, L, r, h) else some (np, L, r, h)
    | .le => if x ≤ y then some (a, L, r, h) else some (np, L, r, h)
  | _ => none
def zgf (a b np : Nat) (L : List (Nat × Value)) (S : List Value) (h : zH) : Option zS := match S with
  | .ref k :: r => match h.1[k]? with
    | some (.inr (ci, fs)) => bif Nat.beq ci a then (match fs[b]? with
      | some v => some (np, L, v :: r, h)
      | none => none) else none
    | _ => none
  | _ => none
def zpf (a b np : Nat) (L : List (Nat × Value)) (S : List Value) (h : zH) : Option zS := match S with
  | v :: .ref k :: r => match h.1[k]? with
    | some (.inr (ci, fs)) => bif Nat.beq ci a && (Nat.blt b fs.length && zfit (zty a b) v) then some (np, L, r, (h.1.set k (.inr (ci, fs.set b v)), h.2)) else none
    | _ => none
  | _ => none
def zial (X : zX) (np : Nat) (L : List (Nat × Value)) (S : List Value) (h : zH) : Option zS := match S with
  | .int j :: .ref k :: r => match h.1[k]? with
    | some (.inl (n, .inl f)) => if zins j n then some (np, L, .int (f j.toNatClampNeg) :: r, h) else none
    | _ => none
  | .int j :: .retAddr t :: r => bif Nat.blt t 1 then (if zins j (zro X t).1 then some (np, L, .int ((zro X t).2 j.toNatClampNeg) :: r, h) else none) else none
  | _ => none
def zias (np : Nat) (L : List (Nat × Value)) (S : List Value) (h : zH) : Option zS := match S with
  | .int x :: .int j :: .ref k :: r => match h.1[k]? with
    | some (.inl (n, .inl f)) => if zins j n then some (np, L, r, (h.1.set k (.inl (n, .inl (upd f j.toNatClampNeg x))), h.2)) else none
    | _ => none
  | _ => none
def zaal (np : Nat) (L : List (Nat × Value)) (S : List Value) (h : zH) : Option zS := match S with
  | .int j :: .ref k :: r => match h.1[k]? with
    | some (.inl (n, .inr (.inr (.inr (.inr g))))) => if zins j n then (match g j.toNatClampNeg with
      | some q => some (np, L, .ref q :: r, h)
      | none => none) else none
    | _ => none
  | _ => none
def zalen (X : zX) (np : Nat) (L : List (Nat × Value)) (S : List Value) (h : zH) : Option zS := match S with
  | .ref k :: r => match h.1[k]? with
    | some (.inl (n, .inl _)) => some (np, L, .int (nI n) :: r, h)
    | some (.inl (n, .inr (.inr (.inr (.inr _))))) => some (np, L, .int (nI n) :: r, h)
    | _ => none
  | .retAddr t :: r => bif Nat.blt t 1 then some (np, L, .int (nI (zro X t).1) :: r, h) else none
  | _ => none
def znew (a np : Nat) (L : List (Nat × Value)) (S : List Value) (h : zH) : Option zS := some (np, L, .ref h.1.length :: S, (h.1 ++ [.inr (a, zdef a)], h.2))
def znwa (t : ArrayType) (np : Nat) (L : List (Nat × Value)) (S : List Value) (h : zH) : Option zS := match S with
  | .int n :: r => match t with
    | .int => if ¬ n < 0 ∧ n.toNatClampNeg * 4 ≤ 536870912 then some (np, L, .ref h.1.length :: r, (h.1 ++ [.inl (n.toNatClampNeg, .inl (fun _ => 0))], h.2)) else none
    | _ => none
  | _ => none
def zmna (np : Nat) (L : List (Nat × Value)) (S : List Value) (h : zH) : Option zS := match S with
  | .int k :: .int n :: r => if ¬ n < 0 ∧ ¬ k < 0 ∧ n.toNatClampNeg * 4 ≤ 536870912 ∧ k.toNatClampNeg * 4 ≤ 536870912 then
      some (np, L, .ref h.1.length :: r, (h.1 ++ [.inl (n.toNatClampNeg, .inr (.inr (.inr (.inr (fun i => if i < n.toNatClampNeg then some (h.1.length + 1 + i) else none)))))] ++ List.replicate n.toNatClampNeg (.inl (k.toNatClampNeg, .inl (fun _ => 0))), h.2)) else none
  | _ => none
def zoi (f np : Nat) (L : List (Nat × Value)) (S : List Value) (h : zH) : Option zS := match S with
  | .ref _ :: r => bif Nat.blt 0 f && Nat.ble (zcat r) 8 then some (np, L, r, h) else none
  | _ => none
def zacp (f np : Nat) (L : List (Nat × Value)) (S : List Value) (h : zH) : Option zS := match S with
  | .int n :: .int dp :: .ref k1 :: .int sp :: .ref k0 :: r => match h.1[k0]?, h.1[k1]? with
    | some (.inl (n0, .inl g0)), some (.inl (n1, .inl g1)) => if ¬ sp < 0 ∧ ¬ dp < 0 ∧ ¬ n < 0 ∧ sp.toNatClampNeg + n.toNatClampNeg ≤ n0 ∧ dp.toNatClampNeg + n.toNatClampNeg ≤ n1 ∧ 0 < f ∧ zcat r ≤ 8 then
        some (np, L, r, (h.1.set k1 (.inl (n1, .inl (va_cpy g0 g1 sp.toNatClampNeg dp.toNatClampNeg n.toNatClampNeg))), h.2)) else none
    | _, _ => none
  | _ => none
/-- an array of int's array: its place j holds the array k1 from now on -/
def zaas (np : Nat) (L : List (Nat × Value)) (S : List Value) (h : zH) : Option zS := match S with
  | .ref k1 :: .int j :: .ref k :: r => match h.1[k]?, h.1[k1]? with
    | some (.inl (n, .inr (.inr (.inr (.inr g))))), some (.inl (_, .inl _)) => if zins j n then some (np, L, r, (h.1.set k (.inl (n, .inr (.inr (.inr (.inr (va_up g j.toNatClampNeg (some k1))))))), h.2)) else none
    | _, _ => none
  | _ => none
def zana (np : Nat) (L : List (Nat × Value)) (S : List Value) (h : zH) : Option zS := match S with
  | .int n :: r => if ¬ n < 0 ∧ n.toNatClampNeg * 4 ≤ 536870912 then some (np, L, .ref h.1.length :: r, (h.1 ++ [.inl (n.toNatClampNeg, .inr (.inr (.inr (.inr (fun _ => none)))))], h.2)) else none
  | _ => none
/-- one instruction that neither calls, returns nor throws -/
def zop (X : zX) (d : zMd) (f pc np : Nat) (i : Instr) (a b : Nat) (L : List (Nat × Value)) (S : List Value) (h : zH) : Option zS := match i with
  | .iconst _ => zint a b (fun x => some (np, L, .int x :: S, h))
  | .bipush _ => zint a b (fun x => some (np, L, .int x :: S, h))
  | .sipush _ => zint a b (fun x => some (np, L, .int x :: S, h))
  | .ldc _ => bif Nat.beq b 0 then some (np, L, .int (nI a) :: S, h) else none
  | .ldc2_w _ => some (np, L, .long (lN a) :: S, h)
  | .lconst _ => some (np, L, .long (lN a) :: S, h)
  | .dconst _ => some (np, L, .double FP.dconst0 :: S, h)
  | .iload_n _ => zild a np L S h
  | .iload k => zild k np L S h
  | .aload_n _ => zald a np L S h
  | .aload k => zald k np L S h
  | .lload_n _ => zlld a np L S h
  | .lload k => zlld k np L S h
  | .dload k => zdld k np L S h
  | .istore_n _ => zist d a np L S h
  | .istore k => zist d k np L S h
  | .astore_n _ => zast d a np L S h
  | .astore k => zast d k np L S h
  | .lstore_n _ => zlst d a np L S h
  | .lstore k => zlst d k np L S h
  | .dstore k => zdst d k np L S h
  | .iinc k _ => match zget L k with
    | some (.int x) => bif Nat.blt k (zl d) then zint a b (fun y => zfl (zset k (.int (x + y)) L) (fun l => some (np, l, S, h))) else none
    | _ => none
  | .iadd => match S with
    | .int y :: .int x :: r => some (np, L, .int (x + y) :: r, h)
    | _ => none
  | .isub => match S with
    | .int y :: .int x :: r => some (np, L, .int (x - y) :: r, h)
    | _ => none
  | .imul => match S with
    | .int y :: .int x :: r => some (np, L, .int (x * y) :: r, h)
    | _ => none
  | .iand => match S with
    | .int y :: .int x :: r => some (np, L, .int (x &&& y) :: r, h)
    | _ => none
  | .ior => match S with
    | .int y :: .int x :: r => some (np, L, .int (x ||| y) :: r, h)
    | _ => none
  | .ishl => match S with
    | .int y :: .int x :: r => some (np, L, .int (x <<< (y &&& 31)) :: r, h)
    | _ => none
  | .ishr => match S with
    | .int y :: .int x :: r => some (np, L, .int (x >>> (y &&& 31)) :: r, h)
    | _ => none
  | .idiv => match S with
    | .int y :: .int x :: r => if y = 0 then none else some (np, L, .int (x / y) :: r, h)
    | _ => none
  | .irem => match S with
    | .int y :: .int x :: r => if y = 0 then none else some (np, L, .int (x - x / y * y) :: r, h)
    | _ => none
  | .ladd => match S with
    | .long y :: .long x :: r => some (np, L, .long (x + y) :: r, h)
    | _ => none
  | .lmul => match S with
    | .long y :: .long x :: r => some (np, L, .long (x * y) :: r, h)
    | _ => none
  | .lcmp => match S with
    | .long y :: .long x :: r => some (np, L, .int (lg_cmp x y) :: r, h)
    | _ => none
  | .i2l => match S with
    | .int x :: r => some (np, L, .long x.toInt64 :: r, h)
    | _ => none
  | .i2d => match S with
    | .int x :: r => some (np, L, .double (FP.i2d x) :: r, h)
    | _ => none
  | .ddiv => match S with
    | .double y :: .double x :: r => if (FP.ddiv x y) &&& 0x7fffffffffffffff ≤ 0x7ff0000000000000 then some (np, L, .double (FP.ddiv x y) :: r, h) else none
    | _ => none
  | .dcmp o => match S with
    | .double y :: .double x :: r => some (np, L, .int (Op.cmpValue (FP.dcmp x y) o) :: r, h)
    | _ => none
  | .dup => match S with
    | v :: r => bif Nat.beq v.category 1 then some (np, L, v :: v :: r, h) else none
    | _ => none
  | .dup2 => match S with
    | v :: w :: r => bif Nat.beq v.category 1 && Nat.beq w.category 1 then some (np, L, v :: w :: v :: w :: r, h) else none
    | _ => none
  | .pop => match S with
    | v :: r => bif Nat.beq v.category 1 then zkl b L (fun l => some (np, l, r, h)) else none
    | _ => none
  | .goto _ => zkl b L (fun l => some (a, l, S, h))
  | .ifCond c _ => zif c a np L S h
  | .if_icmp c _ => zic c a np L S h
  | .tableswitch df lo hi offs => match S with
    | .int x :: r => if x.toInt < lo ∨ hi < x.toInt then zjmp ((pc : Int) + df) L r h else (match offs[(x.toInt - lo).toNat]? with
      | some off => zjmp ((pc : Int) + off) L r h
      | none => none)
    | _ => none
  | .getfield _ => zgf a b np L S h
  | .putfield _ => zpf a b np L S h
  | .iaload => zial X np L S h
  | .iastore => zias np L S h
  | .aaload => zaal np L S h
  | .aastore => zaas np L S h
  | .anewarray _ => zana np L S h
  | .arraylength => zalen X np L S h
  | .new _ => znew a np L S h
  | .newarray t => znwa t np L S h
  | .multianewarray _ _ => zmna np L S h
  | .invokespecial _ => bif Nat.beq a 1000 then zoi f np L S h else none
  | .invokestatic _ => bif Nat.beq a 1001 then zacp f np L S h else none
  | _ => none
/-- 0 a step, 1 a value is returned, 2 the end, 3 a call, 4 a throw -/
def zctl (i : Instr) (a : Nat) : Nat := match i with
  | .ireturn => 1
  | .lreturn => 1
  | .dreturn => 1
  | .areturn => 1
  | .return_ => 2
  | .invokevirtual _ => 3
  | .invokestatic _ => bif Nat.blt a 1000 then 3 else 0
  | .invokespecial _ => bif Nat.blt a 1000 then 3 else 0
  | .new _ => bif Nat.blt a 4 then 0 else 4
  | _ => 0
/-- a value of the return type, by its instruction -/
def zrv (i : Instr) (ty : Option FieldType) (v : Value) : Bool := match i, ty, v with
  | .ireturn, some .int, .int _ => true
  | .ireturn, some .boolean, .int x => decide (x = 0) || decide (x = 1)
  | .lreturn, some .long, .long _ => true
  | .dreturn, some .double, .double _ => true
  | .areturn, some (.array _), .ref _ => true
  | _, _, _ => false
/-- the arguments and what lies below them -/
def zcall (y : zMd) (S : List Value) (h : zH) : Option (List Value × List Value) :=
  bif Nat.ble (za y) S.length && (Nat.ble (zcat (S.drop (za y))) 8 && Nat.ble (zcat (S.take (za y))) (zl y)) then
    (match zk y with
    | 0 => (match (S.take (za y)).reverse with
      | .ref k :: t => (match h.1[k]? with
        | some (.inr (ci, _)) => bif Nat.beq ci (zo y) then some (.ref k :: t, S.drop (za y)) else none
        | _ => none)
      | _ => none)
    | 1 => some ((S.take (za y)).reverse, S.drop (za y))
    | 2 => (match (S.take (za y)).reverse with
      | .ref k :: t => some (.ref k :: t, S.drop (za y))
      | _ => none)
    | 3 => (match (S.take (za y)).reverse with
      | .ref k :: t => some (.ref k :: t, S.drop (za y))
      | _ => none)
    | 4 => some ((S.take (za y)).reverse, S.drop (za y))
    | _ => none)
  else none
/-- the exception that a pool entry of the law names -/
def zexc (i : Nat) : Nat := match i with
  | 13 => 5
  | 15 => 6
  | _ => 7
def zcatch : List (Nat × Nat × Nat × Nat) → Nat → Nat → Option Nat
  | [], _, _ => none
  | q :: t, pc, E => bif Nat.ble q.1 pc && Nat.blt pc q.2.1 && Nat.beq (zexc q.2.2.2) E then some q.2.2.1 else zcatch t pc E
def ztok (q : Nat × Value) : Bool := match q.2 with
  | .retAddr _ => false
  | _ => true
def zrun (X : zX) : Nat → Nat → zMd → zS → Option zOut
  | 0, _, _, _ => none
  | n + 1, f, d, st => match zf (zi d) st.1 with
    | none => none
    | some e => match zctl e.2.2.1 e.2.2.2.1 with
      | 0 => match zop X d f e.1 e.2.1 e.2.2.1 e.2.2.2.1 e.2.2.2.2.1 st.2.1 st.2.2.1 st.2.2.2 with
        | some st2 => zrun X n f d st2
        | none => none
      | 1 => match st.2.2.1 with
        | [v] => bif zrv e.2.2.1 (zr d) v then some (.inl (some v), st.2.2.2) else none
        | _ => none
      | 2 => match st.2.2.1, zr d with
        | [], none => some (.inl none, st.2.2.2)
        | _, _ => none
      | 3 => match zM[e.2.2.2.1]? with
        | none => none
        | some y => match f with
          | 0 => none
          | f2 + 1 => match zcall y st.2.2.1 st.2.2.2 with
            | none => none
            | some q => match zrun X n f2 y (0, lv_args 0 q.1, [], st.2.2.2) with
              | none => none
              | some (.inl v, h2) => zrun X n (f2 + 1) d (e.2.1, st.2.1, v.toList ++ q.2, h2)
              | some (.inr E, h2) => match zcatch (zh d) e.1 E with
                | none => bif (zh d).isEmpty then some (.inr E, h2) else none
                | some hp => bif st.2.1.all ztok then zrun X n (f2 + 1) d (hp, st.2.1, [.retAddr 2], h2) else none
      | 4 => bif Nat.ble 6 f && ((zh d).isEmpty && Nat.ble (zcat st.2.2.1) 8) then some (.inr e.2.2.2.1, (st.2.2.2.1, st.2.2.2.2 + 1)) else none
      | _ => none
def Go (X : zX) (f : Nat) (d : zMd) (st : zS) (o : zOut) : Prop := ∃ n, zrun X n f d st = some o
