/-! ===== what the tables say of each instruction, as one check ===== -/
def zcn (i : Nat) : String := match i with
  | 0 => RX0
  | 1 => RX1
  | 2 => RX2
  | 3 => RX3
  | 5 => RL
  | _ => RJ7
def zTT (i : Nat) : u_T := match i with
  | 0 => TX0
  | 1 => TX1
  | 2 => TX2
  | _ => TX3
def zN (i : Nat) : Nat := match i with
  | 0 => 2
  | 1 => 2
  | 2 => 8
  | _ => 11
def zen (i : Nat) : String := match i with
  | 5 => "java/lang/IllegalArgumentException"
  | 6 => "java/lang/IllegalStateException"
  | _ => "java/lang/IndexOutOfBoundsException"
abbrev zcl : List vw_C := [(RX0, TX0, 2), (RX1, TX1, 2), (RX2, TX2, 8), (RX3, TX3, 11)]
/-- the words that a callee keeps -/
def zW0 : List Cond := lw_tbl.filter goodWord
/-- words that are carried by themselves -/
def zNW : List Cond := [.methodLinkNest RX3 30 yX2_init RX3, .methodLinkNest RX3 40 yX1_init RX3,
  .declares ⟨"java/lang/RuntimeException", "<init>", "()V"⟩, .declares ⟨"java/lang/RuntimeException", "<init>", "(Ljava/lang/String;)V"⟩, .declares ⟨"java/lang/Exception", "<init>", "()V"⟩, .declares ⟨"java/lang/Exception", "<init>", "(Ljava/lang/String;)V"⟩,
  .declares ⟨"java/lang/Throwable", "<init>", "()V"⟩, .declares ⟨"java/lang/Throwable", "<init>", "(Ljava/lang/String;)V"⟩,
  .castable "java/lang/IllegalArgumentException" "java/lang/IllegalArgumentException", .castable "java/lang/IllegalStateException" "java/lang/IllegalStateException", .castable "java/lang/IndexOutOfBoundsException" "java/lang/IndexOutOfBoundsException"]
def zSt : List (Nat × String) := [(51, "a place is 0 to 5"), (56, "two shutters go to the same place"), (64, "there are 8 rules"), (168, "no such rule"), (80, "what is 0 to 4"), (104, "a shutter is 0 to 5"), (175, "the code of no row"), (119, "there are 6 peals"), (170, "no such peal"), (124, "the peal has 30 rules")]
abbrev zsup : List String := ["java/lang/RuntimeException", "java/lang/Exception"]
def zat (i : Nat) (w : Cond) : Bool := decide (lw_tbl[i]? = some w) && goodWord w
def zmem (w : Cond) : Bool := decide (w ∈ lw_tbl) && goodWord w
/-- the length of an instruction; 0: any -/
def zlen (i : Instr) : Nat := match i with
  | .bipush _ => 2
  | .sipush _ => 3
  | .ldc _ => 2
  | .ldc2_w _ => 3
  | .iload _ => 2
  | .aload _ => 2
  | .lload _ => 2
  | .dload _ => 2
  | .istore _ => 2
  | .astore _ => 2
  | .lstore _ => 2
  | .dstore _ => 2
  | .iinc _ _ => 3
  | .goto _ => 3
  | .ifCond _ _ => 3
  | .if_icmp _ _ => 3
  | .tableswitch _ _ _ _ => 0
  | .getfield _ => 3
  | .putfield _ => 3
  | .getstatic _ => 3
  | .new _ => 3
  | .newarray _ => 2
  | .anewarray _ => 3
  | .multianewarray _ _ => 4
  | .invokespecial _ => 3
  | .invokestatic _ => 3
  | .invokevirtual _ => 3
  | _ => 1
def zcst (a b : Nat) (v : Int32) : Bool := zint a b (fun x => decide (v = x))
/-- one instruction's words -/
def zentw (d : zMd) (pc : Nat) (i : Instr) (a b w : Nat) : Bool := match i with
  | .iconst n => zcst a b (Int32.ofInt n)
  | .bipush n => zcst a b (Int8.ofInt n).toInt32
  | .sipush n => zcst a b (Int16.ofInt n).toInt32
  | .iinc _ n => zcst a b (Int32.ofInt n)
  | .ldc j => Nat.beq b 9 || zat w (.constant (zcn (zo d)) j (nI a))
  | .ldc2_w j => zat w (.constantLong (zcn (zo d)) j (lN a))
  | .lconst n => decide (Int64.ofNat (n : Nat) = lN a)
  | .dconst n => decide (n = 0)
  | .iload_n k => decide ((k : Nat) = a)
  | .aload_n k => decide ((k : Nat) = a)
  | .lload_n k => decide ((k : Nat) = a)
  | .istore_n k => decide ((k : Nat) = a)
  | .astore_n k => decide ((k : Nat) = a)
  | .lstore_n k => decide ((k : Nat) = a)
  | .goto off => decide ((pc : Int) + off = (a : Int))
  | .ifCond _ off => decide ((pc : Int) + off = (a : Int))
  | .if_icmp _ off => decide ((pc : Int) + off = (a : Int))
  | .getfield j => Nat.blt a 4 && (Nat.blt b (zN a) && zat w (.fieldLink (zcn (zo d)) j (zTT a b).1 (zTT a b).2.1 (zTT a b).2.2.1))
  | .putfield j => Nat.blt a 4 && (Nat.blt b (zN a) && (zat w (.fieldLink (zcn (zo d)) j (zTT a b).1 (zTT a b).2.1 (zTT a b).2.2.1) && (!(zTT a b).2.2.2 || (Nat.ble 2 (zk d) && (Nat.ble (zk d) 3 && decide ((zTT a b).1 = zcn (zo d)))))))
  | .new j => bif Nat.blt a 4 then zat w (.classLink (zcn (zo d)) j (zcn a)) else
      (Nat.ble a 7 && (zat w (.classLink (zcn (zo d)) j (zen a)) && (Nat.beq (zo d) 3 && (decide (decode (zb d) (pc + 3) = .ok (.dup, 1)) && (decide (decode (zb d) (pc + 4) = .ok (.ldc (b / 1000), 2)) && (decide (decode (zb d) (pc + 6) = .ok (.invokespecial (b % 1000), 3)) && (decide (decode (zb d) (pc + 9) = .ok (.athrow, 1)) &&
        (zSt.any (fun q => Nat.beq q.1 (b / 1000)) && ((vx_atS RX3 (b % 1000) (zen a) zsup).all (fun w => zmem w || decide (w ∈ zNW)) && decide (w = w))))))))))
  | .newarray t => decide (t = .int)
  | .anewarray j => zat w (.classLink (zcn (zo d)) j "[I")
  | .multianewarray j n => decide (n = 2) && (Nat.beq (zo d) 3 && zat w (.classLink (zcn (zo d)) j "[[I"))
  | .invokevirtual j => (match zM[a]? with
    | some y => Nat.beq (zk y) 0 && zat w (.methodLink (zcn (zo d)) j (zn y))
    | none => false)
  | .invokestatic j => bif Nat.beq a 1001 then zat w (.methodLink (zcn (zo d)) j arraycopyName) else (match zM[a]? with
    | some y => (Nat.beq (zk y) 1 || Nat.beq (zk y) 4) && zat w (.methodLink (zcn (zo d)) j (zn y))
    | none => false)
  | .invokespecial j => bif Nat.beq a 1000 then zat w (.methodLink (zcn (zo d)) j objectInit) else bif Nat.beq a 1002 then true else (match zM[a]? with
    | some y => bif Nat.beq b 1 then Nat.beq (zk y) 3 && decide (Cond.methodLinkNest (zcn (zo d)) j (zn y) RX3 ∈ zNW) else Nat.beq (zk y) 2 && zat w (.methodLink (zcn (zo d)) j (zn y))
    | none => false)
  | _ => true
def zent (d : zMd) (e : zEnt) : Bool := match e with
  | (pc, np, i, a, b, w) => decide (decode (zb d) pc = .ok (i, np - pc)) && (Nat.blt pc np && ((Nat.beq (zlen i) 0 || Nat.beq np (pc + zlen i)) && zentw d pc i a b w))
/-- what the tables say of a method as a callee -/
def zmtd (d : zMd) : Bool :=
  Nat.ble (zl d) 16 && (decide ((zn d).cls = zcn (zo d)) && (plainName (zn d).cls && (decide ((zn d).cls ≠ "java/lang/invoke/MethodHandle") && (decide ((zn d).cls ≠ "java/lang/invoke/VarHandle") &&
  (zat ((zw d).getD 3 0) (.initialized (zcn (zo d))) &&
  (match zk d with
  | 0 => zat ((zw d).getD 1 0) (.instanceMethod (zn d)) && (zat ((zw d).getD 2 0) (.selects (zcn (zo d)) (zn d) (zn d)) && (Nat.blt 0 (za d) && (Nat.blt (zo d) 4 && decide ((parseMethodDescriptor (zn d).desc).map (fun q => q.parameters.length) = some (za d - 1)))))
  | 1 => zat ((zw d).getD 1 0) (.static (zn d)) && decide ((parseMethodDescriptor (zn d).desc).map (fun q => q.parameters.length) = some (za d))
  | 4 => zat ((zw d).getD 1 0) (.static (zn d)) && decide ((parseMethodDescriptor (zn d).desc).map (fun q => q.parameters.length) = some (za d))
  | 2 => zat ((zw d).getD 1 0) (.instanceMethod (zn d)) && (Nat.blt 0 (za d) && (decide ((zn d).name = "<init>") && (decide (zr d = none) && decide ((parseMethodDescriptor (zn d).desc).map (fun q => q.parameters.length) = some (za d - 1)))))
  | 3 => zat ((zw d).getD 1 0) (.instanceMethod (zn d)) && (Nat.blt 0 (za d) && (decide ((zn d).name = "<init>") && (decide (zr d = none) && decide ((parseMethodDescriptor (zn d).desc).map (fun q => q.parameters.length) = some (za d - 1)))))
  | _ => true))))))
/-- the word of a method's code -/
def zcw (d : zMd) : Cond := match zk d with
  | 4 => .codeWith (zn d) (zb d) (zl d) (zr d) (zh d)
  | _ => .code (zn d) (zb d) (zl d) (zr d)
