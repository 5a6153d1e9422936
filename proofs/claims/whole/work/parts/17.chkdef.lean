/-! the stretches of code are the methods' bytes: checked by computing -/
def zhas (c kd idx a b : Nat) (v : Int) : Bool := (zpl c).any fun e => e.1 == kd && e.2.1 == idx && e.2.2.1 == a && e.2.2.2.1 == b && e.2.2.2.2.1 == v
def zlenok (i : Instr) (n : Nat) : Bool := match i with
  | .aload _ | .iload _ | .lload _ | .istore _ | .lstore _ | .astore _ | .bipush _ | .ldc _ | .newarray _ => n == 2
  | .iinc _ _ | .sipush _ | .ldc_w _ | .ldc2_w _ | .getfield _ | .putfield _ | .getstatic _ | .anewarray _ | .new _ | .invokestatic _ | .invokevirtual _ | .invokespecial _ | .ifCond _ _ | .if_icmp _ _ | .goto _ => n == 3
  | .multianewarray _ _ => n == 4
  | .tableswitch _ _ _ _ | .lookupswitch _ _ => true
  | _ => n == 1
abbrev zsort (t : ZT) : Nat := t.2.2.2.1
abbrev znar (t : ZT) : Nat := t.2.2.2.2.1
def zretok (ret : Option FieldType) (k : Nat) : Bool := match ret with
  | some .int => k == 0
  | some .boolean => k == 1
  | some .byte => k == 2
  | some .char => k == 3
  | _ => false
def zck (c : Nat) (nm : String) (ret : Option FieldType) (i : Instr) (p : ZP) : Bool := match i with
  | .getfield ix => if p.1 = 50 then zhas c 9 ix 0 0 0 else if p.1 = 51 then zhas c 10 ix 0 0 0 else zhas c 0 ix p.1 p.2.1 0
  | .putfield ix => zhas c 0 ix p.1 p.2.1 0 && p.2.2 == zsrt p.1 p.2.1 && (bif ((zcl p.1).2.1 p.2.1).2.2.2 then decide (nm = "<init>") && decide (((zcl p.1).2.1 p.2.1).1 = zown c) else true)
  | .getstatic ix => if p.1 = 0 then zhas c 11 ix 0 0 0 else zhas c 12 ix 0 0 0
  | .ldc ix => if p.1 = 0 then zhas c 4 ix 0 0 p.2.2 else zhas c 6 ix p.2.1 0 0
  | .ldc_w ix => zhas c 4 ix 0 0 p.2.2
  | .ldc2_w ix => zhas c 5 ix 0 0 p.2.2
  | .new ix => zhas c 3 ix p.1 0 0 && p.2.1 == (zcl p.1).2.2
  | .anewarray ix => zhas c 7 ix 0 0 0
  | .multianewarray ix d => d == 2 && zhas c 8 ix 0 0 0
  | .newarray t => decide (zakind t ≤ 3)
  | .iconst n => decide (-2147483648 ≤ n) && decide (n < 2147483648)
  | .bipush n => decide (-128 ≤ n) && decide (n < 128)
  | .sipush n => decide (-32768 ≤ n) && decide (n < 32768)
  | .invokestatic ix => (match p.2.2 with
    | 0 => zhas c 1 ix p.1 0 0 && zsort (zmi p.1) == 0 && p.2.1 == znar (zmi p.1) && decide (p.1 < 253)
    | 2 => zhas c 14 ix 0 0 0
    | 3 => zhas c 15 ix 0 0 0
    | 4 => zhas c 16 ix 0 0 0
    | _ => false)
  | .invokevirtual ix => (match p.2.2 with
    | 0 => zhas c 1 ix p.1 0 0 && zsort (zmi p.1) == 1 && p.2.1 == znar (zmi p.1) + 1 && decide (p.1 < 253)
    | _ => false)
  | .invokespecial ix => (match p.2.2 with
    | 0 => (zhas c 1 ix p.1 0 0 || zhas c 2 ix p.1 0 0) && zsort (zmi p.1) == 2 && p.2.1 == znar (zmi p.1) + 1 && decide (p.1 < 253)
    | _ => zhas c 13 ix 0 0 0)
  | .ireturn => zretok ret p.1
  | .lreturn => decide (ret = some .long)
  | .return_ => decide (ret = none)
  | _ => true
def zchk (cb : ByteArray) (c : Nat) (nm : String) (ret : Option FieldType) : Nat → List ZN → Bool
  | _, [] => false
  | pc, (i, n, p) :: k => match i with
    | .nop => decide (p.1 = pc) && k.isEmpty
    | i => decide (decode cb pc = .ok (i, n)) && zlenok i n && zck c nm ret i p && (match i with
      | .goto off => decide ((pc : Int) + off = (p.1 : Int)) && k.isEmpty
      | .ifCond _ off => decide ((pc : Int) + off = (p.1 : Int)) && zchk cb c nm ret (pc + n) k
      | .if_icmp _ off => decide ((pc : Int) + off = (p.1 : Int)) && zchk cb c nm ret (pc + n) k
      | .tableswitch d lo hi offs => decide (p.1 = pc) && k.isEmpty && decide ((offs.toList.length : Int) = hi - lo + 1) && decide (0 ≤ (pc : Int) + d) && offs.toList.all (fun o => decide (0 ≤ (pc : Int) + o))
      | .lookupswitch d ps => decide (p.1 = pc) && k.isEmpty && (ps.toList.zip (ps.toList.drop 1)).all (fun (a, next) => a.1 < next.1) && decide (0 ≤ (pc : Int) + d) && ps.toList.all (fun o => decide (0 ≤ (pc : Int) + o.2))
      | .ireturn | .lreturn | .return_ => k.isEmpty
      | _ => zchk cb c nm ret (pc + n) k)
def zchkm (t : ZT) (l : List (Nat × List ZN)) : Bool := match t with
  | (y, _, ret, _, _, c, _, (cp, _, _, _)) => decide (c < 20) && l.all fun x => zchk (zcodeAt cp) c y.name ret x.1 x.2
