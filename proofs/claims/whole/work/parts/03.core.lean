/-! A machine of numbers over named cells: values, memory, one step, a method's run. The rows behind it (04) show that the JVM's machine does the same. -/
/-- a value: an int, a long, or (tag, name): 0 null, 1 a cell (r, o), 2 nothing, 4 a String constant, 5 its bytes, 6 some reference -/
abbrev ZV : Type := Int ⊕ (Int ⊕ (Nat × Nat × Nat))
abbrev zi (n : Int) : ZV := .inl n
abbrev zl (n : Int) : ZV := .inr (.inl n)
abbrev zx (t r o : Nat) : ZV := .inr (.inr (t, r, o))
abbrev zr (r o : Nat) : ZV := .inr (.inr (1, r, o))
abbrev zu : ZV := .inr (.inr (2, 0, 0))
abbrev zn : ZV := .inr (.inr (0, 0, 0))
abbrev ZK : Type := Nat → Nat → Option (Nat × Nat)
abbrev ZF : Type := Nat → Nat → Nat → ZV
abbrev ZA : Type := Nat → Nat → Nat → Int
abbrev ZW : Type := List (Nat × Nat) × Nat × Nat
/-- memory: kinds and sizes; fields and rows of references; rows of numbers; names for new cells, how many cells and slots were made -/
abbrev ZM : Type := ZK × ZF × ZA × ZW
def zuf (f : ZF) (r o k : Nat) (v : ZV) : ZF := fun r' o' k' => if r' = r ∧ o' = o ∧ k' = k then v else f r' o' k'
def zua (a : ZA) (r o k : Nat) (v : Int) : ZA := fun r' o' k' => if r' = r ∧ o' = o ∧ k' = k then v else a r' o' k'
def zuk (q : ZK) (r o : Nat) (v : Nat × Nat) : ZK := fun r' o' => if r' = r ∧ o' = o then some v else q r' o'
def zuF (f : ZF) (r o : Nat) (g : Nat → ZV) : ZF := fun r' o' k' => if r' = r ∧ o' = o then g k' else f r' o' k'
def zuA (a : ZA) (r o : Nat) (g : Nat → Int) : ZA := fun r' o' k' => if r' = r ∧ o' = o then g k' else a r' o' k'
-- numbers as the machine counts them
def zadd (x y : Int) : Int := (Int32.ofInt x + Int32.ofInt y).toInt
def zsub (x y : Int) : Int := (Int32.ofInt x - Int32.ofInt y).toInt
def zmul (x y : Int) : Int := (Int32.ofInt x * Int32.ofInt y).toInt
def zdiv (x y : Int) : Int := (Int32.ofInt x / Int32.ofInt y).toInt
def zrem (x y : Int) : Int := (Int32.ofInt x - Int32.ofInt x / Int32.ofInt y * Int32.ofInt y).toInt
def zneg (x : Int) : Int := (-Int32.ofInt x).toInt
def zand (x y : Int) : Int := (Int32.ofInt x &&& Int32.ofInt y).toInt
def zor (x y : Int) : Int := (Int32.ofInt x ||| Int32.ofInt y).toInt
def zshl (x y : Int) : Int := (Int32.ofInt x <<< (Int32.ofInt y &&& 31)).toInt
def zshr (x y : Int) : Int := (Int32.ofInt x >>> (Int32.ofInt y &&& 31)).toInt
def zushr (x y : Int) : Int := ((Int32.ofInt x).toUInt32 >>> ((Int32.ofInt y).toUInt32 &&& Int32.toUInt32 31)).toInt32.toInt
def zland (x y : Int) : Int := (Int64.ofInt x &&& Int64.ofInt y).toInt
def zlor (x y : Int) : Int := (Int64.ofInt x ||| Int64.ofInt y).toInt
def zlshl (x y : Int) : Int := (Int64.ofInt x <<< ((Int32.ofInt y).toInt64 &&& 63)).toInt
def zlshr (x y : Int) : Int := (Int64.ofInt x >>> ((Int32.ofInt y).toInt64 &&& 63)).toInt
def zl2i (x : Int) : Int := (Int64.ofInt x).toInt32.toInt
def zi2b (x : Int) : Int := (Int32.ofInt x).toInt8.toInt32.toInt
def zi2s (x : Int) : Int := (Int32.ofInt x).toInt16.toInt32.toInt
def zi2c (x : Int) : Int := ((Int32.ofInt x).toUInt32 % 65536).toInt32.toInt
def zlcmp (x y : Int) : Int := if x < y then -1 else if x = y then 0 else 1
def zislong : ZV → Bool
  | .inr (.inl _) => true
  | _ => false
def zcat : ZV → Nat
  | .inr (.inl _) => 2
  | _ => 1
def zst1 : List ZV → Nat → ZV → List ZV
  | [], _, _ => []
  | _ :: t, 0, v => v :: t
  | h :: t, i + 1, v => (bif i == 0 && zislong h then zu else h) :: zst1 t i v
def zst2 : List ZV → Nat → ZV → List ZV
  | [], _, _ => []
  | _ :: [], 0, _ => []
  | _ :: _ :: t, 0, v => v :: zu :: t
  | h :: t, i + 1, v => (bif i == 0 && zislong h then zu else h) :: zst2 t i v
def zgetI (ls : List ZV) (i : Nat) : Option Int := match ls[i]? with
  | some (.inl x) => some x
  | _ => none
def zstrs : List (List Int) := [[119, 97, 121], [101, 121, 101], [115, 112, 101, 101, 100], [114, 111, 108, 108, 101, 114], [116, 117, 114, 110], [98, 97, 99, 107], [104, 111, 108, 100], [114, 101, 115, 116], [100, 97, 109, 112],
  [32, 119, 97, 121, 32, 114, 111, 108, 108, 101, 114, 32, 115, 112, 101, 101, 100, 32, 101, 121, 101, 32, 116, 117, 114, 110, 32, 98, 97, 99, 107, 32, 104, 111, 108, 100, 32, 114, 101, 115, 116, 32, 100, 97, 109, 112, 32]]
def zstr (k : Nat) : List Int := zstrs.getD k []
abbrev ZP : Type := Nat × Nat × Int
abbrev ZR : Type := Option (List ZV × List ZV × ZM)
/-- loads: 1 an int, 2 a long, 3 a reference -/
def zldI (i : Nat) (ls st : List ZV) (μ : ZM) : ZR := match ls[i]? with
  | some (.inl x) => some (ls, .inl x :: st, μ)
  | _ => none
def zldL (i : Nat) (ls st : List ZV) (μ : ZM) : ZR := match ls[i]? with
  | some (.inr (.inl x)) => some (ls, .inr (.inl x) :: st, μ)
  | _ => none
def zldA (i : Nat) (ls st : List ZV) (μ : ZM) : ZR := match ls[i]? with
  | some (.inr (.inr (t, r, o))) => if t = 1 ∨ ((t = 4 ∨ t = 5) ∧ r < 10) then some (ls, .inr (.inr (t, r, o)) :: st, μ) else none
  | _ => none
def zstI (i : Nat) (ls st : List ZV) (μ : ZM) : ZR := match st with
  | .inl x :: st' => if i < ls.length then some (zst1 ls i (.inl x), st', μ) else none
  | _ => none
def zstL (i : Nat) (ls st : List ZV) (μ : ZM) : ZR := match st with
  | .inr (.inl x) :: st' => if i + 1 < ls.length then some (zst2 ls i (.inr (.inl x)), st', μ) else none
  | _ => none
def zstA (i : Nat) (ls st : List ZV) (μ : ZM) : ZR := match st with
  | .inr (.inr (t, r, o)) :: st' => if i < ls.length ∧ t = 1 then some (zst1 ls i (.inr (.inr (t, r, o))), st', μ) else none
  | _ => none
/-- loads and stores of rows: kd the kind -/
def zaldN (kd : Nat) (lg : Bool) (st : List ZV) (ls : List ZV) (μ : ZM) : ZR := match st with
  | .inl i :: .inr (.inr (t, r, o)) :: st' =>
    match t, μ.1 r o with
    | 1, some (k, n) => if (k = kd ∨ (kd = 0 ∧ k = 6)) ∧ 0 ≤ i ∧ i < (n : Int) then some (ls, (bif lg then .inr (.inl (μ.2.2.1 r o i.toNat)) else .inl (μ.2.2.1 r o i.toNat)) :: st', μ) else none
    | _, _ => none
  | _ => none
def zbald (st : List ZV) (ls : List ZV) (μ : ZM) : ZR := match st with
  | .inl i :: .inr (.inr (t, r, o)) :: st' =>
    match t with
    | 5 => if 0 ≤ i ∧ i < ((zstr r).length : Int) ∧ r < 10 then some (ls, .inl ((zstr r).getD i.toNat 0) :: st', μ) else none
    | 1 => match μ.1 r o with
      | some (k, n) => if (k = 1 ∨ k = 2) ∧ 0 ≤ i ∧ i < (n : Int) then some (ls, .inl (μ.2.2.1 r o i.toNat) :: st', μ) else none
      | _ => none
    | _ => none
  | _ => none
def zaald (st : List ZV) (ls : List ZV) (μ : ZM) : ZR := match st with
  | .inl i :: .inr (.inr (t, r, o)) :: st' =>
    match t, μ.1 r o with
    | 1, some (k, n) => if (k = 4 ∨ k = 5) ∧ 0 ≤ i ∧ i < (n : Int) then some (ls, μ.2.1 r o i.toNat :: st', μ) else none
    | _, _ => none
  | _ => none
def zastI (st : List ZV) (ls : List ZV) (μ : ZM) : ZR := match st with
  | .inl x :: .inl i :: .inr (.inr (t, r, o)) :: st' =>
    match t, μ.1 r o with
    | 1, some (k, n) => if k = 0 ∧ 0 ≤ i ∧ i < (n : Int) then some (ls, st', (μ.1, μ.2.1, zua μ.2.2.1 r o i.toNat x, μ.2.2.2)) else none
    | _, _ => none
  | _ => none
def zastB (st : List ZV) (ls : List ZV) (μ : ZM) : ZR := match st with
  | .inl x :: .inl i :: .inr (.inr (t, r, o)) :: st' =>
    match t, μ.1 r o with
    | 1, some (k, n) => if ((k = 1 ∧ (x = 0 ∨ x = 1)) ∨ (k = 2 ∧ -128 ≤ x ∧ x < 128)) ∧ 0 ≤ i ∧ i < (n : Int) then some (ls, st', (μ.1, μ.2.1, zua μ.2.2.1 r o i.toNat x, μ.2.2.2)) else none
    | _, _ => none
  | _ => none
def zastL (st : List ZV) (ls : List ZV) (μ : ZM) : ZR := match st with
  | .inr (.inl x) :: .inl i :: .inr (.inr (t, r, o)) :: st' =>
    match t, μ.1 r o with
    | 1, some (k, n) => if k = 3 ∧ 0 ≤ i ∧ i < (n : Int) then some (ls, st', (μ.1, μ.2.1, zua μ.2.2.1 r o i.toNat x, μ.2.2.2)) else none
    | _, _ => none
  | _ => none
/-- aastore, of objects of the class of kind 12 into a row of kind 4 -/
def zaast (st : List ZV) (ls : List ZV) (μ : ZM) : ZR := match st with
  | .inr (.inr (t', r', o')) :: .inl i :: .inr (.inr (t, r, o)) :: st' =>
    match t, t', μ.1 r o, μ.1 r' o' with
    | 1, 1, some (k, n), some (k', _) => if k = 4 ∧ k' = 12 ∧ 0 ≤ i ∧ i < (n : Int) then some (ls, st', (μ.1, zuf μ.2.1 r o i.toNat (.inr (.inr (1, r', o'))), μ.2.2)) else none
    | _, _, _, _ => none
  | _ => none
def zalen (st : List ZV) (ls : List ZV) (μ : ZM) : ZR := match st with
  | .inr (.inr (t, r, o)) :: st' =>
    match t with
    | 5 => if r < 10 then some (ls, .inl ((zstr r).length : Int) :: st', μ) else none
    | 1 => match μ.1 r o with
      | some (k, n) => if k < 7 ∧ n < 2147483648 then some (ls, .inl (n : Int) :: st', μ) else none
      | _ => none
    | _ => none
  | _ => none
/-- getfield: the class's number and the field's; 50, 51: value and coder of a String constant -/
def zgetf (p : ZP) (st : List ZV) (ls : List ZV) (μ : ZM) : ZR := match st with
  | .inr (.inr (t, r, o)) :: st' =>
    match t with
    | 4 => if p.1 = 50 ∧ r < 10 then some (ls, .inr (.inr (5, r, 0)) :: st', μ) else if p.1 = 51 ∧ r < 10 then some (ls, .inl 0 :: st', μ) else none
    | 1 => match μ.1 r o with
      | some (k, n) => if k = p.1 + 10 ∧ p.1 < 13 ∧ p.2.1 < n then some (ls, μ.2.1 r o p.2.1 :: st', μ) else none
      | _ => none
    | _ => none
  | _ => none
/-- the sort of a field: 0 int, 1 boolean, 2 a reference -/
def zfits (srt : Int) (v : ZV) : Bool := match v with
  | .inl x => srt == 0 || (srt == 1 && (x == 0 || x == 1))
  | .inr (.inl _) => false
  | .inr (.inr (t, _, _)) => srt == 2 && t == 1
def zputf (p : ZP) (st : List ZV) (ls : List ZV) (μ : ZM) : ZR := match st with
  | v :: .inr (.inr (t, r, o)) :: st' =>
    match t, μ.1 r o with
    | 1, some (k, n) => if k = p.1 + 10 ∧ p.1 < 13 ∧ p.2.1 < n ∧ zfits p.2.2 v = true then some (ls, st', (μ.1, zuf μ.2.1 r o p.2.1 v, μ.2.2)) else none
    | _, _ => none
  | _ => none
/-- the next name, if it is free -/
def znew (kd n : Nat) (g : Nat → ZV) (μ : ZM) : Option ((Nat × Nat) × ZM) := match μ with
  | (q, f, a, (r, o) :: ns, c, s) => if q r o = none then some ((r, o), (zuk q r o (kd, n), zuF f r o g, zuA a r o (fun _ => 0), ns, c + 1, s + n)) else none
  | _ => none
def zdfl (ci : Nat) (srts : Nat → Int) : Nat → ZV := fun k => if srts k = 2 then zn else .inl 0
def znewa (kd : Nat) (st ls : List ZV) (μ : ZM) : ZR := match st with
  | .inl n :: st' => if 0 ≤ n ∧ n ≤ 1000000 then (match znew kd n.toNat (fun _ => zn) μ with
    | some ((r, o), μ') => some (ls, .inr (.inr (1, r, o)) :: st', μ')
    | none => none) else none
  | _ => none
def zakind : ClassFile.ArrayType → Nat
  | .int => 0
  | .boolean => 1
  | .byte => 2
  | .long => 3
  | _ => 99
def zbin (st ls : List ZV) (μ : ZM) (g : Int → Int → Int) : ZR := match st with
  | .inl y :: .inl x :: st' => some (ls, .inl (g x y) :: st', μ)
  | _ => none
def zbind (st ls : List ZV) (μ : ZM) (g : Int → Int → Int) : ZR := match st with
  | .inl y :: .inl x :: st' => if y = 0 then none else some (ls, .inl (g x y) :: st', μ)
  | _ => none
def zun (st ls : List ZV) (μ : ZM) (g : Int → Int) : ZR := match st with
  | .inl x :: st' => some (ls, .inl (g x) :: st', μ)
  | _ => none
def zlbin (st ls : List ZV) (μ : ZM) (g : Int → Int → Int) : ZR := match st with
  | .inr (.inl y) :: .inr (.inl x) :: st' => some (ls, .inr (.inl (g x y)) :: st', μ)
  | _ => none
def zlsh (st ls : List ZV) (μ : ZM) (g : Int → Int → Int) : ZR := match st with
  | .inl y :: .inr (.inl x) :: st' => some (ls, .inr (.inl (g x y)) :: st', μ)
  | _ => none
/-- new long[4][60], by five names -/
def zmulti (st ls : List ZV) (μ : ZM) : ZR := match st, μ with
  | .inl k :: .inl n :: st', (q, f, a, (r0, o0) :: (r1, o1) :: (r2, o2) :: (r3, o3) :: (r4, o4) :: ns, c, s) =>
    if n = 4 ∧ k = 60 ∧ q r0 o0 = none ∧ q r1 o1 = none ∧ q r2 o2 = none ∧ q r3 o3 = none ∧ q r4 o4 = none ∧ [(r0, o0), (r1, o1), (r2, o2), (r3, o3), (r4, o4)].Nodup then
      some (ls, .inr (.inr (1, r0, o0)) :: st', (zuk (zuk (zuk (zuk (zuk q r1 o1 (3, 60)) r2 o2 (3, 60)) r3 o3 (3, 60)) r4 o4 (3, 60)) r0 o0 (5, 4),
        zuF (zuF (zuF (zuF (zuF f r1 o1 (fun _ => zn)) r2 o2 (fun _ => zn)) r3 o3 (fun _ => zn)) r4 o4 (fun _ => zn)) r0 o0 (fun i => if i = 0 then zr r1 o1 else if i = 1 then zr r2 o2 else if i = 2 then zr r3 o3 else if i = 3 then zr r4 o4 else zn),
        zuA (zuA (zuA (zuA (zuA a r1 o1 (fun _ => 0)) r2 o2 (fun _ => 0)) r3 o3 (fun _ => 0)) r4 o4 (fun _ => 0)) r0 o0 (fun _ => 0), ns, c + 5, s + 244))
    else none
  | _, _ => none
/-- the sorts of the classes' fields: 0 int, 1 boolean, 2 a reference -/
def zsrt (ci k : Nat) : Int := match ci with
  | 0 => (match tyX0 k with | .int => 0 | .boolean => 1 | _ => 2)
  | 1 => (match tyX1 k with | .int => 0 | .boolean => 1 | _ => 2)
  | 2 => (match tyX2 k with | .int => 0 | .boolean => 1 | _ => 2)
  | 3 => (match tyX3 k with | .int => 0 | .boolean => 1 | _ => 2)
  | 4 => (match tyX4 k with | .int => 0 | .boolean => 1 | _ => 2)
  | 5 => (match tyX5 k with | .int => 0 | .boolean => 1 | _ => 2)
  | 6 => (match tyX6 k with | .int => 0 | .boolean => 1 | _ => 2)
  | 7 => (match tyX7 k with | .int => 0 | .boolean => 1 | _ => 2)
  | 8 => (match tyX8 k with | .int => 0 | .boolean => 1 | _ => 2)
  | 9 => (match tyX9 k with | .int => 0 | .boolean => 1 | _ => 2)
  | 10 => (match tyX10 k with | .int => 0 | .boolean => 1 | _ => 2)
  | 11 => (match tyX11 k with | .int => 0 | .boolean => 1 | _ => 2)
  | _ => (match tyX12 k with | .int => 0 | .boolean => 1 | _ => 2)
def znewo (p : ZP) (st ls : List ZV) (μ : ZM) : ZR := if p.1 < 13 then (match znew (p.1 + 10) p.2.1 (zdfl p.1 (zsrt p.1)) μ with
  | some ((r, o), μ') => some (ls, .inr (.inr (1, r, o)) :: st, μ')
  | none => none) else none
/-- System.arraycopy of ints or booleans, from one row to another -/
def zcopy (st ls : List ZV) (μ : ZM) : ZR := match st with
  | .inl n :: .inl dp :: .inr (.inr (1, r2, o2)) :: .inl sp :: .inr (.inr (1, r1, o1)) :: st' =>
    match μ.1 r1 o1, μ.1 r2 o2 with
    | some (k1, n1), some (k2, n2) => if k1 = k2 ∧ k1 < 2 ∧ ¬(r1 = r2 ∧ o1 = o2) ∧ 0 ≤ n ∧ 0 ≤ sp ∧ 0 ≤ dp ∧ sp + n ≤ n1 ∧ dp + n ≤ n2 then
        some (ls, st', (μ.1, μ.2.1, (fun r o j => if r = r2 ∧ o = o2 ∧ dp.toNat ≤ j ∧ j < dp.toNat + n.toNat then μ.2.2.1 r1 o1 (sp.toNat + (j - dp.toNat)) else μ.2.2.1 r o j), μ.2.2.2)) else none
    | _, _ => none
  | _ => none
def zmax (x y : Int) : Int := if x < y then y else x
def zmin (x y : Int) : Int := if y < x then y else x
/-- the static methods that are one step here: Math.max, Math.min, System.arraycopy -/
def zistat (p : ZP) (st ls : List ZV) (μ : ZM) : ZR := if (st.map zcat).sum ≤ 13 then (match p.2.2 with
  | 3 => zbin st ls μ zmax
  | 4 => zbin st ls μ zmin
  | _ => zcopy st ls μ) else none
/-- one instruction that neither jumps, calls nor ends -/
def zop (i : Instr) (p : ZP) (ls st : List ZV) (μ : ZM) : ZR := match i with
  | .aload n => zldA n ls st μ
  | .aload_n n => zldA n.val ls st μ
  | .iload n => zldI n ls st μ
  | .iload_n n => zldI n.val ls st μ
  | .lload n => zldL n ls st μ
  | .lload_n n => zldL n.val ls st μ
  | .istore n => zstI n ls st μ
  | .istore_n n => zstI n.val ls st μ
  | .lstore n => zstL n ls st μ
  | .lstore_n n => zstL n.val ls st μ
  | .astore n => zstA n ls st μ
  | .astore_n n => zstA n.val ls st μ
  | .iinc n c => match ls[n]? with
    | some (.inl x) => some (zst1 ls n (.inl (zadd x c)), st, μ)
    | _ => none
  | .iconst n => some (ls, .inl n :: st, μ)
  | .bipush n => some (ls, .inl n :: st, μ)
  | .sipush n => some (ls, .inl n :: st, μ)
  | .lconst n => some (ls, .inr (.inl (n.val : Int)) :: st, μ)
  | .ldc _ => match p.1 with
    | 0 => some (ls, .inl p.2.2 :: st, μ)
    | _ => if p.2.1 < 10 then some (ls, .inr (.inr (4, p.2.1, 0)) :: st, μ) else none
  | .ldc_w _ => some (ls, .inl p.2.2 :: st, μ)
  | .ldc2_w _ => some (ls, .inr (.inl p.2.2) :: st, μ)
  | .getfield _ => zgetf p st ls μ
  | .putfield _ => zputf p st ls μ
  | .getstatic _ => match p.1 with
    | 0 => some (ls, .inl 1 :: st, μ)
    | _ => some (ls, .inr (.inr (6, 0, 0)) :: st, μ)
  | .iaload => zaldN 0 false st ls μ
  | .laload => zaldN 3 true st ls μ
  | .baload => zbald st ls μ
  | .aaload => zaald st ls μ
  | .iastore => zastI st ls μ
  | .bastore => zastB st ls μ
  | .lastore => zastL st ls μ
  | .aastore => zaast st ls μ
  | .arraylength => zalen st ls μ
  | .newarray t => znewa (zakind t) st ls μ
  | .anewarray _ => znewa 4 st ls μ
  | .multianewarray _ _ => zmulti st ls μ
  | .new _ => znewo p st ls μ
  | .iadd => zbin st ls μ zadd
  | .isub => zbin st ls μ zsub
  | .imul => zbin st ls μ zmul
  | .idiv => zbind st ls μ zdiv
  | .irem => zbind st ls μ zrem
  | .ineg => zun st ls μ zneg
  | .iand => zbin st ls μ zand
  | .ior => zbin st ls μ zor
  | .ishl => zbin st ls μ zshl
  | .ishr => zbin st ls μ zshr
  | .iushr => zbin st ls μ zushr
  | .land => zlbin st ls μ zland
  | .lor => zlbin st ls μ zlor
  | .lshl => zlsh st ls μ zlshl
  | .lshr => zlsh st ls μ zlshr
  | .lcmp => match st with
    | .inr (.inl y) :: .inr (.inl x) :: st' => some (ls, .inl (zlcmp x y) :: st', μ)
    | _ => none
  | .i2l => match st with
    | .inl x :: st' => some (ls, .inr (.inl x) :: st', μ)
    | _ => none
  | .l2i => match st with
    | .inr (.inl x) :: st' => some (ls, .inl (zl2i x) :: st', μ)
    | _ => none
  | .i2b => zun st ls μ zi2b
  | .i2s => zun st ls μ zi2s
  | .i2c => zun st ls μ zi2c
  | .dup => match st with
    | v :: st' => if zislong v = true then none else some (ls, v :: v :: st', μ)
    | _ => none
  | .dup2 => match st with
    | v :: w :: st' => if zislong v = true ∨ zislong w = true then none else some (ls, v :: w :: v :: w :: st', μ)
    | _ => none
  | .pop => match st with
    | v :: st' => if zislong v = true then none else some (ls, st', μ)
    | _ => none
  | .invokespecial _ => match st with
    | .inr (.inr (1, _, _)) :: st' => if (st'.map zcat).sum ≤ 8 then some (ls, st', μ) else none
    | _ => none
  | .invokestatic _ => zistat p st ls μ
  | _ => none
/-- where a switch goes: pc the switch's own place -/
def zsw (pc : Nat) (d lo hi : Int) (offs : Array Int) (x : Int) : Nat := if x < lo ∨ hi < x then ((pc : Int) + d).toNat else ((pc : Int) + (offs[(x - lo).toNat]?.getD d)).toNat
def zlsw (pc : Nat) (d : Int) (ps : List (Int × Int)) (x : Int) : Nat := match ps with
  | [] => ((pc : Int) + d).toNat
  | (k, o) :: t => if x = k then ((pc : Int) + o).toNat else zlsw pc d t x
abbrev ZN : Type := Instr × Nat × ZP
abbrev ZO : Type := Option (Option ZV × ZM)
/-- a stretch of code: 'call' what methods do, 'rec' what comes behind a jump -/
def zexec (call : Nat → List ZV → ZM → ZO) (rec : Nat → List ZV → List ZV → ZM → ZO) : List ZN → List ZV → List ZV → ZM → ZO
  | [], _, _, _ => none
  | (i, _, p) :: k, ls, st, μ => match i with
    | .nop => rec p.1 ls st μ
    | .goto _ => rec p.1 ls st μ
    | .ifCond c _ => (match st with
      | .inl x :: st' => (match c with
        | .eq => if x = 0 then rec p.1 ls st' μ else zexec call rec k ls st' μ
        | .ne => if x = 0 then zexec call rec k ls st' μ else rec p.1 ls st' μ
        | .lt => if x < 0 then rec p.1 ls st' μ else zexec call rec k ls st' μ
        | .ge => if x < 0 then zexec call rec k ls st' μ else rec p.1 ls st' μ
        | .gt => if 0 < x then rec p.1 ls st' μ else zexec call rec k ls st' μ
        | .le => if 0 < x then zexec call rec k ls st' μ else rec p.1 ls st' μ)
      | _ => none)
    | .if_icmp c _ => (match st with
      | .inl y :: .inl x :: st' => (match c with
        | .eq => if x = y then rec p.1 ls st' μ else zexec call rec k ls st' μ
        | .ne => if x = y then zexec call rec k ls st' μ else rec p.1 ls st' μ
        | .lt => if x < y then rec p.1 ls st' μ else zexec call rec k ls st' μ
        | .ge => if x < y then zexec call rec k ls st' μ else rec p.1 ls st' μ
        | .gt => if y < x then rec p.1 ls st' μ else zexec call rec k ls st' μ
        | .le => if y < x then zexec call rec k ls st' μ else rec p.1 ls st' μ)
      | _ => none)
    | .tableswitch d lo hi offs => (match st with
      | .inl x :: st' => rec (zsw p.1 d lo hi offs x) ls st' μ
      | _ => none)
    | .lookupswitch d ps => (match st with
      | .inl x :: st' => rec (zlsw p.1 d ps.toList x) ls st' μ
      | _ => none)
    | .ireturn => (match st with
      | .inl x :: [] => if p.1 = 0 ∨ (p.1 = 1 ∧ (x = 0 ∨ x = 1)) ∨ (p.1 = 2 ∧ -128 ≤ x ∧ x < 128) ∨ (p.1 = 3 ∧ 0 ≤ x ∧ x < 65536) then some (some (.inl x), μ) else none
      | _ => none)
    | .lreturn => (match st with
      | .inr (.inl x) :: [] => some (some (.inr (.inl x)), μ)
      | _ => none)
    | .return_ => (match st with
      | [] => some (none, μ)
      | _ => none)
    | .invokestatic _ | .invokevirtual _ | .invokespecial _ =>
      (match p.2.2 with
      | 0 => if p.2.1 ≤ st.length ∧ ((st.drop p.2.1).map zcat).sum ≤ 8 then (match call p.1 ((st.take p.2.1).reverse) μ with
        | some (none, μ') => zexec call rec k ls (st.drop p.2.1) μ'
        | some (some v, μ') => zexec call rec k ls (v :: st.drop p.2.1) μ'
        | none => none) else none
      | _ => (match zop i p ls st μ with
        | some (ls', st', μ') => zexec call rec k ls' st' μ'
        | none => none))
    | i => (match zop i p ls st μ with
      | some (ls', st', μ') => zexec call rec k ls' st' μ'
      | none => none)
/-- a method's run, by at most so many jumps -/
def zrunF (call : Nat → List ZV → ZM → ZO) (seg : Nat → List ZN) : Nat → Nat → List ZV → List ZV → ZM → ZO
  | 0, _, _, _, _ => none
  | n + 1, l, ls, st, μ => zexec call (zrunF call seg n) (seg l) ls st μ
theorem zexec_mono {call : Nat → List ZV → ZM → ZO} {r1 r2 : Nat → List ZV → List ZV → ZM → ZO} (h : ∀ l ls st μ x, r1 l ls st μ = some x → r2 l ls st μ = some x) :
    ∀ (k : List ZN) (ls st : List ZV) (μ : ZM) (x : Option ZV × ZM), zexec call r1 k ls st μ = some x → zexec call r2 k ls st μ = some x
  | [], _, _, _, _, hx => by simp [zexec] at hx
  | (i, n, p) :: k, ls, st, μ, x, hx => by
    have ih := zexec_mono (call := call) h k
    revert hx
    unfold zexec
    repeat' split
    all_goals first
      | exact fun hx => hx
      | exact fun hx => h _ _ _ _ _ hx
      | exact fun hx => ih _ _ _ _ hx
theorem zexec_fin {call : Nat → List ZV → ZM → ZO} {r : Nat → List ZV → List ZV → ZM → ZO} {F : Nat → Nat → List ZV → List ZV → ZM → ZO} (h : ∀ l ls st μ x, r l ls st μ = some x → ∃ n, F n l ls st μ = some x) :
    ∀ (k : List ZN) (ls st : List ZV) (μ : ZM) (x : Option ZV × ZM), zexec call r k ls st μ = some x → ∃ n, zexec call (F n) k ls st μ = some x
  | [], _, _, _, _, hx => by simp [zexec] at hx
  | (i, n, p) :: k, ls, st, μ, x, hx => by
    have ih := zexec_fin (call := call) h k
    revert hx
    unfold zexec
    repeat' split
    all_goals first
      | exact fun hx => ⟨0, hx⟩
      | exact fun hx => h _ _ _ _ _ hx
      | exact fun hx => ih _ _ _ _ hx
theorem zrunF_succ {call : Nat → List ZV → ZM → ZO} {seg : Nat → List ZN} : ∀ (n : Nat) (l : Nat) (ls st : List ZV) (μ : ZM) (x : Option ZV × ZM), zrunF call seg n l ls st μ = some x → zrunF call seg (n + 1) l ls st μ = some x
  | 0, _, _, _, _, _, h => by simp [zrunF] at h
  | n + 1, l, ls, st, μ, x, h => zexec_mono (zrunF_succ n) (seg l) ls st μ x h
theorem zrunF_le {call : Nat → List ZV → ZM → ZO} {seg : Nat → List ZN} {n l : Nat} {ls st : List ZV} {μ : ZM} {x : Option ZV × ZM} (h : zrunF call seg n l ls st μ = some x) : ∀ d, zrunF call seg (n + d) l ls st μ = some x
  | 0 => h
  | d + 1 => zrunF_succ _ _ _ _ _ _ (zrunF_le h d)
/-- a method's run from a place: what it comes to, if it ends -/
noncomputable def zrun (call : Nat → List ZV → ZM → ZO) (seg : Nat → List ZN) (l : Nat) (ls st : List ZV) (μ : ZM) : ZO :=
  match Classical.propDecidable (∃ n x, zrunF call seg n l ls st μ = some x) with
  | .isTrue h => some (Classical.choose (Classical.choose_spec h))
  | .isFalse _ => none
theorem zrun_iff {call : Nat → List ZV → ZM → ZO} {seg : Nat → List ZN} {l : Nat} {ls st : List ZV} {μ : ZM} {x : Option ZV × ZM} : zrun call seg l ls st μ = some x ↔ ∃ n, zrunF call seg n l ls st μ = some x := by
  unfold zrun
  split
  · rename_i h _
    have h1 := Classical.choose_spec (Classical.choose_spec h)
    constructor
    · intro e
      cases e
      exact ⟨_, h1⟩
    · intro ⟨n, hn⟩
      have a := zrunF_le hn (Classical.choose h)
      have b := zrunF_le h1 n
      rw [Nat.add_comm] at b
      exact (b.symm.trans a)
  · rename_i h _
    constructor
    · intro e; cases e
    · intro ⟨n, hn⟩
      exact absurd ⟨n, x, hn⟩ h
theorem zo_ext {a b : ZO} (h : ∀ x, a = some x ↔ b = some x) : a = b := by
  cases a with
  | none => cases b with
    | none => rfl
    | some y => exact ((h y).mpr rfl)
  | some y => exact ((h y).mp rfl).symm
theorem zrun_eq {call : Nat → List ZV → ZM → ZO} {seg : Nat → List ZN} {l : Nat} {ls st : List ZV} {μ : ZM} : zrun call seg l ls st μ = zexec call (zrun call seg) (seg l) ls st μ := by
  apply zo_ext
  intro x
  rw [zrun_iff]
  constructor
  · intro ⟨n, hn⟩
    cases n with
    | zero => simp [zrunF] at hn
    | succ n => exact zexec_mono (fun l ls st μ x h => zrun_iff.mpr ⟨n, h⟩) _ _ _ _ _ hn
  · intro h
    obtain ⟨n, hn⟩ := zexec_fin (F := zrunF call seg) (fun l ls st μ x h => zrun_iff.mp h) _ _ _ _ _ h
    exact ⟨n + 1, hn⟩
/-- the locals with which a method begins -/
def zloc : List ZV → Nat → List ZV
  | [], n => List.replicate n zu
  | v :: t, n => bif zislong v then v :: zu :: zloc t (n - 2) else v :: zloc t (n - 1)
/-- what method j does, by at most d calls within one another -/
noncomputable def zcall (seg : Nat → Nat → List ZN) (maxL : Nat → Nat) : Nat → Nat → List ZV → ZM → ZO
  | 0, _, _, _ => none
  | d + 1, j, as, μ => zrun (zcall seg maxL d) (seg j) 0 (zloc as (maxL j)) [] μ
