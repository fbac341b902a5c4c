/-! THE SMALL MACHINE: a memory of numbered objects, a run of a block of instructions as a pure function -/
/-- next number, slots made, script's length, ints, longs, references (0: null) -/
abbrev zM : Type := Nat × Nat × Nat × (Nat → Nat → Int32) × (Nat → Nat → Int64) × (Nat → Nat → Nat)
abbrev zR : Type := Option Value × zM
abbrev zLs : Type := List (Option Value)
/-- an instruction: its place, its length, itself, its numbers, its constant -/
abbrev zE : Type := Nat × Nat × Instr × List Nat × Value
abbrev zC : Type := zLs → List Value → zM → Option zR
abbrev zJ : Type := Nat → zC
abbrev zF : Type := Nat → List Value → zM → Option zR
def znx (M : zM) : Nat := M.1
def zsz (M : zM) : Nat := M.2.1
def zsl (M : zM) : Nat := M.2.2.1
def zgi (M : zM) (o k : Nat) : Int32 := M.2.2.2.1 o k
def zgl (M : zM) (o k : Nat) : Int64 := M.2.2.2.2.1 o k
def zgr (M : zM) (o k : Nat) : Nat := M.2.2.2.2.2 o k
def zpi (M : zM) (o k : Nat) (v : Int32) : zM := (M.1, M.2.1, M.2.2.1, (fun a j => if a = o ∧ j = k then v else M.2.2.2.1 a j), M.2.2.2.2)
def zpl (M : zM) (o k : Nat) (v : Int64) : zM := (M.1, M.2.1, M.2.2.1, M.2.2.2.1, (fun a j => if a = o ∧ j = k then v else M.2.2.2.2.1 a j), M.2.2.2.2.2)
def zpr (M : zM) (o k : Nat) (v : Nat) : zM := (M.1, M.2.1, M.2.2.1, M.2.2.2.1, M.2.2.2.2.1, (fun a j => if a = o ∧ j = k then v else M.2.2.2.2.2 a j))
/-- one object more, of n slots, all 0 -/
def znw (M : zM) (n : Nat) : zM := (M.1 + 1, M.2.1 + n, M.2.2.1, (fun a j => if a = M.1 then 0 else M.2.2.2.1 a j), (fun a j => if a = M.1 then 0 else M.2.2.2.2.1 a j), (fun a j => if a = M.1 then 0 else M.2.2.2.2.2 a j))
def zci (M : zM) (a sp b dp n : Nat) : zM := (M.1, M.2.1, M.2.2.1, (fun o j => if o = b then va_cpy (M.2.2.2.1 a) (M.2.2.2.1 b) sp dp n j else M.2.2.2.1 o j), M.2.2.2.2)
def zcl (M : zM) (a sp b dp n : Nat) : zM := (M.1, M.2.1, M.2.2.1, M.2.2.2.1, (fun o j => if o = b then va_cpy (M.2.2.2.2.1 a) (M.2.2.2.2.1 b) sp dp n j else M.2.2.2.2.1 o j), M.2.2.2.2.2)
def znth {α : Type} : List α → Nat → Option α
  | [], _ => none
  | a :: _, 0 => some a
  | _ :: l, n + 1 => znth l n
def zset {α : Type} : List α → Nat → α → List α
  | [], _, _ => []
  | _ :: l, 0, v => v :: l
  | a :: l, n + 1, v => a :: zset l n v
def zax (a : List Nat) (i : Nat) : Nat := (znth a i).getD 0
/-- the kind of an object and how many slots it has: 1 int[], 2 long[], 3 boolean[], 4, 5 arrays of references, 10 and c: class c -/
def zkd (o : Nat) : Nat × Nat := (znth zkl (o - 16)).getD (0, 0)
/-- the longs of the static array 2, the bytes of the text constants 1001, 1003, .. -/
def zsf (i : Nat) : Int64 := (znth zsfl i).getD 0
def zbl (o : Nat) : List Int32 := (znth zstr ((o - 1000) / 2)).getD []
def zby (o i : Nat) : Int32 := (znth (zbl o) i).getD 0
/-- kinds: those above; 6 bytes of a text, 7 a text -/
def zkk (M : zM) (o : Nat) : Nat :=
  if o < 16 then (if o = 1 then 1 else if o = 2 then 2 else 0)
  else if o < 1000 then (if o < znx M then (zkd o).1 else 0)
  else if o < 1000 + 2 * zstr.length then (if o % 2 = 0 then 7 else 6) else 0
def zln (M : zM) (o : Nat) : Nat :=
  if o < 16 then (if o = 1 then zsl M else if o = 2 then zsfl.length else 0)
  else if o < 1000 then (zkd o).2
  else (zbl o).length
def zok (M : zM) (o c : Nat) (i : Int32) : Bool := zkk M o == c && (decide (0 ≤ i) && decide (i.toNatClampNeg < zln M o))
def zow (M : zM) (o c : Nat) (i : Int32) : Bool := decide (16 ≤ o) && zok M o c i
def zgb (M : zM) (o i : Nat) : Int32 := if o < 1000 then zgi M o i else zby o i
def zgL (M : zM) (o i : Nat) : Int64 := if o = 2 then zsf i else zgl M o i
/-- what is taken off the stack -/
def zI1 (st : List Value) (k : Int32 → List Value → Option zR) : Option zR := match st with
  | .int x :: st => k x st
  | _ => none
def zI2 (st : List Value) (k : Int32 → Int32 → List Value → Option zR) : Option zR := match st with
  | .int y :: .int x :: st => k x y st
  | _ => none
def zL1 (st : List Value) (k : Int64 → List Value → Option zR) : Option zR := match st with
  | .long x :: st => k x st
  | _ => none
def zL2 (st : List Value) (k : Int64 → Int64 → List Value → Option zR) : Option zR := match st with
  | .long y :: .long x :: st => k x y st
  | _ => none
def zLI (st : List Value) (k : Int64 → Int32 → List Value → Option zR) : Option zR := match st with
  | .int y :: .long x :: st => k x y st
  | _ => none
def zA1 (st : List Value) (k : Nat → List Value → Option zR) : Option zR := match st with
  | .ref x :: st => k x st
  | _ => none
def zAI (st : List Value) (k : Nat → Int32 → List Value → Option zR) : Option zR := match st with
  | .int i :: .ref a :: st => k a i st
  | _ => none
def zAII (st : List Value) (k : Nat → Int32 → Int32 → List Value → Option zR) : Option zR := match st with
  | .int x :: .int i :: .ref a :: st => k a i x st
  | _ => none
def zAIL (st : List Value) (k : Nat → Int32 → Int64 → List Value → Option zR) : Option zR := match st with
  | .long x :: .int i :: .ref a :: st => k a i x st
  | _ => none
def zAIA (st : List Value) (k : Nat → Int32 → Nat → List Value → Option zR) : Option zR := match st with
  | .ref x :: .int i :: .ref a :: st => k a i x st
  | _ => none
/-- what a local holds -/
def zlI (ls : zLs) (i : Nat) (k : Int32 → Option zR) : Option zR := match znth ls i with
  | some (some (.int x)) => k x
  | _ => none
def zlL (ls : zLs) (i : Nat) (k : Int64 → Option zR) : Option zR := match znth ls i with
  | some (some (.long x)) => k x
  | _ => none
def zlA (ls : zLs) (i : Nat) (k : Nat → Option zR) : Option zR := match znth ls i with
  | some (some (.ref x)) => k x
  | _ => none
/-- the local ahead holds no long -/
def zfr (ls : zLs) : Nat → Bool
  | 0 => true
  | i + 1 => match znth ls i with
    | some (some (.long _)) => false
    | some (some (.double _)) => false
    | _ => true
def zs1 (ls : zLs) (i : Nat) (v : Value) (k : zLs → Option zR) : Option zR := if (zfr ls i && decide (i < ls.length)) = true then k (zset ls i (some v)) else none
def zs2 (ls : zLs) (i : Nat) (v : Value) (k : zLs → Option zR) : Option zR := if (zfr ls i && decide (i + 1 < ls.length)) = true then k (zset (zset ls i (some v)) (i + 1) none) else none
def zgd (b : Bool) (r : Option zR) : Option zR := if b = true then r else none
def zbI (r : Option zR) (k : Int32 → zM → Option zR) : Option zR := match r with
  | some (some (.int x), M) => k x M
  | _ => none
def zbL (r : Option zR) (k : Int64 → zM → Option zR) : Option zR := match r with
  | some (some (.long x), M) => k x M
  | _ => none
def zbV (r : Option zR) (k : zM → Option zR) : Option zR := match r with
  | some (none, M) => k M
  | _ => none
def zpop : Nat → List Value → List Value → (List Value → List Value → Option zR) → Option zR
  | 0, acc, st, k => k acc st
  | _ + 1, _, [], _ => none
  | n + 1, acc, v :: st, k => zpop n (v :: acc) st k
def zwd : List Value → Nat
  | [] => 0
  | v :: st => v.category + zwd st
def zus (x : Int32) (y : Int32) : Int32 := (x.toUInt32 >>> (y.toUInt32 &&& Int32.toUInt32 31)).toInt32
def zul (x : Int64) (y : Int32) : Int64 := (x.toUInt64 >>> (y.toInt64.toUInt64 &&& Int64.toUInt64 63)).toInt64
def zcmp (c : Jvm.ClassFile.Cond) (x y : Int32) (a b : Option zR) : Option zR := match c with
  | .eq => if x = y then a else b
  | .ne => if x = y then b else a
  | .lt => if x < y then a else b
  | .ge => if y ≤ x then a else b
  | .gt => if y < x then a else b
  | .le => if x ≤ y then a else b
/-- a table's row -/
def ztb (x lo : Int) (js : List Nat) (d : Nat) : Nat := if x < lo then d else (znth js (x - lo).toNat).getD d
def zlk (x : Int) (ps : List (Int × Nat)) (d : Nat) : Nat := match ps with
  | [] => d
  | p :: ps => if x = p.1 then p.2 else zlk x ps d
def z01 (x : Int32) : Bool := decide (x = 0) || decide (x = 1)
/-- an array is copied: ints, or longs -/
def zcp (M : zM) (a : Nat) (sp : Int32) (b : Nat) (dp n : Int32) (k : zM → Option zR) : Option zR :=
  zgd (decide (16 ≤ a) && (decide (16 ≤ b) && (decide (0 ≤ sp) && (decide (0 ≤ dp) && (decide (0 ≤ n) && (decide (sp.toNatClampNeg + n.toNatClampNeg ≤ zln M a) && (decide (dp.toNatClampNeg + n.toNatClampNeg ≤ zln M b) && (zkk M a == zkk M b && (zkk M a == 1 || zkk M a == 2)))))))))
    (if zkk M a = 1 then k (zci M a sp.toNatClampNeg b dp.toNatClampNeg n.toNatClampNeg) else k (zcl M a sp.toNatClampNeg b dp.toNatClampNeg n.toNatClampNeg))
/-- a field's value: 0 int, 1 long, 2 reference, 3 boolean -/
def zgf (M : zM) (o k ty : Nat) : Value := match ty with
  | 1 => .long (zgl M o k)
  | 2 => .ref (zgr M o k)
  | _ => .int (zgi M o k)
/-- a reference that is read isn't null -/
def zrg (ty x : Nat) : Bool := match ty with
  | 2 => decide (16 ≤ x)
  | _ => true
/-- of a text: 0 its bytes, 1 its coder -/
def zgt (o k : Nat) : Value := match k with
  | 0 => .ref (o + 1)
  | _ => .int 0
def zpf (M : zM) (k : Nat) (ty : Nat) (c : Nat) (st : List Value) (kk : List Value → zM → Option zR) : Option zR := match ty with
  | 0 => match st with
    | .int x :: .ref o :: st => zgd (zkk M o == c) (kk st (zpi M o k x))
    | _ => none
  | 1 => match st with
    | .long x :: .ref o :: st => zgd (zkk M o == c) (kk st (zpl M o k x))
    | _ => none
  | 2 => match st with
    | .ref x :: .ref o :: st => zgd (zkk M o == c && (decide (16 ≤ x) && decide (x < znx M))) (kk st (zpr M o k x))
    | _ => none
  | _ => match st with
    | .int x :: .ref o :: st => zgd (zkk M o == c && z01 x) (kk st (zpi M o k x))
    | _ => none
/-- what a call gives back: 0 int, 1 long, 2 nothing -/
def zrk (q : Nat) (r : Option zR) (ls : zLs) (st : List Value) (kk : zC) : Option zR := match q with
  | 0 => zbI r (fun x M => kk ls (.int x :: st) M)
  | 1 => zbL r (fun x M => kk ls (.long x :: st) M)
  | _ => zbV r (fun M => kk ls st M)
/-- an int as the answer: of a method of type int (0), boolean (3), char (4), byte (5) -/
def zrt (rt : Nat) (x : Int32) (M : zM) : Option zR := match rt with
  | 0 => some (some (.int x), M)
  | 3 => zgd (z01 x) (some (some (.int x), M))
  | 4 => zgd (decide ((x.toUInt32 % 65536).toInt32 = x)) (some (some (.int x), M))
  | 5 => zgd (decide (x.toInt8.toInt32 = x)) (some (some (.int x), M))
  | _ => none
def ztl (a : List Nat) : List Nat := match a with
  | [] => []
  | _ :: t => t
/-- what isn't known any more -/
def zkil : List Nat → zLs → zLs
  | [], ls => ls
  | i :: is, ls => zkil is (zset ls i none)
/-- Math's: max, min, abs of ints; max, min of longs -/
def zmth (k : Nat) (ls : zLs) (st : List Value) (M : zM) (kk : zC) : Option zR := match k with
  | 0 => zI2 st (fun x y st => zgd (decide (zwd st ≤ 8)) (kk ls (.int (if x < y then y else x) :: st) M))
  | 1 => zI2 st (fun x y st => zgd (decide (zwd st ≤ 8)) (kk ls (.int (if y < x then y else x) :: st) M))
  | 2 => zI1 st (fun x st => zgd (decide (zwd st ≤ 8)) (kk ls (.int (if 0 ≤ x then x else 0 - x) :: st) M))
  | 3 => zL2 st (fun x y st => zgd (decide (zwd st ≤ 8)) (kk ls (.long (if y < x then x else y) :: st) M))
  | _ => zL2 st (fun x y st => zgd (decide (zwd st ≤ 8)) (kk ls (.long (if y < x then y else x) :: st) M))
/-- one instruction -/
def zst (rt : Nat) (call : zF) (jmp : zJ) (kk : zC) (I : Instr) (ax : List Nat) (v : Value) (ls : zLs) (st : List Value) (M : zM) : Option zR := match I with
  | .nop => jmp (zax ax 0) (zkil (ztl ax) ls) st M
  | .iload _ => zlI ls (zax ax 0) (fun x => kk ls (.int x :: st) M)
  | .iload_n _ => zlI ls (zax ax 0) (fun x => kk ls (.int x :: st) M)
  | .lload _ => zlL ls (zax ax 0) (fun x => kk ls (.long x :: st) M)
  | .lload_n _ => zlL ls (zax ax 0) (fun x => kk ls (.long x :: st) M)
  | .aload _ => zlA ls (zax ax 0) (fun x => kk ls (.ref x :: st) M)
  | .aload_n _ => zlA ls (zax ax 0) (fun x => kk ls (.ref x :: st) M)
  | .istore _ => zI1 st (fun x st => zs1 ls (zax ax 0) (.int x) (fun ls => kk ls st M))
  | .istore_n _ => zI1 st (fun x st => zs1 ls (zax ax 0) (.int x) (fun ls => kk ls st M))
  | .lstore _ => zL1 st (fun x st => zs2 ls (zax ax 0) (.long x) (fun ls => kk ls st M))
  | .lstore_n _ => zL1 st (fun x st => zs2 ls (zax ax 0) (.long x) (fun ls => kk ls st M))
  | .astore _ => zA1 st (fun x st => zs1 ls (zax ax 0) (.ref x) (fun ls => kk ls st M))
  | .astore_n _ => zA1 st (fun x st => zs1 ls (zax ax 0) (.ref x) (fun ls => kk ls st M))
  | .iinc _ _ => zlI ls (zax ax 0) (fun x => match v with
    | .int c => zs1 ls (zax ax 0) (.int (x + c)) (fun ls => kk ls st M)
    | _ => none)
  | .iconst _ => kk ls (v :: st) M
  | .bipush _ => kk ls (v :: st) M
  | .sipush _ => kk ls (v :: st) M
  | .lconst _ => kk ls (v :: st) M
  | .ldc _ => kk ls (v :: st) M
  | .ldc_w _ => kk ls (v :: st) M
  | .ldc2_w _ => kk ls (v :: st) M
  | .getstatic _ => kk ls (v :: st) M
  | .iadd => zI2 st (fun x y st => kk ls (.int (x + y) :: st) M)
  | .isub => zI2 st (fun x y st => kk ls (.int (x - y) :: st) M)
  | .imul => zI2 st (fun x y st => kk ls (.int (x * y) :: st) M)
  | .idiv => zI2 st (fun x y st => zgd (decide (y ≠ 0)) (kk ls (.int (x / y) :: st) M))
  | .irem => zI2 st (fun x y st => zgd (decide (y ≠ 0)) (kk ls (.int (x - x / y * y) :: st) M))
  | .ineg => zI1 st (fun x st => kk ls (.int (-x) :: st) M)
  | .ishl => zI2 st (fun x y st => kk ls (.int (x <<< (y &&& 31)) :: st) M)
  | .ishr => zI2 st (fun x y st => kk ls (.int (x >>> (y &&& 31)) :: st) M)
  | .iushr => zI2 st (fun x y st => kk ls (.int (zus x y) :: st) M)
  | .iand => zI2 st (fun x y st => kk ls (.int (x &&& y) :: st) M)
  | .ior => zI2 st (fun x y st => kk ls (.int (x ||| y) :: st) M)
  | .ixor => zI2 st (fun x y st => kk ls (.int (x ^^^ y) :: st) M)
  | .land => zL2 st (fun x y st => kk ls (.long (x &&& y) :: st) M)
  | .lor => zL2 st (fun x y st => kk ls (.long (x ||| y) :: st) M)
  | .lxor => zL2 st (fun x y st => kk ls (.long (x ^^^ y) :: st) M)
  | .lshl => zLI st (fun x y st => kk ls (.long (x <<< (y.toInt64 &&& 63)) :: st) M)
  | .lushr => zLI st (fun x y st => kk ls (.long (zul x y) :: st) M)
  | .lcmp => zL2 st (fun x y st => kk ls (.int (lg_cmp x y) :: st) M)
  | .i2l => zI1 st (fun x st => kk ls (.long x.toInt64 :: st) M)
  | .l2i => zL1 st (fun x st => kk ls (.int x.toInt32 :: st) M)
  | .i2b => zI1 st (fun x st => kk ls (.int x.toInt8.toInt32 :: st) M)
  | .i2s => zI1 st (fun x st => kk ls (.int x.toInt16.toInt32 :: st) M)
  | .i2c => zI1 st (fun x st => kk ls (.int (x.toUInt32 % 65536).toInt32 :: st) M)
  | .dup => match st with
    | .int x :: st => kk ls (.int x :: .int x :: st) M
    | .ref x :: st => kk ls (.ref x :: .ref x :: st) M
    | _ => none
  | .dup2 => match st with
    | .int i :: .ref a :: st => kk ls (.int i :: .ref a :: .int i :: .ref a :: st) M
    | _ => none
  | .pop => match st with
    | .int _ :: st => kk ls st M
    | _ => none
  | .pop2 => match st with
    | .long _ :: st => kk ls st M
    | _ => none
  | .getfield _ => zA1 st (fun o st => if zax ax 0 = 99 then zgd (zkk M o == 7) (kk ls (zgt o (zax ax 1) :: st) M) else zgd (zrg (zax ax 2) (zgr M o (zax ax 1)) && (zkk M o == zax ax 0 + 10)) (kk ls (zgf M o (zax ax 1) (zax ax 2) :: st) M))
  | .putfield _ => zpf M (zax ax 1) (zax ax 2) (zax ax 0 + 10) st (fun st M => kk ls st M)
  | .iaload => zAI st (fun a i st => zgd (zok M a 1 i) (kk ls (.int (zgi M a i.toNatClampNeg) :: st) M))
  | .laload => zAI st (fun a i st => zgd (zok M a 2 i) (kk ls (.long (zgL M a i.toNatClampNeg) :: st) M))
  | .baload => zAI st (fun a i st => zgd (zok M a (zax ax 0) i) (kk ls (.int (zgb M a i.toNatClampNeg) :: st) M))
  | .aaload => zAI st (fun a i st => zgd (decide (16 ≤ zgr M a i.toNatClampNeg) && zow M a (zax ax 0) i) (kk ls (.ref (zgr M a i.toNatClampNeg) :: st) M))
  | .iastore => zAII st (fun a i x st => zgd (zow M a 1 i) (kk ls st (zpi M a i.toNatClampNeg x)))
  | .bastore => zAII st (fun a i x st => zgd (zow M a 3 i && z01 x) (kk ls st (zpi M a i.toNatClampNeg x)))
  | .lastore => zAIL st (fun a i x st => zgd (zow M a 2 i) (kk ls st (zpl M a i.toNatClampNeg x)))
  | .aastore => zAIA st (fun a i x st => zgd (zow M a (zax ax 0) i && (zkk M x == zax ax 1 + 10)) (kk ls st (zpr M a i.toNatClampNeg x)))
  | .arraylength => zA1 st (fun a st => zgd (zkk M a == zax ax 0) (kk ls (.int (Int32.ofNat (zln M a)) :: st) M))
  | .newarray _ => zI1 st (fun n st => zgd (decide (znth zkl (znx M - 16) = some (zax ax 0, n.toNatClampNeg)) && (decide (0 ≤ n) && (decide (16 ≤ znx M) && decide (znx M < 1000)))) (kk ls (.ref (znx M) :: st) (znw M n.toNatClampNeg)))
  | .anewarray _ => zI1 st (fun n st => zgd (decide (znth zkl (znx M - 16) = some (zax ax 0, n.toNatClampNeg)) && (decide (0 ≤ n) && (decide (16 ≤ znx M) && decide (znx M < 1000)))) (kk ls (.ref (znx M) :: st) (znw M n.toNatClampNeg)))
  | .new _ => zgd (decide (znth zkl (znx M - 16) = some (zax ax 0 + 10, zax ax 1)) && (decide (16 ≤ znx M) && decide (znx M < 1000))) (kk ls (.ref (znx M) :: st) (znw M (zax ax 1)))
  | .invokevirtual _ => zpop (zax ax 1) [] st (fun as st => zgd (decide (zwd st ≤ 8)) (zrk (zax ax 2) (call (zax ax 0) as M) ls st kk))
  | .invokespecial _ => zpop (zax ax 1) [] st (fun as st => zgd (decide (zwd st ≤ 8)) (if zax ax 3 = 1 then (match as with
      | [.ref _] => kk ls st M
      | _ => none) else zrk (zax ax 2) (call (zax ax 0) as M) ls st kk))
  | .invokestatic _ => if zax ax 3 = 1 then (match st with
      | .int n :: .int dp :: .ref b :: .int sp :: .ref a :: st => zgd (decide (zwd st ≤ 8)) (zcp M a sp b dp n (fun M => kk ls st M))
      | _ => none)
    else if zax ax 3 = 2 then zmth (zax ax 0) ls st M kk
    else zpop (zax ax 1) [] st (fun as st => zgd (decide (zwd st ≤ 8)) (zrk (zax ax 2) (call (zax ax 0) as M) ls st kk))
  | .goto _ => jmp (zax ax 0) (zkil (ztl ax) ls) st M
  | .if_icmp c _ => zI2 st (fun x y st => zcmp c x y (jmp (zax ax 0) (zkil (ztl ax) ls) st M) (kk ls st M))
  | .ifCond c _ => zI1 st (fun x st => zcmp c x 0 (jmp (zax ax 0) (zkil (ztl ax) ls) st M) (kk ls st M))
  | .ifnull _ => zA1 st (fun _ st => kk ls st M)
  | .tableswitch _ lo _ _ => zI1 st (fun x st => jmp (ztb x.toInt lo (ztl ax) (zax ax 0)) ls st M)
  | .lookupswitch _ ps => zI1 st (fun x st => jmp (zlk x.toInt ((ps.toList.map (fun p => p.1)).zip (ztl ax)) (zax ax 0)) ls st M)
  | .ireturn => match st with
    | [.int x] => zrt rt x M
    | _ => none
  | .lreturn => match st with
    | [.long x] => if rt = 1 then some (some (.long x), M) else none
    | _ => none
  | .return_ => match st with
    | [] => if rt = 2 then some (none, M) else none
    | _ => none
  | _ => none
def zrb (rt : Nat) (call : zF) (jmp : zJ) : List zE → zC
  | [], _, _, _ => none
  | e :: es, ls, st, M => zst rt call jmp (zrb rt call jmp es) e.2.2.1 e.2.2.2.1 e.2.2.2.2 ls st M
/-- a method's blocks, with so many jumps at most -/
def zrn (rt : Nat) (call : zF) (cd : List (List zE)) : Nat → zJ
  | 0, _, _, _, _ => none
  | n + 1, k, ls, st, M => match znth cd k with
    | some b => zrb rt call (zrn rt call cd n) b ls st M
    | none => none
/-- what a method does: as many jumps as it wants -/
noncomputable def zlm (f : Nat → Option zR) : Option zR := @dite _ (∃ r, ∃ n, f n = some r) (Classical.propDecidable _) (fun h => some h.choose) (fun _ => none)
noncomputable def zX (rt : Nat) (call : zF) (cd : List (List zE)) : zJ := fun k ls st M => zlm (fun n => zrn rt call cd n k ls st M)
/-- a later memory -/
def zle (M N : zM) : Prop := znx M ≤ znx N ∧ zsz M ≤ zsz N ∧ zsl N = zsl M ∧ zgi N 1 = zgi M 1
def zfl : List Value → zLs
  | [] => []
  | .long x :: t => some (.long x) :: none :: zfl t
  | .double x :: t => some (.double x) :: none :: zfl t
  | v :: t => some v :: zfl t
def zpad : Nat → zLs → zLs
  | 0, _ => []
  | n + 1, [] => none :: zpad n []
  | n + 1, a :: l => a :: zpad n l
