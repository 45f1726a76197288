/-! THE SMALL MACHINE: a memory of typed cells at numbered places, and what each instruction does to it. Places 0..12: the String constants, 13..25 their bytes, 26 the script, 27 a JDK object; from 28 on what the law makes. Kinds: 0..12 objects of vwCl's classes; 20 int[], 21 long[], 22 boolean[], 23 byte[], 24 Clause[], 25 Runner[]; 30 String, 31 a String's bytes, 32 the script, 33 other. -/
abbrev MM : Type := (Nat → Nat) × (Nat → Nat) × Nat × Nat × (Nat → Nat → Int32) × (Nat → Nat → Int64) × (Nat → Nat → Option Nat)
abbrev RI : Type := Nat × Instr × Nat × List Nat × List Nat
abbrev Rs : Type := Option (Option Value × MM)
abbrev LV : Type := List (Nat × Value)
abbrev MT : Type := MethodName × ByteArray × Nat × Option FieldType × List (List Nat × List RI)
def shp (μ : MM) (q : Nat) : Nat := μ.1 q
def aln (μ : MM) (q : Nat) : Nat := μ.2.1 q
def msz (μ : MM) : Nat := μ.2.2.1
def msl (μ : MM) : Nat := μ.2.2.2.1
def gI (μ : MM) (q k : Nat) : Int32 := μ.2.2.2.2.1 q k
def gL (μ : MM) (q k : Nat) : Int64 := μ.2.2.2.2.2.1 q k
def gR (μ : MM) (q k : Nat) : Option Nat := μ.2.2.2.2.2.2 q k
def sI (μ : MM) (q k : Nat) (v : Int32) : MM := (μ.1, μ.2.1, μ.2.2.1, μ.2.2.2.1, fun a b => if a = q ∧ b = k then v else gI μ a b, μ.2.2.2.2.2)
def sL (μ : MM) (q k : Nat) (v : Int64) : MM := (μ.1, μ.2.1, μ.2.2.1, μ.2.2.2.1, μ.2.2.2.2.1, fun a b => if a = q ∧ b = k then v else gL μ a b, μ.2.2.2.2.2.2)
def sR (μ : MM) (q k : Nat) (v : Option Nat) : MM := (μ.1, μ.2.1, μ.2.2.1, μ.2.2.2.1, μ.2.2.2.2.1, μ.2.2.2.2.2.1, fun a b => if a = q ∧ b = k then v else gR μ a b)
/-- a new cell: of a kind, a length (0 for an object), so many slots -/
def alc (μ : MM) (kind n sl : Nat) : MM := (fun a => if a = msz μ then kind else shp μ a, fun a => if a = msz μ then n else aln μ a, msz μ + 1, msl μ + sl, fun a b => if a = msz μ then 0 else gI μ a b, fun a b => if a = msz μ then 0 else gL μ a b, fun a b => if a = msz μ then none else gR μ a b)
/-- System.arraycopy of ints or bytes -/
def cpI (μ : MM) (a sp d dp n : Nat) : MM := (μ.1, μ.2.1, μ.2.2.1, μ.2.2.2.1, fun x b => if x = d ∧ dp ≤ b ∧ b < dp + n then gI μ a (sp + (b - dp)) else gI μ x b, μ.2.2.2.2.2)
def rv (r : Option Nat) : Value := match r with
  | none => .null
  | some a => .ref a
def gd (b : Bool) (r : Rs) : Rs := match b with
  | true => r
  | false => none
def asI (v : Value) (k : Int32 → Rs) : Rs := match v with
  | .int x => k x
  | _ => none
def asL (v : Value) (k : Int64 → Rs) : Rs := match v with
  | .long x => k x
  | _ => none
def asR (v : Value) (k : Nat → Rs) : Rs := match v with
  | .ref x => k x
  | _ => none
/-- null, or a cell -/
def asN (v : Value) (z : Rs) (k : Nat → Rs) : Rs := match v with
  | .null => z
  | .ref x => k x
  | _ => none
def p1 (st : List Value) (k : Value → List Value → Rs) : Rs := match st with
  | v :: r => k v r
  | [] => none
def ppI (st : List Value) (k : Int32 → List Value → Rs) : Rs := p1 st fun v r => asI v fun x => k x r
def ppL (st : List Value) (k : Int64 → List Value → Rs) : Rs := p1 st fun v r => asL v fun x => k x r
def ppR (st : List Value) (k : Nat → List Value → Rs) : Rs := p1 st fun v r => asR v fun x => k x r
def ppN : Nat → List Value → List Value → (List Value → List Value → Rs) → Rs
  | 0, st, acc, k => k acc st
  | n + 1, st, acc, k => p1 st fun v r => ppN n r (v :: acc) k
def lgt : LV → Nat → (Value → Rs) → Rs
  | [], _, _ => none
  | q :: l, i, k => match Nat.beq q.1 i with
    | true => k q.2
    | false => lgt l i k
def lst1 (l : LV) (i : Nat) (v : Value) : LV := (i, v) :: l.filter (fun q => !(q.1 == i) && !(q.1 + 1 == i && q.2.category == 2))
def lst2 (l : LV) (i : Nat) (v : Value) : LV := (i, v) :: l.filter (fun q => !(q.1 == i) && (!(q.1 == i + 1) && !(q.1 + 1 == i && q.2.category == 2)))
def cat1 (v : Value) (r : Rs) : Rs := match v with
  | .int _ => r
  | .null => r
  | .ref _ => r
  | _ => none
def cin : List Nat → Nat → Bool
  | [], _ => false
  | c :: r, s => Nat.beq s c || cin r s
def dsp : List Nat → Nat → (Nat → Rs) → Rs
  | c :: M :: r, s, k => match Nat.beq s c with
    | true => k M
    | false => dsp r s k
  | _, _, _ => none
/-- the words below a call's arguments -/
def slr (st : List Value) : Bool := Nat.ble (st.map fun v => v.category).sum 8
def inb (i : Int32) (n : Nat) : Bool := !decide (i < 0) && decide (i.toNatClampNeg < n)
def b01 (x : Int32) : Bool := decide (x = 0) || decide (x = 1)
def fitB (μ : MM) (a sp n : Nat) : Bool := (List.range n).all fun i => fits .byte (.int (gI μ a (sp + i)))
def bnd (rk : Nat) (r : Rs) (k : List Value → MM → Rs) : Rs := match rk with
  | 0 => match r with
    | some (none, μ) => k [] μ
    | _ => none
  | 1 => match r with
    | some (some (.int x), μ) => k [.int x] μ
    | _ => none
  | 2 => match r with
    | some (some (.long x), μ) => k [.long x] μ
    | _ => none
  | _ => match r with
    | some (some .null, μ) => k [.null] μ
    | some (some (.ref a), μ) => k [.ref a] μ
    | _ => none
def sw : Int → List Nat → Nat → Int32 → (Nat → Rs) → Rs
  | _, [], d, _, k => k d
  | lo, b :: bs, d, x, k => if x = Int32.ofInt lo then k b else sw (lo + 1) bs d x k
def lsw : List (Int × Int) → List Nat → Nat → Int32 → (Nat → Rs) → Rs
  | p :: ps, b :: bs, d, x, k => if x = Int32.ofInt p.1 then k b else lsw ps bs d x k
  | [], [], d, _, k => k d
  | _, _, _, _, _ => none
/-- narrow what an int method gives back: 0 int, 1 boolean, 2 byte or char -/
def rtg (a : List Nat) (x : Int32) (r : Rs) : Rs := match a with
  | [0] => r
  | [1] => gd (b01 x) r
  | [2] => gd (decide (x.toInt8.toInt32 = x)) r
  | [3] => gd (decide (x.toUInt32.toUInt16.toUInt32.toInt32 = x)) r
  | _ => none
section XB
variable (C : Nat → List Value → MM → Rs) (J : Nat → LV → List Value → MM → Rs)
def iop (f : Int32 → Int32 → Int32) (ls : LV) (st : List Value) (μ : MM) (K : LV → List Value → MM → Rs) : Rs := ppI st fun y st => ppI st fun x st => K ls (.int (f x y) :: st) μ
def lop (f : Int64 → Int64 → Int64) (ls : LV) (st : List Value) (μ : MM) (K : LV → List Value → MM → Rs) : Rs := ppL st fun y st => ppL st fun x st => K ls (.long (f x y) :: st) μ
def fput (as : List Nat) (v : Value) (st : List Value) (μ : MM) (ls : LV) (K : LV → List Value → MM → Rs) : Rs := match as with
  | k :: 0 :: cs => asI v fun x => ppR st fun a st => gd (cin cs (shp μ a)) (K ls st (sI μ a k x))
  | k :: 1 :: cs => asI v fun x => ppR st fun a st => gd (cin cs (shp μ a) && b01 x) (K ls st (sI μ a k x))
  | k :: 2 :: cs => asN v (ppR st fun a st => gd (cin cs (shp μ a)) (K ls st (sR μ a k none))) fun x => ppR st fun a st => gd (cin cs (shp μ a)) (K ls st (sR μ a k (some x)))
  | _ => none
def x1 (i : Instr) (as : List Nat) (ls : LV) (st : List Value) (μ : MM) (K : LV → List Value → MM → Rs) : Rs := match i with
  | .nop => match as with
    | [b] => J b ls st μ
    | _ => none
  | .aconst_null => K ls (.null :: st) μ
  | .iconst n => K ls (.int (Int32.ofInt n) :: st) μ
  | .bipush n => K ls (.int (Int8.ofInt n).toInt32 :: st) μ
  | .sipush n => K ls (.int (Int16.ofInt n).toInt32 :: st) μ
  | .lconst n => K ls (.long (Int64.ofNat (n : Nat)) :: st) μ
  | .ldc _ => match as with
    | [0, v] => K ls (.int (Int32.ofNat v) :: st) μ
    | [1, i] => K ls (.ref i :: st) μ
    | _ => none
  | .ldc_w _ => match as with
    | [0, v] => K ls (.int (Int32.ofNat v) :: st) μ
    | _ => none
  | .ldc2_w _ => match as with
    | [v] => K ls (.long (Int64.ofNat v) :: st) μ
    | _ => none
  | .iload n => lgt ls n fun v => asI v fun x => K ls (.int x :: st) μ
  | .iload_n n => lgt ls n fun v => asI v fun x => K ls (.int x :: st) μ
  | .lload n => lgt ls n fun v => asL v fun x => K ls (.long x :: st) μ
  | .lload_n n => lgt ls n fun v => asL v fun x => K ls (.long x :: st) μ
  | .aload n => lgt ls n fun v => asN v (K ls (.null :: st) μ) fun x => K ls (.ref x :: st) μ
  | .aload_n n => lgt ls n fun v => asN v (K ls (.null :: st) μ) fun x => K ls (.ref x :: st) μ
  | .istore n => ppI st fun x st => K (lst1 ls n (.int x)) st μ
  | .istore_n n => ppI st fun x st => K (lst1 ls n (.int x)) st μ
  | .lstore n => ppL st fun x st => K (lst2 ls n (.long x)) st μ
  | .lstore_n n => ppL st fun x st => K (lst2 ls n (.long x)) st μ
  | .astore n => p1 st fun v st => asN v (K (lst1 ls n .null) st μ) fun x => K (lst1 ls n (.ref x)) st μ
  | .astore_n n => p1 st fun v st => asN v (K (lst1 ls n .null) st μ) fun x => K (lst1 ls n (.ref x)) st μ
  | .iinc n k => lgt ls n fun v => asI v fun x => K (lst1 ls n (.int (x + Int32.ofInt k))) st μ
  | .iadd => iop (fun x y => x + y) ls st μ K
  | .isub => iop (fun x y => x - y) ls st μ K
  | .imul => iop (fun x y => x * y) ls st μ K
  | .iand => iop (fun x y => x &&& y) ls st μ K
  | .ior => iop (fun x y => x ||| y) ls st μ K
  | .ixor => iop (fun x y => x ^^^ y) ls st μ K
  | .ishl => iop (fun x y => x <<< (y &&& 31)) ls st μ K
  | .ishr => iop (fun x y => x >>> (y &&& 31)) ls st μ K
  | .idiv => ppI st fun y st => ppI st fun x st => gd (!decide (y = 0)) (K ls (.int (x / y) :: st) μ)
  | .irem => ppI st fun y st => ppI st fun x st => gd (!decide (y = 0)) (K ls (.int (x - x / y * y) :: st) μ)
  | .ineg => ppI st fun x st => K ls (.int (-x) :: st) μ
  | .i2l => ppI st fun x st => K ls (.long x.toInt64 :: st) μ
  | .i2b => ppI st fun x st => K ls (.int x.toInt8.toInt32 :: st) μ
  | .i2c => ppI st fun x st => K ls (.int (x.toUInt32 % 65536).toInt32 :: st) μ
  | .ladd => lop (fun x y => x + y) ls st μ K
  | .lsub => lop (fun x y => x - y) ls st μ K
  | .lmul => lop (fun x y => x * y) ls st μ K
  | .land => lop (fun x y => x &&& y) ls st μ K
  | .ldiv => ppL st fun y st => ppL st fun x st => gd (!decide (y = 0)) (K ls (.long (x / y) :: st) μ)
  | .lrem => ppL st fun y st => ppL st fun x st => gd (!decide (y = 0)) (K ls (.long (x - x / y * y) :: st) μ)
  | .lneg => ppL st fun x st => K ls (.long (-x) :: st) μ
  | .lshl => ppI st fun y st => ppL st fun x st => K ls (.long (x <<< (y.toInt64 &&& 63)) :: st) μ
  | .lshr => ppI st fun y st => ppL st fun x st => K ls (.long (x >>> (y.toInt64 &&& 63)) :: st) μ
  | .lcmp => ppL st fun y st => ppL st fun x st => K ls (.int (lg_cmp x y) :: st) μ
  | .dup => p1 st fun v st => cat1 v (K ls (v :: v :: st) μ)
  | .pop => p1 st fun v st => cat1 v (K ls st μ)
  | .dup2 => p1 st fun v st => match v with
    | .long x => K ls (.long x :: .long x :: st) μ
    | w => cat1 w (p1 st fun u st => cat1 u (K ls (w :: u :: w :: u :: st) μ))
  | .goto _ => match as with
    | [b] => J b ls st μ
    | _ => none
  | .ifCond c _ => match as with
    | [bt, bf] => ppI st fun x st => match c with
      | .eq => if x = 0 then J bt ls st μ else J bf ls st μ
      | .ne => if x = 0 then J bf ls st μ else J bt ls st μ
      | .lt => if x < 0 then J bt ls st μ else J bf ls st μ
      | .ge => if 0 ≤ x then J bt ls st μ else J bf ls st μ
      | .gt => if 0 < x then J bt ls st μ else J bf ls st μ
      | .le => if x ≤ 0 then J bt ls st μ else J bf ls st μ
    | _ => none
  | .if_icmp c _ => match as with
    | [bt, bf] => ppI st fun y st => ppI st fun x st => match c with
      | .eq => if x = y then J bt ls st μ else J bf ls st μ
      | .ne => if x = y then J bf ls st μ else J bt ls st μ
      | .lt => if x < y then J bt ls st μ else J bf ls st μ
      | .ge => if y ≤ x then J bt ls st μ else J bf ls st μ
      | .gt => if y < x then J bt ls st μ else J bf ls st μ
      | .le => if x ≤ y then J bt ls st μ else J bf ls st μ
    | _ => none
  | .ifnull _ => match as with
    | [bt, bf] => p1 st fun v st => asN v (J bt ls st μ) fun _ => J bf ls st μ
    | _ => none
  | .ifnonnull _ => match as with
    | [bt, bf] => p1 st fun v st => asN v (J bf ls st μ) fun _ => J bt ls st μ
    | _ => none
  | .tableswitch _ lo _ _ => match as with
    | d :: bs => ppI st fun x st => sw lo bs d x fun b => J b ls st μ
    | _ => none
  | .lookupswitch _ ps => match as with
    | d :: bs => ppI st fun x st => lsw ps.toList bs d x fun b => J b ls st μ
    | _ => none
  | .getfield _ => match as with
    | k :: 0 :: cs => ppR st fun a st => gd (cin cs (shp μ a)) (K ls (.int (gI μ a k) :: st) μ)
    | k :: 1 :: cs => ppR st fun a st => gd (cin cs (shp μ a)) (K ls (.int (gI μ a k) :: st) μ)
    | k :: 2 :: cs => ppR st fun a st => gd (cin cs (shp μ a)) (K ls (rv (gR μ a k) :: st) μ)
    | _ => none
  | .putfield _ => p1 st fun v st => fput as v st μ ls K
  | .getstatic _ => match as with
    | [0] => K ls (.int 1 :: st) μ
    | [1] => K ls (.retAddr 0 :: st) μ
    | _ => none
  | .arraylength => ppR st fun a st => gd (cin [20, 21, 22, 23, 24, 25, 31, 32] (shp μ a)) (K ls (.int (Int32.ofNat (aln μ a)) :: st) μ)
  | .iaload => ppI st fun i st => ppR st fun a st => gd (cin [20, 32] (shp μ a) && inb i (aln μ a)) (K ls (.int (gI μ a i.toNatClampNeg) :: st) μ)
  | .baload => ppI st fun i st => ppR st fun a st => gd (cin [22, 23, 31] (shp μ a) && inb i (aln μ a)) (K ls (.int (gI μ a i.toNatClampNeg) :: st) μ)
  | .laload => ppI st fun i st => ppR st fun a st => gd (cin [21] (shp μ a) && inb i (aln μ a)) (K ls (.long (gL μ a i.toNatClampNeg) :: st) μ)
  | .aaload => ppI st fun i st => ppR st fun a st => gd (cin [24, 25] (shp μ a) && inb i (aln μ a)) (K ls (rv (gR μ a i.toNatClampNeg) :: st) μ)
  | .iastore => ppI st fun x st => ppI st fun i st => ppR st fun a st => gd (cin [20] (shp μ a) && inb i (aln μ a)) (K ls st (sI μ a i.toNatClampNeg x))
  | .bastore => match as with
    | [0] => ppI st fun x st => ppI st fun i st => ppR st fun a st => gd (cin [22] (shp μ a) && inb i (aln μ a) && b01 x) (K ls st (sI μ a i.toNatClampNeg x))
    | [1] => ppI st fun x st => ppI st fun i st => ppR st fun a st => gd (cin [23] (shp μ a) && inb i (aln μ a)) (K ls st (sI μ a i.toNatClampNeg x.toInt8.toInt32))
    | _ => none
  | .lastore => ppL st fun x st => ppI st fun i st => ppR st fun a st => gd (cin [21] (shp μ a) && inb i (aln μ a)) (K ls st (sL μ a i.toNatClampNeg x))
  | .aastore => p1 st fun v st => ppI st fun i st => ppR st fun a st => asN v (gd (cin [24, 25] (shp μ a) && inb i (aln μ a)) (K ls st (sR μ a i.toNatClampNeg none))) fun x => gd (((cin [24] (shp μ a) && cin [3] (shp μ x)) || (cin [25] (shp μ a) && cin [0, 1, 2, 4, 6, 7, 8] (shp μ x))) && inb i (aln μ a)) (K ls st (sR μ a i.toNatClampNeg (some x)))
  | .newarray _ => match as with
    | [kd] => ppI st fun n st => gd (!decide (n < 0) && Nat.ble n.toNatClampNeg 100000) (K ls (.ref (msz μ) :: st) (alc μ kd n.toNatClampNeg n.toNatClampNeg))
    | _ => none
  | .anewarray _ => match as with
    | [kd] => ppI st fun n st => gd (!decide (n < 0) && Nat.ble n.toNatClampNeg 100000) (K ls (.ref (msz μ) :: st) (alc μ kd n.toNatClampNeg n.toNatClampNeg))
    | _ => none
  | .new _ => match as with
    | [ci, n] => K ls (.ref (msz μ) :: st) (alc μ ci 0 n)
    | _ => none
  | .instanceof _ => match as with
    | n :: cs => ppR st fun a st => gd (cin cs (shp μ a)) (match cin (cs.take n) (shp μ a) with
      | true => K ls (.int 1 :: st) μ
      | false => K ls (.int 0 :: st) μ)
    | _ => none
  | .invokestatic _ => match as with
    | [0, rk, n, M] => ppN n st [] fun ar st => gd (slr st) (bnd rk (C M ar μ) fun rs μ => K ls (rs ++ st) μ)
    | [4] => ppI st fun n st => ppI st fun dp st => ppR st fun d st => ppI st fun sp st => ppR st fun a st => gd (slr st && ((cin [20] (shp μ a) && cin [20] (shp μ d)) || (cin [23] (shp μ a) && (cin [23] (shp μ d) && fitB μ a sp.toNatClampNeg n.toNatClampNeg))) && !decide (sp < 0) && !decide (dp < 0) && !decide (n < 0) && Nat.ble (sp.toNatClampNeg + n.toNatClampNeg) (aln μ a) && Nat.ble (dp.toNatClampNeg + n.toNatClampNeg) (aln μ d)) (K ls st (cpI μ a sp.toNatClampNeg d dp.toNatClampNeg n.toNatClampNeg))
    | [5] => ppI st fun y st => ppI st fun x st => gd (slr st) (K ls (.int (if x < y then y else x) :: st) μ)
    | [6] => ppI st fun y st => ppI st fun x st => gd (slr st) (K ls (.int (if y < x then y else x) :: st) μ)
    | _ => none
  | .invokespecial _ => match as with
    | [3] => ppR st fun _ st => gd (slr st) (K ls st μ)
    | 1 :: rk :: n :: M :: cs => ppN n st [] fun ar st => ppR st fun a st => gd (slr st && cin cs (shp μ a)) (bnd rk (C M (.ref a :: ar) μ) fun rs μ => K ls (rs ++ st) μ)
    | _ => none
  | .invokevirtual _ => match as with
    | 2 :: rk :: n :: cs => ppN n st [] fun ar st => ppR st fun a st => gd (slr st) (dsp cs (shp μ a) fun M => bnd rk (C M (.ref a :: ar) μ) fun rs μ => K ls (rs ++ st) μ)
    | _ => none
  | .ireturn => match st with
    | [v] => asI v fun x => rtg as x (some (some (.int x), μ))
    | _ => none
  | .lreturn => match st with
    | [v] => asL v fun x => some (some (.long x), μ)
    | _ => none
  | .areturn => match st with
    | [v] => asN v (some (some .null, μ)) fun x => some (some (.ref x), μ)
    | _ => none
  | .return_ => match st with
    | [] => some (none, μ)
    | _ => none
  | _ => none
/-- a block's instructions -/
def xb : List RI → LV → List Value → MM → Rs
  | [], _, _, _ => none
  | e :: es, ls, st, μ => x1 C J e.2.1 e.2.2.2.1 ls st μ fun ls st μ => xb es ls st μ
end XB
/-- the live locals' values, in order -/
def pik : List Nat → LV → List Value → (List Value → Rs) → Rs
  | [], _, acc, k => k acc.reverse
  | i :: is, ls, acc, k => lgt ls i fun v => pik is ls (v :: acc) k
def mt0 : MT := (⟨"", "", ""⟩, ⟨#[]⟩, 0, none, [])
def blk (t : MT) (b : Nat) : List Nat × List RI := t.2.2.2.2.getD b ([], [])
