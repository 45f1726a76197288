/-! WHAT IS CHECKED OF THE CODE TABLES BY PROGRAM: decode rows, links, jump targets -/
def gTbl : List Cond := lw_tbl.filter goodWord
def bpc (t : MT) (b : Nat) : Nat := match (blk t b).2 with
  | e :: _ => e.1
  | [] => 1000000
def wis (i : Nat) (w : Cond) : Bool := match lw_tbl[i]? with
  | some v => decide (v = w)
  | none => false
def fkd (d : String) : Nat := match parseFieldDescriptor d with
  | some .int => 0
  | some .boolean => 1
  | some (.object _) => 2
  | some (.array _) => 2
  | _ => 9
def okF (own : String) (idx k tk pf ps c : Nat) (put : Option String) : Bool := match vwCl[c]?, lw_tbl[pf]? with
  | some q, some (.fieldLink o i r n d) => decide (o = own) && decide (i = idx) && decide (k < q.2.2) && decide (n = (q.2.1 k).2.1) && decide (d = (q.2.1 k).2.2.1) && (decide (r = (q.2.1 k).1) || wis ps (.sameField r (q.2.1 k).1 n d)) && Nat.beq (fkd (q.2.1 k).2.2.1) tk && (match put with
    | none => true
    | some nm => match (q.2.1 k).2.2.2 with
      | false => true
      | true => decide ((q.2.1 k).1 = own) && decide (nm = "<init>"))
  | _, _ => false
def kty (k : Nat) : Option FieldType := match k with
  | 20 => some .int
  | 21 => some .long
  | 22 => some .boolean
  | 23 => some .byte
  | 24 => some (.object "TrueHeard$Clause")
  | 25 => some (.object "TrueHeard$Runner")
  | _ => none
def clN (c : Nat) : String := match vwCl[c]? with
  | some q => q.1
  | none => ""
def nrR (rk : Nat) (r : Option FieldType) : Bool := match rk, r with
  | 0, none => true
  | 1, some .int => true
  | 1, some .boolean => true
  | 1, some .byte => true
  | 1, some .char => true
  | 2, some .long => true
  | 3, some (.object _) => true
  | 3, some (.array _) => true
  | _, _ => false
/-- the callee: its return kind, its number of parameters, its class plain -/
def okC (rk n M : Nat) : Bool := nrR rk (mt M).2.2.2.1 && decide ((parseMethodDescriptor (mt M).1.desc).map (fun d => d.parameters.length) = some n) && decide (M + 1 < allM.length)
def okD (own : String) (idx pl : Nat) (xM : Option MethodName) : List Nat → List Nat → Bool
  | c :: M :: r, f :: p1 :: p2 :: p3 :: p4 :: Mo :: p5 :: ps => (match xM with
      | some x => (match f with
        | 0 => (Nat.blt c 13 || Nat.beq c 30) && decide (x = (mt M).1) && wis p1 (.instanceMethod x) && wis p2 (.selects (match c with | 30 => "java/lang/String" | _ => clN c) x x) && wis p3 (.initialized (match c with | 30 => "java/lang/String" | _ => clN c)) && decide (x.cls = (match c with | 30 => "java/lang/String" | _ => clN c))
        | _ => decide (x.name = (mt Mo).1.name) && decide (x.desc = (mt Mo).1.desc) && wis p1 (.instanceMethod (mt M).1) && wis p2 (.selects (clN c) x (mt M).1) && wis p3 (.initialized (mt M).1.cls) && wis p4 (.sameMethod x.cls (mt Mo).1.cls x.name x.desc) && decide ((parseMethodDescriptor x.desc).map (fun d => d.parameters.length) = (parseMethodDescriptor (mt M).1.desc).map (fun d => d.parameters.length)) && decide (Mo + 1 < allM.length) && Nat.blt c 13 && wis p5 (.instanceMethod (mt Mo).1))
      | none => false) && okD own idx pl xM r ps
  | [], [] => true
  | _, _ => false
def cls3 : List Nat → List Nat
  | c :: _ :: r => c :: cls3 r
  | _ => []
def mss : List Nat → List Nat
  | _ :: M :: r => M :: mss r
  | _ => []
def strT : List (String × Nat × String) := [("TrueHeard$Reader", 21, ""), ("TrueHeard$Reader", 31, "tshk"), ("TrueHeard$Reader", 92, "turn"), ("TrueHeard$Reader", 98, "rift"), ("TrueHeard$Reader", 100, "ear"), ("TrueHeard$Reader", 119, "<=>"), ("TrueHeard$Reader", 60, "abcdh"), ("TrueHeardModel", 127, "tshk"), ("TrueHeardModel", 122, "turn "), ("TrueHeardModel", 102, "<=>"), ("TrueHeardModel", 114, "rift "), ("TrueHeardModel", 120, "ear "), ("TrueHeardModel", 135, "abcdh")]
def castW : List (String × String) := [("TrueHeard$Tolled", "TrueHeard$Bell"), ("TrueHeard$Towed", "TrueHeard$Boat"), ("TrueHeard$Bribed", "TrueHeard$Fire"), ("TrueHeard$Bell", "TrueHeard$Runner"), ("TrueHeard$Boat", "TrueHeard$Runner"), ("TrueHeard$Fire", "TrueHeard$Runner"), ("TrueHeard$Tolled", "TrueHeard$Runner"), ("TrueHeard$Towed", "TrueHeard$Runner"), ("TrueHeard$Bribed", "TrueHeard$Runner")]
def ncastW : List (String × String) := [("TrueHeard$Bell", "TrueHeard$Bribed"), ("TrueHeard$Boat", "TrueHeard$Bribed"), ("TrueHeard$Fire", "TrueHeard$Bribed"), ("TrueHeard$Tolled", "TrueHeard$Bribed"), ("TrueHeard$Towed", "TrueHeard$Bribed"), ("TrueHeard$Runner", "TrueHeard$Bribed"), ("TrueHeard$Boat", "TrueHeard$Bell"), ("TrueHeard$Fire", "TrueHeard$Bell"), ("TrueHeard$Towed", "TrueHeard$Bell"), ("TrueHeard$Bribed", "TrueHeard$Bell"), ("TrueHeard$Runner", "TrueHeard$Bell"), ("TrueHeard$Bell", "TrueHeard$Boat"), ("TrueHeard$Fire", "TrueHeard$Boat"), ("TrueHeard$Tolled", "TrueHeard$Boat"), ("TrueHeard$Bribed", "TrueHeard$Boat"), ("TrueHeard$Runner", "TrueHeard$Boat"), ("TrueHeard$Bell", "TrueHeard$Fire"), ("TrueHeard$Boat", "TrueHeard$Fire"), ("TrueHeard$Tolled", "TrueHeard$Fire"), ("TrueHeard$Towed", "TrueHeard$Fire"), ("TrueHeard$Runner", "TrueHeard$Fire"), ("TrueHeard$Bell", "TrueHeard$Tolled"), ("TrueHeard$Boat", "TrueHeard$Tolled"), ("TrueHeard$Fire", "TrueHeard$Tolled"), ("TrueHeard$Towed", "TrueHeard$Tolled"), ("TrueHeard$Bribed", "TrueHeard$Tolled"), ("TrueHeard$Runner", "TrueHeard$Tolled"), ("TrueHeard$Bell", "TrueHeard$Towed"), ("TrueHeard$Boat", "TrueHeard$Towed"), ("TrueHeard$Fire", "TrueHeard$Towed"), ("TrueHeard$Tolled", "TrueHeard$Towed"), ("TrueHeard$Bribed", "TrueHeard$Towed"), ("TrueHeard$Runner", "TrueHeard$Towed")]
def okI (t : MT) (e : RI) : Bool := match e with
  | (pc, .nop, 0, as, _) => (match as with
    | [b] => Nat.beq (bpc t b) pc
    | _ => false)
  | (_, .athrow, _, _, _) => true
  | (pc, i, len, as, ws) => decide (decode t.2.1 pc = .ok (i, len)) && (match i with
    | .nop => false
    | .goto off => (match as with
      | [b] => Nat.beq len 3 && decide ((pc : Int) + off = (bpc t b : Int))
      | _ => false)
    | .ifCond _ off => (match as with
      | [bt, bf] => Nat.beq len 3 && decide ((pc : Int) + off = (bpc t bt : Int)) && Nat.beq (pc + 3) (bpc t bf)
      | _ => false)
    | .if_icmp _ off => (match as with
      | [bt, bf] => Nat.beq len 3 && decide ((pc : Int) + off = (bpc t bt : Int)) && Nat.beq (pc + 3) (bpc t bf)
      | _ => false)
    | .ifnull off => (match as with
      | [bt, bf] => Nat.beq len 3 && decide ((pc : Int) + off = (bpc t bt : Int)) && Nat.beq (pc + 3) (bpc t bf)
      | _ => false)
    | .ifnonnull off => (match as with
      | [bt, bf] => Nat.beq len 3 && decide ((pc : Int) + off = (bpc t bt : Int)) && Nat.beq (pc + 3) (bpc t bf)
      | _ => false)
    | .tableswitch d lo hi offs => (match as with
      | b0 :: bs => decide ((pc : Int) + d = (bpc t b0 : Int)) && decide (bs.map (fun b => (bpc t b : Int) - (pc : Int)) = offs.toList) && decide (hi = lo + (bs.length : Int) - 1) && decide (-1000 ≤ lo) && decide (hi ≤ 1000)
      | _ => false)
    | .lookupswitch d ps => (match as with
      | b0 :: bs => decide ((pc : Int) + d = (bpc t b0 : Int)) && decide (bs.map (fun b => (bpc t b : Int) - (pc : Int)) = ps.toList.map (fun q => q.2)) && (ps.toList.zip (ps.toList.drop 1)).all (fun (a, next) => decide (a.1 < next.1)) && ps.toList.all (fun q => decide (-1000 ≤ q.1) && decide (q.1 ≤ 1000))
      | _ => false)
    | .ldc idx => Nat.beq len 2 && (match as with
      | [0, v] => (match ws with
        | [p] => wis p (.constant t.1.cls idx (Int32.ofNat v))
        | _ => false)
      | [1, i] => decide ((strT.getD i ("", 0, "")).1 = t.1.cls ∧ (strT.getD i ("", 0, "")).2.1 = idx) && decide (i < 13)
      | _ => false)
    | .ldc_w idx => Nat.beq len 3 && (match as, ws with
      | [0, v], [p] => wis p (.constant t.1.cls idx (Int32.ofNat v))
      | _, _ => false)
    | .ldc2_w idx => Nat.beq len 3 && (match as, ws with
      | [v], [p] => wis p (.constantLong t.1.cls idx (Int64.ofNat v))
      | _, _ => false)
    | .getfield idx => Nat.beq len 3 && (match as, ws with
      | [0, 2, 30], [p, 0] => wis p (.fieldLink t.1.cls idx "java/lang/String" "value" "[B")
      | [1, 0, 30], [p, 0] => wis p (.fieldLink t.1.cls idx "java/lang/String" "coder" "B")
      | k :: tk :: cs, [pf, ps] => cs.all (fun c => Nat.blt c 13 && okF t.1.cls idx k tk pf ps c none)
      | _, _ => false)
    | .putfield idx => Nat.beq len 3 && (match as, ws with
      | k :: tk :: cs, [pf, ps] => cs.all (fun c => Nat.blt c 13 && okF t.1.cls idx k tk pf ps c (some t.1.name))
      | _, _ => false)
    | .getstatic idx => Nat.beq len 3 && (match as, ws with
      | [0], [p] => wis p (.fieldLink t.1.cls idx "java/lang/String" "COMPACT_STRINGS" "Z")
      | [1], [p] => wis p (.fieldLink t.1.cls idx "jdk/internal/util/Preconditions" "SIOOBE_FORMATTER" "Ljava/util/function/BiFunction;")
      | _, _ => false)
    | .new idx => Nat.beq len 3 && (match as, ws with
      | [ci, n], [p1, p2, p3] => wis p1 (.classLink t.1.cls idx (clN ci)) && wis p2 (.instantiable (clN ci) n) && wis p3 (.initialized (clN ci)) && (match vwCl[ci]? with
        | some q => decide (q.2.2 = n)
        | none => false)
      | _, _ => false)
    | .newarray ty => Nat.beq len 2 && (match as, ws with
      | [kd], [p] => wis p (.arrayClass (newarray.typeOf ty)) && decide (kty kd = some (newarray.typeOf ty)) && Nat.ble (componentBytes (newarray.typeOf ty)) 8
      | _, _ => false)
    | .anewarray idx => Nat.beq len 3 && (match as, ws with
      | [24], [p] => wis p (.classLink t.1.cls idx "TrueHeard$Clause")
      | [25], [p] => wis p (.classLink t.1.cls idx "TrueHeard$Runner")
      | _, _ => false)
    | .instanceof idx => Nat.beq len 3 && (match as, ws with
      | n :: cs, [p] => (match lw_tbl[p]? with
        | some (.classLink o i nm) => decide (o = t.1.cls) && decide (i = idx) && cs.all (fun c => Nat.blt c 13) && (cs.take n).all (fun c => decide (clN c = nm) || castW.contains (clN c, nm)) && (cs.drop n).all (fun c => ncastW.contains (clN c, nm))
        | _ => false)
      | _, _ => false)
    | .invokestatic idx => Nat.beq len 3 && (match as, ws with
      | [4], [p1, p2, p3, p4] => wis p1 (.methodLink t.1.cls idx arraycopyName) && wis p2 (.native arraycopyName) && wis p3 (.static arraycopyName) && wis p4 (.initialized "java/lang/System")
      | [5], [p1, p2, p3, p4] => wis p1 (.methodLink t.1.cls idx Lib.Math.max.name) && wis p2 (.static Lib.Math.max.name) && wis p3 (.initialized "java/lang/Math") && wis p4 (.code Lib.Math.max.name Lib.Math.max.code 2 (some .int))
      | [6], [p1, p2, p3, p4] => wis p1 (.methodLink t.1.cls idx Lib.Math.min.name) && wis p2 (.static Lib.Math.min.name) && wis p3 (.initialized "java/lang/Math") && wis p4 (.code Lib.Math.min.name Lib.Math.min.code 2 (some .int))
      | [0, rk, n, M], [ns, p1, p2] => okC rk n M && wis p2 (.static (mt M).1) && (match ns with
        | 0 => wis p1 (.methodLink t.1.cls idx (mt M).1)
        | _ => wis p1 (.methodLinkNest t.1.cls idx (mt M).1 "TrueHeard"))
      | _, _ => false)
    | .invokespecial idx => Nat.beq len 3 && (match as, ws with
      | [3], [p] => wis p (.methodLink t.1.cls idx objectInit)
      | 1 :: rk :: n :: M :: cs, [ns, p1, p2] => okC rk n M && Nat.beq rk 0 && decide ((mt M).1.name = "<init>") && wis p2 (.instanceMethod (mt M).1) && cs.all (fun c => Nat.blt c 13) && (match ns with
        | 0 => wis p1 (.methodLink t.1.cls idx (mt M).1)
        | _ => wis p1 (.methodLinkNest t.1.cls idx (mt M).1 "TrueHeard"))
      | 1 :: rk :: n :: M :: cs, [1, p1, p2, p3, p4, p5] => okC rk n M && cs.all (fun c => Nat.blt c 13) && (match lw_tbl[p1]? with
        | some (.methodLink o i x) => decide (o = t.1.cls) && decide (i = idx) && decide (x.name = (mt M).1.name) && decide (x.desc = (mt M).1.desc) && decide (¬ x.name = "<init>") && wis p2 (.sameMethod x.cls (mt M).1.cls x.name x.desc) && wis p3 (.superclass t.1.cls x.cls) && wis p4 (.instanceMethod (mt M).1) && (decide (x.cls = (mt M).1.cls) || wis p5 (.superclass x.cls (mt M).1.cls))
        | _ => false)
      | _, _ => false)
    | .invokevirtual idx => Nat.beq len 3 && (match as, ws with
      | 2 :: rk :: n :: cs, pl :: ps => (mss cs).all (okC rk n) && (match lw_tbl[pl]? with
        | some (.methodLink o i x) => decide (o = t.1.cls) && decide (i = idx) && decide (x.cls ≠ "java/lang/invoke/MethodHandle") && decide (x.cls ≠ "java/lang/invoke/VarHandle") && okD t.1.cls idx pl (some x) cs ps
        | _ => false)
      | _, _ => false)
    | .ireturn => Nat.beq len 1 && (match as, t.2.2.2.1 with
      | [0], some .int => true
      | [1], some .boolean => true
      | [2], some .byte => true
      | [3], some .char => true
      | _, _ => false)
    | .lreturn => Nat.beq len 1 && decide (t.2.2.2.1 = some .long)
    | .areturn => Nat.beq len 1 && nrR 3 t.2.2.2.1
    | .return_ => Nat.beq len 1 && decide (t.2.2.2.1 = none)
    | .bipush _ => Nat.beq len 2
    | .sipush _ => Nat.beq len 3
    | .iload n => Nat.beq len 2 && decide (n < t.2.2.1)
    | .lload n => Nat.beq len 2 && decide (n < t.2.2.1)
    | .aload n => Nat.beq len 2 && decide (n < t.2.2.1)
    | .istore n => Nat.beq len 2 && decide (n < t.2.2.1)
    | .lstore n => Nat.beq len 2 && decide (n + 1 < t.2.2.1)
    | .astore n => Nat.beq len 2 && decide (n < t.2.2.1)
    | .istore_n n => Nat.beq len 1 && decide ((n : Nat) < t.2.2.1)
    | .lstore_n n => Nat.beq len 1 && decide ((n : Nat) + 1 < t.2.2.1)
    | .astore_n n => Nat.beq len 1 && decide ((n : Nat) < t.2.2.1)
    | .iinc n _ => Nat.beq len 3 && decide (n < t.2.2.1)
    | _ => Nat.beq len 1)
def okL (t : MT) : Nat → List RI → Bool
  | _, [] => true
  | pc, e :: es => Nat.beq e.1 pc && okI t e && okL t (pc + e.2.2.1) es

/-- the blocks alone -/
def okB (t : MT) (b : List Nat × List RI) : Bool := match b.2 with
  | [] => true
  | e :: es => okL t e.1 (e :: es)
def okBk (t : MT) : Bool := t.2.2.2.2.all (okB t)
def okMT (t : MT) (pw : Nat × Nat) : Bool := plainName t.1.cls && decide (t.1.cls ≠ "java/lang/invoke/MethodHandle") && decide (t.1.cls ≠ "java/lang/invoke/VarHandle") && Nat.ble t.2.2.1 40 && okBk t && wis pw.1 (.code t.1 t.2.1 t.2.2.1 t.2.2.2.1) && wis pw.2 (.initialized t.1.cls)
