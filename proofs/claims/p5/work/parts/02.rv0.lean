/-! A run of bytecode over what is known of numbers (an interval) and of cells (by their places), as a function: the machine's own steps are held to it in the parts behind. -/
/-- a value: a number between two; or (0, _) null, (1, _) a long, (2, k) the cell at place k, (3, j) the text j, (4, j) its bytes, (5, _) the script, (6, _) a cell or null, (7, k) the number k that is told from outside, (9, _) not set -/
abbrev rvV : Type := (Int × Int) ⊕ (Nat × Nat)
/-- a cell: an object (its class, its fields) or a row (its kind, length, what all hold, what some hold instead) -/
abbrev rvC : Type := (Nat × List rvV) ⊕ (Nat × Nat × rvV × List (Nat × rvV))
abbrev rvH : Type := List rvC
/-- pc, locals, stack, cells, how many cells and slots were made -/
abbrev rvS : Type := Nat × List rvV × List rvV × rvH × Nat × Nat
/-- an instruction, its length, what it links to (three numbers), the place of its word -/
abbrev rvE : Type := Instr × Nat × Nat × Nat × Nat × Nat
/-- a method: locals, then frames, cells, slots, locals that it may take, the class of its receiver -/
abbrev rvM : Type := Nat × Nat × Nat × Nat × Nat × Nat
abbrev rvO : Type := Option (Option rvV × rvH)
def rvK (n : Int) : rvV := .inl (n, n)
def rvTop : rvV := .inl (-2147483648, 2147483647)
def rvU : rvV := .inr (9, 0)
def rvL : rvV := .inr (1, 0)
/-- the long 0 -/
def rvL0 : rvV := .inr (1, 1)
def rvIsL (v : rvV) : Bool := match v with
  | .inr (1, _) => true
  | _ => false
/-- a reference or null, as aload takes it -/
def rvIsA (v : rvV) : Bool := match v with
  | .inr (1, _) => false
  | .inr (7, _) => false
  | .inr (9, _) => false
  | .inr _ => true
  | .inl _ => false
def rvOne (a : Int × Int) : Bool := decide (a.1 = a.2)
def rvBin (f : Int32 → Int32 → Int32) (a b : Int × Int) : rvV := bif rvOne a && rvOne b then rvK (f (Int32.ofInt a.1) (Int32.ofInt b.1)).toInt else rvTop
def rvLt (a b : Int × Int) : Option Bool := bif decide (a.2 < b.1) then some true else bif decide (b.2 ≤ a.1) then some false else none
def rvEq (a b : Int × Int) : Option Bool := bif rvOne a && rvOne b then some (decide (a.1 = b.1)) else bif decide (a.2 < b.1) || decide (b.2 < a.1) then some false else none
def rvNo (o : Option Bool) : Option Bool := match o with
  | some b => some (!b)
  | none => none
def rvCmp (c : ClassFile.Cond) (a b : Int × Int) : Option Bool := match c with
  | .eq => rvEq a b
  | .ne => rvNo (rvEq a b)
  | .lt => rvLt a b
  | .ge => rvNo (rvLt a b)
  | .gt => rvLt b a
  | .le => rvNo (rvLt b a)
def rvJ (pc : Nat) (off : Int) : Option Nat := bif decide (0 ≤ (pc : Int) + off) then some ((pc : Int) + off).toNat else none
def rvIdx (a : Int × Int) (n : Nat) : Option Nat := bif rvOne a && (decide (0 ≤ a.1) && decide (a.1 < (n : Int))) then some a.1.toNat else none
def rvLook (d : rvV) (ov : List (Nat × rvV)) (j : Nat) : rvV := match ov with
  | [] => d
  | (k, v) :: t => bif Nat.beq k j then v else rvLook d t j
def rvUp (ov : List (Nat × rvV)) (j : Nat) (v : rvV) : List (Nat × rvV) := match ov with
  | [] => [(j, v)]
  | (k, w) :: t => bif Nat.beq k j then (j, v) :: t else (k, w) :: rvUp t j v
def rvIn (a : Int × Int) (lo hi : Int) : Bool := decide (lo ≤ a.1) && decide (a.2 ≤ hi)
def rvFit (ty : FieldType) (v : rvV) : Bool := match ty, v with
  | .int, .inl _ => true
  | .boolean, .inl a => rvIn a 0 1
  | .byte, .inl a => rvIn a (-128) 127
  | .char, .inl a => rvIn a 0 65535
  | .long, .inr (1, _) => true
  | .object _, .inr (0, _) => true
  | .object _, .inr (2, _) => true
  | .array _, .inr (0, _) => true
  | .array _, .inr (2, _) => true
  | _, _ => false
def rvDef (ty : FieldType) : rvV := match ty with
  | .int => rvK 0
  | .boolean => rvK 0
  | .long => rvL0
  | _ => .inr (0, 0)
/-- a local is set; the first half of a long that it cuts is not set any more -/
def rvSet (al : List rvV) (i : Nat) (v : rvV) : List rvV := match i with
  | 0 => al.set 0 v
  | k + 1 => match al[k]? with
    | some w => bif rvIsL w then (al.set k rvU).set (k + 1) v else al.set (k + 1) v
    | none => al
def rvWd (st : List rvV) : Nat := match st with
  | [] => 0
  | v :: t => (bif rvIsL v then 2 else 1) + rvWd t
def rvPop (n : Nat) (st acc : List rvV) : Option (List rvV × List rvV) := match n, st with
  | 0, st => some (acc, st)
  | _ + 1, [] => none
  | k + 1, v :: t => rvPop k t (v :: acc)
def rvEnt (as : List rvV) : List rvV := match as with
  | [] => []
  | v :: t => bif rvIsL v then v :: rvU :: rvEnt t else v :: rvEnt t
def rvLen (st : List rvV) : Nat := match st with
  | [] => 0
  | _ :: t => rvLen t + 1
/-- a long that is known, as a number (0: it isn't) -/
def rvLe (n : Int64) : Nat := n.toUInt64.toNat + 1
def rvLd (k : Nat) : Int64 := Int64.ofNat (k - 1)
def rvLb (f : Int64 → Int64 → Int64) (a b : Nat) : rvV := bif Nat.beq a 0 || Nat.beq b 0 then rvL else .inr (1, rvLe (f (rvLd a) (rvLd b)))
def rvLs (f : Int64 → Int32 → Int64) (a : Nat) (b : Int × Int) : rvV := bif Nat.beq a 0 || !rvOne b then rvL else .inr (1, rvLe (f (rvLd a) (Int32.ofInt b.1)))
/-- an int as a long -/
def rvLw (a : Int × Int) : rvV := bif rvOne a then .inr (1, rvLe (Int32.ofInt a.1).toInt64) else rvL
def rvLc (a b : Nat) : rvV := bif Nat.beq a 0 || Nat.beq b 0 then .inl (-1, 1) else rvK (lg_cmp (rvLd a) (rvLd b)).toInt
def rvLi (a : Nat) : rvV := bif Nat.beq a 0 then rvTop else rvK (rvLd a).toInt32.toInt
/-- one instruction that calls nothing -/
def rvStep (tys : Nat → Nat → FieldType) (nf : Nat → Nat) (txt : Nat → List Int) (sc : List (Int × Int)) (BC BS mL : Nat) (i : Instr) (a1 a2 a3 : Nat) (pc : Nat) (al st : List rvV) (aw : rvH) (kc ks : Nat) : Option rvS :=
  match i with
  | .iconst n => bif rvIn (n, n) (-2147483648) 2147483647 then some (pc + 1, al, rvK n :: st, aw, kc, ks) else none
  | .bipush n => bif rvIn (n, n) (-128) 127 then some (pc + 2, al, rvK n :: st, aw, kc, ks) else none
  | .sipush n => bif rvIn (n, n) (-32768) 32767 then some (pc + 3, al, rvK n :: st, aw, kc, ks) else none
  | .lconst k => some (pc + 1, al, .inr (1, k.val + 1) :: st, aw, kc, ks)
  | .ldc2_w _ => some (pc + 3, al, .inr (1, a1) :: st, aw, kc, ks)
  | .ldc _ => bif Nat.beq a1 50 then (bif Nat.blt a2 2147483648 then some (pc + 2, al, rvK (a2 : Int) :: st, aw, kc, ks) else none) else some (pc + 2, al, .inr (3, a1) :: st, aw, kc, ks)
  | .ldc_w _ => bif Nat.beq a1 50 && Nat.blt a2 2147483648 then some (pc + 3, al, rvK (a2 : Int) :: st, aw, kc, ks) else none
  | .aconst_null => some (pc + 1, al, .inr (0, 0) :: st, aw, kc, ks)
  | .iload k => match al[k]? with
    | some (.inl a) => some (pc + 2, al, .inl a :: st, aw, kc, ks)
    | _ => none
  | .iload_n k => match al[k.val]? with
    | some (.inl a) => some (pc + 1, al, .inl a :: st, aw, kc, ks)
    | _ => none
  | .lload k => match al[k]? with
    | some (.inr (1, z)) => some (pc + 2, al, .inr (1, z) :: st, aw, kc, ks)
    | _ => none
  | .lload_n k => match al[k.val]? with
    | some (.inr (1, z)) => some (pc + 1, al, .inr (1, z) :: st, aw, kc, ks)
    | _ => none
  | .aload k => match al[k]? with
    | some v => bif rvIsA v then some (pc + 2, al, v :: st, aw, kc, ks) else none
    | _ => none
  | .aload_n k => match al[k.val]? with
    | some v => bif rvIsA v then some (pc + 1, al, v :: st, aw, kc, ks) else none
    | _ => none
  | .istore k => match st with
    | .inl a :: st => bif Nat.blt k mL then some (pc + 2, rvSet al k (.inl a), st, aw, kc, ks) else none
    | _ => none
  | .istore_n k => match st with
    | .inl a :: st => bif Nat.blt k.val mL then some (pc + 1, rvSet al k.val (.inl a), st, aw, kc, ks) else none
    | _ => none
  | .lstore k => match st with
    | .inr (1, z) :: st => bif Nat.blt (k + 1) mL then some (pc + 2, (rvSet al k (.inr (1, z))).set (k + 1) rvU, st, aw, kc, ks) else none
    | _ => none
  | .lstore_n k => match st with
    | .inr (1, z) :: st => bif Nat.blt (k.val + 1) mL then some (pc + 1, (rvSet al k.val (.inr (1, z))).set (k.val + 1) rvU, st, aw, kc, ks) else none
    | _ => none
  | .astore k => match st with
    | v :: st => bif rvIsA v && Nat.blt k mL then some (pc + 2, rvSet al k v, st, aw, kc, ks) else none
    | _ => none
  | .astore_n k => match st with
    | v :: st => bif rvIsA v && Nat.blt k.val mL then some (pc + 1, rvSet al k.val v, st, aw, kc, ks) else none
    | _ => none
  | .iinc k n => match al[k]? with
    | some (.inl a) => bif Nat.blt k mL && rvIn (n, n) (-2147483648) 2147483647 then some (pc + 3, rvSet al k (rvBin (· + ·) a (n, n)), st, aw, kc, ks) else none
    | _ => none
  | .iadd => match st with
    | .inl b :: .inl a :: st => some (pc + 1, al, rvBin (· + ·) a b :: st, aw, kc, ks)
    | _ => none
  | .isub => match st with
    | .inl b :: .inl a :: st => some (pc + 1, al, rvBin (· - ·) a b :: st, aw, kc, ks)
    | _ => none
  | .imul => match st with
    | .inl b :: .inl a :: st => some (pc + 1, al, rvBin (· * ·) a b :: st, aw, kc, ks)
    | _ => none
  | .iand => match st with
    | .inl b :: .inl a :: st => some (pc + 1, al, rvBin (· &&& ·) a b :: st, aw, kc, ks)
    | _ => none
  | .ior => match st with
    | .inl b :: .inl a :: st => some (pc + 1, al, rvBin (· ||| ·) a b :: st, aw, kc, ks)
    | _ => none
  | .ixor => match st with
    | .inl b :: .inl a :: st => some (pc + 1, al, rvBin (· ^^^ ·) a b :: st, aw, kc, ks)
    | _ => none
  | .ishl => match st with
    | .inl b :: .inl a :: st => some (pc + 1, al, rvBin (fun x y => x <<< (y &&& 31)) a b :: st, aw, kc, ks)
    | _ => none
  | .ishr => match st with
    | .inl b :: .inl a :: st => some (pc + 1, al, rvBin (fun x y => x >>> (y &&& 31)) a b :: st, aw, kc, ks)
    | _ => none
  | .iushr => match st with
    | .inl b :: .inl a :: st => some (pc + 1, al, rvBin (fun x y => (x.toUInt32 >>> (y.toUInt32 &&& Int32.toUInt32 31)).toInt32) a b :: st, aw, kc, ks)
    | _ => none
  | .irem => match st with
    | .inl b :: .inl a :: st => bif rvOne b && !(decide (b.1 = 0)) then some (pc + 1, al, rvBin (fun x y => x - x / y * y) a b :: st, aw, kc, ks) else none
    | _ => none
  | .i2b => match st with
    | .inl a :: st => some (pc + 1, al, (bif rvOne a then rvK (Int32.ofInt a.1).toInt8.toInt32.toInt else .inl (-128, 127)) :: st, aw, kc, ks)
    | _ => none
  | .i2c => match st with
    | .inl a :: st => some (pc + 1, al, (bif rvOne a then rvK ((Int32.ofInt a.1).toUInt32 % 65536).toInt32.toInt else .inl (0, 65535)) :: st, aw, kc, ks)
    | _ => none
  | .i2l => match st with
    | .inl a :: st => some (pc + 1, al, rvLw a :: st, aw, kc, ks)
    | _ => none
  | .lor => match st with
    | .inr (1, y) :: .inr (1, x) :: st => some (pc + 1, al, rvLb (· ||| ·) x y :: st, aw, kc, ks)
    | _ => none
  | .lshl => match st with
    | .inl b :: .inr (1, x) :: st => some (pc + 1, al, rvLs (fun x y => x <<< (y.toInt64 &&& 63)) x b :: st, aw, kc, ks)
    | _ => none
  | .land => match st with
    | .inr (1, y) :: .inr (1, x) :: st => some (pc + 1, al, rvLb (· &&& ·) x y :: st, aw, kc, ks)
    | _ => none
  | .lshr => match st with
    | .inl b :: .inr (1, x) :: st => some (pc + 1, al, rvLs (fun x y => x >>> (y.toInt64 &&& 63)) x b :: st, aw, kc, ks)
    | _ => none
  | .lushr => match st with
    | .inl b :: .inr (1, x) :: st => some (pc + 1, al, rvLs (fun x y => (x.toUInt64 >>> (y.toInt64.toUInt64 &&& Int64.toUInt64 63)).toInt64) x b :: st, aw, kc, ks)
    | _ => none
  | .lcmp => match st with
    | .inr (1, y) :: .inr (1, x) :: st => some (pc + 1, al, rvLc x y :: st, aw, kc, ks)
    | _ => none
  | .l2i => match st with
    | .inr (1, x) :: st => some (pc + 1, al, rvLi x :: st, aw, kc, ks)
    | _ => none
  | .idiv => match st with
    | .inl b :: .inl a :: st => bif rvOne b && !(decide (b.1 = 0)) then some (pc + 1, al, rvBin (fun x y => x / y) a b :: st, aw, kc, ks) else none
    | _ => none
  | .ineg => match st with
    | .inl a :: st => some (pc + 1, al, rvBin (fun x _ => -x) a (0, 0) :: st, aw, kc, ks)
    | _ => none
  | .lookupswitch dflt ps => match st with
    | .inl a :: st => bif rvOne a && (ps.toList.zip (ps.toList.drop 1)).all (fun q => decide (q.1.1 < q.2.1)) then (match rvJ pc (Op.lookupswitch.offset ps.toList dflt a.1) with
        | some t => some (t, al, st, aw, kc, ks)
        | none => none) else none
    | _ => none
  | .dup => match st with
    | v :: st => bif rvIsL v then none else some (pc + 1, al, v :: v :: st, aw, kc, ks)
    | _ => none
  | .dup_x1 => match st with
    | v :: w :: st => bif rvIsL v || rvIsL w then none else some (pc + 1, al, v :: w :: v :: st, aw, kc, ks)
    | _ => none
  | .dup2 => match st with
    | v :: w :: st => bif rvIsL v || rvIsL w then none else some (pc + 1, al, v :: w :: v :: w :: st, aw, kc, ks)
    | _ => none
  | .pop => match st with
    | v :: st => bif rvIsL v then none else some (pc + 1, al, st, aw, kc, ks)
    | _ => none
  | .if_icmp c off => match st with
    | .inl b :: .inl a :: st => match rvCmp c a b, rvJ pc off with
      | some true, some t => some (t, al, st, aw, kc, ks)
      | some false, some _ => some (pc + 3, al, st, aw, kc, ks)
      | _, _ => none
    | _ => none
  | .ifCond c off => match st with
    | .inl a :: st => match rvCmp c a (0, 0), rvJ pc off with
      | some true, some t => some (t, al, st, aw, kc, ks)
      | some false, some _ => some (pc + 3, al, st, aw, kc, ks)
      | _, _ => none
    | _ => none
  | .ifnonnull off => match st with
    | .inr (0, _) :: st => some (pc + 3, al, st, aw, kc, ks)
    | .inr (2, _) :: st => match rvJ pc off with
      | some t => some (t, al, st, aw, kc, ks)
      | none => none
    | _ => none
  | .ifnull off => match st with
    | .inr (2, _) :: st => some (pc + 3, al, st, aw, kc, ks)
    | .inr (0, _) :: st => match rvJ pc off with
      | some t => some (t, al, st, aw, kc, ks)
      | none => none
    | _ => none
  | .goto off => match rvJ pc off with
    | some t => some (t, al, st, aw, kc, ks)
    | none => none
  | .tableswitch dflt lo hi offs => match st with
    | .inl a :: st => bif decide (a.2 < lo) || decide (hi < a.1) then (match rvJ pc dflt with
        | some t => some (t, al, st, aw, kc, ks)
        | none => none)
      else bif rvOne a && (decide (lo ≤ a.1) && decide (a.1 ≤ hi)) then (match offs[(a.1 - lo).toNat]? with
        | some off => (match rvJ pc off with
          | some t => some (t, al, st, aw, kc, ks)
          | none => none)
        | none => none)
      else none
    | _ => none
  | .getfield _ => match st with
    | .inr (2, k) :: st => match aw[k]? with
      | some (.inl (ci, fs)) => bif Nat.beq ci a1 then (match fs[a2]? with
        | some w => some (pc + 3, al, w :: st, aw, kc, ks)
        | none => none) else none
      | _ => none
    | .inr (3, j) :: st => bif Nat.beq a1 100 && Nat.blt j 6 then some (pc + 3, al, (bif Nat.beq a2 0 then .inr (4, j) else rvK 0) :: st, aw, kc, ks) else none
    | _ => none
  | .putfield _ => match st with
    | v :: .inr (2, k) :: st => match aw[k]? with
      | some (.inl (ci, fs)) => bif Nat.beq ci a1 && (rvFit (tys ci a2) v && Nat.blt a2 (rvLen fs)) then some (pc + 3, al, st, aw.set k (.inl (ci, fs.set a2 v)), kc, ks) else none
      | _ => none
    | _ => none
  | .getstatic _ => some (pc + 3, al, (bif Nat.beq a1 0 then rvK 1 else bif Nat.beq a1 1 then .inr (6, 0) else .inr (10, a1 - 2)) :: st, aw, kc, ks)
  | .arraylength => match st with
    | .inr (2, k) :: st => match aw[k]? with
      | some (.inr (_, n, _, _)) => bif Nat.blt n 2147483648 then some (pc + 1, al, rvK (n : Int) :: st, aw, kc, ks) else none
      | _ => none
    | .inr (4, j) :: st => bif Nat.blt j 6 then some (pc + 1, al, rvK ((txt j).length : Int) :: st, aw, kc, ks) else none
    | .inr (10, j) :: st => bif Nat.blt j 2 then some (pc + 1, al, rvK ((txt (10 + j)).length : Int) :: st, aw, kc, ks) else none
    | _ => none
  | .iaload => match st with
    | .inl x :: .inr (2, k) :: st => match aw[k]? with
      | some (.inr (0, n, d, ov)) => match rvIdx x n with
        | some j => some (pc + 1, al, rvLook d ov j :: st, aw, kc, ks)
        | none => none
      | _ => none
    | .inl x :: .inr (10, z) :: st => match rvIdx x (txt (10 + z)).length with
      | some j => match (txt (10 + z))[j]? with
        | some b => bif Nat.blt z 2 then some (pc + 1, al, rvK b :: st, aw, kc, ks) else none
        | none => none
      | none => none
    | .inl x :: .inr (5, z) :: st => match rvIdx x sc.length with
      | some j => match sc[j]? with
        | some a => bif Nat.beq z 0 then some (pc + 1, al, .inl a :: st, aw, kc, ks) else none
        | none => none
      | none => none
    | _ => none
  | .baload => match st with
    | .inl x :: .inr (2, k) :: st => match aw[k]? with
      | some (.inr (1, n, d, ov)) => match rvIdx x n with
        | some j => some (pc + 1, al, rvLook d ov j :: st, aw, kc, ks)
        | none => none
      | some (.inr (2, n, d, ov)) => match rvIdx x n with
        | some j => some (pc + 1, al, rvLook d ov j :: st, aw, kc, ks)
        | none => none
      | _ => none
    | .inl x :: .inr (4, z) :: st => match rvIdx x (txt z).length with
      | some j => match (txt z)[j]? with
        | some b => bif Nat.blt z 6 then some (pc + 1, al, rvK b :: st, aw, kc, ks) else none
        | none => none
      | none => none
    | _ => none
  | .laload => match st with
    | .inl x :: .inr (2, k) :: st => match aw[k]? with
      | some (.inr (3, n, d, ov)) => match rvIdx x n with
        | some j => match rvLook d ov j with
          | .inr (1, z) => some (pc + 1, al, .inr (1, z) :: st, aw, kc, ks)
          | _ => none
        | none => none
      | _ => none
    | _ => none
  | .aaload => match st with
    | .inl x :: .inr (2, k) :: st => match aw[k]? with
      | some (.inr (4, n, d, ov)) => match rvIdx x n with
        | some j => some (pc + 1, al, rvLook d ov j :: st, aw, kc, ks)
        | none => none
      | some (.inr (5, n, d, ov)) => match rvIdx x n with
        | some j => some (pc + 1, al, rvLook d ov j :: st, aw, kc, ks)
        | none => none
      | _ => none
    | _ => none
  | .iastore => match st with
    | .inl v :: .inl x :: .inr (2, k) :: st => match aw[k]? with
      | some (.inr (0, n, d, ov)) => match rvIdx x n with
        | some j => some (pc + 1, al, st, aw.set k (.inr (0, n, d, rvUp ov j (.inl v))), kc, ks)
        | none => none
      | _ => none
    | _ => none
  | .bastore => match st with
    | .inl v :: .inl x :: .inr (2, k) :: st => match aw[k]? with
      | some (.inr (1, n, d, ov)) => match rvIdx x n with
        | some j => bif rvIn v (-128) 127 then some (pc + 1, al, st, aw.set k (.inr (1, n, d, rvUp ov j (.inl v))), kc, ks) else none
        | none => none
      | some (.inr (2, n, d, ov)) => match rvIdx x n with
        | some j => bif rvIn v 0 1 then some (pc + 1, al, st, aw.set k (.inr (2, n, d, rvUp ov j (.inl v))), kc, ks) else none
        | none => none
      | _ => none
    | _ => none
  | .lastore => match st with
    | .inr (1, z) :: .inl x :: .inr (2, k) :: st => match aw[k]? with
      | some (.inr (3, n, d, ov)) => match rvIdx x n with
        | some j => some (pc + 1, al, st, aw.set k (.inr (3, n, d, rvUp ov j (.inr (1, z)))), kc, ks)
        | none => none
      | _ => none
    | _ => none
  | .aastore => match st with
    | v :: .inl x :: .inr (2, k) :: st => match aw[k]? with
      | some (.inr (q, n, d, ov)) => match rvIdx x n with
        | some j => match v with
          | .inr (0, z) => bif Nat.beq q 4 || Nat.beq q 5 then some (pc + 1, al, st, aw.set k (.inr (q, n, d, rvUp ov j (.inr (0, z)))), kc, ks) else none
          | .inr (2, z) => match aw[z]? with
            | some (.inl (ci, _)) => bif (Nat.beq q 4 && Nat.beq ci 2) || (Nat.beq q 5 && Nat.beq ci 6) then some (pc + 1, al, st, aw.set k (.inr (q, n, d, rvUp ov j (.inr (2, z)))), kc, ks) else none
            | _ => none
          | _ => none
        | none => none
      | _ => none
    | _ => none
  | .new _ => bif Nat.ble (kc + 1) BC && Nat.ble (ks + nf a1) BS then some (pc + 3, al, .inr (2, aw.length) :: st, aw ++ [.inl (a1, (List.range (nf a1)).map (fun k => rvDef (tys a1 k)))], kc + 1, ks + nf a1) else none
  | .newarray _ => match st with
    | .inl x :: st => bif rvOne x && (decide (0 ≤ x.1) && (decide (x.1 ≤ 100000) && (Nat.ble (kc + 1) BC && Nat.ble (ks + x.1.toNat) BS))) then some (pc + 2, al, .inr (2, aw.length) :: st, aw ++ [.inr (a1, x.1.toNat, (bif Nat.beq a1 3 then rvL0 else rvK 0), [])], kc + 1, ks + x.1.toNat) else none
    | _ => none
  | .anewarray _ => match st with
    | .inl x :: st => bif rvOne x && (decide (0 ≤ x.1) && (decide (x.1 ≤ 100000) && (Nat.ble (kc + 1) BC && Nat.ble (ks + x.1.toNat) BS))) then some (pc + 3, al, .inr (2, aw.length) :: st, aw ++ [.inr (a1, x.1.toNat, .inr (0, 0), [])], kc + 1, ks + x.1.toNat) else none
    | _ => none
  | _ => none
/-- a call: the callee's answer is put on the stack, its cells are the cells now -/
def rvInv (call : Nat → List rvV → rvH → rvO) (info : Nat → rvM) (BF BC BS BL : Nat) (j n : Nat) (virt : Bool) (pc : Nat) (al st : List rvV) (aw : rvH) (kc ks : Nat) : Option rvS :=
  match rvPop n st [] with
  | some (as, rest) => match info j with
    | (mL, fr, ce, sl, lo, cls) =>
      bif Nat.ble (fr + 1) BF && (Nat.ble (8 + (mL + 11) + lo) BL && (Nat.ble (kc + ce) BC && Nat.ble (ks + sl) BS)) then
        (bif virt then (match rest with
          | .inr (2, k) :: rest => (match aw[k]? with
            | some (.inl (ci, _)) => bif Nat.beq ci cls && Nat.ble (rvWd rest) 8 then (match call j (.inr (2, k) :: as) aw with
              | some (some v, aw') => some (pc + 3, al, v :: rest, aw', kc + ce, ks + sl)
              | some (none, aw') => some (pc + 3, al, rest, aw', kc + ce, ks + sl)
              | none => none) else none
            | _ => none)
          | .inr (3, k) :: rest => bif (Nat.beq cls 100 && Nat.blt k 6) && Nat.ble (rvWd rest) 8 then (match call j (.inr (3, k) :: as) aw with
              | some (some v, aw') => some (pc + 3, al, v :: rest, aw', kc + ce, ks + sl)
              | some (none, aw') => some (pc + 3, al, rest, aw', kc + ce, ks + sl)
              | none => none) else none
          | _ => none)
        else bif Nat.ble (rvWd rest) 8 then (match call j as aw with
          | some (some v, aw') => some (pc + 3, al, v :: rest, aw', kc + ce, ks + sl)
          | some (none, aw') => some (pc + 3, al, rest, aw', kc + ce, ks + sl)
          | none => none) else none)
      else none
  | none => none
/-- System.arraycopy of a whole row of ints to another of its length -/
def rvCopy (BF BL : Nat) (pc : Nat) (al st : List rvV) (aw : rvH) (kc ks : Nat) : Option rvS :=
  match st with
  | .inl n :: .inl dp :: .inr (2, x) :: .inl sp :: .inr (2, y) :: rest => match aw[y]?, aw[x]? with
    | some (.inr (0, m, d, ov)), some (.inr (0, m', _, _)) => bif rvOne n && (decide (n.1 = (m : Int)) && (Nat.beq m m' && (rvOne dp && (decide (dp.1 = 0) && (rvOne sp && (decide (sp.1 = 0) && (Nat.ble 1 BF && (Nat.ble (rvWd rest + 60) BL && Nat.blt m 2147483648)))))))) then some (pc + 3, al, rest, aw.set x (.inr (0, m', d, ov)), kc, ks) else none
    | _, _ => none
  | _ => none
/-- what comes next: nothing that is known, a stop, or a state -/
def rvNext (tys : Nat → Nat → FieldType) (nf : Nat → Nat) (txt : Nat → List Int) (sc : List (Int × Int)) (call : Nat → List rvV → rvH → rvO) (info : Nat → rvM) (tab : Nat → Option rvE) (stop BF BC BS BL mL : Nat) (pc : Nat) (al st : List rvV) (aw : rvH) (kc ks : Nat) : Option (Option rvS) :=
  bif Nat.beq pc stop then some none else
  match tab pc with
  | none => none
  | some (i, _, a1, a2, a3, _) => match i with
    | .ireturn => some none
    | .lreturn => some none
    | .areturn => some none
    | .return_ => some none
    | .invokevirtual _ => (match rvInv call info BF BC BS BL a1 a2 true pc al st aw kc ks with
      | some s => some (some s)
      | none => none)
    | .invokespecial _ => bif Nat.beq a3 9 then (match st with
        | .inr (2, _) :: rest => bif Nat.ble 1 BF && Nat.ble (rvWd rest + 12) BL then some (some (pc + 3, al, rest, aw, kc, ks)) else none
        | _ => none)
      else (match rvInv call info BF BC BS BL a1 a2 true pc al st aw kc ks with
      | some s => some (some s)
      | none => none)
    | .invokestatic _ => bif Nat.beq a3 8 then (match rvCopy BF BL pc al st aw kc ks with
      | some s => some (some s)
      | none => none)
      else (match rvInv call info BF BC BS BL a1 a2 false pc al st aw kc ks with
      | some s => some (some s)
      | none => none)
    | i => (match rvStep tys nf txt sc BC BS mL i a1 a2 a3 pc al st aw kc ks with
      | some s => some (some s)
      | none => none)
/-- at most n steps, to a stop -/
noncomputable def rvRun (tys : Nat → Nat → FieldType) (nf : Nat → Nat) (txt : Nat → List Int) (sc : List (Int × Int)) (call : Nat → List rvV → rvH → rvO) (info : Nat → rvM) (tab : Nat → Option rvE) (stop BF BC BS BL mL : Nat) (n : Nat) : Nat → List rvV → List rvV → rvH → Nat → Nat → Option rvS :=
  Nat.rec (motive := fun _ => Nat → List rvV → List rvV → rvH → Nat → Nat → Option rvS) (fun pc al st aw kc ks => some (pc, al, st, aw, kc, ks))
    (fun _ ih pc al st aw kc ks => match rvNext tys nf txt sc call info tab stop BF BC BS BL mL pc al st aw kc ks with
      | none => none
      | some none => some (pc, al, st, aw, kc, ks)
      | some (some (pc, al, st, aw, kc, ks)) => ih pc al st aw kc ks) n
/-- behind a run: the answer, if it stands at a return -/
def rvEnd (tab : Nat → Option rvE) (ret : Option FieldType) (ce sl : Nat) (o : Option rvS) : rvO := match o with
  | some (pc, _, st, aw, kc, ks) => bif Nat.ble kc ce && Nat.ble ks sl then (match tab pc with
    | some (.ireturn, _) => (match st, ret with
      | [.inl a], some ty => bif rvFit ty (.inl a) then some (some (.inl a), aw) else none
      | _, _ => none)
    | some (.lreturn, _) => (match st, ret with
      | [.inr (1, z)], some .long => some (some (.inr (1, z)), aw)
      | _, _ => none)
    | some (.return_, _) => (match st, ret with
      | [], none => some (none, aw)
      | _, _ => none)
    | _ => none) else none
  | none => none
/-- a method's answer, calls at most d deep, each of at most n steps; what orc knows is taken from there -/
noncomputable def rvExec (tys : Nat → Nat → FieldType) (nf : Nat → Nat) (txt : Nat → List Int) (orc : Nat → List rvV → rvH → rvO) (info : Nat → rvM) (rets : Nat → Option FieldType) (tabs : Nat → Nat → Option rvE) (n : Nat) (d : Nat) : Nat → List rvV → rvH → rvO :=
  Nat.rec (motive := fun _ => Nat → List rvV → rvH → rvO) orc
    (fun _ ih j as aw => match orc j as aw with
      | some r => some r
      | none => match info j with
        | (mL, fr, ce, sl, lo, _) => bif Nat.ble (rvLen (rvEnt as)) mL then rvEnd (tabs j) (rets j) ce sl (rvRun tys nf txt [] ih info (tabs j) 99999999 fr ce sl lo mL n 0 (rvEnt as ++ List.replicate (mL - rvLen (rvEnt as)) rvU) [] aw 0 0) else none) d
