/-! The checker's run once more: what hangs on the place alone stands apart, so that the kernel works it out once for each place. -/
noncomputable def xPureP (mL : Nat) (i : Instr) (a1 a2 : Nat) : Nat × (xS → Option (List xS)) := match i with
    | .iconst n => (0, fun S => match S with
      | (pc, al, st, ah, fs, Q, kc, ks) => (bif rvIn (n, n) (-2147483648) 2147483647 then some [xNx S (pc + 1) al (xKv n :: st) Q] else none))
    | .bipush n => (0, fun S => match S with
      | (pc, al, st, ah, fs, Q, kc, ks) => (bif rvIn (n, n) (-128) 127 then some [xNx S (pc + 2) al (xKv n :: st) Q] else none))
    | .sipush n => (0, fun S => match S with
      | (pc, al, st, ah, fs, Q, kc, ks) => (bif rvIn (n, n) (-32768) 32767 then some [xNx S (pc + 3) al (xKv n :: st) Q] else none))
    | .lconst k => (0, fun S => match S with
      | (pc, al, st, ah, fs, Q, kc, ks) => (some [xNx S (pc + 1) al (.inr (1, k.val + 1) :: st) Q]))
    | .ldc2_w _ => (0, fun S => match S with
      | (pc, al, st, ah, fs, Q, kc, ks) => (some [xNx S (pc + 3) al (.inr (1, a1) :: st) Q]))
    | .aconst_null => (0, fun S => match S with
      | (pc, al, st, ah, fs, Q, kc, ks) => (some [xNx S (pc + 1) al (.inr (0, 0) :: st) Q]))
    | .iload k => (0, fun S => match S with
      | (pc, al, st, ah, fs, Q, kc, ks) => (match al[k]? with
      | some (.inl a) => some [xNx S (pc + 2) al (.inl a :: st) Q]
      | _ => none))
    | .iload_n k => (0, fun S => match S with
      | (pc, al, st, ah, fs, Q, kc, ks) => (match al[k.val]? with
      | some (.inl a) => some [xNx S (pc + 1) al (.inl a :: st) Q]
      | _ => none))
    | .aload k => (0, fun S => match S with
      | (pc, al, st, ah, fs, Q, kc, ks) => (match al[k]? with
      | some v => bif xIsA v then some [xNx S (pc + 2) al (v :: st) Q] else none
      | _ => none))
    | .aload_n k => (0, fun S => match S with
      | (pc, al, st, ah, fs, Q, kc, ks) => (match al[k.val]? with
      | some v => bif xIsA v then some [xNx S (pc + 1) al (v :: st) Q] else none
      | _ => none))
    | .istore k => (0, fun S => match S with
      | (pc, al, st, ah, fs, Q, kc, ks) => (match st with
      | .inl a :: st => bif Nat.blt k mL then some [xNx S (pc + 2) (xSet al k (.inl a)) st Q] else none
      | _ => none))
    | .istore_n k => (0, fun S => match S with
      | (pc, al, st, ah, fs, Q, kc, ks) => (match st with
      | .inl a :: st => bif Nat.blt k.val mL then some [xNx S (pc + 1) (xSet al k.val (.inl a)) st Q] else none
      | _ => none))
    | .astore k => (0, fun S => match S with
      | (pc, al, st, ah, fs, Q, kc, ks) => (match st with
      | v :: st => bif xIsA v && Nat.blt k mL then some [xNx S (pc + 2) (xSet al k v) st Q] else none
      | _ => none))
    | .astore_n k => (0, fun S => match S with
      | (pc, al, st, ah, fs, Q, kc, ks) => (match st with
      | v :: st => bif xIsA v && Nat.blt k.val mL then some [xNx S (pc + 1) (xSet al k.val v) st Q] else none
      | _ => none))
    | .iinc k n => (0, fun S => match S with
      | (pc, al, st, ah, fs, Q, kc, ks) => (match al[k]? with
      | some (.inl a) => bif Nat.blt k mL && rvIn (n, n) (-2147483648) 2147483647 then (match xLop false Q a (0, 0, n) with
        | (Q, v) => some [xNx S (pc + 3) (xSet al k v) st Q]) else none
      | _ => none))
    | .iadd => (0, fun S => match S with
      | (pc, al, st, ah, fs, Q, kc, ks) => (match st with
      | .inl b :: .inl a :: st => xPq S (pc + 1) al st (some (xLop false Q a b))
      | _ => none))
    | .isub => (0, fun S => match S with
      | (pc, al, st, ah, fs, Q, kc, ks) => (match st with
      | .inl b :: .inl a :: st => xPq S (pc + 1) al st (some (xLop true Q a b))
      | _ => none))
    | .imul => (0, fun S => match S with
      | (pc, al, st, ah, fs, Q, kc, ks) => (match st with
      | .inl b :: .inl a :: st => xPq S (pc + 1) al st (xMop Q a b)
      | _ => none))
    | .iand => (0, fun S => match S with
      | (pc, al, st, ah, fs, Q, kc, ks) => (match st with
      | .inl b :: .inl a :: st => xPq S (pc + 1) al st (xBop (· &&& ·) xIand Q a b)
      | _ => none))
    | .ior => (0, fun S => match S with
      | (pc, al, st, ah, fs, Q, kc, ks) => (match st with
      | .inl b :: .inl a :: st => xPq S (pc + 1) al st (xBop (· ||| ·) xIor Q a b)
      | _ => none))
    | .ixor => (0, fun S => match S with
      | (pc, al, st, ah, fs, Q, kc, ks) => (match st with
      | .inl b :: .inl a :: st => xPq S (pc + 1) al st (xBop (· ^^^ ·) xIor Q a b)
      | _ => none))
    | .ishl => (0, fun S => match S with
      | (pc, al, st, ah, fs, Q, kc, ks) => (match st with
      | .inl b :: .inl a :: st => xPq S (pc + 1) al st (xBop (fun x y => x <<< (y &&& 31)) xIshl Q a b)
      | _ => none))
    | .ishr => (0, fun S => match S with
      | (pc, al, st, ah, fs, Q, kc, ks) => (match st with
      | .inl b :: .inl a :: st => xPq S (pc + 1) al st (xBop (fun x y => x >>> (y &&& 31)) xIshr Q a b)
      | _ => none))
    | .iushr => (0, fun S => match S with
      | (pc, al, st, ah, fs, Q, kc, ks) => (match st with
      | .inl b :: .inl a :: st => xPq S (pc + 1) al st (xBop (fun x y => (x.toUInt32 >>> (y.toUInt32 &&& Int32.toUInt32 31)).toInt32) xIushr Q a b)
      | _ => none))
    | .irem => (0, fun S => match S with
      | (pc, al, st, ah, fs, Q, kc, ks) => (match st with
      | .inl b :: .inl a :: st => (match xItv Q b with
        | some y => bif decide (0 < y.1) then xPq S (pc + 1) al st (xBop (fun x y => x - x / y * y) xIrem Q a b) else none
        | none => none)
      | _ => none))
    | .idiv => (0, fun S => match S with
      | (pc, al, st, ah, fs, Q, kc, ks) => (match st with
      | .inl b :: .inl a :: st => (match xItv Q b with
        | some y => bif decide (0 < y.1) then xPq S (pc + 1) al st (xBop (fun x y => x / y) (fun _ _ => xT32) Q a b) else none
        | none => none)
      | _ => none))
    | .dup => (0, fun S => match S with
      | (pc, al, st, ah, fs, Q, kc, ks) => (match st with
      | v :: st => bif xN1 v then some [xNx S (pc + 1) al (v :: v :: st) Q] else none
      | _ => none))
    | .dup_x1 => (0, fun S => match S with
      | (pc, al, st, ah, fs, Q, kc, ks) => (match st with
      | v :: w :: st => bif xN1 v && xN1 w then some [xNx S (pc + 1) al (v :: w :: v :: st) Q] else none
      | _ => none))
    | .dup2 => (0, fun S => match S with
      | (pc, al, st, ah, fs, Q, kc, ks) => (match st with
      | v :: w :: st => bif xN1 v && xN1 w then some [xNx S (pc + 1) al (v :: w :: v :: w :: st) Q] else none
      | _ => none))
    | .pop => (0, fun S => match S with
      | (pc, al, st, ah, fs, Q, kc, ks) => (match st with
      | v :: st => bif xN1 v then some [xNx S (pc + 1) al st Q] else none
      | _ => none))
    | .goto off => (0, fun S => match S with
      | (pc, al, st, ah, fs, Q, kc, ks) => (match rvJ pc off with
      | some t => some [xNx S t al st Q]
      | none => none))
    | .if_icmp c off => (0, fun S => match S with
      | (pc, al, st, ah, fs, Q, kc, ks) => (match st with
      | .inl b :: .inl a :: st => (match rvJ pc off with
        | some t => some (xJ S t al st (xCmp c (xSm a) (xSm b) Q) ++ xJ S (pc + 3) al st (xCmp (xNeg c) (xSm a) (xSm b) Q))
        | none => none)
      | _ => none))
    | .ifCond c off => (0, fun S => match S with
      | (pc, al, st, ah, fs, Q, kc, ks) => (match st with
      | .inl a :: st => (match rvJ pc off with
        | some t => some (xJ S t al st (xCmp c (xSm a) (xK 0) Q) ++ xJ S (pc + 3) al st (xCmp (xNeg c) (xSm a) (xK 0) Q))
        | none => none)
      | _ => none))
    | _ => (0, fun _ => none)
set_option maxHeartbeats 4000000 in
theorem xPureP_eq {mL : Nat} {i : Instr} {a1 a2 : Nat} {S : xS} : (xPureP mL i a1 a2).2 S = xPure mL i a1 a2 S := by
  obtain ⟨pc, al, st, ah, fs, Q, kc, ks⟩ := S
  cases i <;> rfl
noncomputable def xPurbP (mL : Nat) (i : Instr) (a1 a2 : Nat) : Nat × (xS → Option (List xS)) := match i with
    | .lload k => (0, fun S => match S with
      | (pc, al, st, ah, fs, Q, kc, ks) => (match al[k]? with
      | some (.inr (1, z)) => some [xNx S (pc + 2) al (.inr (1, z) :: st) Q]
      | _ => none))
    | .lload_n k => (0, fun S => match S with
      | (pc, al, st, ah, fs, Q, kc, ks) => (match al[k.val]? with
      | some (.inr (1, z)) => some [xNx S (pc + 1) al (.inr (1, z) :: st) Q]
      | _ => none))
    | .lstore k => (0, fun S => match S with
      | (pc, al, st, ah, fs, Q, kc, ks) => (match st with
      | .inr (1, z) :: st => bif Nat.blt (k + 1) mL then some [xNx S (pc + 2) ((xSet al k (.inr (1, z))).set (k + 1) (.inr (9, 0))) st Q] else none
      | _ => none))
    | .lstore_n k => (0, fun S => match S with
      | (pc, al, st, ah, fs, Q, kc, ks) => (match st with
      | .inr (1, z) :: st => bif Nat.blt (k.val + 1) mL then some [xNx S (pc + 1) ((xSet al k.val (.inr (1, z))).set (k.val + 1) (.inr (9, 0))) st Q] else none
      | _ => none))
    | .i2l => (0, fun S => match S with
      | (pc, al, st, ah, fs, Q, kc, ks) => (match st with
      | .inl _ :: st => some [xNx S (pc + 1) al (.inr (1, 0) :: st) Q]
      | _ => none))
    | .lor => (0, fun S => match S with
      | (pc, al, st, ah, fs, Q, kc, ks) => (match st with
      | .inr (1, _) :: .inr (1, _) :: st => some [xNx S (pc + 1) al (.inr (1, 0) :: st) Q]
      | _ => none))
    | .lshl => (0, fun S => match S with
      | (pc, al, st, ah, fs, Q, kc, ks) => (match st with
      | .inl _ :: .inr (1, _) :: st => some [xNx S (pc + 1) al (.inr (1, 0) :: st) Q]
      | _ => none))
    | .lushr => (0, fun S => match S with
      | (pc, al, st, ah, fs, Q, kc, ks) => (match st with
      | .inl _ :: .inr (1, _) :: st => some [xNx S (pc + 1) al (.inr (1, 0) :: st) Q]
      | _ => none))
    | .land => (0, fun S => match S with
      | (pc, al, st, ah, fs, Q, kc, ks) => (match st with
      | .inr (1, y) :: .inr (1, x) :: st => some [xNx S (pc + 1) al (xLk (· &&& ·) x y :: st) Q]
      | _ => none))
    | .lshr => (0, fun S => match S with
      | (pc, al, st, ah, fs, Q, kc, ks) => (match st with
      | .inl b :: .inr (1, x) :: st => some [xNx S (pc + 1) al (xLsh x (xItv Q b) :: st) Q]
      | _ => none))
    | .lcmp => (0, fun S => match S with
      | (pc, al, st, ah, fs, Q, kc, ks) => (match st with
      | .inr (1, y) :: .inr (1, x) :: st => bif Nat.beq x 0 || Nat.beq y 0 then xPq S (pc + 1) al st (some (xNew (-1, 1) Q)) else some [xNx S (pc + 1) al (xKv (lg_cmp (rvLd x) (rvLd y)).toInt :: st) Q]
      | _ => none))
    | .l2i => (0, fun S => match S with
      | (pc, al, st, ah, fs, Q, kc, ks) => (match st with
      | .inr (1, x) :: st => bif Nat.beq x 0 then xPq S (pc + 1) al st (some (xNew xT32 Q)) else some [xNx S (pc + 1) al (xKv (rvLd x).toInt32.toInt :: st) Q]
      | _ => none))
    | .ineg => (0, fun S => match S with
      | (pc, al, st, ah, fs, Q, kc, ks) => (match st with
      | .inl a :: st => xPq S (pc + 1) al st (some (xRes Q (xMul (-1) (xSm a))))
      | _ => none))
    | .i2b => (0, fun S => match S with
      | (pc, al, st, ah, fs, Q, kc, ks) => (match st with
      | .inl a :: st => xPq S (pc + 1) al st (xUn Q (-128) 127 a)
      | _ => none))
    | .i2c => (0, fun S => match S with
      | (pc, al, st, ah, fs, Q, kc, ks) => (match st with
      | .inl a :: st => xPq S (pc + 1) al st (xUn Q 0 65535 a)
      | _ => none))
    | .ldc _ => (0, fun S => match S with
      | (pc, al, st, ah, fs, Q, kc, ks) => (bif Nat.beq a1 50 then (bif Nat.blt a2 2147483648 then some [xNx S (pc + 2) al (xKv (a2 : Int) :: st) Q] else none) else bif Nat.beq a1 0 || Nat.blt 9 a1 then none else some [xNx S (pc + 2) al (.inr (3, a1) :: st) Q]))
    | .ldc_w _ => (0, fun S => match S with
      | (pc, al, st, ah, fs, Q, kc, ks) => (bif Nat.beq a1 50 && Nat.blt a2 2147483648 then some [xNx S (pc + 3) al (xKv (a2 : Int) :: st) Q] else none))
    | .ifnull off => (0, fun S => match S with
      | (pc, al, st, ah, fs, Q, kc, ks) => (match st with
      | .inr (0, _) :: st => (match rvJ pc off with
        | some t => some [xNx S t al st Q]
        | none => none)
      | .inr (2, _) :: st => some [xNx S (pc + 3) al st Q]
      | .inr (20, _) :: st => some [xNx S (pc + 3) al st Q]
      | _ => none))
    | .tableswitch dflt lo hi offs => (0, fun S => match S with
      | (pc, al, st, ah, fs, Q, kc, ks) => (match st with
      | .inl a :: st => (match rvJ pc dflt, xSw S pc al st a Q lo offs.toList with
        | some t, some l => bif decide ((offs.toList.length : Int) = hi - lo + 1) then some (l ++ (xJ S t al st (xCmp .lt (xSm a) (xK lo) Q) ++ xJ S t al st (xCmp .gt (xSm a) (xK hi) Q))) else none
        | _, _ => none)
      | _ => none))
    | _ => (0, fun _ => none)
set_option maxHeartbeats 4000000 in
theorem xPurbP_eq {mL : Nat} {i : Instr} {a1 a2 : Nat} {S : xS} : (xPurbP mL i a1 a2).2 S = xPurb mL i a1 a2 S := by
  obtain ⟨pc, al, st, ah, fs, Q, kc, ks⟩ := S
  cases i <;> rfl
noncomputable def xMiscP (rg : Nat → xG) (d : Nat) (i : Instr) (a1 a2 : Nat) : Nat × (xS → Option (List xS)) := match i with
    | .ldc _ => (0, fun S => match S with
      | (pc, al, st, ah, fs, Q, kc, ks) => (bif Nat.beq a1 50 then (bif Nat.blt a2 2147483648 then some [xNx S (pc + 2) al (xKv (a2 : Int) :: st) Q] else none) else some [xNx S (pc + 2) al (.inr (3, a1) :: st) Q]))
    | .getstatic _ => (0, fun S => match S with
      | (pc, al, st, ah, fs, Q, kc, ks) => (bif Nat.beq a1 0 then some [xNx S (pc + 3) al (xKv 1 :: st) Q] else bif Nat.beq a1 1 then some [xNx S (pc + 3) al (.inr (6, 0) :: st) Q] else some [xNx S (pc + 3) al (.inr (10, a1 - 2) :: st) Q]))
    | .getfield _ => (0, fun S => match S with
      | (pc, al, st, ah, fs, Q, kc, ks) => ((match st with
      | .inr (3, j) :: st => bif Nat.beq a1 100 && Nat.blt j 6 then (bif Nat.beq a2 0 then some [xNx S (pc + 3) al (.inr (4, j) :: st) Q] else some [xNx S (pc + 3) al (xKv 0 :: st) Q]) else none
      | _ => none)))
    | .arraylength => (0, fun S => match S with
      | (pc, al, st, ah, fs, Q, kc, ks) => ((match st with
      | .inr (4, j) :: st => bif Nat.blt j 6 then some [xNx S (pc + 1) al (xKv ((rvTxt j).length : Int) :: st) Q] else none
      | .inr (10, j) :: st => bif Nat.blt j 2 then some [xNx S (pc + 1) al (xKv ((rvTxt (10 + j)).length : Int) :: st) Q] else none
      | _ => none)))
    | .baload => (0, fun S => match S with
      | (pc, al, st, ah, fs, Q, kc, ks) => ((match st with
      | .inl x :: .inr (4, z) :: st => bif Nat.blt z 6 && xBnd d Q x (rvTxt z).length then (match xSpan (rvTxt z) with
        | some t => some [xNx S (pc + 1) al ((xNew t Q).2 :: st) (xNew t Q).1]
        | none => none) else none
      | _ => none)))
    | .iaload => (0, fun S => match S with
      | (pc, al, st, ah, fs, Q, kc, ks) => ((match st with
      | .inl x :: .inr (10, z) :: st => bif Nat.blt z 2 && xBnd d Q x (rvTxt (10 + z)).length then (match xItv Q x with
        | some a => (match xSpan (((rvTxt (10 + z)).drop a.1.toNat).take (a.2 - a.1 + 1).toNat) with
          | some t => some [xNx S (pc + 1) al ((xNew t Q).2 :: st) (xNew t Q).1]
          | none => none)
        | none => none) else none
      | _ => none)))
    | .lookupswitch dflt ps => (0, fun S => match S with
      | (pc, al, st, ah, fs, Q, kc, ks) => ((match st with
      | .inl v :: st => (match xItv Q v with
        | some a => bif decide (a.1 = a.2) && (ps.toList.zip (ps.toList.drop 1)).all (fun q => decide (q.1.1 < q.2.1)) then (match rvJ pc (Op.lookupswitch.offset ps.toList dflt a.1) with
          | some t => some [xNx S t al st Q]
          | none => none) else none
        | none => none)
      | _ => none)))
    | _ => (0, fun _ => none)
set_option maxHeartbeats 4000000 in
theorem xMiscP_eq {rg : Nat → xG} {d : Nat} {i : Instr} {a1 a2 : Nat} {S : xS} : (xMiscP rg d i a1 a2).2 S = xMisc rg d i a1 a2 S := by
  obtain ⟨pc, al, st, ah, fs, Q, kc, ks⟩ := S
  cases i <;> rfl
noncomputable def xStepP (d BC BS mL : Nat) (hn : Nat × Nat) (i : Instr) (a1 a2 : Nat) : Nat × (xS → Option (List xS)) := match i with
  | .iconst _ => (0, (xPureP mL i a1 a2).2)
  | .bipush _ => (0, (xPureP mL i a1 a2).2)
  | .sipush _ => (0, (xPureP mL i a1 a2).2)
  | .lconst _ => (0, (xPureP mL i a1 a2).2)
  | .ldc2_w _ => (0, (xPureP mL i a1 a2).2)
  | .aconst_null => (0, (xPureP mL i a1 a2).2)
  | .iload _ => (0, (xPureP mL i a1 a2).2)
  | .iload_n _ => (0, (xPureP mL i a1 a2).2)
  | .aload _ => (0, (xPureP mL i a1 a2).2)
  | .aload_n _ => (0, (xPureP mL i a1 a2).2)
  | .istore _ => (0, (xPureP mL i a1 a2).2)
  | .istore_n _ => (0, (xPureP mL i a1 a2).2)
  | .astore _ => (0, (xPureP mL i a1 a2).2)
  | .astore_n _ => (0, (xPureP mL i a1 a2).2)
  | .iadd => (0, (xPureP mL i a1 a2).2)
  | .isub => (0, (xPureP mL i a1 a2).2)
  | .iinc _ _ => (0, (xPureP mL i a1 a2).2)
  | .imul => (0, (xPureP mL i a1 a2).2)
  | .iand => (0, bif Nat.beq hn.1 1 then xA255 else (xPureP mL i a1 a2).2)
  | .ior => (0, (xPureP mL i a1 a2).2)
  | .ixor => (0, (xPureP mL i a1 a2).2)
  | .ishl => (0, (xPureP mL i a1 a2).2)
  | .ishr => (0, (xPureP mL i a1 a2).2)
  | .iushr => (0, (xPureP mL i a1 a2).2)
  | .irem => (0, (xPureP mL i a1 a2).2)
  | .idiv => (0, (xPureP mL i a1 a2).2)
  | .dup => (0, (xPureP mL i a1 a2).2)
  | .pop => (0, (xPureP mL i a1 a2).2)
  | .dup_x1 => (0, (xPureP mL i a1 a2).2)
  | .dup2 => (0, (xPureP mL i a1 a2).2)
  | .goto _ => (0, (xPureP mL i a1 a2).2)
  | .if_icmp _ _ => (0, (xPureP mL i a1 a2).2)
  | .ifCond _ _ => (0, (xPureP mL i a1 a2).2)
  | .lload _ => (0, (xPurbP mL i a1 a2).2)
  | .lload_n _ => (0, (xPurbP mL i a1 a2).2)
  | .lstore _ => (0, (xPurbP mL i a1 a2).2)
  | .lstore_n _ => (0, (xPurbP mL i a1 a2).2)
  | .i2l => (0, (xPurbP mL i a1 a2).2)
  | .lor => (0, (xPurbP mL i a1 a2).2)
  | .lshl => (0, (xPurbP mL i a1 a2).2)
  | .lushr => (0, (xPurbP mL i a1 a2).2)
  | .land => (0, (xPurbP mL i a1 a2).2)
  | .lcmp => (0, (xPurbP mL i a1 a2).2)
  | .l2i => (0, (xPurbP mL i a1 a2).2)
  | .ineg => (0, (xPurbP mL i a1 a2).2)
  | .ldc_w _ => (0, (xPurbP mL i a1 a2).2)
  | .ifnull _ => (0, (xPurbP mL i a1 a2).2)
  | .i2b => (0, (xPurbP mL i a1 a2).2)
  | .i2c => (0, (xPurbP mL i a1 a2).2)
  | .lshr => (0, (xPurbP mL i a1 a2).2)
  | .tableswitch _ _ _ _ => (0, (xPurbP mL i a1 a2).2)
  | .ldc _ => (0, (xMiscP xRgn d i a1 a2).2)
  | .getstatic _ => (0, (xMiscP xRgn d i a1 a2).2)
  | .lookupswitch _ _ => (0, (xMiscP xRgn d i a1 a2).2)
  | .getfield _ => (0, bif Nat.beq a1 100 then (xMiscP xRgn d i a1 a2).2 else xGetf xRgn a1 a2)
  | .arraylength => (0, bif Nat.beq hn.1 1 then (xMiscP xRgn d i a1 a2).2 else xLen xRgn)
  | .iaload => (0, bif Nat.beq hn.1 1 then (xMiscP xRgn d i a1 a2).2 else xLd xRgn d (fun q => Nat.beq q 0))
  | .baload => (0, bif Nat.beq hn.1 1 then (xMiscP xRgn d i a1 a2).2 else xLd xRgn d (fun q => Nat.beq q 1 || Nat.beq q 2))
  | .laload => (0, xLdl xRgn d)
  | .aaload => (0, xLda xRgn d)
  | .putfield _ => (0, xPutf xRgn (xFkk d) d a1 a2)
  | .iastore => (0, xSto xRgn (xFkk d) d (fun _ q => Nat.beq q 0))
  | .bastore => (0, fun S => xSto xRgn (xFkk d) d (xKd d S.2.2.2.2.2.1) S)
  | .lastore => (0, xStl xRgn (xFkk d) d)
  | .aastore => (0, xSta xRgn (xFkk d) d)
  | .new _ => (0, xNewo xRgn xFnn BC BS hn.1 a1)
  | .newarray _ => (0, xNewa xRgn xFnn BC BS hn.1 hn.2 a1)
  | _ => (0, fun _ => none)
set_option maxHeartbeats 4000000 in
theorem xStepP_eq {d BC BS mL : Nat} {hn : Nat × Nat} {i : Instr} {a1 a2 : Nat} {S : xS} : (xStepP d BC BS mL hn i a1 a2).2 S = xStep d BC BS mL hn i a1 a2 S := by
  cases i
  all_goals unfold xStepP xStep
  all_goals try dsimp only
  all_goals
    first
      | rfl
      | exact xPureP_eq
      | exact xPurbP_eq
      | exact xMiscP_eq
      | (cases Nat.beq hn.1 1 <;> simp only [cond_true, cond_false] <;> first
          | rfl
          | exact xPureP_eq
          | exact xMiscP_eq)
      | (cases Nat.beq a1 100 <;> simp only [cond_true, cond_false] <;> first
          | rfl
          | exact xMiscP_eq)
section XRUF
variable (mth : Nat → Option Nat) (d NM X na : Nat) (tab : Nat → Nat → Option rvE) (info : Nat → rvM) (rets : Nat → Option FieldType) (con : Nat → xCt) (opt : Nat → List xOp) (hp : Nat → Nat → Bool) (hn : Nat → Nat → Nat × Nat) (cutp : Nat → Bool) (cuts : Nat → Option xCu) (ms0 : List Nat) (rk0 : Option (List xL))
abbrev xIh : Type := Nat → Nat → Bool → xS → List Nat → Option (List xS × List Nat)
noncomputable def xCode (j n : Nat) : Nat × (xIh → Nat → xS → List Nat → Option (List xS × List Nat)) := match tab j n with
  | some (i, _, a1, a2, a3, _) => (match i with
    | .ireturn => (0, fun _ _ S tape => bif xRetB d rets j .ireturn S && (Nat.ble S.2.2.2.2.2.2.1 (info j).2.2.1 && Nat.ble S.2.2.2.2.2.2.2 (info j).2.2.2.1) then some ([S], tape) else none)
    | .lreturn => (0, fun _ _ S tape => bif xRetB d rets j .lreturn S && (Nat.ble S.2.2.2.2.2.2.1 (info j).2.2.1 && Nat.ble S.2.2.2.2.2.2.2 (info j).2.2.2.1) then some ([S], tape) else none)
    | .return_ => (0, fun _ _ S tape => bif xRetB d rets j .return_ S && (Nat.ble S.2.2.2.2.2.2.1 (info j).2.2.1 && Nat.ble S.2.2.2.2.2.2.2 (info j).2.2.2.1) then some ([S], tape) else none)
    | .invokestatic _ => (0, bif Nat.beq a3 8 then (fun ih dp S tape => match xCpy xRgn d (info j).2.1 (info j).2.2.2.2.1 S with
        | some Ss => xAll2 (ih dp j false) Ss tape
        | none => none) else (match mth a1 with
        | some k => bif Nat.beq a3 0 then (fun ih dp S tape => match xMth k (info j) S with
          | some Ss => xAll2 (ih dp j false) Ss tape
          | none => none) else (fun _ _ _ _ => none)
        | none => fun ih dp S tape => (match xPopA a2 S.2.2.1 [] with
          | some (as, rest) => xCall mth d NM X info con ih dp j a1 as rest S tape
          | none => none)))
    | .invokespecial _ => (0, bif Nat.beq a3 9 then (fun ih dp S tape => match xObj (info j).2.1 (info j).2.2.2.2.1 S with
        | some Ss => xAll2 (ih dp j false) Ss tape
        | none => none) else (fun ih dp S tape => match xPopA a2 S.2.2.1 [] with
        | some (as, v :: rest) => bif xRcv S.2.2.2.1 (info a1).2.2.2.2.2 v then xCall mth d NM X info con ih dp j a1 (v :: as) rest S tape else none
        | _ => none))
    | .invokevirtual _ => (0, fun ih dp S tape => match xPopA a2 S.2.2.1 [] with
        | some (as, v :: rest) => bif xRcv S.2.2.2.1 (info a1).2.2.2.2.2 v then xCall mth d NM X info con ih dp j a1 (v :: as) rest S tape else none
        | _ => none)
    | i => (0, fun ih dp S tape => match (xStepP d (info j).2.2.1 (info j).2.2.2.1 (info j).1 (hn j n) i a1 a2).2 S with
        | some Ss => xAll2 (ih dp j false) Ss tape
        | none => none))
  | none => (0, fun _ _ _ _ => none)
set_option maxHeartbeats 8000000 in
theorem xCode_eq {ih : xIh} {dp j n : Nat} {S : xS} {tape : List Nat} (hS : S.1 = n) : (xCode mth d NM X tab info rets con hn j n).2 ih dp S tape = xIns1 mth d NM X tab info rets con hn ih dp j S tape := by
  subst hS
  unfold xCode xIns1
  cases tab j S.1 with
  | none => rfl
  | some q =>
    obtain ⟨i, len, a1, a2, a3, wi⟩ := q
    dsimp only
    cases i
    case invokestatic idx =>
      dsimp only
      cases Nat.beq a3 8 with
      | true => rfl
      | false =>
        cases mth a1 with
        | none => rfl
        | some k =>
          cases Nat.beq a3 0 with
          | true => rfl
          | false => rfl
    case invokespecial idx =>
      dsimp only
      cases Nat.beq a3 9 with
      | true => rfl
      | false => rfl
    all_goals
      first
        | rfl
        | (dsimp only
           rw [xStepP_eq]
           try rfl)
noncomputable def xMidN (n : Nat) (ih : xIh) (dp j : Nat) (sk : Bool) (S : xS) (tape : List Nat) : Option (List xS × List Nat) :=
  bif Nat.beq dp 0 && (!sk && cutp n) then (match tape with
    | 0 :: t => (xCode mth d NM X tab info rets con hn j n).2 ih dp S t
    | (ci + 1) :: t => bif xCutC d na cuts ms0 rk0 S ci then some ([], t) else none
    | [] => none)
  else (xCode mth d NM X tab info rets con hn j n).2 ih dp S tape
noncomputable def xMidF (ih : xIh) (dp j : Nat) (sk : Bool) (S : xS) (tape : List Nat) : Option (List xS × List Nat) := match S.1 with
  | 0 => xMidN mth d NM X na tab info rets con hn cutp cuts ms0 rk0 0 ih dp j sk S tape
  | n + 1 => xMidN mth d NM X na tab info rets con hn cutp cuts ms0 rk0 (n + 1) ih dp j sk S tape
theorem xMidN_eq {ih : xIh} {dp j n : Nat} {sk : Bool} {S : xS} {tape : List Nat} (hS : S.1 = n) : xMidN mth d NM X na tab info rets con hn cutp cuts ms0 rk0 n ih dp j sk S tape = xMid mth d NM X na tab info rets con hn cutp cuts ms0 rk0 ih dp j sk S tape := by
  unfold xMidN xMid
  rw [hS]
  cases (Nat.beq dp 0 && (!sk && cutp n)) with
  | true =>
    rw [cond_true, cond_true]
    cases tape with
    | nil => rfl
    | cons x t =>
      cases x with
      | zero => exact xCode_eq mth d NM X tab info rets con hn hS
      | succ ci => rfl
  | false => exact xCode_eq mth d NM X tab info rets con hn hS
theorem xMidF_eq {ih : xIh} {dp j : Nat} {sk : Bool} {S : xS} {tape : List Nat} : xMidF mth d NM X na tab info rets con hn cutp cuts ms0 rk0 ih dp j sk S tape = xMid mth d NM X na tab info rets con hn cutp cuts ms0 rk0 ih dp j sk S tape := by
  unfold xMidF
  cases h : S.1 with
  | zero => exact xMidN_eq mth d NM X na tab info rets con hn cutp cuts ms0 rk0 h
  | succ n => exact xMidN_eq mth d NM X na tab info rets con hn cutp cuts ms0 rk0 h
noncomputable def xF1N (n : Nat) (ih : xIh) (dp j : Nat) (sk : Bool) (S : xS) (tape : List Nat) : Option (List xS × List Nat) :=
  bif hp j n then (match tape with
    | k :: t => (match xGhs d (opt k) [S] with
      | some Ss => xAll2 (xMidF mth d NM X na tab info rets con hn cutp cuts ms0 rk0 ih dp j sk) Ss t
      | none => none)
    | [] => none)
  else xMidN mth d NM X na tab info rets con hn cutp cuts ms0 rk0 n ih dp j sk S tape
noncomputable def xF1F (ih : xIh) (dp j : Nat) (sk : Bool) (S : xS) (tape : List Nat) : Option (List xS × List Nat) := match S.1 with
  | 0 => xF1N mth d NM X na tab info rets con opt hp hn cutp cuts ms0 rk0 0 ih dp j sk S tape
  | n + 1 => xF1N mth d NM X na tab info rets con opt hp hn cutp cuts ms0 rk0 (n + 1) ih dp j sk S tape
theorem xF1N_eq {ih : xIh} {dp j n : Nat} {sk : Bool} {S : xS} {tape : List Nat} (hS : S.1 = n) : xF1N mth d NM X na tab info rets con opt hp hn cutp cuts ms0 rk0 n ih dp j sk S tape = xF1 mth d NM X na tab info rets con opt hp hn cutp cuts ms0 rk0 ih dp j sk S tape := by
  have e : xMidF mth d NM X na tab info rets con hn cutp cuts ms0 rk0 ih dp j sk = xMid mth d NM X na tab info rets con hn cutp cuts ms0 rk0 ih dp j sk := funext fun S => funext fun t => xMidF_eq mth d NM X na tab info rets con hn cutp cuts ms0 rk0
  unfold xF1N xF1
  rw [hS, e, xMidN_eq mth d NM X na tab info rets con hn cutp cuts ms0 rk0 hS]
  rfl
theorem xF1F_eq (ih : xIh) : xF1F mth d NM X na tab info rets con opt hp hn cutp cuts ms0 rk0 ih = xF1 mth d NM X na tab info rets con opt hp hn cutp cuts ms0 rk0 ih := by
  funext dp j sk S tape
  unfold xF1F
  cases h : S.1 with
  | zero => exact xF1N_eq mth d NM X na tab info rets con opt hp hn cutp cuts ms0 rk0 h
  | succ n => exact xF1N_eq mth d NM X na tab info rets con opt hp hn cutp cuts ms0 rk0 h
noncomputable def xRunF (n : Nat) : xIh := Nat.rec (motive := fun _ => xIh) (fun _ _ _ _ _ => none) (fun _ ih => xF1F mth d NM X na tab info rets con opt hp hn cutp cuts ms0 rk0 ih) n
theorem xRunF_eq : ∀ n : Nat, xRunF mth d NM X na tab info rets con opt hp hn cutp cuts ms0 rk0 n = xRun mth d NM X na tab info rets con opt hp hn cutp cuts ms0 rk0 n
  | 0 => rfl
  | n + 1 => by
      show xF1F mth d NM X na tab info rets con opt hp hn cutp cuts ms0 rk0 (xRunF mth d NM X na tab info rets con opt hp hn cutp cuts ms0 rk0 n) = xF1 mth d NM X na tab info rets con opt hp hn cutp cuts ms0 rk0 (xRun mth d NM X na tab info rets con opt hp hn cutp cuts ms0 rk0 n)
      rw [xRunF_eq n, xF1F_eq]
end XRUF
theorem xEF {mth : Nat → Option Nat} {d NM X na : Nat} {tab : Nat → Nat → Option rvE} {info : Nat → rvM} {rets : Nat → Option FieldType} {con : Nat → xCt} {opt : Nat → List xOp} {hp : Nat → Nat → Bool} {hn : Nat → Nat → Nat × Nat} {cutp : Nat → Bool} {cuts : Nat → Option xCu} {ms0 : List Nat} {rk0 : Option (List xL)} {de nb n : Nat} {ms : List Nat} {os : List xOs} {f dp j : Nat} {sk : Bool} {S : xS} {t : List Nat} (h : xEnds de nb n ms os (xRunF mth d NM X na tab info rets con opt hp hn cutp cuts ms0 rk0 f dp j sk S t) = true) : xEnds de nb n ms os (xRun mth d NM X na tab info rets con opt hp hn cutp cuts ms0 rk0 f dp j sk S t) = true := by
  rw [xRunF_eq] at h
  exact h
/-! The same for runs in small steps. -/
section XKOF
variable (mth : Nat → Option Nat) (d NM X : Nat) (tab : Nat → Nat → Option rvE) (info : Nat → rvM) (rets : Nat → Option FieldType) (con : Nat → xCt) (opt : Nat → List xOp) (hp : Nat → Nat → Bool) (hn : Nat → Nat → Nat × Nat) (cutp : Nat → Bool) (j0 : Nat) (ck : Nat → xS → Bool) (oc : xS → Bool)
noncomputable def xKcode (j n : Nat) : Nat × (List xKf → xS → Nat → Option (List xKc)) := match tab j n with
  | some (i, _, a1, a2, a3, _) => (match i with
    | .ireturn => (0, fun fr S _ => bif xRetB d rets j .ireturn S && (Nat.ble S.2.2.2.2.2.2.1 (info j).2.2.1 && Nat.ble S.2.2.2.2.2.2.2 (info j).2.2.2.1) then xKret oc fr S else none)
    | .lreturn => (0, fun fr S _ => bif xRetB d rets j .lreturn S && (Nat.ble S.2.2.2.2.2.2.1 (info j).2.2.1 && Nat.ble S.2.2.2.2.2.2.2 (info j).2.2.2.1) then xKret oc fr S else none)
    | .return_ => (0, fun fr S _ => bif xRetB d rets j .return_ S && (Nat.ble S.2.2.2.2.2.2.1 (info j).2.2.1 && Nat.ble S.2.2.2.2.2.2.2 (info j).2.2.2.1) then xKret oc fr S else none)
    | .invokestatic _ => (0, bif Nat.beq a3 8 then (fun fr S _ => xKto fr j (xCpy xRgn d (info j).2.1 (info j).2.2.2.2.1 S)) else (match mth a1 with
        | some k => bif Nat.beq a3 0 then (fun fr S _ => xKto fr j (xMth k (info j) S)) else (fun _ _ _ => none)
        | none => fun fr S y => (match xPopA a2 S.2.2.1 [] with
          | some (as, rest) => xKcall mth d NM X info con fr j a1 as rest S y
          | none => none)))
    | .invokespecial _ => (0, bif Nat.beq a3 9 then (fun fr S _ => xKto fr j (xObj (info j).2.1 (info j).2.2.2.2.1 S)) else (fun fr S y => match xPopA a2 S.2.2.1 [] with
        | some (as, v :: rest) => bif xRcv S.2.2.2.1 (info a1).2.2.2.2.2 v then xKcall mth d NM X info con fr j a1 (v :: as) rest S y else none
        | _ => none))
    | .invokevirtual _ => (0, fun fr S y => match xPopA a2 S.2.2.1 [] with
        | some (as, v :: rest) => bif xRcv S.2.2.2.1 (info a1).2.2.2.2.2 v then xKcall mth d NM X info con fr j a1 (v :: as) rest S y else none
        | _ => none)
    | i => (0, fun fr S _ => xKto fr j ((xStepP d (info j).2.2.1 (info j).2.2.2.1 (info j).1 (hn j n) i a1 a2).2 S)))
  | none => (0, fun _ _ _ => none)
set_option maxHeartbeats 8000000 in
theorem xKcode_eq {fr : List xKf} {j n y : Nat} {S : xS} (hS : S.1 = n) : (xKcode mth d NM X tab info rets con hn oc j n).2 fr S y = xKins mth d NM X tab info rets con hn oc fr j S y := by
  subst hS
  unfold xKcode xKins
  cases tab j S.1 with
  | none => rfl
  | some q =>
    obtain ⟨i, len, a1, a2, a3, wi⟩ := q
    dsimp only
    cases i
    case invokestatic idx =>
      dsimp only
      cases Nat.beq a3 8 with
      | true => rfl
      | false =>
        cases mth a1 with
        | none => rfl
        | some k =>
          cases Nat.beq a3 0 with
          | true => rfl
          | false => rfl
    case invokespecial idx =>
      dsimp only
      cases Nat.beq a3 9 with
      | true => rfl
      | false => rfl
    all_goals
      first
        | rfl
        | (dsimp only
           rw [xStepP_eq]
           try rfl)
noncomputable def xKoneN (n : Nat) (fr : List xKf) (j md : Nat) (S : xS) (y : Nat) : Option (List xKc) :=
    bif Nat.ble md 1 && hp j n then (match xGhs d (opt y) [S] with
      | some Ss => some (Ss.map (fun S' => (fr, j, (bif Nat.beq md 0 then 2 else 3), S')))
      | none => none)
    else (bif xKtop fr && ((Nat.beq md 0 || Nat.beq md 2) && cutp n) then (match y with
      | 0 => some [(fr, j, 3, S)]
      | ci + 1 => bif Nat.beq j j0 && ck ci S then some [] else none)
    else (xKcode mth d NM X tab info rets con hn oc j n).2 fr S y)
noncomputable def xKoneF (c : xKc) (y : Nat) : Option (List xKc) := match c with
  | (fr, j, md, S) => (match S.1 with
    | 0 => xKoneN mth d NM X tab info rets con opt hp hn cutp j0 ck oc 0 fr j md S y
    | n + 1 => xKoneN mth d NM X tab info rets con opt hp hn cutp j0 ck oc (n + 1) fr j md S y)
theorem xKoneN_eq {fr : List xKf} {j md y n : Nat} {S : xS} (hS : S.1 = n) : xKoneN mth d NM X tab info rets con opt hp hn cutp j0 ck oc n fr j md S y = xKone mth d NM X tab info rets con opt hp hn cutp j0 ck oc (fr, j, md, S) y := by
  unfold xKoneN xKone
  dsimp only
  rw [hS, xKcode_eq mth d NM X tab info rets con hn oc hS]
  rfl
theorem xKoneF_eq : xKoneF mth d NM X tab info rets con opt hp hn cutp j0 ck oc = xKone mth d NM X tab info rets con opt hp hn cutp j0 ck oc := by
  funext c y
  obtain ⟨fr, j, md, S⟩ := c
  unfold xKoneF
  dsimp only
  cases h : S.1 with
  | zero => exact xKoneN_eq mth d NM X tab info rets con opt hp hn cutp j0 ck oc h
  | succ n => exact xKoneN_eq mth d NM X tab info rets con opt hp hn cutp j0 ck oc h
end XKOF
section XKSF
variable {mth : Nat → Option Nat} {d NM X na : Nat} {tab : Nat → Nat → Option rvE} {info : Nat → rvM} {rets : Nat → Option FieldType} {con : Nat → xCt} {opt : Nat → List xOp} {hp : Nat → Nat → Bool} {hn : Nat → Nat → Nat × Nat} {cutp : Nat → Bool} {j0 : Nat} {ck : Nat → xS → Bool} {oc : xS → Bool} {cuts : Nat → Option xCu} {ms0 : List Nat} {rk0 : Option (List xL)} {Gd : Nat → (xRes2 → Prop) → rvS → Prop} {Met : Nat → List rvV → rvH → (xRes2 → Prop) → Prop}
theorem xKs_f {n : Nat} {os : List xOs} (hc : xClo tab info rets NM mth Gd Met) (hcon : ∀ x, x < X → xCon Met (con x)) (hck : ∀ x S, ck x S = true → ∃ d2 ci, xCutC d2 na cuts ms0 rk0 S ci = true) (hoc : ∀ R, oc R = true → ∃ de q, q ∈ os ∧ xOutC de na n ms0 R q = true) (hj : j0 < NM) {fuel : Nat} {Tm : xS} {t : List Nat} {pt : Nat → Option (List (Nat × Nat))} {one : xKc → Nat → Option (List xKc)}
    (hone : one = xKoneF mth d NM X tab info rets con opt hp hn cutp j0 ck oc)
    (h : (xKrun one pt fuel ([], j0, 1, Tm) [] t).isSome = true)
    (hpt : ∀ m q, pt m = some q → ∃ f2 t2, xKpc one ([], j0, 1, Tm) f2 q t2 = true) : xKsem Gd na n j0 ms0 os cuts rk0 Tm := by
  rw [xKoneF_eq] at hone
  subst hone
  exact xKs_k hc hcon hck hoc hj h hpt
end XKSF
