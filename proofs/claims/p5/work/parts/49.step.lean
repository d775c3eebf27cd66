/-! One instruction: the checker's step, whichever it is. -/
noncomputable def xStep (d BC BS mL : Nat) (hn : Nat × Nat) (i : Instr) (a1 a2 : Nat) (S : xS) : Option (List xS) := match i with
  | .iconst _ => xPure mL i a1 a2 S
  | .bipush _ => xPure mL i a1 a2 S
  | .sipush _ => xPure mL i a1 a2 S
  | .lconst _ => xPure mL i a1 a2 S
  | .ldc2_w _ => xPure mL i a1 a2 S
  | .aconst_null => xPure mL i a1 a2 S
  | .iload _ => xPure mL i a1 a2 S
  | .iload_n _ => xPure mL i a1 a2 S
  | .aload _ => xPure mL i a1 a2 S
  | .aload_n _ => xPure mL i a1 a2 S
  | .istore _ => xPure mL i a1 a2 S
  | .istore_n _ => xPure mL i a1 a2 S
  | .astore _ => xPure mL i a1 a2 S
  | .astore_n _ => xPure mL i a1 a2 S
  | .iadd => xPure mL i a1 a2 S
  | .isub => xPure mL i a1 a2 S
  | .iinc _ _ => xPure mL i a1 a2 S
  | .imul => xPure mL i a1 a2 S
  | .iand => bif Nat.beq hn.1 1 then xA255 S else xPure mL i a1 a2 S
  | .ior => xPure mL i a1 a2 S
  | .ixor => xPure mL i a1 a2 S
  | .ishl => xPure mL i a1 a2 S
  | .ishr => xPure mL i a1 a2 S
  | .iushr => xPure mL i a1 a2 S
  | .irem => xPure mL i a1 a2 S
  | .idiv => xPure mL i a1 a2 S
  | .dup => xPure mL i a1 a2 S
  | .pop => xPure mL i a1 a2 S
  | .dup_x1 => xPure mL i a1 a2 S
  | .dup2 => xPure mL i a1 a2 S
  | .goto _ => xPure mL i a1 a2 S
  | .if_icmp _ _ => xPure mL i a1 a2 S
  | .ifCond _ _ => xPure mL i a1 a2 S
  | .lload _ => xPurb mL i a1 a2 S
  | .lload_n _ => xPurb mL i a1 a2 S
  | .lstore _ => xPurb mL i a1 a2 S
  | .lstore_n _ => xPurb mL i a1 a2 S
  | .i2l => xPurb mL i a1 a2 S
  | .lor => xPurb mL i a1 a2 S
  | .lshl => xPurb mL i a1 a2 S
  | .lushr => xPurb mL i a1 a2 S
  | .land => xPurb mL i a1 a2 S
  | .lcmp => xPurb mL i a1 a2 S
  | .l2i => xPurb mL i a1 a2 S
  | .ineg => xPurb mL i a1 a2 S
  | .ldc_w _ => xPurb mL i a1 a2 S
  | .ifnull _ => xPurb mL i a1 a2 S
  | .i2b => xPurb mL i a1 a2 S
  | .i2c => xPurb mL i a1 a2 S
  | .lshr => xPurb mL i a1 a2 S
  | .tableswitch _ _ _ _ => xPurb mL i a1 a2 S
  | .ldc _ => xMisc xRgn d i a1 a2 S
  | .getstatic _ => xMisc xRgn d i a1 a2 S
  | .lookupswitch _ _ => xMisc xRgn d i a1 a2 S
  | .getfield _ => bif Nat.beq a1 100 then xMisc xRgn d i a1 a2 S else xGetf xRgn a1 a2 S
  | .arraylength => bif Nat.beq hn.1 1 then xMisc xRgn d i a1 a2 S else xLen xRgn S
  | .iaload => bif Nat.beq hn.1 1 then xMisc xRgn d i a1 a2 S else xLd xRgn d (fun q => Nat.beq q 0) S
  | .baload => bif Nat.beq hn.1 1 then xMisc xRgn d i a1 a2 S else xLd xRgn d (fun q => Nat.beq q 1 || Nat.beq q 2) S
  | .laload => xLdl xRgn d S
  | .aaload => xLda xRgn d S
  | .putfield _ => xPutf xRgn (xFkk d) d a1 a2 S
  | .iastore => xSto xRgn (xFkk d) d (fun _ q => Nat.beq q 0) S
  | .bastore => xSto xRgn (xFkk d) d (xKd d S.2.2.2.2.2.1) S
  | .lastore => xStl xRgn (xFkk d) d S
  | .aastore => xSta xRgn (xFkk d) d S
  | .new _ => xNewo xRgn xFnn BC BS hn.1 a1 S
  | .newarray _ => xNewa xRgn xFnn BC BS hn.1 hn.2 a1 S
  | _ => none
set_option maxHeartbeats 2000000 in
theorem xStep_ok {P : xP} {sc : List (Int × Int)} {d BC BS mL a1 a2 a3 : Nat} {hn : Nat × Nat} {i : Instr} {S : xS} {Ss : List xS} {o : rvS} (hs : xStep d BC BS mL hn i a1 a2 S = some Ss) (h : xRel xRgn (xFM P) S o) : xOk xRgn (xFM P) Ss (rvStep rvTy rvNf rvTxt sc BC BS mL i a1 a2 a3 o.1 o.2.1 o.2.2.1 o.2.2.2.1 o.2.2.2.2.1 o.2.2.2.2.2) := by
  obtain ⟨pc, al, st, ah, fs, Q, kc, ks⟩ := S
  have hf := xFM_app P
  have hk := xFkk_ok P d xRgn
  have hw := xFnn_ok P xRgn
  unfold xStep at hs
  split at hs
  · exact xp_iconst hf hs h
  · exact xp_bipush hf hs h
  · exact xp_sipush hf hs h
  · exact xp_lconst hf hs h
  · exact xp_ldc2_w hf hs h
  · exact xp_aconst_null hf hs h
  · exact xp_iload hf hs h
  · exact xp_iload_n hf hs h
  · exact xp_aload hf hs h
  · exact xp_aload_n hf hs h
  · exact xp_istore hf hs h
  · exact xp_istore_n hf hs h
  · exact xp_astore hf hs h
  · exact xp_astore_n hf hs h
  · exact xp_iadd hf hs h
  · exact xp_isub hf hs h
  · exact xp_iinc hf hs h
  · exact xp_imul hf hs h
  · cases hb : Nat.beq hn.1 1 with
    | true => rw [hb] at hs; exact xp_a255 (S := (pc, al, st, ah, fs, Q, kc, ks)) hf hs h
    | false => rw [hb] at hs; exact xp_iand hf hs h
  · exact xp_ior hf hs h
  · exact xp_ixor hf hs h
  · exact xp_ishl hf hs h
  · exact xp_ishr hf hs h
  · exact xp_iushr hf hs h
  · exact xp_irem hf hs h
  · exact xp_idiv hf hs h
  · exact xp_dup hf hs h
  · exact xp_pop hf hs h
  · exact xp_dup_x1 hf hs h
  · exact xp_dup2 hf hs h
  · exact xp_goto hf hs h
  · exact xp_if_icmp hf hs h
  · exact xp_ifCond hf hs h
  · exact xp_lload hf hs h
  · exact xp_lload_n hf hs h
  · exact xp_lstore hf hs h
  · exact xp_lstore_n hf hs h
  · exact xp_i2l hf hs h
  · exact xp_lor hf hs h
  · exact xp_lshl hf hs h
  · exact xp_lushr hf hs h
  · exact xp_land hf hs h
  · exact xp_lcmp hf hs h
  · exact xp_l2i hf hs h
  · exact xp_ineg hf hs h
  · exact xp_ldc_w hf hs h
  · exact xp_ifnull hf hs h
  · exact xp_i2b hf hs h
  · exact xp_i2c hf hs h
  · exact xp_lshr hf hs h
  · exact xp_tableswitch hf hs h
  · exact xp_ldc hf hs h
  · exact xp_getstatic hf hs h
  · exact xp_lookupswitch hf hs h
  · cases hb : Nat.beq a1 100 with
    | true => rw [hb] at hs; exact xp_getfieldT (d := d) hf hs h
    | false => rw [hb] at hs; exact xp_getfield hf hs h
  · cases hb : Nat.beq hn.1 1 with
    | true => rw [hb] at hs; exact xp_arraylengthT (d := d) hf hs h
    | false => rw [hb] at hs; exact xp_arraylength hf hs h
  · cases hb : Nat.beq hn.1 1 with
    | true => rw [hb] at hs; exact xp_ialoadT hf hs h
    | false => rw [hb] at hs; exact xp_iaload hf hs h
  · cases hb : Nat.beq hn.1 1 with
    | true => rw [hb] at hs; exact xp_baloadT hf hs h
    | false => rw [hb] at hs; exact xp_baload hf hs h
  · exact xp_laload hf hs h
  · exact xp_aaload hf hs h
  · exact xp_putfield hk hs h
  · exact xp_iastore hk hs h
  · exact xp_bastore hk hs h
  · exact xp_lastore hk hs h
  · exact xp_aastore hk hs h
  · exact xp_new hw hs h
  · exact xp_newarray hw hs h
  · cases hs
