/-! The checker's step over instructions that touch no cell and call nothing. -/
def xUn (Q : xQ) (lo hi : Int) (a : Nat × Int × Int) : Option (xQ × xV) := match xItv Q a with
  | some x => bif decide (lo ≤ x.1) && decide (x.2 ≤ hi) then some (Q, .inl a) else some (xNew (lo, hi) Q)
  | none => none
def xJ (S : xS) (pc : Nat) (al st : List xV) (l : List xQ) : List xS := l.map (fun Q => xNx S pc al st Q)
def xNeg (c : ClassFile.Cond) : ClassFile.Cond := match c with
  | .eq => .ne
  | .ne => .eq
  | .lt => .ge
  | .ge => .lt
  | .gt => .le
  | .le => .gt
def xPq (S : xS) (pc : Nat) (al st : List xV) (o : Option (xQ × xV)) : Option (List xS) := match o with
  | some (Q, v) => some [xNx S pc al (v :: st) Q]
  | none => none
def xPure (mL : Nat) (i : Instr) (a1 a2 : Nat) (S : xS) : Option (List xS) := match S with
  | (pc, al, st, ah, fs, Q, kc, ks) => match i with
    | .iconst n => bif rvIn (n, n) (-2147483648) 2147483647 then some [xNx S (pc + 1) al (xKv n :: st) Q] else none
    | .bipush n => bif rvIn (n, n) (-128) 127 then some [xNx S (pc + 2) al (xKv n :: st) Q] else none
    | .sipush n => bif rvIn (n, n) (-32768) 32767 then some [xNx S (pc + 3) al (xKv n :: st) Q] else none
    | .lconst k => some [xNx S (pc + 1) al (.inr (1, k.val + 1) :: st) Q]
    | .ldc2_w _ => some [xNx S (pc + 3) al (.inr (1, a1) :: st) Q]
    | .aconst_null => some [xNx S (pc + 1) al (.inr (0, 0) :: st) Q]
    | .iload k => match al[k]? with
      | some (.inl a) => some [xNx S (pc + 2) al (.inl a :: st) Q]
      | _ => none
    | .iload_n k => match al[k.val]? with
      | some (.inl a) => some [xNx S (pc + 1) al (.inl a :: st) Q]
      | _ => none
    | .aload k => match al[k]? with
      | some v => bif xIsA v then some [xNx S (pc + 2) al (v :: st) Q] else none
      | _ => none
    | .aload_n k => match al[k.val]? with
      | some v => bif xIsA v then some [xNx S (pc + 1) al (v :: st) Q] else none
      | _ => none
    | .istore k => match st with
      | .inl a :: st => bif Nat.blt k mL then some [xNx S (pc + 2) (xSet al k (.inl a)) st Q] else none
      | _ => none
    | .istore_n k => match st with
      | .inl a :: st => bif Nat.blt k.val mL then some [xNx S (pc + 1) (xSet al k.val (.inl a)) st Q] else none
      | _ => none
    | .astore k => match st with
      | v :: st => bif xIsA v && Nat.blt k mL then some [xNx S (pc + 2) (xSet al k v) st Q] else none
      | _ => none
    | .astore_n k => match st with
      | v :: st => bif xIsA v && Nat.blt k.val mL then some [xNx S (pc + 1) (xSet al k.val v) st Q] else none
      | _ => none
    | .iinc k n => match al[k]? with
      | some (.inl a) => bif Nat.blt k mL && rvIn (n, n) (-2147483648) 2147483647 then (match xLop false Q a (0, 0, n) with
        | (Q, v) => some [xNx S (pc + 3) (xSet al k v) st Q]) else none
      | _ => none
    | .iadd => match st with
      | .inl b :: .inl a :: st => xPq S (pc + 1) al st (some (xLop false Q a b))
      | _ => none
    | .isub => match st with
      | .inl b :: .inl a :: st => xPq S (pc + 1) al st (some (xLop true Q a b))
      | _ => none
    | .imul => match st with
      | .inl b :: .inl a :: st => xPq S (pc + 1) al st (xMop Q a b)
      | _ => none
    | .iand => match st with
      | .inl b :: .inl a :: st => xPq S (pc + 1) al st (xBop (· &&& ·) xIand Q a b)
      | _ => none
    | .ior => match st with
      | .inl b :: .inl a :: st => xPq S (pc + 1) al st (xBop (· ||| ·) xIor Q a b)
      | _ => none
    | .ixor => match st with
      | .inl b :: .inl a :: st => xPq S (pc + 1) al st (xBop (· ^^^ ·) xIor Q a b)
      | _ => none
    | .ishl => match st with
      | .inl b :: .inl a :: st => xPq S (pc + 1) al st (xBop (fun x y => x <<< (y &&& 31)) xIshl Q a b)
      | _ => none
    | .ishr => match st with
      | .inl b :: .inl a :: st => xPq S (pc + 1) al st (xBop (fun x y => x >>> (y &&& 31)) xIshr Q a b)
      | _ => none
    | .iushr => match st with
      | .inl b :: .inl a :: st => xPq S (pc + 1) al st (xBop (fun x y => (x.toUInt32 >>> (y.toUInt32 &&& Int32.toUInt32 31)).toInt32) xIushr Q a b)
      | _ => none
    | .irem => match st with
      | .inl b :: .inl a :: st => (match xItv Q b with
        | some y => bif decide (0 < y.1) then xPq S (pc + 1) al st (xBop (fun x y => x - x / y * y) xIrem Q a b) else none
        | none => none)
      | _ => none
    | .idiv => match st with
      | .inl b :: .inl a :: st => (match xItv Q b with
        | some y => bif decide (0 < y.1) then xPq S (pc + 1) al st (xBop (fun x y => x / y) (fun _ _ => xT32) Q a b) else none
        | none => none)
      | _ => none
    | .dup => match st with
      | v :: st => bif xN1 v then some [xNx S (pc + 1) al (v :: v :: st) Q] else none
      | _ => none
    | .dup_x1 => match st with
      | v :: w :: st => bif xN1 v && xN1 w then some [xNx S (pc + 1) al (v :: w :: v :: st) Q] else none
      | _ => none
    | .dup2 => match st with
      | v :: w :: st => bif xN1 v && xN1 w then some [xNx S (pc + 1) al (v :: w :: v :: w :: st) Q] else none
      | _ => none
    | .pop => match st with
      | v :: st => bif xN1 v then some [xNx S (pc + 1) al st Q] else none
      | _ => none
    | .goto off => match rvJ pc off with
      | some t => some [xNx S t al st Q]
      | none => none
    | .if_icmp c off => match st with
      | .inl b :: .inl a :: st => (match rvJ pc off with
        | some t => some (xJ S t al st (xCmp c (xSm a) (xSm b) Q) ++ xJ S (pc + 3) al st (xCmp (xNeg c) (xSm a) (xSm b) Q))
        | none => none)
      | _ => none
    | .ifCond c off => match st with
      | .inl a :: st => (match rvJ pc off with
        | some t => some (xJ S t al st (xCmp c (xSm a) (xK 0) Q) ++ xJ S (pc + 3) al st (xCmp (xNeg c) (xSm a) (xK 0) Q))
        | none => none)
      | _ => none
    | _ => none
/-- what the checker's states must say of the point state's step: one tells of it, or, for each number of a range on its stack, one does -/
def xOk (rg : Nat → xG) (fm : xF → List Int → List Nat → List Nat → rvH → Prop) (Ss : List xS) (o : Option rvS) : Prop :=
  (∃ (o' : rvS) (S' : xS), o = some o' ∧ S' ∈ Ss ∧ xRel rg fm S' o') ∨
  (∃ (pc : Nat) (al st : List rvV) (a : Int × Int) (aw : rvH) (kc ks : Nat), o = some (pc, al, .inl a :: st, aw, kc, ks) ∧ ∀ n, a.1 ≤ n → n ≤ a.2 → xIn32 n → ∃ S' ∈ Ss, xRel rg fm S' (pc, al, .inl (n, n) :: st, aw, kc, ks))
theorem xR_long {r : List Int} {T pl : List Nat} (k : Nat) : xR r T pl (.inr (1, k)) (.inr (1, k)) := by
  cases k with
  | zero => exact ⟨0, rfl⟩
  | succ n => rfl
theorem xRs_c {r : List Int} {T pl : List Nat} {v : xV} {c : rvV} {vs : List xV} {cs : List rvV} (h1 : xR r T pl v c) (h2 : xRs r T pl vs cs) : xRs r T pl (v :: vs) (c :: cs) := ⟨h1, h2⟩
theorem xHolds_neg (c : ClassFile.Cond) (z w : Int) : xHolds (xNeg c) z w = !xHolds c z w := by
  cases c <;> simp [xHolds, xNeg]
section XPU
variable {rg : Nat → xG} {fm : xF → List Int → List Nat → List Nat → rvH → Prop} {sc : List (Int × Int)} {BC BS mL a1 a2 a3 pc kc ks : Nat} {al st : List xV} {ah : List xC} {fs : List xF} {Q : xQ} {Ss : List xS} {o : rvS}
theorem xRel_out {S : xS} {o : rvS} (h : xRel rg fm S o) : ∃ (r : List Int) (T pl : List Nat) (cl cs : List rvV) (aw : rvH), o = (S.1, cl, cs, aw, S.2.2.2.2.2.2.1, S.2.2.2.2.2.2.2) ∧ xRs r T pl S.2.1 cl ∧ xRs r T pl S.2.2.1 cs ∧ xSt r T pl S.2.2.2.1 aw ∧ xHp rg T pl aw ∧ (∀ f ∈ S.2.2.2.2.1, fm f r T pl aw) ∧ xQs S.2.2.2.2.2.1 r := by
  obtain ⟨pc, cl, cs, aw, kc, ks⟩ := o
  obtain ⟨r, T, pl, h1, h2, h3, h4, h5, h6, h7, h8, h9⟩ := h
  dsimp only at h1 h2 h3 h4 h5 h6 h7 h8 h9
  subst h1; subst h8; subst h9
  exact ⟨r, T, pl, cl, cs, aw, rfl, h2, h3, h4, h5, h6, h7⟩
set_option maxHeartbeats 1000000 in
theorem xp_iconst (hf : xFm fm) {n : Int} (hs : xPure mL (.iconst n) a1 a2 (pc, al, st, ah, fs, Q, kc, ks) = some Ss) (h : xRel rg fm (pc, al, st, ah, fs, Q, kc, ks) o) : xOk rg fm Ss (rvStep rvTy rvNf rvTxt sc BC BS mL (.iconst n) a1 a2 a3 o.1 o.2.1 o.2.2.1 o.2.2.2.1 o.2.2.2.2.1 o.2.2.2.2.2) := by
  obtain ⟨r, T, pl, cl, cs, aw, rfl, hl, hst, hS, hP, hF, hQ⟩ := xRel_out h
  dsimp only at hl hst hS hF hQ ⊢
  simp only [xPure] at hs
  obtain ⟨hc, rfl⟩ := rv_bif hs
  obtain ⟨c1, c2⟩ := rv_and hc
  have c1 : (-2147483648 : Int) ≤ n := of_decide_eq_true c1
  have c2 : n ≤ 2147483647 := of_decide_eq_true c2
  refine Or.inl ⟨_, _, (by simp only [rvStep, hc] <;> rfl), List.mem_singleton.mpr rfl, xNx_ok hf hS hP hF rfl rfl ⟨[], (List.append_nil r).symm⟩ hl (xRs_c (xR_K r T pl ⟨by omega, by omega⟩) hst) hQ⟩
set_option maxHeartbeats 1000000 in
theorem xp_bipush (hf : xFm fm) {n : Int} (hs : xPure mL (.bipush n) a1 a2 (pc, al, st, ah, fs, Q, kc, ks) = some Ss) (h : xRel rg fm (pc, al, st, ah, fs, Q, kc, ks) o) : xOk rg fm Ss (rvStep rvTy rvNf rvTxt sc BC BS mL (.bipush n) a1 a2 a3 o.1 o.2.1 o.2.2.1 o.2.2.2.1 o.2.2.2.2.1 o.2.2.2.2.2) := by
  obtain ⟨r, T, pl, cl, cs, aw, rfl, hl, hst, hS, hP, hF, hQ⟩ := xRel_out h
  dsimp only at hl hst hS hF hQ ⊢
  simp only [xPure] at hs
  obtain ⟨hc, rfl⟩ := rv_bif hs
  obtain ⟨c1, c2⟩ := rv_and hc
  have c1 : (-128 : Int) ≤ n := of_decide_eq_true c1
  have c2 : n ≤ 127 := of_decide_eq_true c2
  refine Or.inl ⟨_, _, (by simp only [rvStep, hc] <;> rfl), List.mem_singleton.mpr rfl, xNx_ok hf hS hP hF rfl rfl ⟨[], (List.append_nil r).symm⟩ hl (xRs_c (xR_K r T pl ⟨by omega, by omega⟩) hst) hQ⟩
set_option maxHeartbeats 1000000 in
theorem xp_sipush (hf : xFm fm) {n : Int} (hs : xPure mL (.sipush n) a1 a2 (pc, al, st, ah, fs, Q, kc, ks) = some Ss) (h : xRel rg fm (pc, al, st, ah, fs, Q, kc, ks) o) : xOk rg fm Ss (rvStep rvTy rvNf rvTxt sc BC BS mL (.sipush n) a1 a2 a3 o.1 o.2.1 o.2.2.1 o.2.2.2.1 o.2.2.2.2.1 o.2.2.2.2.2) := by
  obtain ⟨r, T, pl, cl, cs, aw, rfl, hl, hst, hS, hP, hF, hQ⟩ := xRel_out h
  dsimp only at hl hst hS hF hQ ⊢
  simp only [xPure] at hs
  obtain ⟨hc, rfl⟩ := rv_bif hs
  obtain ⟨c1, c2⟩ := rv_and hc
  have c1 : (-32768 : Int) ≤ n := of_decide_eq_true c1
  have c2 : n ≤ 32767 := of_decide_eq_true c2
  refine Or.inl ⟨_, _, (by simp only [rvStep, hc] <;> rfl), List.mem_singleton.mpr rfl, xNx_ok hf hS hP hF rfl rfl ⟨[], (List.append_nil r).symm⟩ hl (xRs_c (xR_K r T pl ⟨by omega, by omega⟩) hst) hQ⟩
set_option maxHeartbeats 1000000 in
theorem xp_lconst (hf : xFm fm) {n : Fin 2} (hs : xPure mL (.lconst n) a1 a2 (pc, al, st, ah, fs, Q, kc, ks) = some Ss) (h : xRel rg fm (pc, al, st, ah, fs, Q, kc, ks) o) : xOk rg fm Ss (rvStep rvTy rvNf rvTxt sc BC BS mL (.lconst n) a1 a2 a3 o.1 o.2.1 o.2.2.1 o.2.2.2.1 o.2.2.2.2.1 o.2.2.2.2.2) := by
  obtain ⟨r, T, pl, cl, cs, aw, rfl, hl, hst, hS, hP, hF, hQ⟩ := xRel_out h
  dsimp only at hl hst hS hF hQ ⊢
  simp only [xPure] at hs
  cases hs
  exact Or.inl ⟨_, _, rfl, List.mem_singleton.mpr rfl, xNx_ok hf hS hP hF rfl rfl ⟨[], (List.append_nil r).symm⟩ hl (xRs_c (xR_long _) hst) hQ⟩
set_option maxHeartbeats 1000000 in
theorem xp_ldc2_w (hf : xFm fm) {n : Nat} (hs : xPure mL (.ldc2_w n) a1 a2 (pc, al, st, ah, fs, Q, kc, ks) = some Ss) (h : xRel rg fm (pc, al, st, ah, fs, Q, kc, ks) o) : xOk rg fm Ss (rvStep rvTy rvNf rvTxt sc BC BS mL (.ldc2_w n) a1 a2 a3 o.1 o.2.1 o.2.2.1 o.2.2.2.1 o.2.2.2.2.1 o.2.2.2.2.2) := by
  obtain ⟨r, T, pl, cl, cs, aw, rfl, hl, hst, hS, hP, hF, hQ⟩ := xRel_out h
  dsimp only at hl hst hS hF hQ ⊢
  simp only [xPure] at hs
  cases hs
  exact Or.inl ⟨_, _, rfl, List.mem_singleton.mpr rfl, xNx_ok hf hS hP hF rfl rfl ⟨[], (List.append_nil r).symm⟩ hl (xRs_c (xR_long _) hst) hQ⟩
set_option maxHeartbeats 1000000 in
theorem xp_aconst_null (hf : xFm fm) (hs : xPure mL (.aconst_null) a1 a2 (pc, al, st, ah, fs, Q, kc, ks) = some Ss) (h : xRel rg fm (pc, al, st, ah, fs, Q, kc, ks) o) : xOk rg fm Ss (rvStep rvTy rvNf rvTxt sc BC BS mL (.aconst_null) a1 a2 a3 o.1 o.2.1 o.2.2.1 o.2.2.2.1 o.2.2.2.2.1 o.2.2.2.2.2) := by
  obtain ⟨r, T, pl, cl, cs, aw, rfl, hl, hst, hS, hP, hF, hQ⟩ := xRel_out h
  dsimp only at hl hst hS hF hQ ⊢
  simp only [xPure] at hs
  cases hs
  exact Or.inl ⟨_, _, rfl, List.mem_singleton.mpr rfl, xNx_ok hf hS hP hF rfl rfl ⟨[], (List.append_nil r).symm⟩ hl (xRs_c (v := .inr (0, 0)) (c := .inr (0, 0)) ⟨0, rfl⟩ hst) hQ⟩
set_option maxHeartbeats 1000000 in
theorem xp_iload (hf : xFm fm) {n : Nat} (hs : xPure mL (.iload n) a1 a2 (pc, al, st, ah, fs, Q, kc, ks) = some Ss) (h : xRel rg fm (pc, al, st, ah, fs, Q, kc, ks) o) : xOk rg fm Ss (rvStep rvTy rvNf rvTxt sc BC BS mL (.iload n) a1 a2 a3 o.1 o.2.1 o.2.2.1 o.2.2.2.1 o.2.2.2.2.1 o.2.2.2.2.2) := by
  obtain ⟨r, T, pl, cl, cs, aw, rfl, hl, hst, hS, hP, hF, hQ⟩ := xRel_out h
  dsimp only at hl hst hS hF hQ ⊢
  simp only [xPure] at hs
  split at hs
  · rename_i a ha
    cases hs
    obtain ⟨c, hc, hv⟩ := xRs_get hl ha
    obtain ⟨z, rfl, -, -, -⟩ := xR_pt hv
    exact Or.inl ⟨_, _, (by simp only [rvStep, hc] <;> rfl), List.mem_singleton.mpr rfl, xNx_ok hf hS hP hF rfl rfl ⟨[], (List.append_nil r).symm⟩ hl (xRs_c hv hst) hQ⟩
  · cases hs
set_option maxHeartbeats 1000000 in
theorem xp_iload_n (hf : xFm fm) {n : Fin 4} (hs : xPure mL (.iload_n n) a1 a2 (pc, al, st, ah, fs, Q, kc, ks) = some Ss) (h : xRel rg fm (pc, al, st, ah, fs, Q, kc, ks) o) : xOk rg fm Ss (rvStep rvTy rvNf rvTxt sc BC BS mL (.iload_n n) a1 a2 a3 o.1 o.2.1 o.2.2.1 o.2.2.2.1 o.2.2.2.2.1 o.2.2.2.2.2) := by
  obtain ⟨r, T, pl, cl, cs, aw, rfl, hl, hst, hS, hP, hF, hQ⟩ := xRel_out h
  dsimp only at hl hst hS hF hQ ⊢
  simp only [xPure] at hs
  split at hs
  · rename_i a ha
    cases hs
    obtain ⟨c, hc, hv⟩ := xRs_get hl ha
    obtain ⟨z, rfl, -, -, -⟩ := xR_pt hv
    exact Or.inl ⟨_, _, (by simp only [rvStep, hc] <;> rfl), List.mem_singleton.mpr rfl, xNx_ok hf hS hP hF rfl rfl ⟨[], (List.append_nil r).symm⟩ hl (xRs_c hv hst) hQ⟩
  · cases hs
set_option maxHeartbeats 1000000 in
theorem xp_aload (hf : xFm fm) {n : Nat} (hs : xPure mL (.aload n) a1 a2 (pc, al, st, ah, fs, Q, kc, ks) = some Ss) (h : xRel rg fm (pc, al, st, ah, fs, Q, kc, ks) o) : xOk rg fm Ss (rvStep rvTy rvNf rvTxt sc BC BS mL (.aload n) a1 a2 a3 o.1 o.2.1 o.2.2.1 o.2.2.2.1 o.2.2.2.2.1 o.2.2.2.2.2) := by
  obtain ⟨r, T, pl, cl, cs, aw, rfl, hl, hst, hS, hP, hF, hQ⟩ := xRel_out h
  dsimp only at hl hst hS hF hQ ⊢
  simp only [xPure] at hs
  split at hs
  · rename_i v ha
    obtain ⟨hA, rfl⟩ := rv_bif hs
    obtain ⟨c, hc, hv⟩ := xRs_get hl ha
    exact Or.inl ⟨_, _, (by simp only [rvStep, hc, xIsA_ok hA hv] <;> rfl), List.mem_singleton.mpr rfl, xNx_ok hf hS hP hF rfl rfl ⟨[], (List.append_nil r).symm⟩ hl (xRs_c hv hst) hQ⟩
  · cases hs
set_option maxHeartbeats 1000000 in
theorem xp_aload_n (hf : xFm fm) {n : Fin 4} (hs : xPure mL (.aload_n n) a1 a2 (pc, al, st, ah, fs, Q, kc, ks) = some Ss) (h : xRel rg fm (pc, al, st, ah, fs, Q, kc, ks) o) : xOk rg fm Ss (rvStep rvTy rvNf rvTxt sc BC BS mL (.aload_n n) a1 a2 a3 o.1 o.2.1 o.2.2.1 o.2.2.2.1 o.2.2.2.2.1 o.2.2.2.2.2) := by
  obtain ⟨r, T, pl, cl, cs, aw, rfl, hl, hst, hS, hP, hF, hQ⟩ := xRel_out h
  dsimp only at hl hst hS hF hQ ⊢
  simp only [xPure] at hs
  split at hs
  · rename_i v ha
    obtain ⟨hA, rfl⟩ := rv_bif hs
    obtain ⟨c, hc, hv⟩ := xRs_get hl ha
    exact Or.inl ⟨_, _, (by simp only [rvStep, hc, xIsA_ok hA hv] <;> rfl), List.mem_singleton.mpr rfl, xNx_ok hf hS hP hF rfl rfl ⟨[], (List.append_nil r).symm⟩ hl (xRs_c hv hst) hQ⟩
  · cases hs
set_option maxHeartbeats 1000000 in
theorem xp_istore (hf : xFm fm) {n : Nat} (hs : xPure mL (.istore n) a1 a2 (pc, al, st, ah, fs, Q, kc, ks) = some Ss) (h : xRel rg fm (pc, al, st, ah, fs, Q, kc, ks) o) : xOk rg fm Ss (rvStep rvTy rvNf rvTxt sc BC BS mL (.istore n) a1 a2 a3 o.1 o.2.1 o.2.2.1 o.2.2.2.1 o.2.2.2.2.1 o.2.2.2.2.2) := by
  obtain ⟨r, T, pl, cl, cs, aw, rfl, hl, hst, hS, hP, hF, hQ⟩ := xRel_out h
  dsimp only at hl hst hS hF hQ ⊢
  simp only [xPure] at hs
  split at hs
  · rename_i a st
    obtain ⟨hc, rfl⟩ := rv_bif hs
    obtain ⟨c, ds, rfl, hv, hst2⟩ := xRs_cons hst
    obtain ⟨z, rfl, -, -, -⟩ := xR_pt hv
    exact Or.inl ⟨_, _, (by simp only [rvStep, hc] <;> rfl), List.mem_singleton.mpr rfl, xNx_ok hf hS hP hF rfl rfl ⟨[], (List.append_nil r).symm⟩ (xSet_ok hl hv) hst2 hQ⟩
  · cases hs
set_option maxHeartbeats 1000000 in
theorem xp_istore_n (hf : xFm fm) {n : Fin 4} (hs : xPure mL (.istore_n n) a1 a2 (pc, al, st, ah, fs, Q, kc, ks) = some Ss) (h : xRel rg fm (pc, al, st, ah, fs, Q, kc, ks) o) : xOk rg fm Ss (rvStep rvTy rvNf rvTxt sc BC BS mL (.istore_n n) a1 a2 a3 o.1 o.2.1 o.2.2.1 o.2.2.2.1 o.2.2.2.2.1 o.2.2.2.2.2) := by
  obtain ⟨r, T, pl, cl, cs, aw, rfl, hl, hst, hS, hP, hF, hQ⟩ := xRel_out h
  dsimp only at hl hst hS hF hQ ⊢
  simp only [xPure] at hs
  split at hs
  · rename_i a st
    obtain ⟨hc, rfl⟩ := rv_bif hs
    obtain ⟨c, ds, rfl, hv, hst2⟩ := xRs_cons hst
    obtain ⟨z, rfl, -, -, -⟩ := xR_pt hv
    exact Or.inl ⟨_, _, (by simp only [rvStep, hc] <;> rfl), List.mem_singleton.mpr rfl, xNx_ok hf hS hP hF rfl rfl ⟨[], (List.append_nil r).symm⟩ (xSet_ok hl hv) hst2 hQ⟩
  · cases hs
set_option maxHeartbeats 1000000 in
theorem xp_astore (hf : xFm fm) {n : Nat} (hs : xPure mL (.astore n) a1 a2 (pc, al, st, ah, fs, Q, kc, ks) = some Ss) (h : xRel rg fm (pc, al, st, ah, fs, Q, kc, ks) o) : xOk rg fm Ss (rvStep rvTy rvNf rvTxt sc BC BS mL (.astore n) a1 a2 a3 o.1 o.2.1 o.2.2.1 o.2.2.2.1 o.2.2.2.2.1 o.2.2.2.2.2) := by
  obtain ⟨r, T, pl, cl, cs, aw, rfl, hl, hst, hS, hP, hF, hQ⟩ := xRel_out h
  dsimp only at hl hst hS hF hQ ⊢
  simp only [xPure] at hs
  split at hs
  · rename_i v st
    obtain ⟨hc, rfl⟩ := rv_bif hs
    obtain ⟨hA, hc⟩ := rv_and hc
    obtain ⟨c, ds, rfl, hv, hst2⟩ := xRs_cons hst
    exact Or.inl ⟨_, _, (by simp only [rvStep, hc, xIsA_ok hA hv] <;> rfl), List.mem_singleton.mpr rfl, xNx_ok hf hS hP hF rfl rfl ⟨[], (List.append_nil r).symm⟩ (xSet_ok hl hv) hst2 hQ⟩
  · cases hs
set_option maxHeartbeats 1000000 in
theorem xp_astore_n (hf : xFm fm) {n : Fin 4} (hs : xPure mL (.astore_n n) a1 a2 (pc, al, st, ah, fs, Q, kc, ks) = some Ss) (h : xRel rg fm (pc, al, st, ah, fs, Q, kc, ks) o) : xOk rg fm Ss (rvStep rvTy rvNf rvTxt sc BC BS mL (.astore_n n) a1 a2 a3 o.1 o.2.1 o.2.2.1 o.2.2.2.1 o.2.2.2.2.1 o.2.2.2.2.2) := by
  obtain ⟨r, T, pl, cl, cs, aw, rfl, hl, hst, hS, hP, hF, hQ⟩ := xRel_out h
  dsimp only at hl hst hS hF hQ ⊢
  simp only [xPure] at hs
  split at hs
  · rename_i v st
    obtain ⟨hc, rfl⟩ := rv_bif hs
    obtain ⟨hA, hc⟩ := rv_and hc
    obtain ⟨c, ds, rfl, hv, hst2⟩ := xRs_cons hst
    exact Or.inl ⟨_, _, (by simp only [rvStep, hc, xIsA_ok hA hv] <;> rfl), List.mem_singleton.mpr rfl, xNx_ok hf hS hP hF rfl rfl ⟨[], (List.append_nil r).symm⟩ (xSet_ok hl hv) hst2 hQ⟩
  · cases hs
set_option maxHeartbeats 1000000 in
theorem xp_iadd (hf : xFm fm) (hs : xPure mL (.iadd) a1 a2 (pc, al, st, ah, fs, Q, kc, ks) = some Ss) (h : xRel rg fm (pc, al, st, ah, fs, Q, kc, ks) o) : xOk rg fm Ss (rvStep rvTy rvNf rvTxt sc BC BS mL (.iadd) a1 a2 a3 o.1 o.2.1 o.2.2.1 o.2.2.2.1 o.2.2.2.2.1 o.2.2.2.2.2) := by
  obtain ⟨r, T, pl, cl, cs, aw, rfl, hl, hst, hS, hP, hF, hQ⟩ := xRel_out h
  dsimp only at hl hst hS hF hQ ⊢
  simp only [xPure] at hs
  split at hs
  · rename_i b a st
    obtain ⟨c2, ds, rfl, hb, hst2⟩ := xRs_cons hst
    obtain ⟨c1, ds, rfl, ha, hst3⟩ := xRs_cons hst2
    obtain ⟨w, rfl, ew, w32, -⟩ := xR_pt hb
    obtain ⟨z, rfl, ez, z32, -⟩ := xR_pt ha
    obtain ⟨r', hr, hQ2, hv⟩ := xLop_add hQ ha hb
    have hs : some [xNx (pc, al, .inl b :: .inl a :: st, ah, fs, Q, kc, ks) (pc + 1) al ((xLop false Q a b).2 :: st) (xLop false Q a b).1] = some Ss := hs
    cases hs
    exact Or.inl ⟨_, _, (by simp only [rvStep] <;> rfl), List.mem_singleton.mpr rfl, xNx_ok hf hS hP hF rfl rfl hr (xRs_grow (xG_r hr) hl) (xRs_c hv (xRs_grow (xG_r hr) hst3)) hQ2⟩
  · cases hs
set_option maxHeartbeats 1000000 in
theorem xp_isub (hf : xFm fm) (hs : xPure mL (.isub) a1 a2 (pc, al, st, ah, fs, Q, kc, ks) = some Ss) (h : xRel rg fm (pc, al, st, ah, fs, Q, kc, ks) o) : xOk rg fm Ss (rvStep rvTy rvNf rvTxt sc BC BS mL (.isub) a1 a2 a3 o.1 o.2.1 o.2.2.1 o.2.2.2.1 o.2.2.2.2.1 o.2.2.2.2.2) := by
  obtain ⟨r, T, pl, cl, cs, aw, rfl, hl, hst, hS, hP, hF, hQ⟩ := xRel_out h
  dsimp only at hl hst hS hF hQ ⊢
  simp only [xPure] at hs
  split at hs
  · rename_i b a st
    obtain ⟨c2, ds, rfl, hb, hst2⟩ := xRs_cons hst
    obtain ⟨c1, ds, rfl, ha, hst3⟩ := xRs_cons hst2
    obtain ⟨w, rfl, ew, w32, -⟩ := xR_pt hb
    obtain ⟨z, rfl, ez, z32, -⟩ := xR_pt ha
    obtain ⟨r', hr, hQ2, hv⟩ := xLop_sub hQ ha hb
    have hs : some [xNx (pc, al, .inl b :: .inl a :: st, ah, fs, Q, kc, ks) (pc + 1) al ((xLop true Q a b).2 :: st) (xLop true Q a b).1] = some Ss := hs
    cases hs
    exact Or.inl ⟨_, _, (by simp only [rvStep] <;> rfl), List.mem_singleton.mpr rfl, xNx_ok hf hS hP hF rfl rfl hr (xRs_grow (xG_r hr) hl) (xRs_c hv (xRs_grow (xG_r hr) hst3)) hQ2⟩
  · cases hs
set_option maxHeartbeats 1000000 in
theorem xp_iinc (hf : xFm fm) {k : Nat} {n : Int} (hs : xPure mL (.iinc k n) a1 a2 (pc, al, st, ah, fs, Q, kc, ks) = some Ss) (h : xRel rg fm (pc, al, st, ah, fs, Q, kc, ks) o) : xOk rg fm Ss (rvStep rvTy rvNf rvTxt sc BC BS mL (.iinc k n) a1 a2 a3 o.1 o.2.1 o.2.2.1 o.2.2.2.1 o.2.2.2.2.1 o.2.2.2.2.2) := by
  obtain ⟨r, T, pl, cl, cs, aw, rfl, hl, hst, hS, hP, hF, hQ⟩ := xRel_out h
  dsimp only at hl hst hS hF hQ ⊢
  simp only [xPure] at hs
  split at hs
  · rename_i a ha
    cases hc : (Nat.blt k mL && rvIn (n, n) (-2147483648) 2147483647) with
    | false => rw [hc] at hs; cases hs
    | true =>
      rw [hc] at hs
      obtain ⟨c1, c2⟩ := rv_and (rv_and hc).2
      have c1 : (-2147483648 : Int) ≤ n := of_decide_eq_true c1
      have c2 : n ≤ 2147483647 := of_decide_eq_true c2
      obtain ⟨c, hcl, hv⟩ := xRs_get hl ha
      obtain ⟨z, rfl, -, -, -⟩ := xR_pt hv
      obtain ⟨r', hr, hQ2, hv2⟩ := xLop_add hQ hv (xR_K r T pl (n := n) ⟨by omega, by omega⟩)
      have hs : some [xNx (pc, al, st, ah, fs, Q, kc, ks) (pc + 3) (xSet al k (xLop false Q a (0, 0, n)).2) st (xLop false Q a (0, 0, n)).1] = some Ss := hs
      cases hs
      exact Or.inl ⟨_, _, (by simp only [rvStep, hcl, hc] <;> rfl), List.mem_singleton.mpr rfl, xNx_ok hf hS hP hF rfl rfl hr (xSet_ok (xRs_grow (xG_r hr) hl) hv2) (xRs_grow (xG_r hr) hst) hQ2⟩
  · cases hs
set_option maxHeartbeats 1000000 in
theorem xp_imul (hf : xFm fm) (hs : xPure mL (.imul) a1 a2 (pc, al, st, ah, fs, Q, kc, ks) = some Ss) (h : xRel rg fm (pc, al, st, ah, fs, Q, kc, ks) o) : xOk rg fm Ss (rvStep rvTy rvNf rvTxt sc BC BS mL (.imul) a1 a2 a3 o.1 o.2.1 o.2.2.1 o.2.2.2.1 o.2.2.2.2.1 o.2.2.2.2.2) := by
  obtain ⟨r, T, pl, cl, cs, aw, rfl, hl, hst, hS, hP, hF, hQ⟩ := xRel_out h
  dsimp only at hl hst hS hF hQ ⊢
  simp only [xPure] at hs
  split at hs
  · rename_i b a st
    obtain ⟨c2, ds, rfl, hb, hst2⟩ := xRs_cons hst
    obtain ⟨c1, ds, rfl, ha, hst3⟩ := xRs_cons hst2
    obtain ⟨w, rfl, ew, w32, -⟩ := xR_pt hb
    obtain ⟨z, rfl, ez, z32, -⟩ := xR_pt ha
    unfold xPq at hs
    split at hs
    · rename_i Q2 v he
      cases hs
      obtain ⟨r', hr, hQ2, hv⟩ := xMop_ok hQ ha hb he
      exact Or.inl ⟨_, _, (by simp only [rvStep] <;> rfl), List.mem_singleton.mpr rfl, xNx_ok hf hS hP hF rfl rfl hr (xRs_grow (xG_r hr) hl) (xRs_c hv (xRs_grow (xG_r hr) hst3)) hQ2⟩
    · cases hs
  · cases hs
set_option maxHeartbeats 1000000 in
theorem xp_iand (hf : xFm fm) (hs : xPure mL (.iand) a1 a2 (pc, al, st, ah, fs, Q, kc, ks) = some Ss) (h : xRel rg fm (pc, al, st, ah, fs, Q, kc, ks) o) : xOk rg fm Ss (rvStep rvTy rvNf rvTxt sc BC BS mL (.iand) a1 a2 a3 o.1 o.2.1 o.2.2.1 o.2.2.2.1 o.2.2.2.2.1 o.2.2.2.2.2) := by
  obtain ⟨r, T, pl, cl, cs, aw, rfl, hl, hst, hS, hP, hF, hQ⟩ := xRel_out h
  dsimp only at hl hst hS hF hQ ⊢
  simp only [xPure] at hs
  split at hs
  · rename_i b a st
    obtain ⟨c2, ds, rfl, hb, hst2⟩ := xRs_cons hst
    obtain ⟨c1, ds, rfl, ha, hst3⟩ := xRs_cons hst2
    obtain ⟨w, rfl, ew, w32, -⟩ := xR_pt hb
    obtain ⟨z, rfl, ez, z32, -⟩ := xR_pt ha
    unfold xPq at hs
    split at hs
    · rename_i Q2 v he
      cases hs
      obtain ⟨r', hr, hQ2, hv⟩ := xBop_ok xIand_ok hQ ha hb he
      exact Or.inl ⟨_, _, (by simp only [rvStep] <;> rfl), List.mem_singleton.mpr rfl, xNx_ok hf hS hP hF rfl rfl hr (xRs_grow (xG_r hr) hl) (xRs_c hv (xRs_grow (xG_r hr) hst3)) hQ2⟩
    · cases hs
  · cases hs
set_option maxHeartbeats 1000000 in
theorem xp_ior (hf : xFm fm) (hs : xPure mL (.ior) a1 a2 (pc, al, st, ah, fs, Q, kc, ks) = some Ss) (h : xRel rg fm (pc, al, st, ah, fs, Q, kc, ks) o) : xOk rg fm Ss (rvStep rvTy rvNf rvTxt sc BC BS mL (.ior) a1 a2 a3 o.1 o.2.1 o.2.2.1 o.2.2.2.1 o.2.2.2.2.1 o.2.2.2.2.2) := by
  obtain ⟨r, T, pl, cl, cs, aw, rfl, hl, hst, hS, hP, hF, hQ⟩ := xRel_out h
  dsimp only at hl hst hS hF hQ ⊢
  simp only [xPure] at hs
  split at hs
  · rename_i b a st
    obtain ⟨c2, ds, rfl, hb, hst2⟩ := xRs_cons hst
    obtain ⟨c1, ds, rfl, ha, hst3⟩ := xRs_cons hst2
    obtain ⟨w, rfl, ew, w32, -⟩ := xR_pt hb
    obtain ⟨z, rfl, ez, z32, -⟩ := xR_pt ha
    unfold xPq at hs
    split at hs
    · rename_i Q2 v he
      cases hs
      obtain ⟨r', hr, hQ2, hv⟩ := xBop_ok xIor_ok hQ ha hb he
      exact Or.inl ⟨_, _, (by simp only [rvStep] <;> rfl), List.mem_singleton.mpr rfl, xNx_ok hf hS hP hF rfl rfl hr (xRs_grow (xG_r hr) hl) (xRs_c hv (xRs_grow (xG_r hr) hst3)) hQ2⟩
    · cases hs
  · cases hs
set_option maxHeartbeats 1000000 in
theorem xp_ixor (hf : xFm fm) (hs : xPure mL (.ixor) a1 a2 (pc, al, st, ah, fs, Q, kc, ks) = some Ss) (h : xRel rg fm (pc, al, st, ah, fs, Q, kc, ks) o) : xOk rg fm Ss (rvStep rvTy rvNf rvTxt sc BC BS mL (.ixor) a1 a2 a3 o.1 o.2.1 o.2.2.1 o.2.2.2.1 o.2.2.2.2.1 o.2.2.2.2.2) := by
  obtain ⟨r, T, pl, cl, cs, aw, rfl, hl, hst, hS, hP, hF, hQ⟩ := xRel_out h
  dsimp only at hl hst hS hF hQ ⊢
  simp only [xPure] at hs
  split at hs
  · rename_i b a st
    obtain ⟨c2, ds, rfl, hb, hst2⟩ := xRs_cons hst
    obtain ⟨c1, ds, rfl, ha, hst3⟩ := xRs_cons hst2
    obtain ⟨w, rfl, ew, w32, -⟩ := xR_pt hb
    obtain ⟨z, rfl, ez, z32, -⟩ := xR_pt ha
    unfold xPq at hs
    split at hs
    · rename_i Q2 v he
      cases hs
      obtain ⟨r', hr, hQ2, hv⟩ := xBop_ok xIxor_ok hQ ha hb he
      exact Or.inl ⟨_, _, (by simp only [rvStep] <;> rfl), List.mem_singleton.mpr rfl, xNx_ok hf hS hP hF rfl rfl hr (xRs_grow (xG_r hr) hl) (xRs_c hv (xRs_grow (xG_r hr) hst3)) hQ2⟩
    · cases hs
  · cases hs
set_option maxHeartbeats 1000000 in
theorem xp_ishl (hf : xFm fm) (hs : xPure mL (.ishl) a1 a2 (pc, al, st, ah, fs, Q, kc, ks) = some Ss) (h : xRel rg fm (pc, al, st, ah, fs, Q, kc, ks) o) : xOk rg fm Ss (rvStep rvTy rvNf rvTxt sc BC BS mL (.ishl) a1 a2 a3 o.1 o.2.1 o.2.2.1 o.2.2.2.1 o.2.2.2.2.1 o.2.2.2.2.2) := by
  obtain ⟨r, T, pl, cl, cs, aw, rfl, hl, hst, hS, hP, hF, hQ⟩ := xRel_out h
  dsimp only at hl hst hS hF hQ ⊢
  simp only [xPure] at hs
  split at hs
  · rename_i b a st
    obtain ⟨c2, ds, rfl, hb, hst2⟩ := xRs_cons hst
    obtain ⟨c1, ds, rfl, ha, hst3⟩ := xRs_cons hst2
    obtain ⟨w, rfl, ew, w32, -⟩ := xR_pt hb
    obtain ⟨z, rfl, ez, z32, -⟩ := xR_pt ha
    unfold xPq at hs
    split at hs
    · rename_i Q2 v he
      cases hs
      obtain ⟨r', hr, hQ2, hv⟩ := xBop_ok xIshl_ok hQ ha hb he
      exact Or.inl ⟨_, _, (by simp only [rvStep] <;> rfl), List.mem_singleton.mpr rfl, xNx_ok hf hS hP hF rfl rfl hr (xRs_grow (xG_r hr) hl) (xRs_c hv (xRs_grow (xG_r hr) hst3)) hQ2⟩
    · cases hs
  · cases hs
set_option maxHeartbeats 1000000 in
theorem xp_ishr (hf : xFm fm) (hs : xPure mL (.ishr) a1 a2 (pc, al, st, ah, fs, Q, kc, ks) = some Ss) (h : xRel rg fm (pc, al, st, ah, fs, Q, kc, ks) o) : xOk rg fm Ss (rvStep rvTy rvNf rvTxt sc BC BS mL (.ishr) a1 a2 a3 o.1 o.2.1 o.2.2.1 o.2.2.2.1 o.2.2.2.2.1 o.2.2.2.2.2) := by
  obtain ⟨r, T, pl, cl, cs, aw, rfl, hl, hst, hS, hP, hF, hQ⟩ := xRel_out h
  dsimp only at hl hst hS hF hQ ⊢
  simp only [xPure] at hs
  split at hs
  · rename_i b a st
    obtain ⟨c2, ds, rfl, hb, hst2⟩ := xRs_cons hst
    obtain ⟨c1, ds, rfl, ha, hst3⟩ := xRs_cons hst2
    obtain ⟨w, rfl, ew, w32, -⟩ := xR_pt hb
    obtain ⟨z, rfl, ez, z32, -⟩ := xR_pt ha
    unfold xPq at hs
    split at hs
    · rename_i Q2 v he
      cases hs
      obtain ⟨r', hr, hQ2, hv⟩ := xBop_ok xIshr_ok hQ ha hb he
      exact Or.inl ⟨_, _, (by simp only [rvStep] <;> rfl), List.mem_singleton.mpr rfl, xNx_ok hf hS hP hF rfl rfl hr (xRs_grow (xG_r hr) hl) (xRs_c hv (xRs_grow (xG_r hr) hst3)) hQ2⟩
    · cases hs
  · cases hs
set_option maxHeartbeats 1000000 in
theorem xp_iushr (hf : xFm fm) (hs : xPure mL (.iushr) a1 a2 (pc, al, st, ah, fs, Q, kc, ks) = some Ss) (h : xRel rg fm (pc, al, st, ah, fs, Q, kc, ks) o) : xOk rg fm Ss (rvStep rvTy rvNf rvTxt sc BC BS mL (.iushr) a1 a2 a3 o.1 o.2.1 o.2.2.1 o.2.2.2.1 o.2.2.2.2.1 o.2.2.2.2.2) := by
  obtain ⟨r, T, pl, cl, cs, aw, rfl, hl, hst, hS, hP, hF, hQ⟩ := xRel_out h
  dsimp only at hl hst hS hF hQ ⊢
  simp only [xPure] at hs
  split at hs
  · rename_i b a st
    obtain ⟨c2, ds, rfl, hb, hst2⟩ := xRs_cons hst
    obtain ⟨c1, ds, rfl, ha, hst3⟩ := xRs_cons hst2
    obtain ⟨w, rfl, ew, w32, -⟩ := xR_pt hb
    obtain ⟨z, rfl, ez, z32, -⟩ := xR_pt ha
    unfold xPq at hs
    split at hs
    · rename_i Q2 v he
      cases hs
      obtain ⟨r', hr, hQ2, hv⟩ := xBop_ok xIushr_ok hQ ha hb he
      exact Or.inl ⟨_, _, (by simp only [rvStep] <;> rfl), List.mem_singleton.mpr rfl, xNx_ok hf hS hP hF rfl rfl hr (xRs_grow (xG_r hr) hl) (xRs_c hv (xRs_grow (xG_r hr) hst3)) hQ2⟩
    · cases hs
  · cases hs
set_option maxHeartbeats 1000000 in
theorem xp_irem (hf : xFm fm) (hs : xPure mL (.irem) a1 a2 (pc, al, st, ah, fs, Q, kc, ks) = some Ss) (h : xRel rg fm (pc, al, st, ah, fs, Q, kc, ks) o) : xOk rg fm Ss (rvStep rvTy rvNf rvTxt sc BC BS mL (.irem) a1 a2 a3 o.1 o.2.1 o.2.2.1 o.2.2.2.1 o.2.2.2.2.1 o.2.2.2.2.2) := by
  obtain ⟨r, T, pl, cl, cs, aw, rfl, hl, hst, hS, hP, hF, hQ⟩ := xRel_out h
  dsimp only at hl hst hS hF hQ ⊢
  simp only [xPure] at hs
  split at hs
  · rename_i b a st
    obtain ⟨c2, ds, rfl, hb, hst2⟩ := xRs_cons hst
    obtain ⟨c1, ds, rfl, ha, hst3⟩ := xRs_cons hst2
    obtain ⟨w, rfl, ew, w32, -⟩ := xR_pt hb
    obtain ⟨z, rfl, ez, z32, -⟩ := xR_pt ha
    split at hs
    · rename_i y hy
      obtain ⟨y1, y2⟩ := xItv_ok hQ hy
      cases hc : decide (0 < y.1) with
      | false => rw [hc] at hs; cases hs
      | true =>
        rw [hc] at hs
        simp only [cond_true] at hs
        have hc := of_decide_eq_true hc
        have hw0 : (rvOne (w, w) && !(decide (w = 0))) = true := by
          have : ¬ w = 0 := by omega
          simp [rvOne, this]
        unfold xPq at hs
        split at hs
        · rename_i Q2 v he
          cases hs
          obtain ⟨r', hr, hQ2, hv⟩ := xBop_ok xIrem_ok hQ ha hb he
          exact Or.inl ⟨_, _, (by simp only [rvStep, hw0] <;> rfl), List.mem_singleton.mpr rfl, xNx_ok hf hS hP hF rfl rfl hr (xRs_grow (xG_r hr) hl) (xRs_c hv (xRs_grow (xG_r hr) hst3)) hQ2⟩
        · cases hs
    · cases hs
  · cases hs
set_option maxHeartbeats 1000000 in
theorem xp_idiv (hf : xFm fm) (hs : xPure mL (.idiv) a1 a2 (pc, al, st, ah, fs, Q, kc, ks) = some Ss) (h : xRel rg fm (pc, al, st, ah, fs, Q, kc, ks) o) : xOk rg fm Ss (rvStep rvTy rvNf rvTxt sc BC BS mL (.idiv) a1 a2 a3 o.1 o.2.1 o.2.2.1 o.2.2.2.1 o.2.2.2.2.1 o.2.2.2.2.2) := by
  obtain ⟨r, T, pl, cl, cs, aw, rfl, hl, hst, hS, hP, hF, hQ⟩ := xRel_out h
  dsimp only at hl hst hS hF hQ ⊢
  simp only [xPure] at hs
  split at hs
  · rename_i b a st
    obtain ⟨c2, ds, rfl, hb, hst2⟩ := xRs_cons hst
    obtain ⟨c1, ds, rfl, ha, hst3⟩ := xRs_cons hst2
    obtain ⟨w, rfl, ew, w32, -⟩ := xR_pt hb
    obtain ⟨z, rfl, ez, z32, -⟩ := xR_pt ha
    split at hs
    · rename_i y hy
      obtain ⟨y1, y2⟩ := xItv_ok hQ hy
      cases hc : decide (0 < y.1) with
      | false => rw [hc] at hs; cases hs
      | true =>
        rw [hc] at hs
        simp only [cond_true] at hs
        have hc := of_decide_eq_true hc
        have hw0 : (rvOne (w, w) && !(decide (w = 0))) = true := by
          have : ¬ w = 0 := by omega
          simp [rvOne, this]
        unfold xPq at hs
        split at hs
        · rename_i Q2 v he
          cases hs
          obtain ⟨r', hr, hQ2, hv⟩ := xBop_ok xIdiv_ok hQ ha hb he
          exact Or.inl ⟨_, _, (by simp only [rvStep, hw0] <;> rfl), List.mem_singleton.mpr rfl, xNx_ok hf hS hP hF rfl rfl hr (xRs_grow (xG_r hr) hl) (xRs_c hv (xRs_grow (xG_r hr) hst3)) hQ2⟩
        · cases hs
    · cases hs
  · cases hs
set_option maxHeartbeats 1000000 in
theorem xp_dup (hf : xFm fm) (hs : xPure mL (.dup) a1 a2 (pc, al, st, ah, fs, Q, kc, ks) = some Ss) (h : xRel rg fm (pc, al, st, ah, fs, Q, kc, ks) o) : xOk rg fm Ss (rvStep rvTy rvNf rvTxt sc BC BS mL (.dup) a1 a2 a3 o.1 o.2.1 o.2.2.1 o.2.2.2.1 o.2.2.2.2.1 o.2.2.2.2.2) := by
  obtain ⟨r, T, pl, cl, cs, aw, rfl, hl, hst, hS, hP, hF, hQ⟩ := xRel_out h
  dsimp only at hl hst hS hF hQ ⊢
  simp only [xPure] at hs
  split at hs
  · rename_i v st
    obtain ⟨hn, rfl⟩ := rv_bif hs
    obtain ⟨c, ds, rfl, hv, hst2⟩ := xRs_cons hst
    exact Or.inl ⟨_, _, (by simp only [rvStep, xN1_ok hn hv] <;> rfl), List.mem_singleton.mpr rfl, xNx_ok hf hS hP hF rfl rfl ⟨[], (List.append_nil r).symm⟩ hl (xRs_c hv (xRs_c hv hst2)) hQ⟩
  · cases hs
set_option maxHeartbeats 1000000 in
theorem xp_pop (hf : xFm fm) (hs : xPure mL (.pop) a1 a2 (pc, al, st, ah, fs, Q, kc, ks) = some Ss) (h : xRel rg fm (pc, al, st, ah, fs, Q, kc, ks) o) : xOk rg fm Ss (rvStep rvTy rvNf rvTxt sc BC BS mL (.pop) a1 a2 a3 o.1 o.2.1 o.2.2.1 o.2.2.2.1 o.2.2.2.2.1 o.2.2.2.2.2) := by
  obtain ⟨r, T, pl, cl, cs, aw, rfl, hl, hst, hS, hP, hF, hQ⟩ := xRel_out h
  dsimp only at hl hst hS hF hQ ⊢
  simp only [xPure] at hs
  split at hs
  · rename_i v st
    obtain ⟨hn, rfl⟩ := rv_bif hs
    obtain ⟨c, ds, rfl, hv, hst2⟩ := xRs_cons hst
    exact Or.inl ⟨_, _, (by simp only [rvStep, xN1_ok hn hv] <;> rfl), List.mem_singleton.mpr rfl, xNx_ok hf hS hP hF rfl rfl ⟨[], (List.append_nil r).symm⟩ hl hst2 hQ⟩
  · cases hs
set_option maxHeartbeats 1000000 in
theorem xp_dup_x1 (hf : xFm fm) (hs : xPure mL (.dup_x1) a1 a2 (pc, al, st, ah, fs, Q, kc, ks) = some Ss) (h : xRel rg fm (pc, al, st, ah, fs, Q, kc, ks) o) : xOk rg fm Ss (rvStep rvTy rvNf rvTxt sc BC BS mL (.dup_x1) a1 a2 a3 o.1 o.2.1 o.2.2.1 o.2.2.2.1 o.2.2.2.2.1 o.2.2.2.2.2) := by
  obtain ⟨r, T, pl, cl, cs, aw, rfl, hl, hst, hS, hP, hF, hQ⟩ := xRel_out h
  dsimp only at hl hst hS hF hQ ⊢
  simp only [xPure] at hs
  split at hs
  · rename_i v w st
    obtain ⟨hn, rfl⟩ := rv_bif hs
    obtain ⟨hn, hm⟩ := rv_and hn
    obtain ⟨c, ds, rfl, hv, hst2⟩ := xRs_cons hst
    obtain ⟨d, ds, rfl, hw, hst3⟩ := xRs_cons hst2
    exact Or.inl ⟨_, _, (by simp only [rvStep, xN1_ok hn hv, xN1_ok hm hw, Bool.or_self] <;> rfl), List.mem_singleton.mpr rfl, xNx_ok hf hS hP hF rfl rfl ⟨[], (List.append_nil r).symm⟩ hl (xRs_c hv (xRs_c hw (xRs_c hv hst3))) hQ⟩
  · cases hs
set_option maxHeartbeats 1000000 in
theorem xp_dup2 (hf : xFm fm) (hs : xPure mL (.dup2) a1 a2 (pc, al, st, ah, fs, Q, kc, ks) = some Ss) (h : xRel rg fm (pc, al, st, ah, fs, Q, kc, ks) o) : xOk rg fm Ss (rvStep rvTy rvNf rvTxt sc BC BS mL (.dup2) a1 a2 a3 o.1 o.2.1 o.2.2.1 o.2.2.2.1 o.2.2.2.2.1 o.2.2.2.2.2) := by
  obtain ⟨r, T, pl, cl, cs, aw, rfl, hl, hst, hS, hP, hF, hQ⟩ := xRel_out h
  dsimp only at hl hst hS hF hQ ⊢
  simp only [xPure] at hs
  split at hs
  · rename_i v w st
    obtain ⟨hn, rfl⟩ := rv_bif hs
    obtain ⟨hn, hm⟩ := rv_and hn
    obtain ⟨c, ds, rfl, hv, hst2⟩ := xRs_cons hst
    obtain ⟨d, ds, rfl, hw, hst3⟩ := xRs_cons hst2
    exact Or.inl ⟨_, _, (by simp only [rvStep, xN1_ok hn hv, xN1_ok hm hw, Bool.or_self] <;> rfl), List.mem_singleton.mpr rfl, xNx_ok hf hS hP hF rfl rfl ⟨[], (List.append_nil r).symm⟩ hl (xRs_c hv (xRs_c hw (xRs_c hv (xRs_c hw hst3)))) hQ⟩
  · cases hs
set_option maxHeartbeats 1000000 in
theorem xp_goto (hf : xFm fm) {off : Int} (hs : xPure mL (.goto off) a1 a2 (pc, al, st, ah, fs, Q, kc, ks) = some Ss) (h : xRel rg fm (pc, al, st, ah, fs, Q, kc, ks) o) : xOk rg fm Ss (rvStep rvTy rvNf rvTxt sc BC BS mL (.goto off) a1 a2 a3 o.1 o.2.1 o.2.2.1 o.2.2.2.1 o.2.2.2.2.1 o.2.2.2.2.2) := by
  obtain ⟨r, T, pl, cl, cs, aw, rfl, hl, hst, hS, hP, hF, hQ⟩ := xRel_out h
  dsimp only at hl hst hS hF hQ ⊢
  simp only [xPure] at hs
  split at hs
  · rename_i t ht
    cases hs
    exact Or.inl ⟨_, _, (by simp only [rvStep, ht] <;> rfl), List.mem_singleton.mpr rfl, xNx_ok hf hS hP hF rfl rfl ⟨[], (List.append_nil r).symm⟩ hl hst hQ⟩
  · cases hs
set_option maxHeartbeats 1000000 in
theorem xp_if_icmp (hf : xFm fm) {c : ClassFile.Cond} {off : Int} (hs : xPure mL (.if_icmp c off) a1 a2 (pc, al, st, ah, fs, Q, kc, ks) = some Ss) (h : xRel rg fm (pc, al, st, ah, fs, Q, kc, ks) o) : xOk rg fm Ss (rvStep rvTy rvNf rvTxt sc BC BS mL (.if_icmp c off) a1 a2 a3 o.1 o.2.1 o.2.2.1 o.2.2.2.1 o.2.2.2.2.1 o.2.2.2.2.2) := by
  obtain ⟨r, T, pl, cl, cs, aw, rfl, hl, hst, hS, hP, hF, hQ⟩ := xRel_out h
  dsimp only at hl hst hS hF hQ ⊢
  simp only [xPure] at hs
  split at hs
  · rename_i b a st
    obtain ⟨c2, ds, rfl, hb, hst2⟩ := xRs_cons hst
    obtain ⟨c1, ds, rfl, ha, hst3⟩ := xRs_cons hst2
    obtain ⟨w, rfl, ew, w32, -⟩ := xR_pt hb
    obtain ⟨z, rfl, ez, z32, -⟩ := xR_pt ha
    split at hs
    · rename_i t ht
      cases hs
      cases hh : xHolds c z w with
      | true =>
        obtain ⟨Q2, hm, hQ2, -⟩ := xCmp_ok (a := xSm a) (b := xSm b) hQ (by rw [← ez, ← ew]; exact hh)
        exact Or.inl ⟨_, _, (by simp only [rvStep, rvCmp_pt, hh, ht] <;> rfl), List.mem_append.mpr (Or.inl (List.mem_map.mpr ⟨Q2, hm, rfl⟩)), xNx_ok hf hS hP hF rfl rfl ⟨[], (List.append_nil r).symm⟩ hl hst3 hQ2⟩
      | false =>
        have hn : xHolds (xNeg c) z w = true := by rw [xHolds_neg, hh]; rfl
        obtain ⟨Q2, hm, hQ2, -⟩ := xCmp_ok (a := xSm a) (b := xSm b) hQ (by rw [← ez, ← ew]; exact hn)
        exact Or.inl ⟨_, _, (by simp only [rvStep, rvCmp_pt, hh, ht] <;> rfl), List.mem_append.mpr (Or.inr (List.mem_map.mpr ⟨Q2, hm, rfl⟩)), xNx_ok hf hS hP hF rfl rfl ⟨[], (List.append_nil r).symm⟩ hl hst3 hQ2⟩
    · cases hs
  · cases hs
set_option maxHeartbeats 1000000 in
theorem xp_ifCond (hf : xFm fm) {c : ClassFile.Cond} {off : Int} (hs : xPure mL (.ifCond c off) a1 a2 (pc, al, st, ah, fs, Q, kc, ks) = some Ss) (h : xRel rg fm (pc, al, st, ah, fs, Q, kc, ks) o) : xOk rg fm Ss (rvStep rvTy rvNf rvTxt sc BC BS mL (.ifCond c off) a1 a2 a3 o.1 o.2.1 o.2.2.1 o.2.2.2.1 o.2.2.2.2.1 o.2.2.2.2.2) := by
  obtain ⟨r, T, pl, cl, cs, aw, rfl, hl, hst, hS, hP, hF, hQ⟩ := xRel_out h
  dsimp only at hl hst hS hF hQ ⊢
  simp only [xPure] at hs
  split at hs
  · rename_i a st
    obtain ⟨c1, ds, rfl, ha, hst3⟩ := xRs_cons hst
    obtain ⟨z, rfl, ez, z32, -⟩ := xR_pt ha
    split at hs
    · rename_i t ht
      cases hs
      cases hh : xHolds c z 0 with
      | true =>
        obtain ⟨Q2, hm, hQ2, -⟩ := xCmp_ok (a := xSm a) (b := xK 0) hQ (by rw [← ez, xK_ok]; exact hh)
        exact Or.inl ⟨_, _, (by simp only [rvStep, rvCmp_pt, hh, ht] <;> rfl), List.mem_append.mpr (Or.inl (List.mem_map.mpr ⟨Q2, hm, rfl⟩)), xNx_ok hf hS hP hF rfl rfl ⟨[], (List.append_nil r).symm⟩ hl hst3 hQ2⟩
      | false =>
        have hn : xHolds (xNeg c) z 0 = true := by rw [xHolds_neg, hh]; rfl
        obtain ⟨Q2, hm, hQ2, -⟩ := xCmp_ok (a := xSm a) (b := xK 0) hQ (by rw [← ez, xK_ok]; exact hn)
        exact Or.inl ⟨_, _, (by simp only [rvStep, rvCmp_pt, hh, ht] <;> rfl), List.mem_append.mpr (Or.inr (List.mem_map.mpr ⟨Q2, hm, rfl⟩)), xNx_ok hf hS hP hF rfl rfl ⟨[], (List.append_nil r).symm⟩ hl hst3 hQ2⟩
    · cases hs
  · cases hs
end XPU
