/-! The checker's step over longs, narrowings, constants and switches. -/
def xLk (f : Int64 → Int64 → Int64) (x y : Nat) : xV := bif Nat.beq x 0 || Nat.beq y 0 then .inr (1, 0) else .inr (1, rvLe (f (rvLd x) (rvLd y)))
def xLsh (x : Nat) (o : Option (Int × Int)) : xV := match o with
  | some a => bif Nat.beq x 0 || !decide (a.1 = a.2) then .inr (1, 0) else .inr (1, rvLe ((fun x y => x >>> (Int32.toInt64 y &&& 63)) (rvLd x) (Int32.ofInt a.1)))
  | none => .inr (1, 0)
def xSw (S : xS) (pc : Nat) (al st : List xV) (a : Nat × Int × Int) (Q : xQ) (lo : Int) (offs : List Int) : Option (List xS) := match offs with
  | [] => some []
  | off :: offs => match rvJ pc off, xSw S pc al st a Q (lo + 1) offs with
    | some t, some l => some (xJ S t al st (xCmp .eq (xSm a) (xK lo) Q) ++ l)
    | _, _ => none
def xPurb (mL : Nat) (i : Instr) (a1 a2 : Nat) (S : xS) : Option (List xS) := match S with
  | (pc, al, st, ah, fs, Q, kc, ks) => match i with
    | .lload k => match al[k]? with
      | some (.inr (1, z)) => some [xNx S (pc + 2) al (.inr (1, z) :: st) Q]
      | _ => none
    | .lload_n k => match al[k.val]? with
      | some (.inr (1, z)) => some [xNx S (pc + 1) al (.inr (1, z) :: st) Q]
      | _ => none
    | .lstore k => match st with
      | .inr (1, z) :: st => bif Nat.blt (k + 1) mL then some [xNx S (pc + 2) ((xSet al k (.inr (1, z))).set (k + 1) (.inr (9, 0))) st Q] else none
      | _ => none
    | .lstore_n k => match st with
      | .inr (1, z) :: st => bif Nat.blt (k.val + 1) mL then some [xNx S (pc + 1) ((xSet al k.val (.inr (1, z))).set (k.val + 1) (.inr (9, 0))) st Q] else none
      | _ => none
    | .i2l => match st with
      | .inl _ :: st => some [xNx S (pc + 1) al (.inr (1, 0) :: st) Q]
      | _ => none
    | .lor => match st with
      | .inr (1, _) :: .inr (1, _) :: st => some [xNx S (pc + 1) al (.inr (1, 0) :: st) Q]
      | _ => none
    | .lshl => match st with
      | .inl _ :: .inr (1, _) :: st => some [xNx S (pc + 1) al (.inr (1, 0) :: st) Q]
      | _ => none
    | .lushr => match st with
      | .inl _ :: .inr (1, _) :: st => some [xNx S (pc + 1) al (.inr (1, 0) :: st) Q]
      | _ => none
    | .land => match st with
      | .inr (1, y) :: .inr (1, x) :: st => some [xNx S (pc + 1) al (xLk (· &&& ·) x y :: st) Q]
      | _ => none
    | .lshr => match st with
      | .inl b :: .inr (1, x) :: st => some [xNx S (pc + 1) al (xLsh x (xItv Q b) :: st) Q]
      | _ => none
    | .lcmp => match st with
      | .inr (1, y) :: .inr (1, x) :: st => bif Nat.beq x 0 || Nat.beq y 0 then xPq S (pc + 1) al st (some (xNew (-1, 1) Q)) else some [xNx S (pc + 1) al (xKv (lg_cmp (rvLd x) (rvLd y)).toInt :: st) Q]
      | _ => none
    | .l2i => match st with
      | .inr (1, x) :: st => bif Nat.beq x 0 then xPq S (pc + 1) al st (some (xNew xT32 Q)) else some [xNx S (pc + 1) al (xKv (rvLd x).toInt32.toInt :: st) Q]
      | _ => none
    | .ineg => match st with
      | .inl a :: st => xPq S (pc + 1) al st (some (xRes Q (xMul (-1) (xSm a))))
      | _ => none
    | .i2b => match st with
      | .inl a :: st => xPq S (pc + 1) al st (xUn Q (-128) 127 a)
      | _ => none
    | .i2c => match st with
      | .inl a :: st => xPq S (pc + 1) al st (xUn Q 0 65535 a)
      | _ => none
    | .ldc _ => bif Nat.beq a1 50 then (bif Nat.blt a2 2147483648 then some [xNx S (pc + 2) al (xKv (a2 : Int) :: st) Q] else none) else bif Nat.beq a1 0 || Nat.blt 9 a1 then none else some [xNx S (pc + 2) al (.inr (3, a1) :: st) Q]
    | .ldc_w _ => bif Nat.beq a1 50 && Nat.blt a2 2147483648 then some [xNx S (pc + 3) al (xKv (a2 : Int) :: st) Q] else none
    | .ifnull off => match st with
      | .inr (0, _) :: st => (match rvJ pc off with
        | some t => some [xNx S t al st Q]
        | none => none)
      | .inr (2, _) :: st => some [xNx S (pc + 3) al st Q]
      | .inr (20, _) :: st => some [xNx S (pc + 3) al st Q]
      | _ => none
    | .tableswitch dflt lo hi offs => match st with
      | .inl a :: st => (match rvJ pc dflt, xSw S pc al st a Q lo offs.toList with
        | some t, some l => bif decide ((offs.toList.length : Int) = hi - lo + 1) then some (l ++ (xJ S t al st (xCmp .lt (xSm a) (xK lo) Q) ++ xJ S t al st (xCmp .gt (xSm a) (xK hi) Q))) else none
        | _, _ => none)
      | _ => none
    | _ => none
theorem xR_lc {r : List Int} {T pl : List Nat} {k : Nat} {c : rvV} (h : xR r T pl (.inr (1, k)) c) : ∃ z, c = .inr (1, z) ∧ (Nat.beq k 0 = false → z = k) := by
  cases k with
  | zero => obtain ⟨z, rfl⟩ := h; exact ⟨z, rfl, fun q => by cases q⟩
  | succ n =>
    have h : c = .inr (1, n + 1) := h
    exact ⟨n + 1, h, fun _ => rfl⟩
theorem x_cmp3 (x y : Int64) : -1 ≤ (lg_cmp x y).toInt ∧ (lg_cmp x y).toInt ≤ 1 := by
  unfold lg_cmp
  split
  · exact ⟨by decide, by decide⟩
  · split
    · exact ⟨by decide, by decide⟩
    · exact ⟨by decide, by decide⟩
section XPV
variable {rg : Nat → xG} {fm : xF → List Int → List Nat → List Nat → rvH → Prop} {sc : List (Int × Int)} {BC BS mL a1 a2 a3 pc kc ks : Nat} {al st : List xV} {ah : List xC} {fs : List xF} {Q : xQ} {Ss : List xS} {o : rvS}
set_option maxHeartbeats 1000000 in
theorem xp_lload (hf : xFm fm) {n : Nat} (hs : xPurb mL (.lload n) a1 a2 (pc, al, st, ah, fs, Q, kc, ks) = some Ss) (h : xRel rg fm (pc, al, st, ah, fs, Q, kc, ks) o) : xOk rg fm Ss (rvStep rvTy rvNf rvTxt sc BC BS mL (.lload n) a1 a2 a3 o.1 o.2.1 o.2.2.1 o.2.2.2.1 o.2.2.2.2.1 o.2.2.2.2.2) := by
  obtain ⟨r, T, pl, cl, cs, aw, rfl, hl, hst, hS, hP, hF, hQ⟩ := xRel_out h
  dsimp only at hl hst hS hF hQ ⊢
  simp only [xPurb] at hs
  split at hs
  · rename_i z ha
    cases hs
    obtain ⟨c, hc, hv⟩ := xRs_get hl ha
    obtain ⟨z', rfl, -⟩ := xR_lc hv
    exact Or.inl ⟨_, _, (by simp only [rvStep, hc] <;> rfl), List.mem_singleton.mpr rfl, xNx_ok hf hS hP hF rfl rfl ⟨[], (List.append_nil r).symm⟩ hl (xRs_c hv hst) hQ⟩
  · cases hs
set_option maxHeartbeats 1000000 in
theorem xp_lload_n (hf : xFm fm) {n : Fin 4} (hs : xPurb mL (.lload_n n) a1 a2 (pc, al, st, ah, fs, Q, kc, ks) = some Ss) (h : xRel rg fm (pc, al, st, ah, fs, Q, kc, ks) o) : xOk rg fm Ss (rvStep rvTy rvNf rvTxt sc BC BS mL (.lload_n n) a1 a2 a3 o.1 o.2.1 o.2.2.1 o.2.2.2.1 o.2.2.2.2.1 o.2.2.2.2.2) := by
  obtain ⟨r, T, pl, cl, cs, aw, rfl, hl, hst, hS, hP, hF, hQ⟩ := xRel_out h
  dsimp only at hl hst hS hF hQ ⊢
  simp only [xPurb] at hs
  split at hs
  · rename_i z ha
    cases hs
    obtain ⟨c, hc, hv⟩ := xRs_get hl ha
    obtain ⟨z', rfl, -⟩ := xR_lc hv
    exact Or.inl ⟨_, _, (by simp only [rvStep, hc] <;> rfl), List.mem_singleton.mpr rfl, xNx_ok hf hS hP hF rfl rfl ⟨[], (List.append_nil r).symm⟩ hl (xRs_c hv hst) hQ⟩
  · cases hs
set_option maxHeartbeats 1000000 in
theorem xp_lstore (hf : xFm fm) {n : Nat} (hs : xPurb mL (.lstore n) a1 a2 (pc, al, st, ah, fs, Q, kc, ks) = some Ss) (h : xRel rg fm (pc, al, st, ah, fs, Q, kc, ks) o) : xOk rg fm Ss (rvStep rvTy rvNf rvTxt sc BC BS mL (.lstore n) a1 a2 a3 o.1 o.2.1 o.2.2.1 o.2.2.2.1 o.2.2.2.2.1 o.2.2.2.2.2) := by
  obtain ⟨r, T, pl, cl, cs, aw, rfl, hl, hst, hS, hP, hF, hQ⟩ := xRel_out h
  dsimp only at hl hst hS hF hQ ⊢
  simp only [xPurb] at hs
  split at hs
  · rename_i z st
    obtain ⟨hc, rfl⟩ := rv_bif hs
    obtain ⟨c, ds, rfl, hv, hst2⟩ := xRs_cons hst
    obtain ⟨z', rfl, -⟩ := xR_lc hv
    exact Or.inl ⟨_, _, (by simp only [rvStep, hc] <;> rfl), List.mem_singleton.mpr rfl, xNx_ok hf hS hP hF rfl rfl ⟨[], (List.append_nil r).symm⟩ (xRs_set (xSet_ok hl hv) trivial) hst2 hQ⟩
  · cases hs
set_option maxHeartbeats 1000000 in
theorem xp_lstore_n (hf : xFm fm) {n : Fin 4} (hs : xPurb mL (.lstore_n n) a1 a2 (pc, al, st, ah, fs, Q, kc, ks) = some Ss) (h : xRel rg fm (pc, al, st, ah, fs, Q, kc, ks) o) : xOk rg fm Ss (rvStep rvTy rvNf rvTxt sc BC BS mL (.lstore_n n) a1 a2 a3 o.1 o.2.1 o.2.2.1 o.2.2.2.1 o.2.2.2.2.1 o.2.2.2.2.2) := by
  obtain ⟨r, T, pl, cl, cs, aw, rfl, hl, hst, hS, hP, hF, hQ⟩ := xRel_out h
  dsimp only at hl hst hS hF hQ ⊢
  simp only [xPurb] at hs
  split at hs
  · rename_i z st
    obtain ⟨hc, rfl⟩ := rv_bif hs
    obtain ⟨c, ds, rfl, hv, hst2⟩ := xRs_cons hst
    obtain ⟨z', rfl, -⟩ := xR_lc hv
    exact Or.inl ⟨_, _, (by simp only [rvStep, hc] <;> rfl), List.mem_singleton.mpr rfl, xNx_ok hf hS hP hF rfl rfl ⟨[], (List.append_nil r).symm⟩ (xRs_set (xSet_ok hl hv) trivial) hst2 hQ⟩
  · cases hs
set_option maxHeartbeats 1000000 in
theorem xp_i2l (hf : xFm fm) (hs : xPurb mL (.i2l) a1 a2 (pc, al, st, ah, fs, Q, kc, ks) = some Ss) (h : xRel rg fm (pc, al, st, ah, fs, Q, kc, ks) o) : xOk rg fm Ss (rvStep rvTy rvNf rvTxt sc BC BS mL (.i2l) a1 a2 a3 o.1 o.2.1 o.2.2.1 o.2.2.2.1 o.2.2.2.2.1 o.2.2.2.2.2) := by
  obtain ⟨r, T, pl, cl, cs, aw, rfl, hl, hst, hS, hP, hF, hQ⟩ := xRel_out h
  dsimp only at hl hst hS hF hQ ⊢
  simp only [xPurb] at hs
  split at hs
  · rename_i a st
    cases hs
    obtain ⟨c, ds, rfl, hv, hst2⟩ := xRs_cons hst
    obtain ⟨z, rfl, -, -, -⟩ := xR_pt hv
    exact Or.inl ⟨_, _, rfl, List.mem_singleton.mpr rfl, xNx_ok hf hS hP hF rfl rfl ⟨[], (List.append_nil r).symm⟩ hl (xRs_c (by unfold rvLw; cases rvOne _ <;> exact ⟨_, rfl⟩) hst2) hQ⟩
  · cases hs
set_option maxHeartbeats 1000000 in
theorem xp_lor (hf : xFm fm) (hs : xPurb mL (.lor) a1 a2 (pc, al, st, ah, fs, Q, kc, ks) = some Ss) (h : xRel rg fm (pc, al, st, ah, fs, Q, kc, ks) o) : xOk rg fm Ss (rvStep rvTy rvNf rvTxt sc BC BS mL (.lor) a1 a2 a3 o.1 o.2.1 o.2.2.1 o.2.2.2.1 o.2.2.2.2.1 o.2.2.2.2.2) := by
  obtain ⟨r, T, pl, cl, cs, aw, rfl, hl, hst, hS, hP, hF, hQ⟩ := xRel_out h
  dsimp only at hl hst hS hF hQ ⊢
  simp only [xPurb] at hs
  split at hs
  · rename_i y x st
    cases hs
    obtain ⟨c, ds, rfl, hv, hst2⟩ := xRs_cons hst
    obtain ⟨d, ds, rfl, hw, hst3⟩ := xRs_cons hst2
    obtain ⟨z, rfl, -⟩ := xR_lc hv
    obtain ⟨z2, rfl, -⟩ := xR_lc hw
    exact Or.inl ⟨_, _, rfl, List.mem_singleton.mpr rfl, xNx_ok hf hS hP hF rfl rfl ⟨[], (List.append_nil r).symm⟩ hl (xRs_c (by unfold rvLb; cases (Nat.beq _ 0 || Nat.beq _ 0) <;> exact ⟨_, rfl⟩) hst3) hQ⟩
  · cases hs
set_option maxHeartbeats 1000000 in
theorem xp_lshl (hf : xFm fm) (hs : xPurb mL (.lshl) a1 a2 (pc, al, st, ah, fs, Q, kc, ks) = some Ss) (h : xRel rg fm (pc, al, st, ah, fs, Q, kc, ks) o) : xOk rg fm Ss (rvStep rvTy rvNf rvTxt sc BC BS mL (.lshl) a1 a2 a3 o.1 o.2.1 o.2.2.1 o.2.2.2.1 o.2.2.2.2.1 o.2.2.2.2.2) := by
  obtain ⟨r, T, pl, cl, cs, aw, rfl, hl, hst, hS, hP, hF, hQ⟩ := xRel_out h
  dsimp only at hl hst hS hF hQ ⊢
  simp only [xPurb] at hs
  split at hs
  · rename_i y x st
    cases hs
    obtain ⟨c, ds, rfl, hv, hst2⟩ := xRs_cons hst
    obtain ⟨d, ds, rfl, hw, hst3⟩ := xRs_cons hst2
    obtain ⟨z, rfl, -, -, -⟩ := xR_pt hv
    obtain ⟨z2, rfl, -⟩ := xR_lc hw
    exact Or.inl ⟨_, _, rfl, List.mem_singleton.mpr rfl, xNx_ok hf hS hP hF rfl rfl ⟨[], (List.append_nil r).symm⟩ hl (xRs_c (by unfold rvLs; cases (Nat.beq _ 0 || !rvOne _) <;> exact ⟨_, rfl⟩) hst3) hQ⟩
  · cases hs
set_option maxHeartbeats 1000000 in
theorem xp_lushr (hf : xFm fm) (hs : xPurb mL (.lushr) a1 a2 (pc, al, st, ah, fs, Q, kc, ks) = some Ss) (h : xRel rg fm (pc, al, st, ah, fs, Q, kc, ks) o) : xOk rg fm Ss (rvStep rvTy rvNf rvTxt sc BC BS mL (.lushr) a1 a2 a3 o.1 o.2.1 o.2.2.1 o.2.2.2.1 o.2.2.2.2.1 o.2.2.2.2.2) := by
  obtain ⟨r, T, pl, cl, cs, aw, rfl, hl, hst, hS, hP, hF, hQ⟩ := xRel_out h
  dsimp only at hl hst hS hF hQ ⊢
  simp only [xPurb] at hs
  split at hs
  · rename_i y x st
    cases hs
    obtain ⟨c, ds, rfl, hv, hst2⟩ := xRs_cons hst
    obtain ⟨d, ds, rfl, hw, hst3⟩ := xRs_cons hst2
    obtain ⟨z, rfl, -, -, -⟩ := xR_pt hv
    obtain ⟨z2, rfl, -⟩ := xR_lc hw
    exact Or.inl ⟨_, _, rfl, List.mem_singleton.mpr rfl, xNx_ok hf hS hP hF rfl rfl ⟨[], (List.append_nil r).symm⟩ hl (xRs_c (by unfold rvLs; cases (Nat.beq _ 0 || !rvOne _) <;> exact ⟨_, rfl⟩) hst3) hQ⟩
  · cases hs
theorem xLk_ok {r : List Int} {T pl : List Nat} {f : Int64 → Int64 → Int64} {x y x' y' : Nat} (h1 : Nat.beq x 0 = false → x' = x) (h2 : Nat.beq y 0 = false → y' = y) : xR r T pl (xLk f x y) (rvLb f x' y') := by
  unfold xLk
  cases hc : (Nat.beq x 0 || Nat.beq y 0) with
  | true =>
    unfold rvLb
    cases hd : (Nat.beq x' 0 || Nat.beq y' 0) with
    | true => exact ⟨0, rfl⟩
    | false => exact ⟨_, rfl⟩
  | false =>
    obtain ⟨c1, c2⟩ := rv_or hc
    have e1 := h1 c1
    have e2 := h2 c2
    subst e1; subst e2
    unfold rvLb
    rw [hc]
    exact xR_long _
set_option maxHeartbeats 1000000 in
theorem xp_land (hf : xFm fm) (hs : xPurb mL (.land) a1 a2 (pc, al, st, ah, fs, Q, kc, ks) = some Ss) (h : xRel rg fm (pc, al, st, ah, fs, Q, kc, ks) o) : xOk rg fm Ss (rvStep rvTy rvNf rvTxt sc BC BS mL (.land) a1 a2 a3 o.1 o.2.1 o.2.2.1 o.2.2.2.1 o.2.2.2.2.1 o.2.2.2.2.2) := by
  obtain ⟨r, T, pl, cl, cs, aw, rfl, hl, hst, hS, hP, hF, hQ⟩ := xRel_out h
  dsimp only at hl hst hS hF hQ ⊢
  simp only [xPurb] at hs
  split at hs
  · rename_i y x st
    cases hs
    obtain ⟨c, ds, rfl, hv, hst2⟩ := xRs_cons hst
    obtain ⟨d, ds, rfl, hw, hst3⟩ := xRs_cons hst2
    obtain ⟨z, rfl, q1⟩ := xR_lc hv
    obtain ⟨z2, rfl, q2⟩ := xR_lc hw
    exact Or.inl ⟨_, _, rfl, List.mem_singleton.mpr rfl, xNx_ok hf hS hP hF rfl rfl ⟨[], (List.append_nil r).symm⟩ hl (xRs_c (xLk_ok q2 q1) hst3) hQ⟩
  · cases hs
set_option maxHeartbeats 1000000 in
theorem xp_lcmp (hf : xFm fm) (hs : xPurb mL (.lcmp) a1 a2 (pc, al, st, ah, fs, Q, kc, ks) = some Ss) (h : xRel rg fm (pc, al, st, ah, fs, Q, kc, ks) o) : xOk rg fm Ss (rvStep rvTy rvNf rvTxt sc BC BS mL (.lcmp) a1 a2 a3 o.1 o.2.1 o.2.2.1 o.2.2.2.1 o.2.2.2.2.1 o.2.2.2.2.2) := by
  obtain ⟨r, T, pl, cl, cs, aw, rfl, hl, hst, hS, hP, hF, hQ⟩ := xRel_out h
  dsimp only at hl hst hS hF hQ ⊢
  simp only [xPurb] at hs
  split at hs
  · rename_i y x st
    obtain ⟨c, ds, rfl, hv, hst2⟩ := xRs_cons hst
    obtain ⟨d, ds, rfl, hw, hst3⟩ := xRs_cons hst2
    obtain ⟨y', rfl, q1⟩ := xR_lc hv
    obtain ⟨x', rfl, q2⟩ := xR_lc hw
    cases hc : (Nat.beq x 0 || Nat.beq y 0) with
    | true =>
      rw [hc] at hs
      have hs : some [xNx (pc, al, .inr (1, y) :: .inr (1, x) :: st, ah, fs, Q, kc, ks) (pc + 1) al ((xNew (-1, 1) Q).2 :: st) (xNew (-1, 1) Q).1] = some Ss := hs
      cases hs
      have go : ∀ n : Int, -1 ≤ n → n ≤ 1 → xRel rg fm (xNx (pc, al, .inr (1, y) :: .inr (1, x) :: st, ah, fs, Q, kc, ks) (pc + 1) al ((xNew (-1, 1) Q).2 :: st) (xNew (-1, 1) Q).1) (pc + 1, cl, .inl (n, n) :: ds, aw, kc, ks) := by
        intro n h1 h2
        obtain ⟨r', hr, hQ2, hn⟩ := xNew_ok (a := (-1, 1)) T pl hQ h1 h2 ⟨by omega, by omega⟩
        exact xNx_ok hf hS hP hF rfl rfl hr (xRs_grow (xG_r hr) hl) (xRs_c hn (xRs_grow (xG_r hr) hst3)) hQ2
      cases hd : (Nat.beq x' 0 || Nat.beq y' 0) with
      | true => exact Or.inr ⟨pc + 1, cl, ds, (-1, 1), aw, kc, ks, (by simp only [rvStep, rvLc, hd] <;> rfl), fun n h1 h2 _ => ⟨_, List.mem_singleton.mpr rfl, go n h1 h2⟩⟩
      | false =>
        obtain ⟨b1, b2⟩ := x_cmp3 (rvLd x') (rvLd y')
        exact Or.inl ⟨_, _, (by simp only [rvStep, rvLc, hd] <;> rfl), List.mem_singleton.mpr rfl, go _ b1 b2⟩
    | false =>
      rw [hc] at hs
      cases hs
      obtain ⟨c1, c2⟩ := rv_or hc
      have e1 := q1 c2
      have e2 := q2 c1
      subst e1; subst e2
      exact Or.inl ⟨_, _, (by simp only [rvStep, rvLc, hc] <;> rfl), List.mem_singleton.mpr rfl, xNx_ok hf hS hP hF rfl rfl ⟨[], (List.append_nil r).symm⟩ hl (xRs_c (xR_K r T pl (xi_in _)) hst3) hQ⟩
  · cases hs
set_option maxHeartbeats 1000000 in
theorem xp_l2i (hf : xFm fm) (hs : xPurb mL (.l2i) a1 a2 (pc, al, st, ah, fs, Q, kc, ks) = some Ss) (h : xRel rg fm (pc, al, st, ah, fs, Q, kc, ks) o) : xOk rg fm Ss (rvStep rvTy rvNf rvTxt sc BC BS mL (.l2i) a1 a2 a3 o.1 o.2.1 o.2.2.1 o.2.2.2.1 o.2.2.2.2.1 o.2.2.2.2.2) := by
  obtain ⟨r, T, pl, cl, cs, aw, rfl, hl, hst, hS, hP, hF, hQ⟩ := xRel_out h
  dsimp only at hl hst hS hF hQ ⊢
  simp only [xPurb] at hs
  split at hs
  · rename_i x st
    obtain ⟨c, ds, rfl, hv, hst3⟩ := xRs_cons hst
    obtain ⟨x', rfl, q1⟩ := xR_lc hv
    cases hc : Nat.beq x 0 with
    | true =>
      rw [hc] at hs
      have hs : some [xNx (pc, al, .inr (1, x) :: st, ah, fs, Q, kc, ks) (pc + 1) al ((xNew xT32 Q).2 :: st) (xNew xT32 Q).1] = some Ss := hs
      cases hs
      have go : ∀ n : Int, xIn32 n → xRel rg fm (xNx (pc, al, .inr (1, x) :: st, ah, fs, Q, kc, ks) (pc + 1) al ((xNew xT32 Q).2 :: st) (xNew xT32 Q).1) (pc + 1, cl, .inl (n, n) :: ds, aw, kc, ks) := by
        intro n h1
        obtain ⟨r', hr, hQ2, hn⟩ := xNew_ok (a := xT32) T pl hQ h1.1 h1.2 h1
        exact xNx_ok hf hS hP hF rfl rfl hr (xRs_grow (xG_r hr) hl) (xRs_c hn (xRs_grow (xG_r hr) hst3)) hQ2
      cases hd : Nat.beq x' 0 with
      | true => exact Or.inr ⟨pc + 1, cl, ds, xT32, aw, kc, ks, (by simp only [rvStep, rvLi, hd] <;> rfl), fun n _ _ h1 => ⟨_, List.mem_singleton.mpr rfl, go n h1⟩⟩
      | false => exact Or.inl ⟨_, _, (by simp only [rvStep, rvLi, hd] <;> rfl), List.mem_singleton.mpr rfl, go _ (xi_in _)⟩
    | false =>
      rw [hc] at hs
      cases hs
      have e1 := q1 hc
      subst e1
      exact Or.inl ⟨_, _, (by simp only [rvStep, rvLi, hc] <;> rfl), List.mem_singleton.mpr rfl, xNx_ok hf hS hP hF rfl rfl ⟨[], (List.append_nil r).symm⟩ hl (xRs_c (xR_K r T pl (xi_in _)) hst3) hQ⟩
  · cases hs
set_option maxHeartbeats 1000000 in
theorem xp_ineg (hf : xFm fm) (hs : xPurb mL (.ineg) a1 a2 (pc, al, st, ah, fs, Q, kc, ks) = some Ss) (h : xRel rg fm (pc, al, st, ah, fs, Q, kc, ks) o) : xOk rg fm Ss (rvStep rvTy rvNf rvTxt sc BC BS mL (.ineg) a1 a2 a3 o.1 o.2.1 o.2.2.1 o.2.2.2.1 o.2.2.2.2.1 o.2.2.2.2.2) := by
  obtain ⟨r, T, pl, cl, cs, aw, rfl, hl, hst, hS, hP, hF, hQ⟩ := xRel_out h
  dsimp only at hl hst hS hF hQ ⊢
  simp only [xPurb] at hs
  split at hs
  · rename_i a st
    obtain ⟨c, ds, rfl, ha, hst3⟩ := xRs_cons hst
    obtain ⟨z, rfl, ez, z32, wz⟩ := xR_pt ha
    have hnil : xWf r.length [] := fun q hq => by cases hq
    obtain ⟨r', hr, hQ2, hv⟩ := xRes_ok (l := xMul (-1) (xSm a)) (z := (-(Int32.ofInt z)).toInt) T pl hQ (xTm_wf hnil wz) (xi_in _) (fun hi => by
      have e : xVal r (xMul (-1) (xSm a)) = -z := by rw [xMul_ok, ← ez]; omega
      rw [e] at hi ⊢
      exact xi_neg z32 hi)
    have hs : some [xNx (pc, al, .inl a :: st, ah, fs, Q, kc, ks) (pc + 1) al ((xRes Q (xMul (-1) (xSm a))).2 :: st) (xRes Q (xMul (-1) (xSm a))).1] = some Ss := hs
    cases hs
    exact Or.inl ⟨_, _, (by simp only [rvStep, rvBin_pt] <;> rfl), List.mem_singleton.mpr rfl, xNx_ok hf hS hP hF rfl rfl hr (xRs_grow (xG_r hr) hl) (xRs_c hv (xRs_grow (xG_r hr) hst3)) hQ2⟩
  · cases hs
set_option maxHeartbeats 1000000 in
theorem xp_ldc_w (hf : xFm fm) {n : Nat} (hs : xPurb mL (.ldc_w n) a1 a2 (pc, al, st, ah, fs, Q, kc, ks) = some Ss) (h : xRel rg fm (pc, al, st, ah, fs, Q, kc, ks) o) : xOk rg fm Ss (rvStep rvTy rvNf rvTxt sc BC BS mL (.ldc_w n) a1 a2 a3 o.1 o.2.1 o.2.2.1 o.2.2.2.1 o.2.2.2.2.1 o.2.2.2.2.2) := by
  obtain ⟨r, T, pl, cl, cs, aw, rfl, hl, hst, hS, hP, hF, hQ⟩ := xRel_out h
  dsimp only at hl hst hS hF hQ ⊢
  simp only [xPurb] at hs
  obtain ⟨hc, rfl⟩ := rv_bif hs
  have h2 := rv_blt (rv_and hc).2
  exact Or.inl ⟨_, _, (by simp only [rvStep, hc] <;> rfl), List.mem_singleton.mpr rfl, xNx_ok hf hS hP hF rfl rfl ⟨[], (List.append_nil r).symm⟩ hl (xRs_c (xR_K r T pl ⟨by omega, by omega⟩) hst) hQ⟩
set_option maxHeartbeats 1000000 in
theorem xp_ifnull (hf : xFm fm) {off : Int} (hs : xPurb mL (.ifnull off) a1 a2 (pc, al, st, ah, fs, Q, kc, ks) = some Ss) (h : xRel rg fm (pc, al, st, ah, fs, Q, kc, ks) o) : xOk rg fm Ss (rvStep rvTy rvNf rvTxt sc BC BS mL (.ifnull off) a1 a2 a3 o.1 o.2.1 o.2.2.1 o.2.2.2.1 o.2.2.2.2.1 o.2.2.2.2.2) := by
  obtain ⟨r, T, pl, cl, cs, aw, rfl, hl, hst, hS, hP, hF, hQ⟩ := xRel_out h
  dsimp only at hl hst hS hF hQ ⊢
  simp only [xPurb] at hs
  split at hs
  · rename_i z st
    split at hs
    · rename_i t ht
      cases hs
      obtain ⟨c, ds, rfl, ⟨z2, rfl⟩, hst3⟩ := xRs_cons hst
      exact Or.inl ⟨_, _, (by simp only [rvStep, ht] <;> rfl), List.mem_singleton.mpr rfl, xNx_ok hf hS hP hF rfl rfl ⟨[], (List.append_nil r).symm⟩ hl hst3 hQ⟩
    · cases hs
  · cases hs
    obtain ⟨c, ds, rfl, ⟨i, -, rfl⟩, hst3⟩ := xRs_cons hst
    exact Or.inl ⟨_, _, rfl, List.mem_singleton.mpr rfl, xNx_ok hf hS hP hF rfl rfl ⟨[], (List.append_nil r).symm⟩ hl hst3 hQ⟩
  · cases hs
    obtain ⟨c, ds, rfl, ⟨-, i, -, rfl⟩, hst3⟩ := xRs_cons hst
    exact Or.inl ⟨_, _, rfl, List.mem_singleton.mpr rfl, xNx_ok hf hS hP hF rfl rfl ⟨[], (List.append_nil r).symm⟩ hl hst3 hQ⟩
  · cases hs
end XPV
