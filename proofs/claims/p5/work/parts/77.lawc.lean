/-! The law's own frame, as the checker sees it: script[i + k] is a local 6 + k; what a turn makes is counted from 0. -/
def lwT (o : Option Nat) : Bool := match o with
  | some t => !lwF t
  | none => true
def lwRow (q : Nat × rvE) : Bool := match q with
  | (pc, i, len, a1, a2, a3, wi) => (match i with
    | .iload n => (!lwF pc && (lwF (pc + 2) && !lwF (pc + 6))) && ((Nat.ble 7 n && Nat.ble n 11) && (decide (decode cL_law pc = .ok (.aload_n 0, 1)) && (decide (decode cL_law (pc + 1) = .ok (.iload 4, 2)) && (decide (decode cL_law (pc + 3) = .ok (.iconst ((n : Int) - 6), 1)) && (decide (decode cL_law (pc + 4) = .ok (.iadd, 1)) && decide (decode cL_law (pc + 5) = .ok (.iaload, 1)))))))
    | .goto off => bif decide (off = 0) then true else bif lwF pc then decide (off = 4) && !lwF (pc + 4) else decide (decode cL_law pc = .ok (.goto off, 3)) && lwT (rvJ pc off)
    | .aload_n k => (!lwF pc && !lwF (pc + 1)) && decide (decode cL_law pc = .ok (.aload_n k, 1))
    | .pop => (!lwF pc && !lwF (pc + 1)) && decide (decode cL_law pc = .ok (.pop, 1))
    | .istore k => ((!lwF pc && !lwF (pc + 2)) && (Nat.beq k 5 || Nat.beq k 6)) && decide (decode cL_law pc = .ok (.istore k, 2))
    | .tableswitch d lo hi offs => (!lwF pc && (lwT (rvJ pc d) && offs.toList.all (fun f => lwT (rvJ pc f)))) && decide (decode cL_law pc = .ok (.tableswitch d lo hi offs, len))
    | .if_icmp c off => (!lwF pc && (!lwF (pc + 3) && lwT (rvJ pc off))) && decide (decode cL_law pc = .ok (.if_icmp c off, 3))
    | .invokevirtual idx => (!lwF pc && !lwF (pc + 3)) && (Nat.beq a3 0 && (decide (decode cL_law pc = .ok (.invokevirtual idx, 3)) && (rvAux RL false (.invokevirtual idx) a1 a2 wi && rvCk rvYn rvKd 316 RL (.invokevirtual idx) a1 a2 a3 wi)))
    | _ => false)
/-- the real state behind a made one -/
def lwG (RG : rvS → Prop) (i : Int) (vs : List rvV) (k0 s0 : Nat) (o : rvS) : Prop :=
  ∀ b1 b2 b3 b5 b6 : rvV, o.2.1 = .inr (5, 0) :: b1 :: b2 :: b3 :: .inl (i, i) :: b5 :: b6 :: vs → RG ((bif lwF o.1 then o.1 + 4 else o.1), [.inr (5, 0), b1, b2, b3, .inl (i, i), b5, b6], o.2.2.1, o.2.2.2.1, k0 + o.2.2.2.2.1, s0 + o.2.2.2.2.2)
theorem lw_not {b : Bool} (h : (!b) = true) : b = false := by
  cases b
  · rfl
  · cases h
theorem lwT_ok {o : Option Nat} {t : Nat} (h : lwT o = true) (e : o = some t) : lwF t = false := by
  subst e
  exact lw_not h
section LWC
variable {RG : rvS → Prop} {sc : List (Int × Int)} {i : Int} {vs : List rvV} {k0 s0 : Nat}
/-- what the machine gives: an instruction of the law -/
def lwOk (i : Instr) : Bool := match i with
  | .ldc2_w _ => false
  | .anewarray _ => false
  | .iinc _ _ => false
  | _ => true
def lwS (RG : rvS → Prop) (sc : List (Int × Int)) : Prop := ∀ (pc : Nat) (al st : List rvV) (aw : rvH) (kc ks : Nat) (i : Instr) (len a1 a2 a3 wi : Nat) (o : rvS), decode cL_law pc = .ok (i, rvSz i len) → (rvAux RL false i a1 a2 wi && lwOk i) = true → rvStep rvTy rvNf rvTxt sc 600000 7000000 7 i a1 a2 a3 pc al st aw kc ks = some o → RG o → RG (pc, al, st, aw, kc, ks)
theorem lw_goto (hS : lwS RG sc) {pc : Nat} {al st : List rvV} {aw : rvH} {kc ks len a1 a2 a3 wi : Nat} {off : Int} {o' : rvS} (hr : lwRow (pc, .goto off, len, a1, a2, a3, wi) = true) (h : rvStep rvTy rvNf rvTxt [] 20 400 12 (.goto off) a1 a2 a3 pc al st aw kc ks = some o') (hG : lwG RG i vs k0 s0 o') : lwG RG i vs k0 s0 (pc, al, st, aw, kc, ks) := by
  have hr : (bif decide (off = 0) then true else bif lwF pc then decide (off = 4) && !lwF (pc + 4) else decide (decode cL_law pc = .ok (.goto off, 3)) && lwT (rvJ pc off)) = true := hr
  have h : (match rvJ pc off with
    | some t => some (t, al, st, aw, kc, ks)
    | none => none) = some o' := h
  cases hJ : rvJ pc off with
  | none => rw [hJ] at h; cases h
  | some t =>
    rw [hJ] at h
    have e := Option.some.inj h
    subst e
    have hJ2 : (bif decide (0 ≤ (pc : Int) + off) then some ((pc : Int) + off).toNat else none) = some t := hJ
    cases hd : decide (off = 0) with
    | true =>
      have := of_decide_eq_true hd
      subst this
      have hp : decide (0 ≤ (pc : Int) + 0) = true := decide_eq_true (by omega)
      rw [hp] at hJ2
      have e := Option.some.inj hJ2
      have : t = pc := by omega
      subst this
      exact hG
    | false =>
      rw [hd, cond_false] at hr
      cases hf : lwF pc with
      | true =>
        rw [hf, cond_true] at hr
        obtain ⟨r1, r2⟩ := rv_and hr
        have := of_decide_eq_true r1
        subst this
        have hp : decide (0 ≤ (pc : Int) + 4) = true := decide_eq_true (by omega)
        rw [hp] at hJ2
        have e := Option.some.inj hJ2
        have : t = pc + 4 := by omega
        subst this
        intro b1 b2 b3 b5 b6 hal
        have := hG b1 b2 b3 b5 b6 hal
        dsimp only at this ⊢
        rw [lw_not r2, cond_false] at this
        rw [hf, cond_true]
        exact this
      | false =>
        rw [hf, cond_false] at hr
        obtain ⟨r1, r2⟩ := rv_and hr
        have hft := lwT_ok r2 hJ
        intro b1 b2 b3 b5 b6 hal
        have := hG b1 b2 b3 b5 b6 hal
        dsimp only at this ⊢
        rw [hft, cond_false] at this
        rw [hf, cond_false]
        refine hS pc _ st aw _ _ (.goto off) len 0 0 0 0 _ (of_decide_eq_true r1) rfl ?_ this
        show (match rvJ pc off with
          | some t => some (t, _, st, aw, _, _)
          | none => none) = _
        rw [hJ]
theorem lw_pop (hS : lwS RG sc) {pc : Nat} {al st : List rvV} {aw : rvH} {kc ks len a1 a2 a3 wi : Nat} {o' : rvS} (hr : lwRow (pc, .pop, len, a1, a2, a3, wi) = true) (h : rvStep rvTy rvNf rvTxt [] 20 400 12 .pop a1 a2 a3 pc al st aw kc ks = some o') (hG : lwG RG i vs k0 s0 o') : lwG RG i vs k0 s0 (pc, al, st, aw, kc, ks) := by
  have hr : ((!lwF pc && !lwF (pc + 1)) && decide (decode cL_law pc = .ok (.pop, 1))) = true := hr
  obtain ⟨r1, r2⟩ := rv_and hr
  obtain ⟨r3, r4⟩ := rv_and r1
  match st, h with
  | [], h => cases h
  | v :: st, h =>
    have h : (bif rvIsL v then none else some (pc + 1, al, st, aw, kc, ks)) = some o' := h
    cases hv : rvIsL v with
    | true => rw [hv] at h; cases h
    | false =>
      rw [hv] at h
      have e := Option.some.inj h
      subst e
      intro b1 b2 b3 b5 b6 hal
      have := hG b1 b2 b3 b5 b6 hal
      dsimp only at this ⊢
      rw [lw_not r4, cond_false] at this
      rw [lw_not r3, cond_false]
      refine hS pc _ (v :: st) aw _ _ .pop 1 0 0 0 0 _ (of_decide_eq_true r2) rfl ?_ this
      show (bif rvIsL v then none else some (pc + 1, _, st, aw, _, _)) = _
      rw [hv]
      rfl
theorem lw_aload (hS : lwS RG sc) {pc : Nat} {al st : List rvV} {aw : rvH} {kc ks len a1 a2 a3 wi : Nat} {k : Fin 4} {o' : rvS} (hr : lwRow (pc, .aload_n k, len, a1, a2, a3, wi) = true) (h : rvStep rvTy rvNf rvTxt [] 20 400 12 (.aload_n k) a1 a2 a3 pc al st aw kc ks = some o') (hG : lwG RG i vs k0 s0 o') : lwG RG i vs k0 s0 (pc, al, st, aw, kc, ks) := by
  have hr : ((!lwF pc && !lwF (pc + 1)) && decide (decode cL_law pc = .ok (.aload_n k, 1))) = true := hr
  obtain ⟨r1, r2⟩ := rv_and hr
  obtain ⟨r3, r4⟩ := rv_and r1
  intro b1 b2 b3 b5 b6 hal
  have hal : al = .inr (5, 0) :: b1 :: b2 :: b3 :: .inl (i, i) :: b5 :: b6 :: vs := hal
  subst hal
  have key : ∀ v : rvV, ([.inr (5, 0), b1, b2, b3, .inl (i, i), b5, b6] : List rvV)[k.val]? = some v → (.inr (5, 0) :: b1 :: b2 :: b3 :: .inl (i, i) :: b5 :: b6 :: vs : List rvV)[k.val]? = some v → lwG RG i vs k0 s0 (pc, .inr (5, 0) :: b1 :: b2 :: b3 :: .inl (i, i) :: b5 :: b6 :: vs, st, aw, kc, ks) := by
    intro v e1 e2
    have h : (match (.inr (5, 0) :: b1 :: b2 :: b3 :: .inl (i, i) :: b5 :: b6 :: vs : List rvV)[k.val]? with
      | some v => bif rvIsA v then some (pc + 1, .inr (5, 0) :: b1 :: b2 :: b3 :: .inl (i, i) :: b5 :: b6 :: vs, v :: st, aw, kc, ks) else none
      | _ => none) = some o' := h
    rw [e2] at h
    have h : (bif rvIsA v then some (pc + 1, .inr (5, 0) :: b1 :: b2 :: b3 :: .inl (i, i) :: b5 :: b6 :: vs, v :: st, aw, kc, ks) else none) = some o' := h
    cases hv : rvIsA v with
    | false => rw [hv] at h; cases h
    | true =>
      rw [hv] at h
      have e := Option.some.inj h
      subst e
      intro c1 c2 c3 c5 c6 hal
      have := hG c1 c2 c3 c5 c6 hal
      cases hal
      dsimp only at this ⊢
      rw [lw_not r4, cond_false] at this
      rw [lw_not r3, cond_false]
      refine hS pc _ st aw _ _ (.aload_n k) 1 0 0 0 0 _ (of_decide_eq_true r2) rfl ?_ this
      show (match ([.inr (5, 0), b1, b2, b3, .inl (i, i), b5, b6] : List rvV)[k.val]? with
        | some v => bif rvIsA v then some (pc + 1, _, v :: st, aw, _, _) else none
        | _ => none) = _
      rw [e1]
      show (bif rvIsA v then some (pc + 1, _, v :: st, aw, _, _) else none) = _
      rw [hv]
      rfl
  clear hG h hr r1 r2 r3 r4 hS
  obtain ⟨k, hk⟩ := k
  rcases (by omega : k = 0 ∨ k = 1 ∨ k = 2 ∨ k = 3) with e | e | e | e
  · subst e; exact key _ rfl rfl b1 b2 b3 b5 b6 rfl
  · subst e; exact key _ rfl rfl b1 b2 b3 b5 b6 rfl
  · subst e; exact key _ rfl rfl b1 b2 b3 b5 b6 rfl
  · subst e; exact key _ rfl rfl b1 b2 b3 b5 b6 rfl
theorem lw_set5 {b1 b2 b3 b5 b6 : rvV} {a : Int × Int} : rvSet (.inr (5, 0) :: b1 :: b2 :: b3 :: .inl (i, i) :: b5 :: b6 :: vs) 5 (.inl a) = .inr (5, 0) :: b1 :: b2 :: b3 :: .inl (i, i) :: .inl a :: b6 :: vs := rfl
theorem lw_set6 {b1 b2 b3 b5 b6 : rvV} {a : Int × Int} : rvSet (.inr (5, 0) :: b1 :: b2 :: b3 :: .inl (i, i) :: b5 :: b6 :: vs) 6 (.inl a) = .inr (5, 0) :: b1 :: b2 :: b3 :: .inl (i, i) :: (bif rvIsL b5 then rvU else b5) :: .inl a :: vs := by
  show (bif rvIsL b5 then _ else _) = _
  cases rvIsL b5 <;> rfl
theorem lw_istore (hS : lwS RG sc) {pc : Nat} {al st : List rvV} {aw : rvH} {kc ks len a1 a2 a3 wi k : Nat} {o' : rvS} (hr : lwRow (pc, .istore k, len, a1, a2, a3, wi) = true) (h : rvStep rvTy rvNf rvTxt [] 20 400 12 (.istore k) a1 a2 a3 pc al st aw kc ks = some o') (hG : lwG RG i vs k0 s0 o') : lwG RG i vs k0 s0 (pc, al, st, aw, kc, ks) := by
  have hr : (((!lwF pc && !lwF (pc + 2)) && (Nat.beq k 5 || Nat.beq k 6)) && decide (decode cL_law pc = .ok (.istore k, 2))) = true := hr
  obtain ⟨r1, r2⟩ := rv_and hr
  obtain ⟨r1, r5⟩ := rv_and r1
  obtain ⟨r3, r4⟩ := rv_and r1
  have r2 := of_decide_eq_true r2
  intro b1 b2 b3 b5 b6 hal
  have hal : al = .inr (5, 0) :: b1 :: b2 :: b3 :: .inl (i, i) :: b5 :: b6 :: vs := hal
  subst hal
  match st, h with
  | [], h => cases h
  | .inr _ :: _, h => cases h
  | .inl a :: st, h =>
    have h : (bif Nat.blt k 12 then some (pc + 2, rvSet (.inr (5, 0) :: b1 :: b2 :: b3 :: .inl (i, i) :: b5 :: b6 :: vs) k (.inl a), st, aw, kc, ks) else none) = some o' := h
    dsimp only
    rw [lw_not r3, cond_false]
    rcases rv_or' r5 with e | e
    · have e := rv_beq e
      subst e
      rw [lw_set5] at h
      have e := Option.some.inj h
      subst e
      have := hG _ _ _ _ _ rfl
      dsimp only at this
      rw [lw_not r4, cond_false] at this
      exact hS pc _ (.inl a :: st) aw _ _ (.istore 5) 2 0 0 0 0 _ r2 rfl rfl this
    · have e := rv_beq e
      subst e
      rw [lw_set6] at h
      have e := Option.some.inj h
      subst e
      have := hG _ _ _ _ _ rfl
      dsimp only at this
      rw [lw_not r4, cond_false] at this
      refine hS pc _ (.inl a :: st) aw _ _ (.istore 6) 2 0 0 0 0 _ r2 rfl ?_ this
      show some (pc + 2, rvSet [.inr (5, 0), b1, b2, b3, .inl (i, i), b5, b6] 6 (.inl a), st, aw, _, _) = _
      rw [lw_set6]
theorem lw_icmp (hS : lwS RG sc) {pc : Nat} {al st : List rvV} {aw : rvH} {kc ks len a1 a2 a3 wi : Nat} {q : ClassFile.Cond} {off : Int} {o' : rvS} (hr : lwRow (pc, .if_icmp q off, len, a1, a2, a3, wi) = true) (h : rvStep rvTy rvNf rvTxt [] 20 400 12 (.if_icmp q off) a1 a2 a3 pc al st aw kc ks = some o') (hG : lwG RG i vs k0 s0 o') : lwG RG i vs k0 s0 (pc, al, st, aw, kc, ks) := by
  have hr : ((!lwF pc && (!lwF (pc + 3) && lwT (rvJ pc off))) && decide (decode cL_law pc = .ok (.if_icmp q off, 3))) = true := hr
  obtain ⟨r1, r2⟩ := rv_and hr
  obtain ⟨r3, r4⟩ := rv_and r1
  obtain ⟨r4, r5⟩ := rv_and r4
  have r2 := of_decide_eq_true r2
  intro b1 b2 b3 b5 b6 hal
  dsimp only
  rw [lw_not r3, cond_false]
  match st, h with
  | [], h => cases h
  | [.inl _], h => cases h
  | .inr _ :: _, h => cases h
  | .inl _ :: .inr _ :: _, h => cases h
  | .inl b :: .inl a :: st, h =>
    have h : (match rvCmp q a b, rvJ pc off with
      | some true, some t => some (t, al, st, aw, kc, ks)
      | some false, some _ => some (pc + 3, al, st, aw, kc, ks)
      | _, _ => none) = some o' := h
    cases hc : rvCmp q a b with
    | none => rw [hc] at h; cases h
    | some t =>
      cases hJ : rvJ pc off with
      | none => rw [hc, hJ] at h; cases t <;> cases h
      | some t2 =>
        rw [hc, hJ] at h
        cases t with
        | true =>
          have e := Option.some.inj h
          subst e
          have := hG b1 b2 b3 b5 b6 hal
          dsimp only at this
          rw [lwT_ok r5 hJ, cond_false] at this
          refine hS pc _ (.inl b :: .inl a :: st) aw _ _ (.if_icmp q off) 3 0 0 0 0 _ r2 rfl ?_ this
          show (match rvCmp q a b, rvJ pc off with
            | some true, some t => some (t, _, st, aw, _, _)
            | some false, some _ => some (pc + 3, _, st, aw, _, _)
            | _, _ => none) = _
          rw [hc, hJ]
        | false =>
          have e := Option.some.inj h
          subst e
          have := hG b1 b2 b3 b5 b6 hal
          dsimp only at this
          rw [lw_not r4, cond_false] at this
          refine hS pc _ (.inl b :: .inl a :: st) aw _ _ (.if_icmp q off) 3 0 0 0 0 _ r2 rfl ?_ this
          show (match rvCmp q a b, rvJ pc off with
            | some true, some t => some (t, _, st, aw, _, _)
            | some false, some _ => some (pc + 3, _, st, aw, _, _)
            | _, _ => none) = _
          rw [hc, hJ]
theorem lw_tsw (hS : lwS RG sc) {pc : Nat} {al st : List rvV} {aw : rvH} {kc ks len a1 a2 a3 wi : Nat} {d lo hi : Int} {offs : Array Int} {o' : rvS} (hr : lwRow (pc, .tableswitch d lo hi offs, len, a1, a2, a3, wi) = true) (h : rvStep rvTy rvNf rvTxt [] 20 400 12 (.tableswitch d lo hi offs) a1 a2 a3 pc al st aw kc ks = some o') (hG : lwG RG i vs k0 s0 o') : lwG RG i vs k0 s0 (pc, al, st, aw, kc, ks) := by
  have hr : ((!lwF pc && (lwT (rvJ pc d) && offs.toList.all (fun f => lwT (rvJ pc f)))) && decide (decode cL_law pc = .ok (.tableswitch d lo hi offs, len))) = true := hr
  obtain ⟨r1, r2⟩ := rv_and hr
  obtain ⟨r3, r4⟩ := rv_and r1
  obtain ⟨r4, r5⟩ := rv_and r4
  have r2 := of_decide_eq_true r2
  intro b1 b2 b3 b5 b6 hal
  dsimp only
  rw [lw_not r3, cond_false]
  match st, h with
  | [], h => cases h
  | .inr _ :: _, h => cases h
  | .inl a :: st, h =>
    have h : (bif decide (a.2 < lo) || decide (hi < a.1) then (match rvJ pc d with
        | some t => some (t, al, st, aw, kc, ks)
        | none => none)
      else bif rvOne a && (decide (lo ≤ a.1) && decide (a.1 ≤ hi)) then (match offs[(a.1 - lo).toNat]? with
        | some off => (match rvJ pc off with
          | some t => some (t, al, st, aw, kc, ks)
          | none => none)
        | none => none) else none) = some o' := h
    have fin : ∀ t : Nat, lwF t = false → o' = (t, al, st, aw, kc, ks) → rvStep rvTy rvNf rvTxt sc 600000 7000000 7 (.tableswitch d lo hi offs) 0 0 0 pc [.inr (5, 0), b1, b2, b3, .inl (i, i), b5, b6] (.inl a :: st) aw (k0 + kc) (s0 + ks) = some (t, [.inr (5, 0), b1, b2, b3, .inl (i, i), b5, b6], st, aw, k0 + kc, s0 + ks) → RG (pc, [.inr (5, 0), b1, b2, b3, .inl (i, i), b5, b6], .inl a :: st, aw, k0 + kc, s0 + ks) := by
      intro t ht e hst
      subst e
      have := hG b1 b2 b3 b5 b6 hal
      dsimp only at this
      rw [ht, cond_false] at this
      exact hS pc _ (.inl a :: st) aw _ _ (.tableswitch d lo hi offs) len 0 0 0 0 _ r2 rfl hst this
    have hg : rvStep rvTy rvNf rvTxt sc 600000 7000000 7 (.tableswitch d lo hi offs) 0 0 0 pc [.inr (5, 0), b1, b2, b3, .inl (i, i), b5, b6] (.inl a :: st) aw (k0 + kc) (s0 + ks) = (bif decide (a.2 < lo) || decide (hi < a.1) then (match rvJ pc d with
        | some t => some (t, [.inr (5, 0), b1, b2, b3, .inl (i, i), b5, b6], st, aw, k0 + kc, s0 + ks)
        | none => none)
      else bif rvOne a && (decide (lo ≤ a.1) && decide (a.1 ≤ hi)) then (match offs[(a.1 - lo).toNat]? with
        | some off => (match rvJ pc off with
          | some t => some (t, [.inr (5, 0), b1, b2, b3, .inl (i, i), b5, b6], st, aw, k0 + kc, s0 + ks)
          | none => none)
        | none => none) else none) := rfl
    cases h1 : (decide (a.2 < lo) || decide (hi < a.1)) with
    | true =>
      rw [h1, cond_true] at h hg
      cases hJ : rvJ pc d with
      | none => rw [hJ] at h; cases h
      | some t =>
        rw [hJ] at h hg
        exact fin t (lwT_ok r4 hJ) (Option.some.inj h).symm hg
    | false =>
      rw [h1, cond_false] at h hg
      cases h2 : (rvOne a && (decide (lo ≤ a.1) && decide (a.1 ≤ hi))) with
      | false => rw [h2] at h; cases h
      | true =>
        rw [h2, cond_true] at h hg
        cases h3 : offs[(a.1 - lo).toNat]? with
        | none => rw [h3] at h; cases h
        | some off =>
          rw [h3] at h hg
          dsimp only at h hg
          cases hJ : rvJ pc off with
          | none => rw [hJ] at h; cases h
          | some t =>
            rw [hJ] at h hg
            have hm : off ∈ offs.toList := by
              rw [← Array.getElem?_toList] at h3
              exact List.mem_of_getElem? h3
            exact fin t (lwT_ok (List.all_eq_true.mp r5 off hm) hJ) (Option.some.inj h).symm hg
/-- script[i + k] -/
theorem lw_iload (hS : lwS RG sc) {pc : Nat} {al st : List rvV} {aw : rvH} {kc ks len a1 a2 a3 wi n : Nat} {o' : rvS} (hi : 0 ≤ i) (hi2 : i ≤ 3066) (hsc : ∀ k : Nat, 1 ≤ k → k ≤ 5 → ∃ v, vs[k - 1]? = some (.inl v) ∧ sc[i.toNat + k]? = some v) (hr : lwRow (pc, .iload n, len, a1, a2, a3, wi) = true) (h : rvStep rvTy rvNf rvTxt [] 20 400 12 (.iload n) a1 a2 a3 pc al st aw kc ks = some o') (hG : lwG RG i vs k0 s0 o') : lwG RG i vs k0 s0 (pc, al, st, aw, kc, ks) := by
  have hr : ((!lwF pc && (lwF (pc + 2) && !lwF (pc + 6))) && ((Nat.ble 7 n && Nat.ble n 11) && (decide (decode cL_law pc = .ok (.aload_n 0, 1)) && (decide (decode cL_law (pc + 1) = .ok (.iload 4, 2)) && (decide (decode cL_law (pc + 3) = .ok (.iconst ((n : Int) - 6), 1)) && (decide (decode cL_law (pc + 4) = .ok (.iadd, 1)) && decide (decode cL_law (pc + 5) = .ok (.iaload, 1)))))))) = true := hr
  obtain ⟨r1, r2⟩ := rv_and hr
  obtain ⟨r3, r4⟩ := rv_and r1
  obtain ⟨r4, -⟩ := rv_and r4
  obtain ⟨q1, q2⟩ := rv_and r2
  obtain ⟨q0, q1⟩ := rv_and q1
  obtain ⟨d0, q2⟩ := rv_and q2
  obtain ⟨d1, q2⟩ := rv_and q2
  obtain ⟨d3, q2⟩ := rv_and q2
  obtain ⟨d4, d5⟩ := rv_and q2
  have q0 := rv_ble q0
  have q1 := rv_ble q1
  obtain ⟨v, hv1, hv2⟩ := hsc (n - 6) (by omega) (by omega)
  intro b1 b2 b3 b5 b6 hal
  have hal : al = .inr (5, 0) :: b1 :: b2 :: b3 :: .inl (i, i) :: b5 :: b6 :: vs := hal
  subst hal
  dsimp only
  rw [lw_not r3, cond_false]
  have hl : (.inr (5, 0) :: b1 :: b2 :: b3 :: .inl (i, i) :: b5 :: b6 :: vs : List rvV)[n]? = some (.inl v) := by
    have e : n = (n - 6 - 1) + 7 := by omega
    rw [e]
    exact hv1
  have h : (match (.inr (5, 0) :: b1 :: b2 :: b3 :: .inl (i, i) :: b5 :: b6 :: vs : List rvV)[n]? with
    | some (.inl a) => some (pc + 2, .inr (5, 0) :: b1 :: b2 :: b3 :: .inl (i, i) :: b5 :: b6 :: vs, .inl a :: st, aw, kc, ks)
    | _ => none) = some o' := h
  rw [hl] at h
  have e := Option.some.inj h
  subst e
  have hg := hG b1 b2 b3 b5 b6 rfl
  dsimp only at hg
  rw [r4, cond_true] at hg
  refine hS pc _ st aw _ _ (.aload_n 0) 1 0 0 0 0 (pc + 1, [.inr (5, 0), b1, b2, b3, .inl (i, i), b5, b6], .inr (5, 0) :: st, aw, k0 + kc, s0 + ks) (of_decide_eq_true d0) rfl rfl ?_
  refine hS (pc + 1) _ _ aw _ _ (.iload 4) 2 0 0 0 0 (pc + 3, [.inr (5, 0), b1, b2, b3, .inl (i, i), b5, b6], .inl (i, i) :: .inr (5, 0) :: st, aw, k0 + kc, s0 + ks) (of_decide_eq_true d1) rfl rfl ?_
  refine hS (pc + 3) _ _ aw _ _ (.iconst ((n : Int) - 6)) 1 0 0 0 0 (pc + 4, [.inr (5, 0), b1, b2, b3, .inl (i, i), b5, b6], .inl ((n : Int) - 6, (n : Int) - 6) :: .inl (i, i) :: .inr (5, 0) :: st, aw, k0 + kc, s0 + ks) (of_decide_eq_true d3) rfl ?_ ?_
  · show (bif decide (-2147483648 ≤ (n : Int) - 6) && decide ((n : Int) - 6 ≤ 2147483647) then some _ else none) = _
    rw [decide_eq_true (by omega : -2147483648 ≤ (n : Int) - 6), decide_eq_true (by omega : (n : Int) - 6 ≤ 2147483647)]
    rfl
  have ea : (Int32.ofInt i + Int32.ofInt ((n : Int) - 6)).toInt = i + ((n : Int) - 6) := xi_add ⟨by omega, by omega⟩ ⟨by omega, by omega⟩ ⟨by omega, by omega⟩
  refine hS (pc + 4) _ _ aw _ _ .iadd 1 0 0 0 0 (pc + 5, [.inr (5, 0), b1, b2, b3, .inl (i, i), b5, b6], .inl (i + ((n : Int) - 6), i + ((n : Int) - 6)) :: .inr (5, 0) :: st, aw, k0 + kc, s0 + ks) (of_decide_eq_true d4) rfl ?_ ?_
  · show some (pc + 4 + 1, _, rvBin (· + ·) (i, i) ((n : Int) - 6, (n : Int) - 6) :: .inr (5, 0) :: st, aw, _, _) = _
    rw [rvBin_pt, ea]
  have ej : (i + ((n : Int) - 6)).toNat = i.toNat + (n - 6) := by omega
  refine hS (pc + 5) _ _ aw _ _ .iaload 1 0 0 0 0 _ (of_decide_eq_true d5) rfl ?_ hg
  show (match rvIdx (i + ((n : Int) - 6), i + ((n : Int) - 6)) sc.length with
      | some j => match sc[j]? with
        | some a => bif Nat.beq 0 0 then some (pc + 5 + 1, _, (Sum.inl a : rvV) :: st, aw, _, _) else none
        | none => none
      | none => none) = _
  have hlt : i.toNat + (n - 6) < sc.length := (List.getElem?_eq_some_iff.mp hv2).1
  have hx : rvIdx (i + ((n : Int) - 6), i + ((n : Int) - 6)) sc.length = some (i.toNat + (n - 6)) := by
    show (bif decide (i + ((n : Int) - 6) = i + ((n : Int) - 6)) && (decide (0 ≤ i + ((n : Int) - 6)) && decide (i + ((n : Int) - 6) < (sc.length : Int))) then some (i + ((n : Int) - 6)).toNat else none) = _
    rw [decide_eq_true (rfl : i + ((n : Int) - 6) = i + ((n : Int) - 6)), decide_eq_true (by omega : 0 ≤ i + ((n : Int) - 6)), decide_eq_true (by omega : i + ((n : Int) - 6) < (sc.length : Int)), ej]
    rfl
  rw [hx]
  show (match sc[i.toNat + (n - 6)]? with
        | some a => bif Nat.beq 0 0 then some (pc + 5 + 1, _, (Sum.inl a : rvV) :: st, aw, _, _) else none
        | none => none) = _
  rw [hv2]
  rfl
end LWC
