/-! A turn with feed, run exactly (by hand). -/
theorem tkf_236 : decode cL_law 236 = .ok (.aload_n 1, 1) := by decide +kernel
theorem tkf_267 : decode cL_law 267 = .ok (.invokevirtual 19, 3) := by decide +kernel
theorem tkf_270 : decode cL_law 270 = .ok (.pop, 1) := by decide +kernel
theorem tkf_271 : decode cL_law 271 = .ok (.aload_n 2, 1) := by decide +kernel
theorem tkf_302 : decode cL_law 302 = .ok (.invokevirtual 23, 3) := by decide +kernel
theorem tkf_305 : decode cL_law 305 = .ok (.pop, 1) := by decide +kernel
theorem tkf_306 : decode cL_law 306 = .ok (.goto 1142, 3) := by decide +kernel
/-- the code that lays the five ints on the stack -/
def tkArgD (base : Nat) : Prop := ∀ k : Fin 5, decode cL_law (base + 6 * k.1) = .ok (.aload_n 0, 1) ∧ decode cL_law (base + 6 * k.1 + 1) = .ok (.iload 4, 2) ∧ decode cL_law (base + 6 * k.1 + 3) = .ok (.iconst ((k.1 : Int) + 1), 1) ∧ decode cL_law (base + 6 * k.1 + 4) = .ok (.iadd, 1) ∧ decode cL_law (base + 6 * k.1 + 5) = .ok (.iaload, 1)
theorem tkArg_237 : tkArgD 237 := by unfold tkArgD; decide +kernel
theorem tkArg_272 : tkArgD 272 := by unfold tkArgD; decide +kernel
def tkNo (base : Nat) : Prop := ∀ k : Fin 5, lwTb (base + 6 * k.1) = none ∧ lwTb (base + 6 * k.1 + 1) = none ∧ lwTb (base + 6 * k.1 + 3) = none ∧ lwTb (base + 6 * k.1 + 4) = none ∧ lwTb (base + 6 * k.1 + 5) = none
theorem tkNo_237 : tkNo 237 := by unfold tkNo; decide +kernel
theorem tkNo_272 : tkNo 272 := by unfold tkNo; decide +kernel
theorem tkn_f : lwTb 236 = none ∧ lwTb 270 = none ∧ lwTb 271 = none ∧ lwTb 305 = none ∧ lwTb 306 = none := by decide +kernel
theorem tkb_267 : (lwTb 267).map (fun e => (e.2.2.1, e.2.2.2.1)) = some (229, 5) := by decide +kernel
theorem tkb_302 : (lwTb 302).map (fun e => (e.2.2.1, e.2.2.2.1)) = some (231, 5) := by decide +kernel
/-- the stack with k of the ints -/
def stk (v : Nat → Int) (X : rvV) : Nat → List rvV
  | 0 => [X]
  | k + 1 => .inl (v k, v k) :: stk v X k
def trkArg (v : Nat → Int) (i0 : Int) (X : rvV) (base pc : Nat) (st : List rvV) : Prop := (pc = base + 30 ∧ st = stk v X 5) ∨ ∃ k : Fin 5, (pc = base + 6 * k.1 ∧ st = stk v X k.1) ∨ (pc = base + 6 * k.1 + 1 ∧ st = .inr (5, 0) :: stk v X k.1) ∨ (pc = base + 6 * k.1 + 3 ∧ st = .inl (i0, i0) :: .inr (5, 0) :: stk v X k.1) ∨ (pc = base + 6 * k.1 + 4 ∧ st = .inl ((k.1 : Int) + 1, (k.1 : Int) + 1) :: .inl (i0, i0) :: .inr (5, 0) :: stk v X k.1) ∨ (pc = base + 6 * k.1 + 5 ∧ st = .inl (i0 + ((k.1 : Int) + 1), i0 + ((k.1 : Int) + 1)) :: .inr (5, 0) :: stk v X k.1)
section T3
variable {sc : List (Int × Int)} {v : Nat → Int} {i0 : Int} {x0 x29 : Nat} {b3 b5 b6 : rvV}
theorem trkArg_step {X : rvV} {base : Nat} (hD : tkArgD base) (hi : 0 ≤ i0) (hi2 : i0 ≤ 3066) (hv : ∀ k, k < 5 → sc[i0.toNat + (k + 1)]? = some (v k, v k)) {pc : Nat} {st : List rvV} {aw : rvH} {kc ks : Nat} {i : Instr} {len a1 a2 a3 : Nat} {o : rvS} (hd : decode cL_law pc = .ok (i, rvSz i len)) (hne : pc ≠ base + 30) (hst : rvStep rvTy rvNf rvTxt sc 600000 7000000 7 i a1 a2 a3 pc [.inr (5, 0), .inr (2, x0), .inr (2, x29), b3, .inl (i0, i0), b5, b6] st aw kc ks = some o) (h : trkArg v i0 X base pc st) : o.2.1 = [.inr (5, 0), .inr (2, x0), .inr (2, x29), b3, .inl (i0, i0), b5, b6] ∧ o.2.2.2.1 = aw ∧ trkArg v i0 X base o.1 o.2.2.1 := by
  rcases h with ⟨e, -⟩ | ⟨k, h⟩
  · exact absurd e hne
  obtain ⟨d0, d1, d3, d4, d5⟩ := hD k
  rcases h with ⟨rfl, rfl⟩ | ⟨rfl, rfl⟩ | ⟨rfl, rfl⟩ | ⟨rfl, rfl⟩ | ⟨rfl, rfl⟩
  · have e := tk_ins d0 hd
    subst e
    have hst : some (base + 6 * k.1 + 1, ([.inr (5, 0), .inr (2, x0), .inr (2, x29), b3, .inl (i0, i0), b5, b6] : List rvV), (.inr (5, 0) :: stk v X k.1 : List rvV), aw, kc, ks) = some o := hst
    have e := Option.some.inj hst
    subst e
    exact ⟨rfl, rfl, Or.inr ⟨k, Or.inr (Or.inl ⟨rfl, rfl⟩)⟩⟩
  · have e := tk_ins d1 hd
    subst e
    have hst : some (base + 6 * k.1 + 3, ([.inr (5, 0), .inr (2, x0), .inr (2, x29), b3, .inl (i0, i0), b5, b6] : List rvV), (.inl (i0, i0) :: .inr (5, 0) :: stk v X k.1 : List rvV), aw, kc, ks) = some o := hst
    have e := Option.some.inj hst
    subst e
    exact ⟨rfl, rfl, Or.inr ⟨k, Or.inr (Or.inr (Or.inl ⟨rfl, rfl⟩))⟩⟩
  · have e := tk_ins d3 hd
    subst e
    have hst : (bif rvIn ((k.1 : Int) + 1, (k.1 : Int) + 1) (-2147483648) 2147483647 then some (base + 6 * k.1 + 4, ([.inr (5, 0), .inr (2, x0), .inr (2, x29), b3, .inl (i0, i0), b5, b6] : List rvV), (.inl ((k.1 : Int) + 1, (k.1 : Int) + 1) :: .inl (i0, i0) :: .inr (5, 0) :: stk v X k.1 : List rvV), aw, kc, ks) else none) = some o := hst
    obtain ⟨-, e⟩ := rv_bif hst
    subst e
    exact ⟨rfl, rfl, Or.inr ⟨k, Or.inr (Or.inr (Or.inr (Or.inl ⟨rfl, rfl⟩)))⟩⟩
  · have e := tk_ins d4 hd
    subst e
    have hst : some (base + 6 * k.1 + 5, ([.inr (5, 0), .inr (2, x0), .inr (2, x29), b3, .inl (i0, i0), b5, b6] : List rvV), (rvBin (· + ·) (i0, i0) ((k.1 : Int) + 1, (k.1 : Int) + 1) :: .inr (5, 0) :: stk v X k.1 : List rvV), aw, kc, ks) = some o := hst
    have hk := k.2
    have ea : (Int32.ofInt i0 + Int32.ofInt ((k.1 : Int) + 1)).toInt = i0 + ((k.1 : Int) + 1) := xi_add ⟨by omega, by omega⟩ ⟨by omega, by omega⟩ ⟨by omega, by omega⟩
    rw [rvBin_pt, ea] at hst
    have e := Option.some.inj hst
    subst e
    exact ⟨rfl, rfl, Or.inr ⟨k, Or.inr (Or.inr (Or.inr (Or.inr ⟨rfl, rfl⟩)))⟩⟩
  · have e := tk_ins d5 hd
    subst e
    have hk := k.2
    have hst : (match rvIdx (i0 + ((k.1 : Int) + 1), i0 + ((k.1 : Int) + 1)) sc.length with
      | some j => (match sc[j]? with
        | some a => bif Nat.beq 0 0 then some (base + 6 * k.1 + 6, ([.inr (5, 0), .inr (2, x0), .inr (2, x29), b3, .inl (i0, i0), b5, b6] : List rvV), (.inl a :: stk v X k.1 : List rvV), aw, kc, ks) else none
        | none => none)
      | none => none) = some o := hst
    have hs := hv k.1 hk
    have hlt : i0.toNat + (k.1 + 1) < sc.length := (List.getElem?_eq_some_iff.mp hs).1
    have hx : rvIdx (i0 + ((k.1 : Int) + 1), i0 + ((k.1 : Int) + 1)) sc.length = some (i0.toNat + (k.1 + 1)) := by
      show (bif decide ((i0 + ((k.1 : Int) + 1)) = (i0 + ((k.1 : Int) + 1))) && (decide (0 ≤ i0 + ((k.1 : Int) + 1)) && decide (i0 + ((k.1 : Int) + 1) < (sc.length : Int))) then some (i0 + ((k.1 : Int) + 1)).toNat else none) = _
      rw [decide_eq_true rfl, decide_eq_true (by omega : 0 ≤ i0 + ((k.1 : Int) + 1)), decide_eq_true (by omega : i0 + ((k.1 : Int) + 1) < (sc.length : Int))]
      show some (i0 + ((k.1 : Int) + 1)).toNat = _
      rw [show (i0 + ((k.1 : Int) + 1)).toNat = i0.toNat + (k.1 + 1) from by omega]
    rw [hx] at hst
    dsimp only at hst
    rw [hs] at hst
    have hst : some (base + 6 * k.1 + 6, ([.inr (5, 0), .inr (2, x0), .inr (2, x29), b3, .inl (i0, i0), b5, b6] : List rvV), (.inl (v k.1, v k.1) :: stk v X k.1 : List rvV), aw, kc, ks) = some o := hst
    have e := Option.some.inj hst
    subst e
    refine ⟨rfl, rfl, ?_⟩
    by_cases h4 : k.1 = 4
    · exact Or.inl ⟨by show base + 6 * k.1 + 6 = base + 30; omega, by show stk v X (k.1 + 1) = stk v X 5; rw [h4]⟩
    · exact Or.inr ⟨⟨k.1 + 1, by omega⟩, Or.inl ⟨by show base + 6 * k.1 + 6 = base + 6 * (k.1 + 1); omega, rfl⟩⟩
theorem trkArg_no {X : rvV} {base : Nat} (hN : tkNo base) {pc : Nat} {st : List rvV} {aw : rvH} {kc ks j2 : Nat} {as rest : List rvV} (hinv : xInv (fun _ => lwTb) lwInf 316 pc st aw kc ks j2 as rest) (h : trkArg v i0 X base pc st) : pc = base + 30 ∧ st = stk v X 5 := by
  rcases h with h | ⟨k, h⟩
  · exact h
  · obtain ⟨n0, n1, n3, n4, n5⟩ := hN k
    rcases h with ⟨rfl, rfl⟩ | ⟨rfl, rfl⟩ | ⟨rfl, rfl⟩ | ⟨rfl, rfl⟩ | ⟨rfl, rfl⟩
    · exact absurd (tk_no hinv n0) id
    · exact absurd (tk_no hinv n1) id
    · exact absurd (tk_no hinv n3) id
    · exact absurd (tk_no hinv n4) id
    · exact absurd (tk_no hinv n5) id
/-- a call with five ints -/
theorem tk_call5 {pc j : Nat} {X : rvV} {aw : rvH} {kc ks j2 : Nat} {as rest : List rvV} (h : xInv (fun _ => lwTb) lwInf 316 pc (stk v X 5) aw kc ks j2 as rest) (hm : (lwTb pc).map (fun e => (e.2.2.1, e.2.2.2.1)) = some (j, 5)) : j2 = j ∧ as = [X, .inl (v 0, v 0), .inl (v 1, v 1), .inl (v 2, v 2), .inl (v 3, v 3), .inl (v 4, v 4)] ∧ rest = [] := by
  obtain ⟨i, len, a2, a3, wi, as0, rest0, t1, t2, t3, t4, t5, t6, t7, t8⟩ := h
  have t1 : lwTb pc = some (i, len, j2, a2, a3, wi) := t1
  rw [t1] at hm
  have hm := Option.some.inj hm
  have e1 : j2 = j := (Prod.mk.inj hm).1
  have e2 : a2 = 5 := (Prod.mk.inj hm).2
  subst e2
  have t2 : some (([.inl (v 0, v 0), .inl (v 1, v 1), .inl (v 2, v 2), .inl (v 3, v 3), .inl (v 4, v 4)] : List rvV), [X]) = some (as0, rest0) := t2
  have t2 := Option.some.inj t2
  have q1 : [.inl (v 0, v 0), .inl (v 1, v 1), .inl (v 2, v 2), .inl (v 3, v 3), .inl (v 4, v 4)] = as0 := (Prod.mk.inj t2).1
  have q2 : [X] = rest0 := (Prod.mk.inj t2).2
  rcases t8 with ⟨⟨idx, hi⟩, -⟩ | ⟨-, v', w1, w2, -⟩
  · subst hi
    unfold lwTb at t1
    split at t1
    · rename_i idx' r hf
      have e := Option.some.inj t1
      have := (Prod.mk.inj e).1
      cases this
    · cases t1
  · rw [← q2] at w1
    have w3 := List.cons.inj w1
    refine ⟨e1, ?_, w3.2.symm⟩
    rw [w2, ← q1, ← w3.1]
def trkF (al0 : List rvV) (v : Nat → Int) (i0 : Int) (aw0 : rvH) (x0 x29 : Nat) (A1 A2 : rvH → Prop) (o : rvS) : Prop := o.2.1 = al0 ∧ ((o.1 = 40 ∧ o.2.2.1 = [.inl (0, 0)] ∧ o.2.2.2.1 = aw0) ∨ (o.1 = 236 ∧ o.2.2.1 = [] ∧ o.2.2.2.1 = aw0) ∨ (trkArg v i0 (.inr (2, x0)) 237 o.1 o.2.2.1 ∧ o.2.2.2.1 = aw0) ∨ (o.1 = 270 ∧ (∃ a : Option rvV, o.2.2.1 = a.toList) ∧ A1 o.2.2.2.1) ∨ (o.1 = 271 ∧ o.2.2.1 = [] ∧ A1 o.2.2.2.1) ∨ (trkArg v i0 (.inr (2, x29)) 272 o.1 o.2.2.1 ∧ A1 o.2.2.2.1) ∨ (o.1 = 305 ∧ A2 o.2.2.2.1) ∨ (o.1 = 306 ∧ A2 o.2.2.2.1) ∨ (o.1 = 1448 ∧ A2 o.2.2.2.1))
theorem trkF_step {aw0 : rvH} {A1 A2 : rvH → Prop} (hi : 0 ≤ i0) (hi2 : i0 ≤ 3066) (hv : ∀ k, k < 5 → sc[i0.toNat + (k + 1)]? = some (v k, v k)) (pc : Nat) (al st : List rvV) (aw : rvH) (kc ks : Nat) (i : Instr) (len a1 a2 a3 : Nat) (o : rvS) (hd : decode cL_law pc = .ok (i, rvSz i len)) (hok : lwOk i = true) (hst : rvStep rvTy rvNf rvTxt sc 600000 7000000 7 i a1 a2 a3 pc al st aw kc ks = some o) (h : trkF [.inr (5, 0), .inr (2, x0), .inr (2, x29), b3, .inl (i0, i0), b5, b6] v i0 aw0 x0 x29 A1 A2 (pc, al, st, aw, kc, ks)) : trkF [.inr (5, 0), .inr (2, x0), .inr (2, x29), b3, .inl (i0, i0), b5, b6] v i0 aw0 x0 x29 A1 A2 o := by
  obtain ⟨hal, h⟩ := h
  dsimp only at hal h
  subst hal
  rcases h with ⟨rfl, rfl, rfl⟩ | ⟨rfl, rfl, rfl⟩ | ⟨h, rfl⟩ | ⟨rfl, ⟨a, rfl⟩, hA⟩ | ⟨rfl, rfl, hA⟩ | ⟨h, hA⟩ | ⟨rfl, hA⟩ | ⟨rfl, hA⟩ | ⟨rfl, hA⟩
  · have e := tk_ins tkd_40 hd
    subst e
    have hst : some (236, ([.inr (5, 0), .inr (2, x0), .inr (2, x29), b3, .inl (i0, i0), b5, b6] : List rvV), ([] : List rvV), aw, kc, ks) = some o := hst
    have e := Option.some.inj hst
    subst e
    exact ⟨rfl, Or.inr (Or.inl ⟨rfl, rfl, rfl⟩)⟩
  · have e := tk_ins tkf_236 hd
    subst e
    have hst : some (237, ([.inr (5, 0), .inr (2, x0), .inr (2, x29), b3, .inl (i0, i0), b5, b6] : List rvV), ([.inr (2, x0)] : List rvV), aw, kc, ks) = some o := hst
    have e := Option.some.inj hst
    subst e
    exact ⟨rfl, Or.inr (Or.inr (Or.inl ⟨Or.inr ⟨0, Or.inl ⟨rfl, rfl⟩⟩, rfl⟩))⟩
  · by_cases hne : pc = 237 + 30
    · subst hne
      have e := tk_ins tkf_267 hd
      subst e
      have hst : (none : Option rvS) = some o := hst
      cases hst
    · obtain ⟨q1, q2, q3⟩ := trkArg_step tkArg_237 hi hi2 hv hd hne hst h
      exact ⟨q1, Or.inr (Or.inr (Or.inl ⟨q3, q2⟩))⟩
  · have e := tk_ins tkf_270 hd
    subst e
    cases a with
    | none =>
      have hst : (none : Option rvS) = some o := hst
      cases hst
    | some w =>
      have hst : (bif rvIsL w then none else some (271, ([.inr (5, 0), .inr (2, x0), .inr (2, x29), b3, .inl (i0, i0), b5, b6] : List rvV), ([] : List rvV), aw, kc, ks)) = some o := hst
      cases hw : rvIsL w with
      | true => rw [hw] at hst; cases hst
      | false =>
        rw [hw] at hst
        have e := Option.some.inj hst
        subst e
        exact ⟨rfl, Or.inr (Or.inr (Or.inr (Or.inr (Or.inl ⟨rfl, rfl, hA⟩))))⟩
  · have e := tk_ins tkf_271 hd
    subst e
    have hst : some (272, ([.inr (5, 0), .inr (2, x0), .inr (2, x29), b3, .inl (i0, i0), b5, b6] : List rvV), ([.inr (2, x29)] : List rvV), aw, kc, ks) = some o := hst
    have e := Option.some.inj hst
    subst e
    exact ⟨rfl, Or.inr (Or.inr (Or.inr (Or.inr (Or.inr (Or.inl ⟨Or.inr ⟨0, Or.inl ⟨rfl, rfl⟩⟩, hA⟩)))))⟩
  · by_cases hne : pc = 272 + 30
    · subst hne
      have e := tk_ins tkf_302 hd
      subst e
      have hst : (none : Option rvS) = some o := hst
      cases hst
    · obtain ⟨q1, q2, q3⟩ := trkArg_step tkArg_272 hi hi2 hv hd hne hst h
      exact ⟨q1, Or.inr (Or.inr (Or.inr (Or.inr (Or.inr (Or.inl ⟨q3, by rw [q2]; exact hA⟩)))))⟩
  · have e := tk_ins tkf_305 hd
    subst e
    match st, hst with
    | [], hst =>
      have hst : (none : Option rvS) = some o := hst
      cases hst
    | w :: st, hst =>
      have hst : (bif rvIsL w then none else some (306, ([.inr (5, 0), .inr (2, x0), .inr (2, x29), b3, .inl (i0, i0), b5, b6] : List rvV), st, aw, kc, ks)) = some o := hst
      cases hw : rvIsL w with
      | true => rw [hw] at hst; cases hst
      | false =>
        rw [hw] at hst
        have e := Option.some.inj hst
        subst e
        exact ⟨rfl, Or.inr (Or.inr (Or.inr (Or.inr (Or.inr (Or.inr (Or.inr (Or.inl ⟨rfl, hA⟩)))))))⟩
  · have e := tk_ins tkf_306 hd
    subst e
    have hst : some (1448, ([.inr (5, 0), .inr (2, x0), .inr (2, x29), b3, .inl (i0, i0), b5, b6] : List rvV), st, aw, kc, ks) = some o := hst
    have e := Option.some.inj hst
    subst e
    exact ⟨rfl, Or.inr (Or.inr (Or.inr (Or.inr (Or.inr (Or.inr (Or.inr (Or.inr ⟨rfl, hA⟩)))))))⟩
  · have e := tk_ins tkd_1448 hd
    subst e
    cases hok
theorem trkF_call {aw0 : rvH} {A1 A2 : rvH → Prop} {al0 : List rvV} (p1 : PCM rvTab rvInf rvRet 316 rvMth 229 [.inr (2, x0), .inl (v 0, v 0), .inl (v 1, v 1), .inl (v 2, v 2), .inl (v 3, v 3), .inl (v 4, v 4)] aw0 (fun res => A1 res.2)) (p2 : ∀ aw1, A1 aw1 → exL [.inr (2, x29), .inl (v 0, v 0), .inl (v 1, v 1), .inl (v 2, v 2), .inl (v 3, v 3), .inl (v 4, v 4)] → PCM rvTab rvInf rvRet 316 rvMth 231 [.inr (2, x29), .inl (v 0, v 0), .inl (v 1, v 1), .inl (v 2, v 2), .inl (v 3, v 3), .inl (v 4, v 4)] aw1 (fun res => A2 res.2)) (pc : Nat) (al st : List rvV) (aw : rvH) (kc ks j2 : Nat) (as rest : List rvV) (hinv : xInv (fun _ => lwTb) lwInf 316 pc st aw kc ks j2 as rest) (hx : exL as) (h : trkF al0 v i0 aw0 x0 x29 A1 A2 (pc, al, st, aw, kc, ks)) : ∃ P : xRes2 → Prop, PCM rvTab rvInf rvRet 316 rvMth j2 as aw P ∧ ∀ res, P res → ∀ kc' ks', trkF al0 v i0 aw0 x0 x29 A1 A2 (pc + 3, al, res.1.toList ++ rest, res.2, kc', ks') := by
  obtain ⟨n40, n334, n338, n342, n345, n346, n1448⟩ := tkb_no
  obtain ⟨n236, n270, n271, n305, n306⟩ := tkn_f
  obtain ⟨hal, h⟩ := h
  dsimp only at hal h
  subst hal
  rcases h with ⟨rfl, rfl, rfl⟩ | ⟨rfl, rfl, rfl⟩ | ⟨h, rfl⟩ | ⟨rfl, ⟨a, rfl⟩, hA⟩ | ⟨rfl, rfl, hA⟩ | ⟨h, hA⟩ | ⟨rfl, hA⟩ | ⟨rfl, hA⟩ | ⟨rfl, hA⟩
  · exact absurd (tk_no hinv n40) id
  · exact absurd (tk_no hinv n236) id
  · obtain ⟨rfl, rfl⟩ := trkArg_no tkNo_237 hinv h
    obtain ⟨rfl, rfl, rfl⟩ := tk_call5 hinv tkb_267
    exact ⟨_, p1, fun res hres kc' ks' => ⟨rfl, Or.inr (Or.inr (Or.inr (Or.inl ⟨rfl, ⟨res.1, List.append_nil _⟩, hres⟩)))⟩⟩
  · exact absurd (tk_no hinv n270) id
  · exact absurd (tk_no hinv n271) id
  · obtain ⟨rfl, rfl⟩ := trkArg_no tkNo_272 hinv h
    obtain ⟨rfl, rfl, rfl⟩ := tk_call5 hinv tkb_302
    exact ⟨_, p2 aw hA hx, fun res hres kc' ks' => ⟨rfl, Or.inr (Or.inr (Or.inr (Or.inr (Or.inr (Or.inr (Or.inl ⟨rfl, hres⟩))))))⟩⟩
  · exact absurd (tk_no hinv n305) id
  · exact absurd (tk_no hinv n306) id
  · exact absurd (tk_no hinv n1448) id
end T3
