/-! Turns run exactly: the blocks of the law's cases (by hand). -/
def swI : Instr := .tableswitch 1408 0 44 #[196, 269, 294, 307, 320, 360, 397, 422, 459, 496, 533, 558, 583, 620, 657, 694, 719, 744, 769, 782, 807, 820, 833, 858, 871, 896, 909, 934, 971, 1020, 1033, 1046, 1059, 1096, 1109, 1134, 1159, 1196, 1245, 1270, 1295, 1308, 1333, 1358, 1383]
theorem tkd_40 : decode cL_law 40 = .ok (swI, 196) := by decide +kernel
theorem tkd_1448 : decode cL_law 1448 = .ok (.iinc 4 6, 3) := by decide +kernel
theorem tkb_no : lwTb 40 = none ∧ lwTb 1448 = none := by decide +kernel
theorem tk_no {pc : Nat} {st : List rvV} {aw : rvH} {kc ks j2 : Nat} {as rest : List rvV} (h : xInv (fun _ => lwTb) lwInf 316 pc st aw kc ks j2 as rest) (hn : lwTb pc = none) : False := by
  obtain ⟨i, len, a2, a3, wi, as0, rest0, t1, -⟩ := h
  have t1 : lwTb pc = some (i, len, j2, a2, a3, wi) := t1
  rw [hn] at t1
  cases t1
theorem tk_ins {pc len n : Nat} {i i' : Instr} (h : decode cL_law pc = .ok (i', n)) (hd : decode cL_law pc = .ok (i, rvSz i len)) : i' = i :=
  (Prod.mk.inj (Except.ok.inj (h.symm.trans hd))).1
theorem PCM_T {j : Nat} {as : List rvV} {aw : rvH} : PCM rvTab rvInf rvRet 316 rvMth j as aw (fun _ => True) := fun _ h => EvM_mono (fun _ q => ⟨q, trivial⟩) h
/-- the code that lays n ints on the stack -/
def tkArgD (n base : Nat) : Prop := ∀ k : Fin n, decode cL_law (base + 6 * k.1) = .ok (.aload_n 0, 1) ∧ decode cL_law (base + 6 * k.1 + 1) = .ok (.iload 4, 2) ∧ decode cL_law (base + 6 * k.1 + 3) = .ok (.iconst ((k.1 : Int) + 1), 1) ∧ decode cL_law (base + 6 * k.1 + 4) = .ok (.iadd, 1) ∧ decode cL_law (base + 6 * k.1 + 5) = .ok (.iaload, 1)
def tkNo (n base : Nat) : Prop := ∀ k : Fin n, lwTb (base + 6 * k.1) = none ∧ lwTb (base + 6 * k.1 + 1) = none ∧ lwTb (base + 6 * k.1 + 3) = none ∧ lwTb (base + 6 * k.1 + 4) = none ∧ lwTb (base + 6 * k.1 + 5) = none
/-- the stack with k of the ints -/
def stk (v : Nat → Int) (B : List rvV) : Nat → List rvV
  | 0 => B
  | k + 1 => .inl (v k, v k) :: stk v B k
def argl (v : Nat → Int) (n : Nat) : List rvV := (List.range n).map (fun k => .inl (v k, v k))
theorem stk_arr {v : Nat → Int} {B : List rvV} : ∀ n, stk v B n = (argl v n).reverse ++ B := by
  intro n
  induction n with
  | zero => rfl
  | succ n ih =>
    show .inl (v n, v n) :: stk v B n = _
    rw [ih]
    unfold argl
    rw [List.range_succ, List.map_append, List.reverse_append]
    rfl
def trkArg (n : Nat) (v : Nat → Int) (i0 : Int) (B : List rvV) (base pc : Nat) (st : List rvV) : Prop := (pc = base + 6 * n ∧ st = stk v B n) ∨ ∃ k : Fin n, (pc = base + 6 * k.1 ∧ st = stk v B k.1) ∨ (pc = base + 6 * k.1 + 1 ∧ st = .inr (5, 0) :: stk v B k.1) ∨ (pc = base + 6 * k.1 + 3 ∧ st = .inl (i0, i0) :: .inr (5, 0) :: stk v B k.1) ∨ (pc = base + 6 * k.1 + 4 ∧ st = .inl ((k.1 : Int) + 1, (k.1 : Int) + 1) :: .inl (i0, i0) :: .inr (5, 0) :: stk v B k.1) ∨ (pc = base + 6 * k.1 + 5 ∧ st = .inl (i0 + ((k.1 : Int) + 1), i0 + ((k.1 : Int) + 1)) :: .inr (5, 0) :: stk v B k.1)
/-- where it begins -/
theorem trkArg_0 {n : Nat} {v : Nat → Int} {i0 : Int} {B : List rvV} {base pc : Nat} (h : pc = base) : trkArg n v i0 B base pc B := by
  subst h
  cases n with
  | zero => exact Or.inl ⟨rfl, rfl⟩
  | succ n => exact Or.inr ⟨⟨0, by omega⟩, Or.inl ⟨rfl, rfl⟩⟩
/-- its places -/
theorem trkArg_pc {n : Nat} {v : Nat → Int} {i0 : Int} {B : List rvV} {base pc : Nat} {st : List rvV} (h : trkArg n v i0 B base pc st) : base ≤ pc ∧ pc ≤ base + 6 * n := by
  rcases h with ⟨e, -⟩ | ⟨k, h⟩
  · omega
  · have := k.2
    rcases h with ⟨e, -⟩ | ⟨e, -⟩ | ⟨e, -⟩ | ⟨e, -⟩ | ⟨e, -⟩ <;> omega
/-- numbers of arguments that come -/
def okN (n : Nat) : Prop := n = 0 ∨ n = 1 ∨ n = 2 ∨ n = 3 ∨ n = 5
theorem okN_le {n : Nat} (h : okN n) : n ≤ 5 := by
  rcases h with h | h | h | h | h <;> omega
theorem pop_stk {n : Nat} (hn : okN n) (v : Nat → Int) (B : List rvV) : rvPop n (stk v B n) [] = some (argl v n, B) := by
  rcases hn with rfl | rfl | rfl | rfl | rfl <;> rfl
/-- a call with n ints -/
theorem tk_calln {n pc j : Nat} {v : Nat → Int} {X : rvV} {D : List rvV} {aw : rvH} {kc ks j2 : Nat} {as rest : List rvV} (hn : okN n) (h : xInv (fun _ => lwTb) lwInf 316 pc (stk v (X :: D) n) aw kc ks j2 as rest) (hm : (lwTb pc).map (fun e => (e.2.2.1, e.2.2.2.1)) = some (j, n)) : j2 = j ∧ as = X :: argl v n ∧ rest = D := by
  obtain ⟨i, len, a2, a3, wi, as0, rest0, t1, t2, t3, t4, t5, t6, t7, t8⟩ := h
  have t1 : lwTb pc = some (i, len, j2, a2, a3, wi) := t1
  rw [t1] at hm
  have hm := Option.some.inj hm
  have e1 : j2 = j := (Prod.mk.inj hm).1
  have e2 : a2 = n := (Prod.mk.inj hm).2
  subst e2
  rw [pop_stk hn] at t2
  have t2 := Option.some.inj t2
  have q1 : argl v a2 = as0 := (Prod.mk.inj t2).1
  have q2 : X :: D = rest0 := (Prod.mk.inj t2).2
  rcases t8 with ⟨⟨idx, hi⟩, -⟩ | ⟨-, v', w1, w2, -⟩
  · subst hi
    unfold lwTb at t1
    split at t1
    · rename_i idx' r hf
      have e := Option.some.inj t1
      have := (Prod.mk.inj e).1
      cases this
    · cases t1
  · rw [← q2] at w1
    have w3 := List.cons.inj w1
    refine ⟨e1, ?_, w3.2.symm⟩
    rw [w2, ← q1, ← w3.1]
section T3
variable {sc : List (Int × Int)} {v : Nat → Int} {i0 : Int} {x0 x29 : Nat} {b3 b5 b6 : rvV}
theorem trkArg_step {n : Nat} {B : List rvV} {base : Nat} (hn : n ≤ 5) (hD : tkArgD n base) (hi : 0 ≤ i0) (hi2 : i0 ≤ 3066) (hv : ∀ k, k < n → sc[i0.toNat + (k + 1)]? = some (v k, v k)) {pc : Nat} {st : List rvV} {aw : rvH} {kc ks : Nat} {i : Instr} {len a1 a2 a3 : Nat} {o : rvS} (hd : decode cL_law pc = .ok (i, rvSz i len)) (hne : pc ≠ base + 6 * n) (hst : rvStep rvTy rvNf rvTxt sc 600000 7000000 7 i a1 a2 a3 pc [.inr (5, 0), .inr (2, x0), .inr (2, x29), b3, .inl (i0, i0), b5, b6] st aw kc ks = some o) (h : trkArg n v i0 B base pc st) : o.2.1 = [.inr (5, 0), .inr (2, x0), .inr (2, x29), b3, .inl (i0, i0), b5, b6] ∧ o.2.2.2.1 = aw ∧ trkArg n v i0 B base o.1 o.2.2.1 := by
  rcases h with ⟨e, -⟩ | ⟨k, h⟩
  · exact absurd e hne
  obtain ⟨d0, d1, d3, d4, d5⟩ := hD k
  rcases h with ⟨rfl, rfl⟩ | ⟨rfl, rfl⟩ | ⟨rfl, rfl⟩ | ⟨rfl, rfl⟩ | ⟨rfl, rfl⟩
  · have e := tk_ins d0 hd
    subst e
    have hst : some (base + 6 * k.1 + 1, ([.inr (5, 0), .inr (2, x0), .inr (2, x29), b3, .inl (i0, i0), b5, b6] : List rvV), (.inr (5, 0) :: stk v B k.1 : List rvV), aw, kc, ks) = some o := hst
    have e := Option.some.inj hst
    subst e
    exact ⟨rfl, rfl, Or.inr ⟨k, Or.inr (Or.inl ⟨rfl, rfl⟩)⟩⟩
  · have e := tk_ins d1 hd
    subst e
    have hst : some (base + 6 * k.1 + 3, ([.inr (5, 0), .inr (2, x0), .inr (2, x29), b3, .inl (i0, i0), b5, b6] : List rvV), (.inl (i0, i0) :: .inr (5, 0) :: stk v B k.1 : List rvV), aw, kc, ks) = some o := hst
    have e := Option.some.inj hst
    subst e
    exact ⟨rfl, rfl, Or.inr ⟨k, Or.inr (Or.inr (Or.inl ⟨rfl, rfl⟩))⟩⟩
  · have e := tk_ins d3 hd
    subst e
    have hst : (bif rvIn ((k.1 : Int) + 1, (k.1 : Int) + 1) (-2147483648) 2147483647 then some (base + 6 * k.1 + 4, ([.inr (5, 0), .inr (2, x0), .inr (2, x29), b3, .inl (i0, i0), b5, b6] : List rvV), (.inl ((k.1 : Int) + 1, (k.1 : Int) + 1) :: .inl (i0, i0) :: .inr (5, 0) :: stk v B k.1 : List rvV), aw, kc, ks) else none) = some o := hst
    obtain ⟨-, e⟩ := rv_bif hst
    subst e
    exact ⟨rfl, rfl, Or.inr ⟨k, Or.inr (Or.inr (Or.inr (Or.inl ⟨rfl, rfl⟩)))⟩⟩
  · have e := tk_ins d4 hd
    subst e
    have hst : some (base + 6 * k.1 + 5, ([.inr (5, 0), .inr (2, x0), .inr (2, x29), b3, .inl (i0, i0), b5, b6] : List rvV), (rvBin (· + ·) (i0, i0) ((k.1 : Int) + 1, (k.1 : Int) + 1) :: .inr (5, 0) :: stk v B k.1 : List rvV), aw, kc, ks) = some o := hst
    have hk := k.2
    have ea : (Int32.ofInt i0 + Int32.ofInt ((k.1 : Int) + 1)).toInt = i0 + ((k.1 : Int) + 1) := xi_add ⟨by omega, by omega⟩ ⟨by omega, by omega⟩ ⟨by omega, by omega⟩
    rw [rvBin_pt, ea] at hst
    have e := Option.some.inj hst
    subst e
    exact ⟨rfl, rfl, Or.inr ⟨k, Or.inr (Or.inr (Or.inr (Or.inr ⟨rfl, rfl⟩)))⟩⟩
  · have e := tk_ins d5 hd
    subst e
    have hk := k.2
    have hst : (match rvIdx (i0 + ((k.1 : Int) + 1), i0 + ((k.1 : Int) + 1)) sc.length with
      | some j => (match sc[j]? with
        | some a => bif Nat.beq 0 0 then some (base + 6 * k.1 + 6, ([.inr (5, 0), .inr (2, x0), .inr (2, x29), b3, .inl (i0, i0), b5, b6] : List rvV), (.inl a :: stk v B k.1 : List rvV), aw, kc, ks) else none
        | none => none)
      | none => none) = some o := hst
    have hs := hv k.1 hk
    have hlt : i0.toNat + (k.1 + 1) < sc.length := (List.getElem?_eq_some_iff.mp hs).1
    have hx : rvIdx (i0 + ((k.1 : Int) + 1), i0 + ((k.1 : Int) + 1)) sc.length = some (i0.toNat + (k.1 + 1)) := by
      show (bif decide ((i0 + ((k.1 : Int) + 1)) = (i0 + ((k.1 : Int) + 1))) && (decide (0 ≤ i0 + ((k.1 : Int) + 1)) && decide (i0 + ((k.1 : Int) + 1) < (sc.length : Int))) then some (i0 + ((k.1 : Int) + 1)).toNat else none) = _
      rw [decide_eq_true rfl, decide_eq_true (by omega : 0 ≤ i0 + ((k.1 : Int) + 1)), decide_eq_true (by omega : i0 + ((k.1 : Int) + 1) < (sc.length : Int))]
      show some (i0 + ((k.1 : Int) + 1)).toNat = _
      rw [show (i0 + ((k.1 : Int) + 1)).toNat = i0.toNat + (k.1 + 1) from by omega]
    rw [hx] at hst
    dsimp only at hst
    rw [hs] at hst
    have hst : some (base + 6 * k.1 + 6, ([.inr (5, 0), .inr (2, x0), .inr (2, x29), b3, .inl (i0, i0), b5, b6] : List rvV), (.inl (v k.1, v k.1) :: stk v B k.1 : List rvV), aw, kc, ks) = some o := hst
    have e := Option.some.inj hst
    subst e
    refine ⟨rfl, rfl, ?_⟩
    by_cases h4 : k.1 + 1 = n
    · exact Or.inl ⟨by show base + 6 * k.1 + 6 = base + 6 * n; omega, by show stk v B (k.1 + 1) = stk v B n; rw [h4]⟩
    · exact Or.inr ⟨⟨k.1 + 1, by omega⟩, Or.inl ⟨by show base + 6 * k.1 + 6 = base + 6 * (k.1 + 1); omega, rfl⟩⟩
theorem trkArg_no {n : Nat} {B : List rvV} {base : Nat} (hN : tkNo n base) {pc : Nat} {st : List rvV} {aw : rvH} {kc ks j2 : Nat} {as rest : List rvV} (hinv : xInv (fun _ => lwTb) lwInf 316 pc st aw kc ks j2 as rest) (h : trkArg n v i0 B base pc st) : pc = base + 6 * n ∧ st = stk v B n := by
  rcases h with h | ⟨k, h⟩
  · exact h
  · obtain ⟨n0, n1, n3, n4, n5⟩ := hN k
    rcases h with ⟨rfl, rfl⟩ | ⟨rfl, rfl⟩ | ⟨rfl, rfl⟩ | ⟨rfl, rfl⟩ | ⟨rfl, rfl⟩
    · exact absurd (tk_no hinv n0) id
    · exact absurd (tk_no hinv n1) id
    · exact absurd (tk_no hinv n3) id
    · exact absurd (tk_no hinv n4) id
    · exact absurd (tk_no hinv n5) id
/-- a block: X's call, M's call, both answers dropped -/
def tkP (n e iX iM jX jM : Nat) (g : Int) : Prop :=
  (decode cL_law e = .ok (.aload_n 1, 1)) ∧
  (tkArgD n (e + 1)) ∧
  (decode cL_law (e + 1 + 6 * n) = .ok (.invokevirtual iX, 3)) ∧
  (decode cL_law (e + 4 + 6 * n) = .ok (.pop, 1)) ∧
  (decode cL_law (e + 5 + 6 * n) = .ok (.aload_n 2, 1)) ∧
  (tkArgD n (e + 6 + 6 * n)) ∧
  (decode cL_law (e + 6 + 6 * n + 6 * n) = .ok (.invokevirtual iM, 3)) ∧
  (decode cL_law (e + 9 + 12 * n) = .ok (.pop, 1)) ∧
  (decode cL_law (e + 10 + 12 * n) = .ok (.goto g, 3)) ∧
  (rvJ (e + 10 + 12 * n) g = some 1448) ∧
  (lwTb e = none) ∧
  (tkNo n (e + 1)) ∧
  (lwTb (e + 4 + 6 * n) = none) ∧
  (lwTb (e + 5 + 6 * n) = none) ∧
  (tkNo n (e + 6 + 6 * n)) ∧
  (lwTb (e + 9 + 12 * n) = none) ∧
  (lwTb (e + 10 + 12 * n) = none) ∧
  ((lwTb (e + 1 + 6 * n)).map (fun e => (e.2.2.1, e.2.2.2.1)) = some (jX, n)) ∧
  ((lwTb (e + 6 + 6 * n + 6 * n)).map (fun e => (e.2.2.1, e.2.2.2.1)) = some (jM, n))
theorem tkP.d0 {n e iX iM jX jM : Nat} {g : Int} (h : tkP n e iX iM jX jM g) : decode cL_law e = .ok (.aload_n 1, 1) := h.1
theorem tkP.aX {n e iX iM jX jM : Nat} {g : Int} (h : tkP n e iX iM jX jM g) : tkArgD n (e + 1) := h.2.1
theorem tkP.dX {n e iX iM jX jM : Nat} {g : Int} (h : tkP n e iX iM jX jM g) : decode cL_law (e + 1 + 6 * n) = .ok (.invokevirtual iX, 3) := h.2.2.1
theorem tkP.dp {n e iX iM jX jM : Nat} {g : Int} (h : tkP n e iX iM jX jM g) : decode cL_law (e + 4 + 6 * n) = .ok (.pop, 1) := h.2.2.2.1
theorem tkP.d2 {n e iX iM jX jM : Nat} {g : Int} (h : tkP n e iX iM jX jM g) : decode cL_law (e + 5 + 6 * n) = .ok (.aload_n 2, 1) := h.2.2.2.2.1
theorem tkP.aM {n e iX iM jX jM : Nat} {g : Int} (h : tkP n e iX iM jX jM g) : tkArgD n (e + 6 + 6 * n) := h.2.2.2.2.2.1
theorem tkP.dM {n e iX iM jX jM : Nat} {g : Int} (h : tkP n e iX iM jX jM g) : decode cL_law (e + 6 + 6 * n + 6 * n) = .ok (.invokevirtual iM, 3) := h.2.2.2.2.2.2.1
theorem tkP.dq {n e iX iM jX jM : Nat} {g : Int} (h : tkP n e iX iM jX jM g) : decode cL_law (e + 9 + 12 * n) = .ok (.pop, 1) := h.2.2.2.2.2.2.2.1
theorem tkP.dg {n e iX iM jX jM : Nat} {g : Int} (h : tkP n e iX iM jX jM g) : decode cL_law (e + 10 + 12 * n) = .ok (.goto g, 3) := h.2.2.2.2.2.2.2.2.1
theorem tkP.hg {n e iX iM jX jM : Nat} {g : Int} (h : tkP n e iX iM jX jM g) : rvJ (e + 10 + 12 * n) g = some 1448 := h.2.2.2.2.2.2.2.2.2.1
theorem tkP.t0 {n e iX iM jX jM : Nat} {g : Int} (h : tkP n e iX iM jX jM g) : lwTb e = none := h.2.2.2.2.2.2.2.2.2.2.1
theorem tkP.tX {n e iX iM jX jM : Nat} {g : Int} (h : tkP n e iX iM jX jM g) : tkNo n (e + 1) := h.2.2.2.2.2.2.2.2.2.2.2.1
theorem tkP.tp {n e iX iM jX jM : Nat} {g : Int} (h : tkP n e iX iM jX jM g) : lwTb (e + 4 + 6 * n) = none := h.2.2.2.2.2.2.2.2.2.2.2.2.1
theorem tkP.t2 {n e iX iM jX jM : Nat} {g : Int} (h : tkP n e iX iM jX jM g) : lwTb (e + 5 + 6 * n) = none := h.2.2.2.2.2.2.2.2.2.2.2.2.2.1
theorem tkP.tM {n e iX iM jX jM : Nat} {g : Int} (h : tkP n e iX iM jX jM g) : tkNo n (e + 6 + 6 * n) := h.2.2.2.2.2.2.2.2.2.2.2.2.2.2.1
theorem tkP.tq {n e iX iM jX jM : Nat} {g : Int} (h : tkP n e iX iM jX jM g) : lwTb (e + 9 + 12 * n) = none := h.2.2.2.2.2.2.2.2.2.2.2.2.2.2.2.1
theorem tkP.tg {n e iX iM jX jM : Nat} {g : Int} (h : tkP n e iX iM jX jM g) : lwTb (e + 10 + 12 * n) = none := h.2.2.2.2.2.2.2.2.2.2.2.2.2.2.2.2.1
theorem tkP.cX {n e iX iM jX jM : Nat} {g : Int} (h : tkP n e iX iM jX jM g) : (lwTb (e + 1 + 6 * n)).map (fun e => (e.2.2.1, e.2.2.2.1)) = some (jX, n) := h.2.2.2.2.2.2.2.2.2.2.2.2.2.2.2.2.2.1
theorem tkP.cM {n e iX iM jX jM : Nat} {g : Int} (h : tkP n e iX iM jX jM g) : (lwTb (e + 6 + 6 * n + 6 * n)).map (fun e => (e.2.2.1, e.2.2.2.1)) = some (jM, n) := h.2.2.2.2.2.2.2.2.2.2.2.2.2.2.2.2.2.2
/-- the switch comes to e -/
def swTo (w : Int) (e : Nat) : Prop := ∀ (sc : List (Int × Int)) (a1 a2 a3 : Nat) (al : List rvV) (aw : rvH) (kc ks : Nat), rvStep rvTy rvNf rvTxt sc 600000 7000000 7 swI a1 a2 a3 40 al [.inl (w, w)] aw kc ks = some (e, al, [], aw, kc, ks)
def trkP (n e : Nat) (al0 : List rvV) (v : Nat → Int) (i0 w : Int) (aw0 : rvH) (x0 x29 : Nat) (A1 A2 : rvH → Prop) (o : rvS) : Prop := o.2.1 = al0 ∧ ((o.1 = 40 ∧ o.2.2.1 = [.inl (w, w)] ∧ o.2.2.2.1 = aw0) ∨ (o.1 = e ∧ o.2.2.1 = [] ∧ o.2.2.2.1 = aw0) ∨ (trkArg n v i0 [.inr (2, x0)] (e + 1) o.1 o.2.2.1 ∧ o.2.2.2.1 = aw0) ∨ (o.1 = e + 4 + 6 * n ∧ (∃ a : Option rvV, o.2.2.1 = a.toList) ∧ A1 o.2.2.2.1) ∨ (o.1 = e + 5 + 6 * n ∧ o.2.2.1 = [] ∧ A1 o.2.2.2.1) ∨ (trkArg n v i0 [.inr (2, x29)] (e + 6 + 6 * n) o.1 o.2.2.1 ∧ A1 o.2.2.2.1) ∨ (o.1 = e + 9 + 12 * n ∧ A2 o.2.2.2.1) ∨ (o.1 = e + 10 + 12 * n ∧ A2 o.2.2.2.1) ∨ (o.1 = 1448 ∧ A2 o.2.2.2.1))
theorem trkP_step {n e iX iM jX jM : Nat} {g w : Int} (K : tkP n e iX iM jX jM g) (hn : okN n) (hsw : swTo w e) {aw0 : rvH} {A1 A2 : rvH → Prop} (hi : 0 ≤ i0) (hi2 : i0 ≤ 3066) (hv : ∀ k, k < n → sc[i0.toNat + (k + 1)]? = some (v k, v k)) (pc : Nat) (al st : List rvV) (aw : rvH) (kc ks : Nat) (i : Instr) (len a1 a2 a3 : Nat) (o : rvS) (hd : decode cL_law pc = .ok (i, rvSz i len)) (hok : lwOk i = true) (hst : rvStep rvTy rvNf rvTxt sc 600000 7000000 7 i a1 a2 a3 pc al st aw kc ks = some o) (h : trkP n e [.inr (5, 0), .inr (2, x0), .inr (2, x29), b3, .inl (i0, i0), b5, b6] v i0 w aw0 x0 x29 A1 A2 (pc, al, st, aw, kc, ks)) : trkP n e [.inr (5, 0), .inr (2, x0), .inr (2, x29), b3, .inl (i0, i0), b5, b6] v i0 w aw0 x0 x29 A1 A2 o := by
  obtain ⟨hal, h⟩ := h
  dsimp only at hal h
  subst hal
  rcases h with ⟨rfl, rfl, rfl⟩ | ⟨rfl, rfl, rfl⟩ | ⟨h, rfl⟩ | ⟨rfl, ⟨a, rfl⟩, hA⟩ | ⟨rfl, rfl, hA⟩ | ⟨h, hA⟩ | ⟨rfl, hA⟩ | ⟨rfl, hA⟩ | ⟨rfl, hA⟩
  · have q := tk_ins tkd_40 hd
    subst q
    rw [hsw] at hst
    have q := Option.some.inj hst
    subst q
    exact ⟨rfl, Or.inr (Or.inl ⟨rfl, rfl, rfl⟩)⟩
  · have q := tk_ins K.d0 hd
    subst q
    have hst : some (pc + 1, ([.inr (5, 0), .inr (2, x0), .inr (2, x29), b3, .inl (i0, i0), b5, b6] : List rvV), ([.inr (2, x0)] : List rvV), aw, kc, ks) = some o := hst
    have q := Option.some.inj hst
    subst q
    exact ⟨rfl, Or.inr (Or.inr (Or.inl ⟨trkArg_0 rfl, rfl⟩))⟩
  · by_cases hne : pc = e + 1 + 6 * n
    · subst hne
      have q := tk_ins K.dX hd
      subst q
      have hst : (none : Option rvS) = some o := hst
      cases hst
    · obtain ⟨q1, q2, q3⟩ := trkArg_step (okN_le hn) K.aX hi hi2 hv hd hne hst h
      exact ⟨q1, Or.inr (Or.inr (Or.inl ⟨q3, q2⟩))⟩
  · have q := tk_ins K.dp hd
    subst q
    cases a with
    | none =>
      have hst : (none : Option rvS) = some o := hst
      cases hst
    | some z =>
      have hst : (bif rvIsL z then none else some (e + 4 + 6 * n + 1, ([.inr (5, 0), .inr (2, x0), .inr (2, x29), b3, .inl (i0, i0), b5, b6] : List rvV), ([] : List rvV), aw, kc, ks)) = some o := hst
      cases hw : rvIsL z with
      | true => rw [hw] at hst; cases hst
      | false =>
        rw [hw] at hst
        have q := Option.some.inj hst
        subst q
        exact ⟨rfl, Or.inr (Or.inr (Or.inr (Or.inr (Or.inl ⟨by show e + 4 + 6 * n + 1 = e + 5 + 6 * n; omega, rfl, hA⟩))))⟩
  · have q := tk_ins K.d2 hd
    subst q
    have hst : some (e + 5 + 6 * n + 1, ([.inr (5, 0), .inr (2, x0), .inr (2, x29), b3, .inl (i0, i0), b5, b6] : List rvV), ([.inr (2, x29)] : List rvV), aw, kc, ks) = some o := hst
    have q := Option.some.inj hst
    subst q
    exact ⟨rfl, Or.inr (Or.inr (Or.inr (Or.inr (Or.inr (Or.inl ⟨trkArg_0 (by show e + 5 + 6 * n + 1 = e + 6 + 6 * n; omega), hA⟩)))))⟩
  · by_cases hne : pc = e + 6 + 6 * n + 6 * n
    · subst hne
      have q := tk_ins K.dM hd
      subst q
      have hst : (none : Option rvS) = some o := hst
      cases hst
    · obtain ⟨q1, q2, q3⟩ := trkArg_step (okN_le hn) K.aM hi hi2 hv hd hne hst h
      exact ⟨q1, Or.inr (Or.inr (Or.inr (Or.inr (Or.inr (Or.inl ⟨q3, by rw [q2]; exact hA⟩)))))⟩
  · have q := tk_ins K.dq hd
    subst q
    match st, hst with
    | [], hst =>
      have hst : (none : Option rvS) = some o := hst
      cases hst
    | z :: st, hst =>
      have hst : (bif rvIsL z then none else some (e + 9 + 12 * n + 1, ([.inr (5, 0), .inr (2, x0), .inr (2, x29), b3, .inl (i0, i0), b5, b6] : List rvV), st, aw, kc, ks)) = some o := hst
      cases hw : rvIsL z with
      | true => rw [hw] at hst; cases hst
      | false =>
        rw [hw] at hst
        have q := Option.some.inj hst
        subst q
        exact ⟨rfl, Or.inr (Or.inr (Or.inr (Or.inr (Or.inr (Or.inr (Or.inr (Or.inl ⟨by show e + 9 + 12 * n + 1 = e + 10 + 12 * n; omega, hA⟩)))))))⟩
  · have q := tk_ins K.dg hd
    subst q
    have hst : (match rvJ (e + 10 + 12 * n) g with
      | some t => some (t, ([.inr (5, 0), .inr (2, x0), .inr (2, x29), b3, .inl (i0, i0), b5, b6] : List rvV), st, aw, kc, ks)
      | none => none) = some o := hst
    rw [K.hg] at hst
    have q := Option.some.inj hst
    subst q
    exact ⟨rfl, Or.inr (Or.inr (Or.inr (Or.inr (Or.inr (Or.inr (Or.inr (Or.inr ⟨rfl, hA⟩)))))))⟩
  · have q := tk_ins tkd_1448 hd
    subst q
    cases hok
theorem trkP_call {n e iX iM jX jM : Nat} {g w : Int} (K : tkP n e iX iM jX jM g) (hn : okN n) {aw0 : rvH} {A1 A2 : rvH → Prop} {al0 : List rvV} (p1 : exL (.inr (2, x0) :: argl v n) → exH aw0 → PCM rvTab rvInf rvRet 316 rvMth jX (.inr (2, x0) :: argl v n) aw0 (fun res => A1 res.2)) (p2 : ∀ aw1, A1 aw1 → exL (.inr (2, x29) :: argl v n) → exH aw1 → PCM rvTab rvInf rvRet 316 rvMth jM (.inr (2, x29) :: argl v n) aw1 (fun res => A2 res.2)) (pc : Nat) (al st : List rvV) (aw : rvH) (kc ks j2 : Nat) (as rest : List rvV) (hinv : xInv (fun _ => lwTb) lwInf 316 pc st aw kc ks j2 as rest) (hx : exL as) (hxh : exH aw) (h : trkP n e al0 v i0 w aw0 x0 x29 A1 A2 (pc, al, st, aw, kc, ks)) : ∃ P : xRes2 → Prop, PCM rvTab rvInf rvRet 316 rvMth j2 as aw P ∧ ∀ res, P res → ∀ kc' ks', trkP n e al0 v i0 w aw0 x0 x29 A1 A2 (pc + 3, al, res.1.toList ++ rest, res.2, kc', ks') := by
  obtain ⟨hal, h⟩ := h
  dsimp only at hal h
  subst hal
  rcases h with ⟨rfl, rfl, rfl⟩ | ⟨rfl, rfl, rfl⟩ | ⟨h, rfl⟩ | ⟨rfl, ⟨a, rfl⟩, hA⟩ | ⟨rfl, rfl, hA⟩ | ⟨h, hA⟩ | ⟨rfl, hA⟩ | ⟨rfl, hA⟩ | ⟨rfl, hA⟩
  · exact absurd (tk_no hinv tkb_no.1) id
  · exact absurd (tk_no hinv K.t0) id
  · obtain ⟨rfl, rfl⟩ := trkArg_no K.tX hinv h
    obtain ⟨rfl, rfl, rfl⟩ := tk_calln hn hinv K.cX
    exact ⟨_, p1 hx hxh, fun res hres kc' ks' => ⟨rfl, Or.inr (Or.inr (Or.inr (Or.inl ⟨by show e + 1 + 6 * n + 3 = e + 4 + 6 * n; omega, ⟨res.1, List.append_nil _⟩, hres⟩)))⟩⟩
  · exact absurd (tk_no hinv K.tp) id
  · exact absurd (tk_no hinv K.t2) id
  · obtain ⟨rfl, rfl⟩ := trkArg_no K.tM hinv h
    obtain ⟨rfl, rfl, rfl⟩ := tk_calln hn hinv K.cM
    exact ⟨_, p2 aw hA hx hxh, fun res hres kc' ks' => ⟨rfl, Or.inr (Or.inr (Or.inr (Or.inr (Or.inr (Or.inr (Or.inl ⟨by show e + 6 + 6 * n + 6 * n + 3 = e + 9 + 12 * n; omega, hres⟩))))))⟩⟩
  · exact absurd (tk_no hinv K.tq) id
  · exact absurd (tk_no hinv K.tg) id
  · exact absurd (tk_no hinv tkb_no.2) id
/-- where a block's run can't be -/
theorem trkP_not {n e : Nat} {w : Int} {aw0 : rvH} {A1 A2 : rvH → Prop} {al0 : List rvV} {pc : Nat} {al st : List rvV} {aw : rvH} {kc ks : Nat} (h : trkP n e al0 v i0 w aw0 x0 x29 A1 A2 (pc, al, st, aw, kc, ks)) : pc = 40 ∨ pc = 1448 ∨ (e ≤ pc ∧ pc ≤ e + 10 + 12 * n) := by
  obtain ⟨-, h⟩ := h
  dsimp only at h
  rcases h with ⟨q, -⟩ | ⟨q, -⟩ | ⟨q, -⟩ | ⟨q, -⟩ | ⟨q, -⟩ | ⟨q, -⟩ | ⟨q, -⟩ | ⟨q, -⟩ | ⟨q, -⟩
  · omega
  · omega
  · have := trkArg_pc q; omega
  · omega
  · omega
  · have := trkArg_pc q; omega
  · omega
  · omega
  · omega
/-- at its end -/
theorem trkP_end {n e : Nat} {w : Int} {aw0 : rvH} {A1 A2 : rvH → Prop} {al0 : List rvV} {al st : List rvV} {aw : rvH} {kc ks : Nat} (he : e + 10 + 12 * n < 1448) (h : trkP n e al0 v i0 w aw0 x0 x29 A1 A2 (1448, al, st, aw, kc, ks)) : A2 aw := by
  obtain ⟨-, h⟩ := h
  dsimp only at h
  rcases h with ⟨q, -⟩ | ⟨q, -⟩ | ⟨q, -⟩ | ⟨q, -⟩ | ⟨q, -⟩ | ⟨q, -⟩ | ⟨q, -⟩ | ⟨q, -⟩ | ⟨-, q⟩
  · omega
  · omega
  · have := trkArg_pc q; omega
  · omega
  · omega
  · have := trkArg_pc q; omega
  · omega
  · omega
  · exact q
/-- between its calls -/
theorem trkP_mid {n e : Nat} {w : Int} {aw0 : rvH} {A1 A2 : rvH → Prop} {al0 : List rvV} {al : List rvV} {aw : rvH} {kc ks : Nat} (he : 40 < e) (he2 : e + 10 + 12 * n < 1448) (h : trkP n e al0 v i0 w aw0 x0 x29 A1 A2 (e + 5 + 6 * n, al, [], aw, kc, ks)) : A1 aw ∧ al = al0 := by
  obtain ⟨ha, h⟩ := h
  dsimp only at h ha
  rcases h with ⟨q, -⟩ | ⟨q, -⟩ | ⟨q, -⟩ | ⟨q, -⟩ | ⟨-, -, q⟩ | ⟨q, -⟩ | ⟨q, -⟩ | ⟨q, -⟩ | ⟨q, -⟩
  · omega
  · omega
  · have := trkArg_pc q; omega
  · omega
  · exact ⟨q, ha⟩
  · have := trkArg_pc q; omega
  · omega
  · omega
  · omega
/-- a block whose answers are compared -/
def tkQ (n e iX iM jX jM : Nat) (g : Int) : Prop :=
  (decode cL_law e = .ok (.aload_n 1, 1)) ∧
  (tkArgD n (e + 1)) ∧
  (decode cL_law (e + 1 + 6 * n) = .ok (.invokevirtual iX, 3)) ∧
  (decode cL_law (e + 4 + 6 * n) = .ok (.aload_n 2, 1)) ∧
  (tkArgD n (e + 5 + 6 * n)) ∧
  (decode cL_law (e + 5 + 6 * n + 6 * n) = .ok (.invokevirtual iM, 3)) ∧
  (decode cL_law (e + 8 + 12 * n) = .ok (.if_icmp .eq g, 3)) ∧
  (rvJ (e + 8 + 12 * n) g = some 1448) ∧
  (lwTb e = none) ∧
  (tkNo n (e + 1)) ∧
  (lwTb (e + 4 + 6 * n) = none) ∧
  (tkNo n (e + 5 + 6 * n)) ∧
  (lwTb (e + 8 + 12 * n) = none) ∧
  ((lwTb (e + 1 + 6 * n)).map (fun e => (e.2.2.1, e.2.2.2.1)) = some (jX, n)) ∧
  ((lwTb (e + 5 + 6 * n + 6 * n)).map (fun e => (e.2.2.1, e.2.2.2.1)) = some (jM, n))
theorem tkQ.d0 {n e iX iM jX jM : Nat} {g : Int} (h : tkQ n e iX iM jX jM g) : decode cL_law e = .ok (.aload_n 1, 1) := h.1
theorem tkQ.aX {n e iX iM jX jM : Nat} {g : Int} (h : tkQ n e iX iM jX jM g) : tkArgD n (e + 1) := h.2.1
theorem tkQ.dX {n e iX iM jX jM : Nat} {g : Int} (h : tkQ n e iX iM jX jM g) : decode cL_law (e + 1 + 6 * n) = .ok (.invokevirtual iX, 3) := h.2.2.1
theorem tkQ.d2 {n e iX iM jX jM : Nat} {g : Int} (h : tkQ n e iX iM jX jM g) : decode cL_law (e + 4 + 6 * n) = .ok (.aload_n 2, 1) := h.2.2.2.1
theorem tkQ.aM {n e iX iM jX jM : Nat} {g : Int} (h : tkQ n e iX iM jX jM g) : tkArgD n (e + 5 + 6 * n) := h.2.2.2.2.1
theorem tkQ.dM {n e iX iM jX jM : Nat} {g : Int} (h : tkQ n e iX iM jX jM g) : decode cL_law (e + 5 + 6 * n + 6 * n) = .ok (.invokevirtual iM, 3) := h.2.2.2.2.2.1
theorem tkQ.dc {n e iX iM jX jM : Nat} {g : Int} (h : tkQ n e iX iM jX jM g) : decode cL_law (e + 8 + 12 * n) = .ok (.if_icmp .eq g, 3) := h.2.2.2.2.2.2.1
theorem tkQ.hg {n e iX iM jX jM : Nat} {g : Int} (h : tkQ n e iX iM jX jM g) : rvJ (e + 8 + 12 * n) g = some 1448 := h.2.2.2.2.2.2.2.1
theorem tkQ.t0 {n e iX iM jX jM : Nat} {g : Int} (h : tkQ n e iX iM jX jM g) : lwTb e = none := h.2.2.2.2.2.2.2.2.1
theorem tkQ.tX {n e iX iM jX jM : Nat} {g : Int} (h : tkQ n e iX iM jX jM g) : tkNo n (e + 1) := h.2.2.2.2.2.2.2.2.2.1
theorem tkQ.t2 {n e iX iM jX jM : Nat} {g : Int} (h : tkQ n e iX iM jX jM g) : lwTb (e + 4 + 6 * n) = none := h.2.2.2.2.2.2.2.2.2.2.1
theorem tkQ.tM {n e iX iM jX jM : Nat} {g : Int} (h : tkQ n e iX iM jX jM g) : tkNo n (e + 5 + 6 * n) := h.2.2.2.2.2.2.2.2.2.2.2.1
theorem tkQ.tc {n e iX iM jX jM : Nat} {g : Int} (h : tkQ n e iX iM jX jM g) : lwTb (e + 8 + 12 * n) = none := h.2.2.2.2.2.2.2.2.2.2.2.2.1
theorem tkQ.cX {n e iX iM jX jM : Nat} {g : Int} (h : tkQ n e iX iM jX jM g) : (lwTb (e + 1 + 6 * n)).map (fun e => (e.2.2.1, e.2.2.2.1)) = some (jX, n) := h.2.2.2.2.2.2.2.2.2.2.2.2.2.1
theorem tkQ.cM {n e iX iM jX jM : Nat} {g : Int} (h : tkQ n e iX iM jX jM g) : (lwTb (e + 5 + 6 * n + 6 * n)).map (fun e => (e.2.2.1, e.2.2.2.1)) = some (jM, n) := h.2.2.2.2.2.2.2.2.2.2.2.2.2.2
theorem rvCmp_eq (a : Int) : rvCmp .eq (a, a) (a, a) = some true := by
  show rvEq (a, a) (a, a) = some true
  simp [rvEq, rvOne]
def trkQ (n e : Nat) (al0 : List rvV) (v : Nat → Int) (i0 w : Int) (aw0 : rvH) (x0 x29 : Nat) (ans : Int) (A2 : rvH → Prop) (o : rvS) : Prop := o.2.1 = al0 ∧ ((o.1 = 40 ∧ o.2.2.1 = [.inl (w, w)] ∧ o.2.2.2.1 = aw0) ∨ (o.1 = e ∧ o.2.2.1 = [] ∧ o.2.2.2.1 = aw0) ∨ (trkArg n v i0 [.inr (2, x0)] (e + 1) o.1 o.2.2.1 ∧ o.2.2.2.1 = aw0) ∨ (o.1 = e + 4 + 6 * n ∧ o.2.2.1 = [.inl (ans, ans)] ∧ o.2.2.2.1 = aw0) ∨ (trkArg n v i0 [.inr (2, x29), .inl (ans, ans)] (e + 5 + 6 * n) o.1 o.2.2.1 ∧ o.2.2.2.1 = aw0) ∨ (o.1 = e + 8 + 12 * n ∧ o.2.2.1 = [.inl (ans, ans), .inl (ans, ans)] ∧ A2 o.2.2.2.1) ∨ (o.1 = 1448 ∧ A2 o.2.2.2.1))
theorem trkQ_step {n e iX iM jX jM : Nat} {g w ans : Int} (K : tkQ n e iX iM jX jM g) (hn : okN n) (hsw : swTo w e) {aw0 : rvH} {A2 : rvH → Prop} (hi : 0 ≤ i0) (hi2 : i0 ≤ 3066) (hv : ∀ k, k < n → sc[i0.toNat + (k + 1)]? = some (v k, v k)) (pc : Nat) (al st : List rvV) (aw : rvH) (kc ks : Nat) (i : Instr) (len a1 a2 a3 : Nat) (o : rvS) (hd : decode cL_law pc = .ok (i, rvSz i len)) (hok : lwOk i = true) (hst : rvStep rvTy rvNf rvTxt sc 600000 7000000 7 i a1 a2 a3 pc al st aw kc ks = some o) (h : trkQ n e [.inr (5, 0), .inr (2, x0), .inr (2, x29), b3, .inl (i0, i0), b5, b6] v i0 w aw0 x0 x29 ans A2 (pc, al, st, aw, kc, ks)) : trkQ n e [.inr (5, 0), .inr (2, x0), .inr (2, x29), b3, .inl (i0, i0), b5, b6] v i0 w aw0 x0 x29 ans A2 o := by
  obtain ⟨hal, h⟩ := h
  dsimp only at hal h
  subst hal
  rcases h with ⟨rfl, rfl, rfl⟩ | ⟨rfl, rfl, rfl⟩ | ⟨h, rfl⟩ | ⟨rfl, rfl, rfl⟩ | ⟨h, rfl⟩ | ⟨rfl, rfl, hA⟩ | ⟨rfl, hA⟩
  · have q := tk_ins tkd_40 hd
    subst q
    rw [hsw] at hst
    have q := Option.some.inj hst
    subst q
    exact ⟨rfl, Or.inr (Or.inl ⟨rfl, rfl, rfl⟩)⟩
  · have q := tk_ins K.d0 hd
    subst q
    have hst : some (pc + 1, ([.inr (5, 0), .inr (2, x0), .inr (2, x29), b3, .inl (i0, i0), b5, b6] : List rvV), ([.inr (2, x0)] : List rvV), aw, kc, ks) = some o := hst
    have q := Option.some.inj hst
    subst q
    exact ⟨rfl, Or.inr (Or.inr (Or.inl ⟨trkArg_0 rfl, rfl⟩))⟩
  · by_cases hne : pc = e + 1 + 6 * n
    · subst hne
      have q := tk_ins K.dX hd
      subst q
      have hst : (none : Option rvS) = some o := hst
      cases hst
    · obtain ⟨q1, q2, q3⟩ := trkArg_step (okN_le hn) K.aX hi hi2 hv hd hne hst h
      exact ⟨q1, Or.inr (Or.inr (Or.inl ⟨q3, q2⟩))⟩
  · have q := tk_ins K.d2 hd
    subst q
    have hst : some (e + 4 + 6 * n + 1, ([.inr (5, 0), .inr (2, x0), .inr (2, x29), b3, .inl (i0, i0), b5, b6] : List rvV), ([.inr (2, x29), .inl (ans, ans)] : List rvV), aw, kc, ks) = some o := hst
    have q := Option.some.inj hst
    subst q
    exact ⟨rfl, Or.inr (Or.inr (Or.inr (Or.inr (Or.inl ⟨trkArg_0 (by show e + 4 + 6 * n + 1 = e + 5 + 6 * n; omega), rfl⟩))))⟩
  · by_cases hne : pc = e + 5 + 6 * n + 6 * n
    · subst hne
      have q := tk_ins K.dM hd
      subst q
      have hst : (none : Option rvS) = some o := hst
      cases hst
    · obtain ⟨q1, q2, q3⟩ := trkArg_step (okN_le hn) K.aM hi hi2 hv hd hne hst h
      exact ⟨q1, Or.inr (Or.inr (Or.inr (Or.inr (Or.inl ⟨q3, q2⟩))))⟩
  · have q := tk_ins K.dc hd
    subst q
    have hst : (match rvCmp .eq (ans, ans) (ans, ans), rvJ (e + 8 + 12 * n) g with
      | some true, some t => some (t, ([.inr (5, 0), .inr (2, x0), .inr (2, x29), b3, .inl (i0, i0), b5, b6] : List rvV), ([] : List rvV), aw, kc, ks)
      | some false, some _ => some (e + 8 + 12 * n + 3, ([.inr (5, 0), .inr (2, x0), .inr (2, x29), b3, .inl (i0, i0), b5, b6] : List rvV), ([] : List rvV), aw, kc, ks)
      | _, _ => none) = some o := hst
    rw [rvCmp_eq, K.hg] at hst
    have q := Option.some.inj hst
    subst q
    exact ⟨rfl, Or.inr (Or.inr (Or.inr (Or.inr (Or.inr (Or.inr ⟨rfl, hA⟩)))))⟩
  · have q := tk_ins tkd_1448 hd
    subst q
    cases hok
theorem trkQ_call {n e iX iM jX jM : Nat} {g w ans : Int} (K : tkQ n e iX iM jX jM g) (hn : okN n) {aw0 : rvH} {A2 : rvH → Prop} {al0 : List rvV} (p1 : PCM rvTab rvInf rvRet 316 rvMth jX (.inr (2, x0) :: argl v n) aw0 (fun res => res.1 = some (.inl (ans, ans)) ∧ res.2 = aw0)) (p2 : PCM rvTab rvInf rvRet 316 rvMth jM (.inr (2, x29) :: argl v n) aw0 (fun res => res.1 = some (.inl (ans, ans)) ∧ A2 res.2)) (pc : Nat) (al st : List rvV) (aw : rvH) (kc ks j2 : Nat) (as rest : List rvV) (hinv : xInv (fun _ => lwTb) lwInf 316 pc st aw kc ks j2 as rest) (h : trkQ n e al0 v i0 w aw0 x0 x29 ans A2 (pc, al, st, aw, kc, ks)) : ∃ P : xRes2 → Prop, PCM rvTab rvInf rvRet 316 rvMth j2 as aw P ∧ ∀ res, P res → ∀ kc' ks', trkQ n e al0 v i0 w aw0 x0 x29 ans A2 (pc + 3, al, res.1.toList ++ rest, res.2, kc', ks') := by
  obtain ⟨hal, h⟩ := h
  dsimp only at hal h
  subst hal
  rcases h with ⟨rfl, rfl, rfl⟩ | ⟨rfl, rfl, rfl⟩ | ⟨h, rfl⟩ | ⟨rfl, rfl, rfl⟩ | ⟨h, rfl⟩ | ⟨rfl, rfl, hA⟩ | ⟨rfl, hA⟩
  · exact absurd (tk_no hinv tkb_no.1) id
  · exact absurd (tk_no hinv K.t0) id
  · obtain ⟨rfl, rfl⟩ := trkArg_no K.tX hinv h
    obtain ⟨rfl, rfl, rfl⟩ := tk_calln hn hinv K.cX
    refine ⟨_, p1, fun res hres kc' ks' => ⟨rfl, Or.inr (Or.inr (Or.inr (Or.inl ⟨by show e + 1 + 6 * n + 3 = e + 4 + 6 * n; omega, ?_, hres.2⟩)))⟩⟩
    show res.1.toList ++ [] = _
    rw [hres.1]
    rfl
  · exact absurd (tk_no hinv K.t2) id
  · obtain ⟨rfl, rfl⟩ := trkArg_no K.tM hinv h
    obtain ⟨rfl, rfl, rfl⟩ := tk_calln hn hinv K.cM
    refine ⟨_, p2, fun res hres kc' ks' => ⟨rfl, Or.inr (Or.inr (Or.inr (Or.inr (Or.inr (Or.inl ⟨by show e + 5 + 6 * n + 6 * n + 3 = e + 8 + 12 * n; omega, ?_, hres.2⟩)))))⟩⟩
    show res.1.toList ++ [_] = _
    rw [hres.1]
    rfl
  · exact absurd (tk_no hinv K.tc) id
  · exact absurd (tk_no hinv tkb_no.2) id
theorem trkQ_not {n e : Nat} {w ans : Int} {aw0 : rvH} {A2 : rvH → Prop} {al0 : List rvV} {pc : Nat} {al st : List rvV} {aw : rvH} {kc ks : Nat} (h : trkQ n e al0 v i0 w aw0 x0 x29 ans A2 (pc, al, st, aw, kc, ks)) : pc = 40 ∨ (pc = 1448 ∧ A2 aw) ∨ (e ≤ pc ∧ pc ≤ e + 8 + 12 * n) := by
  obtain ⟨-, h⟩ := h
  dsimp only at h
  rcases h with ⟨q, -⟩ | ⟨q, -⟩ | ⟨q, -⟩ | ⟨q, -⟩ | ⟨q, -⟩ | ⟨q, -⟩ | ⟨q, q2⟩
  · omega
  · omega
  · have := trkArg_pc q; omega
  · omega
  · have := trkArg_pc q; omega
  · omega
  · exact Or.inr (Or.inl ⟨q, q2⟩)
end T3
theorem tkP_0 : tkP 5 236 19 23 229 231 1142 := by
  unfold tkP
  refine ⟨by decide +kernel, ?_, by decide +kernel, by decide +kernel, by decide +kernel, ?_, by decide +kernel, by decide +kernel, by decide +kernel, rfl, by decide +kernel, ?_, by decide +kernel, by decide +kernel, ?_, by decide +kernel, by decide +kernel, by decide +kernel, by decide +kernel⟩
  · unfold tkArgD; decide +kernel
  · unfold tkArgD; decide +kernel
  · unfold tkNo; decide +kernel
  · unfold tkNo; decide +kernel
theorem tkP_2 : tkP 0 334 29 33 235 24 1104 := by
  unfold tkP
  refine ⟨by decide +kernel, ?_, by decide +kernel, by decide +kernel, by decide +kernel, ?_, by decide +kernel, by decide +kernel, by decide +kernel, rfl, by decide +kernel, ?_, by decide +kernel, by decide +kernel, ?_, by decide +kernel, by decide +kernel, by decide +kernel, by decide +kernel⟩
  · unfold tkArgD; decide +kernel
  · unfold tkArgD; decide +kernel
  · unfold tkNo; decide +kernel
  · unfold tkNo; decide +kernel
theorem tkP_28 : tkP 3 1011 137 141 288 290 391 := by
  unfold tkP
  refine ⟨by decide +kernel, ?_, by decide +kernel, by decide +kernel, by decide +kernel, ?_, by decide +kernel, by decide +kernel, by decide +kernel, rfl, by decide +kernel, ?_, by decide +kernel, by decide +kernel, ?_, by decide +kernel, by decide +kernel, by decide +kernel, by decide +kernel⟩
  · unfold tkArgD; decide +kernel
  · unfold tkArgD; decide +kernel
  · unfold tkNo; decide +kernel
  · unfold tkNo; decide +kernel
theorem tkP_42 : tkP 1 1373 194 197 310 127 53 := by
  unfold tkP
  refine ⟨by decide +kernel, ?_, by decide +kernel, by decide +kernel, by decide +kernel, ?_, by decide +kernel, by decide +kernel, by decide +kernel, rfl, by decide +kernel, ?_, by decide +kernel, by decide +kernel, ?_, by decide +kernel, by decide +kernel, by decide +kernel, by decide +kernel⟩
  · unfold tkArgD; decide +kernel
  · unfold tkArgD; decide +kernel
  · unfold tkNo; decide +kernel
  · unfold tkNo; decide +kernel
theorem tkP_43 : tkP 1 1398 198 201 311 128 28 := by
  unfold tkP
  refine ⟨by decide +kernel, ?_, by decide +kernel, by decide +kernel, by decide +kernel, ?_, by decide +kernel, by decide +kernel, by decide +kernel, rfl, by decide +kernel, ?_, by decide +kernel, by decide +kernel, ?_, by decide +kernel, by decide +kernel, by decide +kernel, by decide +kernel⟩
  · unfold tkArgD; decide +kernel
  · unfold tkArgD; decide +kernel
  · unfold tkNo; decide +kernel
  · unfold tkNo; decide +kernel
theorem tkQ_3 : tkQ 0 347 34 37 237 238 1093 := by
  unfold tkQ
  refine ⟨by decide +kernel, ?_, by decide +kernel, by decide +kernel, ?_, by decide +kernel, by decide +kernel, rfl, by decide +kernel, ?_, by decide +kernel, ?_, by decide +kernel, by decide +kernel, by decide +kernel⟩
  · unfold tkArgD; decide +kernel
  · unfold tkArgD; decide +kernel
  · unfold tkNo; decide +kernel
  · unfold tkNo; decide +kernel
theorem tkP_38 : tkP 1 1285 178 181 303 90 141 := by
  unfold tkP
  refine ⟨by decide +kernel, ?_, by decide +kernel, by decide +kernel, by decide +kernel, ?_, by decide +kernel, by decide +kernel, by decide +kernel, rfl, by decide +kernel, ?_, by decide +kernel, by decide +kernel, ?_, by decide +kernel, by decide +kernel, by decide +kernel, by decide +kernel⟩
  · unfold tkArgD; decide +kernel
  · unfold tkArgD; decide +kernel
  · unfold tkNo; decide +kernel
  · unfold tkNo; decide +kernel
theorem tkP_40 : tkP 0 1335 186 189 307 121 103 := by
  unfold tkP
  refine ⟨by decide +kernel, ?_, by decide +kernel, by decide +kernel, by decide +kernel, ?_, by decide +kernel, by decide +kernel, by decide +kernel, rfl, by decide +kernel, ?_, by decide +kernel, by decide +kernel, ?_, by decide +kernel, by decide +kernel, by decide +kernel, by decide +kernel⟩
  · unfold tkArgD; decide +kernel
  · unfold tkArgD; decide +kernel
  · unfold tkNo; decide +kernel
  · unfold tkNo; decide +kernel
theorem sw_0 : swTo ((0 : Nat) : Int) 236 := fun _ _ _ _ _ _ _ _ => rfl
theorem sw_2 : swTo ((2 : Nat) : Int) 334 := fun _ _ _ _ _ _ _ _ => rfl
theorem sw_28 : swTo ((28 : Nat) : Int) 1011 := fun _ _ _ _ _ _ _ _ => rfl
theorem sw_42 : swTo ((42 : Nat) : Int) 1373 := fun _ _ _ _ _ _ _ _ => rfl
theorem sw_43 : swTo ((43 : Nat) : Int) 1398 := fun _ _ _ _ _ _ _ _ => rfl
theorem sw_3 : swTo ((3 : Nat) : Int) 347 := fun _ _ _ _ _ _ _ _ => rfl
theorem sw_38 : swTo ((38 : Nat) : Int) 1285 := fun _ _ _ _ _ _ _ _ => rfl
theorem sw_40 : swTo ((40 : Nat) : Int) 1335 := fun _ _ _ _ _ _ _ _ => rfl
/-- no places of instructions -/
def lwNp (pc : Nat) : Bool := [332, 333, 596, 597, 691, 692, 711, 712, 728, 729, 742, 743, 782, 783, 858, 859, 1093, 1094, 1113, 1114, 1130, 1131, 1138, 1139, 1143, 1144, 1157, 1158, 1168, 1169, 1182, 1183, 1193, 1194, 1213, 1214, 1230, 1231, 1256, 1257, 1279, 1280, 1283, 1284, 1329, 1330, 1333, 1334, 1367, 1368, 1371, 1372].any (Nat.beq pc)
def lwA (pc : Nat) : Bool := !lwNp pc && ((Nat.ble 309 pc && Nat.ble pc 333) || ((Nat.ble 360 pc && Nat.ble pc 1284) || ((Nat.ble 1310 pc && Nat.ble pc 1334) || ((Nat.ble 1348 pc && Nat.ble pc 1372) || Nat.ble 1423 pc && Nat.ble pc 1448))))
def isCl (i : Instr) : Bool := match i with
  | .invokevirtual _ => true
  | .invokestatic _ => true
  | .invokespecial _ => true
  | .ireturn => true
  | _ => false
def lwPk (pc : Nat) : Bool := match decode cL_law pc with
  | .ok (i, _) => isCl i || (Nat.beq pc 1448 || (hpB i && sqB i pc lwA))
  | _ => true
def lwPj (pc : Nat) : Bool := lwNp pc || lwPk pc
def lwCk (pc : Nat) : Bool := match lwTb pc with
  | some (.invokevirtual _, _, a1, _, _, _) => lwA (pc + 3) && (ntS a1 || mvS a1)
  | some _ => false
  | none => true
theorem lwPk_0 : (List.range 25).all (fun k => lwPj (k + 309)) = true := by decide +kernel
theorem lwPk_1 : (List.range 43).all (fun k => lwPj (k + 360)) = true := by decide +kernel
theorem lwPk_2 : (List.range 43).all (fun k => lwPj (k + 403)) = true := by decide +kernel
theorem lwPk_3 : (List.range 43).all (fun k => lwPj (k + 446)) = true := by decide +kernel
theorem lwPk_4 : (List.range 43).all (fun k => lwPj (k + 489)) = true := by decide +kernel
theorem lwPk_5 : (List.range 43).all (fun k => lwPj (k + 532)) = true := by decide +kernel
theorem lwPk_6 : (List.range 43).all (fun k => lwPj (k + 575)) = true := by decide +kernel
theorem lwPk_7 : (List.range 43).all (fun k => lwPj (k + 618)) = true := by decide +kernel
theorem lwPk_8 : (List.range 43).all (fun k => lwPj (k + 661)) = true := by decide +kernel
theorem lwPk_9 : (List.range 43).all (fun k => lwPj (k + 704)) = true := by decide +kernel
theorem lwPk_10 : (List.range 43).all (fun k => lwPj (k + 747)) = true := by decide +kernel
theorem lwPk_11 : (List.range 43).all (fun k => lwPj (k + 790)) = true := by decide +kernel
theorem lwPk_12 : (List.range 43).all (fun k => lwPj (k + 833)) = true := by decide +kernel
theorem lwPk_13 : (List.range 43).all (fun k => lwPj (k + 876)) = true := by decide +kernel
theorem lwPk_14 : (List.range 43).all (fun k => lwPj (k + 919)) = true := by decide +kernel
theorem lwPk_15 : (List.range 43).all (fun k => lwPj (k + 962)) = true := by decide +kernel
theorem lwPk_16 : (List.range 43).all (fun k => lwPj (k + 1005)) = true := by decide +kernel
theorem lwPk_17 : (List.range 43).all (fun k => lwPj (k + 1048)) = true := by decide +kernel
theorem lwPk_18 : (List.range 43).all (fun k => lwPj (k + 1091)) = true := by decide +kernel
theorem lwPk_19 : (List.range 43).all (fun k => lwPj (k + 1134)) = true := by decide +kernel
theorem lwPk_20 : (List.range 43).all (fun k => lwPj (k + 1177)) = true := by decide +kernel
theorem lwPk_21 : (List.range 43).all (fun k => lwPj (k + 1220)) = true := by decide +kernel
theorem lwPk_22 : (List.range 22).all (fun k => lwPj (k + 1263)) = true := by decide +kernel
theorem lwPk_23 : (List.range 25).all (fun k => lwPj (k + 1310)) = true := by decide +kernel
theorem lwPk_24 : (List.range 25).all (fun k => lwPj (k + 1348)) = true := by decide +kernel
theorem lwPk_25 : (List.range 26).all (fun k => lwPj (k + 1423)) = true := by decide +kernel
theorem lwCk_0 : (List.range 25).all (fun k => Nat.beq (k + 309) 374 || lwCk (k + 309)) = true := by decide +kernel
theorem lwCk_1 : (List.range 925).all (fun k => Nat.beq (k + 360) 374 || lwCk (k + 360)) = true := by decide +kernel
theorem lwCk_2 : (List.range 25).all (fun k => Nat.beq (k + 1310) 374 || lwCk (k + 1310)) = true := by decide +kernel
theorem lwCk_3 : (List.range 25).all (fun k => Nat.beq (k + 1348) 374 || lwCk (k + 1348)) = true := by decide +kernel
theorem lwCk_4 : (List.range 26).all (fun k => Nat.beq (k + 1423) 374 || lwCk (k + 1423)) = true := by decide +kernel
theorem lwA_cases {pc : Nat} (h : lwA pc = true) : (309 ≤ pc ∧ pc < 334) ∨ (360 ≤ pc ∧ pc < 1285) ∨ (1310 ≤ pc ∧ pc < 1335) ∨ (1348 ≤ pc ∧ pc < 1373) ∨ (1423 ≤ pc ∧ pc < 1449) := by
  have h := (rv_and h).2
  rcases rv_or' h with h | h
  · obtain ⟨h1, h2⟩ := rv_and h
    have h1 := rv_ble h1
    have h2 := rv_ble h2
    omega
  · rcases rv_or' h with h | h
    · obtain ⟨h1, h2⟩ := rv_and h
      have h1 := rv_ble h1
      have h2 := rv_ble h2
      omega
    · rcases rv_or' h with h | h
      · obtain ⟨h1, h2⟩ := rv_and h
        have h1 := rv_ble h1
        have h2 := rv_ble h2
        omega
      · rcases rv_or' h with h | h
        · obtain ⟨h1, h2⟩ := rv_and h
          have h1 := rv_ble h1
          have h2 := rv_ble h2
          omega
        · obtain ⟨h1, h2⟩ := rv_and h
          have h1 := rv_ble h1
          have h2 := rv_ble h2
          omega
theorem rg_at {f : Nat → Bool} {b l pc : Nat} (h : (List.range l).all (fun k => f (k + b)) = true) (h1 : b ≤ pc) (h2 : pc < b + l) : f pc = true := by
  have := List.all_eq_true.mp h (pc - b) (List.mem_range.mpr (by omega))
  rwa [show pc - b + b = pc from by omega] at this
theorem lwPj_all {pc : Nat} (h : lwA pc = true) : lwPj pc = true := by
  have hc := lwA_cases h
  by_cases q0 : 309 ≤ pc ∧ pc < 334
  · exact rg_at lwPk_0 q0.1 (by omega)
  by_cases q1 : 360 ≤ pc ∧ pc < 403
  · exact rg_at lwPk_1 q1.1 (by omega)
  by_cases q2 : 403 ≤ pc ∧ pc < 446
  · exact rg_at lwPk_2 q2.1 (by omega)
  by_cases q3 : 446 ≤ pc ∧ pc < 489
  · exact rg_at lwPk_3 q3.1 (by omega)
  by_cases q4 : 489 ≤ pc ∧ pc < 532
  · exact rg_at lwPk_4 q4.1 (by omega)
  by_cases q5 : 532 ≤ pc ∧ pc < 575
  · exact rg_at lwPk_5 q5.1 (by omega)
  by_cases q6 : 575 ≤ pc ∧ pc < 618
  · exact rg_at lwPk_6 q6.1 (by omega)
  by_cases q7 : 618 ≤ pc ∧ pc < 661
  · exact rg_at lwPk_7 q7.1 (by omega)
  by_cases q8 : 661 ≤ pc ∧ pc < 704
  · exact rg_at lwPk_8 q8.1 (by omega)
  by_cases q9 : 704 ≤ pc ∧ pc < 747
  · exact rg_at lwPk_9 q9.1 (by omega)
  by_cases q10 : 747 ≤ pc ∧ pc < 790
  · exact rg_at lwPk_10 q10.1 (by omega)
  by_cases q11 : 790 ≤ pc ∧ pc < 833
  · exact rg_at lwPk_11 q11.1 (by omega)
  by_cases q12 : 833 ≤ pc ∧ pc < 876
  · exact rg_at lwPk_12 q12.1 (by omega)
  by_cases q13 : 876 ≤ pc ∧ pc < 919
  · exact rg_at lwPk_13 q13.1 (by omega)
  by_cases q14 : 919 ≤ pc ∧ pc < 962
  · exact rg_at lwPk_14 q14.1 (by omega)
  by_cases q15 : 962 ≤ pc ∧ pc < 1005
  · exact rg_at lwPk_15 q15.1 (by omega)
  by_cases q16 : 1005 ≤ pc ∧ pc < 1048
  · exact rg_at lwPk_16 q16.1 (by omega)
  by_cases q17 : 1048 ≤ pc ∧ pc < 1091
  · exact rg_at lwPk_17 q17.1 (by omega)
  by_cases q18 : 1091 ≤ pc ∧ pc < 1134
  · exact rg_at lwPk_18 q18.1 (by omega)
  by_cases q19 : 1134 ≤ pc ∧ pc < 1177
  · exact rg_at lwPk_19 q19.1 (by omega)
  by_cases q20 : 1177 ≤ pc ∧ pc < 1220
  · exact rg_at lwPk_20 q20.1 (by omega)
  by_cases q21 : 1220 ≤ pc ∧ pc < 1263
  · exact rg_at lwPk_21 q21.1 (by omega)
  by_cases q22 : 1263 ≤ pc ∧ pc < 1285
  · exact rg_at lwPk_22 q22.1 (by omega)
  by_cases q23 : 1310 ≤ pc ∧ pc < 1335
  · exact rg_at lwPk_23 q23.1 (by omega)
  by_cases q24 : 1348 ≤ pc ∧ pc < 1373
  · exact rg_at lwPk_24 q24.1 (by omega)
  by_cases q25 : 1423 ≤ pc ∧ pc < 1449
  · exact rg_at lwPk_25 q25.1 (by omega)
  omega
theorem lwPk_all {pc : Nat} (h : lwA pc = true) : lwPk pc = true := by
  have hb := (rv_and h).1
  rcases rv_or' (lwPj_all h) with q | q
  · rw [q] at hb; cases hb
  · exact q
theorem lwCk_all {pc : Nat} (h : lwA pc = true) (hn : pc ≠ 374) : lwCk pc = true := by
  have fin : (Nat.beq pc 374 || lwCk pc) = true → lwCk pc = true := fun q => by
    rcases rv_or' q with q | q
    · exact absurd (rv_beq q) hn
    · exact q
  rcases lwA_cases h with ⟨h1, h2⟩ | ⟨h1, h2⟩ | ⟨h1, h2⟩ | ⟨h1, h2⟩ | ⟨h1, h2⟩
  · exact fin (rg_at (f := fun pc => Nat.beq pc 374 || lwCk pc) lwCk_0 h1 (by omega))
  · exact fin (rg_at (f := fun pc => Nat.beq pc 374 || lwCk pc) lwCk_1 h1 (by omega))
  · exact fin (rg_at (f := fun pc => Nat.beq pc 374 || lwCk pc) lwCk_2 h1 (by omega))
  · exact fin (rg_at (f := fun pc => Nat.beq pc 374 || lwCk pc) lwCk_3 h1 (by omega))
  · exact fin (rg_at (f := fun pc => Nat.beq pc 374 || lwCk pc) lwCk_4 h1 (by omega))
theorem lwTb_374 : lwTb 374 = none := by decide +kernel
/-- the switch, any other case -/
theorem sw_any (w : Nat) (hw : w < 64) (h0 : w ≠ 0) (h2 : w ≠ 2) (h28 : w ≠ 28) (h42 : w ≠ 42) (h43 : w ≠ 43) (h3 : w ≠ 3) (h40 : w ≠ 40) (h38 : w ≠ 38) : ∃ e, lwA e = true ∧ swTo (w : Int) e := by
  match w, hw, h0, h2, h28, h42, h43, h3, h40, h38 with
  | 0, _, h, _, _, _, _, _, _, _ => exact absurd rfl h
  | 1, _, _, _, _, _, _, _, _, _ => exact ⟨309, rfl, fun _ _ _ _ _ _ _ _ => rfl⟩
  | 2, _, _, h, _, _, _, _, _, _ => exact absurd rfl h
  | 3, _, _, _, _, _, _, h, _, _ => exact absurd rfl h
  | 4, _, _, _, _, _, _, _, _, _ => exact ⟨360, rfl, fun _ _ _ _ _ _ _ _ => rfl⟩
  | 5, _, _, _, _, _, _, _, _, _ => exact ⟨400, rfl, fun _ _ _ _ _ _ _ _ => rfl⟩
  | 6, _, _, _, _, _, _, _, _, _ => exact ⟨437, rfl, fun _ _ _ _ _ _ _ _ => rfl⟩
  | 7, _, _, _, _, _, _, _, _, _ => exact ⟨462, rfl, fun _ _ _ _ _ _ _ _ => rfl⟩
  | 8, _, _, _, _, _, _, _, _, _ => exact ⟨499, rfl, fun _ _ _ _ _ _ _ _ => rfl⟩
  | 9, _, _, _, _, _, _, _, _, _ => exact ⟨536, rfl, fun _ _ _ _ _ _ _ _ => rfl⟩
  | 10, _, _, _, _, _, _, _, _, _ => exact ⟨573, rfl, fun _ _ _ _ _ _ _ _ => rfl⟩
  | 11, _, _, _, _, _, _, _, _, _ => exact ⟨598, rfl, fun _ _ _ _ _ _ _ _ => rfl⟩
  | 12, _, _, _, _, _, _, _, _, _ => exact ⟨623, rfl, fun _ _ _ _ _ _ _ _ => rfl⟩
  | 13, _, _, _, _, _, _, _, _, _ => exact ⟨660, rfl, fun _ _ _ _ _ _ _ _ => rfl⟩
  | 14, _, _, _, _, _, _, _, _, _ => exact ⟨697, rfl, fun _ _ _ _ _ _ _ _ => rfl⟩
  | 15, _, _, _, _, _, _, _, _, _ => exact ⟨734, rfl, fun _ _ _ _ _ _ _ _ => rfl⟩
  | 16, _, _, _, _, _, _, _, _, _ => exact ⟨759, rfl, fun _ _ _ _ _ _ _ _ => rfl⟩
  | 17, _, _, _, _, _, _, _, _, _ => exact ⟨784, rfl, fun _ _ _ _ _ _ _ _ => rfl⟩
  | 18, _, _, _, _, _, _, _, _, _ => exact ⟨809, rfl, fun _ _ _ _ _ _ _ _ => rfl⟩
  | 19, _, _, _, _, _, _, _, _, _ => exact ⟨822, rfl, fun _ _ _ _ _ _ _ _ => rfl⟩
  | 20, _, _, _, _, _, _, _, _, _ => exact ⟨847, rfl, fun _ _ _ _ _ _ _ _ => rfl⟩
  | 21, _, _, _, _, _, _, _, _, _ => exact ⟨860, rfl, fun _ _ _ _ _ _ _ _ => rfl⟩
  | 22, _, _, _, _, _, _, _, _, _ => exact ⟨873, rfl, fun _ _ _ _ _ _ _ _ => rfl⟩
  | 23, _, _, _, _, _, _, _, _, _ => exact ⟨898, rfl, fun _ _ _ _ _ _ _ _ => rfl⟩
  | 24, _, _, _, _, _, _, _, _, _ => exact ⟨911, rfl, fun _ _ _ _ _ _ _ _ => rfl⟩
  | 25, _, _, _, _, _, _, _, _, _ => exact ⟨936, rfl, fun _ _ _ _ _ _ _ _ => rfl⟩
  | 26, _, _, _, _, _, _, _, _, _ => exact ⟨949, rfl, fun _ _ _ _ _ _ _ _ => rfl⟩
  | 27, _, _, _, _, _, _, _, _, _ => exact ⟨974, rfl, fun _ _ _ _ _ _ _ _ => rfl⟩
  | 28, _, _, _, h, _, _, _, _, _ => exact absurd rfl h
  | 29, _, _, _, _, _, _, _, _, _ => exact ⟨1060, rfl, fun _ _ _ _ _ _ _ _ => rfl⟩
  | 30, _, _, _, _, _, _, _, _, _ => exact ⟨1073, rfl, fun _ _ _ _ _ _ _ _ => rfl⟩
  | 31, _, _, _, _, _, _, _, _, _ => exact ⟨1086, rfl, fun _ _ _ _ _ _ _ _ => rfl⟩
  | 32, _, _, _, _, _, _, _, _, _ => exact ⟨1099, rfl, fun _ _ _ _ _ _ _ _ => rfl⟩
  | 33, _, _, _, _, _, _, _, _, _ => exact ⟨1136, rfl, fun _ _ _ _ _ _ _ _ => rfl⟩
  | 34, _, _, _, _, _, _, _, _, _ => exact ⟨1149, rfl, fun _ _ _ _ _ _ _ _ => rfl⟩
  | 35, _, _, _, _, _, _, _, _, _ => exact ⟨1174, rfl, fun _ _ _ _ _ _ _ _ => rfl⟩
  | 36, _, _, _, _, _, _, _, _, _ => exact ⟨1199, rfl, fun _ _ _ _ _ _ _ _ => rfl⟩
  | 37, _, _, _, _, _, _, _, _, _ => exact ⟨1236, rfl, fun _ _ _ _ _ _ _ _ => rfl⟩
  | 38, _, _, _, _, _, _, _, _, h => exact absurd rfl h
  | 39, _, _, _, _, _, _, _, _, _ => exact ⟨1310, rfl, fun _ _ _ _ _ _ _ _ => rfl⟩
  | 40, _, _, _, _, _, _, _, h, _ => exact absurd rfl h
  | 41, _, _, _, _, _, _, _, _, _ => exact ⟨1348, rfl, fun _ _ _ _ _ _ _ _ => rfl⟩
  | 42, _, _, _, _, h, _, _, _, _ => exact absurd rfl h
  | 43, _, _, _, _, _, h, _, _, _ => exact absurd rfl h
  | 44, _, _, _, _, _, _, _, _, _ => exact ⟨1423, rfl, fun _ _ _ _ _ _ _ _ => rfl⟩
  | 45, _, _, _, _, _, _, _, _, _ => exact ⟨1448, rfl, fun _ _ _ _ _ _ _ _ => rfl⟩
  | 46, _, _, _, _, _, _, _, _, _ => exact ⟨1448, rfl, fun _ _ _ _ _ _ _ _ => rfl⟩
  | 47, _, _, _, _, _, _, _, _, _ => exact ⟨1448, rfl, fun _ _ _ _ _ _ _ _ => rfl⟩
  | 48, _, _, _, _, _, _, _, _, _ => exact ⟨1448, rfl, fun _ _ _ _ _ _ _ _ => rfl⟩
  | 49, _, _, _, _, _, _, _, _, _ => exact ⟨1448, rfl, fun _ _ _ _ _ _ _ _ => rfl⟩
  | 50, _, _, _, _, _, _, _, _, _ => exact ⟨1448, rfl, fun _ _ _ _ _ _ _ _ => rfl⟩
  | 51, _, _, _, _, _, _, _, _, _ => exact ⟨1448, rfl, fun _ _ _ _ _ _ _ _ => rfl⟩
  | 52, _, _, _, _, _, _, _, _, _ => exact ⟨1448, rfl, fun _ _ _ _ _ _ _ _ => rfl⟩
  | 53, _, _, _, _, _, _, _, _, _ => exact ⟨1448, rfl, fun _ _ _ _ _ _ _ _ => rfl⟩
  | 54, _, _, _, _, _, _, _, _, _ => exact ⟨1448, rfl, fun _ _ _ _ _ _ _ _ => rfl⟩
  | 55, _, _, _, _, _, _, _, _, _ => exact ⟨1448, rfl, fun _ _ _ _ _ _ _ _ => rfl⟩
  | 56, _, _, _, _, _, _, _, _, _ => exact ⟨1448, rfl, fun _ _ _ _ _ _ _ _ => rfl⟩
  | 57, _, _, _, _, _, _, _, _, _ => exact ⟨1448, rfl, fun _ _ _ _ _ _ _ _ => rfl⟩
  | 58, _, _, _, _, _, _, _, _, _ => exact ⟨1448, rfl, fun _ _ _ _ _ _ _ _ => rfl⟩
  | 59, _, _, _, _, _, _, _, _, _ => exact ⟨1448, rfl, fun _ _ _ _ _ _ _ _ => rfl⟩
  | 60, _, _, _, _, _, _, _, _, _ => exact ⟨1448, rfl, fun _ _ _ _ _ _ _ _ => rfl⟩
  | 61, _, _, _, _, _, _, _, _, _ => exact ⟨1448, rfl, fun _ _ _ _ _ _ _ _ => rfl⟩
  | 62, _, _, _, _, _, _, _, _, _ => exact ⟨1448, rfl, fun _ _ _ _ _ _ _ _ => rfl⟩
  | 63, _, _, _, _, _, _, _, _, _ => exact ⟨1448, rfl, fun _ _ _ _ _ _ _ _ => rfl⟩
  | n + 64, hw, _, _, _, _, _, _, _, _ => omega
/-- the towns stay -/
def trkG (t0 : Nat) (aw0 : rvH) (w : Int) (o : rvS) : Prop := (o.1 = 40 ∧ o.2.2.1 = [.inl (w, w)] ∧ o.2.2.2.1 = aw0) ∨ (lwA o.1 = true ∧ SameT t0 aw0 o.2.2.2.1)
theorem trkG_step {sc : List (Int × Int)} {t0 e : Nat} {aw0 : rvH} {w : Int} (hF : HF t0 aw0) (hA : lwA e = true) (hsw : swTo w e) (pc : Nat) (al st : List rvV) (aw : rvH) (kc ks : Nat) (i : Instr) (len a1 a2 a3 : Nat) (o : rvS) (hd : decode cL_law pc = .ok (i, rvSz i len)) (hok : lwOk i = true) (hst : rvStep rvTy rvNf rvTxt sc 600000 7000000 7 i a1 a2 a3 pc al st aw kc ks = some o) (h : trkG t0 aw0 w (pc, al, st, aw, kc, ks)) : trkG t0 aw0 w o := by
  rcases h with ⟨h1, h2, h3⟩ | ⟨h1, h2⟩
  · dsimp only at h1 h2 h3
    subst h1; subst h2; subst h3
    have q := tk_ins tkd_40 hd
    subst q
    rw [hsw] at hst
    have q := Option.some.inj hst
    subst q
    exact Or.inr ⟨hA, SameT_refl hF⟩
  · dsimp only at h1 h2
    have hk := lwPk_all h1
    unfold lwPk at hk
    rw [hd] at hk
    dsimp only at hk
    rcases rv_or' hk with hk | hk
    · exfalso
      cases i <;> first
        | (cases hk; done)
        | (cases hst; done)
    · rcases rv_or' hk with hk | hk
      · have hk := rv_beq hk
        subst hk
        have q := tk_ins tkd_1448 hd
        subst q
        cases hok
      · obtain ⟨k1, k2⟩ := rv_and hk
        have hs := tStep hst
        exact Or.inr ⟨hs.1 _ k2, by rw [hs.2.2 k1]; exact h2⟩
theorem trkG_call {t0 : Nat} {aw0 : rvH} {w : Int} (hF : HF t0 aw0) (pc : Nat) (al st : List rvV) (aw : rvH) (kc ks j2 : Nat) (as rest : List rvV) (hj : j2 < 316) (hinv : xInv (fun _ => lwTb) lwInf 316 pc st aw kc ks j2 as rest) (h : trkG t0 aw0 w (pc, al, st, aw, kc, ks)) : ∃ P : xRes2 → Prop, PCM rvTab rvInf rvRet 316 rvMth j2 as aw P ∧ ∀ res, P res → ∀ kc' ks', trkG t0 aw0 w (pc + 3, al, res.1.toList ++ rest, res.2, kc', ks') := by
  rcases h with ⟨h1, h2, h3⟩ | ⟨h1, h2⟩
  · dsimp only at h1
    subst h1
    exact absurd (tk_no hinv tkb_no.1) id
  · dsimp only at h1 h2
    by_cases h374 : pc = 374
    · subst h374
      exact absurd (tk_no hinv lwTb_374) id
    have hk := lwCk_all h1 h374
    unfold lwCk at hk
    obtain ⟨i, len, a2, a3, wi, as0, rest0, t1, t2, -, -, -, -, -, t8⟩ := hinv
    have t1 : lwTb pc = some (i, len, j2, a2, a3, wi) := t1
    rw [t1] at hk
    cases i
    case invokevirtual idx =>
      have hk : (lwA (pc + 3) && (ntS j2 || mvS j2)) = true := hk
      obtain ⟨k1, k2⟩ := rv_and hk
      rcases t8 with ⟨⟨x, q⟩, -⟩ | ⟨-, v, -, e2, hc⟩
      · cases q
      · rw [lwInf_ne hj] at hc
        rcases rv_or' k2 with k2 | k2
        · exact ⟨_, sm_neutral k2 h2 as, fun res hres _ _ => Or.inr ⟨k1, hres⟩⟩
        · have hcls : (rvInf j2).2.2.2.2.2 = 11 := by
            unfold mvS at k2
            simp only [List.any_cons, List.any_nil, Bool.or_eq_true, Bool.or_false] at k2
            rcases k2 with e | e | e | e | e | e | e | e | e | e | e | e | e
            all_goals
              have e := rv_beq e
              subst e
              rfl
          rw [hcls] at hc
          rcases hc with ⟨k, fl, rfl, hk⟩ | ⟨k, -, -, hk⟩
          · have : k = 0 := one_Fw h2.2 hF.2.2.1 k fl hk
            subst this
            rw [e2]
            exact ⟨_, sm_mv k2 hF h2 as0, fun res hres _ _ => Or.inr ⟨k1, hres⟩⟩
          · cases hk
    all_goals cases hk
