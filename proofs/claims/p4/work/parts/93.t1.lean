/-! A turn with district, run exactly (by hand). -/
theorem tkd_40 : decode cL_law 40 = .ok (.tableswitch 1408 0 44 #[196, 269, 294, 307, 320, 360, 397, 422, 459, 496, 533, 558, 583, 620, 657, 694, 719, 744, 769, 782, 807, 820, 833, 858, 871, 896, 909, 934, 971, 1020, 1033, 1046, 1059, 1096, 1109, 1134, 1159, 1196, 1245, 1270, 1295, 1308, 1333, 1358, 1383], 196) := by decide +kernel
theorem tkd_334 : decode cL_law 334 = .ok (.aload_n 1, 1) := by decide +kernel
theorem tkd_335 : decode cL_law 335 = .ok (.invokevirtual 29, 3) := by decide +kernel
theorem tkd_338 : decode cL_law 338 = .ok (.aload_n 2, 1) := by decide +kernel
theorem tkd_339 : decode cL_law 339 = .ok (.invokevirtual 33, 3) := by decide +kernel
theorem tkd_342 : decode cL_law 342 = .ok (.if_icmp .eq 1106, 3) := by decide +kernel
theorem tkd_345 : decode cL_law 345 = .ok (.iconst 0, 1) := by decide +kernel
theorem tkd_346 : decode cL_law 346 = .ok (.ireturn, 1) := by decide +kernel
theorem tkd_1448 : decode cL_law 1448 = .ok (.iinc 4 6, 3) := by decide +kernel
theorem tkb_no : lwTb 40 = none ∧ lwTb 334 = none ∧ lwTb 338 = none ∧ lwTb 342 = none ∧ lwTb 345 = none ∧ lwTb 346 = none ∧ lwTb 1448 = none := by decide +kernel
theorem tkb_335 : (lwTb 335).map (fun e => (e.2.2.1, e.2.2.2.1)) = some (235, 0) := by decide +kernel
theorem tkb_339 : (lwTb 339).map (fun e => (e.2.2.1, e.2.2.2.1)) = some (24, 0) := by decide +kernel
theorem tk_no {pc : Nat} {st : List rvV} {aw : rvH} {kc ks j2 : Nat} {as rest : List rvV} (h : xInv (fun _ => lwTb) lwInf 316 pc st aw kc ks j2 as rest) (hn : lwTb pc = none) : False := by
  obtain ⟨i, len, a2, a3, wi, as0, rest0, t1, -⟩ := h
  have t1 : lwTb pc = some (i, len, j2, a2, a3, wi) := t1
  rw [hn] at t1
  cases t1
/-- a call without arguments -/
theorem tk_call {pc j : Nat} {x : rvV} {st : List rvV} {aw : rvH} {kc ks j2 : Nat} {as rest : List rvV} (h : xInv (fun _ => lwTb) lwInf 316 pc (x :: st) aw kc ks j2 as rest) (hm : (lwTb pc).map (fun e => (e.2.2.1, e.2.2.2.1)) = some (j, 0)) : j2 = j ∧ as = [x] ∧ rest = st := by
  obtain ⟨i, len, a2, a3, wi, as0, rest0, t1, t2, t3, t4, t5, t6, t7, t8⟩ := h
  have t1 : lwTb pc = some (i, len, j2, a2, a3, wi) := t1
  rw [t1] at hm
  have hm := Option.some.inj hm
  have e1 : j2 = j := (Prod.mk.inj hm).1
  have e2 : a2 = 0 := (Prod.mk.inj hm).2
  subst e2
  have t2 : some (([] : List rvV), x :: st) = some (as0, rest0) := t2
  have t2 := Option.some.inj t2
  have q1 : [] = as0 := (Prod.mk.inj t2).1
  have q2 : x :: st = rest0 := (Prod.mk.inj t2).2
  rcases t8 with ⟨⟨idx, hi⟩, -⟩ | ⟨-, v, w1, w2, -⟩
  · subst hi
    unfold lwTb at t1
    split at t1
    · rename_i idx' r hf
      have e := Option.some.inj t1
      have := (Prod.mk.inj e).1
      cases this
    · cases t1
  · rw [← q2] at w1
    have w3 := List.cons.inj w1
    refine ⟨e1, ?_, w3.2.symm⟩
    rw [w2, ← q1, ← w3.1]
theorem tk_ins {pc len n : Nat} {i i' : Instr} (h : decode cL_law pc = .ok (i', n)) (hd : decode cL_law pc = .ok (i, rvSz i len)) : i' = i :=
  (Prod.mk.inj (Except.ok.inj (h.symm.trans hd))).1
/-- the class's half -/
def trkA (al0 : List rvV) (aw0 : rvH) (x0 : Nat) (ans : Int) (o : rvS) : Prop := o.2.1 = al0 ∧ ((o.1 = 40 ∧ o.2.2.1 = [.inl (2, 2)] ∧ o.2.2.2.1 = aw0) ∨ (o.1 = 334 ∧ o.2.2.1 = [] ∧ o.2.2.2.1 = aw0) ∨ (o.1 = 335 ∧ o.2.2.1 = [.inr (2, x0)] ∧ o.2.2.2.1 = aw0) ∨ (o.1 = 338 ∧ o.2.2.1 = [.inl (ans, ans)]) ∨ o.1 = 339 ∨ o.1 = 342 ∨ o.1 = 345 ∨ o.1 = 346 ∨ o.1 = 1448)
section T1
variable {sc : List (Int × Int)} {aw0 : rvH} {x0 x29 : Nat} {ans i0 : Int} {b3 b5 b6 : rvV}
theorem trkA_step (pc : Nat) (al st : List rvV) (aw : rvH) (kc ks : Nat) (i : Instr) (len a1 a2 a3 : Nat) (o : rvS) (hd : decode cL_law pc = .ok (i, rvSz i len)) (hok : lwOk i = true) (hst : rvStep rvTy rvNf rvTxt sc 600000 7000000 7 i a1 a2 a3 pc al st aw kc ks = some o) (h : trkA [.inr (5, 0), .inr (2, x0), .inr (2, x29), b3, .inl (i0, i0), b5, b6] aw0 x0 ans (pc, al, st, aw, kc, ks)) : trkA [.inr (5, 0), .inr (2, x0), .inr (2, x29), b3, .inl (i0, i0), b5, b6] aw0 x0 ans o := by
  obtain ⟨hal, h⟩ := h
  dsimp only at hal h
  subst hal
  rcases h with ⟨rfl, rfl, rfl⟩ | ⟨rfl, rfl, rfl⟩ | ⟨rfl, rfl, rfl⟩ | ⟨rfl, rfl⟩ | rfl | rfl | rfl | rfl | rfl
  · have e := tk_ins tkd_40 hd
    subst e
    have hst : some (334, ([.inr (5, 0), .inr (2, x0), .inr (2, x29), b3, .inl (i0, i0), b5, b6] : List rvV), ([] : List rvV), aw, kc, ks) = some o := hst
    have e := Option.some.inj hst
    subst e
    exact ⟨rfl, Or.inr (Or.inl ⟨rfl, rfl, rfl⟩)⟩
  · have e := tk_ins tkd_334 hd
    subst e
    have hst : some (335, ([.inr (5, 0), .inr (2, x0), .inr (2, x29), b3, .inl (i0, i0), b5, b6] : List rvV), ([.inr (2, x0)] : List rvV), aw, kc, ks) = some o := hst
    have e := Option.some.inj hst
    subst e
    exact ⟨rfl, Or.inr (Or.inr (Or.inl ⟨rfl, rfl, rfl⟩))⟩
  · have e := tk_ins tkd_335 hd
    subst e
    have hst : (none : Option rvS) = some o := hst
    cases hst
  · have e := tk_ins tkd_338 hd
    subst e
    have hst : some (339, ([.inr (5, 0), .inr (2, x0), .inr (2, x29), b3, .inl (i0, i0), b5, b6] : List rvV), ([.inr (2, x29), .inl (ans, ans)] : List rvV), aw, kc, ks) = some o := hst
    have e := Option.some.inj hst
    subst e
    exact ⟨rfl, Or.inr (Or.inr (Or.inr (Or.inr (Or.inl rfl))))⟩
  · have e := tk_ins tkd_339 hd
    subst e
    have hst : (none : Option rvS) = some o := hst
    cases hst
  · have e := tk_ins tkd_342 hd
    subst e
    have hJ : rvJ 342 1106 = some 1448 := rfl
    simp only [rvStep] at hst
    split at hst
    · split at hst
      · rename_i t _ hj
        rw [hJ] at hj
        have e1 := Option.some.inj hj
        have e := Option.some.inj hst
        subst e
        exact ⟨rfl, Or.inr (Or.inr (Or.inr (Or.inr (Or.inr (Or.inr (Or.inr (Or.inr e1.symm)))))))⟩
      · have e := Option.some.inj hst
        subst e
        exact ⟨rfl, Or.inr (Or.inr (Or.inr (Or.inr (Or.inr (Or.inr (Or.inl rfl))))))⟩
      · cases hst
    · cases hst
  · have e := tk_ins tkd_345 hd
    subst e
    have hst : some (346, ([.inr (5, 0), .inr (2, x0), .inr (2, x29), b3, .inl (i0, i0), b5, b6] : List rvV), (rvK 0 :: st : List rvV), aw, kc, ks) = some o := hst
    have e := Option.some.inj hst
    subst e
    exact ⟨rfl, Or.inr (Or.inr (Or.inr (Or.inr (Or.inr (Or.inr (Or.inr (Or.inl rfl)))))))⟩
  · have e := tk_ins tkd_346 hd
    subst e
    have hst : (none : Option rvS) = some o := hst
    cases hst
  · have e := tk_ins tkd_1448 hd
    subst e
    cases hok
theorem PCM_T {j : Nat} {as : List rvV} {aw : rvH} : PCM rvTab rvInf rvRet 316 rvMth j as aw (fun _ => True) := fun _ h => EvM_mono (fun _ q => ⟨q, trivial⟩) h
theorem trkA_call (pX : PCM rvTab rvInf rvRet 316 rvMth 235 [.inr (2, x0)] aw0 (fun res => res.1 = some (.inl (ans, ans)))) {al0 : List rvV} (pc : Nat) (al st : List rvV) (aw : rvH) (kc ks j2 : Nat) (as rest : List rvV) (hinv : xInv (fun _ => lwTb) lwInf 316 pc st aw kc ks j2 as rest) (h : trkA al0 aw0 x0 ans (pc, al, st, aw, kc, ks)) : ∃ P : xRes2 → Prop, PCM rvTab rvInf rvRet 316 rvMth j2 as aw P ∧ ∀ res, P res → ∀ kc' ks', trkA al0 aw0 x0 ans (pc + 3, al, res.1.toList ++ rest, res.2, kc', ks') := by
  obtain ⟨n40, n334, n338, n342, n345, n346, n1448⟩ := tkb_no
  obtain ⟨hal, h⟩ := h
  dsimp only at hal h
  subst hal
  rcases h with ⟨rfl, rfl, rfl⟩ | ⟨rfl, rfl, rfl⟩ | ⟨rfl, rfl, rfl⟩ | ⟨rfl, rfl⟩ | rfl | rfl | rfl | rfl | rfl
  · exact absurd (tk_no hinv n40) id
  · exact absurd (tk_no hinv n334) id
  · obtain ⟨rfl, rfl, rfl⟩ := tk_call hinv tkb_335
    refine ⟨_, pX, fun res hres kc' ks' => ⟨rfl, Or.inr (Or.inr (Or.inr (Or.inl ⟨rfl, ?_⟩)))⟩⟩
    have hres : res.1 = some (.inl (ans, ans)) := hres
    show res.1.toList ++ [] = _
    rw [hres]
    rfl
  · exact absurd (tk_no hinv n338) id
  · exact ⟨_, PCM_T, fun res _ kc' ks' => ⟨rfl, Or.inr (Or.inr (Or.inr (Or.inr (Or.inr (Or.inl rfl)))))⟩⟩
  · exact absurd (tk_no hinv n342) id
  · exact absurd (tk_no hinv n345) id
  · exact absurd (tk_no hinv n346) id
  · exact absurd (tk_no hinv n1448) id
/-- the reference's half -/
def trkB (al0 : List rvV) (aw1 : rvH) (x29 : Nat) (ans : Int) (o : rvS) : Prop := o.2.1 = al0 ∧ ((o.1 = 338 ∧ o.2.2.1 = [.inl (ans, ans)] ∧ o.2.2.2.1 = aw1) ∨ (o.1 = 339 ∧ o.2.2.1 = [.inr (2, x29), .inl (ans, ans)] ∧ o.2.2.2.1 = aw1) ∨ (o.1 = 342 ∧ o.2.2.1 = [.inl (ans, ans), .inl (ans, ans)]) ∨ o.1 = 1448)
theorem rvCmp_eq (a : Int) : rvCmp .eq (a, a) (a, a) = some true := by
  show rvEq (a, a) (a, a) = some true
  simp [rvEq, rvOne]
theorem trkB_step (pc : Nat) (al st : List rvV) (aw : rvH) (kc ks : Nat) (i : Instr) (len a1 a2 a3 : Nat) (o : rvS) (hd : decode cL_law pc = .ok (i, rvSz i len)) (hok : lwOk i = true) (hst : rvStep rvTy rvNf rvTxt sc 600000 7000000 7 i a1 a2 a3 pc al st aw kc ks = some o) (h : trkB [.inr (5, 0), .inr (2, x0), .inr (2, x29), b3, .inl (i0, i0), b5, b6] aw0 x29 ans (pc, al, st, aw, kc, ks)) : trkB [.inr (5, 0), .inr (2, x0), .inr (2, x29), b3, .inl (i0, i0), b5, b6] aw0 x29 ans o := by
  obtain ⟨hal, h⟩ := h
  dsimp only at hal h
  subst hal
  rcases h with ⟨rfl, rfl, rfl⟩ | ⟨rfl, rfl, rfl⟩ | ⟨rfl, rfl⟩ | rfl
  · have e := tk_ins tkd_338 hd
    subst e
    have hst : some (339, ([.inr (5, 0), .inr (2, x0), .inr (2, x29), b3, .inl (i0, i0), b5, b6] : List rvV), ([.inr (2, x29), .inl (ans, ans)] : List rvV), aw, kc, ks) = some o := hst
    have e := Option.some.inj hst
    subst e
    exact ⟨rfl, Or.inr (Or.inl ⟨rfl, rfl, rfl⟩)⟩
  · have e := tk_ins tkd_339 hd
    subst e
    have hst : (none : Option rvS) = some o := hst
    cases hst
  · have e := tk_ins tkd_342 hd
    subst e
    have hst : (match rvCmp .eq (ans, ans) (ans, ans), rvJ 342 1106 with
      | some true, some t => some (t, ([.inr (5, 0), .inr (2, x0), .inr (2, x29), b3, .inl (i0, i0), b5, b6] : List rvV), ([] : List rvV), aw, kc, ks)
      | some false, some _ => some (342 + 3, ([.inr (5, 0), .inr (2, x0), .inr (2, x29), b3, .inl (i0, i0), b5, b6] : List rvV), ([] : List rvV), aw, kc, ks)
      | _, _ => none) = some o := hst
    rw [rvCmp_eq] at hst
    have hst : some (1448, ([.inr (5, 0), .inr (2, x0), .inr (2, x29), b3, .inl (i0, i0), b5, b6] : List rvV), ([] : List rvV), aw, kc, ks) = some o := hst
    have e := Option.some.inj hst
    subst e
    exact ⟨rfl, Or.inr (Or.inr (Or.inr rfl))⟩
  · have e := tk_ins tkd_1448 hd
    subst e
    cases hok
theorem trkB_call (pM : PCM rvTab rvInf rvRet 316 rvMth 24 [.inr (2, x29)] aw0 (fun res => res.1 = some (.inl (ans, ans)))) {al0 : List rvV} (pc : Nat) (al st : List rvV) (aw : rvH) (kc ks j2 : Nat) (as rest : List rvV) (hinv : xInv (fun _ => lwTb) lwInf 316 pc st aw kc ks j2 as rest) (h : trkB al0 aw0 x29 ans (pc, al, st, aw, kc, ks)) : ∃ P : xRes2 → Prop, PCM rvTab rvInf rvRet 316 rvMth j2 as aw P ∧ ∀ res, P res → ∀ kc' ks', trkB al0 aw0 x29 ans (pc + 3, al, res.1.toList ++ rest, res.2, kc', ks') := by
  obtain ⟨n40, n334, n338, n342, n345, n346, n1448⟩ := tkb_no
  obtain ⟨hal, h⟩ := h
  dsimp only at hal h
  subst hal
  rcases h with ⟨rfl, rfl, rfl⟩ | ⟨rfl, rfl, rfl⟩ | ⟨rfl, rfl⟩ | rfl
  · exact absurd (tk_no hinv n338) id
  · obtain ⟨rfl, rfl, rfl⟩ := tk_call hinv tkb_339
    refine ⟨_, pM, fun res hres kc' ks' => ⟨rfl, Or.inr (Or.inr (Or.inl ⟨rfl, ?_⟩))⟩⟩
    have hres : res.1 = some (.inl (ans, ans)) := hres
    show res.1.toList ++ [_] = _
    rw [hres]
    rfl
  · exact absurd (tk_no hinv n342) id
  · exact absurd (tk_no hinv n1448) id
end T1
