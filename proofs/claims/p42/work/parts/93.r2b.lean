/-! A turn with sentence, run exactly (after p4's district). -/
theorem tk4_1335 : decode cL_law 1335 = .ok (.aload_n 1, 1) := by decide +kernel
theorem tk4_1336 : decode cL_law 1336 = .ok (.invokevirtual 186, 3) := by decide +kernel
theorem tk4_1339 : decode cL_law 1339 = .ok (.aload_n 2, 1) := by decide +kernel
theorem tk4_1340 : decode cL_law 1340 = .ok (.invokevirtual 189, 3) := by decide +kernel
theorem tk4_1343 : decode cL_law 1343 = .ok (.if_icmp .eq 105, 3) := by decide +kernel
theorem tk4_1346 : decode cL_law 1346 = .ok (.iconst 0, 1) := by decide +kernel
theorem tk4_1347 : decode cL_law 1347 = .ok (.ireturn, 1) := by decide +kernel
theorem tkb4_no : lwTb 40 = none ∧ lwTb 1335 = none ∧ lwTb 1339 = none ∧ lwTb 1343 = none ∧ lwTb 1346 = none ∧ lwTb 1347 = none ∧ lwTb 1448 = none := by decide +kernel
theorem tkb4_1336 : (lwTb 1336).map (fun e => (e.2.2.1, e.2.2.2.1)) = some (307, 0) := by decide +kernel
theorem tkb4_1340 : (lwTb 1340).map (fun e => (e.2.2.1, e.2.2.2.1)) = some (121, 0) := by decide +kernel
/-- a call without arguments -/
theorem tk_call4 {pc j : Nat} {x : rvV} {st : List rvV} {aw : rvH} {kc ks j2 : Nat} {as rest : List rvV} (h : xInv (fun _ => lwTb) lwInf 316 pc (x :: st) aw kc ks j2 as rest) (hm : (lwTb pc).map (fun e => (e.2.2.1, e.2.2.2.1)) = some (j, 0)) : j2 = j ∧ as = [x] ∧ rest = st := by
  obtain ⟨i, len, a2, a3, wi, as0, rest0, t1, t2, t3, t4, t5, t6, t7, t8⟩ := h
  have t1 : lwTb pc = some (i, len, j2, a2, a3, wi) := t1
  rw [t1] at hm
  have hm := Option.some.inj hm
  have e1 : j2 = j := (Prod.mk.inj hm).1
  have e2 : a2 = 0 := (Prod.mk.inj hm).2
  subst e2
  have t2 : some (([] : List rvV), x :: st) = some (as0, rest0) := t2
  have t2 := Option.some.inj t2
  have q1 : [] = as0 := (Prod.mk.inj t2).1
  have q2 : x :: st = rest0 := (Prod.mk.inj t2).2
  rcases t8 with ⟨⟨idx, hi⟩, -⟩ | ⟨-, v, w1, w2, -⟩
  · subst hi
    unfold lwTb at t1
    split at t1
    · rename_i idx' r hf
      have e := Option.some.inj t1
      have := (Prod.mk.inj e).1
      cases this
    · cases t1
  · rw [← q2] at w1
    have w3 := List.cons.inj w1
    refine ⟨e1, ?_, w3.2.symm⟩
    rw [w2, ← q1, ← w3.1]
/-- the class's half -/
def tr4A (al0 : List rvV) (aw0 : rvH) (x0 : Nat) (ans : Int) (A1 : rvH → Prop) (o : rvS) : Prop := o.2.1 = al0 ∧ ((o.1 = 40 ∧ o.2.2.1 = [.inl (40, 40)] ∧ o.2.2.2.1 = aw0) ∨ (o.1 = 1335 ∧ o.2.2.1 = [] ∧ o.2.2.2.1 = aw0) ∨ (o.1 = 1336 ∧ o.2.2.1 = [.inr (2, x0)] ∧ o.2.2.2.1 = aw0) ∨ (o.1 = 1339 ∧ o.2.2.1 = [.inl (ans, ans)] ∧ A1 o.2.2.2.1) ∨ o.1 = 1340 ∨ o.1 = 1343 ∨ o.1 = 1346 ∨ o.1 = 1347 ∨ o.1 = 1448)
section T1
variable {sc : List (Int × Int)} {aw0 : rvH} {x0 x29 : Nat} {ans i0 : Int} {b3 b5 b6 : rvV} {A1 A2 : rvH → Prop}
theorem tr4A_step (pc : Nat) (al st : List rvV) (aw : rvH) (kc ks : Nat) (i : Instr) (len a1 a2 a3 : Nat) (o : rvS) (hd : decode cL_law pc = .ok (i, rvSz i len)) (hok : lwOk i = true) (hst : rvStep rvTy rvNf rvTxt sc 600000 7000000 7 i a1 a2 a3 pc al st aw kc ks = some o) (h : tr4A [.inr (5, 0), .inr (2, x0), .inr (2, x29), b3, .inl (i0, i0), b5, b6] aw0 x0 ans A1 (pc, al, st, aw, kc, ks)) : tr4A [.inr (5, 0), .inr (2, x0), .inr (2, x29), b3, .inl (i0, i0), b5, b6] aw0 x0 ans A1 o := by
  obtain ⟨hal, h⟩ := h
  dsimp only at hal h
  subst hal
  rcases h with ⟨rfl, rfl, rfl⟩ | ⟨rfl, rfl, rfl⟩ | ⟨rfl, rfl, rfl⟩ | ⟨rfl, rfl, hA⟩ | rfl | rfl | rfl | rfl | rfl
  · have e := tk_ins tkd_40 hd
    subst e
    have hst : some (1335, ([.inr (5, 0), .inr (2, x0), .inr (2, x29), b3, .inl (i0, i0), b5, b6] : List rvV), ([] : List rvV), aw, kc, ks) = some o := hst
    have e := Option.some.inj hst
    subst e
    exact ⟨rfl, Or.inr (Or.inl ⟨rfl, rfl, rfl⟩)⟩
  · have e := tk_ins tk4_1335 hd
    subst e
    have hst : some (1336, ([.inr (5, 0), .inr (2, x0), .inr (2, x29), b3, .inl (i0, i0), b5, b6] : List rvV), ([.inr (2, x0)] : List rvV), aw, kc, ks) = some o := hst
    have e := Option.some.inj hst
    subst e
    exact ⟨rfl, Or.inr (Or.inr (Or.inl ⟨rfl, rfl, rfl⟩))⟩
  · have e := tk_ins tk4_1336 hd
    subst e
    have hst : (none : Option rvS) = some o := hst
    cases hst
  · have e := tk_ins tk4_1339 hd
    subst e
    have hst : some (1340, ([.inr (5, 0), .inr (2, x0), .inr (2, x29), b3, .inl (i0, i0), b5, b6] : List rvV), ([.inr (2, x29), .inl (ans, ans)] : List rvV), aw, kc, ks) = some o := hst
    have e := Option.some.inj hst
    subst e
    exact ⟨rfl, Or.inr (Or.inr (Or.inr (Or.inr (Or.inl rfl))))⟩
  · have e := tk_ins tk4_1340 hd
    subst e
    have hst : (none : Option rvS) = some o := hst
    cases hst
  · have e := tk_ins tk4_1343 hd
    subst e
    have hJ : rvJ 1343 105 = some 1448 := rfl
    simp only [rvStep] at hst
    split at hst
    · split at hst
      · rename_i t _ hj
        rw [hJ] at hj
        have e1 := Option.some.inj hj
        have e := Option.some.inj hst
        subst e
        exact ⟨rfl, Or.inr (Or.inr (Or.inr (Or.inr (Or.inr (Or.inr (Or.inr (Or.inr e1.symm)))))))⟩
      · have e := Option.some.inj hst
        subst e
        exact ⟨rfl, Or.inr (Or.inr (Or.inr (Or.inr (Or.inr (Or.inr (Or.inl rfl))))))⟩
      · cases hst
    · cases hst
  · have e := tk_ins tk4_1346 hd
    subst e
    have hst : some (1347, ([.inr (5, 0), .inr (2, x0), .inr (2, x29), b3, .inl (i0, i0), b5, b6] : List rvV), (rvK 0 :: st : List rvV), aw, kc, ks) = some o := hst
    have e := Option.some.inj hst
    subst e
    exact ⟨rfl, Or.inr (Or.inr (Or.inr (Or.inr (Or.inr (Or.inr (Or.inr (Or.inl rfl)))))))⟩
  · have e := tk_ins tk4_1347 hd
    subst e
    have hst : (none : Option rvS) = some o := hst
    cases hst
  · have e := tk_ins tkd_1448 hd
    subst e
    cases hok
theorem tr4A_call (pX : PCM rvTab rvInf rvRet 316 rvMth 307 [.inr (2, x0)] aw0 (fun res => res.1 = some (.inl (ans, ans)) ∧ A1 res.2)) {al0 : List rvV} (pc : Nat) (al st : List rvV) (aw : rvH) (kc ks j2 : Nat) (as rest : List rvV) (hinv : xInv (fun _ => lwTb) lwInf 316 pc st aw kc ks j2 as rest) (h : tr4A al0 aw0 x0 ans A1 (pc, al, st, aw, kc, ks)) : ∃ P : xRes2 → Prop, PCM rvTab rvInf rvRet 316 rvMth j2 as aw P ∧ ∀ res, P res → ∀ kc' ks', tr4A al0 aw0 x0 ans A1 (pc + 3, al, res.1.toList ++ rest, res.2, kc', ks') := by
  obtain ⟨n40, n1335, n1339, n1343, n1346, n1347, n1448⟩ := tkb4_no
  obtain ⟨hal, h⟩ := h
  dsimp only at hal h
  subst hal
  rcases h with ⟨rfl, rfl, rfl⟩ | ⟨rfl, rfl, rfl⟩ | ⟨rfl, rfl, rfl⟩ | ⟨rfl, rfl, hA⟩ | rfl | rfl | rfl | rfl | rfl
  · exact absurd (tk_no hinv n40) id
  · exact absurd (tk_no hinv n1335) id
  · obtain ⟨rfl, rfl, rfl⟩ := tk_call4 hinv tkb4_1336
    refine ⟨_, pX, fun res hres kc' ks' => ⟨rfl, Or.inr (Or.inr (Or.inr (Or.inl ⟨rfl, ?_, hres.2⟩)))⟩⟩
    have hres : res.1 = some (.inl (ans, ans)) := hres.1
    show res.1.toList ++ [] = _
    rw [hres]
    rfl
  · exact absurd (tk_no hinv n1339) id
  · exact ⟨_, PCM_T, fun res _ kc' ks' => ⟨rfl, Or.inr (Or.inr (Or.inr (Or.inr (Or.inr (Or.inl rfl)))))⟩⟩
  · exact absurd (tk_no hinv n1343) id
  · exact absurd (tk_no hinv n1346) id
  · exact absurd (tk_no hinv n1347) id
  · exact absurd (tk_no hinv n1448) id
/-- the reference's half -/
def tr4B (al0 : List rvV) (aw1 : rvH) (x29 : Nat) (ans : Int) (A2 : rvH → Prop) (o : rvS) : Prop := o.2.1 = al0 ∧ ((o.1 = 1339 ∧ o.2.2.1 = [.inl (ans, ans)] ∧ o.2.2.2.1 = aw1) ∨ (o.1 = 1340 ∧ o.2.2.1 = [.inr (2, x29), .inl (ans, ans)] ∧ o.2.2.2.1 = aw1) ∨ (o.1 = 1343 ∧ o.2.2.1 = [.inl (ans, ans), .inl (ans, ans)] ∧ A2 o.2.2.2.1) ∨ (o.1 = 1448 ∧ A2 o.2.2.2.1))
theorem tr4B_step (pc : Nat) (al st : List rvV) (aw : rvH) (kc ks : Nat) (i : Instr) (len a1 a2 a3 : Nat) (o : rvS) (hd : decode cL_law pc = .ok (i, rvSz i len)) (hok : lwOk i = true) (hst : rvStep rvTy rvNf rvTxt sc 600000 7000000 7 i a1 a2 a3 pc al st aw kc ks = some o) (h : tr4B [.inr (5, 0), .inr (2, x0), .inr (2, x29), b3, .inl (i0, i0), b5, b6] aw0 x29 ans A2 (pc, al, st, aw, kc, ks)) : tr4B [.inr (5, 0), .inr (2, x0), .inr (2, x29), b3, .inl (i0, i0), b5, b6] aw0 x29 ans A2 o := by
  obtain ⟨hal, h⟩ := h
  dsimp only at hal h
  subst hal
  rcases h with ⟨rfl, rfl, rfl⟩ | ⟨rfl, rfl, rfl⟩ | ⟨rfl, rfl, hA⟩ | ⟨rfl, hA⟩
  · have e := tk_ins tk4_1339 hd
    subst e
    have hst : some (1340, ([.inr (5, 0), .inr (2, x0), .inr (2, x29), b3, .inl (i0, i0), b5, b6] : List rvV), ([.inr (2, x29), .inl (ans, ans)] : List rvV), aw, kc, ks) = some o := hst
    have e := Option.some.inj hst
    subst e
    exact ⟨rfl, Or.inr (Or.inl ⟨rfl, rfl, rfl⟩)⟩
  · have e := tk_ins tk4_1340 hd
    subst e
    have hst : (none : Option rvS) = some o := hst
    cases hst
  · have e := tk_ins tk4_1343 hd
    subst e
    have hst : (match rvCmp .eq (ans, ans) (ans, ans), rvJ 1343 105 with
      | some true, some t => some (t, ([.inr (5, 0), .inr (2, x0), .inr (2, x29), b3, .inl (i0, i0), b5, b6] : List rvV), ([] : List rvV), aw, kc, ks)
      | some false, some _ => some (1343 + 3, ([.inr (5, 0), .inr (2, x0), .inr (2, x29), b3, .inl (i0, i0), b5, b6] : List rvV), ([] : List rvV), aw, kc, ks)
      | _, _ => none) = some o := hst
    rw [rvCmp_eq] at hst
    have hst : some (1448, ([.inr (5, 0), .inr (2, x0), .inr (2, x29), b3, .inl (i0, i0), b5, b6] : List rvV), ([] : List rvV), aw, kc, ks) = some o := hst
    have e := Option.some.inj hst
    subst e
    exact ⟨rfl, Or.inr (Or.inr (Or.inr ⟨rfl, hA⟩))⟩
  · have e := tk_ins tkd_1448 hd
    subst e
    cases hok
theorem tr4B_call (pM : PCM rvTab rvInf rvRet 316 rvMth 121 [.inr (2, x29)] aw0 (fun res => res.1 = some (.inl (ans, ans)) ∧ A2 res.2)) {al0 : List rvV} (pc : Nat) (al st : List rvV) (aw : rvH) (kc ks j2 : Nat) (as rest : List rvV) (hinv : xInv (fun _ => lwTb) lwInf 316 pc st aw kc ks j2 as rest) (h : tr4B al0 aw0 x29 ans A2 (pc, al, st, aw, kc, ks)) : ∃ P : xRes2 → Prop, PCM rvTab rvInf rvRet 316 rvMth j2 as aw P ∧ ∀ res, P res → ∀ kc' ks', tr4B al0 aw0 x29 ans A2 (pc + 3, al, res.1.toList ++ rest, res.2, kc', ks') := by
  obtain ⟨n40, n1335, n1339, n1343, n1346, n1347, n1448⟩ := tkb4_no
  obtain ⟨hal, h⟩ := h
  dsimp only at hal h
  subst hal
  rcases h with ⟨rfl, rfl, rfl⟩ | ⟨rfl, rfl, rfl⟩ | ⟨rfl, rfl, hA⟩ | ⟨rfl, hA⟩
  · exact absurd (tk_no hinv n1339) id
  · obtain ⟨rfl, rfl, rfl⟩ := tk_call4 hinv tkb4_1340
    refine ⟨_, pM, fun res hres kc' ks' => ⟨rfl, Or.inr (Or.inr (Or.inl ⟨rfl, ?_, hres.2⟩))⟩⟩
    have hres : res.1 = some (.inl (ans, ans)) := hres.1
    show res.1.toList ++ [_] = _
    rw [hres]
    rfl
  · exact absurd (tk_no hinv n1343) id
  · exact absurd (tk_no hinv n1448) id
end T1
/-! What the lists of what is written leave (by hand). -/
def pjNo (ms : List Nat) : Bool := ghNo ms 66 && (ghNo ms 95 && (ghNo ms 65 && ghNo ms 90))
theorem pj_M : pjNo xlM = true := by decide +kernel
theorem pj_M2 : pjNo xlM2 = true := by decide +kernel
theorem pj_M3 : pjNo xlM3 = true := by decide +kernel
theorem pj_MS : pjNo xlMS = true := by decide +kernel
theorem pj_MI : pjNo xlMI = true := by decide +kernel
theorem pj_MR : pjNo xlMR = true := by decide +kernel
theorem pj_MX : pjNo xlMX = true := by decide +kernel
theorem mt_M : msT xlM = true := by decide +kernel
theorem mt_MA : msT xlMA = true := by decide +kernel
theorem no_MA : (ghNo xlMA 66 && ghNo xlMA 95) = true := by decide +kernel
theorem no_M2 : (ghNo xlM2 89 && (ghNo xlM2 90 && (ghNo xlM2 95 && (ghNo xlM2 91 && ghNo xlM2 108)))) = true := by decide +kernel
theorem no_M3 : (ghNo xlM3 7 && (ghNo xlM3 9 && (ghNo xlM3 10 && ghNo xlM3 108))) = true := by decide +kernel
theorem no_MS : (ghNo xlMS 7 && (ghNo xlMS 9 && (ghNo xlMS 10 && ghNo xlMS 108))) = true := by decide +kernel
theorem no_MI : (ghNo xlMI 7 && (ghNo xlMI 9 && (ghNo xlMI 10 && ghLt xlMI 91 91))) = true := by decide +kernel
theorem no_MR : (ghNo xlMR 7 && (ghNo xlMR 9 && (ghNo xlMR 10 && ghNo xlMR 108))) = true := by decide +kernel
theorem no_MX : (ghNo xlMX 110 && frSub xlMX xlMR) = true := by decide +kernel
theorem lw_f339 : lwF 339 = false := by decide +kernel
theorem lw_f1034 : lwF 1034 = false := by decide +kernel
theorem lw_f1409 : lwF 1409 = false := by decide +kernel
theorem mn_M : msN xlM = true := by decide +kernel
theorem mn_MA : msN xlMA = true := by decide +kernel
theorem no2_M2 : (ghNo xlM2 94 && ghNo xlM2 109) = true := by decide +kernel
theorem no2_M3 : (ghNo xlM3 8 && ghNo xlM3 109) = true := by decide +kernel
theorem no2_MS : (ghNo xlMS 8 && (ghNo xlMS 94 && (ghNo xlMS 109 && (ghLt xlMS 91 24 && ghNo xlMS 108)))) = true := by decide +kernel
theorem no2_MI : (ghNo xlMI 8 && ghNo xlMI 94) = true := by decide +kernel
theorem no2_MR : (ghNo xlMR 8 && ghNo xlMR 109) = true := by decide +kernel
theorem no2_MX : (ghNo xlMX 94 && ghNo xlMX 109) = true := by decide +kernel
theorem lw_f1339 : lwF 1339 = false := by decide +kernel
theorem PI_keepJ {ms T pl T1 pl1 : List Nat} {aw aw1 : rvH} (h : gS T pl aw) (hP : PI pl aw) (hf : lwFr ms T pl aw T1 pl1 aw1) (hj : pjNo ms = true) (hx : exH aw1) : PI pl1 aw1 := by
  obtain ⟨m1, hj⟩ := rv_and hj
  obtain ⟨m2, hj⟩ := rv_and hj
  obtain ⟨m3, m4⟩ := rv_and hj
  exact PI_keepG h hP hf m1 m2 m3 m4 hx
/-- the life's town is one -/
theorem hf_one {t t' : Nat} {aw : rvH} (h : HF t aw) (h' : HF t' aw) : t' = t := rf_inj (hV_one h'.2.2.2.2.1 h.2.2.2.2.1)
section T2
variable {RG : rvS → Prop} {sc : List (Int × Int)} {Met : Nat → List rvV → rvH → (xRes2 → Prop) → Prop}
set_option maxHeartbeats 4000000 in
theorem lw_c40 (mS : lwS RG sc) (mI : lwI RG Met) (msp : ∀ (pc : Nat) (al st : List rvV) (a : Int × Int) (aw : rvH) (kc ks : Nat), (∀ n, a.1 ≤ n → n ≤ a.2 → xIn32 n → RG (pc, al, .inl (n, n) :: st, aw, kc, ks)) → RG (pc, al, .inl a :: st, aw, kc, ks)) (hM : ∀ (j : Nat) (as : List rvV) (aw : rvH) (Q : xRes2 → Prop), EvM rvTab rvInf rvRet 316 rvMth j as aw Q → Met j as aw Q) (hpt : ∀ (k : Nat) (v : Int × Int), sc[k]? = some v → v.2 = v.1 ∧ xIn32 v.1) {i v1 v2 v3 v4 v5 : Int} {zs r : List Int} {T pl : List Nat} {aw : rvH} {b1 b2 b3 b5 b6 : rvV} {kc ks : Nat} (hr : r = i :: v1 :: v2 :: v3 :: v4 :: v5 :: zs) (h : lwInv r T pl aw) (hJ : PJ pl aw) (hl : lwLoc pl b1 b2 b3) (hb5 : exV b5) (hb6 : exV b6) (hsc : ∀ k : Nat, 1 ≤ k → k ≤ 5 → ∃ v, ([.inl (v1, v1), .inl (v2, v2), .inl (v3, v3), .inl (v4, v4), .inl (v5, v5)] : List rvV)[k - 1]? = some (.inl v) ∧ sc[i.toNat + k]? = some v) (hi : 0 ≤ i) (hi2 : i ≤ 3066) (hk : kc + 60 ≤ 600000) (hs : ks + 1200 ≤ 7000000)
    (hN : ∀ (c1 c2 c3 c5 c6 : rvV) (aw' : rvH) (r' : List Int) (T' pl' : List Nat) (k s : Nat), lwInv r' T' pl' aw' → PJ pl' aw' → lwLoc pl' c1 c2 c3 → exV c5 → exV c6 → k ≤ 40 → s ≤ 800 → RG (1448, [.inr (5, 0), c1, c2, c3, .inl (i, i), c5, c6], [], aw', kc + k, ks + s)) : RG (40, [.inr (5, 0), b1, b2, b3, .inl (i, i), b5, b6], [.inl (40, 40)], aw, kc, ks) := by
  obtain ⟨hP, hp, hT, hNm⟩ := hJ
  obtain ⟨ans, pX, pM⟩ := c40_XM h hP hp hT hNm
  have hT0 := hT
  obtain ⟨-, t0, hF, -⟩ := hT0
  have hl0 := hl
  obtain ⟨⟨x0, rfl, p0⟩, ⟨x29, rfl, p29⟩, ⟨x51, rfl, p51⟩⟩ := hl
  have hpl : pl.length = 52 := h.1.1.symm
  have hlen := lw_len h
  have hi32 : xIn32 i := ⟨by omega, by omega⟩
  have hcX := EvX_clo (tab := rvTab) (info := rvInf) (rets := rvRet) (NM := 316) (mth := rvMth) jw
  have hconX := xc_all hcX
  have clo1 := lwClo (RG := lwX RG (tr4A [.inr (5, 0), .inr (2, x0), .inr (2, x29), .inr (2, x51), .inl (i, i), b5, b6] aw x0 ans (fun a => SameT t0 aw a))) (k0 := kc) (s0 := ks) lw_rows lw_m9 lw_inf hcX (lwX_S mS hpt tr4A_step) (lwX_I mI hM (fun pc al st aw' kc' ks' j2 as rest _ hinv _ _ hR => by
    obtain ⟨P, q1, q2⟩ := tr4A_call (PCM_and (pX x0 p0) (sm_neutral (j := 307) (by decide) (SameT_refl hF) _)) pc al st aw' kc' ks' j2 as rest hinv hR
    exact ⟨P, q1, fun res hres _ => q2 res hres _ _⟩)) (lwX_sp msp) hi hi2 (by omega) (by omega) hsc
  have hrel := lw_rel (t := []) (E := []) (st := [.inl (0, 0, 40)]) (cs := [.inl (40, 40)]) (pc := 40) (kc := 0) (ks := 0) (b5 := b5) (b6 := b6) hr h hl0 ⟨xR_K _ _ _ ⟨by omega, by omega⟩, trivial⟩ (by have e : r ++ [] = r := List.append_nil r; rw [e]; exact h.2.2.2) xlMX
  have hK : xlRB xlCN xlMX xlLN (40, lwAl, [.inl (0, 0, 40)], lwAh, (0, xlMX, []) :: lwFs, (lwN ++ [], lwC), 0, 0) _ _ = true := xlKB_40
  have hG := (lw_runB clo1 hconX hK hrel (by rw [List.append_nil]; omega) (Post := fun _ => True) (fun ci Tm src rk r2 o2 hL h6 hrel2 => ?_)).2 rfl
  · have h40 := hG _ _ _ _ _ rfl
    dsimp only at h40
    rw [lw_f40, cond_false] at h40
    exact h40 ⟨exL_al hi32 hb5 hb6, exL_c ⟨rfl, by omega, by omega⟩ (fun v hv => by cases hv), hP.1⟩ ⟨rfl, Or.inl ⟨rfl, rfl, rfl⟩⟩
  obtain ⟨r3, T1, z, g1, gf, g3, g13, gst, gpc, gk, gs, gl⟩ := lw_cutN (P := (r2, T, pl, aw, [])) hpl (List.all_eq_true.mp lwTokN_all _ (List.mem_of_getElem? hL)) hrel2
  have gf : lwFr xlMX T pl aw T1 pl o2.2.2.2.1 := gf
  have g1 : lwInv4 r3 T1 pl o2.2.2.2.1 := g1
  refine ⟨fun h => absurd h (by omega), fun _ => ?_⟩
  intro c1 c2 c3 c5 c6 hal
  have hloc : lwLoc pl c1 c2 c3 := gl _ _ _ _ _ _ _ hal
  rw [gpc, lw_f1339, cond_false, gst]
  intro hex2 hr2
  obtain ⟨hal2, hcs⟩ := hr2
  dsimp only at hal2 hcs
  have hzA : z = ans ∧ SameT t0 aw o2.2.2.2.1 := by
    rcases hcs with ⟨e, -⟩ | ⟨e, -⟩ | ⟨e, -⟩ | ⟨-, e, hA⟩ | e | e | e | e | e
    · omega
    · omega
    · omega
    · have e1 := (List.cons.inj e).1
      exact ⟨(Prod.mk.inj (Sum.inl.inj e1)).1, hA⟩
    · omega
    · omega
    · omega
    · omega
    · omega
  obtain ⟨hz, hA1⟩ := hzA
  subst hz
  obtain ⟨m29, hno⟩ := rv_and xlMX_no
  obtain ⟨m30, hno⟩ := rv_and hno
  obtain ⟨m31, hno⟩ := rv_and hno
  obtain ⟨m34, m35⟩ := rv_and hno
  obtain ⟨k1, hk1⟩ : ∃ k, k = o2.2.2.2.2.1 := ⟨_, rfl⟩
  obtain ⟨s1, hs1⟩ : ∃ s, s = o2.2.2.2.2.2 := ⟨_, rfl⟩
  rw [← hk1, ← hs1]
  rw [← hk1] at gk
  rw [← hs1] at gs
  have pM1 := pM T1 o2.2.2.2.1 xlMX (gS_inv4 g1) hex2.2.2 gf m29 m30 m31 m34 m35 x29 p29
  have clo2 := lwClo (RG := lwX RG (tr4B [.inr (5, 0), .inr (2, x0), .inr (2, x29), .inr (2, x51), .inl (i, i), b5, b6] o2.2.2.2.1 x29 z (fun a => SameT t0 aw a))) (k0 := kc + k1) (s0 := ks + s1) lw_rows lw_m9 lw_inf hcX (lwX_S mS hpt tr4B_step) (lwX_I mI hM (fun pc al st aw' kc' ks' j2 as rest _ hinv _ _ hR => by
    obtain ⟨P, q1, q2⟩ := tr4B_call (PCM_and pM1 (sm_neutral (j := 121) (by decide) hA1 _)) pc al st aw' kc' ks' j2 as rest hinv hR
    exact ⟨P, q1, fun res hres _ => q2 res hres _ _⟩)) (lwX_sp msp) hi hi2 (by omega) (by omega) hsc
  have h6' : r2.take 6 = r.take 6 := by rw [h6, List.append_nil]
  have e : ∀ k, k < 6 → r3.getD k 0 = r.getD k 0 := fun k hk => (g3 k (by omega)).trans (getD_take6 h6' k hk)
  have hrel3 := lw_rel4 (i := i) (v1 := v1) (v2 := v2) (v3 := v3) (v4 := v4) (v5 := v5) (b5 := c5) (b6 := c6) (by rw [e 0 (by omega), hr]; rfl) (by rw [e 1 (by omega), hr]; rfl) (by rw [e 2 (by omega), hr]; rfl) (by rw [e 3 (by omega), hr]; rfl) (by rw [e 4 (by omega), hr]; rfl) (by rw [e 5 (by omega), hr]; rfl) g13 g1 hloc xlM
  have hKD : xlR xlM xlLO (1339, lwAl, [.inl (13, 1, 0)], lwAh2, (0, xlM, []) :: lwFs, (lwN4, lwC), 0, 0) _ _ = true := xlKB_140
  have hg2 := lw_one clo2 hconX (fun q hq => List.all_eq_true.mp lwTokO_all q hq) (fun _ al st aw' kc' ks' _ hb => ?_) hKD hrel3 (by rw [lw_len4 g1]; omega) hpl (fun d1 d2 d3 d5 d6 aw2 r4 T2 pl2 k2 s2 q1 qf q2 q3 q4 hex3 hR3 => ?_)
  · have h1339 := hg2 _ _ _ _ _ rfl
    dsimp only at h1339
    rw [lw_f1339, cond_false] at h1339
    exact h1339 hex2 ⟨hal2, Or.inl ⟨rfl, rfl, rfl⟩⟩
  · obtain ⟨-, hb⟩ := hb
    dsimp only at hb
    rcases hb with ⟨e, -⟩ | ⟨e, -⟩ | ⟨e, -⟩ | ⟨e, -⟩ <;> omega
  · have e5 : exV d5 := hex3.1 d5 (by simp)
    have e6 : exV d6 := hex3.1 d6 (by simp)
    have hsm : SameT t0 aw aw2 := by
      obtain ⟨-, hb⟩ := hR3
      dsimp only at hb
      rcases hb with ⟨e, -⟩ | ⟨e, -⟩ | ⟨e, -⟩ | ⟨-, q⟩
      · omega
      · omega
      · omega
      · exact q
    have epl := qf.2.1
    subst epl
    have gfw := lwFr_trans (lwFr_mono xlMX_sub gf) qf
    have hs1 : ∀ t1, HF t1 aw → SameT t1 aw aw2 := fun t1 h1 => by
      have e := hf_one hF h1
      subst e
      exact hsm
    have := hN d1 d2 d3 d5 d6 aw2 r4 T2 _ (k1 + k2) (s1 + s2) q1 ⟨PI_keepJ (gS_inv h) hP gfw pj_M hex3.2.2, hp, HT_turn hp (gS_inv h) hT mt_M gfw hs1, HN_turn hp (gS_inv h) hT hNm mn_M gfw hs1⟩ q2 e5 e6 (by omega) (by omega)
    rw [← Nat.add_assoc, ← Nat.add_assoc] at this
    exact this
end T2
