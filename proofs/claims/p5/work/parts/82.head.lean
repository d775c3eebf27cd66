/-! The loop's head and its end, all turns. -/
theorem lwd_23 : decode cL_law 23 = .ok (.iload 4, 2) := by decide +kernel
theorem lwd_25 : decode cL_law 25 = .ok (.aload_n 0, 1) := by decide +kernel
theorem lwd_27 : decode cL_law 27 = .ok (.bipush 6, 2) := by decide +kernel
theorem lwd_29 : decode cL_law 29 = .ok (.isub, 1) := by decide +kernel
theorem lwd_30 : decode cL_law 30 = .ok (.if_icmp .gt 1424, 3) := by decide +kernel
theorem lwd_33 : decode cL_law 33 = .ok (.aload_n 0, 1) := by decide +kernel
theorem lwd_34 : decode cL_law 34 = .ok (.iload 4, 2) := by decide +kernel
theorem lwd_36 : decode cL_law 36 = .ok (.iaload, 1) := by decide +kernel
theorem lwd_37 : decode cL_law 37 = .ok (.bipush 63, 2) := by decide +kernel
theorem lwd_39 : decode cL_law 39 = .ok (.iand, 1) := by decide +kernel
theorem lwd_1448 : decode cL_law 1448 = .ok (.iinc 4 6, 3) := by decide +kernel
theorem lwd_1451 : decode cL_law 1451 = .ok (.goto (-1428), 3) := by decide +kernel
theorem lwd_1454 : decode cL_law 1454 = .ok (.iconst 1, 1) := by decide +kernel
theorem lw_gt {a b : Int} (h : b < a) : rvCmp .gt (a, a) (b, b) = some true := by
  show (bif decide (b < a) then some true else bif decide (a ≤ b) then some false else none) = _
  rw [decide_eq_true h]
  rfl
theorem lw_ngt {a b : Int} (h : ¬ b < a) : rvCmp .gt (a, a) (b, b) = some false := by
  show (bif decide (b < a) then some true else bif decide (a ≤ b) then some false else none) = _
  rw [decide_eq_false h, decide_eq_true (by omega : a ≤ b)]
  rfl
/-- what the machine gives: any instruction of the law -/
def lwSf (RG : rvS → Prop) (sc : List (Int × Int)) : Prop := ∀ (pc : Nat) (al st : List rvV) (aw : rvH) (kc ks : Nat) (i : Instr) (len a1 a2 a3 wi : Nat) (o : rvS), decode cL_law pc = .ok (i, rvSz i len) → rvAux RL false i a1 a2 wi = true → rvStep rvTy rvNf rvTxt sc 600000 7000000 7 i a1 a2 a3 pc al st aw kc ks = some o → RG o → RG (pc, al, st, aw, kc, ks)
/-- a turn, from the switch on, if it ends with what holds at the head -/
def lwTurn (PJ : List Nat → rvH → Prop) (RG : rvS → Prop) (sc : List (Int × Int)) : Prop := ∀ (i v1 v2 v3 v4 v5 : Int) (zs r : List Int) (T pl : List Nat) (aw : rvH) (b1 b2 b3 b5 b6 : rvV) (kc ks w : Nat), r = i :: v1 :: v2 :: v3 :: v4 :: v5 :: zs → lwInv r T pl aw → PJ pl aw → lwLoc pl b1 b2 b3 → exV b5 → exV b6 → (∀ k : Nat, 1 ≤ k → k ≤ 5 → ∃ v, ([.inl (v1, v1), .inl (v2, v2), .inl (v3, v3), .inl (v4, v4), .inl (v5, v5)] : List rvV)[k - 1]? = some (.inl v) ∧ sc[i.toNat + k]? = some v) → 0 ≤ i → i ≤ 3066 → w < 64 → kc + 60 ≤ 600000 → ks + 1200 ≤ 7000000 →
  (∀ (c1 c2 c3 c5 c6 : rvV) (aw' : rvH) (r' : List Int) (T' pl' : List Nat) (k s : Nat), lwInv r' T' pl' aw' → PJ pl' aw' → lwLoc pl' c1 c2 c3 → exV c5 → exV c6 → k ≤ 40 → s ≤ 800 → RG (1448, [.inr (5, 0), c1, c2, c3, .inl (i, i), c5, c6], [], aw', kc + k, ks + s)) → RG (40, [.inr (5, 0), b1, b2, b3, .inl (i, i), b5, b6], [.inl ((w : Int), (w : Int))], aw, kc, ks)
section LWH
variable {RG : rvS → Prop} {sc : List (Int × Int)}
set_option maxHeartbeats 1000000 in
theorem lw_loop {PJ : List Nat → rvH → Prop} (mS : lwSf RG sc) (mT : lwTurn PJ RG sc) (mL : ∀ (al st : List rvV) (aw : rvH) (kc ks : Nat), RG (27, al, .inl ((sc.length : Int), (sc.length : Int)) :: st, aw, kc, ks) → RG (26, al, .inr (5, 0) :: st, aw, kc, ks)) (mE : ∀ (al : List rvV) (aw : rvH) (kc ks : Nat), kc ≤ 600000 → ks ≤ 7000000 → RG (1455, al, [.inl (1, 1)], aw, kc, ks)) (hL : sc.length ≤ 3072) (hsc : ∀ (k : Nat) (v : Int × Int), sc[k]? = some v → v.2 = v.1 ∧ xIn32 v.1) :
    ∀ (n i kc ks : Nat) (r : List Int) (T pl : List Nat) (aw : rvH) (b1 b2 b3 b5 b6 : rvV), sc.length < i + n → i ≤ 3078 → kc + 60 * n + 60 ≤ 600000 → ks + 1200 * n + 1200 ≤ 7000000 → lwInv r T pl aw → PJ pl aw → lwLoc pl b1 b2 b3 → exV b5 → exV b6 → RG (23, [.inr (5, 0), b1, b2, b3, .inl ((i : Int), (i : Int)), b5, b6], [], aw, kc, ks) := by
  intro n
  induction n with
  | zero =>
    intro i kc ks r T pl aw b1 b2 b3 b5 b6 h1 h2 h3 h4 h5 hPI h6 hb5 hb6
    refine mS 23 _ [] aw kc ks (.iload 4) 2 0 0 0 0 (25, [.inr (5, 0), b1, b2, b3, .inl ((i : Int), (i : Int)), b5, b6], [.inl ((i : Int), (i : Int))], aw, kc, ks) lwd_23 rfl rfl ?_
    refine mS 25 _ _ aw kc ks (.aload_n 0) 1 0 0 0 0 (26, [.inr (5, 0), b1, b2, b3, .inl ((i : Int), (i : Int)), b5, b6], [.inr (5, 0), .inl ((i : Int), (i : Int))], aw, kc, ks) lwd_25 rfl rfl ?_
    refine mL _ _ aw kc ks ?_
    refine mS 27 _ _ aw kc ks (.bipush 6) 2 0 0 0 0 (29, [.inr (5, 0), b1, b2, b3, .inl ((i : Int), (i : Int)), b5, b6], [.inl (6, 6), .inl ((sc.length : Int), (sc.length : Int)), .inl ((i : Int), (i : Int))], aw, kc, ks) lwd_27 rfl rfl ?_
    have es : (Int32.ofInt (sc.length : Int) - Int32.ofInt 6).toInt = (sc.length : Int) - 6 := xi_sub ⟨by omega, by omega⟩ ⟨by omega, by omega⟩ ⟨by omega, by omega⟩
    refine mS 29 _ _ aw kc ks .isub 1 0 0 0 0 (30, [.inr (5, 0), b1, b2, b3, .inl ((i : Int), (i : Int)), b5, b6], [.inl ((sc.length : Int) - 6, (sc.length : Int) - 6), .inl ((i : Int), (i : Int))], aw, kc, ks) lwd_29 rfl ?_ ?_
    · show some ((29 + 1 : Nat), [.inr (5, 0), b1, b2, b3, .inl ((i : Int), (i : Int)), b5, b6], rvBin (· - ·) ((sc.length : Int), (sc.length : Int)) (6, 6) :: [(.inl ((i : Int), (i : Int)) : rvV)], aw, kc, ks) = _
      rw [rvBin_pt, es]
    refine mS 30 _ _ aw kc ks (.if_icmp .gt 1424) 3 0 0 0 0 (1454, [.inr (5, 0), b1, b2, b3, .inl ((i : Int), (i : Int)), b5, b6], [], aw, kc, ks) lwd_30 rfl ?_ ?_
    · show (match rvCmp .gt ((i : Int), (i : Int)) ((sc.length : Int) - 6, (sc.length : Int) - 6), rvJ 30 1424 with
        | some true, some t => some (t, ([.inr (5, 0), b1, b2, b3, .inl ((i : Int), (i : Int)), b5, b6] : List rvV), ([] : List rvV), aw, kc, ks)
        | some false, some _ => some (30 + 3, ([.inr (5, 0), b1, b2, b3, .inl ((i : Int), (i : Int)), b5, b6] : List rvV), ([] : List rvV), aw, kc, ks)
        | _, _ => none) = _
      rw [lw_gt (by omega)]
      rfl
    refine mS 1454 _ _ aw kc ks (.iconst 1) 1 0 0 0 0 (1455, [.inr (5, 0), b1, b2, b3, .inl ((i : Int), (i : Int)), b5, b6], [.inl (1, 1)], aw, kc, ks) lwd_1454 rfl rfl ?_
    exact mE _ aw kc ks (by omega) (by omega)
  | succ n ih =>
    intro i kc ks r T pl aw b1 b2 b3 b5 b6 h1 h2 h3 h4 h5 hPI h6 hb5 hb6
    refine mS 23 _ [] aw kc ks (.iload 4) 2 0 0 0 0 (25, [.inr (5, 0), b1, b2, b3, .inl ((i : Int), (i : Int)), b5, b6], [.inl ((i : Int), (i : Int))], aw, kc, ks) lwd_23 rfl rfl ?_
    refine mS 25 _ _ aw kc ks (.aload_n 0) 1 0 0 0 0 (26, [.inr (5, 0), b1, b2, b3, .inl ((i : Int), (i : Int)), b5, b6], [.inr (5, 0), .inl ((i : Int), (i : Int))], aw, kc, ks) lwd_25 rfl rfl ?_
    refine mL _ _ aw kc ks ?_
    refine mS 27 _ _ aw kc ks (.bipush 6) 2 0 0 0 0 (29, [.inr (5, 0), b1, b2, b3, .inl ((i : Int), (i : Int)), b5, b6], [.inl (6, 6), .inl ((sc.length : Int), (sc.length : Int)), .inl ((i : Int), (i : Int))], aw, kc, ks) lwd_27 rfl rfl ?_
    have es : (Int32.ofInt (sc.length : Int) - Int32.ofInt 6).toInt = (sc.length : Int) - 6 := xi_sub ⟨by omega, by omega⟩ ⟨by omega, by omega⟩ ⟨by omega, by omega⟩
    refine mS 29 _ _ aw kc ks .isub 1 0 0 0 0 (30, [.inr (5, 0), b1, b2, b3, .inl ((i : Int), (i : Int)), b5, b6], [.inl ((sc.length : Int) - 6, (sc.length : Int) - 6), .inl ((i : Int), (i : Int))], aw, kc, ks) lwd_29 rfl ?_ ?_
    · show some ((29 + 1 : Nat), [.inr (5, 0), b1, b2, b3, .inl ((i : Int), (i : Int)), b5, b6], rvBin (· - ·) ((sc.length : Int), (sc.length : Int)) (6, 6) :: [(.inl ((i : Int), (i : Int)) : rvV)], aw, kc, ks) = _
      rw [rvBin_pt, es]
    by_cases hg : (sc.length : Int) - 6 < (i : Int)
    · refine mS 30 _ _ aw kc ks (.if_icmp .gt 1424) 3 0 0 0 0 (1454, [.inr (5, 0), b1, b2, b3, .inl ((i : Int), (i : Int)), b5, b6], [], aw, kc, ks) lwd_30 rfl ?_ ?_
      · show (match rvCmp .gt ((i : Int), (i : Int)) ((sc.length : Int) - 6, (sc.length : Int) - 6), rvJ 30 1424 with
          | some true, some t => some (t, ([.inr (5, 0), b1, b2, b3, .inl ((i : Int), (i : Int)), b5, b6] : List rvV), ([] : List rvV), aw, kc, ks)
          | some false, some _ => some (30 + 3, ([.inr (5, 0), b1, b2, b3, .inl ((i : Int), (i : Int)), b5, b6] : List rvV), ([] : List rvV), aw, kc, ks)
          | _, _ => none) = _
        rw [lw_gt hg]
        rfl
      refine mS 1454 _ _ aw kc ks (.iconst 1) 1 0 0 0 0 (1455, [.inr (5, 0), b1, b2, b3, .inl ((i : Int), (i : Int)), b5, b6], [.inl (1, 1)], aw, kc, ks) lwd_1454 rfl rfl ?_
      exact mE _ aw kc ks (by omega) (by omega)
    · refine mS 30 _ _ aw kc ks (.if_icmp .gt 1424) 3 0 0 0 0 (33, [.inr (5, 0), b1, b2, b3, .inl ((i : Int), (i : Int)), b5, b6], [], aw, kc, ks) lwd_30 rfl ?_ ?_
      · show (match rvCmp .gt ((i : Int), (i : Int)) ((sc.length : Int) - 6, (sc.length : Int) - 6), rvJ 30 1424 with
          | some true, some t => some (t, ([.inr (5, 0), b1, b2, b3, .inl ((i : Int), (i : Int)), b5, b6] : List rvV), ([] : List rvV), aw, kc, ks)
          | some false, some _ => some (30 + 3, ([.inr (5, 0), b1, b2, b3, .inl ((i : Int), (i : Int)), b5, b6] : List rvV), ([] : List rvV), aw, kc, ks)
          | _, _ => none) = _
        rw [lw_ngt hg]
        rfl
      have hat : ∀ k : Nat, k ≤ 5 → ∃ v : Int, sc[i + k]? = some (v, v) ∧ xIn32 v := by
        intro k hk
        have hlt : i + k < sc.length := by omega
        have e := List.getElem?_eq_getElem hlt
        obtain ⟨e1, e2⟩ := hsc _ _ e
        refine ⟨(sc[i + k]).1, ?_, e2⟩
        rw [e]
        congr 1
        exact Prod.ext rfl e1
      obtain ⟨v0, p0, q0⟩ := hat 0 (by omega)
      obtain ⟨v1, p1, q1⟩ := hat 1 (by omega)
      obtain ⟨v2, p2, q2⟩ := hat 2 (by omega)
      obtain ⟨v3, p3, q3⟩ := hat 3 (by omega)
      obtain ⟨v4, p4, q4⟩ := hat 4 (by omega)
      obtain ⟨v5, p5, q5⟩ := hat 5 (by omega)
      refine mS 33 _ _ aw kc ks (.aload_n 0) 1 0 0 0 0 (34, [.inr (5, 0), b1, b2, b3, .inl ((i : Int), (i : Int)), b5, b6], [.inr (5, 0)], aw, kc, ks) lwd_33 rfl rfl ?_
      refine mS 34 _ _ aw kc ks (.iload 4) 2 0 0 0 0 (36, [.inr (5, 0), b1, b2, b3, .inl ((i : Int), (i : Int)), b5, b6], [.inl ((i : Int), (i : Int)), .inr (5, 0)], aw, kc, ks) lwd_34 rfl rfl ?_
      refine mS 36 _ _ aw kc ks .iaload 1 0 0 0 0 (37, [.inr (5, 0), b1, b2, b3, .inl ((i : Int), (i : Int)), b5, b6], [.inl (v0, v0)], aw, kc, ks) lwd_36 rfl ?_ ?_
      · show (match rvIdx ((i : Int), (i : Int)) sc.length with
          | some j => match sc[j]? with
            | some a => bif Nat.beq 0 0 then some (36 + 1, _, [(Sum.inl a : rvV)], aw, kc, ks) else none
            | none => none
          | none => none) = _
        have hx : rvIdx ((i : Int), (i : Int)) sc.length = some i := by
          show (bif decide ((i : Int) = (i : Int)) && (decide (0 ≤ (i : Int)) && decide ((i : Int) < (sc.length : Int))) then some (i : Int).toNat else none) = _
          rw [decide_eq_true (rfl : (i : Int) = (i : Int)), decide_eq_true (by omega : 0 ≤ (i : Int)), decide_eq_true (by omega : (i : Int) < (sc.length : Int))]
          rfl
        rw [hx]
        show (match sc[i]? with
            | some a => bif Nat.beq 0 0 then some (36 + 1, _, [(Sum.inl a : rvV)], aw, kc, ks) else none
            | none => none) = _
        rw [show sc[i]? = some (v0, v0) from p0]
        rfl
      refine mS 37 _ _ aw kc ks (.bipush 63) 2 0 0 0 0 (39, [.inr (5, 0), b1, b2, b3, .inl ((i : Int), (i : Int)), b5, b6], [.inl (63, 63), .inl (v0, v0)], aw, kc, ks) lwd_37 rfl rfl ?_
      have e63 : (Int32.ofInt 63).toInt = 63 := by decide
      obtain ⟨w1, w2⟩ := xi_and_r (x := Int32.ofInt v0) (y := Int32.ofInt 63) (by rw [e63]; omega)
      rw [e63] at w2
      have ew : (((Int32.ofInt v0 &&& Int32.ofInt 63).toInt.toNat : Nat) : Int) = (Int32.ofInt v0 &&& Int32.ofInt 63).toInt := by omega
      refine mS 39 _ _ aw kc ks .iand 1 0 0 0 0 (40, [.inr (5, 0), b1, b2, b3, .inl ((i : Int), (i : Int)), b5, b6], [.inl ((((Int32.ofInt v0 &&& Int32.ofInt 63).toInt.toNat : Nat) : Int), (((Int32.ofInt v0 &&& Int32.ofInt 63).toInt.toNat : Nat) : Int))], aw, kc, ks) lwd_39 rfl ?_ ?_
      · show some ((39 + 1 : Nat), [.inr (5, 0), b1, b2, b3, .inl ((i : Int), (i : Int)), b5, b6], [rvBin (· &&& ·) (v0, v0) (63, 63)], aw, kc, ks) = _
        rw [rvBin_pt, ew]
      refine mT (i : Int) v1 v2 v3 v4 v5 (r.drop 6) _ T pl aw b1 b2 b3 b5 b6 kc ks _ rfl (lw_other h5 (by omega : 0 ≤ (i : Int)) (by omega) q1 q2 q3 q4 q5) hPI h6 hb5 hb6 ?_ (by omega) (by omega) (by omega) (by omega) (by omega) ?_
      · intro k k1 k2
        have ei : ((i : Int)).toNat = i := by omega
        rw [ei]
        match k, k1, k2 with
        | 1, _, _ => exact ⟨_, rfl, p1⟩
        | 2, _, _ => exact ⟨_, rfl, p2⟩
        | 3, _, _ => exact ⟨_, rfl, p3⟩
        | 4, _, _ => exact ⟨_, rfl, p4⟩
        | 5, _, _ => exact ⟨_, rfl, p5⟩
        | m + 6, _, k2 => omega
      · intro c1 c2 c3 c5 c6 aw' r' T' pl' k s g1 gPI g2 gc5 gc6 g3 g4
        have ea : (Int32.ofInt (i : Int) + Int32.ofInt 6).toInt = ((i + 6 : Nat) : Int) := by
          rw [xi_add ⟨by omega, by omega⟩ ⟨by omega, by omega⟩ ⟨by omega, by omega⟩]
          omega
        have hl9 := g2
        obtain ⟨-, -, x3, rfl, -⟩ := g2
        refine mS 1448 _ [] aw' _ _ (.iinc 4 6) 3 0 0 0 0 (1451, [.inr (5, 0), c1, c2, .inr (2, x3), .inl (((i + 6 : Nat) : Int), ((i + 6 : Nat) : Int)), c5, c6], [], aw', kc + k, ks + s) lwd_1448 rfl ?_ ?_
        · show some ((1448 + 3 : Nat), [.inr (5, 0), c1, c2, .inr (2, x3), rvBin (· + ·) ((i : Int), (i : Int)) (6, 6), c5, c6], ([] : List rvV), aw', kc + k, ks + s) = _
          rw [rvBin_pt, ea]
        refine mS 1451 _ [] aw' _ _ (.goto (-1428)) 3 0 0 0 0 (23, [.inr (5, 0), c1, c2, .inr (2, x3), .inl (((i + 6 : Nat) : Int), ((i + 6 : Nat) : Int)), c5, c6], [], aw', kc + k, ks + s) lwd_1451 rfl rfl ?_
        exact ih (i + 6) (kc + k) (ks + s) r' T' pl' aw' c1 c2 (.inr (2, x3)) c5 c6 (by omega) (by omega) (by omega) (by omega) g1 gPI hl9 gc5 gc6
end LWH
