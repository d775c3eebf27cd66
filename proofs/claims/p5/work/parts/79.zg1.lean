/-! The readers' loops over names. -/
def f_X9_wordOf (a1 : Int64) (H : hH) : Int := fstI (fun i => decide (H.2.1 6 i = a1)) 23 0
theorem lp_X9_wordOf {g : Nat → Nat} (a1 : Int64) (H : hH) (hr : RF H.2.2.1) : ∀ (k i : Nat), i + k = 23 → J g rvTab rvInf rvRet 316 rvMth 2 (fun res => res.1 = some (pt (fstI (fun i => decide (H.2.1 6 i = a1)) k i)) ∧ RH g res.2 H) 2 [rf (g 4), lg a1, rvU, pt (i : Int)] [] H := by
  intro k
  induction k with
  | zero =>
    intro i hk
    have hj : 2 < 316 := by decide
    refine J_ld 3 jw hj rfl rfl rfl rfl ?_
    refine J_cst 5 jw hj rfl rfl rfl ?_
    refine J_icmp (t := 27) jw hj rfl (evn rfl) rfl (fun (h0 : ¬ (i : Int) < 23) => ?_) (fun (h0 : (i : Int) < 23) => ?_)
    · refine J_cst 28 jw hj rfl rfl rfl ?_
      exact J_ret rfl (Or.inl rfl) (fun aw hR => ⟨rfl, hR⟩)
    · exact absurd h0 (by omega)
  | succ k ih =>
    intro i hk
    have hj : 2 < 316 := by decide
    refine J_ld 3 jw hj rfl rfl rfl rfl ?_
    refine J_cst 5 jw hj rfl rfl rfl ?_
    refine J_icmp (t := 27) jw hj rfl (evn rfl) rfl (fun (h0 : ¬ (i : Int) < 23) => ?_) (fun (h0 : (i : Int) < 23) => ?_)
    · exact absurd h0 (by omega)
    · refine J_ld 9 jw hj rfl rfl rfl rfl ?_
      refine J_gfR (k := 6) jw hj rfl (evn rfl) (by decide) (by decide) (RFa hr rfl) ?_
      refine J_ld 13 jw hj rfl rfl rfl rfl ?_
      refine J_lald jw hj rfl (evn rfl) (fun _ => ?_)
      refine J_ld 15 jw hj rfl rfl rfl rfl ?_
      refine J_lcmp jw hj rfl (evn rfl) ?_
      refine J_ifc (t := 21) jw hj rfl (evn rfl) rfl (fun (h1 : ¬ ((lg_cmp (H.2.1 6 ((i : Int)).toNat) a1).toInt) = 0) => ?_) (fun (h1 : ((lg_cmp (H.2.1 6 ((i : Int)).toNat) a1).toInt) = 0) => ?_)
      · refine J_iinc (al' := [rf (g 4), lg a1, rvU, pt (iAdd (i : Int) 1)]) jw hj rfl (evn rfl) rfl rfl ?_
        refine J_goto 2 jw hj rfl rfl ?_
        rw [show iAdd (i : Int) 1 = ((i + 1 : Nat) : Int) from iAdd_1 (by omega)]
        have e := ih (i + 1) (by omega)
        have e2 : fstI (fun i => decide (H.2.1 6 i = a1)) (k + 1) i = fstI (fun i => decide (H.2.1 6 i = a1)) k (i + 1) := by
          show (if decide (H.2.1 6 i = a1) = true then _ else _) = _
          rw [if_neg (fun q => h1 ((lgc0 _ _).mpr (by simpa using q)))]
        rw [e2]
        exact e
      · refine J_ld 20 jw hj rfl rfl rfl rfl ?_
        exact J_ret rfl (Or.inl rfl) (fun aw hR => by
        refine ⟨?_, hR⟩
        show some (pt (i : Int)) = some (pt (if decide (H.2.1 6 i = a1) = true then (i : Int) else _))
        rw [if_pos (by simpa using (lgc0 _ _).mp h1)])
theorem sp_X9_wordOf {g : Nat → Nat} (a1 : Int64) (H : hH) (hr : RF H.2.2.1) : SP g rvTab rvInf rvRet 316 rvMth 2 [rf (g 4), lg a1] H (some (pt (f_X9_wordOf a1 H))) H := by
  have hj : 2 < 316 := by decide
  refine J_SP hj (Nat.le_of_ble_eq_true rfl) ?_
  show J g rvTab rvInf rvRet 316 rvMth 2 _ 0 [rf (g 4), lg a1, rvU, rvU] [] H
  refine J_cst 1 jw hj rfl rfl rfl ?_
  refine J_st 2 [rf (g 4), lg a1, rvU, pt 0] (k := 3) jw hj rfl (Or.inr (Or.inr (Or.inl ⟨_, rfl, rfl, rfl⟩))) rfl ?_
  exact lp_X9_wordOf a1 H hr 23 0 rfl
def f_X10_numberOf (a1 : Int64) (a2 : Int) (H : hH) : Int := fstI (fun i => decide (H.2.1 62 (iAdd (iMul a2 10) (i : Int)).toNat = a1)) (H.1 61 (a2).toNat).toNat 0
theorem lp_X10_numberOf {g : Nat → Nat} (a1 : Int64) (a2 : Int) (H : hH) (hr : RF H.2.2.1) : ∀ (k i : Nat), i + k = (H.1 61 (a2).toNat).toNat → J g rvTab rvInf rvRet 316 rvMth 7 (fun res => res.1 = some (pt (fstI (fun i => decide (H.2.1 62 (iAdd (iMul a2 10) (i : Int)).toNat = a1)) k i)) ∧ RH g res.2 H) 3 [rf (g 60), lg a1, rvU, pt a2, pt (i : Int)] [] H := by
  intro k
  induction k with
  | zero =>
    intro i hk
    have hj : 7 < 316 := by decide
    refine J_ld 5 jw hj rfl rfl rfl rfl ?_
    refine J_ld 6 jw hj rfl rfl rfl rfl ?_
    refine J_gfR (k := 61) jw hj rfl (evn rfl) (by decide) (by decide) (RFa hr rfl) ?_
    refine J_ld 10 jw hj rfl rfl rfl rfl ?_
    refine J_iald jw hj rfl (Or.inl rfl) (fun z0 r0 => ?_)
    refine J_icmp (t := 40) jw hj rfl (evn rfl) rfl (fun (h0 : ¬ (i : Int) < H.1 61 (a2).toNat) => ?_) (fun (h0 : (i : Int) < H.1 61 (a2).toNat) => ?_)
    · refine J_cst 41 jw hj rfl rfl rfl ?_
      exact J_ret rfl (Or.inl rfl) (fun aw hR => ⟨rfl, hR⟩)
    · exact absurd h0 (by omega)
  | succ k ih =>
    intro i hk
    have hj : 7 < 316 := by decide
    refine J_ld 5 jw hj rfl rfl rfl rfl ?_
    refine J_ld 6 jw hj rfl rfl rfl rfl ?_
    refine J_gfR (k := 61) jw hj rfl (evn rfl) (by decide) (by decide) (RFa hr rfl) ?_
    refine J_ld 10 jw hj rfl rfl rfl rfl ?_
    refine J_iald jw hj rfl (Or.inl rfl) (fun z0 r0 => ?_)
    refine J_icmp (t := 40) jw hj rfl (evn rfl) rfl (fun (h0 : ¬ (i : Int) < H.1 61 (a2).toNat) => ?_) (fun (h0 : (i : Int) < H.1 61 (a2).toNat) => ?_)
    · exact absurd h0 (by omega)
    · refine J_ld 15 jw hj rfl rfl rfl rfl ?_
      refine J_gfR (k := 62) jw hj rfl (evn rfl) (by decide) (by decide) (RFa hr rfl) ?_
      refine J_ld 19 jw hj rfl rfl rfl rfl ?_
      refine J_cst 21 jw hj rfl rfl rfl ?_
      refine J_bin jw hj rfl rfl ?_
      refine J_ld 24 jw hj rfl rfl rfl rfl ?_
      refine J_bin jw hj rfl rfl ?_
      refine J_lald jw hj rfl (evn rfl) (fun _ => ?_)
      refine J_ld 27 jw hj rfl rfl rfl rfl ?_
      refine J_lcmp jw hj rfl (evn rfl) ?_
      refine J_ifc (t := 34) jw hj rfl (evn rfl) rfl (fun (h1 : ¬ ((lg_cmp (H.2.1 62 (iAdd (iMul a2 10) (i : Int)).toNat) a1).toInt) = 0) => ?_) (fun (h1 : ((lg_cmp (H.2.1 62 (iAdd (iMul a2 10) (i : Int)).toNat) a1).toInt) = 0) => ?_)
      · refine J_iinc (al' := [rf (g 60), lg a1, rvU, pt a2, pt (iAdd (i : Int) 1)]) jw hj rfl (evn rfl) rfl rfl ?_
        refine J_goto 3 jw hj rfl rfl ?_
        rw [show iAdd (i : Int) 1 = ((i + 1 : Nat) : Int) from iAdd_1 (by have := r0.2; omega)]
        have e := ih (i + 1) (by omega)
        have e2 : fstI (fun i => decide (H.2.1 62 (iAdd (iMul a2 10) (i : Int)).toNat = a1)) (k + 1) i = fstI (fun i => decide (H.2.1 62 (iAdd (iMul a2 10) (i : Int)).toNat = a1)) k (i + 1) := by
          show (if decide (H.2.1 62 (iAdd (iMul a2 10) (i : Int)).toNat = a1) = true then _ else _) = _
          rw [if_neg (fun q => h1 ((lgc0 _ _).mpr (by simpa using q)))]
        rw [e2]
        exact e
      · refine J_ld 33 jw hj rfl rfl rfl rfl ?_
        exact J_ret rfl (Or.inl rfl) (fun aw hR => by
        refine ⟨?_, hR⟩
        show some (pt (i : Int)) = some (pt (if decide (H.2.1 62 (iAdd (iMul a2 10) (i : Int)).toNat = a1) = true then (i : Int) else _))
        rw [if_pos (by simpa using (lgc0 _ _).mp h1)])
theorem sp_X10_numberOf {g : Nat → Nat} (a1 : Int64) (a2 : Int) (H : hH) (hr : RF H.2.2.1) : SP g rvTab rvInf rvRet 316 rvMth 7 [rf (g 60), lg a1, pt a2] H (some (pt (f_X10_numberOf a1 a2 H))) H := by
  have hj : 7 < 316 := by decide
  refine J_SP hj (Nat.le_of_ble_eq_true rfl) ?_
  show J g rvTab rvInf rvRet 316 rvMth 7 _ 0 [rf (g 60), lg a1, rvU, pt a2, rvU] [] H
  refine J_cst 1 jw hj rfl rfl rfl ?_
  refine J_st 3 [rf (g 60), lg a1, rvU, pt a2, pt 0] (k := 4) jw hj rfl (Or.inl ⟨rfl, rfl⟩) rfl ?_
  exact lp_X10_numberOf a1 a2 H hr _ 0 (Nat.zero_add _)
def f_X10_isTold (a1 : Int64) (H : hH) : Int := anyI (fun i => decide (¬ f_X10_numberOf a1 (i : Int) H = -1)) 4 0
theorem lp_X10_isTold {g : Nat → Nat} (a1 : Int64) (H : hH) (hr : RF H.2.2.1) : ∀ (k i : Nat), i + k = 4 → J g rvTab rvInf rvRet 316 rvMth 8 (fun res => res.1 = some (pt (anyI (fun i => decide (¬ f_X10_numberOf a1 (i : Int) H = -1)) k i)) ∧ RH g res.2 H) 2 [rf (g 60), lg a1, rvU, pt (i : Int)] [] H := by
  intro k
  induction k with
  | zero =>
    intro i hk
    have hj : 8 < 316 := by decide
    refine J_ld 3 jw hj rfl rfl rfl rfl ?_
    refine J_cst 4 jw hj rfl rfl rfl ?_
    refine J_icmp (t := 25) jw hj rfl (evn rfl) rfl (fun (h0 : ¬ (i : Int) < 4) => ?_) (fun (h0 : (i : Int) < 4) => ?_)
    · refine J_cst 26 jw hj rfl rfl rfl ?_
      exact J_ret rfl (Or.inl rfl) (fun aw hR => ⟨rfl, hR⟩)
    · exact absurd h0 (by omega)
  | succ k ih =>
    intro i hk
    have hj : 8 < 316 := by decide
    refine J_ld 3 jw hj rfl rfl rfl rfl ?_
    refine J_cst 4 jw hj rfl rfl rfl ?_
    refine J_icmp (t := 25) jw hj rfl (evn rfl) rfl (fun (h0 : ¬ (i : Int) < 4) => ?_) (fun (h0 : (i : Int) < 4) => ?_)
    · exact absurd h0 (by omega)
    · refine J_ld 8 jw hj rfl rfl rfl rfl ?_
      refine J_ld 9 jw hj rfl rfl rfl rfl ?_
      refine J_ld 10 jw hj rfl rfl rfl rfl ?_
      refine J_callV1 jw rfl (Or.inl ⟨_, rfl⟩) rfl rfl (sp_X10_numberOf (g := g) a1 (i : Int) H hr) ?_
      refine J_cst 14 jw hj rfl rfl rfl ?_
      refine J_icmp (t := 19) jw hj rfl (evn rfl) rfl (fun (h1 : f_X10_numberOf a1 (i : Int) H = (-1)) => ?_) (fun (h1 : ¬ f_X10_numberOf a1 (i : Int) H = (-1)) => ?_)
      · refine J_iinc (al' := [rf (g 60), lg a1, rvU, pt (iAdd (i : Int) 1)]) jw hj rfl (evn rfl) rfl rfl ?_
        refine J_goto 2 jw hj rfl rfl ?_
        rw [show iAdd (i : Int) 1 = ((i + 1 : Nat) : Int) from iAdd_1 (by omega)]
        have e := ih (i + 1) (by omega)
        have e2 : anyI (fun i => decide (¬ f_X10_numberOf a1 (i : Int) H = -1)) (k + 1) i = anyI (fun i => decide (¬ f_X10_numberOf a1 (i : Int) H = -1)) k (i + 1) := by
          show (if decide (¬ f_X10_numberOf a1 (i : Int) H = -1) = true then _ else _) = _
          rw [if_neg (fun q => absurd h1 (by simpa using q))]
        rw [e2]
        exact e
      · refine J_cst 18 jw hj rfl rfl rfl ?_
        exact J_ret rfl (Or.inl rfl) (fun aw hR => by
        refine ⟨?_, hR⟩
        show some (pt 1) = some (pt (if decide (¬ f_X10_numberOf a1 (i : Int) H = -1) = true then 1 else _))
        rw [if_pos (by simpa using h1)])
theorem sp_X10_isTold {g : Nat → Nat} (a1 : Int64) (H : hH) (hr : RF H.2.2.1) : SP g rvTab rvInf rvRet 316 rvMth 8 [rf (g 60), lg a1] H (some (pt (f_X10_isTold a1 H))) H := by
  have hj : 8 < 316 := by decide
  refine J_SP hj (Nat.le_of_ble_eq_true rfl) ?_
  show J g rvTab rvInf rvRet 316 rvMth 8 _ 0 [rf (g 60), lg a1, rvU, rvU] [] H
  refine J_cst 1 jw hj rfl rfl rfl ?_
  refine J_st 2 [rf (g 60), lg a1, rvU, pt 0] (k := 3) jw hj rfl (Or.inr (Or.inr (Or.inl ⟨_, rfl, rfl, rfl⟩))) rfl ?_
  exact lp_X10_isTold a1 H hr 4 0 rfl
def f_X12_find (a1 : Int) (a2 : Int) (H : hH) : Int := fstI (fun i => decide (H.2.1 34 (iAdd a1 (i : Int)).toNat = H.2.1 29 17)) (a2).toNat 0
theorem lp_X12_find {g : Nat → Nat} (a1 a2 : Int) (H : hH) (hr : RM H.2.2.1) (h2 : a2 ≤ 2147483647) : ∀ (k i : Nat), i + k = (a2).toNat → J g rvTab rvInf rvRet 316 rvMth 21 (fun res => res.1 = some (pt (fstI (fun i => decide (H.2.1 34 (iAdd a1 (i : Int)).toNat = H.2.1 29 17)) k i)) ∧ RH g res.2 H) 2 [rf (g 29), pt a1, pt a2, pt (i : Int)] [] H := by
  intro k
  induction k with
  | zero =>
    intro i hk
    have hj : 21 < 316 := by decide
    refine J_ld 3 jw hj rfl rfl rfl rfl ?_
    refine J_ld 4 jw hj rfl rfl rfl rfl ?_
    refine J_icmp (t := 31) jw hj rfl (evn rfl) rfl (fun (h0 : ¬ (i : Int) < a2) => ?_) (fun (h0 : (i : Int) < a2) => ?_)
    · refine J_cst 32 jw hj rfl rfl rfl ?_
      exact J_ret rfl (Or.inl rfl) (fun aw hR => ⟨rfl, hR⟩)
    · exact absurd h0 (by omega)
  | succ k ih =>
    intro i hk
    have hj : 21 < 316 := by decide
    refine J_ld 3 jw hj rfl rfl rfl rfl ?_
    refine J_ld 4 jw hj rfl rfl rfl rfl ?_
    refine J_icmp (t := 31) jw hj rfl (evn rfl) rfl (fun (h0 : ¬ (i : Int) < a2) => ?_) (fun (h0 : (i : Int) < a2) => ?_)
    · exact absurd h0 (by omega)
    · refine J_ld 8 jw hj rfl rfl rfl rfl ?_
      refine J_gfR (k := 34) jw hj rfl (evn rfl) (by decide) (by decide) (RMa hr rfl) ?_
      refine J_ld 12 jw hj rfl rfl rfl rfl ?_
      refine J_ld 13 jw hj rfl rfl rfl rfl ?_
      refine J_bin jw hj rfl rfl ?_
      refine J_lald jw hj rfl (evn rfl) (fun _ => ?_)
      refine J_ld 16 jw hj rfl rfl rfl rfl ?_
      refine J_gfL jw hj rfl (evn rfl) (by decide) rfl ?_
      refine J_lcmp jw hj rfl (evn rfl) ?_
      refine J_ifc (t := 25) jw hj rfl (evn rfl) rfl (fun (h1 : ¬ ((lg_cmp (H.2.1 34 (iAdd a1 (i : Int)).toNat) (H.2.1 29 17)).toInt) = 0) => ?_) (fun (h1 : ((lg_cmp (H.2.1 34 (iAdd a1 (i : Int)).toNat) (H.2.1 29 17)).toInt) = 0) => ?_)
      · refine J_iinc (al' := [rf (g 29), pt a1, pt a2, pt (iAdd (i : Int) 1)]) jw hj rfl (evn rfl) rfl rfl ?_
        refine J_goto 2 jw hj rfl rfl ?_
        rw [show iAdd (i : Int) 1 = ((i + 1 : Nat) : Int) from iAdd_1 (by omega)]
        have e := ih (i + 1) (by omega)
        have e2 : fstI (fun i => decide (H.2.1 34 (iAdd a1 (i : Int)).toNat = H.2.1 29 17)) (k + 1) i = fstI (fun i => decide (H.2.1 34 (iAdd a1 (i : Int)).toNat = H.2.1 29 17)) k (i + 1) := by
          show (if decide (H.2.1 34 (iAdd a1 (i : Int)).toNat = H.2.1 29 17) = true then _ else _) = _
          rw [if_neg (fun q => h1 ((lgc0 _ _).mpr (by simpa using q)))]
        rw [e2]
        exact e
      · refine J_ld 24 jw hj rfl rfl rfl rfl ?_
        exact J_ret rfl (Or.inl rfl) (fun aw hR => by
        refine ⟨?_, hR⟩
        show some (pt (i : Int)) = some (pt (if decide (H.2.1 34 (iAdd a1 (i : Int)).toNat = H.2.1 29 17) = true then (i : Int) else _))
        rw [if_pos (by simpa using (lgc0 _ _).mp h1)])
theorem sp_X12_find {g : Nat → Nat} (a1 a2 : Int) (H : hH) (hr : RM H.2.2.1) : SP g rvTab rvInf rvRet 316 rvMth 21 [rf (g 29), pt a1, pt a2] H (some (pt (f_X12_find a1 a2 H))) H := by
  have hj : 21 < 316 := by decide
  refine SP_in (fun hx => ?_)
  have h2 : a2 ≤ 2147483647 := (exL_hd (exL_tl (exL_tl hx))).2.2
  refine J_SP hj (Nat.le_of_ble_eq_true rfl) ?_
  show J g rvTab rvInf rvRet 316 rvMth 21 _ 0 [rf (g 29), pt a1, pt a2, rvU] [] H
  refine J_cst 1 jw hj rfl rfl rfl ?_
  refine J_st 2 [rf (g 29), pt a1, pt a2, pt 0] (k := 3) jw hj rfl (Or.inr (Or.inr (Or.inl ⟨_, rfl, rfl, rfl⟩))) rfl ?_
  exact lp_X12_find a1 a2 H hr h2 _ 0 (Nat.zero_add _)
def f_X12_isName (H : hH) : Int := if H.1 29 11 = 1 then allI (fun i => decide (¬ H.2.1 29 17 = H.2.1 35 i)) 23 0 else 0
theorem lp_X12_isName {g : Nat → Nat} (H : hH) (hr : RM H.2.2.1) : ∀ (k i : Nat) (b : Int), i + k = 23 → (b = 0 ∨ b = 1) → J g rvTab rvInf rvRet 316 rvMth 20 (fun res => res.1 = some (pt (if b = 0 then 0 else allI (fun i => decide (¬ H.2.1 29 17 = H.2.1 35 i)) k i)) ∧ RH g res.2 H) 16 [rf (g 29), pt b, pt (i : Int)] [] H := by
  intro k
  induction k with
  | zero =>
    intro i b hk hb
    have hj : 20 < 316 := by decide
    refine J_ld 17 jw hj rfl rfl rfl rfl ?_
    refine J_cst 19 jw hj rfl rfl rfl ?_
    refine J_icmp (t := 52) jw hj rfl (evn rfl) rfl (fun (h0 : ¬ (i : Int) < 23) => ?_) (fun (h0 : (i : Int) < 23) => ?_)
    · refine J_ld 53 jw hj rfl rfl rfl rfl ?_
      exact J_ret rfl (Or.inl rfl) (fun aw hR => by
        refine ⟨?_, hR⟩
        show some (pt b) = some (pt (if b = 0 then 0 else 1))
        rcases hb with e | e <;> subst e <;> rfl)
    · exact absurd h0 (by omega)
  | succ k ih =>
    intro i b hk hb
    have hj : 20 < 316 := by decide
    refine J_ld 17 jw hj rfl rfl rfl rfl ?_
    refine J_cst 19 jw hj rfl rfl rfl ?_
    refine J_icmp (t := 52) jw hj rfl (evn rfl) rfl (fun (h0 : ¬ (i : Int) < 23) => ?_) (fun (h0 : (i : Int) < 23) => ?_)
    · exact absurd h0 (by omega)
    · refine J_ld 23 jw hj rfl rfl rfl rfl ?_
      refine J_ifc (t := 44) jw hj rfl (evn rfl) rfl (fun (h1 : b = 0) => ?_) (fun (h1 : ¬ b = 0) => ?_)
      · refine J_cst 45 jw hj rfl rfl rfl ?_
        refine J_st 46 [rf (g 29), pt 0, pt (i : Int)] (k := 1) jw hj rfl (Or.inr (Or.inr (Or.inl ⟨_, rfl, rfl, rfl⟩))) rfl ?_
        refine J_iinc (al' := [rf (g 29), pt 0, pt (iAdd (i : Int) 1)]) jw hj rfl (evn rfl) rfl rfl ?_
        refine J_goto 16 jw hj rfl rfl ?_
        rw [show iAdd (i : Int) 1 = ((i + 1 : Nat) : Int) from iAdd_1 (by omega)]
        have e := ih (i + 1) 0 (by omega) (by first | exact Or.inl rfl | exact Or.inr rfl)
        have hb0 : b = 0 := h1
        rw [if_pos hb0]
        exact e
      · refine J_ld 27 jw hj rfl rfl rfl rfl ?_
        refine J_gfL jw hj rfl (evn rfl) (by decide) rfl ?_
        refine J_ld 31 jw hj rfl rfl rfl rfl ?_
        refine J_gfR (k := 35) jw hj rfl (evn rfl) (by decide) (by decide) (RMa hr rfl) ?_
        refine J_ld 35 jw hj rfl rfl rfl rfl ?_
        refine J_lald jw hj rfl (evn rfl) (fun _ => ?_)
        refine J_lcmp jw hj rfl (evn rfl) ?_
        refine J_ifc (t := 44) jw hj rfl (evn rfl) rfl (fun (h2 : ((lg_cmp (H.2.1 29 17) (H.2.1 35 ((i : Int)).toNat)).toInt) = 0) => ?_) (fun (h2 : ¬ ((lg_cmp (H.2.1 29 17) (H.2.1 35 ((i : Int)).toNat)).toInt) = 0) => ?_)
        · refine J_cst 45 jw hj rfl rfl rfl ?_
          refine J_st 46 [rf (g 29), pt 0, pt (i : Int)] (k := 1) jw hj rfl (Or.inr (Or.inr (Or.inl ⟨_, rfl, rfl, rfl⟩))) rfl ?_
          refine J_iinc (al' := [rf (g 29), pt 0, pt (iAdd (i : Int) 1)]) jw hj rfl (evn rfl) rfl rfl ?_
          refine J_goto 16 jw hj rfl rfl ?_
          rw [show iAdd (i : Int) 1 = ((i + 1 : Nat) : Int) from iAdd_1 (by omega)]
          have e := ih (i + 1) 0 (by omega) (by first | exact Or.inl rfl | exact Or.inr rfl)
          have hb0 : ¬ b = 0 := h1
          rw [if_neg hb0]
          have e2 : allI (fun i => decide (¬ H.2.1 29 17 = H.2.1 35 i)) (k + 1) i = 0 := by
            show (if decide (¬ H.2.1 29 17 = H.2.1 35 i) = true then _ else _) = _
            rw [if_neg (by simpa using (lgc0 _ _).mp h2)]
          rw [e2]
          exact e
        · refine J_cst 41 jw hj rfl rfl rfl ?_
          refine J_goto 45 jw hj rfl rfl ?_
          refine J_st 46 [rf (g 29), pt 1, pt (i : Int)] (k := 1) jw hj rfl (Or.inr (Or.inr (Or.inl ⟨_, rfl, rfl, rfl⟩))) rfl ?_
          refine J_iinc (al' := [rf (g 29), pt 1, pt (iAdd (i : Int) 1)]) jw hj rfl (evn rfl) rfl rfl ?_
          refine J_goto 16 jw hj rfl rfl ?_
          rw [show iAdd (i : Int) 1 = ((i + 1 : Nat) : Int) from iAdd_1 (by omega)]
          have e := ih (i + 1) 1 (by omega) (by first | exact Or.inl rfl | exact Or.inr rfl)
          have hb0 : ¬ b = 0 := h1
          rw [if_neg hb0]
          have e2 : allI (fun i => decide (¬ H.2.1 29 17 = H.2.1 35 i)) (k + 1) i = allI (fun i => decide (¬ H.2.1 29 17 = H.2.1 35 i)) k (i + 1) := by
            show (if decide (¬ H.2.1 29 17 = H.2.1 35 i) = true then _ else _) = _
            rw [if_pos (by simpa using fun q => h2 ((lgc0 _ _).mpr q))]
          rw [e2]
          exact e
theorem sp_X12_isName {g : Nat → Nat} (H : hH) (hr : RM H.2.2.1) : SP g rvTab rvInf rvRet 316 rvMth 20 [rf (g 29)] H (some (pt (f_X12_isName H))) H := by
  have hj : 20 < 316 := by decide
  refine J_SP hj (Nat.le_of_ble_eq_true rfl) ?_
  show J g rvTab rvInf rvRet 316 rvMth 20 _ 0 [rf (g 29), rvU, rvU] [] H
  refine J_ld 1 jw hj rfl rfl rfl rfl ?_
  refine J_gfI jw hj rfl (evn rfl) (by decide) rfl (fun r0 => ?_)
  refine J_cst 5 jw hj rfl rfl rfl ?_
  refine J_icmp (t := 12) jw hj rfl (evn rfl) rfl (fun (h0 : ¬ H.1 29 11 = 1) => ?_) (fun (h0 : H.1 29 11 = 1) => ?_)
  · refine J_cst 13 jw hj rfl rfl rfl ?_
    refine J_st 14 [rf (g 29), pt 0, rvU] (k := 1) jw hj rfl (Or.inr (Or.inr (Or.inl ⟨_, rfl, rfl, rfl⟩))) rfl ?_
    refine J_cst 15 jw hj rfl rfl rfl ?_
    refine J_st 16 [rf (g 29), pt 0, pt 0] (k := 2) jw hj rfl (Or.inr (Or.inr (Or.inl ⟨_, rfl, rfl, rfl⟩))) rfl ?_
    have e := lp_X12_isName (g := g) H hr 23 0 0 rfl (by first | exact Or.inl rfl | exact Or.inr rfl)
    unfold f_X12_isName
    rw [if_neg h0]
    exact e
  · refine J_cst 9 jw hj rfl rfl rfl ?_
    refine J_goto 13 jw hj rfl rfl ?_
    refine J_st 14 [rf (g 29), pt 1, rvU] (k := 1) jw hj rfl (Or.inr (Or.inr (Or.inl ⟨_, rfl, rfl, rfl⟩))) rfl ?_
    refine J_cst 15 jw hj rfl rfl rfl ?_
    refine J_st 16 [rf (g 29), pt 1, pt 0] (k := 2) jw hj rfl (Or.inr (Or.inr (Or.inl ⟨_, rfl, rfl, rfl⟩))) rfl ?_
    have e := lp_X12_isName (g := g) H hr 23 0 1 rfl (by first | exact Or.inl rfl | exact Or.inr rfl)
    unfold f_X12_isName
    rw [if_pos h0]
    exact e
