/-! The class's book: what exact runs of its reader answer (written by wip/p5/xb.py). -/
def rbL : List (Nat × Nat × Nat) := rtL ++ [(15, 0, 16), (15, 1, 17), (15, 2, 18), (52, 0, 53), (52, 1, 54)]
def RB (r : Nat → Nat → Option Nat) : Prop := ∀ q ∈ rbL, r q.1 q.2.1 = some q.2.2
theorem RBa {r : Nat → Nat → Option Nat} (h : RB r) {p f k : Nat} (hm : rbL.elem (p, f, k) = true) : r p f = some k := h (p, f, k) (List.elem_iff.mp hm)
theorem RBt {r : Nat → Nat → Option Nat} (h : RB r) : RT r := fun q hq => h q (List.mem_append_left _ hq)
theorem lb_Y10_numberOf {g : Nat → Nat} (a1 : Int64) (a2 : Int) (H : hH) (hr : RB H.2.2.1) : ∀ (k i : Nat), i + k = (H.1 53 (a2).toNat).toNat → J g rvTab rvInf rvRet 316 rvMth 7 (fun res => res.1 = some (pt (fstI (fun i => decide (H.2.1 54 (iAdd (iMul a2 10) (i : Int)).toNat = a1)) k i)) ∧ RH g res.2 H) 3 [rf (g 52), lg a1, rvU, pt a2, pt (i : Int)] [] H := by
  intro k
  induction k with
  | zero =>
    intro i hk
    have hj : 7 < 316 := by decide
    refine J_ld 5 jw hj rfl rfl rfl rfl ?_
    refine J_ld 6 jw hj rfl rfl rfl rfl ?_
    refine J_gfR (k := 53) jw hj rfl (evn rfl) (by decide) (by decide) (RBa hr rfl) ?_
    refine J_ld 10 jw hj rfl rfl rfl rfl ?_
    refine J_iald jw hj rfl (Or.inl rfl) (fun z0 r0 => ?_)
    refine J_icmp (t := 40) jw hj rfl (evn rfl) rfl (fun (h0 : ¬ (i : Int) < H.1 53 (a2).toNat) => ?_) (fun (h0 : (i : Int) < H.1 53 (a2).toNat) => ?_)
    · refine J_cst 41 jw hj rfl rfl rfl ?_
      exact J_ret rfl (Or.inl rfl) (fun aw hR => ⟨rfl, hR⟩)
    · exact absurd h0 (by omega)
  | succ k ih =>
    intro i hk
    have hj : 7 < 316 := by decide
    refine J_ld 5 jw hj rfl rfl rfl rfl ?_
    refine J_ld 6 jw hj rfl rfl rfl rfl ?_
    refine J_gfR (k := 53) jw hj rfl (evn rfl) (by decide) (by decide) (RBa hr rfl) ?_
    refine J_ld 10 jw hj rfl rfl rfl rfl ?_
    refine J_iald jw hj rfl (Or.inl rfl) (fun z0 r0 => ?_)
    refine J_icmp (t := 40) jw hj rfl (evn rfl) rfl (fun (h0 : ¬ (i : Int) < H.1 53 (a2).toNat) => ?_) (fun (h0 : (i : Int) < H.1 53 (a2).toNat) => ?_)
    · exact absurd h0 (by omega)
    · refine J_ld 15 jw hj rfl rfl rfl rfl ?_
      refine J_gfR (k := 54) jw hj rfl (evn rfl) (by decide) (by decide) (RBa hr rfl) ?_
      refine J_ld 19 jw hj rfl rfl rfl rfl ?_
      refine J_cst 21 jw hj rfl rfl rfl ?_
      refine J_bin jw hj rfl rfl ?_
      refine J_ld 24 jw hj rfl rfl rfl rfl ?_
      refine J_bin jw hj rfl rfl ?_
      refine J_lald jw hj rfl (evn rfl) (fun _ => ?_)
      refine J_ld 27 jw hj rfl rfl rfl rfl ?_
      refine J_lcmp jw hj rfl (evn rfl) ?_
      refine J_ifc (t := 34) jw hj rfl (evn rfl) rfl (fun (h1 : ¬ ((lg_cmp (H.2.1 54 (iAdd (iMul a2 10) (i : Int)).toNat) a1).toInt) = 0) => ?_) (fun (h1 : ((lg_cmp (H.2.1 54 (iAdd (iMul a2 10) (i : Int)).toNat) a1).toInt) = 0) => ?_)
      · refine J_iinc (al' := [rf (g 52), lg a1, rvU, pt a2, pt (iAdd (i : Int) 1)]) jw hj rfl (evn rfl) rfl rfl ?_
        refine J_goto 3 jw hj rfl rfl ?_
        rw [show iAdd (i : Int) 1 = ((i + 1 : Nat) : Int) from iAdd_1 (by have := r0.2; omega)]
        have e := ih (i + 1) (by omega)
        have e2 : fstI (fun i => decide (H.2.1 54 (iAdd (iMul a2 10) (i : Int)).toNat = a1)) (k + 1) i = fstI (fun i => decide (H.2.1 54 (iAdd (iMul a2 10) (i : Int)).toNat = a1)) k (i + 1) := by
          show (if decide (H.2.1 54 (iAdd (iMul a2 10) (i : Int)).toNat = a1) = true then _ else _) = _
          rw [if_neg (fun q => h1 ((lgc0 _ _).mpr (by simpa using q)))]
        rw [e2]
        exact e
      · refine J_ld 33 jw hj rfl rfl rfl rfl ?_
        exact J_ret rfl (Or.inl rfl) (fun aw hR => by
        refine ⟨?_, hR⟩
        show some (pt (i : Int)) = some (pt (if decide (H.2.1 54 (iAdd (iMul a2 10) (i : Int)).toNat = a1) = true then (i : Int) else _))
        rw [if_pos (by simpa using (lgc0 _ _).mp h1)])
theorem sb_Y10_numberOf {g : Nat → Nat} (a1 : Int64) (a2 : Int) (H : hH) (hr : RB H.2.2.1) : SP g rvTab rvInf rvRet 316 rvMth 7 [rf (g 52), lg a1, pt a2] H (some (pt (f_Y10_numberOf a1 a2 H))) H := by
  have hj : 7 < 316 := by decide
  refine J_SP hj (Nat.le_of_ble_eq_true rfl) ?_
  show J g rvTab rvInf rvRet 316 rvMth 7 _ 0 [rf (g 52), lg a1, rvU, pt a2, rvU] [] H
  refine J_cst 1 jw hj rfl rfl rfl ?_
  refine J_st 3 [rf (g 52), lg a1, rvU, pt a2, pt 0] (k := 4) jw hj rfl (Or.inl ⟨rfl, rfl⟩) rfl ?_
  exact lb_Y10_numberOf a1 a2 H hr _ 0 (Nat.zero_add _)
set_option maxHeartbeats 16000000 in
set_option maxRecDepth 100000 in
theorem sb_Y9_named {g : Nat → Nat} (a2 : Int) (H : hH) (hr : RB H.2.2.1) : SP g rvTab rvInf rvRet 316 rvMth 11 [rf (g 4), rf (g 52), pt a2] H (some (pt (f_Y9_named a2 H).1)) (f_Y9_named a2 H).2 := by
  have hj : 11 < 316 := by decide
  refine J_SP hj (Nat.le_of_ble_eq_true rfl) ?_
  show J g rvTab rvInf rvRet 316 rvMth 11 _ 0 [rf (g 4), rf (g 52), pt a2, rvU] [] H
  refine J_ld 1 jw hj rfl rfl rfl rfl ?_
  refine J_gfI jw hj rfl (evn rfl) (by decide) rfl (fun r0 => ?_)
  refine J_cst 5 jw hj rfl rfl rfl ?_
  refine J_icmp (t := 16) jw hj rfl (evn rfl) rfl (fun (h0 : H.1 4 10 = 5) => ?_) (fun (h0 : ¬ H.1 4 10 = 5) => ?_)
  · refine J_ld 17 jw hj rfl rfl rfl rfl ?_
    refine J_ld 18 jw hj rfl rfl rfl rfl ?_
    refine J_gfL jw hj rfl (evn rfl) (by decide) rfl ?_
    refine J_ld 22 jw hj rfl rfl rfl rfl ?_
    refine J_callV1 jw rfl (Or.inl ⟨_, rfl⟩) rfl rfl (sb_Y10_numberOf (g := g) (H.2.1 4 12) a2 H hr) ?_
    refine J_st 26 [rf (g 4), rf (g 52), pt a2, pt (f_Y10_numberOf (H.2.1 4 12) a2 H)] (k := 3) jw hj rfl (Or.inr (Or.inr (Or.inl ⟨_, rfl, rfl, rfl⟩))) rfl ?_
    refine J_ld 27 jw hj rfl rfl rfl rfl ?_
    refine J_cst 28 jw hj rfl rfl rfl ?_
    refine J_icmp (t := 37) jw hj rfl (evn rfl) rfl (fun (h1 : ¬ f_Y10_numberOf (H.2.1 4 12) a2 H = (-1)) => ?_) (fun (h1 : f_Y10_numberOf (H.2.1 4 12) a2 H = (-1)) => ?_)
    · refine J_ld 38 jw hj rfl rfl rfl rfl ?_
      exact J_ret rfl (Or.inl rfl) (fun aw hR => by show _ ∧ _; unfold f_Y9_named; rw [if_pos h0, if_neg h1]; exact ⟨rfl, hR⟩)
    · refine J_ld 32 jw hj rfl rfl rfl rfl ?_
      refine J_cst 33 jw hj rfl rfl rfl ?_
      refine J_callV1 jw rfl (Or.inl ⟨_, rfl⟩) rfl rfl (st_X9_fail (g := g) 3 H (RBt hr)) ?_
      refine J_pop 37 jw hj rfl rfl ?_
      refine J_ld 38 jw hj rfl rfl rfl rfl ?_
      exact J_ret rfl (Or.inl rfl) (fun aw hR => by show _ ∧ _; unfold f_Y9_named; rw [if_pos h0, if_pos h1]; exact ⟨rfl, hR⟩)
  · refine J_ld 9 jw hj rfl rfl rfl rfl ?_
    refine J_cst 10 jw hj rfl rfl rfl ?_
    refine J_callV1 jw rfl (Or.inl ⟨_, rfl⟩) rfl rfl (st_X9_fail (g := g) 1 H (RBt hr)) ?_
    refine J_pop 14 jw hj rfl rfl ?_
    refine J_cst 15 jw hj rfl rfl rfl ?_
    exact J_ret rfl (Or.inl rfl) (fun aw hR => by show _ ∧ _; unfold f_Y9_named; rw [if_neg h0]; exact ⟨rfl, hR⟩)
def f_X0_readYear  (H : hH) : Int × hH :=
  if ((f_X9_passNumber 1 60 H).1) = (-1) then
    (0, (upI (upI (f_X9_passNumber 1 60 H).2 16 ((f_X9_passNumber 1 60 H).2.1 15 3).toNat 15) 18 ((f_X9_passNumber 1 60 H).2.1 15 3).toNat ((f_X9_passNumber 1 60 H).1)))
  else
    (1, (upI (upI (f_X9_passNumber 1 60 H).2 16 ((f_X9_passNumber 1 60 H).2.1 15 3).toNat 15) 18 ((f_X9_passNumber 1 60 H).2.1 15 3).toNat ((f_X9_passNumber 1 60 H).1)))
set_option maxHeartbeats 16000000 in
set_option maxRecDepth 100000 in
theorem sp_X0_readYear {g : Nat → Nat}  (H : hH) (hr : RB H.2.2.1) : SP g rvTab rvInf rvRet 316 rvMth 212 [rf (g 15), rf (g 4)] H (some (pt (f_X0_readYear H).1)) (f_X0_readYear H).2 := by
  have hj : 212 < 316 := by decide
  refine J_SP hj (Nat.le_of_ble_eq_true rfl) ?_
  show J g rvTab rvInf rvRet 316 rvMth 212 _ 0 [rf (g 15), rf (g 4), rvU] [] H
  refine J_ld 1 jw hj rfl rfl rfl rfl ?_
  refine J_cst 2 jw hj rfl rfl rfl ?_
  refine J_cst 4 jw hj rfl rfl rfl ?_
  refine J_callV1 jw rfl (Or.inl ⟨_, rfl⟩) rfl rfl (st_X9_passNumber (g := g) 1 60 H (RBt hr)) ?_
  refine J_st 8 [rf (g 15), rf (g 4), pt ((f_X9_passNumber 1 60 H).1)] (k := 2) jw hj rfl (Or.inr (Or.inr (Or.inl ⟨_, rfl, rfl, rfl⟩))) rfl ?_
  refine J_ld 9 jw hj rfl rfl rfl rfl ?_
  refine J_gfR (k := 16) jw hj rfl (evn rfl) (by decide) (by decide) (RBa (rp_X9_passNumber 1 60 H hr) rfl) ?_
  refine J_ld 13 jw hj rfl rfl rfl rfl ?_
  refine J_gfI jw hj rfl (evn rfl) (by decide) rfl (fun r0 => ?_)
  refine J_cst 18 jw hj rfl rfl rfl ?_
  refine J_iast jw hj rfl (Or.inl rfl) (fun _ => ?_)
  refine J_ld 20 jw hj rfl rfl rfl rfl ?_
  refine J_gfR (k := 18) jw hj rfl (evn rfl) (by decide) (by decide) (RBa (rp_X9_passNumber 1 60 H hr) rfl) ?_
  refine J_ld 24 jw hj rfl rfl rfl rfl ?_
  refine J_gfI jw hj rfl (evn rfl) (by decide) rfl (fun r1 => ?_)
  refine J_ld 28 jw hj rfl rfl rfl rfl ?_
  refine J_iast jw hj rfl (Or.inl rfl) (fun _ => ?_)
  refine J_ld 30 jw hj rfl rfl rfl rfl ?_
  refine J_cst 31 jw hj rfl rfl rfl ?_
  refine J_icmp (t := 38) jw hj rfl (evn rfl) rfl (fun (h0 : ((f_X9_passNumber 1 60 H).1) = (-1)) => ?_) (fun (h0 : ¬ ((f_X9_passNumber 1 60 H).1) = (-1)) => ?_)
  · refine J_cst 39 jw hj rfl rfl rfl ?_
    exact J_ret rfl (Or.inl rfl) (fun aw hR => by show _ ∧ _; unfold f_X0_readYear; rw [if_pos h0]; exact ⟨rfl, hR⟩)
  · refine J_cst 35 jw hj rfl rfl rfl ?_
    refine J_goto 39 jw hj rfl rfl ?_
    exact J_ret rfl (Or.inl rfl) (fun aw hR => by show _ ∧ _; unfold f_X0_readYear; rw [if_neg h0]; exact ⟨rfl, hR⟩)
theorem rp_X0_readYear {P : (Nat → Nat → Option Nat) → Prop}  (H : hH) (hr : P H.2.2.1) : P (f_X0_readYear H).2.2.2.1 := by
  unfold f_X0_readYear
  by_cases q1 : ((f_X9_passNumber 1 60 H).1) = (-1)
  · rw [if_pos q1]
    exact (rp_X9_passNumber 1 60 H hr)
  · rw [if_neg q1]
    exact (rp_X9_passNumber 1 60 H hr)
def f_X0_readDeed  (H : hH) : Int × hH :=
  if H.1 4 10 = 4 then
    if f_X11_isWithin (H.1 4 11) 10 14 = 0 then
      ((f_X9_fail 1 H).1, (f_X9_fail 1 H).2)
    else
      if H.1 4 11 = 13 then
        (1, (upI (upI (f_X9_advance H) 16 ((f_X9_advance H).1 15 3).toNat (H.1 4 11)) 18 ((f_X9_advance H).1 15 3).toNat 0))
      else
        if H.1 4 11 = 14 then
          (1, (upI (upI (f_X9_advance H) 16 ((f_X9_advance H).1 15 3).toNat (H.1 4 11)) 18 ((f_X9_advance H).1 15 3).toNat 0))
        else
          if H.1 4 11 = 12 then
            if ((f_Y9_named 0 (upI (upI (f_X9_advance H) 16 ((f_X9_advance H).1 15 3).toNat (H.1 4 11)) 18 ((f_X9_advance H).1 15 3).toNat 0)).1) = (-1) then
              (0, (f_Y9_named 0 (upI (upI (f_X9_advance H) 16 ((f_X9_advance H).1 15 3).toNat (H.1 4 11)) 18 ((f_X9_advance H).1 15 3).toNat 0)).2)
            else
              (1, (f_X9_advance (upI (f_Y9_named 0 (upI (upI (f_X9_advance H) 16 ((f_X9_advance H).1 15 3).toNat (H.1 4 11)) 18 ((f_X9_advance H).1 15 3).toNat 0)).2 18 ((f_Y9_named 0 (upI (upI (f_X9_advance H) 16 ((f_X9_advance H).1 15 3).toNat (H.1 4 11)) 18 ((f_X9_advance H).1 15 3).toNat 0)).2.1 15 3).toNat ((f_Y9_named 0 (upI (upI (f_X9_advance H) 16 ((f_X9_advance H).1 15 3).toNat (H.1 4 11)) 18 ((f_X9_advance H).1 15 3).toNat 0)).1))))
          else
            if ((f_Y9_named 3 (upI (upI (f_X9_advance H) 16 ((f_X9_advance H).1 15 3).toNat (H.1 4 11)) 18 ((f_X9_advance H).1 15 3).toNat 0)).1) = (-1) then
              (0, (f_Y9_named 3 (upI (upI (f_X9_advance H) 16 ((f_X9_advance H).1 15 3).toNat (H.1 4 11)) 18 ((f_X9_advance H).1 15 3).toNat 0)).2)
            else
              (1, (f_X9_advance (upI (f_Y9_named 3 (upI (upI (f_X9_advance H) 16 ((f_X9_advance H).1 15 3).toNat (H.1 4 11)) 18 ((f_X9_advance H).1 15 3).toNat 0)).2 18 ((f_Y9_named 3 (upI (upI (f_X9_advance H) 16 ((f_X9_advance H).1 15 3).toNat (H.1 4 11)) 18 ((f_X9_advance H).1 15 3).toNat 0)).2.1 15 3).toNat ((f_Y9_named 3 (upI (upI (f_X9_advance H) 16 ((f_X9_advance H).1 15 3).toNat (H.1 4 11)) 18 ((f_X9_advance H).1 15 3).toNat 0)).1))))
  else
    ((f_X9_fail 1 H).1, (f_X9_fail 1 H).2)
set_option maxHeartbeats 16000000 in
set_option maxRecDepth 100000 in
theorem sp_X0_readDeed {g : Nat → Nat}  (H : hH) (hr : RB H.2.2.1) : SP g rvTab rvInf rvRet 316 rvMth 211 [rf (g 15), rf (g 4), rf (g 52)] H (some (pt (f_X0_readDeed H).1)) (f_X0_readDeed H).2 := by
  have hj : 211 < 316 := by decide
  refine J_SP hj (Nat.le_of_ble_eq_true rfl) ?_
  show J g rvTab rvInf rvRet 316 rvMth 211 _ 0 [rf (g 15), rf (g 4), rf (g 52), rvU, rvU] [] H
  refine J_ld 1 jw hj rfl rfl rfl rfl ?_
  refine J_gfI jw hj rfl (evn rfl) (by decide) rfl (fun r0 => ?_)
  refine J_st 5 [rf (g 15), rf (g 4), rf (g 52), pt (H.1 4 11), rvU] (k := 3) jw hj rfl (Or.inr (Or.inr (Or.inl ⟨_, rfl, rfl, rfl⟩))) rfl ?_
  refine J_ld 6 jw hj rfl rfl rfl rfl ?_
  refine J_gfI jw hj rfl (evn rfl) (by decide) rfl (fun r1 => ?_)
  refine J_cst 10 jw hj rfl rfl rfl ?_
  refine J_icmp (t := 24) jw hj rfl (evn rfl) rfl (fun (h0 : ¬ H.1 4 10 = 4) => ?_) (fun (h0 : H.1 4 10 = 4) => ?_)
  · refine J_ld 25 jw hj rfl rfl rfl rfl ?_
    refine J_cst 26 jw hj rfl rfl rfl ?_
    refine J_callV1 jw rfl (Or.inl ⟨_, rfl⟩) rfl rfl (st_X9_fail (g := g) 1 H (RBt hr)) ?_
    exact J_ret rfl (Or.inl rfl) (fun aw hR => by show _ ∧ _; unfold f_X0_readDeed; rw [if_neg h0]; exact ⟨rfl, hR⟩)
  · refine J_ld 14 jw hj rfl rfl rfl rfl ?_
    refine J_cst 16 jw hj rfl rfl rfl ?_
    refine J_cst 18 jw hj rfl rfl rfl ?_
    refine J_callS1 jw rfl rfl rfl rfl (sp_X11_isWithin (g := g) (H.1 4 11) 10 14 H) ?_
    refine J_ifc (t := 30) jw hj rfl (evn rfl) rfl (fun (h1 : ¬ f_X11_isWithin (H.1 4 11) 10 14 = 0) => ?_) (fun (h1 : f_X11_isWithin (H.1 4 11) 10 14 = 0) => ?_)
    · refine J_ld 31 jw hj rfl rfl rfl rfl ?_
      refine J_callV0 jw rfl (Or.inl ⟨_, rfl⟩) rfl rfl (st_X9_advance (g := g) H (RBt hr)) ?_
      refine J_ld 35 jw hj rfl rfl rfl rfl ?_
      refine J_gfR (k := 16) jw hj rfl (evn rfl) (by decide) (by decide) (RBa (rp_X9_advance H hr) rfl) ?_
      refine J_ld 39 jw hj rfl rfl rfl rfl ?_
      refine J_gfI jw hj rfl (evn rfl) (by decide) rfl (fun r2 => ?_)
      refine J_ld 43 jw hj rfl rfl rfl rfl ?_
      refine J_iast jw hj rfl (Or.inl rfl) (fun _ => ?_)
      refine J_ld 45 jw hj rfl rfl rfl rfl ?_
      refine J_gfR (k := 18) jw hj rfl (evn rfl) (by decide) (by decide) (RBa (rp_X9_advance H hr) rfl) ?_
      refine J_ld 49 jw hj rfl rfl rfl rfl ?_
      refine J_gfI jw hj rfl (evn rfl) (by decide) rfl (fun r3 => ?_)
      refine J_cst 53 jw hj rfl rfl rfl ?_
      refine J_iast jw hj rfl (Or.inl rfl) (fun _ => ?_)
      refine J_ld 55 jw hj rfl rfl rfl rfl ?_
      refine J_cst 57 jw hj rfl rfl rfl ?_
      refine J_icmp (t := 66) jw hj rfl (evn rfl) rfl (fun (h2 : H.1 4 11 = 13) => ?_) (fun (h2 : ¬ H.1 4 11 = 13) => ?_)
      · refine J_cst 67 jw hj rfl rfl rfl ?_
        exact J_ret rfl (Or.inl rfl) (fun aw hR => by show _ ∧ _; unfold f_X0_readDeed; rw [if_pos h0, if_neg h1, if_pos h2]; exact ⟨rfl, hR⟩)
      · refine J_ld 61 jw hj rfl rfl rfl rfl ?_
        refine J_cst 63 jw hj rfl rfl rfl ?_
        refine J_icmp (t := 68) jw hj rfl (evn rfl) rfl (fun (h3 : ¬ H.1 4 11 = 14) => ?_) (fun (h3 : H.1 4 11 = 14) => ?_)
        · refine J_ld 69 jw hj rfl rfl rfl rfl ?_
          refine J_ld 70 jw hj rfl rfl rfl rfl ?_
          refine J_ld 71 jw hj rfl rfl rfl rfl ?_
          refine J_cst 73 jw hj rfl rfl rfl ?_
          refine J_icmp (t := 80) jw hj rfl (evn rfl) rfl (fun (h4 : ¬ H.1 4 11 = 12) => ?_) (fun (h4 : H.1 4 11 = 12) => ?_)
          · refine J_cst 81 jw hj rfl rfl rfl ?_
            refine J_callV1 jw rfl (Or.inl ⟨_, rfl⟩) rfl rfl (sb_Y9_named (g := g) 3 (upI (upI (f_X9_advance H) 16 ((f_X9_advance H).1 15 3).toNat (H.1 4 11)) 18 ((f_X9_advance H).1 15 3).toNat 0) (rp_X9_advance H hr)) ?_
            refine J_st 86 [rf (g 15), rf (g 4), rf (g 52), pt (H.1 4 11), pt ((f_Y9_named 3 (upI (upI (f_X9_advance H) 16 ((f_X9_advance H).1 15 3).toNat (H.1 4 11)) 18 ((f_X9_advance H).1 15 3).toNat 0)).1)] (k := 4) jw hj rfl (Or.inl ⟨rfl, rfl⟩) rfl ?_
            refine J_ld 88 jw hj rfl rfl rfl rfl ?_
            refine J_cst 89 jw hj rfl rfl rfl ?_
            refine J_icmp (t := 94) jw hj rfl (evn rfl) rfl (fun (h5 : ¬ ((f_Y9_named 3 (upI (upI (f_X9_advance H) 16 ((f_X9_advance H).1 15 3).toNat (H.1 4 11)) 18 ((f_X9_advance H).1 15 3).toNat 0)).1) = (-1)) => ?_) (fun (h5 : ((f_Y9_named 3 (upI (upI (f_X9_advance H) 16 ((f_X9_advance H).1 15 3).toNat (H.1 4 11)) 18 ((f_X9_advance H).1 15 3).toNat 0)).1) = (-1)) => ?_)
            · refine J_ld 95 jw hj rfl rfl rfl rfl ?_
              refine J_gfR (k := 18) jw hj rfl (evn rfl) (by decide) (by decide) (RBa (rp_Y9_named 3 (upI (upI (f_X9_advance H) 16 ((f_X9_advance H).1 15 3).toNat (H.1 4 11)) 18 ((f_X9_advance H).1 15 3).toNat 0) (rp_X9_advance H hr)) rfl) ?_
              refine J_ld 99 jw hj rfl rfl rfl rfl ?_
              refine J_gfI jw hj rfl (evn rfl) (by decide) rfl (fun r4 => ?_)
              refine J_ld 104 jw hj rfl rfl rfl rfl ?_
              refine J_iast jw hj rfl (Or.inl rfl) (fun _ => ?_)
              refine J_ld 106 jw hj rfl rfl rfl rfl ?_
              refine J_callV0 jw rfl (Or.inl ⟨_, rfl⟩) rfl rfl (st_X9_advance (g := g) (upI (f_Y9_named 3 (upI (upI (f_X9_advance H) 16 ((f_X9_advance H).1 15 3).toNat (H.1 4 11)) 18 ((f_X9_advance H).1 15 3).toNat 0)).2 18 ((f_Y9_named 3 (upI (upI (f_X9_advance H) 16 ((f_X9_advance H).1 15 3).toNat (H.1 4 11)) 18 ((f_X9_advance H).1 15 3).toNat 0)).2.1 15 3).toNat ((f_Y9_named 3 (upI (upI (f_X9_advance H) 16 ((f_X9_advance H).1 15 3).toNat (H.1 4 11)) 18 ((f_X9_advance H).1 15 3).toNat 0)).1)) (RBt (rp_Y9_named 3 (upI (upI (f_X9_advance H) 16 ((f_X9_advance H).1 15 3).toNat (H.1 4 11)) 18 ((f_X9_advance H).1 15 3).toNat 0) (rp_X9_advance H hr)))) ?_
              refine J_cst 110 jw hj rfl rfl rfl ?_
              exact J_ret rfl (Or.inl rfl) (fun aw hR => by show _ ∧ _; unfold f_X0_readDeed; rw [if_pos h0, if_neg h1, if_neg h2, if_neg h3, if_neg h4, if_neg h5]; exact ⟨rfl, hR⟩)
            · refine J_cst 93 jw hj rfl rfl rfl ?_
              exact J_ret rfl (Or.inl rfl) (fun aw hR => by show _ ∧ _; unfold f_X0_readDeed; rw [if_pos h0, if_neg h1, if_neg h2, if_neg h3, if_neg h4, if_pos h5]; exact ⟨rfl, hR⟩)
          · refine J_cst 77 jw hj rfl rfl rfl ?_
            refine J_goto 81 jw hj rfl rfl ?_
            refine J_callV1 jw rfl (Or.inl ⟨_, rfl⟩) rfl rfl (sb_Y9_named (g := g) 0 (upI (upI (f_X9_advance H) 16 ((f_X9_advance H).1 15 3).toNat (H.1 4 11)) 18 ((f_X9_advance H).1 15 3).toNat 0) (rp_X9_advance H hr)) ?_
            refine J_st 86 [rf (g 15), rf (g 4), rf (g 52), pt (H.1 4 11), pt ((f_Y9_named 0 (upI (upI (f_X9_advance H) 16 ((f_X9_advance H).1 15 3).toNat (H.1 4 11)) 18 ((f_X9_advance H).1 15 3).toNat 0)).1)] (k := 4) jw hj rfl (Or.inl ⟨rfl, rfl⟩) rfl ?_
            refine J_ld 88 jw hj rfl rfl rfl rfl ?_
            refine J_cst 89 jw hj rfl rfl rfl ?_
            refine J_icmp (t := 94) jw hj rfl (evn rfl) rfl (fun (h6 : ¬ ((f_Y9_named 0 (upI (upI (f_X9_advance H) 16 ((f_X9_advance H).1 15 3).toNat (H.1 4 11)) 18 ((f_X9_advance H).1 15 3).toNat 0)).1) = (-1)) => ?_) (fun (h6 : ((f_Y9_named 0 (upI (upI (f_X9_advance H) 16 ((f_X9_advance H).1 15 3).toNat (H.1 4 11)) 18 ((f_X9_advance H).1 15 3).toNat 0)).1) = (-1)) => ?_)
            · refine J_ld 95 jw hj rfl rfl rfl rfl ?_
              refine J_gfR (k := 18) jw hj rfl (evn rfl) (by decide) (by decide) (RBa (rp_Y9_named 0 (upI (upI (f_X9_advance H) 16 ((f_X9_advance H).1 15 3).toNat (H.1 4 11)) 18 ((f_X9_advance H).1 15 3).toNat 0) (rp_X9_advance H hr)) rfl) ?_
              refine J_ld 99 jw hj rfl rfl rfl rfl ?_
              refine J_gfI jw hj rfl (evn rfl) (by decide) rfl (fun r5 => ?_)
              refine J_ld 104 jw hj rfl rfl rfl rfl ?_
              refine J_iast jw hj rfl (Or.inl rfl) (fun _ => ?_)
              refine J_ld 106 jw hj rfl rfl rfl rfl ?_
              refine J_callV0 jw rfl (Or.inl ⟨_, rfl⟩) rfl rfl (st_X9_advance (g := g) (upI (f_Y9_named 0 (upI (upI (f_X9_advance H) 16 ((f_X9_advance H).1 15 3).toNat (H.1 4 11)) 18 ((f_X9_advance H).1 15 3).toNat 0)).2 18 ((f_Y9_named 0 (upI (upI (f_X9_advance H) 16 ((f_X9_advance H).1 15 3).toNat (H.1 4 11)) 18 ((f_X9_advance H).1 15 3).toNat 0)).2.1 15 3).toNat ((f_Y9_named 0 (upI (upI (f_X9_advance H) 16 ((f_X9_advance H).1 15 3).toNat (H.1 4 11)) 18 ((f_X9_advance H).1 15 3).toNat 0)).1)) (RBt (rp_Y9_named 0 (upI (upI (f_X9_advance H) 16 ((f_X9_advance H).1 15 3).toNat (H.1 4 11)) 18 ((f_X9_advance H).1 15 3).toNat 0) (rp_X9_advance H hr)))) ?_
              refine J_cst 110 jw hj rfl rfl rfl ?_
              exact J_ret rfl (Or.inl rfl) (fun aw hR => by show _ ∧ _; unfold f_X0_readDeed; rw [if_pos h0, if_neg h1, if_neg h2, if_neg h3, if_pos h4, if_neg h6]; exact ⟨rfl, hR⟩)
            · refine J_cst 93 jw hj rfl rfl rfl ?_
              exact J_ret rfl (Or.inl rfl) (fun aw hR => by show _ ∧ _; unfold f_X0_readDeed; rw [if_pos h0, if_neg h1, if_neg h2, if_neg h3, if_pos h4, if_pos h6]; exact ⟨rfl, hR⟩)
        · refine J_cst 67 jw hj rfl rfl rfl ?_
          exact J_ret rfl (Or.inl rfl) (fun aw hR => by show _ ∧ _; unfold f_X0_readDeed; rw [if_pos h0, if_neg h1, if_neg h2, if_pos h3]; exact ⟨rfl, hR⟩)
    · refine J_ld 25 jw hj rfl rfl rfl rfl ?_
      refine J_cst 26 jw hj rfl rfl rfl ?_
      refine J_callV1 jw rfl (Or.inl ⟨_, rfl⟩) rfl rfl (st_X9_fail (g := g) 1 H (RBt hr)) ?_
      exact J_ret rfl (Or.inl rfl) (fun aw hR => by show _ ∧ _; unfold f_X0_readDeed; rw [if_pos h0, if_pos h1]; exact ⟨rfl, hR⟩)
theorem rp_X0_readDeed {P : (Nat → Nat → Option Nat) → Prop}  (H : hH) (hr : P H.2.2.1) : P (f_X0_readDeed H).2.2.2.1 := by
  unfold f_X0_readDeed
  by_cases q1 : H.1 4 10 = 4
  · rw [if_pos q1]
    by_cases q2 : f_X11_isWithin (H.1 4 11) 10 14 = 0
    · rw [if_pos q2]
      exact (rp_X9_fail 1 H hr)
    · rw [if_neg q2]
      by_cases q3 : H.1 4 11 = 13
      · rw [if_pos q3]
        exact (rp_X9_advance H hr)
      · rw [if_neg q3]
        by_cases q4 : H.1 4 11 = 14
        · rw [if_pos q4]
          exact (rp_X9_advance H hr)
        · rw [if_neg q4]
          by_cases q5 : H.1 4 11 = 12
          · rw [if_pos q5]
            by_cases q6 : ((f_Y9_named 0 (upI (upI (f_X9_advance H) 16 ((f_X9_advance H).1 15 3).toNat (H.1 4 11)) 18 ((f_X9_advance H).1 15 3).toNat 0)).1) = (-1)
            · rw [if_pos q6]
              exact (rp_Y9_named 0 (upI (upI (f_X9_advance H) 16 ((f_X9_advance H).1 15 3).toNat (H.1 4 11)) 18 ((f_X9_advance H).1 15 3).toNat 0) (rp_X9_advance H hr))
            · rw [if_neg q6]
              exact (rp_X9_advance (upI (f_Y9_named 0 (upI (upI (f_X9_advance H) 16 ((f_X9_advance H).1 15 3).toNat (H.1 4 11)) 18 ((f_X9_advance H).1 15 3).toNat 0)).2 18 ((f_Y9_named 0 (upI (upI (f_X9_advance H) 16 ((f_X9_advance H).1 15 3).toNat (H.1 4 11)) 18 ((f_X9_advance H).1 15 3).toNat 0)).2.1 15 3).toNat ((f_Y9_named 0 (upI (upI (f_X9_advance H) 16 ((f_X9_advance H).1 15 3).toNat (H.1 4 11)) 18 ((f_X9_advance H).1 15 3).toNat 0)).1)) (rp_Y9_named 0 (upI (upI (f_X9_advance H) 16 ((f_X9_advance H).1 15 3).toNat (H.1 4 11)) 18 ((f_X9_advance H).1 15 3).toNat 0) (rp_X9_advance H hr)))
          · rw [if_neg q5]
            by_cases q6 : ((f_Y9_named 3 (upI (upI (f_X9_advance H) 16 ((f_X9_advance H).1 15 3).toNat (H.1 4 11)) 18 ((f_X9_advance H).1 15 3).toNat 0)).1) = (-1)
            · rw [if_pos q6]
              exact (rp_Y9_named 3 (upI (upI (f_X9_advance H) 16 ((f_X9_advance H).1 15 3).toNat (H.1 4 11)) 18 ((f_X9_advance H).1 15 3).toNat 0) (rp_X9_advance H hr))
            · rw [if_neg q6]
              exact (rp_X9_advance (upI (f_Y9_named 3 (upI (upI (f_X9_advance H) 16 ((f_X9_advance H).1 15 3).toNat (H.1 4 11)) 18 ((f_X9_advance H).1 15 3).toNat 0)).2 18 ((f_Y9_named 3 (upI (upI (f_X9_advance H) 16 ((f_X9_advance H).1 15 3).toNat (H.1 4 11)) 18 ((f_X9_advance H).1 15 3).toNat 0)).2.1 15 3).toNat ((f_Y9_named 3 (upI (upI (f_X9_advance H) 16 ((f_X9_advance H).1 15 3).toNat (H.1 4 11)) 18 ((f_X9_advance H).1 15 3).toNat 0)).1)) (rp_Y9_named 3 (upI (upI (f_X9_advance H) 16 ((f_X9_advance H).1 15 3).toNat (H.1 4 11)) 18 ((f_X9_advance H).1 15 3).toNat 0) (rp_X9_advance H hr)))
  · rw [if_neg q1]
    exact (rp_X9_fail 1 H hr)
def f_X0_readLine  (H : hH) : Int × hH :=
  if f_X9_isAtWord 15 H = 0 then
    if ((f_Y9_named 2 H).1) = (-1) then
      (0, (f_Y9_named 2 H).2)
    else
      if ((f_Y9_named 2 H).2.1 15 3) < 40 then
        if f_X9_isAtWord 15 H = 0 then
          if ((f_X0_readDeed (upI (f_X9_advance (f_Y9_named 2 H).2) 17 ((f_X9_advance (f_Y9_named 2 H).2).1 15 3).toNat ((f_Y9_named 2 H).1))).1) = 0 then
            (0, (upI (f_X0_readDeed (upI (f_X9_advance (f_Y9_named 2 H).2) 17 ((f_X9_advance (f_Y9_named 2 H).2).1 15 3).toNat ((f_Y9_named 2 H).1))).2 15 3 (iAdd ((f_X0_readDeed (upI (f_X9_advance (f_Y9_named 2 H).2) 17 ((f_X9_advance (f_Y9_named 2 H).2).1 15 3).toNat ((f_Y9_named 2 H).1))).2.1 15 3) 1)))
          else
            if ((f_X9_passSign 59 (upI (f_X0_readDeed (upI (f_X9_advance (f_Y9_named 2 H).2) 17 ((f_X9_advance (f_Y9_named 2 H).2).1 15 3).toNat ((f_Y9_named 2 H).1))).2 15 3 (iAdd ((f_X0_readDeed (upI (f_X9_advance (f_Y9_named 2 H).2) 17 ((f_X9_advance (f_Y9_named 2 H).2).1 15 3).toNat ((f_Y9_named 2 H).1))).2.1 15 3) 1))).1) = 0 then
              (0, (f_X9_passSign 59 (upI (f_X0_readDeed (upI (f_X9_advance (f_Y9_named 2 H).2) 17 ((f_X9_advance (f_Y9_named 2 H).2).1 15 3).toNat ((f_Y9_named 2 H).1))).2 15 3 (iAdd ((f_X0_readDeed (upI (f_X9_advance (f_Y9_named 2 H).2) 17 ((f_X9_advance (f_Y9_named 2 H).2).1 15 3).toNat ((f_Y9_named 2 H).1))).2.1 15 3) 1))).2)
            else
              (1, (f_X9_passSign 59 (upI (f_X0_readDeed (upI (f_X9_advance (f_Y9_named 2 H).2) 17 ((f_X9_advance (f_Y9_named 2 H).2).1 15 3).toNat ((f_Y9_named 2 H).1))).2 15 3 (iAdd ((f_X0_readDeed (upI (f_X9_advance (f_Y9_named 2 H).2) 17 ((f_X9_advance (f_Y9_named 2 H).2).1 15 3).toNat ((f_Y9_named 2 H).1))).2.1 15 3) 1))).2)
        else
          if ((f_X0_readYear (upI (f_X9_advance (f_Y9_named 2 H).2) 17 ((f_X9_advance (f_Y9_named 2 H).2).1 15 3).toNat ((f_Y9_named 2 H).1))).1) = 0 then
            (0, (upI (f_X0_readYear (upI (f_X9_advance (f_Y9_named 2 H).2) 17 ((f_X9_advance (f_Y9_named 2 H).2).1 15 3).toNat ((f_Y9_named 2 H).1))).2 15 3 (iAdd ((f_X0_readYear (upI (f_X9_advance (f_Y9_named 2 H).2) 17 ((f_X9_advance (f_Y9_named 2 H).2).1 15 3).toNat ((f_Y9_named 2 H).1))).2.1 15 3) 1)))
          else
            if ((f_X9_passSign 59 (upI (f_X0_readYear (upI (f_X9_advance (f_Y9_named 2 H).2) 17 ((f_X9_advance (f_Y9_named 2 H).2).1 15 3).toNat ((f_Y9_named 2 H).1))).2 15 3 (iAdd ((f_X0_readYear (upI (f_X9_advance (f_Y9_named 2 H).2) 17 ((f_X9_advance (f_Y9_named 2 H).2).1 15 3).toNat ((f_Y9_named 2 H).1))).2.1 15 3) 1))).1) = 0 then
              (0, (f_X9_passSign 59 (upI (f_X0_readYear (upI (f_X9_advance (f_Y9_named 2 H).2) 17 ((f_X9_advance (f_Y9_named 2 H).2).1 15 3).toNat ((f_Y9_named 2 H).1))).2 15 3 (iAdd ((f_X0_readYear (upI (f_X9_advance (f_Y9_named 2 H).2) 17 ((f_X9_advance (f_Y9_named 2 H).2).1 15 3).toNat ((f_Y9_named 2 H).1))).2.1 15 3) 1))).2)
            else
              (1, (f_X9_passSign 59 (upI (f_X0_readYear (upI (f_X9_advance (f_Y9_named 2 H).2) 17 ((f_X9_advance (f_Y9_named 2 H).2).1 15 3).toNat ((f_Y9_named 2 H).1))).2 15 3 (iAdd ((f_X0_readYear (upI (f_X9_advance (f_Y9_named 2 H).2) 17 ((f_X9_advance (f_Y9_named 2 H).2).1 15 3).toNat ((f_Y9_named 2 H).1))).2.1 15 3) 1))).2)
      else
        ((f_X9_fail 4 (f_Y9_named 2 H).2).1, (f_X9_fail 4 (f_Y9_named 2 H).2).2)
  else
    if H.1 15 3 < 40 then
      if f_X9_isAtWord 15 H = 0 then
        if ((f_X0_readDeed (upI (f_X9_advance H) 17 ((f_X9_advance H).1 15 3).toNat 0)).1) = 0 then
          (0, (upI (f_X0_readDeed (upI (f_X9_advance H) 17 ((f_X9_advance H).1 15 3).toNat 0)).2 15 3 (iAdd ((f_X0_readDeed (upI (f_X9_advance H) 17 ((f_X9_advance H).1 15 3).toNat 0)).2.1 15 3) 1)))
        else
          if ((f_X9_passSign 59 (upI (f_X0_readDeed (upI (f_X9_advance H) 17 ((f_X9_advance H).1 15 3).toNat 0)).2 15 3 (iAdd ((f_X0_readDeed (upI (f_X9_advance H) 17 ((f_X9_advance H).1 15 3).toNat 0)).2.1 15 3) 1))).1) = 0 then
            (0, (f_X9_passSign 59 (upI (f_X0_readDeed (upI (f_X9_advance H) 17 ((f_X9_advance H).1 15 3).toNat 0)).2 15 3 (iAdd ((f_X0_readDeed (upI (f_X9_advance H) 17 ((f_X9_advance H).1 15 3).toNat 0)).2.1 15 3) 1))).2)
          else
            (1, (f_X9_passSign 59 (upI (f_X0_readDeed (upI (f_X9_advance H) 17 ((f_X9_advance H).1 15 3).toNat 0)).2 15 3 (iAdd ((f_X0_readDeed (upI (f_X9_advance H) 17 ((f_X9_advance H).1 15 3).toNat 0)).2.1 15 3) 1))).2)
      else
        if ((f_X0_readYear (upI (f_X9_advance H) 17 ((f_X9_advance H).1 15 3).toNat 0)).1) = 0 then
          (0, (upI (f_X0_readYear (upI (f_X9_advance H) 17 ((f_X9_advance H).1 15 3).toNat 0)).2 15 3 (iAdd ((f_X0_readYear (upI (f_X9_advance H) 17 ((f_X9_advance H).1 15 3).toNat 0)).2.1 15 3) 1)))
        else
          if ((f_X9_passSign 59 (upI (f_X0_readYear (upI (f_X9_advance H) 17 ((f_X9_advance H).1 15 3).toNat 0)).2 15 3 (iAdd ((f_X0_readYear (upI (f_X9_advance H) 17 ((f_X9_advance H).1 15 3).toNat 0)).2.1 15 3) 1))).1) = 0 then
            (0, (f_X9_passSign 59 (upI (f_X0_readYear (upI (f_X9_advance H) 17 ((f_X9_advance H).1 15 3).toNat 0)).2 15 3 (iAdd ((f_X0_readYear (upI (f_X9_advance H) 17 ((f_X9_advance H).1 15 3).toNat 0)).2.1 15 3) 1))).2)
          else
            (1, (f_X9_passSign 59 (upI (f_X0_readYear (upI (f_X9_advance H) 17 ((f_X9_advance H).1 15 3).toNat 0)).2 15 3 (iAdd ((f_X0_readYear (upI (f_X9_advance H) 17 ((f_X9_advance H).1 15 3).toNat 0)).2.1 15 3) 1))).2)
    else
      ((f_X9_fail 4 H).1, (f_X9_fail 4 H).2)
set_option maxHeartbeats 16000000 in
set_option maxRecDepth 100000 in
theorem sp_X0_readLine {g : Nat → Nat}  (H : hH) (hr : RB H.2.2.1) : SP g rvTab rvInf rvRet 316 rvMth 210 [rf (g 15), rf (g 4), rf (g 52)] H (some (pt (f_X0_readLine H).1)) (f_X0_readLine H).2 := by
  have hj : 210 < 316 := by decide
  refine J_SP hj (Nat.le_of_ble_eq_true rfl) ?_
  show J g rvTab rvInf rvRet 316 rvMth 210 _ 0 [rf (g 15), rf (g 4), rf (g 52), rvU, rvU, rvU] [] H
  refine J_ld 1 jw hj rfl rfl rfl rfl ?_
  refine J_cst 3 jw hj rfl rfl rfl ?_
  refine J_callV1 jw rfl (Or.inl ⟨_, rfl⟩) rfl rfl (sp_X9_isAtWord (g := g) 15 H) ?_
  refine J_st 7 [rf (g 15), rf (g 4), rf (g 52), pt (f_X9_isAtWord 15 H), rvU, rvU] (k := 3) jw hj rfl (Or.inr (Or.inr (Or.inl ⟨_, rfl, rfl, rfl⟩))) rfl ?_
  refine J_ld 8 jw hj rfl rfl rfl rfl ?_
  refine J_ifc (t := 15) jw hj rfl (evn rfl) rfl (fun (h0 : f_X9_isAtWord 15 H = 0) => ?_) (fun (h0 : ¬ f_X9_isAtWord 15 H = 0) => ?_)
  · refine J_ld 16 jw hj rfl rfl rfl rfl ?_
    refine J_ld 17 jw hj rfl rfl rfl rfl ?_
    refine J_cst 18 jw hj rfl rfl rfl ?_
    refine J_callV1 jw rfl (Or.inl ⟨_, rfl⟩) rfl rfl (sb_Y9_named (g := g) 2 H hr) ?_
    refine J_st 23 [rf (g 15), rf (g 4), rf (g 52), pt (f_X9_isAtWord 15 H), pt ((f_Y9_named 2 H).1), rvU] (k := 4) jw hj rfl (Or.inl ⟨rfl, rfl⟩) rfl ?_
    refine J_ld 25 jw hj rfl rfl rfl rfl ?_
    refine J_cst 26 jw hj rfl rfl rfl ?_
    refine J_icmp (t := 31) jw hj rfl (evn rfl) rfl (fun (h1 : ¬ ((f_Y9_named 2 H).1) = (-1)) => ?_) (fun (h1 : ((f_Y9_named 2 H).1) = (-1)) => ?_)
    · refine J_ld 32 jw hj rfl rfl rfl rfl ?_
      refine J_gfI jw hj rfl (evn rfl) (by decide) rfl (fun r0 => ?_)
      refine J_cst 37 jw hj rfl rfl rfl ?_
      refine J_icmp (t := 46) jw hj rfl (evn rfl) rfl (fun (h2 : ((f_Y9_named 2 H).2.1 15 3) < 40) => ?_) (fun (h2 : ¬ ((f_Y9_named 2 H).2.1 15 3) < 40) => ?_)
      · refine J_ld 47 jw hj rfl rfl rfl rfl ?_
        refine J_callV0 jw rfl (Or.inl ⟨_, rfl⟩) rfl rfl (st_X9_advance (g := g) (f_Y9_named 2 H).2 (RBt (rp_Y9_named 2 H hr))) ?_
        refine J_ld 51 jw hj rfl rfl rfl rfl ?_
        refine J_gfR (k := 17) jw hj rfl (evn rfl) (by decide) (by decide) (RBa (rp_X9_advance (f_Y9_named 2 H).2 (rp_Y9_named 2 H hr)) rfl) ?_
        refine J_ld 55 jw hj rfl rfl rfl rfl ?_
        refine J_gfI jw hj rfl (evn rfl) (by decide) rfl (fun r1 => ?_)
        refine J_ld 60 jw hj rfl rfl rfl rfl ?_
        refine J_iast jw hj rfl (Or.inl rfl) (fun _ => ?_)
        refine J_ld 62 jw hj rfl rfl rfl rfl ?_
        refine J_ifc (t := 73) jw hj rfl (evn rfl) rfl (fun (h3 : f_X9_isAtWord 15 H = 0) => ?_) (fun (h3 : ¬ f_X9_isAtWord 15 H = 0) => ?_)
        · refine J_ld 74 jw hj rfl rfl rfl rfl ?_
          refine J_ld 75 jw hj rfl rfl rfl rfl ?_
          refine J_ld 76 jw hj rfl rfl rfl rfl ?_
          refine J_callV1 jw rfl (Or.inl ⟨_, rfl⟩) rfl rfl (sp_X0_readDeed (g := g) (upI (f_X9_advance (f_Y9_named 2 H).2) 17 ((f_X9_advance (f_Y9_named 2 H).2).1 15 3).toNat ((f_Y9_named 2 H).1)) (rp_X9_advance (f_Y9_named 2 H).2 (rp_Y9_named 2 H hr))) ?_
          refine J_st 81 [rf (g 15), rf (g 4), rf (g 52), pt (f_X9_isAtWord 15 H), pt ((f_Y9_named 2 H).1), pt ((f_X0_readDeed (upI (f_X9_advance (f_Y9_named 2 H).2) 17 ((f_X9_advance (f_Y9_named 2 H).2).1 15 3).toNat ((f_Y9_named 2 H).1))).1)] (k := 5) jw hj rfl (Or.inl ⟨rfl, rfl⟩) rfl ?_
          refine J_ld 82 jw hj rfl rfl rfl rfl ?_
          refine J_dup 83 jw hj rfl rfl ?_
          refine J_gfI jw hj rfl (evn rfl) (by decide) rfl (fun r2 => ?_)
          refine J_cst 87 jw hj rfl rfl rfl ?_
          refine J_bin jw hj rfl rfl ?_
          refine J_pfI jw hj rfl (evn rfl) rfl ?_
          refine J_ld 93 jw hj rfl rfl rfl rfl ?_
          refine J_ifc (t := 109) jw hj rfl (evn rfl) rfl (fun (h4 : ((f_X0_readDeed (upI (f_X9_advance (f_Y9_named 2 H).2) 17 ((f_X9_advance (f_Y9_named 2 H).2).1 15 3).toNat ((f_Y9_named 2 H).1))).1) = 0) => ?_) (fun (h4 : ¬ ((f_X0_readDeed (upI (f_X9_advance (f_Y9_named 2 H).2) 17 ((f_X9_advance (f_Y9_named 2 H).2).1 15 3).toNat ((f_Y9_named 2 H).1))).1) = 0) => ?_)
          · refine J_cst 110 jw hj rfl rfl rfl ?_
            exact J_ret rfl (Or.inl rfl) (fun aw hR => by show _ ∧ _; unfold f_X0_readLine; rw [if_pos h0, if_neg h1, if_pos h2, if_pos h3, if_pos h4]; exact ⟨rfl, hR⟩)
          · refine J_ld 97 jw hj rfl rfl rfl rfl ?_
            refine J_cst 99 jw hj rfl rfl rfl ?_
            refine J_callV1 jw rfl (Or.inl ⟨_, rfl⟩) rfl rfl (st_X9_passSign (g := g) 59 (upI (f_X0_readDeed (upI (f_X9_advance (f_Y9_named 2 H).2) 17 ((f_X9_advance (f_Y9_named 2 H).2).1 15 3).toNat ((f_Y9_named 2 H).1))).2 15 3 (iAdd ((f_X0_readDeed (upI (f_X9_advance (f_Y9_named 2 H).2) 17 ((f_X9_advance (f_Y9_named 2 H).2).1 15 3).toNat ((f_Y9_named 2 H).1))).2.1 15 3) 1)) (RBt (rp_X0_readDeed (upI (f_X9_advance (f_Y9_named 2 H).2) 17 ((f_X9_advance (f_Y9_named 2 H).2).1 15 3).toNat ((f_Y9_named 2 H).1)) (rp_X9_advance (f_Y9_named 2 H).2 (rp_Y9_named 2 H hr))))) ?_
            refine J_ifc (t := 109) jw hj rfl (evn rfl) rfl (fun (h5 : ((f_X9_passSign 59 (upI (f_X0_readDeed (upI (f_X9_advance (f_Y9_named 2 H).2) 17 ((f_X9_advance (f_Y9_named 2 H).2).1 15 3).toNat ((f_Y9_named 2 H).1))).2 15 3 (iAdd ((f_X0_readDeed (upI (f_X9_advance (f_Y9_named 2 H).2) 17 ((f_X9_advance (f_Y9_named 2 H).2).1 15 3).toNat ((f_Y9_named 2 H).1))).2.1 15 3) 1))).1) = 0) => ?_) (fun (h5 : ¬ ((f_X9_passSign 59 (upI (f_X0_readDeed (upI (f_X9_advance (f_Y9_named 2 H).2) 17 ((f_X9_advance (f_Y9_named 2 H).2).1 15 3).toNat ((f_Y9_named 2 H).1))).2 15 3 (iAdd ((f_X0_readDeed (upI (f_X9_advance (f_Y9_named 2 H).2) 17 ((f_X9_advance (f_Y9_named 2 H).2).1 15 3).toNat ((f_Y9_named 2 H).1))).2.1 15 3) 1))).1) = 0) => ?_)
            · refine J_cst 110 jw hj rfl rfl rfl ?_
              exact J_ret rfl (Or.inl rfl) (fun aw hR => by show _ ∧ _; unfold f_X0_readLine; rw [if_pos h0, if_neg h1, if_pos h2, if_pos h3, if_neg h4, if_pos h5]; exact ⟨rfl, hR⟩)
            · refine J_cst 106 jw hj rfl rfl rfl ?_
              refine J_goto 110 jw hj rfl rfl ?_
              exact J_ret rfl (Or.inl rfl) (fun aw hR => by show _ ∧ _; unfold f_X0_readLine; rw [if_pos h0, if_neg h1, if_pos h2, if_pos h3, if_neg h4, if_neg h5]; exact ⟨rfl, hR⟩)
        · refine J_ld 66 jw hj rfl rfl rfl rfl ?_
          refine J_ld 67 jw hj rfl rfl rfl rfl ?_
          refine J_callV1 jw rfl (Or.inl ⟨_, rfl⟩) rfl rfl (sp_X0_readYear (g := g) (upI (f_X9_advance (f_Y9_named 2 H).2) 17 ((f_X9_advance (f_Y9_named 2 H).2).1 15 3).toNat ((f_Y9_named 2 H).1)) (rp_X9_advance (f_Y9_named 2 H).2 (rp_Y9_named 2 H hr))) ?_
          refine J_goto 79 jw hj rfl rfl ?_
          refine J_st 81 [rf (g 15), rf (g 4), rf (g 52), pt (f_X9_isAtWord 15 H), pt ((f_Y9_named 2 H).1), pt ((f_X0_readYear (upI (f_X9_advance (f_Y9_named 2 H).2) 17 ((f_X9_advance (f_Y9_named 2 H).2).1 15 3).toNat ((f_Y9_named 2 H).1))).1)] (k := 5) jw hj rfl (Or.inl ⟨rfl, rfl⟩) rfl ?_
          refine J_ld 82 jw hj rfl rfl rfl rfl ?_
          refine J_dup 83 jw hj rfl rfl ?_
          refine J_gfI jw hj rfl (evn rfl) (by decide) rfl (fun r3 => ?_)
          refine J_cst 87 jw hj rfl rfl rfl ?_
          refine J_bin jw hj rfl rfl ?_
          refine J_pfI jw hj rfl (evn rfl) rfl ?_
          refine J_ld 93 jw hj rfl rfl rfl rfl ?_
          refine J_ifc (t := 109) jw hj rfl (evn rfl) rfl (fun (h6 : ((f_X0_readYear (upI (f_X9_advance (f_Y9_named 2 H).2) 17 ((f_X9_advance (f_Y9_named 2 H).2).1 15 3).toNat ((f_Y9_named 2 H).1))).1) = 0) => ?_) (fun (h6 : ¬ ((f_X0_readYear (upI (f_X9_advance (f_Y9_named 2 H).2) 17 ((f_X9_advance (f_Y9_named 2 H).2).1 15 3).toNat ((f_Y9_named 2 H).1))).1) = 0) => ?_)
          · refine J_cst 110 jw hj rfl rfl rfl ?_
            exact J_ret rfl (Or.inl rfl) (fun aw hR => by show _ ∧ _; unfold f_X0_readLine; rw [if_pos h0, if_neg h1, if_pos h2, if_neg h3, if_pos h6]; exact ⟨rfl, hR⟩)
          · refine J_ld 97 jw hj rfl rfl rfl rfl ?_
            refine J_cst 99 jw hj rfl rfl rfl ?_
            refine J_callV1 jw rfl (Or.inl ⟨_, rfl⟩) rfl rfl (st_X9_passSign (g := g) 59 (upI (f_X0_readYear (upI (f_X9_advance (f_Y9_named 2 H).2) 17 ((f_X9_advance (f_Y9_named 2 H).2).1 15 3).toNat ((f_Y9_named 2 H).1))).2 15 3 (iAdd ((f_X0_readYear (upI (f_X9_advance (f_Y9_named 2 H).2) 17 ((f_X9_advance (f_Y9_named 2 H).2).1 15 3).toNat ((f_Y9_named 2 H).1))).2.1 15 3) 1)) (RBt (rp_X0_readYear (upI (f_X9_advance (f_Y9_named 2 H).2) 17 ((f_X9_advance (f_Y9_named 2 H).2).1 15 3).toNat ((f_Y9_named 2 H).1)) (rp_X9_advance (f_Y9_named 2 H).2 (rp_Y9_named 2 H hr))))) ?_
            refine J_ifc (t := 109) jw hj rfl (evn rfl) rfl (fun (h7 : ((f_X9_passSign 59 (upI (f_X0_readYear (upI (f_X9_advance (f_Y9_named 2 H).2) 17 ((f_X9_advance (f_Y9_named 2 H).2).1 15 3).toNat ((f_Y9_named 2 H).1))).2 15 3 (iAdd ((f_X0_readYear (upI (f_X9_advance (f_Y9_named 2 H).2) 17 ((f_X9_advance (f_Y9_named 2 H).2).1 15 3).toNat ((f_Y9_named 2 H).1))).2.1 15 3) 1))).1) = 0) => ?_) (fun (h7 : ¬ ((f_X9_passSign 59 (upI (f_X0_readYear (upI (f_X9_advance (f_Y9_named 2 H).2) 17 ((f_X9_advance (f_Y9_named 2 H).2).1 15 3).toNat ((f_Y9_named 2 H).1))).2 15 3 (iAdd ((f_X0_readYear (upI (f_X9_advance (f_Y9_named 2 H).2) 17 ((f_X9_advance (f_Y9_named 2 H).2).1 15 3).toNat ((f_Y9_named 2 H).1))).2.1 15 3) 1))).1) = 0) => ?_)
            · refine J_cst 110 jw hj rfl rfl rfl ?_
              exact J_ret rfl (Or.inl rfl) (fun aw hR => by show _ ∧ _; unfold f_X0_readLine; rw [if_pos h0, if_neg h1, if_pos h2, if_neg h3, if_neg h6, if_pos h7]; exact ⟨rfl, hR⟩)
            · refine J_cst 106 jw hj rfl rfl rfl ?_
              refine J_goto 110 jw hj rfl rfl ?_
              exact J_ret rfl (Or.inl rfl) (fun aw hR => by show _ ∧ _; unfold f_X0_readLine; rw [if_pos h0, if_neg h1, if_pos h2, if_neg h3, if_neg h6, if_neg h7]; exact ⟨rfl, hR⟩)
      · refine J_ld 41 jw hj rfl rfl rfl rfl ?_
        refine J_cst 42 jw hj rfl rfl rfl ?_
        refine J_callV1 jw rfl (Or.inl ⟨_, rfl⟩) rfl rfl (st_X9_fail (g := g) 4 (f_Y9_named 2 H).2 (RBt (rp_Y9_named 2 H hr))) ?_
        exact J_ret rfl (Or.inl rfl) (fun aw hR => by show _ ∧ _; unfold f_X0_readLine; rw [if_pos h0, if_neg h1, if_neg h2]; exact ⟨rfl, hR⟩)
    · refine J_cst 30 jw hj rfl rfl rfl ?_
      exact J_ret rfl (Or.inl rfl) (fun aw hR => by show _ ∧ _; unfold f_X0_readLine; rw [if_pos h0, if_pos h1]; exact ⟨rfl, hR⟩)
  · refine J_cst 12 jw hj rfl rfl rfl ?_
    refine J_goto 21 jw hj rfl rfl ?_
    refine J_st 23 [rf (g 15), rf (g 4), rf (g 52), pt (f_X9_isAtWord 15 H), pt 0, rvU] (k := 4) jw hj rfl (Or.inl ⟨rfl, rfl⟩) rfl ?_
    refine J_ld 25 jw hj rfl rfl rfl rfl ?_
    refine J_cst 26 jw hj rfl rfl rfl ?_
    refine J_icmp (t := 31) jw hj rfl (evn rfl) rfl (fun (h8 : ¬ (0 : Int) = (-1 : Int)) => ?_) (fun (h8 : (0 : Int) = (-1 : Int)) => absurd h8 (by decide))
    refine J_ld 32 jw hj rfl rfl rfl rfl ?_
    refine J_gfI jw hj rfl (evn rfl) (by decide) rfl (fun r4 => ?_)
    refine J_cst 37 jw hj rfl rfl rfl ?_
    refine J_icmp (t := 46) jw hj rfl (evn rfl) rfl (fun (h9 : H.1 15 3 < 40) => ?_) (fun (h9 : ¬ H.1 15 3 < 40) => ?_)
    · refine J_ld 47 jw hj rfl rfl rfl rfl ?_
      refine J_callV0 jw rfl (Or.inl ⟨_, rfl⟩) rfl rfl (st_X9_advance (g := g) H (RBt hr)) ?_
      refine J_ld 51 jw hj rfl rfl rfl rfl ?_
      refine J_gfR (k := 17) jw hj rfl (evn rfl) (by decide) (by decide) (RBa (rp_X9_advance H hr) rfl) ?_
      refine J_ld 55 jw hj rfl rfl rfl rfl ?_
      refine J_gfI jw hj rfl (evn rfl) (by decide) rfl (fun r5 => ?_)
      refine J_ld 60 jw hj rfl rfl rfl rfl ?_
      refine J_iast jw hj rfl (Or.inl rfl) (fun _ => ?_)
      refine J_ld 62 jw hj rfl rfl rfl rfl ?_
      refine J_ifc (t := 73) jw hj rfl (evn rfl) rfl (fun (h10 : f_X9_isAtWord 15 H = 0) => ?_) (fun (h10 : ¬ f_X9_isAtWord 15 H = 0) => ?_)
      · refine J_ld 74 jw hj rfl rfl rfl rfl ?_
        refine J_ld 75 jw hj rfl rfl rfl rfl ?_
        refine J_ld 76 jw hj rfl rfl rfl rfl ?_
        refine J_callV1 jw rfl (Or.inl ⟨_, rfl⟩) rfl rfl (sp_X0_readDeed (g := g) (upI (f_X9_advance H) 17 ((f_X9_advance H).1 15 3).toNat 0) (rp_X9_advance H hr)) ?_
        refine J_st 81 [rf (g 15), rf (g 4), rf (g 52), pt (f_X9_isAtWord 15 H), pt 0, pt ((f_X0_readDeed (upI (f_X9_advance H) 17 ((f_X9_advance H).1 15 3).toNat 0)).1)] (k := 5) jw hj rfl (Or.inl ⟨rfl, rfl⟩) rfl ?_
        refine J_ld 82 jw hj rfl rfl rfl rfl ?_
        refine J_dup 83 jw hj rfl rfl ?_
        refine J_gfI jw hj rfl (evn rfl) (by decide) rfl (fun r6 => ?_)
        refine J_cst 87 jw hj rfl rfl rfl ?_
        refine J_bin jw hj rfl rfl ?_
        refine J_pfI jw hj rfl (evn rfl) rfl ?_
        refine J_ld 93 jw hj rfl rfl rfl rfl ?_
        refine J_ifc (t := 109) jw hj rfl (evn rfl) rfl (fun (h11 : ((f_X0_readDeed (upI (f_X9_advance H) 17 ((f_X9_advance H).1 15 3).toNat 0)).1) = 0) => ?_) (fun (h11 : ¬ ((f_X0_readDeed (upI (f_X9_advance H) 17 ((f_X9_advance H).1 15 3).toNat 0)).1) = 0) => ?_)
        · refine J_cst 110 jw hj rfl rfl rfl ?_
          exact J_ret rfl (Or.inl rfl) (fun aw hR => by show _ ∧ _; unfold f_X0_readLine; rw [if_neg h0, if_pos h9, if_pos h10, if_pos h11]; exact ⟨rfl, hR⟩)
        · refine J_ld 97 jw hj rfl rfl rfl rfl ?_
          refine J_cst 99 jw hj rfl rfl rfl ?_
          refine J_callV1 jw rfl (Or.inl ⟨_, rfl⟩) rfl rfl (st_X9_passSign (g := g) 59 (upI (f_X0_readDeed (upI (f_X9_advance H) 17 ((f_X9_advance H).1 15 3).toNat 0)).2 15 3 (iAdd ((f_X0_readDeed (upI (f_X9_advance H) 17 ((f_X9_advance H).1 15 3).toNat 0)).2.1 15 3) 1)) (RBt (rp_X0_readDeed (upI (f_X9_advance H) 17 ((f_X9_advance H).1 15 3).toNat 0) (rp_X9_advance H hr)))) ?_
          refine J_ifc (t := 109) jw hj rfl (evn rfl) rfl (fun (h12 : ((f_X9_passSign 59 (upI (f_X0_readDeed (upI (f_X9_advance H) 17 ((f_X9_advance H).1 15 3).toNat 0)).2 15 3 (iAdd ((f_X0_readDeed (upI (f_X9_advance H) 17 ((f_X9_advance H).1 15 3).toNat 0)).2.1 15 3) 1))).1) = 0) => ?_) (fun (h12 : ¬ ((f_X9_passSign 59 (upI (f_X0_readDeed (upI (f_X9_advance H) 17 ((f_X9_advance H).1 15 3).toNat 0)).2 15 3 (iAdd ((f_X0_readDeed (upI (f_X9_advance H) 17 ((f_X9_advance H).1 15 3).toNat 0)).2.1 15 3) 1))).1) = 0) => ?_)
          · refine J_cst 110 jw hj rfl rfl rfl ?_
            exact J_ret rfl (Or.inl rfl) (fun aw hR => by show _ ∧ _; unfold f_X0_readLine; rw [if_neg h0, if_pos h9, if_pos h10, if_neg h11, if_pos h12]; exact ⟨rfl, hR⟩)
          · refine J_cst 106 jw hj rfl rfl rfl ?_
            refine J_goto 110 jw hj rfl rfl ?_
            exact J_ret rfl (Or.inl rfl) (fun aw hR => by show _ ∧ _; unfold f_X0_readLine; rw [if_neg h0, if_pos h9, if_pos h10, if_neg h11, if_neg h12]; exact ⟨rfl, hR⟩)
      · refine J_ld 66 jw hj rfl rfl rfl rfl ?_
        refine J_ld 67 jw hj rfl rfl rfl rfl ?_
        refine J_callV1 jw rfl (Or.inl ⟨_, rfl⟩) rfl rfl (sp_X0_readYear (g := g) (upI (f_X9_advance H) 17 ((f_X9_advance H).1 15 3).toNat 0) (rp_X9_advance H hr)) ?_
        refine J_goto 79 jw hj rfl rfl ?_
        refine J_st 81 [rf (g 15), rf (g 4), rf (g 52), pt (f_X9_isAtWord 15 H), pt 0, pt ((f_X0_readYear (upI (f_X9_advance H) 17 ((f_X9_advance H).1 15 3).toNat 0)).1)] (k := 5) jw hj rfl (Or.inl ⟨rfl, rfl⟩) rfl ?_
        refine J_ld 82 jw hj rfl rfl rfl rfl ?_
        refine J_dup 83 jw hj rfl rfl ?_
        refine J_gfI jw hj rfl (evn rfl) (by decide) rfl (fun r7 => ?_)
        refine J_cst 87 jw hj rfl rfl rfl ?_
        refine J_bin jw hj rfl rfl ?_
        refine J_pfI jw hj rfl (evn rfl) rfl ?_
        refine J_ld 93 jw hj rfl rfl rfl rfl ?_
        refine J_ifc (t := 109) jw hj rfl (evn rfl) rfl (fun (h13 : ((f_X0_readYear (upI (f_X9_advance H) 17 ((f_X9_advance H).1 15 3).toNat 0)).1) = 0) => ?_) (fun (h13 : ¬ ((f_X0_readYear (upI (f_X9_advance H) 17 ((f_X9_advance H).1 15 3).toNat 0)).1) = 0) => ?_)
        · refine J_cst 110 jw hj rfl rfl rfl ?_
          exact J_ret rfl (Or.inl rfl) (fun aw hR => by show _ ∧ _; unfold f_X0_readLine; rw [if_neg h0, if_pos h9, if_neg h10, if_pos h13]; exact ⟨rfl, hR⟩)
        · refine J_ld 97 jw hj rfl rfl rfl rfl ?_
          refine J_cst 99 jw hj rfl rfl rfl ?_
          refine J_callV1 jw rfl (Or.inl ⟨_, rfl⟩) rfl rfl (st_X9_passSign (g := g) 59 (upI (f_X0_readYear (upI (f_X9_advance H) 17 ((f_X9_advance H).1 15 3).toNat 0)).2 15 3 (iAdd ((f_X0_readYear (upI (f_X9_advance H) 17 ((f_X9_advance H).1 15 3).toNat 0)).2.1 15 3) 1)) (RBt (rp_X0_readYear (upI (f_X9_advance H) 17 ((f_X9_advance H).1 15 3).toNat 0) (rp_X9_advance H hr)))) ?_
          refine J_ifc (t := 109) jw hj rfl (evn rfl) rfl (fun (h14 : ((f_X9_passSign 59 (upI (f_X0_readYear (upI (f_X9_advance H) 17 ((f_X9_advance H).1 15 3).toNat 0)).2 15 3 (iAdd ((f_X0_readYear (upI (f_X9_advance H) 17 ((f_X9_advance H).1 15 3).toNat 0)).2.1 15 3) 1))).1) = 0) => ?_) (fun (h14 : ¬ ((f_X9_passSign 59 (upI (f_X0_readYear (upI (f_X9_advance H) 17 ((f_X9_advance H).1 15 3).toNat 0)).2 15 3 (iAdd ((f_X0_readYear (upI (f_X9_advance H) 17 ((f_X9_advance H).1 15 3).toNat 0)).2.1 15 3) 1))).1) = 0) => ?_)
          · refine J_cst 110 jw hj rfl rfl rfl ?_
            exact J_ret rfl (Or.inl rfl) (fun aw hR => by show _ ∧ _; unfold f_X0_readLine; rw [if_neg h0, if_pos h9, if_neg h10, if_neg h13, if_pos h14]; exact ⟨rfl, hR⟩)
          · refine J_cst 106 jw hj rfl rfl rfl ?_
            refine J_goto 110 jw hj rfl rfl ?_
            exact J_ret rfl (Or.inl rfl) (fun aw hR => by show _ ∧ _; unfold f_X0_readLine; rw [if_neg h0, if_pos h9, if_neg h10, if_neg h13, if_neg h14]; exact ⟨rfl, hR⟩)
    · refine J_ld 41 jw hj rfl rfl rfl rfl ?_
      refine J_cst 42 jw hj rfl rfl rfl ?_
      refine J_callV1 jw rfl (Or.inl ⟨_, rfl⟩) rfl rfl (st_X9_fail (g := g) 4 H (RBt hr)) ?_
      exact J_ret rfl (Or.inl rfl) (fun aw hR => by show _ ∧ _; unfold f_X0_readLine; rw [if_neg h0, if_neg h9]; exact ⟨rfl, hR⟩)
theorem rp_X0_readLine {P : (Nat → Nat → Option Nat) → Prop}  (H : hH) (hr : P H.2.2.1) : P (f_X0_readLine H).2.2.2.1 := by
  unfold f_X0_readLine
  by_cases q1 : f_X9_isAtWord 15 H = 0
  · rw [if_pos q1]
    by_cases q2 : ((f_Y9_named 2 H).1) = (-1)
    · rw [if_pos q2]
      exact (rp_Y9_named 2 H hr)
    · rw [if_neg q2]
      by_cases q3 : ((f_Y9_named 2 H).2.1 15 3) < 40
      · rw [if_pos q3]
        by_cases q4 : f_X9_isAtWord 15 H = 0
        · rw [if_pos q4]
          by_cases q5 : ((f_X0_readDeed (upI (f_X9_advance (f_Y9_named 2 H).2) 17 ((f_X9_advance (f_Y9_named 2 H).2).1 15 3).toNat ((f_Y9_named 2 H).1))).1) = 0
          · rw [if_pos q5]
            exact (rp_X0_readDeed (upI (f_X9_advance (f_Y9_named 2 H).2) 17 ((f_X9_advance (f_Y9_named 2 H).2).1 15 3).toNat ((f_Y9_named 2 H).1)) (rp_X9_advance (f_Y9_named 2 H).2 (rp_Y9_named 2 H hr)))
          · rw [if_neg q5]
            by_cases q6 : ((f_X9_passSign 59 (upI (f_X0_readDeed (upI (f_X9_advance (f_Y9_named 2 H).2) 17 ((f_X9_advance (f_Y9_named 2 H).2).1 15 3).toNat ((f_Y9_named 2 H).1))).2 15 3 (iAdd ((f_X0_readDeed (upI (f_X9_advance (f_Y9_named 2 H).2) 17 ((f_X9_advance (f_Y9_named 2 H).2).1 15 3).toNat ((f_Y9_named 2 H).1))).2.1 15 3) 1))).1) = 0
            · rw [if_pos q6]
              exact (rp_X9_passSign 59 (upI (f_X0_readDeed (upI (f_X9_advance (f_Y9_named 2 H).2) 17 ((f_X9_advance (f_Y9_named 2 H).2).1 15 3).toNat ((f_Y9_named 2 H).1))).2 15 3 (iAdd ((f_X0_readDeed (upI (f_X9_advance (f_Y9_named 2 H).2) 17 ((f_X9_advance (f_Y9_named 2 H).2).1 15 3).toNat ((f_Y9_named 2 H).1))).2.1 15 3) 1)) (rp_X0_readDeed (upI (f_X9_advance (f_Y9_named 2 H).2) 17 ((f_X9_advance (f_Y9_named 2 H).2).1 15 3).toNat ((f_Y9_named 2 H).1)) (rp_X9_advance (f_Y9_named 2 H).2 (rp_Y9_named 2 H hr))))
            · rw [if_neg q6]
              exact (rp_X9_passSign 59 (upI (f_X0_readDeed (upI (f_X9_advance (f_Y9_named 2 H).2) 17 ((f_X9_advance (f_Y9_named 2 H).2).1 15 3).toNat ((f_Y9_named 2 H).1))).2 15 3 (iAdd ((f_X0_readDeed (upI (f_X9_advance (f_Y9_named 2 H).2) 17 ((f_X9_advance (f_Y9_named 2 H).2).1 15 3).toNat ((f_Y9_named 2 H).1))).2.1 15 3) 1)) (rp_X0_readDeed (upI (f_X9_advance (f_Y9_named 2 H).2) 17 ((f_X9_advance (f_Y9_named 2 H).2).1 15 3).toNat ((f_Y9_named 2 H).1)) (rp_X9_advance (f_Y9_named 2 H).2 (rp_Y9_named 2 H hr))))
        · rw [if_neg q4]
          by_cases q5 : ((f_X0_readYear (upI (f_X9_advance (f_Y9_named 2 H).2) 17 ((f_X9_advance (f_Y9_named 2 H).2).1 15 3).toNat ((f_Y9_named 2 H).1))).1) = 0
          · rw [if_pos q5]
            exact (rp_X0_readYear (upI (f_X9_advance (f_Y9_named 2 H).2) 17 ((f_X9_advance (f_Y9_named 2 H).2).1 15 3).toNat ((f_Y9_named 2 H).1)) (rp_X9_advance (f_Y9_named 2 H).2 (rp_Y9_named 2 H hr)))
          · rw [if_neg q5]
            by_cases q6 : ((f_X9_passSign 59 (upI (f_X0_readYear (upI (f_X9_advance (f_Y9_named 2 H).2) 17 ((f_X9_advance (f_Y9_named 2 H).2).1 15 3).toNat ((f_Y9_named 2 H).1))).2 15 3 (iAdd ((f_X0_readYear (upI (f_X9_advance (f_Y9_named 2 H).2) 17 ((f_X9_advance (f_Y9_named 2 H).2).1 15 3).toNat ((f_Y9_named 2 H).1))).2.1 15 3) 1))).1) = 0
            · rw [if_pos q6]
              exact (rp_X9_passSign 59 (upI (f_X0_readYear (upI (f_X9_advance (f_Y9_named 2 H).2) 17 ((f_X9_advance (f_Y9_named 2 H).2).1 15 3).toNat ((f_Y9_named 2 H).1))).2 15 3 (iAdd ((f_X0_readYear (upI (f_X9_advance (f_Y9_named 2 H).2) 17 ((f_X9_advance (f_Y9_named 2 H).2).1 15 3).toNat ((f_Y9_named 2 H).1))).2.1 15 3) 1)) (rp_X0_readYear (upI (f_X9_advance (f_Y9_named 2 H).2) 17 ((f_X9_advance (f_Y9_named 2 H).2).1 15 3).toNat ((f_Y9_named 2 H).1)) (rp_X9_advance (f_Y9_named 2 H).2 (rp_Y9_named 2 H hr))))
            · rw [if_neg q6]
              exact (rp_X9_passSign 59 (upI (f_X0_readYear (upI (f_X9_advance (f_Y9_named 2 H).2) 17 ((f_X9_advance (f_Y9_named 2 H).2).1 15 3).toNat ((f_Y9_named 2 H).1))).2 15 3 (iAdd ((f_X0_readYear (upI (f_X9_advance (f_Y9_named 2 H).2) 17 ((f_X9_advance (f_Y9_named 2 H).2).1 15 3).toNat ((f_Y9_named 2 H).1))).2.1 15 3) 1)) (rp_X0_readYear (upI (f_X9_advance (f_Y9_named 2 H).2) 17 ((f_X9_advance (f_Y9_named 2 H).2).1 15 3).toNat ((f_Y9_named 2 H).1)) (rp_X9_advance (f_Y9_named 2 H).2 (rp_Y9_named 2 H hr))))
      · rw [if_neg q3]
        exact (rp_X9_fail 4 (f_Y9_named 2 H).2 (rp_Y9_named 2 H hr))
  · rw [if_neg q1]
    by_cases q2 : H.1 15 3 < 40
    · rw [if_pos q2]
      by_cases q3 : f_X9_isAtWord 15 H = 0
      · rw [if_pos q3]
        by_cases q4 : ((f_X0_readDeed (upI (f_X9_advance H) 17 ((f_X9_advance H).1 15 3).toNat 0)).1) = 0
        · rw [if_pos q4]
          exact (rp_X0_readDeed (upI (f_X9_advance H) 17 ((f_X9_advance H).1 15 3).toNat 0) (rp_X9_advance H hr))
        · rw [if_neg q4]
          by_cases q5 : ((f_X9_passSign 59 (upI (f_X0_readDeed (upI (f_X9_advance H) 17 ((f_X9_advance H).1 15 3).toNat 0)).2 15 3 (iAdd ((f_X0_readDeed (upI (f_X9_advance H) 17 ((f_X9_advance H).1 15 3).toNat 0)).2.1 15 3) 1))).1) = 0
          · rw [if_pos q5]
            exact (rp_X9_passSign 59 (upI (f_X0_readDeed (upI (f_X9_advance H) 17 ((f_X9_advance H).1 15 3).toNat 0)).2 15 3 (iAdd ((f_X0_readDeed (upI (f_X9_advance H) 17 ((f_X9_advance H).1 15 3).toNat 0)).2.1 15 3) 1)) (rp_X0_readDeed (upI (f_X9_advance H) 17 ((f_X9_advance H).1 15 3).toNat 0) (rp_X9_advance H hr)))
          · rw [if_neg q5]
            exact (rp_X9_passSign 59 (upI (f_X0_readDeed (upI (f_X9_advance H) 17 ((f_X9_advance H).1 15 3).toNat 0)).2 15 3 (iAdd ((f_X0_readDeed (upI (f_X9_advance H) 17 ((f_X9_advance H).1 15 3).toNat 0)).2.1 15 3) 1)) (rp_X0_readDeed (upI (f_X9_advance H) 17 ((f_X9_advance H).1 15 3).toNat 0) (rp_X9_advance H hr)))
      · rw [if_neg q3]
        by_cases q4 : ((f_X0_readYear (upI (f_X9_advance H) 17 ((f_X9_advance H).1 15 3).toNat 0)).1) = 0
        · rw [if_pos q4]
          exact (rp_X0_readYear (upI (f_X9_advance H) 17 ((f_X9_advance H).1 15 3).toNat 0) (rp_X9_advance H hr))
        · rw [if_neg q4]
          by_cases q5 : ((f_X9_passSign 59 (upI (f_X0_readYear (upI (f_X9_advance H) 17 ((f_X9_advance H).1 15 3).toNat 0)).2 15 3 (iAdd ((f_X0_readYear (upI (f_X9_advance H) 17 ((f_X9_advance H).1 15 3).toNat 0)).2.1 15 3) 1))).1) = 0
          · rw [if_pos q5]
            exact (rp_X9_passSign 59 (upI (f_X0_readYear (upI (f_X9_advance H) 17 ((f_X9_advance H).1 15 3).toNat 0)).2 15 3 (iAdd ((f_X0_readYear (upI (f_X9_advance H) 17 ((f_X9_advance H).1 15 3).toNat 0)).2.1 15 3) 1)) (rp_X0_readYear (upI (f_X9_advance H) 17 ((f_X9_advance H).1 15 3).toNat 0) (rp_X9_advance H hr)))
          · rw [if_neg q5]
            exact (rp_X9_passSign 59 (upI (f_X0_readYear (upI (f_X9_advance H) 17 ((f_X9_advance H).1 15 3).toNat 0)).2 15 3 (iAdd ((f_X0_readYear (upI (f_X9_advance H) 17 ((f_X9_advance H).1 15 3).toNat 0)).2.1 15 3) 1)) (rp_X0_readYear (upI (f_X9_advance H) 17 ((f_X9_advance H).1 15 3).toNat 0) (rp_X9_advance H hr)))
    · rw [if_neg q2]
      exact (rp_X9_fail 4 H hr)
def f_X0_brl : Nat → hH → Int × hH
  | 0, H => (0, H)
  | k + 1, H =>
    if H.1 4 10 = 1 then
      (1, H)
    else
      if ((f_X0_readLine H).1) = 0 then
        (0, (f_X0_readLine H).2)
      else
        f_X0_brl k (f_X0_readLine H).2
set_option maxHeartbeats 16000000 in
set_option maxRecDepth 100000 in
theorem lp_X0_brl {g : Nat → Nat} : ∀ (k i : Nat) (H : hH), i + k = 940 → RB H.2.2.1 → J g rvTab rvInf rvRet 316 rvMth 88 (fun res => res.1 = some (pt (f_X0_brl k H).1) ∧ RH g res.2 (f_X0_brl k H).2) 14 [rf (g 15), rf (g 4), rf (g 52), pt (i : Int)] [] H := by
  intro k
  induction k with
  | zero =>
    intro i H hk hr
    have hj : 88 < 316 := by decide
    refine J_ld 15 jw hj rfl rfl rfl rfl ?_
    refine J_cst 18 jw hj rfl rfl rfl ?_
    refine J_icmp (t := 48) jw hj rfl (evn rfl) rfl (fun (h0 : ¬ (i : Int) < 940) => ?_) (fun (h0 : (i : Int) < 940) => ?_)
    · refine J_cst 49 jw hj rfl rfl rfl ?_
      exact J_ret rfl (Or.inl rfl) (fun aw hR => ⟨rfl, hR⟩)
    · exact absurd h0 (by omega)
  | succ k ih =>
    intro i H hk hr
    have hj : 88 < 316 := by decide
    refine J_ld 15 jw hj rfl rfl rfl rfl ?_
    refine J_cst 18 jw hj rfl rfl rfl ?_
    refine J_icmp (t := 48) jw hj rfl (evn rfl) rfl (fun (h0 : ¬ (i : Int) < 940) => ?_) (fun (h0 : (i : Int) < 940) => ?_)
    · refine J_cst 49 jw hj rfl rfl rfl ?_
      exact absurd (show (i : Int) < 940 by omega) h0
    · refine J_ld 22 jw hj rfl rfl rfl rfl ?_
      refine J_gfI jw hj rfl (evn rfl) (by decide) rfl (fun r0 => ?_)
      refine J_cst 26 jw hj rfl rfl rfl ?_
      refine J_icmp (t := 31) jw hj rfl (evn rfl) rfl (fun (h1 : ¬ H.1 4 10 = 1) => ?_) (fun (h1 : H.1 4 10 = 1) => ?_)
      · refine J_ld 32 jw hj rfl rfl rfl rfl ?_
        refine J_ld 33 jw hj rfl rfl rfl rfl ?_
        refine J_ld 34 jw hj rfl rfl rfl rfl ?_
        refine J_callV1 jw rfl (Or.inl ⟨_, rfl⟩) rfl rfl (sp_X0_readLine (g := g) H hr) ?_
        refine J_ifc (t := 42) jw hj rfl (evn rfl) rfl (fun (h2 : ¬ ((f_X0_readLine H).1) = 0) => ?_) (fun (h2 : ((f_X0_readLine H).1) = 0) => ?_)
        · refine J_iinc (al' := [rf (g 15), rf (g 4), rf (g 52), pt (iAdd (i : Int) 1)]) jw hj rfl (evn rfl) rfl rfl ?_
          refine J_goto 14 jw hj rfl rfl ?_
          rw [show iAdd (i : Int) 1 = ((i + 1 : Nat) : Int) from iAdd_1 (by omega)]
          have e2 : f_X0_brl (k + 1) H = f_X0_brl k (f_X0_readLine H).2 := by
            rw [f_X0_brl]
            rw [if_neg h1, if_neg h2]
          rw [e2]
          exact ih (i + 1) (f_X0_readLine H).2 (by omega) (rp_X0_readLine H hr)
        · refine J_cst 41 jw hj rfl rfl rfl ?_
          exact J_ret rfl (Or.inl rfl) (fun aw hR => by show _ ∧ _; rw [f_X0_brl]; rw [if_neg h1, if_pos h2]; exact ⟨rfl, hR⟩)
      · refine J_cst 30 jw hj rfl rfl rfl ?_
        exact J_ret rfl (Or.inl rfl) (fun aw hR => by show _ ∧ _; rw [f_X0_brl]; rw [if_pos h1]; exact ⟨rfl, hR⟩)
theorem rp_X0_brl {P : (Nat → Nat → Option Nat) → Prop} : ∀ (k : Nat) (H : hH), P H.2.2.1 → P (f_X0_brl k H).2.2.2.1 := by
  intro k
  induction k with
  | zero => intro H hr; exact hr
  | succ k ih =>
    intro H hr
    rw [f_X0_brl]
    by_cases q2 : H.1 4 10 = 1
    · rw [if_pos q2]
      exact hr
    · rw [if_neg q2]
      by_cases q3 : ((f_X0_readLine H).1) = 0
      · rw [if_pos q3]
        exact (rp_X0_readLine H hr)
      · rw [if_neg q3]
        exact ih (f_X0_readLine H).2 (rp_X0_readLine H hr)
def f_X0_read  (H : hH) : Int × hH :=
  ((f_X0_brl 940 (f_X9_begin 400 (upI H 15 3 0))).1, (f_X0_brl 940 (f_X9_begin 400 (upI H 15 3 0))).2)
set_option maxHeartbeats 16000000 in
set_option maxRecDepth 100000 in
theorem sp_X0_read {g : Nat → Nat}  (H : hH) (hr : RB H.2.2.1) : SP g rvTab rvInf rvRet 316 rvMth 88 [rf (g 15), rf (g 4), rf (g 52)] H (some (pt (f_X0_read H).1)) (f_X0_read H).2 := by
  have hj : 88 < 316 := by decide
  refine J_SP hj (Nat.le_of_ble_eq_true rfl) ?_
  show J g rvTab rvInf rvRet 316 rvMth 88 _ 0 [rf (g 15), rf (g 4), rf (g 52), rvU] [] H
  refine J_ld 1 jw hj rfl rfl rfl rfl ?_
  refine J_cst 2 jw hj rfl rfl rfl ?_
  refine J_pfI jw hj rfl (evn rfl) rfl ?_
  refine J_ld 6 jw hj rfl rfl rfl rfl ?_
  refine J_cst 9 jw hj rfl rfl rfl ?_
  refine J_callV0 jw rfl (Or.inl ⟨_, rfl⟩) rfl rfl (st_X9_begin (g := g) 400 (upI H 15 3 0) (RBt hr)) ?_
  refine J_cst 13 jw hj rfl rfl rfl ?_
  refine J_st 14 [rf (g 15), rf (g 4), rf (g 52), pt 0] (k := 3) jw hj rfl (Or.inr (Or.inr (Or.inl ⟨_, rfl, rfl, rfl⟩))) rfl ?_
  have e : f_X0_read H = (f_X0_brl 940 (f_X9_begin 400 (upI H 15 3 0))) := rfl
  rw [e]
  exact lp_X0_brl 940 0 (f_X9_begin 400 (upI H 15 3 0)) rfl (rp_X9_begin 400 (upI H 15 3 0) hr)
theorem rp_X0_read {P : (Nat → Nat → Option Nat) → Prop}  (H : hH) (hr : P H.2.2.1) : P (f_X0_read H).2.2.2.1 := by
  unfold f_X0_read
  exact (rp_X0_brl 940 (f_X9_begin 400 (upI H 15 3 0)) (rp_X9_begin 400 (upI H 15 3 0) hr))
def ryL : List (Nat × Nat × Nat) := rbL ++ [(0, 0, 4), (0, 9, 15), (0, 1, 56), (56, 0, 52)]
def RY (r : Nat → Nat → Option Nat) : Prop := ∀ q ∈ ryL, r q.1 q.2.1 = some q.2.2
theorem RYa {r : Nat → Nat → Option Nat} (h : RY r) {p f k : Nat} (hm : ryL.elem (p, f, k) = true) : r p f = some k := h (p, f, k) (List.elem_iff.mp hm)
theorem RYb {r : Nat → Nat → Option Nat} (h : RY r) : RB r := fun q hq => h q (List.mem_append_left _ hq)
/-- behind the fault's store it stays -/
def bkTailX (g : Nat → Nat) : Prop := ∀ (a1 a2 : Int) (H : hH), RY H.2.2.1 → J g rvTab rvInf rvRet 316 rvMth 303 (fun res => FB (g 0) 11 14 (H.1 0 14) res.2) 43 [rf (g 0), pt a1, pt a2, rvU] [] H
set_option maxHeartbeats 16000000 in
set_option maxRecDepth 100000 in
theorem sp_X11_book {g : Nat → Nat} (hT : bkTailX g) (a1 : Int) (ha : a1 = 0 ∨ a1 = 1) (H : hH) (hr : RY H.2.2.1) : ∀ aw : rvH, RH g aw H → exL [rf (g 0), pt a1] → PCM rvTab rvInf rvRet 316 rvMth 303 [rf (g 0), pt a1] aw (fun res => FB (g 0) 11 14 ((f_X0_read H).2.1 4 13) res.2) := by
  have hj : 303 < 316 := by decide
  refine J_PCMb hj (Nat.le_of_ble_eq_true rfl) ?_
  show J g rvTab rvInf rvRet 316 rvMth 303 _ 0 [rf (g 0), pt a1, rvU, rvU] [] H
  refine J_ld 1 jw hj rfl rfl rfl rfl ?_
  refine J_ifc (t := 13) jw hj rfl (evn rfl) rfl (fun (h0 : a1 = 0) => ?_) (fun (h0 : ¬ a1 = 0) => ?_)
  · refine J_ld 14 jw hj rfl rfl rfl rfl ?_
    refine J_gfR (k := 15) jw hj rfl (evn rfl) (by decide) (by decide) (RYa (p := 0) (f := 9) (k := 15) hr rfl) ?_
    refine J_ld 18 jw hj rfl rfl rfl rfl ?_
    refine J_gfR (k := 4) jw hj rfl (evn rfl) (by decide) (by decide) (RYa (p := 0) (f := 0) (k := 4) hr rfl) ?_
    refine J_ld 22 jw hj rfl rfl rfl rfl ?_
    refine J_gfR (k := 56) jw hj rfl (evn rfl) (by decide) (by decide) (RYa (p := 0) (f := 1) (k := 56) hr rfl) ?_
    refine J_gfR (k := 52) jw hj rfl (evn rfl) (by decide) (by decide) (RYa (p := 56) (f := 0) (k := 52) hr rfl) ?_
    refine J_callV1 jw rfl (Or.inl ⟨_, rfl⟩) rfl rfl (sp_X0_read (g := g) H (RYb hr)) ?_
    refine J_st 32 [rf (g 0), pt a1, pt ((f_X0_read H).1), rvU] (k := 2) jw hj rfl (Or.inr (Or.inr (Or.inl ⟨_, rfl, rfl, rfl⟩))) rfl ?_
    refine J_ld 33 jw hj rfl rfl rfl rfl ?_
    refine J_ld 34 jw hj rfl rfl rfl rfl ?_
    refine J_gfR (k := 4) jw hj rfl (evn rfl) (by decide) (by decide) (RYa (p := 0) (f := 0) (k := 4) (rp_X0_read H hr) rfl) ?_
    refine J_gfI jw hj rfl (evn rfl) (by decide) rfl (fun r0 => ?_)
    refine J_pfI jw hj rfl (evn rfl) rfl ?_
    have e9 : ((upI (f_X0_read H).2 0 14 ((f_X0_read H).2.1 4 13))).1 0 14 = (f_X0_read H).2.1 4 13 := pd_upI_at _ _ _ _
    rw [← e9]
    exact hT a1 (f_X0_read H).1 (upI (f_X0_read H).2 0 14 ((f_X0_read H).2.1 4 13)) (rp_X0_read H hr)
  · refine J_ld 5 jw hj rfl rfl rfl rfl ?_
    refine J_cst 6 jw hj rfl rfl rfl ?_
    refine J_icmp (t := 13) jw hj rfl (evn rfl) rfl (fun (h1 : a1 = 1) => ?_) (fun (h1 : ¬ a1 = 1) => ?_)
    · refine J_ld 14 jw hj rfl rfl rfl rfl ?_
      refine J_gfR (k := 15) jw hj rfl (evn rfl) (by decide) (by decide) (RYa (p := 0) (f := 9) (k := 15) hr rfl) ?_
      refine J_ld 18 jw hj rfl rfl rfl rfl ?_
      refine J_gfR (k := 4) jw hj rfl (evn rfl) (by decide) (by decide) (RYa (p := 0) (f := 0) (k := 4) hr rfl) ?_
      refine J_ld 22 jw hj rfl rfl rfl rfl ?_
      refine J_gfR (k := 56) jw hj rfl (evn rfl) (by decide) (by decide) (RYa (p := 0) (f := 1) (k := 56) hr rfl) ?_
      refine J_gfR (k := 52) jw hj rfl (evn rfl) (by decide) (by decide) (RYa (p := 56) (f := 0) (k := 52) hr rfl) ?_
      refine J_callV1 jw rfl (Or.inl ⟨_, rfl⟩) rfl rfl (sp_X0_read (g := g) H (RYb hr)) ?_
      refine J_st 32 [rf (g 0), pt a1, pt ((f_X0_read H).1), rvU] (k := 2) jw hj rfl (Or.inr (Or.inr (Or.inl ⟨_, rfl, rfl, rfl⟩))) rfl ?_
      refine J_ld 33 jw hj rfl rfl rfl rfl ?_
      refine J_ld 34 jw hj rfl rfl rfl rfl ?_
      refine J_gfR (k := 4) jw hj rfl (evn rfl) (by decide) (by decide) (RYa (p := 0) (f := 0) (k := 4) (rp_X0_read H hr) rfl) ?_
      refine J_gfI jw hj rfl (evn rfl) (by decide) rfl (fun r1 => ?_)
      refine J_pfI jw hj rfl (evn rfl) rfl ?_
      have e9 : ((upI (f_X0_read H).2 0 14 ((f_X0_read H).2.1 4 13))).1 0 14 = (f_X0_read H).2.1 4 13 := pd_upI_at _ _ _ _
      rw [← e9]
      exact hT a1 (f_X0_read H).1 (upI (f_X0_read H).2 0 14 ((f_X0_read H).2.1 4 13)) (rp_X0_read H hr)
    · refine J_cst 12 jw hj rfl rfl rfl ?_
      exact absurd ha (by omega)
