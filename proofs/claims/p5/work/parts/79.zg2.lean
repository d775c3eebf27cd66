/-! The readers above the loops (written by wip/p4/gen.py). -/
def f_X10_isFull (a1 : Int) (H : hH) : Int :=
  if H.1 61 (a1).toNat < stx 0 a1 then
    0
  else
    1
set_option maxHeartbeats 16000000 in
set_option maxRecDepth 100000 in
theorem sp_X10_isFull {g : Nat → Nat} (a1 : Int) (H : hH) (hr : RF H.2.2.1) : SP g rvTab rvInf rvRet 316 rvMth 132 [rf (g 60), pt a1] H (some (pt (f_X10_isFull a1 H))) H := by
  have hj : 132 < 316 := by decide
  refine J_SP hj (Nat.le_of_ble_eq_true rfl) ?_
  show J g rvTab rvInf rvRet 316 rvMth 132 _ 0 [rf (g 60), pt a1] [] H
  refine J_ld 1 jw hj rfl rfl rfl rfl ?_
  refine J_gfR (k := 61) jw hj rfl (evn rfl) (by decide) (by decide) (RFa hr rfl) ?_
  refine J_ld 5 jw hj rfl rfl rfl rfl ?_
  refine J_iald jw hj rfl (Or.inl rfl) (fun z0 r0 => ?_)
  refine J_gst 9 0 jw hj rfl rfl ?_
  refine J_ld 10 jw hj rfl rfl rfl rfl ?_
  refine J_ialdT jw hj rfl (evn rfl) (fun _ => ?_)
  refine J_icmp (t := 18) jw hj rfl (evn rfl) rfl (fun (h0 : H.1 61 (a1).toNat < stx 0 a1) => ?_) (fun (h0 : ¬ H.1 61 (a1).toNat < stx 0 a1) => ?_)
  · refine J_cst 19 jw hj rfl rfl rfl ?_
    exact J_ret rfl (Or.inl rfl) (fun aw hR => by show _ ∧ _; unfold f_X10_isFull; rw [if_pos h0]; exact ⟨rfl, hR⟩)
  · refine J_cst 15 jw hj rfl rfl rfl ?_
    refine J_goto 19 jw hj rfl rfl ?_
    exact J_ret rfl (Or.inl rfl) (fun aw hR => by show _ ∧ _; unfold f_X10_isFull; rw [if_neg h0]; exact ⟨rfl, hR⟩)
def f_X9_named (a2 : Int) (H : hH) : Int × hH :=
  if H.1 4 10 = 5 then
    if f_X10_numberOf (H.2.1 4 12) a2 H = (-1) then
      (f_X10_numberOf (H.2.1 4 12) a2 H, (f_X9_fail 3 H).2)
    else
      (f_X10_numberOf (H.2.1 4 12) a2 H, H)
  else
    ((-1), (f_X9_fail 1 H).2)
set_option maxHeartbeats 16000000 in
set_option maxRecDepth 100000 in
theorem sp_X9_named {g : Nat → Nat} (a2 : Int) (H : hH) (hr : RF H.2.2.1) : SP g rvTab rvInf rvRet 316 rvMth 11 [rf (g 4), rf (g 60), pt a2] H (some (pt (f_X9_named a2 H).1)) (f_X9_named a2 H).2 := by
  have hj : 11 < 316 := by decide
  refine J_SP hj (Nat.le_of_ble_eq_true rfl) ?_
  show J g rvTab rvInf rvRet 316 rvMth 11 _ 0 [rf (g 4), rf (g 60), pt a2, rvU] [] H
  refine J_ld 1 jw hj rfl rfl rfl rfl ?_
  refine J_gfI jw hj rfl (evn rfl) (by decide) rfl (fun r0 => ?_)
  refine J_cst 5 jw hj rfl rfl rfl ?_
  refine J_icmp (t := 16) jw hj rfl (evn rfl) rfl (fun (h0 : H.1 4 10 = 5) => ?_) (fun (h0 : ¬ H.1 4 10 = 5) => ?_)
  · refine J_ld 17 jw hj rfl rfl rfl rfl ?_
    refine J_ld 18 jw hj rfl rfl rfl rfl ?_
    refine J_gfL jw hj rfl (evn rfl) (by decide) rfl ?_
    refine J_ld 22 jw hj rfl rfl rfl rfl ?_
    refine J_callV1 jw rfl (Or.inl ⟨_, rfl⟩) rfl rfl (sp_X10_numberOf (g := g) (H.2.1 4 12) a2 H hr) ?_
    refine J_st 26 [rf (g 4), rf (g 60), pt a2, pt (f_X10_numberOf (H.2.1 4 12) a2 H)] (k := 3) jw hj rfl (Or.inr (Or.inr (Or.inl ⟨_, rfl, rfl, rfl⟩))) rfl ?_
    refine J_ld 27 jw hj rfl rfl rfl rfl ?_
    refine J_cst 28 jw hj rfl rfl rfl ?_
    refine J_icmp (t := 37) jw hj rfl (evn rfl) rfl (fun (h1 : ¬ f_X10_numberOf (H.2.1 4 12) a2 H = (-1)) => ?_) (fun (h1 : f_X10_numberOf (H.2.1 4 12) a2 H = (-1)) => ?_)
    · refine J_ld 38 jw hj rfl rfl rfl rfl ?_
      exact J_ret rfl (Or.inl rfl) (fun aw hR => by show _ ∧ _; unfold f_X9_named; rw [if_pos h0, if_neg h1]; exact ⟨rfl, hR⟩)
    · refine J_ld 32 jw hj rfl rfl rfl rfl ?_
      refine J_cst 33 jw hj rfl rfl rfl ?_
      refine J_callV1 jw rfl (Or.inl ⟨_, rfl⟩) rfl rfl (sp_X9_fail (g := g) 3 H hr) ?_
      refine J_pop 37 jw hj rfl rfl ?_
      refine J_ld 38 jw hj rfl rfl rfl rfl ?_
      exact J_ret rfl (Or.inl rfl) (fun aw hR => by show _ ∧ _; unfold f_X9_named; rw [if_pos h0, if_pos h1]; exact ⟨rfl, hR⟩)
  · refine J_ld 9 jw hj rfl rfl rfl rfl ?_
    refine J_cst 10 jw hj rfl rfl rfl ?_
    refine J_callV1 jw rfl (Or.inl ⟨_, rfl⟩) rfl rfl (sp_X9_fail (g := g) 1 H hr) ?_
    refine J_pop 14 jw hj rfl rfl ?_
    refine J_cst 15 jw hj rfl rfl rfl ?_
    exact J_ret rfl (Or.inl rfl) (fun aw hR => by show _ ∧ _; unfold f_X9_named; rw [if_neg h0]; exact ⟨rfl, hR⟩)
theorem rf_X9_named (a2 : Int) (H : hH) (hr : RF H.2.2.1) : RF (f_X9_named a2 H).2.2.2.1 := by
  unfold f_X9_named
  by_cases q1 : H.1 4 10 = 5
  · rw [if_pos q1]
    by_cases q2 : f_X10_numberOf (H.2.1 4 12) a2 H = (-1)
    · rw [if_pos q2]
      exact (rf_X9_fail 3 H hr)
    · rw [if_neg q2]
      exact hr
  · rw [if_neg q1]
    exact (rf_X9_fail 1 H hr)
def f_X1_readPerson (a1 : Int) (H : hH) : Int × hH :=
  if ((f_X9_named 0 H).1) = (-1) then
    (0, (f_X9_named 0 H).2)
  else
    if f_X9_isAtWord 8 (f_X9_advance (upI (f_X9_named 0 H).2 53 (a1).toNat ((f_X9_named 0 H).1))) = 0 then
      if f_X9_isAtWord 7 (f_X9_advance (upI (f_X9_named 0 H).2 53 (a1).toNat ((f_X9_named 0 H).1))) = 0 then
        ((f_X9_fail 1 (f_X9_advance (upI (f_X9_named 0 H).2 53 (a1).toNat ((f_X9_named 0 H).1)))).1, (f_X9_fail 1 (f_X9_advance (upI (f_X9_named 0 H).2 53 (a1).toNat ((f_X9_named 0 H).1)))).2)
      else
        if ((upI (f_X9_passNumber 0 20 (f_X9_advance (f_X9_advance (upI (f_X9_named 0 H).2 53 (a1).toNat ((f_X9_named 0 H).1))))).2 63 (a1).toNat ((f_X9_passNumber 0 20 (f_X9_advance (f_X9_advance (upI (f_X9_named 0 H).2 53 (a1).toNat ((f_X9_named 0 H).1))))).1)).1 63 (a1).toNat) = (-1) then
          (0, (upI (f_X9_passNumber 0 20 (f_X9_advance (f_X9_advance (upI (f_X9_named 0 H).2 53 (a1).toNat ((f_X9_named 0 H).1))))).2 63 (a1).toNat ((f_X9_passNumber 0 20 (f_X9_advance (f_X9_advance (upI (f_X9_named 0 H).2 53 (a1).toNat ((f_X9_named 0 H).1))))).1)))
        else
          if f_X9_isAtWord 9 (f_X9_passNumber 0 20 (f_X9_advance (f_X9_advance (upI (f_X9_named 0 H).2 53 (a1).toNat ((f_X9_named 0 H).1))))).2 = 0 then
            (1, (upI (f_X9_passNumber 0 20 (f_X9_advance (f_X9_advance (upI (f_X9_named 0 H).2 53 (a1).toNat ((f_X9_named 0 H).1))))).2 63 (a1).toNat ((f_X9_passNumber 0 20 (f_X9_advance (f_X9_advance (upI (f_X9_named 0 H).2 53 (a1).toNat ((f_X9_named 0 H).1))))).1)))
          else
            (1, (f_X9_advance (upI (upI (f_X9_passNumber 0 20 (f_X9_advance (f_X9_advance (upI (f_X9_named 0 H).2 53 (a1).toNat ((f_X9_named 0 H).1))))).2 63 (a1).toNat ((f_X9_passNumber 0 20 (f_X9_advance (f_X9_advance (upI (f_X9_named 0 H).2 53 (a1).toNat ((f_X9_named 0 H).1))))).1)) 52 1 (iOr ((f_X9_passNumber 0 20 (f_X9_advance (f_X9_advance (upI (f_X9_named 0 H).2 53 (a1).toNat ((f_X9_named 0 H).1))))).2.1 52 1) (iShl 1 a1)))))
    else
      if ((upI (f_X9_passNumber 0 20 (f_X9_advance (upI (f_X9_advance (upI (f_X9_named 0 H).2 53 (a1).toNat ((f_X9_named 0 H).1))) 60 7 (iOr ((f_X9_advance (upI (f_X9_named 0 H).2 53 (a1).toNat ((f_X9_named 0 H).1))).1 60 7) (iShl 1 a1))))).2 63 (a1).toNat ((f_X9_passNumber 0 20 (f_X9_advance (upI (f_X9_advance (upI (f_X9_named 0 H).2 53 (a1).toNat ((f_X9_named 0 H).1))) 60 7 (iOr ((f_X9_advance (upI (f_X9_named 0 H).2 53 (a1).toNat ((f_X9_named 0 H).1))).1 60 7) (iShl 1 a1))))).1)).1 63 (a1).toNat) = (-1) then
        (0, (upI (f_X9_passNumber 0 20 (f_X9_advance (upI (f_X9_advance (upI (f_X9_named 0 H).2 53 (a1).toNat ((f_X9_named 0 H).1))) 60 7 (iOr ((f_X9_advance (upI (f_X9_named 0 H).2 53 (a1).toNat ((f_X9_named 0 H).1))).1 60 7) (iShl 1 a1))))).2 63 (a1).toNat ((f_X9_passNumber 0 20 (f_X9_advance (upI (f_X9_advance (upI (f_X9_named 0 H).2 53 (a1).toNat ((f_X9_named 0 H).1))) 60 7 (iOr ((f_X9_advance (upI (f_X9_named 0 H).2 53 (a1).toNat ((f_X9_named 0 H).1))).1 60 7) (iShl 1 a1))))).1)))
      else
        if f_X9_isAtWord 9 (f_X9_passNumber 0 20 (f_X9_advance (upI (f_X9_advance (upI (f_X9_named 0 H).2 53 (a1).toNat ((f_X9_named 0 H).1))) 60 7 (iOr ((f_X9_advance (upI (f_X9_named 0 H).2 53 (a1).toNat ((f_X9_named 0 H).1))).1 60 7) (iShl 1 a1))))).2 = 0 then
          (1, (upI (f_X9_passNumber 0 20 (f_X9_advance (upI (f_X9_advance (upI (f_X9_named 0 H).2 53 (a1).toNat ((f_X9_named 0 H).1))) 60 7 (iOr ((f_X9_advance (upI (f_X9_named 0 H).2 53 (a1).toNat ((f_X9_named 0 H).1))).1 60 7) (iShl 1 a1))))).2 63 (a1).toNat ((f_X9_passNumber 0 20 (f_X9_advance (upI (f_X9_advance (upI (f_X9_named 0 H).2 53 (a1).toNat ((f_X9_named 0 H).1))) 60 7 (iOr ((f_X9_advance (upI (f_X9_named 0 H).2 53 (a1).toNat ((f_X9_named 0 H).1))).1 60 7) (iShl 1 a1))))).1)))
        else
          (1, (f_X9_advance (upI (upI (f_X9_passNumber 0 20 (f_X9_advance (upI (f_X9_advance (upI (f_X9_named 0 H).2 53 (a1).toNat ((f_X9_named 0 H).1))) 60 7 (iOr ((f_X9_advance (upI (f_X9_named 0 H).2 53 (a1).toNat ((f_X9_named 0 H).1))).1 60 7) (iShl 1 a1))))).2 63 (a1).toNat ((f_X9_passNumber 0 20 (f_X9_advance (upI (f_X9_advance (upI (f_X9_named 0 H).2 53 (a1).toNat ((f_X9_named 0 H).1))) 60 7 (iOr ((f_X9_advance (upI (f_X9_named 0 H).2 53 (a1).toNat ((f_X9_named 0 H).1))).1 60 7) (iShl 1 a1))))).1)) 52 1 (iOr ((f_X9_passNumber 0 20 (f_X9_advance (upI (f_X9_advance (upI (f_X9_named 0 H).2 53 (a1).toNat ((f_X9_named 0 H).1))) 60 7 (iOr ((f_X9_advance (upI (f_X9_named 0 H).2 53 (a1).toNat ((f_X9_named 0 H).1))).1 60 7) (iShl 1 a1))))).2.1 52 1) (iShl 1 a1)))))
set_option maxHeartbeats 16000000 in
set_option maxRecDepth 100000 in
theorem sp_X1_readPerson {g : Nat → Nat} (a1 : Int) (H : hH) (hr : RF H.2.2.1) : SP g rvTab rvInf rvRet 316 rvMth 135 [rf (g 13), pt a1] H (some (pt (f_X1_readPerson a1 H).1)) (f_X1_readPerson a1 H).2 := by
  have hj : 135 < 316 := by decide
  refine J_SP hj (Nat.le_of_ble_eq_true rfl) ?_
  show J g rvTab rvInf rvRet 316 rvMth 135 _ 0 [rf (g 13), pt a1, rvU] [] H
  refine J_ld 1 jw hj rfl rfl rfl rfl ?_
  refine J_gfR (k := 4) jw hj rfl (evn rfl) (by decide) (by decide) (RFa hr rfl) ?_
  refine J_ld 5 jw hj rfl rfl rfl rfl ?_
  refine J_gfR (k := 60) jw hj rfl (evn rfl) (by decide) (by decide) (RFa hr rfl) ?_
  refine J_cst 9 jw hj rfl rfl rfl ?_
  refine J_callV1 jw rfl (Or.inl ⟨_, rfl⟩) rfl rfl (sp_X9_named (g := g) 0 H hr) ?_
  refine J_st 13 [rf (g 13), pt a1, pt ((f_X9_named 0 H).1)] (k := 2) jw hj rfl (Or.inr (Or.inr (Or.inl ⟨_, rfl, rfl, rfl⟩))) rfl ?_
  refine J_ld 14 jw hj rfl rfl rfl rfl ?_
  refine J_cst 15 jw hj rfl rfl rfl ?_
  refine J_icmp (t := 20) jw hj rfl (evn rfl) rfl (fun (h0 : ¬ ((f_X9_named 0 H).1) = (-1)) => ?_) (fun (h0 : ((f_X9_named 0 H).1) = (-1)) => ?_)
  · refine J_ld 21 jw hj rfl rfl rfl rfl ?_
    refine J_gfR (k := 52) jw hj rfl (evn rfl) (by decide) (by decide) (RFa (rf_X9_named 0 H hr) rfl) ?_
    refine J_gfR (k := 53) jw hj rfl (evn rfl) (by decide) (by decide) (RFa (rf_X9_named 0 H hr) rfl) ?_
    refine J_ld 28 jw hj rfl rfl rfl rfl ?_
    refine J_ld 29 jw hj rfl rfl rfl rfl ?_
    refine J_iast jw hj rfl (Or.inl rfl) (fun _ => ?_)
    refine J_ld 31 jw hj rfl rfl rfl rfl ?_
    refine J_gfR (k := 4) jw hj rfl (evn rfl) (by decide) (by decide) (RFa (rf_X9_named 0 H hr) rfl) ?_
    refine J_callV0 jw rfl (Or.inl ⟨_, rfl⟩) rfl rfl (sp_X9_advance (g := g) (upI (f_X9_named 0 H).2 53 (a1).toNat ((f_X9_named 0 H).1)) (rf_X9_named 0 H hr)) ?_
    refine J_ld 38 jw hj rfl rfl rfl rfl ?_
    refine J_gfR (k := 4) jw hj rfl (evn rfl) (by decide) (by decide) (RFa (rf_X9_advance (upI (f_X9_named 0 H).2 53 (a1).toNat ((f_X9_named 0 H).1)) (rf_X9_named 0 H hr)) rfl) ?_
    refine J_cst 43 jw hj rfl rfl rfl ?_
    refine J_callV1 jw rfl (Or.inl ⟨_, rfl⟩) rfl rfl (sp_X9_isAtWord (g := g) 8 (f_X9_advance (upI (f_X9_named 0 H).2 53 (a1).toNat ((f_X9_named 0 H).1)))) ?_
    refine J_ifc (t := 67) jw hj rfl (evn rfl) rfl (fun (h1 : f_X9_isAtWord 8 (f_X9_advance (upI (f_X9_named 0 H).2 53 (a1).toNat ((f_X9_named 0 H).1))) = 0) => ?_) (fun (h1 : ¬ f_X9_isAtWord 8 (f_X9_advance (upI (f_X9_named 0 H).2 53 (a1).toNat ((f_X9_named 0 H).1))) = 0) => ?_)
    · refine J_ld 68 jw hj rfl rfl rfl rfl ?_
      refine J_gfR (k := 4) jw hj rfl (evn rfl) (by decide) (by decide) (RFa (rf_X9_advance (upI (f_X9_named 0 H).2 53 (a1).toNat ((f_X9_named 0 H).1)) (rf_X9_named 0 H hr)) rfl) ?_
      refine J_cst 73 jw hj rfl rfl rfl ?_
      refine J_callV1 jw rfl (Or.inl ⟨_, rfl⟩) rfl rfl (sp_X9_isAtWord (g := g) 7 (f_X9_advance (upI (f_X9_named 0 H).2 53 (a1).toNat ((f_X9_named 0 H).1)))) ?_
      refine J_ifc (t := 88) jw hj rfl (evn rfl) rfl (fun (h2 : ¬ f_X9_isAtWord 7 (f_X9_advance (upI (f_X9_named 0 H).2 53 (a1).toNat ((f_X9_named 0 H).1))) = 0) => ?_) (fun (h2 : f_X9_isAtWord 7 (f_X9_advance (upI (f_X9_named 0 H).2 53 (a1).toNat ((f_X9_named 0 H).1))) = 0) => ?_)
      · refine J_ld 89 jw hj rfl rfl rfl rfl ?_
        refine J_gfR (k := 4) jw hj rfl (evn rfl) (by decide) (by decide) (RFa (rf_X9_advance (upI (f_X9_named 0 H).2 53 (a1).toNat ((f_X9_named 0 H).1)) (rf_X9_named 0 H hr)) rfl) ?_
        refine J_callV0 jw rfl (Or.inl ⟨_, rfl⟩) rfl rfl (sp_X9_advance (g := g) (f_X9_advance (upI (f_X9_named 0 H).2 53 (a1).toNat ((f_X9_named 0 H).1))) (rf_X9_advance (upI (f_X9_named 0 H).2 53 (a1).toNat ((f_X9_named 0 H).1)) (rf_X9_named 0 H hr))) ?_
        refine J_ld 96 jw hj rfl rfl rfl rfl ?_
        refine J_gfR (k := 60) jw hj rfl (evn rfl) (by decide) (by decide) (RFa (rf_X9_advance (f_X9_advance (upI (f_X9_named 0 H).2 53 (a1).toNat ((f_X9_named 0 H).1))) (rf_X9_advance (upI (f_X9_named 0 H).2 53 (a1).toNat ((f_X9_named 0 H).1)) (rf_X9_named 0 H hr))) rfl) ?_
        refine J_gfR (k := 63) jw hj rfl (evn rfl) (by decide) (by decide) (RFa (rf_X9_advance (f_X9_advance (upI (f_X9_named 0 H).2 53 (a1).toNat ((f_X9_named 0 H).1))) (rf_X9_advance (upI (f_X9_named 0 H).2 53 (a1).toNat ((f_X9_named 0 H).1)) (rf_X9_named 0 H hr))) rfl) ?_
        refine J_ld 103 jw hj rfl rfl rfl rfl ?_
        refine J_ld 104 jw hj rfl rfl rfl rfl ?_
        refine J_gfR (k := 4) jw hj rfl (evn rfl) (by decide) (by decide) (RFa (rf_X9_advance (f_X9_advance (upI (f_X9_named 0 H).2 53 (a1).toNat ((f_X9_named 0 H).1))) (rf_X9_advance (upI (f_X9_named 0 H).2 53 (a1).toNat ((f_X9_named 0 H).1)) (rf_X9_named 0 H hr))) rfl) ?_
        refine J_cst 108 jw hj rfl rfl rfl ?_
        refine J_cst 110 jw hj rfl rfl rfl ?_
        refine J_callV1 jw rfl (Or.inl ⟨_, rfl⟩) rfl rfl (sp_X9_passNumber (g := g) 0 20 (f_X9_advance (f_X9_advance (upI (f_X9_named 0 H).2 53 (a1).toNat ((f_X9_named 0 H).1)))) (rf_X9_advance (f_X9_advance (upI (f_X9_named 0 H).2 53 (a1).toNat ((f_X9_named 0 H).1))) (rf_X9_advance (upI (f_X9_named 0 H).2 53 (a1).toNat ((f_X9_named 0 H).1)) (rf_X9_named 0 H hr)))) ?_
        refine J_iast jw hj rfl (Or.inl rfl) (fun _ => ?_)
        refine J_ld 115 jw hj rfl rfl rfl rfl ?_
        refine J_gfR (k := 60) jw hj rfl (evn rfl) (by decide) (by decide) (RFa (rf_X9_passNumber 0 20 (f_X9_advance (f_X9_advance (upI (f_X9_named 0 H).2 53 (a1).toNat ((f_X9_named 0 H).1)))) (rf_X9_advance (f_X9_advance (upI (f_X9_named 0 H).2 53 (a1).toNat ((f_X9_named 0 H).1))) (rf_X9_advance (upI (f_X9_named 0 H).2 53 (a1).toNat ((f_X9_named 0 H).1)) (rf_X9_named 0 H hr)))) rfl) ?_
        refine J_gfR (k := 63) jw hj rfl (evn rfl) (by decide) (by decide) (RFa (rf_X9_passNumber 0 20 (f_X9_advance (f_X9_advance (upI (f_X9_named 0 H).2 53 (a1).toNat ((f_X9_named 0 H).1)))) (rf_X9_advance (f_X9_advance (upI (f_X9_named 0 H).2 53 (a1).toNat ((f_X9_named 0 H).1))) (rf_X9_advance (upI (f_X9_named 0 H).2 53 (a1).toNat ((f_X9_named 0 H).1)) (rf_X9_named 0 H hr)))) rfl) ?_
        refine J_ld 122 jw hj rfl rfl rfl rfl ?_
        refine J_iald jw hj rfl (Or.inl rfl) (fun z0 r0 => ?_)
        refine J_cst 124 jw hj rfl rfl rfl ?_
        refine J_icmp (t := 129) jw hj rfl (evn rfl) rfl (fun (h3 : ¬ ((upI (f_X9_passNumber 0 20 (f_X9_advance (f_X9_advance (upI (f_X9_named 0 H).2 53 (a1).toNat ((f_X9_named 0 H).1))))).2 63 (a1).toNat ((f_X9_passNumber 0 20 (f_X9_advance (f_X9_advance (upI (f_X9_named 0 H).2 53 (a1).toNat ((f_X9_named 0 H).1))))).1)).1 63 (a1).toNat) = (-1)) => ?_) (fun (h3 : ((upI (f_X9_passNumber 0 20 (f_X9_advance (f_X9_advance (upI (f_X9_named 0 H).2 53 (a1).toNat ((f_X9_named 0 H).1))))).2 63 (a1).toNat ((f_X9_passNumber 0 20 (f_X9_advance (f_X9_advance (upI (f_X9_named 0 H).2 53 (a1).toNat ((f_X9_named 0 H).1))))).1)).1 63 (a1).toNat) = (-1)) => ?_)
        · refine J_ld 130 jw hj rfl rfl rfl rfl ?_
          refine J_gfR (k := 4) jw hj rfl (evn rfl) (by decide) (by decide) (RFa (rf_X9_passNumber 0 20 (f_X9_advance (f_X9_advance (upI (f_X9_named 0 H).2 53 (a1).toNat ((f_X9_named 0 H).1)))) (rf_X9_advance (f_X9_advance (upI (f_X9_named 0 H).2 53 (a1).toNat ((f_X9_named 0 H).1))) (rf_X9_advance (upI (f_X9_named 0 H).2 53 (a1).toNat ((f_X9_named 0 H).1)) (rf_X9_named 0 H hr)))) rfl) ?_
          refine J_cst 135 jw hj rfl rfl rfl ?_
          refine J_callV1 jw rfl (Or.inl ⟨_, rfl⟩) rfl rfl (sp_X9_isAtWord (g := g) 9 (upI (f_X9_passNumber 0 20 (f_X9_advance (f_X9_advance (upI (f_X9_named 0 H).2 53 (a1).toNat ((f_X9_named 0 H).1))))).2 63 (a1).toNat ((f_X9_passNumber 0 20 (f_X9_advance (f_X9_advance (upI (f_X9_named 0 H).2 53 (a1).toNat ((f_X9_named 0 H).1))))).1))) ?_
          refine J_ifc (t := 163) jw hj rfl (evn rfl) rfl (fun (h4 : f_X9_isAtWord 9 (f_X9_passNumber 0 20 (f_X9_advance (f_X9_advance (upI (f_X9_named 0 H).2 53 (a1).toNat ((f_X9_named 0 H).1))))).2 = 0) => ?_) (fun (h4 : ¬ f_X9_isAtWord 9 (f_X9_passNumber 0 20 (f_X9_advance (f_X9_advance (upI (f_X9_named 0 H).2 53 (a1).toNat ((f_X9_named 0 H).1))))).2 = 0) => ?_)
          · refine J_cst 164 jw hj rfl rfl rfl ?_
            exact J_ret rfl (Or.inl rfl) (fun aw hR => by show _ ∧ _; unfold f_X1_readPerson; rw [if_neg h0, if_pos h1, if_neg h2, if_neg h3, if_pos h4]; exact ⟨rfl, hR⟩)
          · refine J_ld 142 jw hj rfl rfl rfl rfl ?_
            refine J_gfR (k := 52) jw hj rfl (evn rfl) (by decide) (by decide) (RFa (rf_X9_passNumber 0 20 (f_X9_advance (f_X9_advance (upI (f_X9_named 0 H).2 53 (a1).toNat ((f_X9_named 0 H).1)))) (rf_X9_advance (f_X9_advance (upI (f_X9_named 0 H).2 53 (a1).toNat ((f_X9_named 0 H).1))) (rf_X9_advance (upI (f_X9_named 0 H).2 53 (a1).toNat ((f_X9_named 0 H).1)) (rf_X9_named 0 H hr)))) rfl) ?_
            refine J_dup 146 jw hj rfl rfl ?_
            refine J_gfI jw hj rfl (evn rfl) (by decide) rfl (fun r1 => ?_)
            refine J_cst 150 jw hj rfl rfl rfl ?_
            refine J_ld 151 jw hj rfl rfl rfl rfl ?_
            refine J_bin jw hj rfl rfl ?_
            refine J_bin jw hj rfl rfl ?_
            refine J_pfI jw hj rfl (evn rfl) rfl ?_
            refine J_ld 157 jw hj rfl rfl rfl rfl ?_
            refine J_gfR (k := 4) jw hj rfl (evn rfl) (by decide) (by decide) (RFa (rf_X9_passNumber 0 20 (f_X9_advance (f_X9_advance (upI (f_X9_named 0 H).2 53 (a1).toNat ((f_X9_named 0 H).1)))) (rf_X9_advance (f_X9_advance (upI (f_X9_named 0 H).2 53 (a1).toNat ((f_X9_named 0 H).1))) (rf_X9_advance (upI (f_X9_named 0 H).2 53 (a1).toNat ((f_X9_named 0 H).1)) (rf_X9_named 0 H hr)))) rfl) ?_
            refine J_callV0 jw rfl (Or.inl ⟨_, rfl⟩) rfl rfl (sp_X9_advance (g := g) (upI (upI (f_X9_passNumber 0 20 (f_X9_advance (f_X9_advance (upI (f_X9_named 0 H).2 53 (a1).toNat ((f_X9_named 0 H).1))))).2 63 (a1).toNat ((f_X9_passNumber 0 20 (f_X9_advance (f_X9_advance (upI (f_X9_named 0 H).2 53 (a1).toNat ((f_X9_named 0 H).1))))).1)) 52 1 (iOr ((f_X9_passNumber 0 20 (f_X9_advance (f_X9_advance (upI (f_X9_named 0 H).2 53 (a1).toNat ((f_X9_named 0 H).1))))).2.1 52 1) (iShl 1 a1))) (rf_X9_passNumber 0 20 (f_X9_advance (f_X9_advance (upI (f_X9_named 0 H).2 53 (a1).toNat ((f_X9_named 0 H).1)))) (rf_X9_advance (f_X9_advance (upI (f_X9_named 0 H).2 53 (a1).toNat ((f_X9_named 0 H).1))) (rf_X9_advance (upI (f_X9_named 0 H).2 53 (a1).toNat ((f_X9_named 0 H).1)) (rf_X9_named 0 H hr))))) ?_
            refine J_cst 164 jw hj rfl rfl rfl ?_
            exact J_ret rfl (Or.inl rfl) (fun aw hR => by show _ ∧ _; unfold f_X1_readPerson; rw [if_neg h0, if_pos h1, if_neg h2, if_neg h3, if_neg h4]; exact ⟨rfl, hR⟩)
        · refine J_cst 128 jw hj rfl rfl rfl ?_
          exact J_ret rfl (Or.inl rfl) (fun aw hR => by show _ ∧ _; unfold f_X1_readPerson; rw [if_neg h0, if_pos h1, if_neg h2, if_pos h3]; exact ⟨rfl, hR⟩)
      · refine J_ld 80 jw hj rfl rfl rfl rfl ?_
        refine J_gfR (k := 4) jw hj rfl (evn rfl) (by decide) (by decide) (RFa (rf_X9_advance (upI (f_X9_named 0 H).2 53 (a1).toNat ((f_X9_named 0 H).1)) (rf_X9_named 0 H hr)) rfl) ?_
        refine J_cst 84 jw hj rfl rfl rfl ?_
        refine J_callV1 jw rfl (Or.inl ⟨_, rfl⟩) rfl rfl (sp_X9_fail (g := g) 1 (f_X9_advance (upI (f_X9_named 0 H).2 53 (a1).toNat ((f_X9_named 0 H).1))) (rf_X9_advance (upI (f_X9_named 0 H).2 53 (a1).toNat ((f_X9_named 0 H).1)) (rf_X9_named 0 H hr))) ?_
        exact J_ret rfl (Or.inl rfl) (fun aw hR => by show _ ∧ _; unfold f_X1_readPerson; rw [if_neg h0, if_pos h1, if_pos h2]; exact ⟨rfl, hR⟩)
    · refine J_ld 50 jw hj rfl rfl rfl rfl ?_
      refine J_gfR (k := 60) jw hj rfl (evn rfl) (by decide) (by decide) (RFa (rf_X9_advance (upI (f_X9_named 0 H).2 53 (a1).toNat ((f_X9_named 0 H).1)) (rf_X9_named 0 H hr)) rfl) ?_
      refine J_dup 54 jw hj rfl rfl ?_
      refine J_gfI jw hj rfl (evn rfl) (by decide) rfl (fun r2 => ?_)
      refine J_cst 58 jw hj rfl rfl rfl ?_
      refine J_ld 59 jw hj rfl rfl rfl rfl ?_
      refine J_bin jw hj rfl rfl ?_
      refine J_bin jw hj rfl rfl ?_
      refine J_pfI jw hj rfl (evn rfl) rfl ?_
      refine J_goto 88 jw hj rfl rfl ?_
      refine J_ld 89 jw hj rfl rfl rfl rfl ?_
      refine J_gfR (k := 4) jw hj rfl (evn rfl) (by decide) (by decide) (RFa (rf_X9_advance (upI (f_X9_named 0 H).2 53 (a1).toNat ((f_X9_named 0 H).1)) (rf_X9_named 0 H hr)) rfl) ?_
      refine J_callV0 jw rfl (Or.inl ⟨_, rfl⟩) rfl rfl (sp_X9_advance (g := g) (upI (f_X9_advance (upI (f_X9_named 0 H).2 53 (a1).toNat ((f_X9_named 0 H).1))) 60 7 (iOr ((f_X9_advance (upI (f_X9_named 0 H).2 53 (a1).toNat ((f_X9_named 0 H).1))).1 60 7) (iShl 1 a1))) (rf_X9_advance (upI (f_X9_named 0 H).2 53 (a1).toNat ((f_X9_named 0 H).1)) (rf_X9_named 0 H hr))) ?_
      refine J_ld 96 jw hj rfl rfl rfl rfl ?_
      refine J_gfR (k := 60) jw hj rfl (evn rfl) (by decide) (by decide) (RFa (rf_X9_advance (upI (f_X9_advance (upI (f_X9_named 0 H).2 53 (a1).toNat ((f_X9_named 0 H).1))) 60 7 (iOr ((f_X9_advance (upI (f_X9_named 0 H).2 53 (a1).toNat ((f_X9_named 0 H).1))).1 60 7) (iShl 1 a1))) (rf_X9_advance (upI (f_X9_named 0 H).2 53 (a1).toNat ((f_X9_named 0 H).1)) (rf_X9_named 0 H hr))) rfl) ?_
      refine J_gfR (k := 63) jw hj rfl (evn rfl) (by decide) (by decide) (RFa (rf_X9_advance (upI (f_X9_advance (upI (f_X9_named 0 H).2 53 (a1).toNat ((f_X9_named 0 H).1))) 60 7 (iOr ((f_X9_advance (upI (f_X9_named 0 H).2 53 (a1).toNat ((f_X9_named 0 H).1))).1 60 7) (iShl 1 a1))) (rf_X9_advance (upI (f_X9_named 0 H).2 53 (a1).toNat ((f_X9_named 0 H).1)) (rf_X9_named 0 H hr))) rfl) ?_
      refine J_ld 103 jw hj rfl rfl rfl rfl ?_
      refine J_ld 104 jw hj rfl rfl rfl rfl ?_
      refine J_gfR (k := 4) jw hj rfl (evn rfl) (by decide) (by decide) (RFa (rf_X9_advance (upI (f_X9_advance (upI (f_X9_named 0 H).2 53 (a1).toNat ((f_X9_named 0 H).1))) 60 7 (iOr ((f_X9_advance (upI (f_X9_named 0 H).2 53 (a1).toNat ((f_X9_named 0 H).1))).1 60 7) (iShl 1 a1))) (rf_X9_advance (upI (f_X9_named 0 H).2 53 (a1).toNat ((f_X9_named 0 H).1)) (rf_X9_named 0 H hr))) rfl) ?_
      refine J_cst 108 jw hj rfl rfl rfl ?_
      refine J_cst 110 jw hj rfl rfl rfl ?_
      refine J_callV1 jw rfl (Or.inl ⟨_, rfl⟩) rfl rfl (sp_X9_passNumber (g := g) 0 20 (f_X9_advance (upI (f_X9_advance (upI (f_X9_named 0 H).2 53 (a1).toNat ((f_X9_named 0 H).1))) 60 7 (iOr ((f_X9_advance (upI (f_X9_named 0 H).2 53 (a1).toNat ((f_X9_named 0 H).1))).1 60 7) (iShl 1 a1)))) (rf_X9_advance (upI (f_X9_advance (upI (f_X9_named 0 H).2 53 (a1).toNat ((f_X9_named 0 H).1))) 60 7 (iOr ((f_X9_advance (upI (f_X9_named 0 H).2 53 (a1).toNat ((f_X9_named 0 H).1))).1 60 7) (iShl 1 a1))) (rf_X9_advance (upI (f_X9_named 0 H).2 53 (a1).toNat ((f_X9_named 0 H).1)) (rf_X9_named 0 H hr)))) ?_
      refine J_iast jw hj rfl (Or.inl rfl) (fun _ => ?_)
      refine J_ld 115 jw hj rfl rfl rfl rfl ?_
      refine J_gfR (k := 60) jw hj rfl (evn rfl) (by decide) (by decide) (RFa (rf_X9_passNumber 0 20 (f_X9_advance (upI (f_X9_advance (upI (f_X9_named 0 H).2 53 (a1).toNat ((f_X9_named 0 H).1))) 60 7 (iOr ((f_X9_advance (upI (f_X9_named 0 H).2 53 (a1).toNat ((f_X9_named 0 H).1))).1 60 7) (iShl 1 a1)))) (rf_X9_advance (upI (f_X9_advance (upI (f_X9_named 0 H).2 53 (a1).toNat ((f_X9_named 0 H).1))) 60 7 (iOr ((f_X9_advance (upI (f_X9_named 0 H).2 53 (a1).toNat ((f_X9_named 0 H).1))).1 60 7) (iShl 1 a1))) (rf_X9_advance (upI (f_X9_named 0 H).2 53 (a1).toNat ((f_X9_named 0 H).1)) (rf_X9_named 0 H hr)))) rfl) ?_
      refine J_gfR (k := 63) jw hj rfl (evn rfl) (by decide) (by decide) (RFa (rf_X9_passNumber 0 20 (f_X9_advance (upI (f_X9_advance (upI (f_X9_named 0 H).2 53 (a1).toNat ((f_X9_named 0 H).1))) 60 7 (iOr ((f_X9_advance (upI (f_X9_named 0 H).2 53 (a1).toNat ((f_X9_named 0 H).1))).1 60 7) (iShl 1 a1)))) (rf_X9_advance (upI (f_X9_advance (upI (f_X9_named 0 H).2 53 (a1).toNat ((f_X9_named 0 H).1))) 60 7 (iOr ((f_X9_advance (upI (f_X9_named 0 H).2 53 (a1).toNat ((f_X9_named 0 H).1))).1 60 7) (iShl 1 a1))) (rf_X9_advance (upI (f_X9_named 0 H).2 53 (a1).toNat ((f_X9_named 0 H).1)) (rf_X9_named 0 H hr)))) rfl) ?_
      refine J_ld 122 jw hj rfl rfl rfl rfl ?_
      refine J_iald jw hj rfl (Or.inl rfl) (fun z3 r3 => ?_)
      refine J_cst 124 jw hj rfl rfl rfl ?_
      refine J_icmp (t := 129) jw hj rfl (evn rfl) rfl (fun (h5 : ¬ ((upI (f_X9_passNumber 0 20 (f_X9_advance (upI (f_X9_advance (upI (f_X9_named 0 H).2 53 (a1).toNat ((f_X9_named 0 H).1))) 60 7 (iOr ((f_X9_advance (upI (f_X9_named 0 H).2 53 (a1).toNat ((f_X9_named 0 H).1))).1 60 7) (iShl 1 a1))))).2 63 (a1).toNat ((f_X9_passNumber 0 20 (f_X9_advance (upI (f_X9_advance (upI (f_X9_named 0 H).2 53 (a1).toNat ((f_X9_named 0 H).1))) 60 7 (iOr ((f_X9_advance (upI (f_X9_named 0 H).2 53 (a1).toNat ((f_X9_named 0 H).1))).1 60 7) (iShl 1 a1))))).1)).1 63 (a1).toNat) = (-1)) => ?_) (fun (h5 : ((upI (f_X9_passNumber 0 20 (f_X9_advance (upI (f_X9_advance (upI (f_X9_named 0 H).2 53 (a1).toNat ((f_X9_named 0 H).1))) 60 7 (iOr ((f_X9_advance (upI (f_X9_named 0 H).2 53 (a1).toNat ((f_X9_named 0 H).1))).1 60 7) (iShl 1 a1))))).2 63 (a1).toNat ((f_X9_passNumber 0 20 (f_X9_advance (upI (f_X9_advance (upI (f_X9_named 0 H).2 53 (a1).toNat ((f_X9_named 0 H).1))) 60 7 (iOr ((f_X9_advance (upI (f_X9_named 0 H).2 53 (a1).toNat ((f_X9_named 0 H).1))).1 60 7) (iShl 1 a1))))).1)).1 63 (a1).toNat) = (-1)) => ?_)
      · refine J_ld 130 jw hj rfl rfl rfl rfl ?_
        refine J_gfR (k := 4) jw hj rfl (evn rfl) (by decide) (by decide) (RFa (rf_X9_passNumber 0 20 (f_X9_advance (upI (f_X9_advance (upI (f_X9_named 0 H).2 53 (a1).toNat ((f_X9_named 0 H).1))) 60 7 (iOr ((f_X9_advance (upI (f_X9_named 0 H).2 53 (a1).toNat ((f_X9_named 0 H).1))).1 60 7) (iShl 1 a1)))) (rf_X9_advance (upI (f_X9_advance (upI (f_X9_named 0 H).2 53 (a1).toNat ((f_X9_named 0 H).1))) 60 7 (iOr ((f_X9_advance (upI (f_X9_named 0 H).2 53 (a1).toNat ((f_X9_named 0 H).1))).1 60 7) (iShl 1 a1))) (rf_X9_advance (upI (f_X9_named 0 H).2 53 (a1).toNat ((f_X9_named 0 H).1)) (rf_X9_named 0 H hr)))) rfl) ?_
        refine J_cst 135 jw hj rfl rfl rfl ?_
        refine J_callV1 jw rfl (Or.inl ⟨_, rfl⟩) rfl rfl (sp_X9_isAtWord (g := g) 9 (upI (f_X9_passNumber 0 20 (f_X9_advance (upI (f_X9_advance (upI (f_X9_named 0 H).2 53 (a1).toNat ((f_X9_named 0 H).1))) 60 7 (iOr ((f_X9_advance (upI (f_X9_named 0 H).2 53 (a1).toNat ((f_X9_named 0 H).1))).1 60 7) (iShl 1 a1))))).2 63 (a1).toNat ((f_X9_passNumber 0 20 (f_X9_advance (upI (f_X9_advance (upI (f_X9_named 0 H).2 53 (a1).toNat ((f_X9_named 0 H).1))) 60 7 (iOr ((f_X9_advance (upI (f_X9_named 0 H).2 53 (a1).toNat ((f_X9_named 0 H).1))).1 60 7) (iShl 1 a1))))).1))) ?_
        refine J_ifc (t := 163) jw hj rfl (evn rfl) rfl (fun (h6 : f_X9_isAtWord 9 (f_X9_passNumber 0 20 (f_X9_advance (upI (f_X9_advance (upI (f_X9_named 0 H).2 53 (a1).toNat ((f_X9_named 0 H).1))) 60 7 (iOr ((f_X9_advance (upI (f_X9_named 0 H).2 53 (a1).toNat ((f_X9_named 0 H).1))).1 60 7) (iShl 1 a1))))).2 = 0) => ?_) (fun (h6 : ¬ f_X9_isAtWord 9 (f_X9_passNumber 0 20 (f_X9_advance (upI (f_X9_advance (upI (f_X9_named 0 H).2 53 (a1).toNat ((f_X9_named 0 H).1))) 60 7 (iOr ((f_X9_advance (upI (f_X9_named 0 H).2 53 (a1).toNat ((f_X9_named 0 H).1))).1 60 7) (iShl 1 a1))))).2 = 0) => ?_)
        · refine J_cst 164 jw hj rfl rfl rfl ?_
          exact J_ret rfl (Or.inl rfl) (fun aw hR => by show _ ∧ _; unfold f_X1_readPerson; rw [if_neg h0, if_neg h1, if_neg h5, if_pos h6]; exact ⟨rfl, hR⟩)
        · refine J_ld 142 jw hj rfl rfl rfl rfl ?_
          refine J_gfR (k := 52) jw hj rfl (evn rfl) (by decide) (by decide) (RFa (rf_X9_passNumber 0 20 (f_X9_advance (upI (f_X9_advance (upI (f_X9_named 0 H).2 53 (a1).toNat ((f_X9_named 0 H).1))) 60 7 (iOr ((f_X9_advance (upI (f_X9_named 0 H).2 53 (a1).toNat ((f_X9_named 0 H).1))).1 60 7) (iShl 1 a1)))) (rf_X9_advance (upI (f_X9_advance (upI (f_X9_named 0 H).2 53 (a1).toNat ((f_X9_named 0 H).1))) 60 7 (iOr ((f_X9_advance (upI (f_X9_named 0 H).2 53 (a1).toNat ((f_X9_named 0 H).1))).1 60 7) (iShl 1 a1))) (rf_X9_advance (upI (f_X9_named 0 H).2 53 (a1).toNat ((f_X9_named 0 H).1)) (rf_X9_named 0 H hr)))) rfl) ?_
          refine J_dup 146 jw hj rfl rfl ?_
          refine J_gfI jw hj rfl (evn rfl) (by decide) rfl (fun r4 => ?_)
          refine J_cst 150 jw hj rfl rfl rfl ?_
          refine J_ld 151 jw hj rfl rfl rfl rfl ?_
          refine J_bin jw hj rfl rfl ?_
          refine J_bin jw hj rfl rfl ?_
          refine J_pfI jw hj rfl (evn rfl) rfl ?_
          refine J_ld 157 jw hj rfl rfl rfl rfl ?_
          refine J_gfR (k := 4) jw hj rfl (evn rfl) (by decide) (by decide) (RFa (rf_X9_passNumber 0 20 (f_X9_advance (upI (f_X9_advance (upI (f_X9_named 0 H).2 53 (a1).toNat ((f_X9_named 0 H).1))) 60 7 (iOr ((f_X9_advance (upI (f_X9_named 0 H).2 53 (a1).toNat ((f_X9_named 0 H).1))).1 60 7) (iShl 1 a1)))) (rf_X9_advance (upI (f_X9_advance (upI (f_X9_named 0 H).2 53 (a1).toNat ((f_X9_named 0 H).1))) 60 7 (iOr ((f_X9_advance (upI (f_X9_named 0 H).2 53 (a1).toNat ((f_X9_named 0 H).1))).1 60 7) (iShl 1 a1))) (rf_X9_advance (upI (f_X9_named 0 H).2 53 (a1).toNat ((f_X9_named 0 H).1)) (rf_X9_named 0 H hr)))) rfl) ?_
          refine J_callV0 jw rfl (Or.inl ⟨_, rfl⟩) rfl rfl (sp_X9_advance (g := g) (upI (upI (f_X9_passNumber 0 20 (f_X9_advance (upI (f_X9_advance (upI (f_X9_named 0 H).2 53 (a1).toNat ((f_X9_named 0 H).1))) 60 7 (iOr ((f_X9_advance (upI (f_X9_named 0 H).2 53 (a1).toNat ((f_X9_named 0 H).1))).1 60 7) (iShl 1 a1))))).2 63 (a1).toNat ((f_X9_passNumber 0 20 (f_X9_advance (upI (f_X9_advance (upI (f_X9_named 0 H).2 53 (a1).toNat ((f_X9_named 0 H).1))) 60 7 (iOr ((f_X9_advance (upI (f_X9_named 0 H).2 53 (a1).toNat ((f_X9_named 0 H).1))).1 60 7) (iShl 1 a1))))).1)) 52 1 (iOr ((f_X9_passNumber 0 20 (f_X9_advance (upI (f_X9_advance (upI (f_X9_named 0 H).2 53 (a1).toNat ((f_X9_named 0 H).1))) 60 7 (iOr ((f_X9_advance (upI (f_X9_named 0 H).2 53 (a1).toNat ((f_X9_named 0 H).1))).1 60 7) (iShl 1 a1))))).2.1 52 1) (iShl 1 a1))) (rf_X9_passNumber 0 20 (f_X9_advance (upI (f_X9_advance (upI (f_X9_named 0 H).2 53 (a1).toNat ((f_X9_named 0 H).1))) 60 7 (iOr ((f_X9_advance (upI (f_X9_named 0 H).2 53 (a1).toNat ((f_X9_named 0 H).1))).1 60 7) (iShl 1 a1)))) (rf_X9_advance (upI (f_X9_advance (upI (f_X9_named 0 H).2 53 (a1).toNat ((f_X9_named 0 H).1))) 60 7 (iOr ((f_X9_advance (upI (f_X9_named 0 H).2 53 (a1).toNat ((f_X9_named 0 H).1))).1 60 7) (iShl 1 a1))) (rf_X9_advance (upI (f_X9_named 0 H).2 53 (a1).toNat ((f_X9_named 0 H).1)) (rf_X9_named 0 H hr))))) ?_
          refine J_cst 164 jw hj rfl rfl rfl ?_
          exact J_ret rfl (Or.inl rfl) (fun aw hR => by show _ ∧ _; unfold f_X1_readPerson; rw [if_neg h0, if_neg h1, if_neg h5, if_neg h6]; exact ⟨rfl, hR⟩)
      · refine J_cst 128 jw hj rfl rfl rfl ?_
        exact J_ret rfl (Or.inl rfl) (fun aw hR => by show _ ∧ _; unfold f_X1_readPerson; rw [if_neg h0, if_neg h1, if_pos h5]; exact ⟨rfl, hR⟩)
  · refine J_cst 19 jw hj rfl rfl rfl ?_
    exact J_ret rfl (Or.inl rfl) (fun aw hR => by show _ ∧ _; unfold f_X1_readPerson; rw [if_pos h0]; exact ⟨rfl, hR⟩)
theorem rf_X1_readPerson (a1 : Int) (H : hH) (hr : RF H.2.2.1) : RF (f_X1_readPerson a1 H).2.2.2.1 := by
  unfold f_X1_readPerson
  by_cases q1 : ((f_X9_named 0 H).1) = (-1)
  · rw [if_pos q1]
    exact (rf_X9_named 0 H hr)
  · rw [if_neg q1]
    by_cases q2 : f_X9_isAtWord 8 (f_X9_advance (upI (f_X9_named 0 H).2 53 (a1).toNat ((f_X9_named 0 H).1))) = 0
    · rw [if_pos q2]
      by_cases q3 : f_X9_isAtWord 7 (f_X9_advance (upI (f_X9_named 0 H).2 53 (a1).toNat ((f_X9_named 0 H).1))) = 0
      · rw [if_pos q3]
        exact (rf_X9_fail 1 (f_X9_advance (upI (f_X9_named 0 H).2 53 (a1).toNat ((f_X9_named 0 H).1))) (rf_X9_advance (upI (f_X9_named 0 H).2 53 (a1).toNat ((f_X9_named 0 H).1)) (rf_X9_named 0 H hr)))
      · rw [if_neg q3]
        by_cases q4 : ((upI (f_X9_passNumber 0 20 (f_X9_advance (f_X9_advance (upI (f_X9_named 0 H).2 53 (a1).toNat ((f_X9_named 0 H).1))))).2 63 (a1).toNat ((f_X9_passNumber 0 20 (f_X9_advance (f_X9_advance (upI (f_X9_named 0 H).2 53 (a1).toNat ((f_X9_named 0 H).1))))).1)).1 63 (a1).toNat) = (-1)
        · rw [if_pos q4]
          exact (rf_X9_passNumber 0 20 (f_X9_advance (f_X9_advance (upI (f_X9_named 0 H).2 53 (a1).toNat ((f_X9_named 0 H).1)))) (rf_X9_advance (f_X9_advance (upI (f_X9_named 0 H).2 53 (a1).toNat ((f_X9_named 0 H).1))) (rf_X9_advance (upI (f_X9_named 0 H).2 53 (a1).toNat ((f_X9_named 0 H).1)) (rf_X9_named 0 H hr))))
        · rw [if_neg q4]
          by_cases q5 : f_X9_isAtWord 9 (f_X9_passNumber 0 20 (f_X9_advance (f_X9_advance (upI (f_X9_named 0 H).2 53 (a1).toNat ((f_X9_named 0 H).1))))).2 = 0
          · rw [if_pos q5]
            exact (rf_X9_passNumber 0 20 (f_X9_advance (f_X9_advance (upI (f_X9_named 0 H).2 53 (a1).toNat ((f_X9_named 0 H).1)))) (rf_X9_advance (f_X9_advance (upI (f_X9_named 0 H).2 53 (a1).toNat ((f_X9_named 0 H).1))) (rf_X9_advance (upI (f_X9_named 0 H).2 53 (a1).toNat ((f_X9_named 0 H).1)) (rf_X9_named 0 H hr))))
          · rw [if_neg q5]
            exact (rf_X9_advance (upI (upI (f_X9_passNumber 0 20 (f_X9_advance (f_X9_advance (upI (f_X9_named 0 H).2 53 (a1).toNat ((f_X9_named 0 H).1))))).2 63 (a1).toNat ((f_X9_passNumber 0 20 (f_X9_advance (f_X9_advance (upI (f_X9_named 0 H).2 53 (a1).toNat ((f_X9_named 0 H).1))))).1)) 52 1 (iOr ((f_X9_passNumber 0 20 (f_X9_advance (f_X9_advance (upI (f_X9_named 0 H).2 53 (a1).toNat ((f_X9_named 0 H).1))))).2.1 52 1) (iShl 1 a1))) (rf_X9_passNumber 0 20 (f_X9_advance (f_X9_advance (upI (f_X9_named 0 H).2 53 (a1).toNat ((f_X9_named 0 H).1)))) (rf_X9_advance (f_X9_advance (upI (f_X9_named 0 H).2 53 (a1).toNat ((f_X9_named 0 H).1))) (rf_X9_advance (upI (f_X9_named 0 H).2 53 (a1).toNat ((f_X9_named 0 H).1)) (rf_X9_named 0 H hr)))))
    · rw [if_neg q2]
      by_cases q3 : ((upI (f_X9_passNumber 0 20 (f_X9_advance (upI (f_X9_advance (upI (f_X9_named 0 H).2 53 (a1).toNat ((f_X9_named 0 H).1))) 60 7 (iOr ((f_X9_advance (upI (f_X9_named 0 H).2 53 (a1).toNat ((f_X9_named 0 H).1))).1 60 7) (iShl 1 a1))))).2 63 (a1).toNat ((f_X9_passNumber 0 20 (f_X9_advance (upI (f_X9_advance (upI (f_X9_named 0 H).2 53 (a1).toNat ((f_X9_named 0 H).1))) 60 7 (iOr ((f_X9_advance (upI (f_X9_named 0 H).2 53 (a1).toNat ((f_X9_named 0 H).1))).1 60 7) (iShl 1 a1))))).1)).1 63 (a1).toNat) = (-1)
      · rw [if_pos q3]
        exact (rf_X9_passNumber 0 20 (f_X9_advance (upI (f_X9_advance (upI (f_X9_named 0 H).2 53 (a1).toNat ((f_X9_named 0 H).1))) 60 7 (iOr ((f_X9_advance (upI (f_X9_named 0 H).2 53 (a1).toNat ((f_X9_named 0 H).1))).1 60 7) (iShl 1 a1)))) (rf_X9_advance (upI (f_X9_advance (upI (f_X9_named 0 H).2 53 (a1).toNat ((f_X9_named 0 H).1))) 60 7 (iOr ((f_X9_advance (upI (f_X9_named 0 H).2 53 (a1).toNat ((f_X9_named 0 H).1))).1 60 7) (iShl 1 a1))) (rf_X9_advance (upI (f_X9_named 0 H).2 53 (a1).toNat ((f_X9_named 0 H).1)) (rf_X9_named 0 H hr))))
      · rw [if_neg q3]
        by_cases q4 : f_X9_isAtWord 9 (f_X9_passNumber 0 20 (f_X9_advance (upI (f_X9_advance (upI (f_X9_named 0 H).2 53 (a1).toNat ((f_X9_named 0 H).1))) 60 7 (iOr ((f_X9_advance (upI (f_X9_named 0 H).2 53 (a1).toNat ((f_X9_named 0 H).1))).1 60 7) (iShl 1 a1))))).2 = 0
        · rw [if_pos q4]
          exact (rf_X9_passNumber 0 20 (f_X9_advance (upI (f_X9_advance (upI (f_X9_named 0 H).2 53 (a1).toNat ((f_X9_named 0 H).1))) 60 7 (iOr ((f_X9_advance (upI (f_X9_named 0 H).2 53 (a1).toNat ((f_X9_named 0 H).1))).1 60 7) (iShl 1 a1)))) (rf_X9_advance (upI (f_X9_advance (upI (f_X9_named 0 H).2 53 (a1).toNat ((f_X9_named 0 H).1))) 60 7 (iOr ((f_X9_advance (upI (f_X9_named 0 H).2 53 (a1).toNat ((f_X9_named 0 H).1))).1 60 7) (iShl 1 a1))) (rf_X9_advance (upI (f_X9_named 0 H).2 53 (a1).toNat ((f_X9_named 0 H).1)) (rf_X9_named 0 H hr))))
        · rw [if_neg q4]
          exact (rf_X9_advance (upI (upI (f_X9_passNumber 0 20 (f_X9_advance (upI (f_X9_advance (upI (f_X9_named 0 H).2 53 (a1).toNat ((f_X9_named 0 H).1))) 60 7 (iOr ((f_X9_advance (upI (f_X9_named 0 H).2 53 (a1).toNat ((f_X9_named 0 H).1))).1 60 7) (iShl 1 a1))))).2 63 (a1).toNat ((f_X9_passNumber 0 20 (f_X9_advance (upI (f_X9_advance (upI (f_X9_named 0 H).2 53 (a1).toNat ((f_X9_named 0 H).1))) 60 7 (iOr ((f_X9_advance (upI (f_X9_named 0 H).2 53 (a1).toNat ((f_X9_named 0 H).1))).1 60 7) (iShl 1 a1))))).1)) 52 1 (iOr ((f_X9_passNumber 0 20 (f_X9_advance (upI (f_X9_advance (upI (f_X9_named 0 H).2 53 (a1).toNat ((f_X9_named 0 H).1))) 60 7 (iOr ((f_X9_advance (upI (f_X9_named 0 H).2 53 (a1).toNat ((f_X9_named 0 H).1))).1 60 7) (iShl 1 a1))))).2.1 52 1) (iShl 1 a1))) (rf_X9_passNumber 0 20 (f_X9_advance (upI (f_X9_advance (upI (f_X9_named 0 H).2 53 (a1).toNat ((f_X9_named 0 H).1))) 60 7 (iOr ((f_X9_advance (upI (f_X9_named 0 H).2 53 (a1).toNat ((f_X9_named 0 H).1))).1 60 7) (iShl 1 a1)))) (rf_X9_advance (upI (f_X9_advance (upI (f_X9_named 0 H).2 53 (a1).toNat ((f_X9_named 0 H).1))) 60 7 (iOr ((f_X9_advance (upI (f_X9_named 0 H).2 53 (a1).toNat ((f_X9_named 0 H).1))).1 60 7) (iShl 1 a1))) (rf_X9_advance (upI (f_X9_named 0 H).2 53 (a1).toNat ((f_X9_named 0 H).1)) (rf_X9_named 0 H hr)))))
def f_X1_readShare (a1 : Int) (H : hH) : Int × hH :=
  if ((f_X9_passNumber 0 40 H).1) = (-1) then
    (0, (f_X9_passNumber 0 40 H).2)
  else
    if ((upI (f_X9_passNumber (xMm 0 ((f_X9_passNumber 0 40 H).1) 1) 40 (upI (f_X9_passNumber 0 40 H).2 66 (a1).toNat ((f_X9_passNumber 0 40 H).1))).2 67 (a1).toNat ((f_X9_passNumber (xMm 0 ((f_X9_passNumber 0 40 H).1) 1) 40 (upI (f_X9_passNumber 0 40 H).2 66 (a1).toNat ((f_X9_passNumber 0 40 H).1))).1)).1 67 (a1).toNat) = (-1) then
      (0, (upI (f_X9_passNumber (xMm 0 ((f_X9_passNumber 0 40 H).1) 1) 40 (upI (f_X9_passNumber 0 40 H).2 66 (a1).toNat ((f_X9_passNumber 0 40 H).1))).2 67 (a1).toNat ((f_X9_passNumber (xMm 0 ((f_X9_passNumber 0 40 H).1) 1) 40 (upI (f_X9_passNumber 0 40 H).2 66 (a1).toNat ((f_X9_passNumber 0 40 H).1))).1)))
    else
      (1, (upI (f_X9_passNumber (xMm 0 ((f_X9_passNumber 0 40 H).1) 1) 40 (upI (f_X9_passNumber 0 40 H).2 66 (a1).toNat ((f_X9_passNumber 0 40 H).1))).2 67 (a1).toNat ((f_X9_passNumber (xMm 0 ((f_X9_passNumber 0 40 H).1) 1) 40 (upI (f_X9_passNumber 0 40 H).2 66 (a1).toNat ((f_X9_passNumber 0 40 H).1))).1)))
set_option maxHeartbeats 16000000 in
set_option maxRecDepth 100000 in
theorem sp_X1_readShare {g : Nat → Nat} (a1 : Int) (H : hH) (hr : RF H.2.2.1) : SP g rvTab rvInf rvRet 316 rvMth 137 [rf (g 13), pt a1] H (some (pt (f_X1_readShare a1 H).1)) (f_X1_readShare a1 H).2 := by
  have hj : 137 < 316 := by decide
  refine J_SP hj (Nat.le_of_ble_eq_true rfl) ?_
  show J g rvTab rvInf rvRet 316 rvMth 137 _ 0 [rf (g 13), pt a1, rvU] [] H
  refine J_ld 1 jw hj rfl rfl rfl rfl ?_
  refine J_gfR (k := 4) jw hj rfl (evn rfl) (by decide) (by decide) (RFa hr rfl) ?_
  refine J_cst 5 jw hj rfl rfl rfl ?_
  refine J_cst 7 jw hj rfl rfl rfl ?_
  refine J_callV1 jw rfl (Or.inl ⟨_, rfl⟩) rfl rfl (sp_X9_passNumber (g := g) 0 40 H hr) ?_
  refine J_st 11 [rf (g 13), pt a1, pt ((f_X9_passNumber 0 40 H).1)] (k := 2) jw hj rfl (Or.inr (Or.inr (Or.inl ⟨_, rfl, rfl, rfl⟩))) rfl ?_
  refine J_ld 12 jw hj rfl rfl rfl rfl ?_
  refine J_cst 13 jw hj rfl rfl rfl ?_
  refine J_icmp (t := 18) jw hj rfl (evn rfl) rfl (fun (h0 : ¬ ((f_X9_passNumber 0 40 H).1) = (-1)) => ?_) (fun (h0 : ((f_X9_passNumber 0 40 H).1) = (-1)) => ?_)
  · refine J_ld 19 jw hj rfl rfl rfl rfl ?_
    refine J_gfR (k := 60) jw hj rfl (evn rfl) (by decide) (by decide) (RFa (rf_X9_passNumber 0 40 H hr) rfl) ?_
    refine J_gfR (k := 66) jw hj rfl (evn rfl) (by decide) (by decide) (RFa (rf_X9_passNumber 0 40 H hr) rfl) ?_
    refine J_ld 26 jw hj rfl rfl rfl rfl ?_
    refine J_ld 27 jw hj rfl rfl rfl rfl ?_
    refine J_iast jw hj rfl (Or.inl rfl) (fun _ => ?_)
    refine J_ld 29 jw hj rfl rfl rfl rfl ?_
    refine J_gfR (k := 60) jw hj rfl (evn rfl) (by decide) (by decide) (RFa (rf_X9_passNumber 0 40 H hr) rfl) ?_
    refine J_gfR (k := 67) jw hj rfl (evn rfl) (by decide) (by decide) (RFa (rf_X9_passNumber 0 40 H hr) rfl) ?_
    refine J_ld 36 jw hj rfl rfl rfl rfl ?_
    refine J_ld 37 jw hj rfl rfl rfl rfl ?_
    refine J_gfR (k := 4) jw hj rfl (evn rfl) (by decide) (by decide) (RFa (rf_X9_passNumber 0 40 H hr) rfl) ?_
    refine J_ld 41 jw hj rfl rfl rfl rfl ?_
    refine J_cst 42 jw hj rfl rfl rfl ?_
    refine J_mm 45 (k := 0) hj rfl rfl rfl (by decide) rfl ?_
    refine J_cst 47 jw hj rfl rfl rfl ?_
    refine J_callV1 jw rfl (Or.inl ⟨_, rfl⟩) rfl rfl (sp_X9_passNumber (g := g) (xMm 0 ((f_X9_passNumber 0 40 H).1) 1) 40 (upI (f_X9_passNumber 0 40 H).2 66 (a1).toNat ((f_X9_passNumber 0 40 H).1)) (rf_X9_passNumber 0 40 H hr)) ?_
    refine J_iast jw hj rfl (Or.inl rfl) (fun _ => ?_)
    refine J_ld 52 jw hj rfl rfl rfl rfl ?_
    refine J_gfR (k := 60) jw hj rfl (evn rfl) (by decide) (by decide) (RFa (rf_X9_passNumber (xMm 0 ((f_X9_passNumber 0 40 H).1) 1) 40 (upI (f_X9_passNumber 0 40 H).2 66 (a1).toNat ((f_X9_passNumber 0 40 H).1)) (rf_X9_passNumber 0 40 H hr)) rfl) ?_
    refine J_gfR (k := 67) jw hj rfl (evn rfl) (by decide) (by decide) (RFa (rf_X9_passNumber (xMm 0 ((f_X9_passNumber 0 40 H).1) 1) 40 (upI (f_X9_passNumber 0 40 H).2 66 (a1).toNat ((f_X9_passNumber 0 40 H).1)) (rf_X9_passNumber 0 40 H hr)) rfl) ?_
    refine J_ld 59 jw hj rfl rfl rfl rfl ?_
    refine J_iald jw hj rfl (Or.inl rfl) (fun z0 r0 => ?_)
    refine J_cst 61 jw hj rfl rfl rfl ?_
    refine J_icmp (t := 68) jw hj rfl (evn rfl) rfl (fun (h1 : ((upI (f_X9_passNumber (xMm 0 ((f_X9_passNumber 0 40 H).1) 1) 40 (upI (f_X9_passNumber 0 40 H).2 66 (a1).toNat ((f_X9_passNumber 0 40 H).1))).2 67 (a1).toNat ((f_X9_passNumber (xMm 0 ((f_X9_passNumber 0 40 H).1) 1) 40 (upI (f_X9_passNumber 0 40 H).2 66 (a1).toNat ((f_X9_passNumber 0 40 H).1))).1)).1 67 (a1).toNat) = (-1)) => ?_) (fun (h1 : ¬ ((upI (f_X9_passNumber (xMm 0 ((f_X9_passNumber 0 40 H).1) 1) 40 (upI (f_X9_passNumber 0 40 H).2 66 (a1).toNat ((f_X9_passNumber 0 40 H).1))).2 67 (a1).toNat ((f_X9_passNumber (xMm 0 ((f_X9_passNumber 0 40 H).1) 1) 40 (upI (f_X9_passNumber 0 40 H).2 66 (a1).toNat ((f_X9_passNumber 0 40 H).1))).1)).1 67 (a1).toNat) = (-1)) => ?_)
    · refine J_cst 69 jw hj rfl rfl rfl ?_
      exact J_ret rfl (Or.inl rfl) (fun aw hR => by show _ ∧ _; unfold f_X1_readShare; rw [if_neg h0, if_pos h1]; exact ⟨rfl, hR⟩)
    · refine J_cst 65 jw hj rfl rfl rfl ?_
      refine J_goto 69 jw hj rfl rfl ?_
      exact J_ret rfl (Or.inl rfl) (fun aw hR => by show _ ∧ _; unfold f_X1_readShare; rw [if_neg h0, if_neg h1]; exact ⟨rfl, hR⟩)
  · refine J_cst 17 jw hj rfl rfl rfl ?_
    exact J_ret rfl (Or.inl rfl) (fun aw hR => by show _ ∧ _; unfold f_X1_readShare; rw [if_pos h0]; exact ⟨rfl, hR⟩)
theorem rf_X1_readShare (a1 : Int) (H : hH) (hr : RF H.2.2.1) : RF (f_X1_readShare a1 H).2.2.2.1 := by
  unfold f_X1_readShare
  by_cases q1 : ((f_X9_passNumber 0 40 H).1) = (-1)
  · rw [if_pos q1]
    exact (rf_X9_passNumber 0 40 H hr)
  · rw [if_neg q1]
    by_cases q2 : ((upI (f_X9_passNumber (xMm 0 ((f_X9_passNumber 0 40 H).1) 1) 40 (upI (f_X9_passNumber 0 40 H).2 66 (a1).toNat ((f_X9_passNumber 0 40 H).1))).2 67 (a1).toNat ((f_X9_passNumber (xMm 0 ((f_X9_passNumber 0 40 H).1) 1) 40 (upI (f_X9_passNumber 0 40 H).2 66 (a1).toNat ((f_X9_passNumber 0 40 H).1))).1)).1 67 (a1).toNat) = (-1)
    · rw [if_pos q2]
      exact (rf_X9_passNumber (xMm 0 ((f_X9_passNumber 0 40 H).1) 1) 40 (upI (f_X9_passNumber 0 40 H).2 66 (a1).toNat ((f_X9_passNumber 0 40 H).1)) (rf_X9_passNumber 0 40 H hr))
    · rw [if_neg q2]
      exact (rf_X9_passNumber (xMm 0 ((f_X9_passNumber 0 40 H).1) 1) 40 (upI (f_X9_passNumber 0 40 H).2 66 (a1).toNat ((f_X9_passNumber 0 40 H).1)) (rf_X9_passNumber 0 40 H hr))
def f_X1_isTied (a1 : Int) (a2 : Int) (a3 : Int) (H : hH) : Int :=
  if a1 = 4 then
    f_X11_isIn (H.1 65 (a3).toNat) a2
  else
    if a1 = 5 then
      f_X11_isIn (H.1 54 (a3).toNat) a2
    else
      if H.1 64 (iAdd (iMul a2 3) a3).toNat = 0 then
        0
      else
        1
set_option maxHeartbeats 16000000 in
set_option maxRecDepth 100000 in
theorem sp_X1_isTied {g : Nat → Nat} (a1 : Int) (a2 : Int) (a3 : Int) (H : hH) (hr : RF H.2.2.1) : SP g rvTab rvInf rvRet 316 rvMth 140 [rf (g 13), pt a1, pt a2, pt a3] H (some (pt (f_X1_isTied a1 a2 a3 H))) H := by
  have hj : 140 < 316 := by decide
  refine J_SP hj (Nat.le_of_ble_eq_true rfl) ?_
  show J g rvTab rvInf rvRet 316 rvMth 140 _ 0 [rf (g 13), pt a1, pt a2, pt a3] [] H
  refine J_ld 1 jw hj rfl rfl rfl rfl ?_
  refine J_sw2 (t1 := 28) (t2 := 42) (td := 56) jw hj rfl (by decide) rfl rfl rfl (fun h0 => ?_) (fun h0 => ?_) (fun h0 h0_2 => ?_)
  · refine J_ld 29 jw hj rfl rfl rfl rfl ?_
    refine J_gfR (k := 60) jw hj rfl (evn rfl) (by decide) (by decide) (RFa hr rfl) ?_
    refine J_gfR (k := 65) jw hj rfl (evn rfl) (by decide) (by decide) (RFa hr rfl) ?_
    refine J_ld 36 jw hj rfl rfl rfl rfl ?_
    refine J_iald jw hj rfl (Or.inl rfl) (fun z0 r0 => ?_)
    refine J_ld 38 jw hj rfl rfl rfl rfl ?_
    refine J_callS1 jw rfl rfl rfl rfl (sp_X11_isIn (g := g) (H.1 65 (a3).toNat) a2 H) ?_
    exact J_ret rfl (Or.inl rfl) (fun aw hR => by show _ ∧ _; unfold f_X1_isTied; rw [if_pos h0]; exact ⟨rfl, hR⟩)
  · refine J_ld 43 jw hj rfl rfl rfl rfl ?_
    refine J_gfR (k := 52) jw hj rfl (evn rfl) (by decide) (by decide) (RFa hr rfl) ?_
    refine J_gfR (k := 54) jw hj rfl (evn rfl) (by decide) (by decide) (RFa hr rfl) ?_
    refine J_ld 50 jw hj rfl rfl rfl rfl ?_
    refine J_iald jw hj rfl (Or.inl rfl) (fun z1 r1 => ?_)
    refine J_ld 52 jw hj rfl rfl rfl rfl ?_
    refine J_callS1 jw rfl rfl rfl rfl (sp_X11_isIn (g := g) (H.1 54 (a3).toNat) a2 H) ?_
    exact J_ret rfl (Or.inl rfl) (fun aw hR => by show _ ∧ _; unfold f_X1_isTied; rw [if_neg (show ¬ a1 = 4 by omega), if_pos h0]; exact ⟨rfl, hR⟩)
  · refine J_ld 57 jw hj rfl rfl rfl rfl ?_
    refine J_gfR (k := 60) jw hj rfl (evn rfl) (by decide) (by decide) (RFa hr rfl) ?_
    refine J_gfR (k := 64) jw hj rfl (evn rfl) (by decide) (by decide) (RFa hr rfl) ?_
    refine J_ld 64 jw hj rfl rfl rfl rfl ?_
    refine J_cst 65 jw hj rfl rfl rfl ?_
    refine J_bin jw hj rfl rfl ?_
    refine J_ld 67 jw hj rfl rfl rfl rfl ?_
    refine J_bin jw hj rfl rfl ?_
    refine J_iald jw hj rfl (Or.inl rfl) (fun z2 r2 => ?_)
    refine J_ifc (t := 76) jw hj rfl (evn rfl) rfl (fun (h1 : H.1 64 (iAdd (iMul a2 3) a3).toNat = 0) => ?_) (fun (h1 : ¬ H.1 64 (iAdd (iMul a2 3) a3).toNat = 0) => ?_)
    · refine J_cst 77 jw hj rfl rfl rfl ?_
      exact J_ret rfl (Or.inl rfl) (fun aw hR => by show _ ∧ _; unfold f_X1_isTied; rw [if_neg h0, if_neg h0_2, if_pos h1]; exact ⟨rfl, hR⟩)
    · refine J_cst 73 jw hj rfl rfl rfl ?_
      refine J_goto 77 jw hj rfl rfl ?_
      exact J_ret rfl (Or.inl rfl) (fun aw hR => by show _ ∧ _; unfold f_X1_isTied; rw [if_neg h0, if_neg h0_2, if_neg h1]; exact ⟨rfl, hR⟩)
def f_X1_tie (a1 : Int) (a2 : Int) (a3 : Int) (H : hH) : Int × hH :=
  if a1 = 4 then
    (1, (upI H 65 (a3).toNat (iOr (H.1 65 (a3).toNat) (iShl 1 a2))))
  else
    if a1 = 5 then
      (1, (upI H 54 (a3).toNat (iOr (H.1 54 (a3).toNat) (iShl 1 a2))))
    else
      if ((f_X9_passNumber 1 20 H).1) = (-1) then
        (0, (upI (f_X9_passNumber 1 20 H).2 64 (iAdd (iMul a2 3) a3).toNat ((f_X9_passNumber 1 20 H).1)))
      else
        (1, (upI (f_X9_passNumber 1 20 H).2 64 (iAdd (iMul a2 3) a3).toNat ((f_X9_passNumber 1 20 H).1)))
set_option maxHeartbeats 16000000 in
set_option maxRecDepth 100000 in
theorem sp_X1_tie {g : Nat → Nat} (a1 : Int) (a2 : Int) (a3 : Int) (H : hH) (hr : RF H.2.2.1) : SP g rvTab rvInf rvRet 316 rvMth 142 [rf (g 13), pt a1, pt a2, pt a3] H (some (pt (f_X1_tie a1 a2 a3 H).1)) (f_X1_tie a1 a2 a3 H).2 := by
  have hj : 142 < 316 := by decide
  refine J_SP hj (Nat.le_of_ble_eq_true rfl) ?_
  show J g rvTab rvInf rvRet 316 rvMth 142 _ 0 [rf (g 13), pt a1, pt a2, pt a3, rvU] [] H
  refine J_ld 1 jw hj rfl rfl rfl rfl ?_
  refine J_cst 2 jw hj rfl rfl rfl ?_
  refine J_icmp (t := 22) jw hj rfl (evn rfl) rfl (fun (h0 : ¬ a1 = 4) => ?_) (fun (h0 : a1 = 4) => ?_)
  · refine J_ld 23 jw hj rfl rfl rfl rfl ?_
    refine J_cst 24 jw hj rfl rfl rfl ?_
    refine J_icmp (t := 44) jw hj rfl (evn rfl) rfl (fun (h1 : ¬ a1 = 5) => ?_) (fun (h1 : a1 = 5) => ?_)
    · refine J_ld 45 jw hj rfl rfl rfl rfl ?_
      refine J_gfR (k := 4) jw hj rfl (evn rfl) (by decide) (by decide) (RFa hr rfl) ?_
      refine J_cst 49 jw hj rfl rfl rfl ?_
      refine J_cst 51 jw hj rfl rfl rfl ?_
      refine J_callV1 jw rfl (Or.inl ⟨_, rfl⟩) rfl rfl (sp_X9_passNumber (g := g) 1 20 H hr) ?_
      refine J_st 56 [rf (g 13), pt a1, pt a2, pt a3, pt ((f_X9_passNumber 1 20 H).1)] (k := 4) jw hj rfl (Or.inl ⟨rfl, rfl⟩) rfl ?_
      refine J_ld 57 jw hj rfl rfl rfl rfl ?_
      refine J_gfR (k := 60) jw hj rfl (evn rfl) (by decide) (by decide) (RFa (rf_X9_passNumber 1 20 H hr) rfl) ?_
      refine J_gfR (k := 64) jw hj rfl (evn rfl) (by decide) (by decide) (RFa (rf_X9_passNumber 1 20 H hr) rfl) ?_
      refine J_ld 64 jw hj rfl rfl rfl rfl ?_
      refine J_cst 65 jw hj rfl rfl rfl ?_
      refine J_bin jw hj rfl rfl ?_
      refine J_ld 67 jw hj rfl rfl rfl rfl ?_
      refine J_bin jw hj rfl rfl ?_
      refine J_ld 70 jw hj rfl rfl rfl rfl ?_
      refine J_iast jw hj rfl (Or.inl rfl) (fun _ => ?_)
      refine J_ld 73 jw hj rfl rfl rfl rfl ?_
      refine J_cst 74 jw hj rfl rfl rfl ?_
      refine J_icmp (t := 81) jw hj rfl (evn rfl) rfl (fun (h2 : ((f_X9_passNumber 1 20 H).1) = (-1)) => ?_) (fun (h2 : ¬ ((f_X9_passNumber 1 20 H).1) = (-1)) => ?_)
      · refine J_cst 82 jw hj rfl rfl rfl ?_
        exact J_ret rfl (Or.inl rfl) (fun aw hR => by show _ ∧ _; unfold f_X1_tie; rw [if_neg h0, if_neg h1, if_pos h2]; exact ⟨rfl, hR⟩)
      · refine J_cst 78 jw hj rfl rfl rfl ?_
        refine J_goto 82 jw hj rfl rfl ?_
        exact J_ret rfl (Or.inl rfl) (fun aw hR => by show _ ∧ _; unfold f_X1_tie; rw [if_neg h0, if_neg h1, if_neg h2]; exact ⟨rfl, hR⟩)
    · refine J_ld 28 jw hj rfl rfl rfl rfl ?_
      refine J_gfR (k := 52) jw hj rfl (evn rfl) (by decide) (by decide) (RFa hr rfl) ?_
      refine J_gfR (k := 54) jw hj rfl (evn rfl) (by decide) (by decide) (RFa hr rfl) ?_
      refine J_ld 35 jw hj rfl rfl rfl rfl ?_
      refine J_dup2 36 jw hj rfl rfl ?_
      refine J_iald jw hj rfl (Or.inl rfl) (fun z0 r0 => ?_)
      refine J_cst 38 jw hj rfl rfl rfl ?_
      refine J_ld 39 jw hj rfl rfl rfl rfl ?_
      refine J_bin jw hj rfl rfl ?_
      refine J_bin jw hj rfl rfl ?_
      refine J_iast jw hj rfl (Or.inl rfl) (fun _ => ?_)
      refine J_cst 43 jw hj rfl rfl rfl ?_
      exact J_ret rfl (Or.inl rfl) (fun aw hR => by show _ ∧ _; unfold f_X1_tie; rw [if_neg h0, if_pos h1]; exact ⟨rfl, hR⟩)
  · refine J_ld 6 jw hj rfl rfl rfl rfl ?_
    refine J_gfR (k := 60) jw hj rfl (evn rfl) (by decide) (by decide) (RFa hr rfl) ?_
    refine J_gfR (k := 65) jw hj rfl (evn rfl) (by decide) (by decide) (RFa hr rfl) ?_
    refine J_ld 13 jw hj rfl rfl rfl rfl ?_
    refine J_dup2 14 jw hj rfl rfl ?_
    refine J_iald jw hj rfl (Or.inl rfl) (fun z1 r1 => ?_)
    refine J_cst 16 jw hj rfl rfl rfl ?_
    refine J_ld 17 jw hj rfl rfl rfl rfl ?_
    refine J_bin jw hj rfl rfl ?_
    refine J_bin jw hj rfl rfl ?_
    refine J_iast jw hj rfl (Or.inl rfl) (fun _ => ?_)
    refine J_cst 21 jw hj rfl rfl rfl ?_
    exact J_ret rfl (Or.inl rfl) (fun aw hR => by show _ ∧ _; unfold f_X1_tie; rw [if_pos h0]; exact ⟨rfl, hR⟩)
theorem rf_X1_tie (a1 : Int) (a2 : Int) (a3 : Int) (H : hH) (hr : RF H.2.2.1) : RF (f_X1_tie a1 a2 a3 H).2.2.2.1 := by
  unfold f_X1_tie
  by_cases q1 : a1 = 4
  · rw [if_pos q1]
    exact hr
  · rw [if_neg q1]
    by_cases q2 : a1 = 5
    · rw [if_pos q2]
      exact hr
    · rw [if_neg q2]
      by_cases q3 : ((f_X9_passNumber 1 20 H).1) = (-1)
      · rw [if_pos q3]
        exact (rf_X9_passNumber 1 20 H hr)
      · rw [if_neg q3]
        exact (rf_X9_passNumber 1 20 H hr)
def f_X1_readTie (a1 : Int) (H : hH) : Int × hH :=
  if ((f_X9_named 2 H).1) = (-1) then
    (0, (f_X9_named 2 H).2)
  else
    if a1 = 4 then
      if ((f_X9_named 1 (f_X9_advance (f_X9_named 2 H).2)).1) = (-1) then
        (0, (f_X9_named 1 (f_X9_advance (f_X9_named 2 H).2)).2)
      else
        if f_X1_isTied a1 ((f_X9_named 2 H).1) ((f_X9_named 1 (f_X9_advance (f_X9_named 2 H).2)).1) (f_X9_named 1 (f_X9_advance (f_X9_named 2 H).2)).2 = 0 then
          ((f_X1_tie a1 ((f_X9_named 2 H).1) ((f_X9_named 1 (f_X9_advance (f_X9_named 2 H).2)).1) (f_X9_advance (f_X9_named 1 (f_X9_advance (f_X9_named 2 H).2)).2)).1, (f_X1_tie a1 ((f_X9_named 2 H).1) ((f_X9_named 1 (f_X9_advance (f_X9_named 2 H).2)).1) (f_X9_advance (f_X9_named 1 (f_X9_advance (f_X9_named 2 H).2)).2)).2)
        else
          ((f_X9_fail 3 (f_X9_named 1 (f_X9_advance (f_X9_named 2 H).2)).2).1, (f_X9_fail 3 (f_X9_named 1 (f_X9_advance (f_X9_named 2 H).2)).2).2)
    else
      if ((f_X9_named 3 (f_X9_advance (f_X9_named 2 H).2)).1) = (-1) then
        (0, (f_X9_named 3 (f_X9_advance (f_X9_named 2 H).2)).2)
      else
        if f_X1_isTied a1 ((f_X9_named 2 H).1) ((f_X9_named 3 (f_X9_advance (f_X9_named 2 H).2)).1) (f_X9_named 3 (f_X9_advance (f_X9_named 2 H).2)).2 = 0 then
          ((f_X1_tie a1 ((f_X9_named 2 H).1) ((f_X9_named 3 (f_X9_advance (f_X9_named 2 H).2)).1) (f_X9_advance (f_X9_named 3 (f_X9_advance (f_X9_named 2 H).2)).2)).1, (f_X1_tie a1 ((f_X9_named 2 H).1) ((f_X9_named 3 (f_X9_advance (f_X9_named 2 H).2)).1) (f_X9_advance (f_X9_named 3 (f_X9_advance (f_X9_named 2 H).2)).2)).2)
        else
          ((f_X9_fail 3 (f_X9_named 3 (f_X9_advance (f_X9_named 2 H).2)).2).1, (f_X9_fail 3 (f_X9_named 3 (f_X9_advance (f_X9_named 2 H).2)).2).2)
set_option maxHeartbeats 16000000 in
set_option maxRecDepth 100000 in
theorem sp_X1_readTie {g : Nat → Nat} (a1 : Int) (H : hH) (hr : RF H.2.2.1) : SP g rvTab rvInf rvRet 316 rvMth 139 [rf (g 13), pt a1] H (some (pt (f_X1_readTie a1 H).1)) (f_X1_readTie a1 H).2 := by
  have hj : 139 < 316 := by decide
  refine J_SP hj (Nat.le_of_ble_eq_true rfl) ?_
  show J g rvTab rvInf rvRet 316 rvMth 139 _ 0 [rf (g 13), pt a1, rvU, rvU] [] H
  refine J_ld 1 jw hj rfl rfl rfl rfl ?_
  refine J_gfR (k := 4) jw hj rfl (evn rfl) (by decide) (by decide) (RFa hr rfl) ?_
  refine J_ld 5 jw hj rfl rfl rfl rfl ?_
  refine J_gfR (k := 60) jw hj rfl (evn rfl) (by decide) (by decide) (RFa hr rfl) ?_
  refine J_cst 9 jw hj rfl rfl rfl ?_
  refine J_callV1 jw rfl (Or.inl ⟨_, rfl⟩) rfl rfl (sp_X9_named (g := g) 2 H hr) ?_
  refine J_st 13 [rf (g 13), pt a1, pt ((f_X9_named 2 H).1), rvU] (k := 2) jw hj rfl (Or.inr (Or.inr (Or.inl ⟨_, rfl, rfl, rfl⟩))) rfl ?_
  refine J_ld 14 jw hj rfl rfl rfl rfl ?_
  refine J_cst 15 jw hj rfl rfl rfl ?_
  refine J_icmp (t := 20) jw hj rfl (evn rfl) rfl (fun (h0 : ¬ ((f_X9_named 2 H).1) = (-1)) => ?_) (fun (h0 : ((f_X9_named 2 H).1) = (-1)) => ?_)
  · refine J_ld 21 jw hj rfl rfl rfl rfl ?_
    refine J_gfR (k := 4) jw hj rfl (evn rfl) (by decide) (by decide) (RFa (rf_X9_named 2 H hr) rfl) ?_
    refine J_callV0 jw rfl (Or.inl ⟨_, rfl⟩) rfl rfl (sp_X9_advance (g := g) (f_X9_named 2 H).2 (rf_X9_named 2 H hr)) ?_
    refine J_ld 28 jw hj rfl rfl rfl rfl ?_
    refine J_gfR (k := 4) jw hj rfl (evn rfl) (by decide) (by decide) (RFa (rf_X9_advance (f_X9_named 2 H).2 (rf_X9_named 2 H hr)) rfl) ?_
    refine J_ld 32 jw hj rfl rfl rfl rfl ?_
    refine J_gfR (k := 60) jw hj rfl (evn rfl) (by decide) (by decide) (RFa (rf_X9_advance (f_X9_named 2 H).2 (rf_X9_named 2 H hr)) rfl) ?_
    refine J_ld 36 jw hj rfl rfl rfl rfl ?_
    refine J_cst 37 jw hj rfl rfl rfl ?_
    refine J_icmp (t := 44) jw hj rfl (evn rfl) rfl (fun (h1 : ¬ a1 = 4) => ?_) (fun (h1 : a1 = 4) => ?_)
    · refine J_cst 45 jw hj rfl rfl rfl ?_
      refine J_callV1 jw rfl (Or.inl ⟨_, rfl⟩) rfl rfl (sp_X9_named (g := g) 3 (f_X9_advance (f_X9_named 2 H).2) (rf_X9_advance (f_X9_named 2 H).2 (rf_X9_named 2 H hr))) ?_
      refine J_st 49 [rf (g 13), pt a1, pt ((f_X9_named 2 H).1), pt ((f_X9_named 3 (f_X9_advance (f_X9_named 2 H).2)).1)] (k := 3) jw hj rfl (Or.inr (Or.inr (Or.inl ⟨_, rfl, rfl, rfl⟩))) rfl ?_
      refine J_ld 50 jw hj rfl rfl rfl rfl ?_
      refine J_cst 51 jw hj rfl rfl rfl ?_
      refine J_icmp (t := 56) jw hj rfl (evn rfl) rfl (fun (h2 : ¬ ((f_X9_named 3 (f_X9_advance (f_X9_named 2 H).2)).1) = (-1)) => ?_) (fun (h2 : ((f_X9_named 3 (f_X9_advance (f_X9_named 2 H).2)).1) = (-1)) => ?_)
      · refine J_ld 57 jw hj rfl rfl rfl rfl ?_
        refine J_ld 58 jw hj rfl rfl rfl rfl ?_
        refine J_ld 59 jw hj rfl rfl rfl rfl ?_
        refine J_ld 60 jw hj rfl rfl rfl rfl ?_
        refine J_callV1 jw rfl (Or.inl ⟨_, rfl⟩) rfl rfl (sp_X1_isTied (g := g) a1 ((f_X9_named 2 H).1) ((f_X9_named 3 (f_X9_advance (f_X9_named 2 H).2)).1) (f_X9_named 3 (f_X9_advance (f_X9_named 2 H).2)).2 (rf_X9_named 3 (f_X9_advance (f_X9_named 2 H).2) (rf_X9_advance (f_X9_named 2 H).2 (rf_X9_named 2 H hr)))) ?_
        refine J_ifc (t := 75) jw hj rfl (evn rfl) rfl (fun (h3 : f_X1_isTied a1 ((f_X9_named 2 H).1) ((f_X9_named 3 (f_X9_advance (f_X9_named 2 H).2)).1) (f_X9_named 3 (f_X9_advance (f_X9_named 2 H).2)).2 = 0) => ?_) (fun (h3 : ¬ f_X1_isTied a1 ((f_X9_named 2 H).1) ((f_X9_named 3 (f_X9_advance (f_X9_named 2 H).2)).1) (f_X9_named 3 (f_X9_advance (f_X9_named 2 H).2)).2 = 0) => ?_)
        · refine J_ld 76 jw hj rfl rfl rfl rfl ?_
          refine J_gfR (k := 4) jw hj rfl (evn rfl) (by decide) (by decide) (RFa (rf_X9_named 3 (f_X9_advance (f_X9_named 2 H).2) (rf_X9_advance (f_X9_named 2 H).2 (rf_X9_named 2 H hr))) rfl) ?_
          refine J_callV0 jw rfl (Or.inl ⟨_, rfl⟩) rfl rfl (sp_X9_advance (g := g) (f_X9_named 3 (f_X9_advance (f_X9_named 2 H).2)).2 (rf_X9_named 3 (f_X9_advance (f_X9_named 2 H).2) (rf_X9_advance (f_X9_named 2 H).2 (rf_X9_named 2 H hr)))) ?_
          refine J_ld 83 jw hj rfl rfl rfl rfl ?_
          refine J_ld 84 jw hj rfl rfl rfl rfl ?_
          refine J_ld 85 jw hj rfl rfl rfl rfl ?_
          refine J_ld 86 jw hj rfl rfl rfl rfl ?_
          refine J_callV1 jw rfl (Or.inl ⟨_, rfl⟩) rfl rfl (sp_X1_tie (g := g) a1 ((f_X9_named 2 H).1) ((f_X9_named 3 (f_X9_advance (f_X9_named 2 H).2)).1) (f_X9_advance (f_X9_named 3 (f_X9_advance (f_X9_named 2 H).2)).2) (rf_X9_advance (f_X9_named 3 (f_X9_advance (f_X9_named 2 H).2)).2 (rf_X9_named 3 (f_X9_advance (f_X9_named 2 H).2) (rf_X9_advance (f_X9_named 2 H).2 (rf_X9_named 2 H hr))))) ?_
          exact J_ret rfl (Or.inl rfl) (fun aw hR => by show _ ∧ _; unfold f_X1_readTie; rw [if_neg h0, if_neg h1, if_neg h2, if_pos h3]; exact ⟨rfl, hR⟩)
        · refine J_ld 67 jw hj rfl rfl rfl rfl ?_
          refine J_gfR (k := 4) jw hj rfl (evn rfl) (by decide) (by decide) (RFa (rf_X9_named 3 (f_X9_advance (f_X9_named 2 H).2) (rf_X9_advance (f_X9_named 2 H).2 (rf_X9_named 2 H hr))) rfl) ?_
          refine J_cst 71 jw hj rfl rfl rfl ?_
          refine J_callV1 jw rfl (Or.inl ⟨_, rfl⟩) rfl rfl (sp_X9_fail (g := g) 3 (f_X9_named 3 (f_X9_advance (f_X9_named 2 H).2)).2 (rf_X9_named 3 (f_X9_advance (f_X9_named 2 H).2) (rf_X9_advance (f_X9_named 2 H).2 (rf_X9_named 2 H hr)))) ?_
          exact J_ret rfl (Or.inl rfl) (fun aw hR => by show _ ∧ _; unfold f_X1_readTie; rw [if_neg h0, if_neg h1, if_neg h2, if_neg h3]; exact ⟨rfl, hR⟩)
      · refine J_cst 55 jw hj rfl rfl rfl ?_
        exact J_ret rfl (Or.inl rfl) (fun aw hR => by show _ ∧ _; unfold f_X1_readTie; rw [if_neg h0, if_neg h1, if_pos h2]; exact ⟨rfl, hR⟩)
    · refine J_cst 41 jw hj rfl rfl rfl ?_
      refine J_goto 45 jw hj rfl rfl ?_
      refine J_callV1 jw rfl (Or.inl ⟨_, rfl⟩) rfl rfl (sp_X9_named (g := g) 1 (f_X9_advance (f_X9_named 2 H).2) (rf_X9_advance (f_X9_named 2 H).2 (rf_X9_named 2 H hr))) ?_
      refine J_st 49 [rf (g 13), pt a1, pt ((f_X9_named 2 H).1), pt ((f_X9_named 1 (f_X9_advance (f_X9_named 2 H).2)).1)] (k := 3) jw hj rfl (Or.inr (Or.inr (Or.inl ⟨_, rfl, rfl, rfl⟩))) rfl ?_
      refine J_ld 50 jw hj rfl rfl rfl rfl ?_
      refine J_cst 51 jw hj rfl rfl rfl ?_
      refine J_icmp (t := 56) jw hj rfl (evn rfl) rfl (fun (h4 : ¬ ((f_X9_named 1 (f_X9_advance (f_X9_named 2 H).2)).1) = (-1)) => ?_) (fun (h4 : ((f_X9_named 1 (f_X9_advance (f_X9_named 2 H).2)).1) = (-1)) => ?_)
      · refine J_ld 57 jw hj rfl rfl rfl rfl ?_
        refine J_ld 58 jw hj rfl rfl rfl rfl ?_
        refine J_ld 59 jw hj rfl rfl rfl rfl ?_
        refine J_ld 60 jw hj rfl rfl rfl rfl ?_
        refine J_callV1 jw rfl (Or.inl ⟨_, rfl⟩) rfl rfl (sp_X1_isTied (g := g) a1 ((f_X9_named 2 H).1) ((f_X9_named 1 (f_X9_advance (f_X9_named 2 H).2)).1) (f_X9_named 1 (f_X9_advance (f_X9_named 2 H).2)).2 (rf_X9_named 1 (f_X9_advance (f_X9_named 2 H).2) (rf_X9_advance (f_X9_named 2 H).2 (rf_X9_named 2 H hr)))) ?_
        refine J_ifc (t := 75) jw hj rfl (evn rfl) rfl (fun (h5 : f_X1_isTied a1 ((f_X9_named 2 H).1) ((f_X9_named 1 (f_X9_advance (f_X9_named 2 H).2)).1) (f_X9_named 1 (f_X9_advance (f_X9_named 2 H).2)).2 = 0) => ?_) (fun (h5 : ¬ f_X1_isTied a1 ((f_X9_named 2 H).1) ((f_X9_named 1 (f_X9_advance (f_X9_named 2 H).2)).1) (f_X9_named 1 (f_X9_advance (f_X9_named 2 H).2)).2 = 0) => ?_)
        · refine J_ld 76 jw hj rfl rfl rfl rfl ?_
          refine J_gfR (k := 4) jw hj rfl (evn rfl) (by decide) (by decide) (RFa (rf_X9_named 1 (f_X9_advance (f_X9_named 2 H).2) (rf_X9_advance (f_X9_named 2 H).2 (rf_X9_named 2 H hr))) rfl) ?_
          refine J_callV0 jw rfl (Or.inl ⟨_, rfl⟩) rfl rfl (sp_X9_advance (g := g) (f_X9_named 1 (f_X9_advance (f_X9_named 2 H).2)).2 (rf_X9_named 1 (f_X9_advance (f_X9_named 2 H).2) (rf_X9_advance (f_X9_named 2 H).2 (rf_X9_named 2 H hr)))) ?_
          refine J_ld 83 jw hj rfl rfl rfl rfl ?_
          refine J_ld 84 jw hj rfl rfl rfl rfl ?_
          refine J_ld 85 jw hj rfl rfl rfl rfl ?_
          refine J_ld 86 jw hj rfl rfl rfl rfl ?_
          refine J_callV1 jw rfl (Or.inl ⟨_, rfl⟩) rfl rfl (sp_X1_tie (g := g) a1 ((f_X9_named 2 H).1) ((f_X9_named 1 (f_X9_advance (f_X9_named 2 H).2)).1) (f_X9_advance (f_X9_named 1 (f_X9_advance (f_X9_named 2 H).2)).2) (rf_X9_advance (f_X9_named 1 (f_X9_advance (f_X9_named 2 H).2)).2 (rf_X9_named 1 (f_X9_advance (f_X9_named 2 H).2) (rf_X9_advance (f_X9_named 2 H).2 (rf_X9_named 2 H hr))))) ?_
          exact J_ret rfl (Or.inl rfl) (fun aw hR => by show _ ∧ _; unfold f_X1_readTie; rw [if_neg h0, if_pos h1, if_neg h4, if_pos h5]; exact ⟨rfl, hR⟩)
        · refine J_ld 67 jw hj rfl rfl rfl rfl ?_
          refine J_gfR (k := 4) jw hj rfl (evn rfl) (by decide) (by decide) (RFa (rf_X9_named 1 (f_X9_advance (f_X9_named 2 H).2) (rf_X9_advance (f_X9_named 2 H).2 (rf_X9_named 2 H hr))) rfl) ?_
          refine J_cst 71 jw hj rfl rfl rfl ?_
          refine J_callV1 jw rfl (Or.inl ⟨_, rfl⟩) rfl rfl (sp_X9_fail (g := g) 3 (f_X9_named 1 (f_X9_advance (f_X9_named 2 H).2)).2 (rf_X9_named 1 (f_X9_advance (f_X9_named 2 H).2) (rf_X9_advance (f_X9_named 2 H).2 (rf_X9_named 2 H hr)))) ?_
          exact J_ret rfl (Or.inl rfl) (fun aw hR => by show _ ∧ _; unfold f_X1_readTie; rw [if_neg h0, if_pos h1, if_neg h4, if_neg h5]; exact ⟨rfl, hR⟩)
      · refine J_cst 55 jw hj rfl rfl rfl ?_
        exact J_ret rfl (Or.inl rfl) (fun aw hR => by show _ ∧ _; unfold f_X1_readTie; rw [if_neg h0, if_pos h1, if_pos h4]; exact ⟨rfl, hR⟩)
  · refine J_cst 19 jw hj rfl rfl rfl ?_
    exact J_ret rfl (Or.inl rfl) (fun aw hR => by show _ ∧ _; unfold f_X1_readTie; rw [if_pos h0]; exact ⟨rfl, hR⟩)
theorem rf_X1_readTie (a1 : Int) (H : hH) (hr : RF H.2.2.1) : RF (f_X1_readTie a1 H).2.2.2.1 := by
  unfold f_X1_readTie
  by_cases q1 : ((f_X9_named 2 H).1) = (-1)
  · rw [if_pos q1]
    exact (rf_X9_named 2 H hr)
  · rw [if_neg q1]
    by_cases q2 : a1 = 4
    · rw [if_pos q2]
      by_cases q3 : ((f_X9_named 1 (f_X9_advance (f_X9_named 2 H).2)).1) = (-1)
      · rw [if_pos q3]
        exact (rf_X9_named 1 (f_X9_advance (f_X9_named 2 H).2) (rf_X9_advance (f_X9_named 2 H).2 (rf_X9_named 2 H hr)))
      · rw [if_neg q3]
        by_cases q4 : f_X1_isTied a1 ((f_X9_named 2 H).1) ((f_X9_named 1 (f_X9_advance (f_X9_named 2 H).2)).1) (f_X9_named 1 (f_X9_advance (f_X9_named 2 H).2)).2 = 0
        · rw [if_pos q4]
          exact (rf_X1_tie a1 ((f_X9_named 2 H).1) ((f_X9_named 1 (f_X9_advance (f_X9_named 2 H).2)).1) (f_X9_advance (f_X9_named 1 (f_X9_advance (f_X9_named 2 H).2)).2) (rf_X9_advance (f_X9_named 1 (f_X9_advance (f_X9_named 2 H).2)).2 (rf_X9_named 1 (f_X9_advance (f_X9_named 2 H).2) (rf_X9_advance (f_X9_named 2 H).2 (rf_X9_named 2 H hr)))))
        · rw [if_neg q4]
          exact (rf_X9_fail 3 (f_X9_named 1 (f_X9_advance (f_X9_named 2 H).2)).2 (rf_X9_named 1 (f_X9_advance (f_X9_named 2 H).2) (rf_X9_advance (f_X9_named 2 H).2 (rf_X9_named 2 H hr))))
    · rw [if_neg q2]
      by_cases q3 : ((f_X9_named 3 (f_X9_advance (f_X9_named 2 H).2)).1) = (-1)
      · rw [if_pos q3]
        exact (rf_X9_named 3 (f_X9_advance (f_X9_named 2 H).2) (rf_X9_advance (f_X9_named 2 H).2 (rf_X9_named 2 H hr)))
      · rw [if_neg q3]
        by_cases q4 : f_X1_isTied a1 ((f_X9_named 2 H).1) ((f_X9_named 3 (f_X9_advance (f_X9_named 2 H).2)).1) (f_X9_named 3 (f_X9_advance (f_X9_named 2 H).2)).2 = 0
        · rw [if_pos q4]
          exact (rf_X1_tie a1 ((f_X9_named 2 H).1) ((f_X9_named 3 (f_X9_advance (f_X9_named 2 H).2)).1) (f_X9_advance (f_X9_named 3 (f_X9_advance (f_X9_named 2 H).2)).2) (rf_X9_advance (f_X9_named 3 (f_X9_advance (f_X9_named 2 H).2)).2 (rf_X9_named 3 (f_X9_advance (f_X9_named 2 H).2) (rf_X9_advance (f_X9_named 2 H).2 (rf_X9_named 2 H hr)))))
        · rw [if_neg q4]
          exact (rf_X9_fail 3 (f_X9_named 3 (f_X9_advance (f_X9_named 2 H).2)).2 (rf_X9_named 3 (f_X9_advance (f_X9_named 2 H).2) (rf_X9_advance (f_X9_named 2 H).2 (rf_X9_named 2 H hr))))
def f_X1_readNew (a1 : Int) (H : hH) : Int × hH :=
  if H.1 4 10 = 5 then
    if f_X10_isTold (H.2.1 4 12) H = 0 then
      if a1 = 2 then
        ((f_X1_readPerson ((f_X10_addName (H.2.1 4 12) a1 H).1) (f_X9_advance (f_X10_addName (H.2.1 4 12) a1 H).2)).1, (f_X1_readPerson ((f_X10_addName (H.2.1 4 12) a1 H).1) (f_X9_advance (f_X10_addName (H.2.1 4 12) a1 H).2)).2)
      else
        if a1 = 3 then
          if ((f_X1_readShare ((f_X10_addName (H.2.1 4 12) a1 H).1) (f_X9_advance (f_X10_addName (H.2.1 4 12) a1 H).2)).1) = 0 then
            (0, (f_X1_readShare ((f_X10_addName (H.2.1 4 12) a1 H).1) (f_X9_advance (f_X10_addName (H.2.1 4 12) a1 H).2)).2)
          else
            (1, (f_X1_readShare ((f_X10_addName (H.2.1 4 12) a1 H).1) (f_X9_advance (f_X10_addName (H.2.1 4 12) a1 H).2)).2)
        else
          (1, (f_X9_advance (f_X10_addName (H.2.1 4 12) a1 H).2))
    else
      ((f_X9_fail 3 H).1, (f_X9_fail 3 H).2)
  else
    ((f_X9_fail 1 H).1, (f_X9_fail 1 H).2)
set_option maxHeartbeats 16000000 in
set_option maxRecDepth 100000 in
theorem sp_X1_readNew {g : Nat → Nat} (a1 : Int) (H : hH) (hr : RF H.2.2.1) : SP g rvTab rvInf rvRet 316 rvMth 133 [rf (g 13), pt a1] H (some (pt (f_X1_readNew a1 H).1)) (f_X1_readNew a1 H).2 := by
  have hj : 133 < 316 := by decide
  refine J_SP hj (Nat.le_of_ble_eq_true rfl) ?_
  show J g rvTab rvInf rvRet 316 rvMth 133 _ 0 [rf (g 13), pt a1, rvU] [] H
  refine J_ld 1 jw hj rfl rfl rfl rfl ?_
  refine J_gfR (k := 4) jw hj rfl (evn rfl) (by decide) (by decide) (RFa hr rfl) ?_
  refine J_gfI jw hj rfl (evn rfl) (by decide) rfl (fun r0 => ?_)
  refine J_cst 8 jw hj rfl rfl rfl ?_
  refine J_icmp (t := 20) jw hj rfl (evn rfl) rfl (fun (h0 : H.1 4 10 = 5) => ?_) (fun (h0 : ¬ H.1 4 10 = 5) => ?_)
  · refine J_ld 21 jw hj rfl rfl rfl rfl ?_
    refine J_gfR (k := 60) jw hj rfl (evn rfl) (by decide) (by decide) (RFa hr rfl) ?_
    refine J_ld 25 jw hj rfl rfl rfl rfl ?_
    refine J_gfR (k := 4) jw hj rfl (evn rfl) (by decide) (by decide) (RFa hr rfl) ?_
    refine J_gfL jw hj rfl (evn rfl) (by decide) rfl ?_
    refine J_callV1 jw rfl (Or.inl ⟨_, rfl⟩) rfl rfl (sp_X10_isTold (g := g) (H.2.1 4 12) H hr) ?_
    refine J_ifc (t := 46) jw hj rfl (evn rfl) rfl (fun (h1 : f_X10_isTold (H.2.1 4 12) H = 0) => ?_) (fun (h1 : ¬ f_X10_isTold (H.2.1 4 12) H = 0) => ?_)
    · refine J_ld 47 jw hj rfl rfl rfl rfl ?_
      refine J_gfR (k := 60) jw hj rfl (evn rfl) (by decide) (by decide) (RFa hr rfl) ?_
      refine J_ld 51 jw hj rfl rfl rfl rfl ?_
      refine J_gfR (k := 4) jw hj rfl (evn rfl) (by decide) (by decide) (RFa hr rfl) ?_
      refine J_gfL jw hj rfl (evn rfl) (by decide) rfl ?_
      refine J_ld 58 jw hj rfl rfl rfl rfl ?_
      refine J_callV1 jw rfl (Or.inl ⟨_, rfl⟩) rfl rfl (sp_X10_addName (g := g) (H.2.1 4 12) a1 H hr) ?_
      refine J_st 62 [rf (g 13), pt a1, pt ((f_X10_addName (H.2.1 4 12) a1 H).1)] (k := 2) jw hj rfl (Or.inr (Or.inr (Or.inl ⟨_, rfl, rfl, rfl⟩))) rfl ?_
      refine J_ld 63 jw hj rfl rfl rfl rfl ?_
      refine J_gfR (k := 4) jw hj rfl (evn rfl) (by decide) (by decide) (RFa (rf_X10_addName (H.2.1 4 12) a1 H hr) rfl) ?_
      refine J_callV0 jw rfl (Or.inl ⟨_, rfl⟩) rfl rfl (sp_X9_advance (g := g) (f_X10_addName (H.2.1 4 12) a1 H).2 (rf_X10_addName (H.2.1 4 12) a1 H hr)) ?_
      refine J_ld 70 jw hj rfl rfl rfl rfl ?_
      refine J_cst 71 jw hj rfl rfl rfl ?_
      refine J_icmp (t := 80) jw hj rfl (evn rfl) rfl (fun (h2 : ¬ a1 = 2) => ?_) (fun (h2 : a1 = 2) => ?_)
      · refine J_ld 81 jw hj rfl rfl rfl rfl ?_
        refine J_cst 82 jw hj rfl rfl rfl ?_
        refine J_icmp (t := 93) jw hj rfl (evn rfl) rfl (fun (h3 : ¬ a1 = 3) => ?_) (fun (h3 : a1 = 3) => ?_)
        · refine J_cst 94 jw hj rfl rfl rfl ?_
          refine J_goto 98 jw hj rfl rfl ?_
          exact J_ret rfl (Or.inl rfl) (fun aw hR => by show _ ∧ _; unfold f_X1_readNew; rw [if_pos h0, if_pos h1, if_neg h2, if_neg h3]; exact ⟨rfl, hR⟩)
        · refine J_ld 86 jw hj rfl rfl rfl rfl ?_
          refine J_ld 87 jw hj rfl rfl rfl rfl ?_
          refine J_callV1 jw rfl (Or.inl ⟨_, rfl⟩) rfl rfl (sp_X1_readShare (g := g) ((f_X10_addName (H.2.1 4 12) a1 H).1) (f_X9_advance (f_X10_addName (H.2.1 4 12) a1 H).2) (rf_X9_advance (f_X10_addName (H.2.1 4 12) a1 H).2 (rf_X10_addName (H.2.1 4 12) a1 H hr))) ?_
          refine J_ifc (t := 97) jw hj rfl (evn rfl) rfl (fun (h4 : ((f_X1_readShare ((f_X10_addName (H.2.1 4 12) a1 H).1) (f_X9_advance (f_X10_addName (H.2.1 4 12) a1 H).2)).1) = 0) => ?_) (fun (h4 : ¬ ((f_X1_readShare ((f_X10_addName (H.2.1 4 12) a1 H).1) (f_X9_advance (f_X10_addName (H.2.1 4 12) a1 H).2)).1) = 0) => ?_)
          · refine J_cst 98 jw hj rfl rfl rfl ?_
            exact J_ret rfl (Or.inl rfl) (fun aw hR => by show _ ∧ _; unfold f_X1_readNew; rw [if_pos h0, if_pos h1, if_neg h2, if_pos h3, if_pos h4]; exact ⟨rfl, hR⟩)
          · refine J_cst 94 jw hj rfl rfl rfl ?_
            refine J_goto 98 jw hj rfl rfl ?_
            exact J_ret rfl (Or.inl rfl) (fun aw hR => by show _ ∧ _; unfold f_X1_readNew; rw [if_pos h0, if_pos h1, if_neg h2, if_pos h3, if_neg h4]; exact ⟨rfl, hR⟩)
      · refine J_ld 75 jw hj rfl rfl rfl rfl ?_
        refine J_ld 76 jw hj rfl rfl rfl rfl ?_
        refine J_callV1 jw rfl (Or.inl ⟨_, rfl⟩) rfl rfl (sp_X1_readPerson (g := g) ((f_X10_addName (H.2.1 4 12) a1 H).1) (f_X9_advance (f_X10_addName (H.2.1 4 12) a1 H).2) (rf_X9_advance (f_X10_addName (H.2.1 4 12) a1 H).2 (rf_X10_addName (H.2.1 4 12) a1 H hr))) ?_
        exact J_ret rfl (Or.inl rfl) (fun aw hR => by show _ ∧ _; unfold f_X1_readNew; rw [if_pos h0, if_pos h1, if_pos h2]; exact ⟨rfl, hR⟩)
    · refine J_ld 38 jw hj rfl rfl rfl rfl ?_
      refine J_gfR (k := 4) jw hj rfl (evn rfl) (by decide) (by decide) (RFa hr rfl) ?_
      refine J_cst 42 jw hj rfl rfl rfl ?_
      refine J_callV1 jw rfl (Or.inl ⟨_, rfl⟩) rfl rfl (sp_X9_fail (g := g) 3 H hr) ?_
      exact J_ret rfl (Or.inl rfl) (fun aw hR => by show _ ∧ _; unfold f_X1_readNew; rw [if_pos h0, if_neg h1]; exact ⟨rfl, hR⟩)
  · refine J_ld 12 jw hj rfl rfl rfl rfl ?_
    refine J_gfR (k := 4) jw hj rfl (evn rfl) (by decide) (by decide) (RFa hr rfl) ?_
    refine J_cst 16 jw hj rfl rfl rfl ?_
    refine J_callV1 jw rfl (Or.inl ⟨_, rfl⟩) rfl rfl (sp_X9_fail (g := g) 1 H hr) ?_
    exact J_ret rfl (Or.inl rfl) (fun aw hR => by show _ ∧ _; unfold f_X1_readNew; rw [if_neg h0]; exact ⟨rfl, hR⟩)
theorem rf_X1_readNew (a1 : Int) (H : hH) (hr : RF H.2.2.1) : RF (f_X1_readNew a1 H).2.2.2.1 := by
  unfold f_X1_readNew
  by_cases q1 : H.1 4 10 = 5
  · rw [if_pos q1]
    by_cases q2 : f_X10_isTold (H.2.1 4 12) H = 0
    · rw [if_pos q2]
      by_cases q3 : a1 = 2
      · rw [if_pos q3]
        exact (rf_X1_readPerson ((f_X10_addName (H.2.1 4 12) a1 H).1) (f_X9_advance (f_X10_addName (H.2.1 4 12) a1 H).2) (rf_X9_advance (f_X10_addName (H.2.1 4 12) a1 H).2 (rf_X10_addName (H.2.1 4 12) a1 H hr)))
      · rw [if_neg q3]
        by_cases q4 : a1 = 3
        · rw [if_pos q4]
          by_cases q5 : ((f_X1_readShare ((f_X10_addName (H.2.1 4 12) a1 H).1) (f_X9_advance (f_X10_addName (H.2.1 4 12) a1 H).2)).1) = 0
          · rw [if_pos q5]
            exact (rf_X1_readShare ((f_X10_addName (H.2.1 4 12) a1 H).1) (f_X9_advance (f_X10_addName (H.2.1 4 12) a1 H).2) (rf_X9_advance (f_X10_addName (H.2.1 4 12) a1 H).2 (rf_X10_addName (H.2.1 4 12) a1 H hr)))
          · rw [if_neg q5]
            exact (rf_X1_readShare ((f_X10_addName (H.2.1 4 12) a1 H).1) (f_X9_advance (f_X10_addName (H.2.1 4 12) a1 H).2) (rf_X9_advance (f_X10_addName (H.2.1 4 12) a1 H).2 (rf_X10_addName (H.2.1 4 12) a1 H hr)))
        · rw [if_neg q4]
          exact (rf_X9_advance (f_X10_addName (H.2.1 4 12) a1 H).2 (rf_X10_addName (H.2.1 4 12) a1 H hr))
    · rw [if_neg q2]
      exact (rf_X9_fail 3 H hr)
  · rw [if_neg q1]
    exact (rf_X9_fail 1 H hr)
def f_X1_readLine  (H : hH) : Int × hH :=
  if H.1 4 10 = 4 then
    if 6 < H.1 4 11 then
      ((f_X9_fail 1 H).1, (f_X9_fail 1 H).2)
    else
      if 3 < H.1 4 11 then
        if 3 < H.1 4 11 then
          if ((f_X1_readTie (H.1 4 11) (f_X9_advance H)).1) = 0 then
            (0, (f_X1_readTie (H.1 4 11) (f_X9_advance H)).2)
          else
            if ((f_X9_passSign 59 (f_X1_readTie (H.1 4 11) (f_X9_advance H)).2).1) = 0 then
              (0, (f_X9_passSign 59 (f_X1_readTie (H.1 4 11) (f_X9_advance H)).2).2)
            else
              (1, (f_X9_passSign 59 (f_X1_readTie (H.1 4 11) (f_X9_advance H)).2).2)
        else
          if ((f_X1_readNew (H.1 4 11) (f_X9_advance H)).1) = 0 then
            (0, (f_X1_readNew (H.1 4 11) (f_X9_advance H)).2)
          else
            if ((f_X9_passSign 59 (f_X1_readNew (H.1 4 11) (f_X9_advance H)).2).1) = 0 then
              (0, (f_X9_passSign 59 (f_X1_readNew (H.1 4 11) (f_X9_advance H)).2).2)
            else
              (1, (f_X9_passSign 59 (f_X1_readNew (H.1 4 11) (f_X9_advance H)).2).2)
      else
        if f_X10_isFull (H.1 4 11) H = 0 then
          if 3 < H.1 4 11 then
            if ((f_X1_readTie (H.1 4 11) (f_X9_advance H)).1) = 0 then
              (0, (f_X1_readTie (H.1 4 11) (f_X9_advance H)).2)
            else
              if ((f_X9_passSign 59 (f_X1_readTie (H.1 4 11) (f_X9_advance H)).2).1) = 0 then
                (0, (f_X9_passSign 59 (f_X1_readTie (H.1 4 11) (f_X9_advance H)).2).2)
              else
                (1, (f_X9_passSign 59 (f_X1_readTie (H.1 4 11) (f_X9_advance H)).2).2)
          else
            if ((f_X1_readNew (H.1 4 11) (f_X9_advance H)).1) = 0 then
              (0, (f_X1_readNew (H.1 4 11) (f_X9_advance H)).2)
            else
              if ((f_X9_passSign 59 (f_X1_readNew (H.1 4 11) (f_X9_advance H)).2).1) = 0 then
                (0, (f_X9_passSign 59 (f_X1_readNew (H.1 4 11) (f_X9_advance H)).2).2)
              else
                (1, (f_X9_passSign 59 (f_X1_readNew (H.1 4 11) (f_X9_advance H)).2).2)
        else
          ((f_X9_fail 4 H).1, (f_X9_fail 4 H).2)
  else
    ((f_X9_fail 1 H).1, (f_X9_fail 1 H).2)
set_option maxHeartbeats 16000000 in
set_option maxRecDepth 100000 in
theorem sp_X1_readLine {g : Nat → Nat}  (H : hH) (hr : RF H.2.2.1) : SP g rvTab rvInf rvRet 316 rvMth 131 [rf (g 13)] H (some (pt (f_X1_readLine H).1)) (f_X1_readLine H).2 := by
  have hj : 131 < 316 := by decide
  refine J_SP hj (Nat.le_of_ble_eq_true rfl) ?_
  show J g rvTab rvInf rvRet 316 rvMth 131 _ 0 [rf (g 13), rvU, rvU] [] H
  refine J_ld 1 jw hj rfl rfl rfl rfl ?_
  refine J_gfR (k := 4) jw hj rfl (evn rfl) (by decide) (by decide) (RFa hr rfl) ?_
  refine J_gfI jw hj rfl (evn rfl) (by decide) rfl (fun r0 => ?_)
  refine J_st 8 [rf (g 13), pt (H.1 4 11), rvU] (k := 1) jw hj rfl (Or.inr (Or.inr (Or.inl ⟨_, rfl, rfl, rfl⟩))) rfl ?_
  refine J_ld 9 jw hj rfl rfl rfl rfl ?_
  refine J_gfR (k := 4) jw hj rfl (evn rfl) (by decide) (by decide) (RFa hr rfl) ?_
  refine J_gfI jw hj rfl (evn rfl) (by decide) rfl (fun r1 => ?_)
  refine J_cst 16 jw hj rfl rfl rfl ?_
  refine J_icmp (t := 25) jw hj rfl (evn rfl) rfl (fun (h0 : ¬ H.1 4 10 = 4) => ?_) (fun (h0 : H.1 4 10 = 4) => ?_)
  · refine J_ld 26 jw hj rfl rfl rfl rfl ?_
    refine J_gfR (k := 4) jw hj rfl (evn rfl) (by decide) (by decide) (RFa hr rfl) ?_
    refine J_cst 30 jw hj rfl rfl rfl ?_
    refine J_callV1 jw rfl (Or.inl ⟨_, rfl⟩) rfl rfl (sp_X9_fail (g := g) 1 H hr) ?_
    exact J_ret rfl (Or.inl rfl) (fun aw hR => by show _ ∧ _; unfold f_X1_readLine; rw [if_neg h0]; exact ⟨rfl, hR⟩)
  · refine J_ld 20 jw hj rfl rfl rfl rfl ?_
    refine J_cst 22 jw hj rfl rfl rfl ?_
    refine J_icmp (t := 34) jw hj rfl (evn rfl) rfl (fun (h1 : ¬ 6 < H.1 4 11) => ?_) (fun (h1 : 6 < H.1 4 11) => ?_)
    · refine J_ld 35 jw hj rfl rfl rfl rfl ?_
      refine J_cst 36 jw hj rfl rfl rfl ?_
      refine J_icmp (t := 59) jw hj rfl (evn rfl) rfl (fun (h2 : 3 < H.1 4 11) => ?_) (fun (h2 : ¬ 3 < H.1 4 11) => ?_)
      · refine J_ld 60 jw hj rfl rfl rfl rfl ?_
        refine J_gfR (k := 4) jw hj rfl (evn rfl) (by decide) (by decide) (RFa hr rfl) ?_
        refine J_callV0 jw rfl (Or.inl ⟨_, rfl⟩) rfl rfl (sp_X9_advance (g := g) H hr) ?_
        refine J_ld 67 jw hj rfl rfl rfl rfl ?_
        refine J_cst 68 jw hj rfl rfl rfl ?_
        refine J_icmp (t := 79) jw hj rfl (evn rfl) rfl (fun (h3 : 3 < H.1 4 11) => ?_) (fun (h3 : ¬ 3 < H.1 4 11) => ?_)
        · refine J_ld 80 jw hj rfl rfl rfl rfl ?_
          refine J_ld 81 jw hj rfl rfl rfl rfl ?_
          refine J_callV1 jw rfl (Or.inl ⟨_, rfl⟩) rfl rfl (sp_X1_readTie (g := g) (H.1 4 11) (f_X9_advance H) (rf_X9_advance H hr)) ?_
          refine J_st 85 [rf (g 13), pt (H.1 4 11), pt ((f_X1_readTie (H.1 4 11) (f_X9_advance H)).1)] (k := 2) jw hj rfl (Or.inr (Or.inr (Or.inl ⟨_, rfl, rfl, rfl⟩))) rfl ?_
          refine J_ld 86 jw hj rfl rfl rfl rfl ?_
          refine J_ifc (t := 105) jw hj rfl (evn rfl) rfl (fun (h4 : ((f_X1_readTie (H.1 4 11) (f_X9_advance H)).1) = 0) => ?_) (fun (h4 : ¬ ((f_X1_readTie (H.1 4 11) (f_X9_advance H)).1) = 0) => ?_)
          · refine J_cst 106 jw hj rfl rfl rfl ?_
            exact J_ret rfl (Or.inl rfl) (fun aw hR => by show _ ∧ _; unfold f_X1_readLine; rw [if_pos h0, if_neg h1, if_pos h2, if_pos h3, if_pos h4]; exact ⟨rfl, hR⟩)
          · refine J_ld 90 jw hj rfl rfl rfl rfl ?_
            refine J_gfR (k := 4) jw hj rfl (evn rfl) (by decide) (by decide) (RFa (rf_X1_readTie (H.1 4 11) (f_X9_advance H) (rf_X9_advance H hr)) rfl) ?_
            refine J_cst 95 jw hj rfl rfl rfl ?_
            refine J_callV1 jw rfl (Or.inl ⟨_, rfl⟩) rfl rfl (sp_X9_passSign (g := g) 59 (f_X1_readTie (H.1 4 11) (f_X9_advance H)).2 (rf_X1_readTie (H.1 4 11) (f_X9_advance H) (rf_X9_advance H hr))) ?_
            refine J_ifc (t := 105) jw hj rfl (evn rfl) rfl (fun (h5 : ((f_X9_passSign 59 (f_X1_readTie (H.1 4 11) (f_X9_advance H)).2).1) = 0) => ?_) (fun (h5 : ¬ ((f_X9_passSign 59 (f_X1_readTie (H.1 4 11) (f_X9_advance H)).2).1) = 0) => ?_)
            · refine J_cst 106 jw hj rfl rfl rfl ?_
              exact J_ret rfl (Or.inl rfl) (fun aw hR => by show _ ∧ _; unfold f_X1_readLine; rw [if_pos h0, if_neg h1, if_pos h2, if_pos h3, if_neg h4, if_pos h5]; exact ⟨rfl, hR⟩)
            · refine J_cst 102 jw hj rfl rfl rfl ?_
              refine J_goto 106 jw hj rfl rfl ?_
              exact J_ret rfl (Or.inl rfl) (fun aw hR => by show _ ∧ _; unfold f_X1_readLine; rw [if_pos h0, if_neg h1, if_pos h2, if_pos h3, if_neg h4, if_neg h5]; exact ⟨rfl, hR⟩)
        · refine J_ld 72 jw hj rfl rfl rfl rfl ?_
          refine J_ld 73 jw hj rfl rfl rfl rfl ?_
          refine J_callV1 jw rfl (Or.inl ⟨_, rfl⟩) rfl rfl (sp_X1_readNew (g := g) (H.1 4 11) (f_X9_advance H) (rf_X9_advance H hr)) ?_
          refine J_goto 84 jw hj rfl rfl ?_
          refine J_st 85 [rf (g 13), pt (H.1 4 11), pt ((f_X1_readNew (H.1 4 11) (f_X9_advance H)).1)] (k := 2) jw hj rfl (Or.inr (Or.inr (Or.inl ⟨_, rfl, rfl, rfl⟩))) rfl ?_
          refine J_ld 86 jw hj rfl rfl rfl rfl ?_
          refine J_ifc (t := 105) jw hj rfl (evn rfl) rfl (fun (h6 : ((f_X1_readNew (H.1 4 11) (f_X9_advance H)).1) = 0) => ?_) (fun (h6 : ¬ ((f_X1_readNew (H.1 4 11) (f_X9_advance H)).1) = 0) => ?_)
          · refine J_cst 106 jw hj rfl rfl rfl ?_
            exact J_ret rfl (Or.inl rfl) (fun aw hR => by show _ ∧ _; unfold f_X1_readLine; rw [if_pos h0, if_neg h1, if_pos h2, if_neg h3, if_pos h6]; exact ⟨rfl, hR⟩)
          · refine J_ld 90 jw hj rfl rfl rfl rfl ?_
            refine J_gfR (k := 4) jw hj rfl (evn rfl) (by decide) (by decide) (RFa (rf_X1_readNew (H.1 4 11) (f_X9_advance H) (rf_X9_advance H hr)) rfl) ?_
            refine J_cst 95 jw hj rfl rfl rfl ?_
            refine J_callV1 jw rfl (Or.inl ⟨_, rfl⟩) rfl rfl (sp_X9_passSign (g := g) 59 (f_X1_readNew (H.1 4 11) (f_X9_advance H)).2 (rf_X1_readNew (H.1 4 11) (f_X9_advance H) (rf_X9_advance H hr))) ?_
            refine J_ifc (t := 105) jw hj rfl (evn rfl) rfl (fun (h7 : ((f_X9_passSign 59 (f_X1_readNew (H.1 4 11) (f_X9_advance H)).2).1) = 0) => ?_) (fun (h7 : ¬ ((f_X9_passSign 59 (f_X1_readNew (H.1 4 11) (f_X9_advance H)).2).1) = 0) => ?_)
            · refine J_cst 106 jw hj rfl rfl rfl ?_
              exact J_ret rfl (Or.inl rfl) (fun aw hR => by show _ ∧ _; unfold f_X1_readLine; rw [if_pos h0, if_neg h1, if_pos h2, if_neg h3, if_neg h6, if_pos h7]; exact ⟨rfl, hR⟩)
            · refine J_cst 102 jw hj rfl rfl rfl ?_
              refine J_goto 106 jw hj rfl rfl ?_
              exact J_ret rfl (Or.inl rfl) (fun aw hR => by show _ ∧ _; unfold f_X1_readLine; rw [if_pos h0, if_neg h1, if_pos h2, if_neg h3, if_neg h6, if_neg h7]; exact ⟨rfl, hR⟩)
      · refine J_ld 40 jw hj rfl rfl rfl rfl ?_
        refine J_gfR (k := 60) jw hj rfl (evn rfl) (by decide) (by decide) (RFa hr rfl) ?_
        refine J_ld 44 jw hj rfl rfl rfl rfl ?_
        refine J_callV1 jw rfl (Or.inl ⟨_, rfl⟩) rfl rfl (sp_X10_isFull (g := g) (H.1 4 11) H hr) ?_
        refine J_ifc (t := 59) jw hj rfl (evn rfl) rfl (fun (h8 : f_X10_isFull (H.1 4 11) H = 0) => ?_) (fun (h8 : ¬ f_X10_isFull (H.1 4 11) H = 0) => ?_)
        · refine J_ld 60 jw hj rfl rfl rfl rfl ?_
          refine J_gfR (k := 4) jw hj rfl (evn rfl) (by decide) (by decide) (RFa hr rfl) ?_
          refine J_callV0 jw rfl (Or.inl ⟨_, rfl⟩) rfl rfl (sp_X9_advance (g := g) H hr) ?_
          refine J_ld 67 jw hj rfl rfl rfl rfl ?_
          refine J_cst 68 jw hj rfl rfl rfl ?_
          refine J_icmp (t := 79) jw hj rfl (evn rfl) rfl (fun (h9 : 3 < H.1 4 11) => ?_) (fun (h9 : ¬ 3 < H.1 4 11) => ?_)
          · refine J_ld 80 jw hj rfl rfl rfl rfl ?_
            refine J_ld 81 jw hj rfl rfl rfl rfl ?_
            refine J_callV1 jw rfl (Or.inl ⟨_, rfl⟩) rfl rfl (sp_X1_readTie (g := g) (H.1 4 11) (f_X9_advance H) (rf_X9_advance H hr)) ?_
            refine J_st 85 [rf (g 13), pt (H.1 4 11), pt ((f_X1_readTie (H.1 4 11) (f_X9_advance H)).1)] (k := 2) jw hj rfl (Or.inr (Or.inr (Or.inl ⟨_, rfl, rfl, rfl⟩))) rfl ?_
            refine J_ld 86 jw hj rfl rfl rfl rfl ?_
            refine J_ifc (t := 105) jw hj rfl (evn rfl) rfl (fun (h10 : ((f_X1_readTie (H.1 4 11) (f_X9_advance H)).1) = 0) => ?_) (fun (h10 : ¬ ((f_X1_readTie (H.1 4 11) (f_X9_advance H)).1) = 0) => ?_)
            · refine J_cst 106 jw hj rfl rfl rfl ?_
              exact J_ret rfl (Or.inl rfl) (fun aw hR => by show _ ∧ _; unfold f_X1_readLine; rw [if_pos h0, if_neg h1, if_neg h2, if_pos h8, if_pos h9, if_pos h10]; exact ⟨rfl, hR⟩)
            · refine J_ld 90 jw hj rfl rfl rfl rfl ?_
              refine J_gfR (k := 4) jw hj rfl (evn rfl) (by decide) (by decide) (RFa (rf_X1_readTie (H.1 4 11) (f_X9_advance H) (rf_X9_advance H hr)) rfl) ?_
              refine J_cst 95 jw hj rfl rfl rfl ?_
              refine J_callV1 jw rfl (Or.inl ⟨_, rfl⟩) rfl rfl (sp_X9_passSign (g := g) 59 (f_X1_readTie (H.1 4 11) (f_X9_advance H)).2 (rf_X1_readTie (H.1 4 11) (f_X9_advance H) (rf_X9_advance H hr))) ?_
              refine J_ifc (t := 105) jw hj rfl (evn rfl) rfl (fun (h11 : ((f_X9_passSign 59 (f_X1_readTie (H.1 4 11) (f_X9_advance H)).2).1) = 0) => ?_) (fun (h11 : ¬ ((f_X9_passSign 59 (f_X1_readTie (H.1 4 11) (f_X9_advance H)).2).1) = 0) => ?_)
              · refine J_cst 106 jw hj rfl rfl rfl ?_
                exact J_ret rfl (Or.inl rfl) (fun aw hR => by show _ ∧ _; unfold f_X1_readLine; rw [if_pos h0, if_neg h1, if_neg h2, if_pos h8, if_pos h9, if_neg h10, if_pos h11]; exact ⟨rfl, hR⟩)
              · refine J_cst 102 jw hj rfl rfl rfl ?_
                refine J_goto 106 jw hj rfl rfl ?_
                exact J_ret rfl (Or.inl rfl) (fun aw hR => by show _ ∧ _; unfold f_X1_readLine; rw [if_pos h0, if_neg h1, if_neg h2, if_pos h8, if_pos h9, if_neg h10, if_neg h11]; exact ⟨rfl, hR⟩)
          · refine J_ld 72 jw hj rfl rfl rfl rfl ?_
            refine J_ld 73 jw hj rfl rfl rfl rfl ?_
            refine J_callV1 jw rfl (Or.inl ⟨_, rfl⟩) rfl rfl (sp_X1_readNew (g := g) (H.1 4 11) (f_X9_advance H) (rf_X9_advance H hr)) ?_
            refine J_goto 84 jw hj rfl rfl ?_
            refine J_st 85 [rf (g 13), pt (H.1 4 11), pt ((f_X1_readNew (H.1 4 11) (f_X9_advance H)).1)] (k := 2) jw hj rfl (Or.inr (Or.inr (Or.inl ⟨_, rfl, rfl, rfl⟩))) rfl ?_
            refine J_ld 86 jw hj rfl rfl rfl rfl ?_
            refine J_ifc (t := 105) jw hj rfl (evn rfl) rfl (fun (h12 : ((f_X1_readNew (H.1 4 11) (f_X9_advance H)).1) = 0) => ?_) (fun (h12 : ¬ ((f_X1_readNew (H.1 4 11) (f_X9_advance H)).1) = 0) => ?_)
            · refine J_cst 106 jw hj rfl rfl rfl ?_
              exact J_ret rfl (Or.inl rfl) (fun aw hR => by show _ ∧ _; unfold f_X1_readLine; rw [if_pos h0, if_neg h1, if_neg h2, if_pos h8, if_neg h9, if_pos h12]; exact ⟨rfl, hR⟩)
            · refine J_ld 90 jw hj rfl rfl rfl rfl ?_
              refine J_gfR (k := 4) jw hj rfl (evn rfl) (by decide) (by decide) (RFa (rf_X1_readNew (H.1 4 11) (f_X9_advance H) (rf_X9_advance H hr)) rfl) ?_
              refine J_cst 95 jw hj rfl rfl rfl ?_
              refine J_callV1 jw rfl (Or.inl ⟨_, rfl⟩) rfl rfl (sp_X9_passSign (g := g) 59 (f_X1_readNew (H.1 4 11) (f_X9_advance H)).2 (rf_X1_readNew (H.1 4 11) (f_X9_advance H) (rf_X9_advance H hr))) ?_
              refine J_ifc (t := 105) jw hj rfl (evn rfl) rfl (fun (h13 : ((f_X9_passSign 59 (f_X1_readNew (H.1 4 11) (f_X9_advance H)).2).1) = 0) => ?_) (fun (h13 : ¬ ((f_X9_passSign 59 (f_X1_readNew (H.1 4 11) (f_X9_advance H)).2).1) = 0) => ?_)
              · refine J_cst 106 jw hj rfl rfl rfl ?_
                exact J_ret rfl (Or.inl rfl) (fun aw hR => by show _ ∧ _; unfold f_X1_readLine; rw [if_pos h0, if_neg h1, if_neg h2, if_pos h8, if_neg h9, if_neg h12, if_pos h13]; exact ⟨rfl, hR⟩)
              · refine J_cst 102 jw hj rfl rfl rfl ?_
                refine J_goto 106 jw hj rfl rfl ?_
                exact J_ret rfl (Or.inl rfl) (fun aw hR => by show _ ∧ _; unfold f_X1_readLine; rw [if_pos h0, if_neg h1, if_neg h2, if_pos h8, if_neg h9, if_neg h12, if_neg h13]; exact ⟨rfl, hR⟩)
        · refine J_ld 51 jw hj rfl rfl rfl rfl ?_
          refine J_gfR (k := 4) jw hj rfl (evn rfl) (by decide) (by decide) (RFa hr rfl) ?_
          refine J_cst 55 jw hj rfl rfl rfl ?_
          refine J_callV1 jw rfl (Or.inl ⟨_, rfl⟩) rfl rfl (sp_X9_fail (g := g) 4 H hr) ?_
          exact J_ret rfl (Or.inl rfl) (fun aw hR => by show _ ∧ _; unfold f_X1_readLine; rw [if_pos h0, if_neg h1, if_neg h2, if_neg h8]; exact ⟨rfl, hR⟩)
    · refine J_ld 26 jw hj rfl rfl rfl rfl ?_
      refine J_gfR (k := 4) jw hj rfl (evn rfl) (by decide) (by decide) (RFa hr rfl) ?_
      refine J_cst 30 jw hj rfl rfl rfl ?_
      refine J_callV1 jw rfl (Or.inl ⟨_, rfl⟩) rfl rfl (sp_X9_fail (g := g) 1 H hr) ?_
      exact J_ret rfl (Or.inl rfl) (fun aw hR => by show _ ∧ _; unfold f_X1_readLine; rw [if_pos h0, if_pos h1]; exact ⟨rfl, hR⟩)
theorem rf_X1_readLine  (H : hH) (hr : RF H.2.2.1) : RF (f_X1_readLine H).2.2.2.1 := by
  unfold f_X1_readLine
  by_cases q1 : H.1 4 10 = 4
  · rw [if_pos q1]
    by_cases q2 : 6 < H.1 4 11
    · rw [if_pos q2]
      exact (rf_X9_fail 1 H hr)
    · rw [if_neg q2]
      by_cases q3 : 3 < H.1 4 11
      · rw [if_pos q3]
        by_cases q4 : 3 < H.1 4 11
        · rw [if_pos q4]
          by_cases q5 : ((f_X1_readTie (H.1 4 11) (f_X9_advance H)).1) = 0
          · rw [if_pos q5]
            exact (rf_X1_readTie (H.1 4 11) (f_X9_advance H) (rf_X9_advance H hr))
          · rw [if_neg q5]
            by_cases q6 : ((f_X9_passSign 59 (f_X1_readTie (H.1 4 11) (f_X9_advance H)).2).1) = 0
            · rw [if_pos q6]
              exact (rf_X9_passSign 59 (f_X1_readTie (H.1 4 11) (f_X9_advance H)).2 (rf_X1_readTie (H.1 4 11) (f_X9_advance H) (rf_X9_advance H hr)))
            · rw [if_neg q6]
              exact (rf_X9_passSign 59 (f_X1_readTie (H.1 4 11) (f_X9_advance H)).2 (rf_X1_readTie (H.1 4 11) (f_X9_advance H) (rf_X9_advance H hr)))
        · rw [if_neg q4]
          by_cases q5 : ((f_X1_readNew (H.1 4 11) (f_X9_advance H)).1) = 0
          · rw [if_pos q5]
            exact (rf_X1_readNew (H.1 4 11) (f_X9_advance H) (rf_X9_advance H hr))
          · rw [if_neg q5]
            by_cases q6 : ((f_X9_passSign 59 (f_X1_readNew (H.1 4 11) (f_X9_advance H)).2).1) = 0
            · rw [if_pos q6]
              exact (rf_X9_passSign 59 (f_X1_readNew (H.1 4 11) (f_X9_advance H)).2 (rf_X1_readNew (H.1 4 11) (f_X9_advance H) (rf_X9_advance H hr)))
            · rw [if_neg q6]
              exact (rf_X9_passSign 59 (f_X1_readNew (H.1 4 11) (f_X9_advance H)).2 (rf_X1_readNew (H.1 4 11) (f_X9_advance H) (rf_X9_advance H hr)))
      · rw [if_neg q3]
        by_cases q4 : f_X10_isFull (H.1 4 11) H = 0
        · rw [if_pos q4]
          by_cases q5 : 3 < H.1 4 11
          · rw [if_pos q5]
            by_cases q6 : ((f_X1_readTie (H.1 4 11) (f_X9_advance H)).1) = 0
            · rw [if_pos q6]
              exact (rf_X1_readTie (H.1 4 11) (f_X9_advance H) (rf_X9_advance H hr))
            · rw [if_neg q6]
              by_cases q7 : ((f_X9_passSign 59 (f_X1_readTie (H.1 4 11) (f_X9_advance H)).2).1) = 0
              · rw [if_pos q7]
                exact (rf_X9_passSign 59 (f_X1_readTie (H.1 4 11) (f_X9_advance H)).2 (rf_X1_readTie (H.1 4 11) (f_X9_advance H) (rf_X9_advance H hr)))
              · rw [if_neg q7]
                exact (rf_X9_passSign 59 (f_X1_readTie (H.1 4 11) (f_X9_advance H)).2 (rf_X1_readTie (H.1 4 11) (f_X9_advance H) (rf_X9_advance H hr)))
          · rw [if_neg q5]
            by_cases q6 : ((f_X1_readNew (H.1 4 11) (f_X9_advance H)).1) = 0
            · rw [if_pos q6]
              exact (rf_X1_readNew (H.1 4 11) (f_X9_advance H) (rf_X9_advance H hr))
            · rw [if_neg q6]
              by_cases q7 : ((f_X9_passSign 59 (f_X1_readNew (H.1 4 11) (f_X9_advance H)).2).1) = 0
              · rw [if_pos q7]
                exact (rf_X9_passSign 59 (f_X1_readNew (H.1 4 11) (f_X9_advance H)).2 (rf_X1_readNew (H.1 4 11) (f_X9_advance H) (rf_X9_advance H hr)))
              · rw [if_neg q7]
                exact (rf_X9_passSign 59 (f_X1_readNew (H.1 4 11) (f_X9_advance H)).2 (rf_X1_readNew (H.1 4 11) (f_X9_advance H) (rf_X9_advance H hr)))
        · rw [if_neg q4]
          exact (rf_X9_fail 4 H hr)
  · rw [if_neg q1]
    exact (rf_X9_fail 1 H hr)
def f_X12_sign (a1 : Int) (H : hH) : Int × hH :=
  if f_X12_isSign a1 H = 0 then
    ((f_X12_bad 1 H).1, (f_X12_bad 1 H).2)
  else
    (1, (f_X12_next H))
set_option maxHeartbeats 16000000 in
set_option maxRecDepth 100000 in
theorem sp_X12_sign {g : Nat → Nat} (a1 : Int) (H : hH) (hr : RM H.2.2.1) : SP g rvTab rvInf rvRet 316 rvMth 166 [rf (g 29), pt a1] H (some (pt (f_X12_sign a1 H).1)) (f_X12_sign a1 H).2 := by
  have hj : 166 < 316 := by decide
  refine J_SP hj (Nat.le_of_ble_eq_true rfl) ?_
  show J g rvTab rvInf rvRet 316 rvMth 166 _ 0 [rf (g 29), pt a1] [] H
  refine J_ld 1 jw hj rfl rfl rfl rfl ?_
  refine J_ld 2 jw hj rfl rfl rfl rfl ?_
  refine J_callV1 jw rfl (Or.inl ⟨_, rfl⟩) rfl rfl (sp_X12_isSign (g := g) a1 H) ?_
  refine J_ifc (t := 14) jw hj rfl (evn rfl) rfl (fun (h0 : ¬ f_X12_isSign a1 H = 0) => ?_) (fun (h0 : f_X12_isSign a1 H = 0) => ?_)
  · refine J_ld 15 jw hj rfl rfl rfl rfl ?_
    refine J_callV0 jw rfl (Or.inl ⟨_, rfl⟩) rfl rfl (sp_X12_next (g := g) H hr) ?_
    refine J_cst 19 jw hj rfl rfl rfl ?_
    exact J_ret rfl (Or.inl rfl) (fun aw hR => by show _ ∧ _; unfold f_X12_sign; rw [if_neg h0]; exact ⟨rfl, hR⟩)
  · refine J_ld 9 jw hj rfl rfl rfl rfl ?_
    refine J_cst 10 jw hj rfl rfl rfl ?_
    refine J_callV1 jw rfl (Or.inl ⟨_, rfl⟩) rfl rfl (sp_X12_bad (g := g) 1 H) ?_
    exact J_ret rfl (Or.inl rfl) (fun aw hR => by show _ ∧ _; unfold f_X12_sign; rw [if_pos h0]; exact ⟨rfl, hR⟩)
theorem rf_X12_sign (a1 : Int) (H : hH) (hr : RM H.2.2.1) : RM (f_X12_sign a1 H).2.2.2.1 := by
  unfold f_X12_sign
  by_cases q1 : f_X12_isSign a1 H = 0
  · rw [if_pos q1]
    exact (rf_X12_bad 1 H hr)
  · rw [if_neg q1]
    exact (rf_X12_next H hr)
def f_X12_takes (a1 : Int) (a2 : Int) (H : hH) : Int × hH :=
  if H.1 29 11 = 2 then
    if f_X12_isIn (H.1 29 14) a1 a2 = 0 then
      ((f_X12_bad 2 H).1, (f_X12_bad 2 H).2)
    else
      (1, (f_X12_next (upI H 29 18 (H.1 29 14))))
  else
    ((f_X12_bad 1 H).1, (f_X12_bad 1 H).2)
set_option maxHeartbeats 16000000 in
set_option maxRecDepth 100000 in
theorem sp_X12_takes {g : Nat → Nat} (a1 : Int) (a2 : Int) (H : hH) (hr : RM H.2.2.1) : SP g rvTab rvInf rvRet 316 rvMth 159 [rf (g 29), pt a1, pt a2] H (some (pt (f_X12_takes a1 a2 H).1)) (f_X12_takes a1 a2 H).2 := by
  have hj : 159 < 316 := by decide
  refine J_SP hj (Nat.le_of_ble_eq_true rfl) ?_
  show J g rvTab rvInf rvRet 316 rvMth 159 _ 0 [rf (g 29), pt a1, pt a2] [] H
  refine J_ld 1 jw hj rfl rfl rfl rfl ?_
  refine J_gfI jw hj rfl (evn rfl) (by decide) rfl (fun r0 => ?_)
  refine J_cst 5 jw hj rfl rfl rfl ?_
  refine J_icmp (t := 14) jw hj rfl (evn rfl) rfl (fun (h0 : H.1 29 11 = 2) => ?_) (fun (h0 : ¬ H.1 29 11 = 2) => ?_)
  · refine J_ld 15 jw hj rfl rfl rfl rfl ?_
    refine J_gfI jw hj rfl (evn rfl) (by decide) rfl (fun r1 => ?_)
    refine J_ld 19 jw hj rfl rfl rfl rfl ?_
    refine J_ld 20 jw hj rfl rfl rfl rfl ?_
    refine J_callS1 jw rfl rfl rfl rfl (sp_X12_isIn (g := g) (H.1 29 14) a1 a2 H) ?_
    refine J_ifc (t := 32) jw hj rfl (evn rfl) rfl (fun (h1 : ¬ f_X12_isIn (H.1 29 14) a1 a2 = 0) => ?_) (fun (h1 : f_X12_isIn (H.1 29 14) a1 a2 = 0) => ?_)
    · refine J_ld 33 jw hj rfl rfl rfl rfl ?_
      refine J_ld 34 jw hj rfl rfl rfl rfl ?_
      refine J_gfI jw hj rfl (evn rfl) (by decide) rfl (fun r2 => ?_)
      refine J_pfI jw hj rfl (evn rfl) rfl ?_
      refine J_ld 41 jw hj rfl rfl rfl rfl ?_
      refine J_callV0 jw rfl (Or.inl ⟨_, rfl⟩) rfl rfl (sp_X12_next (g := g) (upI H 29 18 (H.1 29 14)) hr) ?_
      refine J_cst 45 jw hj rfl rfl rfl ?_
      exact J_ret rfl (Or.inl rfl) (fun aw hR => by show _ ∧ _; unfold f_X12_takes; rw [if_pos h0, if_neg h1]; exact ⟨rfl, hR⟩)
    · refine J_ld 27 jw hj rfl rfl rfl rfl ?_
      refine J_cst 28 jw hj rfl rfl rfl ?_
      refine J_callV1 jw rfl (Or.inl ⟨_, rfl⟩) rfl rfl (sp_X12_bad (g := g) 2 H) ?_
      exact J_ret rfl (Or.inl rfl) (fun aw hR => by show _ ∧ _; unfold f_X12_takes; rw [if_pos h0, if_pos h1]; exact ⟨rfl, hR⟩)
  · refine J_ld 9 jw hj rfl rfl rfl rfl ?_
    refine J_cst 10 jw hj rfl rfl rfl ?_
    refine J_callV1 jw rfl (Or.inl ⟨_, rfl⟩) rfl rfl (sp_X12_bad (g := g) 1 H) ?_
    exact J_ret rfl (Or.inl rfl) (fun aw hR => by show _ ∧ _; unfold f_X12_takes; rw [if_neg h0]; exact ⟨rfl, hR⟩)
theorem rf_X12_takes (a1 : Int) (a2 : Int) (H : hH) (hr : RM H.2.2.1) : RM (f_X12_takes a1 a2 H).2.2.2.1 := by
  unfold f_X12_takes
  by_cases q1 : H.1 29 11 = 2
  · rw [if_pos q1]
    by_cases q2 : f_X12_isIn (H.1 29 14) a1 a2 = 0
    · rw [if_pos q2]
      exact (rf_X12_bad 2 H hr)
    · rw [if_neg q2]
      exact (rf_X12_next (upI H 29 18 (H.1 29 14)) hr)
  · rw [if_neg q1]
    exact (rf_X12_bad 1 H hr)
def f_X12_puts (a1 : Int) (a2 : Int) (a3 : Int) (H : hH) : Int × hH :=
  if ((f_X12_takes a2 a3 H).1) = 0 then
    (0, (f_X12_takes a2 a3 H).2)
  else
    (1, (upI (f_X12_takes a2 a3 H).2 32 (a1).toNat ((f_X12_takes a2 a3 H).2.1 29 18)))
set_option maxHeartbeats 16000000 in
set_option maxRecDepth 100000 in
theorem sp_X12_puts {g : Nat → Nat} (a1 : Int) (a2 : Int) (a3 : Int) (H : hH) (hr : RM H.2.2.1) : SP g rvTab rvInf rvRet 316 rvMth 158 [rf (g 29), pt a1, pt a2, pt a3] H (some (pt (f_X12_puts a1 a2 a3 H).1)) (f_X12_puts a1 a2 a3 H).2 := by
  have hj : 158 < 316 := by decide
  refine J_SP hj (Nat.le_of_ble_eq_true rfl) ?_
  show J g rvTab rvInf rvRet 316 rvMth 158 _ 0 [rf (g 29), pt a1, pt a2, pt a3] [] H
  refine J_ld 1 jw hj rfl rfl rfl rfl ?_
  refine J_ld 2 jw hj rfl rfl rfl rfl ?_
  refine J_ld 3 jw hj rfl rfl rfl rfl ?_
  refine J_callV1 jw rfl (Or.inl ⟨_, rfl⟩) rfl rfl (sp_X12_takes (g := g) a2 a3 H hr) ?_
  refine J_ifc (t := 11) jw hj rfl (evn rfl) rfl (fun (h0 : ¬ ((f_X12_takes a2 a3 H).1) = 0) => ?_) (fun (h0 : ((f_X12_takes a2 a3 H).1) = 0) => ?_)
  · refine J_ld 12 jw hj rfl rfl rfl rfl ?_
    refine J_gfR (k := 32) jw hj rfl (evn rfl) (by decide) (by decide) (RMa (rf_X12_takes a2 a3 H hr) rfl) ?_
    refine J_ld 16 jw hj rfl rfl rfl rfl ?_
    refine J_ld 17 jw hj rfl rfl rfl rfl ?_
    refine J_gfI jw hj rfl (evn rfl) (by decide) rfl (fun r0 => ?_)
    refine J_iast jw hj rfl (Or.inl rfl) (fun _ => ?_)
    refine J_cst 22 jw hj rfl rfl rfl ?_
    exact J_ret rfl (Or.inl rfl) (fun aw hR => by show _ ∧ _; unfold f_X12_puts; rw [if_neg h0]; exact ⟨rfl, hR⟩)
  · refine J_cst 10 jw hj rfl rfl rfl ?_
    exact J_ret rfl (Or.inl rfl) (fun aw hR => by show _ ∧ _; unfold f_X12_puts; rw [if_pos h0]; exact ⟨rfl, hR⟩)
theorem rf_X12_puts (a1 : Int) (a2 : Int) (a3 : Int) (H : hH) (hr : RM H.2.2.1) : RM (f_X12_puts a1 a2 a3 H).2.2.2.1 := by
  unfold f_X12_puts
  by_cases q1 : ((f_X12_takes a2 a3 H).1) = 0
  · rw [if_pos q1]
    exact (rf_X12_takes a2 a3 H hr)
  · rw [if_neg q1]
    exact (rf_X12_takes a2 a3 H hr)
def f_X12_fresh (a1 : Int) (H : hH) : Int × hH :=
  if f_X12_isName H = 0 then
    ((f_X12_bad 1 H).1, (f_X12_bad 1 H).2)
  else
    if f_X12_find 20 (H.1 32 0) H < 0 then
      if f_X12_find 24 (H.1 32 1) H < 0 then
        if f_X12_find 27 (H.1 32 2) H < 0 then
          if f_X12_find 37 (H.1 32 3) H < 0 then
            (1, (f_X12_next (upL H 34 (a1).toNat (H.2.1 29 17))))
          else
            ((f_X12_bad 3 H).1, (f_X12_bad 3 H).2)
        else
          ((f_X12_bad 3 H).1, (f_X12_bad 3 H).2)
      else
        ((f_X12_bad 3 H).1, (f_X12_bad 3 H).2)
    else
      ((f_X12_bad 3 H).1, (f_X12_bad 3 H).2)
set_option maxHeartbeats 16000000 in
set_option maxRecDepth 100000 in
theorem sp_X12_fresh {g : Nat → Nat} (a1 : Int) (H : hH) (hr : RM H.2.2.1) : SP g rvTab rvInf rvRet 316 rvMth 163 [rf (g 29), pt a1] H (some (pt (f_X12_fresh a1 H).1)) (f_X12_fresh a1 H).2 := by
  have hj : 163 < 316 := by decide
  refine J_SP hj (Nat.le_of_ble_eq_true rfl) ?_
  show J g rvTab rvInf rvRet 316 rvMth 163 _ 0 [rf (g 29), pt a1] [] H
  refine J_ld 1 jw hj rfl rfl rfl rfl ?_
  refine J_callV1 jw rfl (Or.inl ⟨_, rfl⟩) rfl rfl (sp_X12_isName (g := g) H hr) ?_
  refine J_ifc (t := 13) jw hj rfl (evn rfl) rfl (fun (h0 : ¬ f_X12_isName H = 0) => ?_) (fun (h0 : f_X12_isName H = 0) => ?_)
  · refine J_ld 14 jw hj rfl rfl rfl rfl ?_
    refine J_cst 16 jw hj rfl rfl rfl ?_
    refine J_ld 17 jw hj rfl rfl rfl rfl ?_
    refine J_gfR (k := 32) jw hj rfl (evn rfl) (by decide) (by decide) (RMa hr rfl) ?_
    refine J_cst 21 jw hj rfl rfl rfl ?_
    refine J_iald jw hj rfl (Or.inl rfl) (fun z0 r0 => ?_)
    refine J_callV1 jw rfl (Or.inl ⟨_, rfl⟩) rfl rfl (sp_X12_find (g := g) 20 (H.1 32 0) H hr) ?_
    refine J_ifc (t := 73) jw hj rfl (evn rfl) rfl (fun (h1 : ¬ f_X12_find 20 (H.1 32 0) H < 0) => ?_) (fun (h1 : f_X12_find 20 (H.1 32 0) H < 0) => ?_)
    · refine J_ld 74 jw hj rfl rfl rfl rfl ?_
      refine J_cst 75 jw hj rfl rfl rfl ?_
      refine J_callV1 jw rfl (Or.inl ⟨_, rfl⟩) rfl rfl (sp_X12_bad (g := g) 3 H) ?_
      exact J_ret rfl (Or.inl rfl) (fun aw hR => by show _ ∧ _; unfold f_X12_fresh; rw [if_neg h0, if_neg h1]; exact ⟨rfl, hR⟩)
    · refine J_ld 29 jw hj rfl rfl rfl rfl ?_
      refine J_cst 31 jw hj rfl rfl rfl ?_
      refine J_ld 32 jw hj rfl rfl rfl rfl ?_
      refine J_gfR (k := 32) jw hj rfl (evn rfl) (by decide) (by decide) (RMa hr rfl) ?_
      refine J_cst 36 jw hj rfl rfl rfl ?_
      refine J_iald jw hj rfl (Or.inl rfl) (fun z1 r1 => ?_)
      refine J_callV1 jw rfl (Or.inl ⟨_, rfl⟩) rfl rfl (sp_X12_find (g := g) 24 (H.1 32 1) H hr) ?_
      refine J_ifc (t := 73) jw hj rfl (evn rfl) rfl (fun (h2 : ¬ f_X12_find 24 (H.1 32 1) H < 0) => ?_) (fun (h2 : f_X12_find 24 (H.1 32 1) H < 0) => ?_)
      · refine J_ld 74 jw hj rfl rfl rfl rfl ?_
        refine J_cst 75 jw hj rfl rfl rfl ?_
        refine J_callV1 jw rfl (Or.inl ⟨_, rfl⟩) rfl rfl (sp_X12_bad (g := g) 3 H) ?_
        exact J_ret rfl (Or.inl rfl) (fun aw hR => by show _ ∧ _; unfold f_X12_fresh; rw [if_neg h0, if_pos h1, if_neg h2]; exact ⟨rfl, hR⟩)
      · refine J_ld 44 jw hj rfl rfl rfl rfl ?_
        refine J_cst 46 jw hj rfl rfl rfl ?_
        refine J_ld 47 jw hj rfl rfl rfl rfl ?_
        refine J_gfR (k := 32) jw hj rfl (evn rfl) (by decide) (by decide) (RMa hr rfl) ?_
        refine J_cst 51 jw hj rfl rfl rfl ?_
        refine J_iald jw hj rfl (Or.inl rfl) (fun z2 r2 => ?_)
        refine J_callV1 jw rfl (Or.inl ⟨_, rfl⟩) rfl rfl (sp_X12_find (g := g) 27 (H.1 32 2) H hr) ?_
        refine J_ifc (t := 73) jw hj rfl (evn rfl) rfl (fun (h3 : ¬ f_X12_find 27 (H.1 32 2) H < 0) => ?_) (fun (h3 : f_X12_find 27 (H.1 32 2) H < 0) => ?_)
        · refine J_ld 74 jw hj rfl rfl rfl rfl ?_
          refine J_cst 75 jw hj rfl rfl rfl ?_
          refine J_callV1 jw rfl (Or.inl ⟨_, rfl⟩) rfl rfl (sp_X12_bad (g := g) 3 H) ?_
          exact J_ret rfl (Or.inl rfl) (fun aw hR => by show _ ∧ _; unfold f_X12_fresh; rw [if_neg h0, if_pos h1, if_pos h2, if_neg h3]; exact ⟨rfl, hR⟩)
        · refine J_ld 59 jw hj rfl rfl rfl rfl ?_
          refine J_cst 61 jw hj rfl rfl rfl ?_
          refine J_ld 62 jw hj rfl rfl rfl rfl ?_
          refine J_gfR (k := 32) jw hj rfl (evn rfl) (by decide) (by decide) (RMa hr rfl) ?_
          refine J_cst 66 jw hj rfl rfl rfl ?_
          refine J_iald jw hj rfl (Or.inl rfl) (fun z3 r3 => ?_)
          refine J_callV1 jw rfl (Or.inl ⟨_, rfl⟩) rfl rfl (sp_X12_find (g := g) 37 (H.1 32 3) H hr) ?_
          refine J_ifc (t := 79) jw hj rfl (evn rfl) rfl (fun (h4 : f_X12_find 37 (H.1 32 3) H < 0) => ?_) (fun (h4 : ¬ f_X12_find 37 (H.1 32 3) H < 0) => ?_)
          · refine J_ld 80 jw hj rfl rfl rfl rfl ?_
            refine J_gfR (k := 34) jw hj rfl (evn rfl) (by decide) (by decide) (RMa hr rfl) ?_
            refine J_ld 84 jw hj rfl rfl rfl rfl ?_
            refine J_ld 85 jw hj rfl rfl rfl rfl ?_
            refine J_gfL jw hj rfl (evn rfl) (by decide) rfl ?_
            refine J_last jw hj rfl (evn rfl) (fun _ => ?_)
            refine J_ld 90 jw hj rfl rfl rfl rfl ?_
            refine J_callV0 jw rfl (Or.inl ⟨_, rfl⟩) rfl rfl (sp_X12_next (g := g) (upL H 34 (a1).toNat (H.2.1 29 17)) hr) ?_
            refine J_cst 94 jw hj rfl rfl rfl ?_
            exact J_ret rfl (Or.inl rfl) (fun aw hR => by show _ ∧ _; unfold f_X12_fresh; rw [if_neg h0, if_pos h1, if_pos h2, if_pos h3, if_pos h4]; exact ⟨rfl, hR⟩)
          · refine J_ld 74 jw hj rfl rfl rfl rfl ?_
            refine J_cst 75 jw hj rfl rfl rfl ?_
            refine J_callV1 jw rfl (Or.inl ⟨_, rfl⟩) rfl rfl (sp_X12_bad (g := g) 3 H) ?_
            exact J_ret rfl (Or.inl rfl) (fun aw hR => by show _ ∧ _; unfold f_X12_fresh; rw [if_neg h0, if_pos h1, if_pos h2, if_pos h3, if_neg h4]; exact ⟨rfl, hR⟩)
  · refine J_ld 8 jw hj rfl rfl rfl rfl ?_
    refine J_cst 9 jw hj rfl rfl rfl ?_
    refine J_callV1 jw rfl (Or.inl ⟨_, rfl⟩) rfl rfl (sp_X12_bad (g := g) 1 H) ?_
    exact J_ret rfl (Or.inl rfl) (fun aw hR => by show _ ∧ _; unfold f_X12_fresh; rw [if_pos h0]; exact ⟨rfl, hR⟩)
theorem rf_X12_fresh (a1 : Int) (H : hH) (hr : RM H.2.2.1) : RM (f_X12_fresh a1 H).2.2.2.1 := by
  unfold f_X12_fresh
  by_cases q1 : f_X12_isName H = 0
  · rw [if_pos q1]
    exact (rf_X12_bad 1 H hr)
  · rw [if_neg q1]
    by_cases q2 : f_X12_find 20 (H.1 32 0) H < 0
    · rw [if_pos q2]
      by_cases q3 : f_X12_find 24 (H.1 32 1) H < 0
      · rw [if_pos q3]
        by_cases q4 : f_X12_find 27 (H.1 32 2) H < 0
        · rw [if_pos q4]
          by_cases q5 : f_X12_find 37 (H.1 32 3) H < 0
          · rw [if_pos q5]
            exact (rf_X12_next (upL H 34 (a1).toNat (H.2.1 29 17)) hr)
          · rw [if_neg q5]
            exact (rf_X12_bad 3 H hr)
        · rw [if_neg q4]
          exact (rf_X12_bad 3 H hr)
      · rw [if_neg q3]
        exact (rf_X12_bad 3 H hr)
    · rw [if_neg q2]
      exact (rf_X12_bad 3 H hr)
def f_X12_looksAt (a1 : Int) (a2 : Int) (H : hH) : Int × hH :=
  if f_X12_isName H = 0 then
    ((f_X12_bad 1 H).1, (f_X12_bad 1 H).2)
  else
    if (f_X12_find a1 a2 H) < 0 then
      if ((f_X12_bad 3 (upI H 29 18 (f_X12_find a1 a2 H))).1) = 0 then
        (0, (f_X12_bad 3 (upI H 29 18 (f_X12_find a1 a2 H))).2)
      else
        (1, (f_X12_bad 3 (upI H 29 18 (f_X12_find a1 a2 H))).2)
    else
      (1, (upI H 29 18 (f_X12_find a1 a2 H)))
set_option maxHeartbeats 16000000 in
set_option maxRecDepth 100000 in
theorem sp_X12_looksAt {g : Nat → Nat} (a1 : Int) (a2 : Int) (H : hH) (hr : RM H.2.2.1) : SP g rvTab rvInf rvRet 316 rvMth 22 [rf (g 29), pt a1, pt a2] H (some (pt (f_X12_looksAt a1 a2 H).1)) (f_X12_looksAt a1 a2 H).2 := by
  have hj : 22 < 316 := by decide
  refine J_SP hj (Nat.le_of_ble_eq_true rfl) ?_
  show J g rvTab rvInf rvRet 316 rvMth 22 _ 0 [rf (g 29), pt a1, pt a2] [] H
  refine J_ld 1 jw hj rfl rfl rfl rfl ?_
  refine J_callV1 jw rfl (Or.inl ⟨_, rfl⟩) rfl rfl (sp_X12_isName (g := g) H hr) ?_
  refine J_ifc (t := 13) jw hj rfl (evn rfl) rfl (fun (h0 : ¬ f_X12_isName H = 0) => ?_) (fun (h0 : f_X12_isName H = 0) => ?_)
  · refine J_ld 14 jw hj rfl rfl rfl rfl ?_
    refine J_ld 15 jw hj rfl rfl rfl rfl ?_
    refine J_ld 16 jw hj rfl rfl rfl rfl ?_
    refine J_ld 17 jw hj rfl rfl rfl rfl ?_
    refine J_callV1 jw rfl (Or.inl ⟨_, rfl⟩) rfl rfl (sp_X12_find (g := g) a1 a2 H hr) ?_
    refine J_pfI jw hj rfl (evn rfl) rfl ?_
    refine J_ld 24 jw hj rfl rfl rfl rfl ?_
    refine J_gfI jw hj rfl (evn rfl) (by decide) rfl (fun r0 => ?_)
    refine J_ifc (t := 38) jw hj rfl (evn rfl) rfl (fun (h1 : ¬ (f_X12_find a1 a2 H) < 0) => ?_) (fun (h1 : (f_X12_find a1 a2 H) < 0) => ?_)
    · refine J_cst 39 jw hj rfl rfl rfl ?_
      refine J_goto 43 jw hj rfl rfl ?_
      exact J_ret rfl (Or.inl rfl) (fun aw hR => by show _ ∧ _; unfold f_X12_looksAt; rw [if_neg h0, if_neg h1]; exact ⟨rfl, hR⟩)
    · refine J_ld 31 jw hj rfl rfl rfl rfl ?_
      refine J_cst 32 jw hj rfl rfl rfl ?_
      refine J_callV1 jw rfl (Or.inl ⟨_, rfl⟩) rfl rfl (sp_X12_bad (g := g) 3 (upI H 29 18 (f_X12_find a1 a2 H))) ?_
      refine J_ifc (t := 42) jw hj rfl (evn rfl) rfl (fun (h2 : ((f_X12_bad 3 (upI H 29 18 (f_X12_find a1 a2 H))).1) = 0) => ?_) (fun (h2 : ¬ ((f_X12_bad 3 (upI H 29 18 (f_X12_find a1 a2 H))).1) = 0) => ?_)
      · refine J_cst 43 jw hj rfl rfl rfl ?_
        exact J_ret rfl (Or.inl rfl) (fun aw hR => by show _ ∧ _; unfold f_X12_looksAt; rw [if_neg h0, if_pos h1, if_pos h2]; exact ⟨rfl, hR⟩)
      · refine J_cst 39 jw hj rfl rfl rfl ?_
        refine J_goto 43 jw hj rfl rfl ?_
        exact J_ret rfl (Or.inl rfl) (fun aw hR => by show _ ∧ _; unfold f_X12_looksAt; rw [if_neg h0, if_pos h1, if_neg h2]; exact ⟨rfl, hR⟩)
  · refine J_ld 8 jw hj rfl rfl rfl rfl ?_
    refine J_cst 9 jw hj rfl rfl rfl ?_
    refine J_callV1 jw rfl (Or.inl ⟨_, rfl⟩) rfl rfl (sp_X12_bad (g := g) 1 H) ?_
    exact J_ret rfl (Or.inl rfl) (fun aw hR => by show _ ∧ _; unfold f_X12_looksAt; rw [if_pos h0]; exact ⟨rfl, hR⟩)
theorem rf_X12_looksAt (a1 : Int) (a2 : Int) (H : hH) (hr : RM H.2.2.1) : RM (f_X12_looksAt a1 a2 H).2.2.2.1 := by
  unfold f_X12_looksAt
  by_cases q1 : f_X12_isName H = 0
  · rw [if_pos q1]
    exact (rf_X12_bad 1 H hr)
  · rw [if_neg q1]
    by_cases q2 : (f_X12_find a1 a2 H) < 0
    · rw [if_pos q2]
      by_cases q3 : ((f_X12_bad 3 (upI H 29 18 (f_X12_find a1 a2 H))).1) = 0
      · rw [if_pos q3]
        exact (rf_X12_bad 3 (upI H 29 18 (f_X12_find a1 a2 H)) hr)
      · rw [if_neg q3]
        exact (rf_X12_bad 3 (upI H 29 18 (f_X12_find a1 a2 H)) hr)
    · rw [if_neg q2]
      exact hr
def f_X12_takesName (a1 : Int) (a2 : Int) (H : hH) : Int × hH :=
  if ((f_X12_looksAt a1 a2 H).1) = 0 then
    (0, (f_X12_looksAt a1 a2 H).2)
  else
    (1, (f_X12_next (f_X12_looksAt a1 a2 H).2))
set_option maxHeartbeats 16000000 in
set_option maxRecDepth 100000 in
theorem sp_X12_takesName {g : Nat → Nat} (a1 : Int) (a2 : Int) (H : hH) (hr : RM H.2.2.1) : SP g rvTab rvInf rvRet 316 rvMth 157 [rf (g 29), pt a1, pt a2] H (some (pt (f_X12_takesName a1 a2 H).1)) (f_X12_takesName a1 a2 H).2 := by
  have hj : 157 < 316 := by decide
  refine J_SP hj (Nat.le_of_ble_eq_true rfl) ?_
  show J g rvTab rvInf rvRet 316 rvMth 157 _ 0 [rf (g 29), pt a1, pt a2] [] H
  refine J_ld 1 jw hj rfl rfl rfl rfl ?_
  refine J_ld 2 jw hj rfl rfl rfl rfl ?_
  refine J_ld 3 jw hj rfl rfl rfl rfl ?_
  refine J_callV1 jw rfl (Or.inl ⟨_, rfl⟩) rfl rfl (sp_X12_looksAt (g := g) a1 a2 H hr) ?_
  refine J_ifc (t := 11) jw hj rfl (evn rfl) rfl (fun (h0 : ¬ ((f_X12_looksAt a1 a2 H).1) = 0) => ?_) (fun (h0 : ((f_X12_looksAt a1 a2 H).1) = 0) => ?_)
  · refine J_ld 12 jw hj rfl rfl rfl rfl ?_
    refine J_callV0 jw rfl (Or.inl ⟨_, rfl⟩) rfl rfl (sp_X12_next (g := g) (f_X12_looksAt a1 a2 H).2 (rf_X12_looksAt a1 a2 H hr)) ?_
    refine J_cst 16 jw hj rfl rfl rfl ?_
    exact J_ret rfl (Or.inl rfl) (fun aw hR => by show _ ∧ _; unfold f_X12_takesName; rw [if_neg h0]; exact ⟨rfl, hR⟩)
  · refine J_cst 10 jw hj rfl rfl rfl ?_
    exact J_ret rfl (Or.inl rfl) (fun aw hR => by show _ ∧ _; unfold f_X12_takesName; rw [if_pos h0]; exact ⟨rfl, hR⟩)
theorem rf_X12_takesName (a1 : Int) (a2 : Int) (H : hH) (hr : RM H.2.2.1) : RM (f_X12_takesName a1 a2 H).2.2.2.1 := by
  unfold f_X12_takesName
  by_cases q1 : ((f_X12_looksAt a1 a2 H).1) = 0
  · rw [if_pos q1]
    exact (rf_X12_looksAt a1 a2 H hr)
  · rw [if_neg q1]
    exact (rf_X12_next (f_X12_looksAt a1 a2 H).2 (rf_X12_looksAt a1 a2 H hr))
def f_X12_readName (a1 : Int) (a2 : Int) (a3 : Int) (H : hH) : Int × hH :=
  if H.1 32 (a1).toNat = a2 then
    ((f_X12_bad 4 H).1, (f_X12_bad 4 H).2)
  else
    if ((f_X12_fresh (iAdd a3 ((f_X12_next H).1 32 (a1).toNat)) (f_X12_next H)).1) = 0 then
      (0, (f_X12_fresh (iAdd a3 ((f_X12_next H).1 32 (a1).toNat)) (f_X12_next H)).2)
    else
      (1, (upI (f_X12_fresh (iAdd a3 ((f_X12_next H).1 32 (a1).toNat)) (f_X12_next H)).2 32 (a1).toNat (iAdd ((f_X12_fresh (iAdd a3 ((f_X12_next H).1 32 (a1).toNat)) (f_X12_next H)).2.1 32 (a1).toNat) 1)))
set_option maxHeartbeats 16000000 in
set_option maxRecDepth 100000 in
theorem sp_X12_readName {g : Nat → Nat} (a1 : Int) (a2 : Int) (a3 : Int) (H : hH) (hr : RM H.2.2.1) : SP g rvTab rvInf rvRet 316 rvMth 165 [rf (g 29), pt a1, pt a2, pt a3] H (some (pt (f_X12_readName a1 a2 a3 H).1)) (f_X12_readName a1 a2 a3 H).2 := by
  have hj : 165 < 316 := by decide
  refine J_SP hj (Nat.le_of_ble_eq_true rfl) ?_
  show J g rvTab rvInf rvRet 316 rvMth 165 _ 0 [rf (g 29), pt a1, pt a2, pt a3] [] H
  refine J_ld 1 jw hj rfl rfl rfl rfl ?_
  refine J_gfR (k := 32) jw hj rfl (evn rfl) (by decide) (by decide) (RMa hr rfl) ?_
  refine J_ld 5 jw hj rfl rfl rfl rfl ?_
  refine J_iald jw hj rfl (Or.inl rfl) (fun z0 r0 => ?_)
  refine J_ld 7 jw hj rfl rfl rfl rfl ?_
  refine J_icmp (t := 16) jw hj rfl (evn rfl) rfl (fun (h0 : ¬ H.1 32 (a1).toNat = a2) => ?_) (fun (h0 : H.1 32 (a1).toNat = a2) => ?_)
  · refine J_ld 17 jw hj rfl rfl rfl rfl ?_
    refine J_callV0 jw rfl (Or.inl ⟨_, rfl⟩) rfl rfl (sp_X12_next (g := g) H hr) ?_
    refine J_ld 21 jw hj rfl rfl rfl rfl ?_
    refine J_ld 22 jw hj rfl rfl rfl rfl ?_
    refine J_ld 23 jw hj rfl rfl rfl rfl ?_
    refine J_gfR (k := 32) jw hj rfl (evn rfl) (by decide) (by decide) (RMa (rf_X12_next H hr) rfl) ?_
    refine J_ld 27 jw hj rfl rfl rfl rfl ?_
    refine J_iald jw hj rfl (Or.inl rfl) (fun z1 r1 => ?_)
    refine J_bin jw hj rfl rfl ?_
    refine J_callV1 jw rfl (Or.inl ⟨_, rfl⟩) rfl rfl (sp_X12_fresh (g := g) (iAdd a3 ((f_X12_next H).1 32 (a1).toNat)) (f_X12_next H) (rf_X12_next H hr)) ?_
    refine J_ifc (t := 37) jw hj rfl (evn rfl) rfl (fun (h1 : ¬ ((f_X12_fresh (iAdd a3 ((f_X12_next H).1 32 (a1).toNat)) (f_X12_next H)).1) = 0) => ?_) (fun (h1 : ((f_X12_fresh (iAdd a3 ((f_X12_next H).1 32 (a1).toNat)) (f_X12_next H)).1) = 0) => ?_)
    · refine J_ld 38 jw hj rfl rfl rfl rfl ?_
      refine J_gfR (k := 32) jw hj rfl (evn rfl) (by decide) (by decide) (RMa (rf_X12_fresh (iAdd a3 ((f_X12_next H).1 32 (a1).toNat)) (f_X12_next H) (rf_X12_next H hr)) rfl) ?_
      refine J_ld 42 jw hj rfl rfl rfl rfl ?_
      refine J_dup2 43 jw hj rfl rfl ?_
      refine J_iald jw hj rfl (Or.inl rfl) (fun z2 r2 => ?_)
      refine J_cst 45 jw hj rfl rfl rfl ?_
      refine J_bin jw hj rfl rfl ?_
      refine J_iast jw hj rfl (Or.inl rfl) (fun _ => ?_)
      refine J_cst 48 jw hj rfl rfl rfl ?_
      exact J_ret rfl (Or.inl rfl) (fun aw hR => by show _ ∧ _; unfold f_X12_readName; rw [if_neg h0, if_neg h1]; exact ⟨rfl, hR⟩)
    · refine J_cst 36 jw hj rfl rfl rfl ?_
      exact J_ret rfl (Or.inl rfl) (fun aw hR => by show _ ∧ _; unfold f_X12_readName; rw [if_neg h0, if_pos h1]; exact ⟨rfl, hR⟩)
  · refine J_ld 11 jw hj rfl rfl rfl rfl ?_
    refine J_cst 12 jw hj rfl rfl rfl ?_
    refine J_callV1 jw rfl (Or.inl ⟨_, rfl⟩) rfl rfl (sp_X12_bad (g := g) 4 H) ?_
    exact J_ret rfl (Or.inl rfl) (fun aw hR => by show _ ∧ _; unfold f_X12_readName; rw [if_pos h0]; exact ⟨rfl, hR⟩)
theorem rf_X12_readName (a1 : Int) (a2 : Int) (a3 : Int) (H : hH) (hr : RM H.2.2.1) : RM (f_X12_readName a1 a2 a3 H).2.2.2.1 := by
  unfold f_X12_readName
  by_cases q1 : H.1 32 (a1).toNat = a2
  · rw [if_pos q1]
    exact (rf_X12_bad 4 H hr)
  · rw [if_neg q1]
    by_cases q2 : ((f_X12_fresh (iAdd a3 ((f_X12_next H).1 32 (a1).toNat)) (f_X12_next H)).1) = 0
    · rw [if_pos q2]
      exact (rf_X12_fresh (iAdd a3 ((f_X12_next H).1 32 (a1).toNat)) (f_X12_next H) (rf_X12_next H hr))
    · rw [if_neg q2]
      exact (rf_X12_fresh (iAdd a3 ((f_X12_next H).1 32 (a1).toNat)) (f_X12_next H) (rf_X12_next H hr))
def f_X12_readPerson  (H : hH) : Int × hH :=
  if H.1 32 2 = 10 then
    ((f_X12_bad 4 H).1, (f_X12_bad 4 H).2)
  else
    if ((f_X12_fresh (iAdd 27 (H.1 32 2)) (f_X12_next H)).1) = 0 then
      (0, (f_X12_fresh (iAdd 27 (H.1 32 2)) (f_X12_next H)).2)
    else
      if ((f_X12_takesName 20 ((f_X12_fresh (iAdd 27 (H.1 32 2)) (f_X12_next H)).2.1 32 0) (f_X12_fresh (iAdd 27 (H.1 32 2)) (f_X12_next H)).2).1) = 0 then
        (0, (f_X12_takesName 20 ((f_X12_fresh (iAdd 27 (H.1 32 2)) (f_X12_next H)).2.1 32 0) (f_X12_fresh (iAdd 27 (H.1 32 2)) (f_X12_next H)).2).2)
      else
        if f_X12_isWord 7168366 (f_X12_takesName 20 ((f_X12_fresh (iAdd 27 (H.1 32 2)) (f_X12_next H)).2.1 32 0) (f_X12_fresh (iAdd 27 (H.1 32 2)) (f_X12_next H)).2).2 = 0 then
          if f_X12_isWord 512970547566 (f_X12_takesName 20 ((f_X12_fresh (iAdd 27 (H.1 32 2)) (f_X12_next H)).2.1 32 0) (f_X12_fresh (iAdd 27 (H.1 32 2)) (f_X12_next H)).2).2 = 0 then
            ((f_X12_bad 1 (upI (f_X12_takesName 20 ((f_X12_fresh (iAdd 27 (H.1 32 2)) (f_X12_next H)).2.1 32 0) (f_X12_fresh (iAdd 27 (H.1 32 2)) (f_X12_next H)).2).2 32 (iAdd 4 (H.1 32 2)).toNat ((f_X12_takesName 20 ((f_X12_fresh (iAdd 27 (H.1 32 2)) (f_X12_next H)).2.1 32 0) (f_X12_fresh (iAdd 27 (H.1 32 2)) (f_X12_next H)).2).2.1 29 18))).1, (f_X12_bad 1 (upI (f_X12_takesName 20 ((f_X12_fresh (iAdd 27 (H.1 32 2)) (f_X12_next H)).2.1 32 0) (f_X12_fresh (iAdd 27 (H.1 32 2)) (f_X12_next H)).2).2 32 (iAdd 4 (H.1 32 2)).toNat ((f_X12_takesName 20 ((f_X12_fresh (iAdd 27 (H.1 32 2)) (f_X12_next H)).2.1 32 0) (f_X12_fresh (iAdd 27 (H.1 32 2)) (f_X12_next H)).2).2.1 29 18))).2)
          else
            if f_X12_isWord 512970547566 (f_X12_takesName 20 ((f_X12_fresh (iAdd 27 (H.1 32 2)) (f_X12_next H)).2.1 32 0) (f_X12_fresh (iAdd 27 (H.1 32 2)) (f_X12_next H)).2).2 = 0 then
              if ((f_X12_puts (iAdd 24 (H.1 32 2)) 0 20 (f_X12_next (upI (upI (f_X12_takesName 20 ((f_X12_fresh (iAdd 27 (H.1 32 2)) (f_X12_next H)).2.1 32 0) (f_X12_fresh (iAdd 27 (H.1 32 2)) (f_X12_next H)).2).2 32 (iAdd 4 (H.1 32 2)).toNat ((f_X12_takesName 20 ((f_X12_fresh (iAdd 27 (H.1 32 2)) (f_X12_next H)).2.1 32 0) (f_X12_fresh (iAdd 27 (H.1 32 2)) (f_X12_next H)).2).2.1 29 18)) 32 (iAdd 14 (H.1 32 2)).toNat 0))).1) = 0 then
                (0, (f_X12_puts (iAdd 24 (H.1 32 2)) 0 20 (f_X12_next (upI (upI (f_X12_takesName 20 ((f_X12_fresh (iAdd 27 (H.1 32 2)) (f_X12_next H)).2.1 32 0) (f_X12_fresh (iAdd 27 (H.1 32 2)) (f_X12_next H)).2).2 32 (iAdd 4 (H.1 32 2)).toNat ((f_X12_takesName 20 ((f_X12_fresh (iAdd 27 (H.1 32 2)) (f_X12_next H)).2.1 32 0) (f_X12_fresh (iAdd 27 (H.1 32 2)) (f_X12_next H)).2).2.1 29 18)) 32 (iAdd 14 (H.1 32 2)).toNat 0))).2)
              else
                if f_X12_isWord 1635213689 (f_X12_puts (iAdd 24 (H.1 32 2)) 0 20 (f_X12_next (upI (upI (f_X12_takesName 20 ((f_X12_fresh (iAdd 27 (H.1 32 2)) (f_X12_next H)).2.1 32 0) (f_X12_fresh (iAdd 27 (H.1 32 2)) (f_X12_next H)).2).2 32 (iAdd 4 (H.1 32 2)).toNat ((f_X12_takesName 20 ((f_X12_fresh (iAdd 27 (H.1 32 2)) (f_X12_next H)).2.1 32 0) (f_X12_fresh (iAdd 27 (H.1 32 2)) (f_X12_next H)).2).2.1 29 18)) 32 (iAdd 14 (H.1 32 2)).toNat 0))).2 = 0 then
                  (1, (upI (f_X12_puts (iAdd 24 (H.1 32 2)) 0 20 (f_X12_next (upI (upI (f_X12_takesName 20 ((f_X12_fresh (iAdd 27 (H.1 32 2)) (f_X12_next H)).2.1 32 0) (f_X12_fresh (iAdd 27 (H.1 32 2)) (f_X12_next H)).2).2 32 (iAdd 4 (H.1 32 2)).toNat ((f_X12_takesName 20 ((f_X12_fresh (iAdd 27 (H.1 32 2)) (f_X12_next H)).2.1 32 0) (f_X12_fresh (iAdd 27 (H.1 32 2)) (f_X12_next H)).2).2.1 29 18)) 32 (iAdd 14 (H.1 32 2)).toNat 0))).2 32 2 (iAdd ((f_X12_puts (iAdd 24 (H.1 32 2)) 0 20 (f_X12_next (upI (upI (f_X12_takesName 20 ((f_X12_fresh (iAdd 27 (H.1 32 2)) (f_X12_next H)).2.1 32 0) (f_X12_fresh (iAdd 27 (H.1 32 2)) (f_X12_next H)).2).2 32 (iAdd 4 (H.1 32 2)).toNat ((f_X12_takesName 20 ((f_X12_fresh (iAdd 27 (H.1 32 2)) (f_X12_next H)).2.1 32 0) (f_X12_fresh (iAdd 27 (H.1 32 2)) (f_X12_next H)).2).2.1 29 18)) 32 (iAdd 14 (H.1 32 2)).toNat 0))).2.1 32 2) 1)))
                else
                  (1, (upI (f_X12_next (upI (f_X12_puts (iAdd 24 (H.1 32 2)) 0 20 (f_X12_next (upI (upI (f_X12_takesName 20 ((f_X12_fresh (iAdd 27 (H.1 32 2)) (f_X12_next H)).2.1 32 0) (f_X12_fresh (iAdd 27 (H.1 32 2)) (f_X12_next H)).2).2 32 (iAdd 4 (H.1 32 2)).toNat ((f_X12_takesName 20 ((f_X12_fresh (iAdd 27 (H.1 32 2)) (f_X12_next H)).2.1 32 0) (f_X12_fresh (iAdd 27 (H.1 32 2)) (f_X12_next H)).2).2.1 29 18)) 32 (iAdd 14 (H.1 32 2)).toNat 0))).2 32 34 (iOr ((f_X12_puts (iAdd 24 (H.1 32 2)) 0 20 (f_X12_next (upI (upI (f_X12_takesName 20 ((f_X12_fresh (iAdd 27 (H.1 32 2)) (f_X12_next H)).2.1 32 0) (f_X12_fresh (iAdd 27 (H.1 32 2)) (f_X12_next H)).2).2 32 (iAdd 4 (H.1 32 2)).toNat ((f_X12_takesName 20 ((f_X12_fresh (iAdd 27 (H.1 32 2)) (f_X12_next H)).2.1 32 0) (f_X12_fresh (iAdd 27 (H.1 32 2)) (f_X12_next H)).2).2.1 29 18)) 32 (iAdd 14 (H.1 32 2)).toNat 0))).2.1 32 34) (iShl 1 (H.1 32 2))))) 32 2 (iAdd ((f_X12_next (upI (f_X12_puts (iAdd 24 (H.1 32 2)) 0 20 (f_X12_next (upI (upI (f_X12_takesName 20 ((f_X12_fresh (iAdd 27 (H.1 32 2)) (f_X12_next H)).2.1 32 0) (f_X12_fresh (iAdd 27 (H.1 32 2)) (f_X12_next H)).2).2 32 (iAdd 4 (H.1 32 2)).toNat ((f_X12_takesName 20 ((f_X12_fresh (iAdd 27 (H.1 32 2)) (f_X12_next H)).2.1 32 0) (f_X12_fresh (iAdd 27 (H.1 32 2)) (f_X12_next H)).2).2.1 29 18)) 32 (iAdd 14 (H.1 32 2)).toNat 0))).2 32 34 (iOr ((f_X12_puts (iAdd 24 (H.1 32 2)) 0 20 (f_X12_next (upI (upI (f_X12_takesName 20 ((f_X12_fresh (iAdd 27 (H.1 32 2)) (f_X12_next H)).2.1 32 0) (f_X12_fresh (iAdd 27 (H.1 32 2)) (f_X12_next H)).2).2 32 (iAdd 4 (H.1 32 2)).toNat ((f_X12_takesName 20 ((f_X12_fresh (iAdd 27 (H.1 32 2)) (f_X12_next H)).2.1 32 0) (f_X12_fresh (iAdd 27 (H.1 32 2)) (f_X12_next H)).2).2.1 29 18)) 32 (iAdd 14 (H.1 32 2)).toNat 0))).2.1 32 34) (iShl 1 (H.1 32 2))))).1 32 2) 1)))
            else
              if ((f_X12_puts (iAdd 24 (H.1 32 2)) 0 20 (f_X12_next (upI (upI (f_X12_takesName 20 ((f_X12_fresh (iAdd 27 (H.1 32 2)) (f_X12_next H)).2.1 32 0) (f_X12_fresh (iAdd 27 (H.1 32 2)) (f_X12_next H)).2).2 32 (iAdd 4 (H.1 32 2)).toNat ((f_X12_takesName 20 ((f_X12_fresh (iAdd 27 (H.1 32 2)) (f_X12_next H)).2.1 32 0) (f_X12_fresh (iAdd 27 (H.1 32 2)) (f_X12_next H)).2).2.1 29 18)) 32 (iAdd 14 (H.1 32 2)).toNat 1))).1) = 0 then
                (0, (f_X12_puts (iAdd 24 (H.1 32 2)) 0 20 (f_X12_next (upI (upI (f_X12_takesName 20 ((f_X12_fresh (iAdd 27 (H.1 32 2)) (f_X12_next H)).2.1 32 0) (f_X12_fresh (iAdd 27 (H.1 32 2)) (f_X12_next H)).2).2 32 (iAdd 4 (H.1 32 2)).toNat ((f_X12_takesName 20 ((f_X12_fresh (iAdd 27 (H.1 32 2)) (f_X12_next H)).2.1 32 0) (f_X12_fresh (iAdd 27 (H.1 32 2)) (f_X12_next H)).2).2.1 29 18)) 32 (iAdd 14 (H.1 32 2)).toNat 1))).2)
              else
                if f_X12_isWord 1635213689 (f_X12_puts (iAdd 24 (H.1 32 2)) 0 20 (f_X12_next (upI (upI (f_X12_takesName 20 ((f_X12_fresh (iAdd 27 (H.1 32 2)) (f_X12_next H)).2.1 32 0) (f_X12_fresh (iAdd 27 (H.1 32 2)) (f_X12_next H)).2).2 32 (iAdd 4 (H.1 32 2)).toNat ((f_X12_takesName 20 ((f_X12_fresh (iAdd 27 (H.1 32 2)) (f_X12_next H)).2.1 32 0) (f_X12_fresh (iAdd 27 (H.1 32 2)) (f_X12_next H)).2).2.1 29 18)) 32 (iAdd 14 (H.1 32 2)).toNat 1))).2 = 0 then
                  (1, (upI (f_X12_puts (iAdd 24 (H.1 32 2)) 0 20 (f_X12_next (upI (upI (f_X12_takesName 20 ((f_X12_fresh (iAdd 27 (H.1 32 2)) (f_X12_next H)).2.1 32 0) (f_X12_fresh (iAdd 27 (H.1 32 2)) (f_X12_next H)).2).2 32 (iAdd 4 (H.1 32 2)).toNat ((f_X12_takesName 20 ((f_X12_fresh (iAdd 27 (H.1 32 2)) (f_X12_next H)).2.1 32 0) (f_X12_fresh (iAdd 27 (H.1 32 2)) (f_X12_next H)).2).2.1 29 18)) 32 (iAdd 14 (H.1 32 2)).toNat 1))).2 32 2 (iAdd ((f_X12_puts (iAdd 24 (H.1 32 2)) 0 20 (f_X12_next (upI (upI (f_X12_takesName 20 ((f_X12_fresh (iAdd 27 (H.1 32 2)) (f_X12_next H)).2.1 32 0) (f_X12_fresh (iAdd 27 (H.1 32 2)) (f_X12_next H)).2).2 32 (iAdd 4 (H.1 32 2)).toNat ((f_X12_takesName 20 ((f_X12_fresh (iAdd 27 (H.1 32 2)) (f_X12_next H)).2.1 32 0) (f_X12_fresh (iAdd 27 (H.1 32 2)) (f_X12_next H)).2).2.1 29 18)) 32 (iAdd 14 (H.1 32 2)).toNat 1))).2.1 32 2) 1)))
                else
                  (1, (upI (f_X12_next (upI (f_X12_puts (iAdd 24 (H.1 32 2)) 0 20 (f_X12_next (upI (upI (f_X12_takesName 20 ((f_X12_fresh (iAdd 27 (H.1 32 2)) (f_X12_next H)).2.1 32 0) (f_X12_fresh (iAdd 27 (H.1 32 2)) (f_X12_next H)).2).2 32 (iAdd 4 (H.1 32 2)).toNat ((f_X12_takesName 20 ((f_X12_fresh (iAdd 27 (H.1 32 2)) (f_X12_next H)).2.1 32 0) (f_X12_fresh (iAdd 27 (H.1 32 2)) (f_X12_next H)).2).2.1 29 18)) 32 (iAdd 14 (H.1 32 2)).toNat 1))).2 32 34 (iOr ((f_X12_puts (iAdd 24 (H.1 32 2)) 0 20 (f_X12_next (upI (upI (f_X12_takesName 20 ((f_X12_fresh (iAdd 27 (H.1 32 2)) (f_X12_next H)).2.1 32 0) (f_X12_fresh (iAdd 27 (H.1 32 2)) (f_X12_next H)).2).2 32 (iAdd 4 (H.1 32 2)).toNat ((f_X12_takesName 20 ((f_X12_fresh (iAdd 27 (H.1 32 2)) (f_X12_next H)).2.1 32 0) (f_X12_fresh (iAdd 27 (H.1 32 2)) (f_X12_next H)).2).2.1 29 18)) 32 (iAdd 14 (H.1 32 2)).toNat 1))).2.1 32 34) (iShl 1 (H.1 32 2))))) 32 2 (iAdd ((f_X12_next (upI (f_X12_puts (iAdd 24 (H.1 32 2)) 0 20 (f_X12_next (upI (upI (f_X12_takesName 20 ((f_X12_fresh (iAdd 27 (H.1 32 2)) (f_X12_next H)).2.1 32 0) (f_X12_fresh (iAdd 27 (H.1 32 2)) (f_X12_next H)).2).2 32 (iAdd 4 (H.1 32 2)).toNat ((f_X12_takesName 20 ((f_X12_fresh (iAdd 27 (H.1 32 2)) (f_X12_next H)).2.1 32 0) (f_X12_fresh (iAdd 27 (H.1 32 2)) (f_X12_next H)).2).2.1 29 18)) 32 (iAdd 14 (H.1 32 2)).toNat 1))).2 32 34 (iOr ((f_X12_puts (iAdd 24 (H.1 32 2)) 0 20 (f_X12_next (upI (upI (f_X12_takesName 20 ((f_X12_fresh (iAdd 27 (H.1 32 2)) (f_X12_next H)).2.1 32 0) (f_X12_fresh (iAdd 27 (H.1 32 2)) (f_X12_next H)).2).2 32 (iAdd 4 (H.1 32 2)).toNat ((f_X12_takesName 20 ((f_X12_fresh (iAdd 27 (H.1 32 2)) (f_X12_next H)).2.1 32 0) (f_X12_fresh (iAdd 27 (H.1 32 2)) (f_X12_next H)).2).2.1 29 18)) 32 (iAdd 14 (H.1 32 2)).toNat 1))).2.1 32 34) (iShl 1 (H.1 32 2))))).1 32 2) 1)))
        else
          if f_X12_isWord 512970547566 (f_X12_takesName 20 ((f_X12_fresh (iAdd 27 (H.1 32 2)) (f_X12_next H)).2.1 32 0) (f_X12_fresh (iAdd 27 (H.1 32 2)) (f_X12_next H)).2).2 = 0 then
            if ((f_X12_puts (iAdd 24 (H.1 32 2)) 0 20 (f_X12_next (upI (upI (f_X12_takesName 20 ((f_X12_fresh (iAdd 27 (H.1 32 2)) (f_X12_next H)).2.1 32 0) (f_X12_fresh (iAdd 27 (H.1 32 2)) (f_X12_next H)).2).2 32 (iAdd 4 (H.1 32 2)).toNat ((f_X12_takesName 20 ((f_X12_fresh (iAdd 27 (H.1 32 2)) (f_X12_next H)).2.1 32 0) (f_X12_fresh (iAdd 27 (H.1 32 2)) (f_X12_next H)).2).2.1 29 18)) 32 (iAdd 14 (H.1 32 2)).toNat 0))).1) = 0 then
              (0, (f_X12_puts (iAdd 24 (H.1 32 2)) 0 20 (f_X12_next (upI (upI (f_X12_takesName 20 ((f_X12_fresh (iAdd 27 (H.1 32 2)) (f_X12_next H)).2.1 32 0) (f_X12_fresh (iAdd 27 (H.1 32 2)) (f_X12_next H)).2).2 32 (iAdd 4 (H.1 32 2)).toNat ((f_X12_takesName 20 ((f_X12_fresh (iAdd 27 (H.1 32 2)) (f_X12_next H)).2.1 32 0) (f_X12_fresh (iAdd 27 (H.1 32 2)) (f_X12_next H)).2).2.1 29 18)) 32 (iAdd 14 (H.1 32 2)).toNat 0))).2)
            else
              if f_X12_isWord 1635213689 (f_X12_puts (iAdd 24 (H.1 32 2)) 0 20 (f_X12_next (upI (upI (f_X12_takesName 20 ((f_X12_fresh (iAdd 27 (H.1 32 2)) (f_X12_next H)).2.1 32 0) (f_X12_fresh (iAdd 27 (H.1 32 2)) (f_X12_next H)).2).2 32 (iAdd 4 (H.1 32 2)).toNat ((f_X12_takesName 20 ((f_X12_fresh (iAdd 27 (H.1 32 2)) (f_X12_next H)).2.1 32 0) (f_X12_fresh (iAdd 27 (H.1 32 2)) (f_X12_next H)).2).2.1 29 18)) 32 (iAdd 14 (H.1 32 2)).toNat 0))).2 = 0 then
                (1, (upI (f_X12_puts (iAdd 24 (H.1 32 2)) 0 20 (f_X12_next (upI (upI (f_X12_takesName 20 ((f_X12_fresh (iAdd 27 (H.1 32 2)) (f_X12_next H)).2.1 32 0) (f_X12_fresh (iAdd 27 (H.1 32 2)) (f_X12_next H)).2).2 32 (iAdd 4 (H.1 32 2)).toNat ((f_X12_takesName 20 ((f_X12_fresh (iAdd 27 (H.1 32 2)) (f_X12_next H)).2.1 32 0) (f_X12_fresh (iAdd 27 (H.1 32 2)) (f_X12_next H)).2).2.1 29 18)) 32 (iAdd 14 (H.1 32 2)).toNat 0))).2 32 2 (iAdd ((f_X12_puts (iAdd 24 (H.1 32 2)) 0 20 (f_X12_next (upI (upI (f_X12_takesName 20 ((f_X12_fresh (iAdd 27 (H.1 32 2)) (f_X12_next H)).2.1 32 0) (f_X12_fresh (iAdd 27 (H.1 32 2)) (f_X12_next H)).2).2 32 (iAdd 4 (H.1 32 2)).toNat ((f_X12_takesName 20 ((f_X12_fresh (iAdd 27 (H.1 32 2)) (f_X12_next H)).2.1 32 0) (f_X12_fresh (iAdd 27 (H.1 32 2)) (f_X12_next H)).2).2.1 29 18)) 32 (iAdd 14 (H.1 32 2)).toNat 0))).2.1 32 2) 1)))
              else
                (1, (upI (f_X12_next (upI (f_X12_puts (iAdd 24 (H.1 32 2)) 0 20 (f_X12_next (upI (upI (f_X12_takesName 20 ((f_X12_fresh (iAdd 27 (H.1 32 2)) (f_X12_next H)).2.1 32 0) (f_X12_fresh (iAdd 27 (H.1 32 2)) (f_X12_next H)).2).2 32 (iAdd 4 (H.1 32 2)).toNat ((f_X12_takesName 20 ((f_X12_fresh (iAdd 27 (H.1 32 2)) (f_X12_next H)).2.1 32 0) (f_X12_fresh (iAdd 27 (H.1 32 2)) (f_X12_next H)).2).2.1 29 18)) 32 (iAdd 14 (H.1 32 2)).toNat 0))).2 32 34 (iOr ((f_X12_puts (iAdd 24 (H.1 32 2)) 0 20 (f_X12_next (upI (upI (f_X12_takesName 20 ((f_X12_fresh (iAdd 27 (H.1 32 2)) (f_X12_next H)).2.1 32 0) (f_X12_fresh (iAdd 27 (H.1 32 2)) (f_X12_next H)).2).2 32 (iAdd 4 (H.1 32 2)).toNat ((f_X12_takesName 20 ((f_X12_fresh (iAdd 27 (H.1 32 2)) (f_X12_next H)).2.1 32 0) (f_X12_fresh (iAdd 27 (H.1 32 2)) (f_X12_next H)).2).2.1 29 18)) 32 (iAdd 14 (H.1 32 2)).toNat 0))).2.1 32 34) (iShl 1 (H.1 32 2))))) 32 2 (iAdd ((f_X12_next (upI (f_X12_puts (iAdd 24 (H.1 32 2)) 0 20 (f_X12_next (upI (upI (f_X12_takesName 20 ((f_X12_fresh (iAdd 27 (H.1 32 2)) (f_X12_next H)).2.1 32 0) (f_X12_fresh (iAdd 27 (H.1 32 2)) (f_X12_next H)).2).2 32 (iAdd 4 (H.1 32 2)).toNat ((f_X12_takesName 20 ((f_X12_fresh (iAdd 27 (H.1 32 2)) (f_X12_next H)).2.1 32 0) (f_X12_fresh (iAdd 27 (H.1 32 2)) (f_X12_next H)).2).2.1 29 18)) 32 (iAdd 14 (H.1 32 2)).toNat 0))).2 32 34 (iOr ((f_X12_puts (iAdd 24 (H.1 32 2)) 0 20 (f_X12_next (upI (upI (f_X12_takesName 20 ((f_X12_fresh (iAdd 27 (H.1 32 2)) (f_X12_next H)).2.1 32 0) (f_X12_fresh (iAdd 27 (H.1 32 2)) (f_X12_next H)).2).2 32 (iAdd 4 (H.1 32 2)).toNat ((f_X12_takesName 20 ((f_X12_fresh (iAdd 27 (H.1 32 2)) (f_X12_next H)).2.1 32 0) (f_X12_fresh (iAdd 27 (H.1 32 2)) (f_X12_next H)).2).2.1 29 18)) 32 (iAdd 14 (H.1 32 2)).toNat 0))).2.1 32 34) (iShl 1 (H.1 32 2))))).1 32 2) 1)))
          else
            if ((f_X12_puts (iAdd 24 (H.1 32 2)) 0 20 (f_X12_next (upI (upI (f_X12_takesName 20 ((f_X12_fresh (iAdd 27 (H.1 32 2)) (f_X12_next H)).2.1 32 0) (f_X12_fresh (iAdd 27 (H.1 32 2)) (f_X12_next H)).2).2 32 (iAdd 4 (H.1 32 2)).toNat ((f_X12_takesName 20 ((f_X12_fresh (iAdd 27 (H.1 32 2)) (f_X12_next H)).2.1 32 0) (f_X12_fresh (iAdd 27 (H.1 32 2)) (f_X12_next H)).2).2.1 29 18)) 32 (iAdd 14 (H.1 32 2)).toNat 1))).1) = 0 then
              (0, (f_X12_puts (iAdd 24 (H.1 32 2)) 0 20 (f_X12_next (upI (upI (f_X12_takesName 20 ((f_X12_fresh (iAdd 27 (H.1 32 2)) (f_X12_next H)).2.1 32 0) (f_X12_fresh (iAdd 27 (H.1 32 2)) (f_X12_next H)).2).2 32 (iAdd 4 (H.1 32 2)).toNat ((f_X12_takesName 20 ((f_X12_fresh (iAdd 27 (H.1 32 2)) (f_X12_next H)).2.1 32 0) (f_X12_fresh (iAdd 27 (H.1 32 2)) (f_X12_next H)).2).2.1 29 18)) 32 (iAdd 14 (H.1 32 2)).toNat 1))).2)
            else
              if f_X12_isWord 1635213689 (f_X12_puts (iAdd 24 (H.1 32 2)) 0 20 (f_X12_next (upI (upI (f_X12_takesName 20 ((f_X12_fresh (iAdd 27 (H.1 32 2)) (f_X12_next H)).2.1 32 0) (f_X12_fresh (iAdd 27 (H.1 32 2)) (f_X12_next H)).2).2 32 (iAdd 4 (H.1 32 2)).toNat ((f_X12_takesName 20 ((f_X12_fresh (iAdd 27 (H.1 32 2)) (f_X12_next H)).2.1 32 0) (f_X12_fresh (iAdd 27 (H.1 32 2)) (f_X12_next H)).2).2.1 29 18)) 32 (iAdd 14 (H.1 32 2)).toNat 1))).2 = 0 then
                (1, (upI (f_X12_puts (iAdd 24 (H.1 32 2)) 0 20 (f_X12_next (upI (upI (f_X12_takesName 20 ((f_X12_fresh (iAdd 27 (H.1 32 2)) (f_X12_next H)).2.1 32 0) (f_X12_fresh (iAdd 27 (H.1 32 2)) (f_X12_next H)).2).2 32 (iAdd 4 (H.1 32 2)).toNat ((f_X12_takesName 20 ((f_X12_fresh (iAdd 27 (H.1 32 2)) (f_X12_next H)).2.1 32 0) (f_X12_fresh (iAdd 27 (H.1 32 2)) (f_X12_next H)).2).2.1 29 18)) 32 (iAdd 14 (H.1 32 2)).toNat 1))).2 32 2 (iAdd ((f_X12_puts (iAdd 24 (H.1 32 2)) 0 20 (f_X12_next (upI (upI (f_X12_takesName 20 ((f_X12_fresh (iAdd 27 (H.1 32 2)) (f_X12_next H)).2.1 32 0) (f_X12_fresh (iAdd 27 (H.1 32 2)) (f_X12_next H)).2).2 32 (iAdd 4 (H.1 32 2)).toNat ((f_X12_takesName 20 ((f_X12_fresh (iAdd 27 (H.1 32 2)) (f_X12_next H)).2.1 32 0) (f_X12_fresh (iAdd 27 (H.1 32 2)) (f_X12_next H)).2).2.1 29 18)) 32 (iAdd 14 (H.1 32 2)).toNat 1))).2.1 32 2) 1)))
              else
                (1, (upI (f_X12_next (upI (f_X12_puts (iAdd 24 (H.1 32 2)) 0 20 (f_X12_next (upI (upI (f_X12_takesName 20 ((f_X12_fresh (iAdd 27 (H.1 32 2)) (f_X12_next H)).2.1 32 0) (f_X12_fresh (iAdd 27 (H.1 32 2)) (f_X12_next H)).2).2 32 (iAdd 4 (H.1 32 2)).toNat ((f_X12_takesName 20 ((f_X12_fresh (iAdd 27 (H.1 32 2)) (f_X12_next H)).2.1 32 0) (f_X12_fresh (iAdd 27 (H.1 32 2)) (f_X12_next H)).2).2.1 29 18)) 32 (iAdd 14 (H.1 32 2)).toNat 1))).2 32 34 (iOr ((f_X12_puts (iAdd 24 (H.1 32 2)) 0 20 (f_X12_next (upI (upI (f_X12_takesName 20 ((f_X12_fresh (iAdd 27 (H.1 32 2)) (f_X12_next H)).2.1 32 0) (f_X12_fresh (iAdd 27 (H.1 32 2)) (f_X12_next H)).2).2 32 (iAdd 4 (H.1 32 2)).toNat ((f_X12_takesName 20 ((f_X12_fresh (iAdd 27 (H.1 32 2)) (f_X12_next H)).2.1 32 0) (f_X12_fresh (iAdd 27 (H.1 32 2)) (f_X12_next H)).2).2.1 29 18)) 32 (iAdd 14 (H.1 32 2)).toNat 1))).2.1 32 34) (iShl 1 (H.1 32 2))))) 32 2 (iAdd ((f_X12_next (upI (f_X12_puts (iAdd 24 (H.1 32 2)) 0 20 (f_X12_next (upI (upI (f_X12_takesName 20 ((f_X12_fresh (iAdd 27 (H.1 32 2)) (f_X12_next H)).2.1 32 0) (f_X12_fresh (iAdd 27 (H.1 32 2)) (f_X12_next H)).2).2 32 (iAdd 4 (H.1 32 2)).toNat ((f_X12_takesName 20 ((f_X12_fresh (iAdd 27 (H.1 32 2)) (f_X12_next H)).2.1 32 0) (f_X12_fresh (iAdd 27 (H.1 32 2)) (f_X12_next H)).2).2.1 29 18)) 32 (iAdd 14 (H.1 32 2)).toNat 1))).2 32 34 (iOr ((f_X12_puts (iAdd 24 (H.1 32 2)) 0 20 (f_X12_next (upI (upI (f_X12_takesName 20 ((f_X12_fresh (iAdd 27 (H.1 32 2)) (f_X12_next H)).2.1 32 0) (f_X12_fresh (iAdd 27 (H.1 32 2)) (f_X12_next H)).2).2 32 (iAdd 4 (H.1 32 2)).toNat ((f_X12_takesName 20 ((f_X12_fresh (iAdd 27 (H.1 32 2)) (f_X12_next H)).2.1 32 0) (f_X12_fresh (iAdd 27 (H.1 32 2)) (f_X12_next H)).2).2.1 29 18)) 32 (iAdd 14 (H.1 32 2)).toNat 1))).2.1 32 34) (iShl 1 (H.1 32 2))))).1 32 2) 1)))
set_option maxHeartbeats 16000000 in
set_option maxRecDepth 100000 in
theorem sp_X12_readPerson {g : Nat → Nat}  (H : hH) (hr : RM H.2.2.1) : SP g rvTab rvInf rvRet 316 rvMth 23 [rf (g 29)] H (some (pt (f_X12_readPerson H).1)) (f_X12_readPerson H).2 := by
  have hj : 23 < 316 := by decide
  refine J_SP hj (Nat.le_of_ble_eq_true rfl) ?_
  show J g rvTab rvInf rvRet 316 rvMth 23 _ 0 [rf (g 29), rvU] [] H
  refine J_ld 1 jw hj rfl rfl rfl rfl ?_
  refine J_gfR (k := 32) jw hj rfl (evn rfl) (by decide) (by decide) (RMa hr rfl) ?_
  refine J_cst 5 jw hj rfl rfl rfl ?_
  refine J_iald jw hj rfl (Or.inl rfl) (fun z0 r0 => ?_)
  refine J_st 7 [rf (g 29), pt (H.1 32 2)] (k := 1) jw hj rfl (Or.inr (Or.inr (Or.inl ⟨_, rfl, rfl, rfl⟩))) rfl ?_
  refine J_ld 8 jw hj rfl rfl rfl rfl ?_
  refine J_cst 10 jw hj rfl rfl rfl ?_
  refine J_icmp (t := 19) jw hj rfl (evn rfl) rfl (fun (h0 : ¬ H.1 32 2 = 10) => ?_) (fun (h0 : H.1 32 2 = 10) => ?_)
  · refine J_ld 20 jw hj rfl rfl rfl rfl ?_
    refine J_callV0 jw rfl (Or.inl ⟨_, rfl⟩) rfl rfl (sp_X12_next (g := g) H hr) ?_
    refine J_ld 24 jw hj rfl rfl rfl rfl ?_
    refine J_cst 26 jw hj rfl rfl rfl ?_
    refine J_ld 27 jw hj rfl rfl rfl rfl ?_
    refine J_bin jw hj rfl rfl ?_
    refine J_callV1 jw rfl (Or.inl ⟨_, rfl⟩) rfl rfl (sp_X12_fresh (g := g) (iAdd 27 (H.1 32 2)) (f_X12_next H) (rf_X12_next H hr)) ?_
    refine J_ifc (t := 49) jw hj rfl (evn rfl) rfl (fun (h1 : ((f_X12_fresh (iAdd 27 (H.1 32 2)) (f_X12_next H)).1) = 0) => ?_) (fun (h1 : ¬ ((f_X12_fresh (iAdd 27 (H.1 32 2)) (f_X12_next H)).1) = 0) => ?_)
    · refine J_cst 50 jw hj rfl rfl rfl ?_
      exact J_ret rfl (Or.inl rfl) (fun aw hR => by show _ ∧ _; unfold f_X12_readPerson; rw [if_neg h0, if_pos h1]; exact ⟨rfl, hR⟩)
    · refine J_ld 35 jw hj rfl rfl rfl rfl ?_
      refine J_cst 37 jw hj rfl rfl rfl ?_
      refine J_ld 38 jw hj rfl rfl rfl rfl ?_
      refine J_gfR (k := 32) jw hj rfl (evn rfl) (by decide) (by decide) (RMa (rf_X12_fresh (iAdd 27 (H.1 32 2)) (f_X12_next H) (rf_X12_next H hr)) rfl) ?_
      refine J_cst 42 jw hj rfl rfl rfl ?_
      refine J_iald jw hj rfl (Or.inl rfl) (fun z1 r1 => ?_)
      refine J_callV1 jw rfl (Or.inl ⟨_, rfl⟩) rfl rfl (sp_X12_takesName (g := g) 20 ((f_X12_fresh (iAdd 27 (H.1 32 2)) (f_X12_next H)).2.1 32 0) (f_X12_fresh (iAdd 27 (H.1 32 2)) (f_X12_next H)).2 (rf_X12_fresh (iAdd 27 (H.1 32 2)) (f_X12_next H) (rf_X12_next H hr))) ?_
      refine J_ifc (t := 51) jw hj rfl (evn rfl) rfl (fun (h2 : ¬ ((f_X12_takesName 20 ((f_X12_fresh (iAdd 27 (H.1 32 2)) (f_X12_next H)).2.1 32 0) (f_X12_fresh (iAdd 27 (H.1 32 2)) (f_X12_next H)).2).1) = 0) => ?_) (fun (h2 : ((f_X12_takesName 20 ((f_X12_fresh (iAdd 27 (H.1 32 2)) (f_X12_next H)).2.1 32 0) (f_X12_fresh (iAdd 27 (H.1 32 2)) (f_X12_next H)).2).1) = 0) => ?_)
      · refine J_ld 52 jw hj rfl rfl rfl rfl ?_
        refine J_gfR (k := 32) jw hj rfl (evn rfl) (by decide) (by decide) (RMa (rf_X12_takesName 20 ((f_X12_fresh (iAdd 27 (H.1 32 2)) (f_X12_next H)).2.1 32 0) (f_X12_fresh (iAdd 27 (H.1 32 2)) (f_X12_next H)).2 (rf_X12_fresh (iAdd 27 (H.1 32 2)) (f_X12_next H) (rf_X12_next H hr))) rfl) ?_
        refine J_cst 56 jw hj rfl rfl rfl ?_
        refine J_ld 57 jw hj rfl rfl rfl rfl ?_
        refine J_bin jw hj rfl rfl ?_
        refine J_ld 59 jw hj rfl rfl rfl rfl ?_
        refine J_gfI jw hj rfl (evn rfl) (by decide) rfl (fun r2 => ?_)
        refine J_iast jw hj rfl (Or.inl rfl) (fun _ => ?_)
        refine J_ld 64 jw hj rfl rfl rfl rfl ?_
        refine J_lc (n := 7168366) 67 jw hj rfl (Or.inr ⟨_, rfl, by decide +kernel, rfl⟩) ?_
        refine J_callV1 jw rfl (Or.inl ⟨_, rfl⟩) rfl rfl (sp_X12_isWord (g := g) 7168366 (upI (f_X12_takesName 20 ((f_X12_fresh (iAdd 27 (H.1 32 2)) (f_X12_next H)).2.1 32 0) (f_X12_fresh (iAdd 27 (H.1 32 2)) (f_X12_next H)).2).2 32 (iAdd 4 (H.1 32 2)).toNat ((f_X12_takesName 20 ((f_X12_fresh (iAdd 27 (H.1 32 2)) (f_X12_next H)).2.1 32 0) (f_X12_fresh (iAdd 27 (H.1 32 2)) (f_X12_next H)).2).2.1 29 18))) ?_
        refine J_ifc (t := 89) jw hj rfl (evn rfl) rfl (fun (h3 : ¬ f_X12_isWord 7168366 (f_X12_takesName 20 ((f_X12_fresh (iAdd 27 (H.1 32 2)) (f_X12_next H)).2.1 32 0) (f_X12_fresh (iAdd 27 (H.1 32 2)) (f_X12_next H)).2).2 = 0) => ?_) (fun (h3 : f_X12_isWord 7168366 (f_X12_takesName 20 ((f_X12_fresh (iAdd 27 (H.1 32 2)) (f_X12_next H)).2.1 32 0) (f_X12_fresh (iAdd 27 (H.1 32 2)) (f_X12_next H)).2).2 = 0) => ?_)
        · refine J_ld 90 jw hj rfl rfl rfl rfl ?_
          refine J_gfR (k := 32) jw hj rfl (evn rfl) (by decide) (by decide) (RMa (rf_X12_takesName 20 ((f_X12_fresh (iAdd 27 (H.1 32 2)) (f_X12_next H)).2.1 32 0) (f_X12_fresh (iAdd 27 (H.1 32 2)) (f_X12_next H)).2 (rf_X12_fresh (iAdd 27 (H.1 32 2)) (f_X12_next H) (rf_X12_next H hr))) rfl) ?_
          refine J_cst 95 jw hj rfl rfl rfl ?_
          refine J_ld 96 jw hj rfl rfl rfl rfl ?_
          refine J_bin jw hj rfl rfl ?_
          refine J_ld 98 jw hj rfl rfl rfl rfl ?_
          refine J_lc (n := 512970547566) 101 jw hj rfl (Or.inr ⟨_, rfl, by decide +kernel, rfl⟩) ?_
          refine J_callV1 jw rfl (Or.inl ⟨_, rfl⟩) rfl rfl (sp_X12_isWord (g := g) 512970547566 (upI (f_X12_takesName 20 ((f_X12_fresh (iAdd 27 (H.1 32 2)) (f_X12_next H)).2.1 32 0) (f_X12_fresh (iAdd 27 (H.1 32 2)) (f_X12_next H)).2).2 32 (iAdd 4 (H.1 32 2)).toNat ((f_X12_takesName 20 ((f_X12_fresh (iAdd 27 (H.1 32 2)) (f_X12_next H)).2.1 32 0) (f_X12_fresh (iAdd 27 (H.1 32 2)) (f_X12_next H)).2).2.1 29 18))) ?_
          refine J_ifc (t := 111) jw hj rfl (evn rfl) rfl (fun (h4 : f_X12_isWord 512970547566 (f_X12_takesName 20 ((f_X12_fresh (iAdd 27 (H.1 32 2)) (f_X12_next H)).2.1 32 0) (f_X12_fresh (iAdd 27 (H.1 32 2)) (f_X12_next H)).2).2 = 0) => ?_) (fun (h4 : ¬ f_X12_isWord 512970547566 (f_X12_takesName 20 ((f_X12_fresh (iAdd 27 (H.1 32 2)) (f_X12_next H)).2.1 32 0) (f_X12_fresh (iAdd 27 (H.1 32 2)) (f_X12_next H)).2).2 = 0) => ?_)
          · refine J_cst 112 jw hj rfl rfl rfl ?_
            refine J_iast jw hj rfl (Or.inl rfl) (fun _ => ?_)
            refine J_ld 114 jw hj rfl rfl rfl rfl ?_
            refine J_callV0 jw rfl (Or.inl ⟨_, rfl⟩) rfl rfl (sp_X12_next (g := g) (upI (upI (f_X12_takesName 20 ((f_X12_fresh (iAdd 27 (H.1 32 2)) (f_X12_next H)).2.1 32 0) (f_X12_fresh (iAdd 27 (H.1 32 2)) (f_X12_next H)).2).2 32 (iAdd 4 (H.1 32 2)).toNat ((f_X12_takesName 20 ((f_X12_fresh (iAdd 27 (H.1 32 2)) (f_X12_next H)).2.1 32 0) (f_X12_fresh (iAdd 27 (H.1 32 2)) (f_X12_next H)).2).2.1 29 18)) 32 (iAdd 14 (H.1 32 2)).toNat 0) (rf_X12_takesName 20 ((f_X12_fresh (iAdd 27 (H.1 32 2)) (f_X12_next H)).2.1 32 0) (f_X12_fresh (iAdd 27 (H.1 32 2)) (f_X12_next H)).2 (rf_X12_fresh (iAdd 27 (H.1 32 2)) (f_X12_next H) (rf_X12_next H hr)))) ?_
            refine J_ld 118 jw hj rfl rfl rfl rfl ?_
            refine J_cst 120 jw hj rfl rfl rfl ?_
            refine J_ld 121 jw hj rfl rfl rfl rfl ?_
            refine J_bin jw hj rfl rfl ?_
            refine J_cst 123 jw hj rfl rfl rfl ?_
            refine J_cst 125 jw hj rfl rfl rfl ?_
            refine J_callV1 jw rfl (Or.inl ⟨_, rfl⟩) rfl rfl (sp_X12_puts (g := g) (iAdd 24 (H.1 32 2)) 0 20 (f_X12_next (upI (upI (f_X12_takesName 20 ((f_X12_fresh (iAdd 27 (H.1 32 2)) (f_X12_next H)).2.1 32 0) (f_X12_fresh (iAdd 27 (H.1 32 2)) (f_X12_next H)).2).2 32 (iAdd 4 (H.1 32 2)).toNat ((f_X12_takesName 20 ((f_X12_fresh (iAdd 27 (H.1 32 2)) (f_X12_next H)).2.1 32 0) (f_X12_fresh (iAdd 27 (H.1 32 2)) (f_X12_next H)).2).2.1 29 18)) 32 (iAdd 14 (H.1 32 2)).toNat 0)) (rf_X12_next (upI (upI (f_X12_takesName 20 ((f_X12_fresh (iAdd 27 (H.1 32 2)) (f_X12_next H)).2.1 32 0) (f_X12_fresh (iAdd 27 (H.1 32 2)) (f_X12_next H)).2).2 32 (iAdd 4 (H.1 32 2)).toNat ((f_X12_takesName 20 ((f_X12_fresh (iAdd 27 (H.1 32 2)) (f_X12_next H)).2.1 32 0) (f_X12_fresh (iAdd 27 (H.1 32 2)) (f_X12_next H)).2).2.1 29 18)) 32 (iAdd 14 (H.1 32 2)).toNat 0) (rf_X12_takesName 20 ((f_X12_fresh (iAdd 27 (H.1 32 2)) (f_X12_next H)).2.1 32 0) (f_X12_fresh (iAdd 27 (H.1 32 2)) (f_X12_next H)).2 (rf_X12_fresh (iAdd 27 (H.1 32 2)) (f_X12_next H) (rf_X12_next H hr))))) ?_
            refine J_ifc (t := 133) jw hj rfl (evn rfl) rfl (fun (h5 : ¬ ((f_X12_puts (iAdd 24 (H.1 32 2)) 0 20 (f_X12_next (upI (upI (f_X12_takesName 20 ((f_X12_fresh (iAdd 27 (H.1 32 2)) (f_X12_next H)).2.1 32 0) (f_X12_fresh (iAdd 27 (H.1 32 2)) (f_X12_next H)).2).2 32 (iAdd 4 (H.1 32 2)).toNat ((f_X12_takesName 20 ((f_X12_fresh (iAdd 27 (H.1 32 2)) (f_X12_next H)).2.1 32 0) (f_X12_fresh (iAdd 27 (H.1 32 2)) (f_X12_next H)).2).2.1 29 18)) 32 (iAdd 14 (H.1 32 2)).toNat 0))).1) = 0) => ?_) (fun (h5 : ((f_X12_puts (iAdd 24 (H.1 32 2)) 0 20 (f_X12_next (upI (upI (f_X12_takesName 20 ((f_X12_fresh (iAdd 27 (H.1 32 2)) (f_X12_next H)).2.1 32 0) (f_X12_fresh (iAdd 27 (H.1 32 2)) (f_X12_next H)).2).2 32 (iAdd 4 (H.1 32 2)).toNat ((f_X12_takesName 20 ((f_X12_fresh (iAdd 27 (H.1 32 2)) (f_X12_next H)).2.1 32 0) (f_X12_fresh (iAdd 27 (H.1 32 2)) (f_X12_next H)).2).2.1 29 18)) 32 (iAdd 14 (H.1 32 2)).toNat 0))).1) = 0) => ?_)
            · refine J_ld 134 jw hj rfl rfl rfl rfl ?_
              refine J_lc (n := 1635213689) 137 jw hj rfl (Or.inr ⟨_, rfl, by decide +kernel, rfl⟩) ?_
              refine J_callV1 jw rfl (Or.inl ⟨_, rfl⟩) rfl rfl (sp_X12_isWord (g := g) 1635213689 (f_X12_puts (iAdd 24 (H.1 32 2)) 0 20 (f_X12_next (upI (upI (f_X12_takesName 20 ((f_X12_fresh (iAdd 27 (H.1 32 2)) (f_X12_next H)).2.1 32 0) (f_X12_fresh (iAdd 27 (H.1 32 2)) (f_X12_next H)).2).2 32 (iAdd 4 (H.1 32 2)).toNat ((f_X12_takesName 20 ((f_X12_fresh (iAdd 27 (H.1 32 2)) (f_X12_next H)).2.1 32 0) (f_X12_fresh (iAdd 27 (H.1 32 2)) (f_X12_next H)).2).2.1 29 18)) 32 (iAdd 14 (H.1 32 2)).toNat 0))).2) ?_
              refine J_ifc (t := 160) jw hj rfl (evn rfl) rfl (fun (h6 : f_X12_isWord 1635213689 (f_X12_puts (iAdd 24 (H.1 32 2)) 0 20 (f_X12_next (upI (upI (f_X12_takesName 20 ((f_X12_fresh (iAdd 27 (H.1 32 2)) (f_X12_next H)).2.1 32 0) (f_X12_fresh (iAdd 27 (H.1 32 2)) (f_X12_next H)).2).2 32 (iAdd 4 (H.1 32 2)).toNat ((f_X12_takesName 20 ((f_X12_fresh (iAdd 27 (H.1 32 2)) (f_X12_next H)).2.1 32 0) (f_X12_fresh (iAdd 27 (H.1 32 2)) (f_X12_next H)).2).2.1 29 18)) 32 (iAdd 14 (H.1 32 2)).toNat 0))).2 = 0) => ?_) (fun (h6 : ¬ f_X12_isWord 1635213689 (f_X12_puts (iAdd 24 (H.1 32 2)) 0 20 (f_X12_next (upI (upI (f_X12_takesName 20 ((f_X12_fresh (iAdd 27 (H.1 32 2)) (f_X12_next H)).2.1 32 0) (f_X12_fresh (iAdd 27 (H.1 32 2)) (f_X12_next H)).2).2 32 (iAdd 4 (H.1 32 2)).toNat ((f_X12_takesName 20 ((f_X12_fresh (iAdd 27 (H.1 32 2)) (f_X12_next H)).2.1 32 0) (f_X12_fresh (iAdd 27 (H.1 32 2)) (f_X12_next H)).2).2.1 29 18)) 32 (iAdd 14 (H.1 32 2)).toNat 0))).2 = 0) => ?_)
              · refine J_ld 161 jw hj rfl rfl rfl rfl ?_
                refine J_gfR (k := 32) jw hj rfl (evn rfl) (by decide) (by decide) (RMa (rf_X12_puts (iAdd 24 (H.1 32 2)) 0 20 (f_X12_next (upI (upI (f_X12_takesName 20 ((f_X12_fresh (iAdd 27 (H.1 32 2)) (f_X12_next H)).2.1 32 0) (f_X12_fresh (iAdd 27 (H.1 32 2)) (f_X12_next H)).2).2 32 (iAdd 4 (H.1 32 2)).toNat ((f_X12_takesName 20 ((f_X12_fresh (iAdd 27 (H.1 32 2)) (f_X12_next H)).2.1 32 0) (f_X12_fresh (iAdd 27 (H.1 32 2)) (f_X12_next H)).2).2.1 29 18)) 32 (iAdd 14 (H.1 32 2)).toNat 0)) (rf_X12_next (upI (upI (f_X12_takesName 20 ((f_X12_fresh (iAdd 27 (H.1 32 2)) (f_X12_next H)).2.1 32 0) (f_X12_fresh (iAdd 27 (H.1 32 2)) (f_X12_next H)).2).2 32 (iAdd 4 (H.1 32 2)).toNat ((f_X12_takesName 20 ((f_X12_fresh (iAdd 27 (H.1 32 2)) (f_X12_next H)).2.1 32 0) (f_X12_fresh (iAdd 27 (H.1 32 2)) (f_X12_next H)).2).2.1 29 18)) 32 (iAdd 14 (H.1 32 2)).toNat 0) (rf_X12_takesName 20 ((f_X12_fresh (iAdd 27 (H.1 32 2)) (f_X12_next H)).2.1 32 0) (f_X12_fresh (iAdd 27 (H.1 32 2)) (f_X12_next H)).2 (rf_X12_fresh (iAdd 27 (H.1 32 2)) (f_X12_next H) (rf_X12_next H hr))))) rfl) ?_
                refine J_cst 165 jw hj rfl rfl rfl ?_
                refine J_dup2 166 jw hj rfl rfl ?_
                refine J_iald jw hj rfl (Or.inl rfl) (fun z3 r3 => ?_)
                refine J_cst 168 jw hj rfl rfl rfl ?_
                refine J_bin jw hj rfl rfl ?_
                refine J_iast jw hj rfl (Or.inl rfl) (fun _ => ?_)
                refine J_cst 171 jw hj rfl rfl rfl ?_
                exact J_ret rfl (Or.inl rfl) (fun aw hR => by show _ ∧ _; unfold f_X12_readPerson; rw [if_neg h0, if_neg h1, if_neg h2, if_neg h3, if_pos h4, if_neg h5, if_pos h6]; exact ⟨rfl, hR⟩)
              · refine J_ld 144 jw hj rfl rfl rfl rfl ?_
                refine J_gfR (k := 32) jw hj rfl (evn rfl) (by decide) (by decide) (RMa (rf_X12_puts (iAdd 24 (H.1 32 2)) 0 20 (f_X12_next (upI (upI (f_X12_takesName 20 ((f_X12_fresh (iAdd 27 (H.1 32 2)) (f_X12_next H)).2.1 32 0) (f_X12_fresh (iAdd 27 (H.1 32 2)) (f_X12_next H)).2).2 32 (iAdd 4 (H.1 32 2)).toNat ((f_X12_takesName 20 ((f_X12_fresh (iAdd 27 (H.1 32 2)) (f_X12_next H)).2.1 32 0) (f_X12_fresh (iAdd 27 (H.1 32 2)) (f_X12_next H)).2).2.1 29 18)) 32 (iAdd 14 (H.1 32 2)).toNat 0)) (rf_X12_next (upI (upI (f_X12_takesName 20 ((f_X12_fresh (iAdd 27 (H.1 32 2)) (f_X12_next H)).2.1 32 0) (f_X12_fresh (iAdd 27 (H.1 32 2)) (f_X12_next H)).2).2 32 (iAdd 4 (H.1 32 2)).toNat ((f_X12_takesName 20 ((f_X12_fresh (iAdd 27 (H.1 32 2)) (f_X12_next H)).2.1 32 0) (f_X12_fresh (iAdd 27 (H.1 32 2)) (f_X12_next H)).2).2.1 29 18)) 32 (iAdd 14 (H.1 32 2)).toNat 0) (rf_X12_takesName 20 ((f_X12_fresh (iAdd 27 (H.1 32 2)) (f_X12_next H)).2.1 32 0) (f_X12_fresh (iAdd 27 (H.1 32 2)) (f_X12_next H)).2 (rf_X12_fresh (iAdd 27 (H.1 32 2)) (f_X12_next H) (rf_X12_next H hr))))) rfl) ?_
                refine J_cst 149 jw hj rfl rfl rfl ?_
                refine J_dup2 150 jw hj rfl rfl ?_
                refine J_iald jw hj rfl (Or.inl rfl) (fun z4 r4 => ?_)
                refine J_cst 152 jw hj rfl rfl rfl ?_
                refine J_ld 153 jw hj rfl rfl rfl rfl ?_
                refine J_bin jw hj rfl rfl ?_
                refine J_bin jw hj rfl rfl ?_
                refine J_iast jw hj rfl (Or.inl rfl) (fun _ => ?_)
                refine J_ld 157 jw hj rfl rfl rfl rfl ?_
                refine J_callV0 jw rfl (Or.inl ⟨_, rfl⟩) rfl rfl (sp_X12_next (g := g) (upI (f_X12_puts (iAdd 24 (H.1 32 2)) 0 20 (f_X12_next (upI (upI (f_X12_takesName 20 ((f_X12_fresh (iAdd 27 (H.1 32 2)) (f_X12_next H)).2.1 32 0) (f_X12_fresh (iAdd 27 (H.1 32 2)) (f_X12_next H)).2).2 32 (iAdd 4 (H.1 32 2)).toNat ((f_X12_takesName 20 ((f_X12_fresh (iAdd 27 (H.1 32 2)) (f_X12_next H)).2.1 32 0) (f_X12_fresh (iAdd 27 (H.1 32 2)) (f_X12_next H)).2).2.1 29 18)) 32 (iAdd 14 (H.1 32 2)).toNat 0))).2 32 34 (iOr ((f_X12_puts (iAdd 24 (H.1 32 2)) 0 20 (f_X12_next (upI (upI (f_X12_takesName 20 ((f_X12_fresh (iAdd 27 (H.1 32 2)) (f_X12_next H)).2.1 32 0) (f_X12_fresh (iAdd 27 (H.1 32 2)) (f_X12_next H)).2).2 32 (iAdd 4 (H.1 32 2)).toNat ((f_X12_takesName 20 ((f_X12_fresh (iAdd 27 (H.1 32 2)) (f_X12_next H)).2.1 32 0) (f_X12_fresh (iAdd 27 (H.1 32 2)) (f_X12_next H)).2).2.1 29 18)) 32 (iAdd 14 (H.1 32 2)).toNat 0))).2.1 32 34) (iShl 1 (H.1 32 2)))) (rf_X12_puts (iAdd 24 (H.1 32 2)) 0 20 (f_X12_next (upI (upI (f_X12_takesName 20 ((f_X12_fresh (iAdd 27 (H.1 32 2)) (f_X12_next H)).2.1 32 0) (f_X12_fresh (iAdd 27 (H.1 32 2)) (f_X12_next H)).2).2 32 (iAdd 4 (H.1 32 2)).toNat ((f_X12_takesName 20 ((f_X12_fresh (iAdd 27 (H.1 32 2)) (f_X12_next H)).2.1 32 0) (f_X12_fresh (iAdd 27 (H.1 32 2)) (f_X12_next H)).2).2.1 29 18)) 32 (iAdd 14 (H.1 32 2)).toNat 0)) (rf_X12_next (upI (upI (f_X12_takesName 20 ((f_X12_fresh (iAdd 27 (H.1 32 2)) (f_X12_next H)).2.1 32 0) (f_X12_fresh (iAdd 27 (H.1 32 2)) (f_X12_next H)).2).2 32 (iAdd 4 (H.1 32 2)).toNat ((f_X12_takesName 20 ((f_X12_fresh (iAdd 27 (H.1 32 2)) (f_X12_next H)).2.1 32 0) (f_X12_fresh (iAdd 27 (H.1 32 2)) (f_X12_next H)).2).2.1 29 18)) 32 (iAdd 14 (H.1 32 2)).toNat 0) (rf_X12_takesName 20 ((f_X12_fresh (iAdd 27 (H.1 32 2)) (f_X12_next H)).2.1 32 0) (f_X12_fresh (iAdd 27 (H.1 32 2)) (f_X12_next H)).2 (rf_X12_fresh (iAdd 27 (H.1 32 2)) (f_X12_next H) (rf_X12_next H hr)))))) ?_
                refine J_ld 161 jw hj rfl rfl rfl rfl ?_
                refine J_gfR (k := 32) jw hj rfl (evn rfl) (by decide) (by decide) (RMa (rf_X12_next (upI (f_X12_puts (iAdd 24 (H.1 32 2)) 0 20 (f_X12_next (upI (upI (f_X12_takesName 20 ((f_X12_fresh (iAdd 27 (H.1 32 2)) (f_X12_next H)).2.1 32 0) (f_X12_fresh (iAdd 27 (H.1 32 2)) (f_X12_next H)).2).2 32 (iAdd 4 (H.1 32 2)).toNat ((f_X12_takesName 20 ((f_X12_fresh (iAdd 27 (H.1 32 2)) (f_X12_next H)).2.1 32 0) (f_X12_fresh (iAdd 27 (H.1 32 2)) (f_X12_next H)).2).2.1 29 18)) 32 (iAdd 14 (H.1 32 2)).toNat 0))).2 32 34 (iOr ((f_X12_puts (iAdd 24 (H.1 32 2)) 0 20 (f_X12_next (upI (upI (f_X12_takesName 20 ((f_X12_fresh (iAdd 27 (H.1 32 2)) (f_X12_next H)).2.1 32 0) (f_X12_fresh (iAdd 27 (H.1 32 2)) (f_X12_next H)).2).2 32 (iAdd 4 (H.1 32 2)).toNat ((f_X12_takesName 20 ((f_X12_fresh (iAdd 27 (H.1 32 2)) (f_X12_next H)).2.1 32 0) (f_X12_fresh (iAdd 27 (H.1 32 2)) (f_X12_next H)).2).2.1 29 18)) 32 (iAdd 14 (H.1 32 2)).toNat 0))).2.1 32 34) (iShl 1 (H.1 32 2)))) (rf_X12_puts (iAdd 24 (H.1 32 2)) 0 20 (f_X12_next (upI (upI (f_X12_takesName 20 ((f_X12_fresh (iAdd 27 (H.1 32 2)) (f_X12_next H)).2.1 32 0) (f_X12_fresh (iAdd 27 (H.1 32 2)) (f_X12_next H)).2).2 32 (iAdd 4 (H.1 32 2)).toNat ((f_X12_takesName 20 ((f_X12_fresh (iAdd 27 (H.1 32 2)) (f_X12_next H)).2.1 32 0) (f_X12_fresh (iAdd 27 (H.1 32 2)) (f_X12_next H)).2).2.1 29 18)) 32 (iAdd 14 (H.1 32 2)).toNat 0)) (rf_X12_next (upI (upI (f_X12_takesName 20 ((f_X12_fresh (iAdd 27 (H.1 32 2)) (f_X12_next H)).2.1 32 0) (f_X12_fresh (iAdd 27 (H.1 32 2)) (f_X12_next H)).2).2 32 (iAdd 4 (H.1 32 2)).toNat ((f_X12_takesName 20 ((f_X12_fresh (iAdd 27 (H.1 32 2)) (f_X12_next H)).2.1 32 0) (f_X12_fresh (iAdd 27 (H.1 32 2)) (f_X12_next H)).2).2.1 29 18)) 32 (iAdd 14 (H.1 32 2)).toNat 0) (rf_X12_takesName 20 ((f_X12_fresh (iAdd 27 (H.1 32 2)) (f_X12_next H)).2.1 32 0) (f_X12_fresh (iAdd 27 (H.1 32 2)) (f_X12_next H)).2 (rf_X12_fresh (iAdd 27 (H.1 32 2)) (f_X12_next H) (rf_X12_next H hr)))))) rfl) ?_
                refine J_cst 165 jw hj rfl rfl rfl ?_
                refine J_dup2 166 jw hj rfl rfl ?_
                refine J_iald jw hj rfl (Or.inl rfl) (fun z5 r5 => ?_)
                refine J_cst 168 jw hj rfl rfl rfl ?_
                refine J_bin jw hj rfl rfl ?_
                refine J_iast jw hj rfl (Or.inl rfl) (fun _ => ?_)
                refine J_cst 171 jw hj rfl rfl rfl ?_
                exact J_ret rfl (Or.inl rfl) (fun aw hR => by show _ ∧ _; unfold f_X12_readPerson; rw [if_neg h0, if_neg h1, if_neg h2, if_neg h3, if_pos h4, if_neg h5, if_neg h6]; exact ⟨rfl, hR⟩)
            · refine J_cst 132 jw hj rfl rfl rfl ?_
              exact J_ret rfl (Or.inl rfl) (fun aw hR => by show _ ∧ _; unfold f_X12_readPerson; rw [if_neg h0, if_neg h1, if_neg h2, if_neg h3, if_pos h4, if_pos h5]; exact ⟨rfl, hR⟩)
          · refine J_cst 108 jw hj rfl rfl rfl ?_
            refine J_goto 112 jw hj rfl rfl ?_
            refine J_iast jw hj rfl (Or.inl rfl) (fun _ => ?_)
            refine J_ld 114 jw hj rfl rfl rfl rfl ?_
            refine J_callV0 jw rfl (Or.inl ⟨_, rfl⟩) rfl rfl (sp_X12_next (g := g) (upI (upI (f_X12_takesName 20 ((f_X12_fresh (iAdd 27 (H.1 32 2)) (f_X12_next H)).2.1 32 0) (f_X12_fresh (iAdd 27 (H.1 32 2)) (f_X12_next H)).2).2 32 (iAdd 4 (H.1 32 2)).toNat ((f_X12_takesName 20 ((f_X12_fresh (iAdd 27 (H.1 32 2)) (f_X12_next H)).2.1 32 0) (f_X12_fresh (iAdd 27 (H.1 32 2)) (f_X12_next H)).2).2.1 29 18)) 32 (iAdd 14 (H.1 32 2)).toNat 1) (rf_X12_takesName 20 ((f_X12_fresh (iAdd 27 (H.1 32 2)) (f_X12_next H)).2.1 32 0) (f_X12_fresh (iAdd 27 (H.1 32 2)) (f_X12_next H)).2 (rf_X12_fresh (iAdd 27 (H.1 32 2)) (f_X12_next H) (rf_X12_next H hr)))) ?_
            refine J_ld 118 jw hj rfl rfl rfl rfl ?_
            refine J_cst 120 jw hj rfl rfl rfl ?_
            refine J_ld 121 jw hj rfl rfl rfl rfl ?_
            refine J_bin jw hj rfl rfl ?_
            refine J_cst 123 jw hj rfl rfl rfl ?_
            refine J_cst 125 jw hj rfl rfl rfl ?_
            refine J_callV1 jw rfl (Or.inl ⟨_, rfl⟩) rfl rfl (sp_X12_puts (g := g) (iAdd 24 (H.1 32 2)) 0 20 (f_X12_next (upI (upI (f_X12_takesName 20 ((f_X12_fresh (iAdd 27 (H.1 32 2)) (f_X12_next H)).2.1 32 0) (f_X12_fresh (iAdd 27 (H.1 32 2)) (f_X12_next H)).2).2 32 (iAdd 4 (H.1 32 2)).toNat ((f_X12_takesName 20 ((f_X12_fresh (iAdd 27 (H.1 32 2)) (f_X12_next H)).2.1 32 0) (f_X12_fresh (iAdd 27 (H.1 32 2)) (f_X12_next H)).2).2.1 29 18)) 32 (iAdd 14 (H.1 32 2)).toNat 1)) (rf_X12_next (upI (upI (f_X12_takesName 20 ((f_X12_fresh (iAdd 27 (H.1 32 2)) (f_X12_next H)).2.1 32 0) (f_X12_fresh (iAdd 27 (H.1 32 2)) (f_X12_next H)).2).2 32 (iAdd 4 (H.1 32 2)).toNat ((f_X12_takesName 20 ((f_X12_fresh (iAdd 27 (H.1 32 2)) (f_X12_next H)).2.1 32 0) (f_X12_fresh (iAdd 27 (H.1 32 2)) (f_X12_next H)).2).2.1 29 18)) 32 (iAdd 14 (H.1 32 2)).toNat 1) (rf_X12_takesName 20 ((f_X12_fresh (iAdd 27 (H.1 32 2)) (f_X12_next H)).2.1 32 0) (f_X12_fresh (iAdd 27 (H.1 32 2)) (f_X12_next H)).2 (rf_X12_fresh (iAdd 27 (H.1 32 2)) (f_X12_next H) (rf_X12_next H hr))))) ?_
            refine J_ifc (t := 133) jw hj rfl (evn rfl) rfl (fun (h7 : ¬ ((f_X12_puts (iAdd 24 (H.1 32 2)) 0 20 (f_X12_next (upI (upI (f_X12_takesName 20 ((f_X12_fresh (iAdd 27 (H.1 32 2)) (f_X12_next H)).2.1 32 0) (f_X12_fresh (iAdd 27 (H.1 32 2)) (f_X12_next H)).2).2 32 (iAdd 4 (H.1 32 2)).toNat ((f_X12_takesName 20 ((f_X12_fresh (iAdd 27 (H.1 32 2)) (f_X12_next H)).2.1 32 0) (f_X12_fresh (iAdd 27 (H.1 32 2)) (f_X12_next H)).2).2.1 29 18)) 32 (iAdd 14 (H.1 32 2)).toNat 1))).1) = 0) => ?_) (fun (h7 : ((f_X12_puts (iAdd 24 (H.1 32 2)) 0 20 (f_X12_next (upI (upI (f_X12_takesName 20 ((f_X12_fresh (iAdd 27 (H.1 32 2)) (f_X12_next H)).2.1 32 0) (f_X12_fresh (iAdd 27 (H.1 32 2)) (f_X12_next H)).2).2 32 (iAdd 4 (H.1 32 2)).toNat ((f_X12_takesName 20 ((f_X12_fresh (iAdd 27 (H.1 32 2)) (f_X12_next H)).2.1 32 0) (f_X12_fresh (iAdd 27 (H.1 32 2)) (f_X12_next H)).2).2.1 29 18)) 32 (iAdd 14 (H.1 32 2)).toNat 1))).1) = 0) => ?_)
            · refine J_ld 134 jw hj rfl rfl rfl rfl ?_
              refine J_lc (n := 1635213689) 137 jw hj rfl (Or.inr ⟨_, rfl, by decide +kernel, rfl⟩) ?_
              refine J_callV1 jw rfl (Or.inl ⟨_, rfl⟩) rfl rfl (sp_X12_isWord (g := g) 1635213689 (f_X12_puts (iAdd 24 (H.1 32 2)) 0 20 (f_X12_next (upI (upI (f_X12_takesName 20 ((f_X12_fresh (iAdd 27 (H.1 32 2)) (f_X12_next H)).2.1 32 0) (f_X12_fresh (iAdd 27 (H.1 32 2)) (f_X12_next H)).2).2 32 (iAdd 4 (H.1 32 2)).toNat ((f_X12_takesName 20 ((f_X12_fresh (iAdd 27 (H.1 32 2)) (f_X12_next H)).2.1 32 0) (f_X12_fresh (iAdd 27 (H.1 32 2)) (f_X12_next H)).2).2.1 29 18)) 32 (iAdd 14 (H.1 32 2)).toNat 1))).2) ?_
              refine J_ifc (t := 160) jw hj rfl (evn rfl) rfl (fun (h8 : f_X12_isWord 1635213689 (f_X12_puts (iAdd 24 (H.1 32 2)) 0 20 (f_X12_next (upI (upI (f_X12_takesName 20 ((f_X12_fresh (iAdd 27 (H.1 32 2)) (f_X12_next H)).2.1 32 0) (f_X12_fresh (iAdd 27 (H.1 32 2)) (f_X12_next H)).2).2 32 (iAdd 4 (H.1 32 2)).toNat ((f_X12_takesName 20 ((f_X12_fresh (iAdd 27 (H.1 32 2)) (f_X12_next H)).2.1 32 0) (f_X12_fresh (iAdd 27 (H.1 32 2)) (f_X12_next H)).2).2.1 29 18)) 32 (iAdd 14 (H.1 32 2)).toNat 1))).2 = 0) => ?_) (fun (h8 : ¬ f_X12_isWord 1635213689 (f_X12_puts (iAdd 24 (H.1 32 2)) 0 20 (f_X12_next (upI (upI (f_X12_takesName 20 ((f_X12_fresh (iAdd 27 (H.1 32 2)) (f_X12_next H)).2.1 32 0) (f_X12_fresh (iAdd 27 (H.1 32 2)) (f_X12_next H)).2).2 32 (iAdd 4 (H.1 32 2)).toNat ((f_X12_takesName 20 ((f_X12_fresh (iAdd 27 (H.1 32 2)) (f_X12_next H)).2.1 32 0) (f_X12_fresh (iAdd 27 (H.1 32 2)) (f_X12_next H)).2).2.1 29 18)) 32 (iAdd 14 (H.1 32 2)).toNat 1))).2 = 0) => ?_)
              · refine J_ld 161 jw hj rfl rfl rfl rfl ?_
                refine J_gfR (k := 32) jw hj rfl (evn rfl) (by decide) (by decide) (RMa (rf_X12_puts (iAdd 24 (H.1 32 2)) 0 20 (f_X12_next (upI (upI (f_X12_takesName 20 ((f_X12_fresh (iAdd 27 (H.1 32 2)) (f_X12_next H)).2.1 32 0) (f_X12_fresh (iAdd 27 (H.1 32 2)) (f_X12_next H)).2).2 32 (iAdd 4 (H.1 32 2)).toNat ((f_X12_takesName 20 ((f_X12_fresh (iAdd 27 (H.1 32 2)) (f_X12_next H)).2.1 32 0) (f_X12_fresh (iAdd 27 (H.1 32 2)) (f_X12_next H)).2).2.1 29 18)) 32 (iAdd 14 (H.1 32 2)).toNat 1)) (rf_X12_next (upI (upI (f_X12_takesName 20 ((f_X12_fresh (iAdd 27 (H.1 32 2)) (f_X12_next H)).2.1 32 0) (f_X12_fresh (iAdd 27 (H.1 32 2)) (f_X12_next H)).2).2 32 (iAdd 4 (H.1 32 2)).toNat ((f_X12_takesName 20 ((f_X12_fresh (iAdd 27 (H.1 32 2)) (f_X12_next H)).2.1 32 0) (f_X12_fresh (iAdd 27 (H.1 32 2)) (f_X12_next H)).2).2.1 29 18)) 32 (iAdd 14 (H.1 32 2)).toNat 1) (rf_X12_takesName 20 ((f_X12_fresh (iAdd 27 (H.1 32 2)) (f_X12_next H)).2.1 32 0) (f_X12_fresh (iAdd 27 (H.1 32 2)) (f_X12_next H)).2 (rf_X12_fresh (iAdd 27 (H.1 32 2)) (f_X12_next H) (rf_X12_next H hr))))) rfl) ?_
                refine J_cst 165 jw hj rfl rfl rfl ?_
                refine J_dup2 166 jw hj rfl rfl ?_
                refine J_iald jw hj rfl (Or.inl rfl) (fun z6 r6 => ?_)
                refine J_cst 168 jw hj rfl rfl rfl ?_
                refine J_bin jw hj rfl rfl ?_
                refine J_iast jw hj rfl (Or.inl rfl) (fun _ => ?_)
                refine J_cst 171 jw hj rfl rfl rfl ?_
                exact J_ret rfl (Or.inl rfl) (fun aw hR => by show _ ∧ _; unfold f_X12_readPerson; rw [if_neg h0, if_neg h1, if_neg h2, if_neg h3, if_neg h4, if_neg h7, if_pos h8]; exact ⟨rfl, hR⟩)
              · refine J_ld 144 jw hj rfl rfl rfl rfl ?_
                refine J_gfR (k := 32) jw hj rfl (evn rfl) (by decide) (by decide) (RMa (rf_X12_puts (iAdd 24 (H.1 32 2)) 0 20 (f_X12_next (upI (upI (f_X12_takesName 20 ((f_X12_fresh (iAdd 27 (H.1 32 2)) (f_X12_next H)).2.1 32 0) (f_X12_fresh (iAdd 27 (H.1 32 2)) (f_X12_next H)).2).2 32 (iAdd 4 (H.1 32 2)).toNat ((f_X12_takesName 20 ((f_X12_fresh (iAdd 27 (H.1 32 2)) (f_X12_next H)).2.1 32 0) (f_X12_fresh (iAdd 27 (H.1 32 2)) (f_X12_next H)).2).2.1 29 18)) 32 (iAdd 14 (H.1 32 2)).toNat 1)) (rf_X12_next (upI (upI (f_X12_takesName 20 ((f_X12_fresh (iAdd 27 (H.1 32 2)) (f_X12_next H)).2.1 32 0) (f_X12_fresh (iAdd 27 (H.1 32 2)) (f_X12_next H)).2).2 32 (iAdd 4 (H.1 32 2)).toNat ((f_X12_takesName 20 ((f_X12_fresh (iAdd 27 (H.1 32 2)) (f_X12_next H)).2.1 32 0) (f_X12_fresh (iAdd 27 (H.1 32 2)) (f_X12_next H)).2).2.1 29 18)) 32 (iAdd 14 (H.1 32 2)).toNat 1) (rf_X12_takesName 20 ((f_X12_fresh (iAdd 27 (H.1 32 2)) (f_X12_next H)).2.1 32 0) (f_X12_fresh (iAdd 27 (H.1 32 2)) (f_X12_next H)).2 (rf_X12_fresh (iAdd 27 (H.1 32 2)) (f_X12_next H) (rf_X12_next H hr))))) rfl) ?_
                refine J_cst 149 jw hj rfl rfl rfl ?_
                refine J_dup2 150 jw hj rfl rfl ?_
                refine J_iald jw hj rfl (Or.inl rfl) (fun z7 r7 => ?_)
                refine J_cst 152 jw hj rfl rfl rfl ?_
                refine J_ld 153 jw hj rfl rfl rfl rfl ?_
                refine J_bin jw hj rfl rfl ?_
                refine J_bin jw hj rfl rfl ?_
                refine J_iast jw hj rfl (Or.inl rfl) (fun _ => ?_)
                refine J_ld 157 jw hj rfl rfl rfl rfl ?_
                refine J_callV0 jw rfl (Or.inl ⟨_, rfl⟩) rfl rfl (sp_X12_next (g := g) (upI (f_X12_puts (iAdd 24 (H.1 32 2)) 0 20 (f_X12_next (upI (upI (f_X12_takesName 20 ((f_X12_fresh (iAdd 27 (H.1 32 2)) (f_X12_next H)).2.1 32 0) (f_X12_fresh (iAdd 27 (H.1 32 2)) (f_X12_next H)).2).2 32 (iAdd 4 (H.1 32 2)).toNat ((f_X12_takesName 20 ((f_X12_fresh (iAdd 27 (H.1 32 2)) (f_X12_next H)).2.1 32 0) (f_X12_fresh (iAdd 27 (H.1 32 2)) (f_X12_next H)).2).2.1 29 18)) 32 (iAdd 14 (H.1 32 2)).toNat 1))).2 32 34 (iOr ((f_X12_puts (iAdd 24 (H.1 32 2)) 0 20 (f_X12_next (upI (upI (f_X12_takesName 20 ((f_X12_fresh (iAdd 27 (H.1 32 2)) (f_X12_next H)).2.1 32 0) (f_X12_fresh (iAdd 27 (H.1 32 2)) (f_X12_next H)).2).2 32 (iAdd 4 (H.1 32 2)).toNat ((f_X12_takesName 20 ((f_X12_fresh (iAdd 27 (H.1 32 2)) (f_X12_next H)).2.1 32 0) (f_X12_fresh (iAdd 27 (H.1 32 2)) (f_X12_next H)).2).2.1 29 18)) 32 (iAdd 14 (H.1 32 2)).toNat 1))).2.1 32 34) (iShl 1 (H.1 32 2)))) (rf_X12_puts (iAdd 24 (H.1 32 2)) 0 20 (f_X12_next (upI (upI (f_X12_takesName 20 ((f_X12_fresh (iAdd 27 (H.1 32 2)) (f_X12_next H)).2.1 32 0) (f_X12_fresh (iAdd 27 (H.1 32 2)) (f_X12_next H)).2).2 32 (iAdd 4 (H.1 32 2)).toNat ((f_X12_takesName 20 ((f_X12_fresh (iAdd 27 (H.1 32 2)) (f_X12_next H)).2.1 32 0) (f_X12_fresh (iAdd 27 (H.1 32 2)) (f_X12_next H)).2).2.1 29 18)) 32 (iAdd 14 (H.1 32 2)).toNat 1)) (rf_X12_next (upI (upI (f_X12_takesName 20 ((f_X12_fresh (iAdd 27 (H.1 32 2)) (f_X12_next H)).2.1 32 0) (f_X12_fresh (iAdd 27 (H.1 32 2)) (f_X12_next H)).2).2 32 (iAdd 4 (H.1 32 2)).toNat ((f_X12_takesName 20 ((f_X12_fresh (iAdd 27 (H.1 32 2)) (f_X12_next H)).2.1 32 0) (f_X12_fresh (iAdd 27 (H.1 32 2)) (f_X12_next H)).2).2.1 29 18)) 32 (iAdd 14 (H.1 32 2)).toNat 1) (rf_X12_takesName 20 ((f_X12_fresh (iAdd 27 (H.1 32 2)) (f_X12_next H)).2.1 32 0) (f_X12_fresh (iAdd 27 (H.1 32 2)) (f_X12_next H)).2 (rf_X12_fresh (iAdd 27 (H.1 32 2)) (f_X12_next H) (rf_X12_next H hr)))))) ?_
                refine J_ld 161 jw hj rfl rfl rfl rfl ?_
                refine J_gfR (k := 32) jw hj rfl (evn rfl) (by decide) (by decide) (RMa (rf_X12_next (upI (f_X12_puts (iAdd 24 (H.1 32 2)) 0 20 (f_X12_next (upI (upI (f_X12_takesName 20 ((f_X12_fresh (iAdd 27 (H.1 32 2)) (f_X12_next H)).2.1 32 0) (f_X12_fresh (iAdd 27 (H.1 32 2)) (f_X12_next H)).2).2 32 (iAdd 4 (H.1 32 2)).toNat ((f_X12_takesName 20 ((f_X12_fresh (iAdd 27 (H.1 32 2)) (f_X12_next H)).2.1 32 0) (f_X12_fresh (iAdd 27 (H.1 32 2)) (f_X12_next H)).2).2.1 29 18)) 32 (iAdd 14 (H.1 32 2)).toNat 1))).2 32 34 (iOr ((f_X12_puts (iAdd 24 (H.1 32 2)) 0 20 (f_X12_next (upI (upI (f_X12_takesName 20 ((f_X12_fresh (iAdd 27 (H.1 32 2)) (f_X12_next H)).2.1 32 0) (f_X12_fresh (iAdd 27 (H.1 32 2)) (f_X12_next H)).2).2 32 (iAdd 4 (H.1 32 2)).toNat ((f_X12_takesName 20 ((f_X12_fresh (iAdd 27 (H.1 32 2)) (f_X12_next H)).2.1 32 0) (f_X12_fresh (iAdd 27 (H.1 32 2)) (f_X12_next H)).2).2.1 29 18)) 32 (iAdd 14 (H.1 32 2)).toNat 1))).2.1 32 34) (iShl 1 (H.1 32 2)))) (rf_X12_puts (iAdd 24 (H.1 32 2)) 0 20 (f_X12_next (upI (upI (f_X12_takesName 20 ((f_X12_fresh (iAdd 27 (H.1 32 2)) (f_X12_next H)).2.1 32 0) (f_X12_fresh (iAdd 27 (H.1 32 2)) (f_X12_next H)).2).2 32 (iAdd 4 (H.1 32 2)).toNat ((f_X12_takesName 20 ((f_X12_fresh (iAdd 27 (H.1 32 2)) (f_X12_next H)).2.1 32 0) (f_X12_fresh (iAdd 27 (H.1 32 2)) (f_X12_next H)).2).2.1 29 18)) 32 (iAdd 14 (H.1 32 2)).toNat 1)) (rf_X12_next (upI (upI (f_X12_takesName 20 ((f_X12_fresh (iAdd 27 (H.1 32 2)) (f_X12_next H)).2.1 32 0) (f_X12_fresh (iAdd 27 (H.1 32 2)) (f_X12_next H)).2).2 32 (iAdd 4 (H.1 32 2)).toNat ((f_X12_takesName 20 ((f_X12_fresh (iAdd 27 (H.1 32 2)) (f_X12_next H)).2.1 32 0) (f_X12_fresh (iAdd 27 (H.1 32 2)) (f_X12_next H)).2).2.1 29 18)) 32 (iAdd 14 (H.1 32 2)).toNat 1) (rf_X12_takesName 20 ((f_X12_fresh (iAdd 27 (H.1 32 2)) (f_X12_next H)).2.1 32 0) (f_X12_fresh (iAdd 27 (H.1 32 2)) (f_X12_next H)).2 (rf_X12_fresh (iAdd 27 (H.1 32 2)) (f_X12_next H) (rf_X12_next H hr)))))) rfl) ?_
                refine J_cst 165 jw hj rfl rfl rfl ?_
                refine J_dup2 166 jw hj rfl rfl ?_
                refine J_iald jw hj rfl (Or.inl rfl) (fun z8 r8 => ?_)
                refine J_cst 168 jw hj rfl rfl rfl ?_
                refine J_bin jw hj rfl rfl ?_
                refine J_iast jw hj rfl (Or.inl rfl) (fun _ => ?_)
                refine J_cst 171 jw hj rfl rfl rfl ?_
                exact J_ret rfl (Or.inl rfl) (fun aw hR => by show _ ∧ _; unfold f_X12_readPerson; rw [if_neg h0, if_neg h1, if_neg h2, if_neg h3, if_neg h4, if_neg h7, if_neg h8]; exact ⟨rfl, hR⟩)
            · refine J_cst 132 jw hj rfl rfl rfl ?_
              exact J_ret rfl (Or.inl rfl) (fun aw hR => by show _ ∧ _; unfold f_X12_readPerson; rw [if_neg h0, if_neg h1, if_neg h2, if_neg h3, if_neg h4, if_pos h7]; exact ⟨rfl, hR⟩)
        · refine J_ld 74 jw hj rfl rfl rfl rfl ?_
          refine J_lc (n := 512970547566) 77 jw hj rfl (Or.inr ⟨_, rfl, by decide +kernel, rfl⟩) ?_
          refine J_callV1 jw rfl (Or.inl ⟨_, rfl⟩) rfl rfl (sp_X12_isWord (g := g) 512970547566 (upI (f_X12_takesName 20 ((f_X12_fresh (iAdd 27 (H.1 32 2)) (f_X12_next H)).2.1 32 0) (f_X12_fresh (iAdd 27 (H.1 32 2)) (f_X12_next H)).2).2 32 (iAdd 4 (H.1 32 2)).toNat ((f_X12_takesName 20 ((f_X12_fresh (iAdd 27 (H.1 32 2)) (f_X12_next H)).2.1 32 0) (f_X12_fresh (iAdd 27 (H.1 32 2)) (f_X12_next H)).2).2.1 29 18))) ?_
          refine J_ifc (t := 89) jw hj rfl (evn rfl) rfl (fun (h9 : ¬ f_X12_isWord 512970547566 (f_X12_takesName 20 ((f_X12_fresh (iAdd 27 (H.1 32 2)) (f_X12_next H)).2.1 32 0) (f_X12_fresh (iAdd 27 (H.1 32 2)) (f_X12_next H)).2).2 = 0) => ?_) (fun (h9 : f_X12_isWord 512970547566 (f_X12_takesName 20 ((f_X12_fresh (iAdd 27 (H.1 32 2)) (f_X12_next H)).2.1 32 0) (f_X12_fresh (iAdd 27 (H.1 32 2)) (f_X12_next H)).2).2 = 0) => ?_)
          · refine J_ld 90 jw hj rfl rfl rfl rfl ?_
            refine J_gfR (k := 32) jw hj rfl (evn rfl) (by decide) (by decide) (RMa (rf_X12_takesName 20 ((f_X12_fresh (iAdd 27 (H.1 32 2)) (f_X12_next H)).2.1 32 0) (f_X12_fresh (iAdd 27 (H.1 32 2)) (f_X12_next H)).2 (rf_X12_fresh (iAdd 27 (H.1 32 2)) (f_X12_next H) (rf_X12_next H hr))) rfl) ?_
            refine J_cst 95 jw hj rfl rfl rfl ?_
            refine J_ld 96 jw hj rfl rfl rfl rfl ?_
            refine J_bin jw hj rfl rfl ?_
            refine J_ld 98 jw hj rfl rfl rfl rfl ?_
            refine J_lc (n := 512970547566) 101 jw hj rfl (Or.inr ⟨_, rfl, by decide +kernel, rfl⟩) ?_
            refine J_callV1 jw rfl (Or.inl ⟨_, rfl⟩) rfl rfl (sp_X12_isWord (g := g) 512970547566 (upI (f_X12_takesName 20 ((f_X12_fresh (iAdd 27 (H.1 32 2)) (f_X12_next H)).2.1 32 0) (f_X12_fresh (iAdd 27 (H.1 32 2)) (f_X12_next H)).2).2 32 (iAdd 4 (H.1 32 2)).toNat ((f_X12_takesName 20 ((f_X12_fresh (iAdd 27 (H.1 32 2)) (f_X12_next H)).2.1 32 0) (f_X12_fresh (iAdd 27 (H.1 32 2)) (f_X12_next H)).2).2.1 29 18))) ?_
            refine J_ifc (t := 111) jw hj rfl (evn rfl) rfl (fun (h10 : f_X12_isWord 512970547566 (f_X12_takesName 20 ((f_X12_fresh (iAdd 27 (H.1 32 2)) (f_X12_next H)).2.1 32 0) (f_X12_fresh (iAdd 27 (H.1 32 2)) (f_X12_next H)).2).2 = 0) => ?_) (fun (h10 : ¬ f_X12_isWord 512970547566 (f_X12_takesName 20 ((f_X12_fresh (iAdd 27 (H.1 32 2)) (f_X12_next H)).2.1 32 0) (f_X12_fresh (iAdd 27 (H.1 32 2)) (f_X12_next H)).2).2 = 0) => ?_)
            · refine J_cst 112 jw hj rfl rfl rfl ?_
              refine J_iast jw hj rfl (Or.inl rfl) (fun _ => ?_)
              refine J_ld 114 jw hj rfl rfl rfl rfl ?_
              refine J_callV0 jw rfl (Or.inl ⟨_, rfl⟩) rfl rfl (sp_X12_next (g := g) (upI (upI (f_X12_takesName 20 ((f_X12_fresh (iAdd 27 (H.1 32 2)) (f_X12_next H)).2.1 32 0) (f_X12_fresh (iAdd 27 (H.1 32 2)) (f_X12_next H)).2).2 32 (iAdd 4 (H.1 32 2)).toNat ((f_X12_takesName 20 ((f_X12_fresh (iAdd 27 (H.1 32 2)) (f_X12_next H)).2.1 32 0) (f_X12_fresh (iAdd 27 (H.1 32 2)) (f_X12_next H)).2).2.1 29 18)) 32 (iAdd 14 (H.1 32 2)).toNat 0) (rf_X12_takesName 20 ((f_X12_fresh (iAdd 27 (H.1 32 2)) (f_X12_next H)).2.1 32 0) (f_X12_fresh (iAdd 27 (H.1 32 2)) (f_X12_next H)).2 (rf_X12_fresh (iAdd 27 (H.1 32 2)) (f_X12_next H) (rf_X12_next H hr)))) ?_
              refine J_ld 118 jw hj rfl rfl rfl rfl ?_
              refine J_cst 120 jw hj rfl rfl rfl ?_
              refine J_ld 121 jw hj rfl rfl rfl rfl ?_
              refine J_bin jw hj rfl rfl ?_
              refine J_cst 123 jw hj rfl rfl rfl ?_
              refine J_cst 125 jw hj rfl rfl rfl ?_
              refine J_callV1 jw rfl (Or.inl ⟨_, rfl⟩) rfl rfl (sp_X12_puts (g := g) (iAdd 24 (H.1 32 2)) 0 20 (f_X12_next (upI (upI (f_X12_takesName 20 ((f_X12_fresh (iAdd 27 (H.1 32 2)) (f_X12_next H)).2.1 32 0) (f_X12_fresh (iAdd 27 (H.1 32 2)) (f_X12_next H)).2).2 32 (iAdd 4 (H.1 32 2)).toNat ((f_X12_takesName 20 ((f_X12_fresh (iAdd 27 (H.1 32 2)) (f_X12_next H)).2.1 32 0) (f_X12_fresh (iAdd 27 (H.1 32 2)) (f_X12_next H)).2).2.1 29 18)) 32 (iAdd 14 (H.1 32 2)).toNat 0)) (rf_X12_next (upI (upI (f_X12_takesName 20 ((f_X12_fresh (iAdd 27 (H.1 32 2)) (f_X12_next H)).2.1 32 0) (f_X12_fresh (iAdd 27 (H.1 32 2)) (f_X12_next H)).2).2 32 (iAdd 4 (H.1 32 2)).toNat ((f_X12_takesName 20 ((f_X12_fresh (iAdd 27 (H.1 32 2)) (f_X12_next H)).2.1 32 0) (f_X12_fresh (iAdd 27 (H.1 32 2)) (f_X12_next H)).2).2.1 29 18)) 32 (iAdd 14 (H.1 32 2)).toNat 0) (rf_X12_takesName 20 ((f_X12_fresh (iAdd 27 (H.1 32 2)) (f_X12_next H)).2.1 32 0) (f_X12_fresh (iAdd 27 (H.1 32 2)) (f_X12_next H)).2 (rf_X12_fresh (iAdd 27 (H.1 32 2)) (f_X12_next H) (rf_X12_next H hr))))) ?_
              refine J_ifc (t := 133) jw hj rfl (evn rfl) rfl (fun (h11 : ¬ ((f_X12_puts (iAdd 24 (H.1 32 2)) 0 20 (f_X12_next (upI (upI (f_X12_takesName 20 ((f_X12_fresh (iAdd 27 (H.1 32 2)) (f_X12_next H)).2.1 32 0) (f_X12_fresh (iAdd 27 (H.1 32 2)) (f_X12_next H)).2).2 32 (iAdd 4 (H.1 32 2)).toNat ((f_X12_takesName 20 ((f_X12_fresh (iAdd 27 (H.1 32 2)) (f_X12_next H)).2.1 32 0) (f_X12_fresh (iAdd 27 (H.1 32 2)) (f_X12_next H)).2).2.1 29 18)) 32 (iAdd 14 (H.1 32 2)).toNat 0))).1) = 0) => ?_) (fun (h11 : ((f_X12_puts (iAdd 24 (H.1 32 2)) 0 20 (f_X12_next (upI (upI (f_X12_takesName 20 ((f_X12_fresh (iAdd 27 (H.1 32 2)) (f_X12_next H)).2.1 32 0) (f_X12_fresh (iAdd 27 (H.1 32 2)) (f_X12_next H)).2).2 32 (iAdd 4 (H.1 32 2)).toNat ((f_X12_takesName 20 ((f_X12_fresh (iAdd 27 (H.1 32 2)) (f_X12_next H)).2.1 32 0) (f_X12_fresh (iAdd 27 (H.1 32 2)) (f_X12_next H)).2).2.1 29 18)) 32 (iAdd 14 (H.1 32 2)).toNat 0))).1) = 0) => ?_)
              · refine J_ld 134 jw hj rfl rfl rfl rfl ?_
                refine J_lc (n := 1635213689) 137 jw hj rfl (Or.inr ⟨_, rfl, by decide +kernel, rfl⟩) ?_
                refine J_callV1 jw rfl (Or.inl ⟨_, rfl⟩) rfl rfl (sp_X12_isWord (g := g) 1635213689 (f_X12_puts (iAdd 24 (H.1 32 2)) 0 20 (f_X12_next (upI (upI (f_X12_takesName 20 ((f_X12_fresh (iAdd 27 (H.1 32 2)) (f_X12_next H)).2.1 32 0) (f_X12_fresh (iAdd 27 (H.1 32 2)) (f_X12_next H)).2).2 32 (iAdd 4 (H.1 32 2)).toNat ((f_X12_takesName 20 ((f_X12_fresh (iAdd 27 (H.1 32 2)) (f_X12_next H)).2.1 32 0) (f_X12_fresh (iAdd 27 (H.1 32 2)) (f_X12_next H)).2).2.1 29 18)) 32 (iAdd 14 (H.1 32 2)).toNat 0))).2) ?_
                refine J_ifc (t := 160) jw hj rfl (evn rfl) rfl (fun (h12 : f_X12_isWord 1635213689 (f_X12_puts (iAdd 24 (H.1 32 2)) 0 20 (f_X12_next (upI (upI (f_X12_takesName 20 ((f_X12_fresh (iAdd 27 (H.1 32 2)) (f_X12_next H)).2.1 32 0) (f_X12_fresh (iAdd 27 (H.1 32 2)) (f_X12_next H)).2).2 32 (iAdd 4 (H.1 32 2)).toNat ((f_X12_takesName 20 ((f_X12_fresh (iAdd 27 (H.1 32 2)) (f_X12_next H)).2.1 32 0) (f_X12_fresh (iAdd 27 (H.1 32 2)) (f_X12_next H)).2).2.1 29 18)) 32 (iAdd 14 (H.1 32 2)).toNat 0))).2 = 0) => ?_) (fun (h12 : ¬ f_X12_isWord 1635213689 (f_X12_puts (iAdd 24 (H.1 32 2)) 0 20 (f_X12_next (upI (upI (f_X12_takesName 20 ((f_X12_fresh (iAdd 27 (H.1 32 2)) (f_X12_next H)).2.1 32 0) (f_X12_fresh (iAdd 27 (H.1 32 2)) (f_X12_next H)).2).2 32 (iAdd 4 (H.1 32 2)).toNat ((f_X12_takesName 20 ((f_X12_fresh (iAdd 27 (H.1 32 2)) (f_X12_next H)).2.1 32 0) (f_X12_fresh (iAdd 27 (H.1 32 2)) (f_X12_next H)).2).2.1 29 18)) 32 (iAdd 14 (H.1 32 2)).toNat 0))).2 = 0) => ?_)
                · refine J_ld 161 jw hj rfl rfl rfl rfl ?_
                  refine J_gfR (k := 32) jw hj rfl (evn rfl) (by decide) (by decide) (RMa (rf_X12_puts (iAdd 24 (H.1 32 2)) 0 20 (f_X12_next (upI (upI (f_X12_takesName 20 ((f_X12_fresh (iAdd 27 (H.1 32 2)) (f_X12_next H)).2.1 32 0) (f_X12_fresh (iAdd 27 (H.1 32 2)) (f_X12_next H)).2).2 32 (iAdd 4 (H.1 32 2)).toNat ((f_X12_takesName 20 ((f_X12_fresh (iAdd 27 (H.1 32 2)) (f_X12_next H)).2.1 32 0) (f_X12_fresh (iAdd 27 (H.1 32 2)) (f_X12_next H)).2).2.1 29 18)) 32 (iAdd 14 (H.1 32 2)).toNat 0)) (rf_X12_next (upI (upI (f_X12_takesName 20 ((f_X12_fresh (iAdd 27 (H.1 32 2)) (f_X12_next H)).2.1 32 0) (f_X12_fresh (iAdd 27 (H.1 32 2)) (f_X12_next H)).2).2 32 (iAdd 4 (H.1 32 2)).toNat ((f_X12_takesName 20 ((f_X12_fresh (iAdd 27 (H.1 32 2)) (f_X12_next H)).2.1 32 0) (f_X12_fresh (iAdd 27 (H.1 32 2)) (f_X12_next H)).2).2.1 29 18)) 32 (iAdd 14 (H.1 32 2)).toNat 0) (rf_X12_takesName 20 ((f_X12_fresh (iAdd 27 (H.1 32 2)) (f_X12_next H)).2.1 32 0) (f_X12_fresh (iAdd 27 (H.1 32 2)) (f_X12_next H)).2 (rf_X12_fresh (iAdd 27 (H.1 32 2)) (f_X12_next H) (rf_X12_next H hr))))) rfl) ?_
                  refine J_cst 165 jw hj rfl rfl rfl ?_
                  refine J_dup2 166 jw hj rfl rfl ?_
                  refine J_iald jw hj rfl (Or.inl rfl) (fun z9 r9 => ?_)
                  refine J_cst 168 jw hj rfl rfl rfl ?_
                  refine J_bin jw hj rfl rfl ?_
                  refine J_iast jw hj rfl (Or.inl rfl) (fun _ => ?_)
                  refine J_cst 171 jw hj rfl rfl rfl ?_
                  exact J_ret rfl (Or.inl rfl) (fun aw hR => by show _ ∧ _; unfold f_X12_readPerson; rw [if_neg h0, if_neg h1, if_neg h2, if_pos h3, if_neg h9, if_pos h10, if_neg h11, if_pos h12]; exact ⟨rfl, hR⟩)
                · refine J_ld 144 jw hj rfl rfl rfl rfl ?_
                  refine J_gfR (k := 32) jw hj rfl (evn rfl) (by decide) (by decide) (RMa (rf_X12_puts (iAdd 24 (H.1 32 2)) 0 20 (f_X12_next (upI (upI (f_X12_takesName 20 ((f_X12_fresh (iAdd 27 (H.1 32 2)) (f_X12_next H)).2.1 32 0) (f_X12_fresh (iAdd 27 (H.1 32 2)) (f_X12_next H)).2).2 32 (iAdd 4 (H.1 32 2)).toNat ((f_X12_takesName 20 ((f_X12_fresh (iAdd 27 (H.1 32 2)) (f_X12_next H)).2.1 32 0) (f_X12_fresh (iAdd 27 (H.1 32 2)) (f_X12_next H)).2).2.1 29 18)) 32 (iAdd 14 (H.1 32 2)).toNat 0)) (rf_X12_next (upI (upI (f_X12_takesName 20 ((f_X12_fresh (iAdd 27 (H.1 32 2)) (f_X12_next H)).2.1 32 0) (f_X12_fresh (iAdd 27 (H.1 32 2)) (f_X12_next H)).2).2 32 (iAdd 4 (H.1 32 2)).toNat ((f_X12_takesName 20 ((f_X12_fresh (iAdd 27 (H.1 32 2)) (f_X12_next H)).2.1 32 0) (f_X12_fresh (iAdd 27 (H.1 32 2)) (f_X12_next H)).2).2.1 29 18)) 32 (iAdd 14 (H.1 32 2)).toNat 0) (rf_X12_takesName 20 ((f_X12_fresh (iAdd 27 (H.1 32 2)) (f_X12_next H)).2.1 32 0) (f_X12_fresh (iAdd 27 (H.1 32 2)) (f_X12_next H)).2 (rf_X12_fresh (iAdd 27 (H.1 32 2)) (f_X12_next H) (rf_X12_next H hr))))) rfl) ?_
                  refine J_cst 149 jw hj rfl rfl rfl ?_
                  refine J_dup2 150 jw hj rfl rfl ?_
                  refine J_iald jw hj rfl (Or.inl rfl) (fun z10 r10 => ?_)
                  refine J_cst 152 jw hj rfl rfl rfl ?_
                  refine J_ld 153 jw hj rfl rfl rfl rfl ?_
                  refine J_bin jw hj rfl rfl ?_
                  refine J_bin jw hj rfl rfl ?_
                  refine J_iast jw hj rfl (Or.inl rfl) (fun _ => ?_)
                  refine J_ld 157 jw hj rfl rfl rfl rfl ?_
                  refine J_callV0 jw rfl (Or.inl ⟨_, rfl⟩) rfl rfl (sp_X12_next (g := g) (upI (f_X12_puts (iAdd 24 (H.1 32 2)) 0 20 (f_X12_next (upI (upI (f_X12_takesName 20 ((f_X12_fresh (iAdd 27 (H.1 32 2)) (f_X12_next H)).2.1 32 0) (f_X12_fresh (iAdd 27 (H.1 32 2)) (f_X12_next H)).2).2 32 (iAdd 4 (H.1 32 2)).toNat ((f_X12_takesName 20 ((f_X12_fresh (iAdd 27 (H.1 32 2)) (f_X12_next H)).2.1 32 0) (f_X12_fresh (iAdd 27 (H.1 32 2)) (f_X12_next H)).2).2.1 29 18)) 32 (iAdd 14 (H.1 32 2)).toNat 0))).2 32 34 (iOr ((f_X12_puts (iAdd 24 (H.1 32 2)) 0 20 (f_X12_next (upI (upI (f_X12_takesName 20 ((f_X12_fresh (iAdd 27 (H.1 32 2)) (f_X12_next H)).2.1 32 0) (f_X12_fresh (iAdd 27 (H.1 32 2)) (f_X12_next H)).2).2 32 (iAdd 4 (H.1 32 2)).toNat ((f_X12_takesName 20 ((f_X12_fresh (iAdd 27 (H.1 32 2)) (f_X12_next H)).2.1 32 0) (f_X12_fresh (iAdd 27 (H.1 32 2)) (f_X12_next H)).2).2.1 29 18)) 32 (iAdd 14 (H.1 32 2)).toNat 0))).2.1 32 34) (iShl 1 (H.1 32 2)))) (rf_X12_puts (iAdd 24 (H.1 32 2)) 0 20 (f_X12_next (upI (upI (f_X12_takesName 20 ((f_X12_fresh (iAdd 27 (H.1 32 2)) (f_X12_next H)).2.1 32 0) (f_X12_fresh (iAdd 27 (H.1 32 2)) (f_X12_next H)).2).2 32 (iAdd 4 (H.1 32 2)).toNat ((f_X12_takesName 20 ((f_X12_fresh (iAdd 27 (H.1 32 2)) (f_X12_next H)).2.1 32 0) (f_X12_fresh (iAdd 27 (H.1 32 2)) (f_X12_next H)).2).2.1 29 18)) 32 (iAdd 14 (H.1 32 2)).toNat 0)) (rf_X12_next (upI (upI (f_X12_takesName 20 ((f_X12_fresh (iAdd 27 (H.1 32 2)) (f_X12_next H)).2.1 32 0) (f_X12_fresh (iAdd 27 (H.1 32 2)) (f_X12_next H)).2).2 32 (iAdd 4 (H.1 32 2)).toNat ((f_X12_takesName 20 ((f_X12_fresh (iAdd 27 (H.1 32 2)) (f_X12_next H)).2.1 32 0) (f_X12_fresh (iAdd 27 (H.1 32 2)) (f_X12_next H)).2).2.1 29 18)) 32 (iAdd 14 (H.1 32 2)).toNat 0) (rf_X12_takesName 20 ((f_X12_fresh (iAdd 27 (H.1 32 2)) (f_X12_next H)).2.1 32 0) (f_X12_fresh (iAdd 27 (H.1 32 2)) (f_X12_next H)).2 (rf_X12_fresh (iAdd 27 (H.1 32 2)) (f_X12_next H) (rf_X12_next H hr)))))) ?_
                  refine J_ld 161 jw hj rfl rfl rfl rfl ?_
                  refine J_gfR (k := 32) jw hj rfl (evn rfl) (by decide) (by decide) (RMa (rf_X12_next (upI (f_X12_puts (iAdd 24 (H.1 32 2)) 0 20 (f_X12_next (upI (upI (f_X12_takesName 20 ((f_X12_fresh (iAdd 27 (H.1 32 2)) (f_X12_next H)).2.1 32 0) (f_X12_fresh (iAdd 27 (H.1 32 2)) (f_X12_next H)).2).2 32 (iAdd 4 (H.1 32 2)).toNat ((f_X12_takesName 20 ((f_X12_fresh (iAdd 27 (H.1 32 2)) (f_X12_next H)).2.1 32 0) (f_X12_fresh (iAdd 27 (H.1 32 2)) (f_X12_next H)).2).2.1 29 18)) 32 (iAdd 14 (H.1 32 2)).toNat 0))).2 32 34 (iOr ((f_X12_puts (iAdd 24 (H.1 32 2)) 0 20 (f_X12_next (upI (upI (f_X12_takesName 20 ((f_X12_fresh (iAdd 27 (H.1 32 2)) (f_X12_next H)).2.1 32 0) (f_X12_fresh (iAdd 27 (H.1 32 2)) (f_X12_next H)).2).2 32 (iAdd 4 (H.1 32 2)).toNat ((f_X12_takesName 20 ((f_X12_fresh (iAdd 27 (H.1 32 2)) (f_X12_next H)).2.1 32 0) (f_X12_fresh (iAdd 27 (H.1 32 2)) (f_X12_next H)).2).2.1 29 18)) 32 (iAdd 14 (H.1 32 2)).toNat 0))).2.1 32 34) (iShl 1 (H.1 32 2)))) (rf_X12_puts (iAdd 24 (H.1 32 2)) 0 20 (f_X12_next (upI (upI (f_X12_takesName 20 ((f_X12_fresh (iAdd 27 (H.1 32 2)) (f_X12_next H)).2.1 32 0) (f_X12_fresh (iAdd 27 (H.1 32 2)) (f_X12_next H)).2).2 32 (iAdd 4 (H.1 32 2)).toNat ((f_X12_takesName 20 ((f_X12_fresh (iAdd 27 (H.1 32 2)) (f_X12_next H)).2.1 32 0) (f_X12_fresh (iAdd 27 (H.1 32 2)) (f_X12_next H)).2).2.1 29 18)) 32 (iAdd 14 (H.1 32 2)).toNat 0)) (rf_X12_next (upI (upI (f_X12_takesName 20 ((f_X12_fresh (iAdd 27 (H.1 32 2)) (f_X12_next H)).2.1 32 0) (f_X12_fresh (iAdd 27 (H.1 32 2)) (f_X12_next H)).2).2 32 (iAdd 4 (H.1 32 2)).toNat ((f_X12_takesName 20 ((f_X12_fresh (iAdd 27 (H.1 32 2)) (f_X12_next H)).2.1 32 0) (f_X12_fresh (iAdd 27 (H.1 32 2)) (f_X12_next H)).2).2.1 29 18)) 32 (iAdd 14 (H.1 32 2)).toNat 0) (rf_X12_takesName 20 ((f_X12_fresh (iAdd 27 (H.1 32 2)) (f_X12_next H)).2.1 32 0) (f_X12_fresh (iAdd 27 (H.1 32 2)) (f_X12_next H)).2 (rf_X12_fresh (iAdd 27 (H.1 32 2)) (f_X12_next H) (rf_X12_next H hr)))))) rfl) ?_
                  refine J_cst 165 jw hj rfl rfl rfl ?_
                  refine J_dup2 166 jw hj rfl rfl ?_
                  refine J_iald jw hj rfl (Or.inl rfl) (fun z11 r11 => ?_)
                  refine J_cst 168 jw hj rfl rfl rfl ?_
                  refine J_bin jw hj rfl rfl ?_
                  refine J_iast jw hj rfl (Or.inl rfl) (fun _ => ?_)
                  refine J_cst 171 jw hj rfl rfl rfl ?_
                  exact J_ret rfl (Or.inl rfl) (fun aw hR => by show _ ∧ _; unfold f_X12_readPerson; rw [if_neg h0, if_neg h1, if_neg h2, if_pos h3, if_neg h9, if_pos h10, if_neg h11, if_neg h12]; exact ⟨rfl, hR⟩)
              · refine J_cst 132 jw hj rfl rfl rfl ?_
                exact J_ret rfl (Or.inl rfl) (fun aw hR => by show _ ∧ _; unfold f_X12_readPerson; rw [if_neg h0, if_neg h1, if_neg h2, if_pos h3, if_neg h9, if_pos h10, if_pos h11]; exact ⟨rfl, hR⟩)
            · refine J_cst 108 jw hj rfl rfl rfl ?_
              refine J_goto 112 jw hj rfl rfl ?_
              refine J_iast jw hj rfl (Or.inl rfl) (fun _ => ?_)
              refine J_ld 114 jw hj rfl rfl rfl rfl ?_
              refine J_callV0 jw rfl (Or.inl ⟨_, rfl⟩) rfl rfl (sp_X12_next (g := g) (upI (upI (f_X12_takesName 20 ((f_X12_fresh (iAdd 27 (H.1 32 2)) (f_X12_next H)).2.1 32 0) (f_X12_fresh (iAdd 27 (H.1 32 2)) (f_X12_next H)).2).2 32 (iAdd 4 (H.1 32 2)).toNat ((f_X12_takesName 20 ((f_X12_fresh (iAdd 27 (H.1 32 2)) (f_X12_next H)).2.1 32 0) (f_X12_fresh (iAdd 27 (H.1 32 2)) (f_X12_next H)).2).2.1 29 18)) 32 (iAdd 14 (H.1 32 2)).toNat 1) (rf_X12_takesName 20 ((f_X12_fresh (iAdd 27 (H.1 32 2)) (f_X12_next H)).2.1 32 0) (f_X12_fresh (iAdd 27 (H.1 32 2)) (f_X12_next H)).2 (rf_X12_fresh (iAdd 27 (H.1 32 2)) (f_X12_next H) (rf_X12_next H hr)))) ?_
              refine J_ld 118 jw hj rfl rfl rfl rfl ?_
              refine J_cst 120 jw hj rfl rfl rfl ?_
              refine J_ld 121 jw hj rfl rfl rfl rfl ?_
              refine J_bin jw hj rfl rfl ?_
              refine J_cst 123 jw hj rfl rfl rfl ?_
              refine J_cst 125 jw hj rfl rfl rfl ?_
              refine J_callV1 jw rfl (Or.inl ⟨_, rfl⟩) rfl rfl (sp_X12_puts (g := g) (iAdd 24 (H.1 32 2)) 0 20 (f_X12_next (upI (upI (f_X12_takesName 20 ((f_X12_fresh (iAdd 27 (H.1 32 2)) (f_X12_next H)).2.1 32 0) (f_X12_fresh (iAdd 27 (H.1 32 2)) (f_X12_next H)).2).2 32 (iAdd 4 (H.1 32 2)).toNat ((f_X12_takesName 20 ((f_X12_fresh (iAdd 27 (H.1 32 2)) (f_X12_next H)).2.1 32 0) (f_X12_fresh (iAdd 27 (H.1 32 2)) (f_X12_next H)).2).2.1 29 18)) 32 (iAdd 14 (H.1 32 2)).toNat 1)) (rf_X12_next (upI (upI (f_X12_takesName 20 ((f_X12_fresh (iAdd 27 (H.1 32 2)) (f_X12_next H)).2.1 32 0) (f_X12_fresh (iAdd 27 (H.1 32 2)) (f_X12_next H)).2).2 32 (iAdd 4 (H.1 32 2)).toNat ((f_X12_takesName 20 ((f_X12_fresh (iAdd 27 (H.1 32 2)) (f_X12_next H)).2.1 32 0) (f_X12_fresh (iAdd 27 (H.1 32 2)) (f_X12_next H)).2).2.1 29 18)) 32 (iAdd 14 (H.1 32 2)).toNat 1) (rf_X12_takesName 20 ((f_X12_fresh (iAdd 27 (H.1 32 2)) (f_X12_next H)).2.1 32 0) (f_X12_fresh (iAdd 27 (H.1 32 2)) (f_X12_next H)).2 (rf_X12_fresh (iAdd 27 (H.1 32 2)) (f_X12_next H) (rf_X12_next H hr))))) ?_
              refine J_ifc (t := 133) jw hj rfl (evn rfl) rfl (fun (h13 : ¬ ((f_X12_puts (iAdd 24 (H.1 32 2)) 0 20 (f_X12_next (upI (upI (f_X12_takesName 20 ((f_X12_fresh (iAdd 27 (H.1 32 2)) (f_X12_next H)).2.1 32 0) (f_X12_fresh (iAdd 27 (H.1 32 2)) (f_X12_next H)).2).2 32 (iAdd 4 (H.1 32 2)).toNat ((f_X12_takesName 20 ((f_X12_fresh (iAdd 27 (H.1 32 2)) (f_X12_next H)).2.1 32 0) (f_X12_fresh (iAdd 27 (H.1 32 2)) (f_X12_next H)).2).2.1 29 18)) 32 (iAdd 14 (H.1 32 2)).toNat 1))).1) = 0) => ?_) (fun (h13 : ((f_X12_puts (iAdd 24 (H.1 32 2)) 0 20 (f_X12_next (upI (upI (f_X12_takesName 20 ((f_X12_fresh (iAdd 27 (H.1 32 2)) (f_X12_next H)).2.1 32 0) (f_X12_fresh (iAdd 27 (H.1 32 2)) (f_X12_next H)).2).2 32 (iAdd 4 (H.1 32 2)).toNat ((f_X12_takesName 20 ((f_X12_fresh (iAdd 27 (H.1 32 2)) (f_X12_next H)).2.1 32 0) (f_X12_fresh (iAdd 27 (H.1 32 2)) (f_X12_next H)).2).2.1 29 18)) 32 (iAdd 14 (H.1 32 2)).toNat 1))).1) = 0) => ?_)
              · refine J_ld 134 jw hj rfl rfl rfl rfl ?_
                refine J_lc (n := 1635213689) 137 jw hj rfl (Or.inr ⟨_, rfl, by decide +kernel, rfl⟩) ?_
                refine J_callV1 jw rfl (Or.inl ⟨_, rfl⟩) rfl rfl (sp_X12_isWord (g := g) 1635213689 (f_X12_puts (iAdd 24 (H.1 32 2)) 0 20 (f_X12_next (upI (upI (f_X12_takesName 20 ((f_X12_fresh (iAdd 27 (H.1 32 2)) (f_X12_next H)).2.1 32 0) (f_X12_fresh (iAdd 27 (H.1 32 2)) (f_X12_next H)).2).2 32 (iAdd 4 (H.1 32 2)).toNat ((f_X12_takesName 20 ((f_X12_fresh (iAdd 27 (H.1 32 2)) (f_X12_next H)).2.1 32 0) (f_X12_fresh (iAdd 27 (H.1 32 2)) (f_X12_next H)).2).2.1 29 18)) 32 (iAdd 14 (H.1 32 2)).toNat 1))).2) ?_
                refine J_ifc (t := 160) jw hj rfl (evn rfl) rfl (fun (h14 : f_X12_isWord 1635213689 (f_X12_puts (iAdd 24 (H.1 32 2)) 0 20 (f_X12_next (upI (upI (f_X12_takesName 20 ((f_X12_fresh (iAdd 27 (H.1 32 2)) (f_X12_next H)).2.1 32 0) (f_X12_fresh (iAdd 27 (H.1 32 2)) (f_X12_next H)).2).2 32 (iAdd 4 (H.1 32 2)).toNat ((f_X12_takesName 20 ((f_X12_fresh (iAdd 27 (H.1 32 2)) (f_X12_next H)).2.1 32 0) (f_X12_fresh (iAdd 27 (H.1 32 2)) (f_X12_next H)).2).2.1 29 18)) 32 (iAdd 14 (H.1 32 2)).toNat 1))).2 = 0) => ?_) (fun (h14 : ¬ f_X12_isWord 1635213689 (f_X12_puts (iAdd 24 (H.1 32 2)) 0 20 (f_X12_next (upI (upI (f_X12_takesName 20 ((f_X12_fresh (iAdd 27 (H.1 32 2)) (f_X12_next H)).2.1 32 0) (f_X12_fresh (iAdd 27 (H.1 32 2)) (f_X12_next H)).2).2 32 (iAdd 4 (H.1 32 2)).toNat ((f_X12_takesName 20 ((f_X12_fresh (iAdd 27 (H.1 32 2)) (f_X12_next H)).2.1 32 0) (f_X12_fresh (iAdd 27 (H.1 32 2)) (f_X12_next H)).2).2.1 29 18)) 32 (iAdd 14 (H.1 32 2)).toNat 1))).2 = 0) => ?_)
                · refine J_ld 161 jw hj rfl rfl rfl rfl ?_
                  refine J_gfR (k := 32) jw hj rfl (evn rfl) (by decide) (by decide) (RMa (rf_X12_puts (iAdd 24 (H.1 32 2)) 0 20 (f_X12_next (upI (upI (f_X12_takesName 20 ((f_X12_fresh (iAdd 27 (H.1 32 2)) (f_X12_next H)).2.1 32 0) (f_X12_fresh (iAdd 27 (H.1 32 2)) (f_X12_next H)).2).2 32 (iAdd 4 (H.1 32 2)).toNat ((f_X12_takesName 20 ((f_X12_fresh (iAdd 27 (H.1 32 2)) (f_X12_next H)).2.1 32 0) (f_X12_fresh (iAdd 27 (H.1 32 2)) (f_X12_next H)).2).2.1 29 18)) 32 (iAdd 14 (H.1 32 2)).toNat 1)) (rf_X12_next (upI (upI (f_X12_takesName 20 ((f_X12_fresh (iAdd 27 (H.1 32 2)) (f_X12_next H)).2.1 32 0) (f_X12_fresh (iAdd 27 (H.1 32 2)) (f_X12_next H)).2).2 32 (iAdd 4 (H.1 32 2)).toNat ((f_X12_takesName 20 ((f_X12_fresh (iAdd 27 (H.1 32 2)) (f_X12_next H)).2.1 32 0) (f_X12_fresh (iAdd 27 (H.1 32 2)) (f_X12_next H)).2).2.1 29 18)) 32 (iAdd 14 (H.1 32 2)).toNat 1) (rf_X12_takesName 20 ((f_X12_fresh (iAdd 27 (H.1 32 2)) (f_X12_next H)).2.1 32 0) (f_X12_fresh (iAdd 27 (H.1 32 2)) (f_X12_next H)).2 (rf_X12_fresh (iAdd 27 (H.1 32 2)) (f_X12_next H) (rf_X12_next H hr))))) rfl) ?_
                  refine J_cst 165 jw hj rfl rfl rfl ?_
                  refine J_dup2 166 jw hj rfl rfl ?_
                  refine J_iald jw hj rfl (Or.inl rfl) (fun z12 r12 => ?_)
                  refine J_cst 168 jw hj rfl rfl rfl ?_
                  refine J_bin jw hj rfl rfl ?_
                  refine J_iast jw hj rfl (Or.inl rfl) (fun _ => ?_)
                  refine J_cst 171 jw hj rfl rfl rfl ?_
                  exact J_ret rfl (Or.inl rfl) (fun aw hR => by show _ ∧ _; unfold f_X12_readPerson; rw [if_neg h0, if_neg h1, if_neg h2, if_pos h3, if_neg h9, if_neg h10, if_neg h13, if_pos h14]; exact ⟨rfl, hR⟩)
                · refine J_ld 144 jw hj rfl rfl rfl rfl ?_
                  refine J_gfR (k := 32) jw hj rfl (evn rfl) (by decide) (by decide) (RMa (rf_X12_puts (iAdd 24 (H.1 32 2)) 0 20 (f_X12_next (upI (upI (f_X12_takesName 20 ((f_X12_fresh (iAdd 27 (H.1 32 2)) (f_X12_next H)).2.1 32 0) (f_X12_fresh (iAdd 27 (H.1 32 2)) (f_X12_next H)).2).2 32 (iAdd 4 (H.1 32 2)).toNat ((f_X12_takesName 20 ((f_X12_fresh (iAdd 27 (H.1 32 2)) (f_X12_next H)).2.1 32 0) (f_X12_fresh (iAdd 27 (H.1 32 2)) (f_X12_next H)).2).2.1 29 18)) 32 (iAdd 14 (H.1 32 2)).toNat 1)) (rf_X12_next (upI (upI (f_X12_takesName 20 ((f_X12_fresh (iAdd 27 (H.1 32 2)) (f_X12_next H)).2.1 32 0) (f_X12_fresh (iAdd 27 (H.1 32 2)) (f_X12_next H)).2).2 32 (iAdd 4 (H.1 32 2)).toNat ((f_X12_takesName 20 ((f_X12_fresh (iAdd 27 (H.1 32 2)) (f_X12_next H)).2.1 32 0) (f_X12_fresh (iAdd 27 (H.1 32 2)) (f_X12_next H)).2).2.1 29 18)) 32 (iAdd 14 (H.1 32 2)).toNat 1) (rf_X12_takesName 20 ((f_X12_fresh (iAdd 27 (H.1 32 2)) (f_X12_next H)).2.1 32 0) (f_X12_fresh (iAdd 27 (H.1 32 2)) (f_X12_next H)).2 (rf_X12_fresh (iAdd 27 (H.1 32 2)) (f_X12_next H) (rf_X12_next H hr))))) rfl) ?_
                  refine J_cst 149 jw hj rfl rfl rfl ?_
                  refine J_dup2 150 jw hj rfl rfl ?_
                  refine J_iald jw hj rfl (Or.inl rfl) (fun z13 r13 => ?_)
                  refine J_cst 152 jw hj rfl rfl rfl ?_
                  refine J_ld 153 jw hj rfl rfl rfl rfl ?_
                  refine J_bin jw hj rfl rfl ?_
                  refine J_bin jw hj rfl rfl ?_
                  refine J_iast jw hj rfl (Or.inl rfl) (fun _ => ?_)
                  refine J_ld 157 jw hj rfl rfl rfl rfl ?_
                  refine J_callV0 jw rfl (Or.inl ⟨_, rfl⟩) rfl rfl (sp_X12_next (g := g) (upI (f_X12_puts (iAdd 24 (H.1 32 2)) 0 20 (f_X12_next (upI (upI (f_X12_takesName 20 ((f_X12_fresh (iAdd 27 (H.1 32 2)) (f_X12_next H)).2.1 32 0) (f_X12_fresh (iAdd 27 (H.1 32 2)) (f_X12_next H)).2).2 32 (iAdd 4 (H.1 32 2)).toNat ((f_X12_takesName 20 ((f_X12_fresh (iAdd 27 (H.1 32 2)) (f_X12_next H)).2.1 32 0) (f_X12_fresh (iAdd 27 (H.1 32 2)) (f_X12_next H)).2).2.1 29 18)) 32 (iAdd 14 (H.1 32 2)).toNat 1))).2 32 34 (iOr ((f_X12_puts (iAdd 24 (H.1 32 2)) 0 20 (f_X12_next (upI (upI (f_X12_takesName 20 ((f_X12_fresh (iAdd 27 (H.1 32 2)) (f_X12_next H)).2.1 32 0) (f_X12_fresh (iAdd 27 (H.1 32 2)) (f_X12_next H)).2).2 32 (iAdd 4 (H.1 32 2)).toNat ((f_X12_takesName 20 ((f_X12_fresh (iAdd 27 (H.1 32 2)) (f_X12_next H)).2.1 32 0) (f_X12_fresh (iAdd 27 (H.1 32 2)) (f_X12_next H)).2).2.1 29 18)) 32 (iAdd 14 (H.1 32 2)).toNat 1))).2.1 32 34) (iShl 1 (H.1 32 2)))) (rf_X12_puts (iAdd 24 (H.1 32 2)) 0 20 (f_X12_next (upI (upI (f_X12_takesName 20 ((f_X12_fresh (iAdd 27 (H.1 32 2)) (f_X12_next H)).2.1 32 0) (f_X12_fresh (iAdd 27 (H.1 32 2)) (f_X12_next H)).2).2 32 (iAdd 4 (H.1 32 2)).toNat ((f_X12_takesName 20 ((f_X12_fresh (iAdd 27 (H.1 32 2)) (f_X12_next H)).2.1 32 0) (f_X12_fresh (iAdd 27 (H.1 32 2)) (f_X12_next H)).2).2.1 29 18)) 32 (iAdd 14 (H.1 32 2)).toNat 1)) (rf_X12_next (upI (upI (f_X12_takesName 20 ((f_X12_fresh (iAdd 27 (H.1 32 2)) (f_X12_next H)).2.1 32 0) (f_X12_fresh (iAdd 27 (H.1 32 2)) (f_X12_next H)).2).2 32 (iAdd 4 (H.1 32 2)).toNat ((f_X12_takesName 20 ((f_X12_fresh (iAdd 27 (H.1 32 2)) (f_X12_next H)).2.1 32 0) (f_X12_fresh (iAdd 27 (H.1 32 2)) (f_X12_next H)).2).2.1 29 18)) 32 (iAdd 14 (H.1 32 2)).toNat 1) (rf_X12_takesName 20 ((f_X12_fresh (iAdd 27 (H.1 32 2)) (f_X12_next H)).2.1 32 0) (f_X12_fresh (iAdd 27 (H.1 32 2)) (f_X12_next H)).2 (rf_X12_fresh (iAdd 27 (H.1 32 2)) (f_X12_next H) (rf_X12_next H hr)))))) ?_
                  refine J_ld 161 jw hj rfl rfl rfl rfl ?_
                  refine J_gfR (k := 32) jw hj rfl (evn rfl) (by decide) (by decide) (RMa (rf_X12_next (upI (f_X12_puts (iAdd 24 (H.1 32 2)) 0 20 (f_X12_next (upI (upI (f_X12_takesName 20 ((f_X12_fresh (iAdd 27 (H.1 32 2)) (f_X12_next H)).2.1 32 0) (f_X12_fresh (iAdd 27 (H.1 32 2)) (f_X12_next H)).2).2 32 (iAdd 4 (H.1 32 2)).toNat ((f_X12_takesName 20 ((f_X12_fresh (iAdd 27 (H.1 32 2)) (f_X12_next H)).2.1 32 0) (f_X12_fresh (iAdd 27 (H.1 32 2)) (f_X12_next H)).2).2.1 29 18)) 32 (iAdd 14 (H.1 32 2)).toNat 1))).2 32 34 (iOr ((f_X12_puts (iAdd 24 (H.1 32 2)) 0 20 (f_X12_next (upI (upI (f_X12_takesName 20 ((f_X12_fresh (iAdd 27 (H.1 32 2)) (f_X12_next H)).2.1 32 0) (f_X12_fresh (iAdd 27 (H.1 32 2)) (f_X12_next H)).2).2 32 (iAdd 4 (H.1 32 2)).toNat ((f_X12_takesName 20 ((f_X12_fresh (iAdd 27 (H.1 32 2)) (f_X12_next H)).2.1 32 0) (f_X12_fresh (iAdd 27 (H.1 32 2)) (f_X12_next H)).2).2.1 29 18)) 32 (iAdd 14 (H.1 32 2)).toNat 1))).2.1 32 34) (iShl 1 (H.1 32 2)))) (rf_X12_puts (iAdd 24 (H.1 32 2)) 0 20 (f_X12_next (upI (upI (f_X12_takesName 20 ((f_X12_fresh (iAdd 27 (H.1 32 2)) (f_X12_next H)).2.1 32 0) (f_X12_fresh (iAdd 27 (H.1 32 2)) (f_X12_next H)).2).2 32 (iAdd 4 (H.1 32 2)).toNat ((f_X12_takesName 20 ((f_X12_fresh (iAdd 27 (H.1 32 2)) (f_X12_next H)).2.1 32 0) (f_X12_fresh (iAdd 27 (H.1 32 2)) (f_X12_next H)).2).2.1 29 18)) 32 (iAdd 14 (H.1 32 2)).toNat 1)) (rf_X12_next (upI (upI (f_X12_takesName 20 ((f_X12_fresh (iAdd 27 (H.1 32 2)) (f_X12_next H)).2.1 32 0) (f_X12_fresh (iAdd 27 (H.1 32 2)) (f_X12_next H)).2).2 32 (iAdd 4 (H.1 32 2)).toNat ((f_X12_takesName 20 ((f_X12_fresh (iAdd 27 (H.1 32 2)) (f_X12_next H)).2.1 32 0) (f_X12_fresh (iAdd 27 (H.1 32 2)) (f_X12_next H)).2).2.1 29 18)) 32 (iAdd 14 (H.1 32 2)).toNat 1) (rf_X12_takesName 20 ((f_X12_fresh (iAdd 27 (H.1 32 2)) (f_X12_next H)).2.1 32 0) (f_X12_fresh (iAdd 27 (H.1 32 2)) (f_X12_next H)).2 (rf_X12_fresh (iAdd 27 (H.1 32 2)) (f_X12_next H) (rf_X12_next H hr)))))) rfl) ?_
                  refine J_cst 165 jw hj rfl rfl rfl ?_
                  refine J_dup2 166 jw hj rfl rfl ?_
                  refine J_iald jw hj rfl (Or.inl rfl) (fun z14 r14 => ?_)
                  refine J_cst 168 jw hj rfl rfl rfl ?_
                  refine J_bin jw hj rfl rfl ?_
                  refine J_iast jw hj rfl (Or.inl rfl) (fun _ => ?_)
                  refine J_cst 171 jw hj rfl rfl rfl ?_
                  exact J_ret rfl (Or.inl rfl) (fun aw hR => by show _ ∧ _; unfold f_X12_readPerson; rw [if_neg h0, if_neg h1, if_neg h2, if_pos h3, if_neg h9, if_neg h10, if_neg h13, if_neg h14]; exact ⟨rfl, hR⟩)
              · refine J_cst 132 jw hj rfl rfl rfl ?_
                exact J_ret rfl (Or.inl rfl) (fun aw hR => by show _ ∧ _; unfold f_X12_readPerson; rw [if_neg h0, if_neg h1, if_neg h2, if_pos h3, if_neg h9, if_neg h10, if_pos h13]; exact ⟨rfl, hR⟩)
          · refine J_ld 84 jw hj rfl rfl rfl rfl ?_
            refine J_cst 85 jw hj rfl rfl rfl ?_
            refine J_callV1 jw rfl (Or.inl ⟨_, rfl⟩) rfl rfl (sp_X12_bad (g := g) 1 (upI (f_X12_takesName 20 ((f_X12_fresh (iAdd 27 (H.1 32 2)) (f_X12_next H)).2.1 32 0) (f_X12_fresh (iAdd 27 (H.1 32 2)) (f_X12_next H)).2).2 32 (iAdd 4 (H.1 32 2)).toNat ((f_X12_takesName 20 ((f_X12_fresh (iAdd 27 (H.1 32 2)) (f_X12_next H)).2.1 32 0) (f_X12_fresh (iAdd 27 (H.1 32 2)) (f_X12_next H)).2).2.1 29 18))) ?_
            exact J_ret rfl (Or.inl rfl) (fun aw hR => by show _ ∧ _; unfold f_X12_readPerson; rw [if_neg h0, if_neg h1, if_neg h2, if_pos h3, if_pos h9]; exact ⟨rfl, hR⟩)
      · refine J_cst 50 jw hj rfl rfl rfl ?_
        exact J_ret rfl (Or.inl rfl) (fun aw hR => by show _ ∧ _; unfold f_X12_readPerson; rw [if_neg h0, if_neg h1, if_pos h2]; exact ⟨rfl, hR⟩)
  · refine J_ld 14 jw hj rfl rfl rfl rfl ?_
    refine J_cst 15 jw hj rfl rfl rfl ?_
    refine J_callV1 jw rfl (Or.inl ⟨_, rfl⟩) rfl rfl (sp_X12_bad (g := g) 4 H) ?_
    exact J_ret rfl (Or.inl rfl) (fun aw hR => by show _ ∧ _; unfold f_X12_readPerson; rw [if_pos h0]; exact ⟨rfl, hR⟩)
theorem rf_X12_readPerson  (H : hH) (hr : RM H.2.2.1) : RM (f_X12_readPerson H).2.2.2.1 := by
  unfold f_X12_readPerson
  by_cases q1 : H.1 32 2 = 10
  · rw [if_pos q1]
    exact (rf_X12_bad 4 H hr)
  · rw [if_neg q1]
    by_cases q2 : ((f_X12_fresh (iAdd 27 (H.1 32 2)) (f_X12_next H)).1) = 0
    · rw [if_pos q2]
      exact (rf_X12_fresh (iAdd 27 (H.1 32 2)) (f_X12_next H) (rf_X12_next H hr))
    · rw [if_neg q2]
      by_cases q3 : ((f_X12_takesName 20 ((f_X12_fresh (iAdd 27 (H.1 32 2)) (f_X12_next H)).2.1 32 0) (f_X12_fresh (iAdd 27 (H.1 32 2)) (f_X12_next H)).2).1) = 0
      · rw [if_pos q3]
        exact (rf_X12_takesName 20 ((f_X12_fresh (iAdd 27 (H.1 32 2)) (f_X12_next H)).2.1 32 0) (f_X12_fresh (iAdd 27 (H.1 32 2)) (f_X12_next H)).2 (rf_X12_fresh (iAdd 27 (H.1 32 2)) (f_X12_next H) (rf_X12_next H hr)))
      · rw [if_neg q3]
        by_cases q4 : f_X12_isWord 7168366 (f_X12_takesName 20 ((f_X12_fresh (iAdd 27 (H.1 32 2)) (f_X12_next H)).2.1 32 0) (f_X12_fresh (iAdd 27 (H.1 32 2)) (f_X12_next H)).2).2 = 0
        · rw [if_pos q4]
          by_cases q5 : f_X12_isWord 512970547566 (f_X12_takesName 20 ((f_X12_fresh (iAdd 27 (H.1 32 2)) (f_X12_next H)).2.1 32 0) (f_X12_fresh (iAdd 27 (H.1 32 2)) (f_X12_next H)).2).2 = 0
          · rw [if_pos q5]
            exact (rf_X12_bad 1 (upI (f_X12_takesName 20 ((f_X12_fresh (iAdd 27 (H.1 32 2)) (f_X12_next H)).2.1 32 0) (f_X12_fresh (iAdd 27 (H.1 32 2)) (f_X12_next H)).2).2 32 (iAdd 4 (H.1 32 2)).toNat ((f_X12_takesName 20 ((f_X12_fresh (iAdd 27 (H.1 32 2)) (f_X12_next H)).2.1 32 0) (f_X12_fresh (iAdd 27 (H.1 32 2)) (f_X12_next H)).2).2.1 29 18)) (rf_X12_takesName 20 ((f_X12_fresh (iAdd 27 (H.1 32 2)) (f_X12_next H)).2.1 32 0) (f_X12_fresh (iAdd 27 (H.1 32 2)) (f_X12_next H)).2 (rf_X12_fresh (iAdd 27 (H.1 32 2)) (f_X12_next H) (rf_X12_next H hr))))
          · rw [if_neg q5]
            by_cases q6 : f_X12_isWord 512970547566 (f_X12_takesName 20 ((f_X12_fresh (iAdd 27 (H.1 32 2)) (f_X12_next H)).2.1 32 0) (f_X12_fresh (iAdd 27 (H.1 32 2)) (f_X12_next H)).2).2 = 0
            · rw [if_pos q6]
              by_cases q7 : ((f_X12_puts (iAdd 24 (H.1 32 2)) 0 20 (f_X12_next (upI (upI (f_X12_takesName 20 ((f_X12_fresh (iAdd 27 (H.1 32 2)) (f_X12_next H)).2.1 32 0) (f_X12_fresh (iAdd 27 (H.1 32 2)) (f_X12_next H)).2).2 32 (iAdd 4 (H.1 32 2)).toNat ((f_X12_takesName 20 ((f_X12_fresh (iAdd 27 (H.1 32 2)) (f_X12_next H)).2.1 32 0) (f_X12_fresh (iAdd 27 (H.1 32 2)) (f_X12_next H)).2).2.1 29 18)) 32 (iAdd 14 (H.1 32 2)).toNat 0))).1) = 0
              · rw [if_pos q7]
                exact (rf_X12_puts (iAdd 24 (H.1 32 2)) 0 20 (f_X12_next (upI (upI (f_X12_takesName 20 ((f_X12_fresh (iAdd 27 (H.1 32 2)) (f_X12_next H)).2.1 32 0) (f_X12_fresh (iAdd 27 (H.1 32 2)) (f_X12_next H)).2).2 32 (iAdd 4 (H.1 32 2)).toNat ((f_X12_takesName 20 ((f_X12_fresh (iAdd 27 (H.1 32 2)) (f_X12_next H)).2.1 32 0) (f_X12_fresh (iAdd 27 (H.1 32 2)) (f_X12_next H)).2).2.1 29 18)) 32 (iAdd 14 (H.1 32 2)).toNat 0)) (rf_X12_next (upI (upI (f_X12_takesName 20 ((f_X12_fresh (iAdd 27 (H.1 32 2)) (f_X12_next H)).2.1 32 0) (f_X12_fresh (iAdd 27 (H.1 32 2)) (f_X12_next H)).2).2 32 (iAdd 4 (H.1 32 2)).toNat ((f_X12_takesName 20 ((f_X12_fresh (iAdd 27 (H.1 32 2)) (f_X12_next H)).2.1 32 0) (f_X12_fresh (iAdd 27 (H.1 32 2)) (f_X12_next H)).2).2.1 29 18)) 32 (iAdd 14 (H.1 32 2)).toNat 0) (rf_X12_takesName 20 ((f_X12_fresh (iAdd 27 (H.1 32 2)) (f_X12_next H)).2.1 32 0) (f_X12_fresh (iAdd 27 (H.1 32 2)) (f_X12_next H)).2 (rf_X12_fresh (iAdd 27 (H.1 32 2)) (f_X12_next H) (rf_X12_next H hr)))))
              · rw [if_neg q7]
                by_cases q8 : f_X12_isWord 1635213689 (f_X12_puts (iAdd 24 (H.1 32 2)) 0 20 (f_X12_next (upI (upI (f_X12_takesName 20 ((f_X12_fresh (iAdd 27 (H.1 32 2)) (f_X12_next H)).2.1 32 0) (f_X12_fresh (iAdd 27 (H.1 32 2)) (f_X12_next H)).2).2 32 (iAdd 4 (H.1 32 2)).toNat ((f_X12_takesName 20 ((f_X12_fresh (iAdd 27 (H.1 32 2)) (f_X12_next H)).2.1 32 0) (f_X12_fresh (iAdd 27 (H.1 32 2)) (f_X12_next H)).2).2.1 29 18)) 32 (iAdd 14 (H.1 32 2)).toNat 0))).2 = 0
                · rw [if_pos q8]
                  exact (rf_X12_puts (iAdd 24 (H.1 32 2)) 0 20 (f_X12_next (upI (upI (f_X12_takesName 20 ((f_X12_fresh (iAdd 27 (H.1 32 2)) (f_X12_next H)).2.1 32 0) (f_X12_fresh (iAdd 27 (H.1 32 2)) (f_X12_next H)).2).2 32 (iAdd 4 (H.1 32 2)).toNat ((f_X12_takesName 20 ((f_X12_fresh (iAdd 27 (H.1 32 2)) (f_X12_next H)).2.1 32 0) (f_X12_fresh (iAdd 27 (H.1 32 2)) (f_X12_next H)).2).2.1 29 18)) 32 (iAdd 14 (H.1 32 2)).toNat 0)) (rf_X12_next (upI (upI (f_X12_takesName 20 ((f_X12_fresh (iAdd 27 (H.1 32 2)) (f_X12_next H)).2.1 32 0) (f_X12_fresh (iAdd 27 (H.1 32 2)) (f_X12_next H)).2).2 32 (iAdd 4 (H.1 32 2)).toNat ((f_X12_takesName 20 ((f_X12_fresh (iAdd 27 (H.1 32 2)) (f_X12_next H)).2.1 32 0) (f_X12_fresh (iAdd 27 (H.1 32 2)) (f_X12_next H)).2).2.1 29 18)) 32 (iAdd 14 (H.1 32 2)).toNat 0) (rf_X12_takesName 20 ((f_X12_fresh (iAdd 27 (H.1 32 2)) (f_X12_next H)).2.1 32 0) (f_X12_fresh (iAdd 27 (H.1 32 2)) (f_X12_next H)).2 (rf_X12_fresh (iAdd 27 (H.1 32 2)) (f_X12_next H) (rf_X12_next H hr)))))
                · rw [if_neg q8]
                  exact (rf_X12_next (upI (f_X12_puts (iAdd 24 (H.1 32 2)) 0 20 (f_X12_next (upI (upI (f_X12_takesName 20 ((f_X12_fresh (iAdd 27 (H.1 32 2)) (f_X12_next H)).2.1 32 0) (f_X12_fresh (iAdd 27 (H.1 32 2)) (f_X12_next H)).2).2 32 (iAdd 4 (H.1 32 2)).toNat ((f_X12_takesName 20 ((f_X12_fresh (iAdd 27 (H.1 32 2)) (f_X12_next H)).2.1 32 0) (f_X12_fresh (iAdd 27 (H.1 32 2)) (f_X12_next H)).2).2.1 29 18)) 32 (iAdd 14 (H.1 32 2)).toNat 0))).2 32 34 (iOr ((f_X12_puts (iAdd 24 (H.1 32 2)) 0 20 (f_X12_next (upI (upI (f_X12_takesName 20 ((f_X12_fresh (iAdd 27 (H.1 32 2)) (f_X12_next H)).2.1 32 0) (f_X12_fresh (iAdd 27 (H.1 32 2)) (f_X12_next H)).2).2 32 (iAdd 4 (H.1 32 2)).toNat ((f_X12_takesName 20 ((f_X12_fresh (iAdd 27 (H.1 32 2)) (f_X12_next H)).2.1 32 0) (f_X12_fresh (iAdd 27 (H.1 32 2)) (f_X12_next H)).2).2.1 29 18)) 32 (iAdd 14 (H.1 32 2)).toNat 0))).2.1 32 34) (iShl 1 (H.1 32 2)))) (rf_X12_puts (iAdd 24 (H.1 32 2)) 0 20 (f_X12_next (upI (upI (f_X12_takesName 20 ((f_X12_fresh (iAdd 27 (H.1 32 2)) (f_X12_next H)).2.1 32 0) (f_X12_fresh (iAdd 27 (H.1 32 2)) (f_X12_next H)).2).2 32 (iAdd 4 (H.1 32 2)).toNat ((f_X12_takesName 20 ((f_X12_fresh (iAdd 27 (H.1 32 2)) (f_X12_next H)).2.1 32 0) (f_X12_fresh (iAdd 27 (H.1 32 2)) (f_X12_next H)).2).2.1 29 18)) 32 (iAdd 14 (H.1 32 2)).toNat 0)) (rf_X12_next (upI (upI (f_X12_takesName 20 ((f_X12_fresh (iAdd 27 (H.1 32 2)) (f_X12_next H)).2.1 32 0) (f_X12_fresh (iAdd 27 (H.1 32 2)) (f_X12_next H)).2).2 32 (iAdd 4 (H.1 32 2)).toNat ((f_X12_takesName 20 ((f_X12_fresh (iAdd 27 (H.1 32 2)) (f_X12_next H)).2.1 32 0) (f_X12_fresh (iAdd 27 (H.1 32 2)) (f_X12_next H)).2).2.1 29 18)) 32 (iAdd 14 (H.1 32 2)).toNat 0) (rf_X12_takesName 20 ((f_X12_fresh (iAdd 27 (H.1 32 2)) (f_X12_next H)).2.1 32 0) (f_X12_fresh (iAdd 27 (H.1 32 2)) (f_X12_next H)).2 (rf_X12_fresh (iAdd 27 (H.1 32 2)) (f_X12_next H) (rf_X12_next H hr))))))
            · rw [if_neg q6]
              by_cases q7 : ((f_X12_puts (iAdd 24 (H.1 32 2)) 0 20 (f_X12_next (upI (upI (f_X12_takesName 20 ((f_X12_fresh (iAdd 27 (H.1 32 2)) (f_X12_next H)).2.1 32 0) (f_X12_fresh (iAdd 27 (H.1 32 2)) (f_X12_next H)).2).2 32 (iAdd 4 (H.1 32 2)).toNat ((f_X12_takesName 20 ((f_X12_fresh (iAdd 27 (H.1 32 2)) (f_X12_next H)).2.1 32 0) (f_X12_fresh (iAdd 27 (H.1 32 2)) (f_X12_next H)).2).2.1 29 18)) 32 (iAdd 14 (H.1 32 2)).toNat 1))).1) = 0
              · rw [if_pos q7]
                exact (rf_X12_puts (iAdd 24 (H.1 32 2)) 0 20 (f_X12_next (upI (upI (f_X12_takesName 20 ((f_X12_fresh (iAdd 27 (H.1 32 2)) (f_X12_next H)).2.1 32 0) (f_X12_fresh (iAdd 27 (H.1 32 2)) (f_X12_next H)).2).2 32 (iAdd 4 (H.1 32 2)).toNat ((f_X12_takesName 20 ((f_X12_fresh (iAdd 27 (H.1 32 2)) (f_X12_next H)).2.1 32 0) (f_X12_fresh (iAdd 27 (H.1 32 2)) (f_X12_next H)).2).2.1 29 18)) 32 (iAdd 14 (H.1 32 2)).toNat 1)) (rf_X12_next (upI (upI (f_X12_takesName 20 ((f_X12_fresh (iAdd 27 (H.1 32 2)) (f_X12_next H)).2.1 32 0) (f_X12_fresh (iAdd 27 (H.1 32 2)) (f_X12_next H)).2).2 32 (iAdd 4 (H.1 32 2)).toNat ((f_X12_takesName 20 ((f_X12_fresh (iAdd 27 (H.1 32 2)) (f_X12_next H)).2.1 32 0) (f_X12_fresh (iAdd 27 (H.1 32 2)) (f_X12_next H)).2).2.1 29 18)) 32 (iAdd 14 (H.1 32 2)).toNat 1) (rf_X12_takesName 20 ((f_X12_fresh (iAdd 27 (H.1 32 2)) (f_X12_next H)).2.1 32 0) (f_X12_fresh (iAdd 27 (H.1 32 2)) (f_X12_next H)).2 (rf_X12_fresh (iAdd 27 (H.1 32 2)) (f_X12_next H) (rf_X12_next H hr)))))
              · rw [if_neg q7]
                by_cases q8 : f_X12_isWord 1635213689 (f_X12_puts (iAdd 24 (H.1 32 2)) 0 20 (f_X12_next (upI (upI (f_X12_takesName 20 ((f_X12_fresh (iAdd 27 (H.1 32 2)) (f_X12_next H)).2.1 32 0) (f_X12_fresh (iAdd 27 (H.1 32 2)) (f_X12_next H)).2).2 32 (iAdd 4 (H.1 32 2)).toNat ((f_X12_takesName 20 ((f_X12_fresh (iAdd 27 (H.1 32 2)) (f_X12_next H)).2.1 32 0) (f_X12_fresh (iAdd 27 (H.1 32 2)) (f_X12_next H)).2).2.1 29 18)) 32 (iAdd 14 (H.1 32 2)).toNat 1))).2 = 0
                · rw [if_pos q8]
                  exact (rf_X12_puts (iAdd 24 (H.1 32 2)) 0 20 (f_X12_next (upI (upI (f_X12_takesName 20 ((f_X12_fresh (iAdd 27 (H.1 32 2)) (f_X12_next H)).2.1 32 0) (f_X12_fresh (iAdd 27 (H.1 32 2)) (f_X12_next H)).2).2 32 (iAdd 4 (H.1 32 2)).toNat ((f_X12_takesName 20 ((f_X12_fresh (iAdd 27 (H.1 32 2)) (f_X12_next H)).2.1 32 0) (f_X12_fresh (iAdd 27 (H.1 32 2)) (f_X12_next H)).2).2.1 29 18)) 32 (iAdd 14 (H.1 32 2)).toNat 1)) (rf_X12_next (upI (upI (f_X12_takesName 20 ((f_X12_fresh (iAdd 27 (H.1 32 2)) (f_X12_next H)).2.1 32 0) (f_X12_fresh (iAdd 27 (H.1 32 2)) (f_X12_next H)).2).2 32 (iAdd 4 (H.1 32 2)).toNat ((f_X12_takesName 20 ((f_X12_fresh (iAdd 27 (H.1 32 2)) (f_X12_next H)).2.1 32 0) (f_X12_fresh (iAdd 27 (H.1 32 2)) (f_X12_next H)).2).2.1 29 18)) 32 (iAdd 14 (H.1 32 2)).toNat 1) (rf_X12_takesName 20 ((f_X12_fresh (iAdd 27 (H.1 32 2)) (f_X12_next H)).2.1 32 0) (f_X12_fresh (iAdd 27 (H.1 32 2)) (f_X12_next H)).2 (rf_X12_fresh (iAdd 27 (H.1 32 2)) (f_X12_next H) (rf_X12_next H hr)))))
                · rw [if_neg q8]
                  exact (rf_X12_next (upI (f_X12_puts (iAdd 24 (H.1 32 2)) 0 20 (f_X12_next (upI (upI (f_X12_takesName 20 ((f_X12_fresh (iAdd 27 (H.1 32 2)) (f_X12_next H)).2.1 32 0) (f_X12_fresh (iAdd 27 (H.1 32 2)) (f_X12_next H)).2).2 32 (iAdd 4 (H.1 32 2)).toNat ((f_X12_takesName 20 ((f_X12_fresh (iAdd 27 (H.1 32 2)) (f_X12_next H)).2.1 32 0) (f_X12_fresh (iAdd 27 (H.1 32 2)) (f_X12_next H)).2).2.1 29 18)) 32 (iAdd 14 (H.1 32 2)).toNat 1))).2 32 34 (iOr ((f_X12_puts (iAdd 24 (H.1 32 2)) 0 20 (f_X12_next (upI (upI (f_X12_takesName 20 ((f_X12_fresh (iAdd 27 (H.1 32 2)) (f_X12_next H)).2.1 32 0) (f_X12_fresh (iAdd 27 (H.1 32 2)) (f_X12_next H)).2).2 32 (iAdd 4 (H.1 32 2)).toNat ((f_X12_takesName 20 ((f_X12_fresh (iAdd 27 (H.1 32 2)) (f_X12_next H)).2.1 32 0) (f_X12_fresh (iAdd 27 (H.1 32 2)) (f_X12_next H)).2).2.1 29 18)) 32 (iAdd 14 (H.1 32 2)).toNat 1))).2.1 32 34) (iShl 1 (H.1 32 2)))) (rf_X12_puts (iAdd 24 (H.1 32 2)) 0 20 (f_X12_next (upI (upI (f_X12_takesName 20 ((f_X12_fresh (iAdd 27 (H.1 32 2)) (f_X12_next H)).2.1 32 0) (f_X12_fresh (iAdd 27 (H.1 32 2)) (f_X12_next H)).2).2 32 (iAdd 4 (H.1 32 2)).toNat ((f_X12_takesName 20 ((f_X12_fresh (iAdd 27 (H.1 32 2)) (f_X12_next H)).2.1 32 0) (f_X12_fresh (iAdd 27 (H.1 32 2)) (f_X12_next H)).2).2.1 29 18)) 32 (iAdd 14 (H.1 32 2)).toNat 1)) (rf_X12_next (upI (upI (f_X12_takesName 20 ((f_X12_fresh (iAdd 27 (H.1 32 2)) (f_X12_next H)).2.1 32 0) (f_X12_fresh (iAdd 27 (H.1 32 2)) (f_X12_next H)).2).2 32 (iAdd 4 (H.1 32 2)).toNat ((f_X12_takesName 20 ((f_X12_fresh (iAdd 27 (H.1 32 2)) (f_X12_next H)).2.1 32 0) (f_X12_fresh (iAdd 27 (H.1 32 2)) (f_X12_next H)).2).2.1 29 18)) 32 (iAdd 14 (H.1 32 2)).toNat 1) (rf_X12_takesName 20 ((f_X12_fresh (iAdd 27 (H.1 32 2)) (f_X12_next H)).2.1 32 0) (f_X12_fresh (iAdd 27 (H.1 32 2)) (f_X12_next H)).2 (rf_X12_fresh (iAdd 27 (H.1 32 2)) (f_X12_next H) (rf_X12_next H hr))))))
        · rw [if_neg q4]
          by_cases q5 : f_X12_isWord 512970547566 (f_X12_takesName 20 ((f_X12_fresh (iAdd 27 (H.1 32 2)) (f_X12_next H)).2.1 32 0) (f_X12_fresh (iAdd 27 (H.1 32 2)) (f_X12_next H)).2).2 = 0
          · rw [if_pos q5]
            by_cases q6 : ((f_X12_puts (iAdd 24 (H.1 32 2)) 0 20 (f_X12_next (upI (upI (f_X12_takesName 20 ((f_X12_fresh (iAdd 27 (H.1 32 2)) (f_X12_next H)).2.1 32 0) (f_X12_fresh (iAdd 27 (H.1 32 2)) (f_X12_next H)).2).2 32 (iAdd 4 (H.1 32 2)).toNat ((f_X12_takesName 20 ((f_X12_fresh (iAdd 27 (H.1 32 2)) (f_X12_next H)).2.1 32 0) (f_X12_fresh (iAdd 27 (H.1 32 2)) (f_X12_next H)).2).2.1 29 18)) 32 (iAdd 14 (H.1 32 2)).toNat 0))).1) = 0
            · rw [if_pos q6]
              exact (rf_X12_puts (iAdd 24 (H.1 32 2)) 0 20 (f_X12_next (upI (upI (f_X12_takesName 20 ((f_X12_fresh (iAdd 27 (H.1 32 2)) (f_X12_next H)).2.1 32 0) (f_X12_fresh (iAdd 27 (H.1 32 2)) (f_X12_next H)).2).2 32 (iAdd 4 (H.1 32 2)).toNat ((f_X12_takesName 20 ((f_X12_fresh (iAdd 27 (H.1 32 2)) (f_X12_next H)).2.1 32 0) (f_X12_fresh (iAdd 27 (H.1 32 2)) (f_X12_next H)).2).2.1 29 18)) 32 (iAdd 14 (H.1 32 2)).toNat 0)) (rf_X12_next (upI (upI (f_X12_takesName 20 ((f_X12_fresh (iAdd 27 (H.1 32 2)) (f_X12_next H)).2.1 32 0) (f_X12_fresh (iAdd 27 (H.1 32 2)) (f_X12_next H)).2).2 32 (iAdd 4 (H.1 32 2)).toNat ((f_X12_takesName 20 ((f_X12_fresh (iAdd 27 (H.1 32 2)) (f_X12_next H)).2.1 32 0) (f_X12_fresh (iAdd 27 (H.1 32 2)) (f_X12_next H)).2).2.1 29 18)) 32 (iAdd 14 (H.1 32 2)).toNat 0) (rf_X12_takesName 20 ((f_X12_fresh (iAdd 27 (H.1 32 2)) (f_X12_next H)).2.1 32 0) (f_X12_fresh (iAdd 27 (H.1 32 2)) (f_X12_next H)).2 (rf_X12_fresh (iAdd 27 (H.1 32 2)) (f_X12_next H) (rf_X12_next H hr)))))
            · rw [if_neg q6]
              by_cases q7 : f_X12_isWord 1635213689 (f_X12_puts (iAdd 24 (H.1 32 2)) 0 20 (f_X12_next (upI (upI (f_X12_takesName 20 ((f_X12_fresh (iAdd 27 (H.1 32 2)) (f_X12_next H)).2.1 32 0) (f_X12_fresh (iAdd 27 (H.1 32 2)) (f_X12_next H)).2).2 32 (iAdd 4 (H.1 32 2)).toNat ((f_X12_takesName 20 ((f_X12_fresh (iAdd 27 (H.1 32 2)) (f_X12_next H)).2.1 32 0) (f_X12_fresh (iAdd 27 (H.1 32 2)) (f_X12_next H)).2).2.1 29 18)) 32 (iAdd 14 (H.1 32 2)).toNat 0))).2 = 0
              · rw [if_pos q7]
                exact (rf_X12_puts (iAdd 24 (H.1 32 2)) 0 20 (f_X12_next (upI (upI (f_X12_takesName 20 ((f_X12_fresh (iAdd 27 (H.1 32 2)) (f_X12_next H)).2.1 32 0) (f_X12_fresh (iAdd 27 (H.1 32 2)) (f_X12_next H)).2).2 32 (iAdd 4 (H.1 32 2)).toNat ((f_X12_takesName 20 ((f_X12_fresh (iAdd 27 (H.1 32 2)) (f_X12_next H)).2.1 32 0) (f_X12_fresh (iAdd 27 (H.1 32 2)) (f_X12_next H)).2).2.1 29 18)) 32 (iAdd 14 (H.1 32 2)).toNat 0)) (rf_X12_next (upI (upI (f_X12_takesName 20 ((f_X12_fresh (iAdd 27 (H.1 32 2)) (f_X12_next H)).2.1 32 0) (f_X12_fresh (iAdd 27 (H.1 32 2)) (f_X12_next H)).2).2 32 (iAdd 4 (H.1 32 2)).toNat ((f_X12_takesName 20 ((f_X12_fresh (iAdd 27 (H.1 32 2)) (f_X12_next H)).2.1 32 0) (f_X12_fresh (iAdd 27 (H.1 32 2)) (f_X12_next H)).2).2.1 29 18)) 32 (iAdd 14 (H.1 32 2)).toNat 0) (rf_X12_takesName 20 ((f_X12_fresh (iAdd 27 (H.1 32 2)) (f_X12_next H)).2.1 32 0) (f_X12_fresh (iAdd 27 (H.1 32 2)) (f_X12_next H)).2 (rf_X12_fresh (iAdd 27 (H.1 32 2)) (f_X12_next H) (rf_X12_next H hr)))))
              · rw [if_neg q7]
                exact (rf_X12_next (upI (f_X12_puts (iAdd 24 (H.1 32 2)) 0 20 (f_X12_next (upI (upI (f_X12_takesName 20 ((f_X12_fresh (iAdd 27 (H.1 32 2)) (f_X12_next H)).2.1 32 0) (f_X12_fresh (iAdd 27 (H.1 32 2)) (f_X12_next H)).2).2 32 (iAdd 4 (H.1 32 2)).toNat ((f_X12_takesName 20 ((f_X12_fresh (iAdd 27 (H.1 32 2)) (f_X12_next H)).2.1 32 0) (f_X12_fresh (iAdd 27 (H.1 32 2)) (f_X12_next H)).2).2.1 29 18)) 32 (iAdd 14 (H.1 32 2)).toNat 0))).2 32 34 (iOr ((f_X12_puts (iAdd 24 (H.1 32 2)) 0 20 (f_X12_next (upI (upI (f_X12_takesName 20 ((f_X12_fresh (iAdd 27 (H.1 32 2)) (f_X12_next H)).2.1 32 0) (f_X12_fresh (iAdd 27 (H.1 32 2)) (f_X12_next H)).2).2 32 (iAdd 4 (H.1 32 2)).toNat ((f_X12_takesName 20 ((f_X12_fresh (iAdd 27 (H.1 32 2)) (f_X12_next H)).2.1 32 0) (f_X12_fresh (iAdd 27 (H.1 32 2)) (f_X12_next H)).2).2.1 29 18)) 32 (iAdd 14 (H.1 32 2)).toNat 0))).2.1 32 34) (iShl 1 (H.1 32 2)))) (rf_X12_puts (iAdd 24 (H.1 32 2)) 0 20 (f_X12_next (upI (upI (f_X12_takesName 20 ((f_X12_fresh (iAdd 27 (H.1 32 2)) (f_X12_next H)).2.1 32 0) (f_X12_fresh (iAdd 27 (H.1 32 2)) (f_X12_next H)).2).2 32 (iAdd 4 (H.1 32 2)).toNat ((f_X12_takesName 20 ((f_X12_fresh (iAdd 27 (H.1 32 2)) (f_X12_next H)).2.1 32 0) (f_X12_fresh (iAdd 27 (H.1 32 2)) (f_X12_next H)).2).2.1 29 18)) 32 (iAdd 14 (H.1 32 2)).toNat 0)) (rf_X12_next (upI (upI (f_X12_takesName 20 ((f_X12_fresh (iAdd 27 (H.1 32 2)) (f_X12_next H)).2.1 32 0) (f_X12_fresh (iAdd 27 (H.1 32 2)) (f_X12_next H)).2).2 32 (iAdd 4 (H.1 32 2)).toNat ((f_X12_takesName 20 ((f_X12_fresh (iAdd 27 (H.1 32 2)) (f_X12_next H)).2.1 32 0) (f_X12_fresh (iAdd 27 (H.1 32 2)) (f_X12_next H)).2).2.1 29 18)) 32 (iAdd 14 (H.1 32 2)).toNat 0) (rf_X12_takesName 20 ((f_X12_fresh (iAdd 27 (H.1 32 2)) (f_X12_next H)).2.1 32 0) (f_X12_fresh (iAdd 27 (H.1 32 2)) (f_X12_next H)).2 (rf_X12_fresh (iAdd 27 (H.1 32 2)) (f_X12_next H) (rf_X12_next H hr))))))
          · rw [if_neg q5]
            by_cases q6 : ((f_X12_puts (iAdd 24 (H.1 32 2)) 0 20 (f_X12_next (upI (upI (f_X12_takesName 20 ((f_X12_fresh (iAdd 27 (H.1 32 2)) (f_X12_next H)).2.1 32 0) (f_X12_fresh (iAdd 27 (H.1 32 2)) (f_X12_next H)).2).2 32 (iAdd 4 (H.1 32 2)).toNat ((f_X12_takesName 20 ((f_X12_fresh (iAdd 27 (H.1 32 2)) (f_X12_next H)).2.1 32 0) (f_X12_fresh (iAdd 27 (H.1 32 2)) (f_X12_next H)).2).2.1 29 18)) 32 (iAdd 14 (H.1 32 2)).toNat 1))).1) = 0
            · rw [if_pos q6]
              exact (rf_X12_puts (iAdd 24 (H.1 32 2)) 0 20 (f_X12_next (upI (upI (f_X12_takesName 20 ((f_X12_fresh (iAdd 27 (H.1 32 2)) (f_X12_next H)).2.1 32 0) (f_X12_fresh (iAdd 27 (H.1 32 2)) (f_X12_next H)).2).2 32 (iAdd 4 (H.1 32 2)).toNat ((f_X12_takesName 20 ((f_X12_fresh (iAdd 27 (H.1 32 2)) (f_X12_next H)).2.1 32 0) (f_X12_fresh (iAdd 27 (H.1 32 2)) (f_X12_next H)).2).2.1 29 18)) 32 (iAdd 14 (H.1 32 2)).toNat 1)) (rf_X12_next (upI (upI (f_X12_takesName 20 ((f_X12_fresh (iAdd 27 (H.1 32 2)) (f_X12_next H)).2.1 32 0) (f_X12_fresh (iAdd 27 (H.1 32 2)) (f_X12_next H)).2).2 32 (iAdd 4 (H.1 32 2)).toNat ((f_X12_takesName 20 ((f_X12_fresh (iAdd 27 (H.1 32 2)) (f_X12_next H)).2.1 32 0) (f_X12_fresh (iAdd 27 (H.1 32 2)) (f_X12_next H)).2).2.1 29 18)) 32 (iAdd 14 (H.1 32 2)).toNat 1) (rf_X12_takesName 20 ((f_X12_fresh (iAdd 27 (H.1 32 2)) (f_X12_next H)).2.1 32 0) (f_X12_fresh (iAdd 27 (H.1 32 2)) (f_X12_next H)).2 (rf_X12_fresh (iAdd 27 (H.1 32 2)) (f_X12_next H) (rf_X12_next H hr)))))
            · rw [if_neg q6]
              by_cases q7 : f_X12_isWord 1635213689 (f_X12_puts (iAdd 24 (H.1 32 2)) 0 20 (f_X12_next (upI (upI (f_X12_takesName 20 ((f_X12_fresh (iAdd 27 (H.1 32 2)) (f_X12_next H)).2.1 32 0) (f_X12_fresh (iAdd 27 (H.1 32 2)) (f_X12_next H)).2).2 32 (iAdd 4 (H.1 32 2)).toNat ((f_X12_takesName 20 ((f_X12_fresh (iAdd 27 (H.1 32 2)) (f_X12_next H)).2.1 32 0) (f_X12_fresh (iAdd 27 (H.1 32 2)) (f_X12_next H)).2).2.1 29 18)) 32 (iAdd 14 (H.1 32 2)).toNat 1))).2 = 0
              · rw [if_pos q7]
                exact (rf_X12_puts (iAdd 24 (H.1 32 2)) 0 20 (f_X12_next (upI (upI (f_X12_takesName 20 ((f_X12_fresh (iAdd 27 (H.1 32 2)) (f_X12_next H)).2.1 32 0) (f_X12_fresh (iAdd 27 (H.1 32 2)) (f_X12_next H)).2).2 32 (iAdd 4 (H.1 32 2)).toNat ((f_X12_takesName 20 ((f_X12_fresh (iAdd 27 (H.1 32 2)) (f_X12_next H)).2.1 32 0) (f_X12_fresh (iAdd 27 (H.1 32 2)) (f_X12_next H)).2).2.1 29 18)) 32 (iAdd 14 (H.1 32 2)).toNat 1)) (rf_X12_next (upI (upI (f_X12_takesName 20 ((f_X12_fresh (iAdd 27 (H.1 32 2)) (f_X12_next H)).2.1 32 0) (f_X12_fresh (iAdd 27 (H.1 32 2)) (f_X12_next H)).2).2 32 (iAdd 4 (H.1 32 2)).toNat ((f_X12_takesName 20 ((f_X12_fresh (iAdd 27 (H.1 32 2)) (f_X12_next H)).2.1 32 0) (f_X12_fresh (iAdd 27 (H.1 32 2)) (f_X12_next H)).2).2.1 29 18)) 32 (iAdd 14 (H.1 32 2)).toNat 1) (rf_X12_takesName 20 ((f_X12_fresh (iAdd 27 (H.1 32 2)) (f_X12_next H)).2.1 32 0) (f_X12_fresh (iAdd 27 (H.1 32 2)) (f_X12_next H)).2 (rf_X12_fresh (iAdd 27 (H.1 32 2)) (f_X12_next H) (rf_X12_next H hr)))))
              · rw [if_neg q7]
                exact (rf_X12_next (upI (f_X12_puts (iAdd 24 (H.1 32 2)) 0 20 (f_X12_next (upI (upI (f_X12_takesName 20 ((f_X12_fresh (iAdd 27 (H.1 32 2)) (f_X12_next H)).2.1 32 0) (f_X12_fresh (iAdd 27 (H.1 32 2)) (f_X12_next H)).2).2 32 (iAdd 4 (H.1 32 2)).toNat ((f_X12_takesName 20 ((f_X12_fresh (iAdd 27 (H.1 32 2)) (f_X12_next H)).2.1 32 0) (f_X12_fresh (iAdd 27 (H.1 32 2)) (f_X12_next H)).2).2.1 29 18)) 32 (iAdd 14 (H.1 32 2)).toNat 1))).2 32 34 (iOr ((f_X12_puts (iAdd 24 (H.1 32 2)) 0 20 (f_X12_next (upI (upI (f_X12_takesName 20 ((f_X12_fresh (iAdd 27 (H.1 32 2)) (f_X12_next H)).2.1 32 0) (f_X12_fresh (iAdd 27 (H.1 32 2)) (f_X12_next H)).2).2 32 (iAdd 4 (H.1 32 2)).toNat ((f_X12_takesName 20 ((f_X12_fresh (iAdd 27 (H.1 32 2)) (f_X12_next H)).2.1 32 0) (f_X12_fresh (iAdd 27 (H.1 32 2)) (f_X12_next H)).2).2.1 29 18)) 32 (iAdd 14 (H.1 32 2)).toNat 1))).2.1 32 34) (iShl 1 (H.1 32 2)))) (rf_X12_puts (iAdd 24 (H.1 32 2)) 0 20 (f_X12_next (upI (upI (f_X12_takesName 20 ((f_X12_fresh (iAdd 27 (H.1 32 2)) (f_X12_next H)).2.1 32 0) (f_X12_fresh (iAdd 27 (H.1 32 2)) (f_X12_next H)).2).2 32 (iAdd 4 (H.1 32 2)).toNat ((f_X12_takesName 20 ((f_X12_fresh (iAdd 27 (H.1 32 2)) (f_X12_next H)).2.1 32 0) (f_X12_fresh (iAdd 27 (H.1 32 2)) (f_X12_next H)).2).2.1 29 18)) 32 (iAdd 14 (H.1 32 2)).toNat 1)) (rf_X12_next (upI (upI (f_X12_takesName 20 ((f_X12_fresh (iAdd 27 (H.1 32 2)) (f_X12_next H)).2.1 32 0) (f_X12_fresh (iAdd 27 (H.1 32 2)) (f_X12_next H)).2).2 32 (iAdd 4 (H.1 32 2)).toNat ((f_X12_takesName 20 ((f_X12_fresh (iAdd 27 (H.1 32 2)) (f_X12_next H)).2.1 32 0) (f_X12_fresh (iAdd 27 (H.1 32 2)) (f_X12_next H)).2).2.1 29 18)) 32 (iAdd 14 (H.1 32 2)).toNat 1) (rf_X12_takesName 20 ((f_X12_fresh (iAdd 27 (H.1 32 2)) (f_X12_next H)).2.1 32 0) (f_X12_fresh (iAdd 27 (H.1 32 2)) (f_X12_next H)).2 (rf_X12_fresh (iAdd 27 (H.1 32 2)) (f_X12_next H) (rf_X12_next H hr))))))
def f_X12_pair (a1 : Int) (a2 : Int) (a3 : Int) (H : hH) : Int × hH :=
  if ((f_X12_takesName 27 ((f_X12_next H).1 32 2) (f_X12_next H)).1) = 0 then
    (0, (f_X12_takesName 27 ((f_X12_next H).1 32 2) (f_X12_next H)).2)
  else
    if ((f_X12_looksAt a2 a3 (f_X12_takesName 27 ((f_X12_next H).1 32 2) (f_X12_next H)).2).1) = 0 then
      (0, (f_X12_looksAt a2 a3 (f_X12_takesName 27 ((f_X12_next H).1 32 2) (f_X12_next H)).2).2)
    else
      if f_X12_bitOf ((f_X12_looksAt a2 a3 (f_X12_takesName 27 ((f_X12_next H).1 32 2) (f_X12_next H)).2).2.1 32 (iAdd a1 ((f_X12_takesName 27 ((f_X12_next H).1 32 2) (f_X12_next H)).2.1 29 18)).toNat) ((f_X12_looksAt a2 a3 (f_X12_takesName 27 ((f_X12_next H).1 32 2) (f_X12_next H)).2).2.1 29 18) = 0 then
        (1, (f_X12_next (upI (f_X12_looksAt a2 a3 (f_X12_takesName 27 ((f_X12_next H).1 32 2) (f_X12_next H)).2).2 32 (iAdd a1 ((f_X12_takesName 27 ((f_X12_next H).1 32 2) (f_X12_next H)).2.1 29 18)).toNat (iOr ((f_X12_looksAt a2 a3 (f_X12_takesName 27 ((f_X12_next H).1 32 2) (f_X12_next H)).2).2.1 32 (iAdd a1 ((f_X12_takesName 27 ((f_X12_next H).1 32 2) (f_X12_next H)).2.1 29 18)).toNat) (iShl 1 ((f_X12_looksAt a2 a3 (f_X12_takesName 27 ((f_X12_next H).1 32 2) (f_X12_next H)).2).2.1 29 18))))))
      else
        ((f_X12_bad 3 (f_X12_looksAt a2 a3 (f_X12_takesName 27 ((f_X12_next H).1 32 2) (f_X12_next H)).2).2).1, (f_X12_bad 3 (f_X12_looksAt a2 a3 (f_X12_takesName 27 ((f_X12_next H).1 32 2) (f_X12_next H)).2).2).2)
set_option maxHeartbeats 16000000 in
set_option maxRecDepth 100000 in
theorem sp_X12_pair {g : Nat → Nat} (a1 : Int) (a2 : Int) (a3 : Int) (H : hH) (hr : RM H.2.2.1) : SP g rvTab rvInf rvRet 316 rvMth 161 [rf (g 29), pt a1, pt a2, pt a3] H (some (pt (f_X12_pair a1 a2 a3 H).1)) (f_X12_pair a1 a2 a3 H).2 := by
  have hj : 161 < 316 := by decide
  refine J_SP hj (Nat.le_of_ble_eq_true rfl) ?_
  show J g rvTab rvInf rvRet 316 rvMth 161 _ 0 [rf (g 29), pt a1, pt a2, pt a3, rvU] [] H
  refine J_ld 1 jw hj rfl rfl rfl rfl ?_
  refine J_callV0 jw rfl (Or.inl ⟨_, rfl⟩) rfl rfl (sp_X12_next (g := g) H hr) ?_
  refine J_ld 5 jw hj rfl rfl rfl rfl ?_
  refine J_cst 7 jw hj rfl rfl rfl ?_
  refine J_ld 8 jw hj rfl rfl rfl rfl ?_
  refine J_gfR (k := 32) jw hj rfl (evn rfl) (by decide) (by decide) (RMa (rf_X12_next H hr) rfl) ?_
  refine J_cst 12 jw hj rfl rfl rfl ?_
  refine J_iald jw hj rfl (Or.inl rfl) (fun z0 r0 => ?_)
  refine J_callV1 jw rfl (Or.inl ⟨_, rfl⟩) rfl rfl (sp_X12_takesName (g := g) 27 ((f_X12_next H).1 32 2) (f_X12_next H) (rf_X12_next H hr)) ?_
  refine J_ifc (t := 21) jw hj rfl (evn rfl) rfl (fun (h0 : ¬ ((f_X12_takesName 27 ((f_X12_next H).1 32 2) (f_X12_next H)).1) = 0) => ?_) (fun (h0 : ((f_X12_takesName 27 ((f_X12_next H).1 32 2) (f_X12_next H)).1) = 0) => ?_)
  · refine J_ld 22 jw hj rfl rfl rfl rfl ?_
    refine J_gfI jw hj rfl (evn rfl) (by decide) rfl (fun r1 => ?_)
    refine J_st 27 [rf (g 29), pt a1, pt a2, pt a3, pt ((f_X12_takesName 27 ((f_X12_next H).1 32 2) (f_X12_next H)).2.1 29 18)] (k := 4) jw hj rfl (Or.inl ⟨rfl, rfl⟩) rfl ?_
    refine J_ld 28 jw hj rfl rfl rfl rfl ?_
    refine J_ld 29 jw hj rfl rfl rfl rfl ?_
    refine J_ld 30 jw hj rfl rfl rfl rfl ?_
    refine J_callV1 jw rfl (Or.inl ⟨_, rfl⟩) rfl rfl (sp_X12_looksAt (g := g) a2 a3 (f_X12_takesName 27 ((f_X12_next H).1 32 2) (f_X12_next H)).2 (rf_X12_takesName 27 ((f_X12_next H).1 32 2) (f_X12_next H) (rf_X12_next H hr))) ?_
    refine J_ifc (t := 38) jw hj rfl (evn rfl) rfl (fun (h1 : ¬ ((f_X12_looksAt a2 a3 (f_X12_takesName 27 ((f_X12_next H).1 32 2) (f_X12_next H)).2).1) = 0) => ?_) (fun (h1 : ((f_X12_looksAt a2 a3 (f_X12_takesName 27 ((f_X12_next H).1 32 2) (f_X12_next H)).2).1) = 0) => ?_)
    · refine J_ld 39 jw hj rfl rfl rfl rfl ?_
      refine J_gfR (k := 32) jw hj rfl (evn rfl) (by decide) (by decide) (RMa (rf_X12_looksAt a2 a3 (f_X12_takesName 27 ((f_X12_next H).1 32 2) (f_X12_next H)).2 (rf_X12_takesName 27 ((f_X12_next H).1 32 2) (f_X12_next H) (rf_X12_next H hr))) rfl) ?_
      refine J_ld 43 jw hj rfl rfl rfl rfl ?_
      refine J_ld 45 jw hj rfl rfl rfl rfl ?_
      refine J_bin jw hj rfl rfl ?_
      refine J_iald jw hj rfl (Or.inl rfl) (fun z2 r2 => ?_)
      refine J_ld 48 jw hj rfl rfl rfl rfl ?_
      refine J_gfI jw hj rfl (evn rfl) (by decide) rfl (fun r3 => ?_)
      refine J_callS1 jw rfl rfl rfl rfl (sp_X12_bitOf (g := g) ((f_X12_looksAt a2 a3 (f_X12_takesName 27 ((f_X12_next H).1 32 2) (f_X12_next H)).2).2.1 32 (iAdd a1 ((f_X12_takesName 27 ((f_X12_next H).1 32 2) (f_X12_next H)).2.1 29 18)).toNat) ((f_X12_looksAt a2 a3 (f_X12_takesName 27 ((f_X12_next H).1 32 2) (f_X12_next H)).2).2.1 29 18) (f_X12_looksAt a2 a3 (f_X12_takesName 27 ((f_X12_next H).1 32 2) (f_X12_next H)).2).2) ?_
      refine J_ifc (t := 63) jw hj rfl (evn rfl) rfl (fun (h2 : f_X12_bitOf ((f_X12_looksAt a2 a3 (f_X12_takesName 27 ((f_X12_next H).1 32 2) (f_X12_next H)).2).2.1 32 (iAdd a1 ((f_X12_takesName 27 ((f_X12_next H).1 32 2) (f_X12_next H)).2.1 29 18)).toNat) ((f_X12_looksAt a2 a3 (f_X12_takesName 27 ((f_X12_next H).1 32 2) (f_X12_next H)).2).2.1 29 18) = 0) => ?_) (fun (h2 : ¬ f_X12_bitOf ((f_X12_looksAt a2 a3 (f_X12_takesName 27 ((f_X12_next H).1 32 2) (f_X12_next H)).2).2.1 32 (iAdd a1 ((f_X12_takesName 27 ((f_X12_next H).1 32 2) (f_X12_next H)).2.1 29 18)).toNat) ((f_X12_looksAt a2 a3 (f_X12_takesName 27 ((f_X12_next H).1 32 2) (f_X12_next H)).2).2.1 29 18) = 0) => ?_)
      · refine J_ld 64 jw hj rfl rfl rfl rfl ?_
        refine J_gfR (k := 32) jw hj rfl (evn rfl) (by decide) (by decide) (RMa (rf_X12_looksAt a2 a3 (f_X12_takesName 27 ((f_X12_next H).1 32 2) (f_X12_next H)).2 (rf_X12_takesName 27 ((f_X12_next H).1 32 2) (f_X12_next H) (rf_X12_next H hr))) rfl) ?_
        refine J_ld 68 jw hj rfl rfl rfl rfl ?_
        refine J_ld 70 jw hj rfl rfl rfl rfl ?_
        refine J_bin jw hj rfl rfl ?_
        refine J_dup2 72 jw hj rfl rfl ?_
        refine J_iald jw hj rfl (Or.inl rfl) (fun z4 r4 => ?_)
        refine J_cst 74 jw hj rfl rfl rfl ?_
        refine J_ld 75 jw hj rfl rfl rfl rfl ?_
        refine J_gfI jw hj rfl (evn rfl) (by decide) rfl (fun r5 => ?_)
        refine J_bin jw hj rfl rfl ?_
        refine J_bin jw hj rfl rfl ?_
        refine J_iast jw hj rfl (Or.inl rfl) (fun _ => ?_)
        refine J_ld 82 jw hj rfl rfl rfl rfl ?_
        refine J_callV0 jw rfl (Or.inl ⟨_, rfl⟩) rfl rfl (sp_X12_next (g := g) (upI (f_X12_looksAt a2 a3 (f_X12_takesName 27 ((f_X12_next H).1 32 2) (f_X12_next H)).2).2 32 (iAdd a1 ((f_X12_takesName 27 ((f_X12_next H).1 32 2) (f_X12_next H)).2.1 29 18)).toNat (iOr ((f_X12_looksAt a2 a3 (f_X12_takesName 27 ((f_X12_next H).1 32 2) (f_X12_next H)).2).2.1 32 (iAdd a1 ((f_X12_takesName 27 ((f_X12_next H).1 32 2) (f_X12_next H)).2.1 29 18)).toNat) (iShl 1 ((f_X12_looksAt a2 a3 (f_X12_takesName 27 ((f_X12_next H).1 32 2) (f_X12_next H)).2).2.1 29 18)))) (rf_X12_looksAt a2 a3 (f_X12_takesName 27 ((f_X12_next H).1 32 2) (f_X12_next H)).2 (rf_X12_takesName 27 ((f_X12_next H).1 32 2) (f_X12_next H) (rf_X12_next H hr)))) ?_
        refine J_cst 86 jw hj rfl rfl rfl ?_
        exact J_ret rfl (Or.inl rfl) (fun aw hR => by show _ ∧ _; unfold f_X12_pair; rw [if_neg h0, if_neg h1, if_pos h2]; exact ⟨rfl, hR⟩)
      · refine J_ld 58 jw hj rfl rfl rfl rfl ?_
        refine J_cst 59 jw hj rfl rfl rfl ?_
        refine J_callV1 jw rfl (Or.inl ⟨_, rfl⟩) rfl rfl (sp_X12_bad (g := g) 3 (f_X12_looksAt a2 a3 (f_X12_takesName 27 ((f_X12_next H).1 32 2) (f_X12_next H)).2).2) ?_
        exact J_ret rfl (Or.inl rfl) (fun aw hR => by show _ ∧ _; unfold f_X12_pair; rw [if_neg h0, if_neg h1, if_neg h2]; exact ⟨rfl, hR⟩)
    · refine J_cst 37 jw hj rfl rfl rfl ?_
      exact J_ret rfl (Or.inl rfl) (fun aw hR => by show _ ∧ _; unfold f_X12_pair; rw [if_neg h0, if_pos h1]; exact ⟨rfl, hR⟩)
  · refine J_cst 20 jw hj rfl rfl rfl ?_
    exact J_ret rfl (Or.inl rfl) (fun aw hR => by show _ ∧ _; unfold f_X12_pair; rw [if_pos h0]; exact ⟨rfl, hR⟩)
theorem rf_X12_pair (a1 : Int) (a2 : Int) (a3 : Int) (H : hH) (hr : RM H.2.2.1) : RM (f_X12_pair a1 a2 a3 H).2.2.2.1 := by
  unfold f_X12_pair
  by_cases q1 : ((f_X12_takesName 27 ((f_X12_next H).1 32 2) (f_X12_next H)).1) = 0
  · rw [if_pos q1]
    exact (rf_X12_takesName 27 ((f_X12_next H).1 32 2) (f_X12_next H) (rf_X12_next H hr))
  · rw [if_neg q1]
    by_cases q2 : ((f_X12_looksAt a2 a3 (f_X12_takesName 27 ((f_X12_next H).1 32 2) (f_X12_next H)).2).1) = 0
    · rw [if_pos q2]
      exact (rf_X12_looksAt a2 a3 (f_X12_takesName 27 ((f_X12_next H).1 32 2) (f_X12_next H)).2 (rf_X12_takesName 27 ((f_X12_next H).1 32 2) (f_X12_next H) (rf_X12_next H hr)))
    · rw [if_neg q2]
      by_cases q3 : f_X12_bitOf ((f_X12_looksAt a2 a3 (f_X12_takesName 27 ((f_X12_next H).1 32 2) (f_X12_next H)).2).2.1 32 (iAdd a1 ((f_X12_takesName 27 ((f_X12_next H).1 32 2) (f_X12_next H)).2.1 29 18)).toNat) ((f_X12_looksAt a2 a3 (f_X12_takesName 27 ((f_X12_next H).1 32 2) (f_X12_next H)).2).2.1 29 18) = 0
      · rw [if_pos q3]
        exact (rf_X12_next (upI (f_X12_looksAt a2 a3 (f_X12_takesName 27 ((f_X12_next H).1 32 2) (f_X12_next H)).2).2 32 (iAdd a1 ((f_X12_takesName 27 ((f_X12_next H).1 32 2) (f_X12_next H)).2.1 29 18)).toNat (iOr ((f_X12_looksAt a2 a3 (f_X12_takesName 27 ((f_X12_next H).1 32 2) (f_X12_next H)).2).2.1 32 (iAdd a1 ((f_X12_takesName 27 ((f_X12_next H).1 32 2) (f_X12_next H)).2.1 29 18)).toNat) (iShl 1 ((f_X12_looksAt a2 a3 (f_X12_takesName 27 ((f_X12_next H).1 32 2) (f_X12_next H)).2).2.1 29 18)))) (rf_X12_looksAt a2 a3 (f_X12_takesName 27 ((f_X12_next H).1 32 2) (f_X12_next H)).2 (rf_X12_takesName 27 ((f_X12_next H).1 32 2) (f_X12_next H) (rf_X12_next H hr))))
      · rw [if_neg q3]
        exact (rf_X12_bad 3 (f_X12_looksAt a2 a3 (f_X12_takesName 27 ((f_X12_next H).1 32 2) (f_X12_next H)).2).2 (rf_X12_looksAt a2 a3 (f_X12_takesName 27 ((f_X12_next H).1 32 2) (f_X12_next H)).2 (rf_X12_takesName 27 ((f_X12_next H).1 32 2) (f_X12_next H) (rf_X12_next H hr))))
def f_X12_readHate  (H : hH) : Int × hH :=
  if ((f_X12_takesName 27 ((f_X12_next H).1 32 2) (f_X12_next H)).1) = 0 then
    (0, (f_X12_takesName 27 ((f_X12_next H).1 32 2) (f_X12_next H)).2)
  else
    if ((f_X12_looksAt 37 ((f_X12_takesName 27 ((f_X12_next H).1 32 2) (f_X12_next H)).2.1 32 3) (f_X12_takesName 27 ((f_X12_next H).1 32 2) (f_X12_next H)).2).1) = 0 then
      (0, (f_X12_looksAt 37 ((f_X12_takesName 27 ((f_X12_next H).1 32 2) (f_X12_next H)).2.1 32 3) (f_X12_takesName 27 ((f_X12_next H).1 32 2) (f_X12_next H)).2).2)
    else
      if 0 < ((f_X12_looksAt 37 ((f_X12_takesName 27 ((f_X12_next H).1 32 2) (f_X12_next H)).2.1 32 3) (f_X12_takesName 27 ((f_X12_next H).1 32 2) (f_X12_next H)).2).2.1 32 (iAdd (iAdd 55 (iMul 3 ((f_X12_takesName 27 ((f_X12_next H).1 32 2) (f_X12_next H)).2.1 29 18))) ((f_X12_looksAt 37 ((f_X12_takesName 27 ((f_X12_next H).1 32 2) (f_X12_next H)).2.1 32 3) (f_X12_takesName 27 ((f_X12_next H).1 32 2) (f_X12_next H)).2).2.1 29 18)).toNat) then
        ((f_X12_bad 3 (f_X12_looksAt 37 ((f_X12_takesName 27 ((f_X12_next H).1 32 2) (f_X12_next H)).2.1 32 3) (f_X12_takesName 27 ((f_X12_next H).1 32 2) (f_X12_next H)).2).2).1, (f_X12_bad 3 (f_X12_looksAt 37 ((f_X12_takesName 27 ((f_X12_next H).1 32 2) (f_X12_next H)).2.1 32 3) (f_X12_takesName 27 ((f_X12_next H).1 32 2) (f_X12_next H)).2).2).2)
      else
        ((f_X12_puts (iAdd (iAdd 55 (iMul 3 ((f_X12_takesName 27 ((f_X12_next H).1 32 2) (f_X12_next H)).2.1 29 18))) ((f_X12_looksAt 37 ((f_X12_takesName 27 ((f_X12_next H).1 32 2) (f_X12_next H)).2.1 32 3) (f_X12_takesName 27 ((f_X12_next H).1 32 2) (f_X12_next H)).2).2.1 29 18)) 1 20 (f_X12_next (f_X12_looksAt 37 ((f_X12_takesName 27 ((f_X12_next H).1 32 2) (f_X12_next H)).2.1 32 3) (f_X12_takesName 27 ((f_X12_next H).1 32 2) (f_X12_next H)).2).2)).1, (f_X12_puts (iAdd (iAdd 55 (iMul 3 ((f_X12_takesName 27 ((f_X12_next H).1 32 2) (f_X12_next H)).2.1 29 18))) ((f_X12_looksAt 37 ((f_X12_takesName 27 ((f_X12_next H).1 32 2) (f_X12_next H)).2.1 32 3) (f_X12_takesName 27 ((f_X12_next H).1 32 2) (f_X12_next H)).2).2.1 29 18)) 1 20 (f_X12_next (f_X12_looksAt 37 ((f_X12_takesName 27 ((f_X12_next H).1 32 2) (f_X12_next H)).2.1 32 3) (f_X12_takesName 27 ((f_X12_next H).1 32 2) (f_X12_next H)).2).2)).2)
set_option maxHeartbeats 16000000 in
set_option maxRecDepth 100000 in
theorem sp_X12_readHate {g : Nat → Nat}  (H : hH) (hr : RM H.2.2.1) : SP g rvTab rvInf rvRet 316 rvMth 156 [rf (g 29)] H (some (pt (f_X12_readHate H).1)) (f_X12_readHate H).2 := by
  have hj : 156 < 316 := by decide
  refine J_SP hj (Nat.le_of_ble_eq_true rfl) ?_
  show J g rvTab rvInf rvRet 316 rvMth 156 _ 0 [rf (g 29), rvU, rvU] [] H
  refine J_ld 1 jw hj rfl rfl rfl rfl ?_
  refine J_callV0 jw rfl (Or.inl ⟨_, rfl⟩) rfl rfl (sp_X12_next (g := g) H hr) ?_
  refine J_ld 5 jw hj rfl rfl rfl rfl ?_
  refine J_cst 7 jw hj rfl rfl rfl ?_
  refine J_ld 8 jw hj rfl rfl rfl rfl ?_
  refine J_gfR (k := 32) jw hj rfl (evn rfl) (by decide) (by decide) (RMa (rf_X12_next H hr) rfl) ?_
  refine J_cst 12 jw hj rfl rfl rfl ?_
  refine J_iald jw hj rfl (Or.inl rfl) (fun z0 r0 => ?_)
  refine J_callV1 jw rfl (Or.inl ⟨_, rfl⟩) rfl rfl (sp_X12_takesName (g := g) 27 ((f_X12_next H).1 32 2) (f_X12_next H) (rf_X12_next H hr)) ?_
  refine J_ifc (t := 21) jw hj rfl (evn rfl) rfl (fun (h0 : ¬ ((f_X12_takesName 27 ((f_X12_next H).1 32 2) (f_X12_next H)).1) = 0) => ?_) (fun (h0 : ((f_X12_takesName 27 ((f_X12_next H).1 32 2) (f_X12_next H)).1) = 0) => ?_)
  · refine J_ld 22 jw hj rfl rfl rfl rfl ?_
    refine J_gfI jw hj rfl (evn rfl) (by decide) rfl (fun r1 => ?_)
    refine J_st 26 [rf (g 29), pt ((f_X12_takesName 27 ((f_X12_next H).1 32 2) (f_X12_next H)).2.1 29 18), rvU] (k := 1) jw hj rfl (Or.inr (Or.inr (Or.inl ⟨_, rfl, rfl, rfl⟩))) rfl ?_
    refine J_ld 27 jw hj rfl rfl rfl rfl ?_
    refine J_cst 29 jw hj rfl rfl rfl ?_
    refine J_ld 30 jw hj rfl rfl rfl rfl ?_
    refine J_gfR (k := 32) jw hj rfl (evn rfl) (by decide) (by decide) (RMa (rf_X12_takesName 27 ((f_X12_next H).1 32 2) (f_X12_next H) (rf_X12_next H hr)) rfl) ?_
    refine J_cst 34 jw hj rfl rfl rfl ?_
    refine J_iald jw hj rfl (Or.inl rfl) (fun z2 r2 => ?_)
    refine J_callV1 jw rfl (Or.inl ⟨_, rfl⟩) rfl rfl (sp_X12_looksAt (g := g) 37 ((f_X12_takesName 27 ((f_X12_next H).1 32 2) (f_X12_next H)).2.1 32 3) (f_X12_takesName 27 ((f_X12_next H).1 32 2) (f_X12_next H)).2 (rf_X12_takesName 27 ((f_X12_next H).1 32 2) (f_X12_next H) (rf_X12_next H hr))) ?_
    refine J_ifc (t := 43) jw hj rfl (evn rfl) rfl (fun (h1 : ¬ ((f_X12_looksAt 37 ((f_X12_takesName 27 ((f_X12_next H).1 32 2) (f_X12_next H)).2.1 32 3) (f_X12_takesName 27 ((f_X12_next H).1 32 2) (f_X12_next H)).2).1) = 0) => ?_) (fun (h1 : ((f_X12_looksAt 37 ((f_X12_takesName 27 ((f_X12_next H).1 32 2) (f_X12_next H)).2.1 32 3) (f_X12_takesName 27 ((f_X12_next H).1 32 2) (f_X12_next H)).2).1) = 0) => ?_)
    · refine J_cst 45 jw hj rfl rfl rfl ?_
      refine J_cst 46 jw hj rfl rfl rfl ?_
      refine J_ld 47 jw hj rfl rfl rfl rfl ?_
      refine J_bin jw hj rfl rfl ?_
      refine J_bin jw hj rfl rfl ?_
      refine J_ld 50 jw hj rfl rfl rfl rfl ?_
      refine J_gfI jw hj rfl (evn rfl) (by decide) rfl (fun r3 => ?_)
      refine J_bin jw hj rfl rfl ?_
      refine J_st 55 [rf (g 29), pt ((f_X12_takesName 27 ((f_X12_next H).1 32 2) (f_X12_next H)).2.1 29 18), pt (iAdd (iAdd 55 (iMul 3 ((f_X12_takesName 27 ((f_X12_next H).1 32 2) (f_X12_next H)).2.1 29 18))) ((f_X12_looksAt 37 ((f_X12_takesName 27 ((f_X12_next H).1 32 2) (f_X12_next H)).2.1 32 3) (f_X12_takesName 27 ((f_X12_next H).1 32 2) (f_X12_next H)).2).2.1 29 18))] (k := 2) jw hj rfl (Or.inr (Or.inr (Or.inl ⟨_, rfl, rfl, rfl⟩))) rfl ?_
      refine J_ld 56 jw hj rfl rfl rfl rfl ?_
      refine J_gfR (k := 32) jw hj rfl (evn rfl) (by decide) (by decide) (RMa (rf_X12_looksAt 37 ((f_X12_takesName 27 ((f_X12_next H).1 32 2) (f_X12_next H)).2.1 32 3) (f_X12_takesName 27 ((f_X12_next H).1 32 2) (f_X12_next H)).2 (rf_X12_takesName 27 ((f_X12_next H).1 32 2) (f_X12_next H) (rf_X12_next H hr))) rfl) ?_
      refine J_ld 60 jw hj rfl rfl rfl rfl ?_
      refine J_iald jw hj rfl (Or.inl rfl) (fun z4 r4 => ?_)
      refine J_ifc (t := 70) jw hj rfl (evn rfl) rfl (fun (h2 : ¬ 0 < ((f_X12_looksAt 37 ((f_X12_takesName 27 ((f_X12_next H).1 32 2) (f_X12_next H)).2.1 32 3) (f_X12_takesName 27 ((f_X12_next H).1 32 2) (f_X12_next H)).2).2.1 32 (iAdd (iAdd 55 (iMul 3 ((f_X12_takesName 27 ((f_X12_next H).1 32 2) (f_X12_next H)).2.1 29 18))) ((f_X12_looksAt 37 ((f_X12_takesName 27 ((f_X12_next H).1 32 2) (f_X12_next H)).2.1 32 3) (f_X12_takesName 27 ((f_X12_next H).1 32 2) (f_X12_next H)).2).2.1 29 18)).toNat)) => ?_) (fun (h2 : 0 < ((f_X12_looksAt 37 ((f_X12_takesName 27 ((f_X12_next H).1 32 2) (f_X12_next H)).2.1 32 3) (f_X12_takesName 27 ((f_X12_next H).1 32 2) (f_X12_next H)).2).2.1 32 (iAdd (iAdd 55 (iMul 3 ((f_X12_takesName 27 ((f_X12_next H).1 32 2) (f_X12_next H)).2.1 29 18))) ((f_X12_looksAt 37 ((f_X12_takesName 27 ((f_X12_next H).1 32 2) (f_X12_next H)).2.1 32 3) (f_X12_takesName 27 ((f_X12_next H).1 32 2) (f_X12_next H)).2).2.1 29 18)).toNat)) => ?_)
      · refine J_ld 71 jw hj rfl rfl rfl rfl ?_
        refine J_callV0 jw rfl (Or.inl ⟨_, rfl⟩) rfl rfl (sp_X12_next (g := g) (f_X12_looksAt 37 ((f_X12_takesName 27 ((f_X12_next H).1 32 2) (f_X12_next H)).2.1 32 3) (f_X12_takesName 27 ((f_X12_next H).1 32 2) (f_X12_next H)).2).2 (rf_X12_looksAt 37 ((f_X12_takesName 27 ((f_X12_next H).1 32 2) (f_X12_next H)).2.1 32 3) (f_X12_takesName 27 ((f_X12_next H).1 32 2) (f_X12_next H)).2 (rf_X12_takesName 27 ((f_X12_next H).1 32 2) (f_X12_next H) (rf_X12_next H hr)))) ?_
        refine J_ld 75 jw hj rfl rfl rfl rfl ?_
        refine J_ld 76 jw hj rfl rfl rfl rfl ?_
        refine J_cst 77 jw hj rfl rfl rfl ?_
        refine J_cst 79 jw hj rfl rfl rfl ?_
        refine J_callV1 jw rfl (Or.inl ⟨_, rfl⟩) rfl rfl (sp_X12_puts (g := g) (iAdd (iAdd 55 (iMul 3 ((f_X12_takesName 27 ((f_X12_next H).1 32 2) (f_X12_next H)).2.1 29 18))) ((f_X12_looksAt 37 ((f_X12_takesName 27 ((f_X12_next H).1 32 2) (f_X12_next H)).2.1 32 3) (f_X12_takesName 27 ((f_X12_next H).1 32 2) (f_X12_next H)).2).2.1 29 18)) 1 20 (f_X12_next (f_X12_looksAt 37 ((f_X12_takesName 27 ((f_X12_next H).1 32 2) (f_X12_next H)).2.1 32 3) (f_X12_takesName 27 ((f_X12_next H).1 32 2) (f_X12_next H)).2).2) (rf_X12_next (f_X12_looksAt 37 ((f_X12_takesName 27 ((f_X12_next H).1 32 2) (f_X12_next H)).2.1 32 3) (f_X12_takesName 27 ((f_X12_next H).1 32 2) (f_X12_next H)).2).2 (rf_X12_looksAt 37 ((f_X12_takesName 27 ((f_X12_next H).1 32 2) (f_X12_next H)).2.1 32 3) (f_X12_takesName 27 ((f_X12_next H).1 32 2) (f_X12_next H)).2 (rf_X12_takesName 27 ((f_X12_next H).1 32 2) (f_X12_next H) (rf_X12_next H hr))))) ?_
        exact J_ret rfl (Or.inl rfl) (fun aw hR => by show _ ∧ _; unfold f_X12_readHate; rw [if_neg h0, if_neg h1, if_neg h2]; exact ⟨rfl, hR⟩)
      · refine J_ld 65 jw hj rfl rfl rfl rfl ?_
        refine J_cst 66 jw hj rfl rfl rfl ?_
        refine J_callV1 jw rfl (Or.inl ⟨_, rfl⟩) rfl rfl (sp_X12_bad (g := g) 3 (f_X12_looksAt 37 ((f_X12_takesName 27 ((f_X12_next H).1 32 2) (f_X12_next H)).2.1 32 3) (f_X12_takesName 27 ((f_X12_next H).1 32 2) (f_X12_next H)).2).2) ?_
        exact J_ret rfl (Or.inl rfl) (fun aw hR => by show _ ∧ _; unfold f_X12_readHate; rw [if_neg h0, if_neg h1, if_pos h2]; exact ⟨rfl, hR⟩)
    · refine J_cst 42 jw hj rfl rfl rfl ?_
      exact J_ret rfl (Or.inl rfl) (fun aw hR => by show _ ∧ _; unfold f_X12_readHate; rw [if_neg h0, if_pos h1]; exact ⟨rfl, hR⟩)
  · refine J_cst 20 jw hj rfl rfl rfl ?_
    exact J_ret rfl (Or.inl rfl) (fun aw hR => by show _ ∧ _; unfold f_X12_readHate; rw [if_pos h0]; exact ⟨rfl, hR⟩)
theorem rf_X12_readHate  (H : hH) (hr : RM H.2.2.1) : RM (f_X12_readHate H).2.2.2.1 := by
  unfold f_X12_readHate
  by_cases q1 : ((f_X12_takesName 27 ((f_X12_next H).1 32 2) (f_X12_next H)).1) = 0
  · rw [if_pos q1]
    exact (rf_X12_takesName 27 ((f_X12_next H).1 32 2) (f_X12_next H) (rf_X12_next H hr))
  · rw [if_neg q1]
    by_cases q2 : ((f_X12_looksAt 37 ((f_X12_takesName 27 ((f_X12_next H).1 32 2) (f_X12_next H)).2.1 32 3) (f_X12_takesName 27 ((f_X12_next H).1 32 2) (f_X12_next H)).2).1) = 0
    · rw [if_pos q2]
      exact (rf_X12_looksAt 37 ((f_X12_takesName 27 ((f_X12_next H).1 32 2) (f_X12_next H)).2.1 32 3) (f_X12_takesName 27 ((f_X12_next H).1 32 2) (f_X12_next H)).2 (rf_X12_takesName 27 ((f_X12_next H).1 32 2) (f_X12_next H) (rf_X12_next H hr)))
    · rw [if_neg q2]
      by_cases q3 : 0 < ((f_X12_looksAt 37 ((f_X12_takesName 27 ((f_X12_next H).1 32 2) (f_X12_next H)).2.1 32 3) (f_X12_takesName 27 ((f_X12_next H).1 32 2) (f_X12_next H)).2).2.1 32 (iAdd (iAdd 55 (iMul 3 ((f_X12_takesName 27 ((f_X12_next H).1 32 2) (f_X12_next H)).2.1 29 18))) ((f_X12_looksAt 37 ((f_X12_takesName 27 ((f_X12_next H).1 32 2) (f_X12_next H)).2.1 32 3) (f_X12_takesName 27 ((f_X12_next H).1 32 2) (f_X12_next H)).2).2.1 29 18)).toNat)
      · rw [if_pos q3]
        exact (rf_X12_bad 3 (f_X12_looksAt 37 ((f_X12_takesName 27 ((f_X12_next H).1 32 2) (f_X12_next H)).2.1 32 3) (f_X12_takesName 27 ((f_X12_next H).1 32 2) (f_X12_next H)).2).2 (rf_X12_looksAt 37 ((f_X12_takesName 27 ((f_X12_next H).1 32 2) (f_X12_next H)).2.1 32 3) (f_X12_takesName 27 ((f_X12_next H).1 32 2) (f_X12_next H)).2 (rf_X12_takesName 27 ((f_X12_next H).1 32 2) (f_X12_next H) (rf_X12_next H hr))))
      · rw [if_neg q3]
        exact (rf_X12_puts (iAdd (iAdd 55 (iMul 3 ((f_X12_takesName 27 ((f_X12_next H).1 32 2) (f_X12_next H)).2.1 29 18))) ((f_X12_looksAt 37 ((f_X12_takesName 27 ((f_X12_next H).1 32 2) (f_X12_next H)).2.1 32 3) (f_X12_takesName 27 ((f_X12_next H).1 32 2) (f_X12_next H)).2).2.1 29 18)) 1 20 (f_X12_next (f_X12_looksAt 37 ((f_X12_takesName 27 ((f_X12_next H).1 32 2) (f_X12_next H)).2.1 32 3) (f_X12_takesName 27 ((f_X12_next H).1 32 2) (f_X12_next H)).2).2) (rf_X12_next (f_X12_looksAt 37 ((f_X12_takesName 27 ((f_X12_next H).1 32 2) (f_X12_next H)).2.1 32 3) (f_X12_takesName 27 ((f_X12_next H).1 32 2) (f_X12_next H)).2).2 (rf_X12_looksAt 37 ((f_X12_takesName 27 ((f_X12_next H).1 32 2) (f_X12_next H)).2.1 32 3) (f_X12_takesName 27 ((f_X12_next H).1 32 2) (f_X12_next H)).2 (rf_X12_takesName 27 ((f_X12_next H).1 32 2) (f_X12_next H) (rf_X12_next H hr)))))
def f_X12_line  (H : hH) : Int × hH :=
  if f_X12_isWord 126943972648308 H = 0 then
    if f_X12_isWord 1953653101 H = 0 then
      if f_X12_isWord 123581014175598 H = 0 then
        if f_X12_isWord 1835102827 H = 0 then
          if f_X12_isWord 491394458995 H = 0 then
            if f_X12_isWord 6840691 H = 0 then
              if f_X12_isWord 448311616883 H = 0 then
                ((f_X12_bad 1 H).1, (f_X12_bad 1 H).2)
              else
                ((f_X12_readHate H).1, (f_X12_readHate H).2)
            else
              ((f_X12_pair 45 37 (H.1 32 3) H).1, (f_X12_pair 45 37 (H.1 32 3) H).2)
          else
            ((f_X12_pair 35 24 (H.1 32 1) H).1, (f_X12_pair 35 24 (H.1 32 1) H).2)
        else
          if H.1 32 3 = 3 then
            ((f_X12_bad 4 H).1, (f_X12_bad 4 H).2)
          else
            if ((f_X12_fresh (iAdd 37 (H.1 32 3)) (f_X12_next H)).1) = 0 then
              (0, (f_X12_fresh (iAdd 37 (H.1 32 3)) (f_X12_next H)).2)
            else
              if ((f_X12_puts (iAdd 85 (H.1 32 3)) 0 40 (f_X12_fresh (iAdd 37 (H.1 32 3)) (f_X12_next H)).2).1) = 0 then
                (0, (f_X12_puts (iAdd 85 (H.1 32 3)) 0 40 (f_X12_fresh (iAdd 37 (H.1 32 3)) (f_X12_next H)).2).2)
              else
                if ((f_X12_puts (iAdd 88 (H.1 32 3)) (f_X12_greater 1 ((f_X12_puts (iAdd 85 (H.1 32 3)) 0 40 (f_X12_fresh (iAdd 37 (H.1 32 3)) (f_X12_next H)).2).2.1 32 (iAdd 85 (H.1 32 3)).toNat)) 40 (f_X12_puts (iAdd 85 (H.1 32 3)) 0 40 (f_X12_fresh (iAdd 37 (H.1 32 3)) (f_X12_next H)).2).2).1) = 0 then
                  (0, (f_X12_puts (iAdd 88 (H.1 32 3)) (f_X12_greater 1 ((f_X12_puts (iAdd 85 (H.1 32 3)) 0 40 (f_X12_fresh (iAdd 37 (H.1 32 3)) (f_X12_next H)).2).2.1 32 (iAdd 85 (H.1 32 3)).toNat)) 40 (f_X12_puts (iAdd 85 (H.1 32 3)) 0 40 (f_X12_fresh (iAdd 37 (H.1 32 3)) (f_X12_next H)).2).2).2)
                else
                  (1, (upI (f_X12_puts (iAdd 88 (H.1 32 3)) (f_X12_greater 1 ((f_X12_puts (iAdd 85 (H.1 32 3)) 0 40 (f_X12_fresh (iAdd 37 (H.1 32 3)) (f_X12_next H)).2).2.1 32 (iAdd 85 (H.1 32 3)).toNat)) 40 (f_X12_puts (iAdd 85 (H.1 32 3)) 0 40 (f_X12_fresh (iAdd 37 (H.1 32 3)) (f_X12_next H)).2).2).2 32 3 (iAdd ((f_X12_puts (iAdd 88 (H.1 32 3)) (f_X12_greater 1 ((f_X12_puts (iAdd 85 (H.1 32 3)) 0 40 (f_X12_fresh (iAdd 37 (H.1 32 3)) (f_X12_next H)).2).2.1 32 (iAdd 85 (H.1 32 3)).toNat)) 40 (f_X12_puts (iAdd 85 (H.1 32 3)) 0 40 (f_X12_fresh (iAdd 37 (H.1 32 3)) (f_X12_next H)).2).2).2.1 32 3) 1)))
      else
        ((f_X12_readPerson H).1, (f_X12_readPerson H).2)
    else
      ((f_X12_readName 1 3 24 H).1, (f_X12_readName 1 3 24 H).2)
  else
    ((f_X12_readName 0 4 20 H).1, (f_X12_readName 0 4 20 H).2)
set_option maxHeartbeats 16000000 in
set_option maxRecDepth 100000 in
theorem sp_X12_line {g : Nat → Nat}  (H : hH) (hr : RM H.2.2.1) : SP g rvTab rvInf rvRet 316 rvMth 154 [rf (g 29)] H (some (pt (f_X12_line H).1)) (f_X12_line H).2 := by
  have hj : 154 < 316 := by decide
  refine J_SP hj (Nat.le_of_ble_eq_true rfl) ?_
  show J g rvTab rvInf rvRet 316 rvMth 154 _ 0 [rf (g 29), rvU] [] H
  refine J_ld 1 jw hj rfl rfl rfl rfl ?_
  refine J_lc (n := 126943972648308) 4 jw hj rfl (Or.inr ⟨_, rfl, by decide +kernel, rfl⟩) ?_
  refine J_callV1 jw rfl (Or.inl ⟨_, rfl⟩) rfl rfl (sp_X12_isWord (g := g) 126943972648308 H) ?_
  refine J_ifc (t := 19) jw hj rfl (evn rfl) rfl (fun (h0 : f_X12_isWord 126943972648308 H = 0) => ?_) (fun (h0 : ¬ f_X12_isWord 126943972648308 H = 0) => ?_)
  · refine J_ld 20 jw hj rfl rfl rfl rfl ?_
    refine J_lc (n := 1953653101) 23 jw hj rfl (Or.inr ⟨_, rfl, by decide +kernel, rfl⟩) ?_
    refine J_callV1 jw rfl (Or.inl ⟨_, rfl⟩) rfl rfl (sp_X12_isWord (g := g) 1953653101 H) ?_
    refine J_ifc (t := 38) jw hj rfl (evn rfl) rfl (fun (h1 : f_X12_isWord 1953653101 H = 0) => ?_) (fun (h1 : ¬ f_X12_isWord 1953653101 H = 0) => ?_)
    · refine J_ld 39 jw hj rfl rfl rfl rfl ?_
      refine J_lc (n := 123581014175598) 42 jw hj rfl (Or.inr ⟨_, rfl, by decide +kernel, rfl⟩) ?_
      refine J_callV1 jw rfl (Or.inl ⟨_, rfl⟩) rfl rfl (sp_X12_isWord (g := g) 123581014175598 H) ?_
      refine J_ifc (t := 53) jw hj rfl (evn rfl) rfl (fun (h2 : f_X12_isWord 123581014175598 H = 0) => ?_) (fun (h2 : ¬ f_X12_isWord 123581014175598 H = 0) => ?_)
      · refine J_ld 54 jw hj rfl rfl rfl rfl ?_
        refine J_lc (n := 1835102827) 57 jw hj rfl (Or.inr ⟨_, rfl, by decide +kernel, rfl⟩) ?_
        refine J_callV1 jw rfl (Or.inl ⟨_, rfl⟩) rfl rfl (sp_X12_isWord (g := g) 1835102827 H) ?_
        refine J_ifc (t := 150) jw hj rfl (evn rfl) rfl (fun (h3 : f_X12_isWord 1835102827 H = 0) => ?_) (fun (h3 : ¬ f_X12_isWord 1835102827 H = 0) => ?_)
        · refine J_ld 151 jw hj rfl rfl rfl rfl ?_
          refine J_lc (n := 491394458995) 154 jw hj rfl (Or.inr ⟨_, rfl, by decide +kernel, rfl⟩) ?_
          refine J_callV1 jw rfl (Or.inl ⟨_, rfl⟩) rfl rfl (sp_X12_isWord (g := g) 491394458995 H) ?_
          refine J_ifc (t := 175) jw hj rfl (evn rfl) rfl (fun (h4 : f_X12_isWord 491394458995 H = 0) => ?_) (fun (h4 : ¬ f_X12_isWord 491394458995 H = 0) => ?_)
          · refine J_ld 176 jw hj rfl rfl rfl rfl ?_
            refine J_lc (n := 6840691) 179 jw hj rfl (Or.inr ⟨_, rfl, by decide +kernel, rfl⟩) ?_
            refine J_callV1 jw rfl (Or.inl ⟨_, rfl⟩) rfl rfl (sp_X12_isWord (g := g) 6840691 H) ?_
            refine J_ifc (t := 200) jw hj rfl (evn rfl) rfl (fun (h5 : f_X12_isWord 6840691 H = 0) => ?_) (fun (h5 : ¬ f_X12_isWord 6840691 H = 0) => ?_)
            · refine J_ld 201 jw hj rfl rfl rfl rfl ?_
              refine J_lc (n := 448311616883) 204 jw hj rfl (Or.inr ⟨_, rfl, by decide +kernel, rfl⟩) ?_
              refine J_callV1 jw rfl (Or.inl ⟨_, rfl⟩) rfl rfl (sp_X12_isWord (g := g) 448311616883 H) ?_
              refine J_ifc (t := 217) jw hj rfl (evn rfl) rfl (fun (h6 : f_X12_isWord 448311616883 H = 0) => ?_) (fun (h6 : ¬ f_X12_isWord 448311616883 H = 0) => ?_)
              · refine J_ld 218 jw hj rfl rfl rfl rfl ?_
                refine J_cst 219 jw hj rfl rfl rfl ?_
                refine J_callV1 jw rfl (Or.inl ⟨_, rfl⟩) rfl rfl (sp_X12_bad (g := g) 1 H) ?_
                exact J_ret rfl (Or.inl rfl) (fun aw hR => by show _ ∧ _; unfold f_X12_line; rw [if_pos h0, if_pos h1, if_pos h2, if_pos h3, if_pos h4, if_pos h5, if_pos h6]; exact ⟨rfl, hR⟩)
              · refine J_ld 211 jw hj rfl rfl rfl rfl ?_
                refine J_callV1 jw rfl (Or.inl ⟨_, rfl⟩) rfl rfl (sp_X12_readHate (g := g) H hr) ?_
                refine J_goto 222 jw hj rfl rfl ?_
                exact J_ret rfl (Or.inl rfl) (fun aw hR => by show _ ∧ _; unfold f_X12_line; rw [if_pos h0, if_pos h1, if_pos h2, if_pos h3, if_pos h4, if_pos h5, if_neg h6]; exact ⟨rfl, hR⟩)
            · refine J_ld 186 jw hj rfl rfl rfl rfl ?_
              refine J_cst 188 jw hj rfl rfl rfl ?_
              refine J_cst 190 jw hj rfl rfl rfl ?_
              refine J_ld 191 jw hj rfl rfl rfl rfl ?_
              refine J_gfR (k := 32) jw hj rfl (evn rfl) (by decide) (by decide) (RMa hr rfl) ?_
              refine J_cst 195 jw hj rfl rfl rfl ?_
              refine J_iald jw hj rfl (Or.inl rfl) (fun z0 r0 => ?_)
              refine J_callV1 jw rfl (Or.inl ⟨_, rfl⟩) rfl rfl (sp_X12_pair (g := g) 45 37 (H.1 32 3) H hr) ?_
              exact J_ret rfl (Or.inl rfl) (fun aw hR => by show _ ∧ _; unfold f_X12_line; rw [if_pos h0, if_pos h1, if_pos h2, if_pos h3, if_pos h4, if_neg h5]; exact ⟨rfl, hR⟩)
          · refine J_ld 161 jw hj rfl rfl rfl rfl ?_
            refine J_cst 163 jw hj rfl rfl rfl ?_
            refine J_cst 165 jw hj rfl rfl rfl ?_
            refine J_ld 166 jw hj rfl rfl rfl rfl ?_
            refine J_gfR (k := 32) jw hj rfl (evn rfl) (by decide) (by decide) (RMa hr rfl) ?_
            refine J_cst 170 jw hj rfl rfl rfl ?_
            refine J_iald jw hj rfl (Or.inl rfl) (fun z1 r1 => ?_)
            refine J_callV1 jw rfl (Or.inl ⟨_, rfl⟩) rfl rfl (sp_X12_pair (g := g) 35 24 (H.1 32 1) H hr) ?_
            exact J_ret rfl (Or.inl rfl) (fun aw hR => by show _ ∧ _; unfold f_X12_line; rw [if_pos h0, if_pos h1, if_pos h2, if_pos h3, if_neg h4]; exact ⟨rfl, hR⟩)
        · refine J_ld 64 jw hj rfl rfl rfl rfl ?_
          refine J_gfR (k := 32) jw hj rfl (evn rfl) (by decide) (by decide) (RMa hr rfl) ?_
          refine J_cst 68 jw hj rfl rfl rfl ?_
          refine J_iald jw hj rfl (Or.inl rfl) (fun z2 r2 => ?_)
          refine J_st 70 [rf (g 29), pt (H.1 32 3)] (k := 1) jw hj rfl (Or.inr (Or.inr (Or.inl ⟨_, rfl, rfl, rfl⟩))) rfl ?_
          refine J_ld 71 jw hj rfl rfl rfl rfl ?_
          refine J_cst 72 jw hj rfl rfl rfl ?_
          refine J_icmp (t := 81) jw hj rfl (evn rfl) rfl (fun (h7 : ¬ H.1 32 3 = 3) => ?_) (fun (h7 : H.1 32 3 = 3) => ?_)
          · refine J_ld 82 jw hj rfl rfl rfl rfl ?_
            refine J_callV0 jw rfl (Or.inl ⟨_, rfl⟩) rfl rfl (sp_X12_next (g := g) H hr) ?_
            refine J_ld 86 jw hj rfl rfl rfl rfl ?_
            refine J_cst 88 jw hj rfl rfl rfl ?_
            refine J_ld 89 jw hj rfl rfl rfl rfl ?_
            refine J_bin jw hj rfl rfl ?_
            refine J_callV1 jw rfl (Or.inl ⟨_, rfl⟩) rfl rfl (sp_X12_fresh (g := g) (iAdd 37 (H.1 32 3)) (f_X12_next H) (rf_X12_next H hr)) ?_
            refine J_ifc (t := 136) jw hj rfl (evn rfl) rfl (fun (h8 : ((f_X12_fresh (iAdd 37 (H.1 32 3)) (f_X12_next H)).1) = 0) => ?_) (fun (h8 : ¬ ((f_X12_fresh (iAdd 37 (H.1 32 3)) (f_X12_next H)).1) = 0) => ?_)
            · refine J_cst 137 jw hj rfl rfl rfl ?_
              exact J_ret rfl (Or.inl rfl) (fun aw hR => by show _ ∧ _; unfold f_X12_line; rw [if_pos h0, if_pos h1, if_pos h2, if_neg h3, if_neg h7, if_pos h8]; exact ⟨rfl, hR⟩)
            · refine J_ld 97 jw hj rfl rfl rfl rfl ?_
              refine J_cst 99 jw hj rfl rfl rfl ?_
              refine J_ld 100 jw hj rfl rfl rfl rfl ?_
              refine J_bin jw hj rfl rfl ?_
              refine J_cst 102 jw hj rfl rfl rfl ?_
              refine J_cst 104 jw hj rfl rfl rfl ?_
              refine J_callV1 jw rfl (Or.inl ⟨_, rfl⟩) rfl rfl (sp_X12_puts (g := g) (iAdd 85 (H.1 32 3)) 0 40 (f_X12_fresh (iAdd 37 (H.1 32 3)) (f_X12_next H)).2 (rf_X12_fresh (iAdd 37 (H.1 32 3)) (f_X12_next H) (rf_X12_next H hr))) ?_
              refine J_ifc (t := 136) jw hj rfl (evn rfl) rfl (fun (h9 : ((f_X12_puts (iAdd 85 (H.1 32 3)) 0 40 (f_X12_fresh (iAdd 37 (H.1 32 3)) (f_X12_next H)).2).1) = 0) => ?_) (fun (h9 : ¬ ((f_X12_puts (iAdd 85 (H.1 32 3)) 0 40 (f_X12_fresh (iAdd 37 (H.1 32 3)) (f_X12_next H)).2).1) = 0) => ?_)
              · refine J_cst 137 jw hj rfl rfl rfl ?_
                exact J_ret rfl (Or.inl rfl) (fun aw hR => by show _ ∧ _; unfold f_X12_line; rw [if_pos h0, if_pos h1, if_pos h2, if_neg h3, if_neg h7, if_neg h8, if_pos h9]; exact ⟨rfl, hR⟩)
              · refine J_ld 111 jw hj rfl rfl rfl rfl ?_
                refine J_cst 113 jw hj rfl rfl rfl ?_
                refine J_ld 114 jw hj rfl rfl rfl rfl ?_
                refine J_bin jw hj rfl rfl ?_
                refine J_cst 116 jw hj rfl rfl rfl ?_
                refine J_ld 117 jw hj rfl rfl rfl rfl ?_
                refine J_gfR (k := 32) jw hj rfl (evn rfl) (by decide) (by decide) (RMa (rf_X12_puts (iAdd 85 (H.1 32 3)) 0 40 (f_X12_fresh (iAdd 37 (H.1 32 3)) (f_X12_next H)).2 (rf_X12_fresh (iAdd 37 (H.1 32 3)) (f_X12_next H) (rf_X12_next H hr))) rfl) ?_
                refine J_cst 122 jw hj rfl rfl rfl ?_
                refine J_ld 123 jw hj rfl rfl rfl rfl ?_
                refine J_bin jw hj rfl rfl ?_
                refine J_iald jw hj rfl (Or.inl rfl) (fun z3 r3 => ?_)
                refine J_callS1 jw rfl rfl rfl rfl (sp_X12_greater (g := g) 1 ((f_X12_puts (iAdd 85 (H.1 32 3)) 0 40 (f_X12_fresh (iAdd 37 (H.1 32 3)) (f_X12_next H)).2).2.1 32 (iAdd 85 (H.1 32 3)).toNat) (f_X12_puts (iAdd 85 (H.1 32 3)) 0 40 (f_X12_fresh (iAdd 37 (H.1 32 3)) (f_X12_next H)).2).2) ?_
                refine J_cst 130 jw hj rfl rfl rfl ?_
                refine J_callV1 jw rfl (Or.inl ⟨_, rfl⟩) rfl rfl (sp_X12_puts (g := g) (iAdd 88 (H.1 32 3)) (f_X12_greater 1 ((f_X12_puts (iAdd 85 (H.1 32 3)) 0 40 (f_X12_fresh (iAdd 37 (H.1 32 3)) (f_X12_next H)).2).2.1 32 (iAdd 85 (H.1 32 3)).toNat)) 40 (f_X12_puts (iAdd 85 (H.1 32 3)) 0 40 (f_X12_fresh (iAdd 37 (H.1 32 3)) (f_X12_next H)).2).2 (rf_X12_puts (iAdd 85 (H.1 32 3)) 0 40 (f_X12_fresh (iAdd 37 (H.1 32 3)) (f_X12_next H)).2 (rf_X12_fresh (iAdd 37 (H.1 32 3)) (f_X12_next H) (rf_X12_next H hr)))) ?_
                refine J_ifc (t := 138) jw hj rfl (evn rfl) rfl (fun (h10 : ¬ ((f_X12_puts (iAdd 88 (H.1 32 3)) (f_X12_greater 1 ((f_X12_puts (iAdd 85 (H.1 32 3)) 0 40 (f_X12_fresh (iAdd 37 (H.1 32 3)) (f_X12_next H)).2).2.1 32 (iAdd 85 (H.1 32 3)).toNat)) 40 (f_X12_puts (iAdd 85 (H.1 32 3)) 0 40 (f_X12_fresh (iAdd 37 (H.1 32 3)) (f_X12_next H)).2).2).1) = 0) => ?_) (fun (h10 : ((f_X12_puts (iAdd 88 (H.1 32 3)) (f_X12_greater 1 ((f_X12_puts (iAdd 85 (H.1 32 3)) 0 40 (f_X12_fresh (iAdd 37 (H.1 32 3)) (f_X12_next H)).2).2.1 32 (iAdd 85 (H.1 32 3)).toNat)) 40 (f_X12_puts (iAdd 85 (H.1 32 3)) 0 40 (f_X12_fresh (iAdd 37 (H.1 32 3)) (f_X12_next H)).2).2).1) = 0) => ?_)
                · refine J_ld 139 jw hj rfl rfl rfl rfl ?_
                  refine J_gfR (k := 32) jw hj rfl (evn rfl) (by decide) (by decide) (RMa (rf_X12_puts (iAdd 88 (H.1 32 3)) (f_X12_greater 1 ((f_X12_puts (iAdd 85 (H.1 32 3)) 0 40 (f_X12_fresh (iAdd 37 (H.1 32 3)) (f_X12_next H)).2).2.1 32 (iAdd 85 (H.1 32 3)).toNat)) 40 (f_X12_puts (iAdd 85 (H.1 32 3)) 0 40 (f_X12_fresh (iAdd 37 (H.1 32 3)) (f_X12_next H)).2).2 (rf_X12_puts (iAdd 85 (H.1 32 3)) 0 40 (f_X12_fresh (iAdd 37 (H.1 32 3)) (f_X12_next H)).2 (rf_X12_fresh (iAdd 37 (H.1 32 3)) (f_X12_next H) (rf_X12_next H hr)))) rfl) ?_
                  refine J_cst 143 jw hj rfl rfl rfl ?_
                  refine J_dup2 144 jw hj rfl rfl ?_
                  refine J_iald jw hj rfl (Or.inl rfl) (fun z4 r4 => ?_)
                  refine J_cst 146 jw hj rfl rfl rfl ?_
                  refine J_bin jw hj rfl rfl ?_
                  refine J_iast jw hj rfl (Or.inl rfl) (fun _ => ?_)
                  refine J_cst 149 jw hj rfl rfl rfl ?_
                  exact J_ret rfl (Or.inl rfl) (fun aw hR => by show _ ∧ _; unfold f_X12_line; rw [if_pos h0, if_pos h1, if_pos h2, if_neg h3, if_neg h7, if_neg h8, if_neg h9, if_neg h10]; exact ⟨rfl, hR⟩)
                · refine J_cst 137 jw hj rfl rfl rfl ?_
                  exact J_ret rfl (Or.inl rfl) (fun aw hR => by show _ ∧ _; unfold f_X12_line; rw [if_pos h0, if_pos h1, if_pos h2, if_neg h3, if_neg h7, if_neg h8, if_neg h9, if_pos h10]; exact ⟨rfl, hR⟩)
          · refine J_ld 76 jw hj rfl rfl rfl rfl ?_
            refine J_cst 77 jw hj rfl rfl rfl ?_
            refine J_callV1 jw rfl (Or.inl ⟨_, rfl⟩) rfl rfl (sp_X12_bad (g := g) 4 H) ?_
            exact J_ret rfl (Or.inl rfl) (fun aw hR => by show _ ∧ _; unfold f_X12_line; rw [if_pos h0, if_pos h1, if_pos h2, if_neg h3, if_pos h7]; exact ⟨rfl, hR⟩)
      · refine J_ld 49 jw hj rfl rfl rfl rfl ?_
        refine J_callV1 jw rfl (Or.inl ⟨_, rfl⟩) rfl rfl (sp_X12_readPerson (g := g) H hr) ?_
        exact J_ret rfl (Or.inl rfl) (fun aw hR => by show _ ∧ _; unfold f_X12_line; rw [if_pos h0, if_pos h1, if_neg h2]; exact ⟨rfl, hR⟩)
    · refine J_ld 30 jw hj rfl rfl rfl rfl ?_
      refine J_cst 31 jw hj rfl rfl rfl ?_
      refine J_cst 32 jw hj rfl rfl rfl ?_
      refine J_cst 34 jw hj rfl rfl rfl ?_
      refine J_callV1 jw rfl (Or.inl ⟨_, rfl⟩) rfl rfl (sp_X12_readName (g := g) 1 3 24 H hr) ?_
      exact J_ret rfl (Or.inl rfl) (fun aw hR => by show _ ∧ _; unfold f_X12_line; rw [if_pos h0, if_neg h1]; exact ⟨rfl, hR⟩)
  · refine J_ld 11 jw hj rfl rfl rfl rfl ?_
    refine J_cst 12 jw hj rfl rfl rfl ?_
    refine J_cst 13 jw hj rfl rfl rfl ?_
    refine J_cst 15 jw hj rfl rfl rfl ?_
    refine J_callV1 jw rfl (Or.inl ⟨_, rfl⟩) rfl rfl (sp_X12_readName (g := g) 0 4 20 H hr) ?_
    exact J_ret rfl (Or.inl rfl) (fun aw hR => by show _ ∧ _; unfold f_X12_line; rw [if_neg h0]; exact ⟨rfl, hR⟩)
theorem rf_X12_line  (H : hH) (hr : RM H.2.2.1) : RM (f_X12_line H).2.2.2.1 := by
  unfold f_X12_line
  by_cases q1 : f_X12_isWord 126943972648308 H = 0
  · rw [if_pos q1]
    by_cases q2 : f_X12_isWord 1953653101 H = 0
    · rw [if_pos q2]
      by_cases q3 : f_X12_isWord 123581014175598 H = 0
      · rw [if_pos q3]
        by_cases q4 : f_X12_isWord 1835102827 H = 0
        · rw [if_pos q4]
          by_cases q5 : f_X12_isWord 491394458995 H = 0
          · rw [if_pos q5]
            by_cases q6 : f_X12_isWord 6840691 H = 0
            · rw [if_pos q6]
              by_cases q7 : f_X12_isWord 448311616883 H = 0
              · rw [if_pos q7]
                exact (rf_X12_bad 1 H hr)
              · rw [if_neg q7]
                exact (rf_X12_readHate H hr)
            · rw [if_neg q6]
              exact (rf_X12_pair 45 37 (H.1 32 3) H hr)
          · rw [if_neg q5]
            exact (rf_X12_pair 35 24 (H.1 32 1) H hr)
        · rw [if_neg q4]
          by_cases q5 : H.1 32 3 = 3
          · rw [if_pos q5]
            exact (rf_X12_bad 4 H hr)
          · rw [if_neg q5]
            by_cases q6 : ((f_X12_fresh (iAdd 37 (H.1 32 3)) (f_X12_next H)).1) = 0
            · rw [if_pos q6]
              exact (rf_X12_fresh (iAdd 37 (H.1 32 3)) (f_X12_next H) (rf_X12_next H hr))
            · rw [if_neg q6]
              by_cases q7 : ((f_X12_puts (iAdd 85 (H.1 32 3)) 0 40 (f_X12_fresh (iAdd 37 (H.1 32 3)) (f_X12_next H)).2).1) = 0
              · rw [if_pos q7]
                exact (rf_X12_puts (iAdd 85 (H.1 32 3)) 0 40 (f_X12_fresh (iAdd 37 (H.1 32 3)) (f_X12_next H)).2 (rf_X12_fresh (iAdd 37 (H.1 32 3)) (f_X12_next H) (rf_X12_next H hr)))
              · rw [if_neg q7]
                by_cases q8 : ((f_X12_puts (iAdd 88 (H.1 32 3)) (f_X12_greater 1 ((f_X12_puts (iAdd 85 (H.1 32 3)) 0 40 (f_X12_fresh (iAdd 37 (H.1 32 3)) (f_X12_next H)).2).2.1 32 (iAdd 85 (H.1 32 3)).toNat)) 40 (f_X12_puts (iAdd 85 (H.1 32 3)) 0 40 (f_X12_fresh (iAdd 37 (H.1 32 3)) (f_X12_next H)).2).2).1) = 0
                · rw [if_pos q8]
                  exact (rf_X12_puts (iAdd 88 (H.1 32 3)) (f_X12_greater 1 ((f_X12_puts (iAdd 85 (H.1 32 3)) 0 40 (f_X12_fresh (iAdd 37 (H.1 32 3)) (f_X12_next H)).2).2.1 32 (iAdd 85 (H.1 32 3)).toNat)) 40 (f_X12_puts (iAdd 85 (H.1 32 3)) 0 40 (f_X12_fresh (iAdd 37 (H.1 32 3)) (f_X12_next H)).2).2 (rf_X12_puts (iAdd 85 (H.1 32 3)) 0 40 (f_X12_fresh (iAdd 37 (H.1 32 3)) (f_X12_next H)).2 (rf_X12_fresh (iAdd 37 (H.1 32 3)) (f_X12_next H) (rf_X12_next H hr))))
                · rw [if_neg q8]
                  exact (rf_X12_puts (iAdd 88 (H.1 32 3)) (f_X12_greater 1 ((f_X12_puts (iAdd 85 (H.1 32 3)) 0 40 (f_X12_fresh (iAdd 37 (H.1 32 3)) (f_X12_next H)).2).2.1 32 (iAdd 85 (H.1 32 3)).toNat)) 40 (f_X12_puts (iAdd 85 (H.1 32 3)) 0 40 (f_X12_fresh (iAdd 37 (H.1 32 3)) (f_X12_next H)).2).2 (rf_X12_puts (iAdd 85 (H.1 32 3)) 0 40 (f_X12_fresh (iAdd 37 (H.1 32 3)) (f_X12_next H)).2 (rf_X12_fresh (iAdd 37 (H.1 32 3)) (f_X12_next H) (rf_X12_next H hr))))
      · rw [if_neg q3]
        exact (rf_X12_readPerson H hr)
    · rw [if_neg q2]
      exact (rf_X12_readName 1 3 24 H hr)
  · rw [if_neg q1]
    exact (rf_X12_readName 0 4 20 H hr)
