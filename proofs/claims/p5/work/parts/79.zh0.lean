/-! The class's read (written by wip/p4/gather.py). -/
/-- line by line, as far as k goes -/
def f_X1_rmain : Nat → Int → hH → Option (Int × hH)
  | 0, _, _ => none
  | k + 1, i, H =>
    if i < 940 then
      if H.1 4 10 = 1 then
        some (i, (f_X2_gatherSets H))
      else
        if ((f_X1_readLine H).1) = 0 then
          some ((-1), (f_X1_readLine H).2)
        else
          f_X1_rmain k (iAdd i 1) (f_X1_readLine H).2
    else
      some ((-1), H)
set_option maxHeartbeats 16000000 in
set_option maxRecDepth 100000 in
theorem jx_X1_rmain {g : Nat → Nat} {r : Int × hH} : ∀ (k : Nat) (i : Int) (H : hH), RF H.2.2.1 → f_X1_rmain k i H = some r → J g rvTab rvInf rvRet 316 rvMth 17 (fun res => res.1 = some (pt r.1) ∧ RH g res.2 r.2) 39 [rf (g 13), rf (g 52), pt i] [] H := by
  intro k
  induction k with
  | zero => intro i H hr hx; cases hx
  | succ k ih =>
    intro i H hr hx
    have hj : 17 < 316 := by decide
    refine J_ld 40 jw hj rfl rfl rfl rfl ?_
    refine J_cst 43 jw hj rfl rfl rfl ?_
    refine J_icmp (t := 81) jw hj rfl (evn rfl) rfl (fun (h0 : ¬ i < 940) => ?_) (fun (h0 : i < 940) => ?_)
    · refine J_cst 82 jw hj rfl rfl rfl ?_
      have e : f_X1_rmain (k + 1) i H = some ((-1), H) := by
        rw [f_X1_rmain]
        rw [if_neg h0]
      rw [e] at hx
      have e2 := Option.some.inj hx
      have e3 : r.1 = (-1) := by rw [← e2]
      have e4 : r.2 = H := by rw [← e2]
      rw [e3, e4]
      exact J_ret rfl (Or.inl rfl) (fun aw hR => ⟨rfl, hR⟩)
    · refine J_ld 47 jw hj rfl rfl rfl rfl ?_
      refine J_gfR (k := 4) jw hj rfl (evn rfl) (by decide) (by decide) (RFa hr rfl) ?_
      refine J_gfI jw hj rfl (evn rfl) (by decide) rfl (fun r0 => ?_)
      refine J_cst 54 jw hj rfl rfl rfl ?_
      refine J_icmp (t := 66) jw hj rfl (evn rfl) rfl (fun (h1 : ¬ H.1 4 10 = 1) => ?_) (fun (h1 : H.1 4 10 = 1) => ?_)
      · refine J_ld 67 jw hj rfl rfl rfl rfl ?_
        refine J_callV1 jw rfl (Or.inl ⟨_, rfl⟩) rfl rfl (sp_X1_readLine (g := g) H hr) ?_
        refine J_ifc (t := 75) jw hj rfl (evn rfl) rfl (fun (h2 : ¬ ((f_X1_readLine H).1) = 0) => ?_) (fun (h2 : ((f_X1_readLine H).1) = 0) => ?_)
        · refine J_iinc (al' := [rf (g 13), rf (g 52), pt (iAdd i 1)]) jw hj rfl (evn rfl) rfl rfl ?_
          refine J_goto 39 jw hj rfl rfl ?_
          have e : f_X1_rmain (k + 1) i H = f_X1_rmain k (iAdd i 1) (f_X1_readLine H).2 := by
            rw [f_X1_rmain]
            rw [if_pos h0, if_neg h1, if_neg h2]
          rw [e] at hx
          exact ih (iAdd i 1) (f_X1_readLine H).2 (rf_X1_readLine H hr) hx
        · refine J_cst 74 jw hj rfl rfl rfl ?_
          have e : f_X1_rmain (k + 1) i H = some ((-1), (f_X1_readLine H).2) := by
            rw [f_X1_rmain]
            rw [if_pos h0, if_neg h1, if_pos h2]
          rw [e] at hx
          have e2 := Option.some.inj hx
          have e3 : r.1 = (-1) := by rw [← e2]
          have e4 : r.2 = (f_X1_readLine H).2 := by rw [← e2]
          rw [e3, e4]
          exact J_ret rfl (Or.inl rfl) (fun aw hR => ⟨rfl, hR⟩)
      · refine J_ld 58 jw hj rfl rfl rfl rfl ?_
        refine J_gfR (k := 52) jw hj rfl (evn rfl) (by decide) (by decide) (RFa hr rfl) ?_
        refine J_callV0 jw rfl (Or.inl ⟨_, rfl⟩) rfl rfl (sp_X2_gatherSets (g := g) H hr) ?_
        refine J_ld 65 jw hj rfl rfl rfl rfl ?_
        have e : f_X1_rmain (k + 1) i H = some (i, (f_X2_gatherSets H)) := by
          rw [f_X1_rmain]
          rw [if_pos h0, if_pos h1]
        rw [e] at hx
        have e2 := Option.some.inj hx
        have e3 : r.1 = i := by rw [← e2]
        have e4 : r.2 = (f_X2_gatherSets H) := by rw [← e2]
        rw [e3, e4]
        exact J_ret rfl (Or.inl rfl) (fun aw hR => ⟨rfl, hR⟩)
