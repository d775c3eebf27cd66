/-! The tops of both readers (written by wip/p4/top.py). -/
def f_X9_bgEnd (a1 : Int) (b : Int) (H : hH) : hH :=
  (f_X9_advance (upI (upI (upI H 4 13 0) 4 14 0) 4 9 (-1)))
set_option maxHeartbeats 16000000 in
set_option maxRecDepth 100000 in
theorem jx_X9_bgEnd {g : Nat → Nat} (a1 : Int) (b : Int) (H : hH) (hr : RF H.2.2.1) : J g rvTab rvInf rvRet 316 rvMth 6 (fun res => res.1 = none ∧ RH g res.2 (f_X9_bgEnd a1 b H)) 85 [rf (g 4), pt a1, pt b] [] H := by
  have hj : 6 < 316 := by decide
  refine J_ld 86 jw hj rfl rfl rfl rfl ?_
  refine J_cst 87 jw hj rfl rfl rfl ?_
  refine J_pfI jw hj rfl (evn rfl) rfl ?_
  refine J_ld 91 jw hj rfl rfl rfl rfl ?_
  refine J_cst 92 jw hj rfl rfl rfl ?_
  refine J_pfI jw hj rfl (evn rfl) rfl ?_
  refine J_ld 96 jw hj rfl rfl rfl rfl ?_
  refine J_cst 97 jw hj rfl rfl rfl ?_
  refine J_pfI jw hj rfl (evn rfl) rfl ?_
  refine J_ld 101 jw hj rfl rfl rfl rfl ?_
  refine J_callV0 jw rfl (Or.inl ⟨_, rfl⟩) rfl rfl (sp_X9_advance (g := g) (upI (upI (upI H 4 13 0) 4 14 0) 4 9 (-1)) hr) ?_
  exact J_ret rfl (Or.inr (Or.inr rfl)) (fun aw hR => by show _ ∧ _; unfold f_X9_bgEnd; exact ⟨rfl, hR⟩)
theorem rf_X9_bgEnd (a1 : Int) (b : Int) (H : hH) (hr : RF H.2.2.1) : RF (f_X9_bgEnd a1 b H).2.2.1 := by
  unfold f_X9_bgEnd
  exact (rf_X9_advance (upI (upI (upI H 4 13 0) 4 14 0) 4 9 (-1)) hr)
def f_X9_begin (a1 : Int) (H : hH) : hH := f_X9_bgEnd a1 (f_X9_all a1 941 1 (upI (upI H 4 8 0) 4 7 0)).1 (f_X9_all a1 941 1 (upI (upI H 4 8 0) 4 7 0)).2
theorem rf_X9_begin (a1 : Int) (H : hH) (hr : RF H.2.2.1) : RF (f_X9_begin a1 H).2.2.1 := rf_X9_bgEnd a1 _ _ (rf_X9_all a1 941 1 _ hr)
theorem sp_X9_begin {g : Nat → Nat} (a1 : Int) (H : hH) (hr : RF H.2.2.1) : SP g rvTab rvInf rvRet 316 rvMth 6 [rf (g 4), pt a1] H none (f_X9_begin a1 H) := by
  have hj : 6 < 316 := by decide
  refine J_SP hj (Nat.le_of_ble_eq_true rfl) ?_
  show J g rvTab rvInf rvRet 316 rvMth 6 _ 0 [rf (g 4), pt a1, rvU] [] H
  refine J_ld 1 jw hj rfl rfl rfl rfl ?_
  refine J_cst 2 jw hj rfl rfl rfl ?_
  refine J_pfI jw hj rfl (evn rfl) rfl ?_
  refine J_cst 6 jw hj rfl rfl rfl ?_
  refine J_st 7 [rf (g 4), pt a1, pt 1] (k := 2) jw hj rfl (Or.inr (Or.inr (Or.inl ⟨_, rfl, rfl, rfl⟩))) rfl ?_
  refine J_ld 8 jw hj rfl rfl rfl rfl ?_
  refine J_cst 9 jw hj rfl rfl rfl ?_
  refine J_pfI jw hj rfl (evn rfl) rfl ?_
  exact lp_X9_all a1 941 1 _ hr (by show (941 - (0 : Int)).toNat ≤ 941; decide) (jx_X9_bgEnd a1 _ _ (rf_X9_all a1 941 1 _ hr))
