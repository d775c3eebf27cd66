/-! The class's read from its call on (written by wip/p4/gather.py). -/
def f_X1_pre (H : hH) : hH := (f_X2_beginIn (upR (upR (f_X10_init (upN H)) 13 1 (some 60)) 13 2 (some 52)))
def f_X1_read (k : Nat) (H : hH) : Option (Int × hH) := f_X1_rmain k 0 (f_X9_begin 900 (f_X1_pre H))
set_option maxHeartbeats 16000000 in
set_option maxRecDepth 100000 in
theorem sp_X1_read {g : Nat → Nat} (k : Nat) (H : hH) (hn : H.2.2.2 = 60) (hg : ∀ n, 60 ≤ n → g (n + 1) = g n + 1) (hr : RF (f_X1_pre H).2.2.1) (h6 : H.2.2.1 52 6 = some 53) (h7 : H.2.2.1 52 7 = some 54) (hl53 : H.2.2.1 53 1000 = some 10) (hl54 : H.2.2.1 54 1000 = some 3) {r : Int × hH} (hx : f_X1_read k H = some r) : SP g rvTab rvInf rvRet 316 rvMth 17 [rf (g 13), rf (g 52)] H (some (pt r.1)) r.2 := by
  have hj : 17 < 316 := by decide
  refine J_SP hj (Nat.le_of_ble_eq_true rfl) ?_
  show J g rvTab rvInf rvRet 316 rvMth 17 _ 0 [rf (g 13), rf (g 52), rvU] [] H
  refine J_ld 1 jw hj rfl rfl rfl rfl ?_
  refine J_new 4 (n := 60) jw hj rfl hn (hg _ (by decide)) rfl ?_
  refine J_dup 5 jw hj rfl rfl ?_
  refine J_callV0 jw rfl (Or.inr ⟨⟨_, rfl⟩, rfl⟩) rfl rfl (sp_X10_init (g := g) (upN H) (upN_n hn) (fun n hh => hg n (by omega))) ?_
  refine J_pfR jw hj rfl (evn rfl) (by decide) ?_
  refine J_ld 12 jw hj rfl rfl rfl rfl ?_
  refine J_ld 13 jw hj rfl rfl rfl rfl ?_
  refine J_pfR jw hj rfl (evn rfl) (by decide) ?_
  refine J_ld 17 jw hj rfl rfl rfl rfl ?_
  refine J_gfR (k := 52) jw hj rfl (evn rfl) (by decide) (by decide) (by rfl) ?_
  refine J_ld 21 jw hj rfl rfl rfl rfl ?_
  refine J_gfR (k := 60) jw hj rfl (evn rfl) (by decide) (by decide) (by rfl) ?_
  refine J_callV0 jw rfl (Or.inl ⟨_, rfl⟩) rfl rfl (sp_X2_beginIn (g := g) (upR (upR (f_X10_init (upN H)) 13 1 (some 60)) 13 2 (some 52)) (by exact h6) (by exact h7) (by exact hl53) (by exact hl54)) ?_
  show J g rvTab rvInf rvRet 316 rvMth 17 _ 27 [rf (g 13), rf (g 52), rvU] [] (f_X1_pre H)
  refine J_ld 28 jw hj rfl rfl rfl rfl ?_
  refine J_gfR (k := 4) jw hj rfl (evn rfl) (by decide) (by decide) (RFa hr rfl) ?_
  refine J_cst 34 jw hj rfl rfl rfl ?_
  refine J_callV0 jw rfl (Or.inl ⟨_, rfl⟩) rfl rfl (sp_X9_begin (g := g) 900 (f_X1_pre H) hr) ?_
  refine J_cst 38 jw hj rfl rfl rfl ?_
  refine J_st 39 [rf (g 13), rf (g 52), pt 0] (k := 2) jw hj rfl (Or.inr (Or.inr (Or.inl ⟨_, rfl, rfl, rfl⟩))) rfl ?_
  exact jx_X1_rmain k 0 _ (rf_X9_begin 900 (f_X1_pre H) hr) hx
