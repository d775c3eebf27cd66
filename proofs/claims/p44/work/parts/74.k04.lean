def xcT_43_0 : xS := (16, [.inr (2, 29), .inl (1, 1, 0), .inl (2, 1, 0)], [], [xe60, xe61, xe62, xe63, xe64, xe65, xe66, xe67, xe68, xe69, xe70, xe71, xe72, xe73, xe74, xe75, xe76, xe77, xe78, xe79, xe80, xe81, xe82, xe83, xe84, xe85, xe86, xe87, xe88, (89, [((0, 0, 11), .inl (0, 1, 0))]), xe90, xe91, xe92, xe93, xe94, xe95, xe96, xe97, xe98, xe99, xe100, xe101, xe102, xe103, xe104, xe105, xe106, xe107, xe108, xe109, xe110, xe111], [(0, [], []), (2, [], [])], ([(0, 4), (0, 1), (0, 23)], [([(2, 1), (1, (-1))], 1)]), 0, 0)
def xcL_43 : List xCu := [(xcT_43_0, [(6, [0], 0), (0, [1], 0), (0, [2], 0)], [([], 0), ([(2, (-1))], 23)])]
def xcC_43 : Nat → Bool := fun pc => [16].any (Nat.beq pc)
def xcW_43 : List Nat := [1, 24]
theorem xk_43_s : xEnds 2 1 52 xcM_43 xcO_43 (xRun rvMth 2 229 43 1 rvTab rvInf rvRet xCons xOpt xHpt xHnt xcC_43 (fun i => xcL_43[i]?) xcM_43 none 100000 0 19 false (xBeg (rvInf 19).1 xcP_43 xcM_43) (xDig 3 0)) = true := by decide +kernel
theorem xk_43_0 : xEnds 2 1 52 xcM_43 xcO_43 (xRun rvMth 2 229 43 1 rvTab rvInf rvRet xCons xOpt xHpt xHnt xcC_43 (fun i => xcL_43[i]?) xcM_43 (some [([], 0), ([(2, (-1))], 23)]) 100000 0 19 true xcT_43_0 (xDig 4 0)) = true := by decide +kernel
def xcT_44_0 : xS := (2, [.inr (2, 29), .inl (0, 1, 0), .inl (1, 1, 0), .inl (2, 1, 0)], [], [xe60, xe61, xe62, xe63, xe64, xe65, xe66, xe67, xe68, xe69, xe70, xe71, xe72, xe73, xe74, xe75, xe76, xe77, xe78, xe79, xe80, xe81, xe82, xe83, xe84, xe85, xe86, xe87, xe88, xe89, xe90, xe91, xe92, xe93, xe94, xe95, xe96, xe97, xe98, xe99, xe100, xe101, xe102, xe103, xe104, xe105, xe106, xe107, xe108, xe109, xe110, xe111], [(0, [], []), (2, [], [])], ([(20, 20), (0, 4), (0, 4)], []), 0, 0)
def xcL_44 : List xCu := [(xcT_44_0, [(6, [0], 0), (6, [1], 0), (0, [3], 0)], [([], 0), ([(2, (-1))], 4)])]
def xcC_44 : Nat → Bool := fun pc => [2].any (Nat.beq pc)
def xcW_44 : List Nat := [1, 5]
theorem xk_44_s : xEnds 2 2 52 xcM_44 xcO_44 (xRun rvMth 2 229 44 2 rvTab rvInf rvRet xCons xOpt xHpt xHnt xcC_44 (fun i => xcL_44[i]?) xcM_44 none 100000 0 20 false (xBeg (rvInf 20).1 xcP_44 xcM_44) (xDig 2 0)) = true := by decide +kernel
theorem xk_44_0 : xEnds 2 2 52 xcM_44 xcO_44 (xRun rvMth 2 229 44 2 rvTab rvInf rvRet xCons xOpt xHpt xHnt xcC_44 (fun i => xcL_44[i]?) xcM_44 (some [([], 0), ([(2, (-1))], 4)]) 100000 0 20 true xcT_44_0 (xDig 2 0)) = true := by decide +kernel
def xcT_45_0 : xS := (2, [.inr (2, 29), .inl (0, 1, 0), .inl (1, 1, 0), .inl (2, 1, 0)], [], [xe60, xe61, xe62, xe63, xe64, xe65, xe66, xe67, xe68, xe69, xe70, xe71, xe72, xe73, xe74, xe75, xe76, xe77, xe78, xe79, xe80, xe81, xe82, xe83, xe84, xe85, xe86, xe87, xe88, xe89, xe90, xe91, xe92, xe93, xe94, xe95, xe96, xe97, xe98, xe99, xe100, xe101, xe102, xe103, xe104, xe105, xe106, xe107, xe108, xe109, xe110, xe111], [(0, [], []), (2, [], [])], ([(24, 24), (0, 3), (0, 3)], []), 0, 0)
def xcL_45 : List xCu := [(xcT_45_0, [(6, [0], 0), (6, [1], 0), (0, [3], 0)], [([], 0), ([(2, (-1))], 3)])]
def xcC_45 : Nat → Bool := fun pc => [2].any (Nat.beq pc)
def xcW_45 : List Nat := [1, 4]
theorem xk_45_s : xEnds 2 2 52 xcM_45 xcO_45 (xRun rvMth 2 229 45 2 rvTab rvInf rvRet xCons xOpt xHpt xHnt xcC_45 (fun i => xcL_45[i]?) xcM_45 none 100000 0 20 false (xBeg (rvInf 20).1 xcP_45 xcM_45) (xDig 2 0)) = true := by decide +kernel
theorem xk_45_0 : xEnds 2 2 52 xcM_45 xcO_45 (xRun rvMth 2 229 45 2 rvTab rvInf rvRet xCons xOpt xHpt xHnt xcC_45 (fun i => xcL_45[i]?) xcM_45 (some [([], 0), ([(2, (-1))], 3)]) 100000 0 20 true xcT_45_0 (xDig 2 0)) = true := by decide +kernel
def xcT_46_0 : xS := (2, [.inr (2, 29), .inl (0, 1, 0), .inl (1, 1, 0), .inl (2, 1, 0)], [], [xe60, xe61, xe62, xe63, xe64, xe65, xe66, xe67, xe68, xe69, xe70, xe71, xe72, xe73, xe74, xe75, xe76, xe77, xe78, xe79, xe80, xe81, xe82, xe83, xe84, xe85, xe86, xe87, xe88, xe89, xe90, xe91, xe92, xe93, xe94, xe95, xe96, xe97, xe98, xe99, xe100, xe101, xe102, xe103, xe104, xe105, xe106, xe107, xe108, xe109, xe110, xe111], [(0, [], []), (2, [], [])], ([(27, 27), (0, 10), (0, 10)], []), 0, 0)
def xcL_46 : List xCu := [(xcT_46_0, [(6, [0], 0), (6, [1], 0), (0, [3], 0)], [([], 0), ([(2, (-1))], 10)])]
def xcC_46 : Nat → Bool := fun pc => [2].any (Nat.beq pc)
def xcW_46 : List Nat := [1, 11]
theorem xk_46_s : xEnds 2 2 52 xcM_46 xcO_46 (xRun rvMth 2 229 46 2 rvTab rvInf rvRet xCons xOpt xHpt xHnt xcC_46 (fun i => xcL_46[i]?) xcM_46 none 100000 0 20 false (xBeg (rvInf 20).1 xcP_46 xcM_46) (xDig 2 0)) = true := by decide +kernel
theorem xk_46_0 : xEnds 2 2 52 xcM_46 xcO_46 (xRun rvMth 2 229 46 2 rvTab rvInf rvRet xCons xOpt xHpt xHnt xcC_46 (fun i => xcL_46[i]?) xcM_46 (some [([], 0), ([(2, (-1))], 10)]) 100000 0 20 true xcT_46_0 (xDig 2 0)) = true := by decide +kernel
def xcT_47_0 : xS := (2, [.inr (2, 29), .inl (0, 1, 0), .inl (1, 1, 0), .inl (2, 1, 0)], [], [xe60, xe61, xe62, xe63, xe64, xe65, xe66, xe67, xe68, xe69, xe70, xe71, xe72, xe73, xe74, xe75, xe76, xe77, xe78, xe79, xe80, xe81, xe82, xe83, xe84, xe85, xe86, xe87, xe88, xe89, xe90, xe91, xe92, xe93, xe94, xe95, xe96, xe97, xe98, xe99, xe100, xe101, xe102, xe103, xe104, xe105, xe106, xe107, xe108, xe109, xe110, xe111], [(0, [], []), (2, [], [])], ([(37, 37), (0, 3), (0, 3)], []), 0, 0)
def xcL_47 : List xCu := [(xcT_47_0, [(6, [0], 0), (6, [1], 0), (0, [3], 0)], [([], 0), ([(2, (-1))], 3)])]
def xcC_47 : Nat → Bool := fun pc => [2].any (Nat.beq pc)
def xcW_47 : List Nat := [1, 4]
theorem xk_47_s : xEnds 2 2 52 xcM_47 xcO_47 (xRun rvMth 2 229 47 2 rvTab rvInf rvRet xCons xOpt xHpt xHnt xcC_47 (fun i => xcL_47[i]?) xcM_47 none 100000 0 20 false (xBeg (rvInf 20).1 xcP_47 xcM_47) (xDig 2 0)) = true := by decide +kernel
theorem xk_47_0 : xEnds 2 2 52 xcM_47 xcO_47 (xRun rvMth 2 229 47 2 rvTab rvInf rvRet xCons xOpt xHpt xHnt xcC_47 (fun i => xcL_47[i]?) xcM_47 (some [([], 0), ([(2, (-1))], 3)]) 100000 0 20 true xcT_47_0 (xDig 2 0)) = true := by decide +kernel
