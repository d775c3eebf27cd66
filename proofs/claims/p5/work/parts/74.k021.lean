theorem xk_39_9 : xEnds 2 3 52 xcM_39 xcO_39 (xRunF rvMth 2 316 39 3 rvTab rvInf rvRet xCons xOpt xHpt xHnt xcC_39 (fun i => xcL_39[i]?) xcM_39 (some [([], 0), ([(6, (-1))], 939), ([], 2), ([], 0)]) 100000 0 18 true xcT_39_9 (xcTp_39 9)) = true := by decide +kernel
theorem xk_39_10 : xEnds 2 3 52 xcM_39 xcO_39 (xRunF rvMth 2 316 39 3 rvTab rvInf rvRet xCons xOpt xHpt xHnt xcC_39 (fun i => xcL_39[i]?) xcM_39 (some [([], 0), ([(6, (-1))], 939), ([], 1), ([], 0)]) 100000 0 18 true xcT_39_10 (xcTp_39 10)) = true := by decide +kernel
def xcL_40 : List xCu := []
def xcC_40 : Nat → Bool := fun pc => [].any (Nat.beq pc)
def xcW_40 : List Nat := []
def xcTs_40 : List Nat := xDig 1 0
def xcTp_40 : Nat → List Nat := fun n => []
theorem xk_40_s : xEnds 2 1 52 xcM_40 xcO_40 (xRunF rvMth 2 316 40 1 rvTab rvInf rvRet xCons xOpt xHpt xHnt xcC_40 (fun i => xcL_40[i]?) xcM_40 none 100000 0 19 false (xBeg (rvInf 19).1 xcP_40 xcM_40) xcTs_40) = true := by decide +kernel
def xcT_41_0 : xS := (16, [.inr (2, 29), .inl (1, 1, 0), .inl (2, 1, 0)], [], [xe60, xe61, xe62, xe63, xe64, xe65, xe66, xe67, xe68, xe69, xe70, xe71, xe72, xe73, xe74, xe75, xe76, xe77, xe78, xe79, xe80, xe81, xe82, xe83, xe84, xe85, xe86, xe87, xe88, (89, [((0, 0, 11), .inl (0, 1, 0))]), xe90, xe91, xe92, xe93, xe94, xe95, xe96, xe97, xe98, xe99, xe100, xe101, xe102, xe103, xe104, xe105, xe106, xe107, xe108, xe109, xe110, xe111], [(0, [], []), (2, [], [])], ([(0, 4), (0, 1), (0, 23)], [([(2, 1), (1, (-1))], 1)]), 0, 0)
def xcL_41 : List xCu := [(xcT_41_0, [(6, [0], 0), (0, [1], 0), (0, [2], 0)], [([], 0), ([(2, (-1))], 23)])]
def xcC_41 : Nat → Bool := fun pc => [16].any (Nat.beq pc)
def xcW_41 : List Nat := [1, 24]
def xcTs_41 : List Nat := xDig 3 4097
def xcTp_41 : Nat → List Nat := fun n => (bif Nat.beq n 0 then (xDig 4 16781313) else [])
theorem xk_41_s : xEnds 2 1 52 xcM_41 xcO_41 (xRunF rvMth 2 316 41 1 rvTab rvInf rvRet xCons xOpt xHpt xHnt xcC_41 (fun i => xcL_41[i]?) xcM_41 none 100000 0 20 false (xBeg (rvInf 20).1 xcP_41 xcM_41) xcTs_41) = true := by decide +kernel
theorem xk_41_0 : xEnds 2 1 52 xcM_41 xcO_41 (xRunF rvMth 2 316 41 1 rvTab rvInf rvRet xCons xOpt xHpt xHnt xcC_41 (fun i => xcL_41[i]?) xcM_41 (some [([], 0), ([(2, (-1))], 23)]) 100000 0 20 true xcT_41_0 (xcTp_41 0)) = true := by decide +kernel
def xcT_42_0 : xS := (2, [.inr (2, 29), .inl (0, 1, 0), .inl (1, 1, 0), .inl (2, 1, 0)], [], [xe60, xe61, xe62, xe63, xe64, xe65, xe66, xe67, xe68, xe69, xe70, xe71, xe72, xe73, xe74, xe75, xe76, xe77, xe78, xe79, xe80, xe81, xe82, xe83, xe84, xe85, xe86, xe87, xe88, xe89, xe90, xe91, xe92, xe93, xe94, xe95, xe96, xe97, xe98, xe99, xe100, xe101, xe102, xe103, xe104, xe105, xe106, xe107, xe108, xe109, xe110, xe111], [(0, [], []), (2, [], [])], ([(20, 20), (0, 4), (0, 4)], []), 0, 0)
def xcL_42 : List xCu := [(xcT_42_0, [(6, [0], 0), (6, [1], 0), (0, [3], 0)], [([], 0), ([(2, (-1))], 4)])]
def xcC_42 : Nat → Bool := fun pc => [2].any (Nat.beq pc)
def xcW_42 : List Nat := [1, 5]
def xcTs_42 : List Nat := xDig 2 1
def xcTp_42 : Nat → List Nat := fun n => (bif Nat.beq n 0 then (xDig 2 1) else [])
theorem xk_42_s : xEnds 2 2 52 xcM_42 xcO_42 (xRunF rvMth 2 316 42 2 rvTab rvInf rvRet xCons xOpt xHpt xHnt xcC_42 (fun i => xcL_42[i]?) xcM_42 none 100000 0 21 false (xBeg (rvInf 21).1 xcP_42 xcM_42) xcTs_42) = true := by decide +kernel
theorem xk_42_0 : xEnds 2 2 52 xcM_42 xcO_42 (xRunF rvMth 2 316 42 2 rvTab rvInf rvRet xCons xOpt xHpt xHnt xcC_42 (fun i => xcL_42[i]?) xcM_42 (some [([], 0), ([(2, (-1))], 4)]) 100000 0 21 true xcT_42_0 (xcTp_42 0)) = true := by decide +kernel
def xcT_43_0 : xS := (2, [.inr (2, 29), .inl (0, 1, 0), .inl (1, 1, 0), .inl (2, 1, 0)], [], [xe60, xe61, xe62, xe63, xe64, xe65, xe66, xe67, xe68, xe69, xe70, xe71, xe72, xe73, xe74, xe75, xe76, xe77, xe78, xe79, xe80, xe81, xe82, xe83, xe84, xe85, xe86, xe87, xe88, xe89, xe90, xe91, xe92, xe93, xe94, xe95, xe96, xe97, xe98, xe99, xe100, xe101, xe102, xe103, xe104, xe105, xe106, xe107, xe108, xe109, xe110, xe111], [(0, [], []), (2, [], [])], ([(24, 24), (0, 3), (0, 3)], []), 0, 0)
def xcL_43 : List xCu := [(xcT_43_0, [(6, [0], 0), (6, [1], 0), (0, [3], 0)], [([], 0), ([(2, (-1))], 3)])]
def xcC_43 : Nat → Bool := fun pc => [2].any (Nat.beq pc)
def xcW_43 : List Nat := [1, 4]
def xcTs_43 : List Nat := xDig 2 1
def xcTp_43 : Nat → List Nat := fun n => (bif Nat.beq n 0 then (xDig 2 1) else [])
theorem xk_43_s : xEnds 2 2 52 xcM_43 xcO_43 (xRunF rvMth 2 316 43 2 rvTab rvInf rvRet xCons xOpt xHpt xHnt xcC_43 (fun i => xcL_43[i]?) xcM_43 none 100000 0 21 false (xBeg (rvInf 21).1 xcP_43 xcM_43) xcTs_43) = true := by decide +kernel
theorem xk_43_0 : xEnds 2 2 52 xcM_43 xcO_43 (xRunF rvMth 2 316 43 2 rvTab rvInf rvRet xCons xOpt xHpt xHnt xcC_43 (fun i => xcL_43[i]?) xcM_43 (some [([], 0), ([(2, (-1))], 3)]) 100000 0 21 true xcT_43_0 (xcTp_43 0)) = true := by decide +kernel
def xcT_44_0 : xS := (2, [.inr (2, 29), .inl (0, 1, 0), .inl (1, 1, 0), .inl (2, 1, 0)], [], [xe60, xe61, xe62, xe63, xe64, xe65, xe66, xe67, xe68, xe69, xe70, xe71, xe72, xe73, xe74, xe75, xe76, xe77, xe78, xe79, xe80, xe81, xe82, xe83, xe84, xe85, xe86, xe87, xe88, xe89, xe90, xe91, xe92, xe93, xe94, xe95, xe96, xe97, xe98, xe99, xe100, xe101, xe102, xe103, xe104, xe105, xe106, xe107, xe108, xe109, xe110, xe111], [(0, [], []), (2, [], [])], ([(27, 27), (0, 10), (0, 10)], []), 0, 0)
def xcL_44 : List xCu := [(xcT_44_0, [(6, [0], 0), (6, [1], 0), (0, [3], 0)], [([], 0), ([(2, (-1))], 10)])]
def xcC_44 : Nat → Bool := fun pc => [2].any (Nat.beq pc)
def xcW_44 : List Nat := [1, 11]
def xcTs_44 : List Nat := xDig 2 1
def xcTp_44 : Nat → List Nat := fun n => (bif Nat.beq n 0 then (xDig 2 1) else [])
