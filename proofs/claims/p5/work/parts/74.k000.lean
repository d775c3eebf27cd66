def xcT_2_0 : xS := (5, [.inr (20, 1), .inl (0, 1, 0), .inl (1, 1, 0), .inl (0, 0, 10)], [], [xe60, xe61, xe62, xe63, xe64, xe65, xe66, xe67, xe68, xe69, xe70, xe71, xe72, xe73, xe74, xe75, xe76, xe77, xe78, xe79, xe80, xe81, xe82, xe83, xe84, xe85, xe86, xe87, xe88, xe89, xe90, xe91, xe92, xe93, xe94, xe95, xe96, xe97, xe98, xe99, xe100, xe101, xe102, xe103, xe104, xe105, xe106, xe107, xe108, xe109, xe110, xe111], [(0, [1, 0, 9], []), (2, [], [])], ([(0, 0), (0, 10)], []), 0, 0)
def xcL_2 : List xCu := [(xcT_2_0, [(6, [0], 0), (0, [2], 0)], [([], 0), ([(1, (-1))], 10)])]
def xcC_2 : Nat → Bool := fun pc => [5].any (Nat.beq pc)
def xcW_2 : List Nat := [1, 11]
def xcTs_2 : List Nat := xDig 2 1
def xcTp_2 : Nat → List Nat := fun n => (bif Nat.beq n 0 then (xDig 2 1) else [])
theorem xk_2_s : xEnds 2 1 52 xcM_2 xcO_2 (xRunF rvMth 2 316 2 1 rvTab rvInf rvRet xCons xOpt xHpt xHnt xcC_2 (fun i => xcL_2[i]?) xcM_2 none 100000 0 1 false (xBeg (rvInf 1).1 xcP_2 xcM_2) xcTs_2) = true := by decide +kernel
theorem xk_2_0 : xEnds 2 1 52 xcM_2 xcO_2 (xRunF rvMth 2 316 2 1 rvTab rvInf rvRet xCons xOpt xHpt xHnt xcC_2 (fun i => xcL_2[i]?) xcM_2 (some [([], 0), ([(1, (-1))], 10)]) 100000 0 1 true xcT_2_0 (xcTp_2 0)) = true := by decide +kernel
def xcT_3_0 : xS := (5, [.inr (20, 2), .inl (0, 1, 0), .inl (1, 1, 0), .inl (0, 0, 3)], [], [xe60, xe61, xe62, xe63, xe64, xe65, xe66, xe67, xe68, xe69, xe70, xe71, xe72, xe73, xe74, xe75, xe76, xe77, xe78, xe79, xe80, xe81, xe82, xe83, xe84, xe85, xe86, xe87, xe88, xe89, xe90, xe91, xe92, xe93, xe94, xe95, xe96, xe97, xe98, xe99, xe100, xe101, xe102, xe103, xe104, xe105, xe106, xe107, xe108, xe109, xe110, xe111], [(0, [2, 0, 2], []), (2, [], [])], ([(0, 0), (0, 3)], []), 0, 0)
def xcL_3 : List xCu := [(xcT_3_0, [(6, [0], 0), (0, [2], 0)], [([], 0), ([(1, (-1))], 3)])]
def xcC_3 : Nat → Bool := fun pc => [5].any (Nat.beq pc)
def xcW_3 : List Nat := [1, 4]
def xcTs_3 : List Nat := xDig 2 1
def xcTp_3 : Nat → List Nat := fun n => (bif Nat.beq n 0 then (xDig 2 1) else [])
theorem xk_3_s : xEnds 2 1 52 xcM_3 xcO_3 (xRunF rvMth 2 316 3 1 rvTab rvInf rvRet xCons xOpt xHpt xHnt xcC_3 (fun i => xcL_3[i]?) xcM_3 none 100000 0 1 false (xBeg (rvInf 1).1 xcP_3 xcM_3) xcTs_3) = true := by decide +kernel
theorem xk_3_0 : xEnds 2 1 52 xcM_3 xcO_3 (xRunF rvMth 2 316 3 1 rvTab rvInf rvRet xCons xOpt xHpt xHnt xcC_3 (fun i => xcL_3[i]?) xcM_3 (some [([], 0), ([(1, (-1))], 3)]) 100000 0 1 true xcT_3_0 (xcTp_3 0)) = true := by decide +kernel
def xcT_4_0 : xS := (2, [.inr (2, 4), .inr (1, 0), .inr (9, 0), .inl (0, 1, 0)], [], [xe60, xe61, xe62, xe63, xe64, xe65, xe66, xe67, xe68, xe69, xe70, xe71, xe72, xe73, xe74, xe75, xe76, xe77, xe78, xe79, xe80, xe81, xe82, xe83, xe84, xe85, xe86, xe87, xe88, xe89, xe90, xe91, xe92, xe93, xe94, xe95, xe96, xe97, xe98, xe99, xe100, xe101, xe102, xe103, xe104, xe105, xe106, xe107, xe108, xe109, xe110, xe111], [(0, [], []), (2, [], [])], ([(0, 23)], []), 0, 0)
def xcL_4 : List xCu := [(xcT_4_0, [(0, [3], 0)], [([], 0), ([(0, (-1))], 23)])]
def xcC_4 : Nat → Bool := fun pc => [2].any (Nat.beq pc)
def xcW_4 : List Nat := [1, 24]
def xcTs_4 : List Nat := xDig 2 1
def xcTp_4 : Nat → List Nat := fun n => (bif Nat.beq n 0 then (xDig 2 1) else [])
theorem xk_4_s : xEnds 2 0 52 xcM_4 xcO_4 (xRunF rvMth 2 316 4 0 rvTab rvInf rvRet xCons xOpt xHpt xHnt xcC_4 (fun i => xcL_4[i]?) xcM_4 none 100000 0 2 false (xBeg (rvInf 2).1 xcP_4 xcM_4) xcTs_4) = true := by decide +kernel
theorem xk_4_0 : xEnds 2 0 52 xcM_4 xcO_4 (xRunF rvMth 2 316 4 0 rvTab rvInf rvRet xCons xOpt xHpt xHnt xcC_4 (fun i => xcL_4[i]?) xcM_4 (some [([], 0), ([(0, (-1))], 23)]) 100000 0 2 true xcT_4_0 (xcTp_4 0)) = true := by decide +kernel
def xcT_5_0 : xS := (9, [.inr (2, 4), .inl (6, 1, 0), .inl (3, 1, 0), .inl (4, 1, 0), .inr (1, 0), .inr (9, 0), .inr (9, 0)], [], [xe60, xe61, xe62, xe63, (64, [((0, 0, 8), .inl (5, 1, 0)), ((0, 0, 2), .inl (1, 1, 0)), ((0, 0, 7), .inl (2, 1, 0))]), xe65, xe66, xe67, xe68, xe69, xe70, xe71, xe72, xe73, xe74, xe75, xe76, xe77, xe78, xe79, xe80, xe81, xe82, xe83, xe84, xe85, xe86, xe87, xe88, xe89, xe90, xe91, xe92, xe93, xe94, xe95, xe96, xe97, xe98, xe99, xe100, xe101, xe102, xe103, xe104, xe105, xe106, xe107, xe108, xe109, xe110, xe111], [(0, [64, 8, 8, 69, 0, 940, 70, 0, 940], []), (4, [0], [(2, 1, 0)]), (2, [], [])], ([(0, 899), (1, 940), (0, 940), ((-2147483648), 2147483647), ((-2147483648), 2147483647), (0, 940), ((-2147483648), 2147483647)], [([(5, 1), (0, (-1))], 0)]), 0, 0)
def xcL_5 : List xCu := [(xcT_5_0, [(6, [0], 0), (6, [1], 0), (6, [2], 0), (0, [2], 0), (0, [3], 0), (2, [4, 8], 0), (0, [1], 0)], [([], 0), ([(5, (-1))], 940)])]
def xcC_5 : Nat → Bool := fun pc => [9].any (Nat.beq pc)
def xcW_5 : List Nat := [1, 941]
def xcTs_5 : List Nat := xDig 2 1
def xcTp_5 : Nat → List Nat := fun n => (bif Nat.beq n 0 then (xDig 17 1532495632209741198185919789946003169991758642835116032) else [])
theorem xk_5_s : xEnds 2 3 52 xcM_5 xcO_5 (xRunF rvMth 2 316 5 3 rvTab rvInf rvRet xCons xOpt xHpt xHnt xcC_5 (fun i => xcL_5[i]?) xcM_5 none 100000 0 3 false (xBeg (rvInf 3).1 xcP_5 xcM_5) xcTs_5) = true := by decide +kernel
theorem xk_5_0 : xEnds 2 3 52 xcM_5 xcO_5 (xRunF rvMth 2 316 5 3 rvTab rvInf rvRet xCons xOpt xHpt xHnt xcC_5 (fun i => xcL_5[i]?) xcM_5 (some [([], 0), ([(5, (-1))], 940)]) 100000 0 3 true xcT_5_0 (xcTp_5 0)) = true := by decide +kernel
def xcT_6_0 : xS := (0, [.inr (2, 4), .inl (0, 1, 0), .inr (9, 0)], [], [xe60, xe61, xe62, xe63, (64, [((0, 0, 8), .inl (4, 1, 0)), ((0, 0, 2), .inl (2, 1, 0)), ((0, 0, 7), .inl (3, 1, 0))]), xe65, xe66, xe67, xe68, xe69, xe70, xe71, xe72, xe73, xe74, xe75, xe76, xe77, xe78, xe79, xe80, xe81, xe82, xe83, xe84, xe85, xe86, xe87, xe88, xe89, xe90, xe91, xe92, xe93, xe94, xe95, xe96, xe97, xe98, xe99, xe100, xe101, xe102, xe103, xe104, xe105, xe106, xe107, xe108, xe109, xe110, xe111], [(0, [64, 8, 8, 68, 0, 940, 69, 0, 940, 70, 0, 940], []), (4, [0], [(3, 1, 0)]), (2, [], [])], ([(200, 900), (0, 940), (0, 940), (0, 940), (0, 940)], [([(4, 1), (1, (-1))], 0)]), 0, 0)
def xcL_6 : List xCu := [(xcT_6_0, [(6, [0], 0), (6, [1], 0), (6, [2], 0), (6, [3], 0), (2, [4, 8], 0)], [([], 0), ([(4, (-1))], 940)])]
def xcC_6 : Nat → Bool := fun pc => [0].any (Nat.beq pc)
def xcW_6 : List Nat := [1, 941]
def xcTs_6 : List Nat := xDig 3 4096
def xcTp_6 : Nat → List Nat := fun n => (bif Nat.beq n 0 then (xDig 47 3603525793286678691047713347591675840649558736451635876733570681191349037109951126276430739259002682819637376017580884709769921393972075709376752353482927138406400) else [])
theorem xk_6_s : xEnds 2 4 52 xcM_6 xcO_6 (xRunF rvMth 2 316 6 4 rvTab rvInf rvRet xCons xOpt xHpt xHnt xcC_6 (fun i => xcL_6[i]?) xcM_6 none 100000 0 4 false (xBeg (rvInf 4).1 xcP_6 xcM_6) xcTs_6) = true := by decide +kernel
theorem xk_6_0 : xEnds 2 4 52 xcM_6 xcO_6 (xRunF rvMth 2 316 6 4 rvTab rvInf rvRet xCons xOpt xHpt xHnt xcC_6 (fun i => xcL_6[i]?) xcM_6 (some [([], 0), ([(4, (-1))], 940)]) 100000 0 4 true xcT_6_0 (xcTp_6 0)) = true := by decide +kernel
def xcL_7 : List xCu := []
def xcC_7 : Nat → Bool := fun pc => [].any (Nat.beq pc)
def xcW_7 : List Nat := []
def xcTs_7 : List Nat := xDig 5 893554569226
def xcTp_7 : Nat → List Nat := fun n => []
theorem xk_7_s : xEnds 2 2 52 xcM_7 xcO_7 (xRunF rvMth 2 316 7 2 rvTab rvInf rvRet xCons xOpt xHpt xHnt xcC_7 (fun i => xcL_7[i]?) xcM_7 none 100000 0 5 false (xBeg (rvInf 5).1 xcP_7 xcM_7) xcTs_7) = true := by decide +kernel
def xcT_8_0 : xS := (12, [.inr (2, 4), .inl (0, 1, 0), .inl (0, 0, 1)], [], [xe60, xe61, xe62, xe63, (64, [((0, 0, 9), .inl (1, 1, 0)), ((0, 0, 2), .inl (3, 1, 0)), ((0, 0, 8), .inl (0, 0, 0)), ((0, 0, 7), .inl (0, 0, 0))]), xe65, xe66, xe67, xe68, xe69, xe70, xe71, xe72, xe73, xe74, xe75, xe76, xe77, xe78, xe79, xe80, xe81, xe82, xe83, xe84, xe85, xe86, xe87, xe88, xe89, xe90, xe91, xe92, xe93, xe94, xe95, xe96, xe97, xe98, xe99, xe100, xe101, xe102, xe103, xe104, xe105, xe106, xe107, xe108, xe109, xe110, xe111], [(0, [64, 7, 7, 64, 8, 8, 64, 9, 9, 64, 10, 10, 64, 11, 11, 64, 12, 12, 64, 13, 13, 64, 14, 14, 67, 0, 940, 68, 0, 940, 69, 0, 940, 70, 0, 940], []), (4, [0], [(0, 0, 0)]), (2, [], [])], ([(200, 900), ((-1), 940), (0, 940), (0, 940), (0, 941)], []), 0, 0)
def xcT_8_1 : xS := (12, [.inr (2, 4), .inl (0, 1, 0), .inl (6, 1, 0)], [], [xe60, xe61, xe62, xe63, (64, [((0, 0, 9), .inl (1, 1, 0)), ((0, 0, 2), .inl (3, 1, 0)), ((0, 0, 8), .inl (5, 1, 0)), ((0, 0, 7), .inl (8, 1, 0))]), xe65, xe66, (67, [((0, 0, 0), .inl (7, 1, 0))]), xe68, xe69, xe70, xe71, xe72, xe73, xe74, xe75, xe76, xe77, xe78, xe79, xe80, xe81, xe82, xe83, xe84, xe85, xe86, xe87, xe88, xe89, xe90, xe91, xe92, xe93, xe94, xe95, xe96, xe97, xe98, xe99, xe100, xe101, xe102, xe103, xe104, xe105, xe106, xe107, xe108, xe109, xe110, xe111], [(0, [64, 7, 7, 64, 8, 8, 64, 9, 9, 64, 10, 10, 64, 11, 11, 64, 12, 12, 64, 13, 13, 64, 14, 14, 67, 0, 940, 68, 0, 940, 69, 0, 940, 70, 0, 940], []), (4, [0], [(8, 1, 0)]), (2, [], [])], ([(200, 900), ((-1), 940), (0, 940), (0, 940), (0, 941), (0, 940), (0, 1), (0, 5), (1, 941)], [([(6, 1), (7, (-1))], 5), ([(6, (-1)), (7, 1)], 0), ([(8, 1), (6, (-1))], 0), ([(8, 1), (7, (-1))], 4)]), 0, 0)
def xcL_8 : List xCu := [(xcT_8_0, [(6, [0], 0), (6, [1], 0), (6, [2], 0), (6, [3], 0), (6, [4], 0)], [([], 1), ([], 0)]), (xcT_8_1, [(6, [0], 0), (6, [1], 0), (6, [2], 0), (6, [3], 0), (6, [4], 0), (2, [4, 8], 0), (0, [2], 0), (2, [7, 0], 0), (2, [4, 7], 0)], [([], 0), ([(8, (-1))], 941)])]
def xcC_8 : Nat → Bool := fun pc => [12].any (Nat.beq pc)
def xcW_8 : List Nat := [2, 941]
def xcTs_8 : List Nat := xDig 3 4102
def xcTp_8 : Nat → List Nat := fun n => (bif Nat.ble 1 n then (bif Nat.beq n 1 then (xDig 26 995253764362300587188480516780339019576468070164621901049945773231032900475608073502720) else []) else (bif Nat.beq n 0 then (xDig 22 3533694866794232370276397732516802857250206899191955962472896850867257344) else []))
theorem xk_8_s : xEnds 2 5 52 xcM_8 xcO_8 (xRunF rvMth 2 316 8 5 rvTab rvInf rvRet xCons xOpt xHpt xHnt xcC_8 (fun i => xcL_8[i]?) xcM_8 none 100000 0 6 false (xBeg (rvInf 6).1 xcP_8 xcM_8) xcTs_8) = true := by decide +kernel
theorem xk_8_0 : xEnds 2 5 52 xcM_8 xcO_8 (xRunF rvMth 2 316 8 5 rvTab rvInf rvRet xCons xOpt xHpt xHnt xcC_8 (fun i => xcL_8[i]?) xcM_8 (some [([], 1), ([], 0)]) 100000 0 6 true xcT_8_0 (xcTp_8 0)) = true := by decide +kernel
theorem xk_8_1 : xEnds 2 5 52 xcM_8 xcO_8 (xRunF rvMth 2 316 8 5 rvTab rvInf rvRet xCons xOpt xHpt xHnt xcC_8 (fun i => xcL_8[i]?) xcM_8 (some [([], 0), ([(8, (-1))], 941)]) 100000 0 6 true xcT_8_1 (xcTp_8 1)) = true := by decide +kernel
def xcL_9 : List xCu := []
def xcC_9 : Nat → Bool := fun pc => [].any (Nat.beq pc)
def xcW_9 : List Nat := []
def xcTs_9 : List Nat := xDig 6 3659999515549696
def xcTp_9 : Nat → List Nat := fun n => []
theorem xk_9_s : xEnds 2 2 52 xcM_9 xcO_9 (xRunF rvMth 2 316 9 2 rvTab rvInf rvRet xCons xOpt xHpt xHnt xcC_9 (fun i => xcL_9[i]?) xcM_9 none 100000 0 5 false (xBeg (rvInf 5).1 xcP_9 xcM_9) xcTs_9) = true := by decide +kernel
def xcT_10_0 : xS := (3, [.inr (2, 52), .inr (1, 0), .inr (9, 0), .inl (0, 1, 0), .inl (6, 1, 0)], [], [xe60, xe61, xe62, xe63, xe64, xe65, xe66, xe67, xe68, xe69, xe70, xe71, xe72, xe73, xe74, xe75, xe76, xe77, xe78, xe79, xe80, xe81, xe82, xe83, xe84, xe85, xe86, xe87, xe88, xe89, xe90, xe91, xe92, xe93, xe94, xe95, xe96, xe97, xe98, xe99, xe100, xe101, xe102, xe103, xe104, xe105, xe106, xe107, xe108, xe109, xe110, xe111, (6, [((0, 0, 7), .inl (1, 1, 0)), ((0, 0, 0), .inr (2, 53)), ((0, 0, 1), .inr (2, 54)), ((0, 0, 2), .inr (2, 55)), ((0, 0, 3), .inr (2, 56)), ((0, 0, 4), .inr (2, 57)), ((0, 0, 5), .inr (2, 58)), ((0, 0, 6), .inr (2, 59))]), (7, [((0, 0, 0), .inl (2, 1, 0)), ((0, 0, 1), .inl (3, 1, 0)), ((0, 0, 2), .inl (4, 1, 0)), ((0, 0, 3), .inl (5, 1, 0))]), xe8, xe9, xe10, xe11, xe12, xe13], [(0, [], []), (2, [], [])], ([(0, 3), (0, 1023), (0, 4), (0, 3), (0, 10), (0, 3), (0, 10)], []), 0, 0)
def xcL_10 : List xCu := [(xcT_10_0, [(6, [0], 0), (6, [1], 0), (6, [2], 0), (6, [3], 0), (6, [4], 0), (6, [5], 0), (0, [4], 0)], [([], 0), ([(6, (-1))], 10)])]
def xcC_10 : Nat → Bool := fun pc => [3].any (Nat.beq pc)
def xcW_10 : List Nat := [1, 11]
def xcTs_10 : List Nat := xDig 2 1
def xcTp_10 : Nat → List Nat := fun n => (bif Nat.beq n 0 then (xDig 2 1) else [])
theorem xk_10_s : xEnds 2 6 60 xcM_10 xcO_10 (xRunF rvMth 2 316 10 6 rvTab rvInf rvRet xCons xOpt xHpt xHnt xcC_10 (fun i => xcL_10[i]?) xcM_10 none 100000 0 7 false (xBeg (rvInf 7).1 xcP_10 xcM_10) xcTs_10) = true := by decide +kernel
theorem xk_10_0 : xEnds 2 6 60 xcM_10 xcO_10 (xRunF rvMth 2 316 10 6 rvTab rvInf rvRet xCons xOpt xHpt xHnt xcC_10 (fun i => xcL_10[i]?) xcM_10 (some [([], 0), ([(6, (-1))], 10)]) 100000 0 7 true xcT_10_0 (xcTp_10 0)) = true := by decide +kernel
def xcT_11_0 : xS := (2, [.inr (2, 52), .inr (1, 0), .inr (9, 0), .inl (5, 1, 0)], [], [xe60, xe61, xe62, xe63, xe64, xe65, xe66, xe67, xe68, xe69, xe70, xe71, xe72, xe73, xe74, xe75, xe76, xe77, xe78, xe79, xe80, xe81, xe82, xe83, xe84, xe85, xe86, xe87, xe88, xe89, xe90, xe91, xe92, xe93, xe94, xe95, xe96, xe97, xe98, xe99, xe100, xe101, xe102, xe103, xe104, xe105, xe106, xe107, xe108, xe109, xe110, xe111, (6, [((0, 0, 7), .inl (0, 1, 0)), ((0, 0, 0), .inr (2, 53)), ((0, 0, 1), .inr (2, 54)), ((0, 0, 2), .inr (2, 55)), ((0, 0, 3), .inr (2, 56)), ((0, 0, 4), .inr (2, 57)), ((0, 0, 5), .inr (2, 58)), ((0, 0, 6), .inr (2, 59))]), (7, [((0, 0, 0), .inl (1, 1, 0)), ((0, 0, 1), .inl (2, 1, 0)), ((0, 0, 2), .inl (3, 1, 0)), ((0, 0, 3), .inl (4, 1, 0))]), xe8, xe9, xe10, xe11, xe12, xe13], [(0, [], []), (2, [], [])], ([(0, 1023), (0, 4), (0, 3), (0, 10), (0, 3), (0, 4)], []), 0, 0)
def xcL_11 : List xCu := [(xcT_11_0, [(6, [0], 0), (6, [1], 0), (6, [2], 0), (6, [3], 0), (6, [4], 0), (0, [3], 0)], [([], 0), ([(5, (-1))], 4)])]
def xcC_11 : Nat → Bool := fun pc => [2].any (Nat.beq pc)
def xcW_11 : List Nat := [1, 5]
def xcTs_11 : List Nat := xDig 2 1
def xcTp_11 : Nat → List Nat := fun n => (bif Nat.beq n 0 then (xDig 4 16822272) else [])
theorem xk_11_s : xEnds 2 5 60 xcM_11 xcO_11 (xRunF rvMth 2 316 11 5 rvTab rvInf rvRet xCons xOpt xHpt xHnt xcC_11 (fun i => xcL_11[i]?) xcM_11 none 100000 0 8 false (xBeg (rvInf 8).1 xcP_11 xcM_11) xcTs_11) = true := by decide +kernel
theorem xk_11_0 : xEnds 2 5 60 xcM_11 xcO_11 (xRunF rvMth 2 316 11 5 rvTab rvInf rvRet xCons xOpt xHpt xHnt xcC_11 (fun i => xcL_11[i]?) xcM_11 (some [([], 0), ([(5, (-1))], 4)]) 100000 0 8 true xcT_11_0 (xcTp_11 0)) = true := by decide +kernel
def xcL_12 : List xCu := []
def xcC_12 : Nat → Bool := fun pc => [].any (Nat.beq pc)
def xcW_12 : List Nat := []
def xcTs_12 : List Nat := xDig 1 0
def xcTp_12 : Nat → List Nat := fun n => []
theorem xk_12_s : xEnds 2 2 52 xcM_12 xcO_12 (xRunF rvMth 2 316 12 2 rvTab rvInf rvRet xCons xOpt xHpt xHnt xcC_12 (fun i => xcL_12[i]?) xcM_12 none 100000 0 9 false (xBeg (rvInf 9).1 xcP_12 xcM_12) xcTs_12) = true := by decide +kernel
def xcL_13 : List xCu := []
def xcC_13 : Nat → Bool := fun pc => [].any (Nat.beq pc)
def xcW_13 : List Nat := []
def xcTs_13 : List Nat := xDig 8 47223668487871367479296
def xcTp_13 : Nat → List Nat := fun n => []
theorem xk_13_s : xEnds 2 3 52 xcM_13 xcO_13 (xRunF rvMth 2 316 13 3 rvTab rvInf rvRet xCons xOpt xHpt xHnt xcC_13 (fun i => xcL_13[i]?) xcM_13 none 100000 0 10 false (xBeg (rvInf 10).1 xcP_13 xcM_13) xcTs_13) = true := by decide +kernel
def xcT_14_0 : xS := (3, [.inr (2, 52), .inr (1, 0), .inr (9, 0), .inl (0, 1, 0), .inl (6, 1, 0)], [], [xe60, xe61, xe62, xe63, xe64, xe65, xe66, xe67, xe68, xe69, xe70, xe71, xe72, xe73, xe74, xe75, xe76, xe77, xe78, xe79, xe80, xe81, xe82, xe83, xe84, xe85, xe86, xe87, xe88, xe89, xe90, xe91, xe92, xe93, xe94, xe95, xe96, xe97, xe98, xe99, xe100, xe101, xe102, xe103, xe104, xe105, xe106, xe107, xe108, xe109, xe110, xe111, (6, [((0, 0, 7), .inl (1, 1, 0)), ((0, 0, 0), .inr (2, 53)), ((0, 0, 1), .inr (2, 54)), ((0, 0, 2), .inr (2, 55)), ((0, 0, 3), .inr (2, 56)), ((0, 0, 4), .inr (2, 57)), ((0, 0, 5), .inr (2, 58)), ((0, 0, 6), .inr (2, 59))]), (7, [((0, 0, 0), .inl (2, 1, 0)), ((0, 0, 1), .inl (3, 1, 0)), ((0, 0, 2), .inl (4, 1, 0)), ((0, 0, 3), .inl (5, 1, 0))]), xe8, xe9, xe10, xe11, xe12, xe13], [(0, [], []), (2, [], [])], ([(2, 2), (0, 1023), (0, 4), (0, 3), (0, 10), (0, 3), (0, 10)], []), 0, 0)
def xcL_14 : List xCu := [(xcT_14_0, [(6, [0], 0), (6, [1], 0), (6, [2], 0), (6, [3], 0), (6, [4], 0), (6, [5], 0), (0, [4], 0)], [([], 0), ([(6, (-1))], 10)])]
def xcC_14 : Nat → Bool := fun pc => [3].any (Nat.beq pc)
def xcW_14 : List Nat := [1, 11]
def xcTs_14 : List Nat := xDig 2 1
def xcTp_14 : Nat → List Nat := fun n => (bif Nat.beq n 0 then (xDig 2 1) else [])
theorem xk_14_s : xEnds 2 6 60 xcM_14 xcO_14 (xRunF rvMth 2 316 14 6 rvTab rvInf rvRet xCons xOpt xHpt xHnt xcC_14 (fun i => xcL_14[i]?) xcM_14 none 100000 0 7 false (xBeg (rvInf 7).1 xcP_14 xcM_14) xcTs_14) = true := by decide +kernel
