theorem xk_14_0 : xEnds 2 6 60 xcM_14 xcO_14 (xRunF rvMth 2 316 14 6 rvTab rvInf rvRet xCons xOpt xHpt xHnt xcC_14 (fun i => xcL_14[i]?) xcM_14 (some [([], 0), ([(6, (-1))], 10)]) 100000 0 7 true xcT_14_0 (xcTp_14 0)) = true := by decide +kernel
def xcL_15 : List xCu := []
def xcC_15 : Nat → Bool := fun pc => [].any (Nat.beq pc)
def xcW_15 : List Nat := []
def xcTs_15 : List Nat := xDig 7 14987980453242269696
def xcTp_15 : Nat → List Nat := fun n => []
theorem xk_15_s : xEnds 2 7 60 xcM_15 xcO_15 (xRunF rvMth 2 316 15 7 rvTab rvInf rvRet xCons xOpt xHpt xHnt xcC_15 (fun i => xcL_15[i]?) xcM_15 none 100000 0 11 false (xBeg (rvInf 11).1 xcP_15 xcM_15) xcTs_15) = true := by decide +kernel
def xcL_16 : List xCu := []
def xcC_16 : Nat → Bool := fun pc => [].any (Nat.beq pc)
def xcW_16 : List Nat := []
def xcTs_16 : List Nat := xDig 10 1029966159909104876587438833664
def xcTp_16 : Nat → List Nat := fun n => []
theorem xk_16_s : xEnds 2 4 52 xcM_16 xcO_16 (xRunF rvMth 2 316 16 4 rvTab rvInf rvRet xCons xOpt xHpt xHnt xcC_16 (fun i => xcL_16[i]?) xcM_16 none 100000 0 12 false (xBeg (rvInf 12).1 xcP_16 xcM_16) xcTs_16) = true := by decide +kernel
def xcL_17 : List xCu := []
def xcC_17 : Nat → Bool := fun pc => [].any (Nat.beq pc)
def xcW_17 : List Nat := []
def xcTs_17 : List Nat := xDig 10 1029966159909104876587438833664
def xcTp_17 : Nat → List Nat := fun n => []
theorem xk_17_s : xEnds 2 4 52 xcM_17 xcO_17 (xRunF rvMth 2 316 17 4 rvTab rvInf rvRet xCons xOpt xHpt xHnt xcC_17 (fun i => xcL_17[i]?) xcM_17 none 100000 0 12 false (xBeg (rvInf 12).1 xcP_17 xcM_17) xcTs_17) = true := by decide +kernel
def xcL_18 : List xCu := []
def xcC_18 : Nat → Bool := fun pc => [].any (Nat.beq pc)
def xcW_18 : List Nat := []
def xcTs_18 : List Nat := xDig 10 1029966159909104876587438833664
def xcTp_18 : Nat → List Nat := fun n => []
theorem xk_18_s : xEnds 2 4 52 xcM_18 xcO_18 (xRunF rvMth 2 316 18 4 rvTab rvInf rvRet xCons xOpt xHpt xHnt xcC_18 (fun i => xcL_18[i]?) xcM_18 none 100000 0 12 false (xBeg (rvInf 12).1 xcP_18 xcM_18) xcTs_18) = true := by decide +kernel
def xcT_19_0 : xS := (3, [.inr (2, 52), .inr (1, 0), .inr (9, 0), .inl (0, 1, 0), .inl (6, 1, 0)], [], [xe60, xe61, xe62, xe63, xe64, xe65, xe66, xe67, xe68, xe69, xe70, xe71, xe72, xe73, xe74, xe75, xe76, xe77, xe78, xe79, xe80, xe81, xe82, xe83, xe84, xe85, xe86, xe87, xe88, xe89, xe90, xe91, xe92, xe93, xe94, xe95, xe96, xe97, xe98, xe99, xe100, xe101, xe102, xe103, xe104, xe105, xe106, xe107, xe108, xe109, xe110, xe111, (6, [((0, 0, 7), .inl (1, 1, 0)), ((0, 0, 0), .inr (2, 53)), ((0, 0, 1), .inr (2, 54)), ((0, 0, 2), .inr (2, 55)), ((0, 0, 3), .inr (2, 56)), ((0, 0, 4), .inr (2, 57)), ((0, 0, 5), .inr (2, 58)), ((0, 0, 6), .inr (2, 59))]), (7, [((0, 0, 0), .inl (2, 1, 0)), ((0, 0, 1), .inl (3, 1, 0)), ((0, 0, 3), .inl (4, 1, 0)), ((0, 0, 2), .inl (5, 1, 0))]), xe8, xe9, xe10, xe11, xe12, xe13], [(0, [], []), (2, [], [])], ([(0, 0), (0, 1023), (0, 4), (0, 3), (0, 3), (1, 10), (0, 4)], []), 0, 0)
def xcL_19 : List xCu := [(xcT_19_0, [(6, [0], 0), (6, [1], 0), (6, [2], 0), (6, [3], 0), (6, [4], 0), (6, [5], 0), (0, [4], 0)], [([], 0), ([(6, (-1))], 4)])]
def xcC_19 : Nat → Bool := fun pc => [3].any (Nat.beq pc)
def xcW_19 : List Nat := [1, 5]
def xcTs_19 : List Nat := xDig 2 1
def xcTp_19 : Nat → List Nat := fun n => (bif Nat.beq n 0 then (xDig 2 1) else [])
theorem xk_19_s : xEnds 2 6 60 xcM_19 xcO_19 (xRunF rvMth 2 316 19 6 rvTab rvInf rvRet xCons xOpt xHpt xHnt xcC_19 (fun i => xcL_19[i]?) xcM_19 none 100000 0 7 false (xBeg (rvInf 7).1 xcP_19 xcM_19) xcTs_19) = true := by decide +kernel
theorem xk_19_0 : xEnds 2 6 60 xcM_19 xcO_19 (xRunF rvMth 2 316 19 6 rvTab rvInf rvRet xCons xOpt xHpt xHnt xcC_19 (fun i => xcL_19[i]?) xcM_19 (some [([], 0), ([(6, (-1))], 4)]) 100000 0 7 true xcT_19_0 (xcTp_19 0)) = true := by decide +kernel
def xcL_20 : List xCu := []
def xcC_20 : Nat → Bool := fun pc => [].any (Nat.beq pc)
def xcW_20 : List Nat := []
def xcTs_20 : List Nat := xDig 7 14987980453242290176
def xcTp_20 : Nat → List Nat := fun n => []
theorem xk_20_s : xEnds 2 7 60 xcM_20 xcO_20 (xRunF rvMth 2 316 20 7 rvTab rvInf rvRet xCons xOpt xHpt xHnt xcC_20 (fun i => xcL_20[i]?) xcM_20 none 100000 0 11 false (xBeg (rvInf 11).1 xcP_20 xcM_20) xcTs_20) = true := by decide +kernel
def xcL_21 : List xCu := []
def xcC_21 : Nat → Bool := fun pc => [].any (Nat.beq pc)
def xcW_21 : List Nat := []
def xcTs_21 : List Nat := xDig 10 1029966159909104876587438833664
def xcTp_21 : Nat → List Nat := fun n => []
theorem xk_21_s : xEnds 2 4 52 xcM_21 xcO_21 (xRunF rvMth 2 316 21 4 rvTab rvInf rvRet xCons xOpt xHpt xHnt xcC_21 (fun i => xcL_21[i]?) xcM_21 none 100000 0 12 false (xBeg (rvInf 12).1 xcP_21 xcM_21) xcTs_21) = true := by decide +kernel
def xcT_22_0 : xS := (3, [.inr (2, 52), .inr (1, 0), .inr (9, 0), .inl (0, 1, 0), .inl (6, 1, 0)], [], [xe60, xe61, xe62, xe63, xe64, xe65, xe66, xe67, xe68, xe69, xe70, xe71, xe72, xe73, xe74, xe75, xe76, xe77, xe78, xe79, xe80, xe81, xe82, xe83, xe84, xe85, xe86, xe87, xe88, xe89, xe90, xe91, xe92, xe93, xe94, xe95, xe96, xe97, xe98, xe99, xe100, xe101, xe102, xe103, xe104, xe105, xe106, xe107, xe108, xe109, xe110, xe111, (6, [((0, 0, 7), .inl (1, 1, 0)), ((0, 0, 0), .inr (2, 53)), ((0, 0, 1), .inr (2, 54)), ((0, 0, 2), .inr (2, 55)), ((0, 0, 3), .inr (2, 56)), ((0, 0, 4), .inr (2, 57)), ((0, 0, 5), .inr (2, 58)), ((0, 0, 6), .inr (2, 59))]), (7, [((0, 0, 0), .inl (2, 1, 0)), ((0, 0, 1), .inl (3, 1, 0)), ((0, 0, 2), .inl (4, 1, 0)), ((0, 0, 3), .inl (5, 1, 0))]), xe8, xe9, xe10, xe11, xe12, xe13], [(0, [], []), (2, [], [])], ([(3, 3), (0, 1023), (0, 4), (0, 3), (1, 10), (0, 3), (0, 3)], []), 0, 0)
def xcL_22 : List xCu := [(xcT_22_0, [(6, [0], 0), (6, [1], 0), (6, [2], 0), (6, [3], 0), (6, [4], 0), (6, [5], 0), (0, [4], 0)], [([], 0), ([(6, (-1))], 3)])]
def xcC_22 : Nat → Bool := fun pc => [3].any (Nat.beq pc)
def xcW_22 : List Nat := [1, 4]
def xcTs_22 : List Nat := xDig 2 1
def xcTp_22 : Nat → List Nat := fun n => (bif Nat.beq n 0 then (xDig 2 1) else [])
theorem xk_22_s : xEnds 2 6 60 xcM_22 xcO_22 (xRunF rvMth 2 316 22 6 rvTab rvInf rvRet xCons xOpt xHpt xHnt xcC_22 (fun i => xcL_22[i]?) xcM_22 none 100000 0 7 false (xBeg (rvInf 7).1 xcP_22 xcM_22) xcTs_22) = true := by decide +kernel
theorem xk_22_0 : xEnds 2 6 60 xcM_22 xcO_22 (xRunF rvMth 2 316 22 6 rvTab rvInf rvRet xCons xOpt xHpt xHnt xcC_22 (fun i => xcL_22[i]?) xcM_22 (some [([], 0), ([(6, (-1))], 3)]) 100000 0 7 true xcT_22_0 (xcTp_22 0)) = true := by decide +kernel
def xcL_23 : List xCu := []
def xcC_23 : Nat → Bool := fun pc => [].any (Nat.beq pc)
def xcW_23 : List Nat := []
def xcTs_23 : List Nat := xDig 7 14987980453242302464
def xcTp_23 : Nat → List Nat := fun n => []
theorem xk_23_s : xEnds 2 7 60 xcM_23 xcO_23 (xRunF rvMth 2 316 23 7 rvTab rvInf rvRet xCons xOpt xHpt xHnt xcC_23 (fun i => xcL_23[i]?) xcM_23 none 100000 0 11 false (xBeg (rvInf 11).1 xcP_23 xcM_23) xcTs_23) = true := by decide +kernel
def xcL_24 : List xCu := []
def xcC_24 : Nat → Bool := fun pc => [].any (Nat.beq pc)
def xcW_24 : List Nat := []
def xcTs_24 : List Nat := xDig 10 1029966159909104876587438833664
def xcTp_24 : Nat → List Nat := fun n => []
theorem xk_24_s : xEnds 2 4 52 xcM_24 xcO_24 (xRunF rvMth 2 316 24 4 rvTab rvInf rvRet xCons xOpt xHpt xHnt xcC_24 (fun i => xcL_24[i]?) xcM_24 none 100000 0 12 false (xBeg (rvInf 12).1 xcP_24 xcM_24) xcTs_24) = true := by decide +kernel
def xcT_25_0 : xS := (3, [.inr (2, 52), .inr (1, 0), .inr (9, 0), .inl (0, 1, 0), .inl (6, 1, 0)], [], [xe60, xe61, xe62, xe63, xe64, xe65, xe66, xe67, xe68, xe69, xe70, xe71, xe72, xe73, xe74, xe75, xe76, xe77, xe78, xe79, xe80, xe81, xe82, xe83, xe84, xe85, xe86, xe87, xe88, xe89, xe90, xe91, xe92, xe93, xe94, xe95, xe96, xe97, xe98, xe99, xe100, xe101, xe102, xe103, xe104, xe105, xe106, xe107, xe108, xe109, xe110, xe111, (6, [((0, 0, 7), .inl (1, 1, 0)), ((0, 0, 0), .inr (2, 53)), ((0, 0, 1), .inr (2, 54)), ((0, 0, 2), .inr (2, 55)), ((0, 0, 3), .inr (2, 56)), ((0, 0, 4), .inr (2, 57)), ((0, 0, 5), .inr (2, 58)), ((0, 0, 6), .inr (2, 59))]), (7, [((0, 0, 0), .inl (2, 1, 0)), ((0, 0, 1), .inl (3, 1, 0)), ((0, 0, 2), .inl (4, 1, 0)), ((0, 0, 3), .inl (5, 1, 0))]), xe8, xe9, xe10, xe11, xe12, xe13], [(0, [], []), (2, [], [])], ([(1, 1), (0, 1023), (0, 4), (0, 3), (1, 10), (0, 3), (0, 3)], []), 0, 0)
def xcL_25 : List xCu := [(xcT_25_0, [(6, [0], 0), (6, [1], 0), (6, [2], 0), (6, [3], 0), (6, [4], 0), (6, [5], 0), (0, [4], 0)], [([], 0), ([(6, (-1))], 3)])]
def xcC_25 : Nat → Bool := fun pc => [3].any (Nat.beq pc)
def xcW_25 : List Nat := [1, 4]
def xcTs_25 : List Nat := xDig 2 1
def xcTp_25 : Nat → List Nat := fun n => (bif Nat.beq n 0 then (xDig 2 1) else [])
theorem xk_25_s : xEnds 2 6 60 xcM_25 xcO_25 (xRunF rvMth 2 316 25 6 rvTab rvInf rvRet xCons xOpt xHpt xHnt xcC_25 (fun i => xcL_25[i]?) xcM_25 none 100000 0 7 false (xBeg (rvInf 7).1 xcP_25 xcM_25) xcTs_25) = true := by decide +kernel
theorem xk_25_0 : xEnds 2 6 60 xcM_25 xcO_25 (xRunF rvMth 2 316 25 6 rvTab rvInf rvRet xCons xOpt xHpt xHnt xcC_25 (fun i => xcL_25[i]?) xcM_25 (some [([], 0), ([(6, (-1))], 3)]) 100000 0 7 true xcT_25_0 (xcTp_25 0)) = true := by decide +kernel
def xcL_26 : List xCu := []
def xcC_26 : Nat → Bool := fun pc => [].any (Nat.beq pc)
def xcW_26 : List Nat := []
def xcTs_26 : List Nat := xDig 7 14987980453242314752
def xcTp_26 : Nat → List Nat := fun n => []
theorem xk_26_s : xEnds 2 7 60 xcM_26 xcO_26 (xRunF rvMth 2 316 26 7 rvTab rvInf rvRet xCons xOpt xHpt xHnt xcC_26 (fun i => xcL_26[i]?) xcM_26 none 100000 0 11 false (xBeg (rvInf 11).1 xcP_26 xcM_26) xcTs_26) = true := by decide +kernel
def xcT_27_0 : xS := (5, [.inr (20, 3), .inl (0, 1, 0), .inl (1, 1, 0), .inl (0, 0, 12)], [], [xe60, xe61, xe62, xe63, xe64, xe65, xe66, xe67, xe68, xe69, xe70, xe71, xe72, xe73, xe74, xe75, xe76, xe77, xe78, xe79, xe80, xe81, xe82, xe83, xe84, xe85, xe86, xe87, xe88, xe89, xe90, xe91, xe92, xe93, xe94, xe95, xe96, xe97, xe98, xe99, xe100, xe101, xe102, xe103, xe104, xe105, xe106, xe107, xe108, xe109, xe110, xe111], [(0, [3, 0, 11], []), (2, [], [])], ([(0, 0), (0, 12)], []), 0, 0)
def xcL_27 : List xCu := [(xcT_27_0, [(6, [0], 0), (0, [2], 0)], [([], 0), ([(1, (-1))], 12)])]
def xcC_27 : Nat → Bool := fun pc => [5].any (Nat.beq pc)
def xcW_27 : List Nat := [1, 13]
def xcTs_27 : List Nat := xDig 2 1
def xcTp_27 : Nat → List Nat := fun n => (bif Nat.beq n 0 then (xDig 2 1) else [])
theorem xk_27_s : xEnds 2 1 52 xcM_27 xcO_27 (xRunF rvMth 2 316 27 1 rvTab rvInf rvRet xCons xOpt xHpt xHnt xcC_27 (fun i => xcL_27[i]?) xcM_27 none 100000 0 1 false (xBeg (rvInf 1).1 xcP_27 xcM_27) xcTs_27) = true := by decide +kernel
theorem xk_27_0 : xEnds 2 1 52 xcM_27 xcO_27 (xRunF rvMth 2 316 27 1 rvTab rvInf rvRet xCons xOpt xHpt xHnt xcC_27 (fun i => xcL_27[i]?) xcM_27 (some [([], 0), ([(1, (-1))], 12)]) 100000 0 1 true xcT_27_0 (xcTp_27 0)) = true := by decide +kernel
def xcT_28_0 : xS := (5, [.inr (20, 4), .inl (0, 1, 0), .inl (1, 1, 0), .inl (0, 0, 10)], [], [xe60, xe61, xe62, xe63, xe64, xe65, xe66, xe67, xe68, xe69, xe70, xe71, xe72, xe73, xe74, xe75, xe76, xe77, xe78, xe79, xe80, xe81, xe82, xe83, xe84, xe85, xe86, xe87, xe88, xe89, xe90, xe91, xe92, xe93, xe94, xe95, xe96, xe97, xe98, xe99, xe100, xe101, xe102, xe103, xe104, xe105, xe106, xe107, xe108, xe109, xe110, xe111], [(0, [4, 0, 9], []), (2, [], [])], ([(0, 0), (0, 10)], []), 0, 0)
def xcL_28 : List xCu := [(xcT_28_0, [(6, [0], 0), (0, [2], 0)], [([], 0), ([(1, (-1))], 10)])]
def xcC_28 : Nat → Bool := fun pc => [5].any (Nat.beq pc)
def xcW_28 : List Nat := [1, 11]
def xcTs_28 : List Nat := xDig 2 1
def xcTp_28 : Nat → List Nat := fun n => (bif Nat.beq n 0 then (xDig 2 1) else [])
theorem xk_28_s : xEnds 2 1 52 xcM_28 xcO_28 (xRunF rvMth 2 316 28 1 rvTab rvInf rvRet xCons xOpt xHpt xHnt xcC_28 (fun i => xcL_28[i]?) xcM_28 none 100000 0 1 false (xBeg (rvInf 1).1 xcP_28 xcM_28) xcTs_28) = true := by decide +kernel
theorem xk_28_0 : xEnds 2 1 52 xcM_28 xcO_28 (xRunF rvMth 2 316 28 1 rvTab rvInf rvRet xCons xOpt xHpt xHnt xcC_28 (fun i => xcL_28[i]?) xcM_28 (some [([], 0), ([(1, (-1))], 10)]) 100000 0 1 true xcT_28_0 (xcTp_28 0)) = true := by decide +kernel
def xcT_29_0 : xS := (10, [.inr (20, 0), .inl (0, 1, 0), .inr (9, 0)], [], [xe60, xe61, xe62, xe63, xe64, xe65, xe66, xe67, xe68, xe69, xe70, xe71, xe72, xe73, xe74, xe75, xe76, xe77, xe78, xe79, xe80, xe81, xe82, xe83, xe84, xe85, xe86, xe87, xe88, xe89, xe90, xe91, xe92, xe93, xe94, xe95, xe96, xe97, xe98, xe99, xe100, xe101, xe102, xe103, xe104, xe105, xe106, xe107, xe108, xe109, xe110, xe111], [(0, [4, 0, 9], []), (2, [], [])], ([(0, 12)], []), 0, 0)
def xcT_29_1 : xS := (23, [.inr (20, 0), .inl (1, 1, 0), .inl (0, 1, 0)], [], [xe60, xe61, xe62, xe63, xe64, xe65, xe66, xe67, xe68, xe69, xe70, xe71, xe72, xe73, xe74, xe75, xe76, xe77, xe78, xe79, xe80, xe81, xe82, xe83, xe84, xe85, xe86, xe87, xe88, xe89, xe90, xe91, xe92, xe93, xe94, xe95, xe96, xe97, xe98, xe99, xe100, xe101, xe102, xe103, xe104, xe105, xe106, xe107, xe108, xe109, xe110, xe111], [(0, [4, 0, 9], []), (2, [], [])], ([(0, 10), (0, 11)], []), 0, 0)
def xcL_29 : List xCu := [(xcT_29_0, [(0, [1], 0)], [([], 0), ([(0, (-1))], 12), ([], 1), ([], 0)]), (xcT_29_1, [(0, [2], 0), (0, [1], 0)], [([], 0), ([(1, (-1))], 12), ([], 0), ([(0, (-1))], 10)])]
def xcC_29 : Nat → Bool := fun pc => [10, 23].any (Nat.beq pc)
def xcW_29 : List Nat := [1, 13, 2, 11]
def xcTs_29 : List Nat := xDig 4 16896000
def xcTp_29 : Nat → List Nat := fun n => (bif Nat.ble 1 n then (bif Nat.beq n 1 then (xDig 5 137472507905) else []) else (bif Nat.beq n 0 then (xDig 3 8192) else []))
theorem xk_29_s : xEnds 2 0 52 xcM_29 xcO_29 (xRunF rvMth 2 316 29 0 rvTab rvInf rvRet xCons xOpt xHpt xHnt xcC_29 (fun i => xcL_29[i]?) xcM_29 none 100000 0 13 false (xBeg (rvInf 13).1 xcP_29 xcM_29) xcTs_29) = true := by decide +kernel
theorem xk_29_0 : xEnds 2 0 52 xcM_29 xcO_29 (xRunF rvMth 2 316 29 0 rvTab rvInf rvRet xCons xOpt xHpt xHnt xcC_29 (fun i => xcL_29[i]?) xcM_29 (some [([], 0), ([(0, (-1))], 12), ([], 1), ([], 0)]) 100000 0 13 true xcT_29_0 (xcTp_29 0)) = true := by decide +kernel
theorem xk_29_1 : xEnds 2 0 52 xcM_29 xcO_29 (xRunF rvMth 2 316 29 0 rvTab rvInf rvRet xCons xOpt xHpt xHnt xcC_29 (fun i => xcL_29[i]?) xcM_29 (some [([], 0), ([(1, (-1))], 12), ([], 0), ([(0, (-1))], 10)]) 100000 0 13 true xcT_29_1 (xcTp_29 1)) = true := by decide +kernel
def xcT_30_0 : xS := (0, [.inl (0, 1, 0)], [], [xe60, xe61, xe62, xe63, xe64, xe65, xe66, xe67, xe68, xe69, xe70, xe71, xe72, xe73, xe74, xe75, xe76, xe77, xe78, xe79, xe80, xe81, xe82, xe83, xe84, xe85, xe86, xe87, xe88, xe89, xe90, xe91, xe92, xe93, xe94, xe95, xe96, xe97, xe98, xe99, xe100, xe101, xe102, xe103, xe104, xe105, xe106, xe107, xe108, xe109, xe110, xe111], [(0, [], []), (2, [], [])], ([(0, 63)], []), 0, 0)
def xcT_30_1 : xS := (0, [.inl (0, 1, 0)], [], [xe60, xe61, xe62, xe63, xe64, xe65, xe66, xe67, xe68, xe69, xe70, xe71, xe72, xe73, xe74, xe75, xe76, xe77, xe78, xe79, xe80, xe81, xe82, xe83, xe84, xe85, xe86, xe87, xe88, xe89, xe90, xe91, xe92, xe93, xe94, xe95, xe96, xe97, xe98, xe99, xe100, xe101, xe102, xe103, xe104, xe105, xe106, xe107, xe108, xe109, xe110, xe111], [(0, [], []), (2, [], [])], ([(64, 127)], []), 0, 0)
def xcT_30_2 : xS := (0, [.inl (0, 1, 0)], [], [xe60, xe61, xe62, xe63, xe64, xe65, xe66, xe67, xe68, xe69, xe70, xe71, xe72, xe73, xe74, xe75, xe76, xe77, xe78, xe79, xe80, xe81, xe82, xe83, xe84, xe85, xe86, xe87, xe88, xe89, xe90, xe91, xe92, xe93, xe94, xe95, xe96, xe97, xe98, xe99, xe100, xe101, xe102, xe103, xe104, xe105, xe106, xe107, xe108, xe109, xe110, xe111], [(0, [], []), (2, [], [])], ([(128, 191)], []), 0, 0)
def xcT_30_3 : xS := (0, [.inl (0, 1, 0)], [], [xe60, xe61, xe62, xe63, xe64, xe65, xe66, xe67, xe68, xe69, xe70, xe71, xe72, xe73, xe74, xe75, xe76, xe77, xe78, xe79, xe80, xe81, xe82, xe83, xe84, xe85, xe86, xe87, xe88, xe89, xe90, xe91, xe92, xe93, xe94, xe95, xe96, xe97, xe98, xe99, xe100, xe101, xe102, xe103, xe104, xe105, xe106, xe107, xe108, xe109, xe110, xe111], [(0, [], []), (2, [], [])], ([(192, 255)], []), 0, 0)
def xcT_30_4 : xS := (0, [.inl (0, 1, 0)], [], [xe60, xe61, xe62, xe63, xe64, xe65, xe66, xe67, xe68, xe69, xe70, xe71, xe72, xe73, xe74, xe75, xe76, xe77, xe78, xe79, xe80, xe81, xe82, xe83, xe84, xe85, xe86, xe87, xe88, xe89, xe90, xe91, xe92, xe93, xe94, xe95, xe96, xe97, xe98, xe99, xe100, xe101, xe102, xe103, xe104, xe105, xe106, xe107, xe108, xe109, xe110, xe111], [(0, [], []), (2, [], [])], ([(256, 319)], []), 0, 0)
def xcT_30_5 : xS := (0, [.inl (0, 1, 0)], [], [xe60, xe61, xe62, xe63, xe64, xe65, xe66, xe67, xe68, xe69, xe70, xe71, xe72, xe73, xe74, xe75, xe76, xe77, xe78, xe79, xe80, xe81, xe82, xe83, xe84, xe85, xe86, xe87, xe88, xe89, xe90, xe91, xe92, xe93, xe94, xe95, xe96, xe97, xe98, xe99, xe100, xe101, xe102, xe103, xe104, xe105, xe106, xe107, xe108, xe109, xe110, xe111], [(0, [], []), (2, [], [])], ([(320, 383)], []), 0, 0)
def xcT_30_6 : xS := (0, [.inl (0, 1, 0)], [], [xe60, xe61, xe62, xe63, xe64, xe65, xe66, xe67, xe68, xe69, xe70, xe71, xe72, xe73, xe74, xe75, xe76, xe77, xe78, xe79, xe80, xe81, xe82, xe83, xe84, xe85, xe86, xe87, xe88, xe89, xe90, xe91, xe92, xe93, xe94, xe95, xe96, xe97, xe98, xe99, xe100, xe101, xe102, xe103, xe104, xe105, xe106, xe107, xe108, xe109, xe110, xe111], [(0, [], []), (2, [], [])], ([(384, 447)], []), 0, 0)
def xcT_30_7 : xS := (0, [.inl (0, 1, 0)], [], [xe60, xe61, xe62, xe63, xe64, xe65, xe66, xe67, xe68, xe69, xe70, xe71, xe72, xe73, xe74, xe75, xe76, xe77, xe78, xe79, xe80, xe81, xe82, xe83, xe84, xe85, xe86, xe87, xe88, xe89, xe90, xe91, xe92, xe93, xe94, xe95, xe96, xe97, xe98, xe99, xe100, xe101, xe102, xe103, xe104, xe105, xe106, xe107, xe108, xe109, xe110, xe111], [(0, [], []), (2, [], [])], ([(448, 511)], []), 0, 0)
def xcT_30_8 : xS := (0, [.inl (0, 1, 0)], [], [xe60, xe61, xe62, xe63, xe64, xe65, xe66, xe67, xe68, xe69, xe70, xe71, xe72, xe73, xe74, xe75, xe76, xe77, xe78, xe79, xe80, xe81, xe82, xe83, xe84, xe85, xe86, xe87, xe88, xe89, xe90, xe91, xe92, xe93, xe94, xe95, xe96, xe97, xe98, xe99, xe100, xe101, xe102, xe103, xe104, xe105, xe106, xe107, xe108, xe109, xe110, xe111], [(0, [], []), (2, [], [])], ([(512, 575)], []), 0, 0)
def xcT_30_9 : xS := (0, [.inl (0, 1, 0)], [], [xe60, xe61, xe62, xe63, xe64, xe65, xe66, xe67, xe68, xe69, xe70, xe71, xe72, xe73, xe74, xe75, xe76, xe77, xe78, xe79, xe80, xe81, xe82, xe83, xe84, xe85, xe86, xe87, xe88, xe89, xe90, xe91, xe92, xe93, xe94, xe95, xe96, xe97, xe98, xe99, xe100, xe101, xe102, xe103, xe104, xe105, xe106, xe107, xe108, xe109, xe110, xe111], [(0, [], []), (2, [], [])], ([(576, 639)], []), 0, 0)
def xcT_30_10 : xS := (0, [.inl (0, 1, 0)], [], [xe60, xe61, xe62, xe63, xe64, xe65, xe66, xe67, xe68, xe69, xe70, xe71, xe72, xe73, xe74, xe75, xe76, xe77, xe78, xe79, xe80, xe81, xe82, xe83, xe84, xe85, xe86, xe87, xe88, xe89, xe90, xe91, xe92, xe93, xe94, xe95, xe96, xe97, xe98, xe99, xe100, xe101, xe102, xe103, xe104, xe105, xe106, xe107, xe108, xe109, xe110, xe111], [(0, [], []), (2, [], [])], ([(640, 703)], []), 0, 0)
def xcT_30_11 : xS := (0, [.inl (0, 1, 0)], [], [xe60, xe61, xe62, xe63, xe64, xe65, xe66, xe67, xe68, xe69, xe70, xe71, xe72, xe73, xe74, xe75, xe76, xe77, xe78, xe79, xe80, xe81, xe82, xe83, xe84, xe85, xe86, xe87, xe88, xe89, xe90, xe91, xe92, xe93, xe94, xe95, xe96, xe97, xe98, xe99, xe100, xe101, xe102, xe103, xe104, xe105, xe106, xe107, xe108, xe109, xe110, xe111], [(0, [], []), (2, [], [])], ([(704, 767)], []), 0, 0)
def xcT_30_12 : xS := (0, [.inl (0, 1, 0)], [], [xe60, xe61, xe62, xe63, xe64, xe65, xe66, xe67, xe68, xe69, xe70, xe71, xe72, xe73, xe74, xe75, xe76, xe77, xe78, xe79, xe80, xe81, xe82, xe83, xe84, xe85, xe86, xe87, xe88, xe89, xe90, xe91, xe92, xe93, xe94, xe95, xe96, xe97, xe98, xe99, xe100, xe101, xe102, xe103, xe104, xe105, xe106, xe107, xe108, xe109, xe110, xe111], [(0, [], []), (2, [], [])], ([(768, 831)], []), 0, 0)
def xcT_30_13 : xS := (0, [.inl (0, 1, 0)], [], [xe60, xe61, xe62, xe63, xe64, xe65, xe66, xe67, xe68, xe69, xe70, xe71, xe72, xe73, xe74, xe75, xe76, xe77, xe78, xe79, xe80, xe81, xe82, xe83, xe84, xe85, xe86, xe87, xe88, xe89, xe90, xe91, xe92, xe93, xe94, xe95, xe96, xe97, xe98, xe99, xe100, xe101, xe102, xe103, xe104, xe105, xe106, xe107, xe108, xe109, xe110, xe111], [(0, [], []), (2, [], [])], ([(832, 895)], []), 0, 0)
def xcT_30_14 : xS := (0, [.inl (0, 1, 0)], [], [xe60, xe61, xe62, xe63, xe64, xe65, xe66, xe67, xe68, xe69, xe70, xe71, xe72, xe73, xe74, xe75, xe76, xe77, xe78, xe79, xe80, xe81, xe82, xe83, xe84, xe85, xe86, xe87, xe88, xe89, xe90, xe91, xe92, xe93, xe94, xe95, xe96, xe97, xe98, xe99, xe100, xe101, xe102, xe103, xe104, xe105, xe106, xe107, xe108, xe109, xe110, xe111], [(0, [], []), (2, [], [])], ([(896, 959)], []), 0, 0)
def xcT_30_15 : xS := (0, [.inl (0, 1, 0)], [], [xe60, xe61, xe62, xe63, xe64, xe65, xe66, xe67, xe68, xe69, xe70, xe71, xe72, xe73, xe74, xe75, xe76, xe77, xe78, xe79, xe80, xe81, xe82, xe83, xe84, xe85, xe86, xe87, xe88, xe89, xe90, xe91, xe92, xe93, xe94, xe95, xe96, xe97, xe98, xe99, xe100, xe101, xe102, xe103, xe104, xe105, xe106, xe107, xe108, xe109, xe110, xe111], [(0, [], []), (2, [], [])], ([(960, 1023)], []), 0, 0)
def xcL_30 : List xCu := [(xcT_30_0, [(6, [0], 0)], [([], 0), ([], 0)]), (xcT_30_1, [(6, [0], 0)], [([], 1), ([], 0)]), (xcT_30_2, [(6, [0], 0)], [([], 2), ([], 0)]), (xcT_30_3, [(6, [0], 0)], [([], 3), ([], 0)]), (xcT_30_4, [(6, [0], 0)], [([], 4), ([], 0)]), (xcT_30_5, [(6, [0], 0)], [([], 5), ([], 0)]), (xcT_30_6, [(6, [0], 0)], [([], 6), ([], 0)]), (xcT_30_7, [(6, [0], 0)], [([], 7), ([], 0)]), (xcT_30_8, [(6, [0], 0)], [([], 8), ([], 0)]), (xcT_30_9, [(6, [0], 0)], [([], 9), ([], 0)]), (xcT_30_10, [(6, [0], 0)], [([], 10), ([], 0)]), (xcT_30_11, [(6, [0], 0)], [([], 11), ([], 0)]), (xcT_30_12, [(6, [0], 0)], [([], 12), ([], 0)]), (xcT_30_13, [(6, [0], 0)], [([], 13), ([], 0)]), (xcT_30_14, [(6, [0], 0)], [([], 14), ([], 0)]), (xcT_30_15, [(6, [0], 0)], [([], 15), ([], 0)])]
def xcC_30 : Nat → Bool := fun pc => [0].any (Nat.beq pc)
def xcW_30 : List Nat := [16, 1]
def xcTs_30 : List Nat := xDig 18 100456620438509486497380797586598512488020948575989174112928
def xcTp_30 : Nat → List Nat := fun n => (bif Nat.ble 8 n then (bif Nat.ble 12 n then (bif Nat.ble 14 n then (bif Nat.ble 15 n then (bif Nat.beq n 15 then (xDig 2 688) else []) else (bif Nat.beq n 14 then (xDig 2 687) else [])) else (bif Nat.ble 13 n then (bif Nat.beq n 13 then (xDig 2 686) else []) else (bif Nat.beq n 12 then (xDig 2 685) else []))) else (bif Nat.ble 10 n then (bif Nat.ble 11 n then (bif Nat.beq n 11 then (xDig 2 684) else []) else (bif Nat.beq n 10 then (xDig 2 683) else [])) else (bif Nat.ble 9 n then (bif Nat.beq n 9 then (xDig 2 682) else []) else (bif Nat.beq n 8 then (xDig 2 681) else [])))) else (bif Nat.ble 4 n then (bif Nat.ble 6 n then (bif Nat.ble 7 n then (bif Nat.beq n 7 then (xDig 2 680) else []) else (bif Nat.beq n 6 then (xDig 2 679) else [])) else (bif Nat.ble 5 n then (bif Nat.beq n 5 then (xDig 2 678) else []) else (bif Nat.beq n 4 then (xDig 2 677) else []))) else (bif Nat.ble 2 n then (bif Nat.ble 3 n then (bif Nat.beq n 3 then (xDig 2 676) else []) else (bif Nat.beq n 2 then (xDig 2 675) else [])) else (bif Nat.ble 1 n then (bif Nat.beq n 1 then (xDig 2 674) else []) else (bif Nat.beq n 0 then (xDig 2 673) else [])))))
theorem xk_30_s : xEnds 2 1 52 xcM_30 xcO_30 (xRunF rvMth 2 316 30 1 rvTab rvInf rvRet xCons xOpt xHpt xHnt xcC_30 (fun i => xcL_30[i]?) xcM_30 none 100000 0 14 false (xBeg (rvInf 14).1 xcP_30 xcM_30) xcTs_30) = true := by decide +kernel
