theorem xk_64_s : xEnds 2 5 52 xcM_64 xcO_64 (xRunF rvMth 2 316 64 5 rvTab rvInf rvRet xCons xOpt xHpt xHnt xcC_64 (fun i => xcL_64[i]?) xcM_64 none 100000 0 37 false (xBeg (rvInf 37).1 xcP_64 xcM_64) xcTs_64) = true := by decide +kernel
theorem xk_64_0 : xEnds 2 5 52 xcM_64 xcO_64 (xRunF rvMth 2 316 64 5 rvTab rvInf rvRet xCons xOpt xHpt xHnt xcC_64 (fun i => xcL_64[i]?) xcM_64 (some [([], 0), ([], 0)]) 100000 0 37 true xcT_64_0 (xcTp_64 0)) = true := by decide +kernel
def xcL_65 : List xCu := []
def xcC_65 : Nat → Bool := fun pc => [].any (Nat.beq pc)
def xcW_65 : List Nat := []
def xcTs_65 : List Nat := xDig 2 0
def xcTp_65 : Nat → List Nat := fun n => []
theorem xk_65_s : xEnds 2 1 52 xcM_65 xcO_65 (xRunF rvMth 2 316 65 1 rvTab rvInf rvRet xCons xOpt xHpt xHnt xcC_65 (fun i => xcL_65[i]?) xcM_65 none 100000 0 14 false (xBeg (rvInf 14).1 xcP_65 xcM_65) xcTs_65) = true := by decide +kernel
def xcT_66_0 : xS := (7, [.inr (20, 0), .inl (0, 1, 0), .inl (3, 1, 0), .inl (1, 1, 0), .inl (2, 1, 0), .inr (9, 0), .inr (9, 0), .inr (9, 0), .inr (9, 0)], [], [xe60, xe61, xe62, xe63, xe64, xe65, xe66, xe67, xe68, xe69, xe70, xe71, xe72, xe73, xe74, xe75, xe76, xe77, xe78, xe79, xe80, xe81, xe82, xe83, xe84, xe85, xe86, xe87, xe88, xe89, xe90, xe91, xe92, xe93, xe94, xe95, xe96, xe97, xe98, xe99, xe100, xe101, xe102, xe103, xe104, xe105, xe106, xe107, xe108, xe109, xe110, xe111], [(0, [], []), (2, [], [])], ([(0, 2), (0, 4095), (0, 12), (0, 4095)], []), 0, 0)
def xcT_66_1 : xS := (85, [.inr (20, 0), .inl (0, 1, 0), .inl (1, 1, 0), .inl (2, 1, 0), .inl (4, 1, 0), .inl (5, 1, 0), .inl (3, 1, 0), .inr (9, 0), .inr (9, 0)], [], [xe60, xe61, xe62, xe63, xe64, xe65, xe66, xe67, xe68, xe69, xe70, xe71, xe72, xe73, xe74, xe75, xe76, xe77, xe78, xe79, xe80, xe81, xe82, xe83, xe84, xe85, xe86, xe87, xe88, xe89, xe90, xe91, xe92, xe93, xe94, xe95, xe96, xe97, xe98, xe99, xe100, xe101, xe102, xe103, xe104, xe105, xe106, xe107, xe108, xe109, xe110, xe111], [(0, [], []), (2, [], [])], ([(0, 2), (0, 4095), (0, 4095), (0, 10), ((-1), 9), ((-63), 0)], [([(4, (-1)), (3, 1)], (-1)), ([(4, 1), (5, (-1))], 1), ([(5, (-1)), (3, 1)], 0)]), 0, 0)
def xcL_66 : List xCu := [(xcT_66_0, [(6, [0], 0), (0, [3], 0), (0, [4], 0), (0, [2], 0)], [([], 1), ([(2, (-1))], 12)]), (xcT_66_1, [(6, [0], 0), (0, [2], 0), (0, [3], 0), (0, [6], 0), (0, [4], 0), (0, [5], 0)], [([], 0), ([(3, (-1))], 10)])]
def xcC_66 : Nat → Bool := fun pc => [7, 85].any (Nat.beq pc)
def xcW_66 : List Nat := [2, 13]
def xcTs_66 : List Nat := xDig 2 1
def xcTp_66 : Nat → List Nat := fun n => (bif Nat.ble 1 n then (bif Nat.beq n 1 then (xDig 19 51453405991832454743336566508683547003477234261974157992394752) else []) else (bif Nat.beq n 0 then (xDig 14 22306191045629433189377054923554584373755904) else []))
theorem xk_66_s : xEnds 2 1 52 xcM_66 xcO_66 (xRunF rvMth 2 316 66 1 rvTab rvInf rvRet xCons xOpt xHpt xHnt xcC_66 (fun i => xcL_66[i]?) xcM_66 none 100000 0 38 false (xBeg (rvInf 38).1 xcP_66 xcM_66) xcTs_66) = true := by decide +kernel
theorem xk_66_0 : xEnds 2 1 52 xcM_66 xcO_66 (xRunF rvMth 2 316 66 1 rvTab rvInf rvRet xCons xOpt xHpt xHnt xcC_66 (fun i => xcL_66[i]?) xcM_66 (some [([], 1), ([(2, (-1))], 12)]) 100000 0 38 true xcT_66_0 (xcTp_66 0)) = true := by decide +kernel
theorem xk_66_1 : xEnds 2 1 52 xcM_66 xcO_66 (xRunF rvMth 2 316 66 1 rvTab rvInf rvRet xCons xOpt xHpt xHnt xcC_66 (fun i => xcL_66[i]?) xcM_66 (some [([], 0), ([(3, (-1))], 10)]) 100000 0 38 true xcT_66_1 (xcTp_66 1)) = true := by decide +kernel
def xcT_67_0 : xS := (20, [.inr (20, 0), .inl (0, 1, 0), .inl (1, 1, 0), .inl (4, 1, 0), .inl (2, 1, 0), .inl (1, 12, 0), .inl (3, 1, 0)], [], [xe60, xe61, xe62, xe63, xe64, xe65, xe66, xe67, xe68, xe69, xe70, xe71, xe72, xe73, xe74, xe75, xe76, xe77, xe78, xe79, xe80, xe81, xe82, xe83, xe84, xe85, xe86, xe87, xe88, xe89, xe90, xe91, xe92, xe93, xe94, xe95, xe96, xe97, xe98, xe99, xe100, xe101, xe102, xe103, xe104, xe105, xe106, xe107, xe108, xe109, xe110, xe111], [(0, [], []), (2, [], [])], ([(0, 1023), (0, 2), (5, 12), (0, 12), (0, 4095)], []), 0, 0)
def xcL_67 : List xCu := [(xcT_67_0, [(6, [0], 0), (6, [1], 0), (0, [4], 0), (0, [6], 0), (0, [3], 0)], [([], 0), ([(3, (-1))], 12)])]
def xcC_67 : Nat → Bool := fun pc => [20].any (Nat.beq pc)
def xcW_67 : List Nat := [1, 13]
def xcTs_67 : List Nat := xDig 3 4096
def xcTp_67 : Nat → List Nat := fun n => (bif Nat.beq n 0 then (xDig 7 1153203048319938560) else [])
theorem xk_67_s : xEnds 2 2 52 xcM_67 xcO_67 (xRunF rvMth 2 316 67 2 rvTab rvInf rvRet xCons xOpt xHpt xHnt xcC_67 (fun i => xcL_67[i]?) xcM_67 none 100000 0 39 false (xBeg (rvInf 39).1 xcP_67 xcM_67) xcTs_67) = true := by decide +kernel
theorem xk_67_0 : xEnds 2 2 52 xcM_67 xcO_67 (xRunF rvMth 2 316 67 2 rvTab rvInf rvRet xCons xOpt xHpt xHnt xcC_67 (fun i => xcL_67[i]?) xcM_67 (some [([], 0), ([(3, (-1))], 12)]) 100000 0 39 true xcT_67_0 (xcTp_67 0)) = true := by decide +kernel
def xcT_68_0 : xS := (4, [.inr (20, 0), .inl (1, 1, 0), .inl (0, 1, 0), .inr (9, 0)], [], [xe60, xe61, xe62, xe63, xe64, xe65, xe66, xe67, xe68, xe69, xe70, xe71, xe72, xe73, xe74, xe75, xe76, xe77, xe78, xe79, xe80, xe81, xe82, xe83, xe84, xe85, xe86, xe87, xe88, xe89, xe90, xe91, xe92, xe93, xe94, xe95, xe96, xe97, xe98, xe99, xe100, xe101, xe102, xe103, xe104, xe105, xe106, xe107, xe108, xe109, xe110, xe111], [(0, [0, 2, 2, 0, 3, 3, 0, 4, 4, 2, 0, 2], []), (2, [], [])], ([(0, 3), (0, 3)], [([(1, (-1)), (0, 1)], 0)]), 0, 0)
def xcL_68 : List xCu := [(xcT_68_0, [(0, [2], 0), (0, [1], 0)], [([], 0), ([(0, (-1))], 3)])]
def xcC_68 : Nat → Bool := fun pc => [4].any (Nat.beq pc)
def xcW_68 : List Nat := [1, 4]
def xcTs_68 : List Nat := xDig 3 4096
def xcTp_68 : Nat → List Nat := fun n => (bif Nat.beq n 0 then (xDig 25 121565497280729268013888528448479717361428186854777938072614230144454637141100593152) else [])
theorem xk_68_s : xEnds 2 0 52 xcM_68 xcO_68 (xRunF rvMth 2 316 68 0 rvTab rvInf rvRet xCons xOpt xHpt xHnt xcC_68 (fun i => xcL_68[i]?) xcM_68 none 100000 0 40 false (xBeg (rvInf 40).1 xcP_68 xcM_68) xcTs_68) = true := by decide +kernel
