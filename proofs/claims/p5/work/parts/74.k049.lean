theorem xk_131_94 : xEnds 2 7 52 xcM_131 xcO_131 (xRunF rvMth 2 316 131 7 rvTab rvInf rvRet xCons xOpt xHpt xHnt xcC_131 (fun i => xcL_131[i]?) xcM_131 (some [([], 9), ([], 0)]) 100000 0 72 true xcT_131_94 (xcTp_131 94)) = true := by decide +kernel
theorem xk_131_95 : xEnds 2 7 52 xcM_131 xcO_131 (xRunF rvMth 2 316 131 7 rvTab rvInf rvRet xCons xOpt xHpt xHnt xcC_131 (fun i => xcL_131[i]?) xcM_131 (some [([], 8), ([], 0)]) 100000 0 72 true xcT_131_95 (xcTp_131 95)) = true := by decide +kernel
theorem xk_131_96 : xEnds 2 7 52 xcM_131 xcO_131 (xRunF rvMth 2 316 131 7 rvTab rvInf rvRet xCons xOpt xHpt xHnt xcC_131 (fun i => xcL_131[i]?) xcM_131 (some [([], 7), ([], 0)]) 100000 0 72 true xcT_131_96 (xcTp_131 96)) = true := by decide +kernel
theorem xk_131_97 : xEnds 2 7 52 xcM_131 xcO_131 (xRunF rvMth 2 316 131 7 rvTab rvInf rvRet xCons xOpt xHpt xHnt xcC_131 (fun i => xcL_131[i]?) xcM_131 (some [([], 6), ([], 0)]) 100000 0 72 true xcT_131_97 (xcTp_131 97)) = true := by decide +kernel
theorem xk_131_98 : xEnds 2 7 52 xcM_131 xcO_131 (xRunF rvMth 2 316 131 7 rvTab rvInf rvRet xCons xOpt xHpt xHnt xcC_131 (fun i => xcL_131[i]?) xcM_131 (some [([], 5), ([], 0)]) 100000 0 72 true xcT_131_98 (xcTp_131 98)) = true := by decide +kernel
theorem xk_131_99 : xEnds 2 7 52 xcM_131 xcO_131 (xRunF rvMth 2 316 131 7 rvTab rvInf rvRet xCons xOpt xHpt xHnt xcC_131 (fun i => xcL_131[i]?) xcM_131 (some [([], 4), ([(18, (-1))], 1024)]) 100000 0 72 true xcT_131_99 (xcTp_131 99)) = true := by decide +kernel
theorem xk_131_100 : xEnds 2 7 52 xcM_131 xcO_131 (xRunF rvMth 2 316 131 7 rvTab rvInf rvRet xCons xOpt xHpt xHnt xcC_131 (fun i => xcL_131[i]?) xcM_131 (some [([], 2), ([], 0)]) 100000 0 72 true xcT_131_100 (xcTp_131 100)) = true := by decide +kernel
theorem xk_131_101 : xEnds 2 7 52 xcM_131 xcO_131 (xRunF rvMth 2 316 131 7 rvTab rvInf rvRet xCons xOpt xHpt xHnt xcC_131 (fun i => xcL_131[i]?) xcM_131 (some [([], 1), ([(11, (-1))], 1024)]) 100000 0 72 true xcT_131_101 (xcTp_131 101)) = true := by decide +kernel
def xcT_132_0 : xS := (50, [.inr (20, 0), .inl (0, 1, 0), .inl (1, 1, 0), .inl (2, 1, 0), .inl (3, 1, 0), .inl (4, 1, 0), .inl (8, 1, 0), .inl (6, 1, 0), .inl (7, 1, 0), .inl (5, 1, 0), .inr (9, 0)], [], [xe60, xe61, xe62, xe63, xe64, xe65, xe66, xe67, xe68, xe69, xe70, xe71, xe72, xe73, xe74, xe75, xe76, xe77, xe78, xe79, xe80, xe81, xe82, xe83, xe84, xe85, xe86, xe87, xe88, xe89, xe90, xe91, xe92, xe93, xe94, xe95, xe96, xe97, xe98, xe99, xe100, xe101, xe102, xe103, xe104, xe105, xe106, xe107, xe108, xe109, xe110, xe111], [(0, [], []), (2, [], [])], ([(0, 2), (0, 2), (0, 1023), (0, 10), (0, 10), (0, 11), (0, 11), (0, 11), (0, 4095)], [([(6, (-1)), (5, 1)], 0), ([(7, (-1)), (5, 1)], 0), ([(7, (-1)), (6, 1)], 0)]), 0, 0)
def xcL_132 : List xCu := [(xcT_132_0, [(6, [0], 0), (6, [1], 0), (0, [3], 0), (0, [4], 0), (0, [5], 0), (0, [9], 0), (0, [7], 0), (0, [8], 0), (0, [6], 0)], [([], 0), ([(5, (-1))], 11)])]
def xcC_132 : Nat → Bool := fun pc => [50].any (Nat.beq pc)
def xcW_132 : List Nat := [1, 12]
def xcTs_132 : List Nat := xDig 13 5444527930810198169456790754446635298816
def xcTp_132 : Nat → List Nat := fun n => (bif Nat.beq n 0 then (xDig 85 670510415647735258160591379254417776005687203961001508738296848147081777638265174481439037841788296967234353123584010399560633742849814008306716156830049962708307042392643855011735776703555812447097895407423834250801830727505266559137621050976766759507075059892103449988475460137800001462316103106560) else [])
theorem xk_132_s : xEnds 2 2 52 xcM_132 xcO_132 (xRunF rvMth 2 316 132 2 rvTab rvInf rvRet xCons xOpt xHpt xHnt xcC_132 (fun i => xcL_132[i]?) xcM_132 none 100000 0 73 false (xBeg (rvInf 73).1 xcP_132 xcM_132) xcTs_132) = true := by decide +kernel
theorem xk_132_0 : xEnds 2 2 52 xcM_132 xcO_132 (xRunF rvMth 2 316 132 2 rvTab rvInf rvRet xCons xOpt xHpt xHnt xcC_132 (fun i => xcL_132[i]?) xcM_132 (some [([], 0), ([(5, (-1))], 11)]) 100000 0 73 true xcT_132_0 (xcTp_132 0)) = true := by decide +kernel
def xcT_133_0 : xS := (102, [.inr (2, 29), .inl (0, 1, 0), .inl (1, 1, 0), .inl (6, 1, 0), .inl (7, 1, 0), .inl (8, 1, 0), .inl (9, 1, 0), .inl (10, 1, 0), .inl (13, 1, 0), .inl (12, 1, 0), .inl (11, 1, 0)], [], [xe60, xe61, xe62, xe63, xe64, xe65, xe66, xe67, xe68, xe69, xe70, xe71, xe72, xe73, xe74, xe75, xe76, xe77, xe78, xe79, xe80, xe81, xe82, xe83, xe84, xe85, xe86, xe87, xe88, (89, [((0, 0, 0), .inl (0, 0, 0))]), xe90, (91, [((0, 0, 0), .inl (2, 1, 0)), ((0, 0, 1), .inl (3, 1, 0)), ((0, 0, 2), .inl (4, 1, 0)), ((0, 0, 3), .inl (5, 1, 0))]), xe92, xe93, xe94, xe95, xe96, xe97, xe98, xe99, xe100, xe101, xe102, xe103, xe104, xe105, xe106, xe107, xe108, xe109, xe110, xe111], [(0, [89, 0, 0, 96, 0, 11], []), (4, [5], [(5, 1, 0)]), (7, [], []), (2, [], [])], ([(0, 2), (0, 2), (0, 4), (1, 3), (0, 10), (1, 3), (0, 1023), (0, 1023), (0, 10), (0, 10), (0, 4095), (0, 10), (0, 10), (0, 10)], [([(2, 10), (4, (-1))], 0), ([(0, (-1)), (3, 1)], (-1)), ([(1, (-1)), (5, 1)], (-1)), ([(5, 1), (8, (-1))], 9), ([(5, 1), (9, (-1))], 9), ([(12, (-1)), (11, 1)], 0), ([(13, (-1)), (11, 1)], 0), ([(13, (-1)), (12, 1)], 0)]), 0, 0)
def xcL_133 : List xCu := [(xcT_133_0, [(6, [0], 0), (6, [1], 0), (6, [2], 0), (6, [3], 0), (6, [4], 0), (6, [5], 0), (0, [3], 0), (0, [4], 0), (0, [5], 0), (0, [6], 0), (0, [7], 0), (0, [10], 0), (0, [9], 0), (0, [8], 0)], [([], 0), ([(11, (-1))], 10)])]
def xcC_133 : Nat → Bool := fun pc => [102].any (Nat.beq pc)
def xcW_133 : List Nat := [1, 11]
def xcTs_133 : List Nat := xDig 55 285152555597830324065440480495695319417921307479842765860525270803374131281663129989223422890925028535404726208535973599989329366892964384362204003893224246010206090325424358977760165768462336
def xcTp_133 : Nat → List Nat := fun n => (bif Nat.beq n 0 then (xDig 26 497930350117614760000506376889833878966582846130339901132347675483980501787107498393600) else [])
theorem xk_133_s : xEnds 2 6 52 xcM_133 xcO_133 (xRunF rvMth 2 316 133 6 rvTab rvInf rvRet xCons xOpt xHpt xHnt xcC_133 (fun i => xcL_133[i]?) xcM_133 none 100000 0 74 false (xBeg (rvInf 74).1 xcP_133 xcM_133) xcTs_133) = true := by decide +kernel
theorem xk_133_0 : xEnds 2 6 52 xcM_133 xcO_133 (xRunF rvMth 2 316 133 6 rvTab rvInf rvRet xCons xOpt xHpt xHnt xcC_133 (fun i => xcL_133[i]?) xcM_133 (some [([], 0), ([(11, (-1))], 10)]) 100000 0 74 true xcT_133_0 (xcTp_133 0)) = true := by decide +kernel
def xcT_134_0 : xS := (13, [.inr (2, 0), .inl (0, 1, 0)], [], [xe60, xe61, xe62, xe63, xe64, xe65, xe66, xe67, xe68, xe69, xe70, xe71, xe72, xe73, xe74, xe75, xe76, xe77, xe78, xe79, xe80, xe81, xe82, xe83, xe84, xe85, xe86, xe87, xe88, xe89, xe90, xe91, xe92, xe93, xe94, xe95, xe96, xe97, xe98, xe99, xe100, xe101, xe102, xe103, xe104, xe105, xe106, xe107, xe108, xe109, xe110, xe111], [(0, [0, 0, 0, 0, 1, 1, 0, 2, 2, 0, 3, 3, 0, 4, 4, 1, 0, 10, 2, 0, 3, 3, 0, 12, 4, 0, 10, 5, 0, 36], []), (2, [], [])], ([(0, 60)], []), 0, 0)
def xcL_134 : List xCu := [(xcT_134_0, [(0, [1], 0)], [([], 0), ([(0, (-1))], 60)])]
def xcC_134 : Nat → Bool := fun pc => [13].any (Nat.beq pc)
def xcW_134 : List Nat := [1, 61]
def xcTs_134 : List Nat := xDig 3 4096
def xcTp_134 : Nat → List Nat := fun n => (bif Nat.beq n 0 then (xDig 4 17059840) else [])
theorem xk_134_s : xEnds 2 0 52 xcM_134 xcO_134 (xRunF rvMth 2 316 134 0 rvTab rvInf rvRet xCons xOpt xHpt xHnt xcC_134 (fun i => xcL_134[i]?) xcM_134 none 100000 0 75 false (xBeg (rvInf 75).1 xcP_134 xcM_134) xcTs_134) = true := by decide +kernel
theorem xk_134_0 : xEnds 2 0 52 xcM_134 xcO_134 (xRunF rvMth 2 316 134 0 rvTab rvInf rvRet xCons xOpt xHpt xHnt xcC_134 (fun i => xcL_134[i]?) xcM_134 (some [([], 0), ([(0, (-1))], 60)]) 100000 0 75 true xcT_134_0 (xcTp_134 0)) = true := by decide +kernel
def xcL_135 : List xCu := []
def xcC_135 : Nat → Bool := fun pc => [].any (Nat.beq pc)
def xcW_135 : List Nat := []
def xcTs_135 : List Nat := xDig 1 0
def xcTp_135 : Nat → List Nat := fun n => []
theorem xk_135_s : xEnds 2 4 52 xcM_135 xcO_135 (xRunF rvMth 2 316 135 4 rvTab rvInf rvRet xCons xOpt xHpt xHnt xcC_135 (fun i => xcL_135[i]?) xcM_135 none 100000 0 76 false (xBeg (rvInf 76).1 xcP_135 xcM_135) xcTs_135) = true := by decide +kernel
def xcL_136 : List xCu := []
def xcC_136 : Nat → Bool := fun pc => [].any (Nat.beq pc)
def xcW_136 : List Nat := []
def xcTs_136 : List Nat := xDig 1 0
def xcTp_136 : Nat → List Nat := fun n => []
theorem xk_136_s : xEnds 2 4 52 xcM_136 xcO_136 (xRunF rvMth 2 316 136 4 rvTab rvInf rvRet xCons xOpt xHpt xHnt xcC_136 (fun i => xcL_136[i]?) xcM_136 none 100000 0 77 false (xBeg (rvInf 77).1 xcP_136 xcM_136) xcTs_136) = true := by decide +kernel
def xcT_137_0 : xS := (13, [.inr (2, 29), .inl (5, 1, 0), .inl (4, 1, 0), .inr (9, 0)], [], [xe60, xe61, xe62, xe63, xe64, xe65, xe66, xe67, xe68, xe69, xe70, xe71, xe72, xe73, xe74, xe75, xe76, xe77, xe78, xe79, xe80, xe81, xe82, xe83, xe84, xe85, xe86, xe87, xe88, (89, [((0, 0, 0), .inl (0, 0, 0))]), xe90, (91, [((0, 0, 0), .inl (0, 1, 0)), ((0, 0, 1), .inl (1, 1, 0)), ((0, 0, 2), .inl (2, 1, 0)), ((0, 0, 3), .inl (3, 1, 0))]), xe92, xe93, xe94, xe95, xe96, xe97, xe98, xe99, xe100, xe101, xe102, xe103, xe104, xe105, xe106, xe107, xe108, xe109, xe110, xe111], [(0, [89, 0, 0, 91, 91, 114, 96, 0, 11, 98, 0, 23], []), (4, [5], [(3, 1, 0)]), (7, [], []), (2, [], [])], ([(0, 4), (0, 3), (0, 10), (0, 3), (0, 60), ((-2147483648), 2147483647)], [([(0, 10), (2, (-1))], 0)]), 0, 0)
def xcL_137 : List xCu := [(xcT_137_0, [(6, [0], 0), (6, [1], 0), (6, [2], 0), (6, [3], 0), (0, [2], 0), (0, [1], 0)], [([], 0), ([(4, (-1))], 60)])]
def xcC_137 : Nat → Bool := fun pc => [13].any (Nat.beq pc)
def xcW_137 : List Nat := [1, 61]
def xcTs_137 : List Nat := xDig 4 17334272
def xcTp_137 : Nat → List Nat := fun n => (bif Nat.beq n 0 then (xDig 11 324599174503643137429104532951040) else [])
theorem xk_137_s : xEnds 2 4 52 xcM_137 xcO_137 (xRunF rvMth 2 316 137 4 rvTab rvInf rvRet xCons xOpt xHpt xHnt xcC_137 (fun i => xcL_137[i]?) xcM_137 none 100000 0 78 false (xBeg (rvInf 78).1 xcP_137 xcM_137) xcTs_137) = true := by decide +kernel
theorem xk_137_0 : xEnds 2 4 52 xcM_137 xcO_137 (xRunF rvMth 2 316 137 4 rvTab rvInf rvRet xCons xOpt xHpt xHnt xcC_137 (fun i => xcL_137[i]?) xcM_137 (some [([], 0), ([(4, (-1))], 60)]) 100000 0 78 true xcT_137_0 (xcTp_137 0)) = true := by decide +kernel
def xcT_138_0 : xS := (3, [.inr (2, 27), .inr (1, 0), .inr (9, 0), .inl (1, 1, 0), .inr (9, 0)], [], [xe60, xe61, xe62, xe63, xe64, xe65, xe66, xe67, xe68, xe69, xe70, xe71, xe72, xe73, xe74, xe75, xe76, xe77, xe78, xe79, xe80, xe81, xe82, xe83, xe84, xe85, xe86, (87, [((0, 0, 1), .inl (2, 1, 0))]), xe88, xe89, xe90, xe91, xe92, xe93, xe94, xe95, xe96, xe97, xe98, xe99, xe100, xe101, xe102, xe103, xe104, xe105, xe106, xe107, xe108, xe109, xe110, xe111], [(0, [87, 1, 1, 88, 0, 63], []), (2, [], [])], ([(0, 64), ((-5), 30), (0, 64)], [([(2, 1), (0, (-1))], 0)]), 0, 0)
def xcL_138 : List xCu := [(xcT_138_0, [(6, [0], 0), (0, [3], 0), (2, [27, 1], 0)], [([], 0), ([(1, 1)], 5)])]
def xcC_138 : Nat → Bool := fun pc => [3].any (Nat.beq pc)
def xcW_138 : List Nat := [1, 36]
def xcTs_138 : List Nat := xDig 3 4096
def xcTp_138 : Nat → List Nat := fun n => (bif Nat.beq n 0 then (xDig 9 19366426099169919644991488) else [])
theorem xk_138_s : xEnds 2 1 52 xcM_138 xcO_138 (xRunF rvMth 2 316 138 1 rvTab rvInf rvRet xCons xOpt xHpt xHnt xcC_138 (fun i => xcL_138[i]?) xcM_138 none 100000 0 79 false (xBeg (rvInf 79).1 xcP_138 xcM_138) xcTs_138) = true := by decide +kernel
theorem xk_138_0 : xEnds 2 1 52 xcM_138 xcO_138 (xRunF rvMth 2 316 138 1 rvTab rvInf rvRet xCons xOpt xHpt xHnt xcC_138 (fun i => xcL_138[i]?) xcM_138 (some [([], 0), ([(1, 1)], 5)]) 100000 0 79 true xcT_138_0 (xcTp_138 0)) = true := by decide +kernel
def xcT_139_0 : xS := (2, [.inr (2, 27), .inr (3, 3), .inl (1, 1, 0)], [], [xe60, xe61, xe62, xe63, xe64, xe65, xe66, xe67, xe68, xe69, xe70, xe71, xe72, xe73, xe74, xe75, xe76, xe77, xe78, xe79, xe80, xe81, xe82, xe83, xe84, xe85, xe86, (87, [((0, 0, 1), .inl (2, 1, 0))]), xe88, xe89, xe90, xe91, xe92, xe93, xe94, xe95, xe96, xe97, xe98, xe99, xe100, xe101, xe102, xe103, xe104, xe105, xe106, xe107, xe108, xe109, xe110, xe111], [(0, [87, 1, 1, 88, 0, 63], []), (2, [], [])], ([(0, 64), (0, 5), (0, 64)], [([(2, 1), (0, (-1))], 0)]), 0, 0)
def xcL_139 : List xCu := [(xcT_139_0, [(6, [0], 0), (0, [2], 0), (2, [27, 1], 0)], [([], 0), ([(1, (-1))], 5)])]
def xcC_139 : Nat → Bool := fun pc => [2].any (Nat.beq pc)
def xcW_139 : List Nat := [1, 6]
def xcTs_139 : List Nat := xDig 3 4096
def xcTp_139 : Nat → List Nat := fun n => (bif Nat.beq n 0 then (xDig 14 22327969117112294003528661145049963243241472) else [])
theorem xk_139_s : xEnds 2 1 52 xcM_139 xcO_139 (xRunF rvMth 2 316 139 1 rvTab rvInf rvRet xCons xOpt xHpt xHnt xcC_139 (fun i => xcL_139[i]?) xcM_139 none 100000 0 80 false (xBeg (rvInf 80).1 xcP_139 xcM_139) xcTs_139) = true := by decide +kernel
