theorem xk_152_0 : xEnds 2 2 52 xcM_152 xcO_152 (xRunF rvMth 2 316 152 2 rvTab rvInf rvRet xCons xOpt xHpt xHnt xcC_152 (fun i => xcL_152[i]?) xcM_152 (some [([], 0), ([(2, (-1))], 60)]) 100000 0 84 true xcT_152_0 (xcTp_152 0)) = true := by decide +kernel
def xcT_153_0 : xS := (7, [.inr (2, 29), .inl (0, 1, 0), .inl (1, 1, 0), .inl (6, 1, 0)], [], [xe60, xe61, xe62, xe63, xe64, xe65, xe66, xe67, xe68, xe69, xe70, xe71, xe72, xe73, xe74, xe75, xe76, xe77, xe78, xe79, xe80, xe81, xe82, xe83, xe84, xe85, xe86, xe87, xe88, (89, [((0, 0, 41), .inl (7, 1, 0))]), xe90, (91, [((0, 0, 0), .inl (2, 1, 0)), ((0, 0, 1), .inl (3, 1, 0)), ((0, 0, 2), .inl (4, 1, 0)), ((0, 0, 3), .inl (5, 1, 0))]), xe92, xe93, xe94, xe95, xe96, xe97, xe98, xe99, xe100, xe101, xe102, xe103, xe104, xe105, xe106, xe107, xe108, xe109, xe110, xe111], [(0, [89, 41, 41, 91, 91, 114, 96, 0, 11], []), (4, [5], [(5, 1, 0)]), (7, [], []), (2, [], [])], ([(1, 60), ((-2147483648), 2147483647), (1, 4), (0, 3), (1, 10), (0, 3), (0, 60), ((-2147483648), 2147483647)], [([(2, 10), (4, (-1))], 0), ([(7, 1), (1, (-1))], 4294967295), ([(7, (-1)), (1, 1)], 4294967295)]), 0, 0)
def xcL_153 : List xCu := [(xcT_153_0, [(6, [0], 0), (6, [1], 0), (6, [2], 0), (6, [3], 0), (6, [4], 0), (6, [5], 0), (0, [3], 0), (2, [29, 41], 0)], [([], 0), ([(6, (-1))], 60)])]
def xcC_153 : Nat → Bool := fun pc => [7].any (Nat.beq pc)
def xcW_153 : List Nat := [1, 61]
def xcTs_153 : List Nat := xDig 3 4101
def xcTp_153 : Nat → List Nat := fun n => (bif Nat.beq n 0 then (xDig 41 775542733544492549185768254401920668190419731841088917799292925404944563315345325973009843679816336121566580796226379465045448897101301809152) else [])
theorem xk_153_s : xEnds 2 6 52 xcM_153 xcO_153 (xRunF rvMth 2 316 153 6 rvTab rvInf rvRet xCons xOpt xHpt xHnt xcC_153 (fun i => xcL_153[i]?) xcM_153 none 100000 0 85 false (xBeg (rvInf 85).1 xcP_153 xcM_153) xcTs_153) = true := by decide +kernel
theorem xk_153_0 : xEnds 2 6 52 xcM_153 xcO_153 (xRunF rvMth 2 316 153 6 rvTab rvInf rvRet xCons xOpt xHpt xHnt xcC_153 (fun i => xcL_153[i]?) xcM_153 (some [([], 0), ([(6, (-1))], 60)]) 100000 0 85 true xcT_153_0 (xcTp_153 0)) = true := by decide +kernel
def xcT_154_0 : xS := (41, [.inr (2, 0), .inl (0, 1, 0), .inl (1, 1, 0), .inl (2, 1, 0), .inl (4, 1, 0), .inl (3, 1, 0)], [], [xe60, xe61, xe62, xe63, xe64, xe65, xe66, xe67, xe68, xe69, xe70, xe71, xe72, xe73, xe74, xe75, xe76, xe77, xe78, xe79, xe80, xe81, xe82, xe83, xe84, xe85, xe86, xe87, xe88, xe89, xe90, xe91, xe92, xe93, xe94, xe95, xe96, xe97, xe98, xe99, xe100, xe101, xe102, xe103, xe104, xe105, xe106, xe107, xe108, xe109, xe110, xe111], [(0, [0, 0, 0, 0, 1, 1, 0, 2, 2, 0, 3, 3, 0, 4, 4, 0, 5, 5, 1, 0, 10, 2, 0, 3, 3, 0, 12, 4, 0, 10, 5, 0, 36], []), (2, [], [])], ([(0, 2), (1, 30), ((-2147483648), 2147483647), (0, 30), (0, 30)], [([(4, (-1)), (3, 1)], 0)]), 0, 0)
def xcL_154 : List xCu := [(xcT_154_0, [(6, [0], 0), (6, [1], 0), (6, [2], 0), (0, [5], 0), (0, [4], 0)], [([], 0), ([(3, (-1))], 30)])]
def xcC_154 : Nat → Bool := fun pc => [41].any (Nat.beq pc)
def xcW_154 : List Nat := [1, 31]
def xcTs_154 : List Nat := xDig 5 68719476736
def xcTp_154 : Nat → List Nat := fun n => (bif Nat.beq n 0 then (xDig 12 1330850667878363205993730591051218944) else [])
theorem xk_154_s : xEnds 2 3 52 xcM_154 xcO_154 (xRunF rvMth 2 316 154 3 rvTab rvInf rvRet xCons xOpt xHpt xHnt xcC_154 (fun i => xcL_154[i]?) xcM_154 none 100000 0 86 false (xBeg (rvInf 86).1 xcP_154 xcM_154) xcTs_154) = true := by decide +kernel
theorem xk_154_0 : xEnds 2 3 52 xcM_154 xcO_154 (xRunF rvMth 2 316 154 3 rvTab rvInf rvRet xCons xOpt xHpt xHnt xcC_154 (fun i => xcL_154[i]?) xcM_154 (some [([], 0), ([(3, (-1))], 30)]) 100000 0 86 true xcT_154_0 (xcTp_154 0)) = true := by decide +kernel
def xcT_155_0 : xS := (44, [.inr (2, 29), .inl (0, 1, 0), .inl (1, 1, 0), .inl (2, 1, 0), .inl (8, 1, 0), .inl (7, 1, 0)], [], [xe60, xe61, xe62, xe63, xe64, xe65, xe66, xe67, xe68, xe69, xe70, xe71, xe72, xe73, xe74, xe75, xe76, xe77, xe78, xe79, xe80, xe81, xe82, xe83, xe84, xe85, xe86, xe87, xe88, (89, [((0, 0, 0), .inl (0, 0, 0))]), xe90, (91, [((0, 0, 0), .inl (3, 1, 0)), ((0, 0, 1), .inl (4, 1, 0)), ((0, 0, 2), .inl (5, 1, 0)), ((0, 0, 3), .inl (6, 1, 0))]), xe92, xe93, xe94, xe95, xe96, xe97, xe98, xe99, xe100, xe101, xe102, xe103, xe104, xe105, xe106, xe107, xe108, xe109, xe110, xe111], [(0, [89, 0, 0, 89, 41, 41, 91, 91, 114, 96, 0, 11, 98, 0, 23], []), (4, [5], [(6, 1, 0)]), (7, [], []), (2, [], [])], ([(0, 2), (1, 30), ((-2147483648), 2147483647), (1, 4), (0, 3), (1, 10), (1, 3), (0, 30), (0, 30)], [([(3, 10), (5, (-1))], 0), ([(0, (-1)), (6, 1)], (-1)), ([(8, (-1)), (7, 1)], 0)]), 0, 0)
def xcL_155 : List xCu := [(xcT_155_0, [(6, [0], 0), (6, [1], 0), (6, [2], 0), (6, [3], 0), (6, [4], 0), (6, [5], 0), (6, [6], 0), (0, [5], 0), (0, [4], 0)], [([], 0), ([(7, (-1))], 30)])]
def xcC_155 : Nat → Bool := fun pc => [44].any (Nat.beq pc)
def xcW_155 : List Nat := [1, 31]
def xcTs_155 : List Nat := xDig 8 4722404763466477862912
def xcTp_155 : Nat → List Nat := fun n => (bif Nat.beq n 0 then (xDig 18 6284815470876457005704620522452313099627709629230785495040) else [])
theorem xk_155_s : xEnds 2 7 52 xcM_155 xcO_155 (xRunF rvMth 2 316 155 7 rvTab rvInf rvRet xCons xOpt xHpt xHnt xcC_155 (fun i => xcL_155[i]?) xcM_155 none 100000 0 87 false (xBeg (rvInf 87).1 xcP_155 xcM_155) xcTs_155) = true := by decide +kernel
theorem xk_155_0 : xEnds 2 7 52 xcM_155 xcO_155 (xRunF rvMth 2 316 155 7 rvTab rvInf rvRet xCons xOpt xHpt xHnt xcC_155 (fun i => xcL_155[i]?) xcM_155 (some [([], 0), ([(7, (-1))], 30)]) 100000 0 87 true xcT_155_0 (xcTp_155 0)) = true := by decide +kernel
def xcT_156_0 : xS := (3, [.inr (20, 6), .inr (1, 0), .inr (9, 0), .inl (0, 1, 0), .inl (1, 1, 0)], [], [xe60, xe61, xe62, xe63, xe64, xe65, xe66, xe67, xe68, xe69, xe70, xe71, xe72, xe73, xe74, xe75, xe76, xe77, xe78, xe79, xe80, xe81, xe82, xe83, xe84, xe85, xe86, xe87, xe88, xe89, xe90, xe91, xe92, xe93, xe94, xe95, xe96, xe97, xe98, xe99, xe100, xe101, xe102, xe103, xe104, xe105, xe106, xe107, xe108, xe109, xe110, xe111], [(0, [], []), (2, [], [])], ([(2, 2), (0, 10)], []), 0, 0)
def xcL_156 : List xCu := [(xcT_156_0, [(6, [0], 0), (0, [4], 0)], [([], 0), ([(1, (-1))], 10)])]
def xcC_156 : Nat → Bool := fun pc => [3].any (Nat.beq pc)
def xcW_156 : List Nat := [1, 11]
def xcTs_156 : List Nat := xDig 2 1
def xcTp_156 : Nat → List Nat := fun n => (bif Nat.beq n 0 then (xDig 2 1) else [])
theorem xk_156_s : xEnds 2 1 52 xcM_156 xcO_156 (xRunF rvMth 2 316 156 1 rvTab rvInf rvRet xCons xOpt xHpt xHnt xcC_156 (fun i => xcL_156[i]?) xcM_156 none 100000 0 7 false (xBeg (rvInf 7).1 xcP_156 xcM_156) xcTs_156) = true := by decide +kernel
theorem xk_156_0 : xEnds 2 1 52 xcM_156 xcO_156 (xRunF rvMth 2 316 156 1 rvTab rvInf rvRet xCons xOpt xHpt xHnt xcC_156 (fun i => xcL_156[i]?) xcM_156 (some [([], 0), ([(1, (-1))], 10)]) 100000 0 7 true xcT_156_0 (xcTp_156 0)) = true := by decide +kernel
def xcL_157 : List xCu := []
def xcC_157 : Nat → Bool := fun pc => [].any (Nat.beq pc)
def xcW_157 : List Nat := []
def xcTs_157 : List Nat := xDig 7 14987980453242851328
def xcTp_157 : Nat → List Nat := fun n => []
theorem xk_157_s : xEnds 2 2 52 xcM_157 xcO_157 (xRunF rvMth 2 316 157 2 rvTab rvInf rvRet xCons xOpt xHpt xHnt xcC_157 (fun i => xcL_157[i]?) xcM_157 none 100000 0 11 false (xBeg (rvInf 11).1 xcP_157 xcM_157) xcTs_157) = true := by decide +kernel
def xcT_158_0 : xS := (3, [.inr (20, 6), .inr (1, 0), .inr (9, 0), .inl (0, 1, 0), .inl (1, 1, 0)], [], [xe60, xe61, xe62, xe63, xe64, xe65, xe66, xe67, xe68, xe69, xe70, xe71, xe72, xe73, xe74, xe75, xe76, xe77, xe78, xe79, xe80, xe81, xe82, xe83, xe84, xe85, xe86, xe87, xe88, xe89, xe90, xe91, xe92, xe93, xe94, xe95, xe96, xe97, xe98, xe99, xe100, xe101, xe102, xe103, xe104, xe105, xe106, xe107, xe108, xe109, xe110, xe111], [(0, [], []), (2, [], [])], ([(3, 3), (0, 3)], []), 0, 0)
def xcL_158 : List xCu := [(xcT_158_0, [(6, [0], 0), (0, [4], 0)], [([], 0), ([(1, (-1))], 3)])]
def xcC_158 : Nat → Bool := fun pc => [3].any (Nat.beq pc)
def xcW_158 : List Nat := [1, 4]
def xcTs_158 : List Nat := xDig 2 1
def xcTp_158 : Nat → List Nat := fun n => (bif Nat.beq n 0 then (xDig 2 1) else [])
theorem xk_158_s : xEnds 2 1 52 xcM_158 xcO_158 (xRunF rvMth 2 316 158 1 rvTab rvInf rvRet xCons xOpt xHpt xHnt xcC_158 (fun i => xcL_158[i]?) xcM_158 none 100000 0 7 false (xBeg (rvInf 7).1 xcP_158 xcM_158) xcTs_158) = true := by decide +kernel
theorem xk_158_0 : xEnds 2 1 52 xcM_158 xcO_158 (xRunF rvMth 2 316 158 1 rvTab rvInf rvRet xCons xOpt xHpt xHnt xcC_158 (fun i => xcL_158[i]?) xcM_158 (some [([], 0), ([(1, (-1))], 3)]) 100000 0 7 true xcT_158_0 (xcTp_158 0)) = true := by decide +kernel
def xcL_159 : List xCu := []
def xcC_159 : Nat → Bool := fun pc => [].any (Nat.beq pc)
def xcW_159 : List Nat := []
def xcTs_159 : List Nat := xDig 7 14987980453242859520
def xcTp_159 : Nat → List Nat := fun n => []
theorem xk_159_s : xEnds 2 2 52 xcM_159 xcO_159 (xRunF rvMth 2 316 159 2 rvTab rvInf rvRet xCons xOpt xHpt xHnt xcC_159 (fun i => xcL_159[i]?) xcM_159 none 100000 0 11 false (xBeg (rvInf 11).1 xcP_159 xcM_159) xcTs_159) = true := by decide +kernel
def xcT_160_0 : xS := (3, [.inr (20, 6), .inr (1, 0), .inr (9, 0), .inl (0, 1, 0), .inl (1, 1, 0)], [], [xe60, xe61, xe62, xe63, xe64, xe65, xe66, xe67, xe68, xe69, xe70, xe71, xe72, xe73, xe74, xe75, xe76, xe77, xe78, xe79, xe80, xe81, xe82, xe83, xe84, xe85, xe86, xe87, xe88, xe89, xe90, xe91, xe92, xe93, xe94, xe95, xe96, xe97, xe98, xe99, xe100, xe101, xe102, xe103, xe104, xe105, xe106, xe107, xe108, xe109, xe110, xe111], [(0, [], []), (2, [], [])], ([(0, 0), (0, 4)], []), 0, 0)
def xcL_160 : List xCu := [(xcT_160_0, [(6, [0], 0), (0, [4], 0)], [([], 0), ([(1, (-1))], 4)])]
def xcC_160 : Nat → Bool := fun pc => [3].any (Nat.beq pc)
def xcW_160 : List Nat := [1, 5]
def xcTs_160 : List Nat := xDig 2 1
def xcTp_160 : Nat → List Nat := fun n => (bif Nat.beq n 0 then (xDig 2 1) else [])
theorem xk_160_s : xEnds 2 1 52 xcM_160 xcO_160 (xRunF rvMth 2 316 160 1 rvTab rvInf rvRet xCons xOpt xHpt xHnt xcC_160 (fun i => xcL_160[i]?) xcM_160 none 100000 0 7 false (xBeg (rvInf 7).1 xcP_160 xcM_160) xcTs_160) = true := by decide +kernel
theorem xk_160_0 : xEnds 2 1 52 xcM_160 xcO_160 (xRunF rvMth 2 316 160 1 rvTab rvInf rvRet xCons xOpt xHpt xHnt xcC_160 (fun i => xcL_160[i]?) xcM_160 (some [([], 0), ([(1, (-1))], 4)]) 100000 0 7 true xcT_160_0 (xcTp_160 0)) = true := by decide +kernel
def xcL_161 : List xCu := []
def xcC_161 : Nat → Bool := fun pc => [].any (Nat.beq pc)
def xcW_161 : List Nat := []
def xcTs_161 : List Nat := xDig 7 14987980453242867712
def xcTp_161 : Nat → List Nat := fun n => []
theorem xk_161_s : xEnds 2 2 52 xcM_161 xcO_161 (xRunF rvMth 2 316 161 2 rvTab rvInf rvRet xCons xOpt xHpt xHnt xcC_161 (fun i => xcL_161[i]?) xcM_161 none 100000 0 11 false (xBeg (rvInf 11).1 xcP_161 xcM_161) xcTs_161) = true := by decide +kernel
def xcL_162 : List xCu := []
def xcC_162 : Nat → Bool := fun pc => [].any (Nat.beq pc)
def xcW_162 : List Nat := []
def xcTs_162 : List Nat := xDig 10 1029966159909104876587438833664
def xcTp_162 : Nat → List Nat := fun n => []
theorem xk_162_s : xEnds 2 4 52 xcM_162 xcO_162 (xRunF rvMth 2 316 162 4 rvTab rvInf rvRet xCons xOpt xHpt xHnt xcC_162 (fun i => xcL_162[i]?) xcM_162 none 100000 0 12 false (xBeg (rvInf 12).1 xcP_162 xcM_162) xcTs_162) = true := by decide +kernel
def xcT_163_0 : xS := (14, [.inr (2, 15), .inr (2, 4), .inr (20, 6), .inl (7, 1, 0)], [], [xe60, xe61, xe62, xe63, (64, [((0, 0, 2), .inl (3, 1, 0)), ((0, 0, 9), .inl (8, 1, 0)), ((0, 0, 8), .inl (5, 1, 0)), ((0, 0, 7), .inl (6, 1, 0))]), xe65, xe66, xe67, xe68, xe69, xe70, xe71, xe72, xe73, xe74, (75, [((0, 0, 3), .inl (9, 1, 0))]), xe76, xe77, xe78, xe79, xe80, xe81, xe82, xe83, xe84, xe85, xe86, xe87, xe88, xe89, xe90, xe91, xe92, xe93, xe94, xe95, xe96, xe97, xe98, xe99, xe100, xe101, xe102, xe103, xe104, xe105, xe106, xe107, xe108, xe109, xe110, xe111], [(0, [64, 7, 7, 64, 8, 8, 64, 9, 9, 64, 10, 10, 64, 11, 11, 64, 12, 12, 64, 13, 13, 64, 14, 14, 67, 0, 940, 68, 0, 940, 69, 0, 940, 70, 0, 940, 75, 3, 3, 76, 0, 39, 77, 0, 39, 78, 0, 39], []), (4, [2], [(9, 1, 0)]), (4, [0], [(6, 1, 0)]), (4, [1], [(0, 0, 1)]), (2, [], [])], ([(0, 40), ((-1), 940), (0, 940), (0, 940), (0, 941), (0, 940), (1, 941), (0, 40), (0, 940), (0, 40)], [([(7, 1), (9, (-1))], 0), ([(7, (-1)), (9, 1)], 0)]), 0, 0)
def xcL_163 : List xCu := [(xcT_163_0, [(6, [0], 0), (6, [1], 0), (6, [2], 0), (6, [3], 0), (6, [4], 0), (2, [4, 8], 0), (2, [4, 7], 0), (0, [3], 0), (2, [4, 9], 0), (2, [15, 3], 0)], [([], 0), ([(9, (-1))], 40)])]
def xcC_163 : Nat → Bool := fun pc => [14].any (Nat.beq pc)
def xcW_163 : List Nat := [1, 41]
def xcTs_163 : List Nat := xDig 6 281475127705639
def xcTp_163 : Nat → List Nat := fun n => (bif Nat.beq n 0 then (xDig 177 145720529805858295123653491407207194854868549377256124482762175603390232109580894003585282853786824088534543080999132944391246472341260738944057621648367637317816431833876101066599870803427680644604862845252718521590424856699890863913097431455826765858433340263025432323774902425982142238113319522052663514077534236849238448121214153045227208520557124704142373464042126515227137584079189087514607637044330007233917959035329943399631026979760655849632283128493444350194119725794465899759863607266067836298902258404958577913848358182543382500868151733718060259634556789433136617795545315078268036466541843827845420208154468902984744960) else [])
