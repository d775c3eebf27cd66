theorem xk_228_s : xEnds 2 1 52 xcM_228 xcO_228 (xRun rvMth 2 316 228 1 rvTab rvInf rvRet xCons xOpt xHpt xHnt xcC_228 (fun i => xcL_228[i]?) xcM_228 none 100000 0 118 false (xBeg (rvInf 118).1 xcP_228 xcM_228) xcTs_228) = true := by decide +kernel
def xcT_229_0 : xS := (2, [.inr (2, 29), .inl (0, 1, 0), .inl (1, 1, 0), .inl (2, 1, 0)], [], [xe60, xe61, xe62, xe63, xe64, xe65, xe66, xe67, xe68, xe69, xe70, xe71, xe72, xe73, xe74, xe75, xe76, xe77, xe78, xe79, xe80, xe81, xe82, xe83, xe84, xe85, xe86, xe87, xe88, xe89, xe90, xe91, xe92, xe93, xe94, xe95, xe96, xe97, xe98, xe99, xe100, xe101, xe102, xe103, xe104, xe105, xe106, xe107, xe108, xe109, xe110, xe111], [(0, [], []), (2, [], [])], ([(4, 4), (0, 3), (0, 3)], []), 0, 0)
def xcL_229 : List xCu := [(xcT_229_0, [(6, [0], 0), (6, [1], 0), (0, [3], 0)], [([], 0), ([(2, (-1))], 3)])]
def xcC_229 : Nat → Bool := fun pc => [2].any (Nat.beq pc)
def xcW_229 : List Nat := [1, 4]
def xcTs_229 : List Nat := xDig 2 1
def xcTp_229 : Nat → List Nat := fun n => (bif Nat.beq n 0 then (xDig 2 1) else [])
theorem xk_229_s : xEnds 2 2 52 xcM_229 xcO_229 (xRun rvMth 2 316 229 2 rvTab rvInf rvRet xCons xOpt xHpt xHnt xcC_229 (fun i => xcL_229[i]?) xcM_229 none 100000 0 21 false (xBeg (rvInf 21).1 xcP_229 xcM_229) xcTs_229) = true := by decide +kernel
theorem xk_229_0 : xEnds 2 2 52 xcM_229 xcO_229 (xRun rvMth 2 316 229 2 rvTab rvInf rvRet xCons xOpt xHpt xHnt xcC_229 (fun i => xcL_229[i]?) xcM_229 (some [([], 0), ([(2, (-1))], 3)]) 100000 0 21 true xcT_229_0 (xcTp_229 0)) = true := by decide +kernel
def xcL_230 : List xCu := []
def xcC_230 : Nat → Bool := fun pc => [].any (Nat.beq pc)
def xcW_230 : List Nat := []
def xcTs_230 : List Nat := xDig 9 793055384936994232967798784
def xcTp_230 : Nat → List Nat := fun n => []
theorem xk_230_s : xEnds 2 4 52 xcM_230 xcO_230 (xRun rvMth 2 316 230 4 rvTab rvInf rvRet xCons xOpt xHpt xHnt xcC_230 (fun i => xcL_230[i]?) xcM_230 none 100000 0 22 false (xBeg (rvInf 22).1 xcP_230 xcM_230) xcTs_230) = true := by decide +kernel
def xcT_231_0 : xS := (0, [.inr (2, 29)], [], [xe60, xe61, xe62, xe63, xe64, xe65, xe66, xe67, xe68, xe69, xe70, xe71, xe72, xe73, xe74, xe75, xe76, xe77, xe78, xe79, xe80, xe81, xe82, xe83, xe84, xe85, xe86, xe87, xe88, (89, [((0, 0, 46), .inl (3, 1, 0)), ((0, 0, 48), .inl (4, 1, 0)), ((0, 0, 50), .inl (2, 1, 0))]), xe90, xe91, xe92, xe93, xe94, xe95, xe96, xe97, xe98, xe99, xe100, xe101, xe102, xe103, xe104, xe105, xe106, xe107, xe108, xe109, xe110, xe111], [(0, [89, 46, 46, 89, 48, 48, 89, 49, 49, 93, 3, 122], []), (5, [], [(3, 1, 0), (4, 1, 0), (2, 1, 0)]), (2, [], [])], ([(1, 39), (0, 38), (1, 1), (1, 40), (0, 38)], [([(1, (-1))], 39), ([(0, (-1)), (1, (-1))], 40), ([(3, 1), (0, (-1))], 0), ([(4, (-1)), (1, 1)], 0), ([(3, 1), (0, (-1)), (4, 1), (1, (-1))], 0), ([(3, (-1)), (0, 1), (4, (-1)), (1, 1)], 0), ([(3, (-1)), (4, (-1))], 40)]), 0, 0)
def xcL_231 : List xCu := [(xcT_231_0, [(6, [0], 0), (6, [1], 0), (6, [2], 0), (2, [29, 46], 0), (2, [29, 48], 0)], [([], 0), ([(3, (-1))], 40)])]
def xcC_231 : Nat → Bool := fun pc => [0].any (Nat.beq pc)
def xcW_231 : List Nat := [1, 40]
def xcTs_231 : List Nat := xDig 3 4096
def xcTp_231 : Nat → List Nat := fun n => (bif Nat.beq n 0 then (xDig 7 1154332796500815872) else [])
theorem xk_231_s : xEnds 2 3 52 xcM_231 xcO_231 (xRun rvMth 2 316 231 3 rvTab rvInf rvRet xCons xOpt xHpt xHnt xcC_231 (fun i => xcL_231[i]?) xcM_231 none 100000 0 119 false (xBeg (rvInf 119).1 xcP_231 xcM_231) xcTs_231) = true := by decide +kernel
theorem xk_231_0 : xEnds 2 3 52 xcM_231 xcO_231 (xRun rvMth 2 316 231 3 rvTab rvInf rvRet xCons xOpt xHpt xHnt xcC_231 (fun i => xcL_231[i]?) xcM_231 (some [([], 0), ([(3, (-1))], 40)]) 100000 0 119 true xcT_231_0 (xcTp_231 0)) = true := by decide +kernel
def xcT_232_0 : xS := (0, [.inr (2, 29), .inl (0, 1, 0)], [], [xe60, xe61, xe62, xe63, xe64, xe65, xe66, xe67, xe68, xe69, xe70, xe71, xe72, xe73, xe74, xe75, xe76, xe77, xe78, xe79, xe80, xe81, xe82, xe83, xe84, xe85, xe86, xe87, xe88, (89, [((0, 0, 46), .inl (4, 1, 0)), ((0, 0, 48), .inl (5, 1, 0)), ((0, 0, 50), .inl (3, 1, 0))]), xe90, xe91, xe92, xe93, xe94, xe95, xe96, xe97, xe98, xe99, xe100, xe101, xe102, xe103, xe104, xe105, xe106, xe107, xe108, xe109, xe110, xe111], [(0, [89, 46, 46, 89, 48, 48, 93, 3, 122], []), (5, [], [(4, 1, 0), (5, 1, 0), (3, 1, 0)]), (2, [], [])], ([(22, 22), (1, 40), (0, 38), (1, 1), (1, 40), (0, 38)], [([(1, (-1)), (2, (-1))], 40), ([(4, 1), (1, (-1))], 0), ([(5, (-1)), (2, 1)], 0), ([(4, 1), (1, (-1)), (5, 1), (2, (-1))], 0), ([(4, (-1)), (1, 1), (5, (-1)), (2, 1)], 0), ([(4, (-1)), (5, (-1))], 40)]), 0, 0)
def xcL_232 : List xCu := [(xcT_232_0, [(6, [0], 0), (6, [1], 0), (6, [2], 0), (6, [3], 0), (2, [29, 46], 0), (2, [29, 48], 0)], [([], 0), ([(4, (-1))], 40)])]
def xcC_232 : Nat → Bool := fun pc => [0].any (Nat.beq pc)
def xcW_232 : List Nat := [1, 40]
def xcTs_232 : List Nat := xDig 3 4096
def xcTp_232 : Nat → List Nat := fun n => (bif Nat.beq n 0 then (xDig 16 374602409560931815688619105543100410813628952080384) else [])
theorem xk_232_s : xEnds 2 4 52 xcM_232 xcO_232 (xRun rvMth 2 316 232 4 rvTab rvInf rvRet xCons xOpt xHpt xHnt xcC_232 (fun i => xcL_232[i]?) xcM_232 none 100000 0 120 false (xBeg (rvInf 120).1 xcP_232 xcM_232) xcTs_232) = true := by decide +kernel
theorem xk_232_0 : xEnds 2 4 52 xcM_232 xcO_232 (xRun rvMth 2 316 232 4 rvTab rvInf rvRet xCons xOpt xHpt xHnt xcC_232 (fun i => xcL_232[i]?) xcM_232 (some [([], 0), ([(4, (-1))], 40)]) 100000 0 120 true xcT_232_0 (xcTp_232 0)) = true := by decide +kernel
def xcT_233_0 : xS := (0, [.inr (2, 29), .inl (0, 1, 0)], [], [xe60, xe61, xe62, xe63, xe64, xe65, xe66, xe67, xe68, xe69, xe70, xe71, xe72, xe73, xe74, xe75, xe76, xe77, xe78, xe79, xe80, xe81, xe82, xe83, xe84, xe85, xe86, xe87, xe88, (89, [((0, 0, 46), .inl (4, 1, 0)), ((0, 0, 48), .inl (5, 1, 0)), ((0, 0, 50), .inl (3, 1, 0))]), xe90, xe91, xe92, xe93, xe94, xe95, xe96, xe97, xe98, xe99, xe100, xe101, xe102, xe103, xe104, xe105, xe106, xe107, xe108, xe109, xe110, xe111], [(0, [89, 46, 46, 89, 48, 48, 93, 3, 122], []), (5, [], [(4, 1, 0), (5, 1, 0), (3, 1, 0)]), (2, [], [])], ([(21, 21), (1, 40), (0, 38), (1, 1), (1, 40), (0, 38)], [([(1, (-1)), (2, (-1))], 40), ([(4, 1), (1, (-1))], 0), ([(5, (-1)), (2, 1)], 0), ([(4, 1), (1, (-1)), (5, 1), (2, (-1))], 0), ([(4, (-1)), (1, 1), (5, (-1)), (2, 1)], 0), ([(4, (-1)), (5, (-1))], 40)]), 0, 0)
def xcL_233 : List xCu := [(xcT_233_0, [(6, [0], 0), (6, [1], 0), (6, [2], 0), (6, [3], 0), (2, [29, 46], 0), (2, [29, 48], 0)], [([], 0), ([(4, (-1))], 40)])]
def xcC_233 : Nat → Bool := fun pc => [0].any (Nat.beq pc)
def xcW_233 : List Nat := [1, 40]
def xcTs_233 : List Nat := xDig 3 4096
def xcTp_233 : Nat → List Nat := fun n => (bif Nat.beq n 0 then (xDig 11 20769266759285065253764905360945152) else [])
theorem xk_233_s : xEnds 2 4 52 xcM_233 xcO_233 (xRun rvMth 2 316 233 4 rvTab rvInf rvRet xCons xOpt xHpt xHnt xcC_233 (fun i => xcL_233[i]?) xcM_233 none 100000 0 120 false (xBeg (rvInf 120).1 xcP_233 xcM_233) xcTs_233) = true := by decide +kernel
theorem xk_233_0 : xEnds 2 4 52 xcM_233 xcO_233 (xRun rvMth 2 316 233 4 rvTab rvInf rvRet xCons xOpt xHpt xHnt xcC_233 (fun i => xcL_233[i]?) xcM_233 (some [([], 0), ([(4, (-1))], 40)]) 100000 0 120 true xcT_233_0 (xcTp_233 0)) = true := by decide +kernel
theorem xk_234_s : xEnds 2 13 52 xcM_234 xcO_234 (xRun rvMth 2 316 234 13 rvTab rvInf rvRet xCons xOpt xHpt xHnt xcC_234 (fun i => xcL_234[i]?) xcM_234 none 100000 0 121 false (xBeg (rvInf 121).1 xcP_234 xcM_234) xcTs_234) = true := by decide +kernel
