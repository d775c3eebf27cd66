theorem xk_171_1 : xEnds 2 12 52 xcM_171 xcO_171 (xRun rvMth 2 316 171 12 rvTab rvInf rvRet xCons xOpt xHpt xHnt xcC_171 (fun i => xcL_171[i]?) xcM_171 (some [([], 1), ([(15, (-1))], 4), ([], 0), ([], 0)]) 100000 0 90 true xcT_171_1 (xDig 5 137438965760)) = true := by decide +kernel
theorem xk_171_2 : xEnds 2 12 52 xcM_171 xcO_171 (xRun rvMth 2 316 171 12 rvTab rvInf rvRet xCons xOpt xHpt xHnt xcC_171 (fun i => xcL_171[i]?) xcM_171 (some [([], 0), ([(16, (-1))], 40), ([], 0), ([], 0)]) 100000 0 90 true xcT_171_2 (xDig 198 3159883392750647902657385739267008890102649075602767507453492598489375227073713954144108950530972545751077622398242629542376008999503030937896769857254775911554949168357659176662796263523515031992316283929152585845194679896316672410840883109057442023336252003415806885121441217358989700642366942024418332503987239793506552750992675263017053929689881441678696418081610330068463238755270406386933714376309582681599574798733567676933642093812652936288262355870084597899119925660007753557483357180744220046742584105940880502350427301382117672861602984335108565110896486731309876249296832469788374165427967544932296582294958965146332285264580039623475871507508713541599678510574897055525390505849980605720795545600)) = true := by decide +kernel
theorem xk_171_3 : xEnds 2 12 52 xcM_171 xcO_171 (xRun rvMth 2 316 171 12 rvTab rvInf rvRet xCons xOpt xHpt xHnt xcC_171 (fun i => xcL_171[i]?) xcM_171 (some [([], 2), ([], 0), ([], 0), ([], 0)]) 100000 0 90 true xcT_171_3 (xDig 2 5)) = true := by decide +kernel
theorem xk_171_4 : xEnds 2 12 52 xcM_171 xcO_171 (xRun rvMth 2 316 171 12 rvTab rvInf rvRet xCons xOpt xHpt xHnt xcC_171 (fun i => xcL_171[i]?) xcM_171 (some [([], 3), ([], 0), ([], 0), ([], 0)]) 100000 0 90 true xcT_171_4 (xDig 2 0)) = true := by decide +kernel
theorem xk_171_5 : xEnds 2 12 52 xcM_171 xcO_171 (xRun rvMth 2 316 171 12 rvTab rvInf rvRet xCons xOpt xHpt xHnt xcC_171 (fun i => xcL_171[i]?) xcM_171 (some [([], 4), ([], 0), ([], 0), ([], 0)]) 100000 0 90 true xcT_171_5 (xDig 2 5)) = true := by decide +kernel
theorem xk_171_6 : xEnds 2 12 52 xcM_171 xcO_171 (xRun rvMth 2 316 171 12 rvTab rvInf rvRet xCons xOpt xHpt xHnt xcC_171 (fun i => xcL_171[i]?) xcM_171 (some [([], 5), ([], 0), ([], 0), ([], 0)]) 100000 0 90 true xcT_171_6 (xDig 2 5)) = true := by decide +kernel
theorem xk_171_7 : xEnds 2 12 52 xcM_171 xcO_171 (xRun rvMth 2 316 171 12 rvTab rvInf rvRet xCons xOpt xHpt xHnt xcC_171 (fun i => xcL_171[i]?) xcM_171 (some [([], 6), ([], 0), ([], 0), ([], 0)]) 100000 0 90 true xcT_171_7 (xDig 2 5)) = true := by decide +kernel
theorem xk_171_8 : xEnds 2 12 52 xcM_171 xcO_171 (xRun rvMth 2 316 171 12 rvTab rvInf rvRet xCons xOpt xHpt xHnt xcC_171 (fun i => xcL_171[i]?) xcM_171 (some [([], 7), ([], 0), ([], 0), ([], 0)]) 100000 0 90 true xcT_171_8 (xDig 8 11540474045136901)) = true := by decide +kernel
theorem xk_171_9 : xEnds 2 12 52 xcM_171 xcO_171 (xRun rvMth 2 316 171 12 rvTab rvInf rvRet xCons xOpt xHpt xHnt xcC_171 (fun i => xcL_171[i]?) xcM_171 (some [([], 8), ([], 0), ([], 0), ([], 0)]) 100000 0 90 true xcT_171_9 (xDig 8 11540474045136901)) = true := by decide +kernel
theorem xk_171_10 : xEnds 2 12 52 xcM_171 xcO_171 (xRun rvMth 2 316 171 12 rvTab rvInf rvRet xCons xOpt xHpt xHnt xcC_171 (fun i => xcL_171[i]?) xcM_171 (some [([], 18), ([(12, (-1))], 40), ([], 2), ([], 0)]) 100000 0 90 true xcT_171_10 (xDig 29 34175892413368917085451194716974273039569661128969816545324693407001043440603960765800438306963461)) = true := by decide +kernel
theorem xk_171_11 : xEnds 2 12 52 xcM_171 xcO_171 (xRun rvMth 2 316 171 12 rvTab rvInf rvRet xCons xOpt xHpt xHnt xcC_171 (fun i => xcL_171[i]?) xcM_171 (some [([], 9), ([], 0), ([], 0), ([], 0)]) 100000 0 90 true xcT_171_11 (xDig 8 11540474045136901)) = true := by decide +kernel
theorem xk_171_12 : xEnds 2 12 52 xcM_171 xcO_171 (xRun rvMth 2 316 171 12 rvTab rvInf rvRet xCons xOpt xHpt xHnt xcC_171 (fun i => xcL_171[i]?) xcM_171 (some [([], 10), ([], 0), ([], 0), ([], 0)]) 100000 0 90 true xcT_171_12 (xDig 8 11540474045136901)) = true := by decide +kernel
theorem xk_171_13 : xEnds 2 12 52 xcM_171 xcO_171 (xRun rvMth 2 316 171 12 rvTab rvInf rvRet xCons xOpt xHpt xHnt xcC_171 (fun i => xcL_171[i]?) xcM_171 (some [([], 18), ([(12, (-1))], 40), ([], 1), ([], 0)]) 100000 0 90 true xcT_171_13 (xDig 29 34175892413368917085451194716974273039569661128969816545324693407001043440603960765800438306963461)) = true := by decide +kernel
theorem xk_171_14 : xEnds 2 12 52 xcM_171 xcO_171 (xRun rvMth 2 316 171 12 rvTab rvInf rvRet xCons xOpt xHpt xHnt xcC_171 (fun i => xcL_171[i]?) xcM_171 (some [([], 11), ([], 0), ([], 0), ([], 0)]) 100000 0 90 true xcT_171_14 (xDig 2 0)) = true := by decide +kernel
theorem xk_171_15 : xEnds 2 12 52 xcM_171 xcO_171 (xRun rvMth 2 316 171 12 rvTab rvInf rvRet xCons xOpt xHpt xHnt xcC_171 (fun i => xcL_171[i]?) xcM_171 (some [([], 12), ([], 0), ([], 0), ([], 0)]) 100000 0 90 true xcT_171_15 (xDig 2 0)) = true := by decide +kernel
theorem xk_171_16 : xEnds 2 12 52 xcM_171 xcO_171 (xRun rvMth 2 316 171 12 rvTab rvInf rvRet xCons xOpt xHpt xHnt xcC_171 (fun i => xcL_171[i]?) xcM_171 (some [([], 13), ([], 0), ([], 0), ([], 0)]) 100000 0 90 true xcT_171_16 (xDig 2 0)) = true := by decide +kernel
theorem xk_171_17 : xEnds 2 12 52 xcM_171 xcO_171 (xRun rvMth 2 316 171 12 rvTab rvInf rvRet xCons xOpt xHpt xHnt xcC_171 (fun i => xcL_171[i]?) xcM_171 (some [([], 14), ([], 0), ([], 0), ([], 0)]) 100000 0 90 true xcT_171_17 (xDig 2 0)) = true := by decide +kernel
theorem xk_171_18 : xEnds 2 12 52 xcM_171 xcO_171 (xRun rvMth 2 316 171 12 rvTab rvInf rvRet xCons xOpt xHpt xHnt xcC_171 (fun i => xcL_171[i]?) xcM_171 (some [([], 15), ([], 0), ([], 0), ([], 0)]) 100000 0 90 true xcT_171_18 (xDig 8 11540474045136896)) = true := by decide +kernel
theorem xk_171_19 : xEnds 2 12 52 xcM_171 xcO_171 (xRun rvMth 2 316 171 12 rvTab rvInf rvRet xCons xOpt xHpt xHnt xcC_171 (fun i => xcL_171[i]?) xcM_171 (some [([], 16), ([], 0), ([], 0), ([], 0)]) 100000 0 90 true xcT_171_19 (xDig 8 11540474045136896)) = true := by decide +kernel
theorem xk_171_20 : xEnds 2 12 52 xcM_171 xcO_171 (xRun rvMth 2 316 171 12 rvTab rvInf rvRet xCons xOpt xHpt xHnt xcC_171 (fun i => xcL_171[i]?) xcM_171 (some [([], 18), ([(12, (-1))], 40), ([], 0), ([], 0)]) 100000 0 90 true xcT_171_20 (xDig 29 34175900561512822423395546858145285790619629798015557644299192694886536961841726780528556945440768)) = true := by decide +kernel
theorem xk_171_21 : xEnds 2 12 52 xcM_171 xcO_171 (xRun rvMth 2 316 171 12 rvTab rvInf rvRet xCons xOpt xHpt xHnt xcC_171 (fun i => xcL_171[i]?) xcM_171 (some [([], 17), ([], 0), ([], 0), ([], 0)]) 100000 0 90 true xcT_171_21 (xDig 2 0)) = true := by decide +kernel
def xcL_172 : List xCu := []
def xcC_172 : Nat → Bool := fun pc => [].any (Nat.beq pc)
def xcW_172 : List Nat := []
theorem xk_172_s : xEnds 2 4 52 xcM_172 xcO_172 (xRun rvMth 2 316 172 4 rvTab rvInf rvRet xCons xOpt xHpt xHnt xcC_172 (fun i => xcL_172[i]?) xcM_172 none 100000 0 12 false (xBeg (rvInf 12).1 xcP_172 xcM_172) (xDig 10 1029966159909104876587438833664)) = true := by decide +kernel
def xcL_173 : List xCu := []
def xcC_173 : Nat → Bool := fun pc => [].any (Nat.beq pc)
def xcW_173 : List Nat := []
theorem xk_173_s : xEnds 2 5 57 xcM_173 xcO_173 (xRun rvMth 2 316 173 5 rvTab rvInf rvRet xCons xOpt xHpt xHnt xcC_173 (fun i => xcL_173[i]?) xcM_173 none 100000 0 91 false (xBeg (rvInf 91).1 xcP_173 xcM_173) (xDig 26 6465202458683322298821478774422487183937774477225437802035272638885066999326927633776640)) = true := by decide +kernel
def xcT_174_0 : xS := (3, [.inr (20, 6), .inr (1, 0), .inr (9, 0), .inl (0, 1, 0), .inl (1, 1, 0)], [], [xe60, xe61, xe62, xe63, xe64, xe65, xe66, xe67, xe68, xe69, xe70, xe71, xe72, xe73, xe74, xe75, xe76, xe77, xe78, xe79, xe80, xe81, xe82, xe83, xe84, xe85, xe86, xe87, xe88, xe89, xe90, xe91, xe92, xe93, xe94, xe95, xe96, xe97, xe98, xe99, xe100, xe101, xe102, xe103, xe104, xe105, xe106, xe107, xe108, xe109, xe110, xe111], [(0, [], []), (2, [], [])], ([(1, 1), (0, 3)], []), 0, 0)
def xcL_174 : List xCu := [(xcT_174_0, [(6, [0], 0), (0, [4], 0)], [([], 0), ([(1, (-1))], 3)])]
def xcC_174 : Nat → Bool := fun pc => [3].any (Nat.beq pc)
def xcW_174 : List Nat := [1, 4]
theorem xk_174_s : xEnds 2 1 52 xcM_174 xcO_174 (xRun rvMth 2 316 174 1 rvTab rvInf rvRet xCons xOpt xHpt xHnt xcC_174 (fun i => xcL_174[i]?) xcM_174 none 100000 0 7 false (xBeg (rvInf 7).1 xcP_174 xcM_174) (xDig 2 1)) = true := by decide +kernel
theorem xk_174_0 : xEnds 2 1 52 xcM_174 xcO_174 (xRun rvMth 2 316 174 1 rvTab rvInf rvRet xCons xOpt xHpt xHnt xcC_174 (fun i => xcL_174[i]?) xcM_174 (some [([], 0), ([(1, (-1))], 3)]) 100000 0 7 true xcT_174_0 (xDig 2 1)) = true := by decide +kernel
def xcL_175 : List xCu := []
def xcC_175 : Nat → Bool := fun pc => [].any (Nat.beq pc)
def xcW_175 : List Nat := []
theorem xk_175_s : xEnds 2 2 52 xcM_175 xcO_175 (xRun rvMth 2 316 175 2 rvTab rvInf rvRet xCons xOpt xHpt xHnt xcC_175 (fun i => xcL_175[i]?) xcM_175 none 100000 0 11 false (xBeg (rvInf 11).1 xcP_175 xcM_175) (xDig 7 14987980453242925056)) = true := by decide +kernel
def xcL_176 : List xCu := []
def xcC_176 : Nat → Bool := fun pc => [].any (Nat.beq pc)
def xcW_176 : List Nat := []
theorem xk_176_s : xEnds 2 5 57 xcM_176 xcO_176 (xRun rvMth 2 316 176 5 rvTab rvInf rvRet xCons xOpt xHpt xHnt xcC_176 (fun i => xcL_176[i]?) xcM_176 none 100000 0 92 false (xBeg (rvInf 92).1 xcP_176 xcM_176) (xDig 3 712704)) = true := by decide +kernel
def xcL_177 : List xCu := []
def xcC_177 : Nat → Bool := fun pc => [].any (Nat.beq pc)
def xcW_177 : List Nat := []
theorem xk_177_s : xEnds 2 5 57 xcM_177 xcO_177 (xRun rvMth 2 316 177 5 rvTab rvInf rvRet xCons xOpt xHpt xHnt xcC_177 (fun i => xcL_177[i]?) xcM_177 none 100000 0 93 false (xBeg (rvInf 93).1 xcP_177 xcM_177) (xDig 3 724992)) = true := by decide +kernel
def xcL_178 : List xCu := []
def xcC_178 : Nat → Bool := fun pc => [].any (Nat.beq pc)
def xcW_178 : List Nat := []
