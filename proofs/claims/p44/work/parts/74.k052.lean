def xcL_172 : List xCu := []
def xcC_172 : Nat → Bool := fun pc => [].any (Nat.beq pc)
def xcW_172 : List Nat := []
def xcTs_172 : List Nat := xDig 10 1029966159909104876587438833664
def xcTp_172 : Nat → List Nat := fun n => []
theorem xk_172_s : xEnds 2 4 52 xcM_172 xcO_172 (xRun rvMth 2 316 172 4 rvTab rvInf rvRet xCons xOpt xHpt xHnt xcC_172 (fun i => xcL_172[i]?) xcM_172 none 100000 0 12 false (xBeg (rvInf 12).1 xcP_172 xcM_172) xcTs_172) = true := by decide +kernel
def xcL_173 : List xCu := []
def xcC_173 : Nat → Bool := fun pc => [].any (Nat.beq pc)
def xcW_173 : List Nat := []
def xcTs_173 : List Nat := xDig 26 6465202458683322298821478774422487183937774477225437802035272638885066999326927633776640
def xcTp_173 : Nat → List Nat := fun n => []
theorem xk_173_s : xEnds 2 5 57 xcM_173 xcO_173 (xRun rvMth 2 316 173 5 rvTab rvInf rvRet xCons xOpt xHpt xHnt xcC_173 (fun i => xcL_173[i]?) xcM_173 none 100000 0 91 false (xBeg (rvInf 91).1 xcP_173 xcM_173) xcTs_173) = true := by decide +kernel
def xcT_174_0 : xS := (3, [.inr (20, 6), .inr (1, 0), .inr (9, 0), .inl (0, 1, 0), .inl (1, 1, 0)], [], [xe60, xe61, xe62, xe63, xe64, xe65, xe66, xe67, xe68, xe69, xe70, xe71, xe72, xe73, xe74, xe75, xe76, xe77, xe78, xe79, xe80, xe81, xe82, xe83, xe84, xe85, xe86, xe87, xe88, xe89, xe90, xe91, xe92, xe93, xe94, xe95, xe96, xe97, xe98, xe99, xe100, xe101, xe102, xe103, xe104, xe105, xe106, xe107, xe108, xe109, xe110, xe111], [(0, [], []), (2, [], [])], ([(1, 1), (0, 3)], []), 0, 0)
def xcL_174 : List xCu := [(xcT_174_0, [(6, [0], 0), (0, [4], 0)], [([], 0), ([(1, (-1))], 3)])]
def xcC_174 : Nat → Bool := fun pc => [3].any (Nat.beq pc)
def xcW_174 : List Nat := [1, 4]
def xcTs_174 : List Nat := xDig 2 1
def xcTp_174 : Nat → List Nat := fun n => (bif Nat.beq n 0 then (xDig 2 1) else [])
theorem xk_174_s : xEnds 2 1 52 xcM_174 xcO_174 (xRun rvMth 2 316 174 1 rvTab rvInf rvRet xCons xOpt xHpt xHnt xcC_174 (fun i => xcL_174[i]?) xcM_174 none 100000 0 7 false (xBeg (rvInf 7).1 xcP_174 xcM_174) xcTs_174) = true := by decide +kernel
theorem xk_174_0 : xEnds 2 1 52 xcM_174 xcO_174 (xRun rvMth 2 316 174 1 rvTab rvInf rvRet xCons xOpt xHpt xHnt xcC_174 (fun i => xcL_174[i]?) xcM_174 (some [([], 0), ([(1, (-1))], 3)]) 100000 0 7 true xcT_174_0 (xcTp_174 0)) = true := by decide +kernel
def xcL_175 : List xCu := []
def xcC_175 : Nat → Bool := fun pc => [].any (Nat.beq pc)
def xcW_175 : List Nat := []
def xcTs_175 : List Nat := xDig 7 14987980453242925056
def xcTp_175 : Nat → List Nat := fun n => []
theorem xk_175_s : xEnds 2 2 52 xcM_175 xcO_175 (xRun rvMth 2 316 175 2 rvTab rvInf rvRet xCons xOpt xHpt xHnt xcC_175 (fun i => xcL_175[i]?) xcM_175 none 100000 0 11 false (xBeg (rvInf 11).1 xcP_175 xcM_175) xcTs_175) = true := by decide +kernel
def xcL_176 : List xCu := []
def xcC_176 : Nat → Bool := fun pc => [].any (Nat.beq pc)
def xcW_176 : List Nat := []
def xcTs_176 : List Nat := xDig 3 712704
def xcTp_176 : Nat → List Nat := fun n => []
theorem xk_176_s : xEnds 2 5 57 xcM_176 xcO_176 (xRun rvMth 2 316 176 5 rvTab rvInf rvRet xCons xOpt xHpt xHnt xcC_176 (fun i => xcL_176[i]?) xcM_176 none 100000 0 92 false (xBeg (rvInf 92).1 xcP_176 xcM_176) xcTs_176) = true := by decide +kernel
def xcL_177 : List xCu := []
def xcC_177 : Nat → Bool := fun pc => [].any (Nat.beq pc)
def xcW_177 : List Nat := []
def xcTs_177 : List Nat := xDig 3 724992
def xcTp_177 : Nat → List Nat := fun n => []
theorem xk_177_s : xEnds 2 5 57 xcM_177 xcO_177 (xRun rvMth 2 316 177 5 rvTab rvInf rvRet xCons xOpt xHpt xHnt xcC_177 (fun i => xcL_177[i]?) xcM_177 none 100000 0 93 false (xBeg (rvInf 93).1 xcP_177 xcM_177) xcTs_177) = true := by decide +kernel
def xcL_178 : List xCu := []
def xcC_178 : Nat → Bool := fun pc => [].any (Nat.beq pc)
def xcW_178 : List Nat := []
def xcTs_178 : List Nat := xDig 248 777977799081790100750412761216591733279144492531860690157168883427019222805742787671652696759095602132317389056520335856951382559596597030841301763130160667132747384174081816738316209762527084675824212307897647005638243638062806560521455764035315198681438491807746872027951771010103846616673818775284406515585474735400704659362312348722730609776147719972308831901929628245497047628154228501859919669041657324854553748984779141378345518220969130315080984942517330768522347325745380266801162575051506064508542372210545554575639442102136455307192209608416238779933309454611448230273819042926279011414730788895243942867090382529564585594205056447702640360264914583638657064781847913136136556047097143986211635037159538864866558574720784450937111719308798418635974214184601591855954333590806395513301679842805200001981131536393394493616415494018207246755130302219094528051124919801826358878797824
def xcTp_178 : Nat → List Nat := fun n => []
