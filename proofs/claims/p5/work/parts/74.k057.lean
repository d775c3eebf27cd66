theorem xk_171_2 : xEnds 2 12 52 xcM_171 xcO_171 (xRunF rvMth 2 316 171 12 rvTab rvInf rvRet xCons xOpt xHpt xHnt xcC_171 (fun i => xcL_171[i]?) xcM_171 (some [([], 0), ([(16, (-1))], 40), ([], 0), ([], 0)]) 100000 0 90 true xcT_171_2 (xcTp_171 2)) = true := by decide +kernel
theorem xk_171_3 : xEnds 2 12 52 xcM_171 xcO_171 (xRunF rvMth 2 316 171 12 rvTab rvInf rvRet xCons xOpt xHpt xHnt xcC_171 (fun i => xcL_171[i]?) xcM_171 (some [([], 2), ([], 0), ([], 0), ([], 0)]) 100000 0 90 true xcT_171_3 (xcTp_171 3)) = true := by decide +kernel
theorem xk_171_4 : xEnds 2 12 52 xcM_171 xcO_171 (xRunF rvMth 2 316 171 12 rvTab rvInf rvRet xCons xOpt xHpt xHnt xcC_171 (fun i => xcL_171[i]?) xcM_171 (some [([], 3), ([], 0), ([], 0), ([], 0)]) 100000 0 90 true xcT_171_4 (xcTp_171 4)) = true := by decide +kernel
theorem xk_171_5 : xEnds 2 12 52 xcM_171 xcO_171 (xRunF rvMth 2 316 171 12 rvTab rvInf rvRet xCons xOpt xHpt xHnt xcC_171 (fun i => xcL_171[i]?) xcM_171 (some [([], 4), ([], 0), ([], 0), ([], 0)]) 100000 0 90 true xcT_171_5 (xcTp_171 5)) = true := by decide +kernel
theorem xk_171_6 : xEnds 2 12 52 xcM_171 xcO_171 (xRunF rvMth 2 316 171 12 rvTab rvInf rvRet xCons xOpt xHpt xHnt xcC_171 (fun i => xcL_171[i]?) xcM_171 (some [([], 5), ([], 0), ([], 0), ([], 0)]) 100000 0 90 true xcT_171_6 (xcTp_171 6)) = true := by decide +kernel
theorem xk_171_7 : xEnds 2 12 52 xcM_171 xcO_171 (xRunF rvMth 2 316 171 12 rvTab rvInf rvRet xCons xOpt xHpt xHnt xcC_171 (fun i => xcL_171[i]?) xcM_171 (some [([], 6), ([], 0), ([], 0), ([], 0)]) 100000 0 90 true xcT_171_7 (xcTp_171 7)) = true := by decide +kernel
theorem xk_171_8 : xEnds 2 12 52 xcM_171 xcO_171 (xRunF rvMth 2 316 171 12 rvTab rvInf rvRet xCons xOpt xHpt xHnt xcC_171 (fun i => xcL_171[i]?) xcM_171 (some [([], 7), ([], 0), ([], 0), ([], 0)]) 100000 0 90 true xcT_171_8 (xcTp_171 8)) = true := by decide +kernel
theorem xk_171_9 : xEnds 2 12 52 xcM_171 xcO_171 (xRunF rvMth 2 316 171 12 rvTab rvInf rvRet xCons xOpt xHpt xHnt xcC_171 (fun i => xcL_171[i]?) xcM_171 (some [([], 8), ([], 0), ([], 0), ([], 0)]) 100000 0 90 true xcT_171_9 (xcTp_171 9)) = true := by decide +kernel
theorem xk_171_10 : xEnds 2 12 52 xcM_171 xcO_171 (xRunF rvMth 2 316 171 12 rvTab rvInf rvRet xCons xOpt xHpt xHnt xcC_171 (fun i => xcL_171[i]?) xcM_171 (some [([], 18), ([(12, (-1))], 40), ([], 2), ([], 0)]) 100000 0 90 true xcT_171_10 (xcTp_171 10)) = true := by decide +kernel
theorem xk_171_11 : xEnds 2 12 52 xcM_171 xcO_171 (xRunF rvMth 2 316 171 12 rvTab rvInf rvRet xCons xOpt xHpt xHnt xcC_171 (fun i => xcL_171[i]?) xcM_171 (some [([], 9), ([], 0), ([], 0), ([], 0)]) 100000 0 90 true xcT_171_11 (xcTp_171 11)) = true := by decide +kernel
theorem xk_171_12 : xEnds 2 12 52 xcM_171 xcO_171 (xRunF rvMth 2 316 171 12 rvTab rvInf rvRet xCons xOpt xHpt xHnt xcC_171 (fun i => xcL_171[i]?) xcM_171 (some [([], 10), ([], 0), ([], 0), ([], 0)]) 100000 0 90 true xcT_171_12 (xcTp_171 12)) = true := by decide +kernel
theorem xk_171_13 : xEnds 2 12 52 xcM_171 xcO_171 (xRunF rvMth 2 316 171 12 rvTab rvInf rvRet xCons xOpt xHpt xHnt xcC_171 (fun i => xcL_171[i]?) xcM_171 (some [([], 18), ([(12, (-1))], 40), ([], 1), ([], 0)]) 100000 0 90 true xcT_171_13 (xcTp_171 13)) = true := by decide +kernel
theorem xk_171_14 : xEnds 2 12 52 xcM_171 xcO_171 (xRunF rvMth 2 316 171 12 rvTab rvInf rvRet xCons xOpt xHpt xHnt xcC_171 (fun i => xcL_171[i]?) xcM_171 (some [([], 11), ([], 0), ([], 0), ([], 0)]) 100000 0 90 true xcT_171_14 (xcTp_171 14)) = true := by decide +kernel
theorem xk_171_15 : xEnds 2 12 52 xcM_171 xcO_171 (xRunF rvMth 2 316 171 12 rvTab rvInf rvRet xCons xOpt xHpt xHnt xcC_171 (fun i => xcL_171[i]?) xcM_171 (some [([], 12), ([], 0), ([], 0), ([], 0)]) 100000 0 90 true xcT_171_15 (xcTp_171 15)) = true := by decide +kernel
theorem xk_171_16 : xEnds 2 12 52 xcM_171 xcO_171 (xRunF rvMth 2 316 171 12 rvTab rvInf rvRet xCons xOpt xHpt xHnt xcC_171 (fun i => xcL_171[i]?) xcM_171 (some [([], 13), ([], 0), ([], 0), ([], 0)]) 100000 0 90 true xcT_171_16 (xcTp_171 16)) = true := by decide +kernel
theorem xk_171_17 : xEnds 2 12 52 xcM_171 xcO_171 (xRunF rvMth 2 316 171 12 rvTab rvInf rvRet xCons xOpt xHpt xHnt xcC_171 (fun i => xcL_171[i]?) xcM_171 (some [([], 14), ([], 0), ([], 0), ([], 0)]) 100000 0 90 true xcT_171_17 (xcTp_171 17)) = true := by decide +kernel
theorem xk_171_18 : xEnds 2 12 52 xcM_171 xcO_171 (xRunF rvMth 2 316 171 12 rvTab rvInf rvRet xCons xOpt xHpt xHnt xcC_171 (fun i => xcL_171[i]?) xcM_171 (some [([], 15), ([], 0), ([], 0), ([], 0)]) 100000 0 90 true xcT_171_18 (xcTp_171 18)) = true := by decide +kernel
theorem xk_171_19 : xEnds 2 12 52 xcM_171 xcO_171 (xRunF rvMth 2 316 171 12 rvTab rvInf rvRet xCons xOpt xHpt xHnt xcC_171 (fun i => xcL_171[i]?) xcM_171 (some [([], 16), ([], 0), ([], 0), ([], 0)]) 100000 0 90 true xcT_171_19 (xcTp_171 19)) = true := by decide +kernel
theorem xk_171_20 : xEnds 2 12 52 xcM_171 xcO_171 (xRunF rvMth 2 316 171 12 rvTab rvInf rvRet xCons xOpt xHpt xHnt xcC_171 (fun i => xcL_171[i]?) xcM_171 (some [([], 18), ([(12, (-1))], 40), ([], 0), ([], 0)]) 100000 0 90 true xcT_171_20 (xcTp_171 20)) = true := by decide +kernel
theorem xk_171_21 : xEnds 2 12 52 xcM_171 xcO_171 (xRunF rvMth 2 316 171 12 rvTab rvInf rvRet xCons xOpt xHpt xHnt xcC_171 (fun i => xcL_171[i]?) xcM_171 (some [([], 17), ([], 0), ([], 0), ([], 0)]) 100000 0 90 true xcT_171_21 (xcTp_171 21)) = true := by decide +kernel
def xcL_172 : List xCu := []
def xcC_172 : Nat → Bool := fun pc => [].any (Nat.beq pc)
def xcW_172 : List Nat := []
def xcTs_172 : List Nat := xDig 10 1029966159909104876587438833664
def xcTp_172 : Nat → List Nat := fun n => []
theorem xk_172_s : xEnds 2 4 52 xcM_172 xcO_172 (xRunF rvMth 2 316 172 4 rvTab rvInf rvRet xCons xOpt xHpt xHnt xcC_172 (fun i => xcL_172[i]?) xcM_172 none 100000 0 12 false (xBeg (rvInf 12).1 xcP_172 xcM_172) xcTs_172) = true := by decide +kernel
def xcL_173 : List xCu := []
def xcC_173 : Nat → Bool := fun pc => [].any (Nat.beq pc)
def xcW_173 : List Nat := []
def xcTs_173 : List Nat := xDig 26 6465202458683322298821478774422487183937774477225437802035272638885066999326927633776640
def xcTp_173 : Nat → List Nat := fun n => []
theorem xk_173_s : xEnds 2 5 57 xcM_173 xcO_173 (xRunF rvMth 2 316 173 5 rvTab rvInf rvRet xCons xOpt xHpt xHnt xcC_173 (fun i => xcL_173[i]?) xcM_173 none 100000 0 91 false (xBeg (rvInf 91).1 xcP_173 xcM_173) xcTs_173) = true := by decide +kernel
def xcT_174_0 : xS := (3, [.inr (20, 6), .inr (1, 0), .inr (9, 0), .inl (0, 1, 0), .inl (1, 1, 0)], [], [xe60, xe61, xe62, xe63, xe64, xe65, xe66, xe67, xe68, xe69, xe70, xe71, xe72, xe73, xe74, xe75, xe76, xe77, xe78, xe79, xe80, xe81, xe82, xe83, xe84, xe85, xe86, xe87, xe88, xe89, xe90, xe91, xe92, xe93, xe94, xe95, xe96, xe97, xe98, xe99, xe100, xe101, xe102, xe103, xe104, xe105, xe106, xe107, xe108, xe109, xe110, xe111], [(0, [], []), (2, [], [])], ([(1, 1), (0, 3)], []), 0, 0)
def xcL_174 : List xCu := [(xcT_174_0, [(6, [0], 0), (0, [4], 0)], [([], 0), ([(1, (-1))], 3)])]
def xcC_174 : Nat → Bool := fun pc => [3].any (Nat.beq pc)
def xcW_174 : List Nat := [1, 4]
def xcTs_174 : List Nat := xDig 2 1
def xcTp_174 : Nat → List Nat := fun n => (bif Nat.beq n 0 then (xDig 2 1) else [])
theorem xk_174_s : xEnds 2 1 52 xcM_174 xcO_174 (xRunF rvMth 2 316 174 1 rvTab rvInf rvRet xCons xOpt xHpt xHnt xcC_174 (fun i => xcL_174[i]?) xcM_174 none 100000 0 7 false (xBeg (rvInf 7).1 xcP_174 xcM_174) xcTs_174) = true := by decide +kernel
theorem xk_174_0 : xEnds 2 1 52 xcM_174 xcO_174 (xRunF rvMth 2 316 174 1 rvTab rvInf rvRet xCons xOpt xHpt xHnt xcC_174 (fun i => xcL_174[i]?) xcM_174 (some [([], 0), ([(1, (-1))], 3)]) 100000 0 7 true xcT_174_0 (xcTp_174 0)) = true := by decide +kernel
def xcL_175 : List xCu := []
def xcC_175 : Nat → Bool := fun pc => [].any (Nat.beq pc)
def xcW_175 : List Nat := []
def xcTs_175 : List Nat := xDig 7 14987980453242925056
def xcTp_175 : Nat → List Nat := fun n => []
theorem xk_175_s : xEnds 2 2 52 xcM_175 xcO_175 (xRunF rvMth 2 316 175 2 rvTab rvInf rvRet xCons xOpt xHpt xHnt xcC_175 (fun i => xcL_175[i]?) xcM_175 none 100000 0 11 false (xBeg (rvInf 11).1 xcP_175 xcM_175) xcTs_175) = true := by decide +kernel
def xcL_176 : List xCu := []
def xcC_176 : Nat → Bool := fun pc => [].any (Nat.beq pc)
def xcW_176 : List Nat := []
def xcTs_176 : List Nat := xDig 3 712704
def xcTp_176 : Nat → List Nat := fun n => []
theorem xk_176_s : xEnds 2 5 57 xcM_176 xcO_176 (xRunF rvMth 2 316 176 5 rvTab rvInf rvRet xCons xOpt xHpt xHnt xcC_176 (fun i => xcL_176[i]?) xcM_176 none 100000 0 92 false (xBeg (rvInf 92).1 xcP_176 xcM_176) xcTs_176) = true := by decide +kernel
def xcL_177 : List xCu := []
def xcC_177 : Nat → Bool := fun pc => [].any (Nat.beq pc)
def xcW_177 : List Nat := []
def xcTs_177 : List Nat := xDig 3 724992
def xcTp_177 : Nat → List Nat := fun n => []
theorem xk_177_s : xEnds 2 5 57 xcM_177 xcO_177 (xRunF rvMth 2 316 177 5 rvTab rvInf rvRet xCons xOpt xHpt xHnt xcC_177 (fun i => xcL_177[i]?) xcM_177 none 100000 0 93 false (xBeg (rvInf 93).1 xcP_177 xcM_177) xcTs_177) = true := by decide +kernel
def xcL_178 : List xCu := []
def xcC_178 : Nat → Bool := fun pc => [].any (Nat.beq pc)
def xcW_178 : List Nat := []
def xcTs_178 : List Nat := xDig 248 777977799081790100750413686740223542330351121003544078684336188526968533242299312010889885261872379573705536560073447668931426411703599390112207908312102417351303293650837232429752763720241645901593206113615758366727198323426172257192393934342611697269756589474266984664915583570298469467574169999838617958714580463793141242117629498961197758455369279919863349931160113124546847505847551246500796960682269572304461817466527432823681497889592319180408059559883370980352092273303520822043944819005547664924952564406084211125275031122138027786612649146188732324813749470861599352224172173294096217958925518808873010868226292977283473988327570932184732257094076742101994080095166296598708422591785191666080626143600510184721644812629297724876626152090645444055285948911224927985616894780246629322211039239906448076226549312039835032761149404881489123482780299500418739029271735281845831374733312
def xcTp_178 : Nat → List Nat := fun n => []
