theorem xk_171_10 : xEnds 2 12 52 xcM_171 xcO_171 (xRunF rvMth 2 316 171 12 rvTab rvInf rvRet xCons xOpt xHpt xHnt xcC_171 (fun i => xcL_171[i]?) xcM_171 (some [([], 18), ([(12, (-1))], 40), ([], 2), ([], 0)]) 100000 0 90 true xcT_171_10 (xcTp_171 10)) = true := by decide +kernel
theorem xk_171_11 : xEnds 2 12 52 xcM_171 xcO_171 (xRunF rvMth 2 316 171 12 rvTab rvInf rvRet xCons xOpt xHpt xHnt xcC_171 (fun i => xcL_171[i]?) xcM_171 (some [([], 9), ([], 0), ([], 0), ([], 0)]) 100000 0 90 true xcT_171_11 (xcTp_171 11)) = true := by decide +kernel
theorem xk_171_12 : xEnds 2 12 52 xcM_171 xcO_171 (xRunF rvMth 2 316 171 12 rvTab rvInf rvRet xCons xOpt xHpt xHnt xcC_171 (fun i => xcL_171[i]?) xcM_171 (some [([], 10), ([], 0), ([], 0), ([], 0)]) 100000 0 90 true xcT_171_12 (xcTp_171 12)) = true := by decide +kernel
theorem xk_171_13 : xEnds 2 12 52 xcM_171 xcO_171 (xRunF rvMth 2 316 171 12 rvTab rvInf rvRet xCons xOpt xHpt xHnt xcC_171 (fun i => xcL_171[i]?) xcM_171 (some [([], 18), ([(12, (-1))], 40), ([], 1), ([], 0)]) 100000 0 90 true xcT_171_13 (xcTp_171 13)) = true := by decide +kernel
theorem xk_171_14 : xEnds 2 12 52 xcM_171 xcO_171 (xRunF rvMth 2 316 171 12 rvTab rvInf rvRet xCons xOpt xHpt xHnt xcC_171 (fun i => xcL_171[i]?) xcM_171 (some [([], 11), ([], 0), ([], 0), ([], 0)]) 100000 0 90 true xcT_171_14 (xcTp_171 14)) = true := by decide +kernel
theorem xk_171_15 : xEnds 2 12 52 xcM_171 xcO_171 (xRunF rvMth 2 316 171 12 rvTab rvInf rvRet xCons xOpt xHpt xHnt xcC_171 (fun i => xcL_171[i]?) xcM_171 (some [([], 12), ([], 0), ([], 0), ([], 0)]) 100000 0 90 true xcT_171_15 (xcTp_171 15)) = true := by decide +kernel
theorem xk_171_16 : xEnds 2 12 52 xcM_171 xcO_171 (xRunF rvMth 2 316 171 12 rvTab rvInf rvRet xCons xOpt xHpt xHnt xcC_171 (fun i => xcL_171[i]?) xcM_171 (some [([], 13), ([], 0), ([], 0), ([], 0)]) 100000 0 90 true xcT_171_16 (xcTp_171 16)) = true := by decide +kernel
theorem xk_171_17 : xEnds 2 12 52 xcM_171 xcO_171 (xRunF rvMth 2 316 171 12 rvTab rvInf rvRet xCons xOpt xHpt xHnt xcC_171 (fun i => xcL_171[i]?) xcM_171 (some [([], 14), ([], 0), ([], 0), ([], 0)]) 100000 0 90 true xcT_171_17 (xcTp_171 17)) = true := by decide +kernel
theorem xk_171_18 : xEnds 2 12 52 xcM_171 xcO_171 (xRunF rvMth 2 316 171 12 rvTab rvInf rvRet xCons xOpt xHpt xHnt xcC_171 (fun i => xcL_171[i]?) xcM_171 (some [([], 15), ([], 0), ([], 0), ([], 0)]) 100000 0 90 true xcT_171_18 (xcTp_171 18)) = true := by decide +kernel
theorem xk_171_19 : xEnds 2 12 52 xcM_171 xcO_171 (xRunF rvMth 2 316 171 12 rvTab rvInf rvRet xCons xOpt xHpt xHnt xcC_171 (fun i => xcL_171[i]?) xcM_171 (some [([], 16), ([], 0), ([], 0), ([], 0)]) 100000 0 90 true xcT_171_19 (xcTp_171 19)) = true := by decide +kernel
theorem xk_171_20 : xEnds 2 12 52 xcM_171 xcO_171 (xRunF rvMth 2 316 171 12 rvTab rvInf rvRet xCons xOpt xHpt xHnt xcC_171 (fun i => xcL_171[i]?) xcM_171 (some [([], 18), ([(12, (-1))], 40), ([], 0), ([], 0)]) 100000 0 90 true xcT_171_20 (xcTp_171 20)) = true := by decide +kernel
theorem xk_171_21 : xEnds 2 12 52 xcM_171 xcO_171 (xRunF rvMth 2 316 171 12 rvTab rvInf rvRet xCons xOpt xHpt xHnt xcC_171 (fun i => xcL_171[i]?) xcM_171 (some [([], 17), ([], 0), ([], 0), ([], 0)]) 100000 0 90 true xcT_171_21 (xcTp_171 21)) = true := by decide +kernel
def xcL_172 : List xCu := []
def xcC_172 : Nat → Bool := fun pc => [].any (Nat.beq pc)
def xcW_172 : List Nat := []
def xcTs_172 : List Nat := xDig 10 1029966159909104876587438833664
def xcTp_172 : Nat → List Nat := fun n => []
theorem xk_172_s : xEnds 2 4 52 xcM_172 xcO_172 (xRunF rvMth 2 316 172 4 rvTab rvInf rvRet xCons xOpt xHpt xHnt xcC_172 (fun i => xcL_172[i]?) xcM_172 none 100000 0 12 false (xBeg (rvInf 12).1 xcP_172 xcM_172) xcTs_172) = true := by decide +kernel
def xcL_173 : List xCu := []
def xcC_173 : Nat → Bool := fun pc => [].any (Nat.beq pc)
def xcW_173 : List Nat := []
def xcTs_173 : List Nat := xDig 26 6465202458683322298821478774422487183937774477225437802035272638885066999326927633776640
def xcTp_173 : Nat → List Nat := fun n => []
theorem xk_173_s : xEnds 2 5 57 xcM_173 xcO_173 (xRunF rvMth 2 316 173 5 rvTab rvInf rvRet xCons xOpt xHpt xHnt xcC_173 (fun i => xcL_173[i]?) xcM_173 none 100000 0 91 false (xBeg (rvInf 91).1 xcP_173 xcM_173) xcTs_173) = true := by decide +kernel
def xcT_174_0 : xS := (3, [.inr (20, 6), .inr (1, 0), .inr (9, 0), .inl (0, 1, 0), .inl (1, 1, 0)], [], [xe60, xe61, xe62, xe63, xe64, xe65, xe66, xe67, xe68, xe69, xe70, xe71, xe72, xe73, xe74, xe75, xe76, xe77, xe78, xe79, xe80, xe81, xe82, xe83, xe84, xe85, xe86, xe87, xe88, xe89, xe90, xe91, xe92, xe93, xe94, xe95, xe96, xe97, xe98, xe99, xe100, xe101, xe102, xe103, xe104, xe105, xe106, xe107, xe108, xe109, xe110, xe111], [(0, [], []), (2, [], [])], ([(1, 1), (0, 3)], []), 0, 0)
def xcL_174 : List xCu := [(xcT_174_0, [(6, [0], 0), (0, [4], 0)], [([], 0), ([(1, (-1))], 3)])]
def xcC_174 : Nat → Bool := fun pc => [3].any (Nat.beq pc)
def xcW_174 : List Nat := [1, 4]
def xcTs_174 : List Nat := xDig 2 1
def xcTp_174 : Nat → List Nat := fun n => (bif Nat.beq n 0 then (xDig 2 1) else [])
theorem xk_174_s : xEnds 2 1 52 xcM_174 xcO_174 (xRunF rvMth 2 316 174 1 rvTab rvInf rvRet xCons xOpt xHpt xHnt xcC_174 (fun i => xcL_174[i]?) xcM_174 none 100000 0 7 false (xBeg (rvInf 7).1 xcP_174 xcM_174) xcTs_174) = true := by decide +kernel
theorem xk_174_0 : xEnds 2 1 52 xcM_174 xcO_174 (xRunF rvMth 2 316 174 1 rvTab rvInf rvRet xCons xOpt xHpt xHnt xcC_174 (fun i => xcL_174[i]?) xcM_174 (some [([], 0), ([(1, (-1))], 3)]) 100000 0 7 true xcT_174_0 (xcTp_174 0)) = true := by decide +kernel
def xcL_175 : List xCu := []
def xcC_175 : Nat → Bool := fun pc => [].any (Nat.beq pc)
def xcW_175 : List Nat := []
def xcTs_175 : List Nat := xDig 7 14987980453242925056
def xcTp_175 : Nat → List Nat := fun n => []
theorem xk_175_s : xEnds 2 2 52 xcM_175 xcO_175 (xRunF rvMth 2 316 175 2 rvTab rvInf rvRet xCons xOpt xHpt xHnt xcC_175 (fun i => xcL_175[i]?) xcM_175 none 100000 0 11 false (xBeg (rvInf 11).1 xcP_175 xcM_175) xcTs_175) = true := by decide +kernel
def xcL_176 : List xCu := []
def xcC_176 : Nat → Bool := fun pc => [].any (Nat.beq pc)
def xcW_176 : List Nat := []
def xcTs_176 : List Nat := xDig 3 712704
def xcTp_176 : Nat → List Nat := fun n => []
theorem xk_176_s : xEnds 2 5 57 xcM_176 xcO_176 (xRunF rvMth 2 316 176 5 rvTab rvInf rvRet xCons xOpt xHpt xHnt xcC_176 (fun i => xcL_176[i]?) xcM_176 none 100000 0 92 false (xBeg (rvInf 92).1 xcP_176 xcM_176) xcTs_176) = true := by decide +kernel
def xcL_177 : List xCu := []
def xcC_177 : Nat → Bool := fun pc => [].any (Nat.beq pc)
def xcW_177 : List Nat := []
def xcTs_177 : List Nat := xDig 3 724992
def xcTp_177 : Nat → List Nat := fun n => []
theorem xk_177_s : xEnds 2 5 57 xcM_177 xcO_177 (xRunF rvMth 2 316 177 5 rvTab rvInf rvRet xCons xOpt xHpt xHnt xcC_177 (fun i => xcL_177[i]?) xcM_177 none 100000 0 93 false (xBeg (rvInf 93).1 xcP_177 xcM_177) xcTs_177) = true := by decide +kernel
def xcL_178 : List xCu := []
def xcC_178 : Nat → Bool := fun pc => [].any (Nat.beq pc)
def xcW_178 : List Nat := []
def xcTs_178 : List Nat := xDig 248 777977799081790100750413686740223542330351121003544078684336188526968533242299312010889885261872379573705536560073447668931426411703599390112207908312102417351303293650837232429752763720241645901593206113615758366727198323426172257192393934342611697269756589474266984664915583570298469467574169999838617958714580463793141242117629498961197758455369279919863349931160113124546847505847551246500796960682269572304461817466527432823681497889592319180408059559883370980352092273303520822043944819005547664924952564406084211125275031122138027786612649146188732324813749470861599352224172173294096217958925518808873010868226292977283473988327570932184732257094076742101994080095166296598708422591785191666080626143600510184721644812629297724876626152090645444055285948911224927985616894780246629322211039239906448076226549312039835032761149404881489123482780299500418739029271735281845831374733312
def xcTp_178 : Nat → List Nat := fun n => []
theorem xk_178_s : xEnds 2 5 57 xcM_178 xcO_178 (xRunF rvMth 2 316 178 5 rvTab rvInf rvRet xCons xOpt xHpt xHnt xcC_178 (fun i => xcL_178[i]?) xcM_178 none 100000 0 94 false (xBeg (rvInf 94).1 xcP_178 xcM_178) xcTs_178) = true := by decide +kernel
def xcL_179 : List xCu := []
def xcC_179 : Nat → Bool := fun pc => [].any (Nat.beq pc)
def xcW_179 : List Nat := []
def xcTs_179 : List Nat := xDig 36 8593728106499342870558524616596994946938137701611528606438252009762067661759864935752368263589353659712555204025671305134080
def xcTp_179 : Nat → List Nat := fun n => []
theorem xk_179_s : xEnds 2 5 57 xcM_179 xcO_179 (xRunF rvMth 2 316 179 5 rvTab rvInf rvRet xCons xOpt xHpt xHnt xcC_179 (fun i => xcL_179[i]?) xcM_179 none 100000 0 91 false (xBeg (rvInf 91).1 xcP_179 xcM_179) xcTs_179) = true := by decide +kernel
def xcL_180 : List xCu := []
def xcC_180 : Nat → Bool := fun pc => [].any (Nat.beq pc)
def xcW_180 : List Nat := []
def xcTs_180 : List Nat := xDig 3 737280
def xcTp_180 : Nat → List Nat := fun n => []
theorem xk_180_s : xEnds 2 5 57 xcM_180 xcO_180 (xRunF rvMth 2 316 180 5 rvTab rvInf rvRet xCons xOpt xHpt xHnt xcC_180 (fun i => xcL_180[i]?) xcM_180 none 100000 0 92 false (xBeg (rvInf 92).1 xcP_180 xcM_180) xcTs_180) = true := by decide +kernel
def xcL_181 : List xCu := []
def xcC_181 : Nat → Bool := fun pc => [].any (Nat.beq pc)
def xcW_181 : List Nat := []
def xcTs_181 : List Nat := xDig 3 741376
def xcTp_181 : Nat → List Nat := fun n => []
theorem xk_181_s : xEnds 2 5 57 xcM_181 xcO_181 (xRunF rvMth 2 316 181 5 rvTab rvInf rvRet xCons xOpt xHpt xHnt xcC_181 (fun i => xcL_181[i]?) xcM_181 none 100000 0 93 false (xBeg (rvInf 93).1 xcP_181 xcM_181) xcTs_181) = true := by decide +kernel
def xcT_182_0 : xS := (128, [.inr (2, 14), .inl (0, 1, 0), .inl (0, 0, 0), .inl (5, 1, 0), .inr (9, 0)], [], [xe60, xe61, xe62, xe63, (64, [((0, 0, 9), .inl (6, 1, 0)), ((0, 0, 7), .inl (3, 1, 0))]), xe65, xe66, xe67, xe68, xe69, xe70, xe71, xe72, xe73, (74, [((0, 0, 3), .inl (1, 1, 1)), ((0, 0, 2), .inr (2, 52)), ((0, 0, 1), .inr (20, 6))]), xe75, xe76, xe77, xe78, xe79, xe80, xe81, xe82, xe83, xe84, xe85, xe86, xe87, xe88, xe89, xe90, xe91, xe92, xe93, xe94, xe95, xe96, xe97, xe98, xe99, xe100, xe101, xe102, xe103, xe104, xe105, xe106, xe107, xe108, xe109, xe110, xe111, (41, [((0, 0, 0), .inr (2, 53)), ((0, 0, 1), .inr (2, 54)), ((0, 0, 2), .inr (2, 55)), ((0, 0, 3), .inr (2, 56)), ((0, 0, 4), .inl (4, 1, 0))]), xe42, xe43, xe44, xe45], [(0, [14, 4, 4, 15, 1, 39, 16, 1, 39, 17, 1, 39, 41, 4, 4, 42, 1, 39, 43, 1, 39, 44, 1, 39, 64, 9, 9, 64, 10, 10, 64, 11, 11, 64, 12, 12, 64, 13, 13, 64, 14, 14, 74, 3, 3], []), (4, [0], [(3, 1, 0)]), (4, [1], [(0, 0, 1)]), (2, [], []), (4, [0], [(3, 1, 0)]), (4, [6], [(4, 1, 0)])], ([(8, 8), (8, 19), (0, 940), (1, 941), (1, 40), (18, 18), (0, 940)], [([(6, 1), (2, (-1))], 0), ([(6, (-1)), (2, 1)], 1)]), 0, 0)
def xcT_182_1 : xS := (22, [.inr (2, 14), .inl (0, 1, 0), .inl (0, 0, 0), .inl (6, 1, 0), .inr (9, 0)], [], [xe60, xe61, xe62, xe63, (64, [((0, 0, 11), .inl (6, 1, 0)), ((0, 0, 10), .inl (5, 1, 0)), ((0, 0, 9), .inl (2, 1, 0)), ((0, 0, 7), .inl (3, 1, 0))]), xe65, xe66, xe67, xe68, xe69, xe70, xe71, xe72, xe73, (74, [((0, 0, 3), .inl (1, 1, 0)), ((0, 0, 2), .inr (2, 52)), ((0, 0, 1), .inr (20, 6))]), xe75, xe76, xe77, xe78, xe79, xe80, xe81, xe82, xe83, xe84, xe85, xe86, xe87, xe88, xe89, xe90, xe91, xe92, xe93, xe94, xe95, xe96, xe97, xe98, xe99, xe100, xe101, xe102, xe103, xe104, xe105, xe106, xe107, xe108, xe109, xe110, xe111, (41, [((0, 0, 0), .inr (2, 53)), ((0, 0, 1), .inr (2, 54)), ((0, 0, 2), .inr (2, 55)), ((0, 0, 3), .inr (2, 56)), ((0, 0, 4), .inl (4, 1, 0))]), xe42, xe43, xe44, xe45], [(0, [14, 4, 4, 15, 1, 39, 16, 1, 39, 17, 1, 39, 41, 4, 4, 42, 1, 39, 43, 1, 39, 44, 1, 39, 64, 9, 9, 64, 10, 10, 64, 11, 11, 64, 12, 12, 64, 13, 13, 64, 14, 14, 74, 3, 3], []), (4, [0], [(3, 1, 0)]), (4, [6], [(4, 1, 0)]), (4, [1], [(0, 0, 1)]), (2, [], [])], ([(8, 8), (8, 20), (0, 940), (1, 941), (1, 40), (2, 2), ((-2147483648), 2147483647)], []), 0, 0)
def xcT_182_2 : xS := (49, [.inr (2, 14), .inl (0, 1, 0), .inl (0, 0, 1), .inl (6, 1, 0), .inr (9, 0)], [], [xe60, xe61, xe62, xe63, (64, [((0, 0, 11), .inl (6, 1, 0)), ((0, 0, 10), .inl (5, 1, 0)), ((0, 0, 9), .inl (2, 1, 0)), ((0, 0, 7), .inl (3, 1, 0))]), xe65, xe66, xe67, xe68, xe69, xe70, xe71, xe72, xe73, (74, [((0, 0, 3), .inl (1, 1, 0)), ((0, 0, 2), .inr (2, 52)), ((0, 0, 1), .inr (20, 6))]), xe75, xe76, xe77, xe78, xe79, xe80, xe81, xe82, xe83, xe84, xe85, xe86, xe87, xe88, xe89, xe90, xe91, xe92, xe93, xe94, xe95, xe96, xe97, xe98, xe99, xe100, xe101, xe102, xe103, xe104, xe105, xe106, xe107, xe108, xe109, xe110, xe111, (41, [((0, 0, 0), .inr (2, 53)), ((0, 0, 1), .inr (2, 54)), ((0, 0, 2), .inr (2, 55)), ((0, 0, 3), .inr (2, 56)), ((0, 0, 4), .inl (4, 1, 0))]), xe42, xe43, xe44, xe45], [(0, [14, 4, 4, 15, 1, 39, 16, 1, 39, 17, 1, 39, 41, 4, 4, 42, 1, 39, 43, 1, 39, 44, 1, 39, 64, 9, 9, 64, 10, 10, 64, 11, 11, 64, 12, 12, 64, 13, 13, 64, 14, 14, 74, 3, 3], []), (4, [0], [(3, 1, 0)]), (4, [6], [(4, 1, 0)]), (4, [1], [(0, 0, 1)]), (2, [], [])], ([(8, 8), (8, 20), (0, 940), (1, 941), (1, 40), (2, 2), (40, 40)], []), 0, 0)
def xcL_182 : List xCu := [(xcT_182_0, [(6, [0], 0), (6, [1], 0), (6, [2], 0), (6, [3], 0), (6, [4], 0), (0, [3], 0), (2, [4, 9], 0)], [([], 0), ([], 0)]), (xcT_182_1, [(6, [0], 0), (6, [1], 0), (6, [2], 0), (6, [3], 0), (6, [4], 0), (2, [4, 10], 0), (0, [3], 0)], [([], 1), ([], 0)]), (xcT_182_2, [(6, [0], 0), (6, [1], 0), (6, [2], 0), (6, [3], 0), (6, [4], 0), (2, [4, 10], 0), (0, [3], 0)], [([], 2), ([], 0)])]
def xcC_182 : Nat → Bool := fun pc => [22, 33, 40, 49, 58, 64, 73, 94, 104, 116, 120, 121, 122, 128, 151].any (Nat.beq pc)
def xcW_182 : List Nat := [3, 1]
def xcTs_182 : List Nat := xDig 327 31201468397911333334071602776858350762625249697319884405259217647060538684672780901555688531669175507945048155279867556057658559351271550752945879375894003363033462116508195683863656690526978394772478126670423751986614082291395758943512328048779298302469688234555678144132438584092392453729230296362759854850416984086781843638576907703807134262084016928407077867443960519826520437078154098526934199573371244115063171815299815003074954570006610082674861162817594899253065391830282186786914736574400711585461814154813160495851935240094938922771592476935873649236161967694922766918262884402704013538447348062705492509645781545416419813174789416879695673427124680253230911955056345682205634845578920149367664445061501975031824926460651494372728899220298044461949665426688529402074029680938634813765616676133344252697970777172530481849376464706925230684202585614345813145591094673793809821768046294223960485657632966301110780651307684058855098930397616754481731058028205538257190738401930990533265922527187944293829830425494007207506535791139788085194224036977634882885887523236931414918997680081834855931458546879064312849332105697492205320943137812536214367476643418619290583040
def xcTp_182 : Nat → List Nat := fun n => (bif Nat.ble 1 n then (bif Nat.ble 2 n then (bif Nat.beq n 2 then (xDig 13 59062376765880887939363092415119360) else []) else (bif Nat.beq n 1 then (xDig 4 218103808) else [])) else (bif Nat.beq n 0 then (xDig 6 15481123719823360) else []))
