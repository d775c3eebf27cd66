def xcL_165 : List xCu := []
def xcC_165 : Nat → Bool := fun pc => [].any (Nat.beq pc)
def xcW_165 : List Nat := []
theorem xk_165_s : xEnds 2 4 52 xcM_165 xcO_165 (xRun rvMth 2 229 165 4 rvTab rvInf rvRet xCons xOpt xHpt xHnt xcC_165 (fun i => xcL_165[i]?) xcM_165 none 100000 0 13 false (xBeg (rvInf 13).1 xcP_165 xcM_165) (xDig 10 1346878828855629284340169441280)) = true := by decide +kernel
def xcL_166 : List xCu := []
def xcC_166 : Nat → Bool := fun pc => [].any (Nat.beq pc)
def xcW_166 : List Nat := []
theorem xk_166_s : xEnds 2 5 57 xcM_166 xcO_166 (xRun rvMth 2 229 166 5 rvTab rvInf rvRet xCons xOpt xHpt xHnt xcC_166 (fun i => xcL_166[i]?) xcM_166 none 100000 0 88 false (xBeg (rvInf 88).1 xcP_166 xcM_166) (xDig 26 8454495522893575313843472243475560163610935854833264818046125758542010691427520751861760)) = true := by decide +kernel
def xcT_167_0 : xS := (3, [.inr (20, 6), .inr (1, 0), .inr (9, 0), .inl (0, 1, 0), .inl (1, 1, 0)], [], [xe60, xe61, xe62, xe63, xe64, xe65, xe66, xe67, xe68, xe69, xe70, xe71, xe72, xe73, xe74, xe75, xe76, xe77, xe78, xe79, xe80, xe81, xe82, xe83, xe84, xe85, xe86, xe87, xe88, xe89, xe90, xe91, xe92, xe93, xe94, xe95, xe96, xe97, xe98, xe99, xe100, xe101, xe102, xe103, xe104, xe105, xe106, xe107, xe108, xe109, xe110, xe111], [(0, [], []), (2, [], [])], ([(1, 1), (0, 3)], []), 0, 0)
def xcL_167 : List xCu := [(xcT_167_0, [(6, [0], 0), (0, [4], 0)], [([], 0), ([(1, (-1))], 3)])]
def xcC_167 : Nat → Bool := fun pc => [3].any (Nat.beq pc)
def xcW_167 : List Nat := [1, 4]
theorem xk_167_s : xEnds 2 1 52 xcM_167 xcO_167 (xRun rvMth 2 229 167 1 rvTab rvInf rvRet xCons xOpt xHpt xHnt xcC_167 (fun i => xcL_167[i]?) xcM_167 none 100000 0 8 false (xBeg (rvInf 8).1 xcP_167 xcM_167) (xDig 2 0)) = true := by decide +kernel
theorem xk_167_0 : xEnds 2 1 52 xcM_167 xcO_167 (xRun rvMth 2 229 167 1 rvTab rvInf rvRet xCons xOpt xHpt xHnt xcC_167 (fun i => xcL_167[i]?) xcM_167 (some [([], 0), ([(1, (-1))], 3)]) 100000 0 8 true xcT_167_0 (xDig 2 0)) = true := by decide +kernel
def xcL_168 : List xCu := []
def xcC_168 : Nat → Bool := fun pc => [].any (Nat.beq pc)
def xcW_168 : List Nat := []
theorem xk_168_s : xEnds 2 2 52 xcM_168 xcO_168 (xRun rvMth 2 229 168 2 rvTab rvInf rvRet xCons xOpt xHpt xHnt xcC_168 (fun i => xcL_168[i]?) xcM_168 none 100000 0 12 false (xBeg (rvInf 12).1 xcP_168 xcM_168) (xDig 7 19599666746548191232)) = true := by decide +kernel
def xcL_169 : List xCu := []
def xcC_169 : Nat → Bool := fun pc => [].any (Nat.beq pc)
def xcW_169 : List Nat := []
theorem xk_169_s : xEnds 2 5 57 xcM_169 xcO_169 (xRun rvMth 2 229 169 5 rvTab rvInf rvRet xCons xOpt xHpt xHnt xcC_169 (fun i => xcL_169[i]?) xcM_169 none 100000 0 89 false (xBeg (rvInf 89).1 xcP_169 xcM_169) (xDig 3 684032)) = true := by decide +kernel
def xcL_170 : List xCu := []
def xcC_170 : Nat → Bool := fun pc => [].any (Nat.beq pc)
def xcW_170 : List Nat := []
theorem xk_170_s : xEnds 2 5 57 xcM_170 xcO_170 (xRun rvMth 2 229 170 5 rvTab rvInf rvRet xCons xOpt xHpt xHnt xcC_170 (fun i => xcL_170[i]?) xcM_170 none 100000 0 90 false (xBeg (rvInf 90).1 xcP_170 xcM_170) (xDig 3 696320)) = true := by decide +kernel
def xcL_171 : List xCu := []
def xcC_171 : Nat → Bool := fun pc => [].any (Nat.beq pc)
def xcW_171 : List Nat := []
theorem xk_171_s : xEnds 2 5 57 xcM_171 xcO_171 (xRun rvMth 2 229 171 5 rvTab rvInf rvRet xCons xOpt xHpt xHnt xcC_171 (fun i => xcL_171[i]?) xcM_171 none 100000 0 91 false (xBeg (rvInf 91).1 xcP_171 xcM_171) (xDig 248 747383167678125294916897430772849018233398772359775952818222210151537566066178048953655860850319818772332424224379403567920259036610040357062072001293278886886467587959026771998831937990013827187518281273791902080961494977293853014973163575621885097698040537372295270860622599611563448619122396072161961274456478461643009747049002359780879293887368207114069172375029027800756989775903103793434304875300598797331925120279712673966861816730628447692683159736798883075089510996607886509272062088359455827191714370972313490327976021921076285189762291069419960036220812925351922602245294098120906760902984615254607496784433448252633999629474892156258116323361400400955291072643631196328727235184907117697634932876334546687056215454795158403343495065174793683651207369721811268984817471738878179114728031643935634808115450728622820765462216507316167642582884219541915937438020604518831054510882816)) = true := by decide +kernel
def xcL_172 : List xCu := []
def xcC_172 : Nat → Bool := fun pc => [].any (Nat.beq pc)
def xcW_172 : List Nat := []
theorem xk_172_s : xEnds 2 5 57 xcM_172 xcO_172 (xRun rvMth 2 229 172 5 rvTab rvInf rvRet xCons xOpt xHpt xHnt xcC_172 (fun i => xcL_172[i]?) xcM_172 none 100000 0 88 false (xBeg (rvInf 88).1 xcP_172 xcM_172) (xDig 36 11237952139268371446114993729396070315226795455953537408419252628150396173070592608291558498539924016547187574495108629790720)) = true := by decide +kernel
def xcL_173 : List xCu := []
def xcC_173 : Nat → Bool := fun pc => [].any (Nat.beq pc)
def xcW_173 : List Nat := []
theorem xk_173_s : xEnds 2 5 57 xcM_173 xcO_173 (xRun rvMth 2 229 173 5 rvTab rvInf rvRet xCons xOpt xHpt xHnt xcC_173 (fun i => xcL_173[i]?) xcM_173 none 100000 0 89 false (xBeg (rvInf 89).1 xcP_173 xcM_173) (xDig 3 708608)) = true := by decide +kernel
def xcL_174 : List xCu := []
def xcC_174 : Nat → Bool := fun pc => [].any (Nat.beq pc)
def xcW_174 : List Nat := []
theorem xk_174_s : xEnds 2 5 57 xcM_174 xcO_174 (xRun rvMth 2 229 174 5 rvTab rvInf rvRet xCons xOpt xHpt xHnt xcC_174 (fun i => xcL_174[i]?) xcM_174 none 100000 0 90 false (xBeg (rvInf 90).1 xcP_174 xcM_174) (xDig 3 712704)) = true := by decide +kernel
