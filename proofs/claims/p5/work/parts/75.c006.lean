section XCC
variable {Gd : Nat → (xRes2 → Prop) → rvS → Prop} {Met : Nat → List rvV → rvH → (xRes2 → Prop) → Prop}
theorem xc_178 (hc : xClo rvTab rvInf rvRet 316 rvMth Gd Met) (hcon : ∀ x, x < 178 → xCon Met (xCons x)) : xCon Met (xCons 178) := by
  refine xCtx_ok (d := 2) (X := 178) (con := xCons) (opt := xOpt) (hp := xHpt) (hn := xHnt) (cutp := xcC_178) (L := xcL_178) hc hcon (j := 94) (na := 5) (n := 57) (fuel := 100000) (pre := xcP_178) (src := xcS_178) (os := xcO_178) (ms := xcM_178) (ws := xcW_178) (t0 := xcTs_178) (tp := xcTp_178) (by omega) rfl rfl rfl (by decide +kernel) (by decide +kernel) (by decide +kernel) (xEF xk_178_s) (fun ci Tm sr rk hL => ?_)
  match ci, hL with
  | n + 0, hL => cases hL
theorem xc_179 (hc : xClo rvTab rvInf rvRet 316 rvMth Gd Met) (hcon : ∀ x, x < 179 → xCon Met (xCons x)) : xCon Met (xCons 179) := by
  refine xCtx_ok (d := 2) (X := 179) (con := xCons) (opt := xOpt) (hp := xHpt) (hn := xHnt) (cutp := xcC_179) (L := xcL_179) hc hcon (j := 91) (na := 5) (n := 57) (fuel := 100000) (pre := xcP_179) (src := xcS_179) (os := xcO_179) (ms := xcM_179) (ws := xcW_179) (t0 := xcTs_179) (tp := xcTp_179) (by omega) rfl rfl rfl (by decide +kernel) (by decide +kernel) (by decide +kernel) (xEF xk_179_s) (fun ci Tm sr rk hL => ?_)
  match ci, hL with
  | n + 0, hL => cases hL
theorem xc_180 (hc : xClo rvTab rvInf rvRet 316 rvMth Gd Met) (hcon : ∀ x, x < 180 → xCon Met (xCons x)) : xCon Met (xCons 180) := by
  refine xCtx_ok (d := 2) (X := 180) (con := xCons) (opt := xOpt) (hp := xHpt) (hn := xHnt) (cutp := xcC_180) (L := xcL_180) hc hcon (j := 92) (na := 5) (n := 57) (fuel := 100000) (pre := xcP_180) (src := xcS_180) (os := xcO_180) (ms := xcM_180) (ws := xcW_180) (t0 := xcTs_180) (tp := xcTp_180) (by omega) rfl rfl rfl (by decide +kernel) (by decide +kernel) (by decide +kernel) (xEF xk_180_s) (fun ci Tm sr rk hL => ?_)
  match ci, hL with
  | n + 0, hL => cases hL
theorem xc_181 (hc : xClo rvTab rvInf rvRet 316 rvMth Gd Met) (hcon : ∀ x, x < 181 → xCon Met (xCons x)) : xCon Met (xCons 181) := by
  refine xCtx_ok (d := 2) (X := 181) (con := xCons) (opt := xOpt) (hp := xHpt) (hn := xHnt) (cutp := xcC_181) (L := xcL_181) hc hcon (j := 93) (na := 5) (n := 57) (fuel := 100000) (pre := xcP_181) (src := xcS_181) (os := xcO_181) (ms := xcM_181) (ws := xcW_181) (t0 := xcTs_181) (tp := xcTp_181) (by omega) rfl rfl rfl (by decide +kernel) (by decide +kernel) (by decide +kernel) (xEF xk_181_s) (fun ci Tm sr rk hL => ?_)
  match ci, hL with
  | n + 0, hL => cases hL
theorem xc_182 (hc : xClo rvTab rvInf rvRet 316 rvMth Gd Met) (hcon : ∀ x, x < 182 → xCon Met (xCons x)) : xCon Met (xCons 182) := by
  refine xCtx_ok (d := 2) (X := 182) (con := xCons) (opt := xOpt) (hp := xHpt) (hn := xHnt) (cutp := xcC_182) (L := xcL_182) hc hcon (j := 94) (na := 5) (n := 57) (fuel := 100000) (pre := xcP_182) (src := xcS_182) (os := xcO_182) (ms := xcM_182) (ws := xcW_182) (t0 := xcTs_182) (tp := xcTp_182) (by omega) rfl rfl rfl (by decide +kernel) (by decide +kernel) (by decide +kernel) (xEF xk_182_s) (fun ci Tm sr rk hL => ?_)
  match ci, hL with
  | 0, hL => cases hL; exact ⟨xEF xk_182_0, by decide +kernel, by decide +kernel, by decide +kernel⟩
  | 1, hL => cases hL; exact ⟨xEF xk_182_1, by decide +kernel, by decide +kernel, by decide +kernel⟩
  | 2, hL => cases hL; exact ⟨xEF xk_182_2, by decide +kernel, by decide +kernel, by decide +kernel⟩
  | n + 3, hL => cases hL
theorem xc_183 (hc : xClo rvTab rvInf rvRet 316 rvMth Gd Met) (hcon : ∀ x, x < 183 → xCon Met (xCons x)) : xCon Met (xCons 183) := by
  refine xCtx_ok (d := 2) (X := 183) (con := xCons) (opt := xOpt) (hp := xHpt) (hn := xHnt) (cutp := xcC_183) (L := xcL_183) hc hcon (j := 95) (na := 5) (n := 57) (fuel := 100000) (pre := xcP_183) (src := xcS_183) (os := xcO_183) (ms := xcM_183) (ws := xcW_183) (t0 := xcTs_183) (tp := xcTp_183) (by omega) rfl rfl rfl (by decide +kernel) (by decide +kernel) (by decide +kernel) (xEF xk_183_s) (fun ci Tm sr rk hL => ?_)
  match ci, hL with
  | 0, hL => cases hL; exact ⟨xEF xk_183_0, by decide +kernel, by decide +kernel, by decide +kernel⟩
  | n + 1, hL => cases hL
theorem xc_184 (hc : xClo rvTab rvInf rvRet 316 rvMth Gd Met) (hcon : ∀ x, x < 184 → xCon Met (xCons x)) : xCon Met (xCons 184) := by
  refine xCtx_ok (d := 2) (X := 184) (con := xCons) (opt := xOpt) (hp := xHpt) (hn := xHnt) (cutp := xcC_184) (L := xcL_184) hc hcon (j := 95) (na := 5) (n := 57) (fuel := 100000) (pre := xcP_184) (src := xcS_184) (os := xcO_184) (ms := xcM_184) (ws := xcW_184) (t0 := xcTs_184) (tp := xcTp_184) (by omega) rfl rfl rfl (by decide +kernel) (by decide +kernel) (by decide +kernel) (xEF xk_184_s) (fun ci Tm sr rk hL => ?_)
  match ci, hL with
  | 0, hL => cases hL; exact ⟨xEF xk_184_0, by decide +kernel, by decide +kernel, by decide +kernel⟩
  | n + 1, hL => cases hL
theorem xc_185 (hc : xClo rvTab rvInf rvRet 316 rvMth Gd Met) (hcon : ∀ x, x < 185 → xCon Met (xCons x)) : xCon Met (xCons 185) := by
  refine xCtx_ok (d := 2) (X := 185) (con := xCons) (opt := xOpt) (hp := xHpt) (hn := xHnt) (cutp := xcC_185) (L := xcL_185) hc hcon (j := 96) (na := 5) (n := 57) (fuel := 100000) (pre := xcP_185) (src := xcS_185) (os := xcO_185) (ms := xcM_185) (ws := xcW_185) (t0 := xcTs_185) (tp := xcTp_185) (by omega) rfl rfl rfl (by decide +kernel) (by decide +kernel) (by decide +kernel) (xEF xk_185_s) (fun ci Tm sr rk hL => ?_)
  match ci, hL with
  | 0, hL => cases hL; exact ⟨xEF xk_185_0, by decide +kernel, by decide +kernel, by decide +kernel⟩
  | n + 1, hL => cases hL
theorem xc_186 (hc : xClo rvTab rvInf rvRet 316 rvMth Gd Met) (hcon : ∀ x, x < 186 → xCon Met (xCons x)) : xCon Met (xCons 186) := by
  refine xCtx_ok (d := 2) (X := 186) (con := xCons) (opt := xOpt) (hp := xHpt) (hn := xHnt) (cutp := xcC_186) (L := xcL_186) hc hcon (j := 97) (na := 5) (n := 57) (fuel := 100000) (pre := xcP_186) (src := xcS_186) (os := xcO_186) (ms := xcM_186) (ws := xcW_186) (t0 := xcTs_186) (tp := xcTp_186) (by omega) rfl rfl rfl (by decide +kernel) (by decide +kernel) (by decide +kernel) (xEF xk_186_s) (fun ci Tm sr rk hL => ?_)
  match ci, hL with
  | n + 0, hL => cases hL
theorem xc_187 (hc : xClo rvTab rvInf rvRet 316 rvMth Gd Met) (hcon : ∀ x, x < 187 → xCon Met (xCons x)) : xCon Met (xCons 187) := by
  refine xCtx_ok (d := 2) (X := 187) (con := xCons) (opt := xOpt) (hp := xHpt) (hn := xHnt) (cutp := xcC_187) (L := xcL_187) hc hcon (j := 96) (na := 5) (n := 57) (fuel := 100000) (pre := xcP_187) (src := xcS_187) (os := xcO_187) (ms := xcM_187) (ws := xcW_187) (t0 := xcTs_187) (tp := xcTp_187) (by omega) rfl rfl rfl (by decide +kernel) (by decide +kernel) (by decide +kernel) (xEF xk_187_s) (fun ci Tm sr rk hL => ?_)
  match ci, hL with
  | 0, hL => cases hL; exact ⟨xEF xk_187_0, by decide +kernel, by decide +kernel, by decide +kernel⟩
  | n + 1, hL => cases hL
theorem xc_188 (hc : xClo rvTab rvInf rvRet 316 rvMth Gd Met) (hcon : ∀ x, x < 188 → xCon Met (xCons x)) : xCon Met (xCons 188) := by
  refine xCtx_ok (d := 2) (X := 188) (con := xCons) (opt := xOpt) (hp := xHpt) (hn := xHnt) (cutp := xcC_188) (L := xcL_188) hc hcon (j := 97) (na := 5) (n := 57) (fuel := 100000) (pre := xcP_188) (src := xcS_188) (os := xcO_188) (ms := xcM_188) (ws := xcW_188) (t0 := xcTs_188) (tp := xcTp_188) (by omega) rfl rfl rfl (by decide +kernel) (by decide +kernel) (by decide +kernel) (xEF xk_188_s) (fun ci Tm sr rk hL => ?_)
  match ci, hL with
  | 0, hL => cases hL; exact ⟨xEF xk_188_0, by decide +kernel, by decide +kernel, by decide +kernel⟩
  | 1, hL => cases hL; exact ⟨xEF xk_188_1, by decide +kernel, by decide +kernel, by decide +kernel⟩
  | 2, hL => cases hL; exact ⟨xEF xk_188_2, by decide +kernel, by decide +kernel, by decide +kernel⟩
  | n + 3, hL => cases hL
theorem xc_189 (hc : xClo rvTab rvInf rvRet 316 rvMth Gd Met) (hcon : ∀ x, x < 189 → xCon Met (xCons x)) : xCon Met (xCons 189) := by
  refine xCtx_ok (d := 2) (X := 189) (con := xCons) (opt := xOpt) (hp := xHpt) (hn := xHnt) (cutp := xcC_189) (L := xcL_189) hc hcon (j := 98) (na := 5) (n := 57) (fuel := 100000) (pre := xcP_189) (src := xcS_189) (os := xcO_189) (ms := xcM_189) (ws := xcW_189) (t0 := xcTs_189) (tp := xcTp_189) (by omega) rfl rfl rfl (by decide +kernel) (by decide +kernel) (by decide +kernel) (xEF xk_189_s) (fun ci Tm sr rk hL => ?_)
  match ci, hL with
  | 0, hL => cases hL; exact ⟨xEF xk_189_0, by decide +kernel, by decide +kernel, by decide +kernel⟩
  | n + 1, hL => cases hL
theorem xc_190 (hc : xClo rvTab rvInf rvRet 316 rvMth Gd Met) (hcon : ∀ x, x < 190 → xCon Met (xCons x)) : xCon Met (xCons 190) := by
  refine xCtx_ok (d := 2) (X := 190) (con := xCons) (opt := xOpt) (hp := xHpt) (hn := xHnt) (cutp := xcC_190) (L := xcL_190) hc hcon (j := 98) (na := 5) (n := 57) (fuel := 100000) (pre := xcP_190) (src := xcS_190) (os := xcO_190) (ms := xcM_190) (ws := xcW_190) (t0 := xcTs_190) (tp := xcTp_190) (by omega) rfl rfl rfl (by decide +kernel) (by decide +kernel) (by decide +kernel) (xEF xk_190_s) (fun ci Tm sr rk hL => ?_)
  match ci, hL with
  | 0, hL => cases hL; exact ⟨xEF xk_190_0, by decide +kernel, by decide +kernel, by decide +kernel⟩
  | n + 1, hL => cases hL
theorem xc_191 (hc : xClo rvTab rvInf rvRet 316 rvMth Gd Met) (hcon : ∀ x, x < 191 → xCon Met (xCons x)) : xCon Met (xCons 191) := by
  refine xCtx_ok (d := 2) (X := 191) (con := xCons) (opt := xOpt) (hp := xHpt) (hn := xHnt) (cutp := xcC_191) (L := xcL_191) hc hcon (j := 99) (na := 5) (n := 57) (fuel := 100000) (pre := xcP_191) (src := xcS_191) (os := xcO_191) (ms := xcM_191) (ws := xcW_191) (t0 := xcTs_191) (tp := xcTp_191) (by omega) rfl rfl rfl (by decide +kernel) (by decide +kernel) (by decide +kernel) (xEF xk_191_s) (fun ci Tm sr rk hL => ?_)
  match ci, hL with
  | 0, hL => cases hL; exact ⟨xEF xk_191_0, by decide +kernel, by decide +kernel, by decide +kernel⟩
  | n + 1, hL => cases hL
theorem xc_192 (hc : xClo rvTab rvInf rvRet 316 rvMth Gd Met) (hcon : ∀ x, x < 192 → xCon Met (xCons x)) : xCon Met (xCons 192) := by
  refine xCtx_ok (d := 2) (X := 192) (con := xCons) (opt := xOpt) (hp := xHpt) (hn := xHnt) (cutp := xcC_192) (L := xcL_192) hc hcon (j := 100) (na := 5) (n := 57) (fuel := 100000) (pre := xcP_192) (src := xcS_192) (os := xcO_192) (ms := xcM_192) (ws := xcW_192) (t0 := xcTs_192) (tp := xcTp_192) (by omega) rfl rfl rfl (by decide +kernel) (by decide +kernel) (by decide +kernel) (xEF xk_192_s) (fun ci Tm sr rk hL => ?_)
  match ci, hL with
  | n + 0, hL => cases hL
theorem xc_193 (hc : xClo rvTab rvInf rvRet 316 rvMth Gd Met) (hcon : ∀ x, x < 193 → xCon Met (xCons x)) : xCon Met (xCons 193) := by
  refine xCtx_ok (d := 2) (X := 193) (con := xCons) (opt := xOpt) (hp := xHpt) (hn := xHnt) (cutp := xcC_193) (L := xcL_193) hc hcon (j := 99) (na := 5) (n := 57) (fuel := 100000) (pre := xcP_193) (src := xcS_193) (os := xcO_193) (ms := xcM_193) (ws := xcW_193) (t0 := xcTs_193) (tp := xcTp_193) (by omega) rfl rfl rfl (by decide +kernel) (by decide +kernel) (by decide +kernel) (xEF xk_193_s) (fun ci Tm sr rk hL => ?_)
  match ci, hL with
  | 0, hL => cases hL; exact ⟨xEF xk_193_0, by decide +kernel, by decide +kernel, by decide +kernel⟩
  | n + 1, hL => cases hL
theorem xc_194 (hc : xClo rvTab rvInf rvRet 316 rvMth Gd Met) (hcon : ∀ x, x < 194 → xCon Met (xCons x)) : xCon Met (xCons 194) := by
  refine xCtx_ok (d := 2) (X := 194) (con := xCons) (opt := xOpt) (hp := xHpt) (hn := xHnt) (cutp := xcC_194) (L := xcL_194) hc hcon (j := 100) (na := 5) (n := 57) (fuel := 100000) (pre := xcP_194) (src := xcS_194) (os := xcO_194) (ms := xcM_194) (ws := xcW_194) (t0 := xcTs_194) (tp := xcTp_194) (by omega) rfl rfl rfl (by decide +kernel) (by decide +kernel) (by decide +kernel) (xEF xk_194_s) (fun ci Tm sr rk hL => ?_)
  match ci, hL with
  | 0, hL => cases hL; exact ⟨xEF xk_194_0, by decide +kernel, by decide +kernel, by decide +kernel⟩
  | 1, hL => cases hL; exact ⟨xEF xk_194_1, by decide +kernel, by decide +kernel, by decide +kernel⟩
  | 2, hL => cases hL; exact ⟨xEF xk_194_2, by decide +kernel, by decide +kernel, by decide +kernel⟩
  | n + 3, hL => cases hL
theorem xc_195 (hc : xClo rvTab rvInf rvRet 316 rvMth Gd Met) (hcon : ∀ x, x < 195 → xCon Met (xCons x)) : xCon Met (xCons 195) := by
  refine xCtx_ok (d := 2) (X := 195) (con := xCons) (opt := xOpt) (hp := xHpt) (hn := xHnt) (cutp := xcC_195) (L := xcL_195) hc hcon (j := 101) (na := 5) (n := 57) (fuel := 100000) (pre := xcP_195) (src := xcS_195) (os := xcO_195) (ms := xcM_195) (ws := xcW_195) (t0 := xcTs_195) (tp := xcTp_195) (by omega) rfl rfl rfl (by decide +kernel) (by decide +kernel) (by decide +kernel) (xEF xk_195_s) (fun ci Tm sr rk hL => ?_)
  match ci, hL with
  | 0, hL => cases hL; exact ⟨xEF xk_195_0, by decide +kernel, by decide +kernel, by decide +kernel⟩
  | n + 1, hL => cases hL
theorem xc_196 (hc : xClo rvTab rvInf rvRet 316 rvMth Gd Met) (hcon : ∀ x, x < 196 → xCon Met (xCons x)) : xCon Met (xCons 196) := by
  refine xCtx_ok (d := 2) (X := 196) (con := xCons) (opt := xOpt) (hp := xHpt) (hn := xHnt) (cutp := xcC_196) (L := xcL_196) hc hcon (j := 101) (na := 5) (n := 57) (fuel := 100000) (pre := xcP_196) (src := xcS_196) (os := xcO_196) (ms := xcM_196) (ws := xcW_196) (t0 := xcTs_196) (tp := xcTp_196) (by omega) rfl rfl rfl (by decide +kernel) (by decide +kernel) (by decide +kernel) (xEF xk_196_s) (fun ci Tm sr rk hL => ?_)
  match ci, hL with
  | 0, hL => cases hL; exact ⟨xEF xk_196_0, by decide +kernel, by decide +kernel, by decide +kernel⟩
  | n + 1, hL => cases hL
theorem xc_197 (hc : xClo rvTab rvInf rvRet 316 rvMth Gd Met) (hcon : ∀ x, x < 197 → xCon Met (xCons x)) : xCon Met (xCons 197) := by
  refine xCtx_ok (d := 2) (X := 197) (con := xCons) (opt := xOpt) (hp := xHpt) (hn := xHnt) (cutp := xcC_197) (L := xcL_197) hc hcon (j := 102) (na := 5) (n := 57) (fuel := 100000) (pre := xcP_197) (src := xcS_197) (os := xcO_197) (ms := xcM_197) (ws := xcW_197) (t0 := xcTs_197) (tp := xcTp_197) (by omega) rfl rfl rfl (by decide +kernel) (by decide +kernel) (by decide +kernel) (xEF xk_197_s) (fun ci Tm sr rk hL => ?_)
  match ci, hL with
  | 0, hL => cases hL; exact ⟨xEF xk_197_0, by decide +kernel, by decide +kernel, by decide +kernel⟩
  | n + 1, hL => cases hL
theorem xc_198 (hc : xClo rvTab rvInf rvRet 316 rvMth Gd Met) (hcon : ∀ x, x < 198 → xCon Met (xCons x)) : xCon Met (xCons 198) := by
  refine xCtx_ok (d := 2) (X := 198) (con := xCons) (opt := xOpt) (hp := xHpt) (hn := xHnt) (cutp := xcC_198) (L := xcL_198) hc hcon (j := 103) (na := 5) (n := 57) (fuel := 100000) (pre := xcP_198) (src := xcS_198) (os := xcO_198) (ms := xcM_198) (ws := xcW_198) (t0 := xcTs_198) (tp := xcTp_198) (by omega) rfl rfl rfl (by decide +kernel) (by decide +kernel) (by decide +kernel) (xEF xk_198_s) (fun ci Tm sr rk hL => ?_)
  match ci, hL with
  | n + 0, hL => cases hL
theorem xc_199 (hc : xClo rvTab rvInf rvRet 316 rvMth Gd Met) (hcon : ∀ x, x < 199 → xCon Met (xCons x)) : xCon Met (xCons 199) := by
  refine xCtx_ok (d := 2) (X := 199) (con := xCons) (opt := xOpt) (hp := xHpt) (hn := xHnt) (cutp := xcC_199) (L := xcL_199) hc hcon (j := 102) (na := 5) (n := 57) (fuel := 100000) (pre := xcP_199) (src := xcS_199) (os := xcO_199) (ms := xcM_199) (ws := xcW_199) (t0 := xcTs_199) (tp := xcTp_199) (by omega) rfl rfl rfl (by decide +kernel) (by decide +kernel) (by decide +kernel) (xEF xk_199_s) (fun ci Tm sr rk hL => ?_)
  match ci, hL with
  | 0, hL => cases hL; exact ⟨xEF xk_199_0, by decide +kernel, by decide +kernel, by decide +kernel⟩
  | n + 1, hL => cases hL
theorem xc_200 (hc : xClo rvTab rvInf rvRet 316 rvMth Gd Met) (hcon : ∀ x, x < 200 → xCon Met (xCons x)) : xCon Met (xCons 200) := by
  refine xCtx_ok (d := 2) (X := 200) (con := xCons) (opt := xOpt) (hp := xHpt) (hn := xHnt) (cutp := xcC_200) (L := xcL_200) hc hcon (j := 103) (na := 5) (n := 57) (fuel := 100000) (pre := xcP_200) (src := xcS_200) (os := xcO_200) (ms := xcM_200) (ws := xcW_200) (t0 := xcTs_200) (tp := xcTp_200) (by omega) rfl rfl rfl (by decide +kernel) (by decide +kernel) (by decide +kernel) (xEF xk_200_s) (fun ci Tm sr rk hL => ?_)
  match ci, hL with
  | 0, hL => cases hL; exact ⟨xEF xk_200_0, by decide +kernel, by decide +kernel, by decide +kernel⟩
  | 1, hL => cases hL; exact ⟨xEF xk_200_1, by decide +kernel, by decide +kernel, by decide +kernel⟩
  | 2, hL => cases hL; exact ⟨xEF xk_200_2, by decide +kernel, by decide +kernel, by decide +kernel⟩
  | n + 3, hL => cases hL
theorem xc_201 (hc : xClo rvTab rvInf rvRet 316 rvMth Gd Met) (hcon : ∀ x, x < 201 → xCon Met (xCons x)) : xCon Met (xCons 201) := by
  refine xCtx_ok (d := 2) (X := 201) (con := xCons) (opt := xOpt) (hp := xHpt) (hn := xHnt) (cutp := xcC_201) (L := xcL_201) hc hcon (j := 104) (na := 5) (n := 57) (fuel := 100000) (pre := xcP_201) (src := xcS_201) (os := xcO_201) (ms := xcM_201) (ws := xcW_201) (t0 := xcTs_201) (tp := xcTp_201) (by omega) rfl rfl rfl (by decide +kernel) (by decide +kernel) (by decide +kernel) (xEF xk_201_s) (fun ci Tm sr rk hL => ?_)
  match ci, hL with
  | 0, hL => cases hL; exact ⟨xEF xk_201_0, by decide +kernel, by decide +kernel, by decide +kernel⟩
  | n + 1, hL => cases hL
theorem xc_202 (hc : xClo rvTab rvInf rvRet 316 rvMth Gd Met) (hcon : ∀ x, x < 202 → xCon Met (xCons x)) : xCon Met (xCons 202) := by
  refine xCtx_ok (d := 2) (X := 202) (con := xCons) (opt := xOpt) (hp := xHpt) (hn := xHnt) (cutp := xcC_202) (L := xcL_202) hc hcon (j := 104) (na := 5) (n := 57) (fuel := 100000) (pre := xcP_202) (src := xcS_202) (os := xcO_202) (ms := xcM_202) (ws := xcW_202) (t0 := xcTs_202) (tp := xcTp_202) (by omega) rfl rfl rfl (by decide +kernel) (by decide +kernel) (by decide +kernel) (xEF xk_202_s) (fun ci Tm sr rk hL => ?_)
  match ci, hL with
  | 0, hL => cases hL; exact ⟨xEF xk_202_0, by decide +kernel, by decide +kernel, by decide +kernel⟩
  | n + 1, hL => cases hL
theorem xc_203 (hc : xClo rvTab rvInf rvRet 316 rvMth Gd Met) (hcon : ∀ x, x < 203 → xCon Met (xCons x)) : xCon Met (xCons 203) := by
  refine xCtx_ok (d := 2) (X := 203) (con := xCons) (opt := xOpt) (hp := xHpt) (hn := xHnt) (cutp := xcC_203) (L := xcL_203) hc hcon (j := 105) (na := 5) (n := 57) (fuel := 100000) (pre := xcP_203) (src := xcS_203) (os := xcO_203) (ms := xcM_203) (ws := xcW_203) (t0 := xcTs_203) (tp := xcTp_203) (by omega) rfl rfl rfl (by decide +kernel) (by decide +kernel) (by decide +kernel) (xEF xk_203_s) (fun ci Tm sr rk hL => ?_)
  match ci, hL with
  | 0, hL => cases hL; exact ⟨xEF xk_203_0, by decide +kernel, by decide +kernel, by decide +kernel⟩
  | n + 1, hL => cases hL
theorem xc_204 (hc : xClo rvTab rvInf rvRet 316 rvMth Gd Met) (hcon : ∀ x, x < 204 → xCon Met (xCons x)) : xCon Met (xCons 204) := by
  refine xCtx_ok (d := 2) (X := 204) (con := xCons) (opt := xOpt) (hp := xHpt) (hn := xHnt) (cutp := xcC_204) (L := xcL_204) hc hcon (j := 106) (na := 5) (n := 57) (fuel := 100000) (pre := xcP_204) (src := xcS_204) (os := xcO_204) (ms := xcM_204) (ws := xcW_204) (t0 := xcTs_204) (tp := xcTp_204) (by omega) rfl rfl rfl (by decide +kernel) (by decide +kernel) (by decide +kernel) (xEF xk_204_s) (fun ci Tm sr rk hL => ?_)
  match ci, hL with
  | n + 0, hL => cases hL
theorem xc_205 (hc : xClo rvTab rvInf rvRet 316 rvMth Gd Met) (hcon : ∀ x, x < 205 → xCon Met (xCons x)) : xCon Met (xCons 205) := by
  refine xCtx_ok (d := 2) (X := 205) (con := xCons) (opt := xOpt) (hp := xHpt) (hn := xHnt) (cutp := xcC_205) (L := xcL_205) hc hcon (j := 105) (na := 5) (n := 57) (fuel := 100000) (pre := xcP_205) (src := xcS_205) (os := xcO_205) (ms := xcM_205) (ws := xcW_205) (t0 := xcTs_205) (tp := xcTp_205) (by omega) rfl rfl rfl (by decide +kernel) (by decide +kernel) (by decide +kernel) (xEF xk_205_s) (fun ci Tm sr rk hL => ?_)
  match ci, hL with
  | 0, hL => cases hL; exact ⟨xEF xk_205_0, by decide +kernel, by decide +kernel, by decide +kernel⟩
  | n + 1, hL => cases hL
theorem xc_206 (hc : xClo rvTab rvInf rvRet 316 rvMth Gd Met) (hcon : ∀ x, x < 206 → xCon Met (xCons x)) : xCon Met (xCons 206) := by
  refine xCtx_ok (d := 2) (X := 206) (con := xCons) (opt := xOpt) (hp := xHpt) (hn := xHnt) (cutp := xcC_206) (L := xcL_206) hc hcon (j := 106) (na := 5) (n := 57) (fuel := 100000) (pre := xcP_206) (src := xcS_206) (os := xcO_206) (ms := xcM_206) (ws := xcW_206) (t0 := xcTs_206) (tp := xcTp_206) (by omega) rfl rfl rfl (by decide +kernel) (by decide +kernel) (by decide +kernel) (xEF xk_206_s) (fun ci Tm sr rk hL => ?_)
  match ci, hL with
  | 0, hL => cases hL; exact ⟨xEF xk_206_0, by decide +kernel, by decide +kernel, by decide +kernel⟩
  | 1, hL => cases hL; exact ⟨xEF xk_206_1, by decide +kernel, by decide +kernel, by decide +kernel⟩
  | 2, hL => cases hL; exact ⟨xEF xk_206_2, by decide +kernel, by decide +kernel, by decide +kernel⟩
  | n + 3, hL => cases hL
theorem xc_207 (hc : xClo rvTab rvInf rvRet 316 rvMth Gd Met) (hcon : ∀ x, x < 207 → xCon Met (xCons x)) : xCon Met (xCons 207) := by
  refine xCtx_ok (d := 2) (X := 207) (con := xCons) (opt := xOpt) (hp := xHpt) (hn := xHnt) (cutp := xcC_207) (L := xcL_207) hc hcon (j := 107) (na := 5) (n := 57) (fuel := 100000) (pre := xcP_207) (src := xcS_207) (os := xcO_207) (ms := xcM_207) (ws := xcW_207) (t0 := xcTs_207) (tp := xcTp_207) (by omega) rfl rfl rfl (by decide +kernel) (by decide +kernel) (by decide +kernel) (xEF xk_207_s) (fun ci Tm sr rk hL => ?_)
  match ci, hL with
  | 0, hL => cases hL; exact ⟨xEF xk_207_0, by decide +kernel, by decide +kernel, by decide +kernel⟩
  | n + 1, hL => cases hL
end XCC
