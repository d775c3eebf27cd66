section XCC
variable {Gd : Nat → (xRes2 → Prop) → rvS → Prop} {Met : Nat → List rvV → rvH → (xRes2 → Prop) → Prop}
theorem xc_208 (hc : xClo rvTab rvInf rvRet 316 rvMth Gd Met) (hcon : ∀ x, x < 208 → xCon Met (xCons x)) : xCon Met (xCons 208) := by
  refine xCtx_ok (d := 2) (X := 208) (con := xCons) (opt := xOpt) (hp := xHpt) (hn := xHnt) (cutp := xcC_208) (L := xcL_208) hc hcon (j := 107) (na := 5) (n := 57) (fuel := 100000) (pre := xcP_208) (src := xcS_208) (os := xcO_208) (ms := xcM_208) (ws := xcW_208) (t0 := xcTs_208) (tp := xcTp_208) (by omega) rfl rfl rfl (by decide +kernel) (by decide +kernel) (by decide +kernel) (xEF xk_208_s) (fun ci Tm sr rk hL => ?_)
  match ci, hL with
  | 0, hL => cases hL; exact ⟨xEF xk_208_0, by decide +kernel, by decide +kernel, by decide +kernel⟩
  | n + 1, hL => cases hL
theorem xc_209 (hc : xClo rvTab rvInf rvRet 316 rvMth Gd Met) (hcon : ∀ x, x < 209 → xCon Met (xCons x)) : xCon Met (xCons 209) := by
  refine xCtx_ok (d := 2) (X := 209) (con := xCons) (opt := xOpt) (hp := xHpt) (hn := xHnt) (cutp := xcC_209) (L := xcL_209) hc hcon (j := 108) (na := 5) (n := 57) (fuel := 100000) (pre := xcP_209) (src := xcS_209) (os := xcO_209) (ms := xcM_209) (ws := xcW_209) (t0 := xcTs_209) (tp := xcTp_209) (by omega) rfl rfl rfl (by decide +kernel) (by decide +kernel) (by decide +kernel) (xEF xk_209_s) (fun ci Tm sr rk hL => ?_)
  match ci, hL with
  | 0, hL => cases hL; exact ⟨xEF xk_209_0, by decide +kernel, by decide +kernel, by decide +kernel⟩
  | n + 1, hL => cases hL
theorem xc_210 (hc : xClo rvTab rvInf rvRet 316 rvMth Gd Met) (hcon : ∀ x, x < 210 → xCon Met (xCons x)) : xCon Met (xCons 210) := by
  refine xCtx_ok (d := 2) (X := 210) (con := xCons) (opt := xOpt) (hp := xHpt) (hn := xHnt) (cutp := xcC_210) (L := xcL_210) hc hcon (j := 109) (na := 5) (n := 57) (fuel := 100000) (pre := xcP_210) (src := xcS_210) (os := xcO_210) (ms := xcM_210) (ws := xcW_210) (t0 := xcTs_210) (tp := xcTp_210) (by omega) rfl rfl rfl (by decide +kernel) (by decide +kernel) (by decide +kernel) (xEF xk_210_s) (fun ci Tm sr rk hL => ?_)
  match ci, hL with
  | n + 0, hL => cases hL
theorem xc_211 (hc : xClo rvTab rvInf rvRet 316 rvMth Gd Met) (hcon : ∀ x, x < 211 → xCon Met (xCons x)) : xCon Met (xCons 211) := by
  refine xCtx_ok (d := 2) (X := 211) (con := xCons) (opt := xOpt) (hp := xHpt) (hn := xHnt) (cutp := xcC_211) (L := xcL_211) hc hcon (j := 108) (na := 5) (n := 57) (fuel := 100000) (pre := xcP_211) (src := xcS_211) (os := xcO_211) (ms := xcM_211) (ws := xcW_211) (t0 := xcTs_211) (tp := xcTp_211) (by omega) rfl rfl rfl (by decide +kernel) (by decide +kernel) (by decide +kernel) (xEF xk_211_s) (fun ci Tm sr rk hL => ?_)
  match ci, hL with
  | 0, hL => cases hL; exact ⟨xEF xk_211_0, by decide +kernel, by decide +kernel, by decide +kernel⟩
  | n + 1, hL => cases hL
theorem xc_212 (hc : xClo rvTab rvInf rvRet 316 rvMth Gd Met) (hcon : ∀ x, x < 212 → xCon Met (xCons x)) : xCon Met (xCons 212) := by
  refine xCtx_ok (d := 2) (X := 212) (con := xCons) (opt := xOpt) (hp := xHpt) (hn := xHnt) (cutp := xcC_212) (L := xcL_212) hc hcon (j := 109) (na := 5) (n := 57) (fuel := 100000) (pre := xcP_212) (src := xcS_212) (os := xcO_212) (ms := xcM_212) (ws := xcW_212) (t0 := xcTs_212) (tp := xcTp_212) (by omega) rfl rfl rfl (by decide +kernel) (by decide +kernel) (by decide +kernel) (xEF xk_212_s) (fun ci Tm sr rk hL => ?_)
  match ci, hL with
  | 0, hL => cases hL; exact ⟨xEF xk_212_0, by decide +kernel, by decide +kernel, by decide +kernel⟩
  | 1, hL => cases hL; exact ⟨xEF xk_212_1, by decide +kernel, by decide +kernel, by decide +kernel⟩
  | 2, hL => cases hL; exact ⟨xEF xk_212_2, by decide +kernel, by decide +kernel, by decide +kernel⟩
  | n + 3, hL => cases hL
theorem xc_213 (hc : xClo rvTab rvInf rvRet 316 rvMth Gd Met) (hcon : ∀ x, x < 213 → xCon Met (xCons x)) : xCon Met (xCons 213) := by
  refine xCtx_ok (d := 2) (X := 213) (con := xCons) (opt := xOpt) (hp := xHpt) (hn := xHnt) (cutp := xcC_213) (L := xcL_213) hc hcon (j := 110) (na := 5) (n := 57) (fuel := 100000) (pre := xcP_213) (src := xcS_213) (os := xcO_213) (ms := xcM_213) (ws := xcW_213) (t0 := xcTs_213) (tp := xcTp_213) (by omega) rfl rfl rfl (by decide +kernel) (by decide +kernel) (by decide +kernel) (xEF xk_213_s) (fun ci Tm sr rk hL => ?_)
  match ci, hL with
  | 0, hL => cases hL; exact ⟨xEF xk_213_0, by decide +kernel, by decide +kernel, by decide +kernel⟩
  | n + 1, hL => cases hL
theorem xc_214 (hc : xClo rvTab rvInf rvRet 316 rvMth Gd Met) (hcon : ∀ x, x < 214 → xCon Met (xCons x)) : xCon Met (xCons 214) := by
  refine xCtx_ok (d := 2) (X := 214) (con := xCons) (opt := xOpt) (hp := xHpt) (hn := xHnt) (cutp := xcC_214) (L := xcL_214) hc hcon (j := 110) (na := 5) (n := 57) (fuel := 100000) (pre := xcP_214) (src := xcS_214) (os := xcO_214) (ms := xcM_214) (ws := xcW_214) (t0 := xcTs_214) (tp := xcTp_214) (by omega) rfl rfl rfl (by decide +kernel) (by decide +kernel) (by decide +kernel) (xEF xk_214_s) (fun ci Tm sr rk hL => ?_)
  match ci, hL with
  | 0, hL => cases hL; exact ⟨xEF xk_214_0, by decide +kernel, by decide +kernel, by decide +kernel⟩
  | n + 1, hL => cases hL
theorem xc_215 (hc : xClo rvTab rvInf rvRet 316 rvMth Gd Met) (hcon : ∀ x, x < 215 → xCon Met (xCons x)) : xCon Met (xCons 215) := by
  refine xCtx_ok (d := 2) (X := 215) (con := xCons) (opt := xOpt) (hp := xHpt) (hn := xHnt) (cutp := xcC_215) (L := xcL_215) hc hcon (j := 111) (na := 5) (n := 57) (fuel := 100000) (pre := xcP_215) (src := xcS_215) (os := xcO_215) (ms := xcM_215) (ws := xcW_215) (t0 := xcTs_215) (tp := xcTp_215) (by omega) rfl rfl rfl (by decide +kernel) (by decide +kernel) (by decide +kernel) (xEF xk_215_s) (fun ci Tm sr rk hL => ?_)
  match ci, hL with
  | 0, hL => cases hL; exact ⟨xEF xk_215_0, by decide +kernel, by decide +kernel, by decide +kernel⟩
  | n + 1, hL => cases hL
theorem xc_216 (hc : xClo rvTab rvInf rvRet 316 rvMth Gd Met) (hcon : ∀ x, x < 216 → xCon Met (xCons x)) : xCon Met (xCons 216) := by
  refine xCtx_ok (d := 2) (X := 216) (con := xCons) (opt := xOpt) (hp := xHpt) (hn := xHnt) (cutp := xcC_216) (L := xcL_216) hc hcon (j := 112) (na := 5) (n := 57) (fuel := 100000) (pre := xcP_216) (src := xcS_216) (os := xcO_216) (ms := xcM_216) (ws := xcW_216) (t0 := xcTs_216) (tp := xcTp_216) (by omega) rfl rfl rfl (by decide +kernel) (by decide +kernel) (by decide +kernel) (xEF xk_216_s) (fun ci Tm sr rk hL => ?_)
  match ci, hL with
  | n + 0, hL => cases hL
theorem xc_217 (hc : xClo rvTab rvInf rvRet 316 rvMth Gd Met) (hcon : ∀ x, x < 217 → xCon Met (xCons x)) : xCon Met (xCons 217) := by
  refine xCtx_ok (d := 2) (X := 217) (con := xCons) (opt := xOpt) (hp := xHpt) (hn := xHnt) (cutp := xcC_217) (L := xcL_217) hc hcon (j := 111) (na := 5) (n := 57) (fuel := 100000) (pre := xcP_217) (src := xcS_217) (os := xcO_217) (ms := xcM_217) (ws := xcW_217) (t0 := xcTs_217) (tp := xcTp_217) (by omega) rfl rfl rfl (by decide +kernel) (by decide +kernel) (by decide +kernel) (xEF xk_217_s) (fun ci Tm sr rk hL => ?_)
  match ci, hL with
  | 0, hL => cases hL; exact ⟨xEF xk_217_0, by decide +kernel, by decide +kernel, by decide +kernel⟩
  | n + 1, hL => cases hL
theorem xc_218 (hc : xClo rvTab rvInf rvRet 316 rvMth Gd Met) (hcon : ∀ x, x < 218 → xCon Met (xCons x)) : xCon Met (xCons 218) := by
  refine xCtx_ok (d := 2) (X := 218) (con := xCons) (opt := xOpt) (hp := xHpt) (hn := xHnt) (cutp := xcC_218) (L := xcL_218) hc hcon (j := 112) (na := 5) (n := 57) (fuel := 100000) (pre := xcP_218) (src := xcS_218) (os := xcO_218) (ms := xcM_218) (ws := xcW_218) (t0 := xcTs_218) (tp := xcTp_218) (by omega) rfl rfl rfl (by decide +kernel) (by decide +kernel) (by decide +kernel) (xEF xk_218_s) (fun ci Tm sr rk hL => ?_)
  match ci, hL with
  | 0, hL => cases hL; exact ⟨xEF xk_218_0, by decide +kernel, by decide +kernel, by decide +kernel⟩
  | 1, hL => cases hL; exact ⟨xEF xk_218_1, by decide +kernel, by decide +kernel, by decide +kernel⟩
  | 2, hL => cases hL; exact ⟨xEF xk_218_2, by decide +kernel, by decide +kernel, by decide +kernel⟩
  | n + 3, hL => cases hL
theorem xc_219 (hc : xClo rvTab rvInf rvRet 316 rvMth Gd Met) (hcon : ∀ x, x < 219 → xCon Met (xCons x)) : xCon Met (xCons 219) := by
  refine xCtx_ok (d := 2) (X := 219) (con := xCons) (opt := xOpt) (hp := xHpt) (hn := xHnt) (cutp := xcC_219) (L := xcL_219) hc hcon (j := 113) (na := 5) (n := 57) (fuel := 100000) (pre := xcP_219) (src := xcS_219) (os := xcO_219) (ms := xcM_219) (ws := xcW_219) (t0 := xcTs_219) (tp := xcTp_219) (by omega) rfl rfl rfl (by decide +kernel) (by decide +kernel) (by decide +kernel) (xEF xk_219_s) (fun ci Tm sr rk hL => ?_)
  match ci, hL with
  | 0, hL => cases hL; exact ⟨xEF xk_219_0, by decide +kernel, by decide +kernel, by decide +kernel⟩
  | n + 1, hL => cases hL
theorem xc_220 (hc : xClo rvTab rvInf rvRet 316 rvMth Gd Met) (hcon : ∀ x, x < 220 → xCon Met (xCons x)) : xCon Met (xCons 220) := by
  refine xCtx_ok (d := 2) (X := 220) (con := xCons) (opt := xOpt) (hp := xHpt) (hn := xHnt) (cutp := xcC_220) (L := xcL_220) hc hcon (j := 113) (na := 5) (n := 57) (fuel := 100000) (pre := xcP_220) (src := xcS_220) (os := xcO_220) (ms := xcM_220) (ws := xcW_220) (t0 := xcTs_220) (tp := xcTp_220) (by omega) rfl rfl rfl (by decide +kernel) (by decide +kernel) (by decide +kernel) (xEF xk_220_s) (fun ci Tm sr rk hL => ?_)
  match ci, hL with
  | 0, hL => cases hL; exact ⟨xEF xk_220_0, by decide +kernel, by decide +kernel, by decide +kernel⟩
  | n + 1, hL => cases hL
theorem xc_221 (hc : xClo rvTab rvInf rvRet 316 rvMth Gd Met) (hcon : ∀ x, x < 221 → xCon Met (xCons x)) : xCon Met (xCons 221) := by
  refine xCtx_ok (d := 2) (X := 221) (con := xCons) (opt := xOpt) (hp := xHpt) (hn := xHnt) (cutp := xcC_221) (L := xcL_221) hc hcon (j := 114) (na := 5) (n := 57) (fuel := 100000) (pre := xcP_221) (src := xcS_221) (os := xcO_221) (ms := xcM_221) (ws := xcW_221) (t0 := xcTs_221) (tp := xcTp_221) (by omega) rfl rfl rfl (by decide +kernel) (by decide +kernel) (by decide +kernel) (xEF xk_221_s) (fun ci Tm sr rk hL => ?_)
  match ci, hL with
  | 0, hL => cases hL; exact ⟨xEF xk_221_0, by decide +kernel, by decide +kernel, by decide +kernel⟩
  | n + 1, hL => cases hL
theorem xc_222 (hc : xClo rvTab rvInf rvRet 316 rvMth Gd Met) (hcon : ∀ x, x < 222 → xCon Met (xCons x)) : xCon Met (xCons 222) := by
  refine xCtx_ok (d := 2) (X := 222) (con := xCons) (opt := xOpt) (hp := xHpt) (hn := xHnt) (cutp := xcC_222) (L := xcL_222) hc hcon (j := 115) (na := 5) (n := 57) (fuel := 100000) (pre := xcP_222) (src := xcS_222) (os := xcO_222) (ms := xcM_222) (ws := xcW_222) (t0 := xcTs_222) (tp := xcTp_222) (by omega) rfl rfl rfl (by decide +kernel) (by decide +kernel) (by decide +kernel) (xEF xk_222_s) (fun ci Tm sr rk hL => ?_)
  match ci, hL with
  | n + 0, hL => cases hL
theorem xc_223 (hc : xClo rvTab rvInf rvRet 316 rvMth Gd Met) (hcon : ∀ x, x < 223 → xCon Met (xCons x)) : xCon Met (xCons 223) := by
  refine xCtx_ok (d := 2) (X := 223) (con := xCons) (opt := xOpt) (hp := xHpt) (hn := xHnt) (cutp := xcC_223) (L := xcL_223) hc hcon (j := 114) (na := 5) (n := 57) (fuel := 100000) (pre := xcP_223) (src := xcS_223) (os := xcO_223) (ms := xcM_223) (ws := xcW_223) (t0 := xcTs_223) (tp := xcTp_223) (by omega) rfl rfl rfl (by decide +kernel) (by decide +kernel) (by decide +kernel) (xEF xk_223_s) (fun ci Tm sr rk hL => ?_)
  match ci, hL with
  | 0, hL => cases hL; exact ⟨xEF xk_223_0, by decide +kernel, by decide +kernel, by decide +kernel⟩
  | n + 1, hL => cases hL
theorem xc_224 (hc : xClo rvTab rvInf rvRet 316 rvMth Gd Met) (hcon : ∀ x, x < 224 → xCon Met (xCons x)) : xCon Met (xCons 224) := by
  refine xCtx_ok (d := 2) (X := 224) (con := xCons) (opt := xOpt) (hp := xHpt) (hn := xHnt) (cutp := xcC_224) (L := xcL_224) hc hcon (j := 115) (na := 5) (n := 57) (fuel := 100000) (pre := xcP_224) (src := xcS_224) (os := xcO_224) (ms := xcM_224) (ws := xcW_224) (t0 := xcTs_224) (tp := xcTp_224) (by omega) rfl rfl rfl (by decide +kernel) (by decide +kernel) (by decide +kernel) (xEF xk_224_s) (fun ci Tm sr rk hL => ?_)
  match ci, hL with
  | 0, hL => cases hL; exact ⟨xEF xk_224_0, by decide +kernel, by decide +kernel, by decide +kernel⟩
  | 1, hL => cases hL; exact ⟨xEF xk_224_1, by decide +kernel, by decide +kernel, by decide +kernel⟩
  | 2, hL => cases hL; exact ⟨xEF xk_224_2, by decide +kernel, by decide +kernel, by decide +kernel⟩
  | n + 3, hL => cases hL
theorem xc_225 (hc : xClo rvTab rvInf rvRet 316 rvMth Gd Met) (hcon : ∀ x, x < 225 → xCon Met (xCons x)) : xCon Met (xCons 225) := by
  refine xCtx_ok (d := 2) (X := 225) (con := xCons) (opt := xOpt) (hp := xHpt) (hn := xHnt) (cutp := xcC_225) (L := xcL_225) hc hcon (j := 116) (na := 5) (n := 57) (fuel := 100000) (pre := xcP_225) (src := xcS_225) (os := xcO_225) (ms := xcM_225) (ws := xcW_225) (t0 := xcTs_225) (tp := xcTp_225) (by omega) rfl rfl rfl (by decide +kernel) (by decide +kernel) (by decide +kernel) (xEF xk_225_s) (fun ci Tm sr rk hL => ?_)
  match ci, hL with
  | 0, hL => cases hL; exact ⟨xEF xk_225_0, by decide +kernel, by decide +kernel, by decide +kernel⟩
  | n + 1, hL => cases hL
theorem xc_226 (hc : xClo rvTab rvInf rvRet 316 rvMth Gd Met) (hcon : ∀ x, x < 226 → xCon Met (xCons x)) : xCon Met (xCons 226) := by
  refine xCtx_ok (d := 2) (X := 226) (con := xCons) (opt := xOpt) (hp := xHpt) (hn := xHnt) (cutp := xcC_226) (L := xcL_226) hc hcon (j := 116) (na := 5) (n := 57) (fuel := 100000) (pre := xcP_226) (src := xcS_226) (os := xcO_226) (ms := xcM_226) (ws := xcW_226) (t0 := xcTs_226) (tp := xcTp_226) (by omega) rfl rfl rfl (by decide +kernel) (by decide +kernel) (by decide +kernel) (xEF xk_226_s) (fun ci Tm sr rk hL => ?_)
  match ci, hL with
  | 0, hL => cases hL; exact ⟨xEF xk_226_0, by decide +kernel, by decide +kernel, by decide +kernel⟩
  | n + 1, hL => cases hL
theorem xc_227 (hc : xClo rvTab rvInf rvRet 316 rvMth Gd Met) (hcon : ∀ x, x < 227 → xCon Met (xCons x)) : xCon Met (xCons 227) := by
  refine xCtx_ok (d := 2) (X := 227) (con := xCons) (opt := xOpt) (hp := xHpt) (hn := xHnt) (cutp := xcC_227) (L := xcL_227) hc hcon (j := 117) (na := 5) (n := 57) (fuel := 100000) (pre := xcP_227) (src := xcS_227) (os := xcO_227) (ms := xcM_227) (ws := xcW_227) (t0 := xcTs_227) (tp := xcTp_227) (by omega) rfl rfl rfl (by decide +kernel) (by decide +kernel) (by decide +kernel) (xEF xk_227_s) (fun ci Tm sr rk hL => ?_)
  match ci, hL with
  | 0, hL => cases hL; exact ⟨xEF xk_227_0, by decide +kernel, by decide +kernel, by decide +kernel⟩
  | n + 1, hL => cases hL
theorem xc_228 (hc : xClo rvTab rvInf rvRet 316 rvMth Gd Met) (hcon : ∀ x, x < 228 → xCon Met (xCons x)) : xCon Met (xCons 228) := by
  refine xCtx_ok (d := 2) (X := 228) (con := xCons) (opt := xOpt) (hp := xHpt) (hn := xHnt) (cutp := xcC_228) (L := xcL_228) hc hcon (j := 118) (na := 1) (n := 52) (fuel := 100000) (pre := xcP_228) (src := xcS_228) (os := xcO_228) (ms := xcM_228) (ws := xcW_228) (t0 := xcTs_228) (tp := xcTp_228) (by omega) rfl rfl rfl (by decide +kernel) (by decide +kernel) (by decide +kernel) (xEF xk_228_s) (fun ci Tm sr rk hL => ?_)
  match ci, hL with
  | n + 0, hL => cases hL
theorem xc_229 (hc : xClo rvTab rvInf rvRet 316 rvMth Gd Met) (hcon : ∀ x, x < 229 → xCon Met (xCons x)) : xCon Met (xCons 229) := by
  refine xCtx_ok (d := 2) (X := 229) (con := xCons) (opt := xOpt) (hp := xHpt) (hn := xHnt) (cutp := xcC_229) (L := xcL_229) hc hcon (j := 21) (na := 2) (n := 52) (fuel := 100000) (pre := xcP_229) (src := xcS_229) (os := xcO_229) (ms := xcM_229) (ws := xcW_229) (t0 := xcTs_229) (tp := xcTp_229) (by omega) rfl rfl rfl (by decide +kernel) (by decide +kernel) (by decide +kernel) (xEF xk_229_s) (fun ci Tm sr rk hL => ?_)
  match ci, hL with
  | 0, hL => cases hL; exact ⟨xEF xk_229_0, by decide +kernel, by decide +kernel, by decide +kernel⟩
  | n + 1, hL => cases hL
theorem xc_230 (hc : xClo rvTab rvInf rvRet 316 rvMth Gd Met) (hcon : ∀ x, x < 230 → xCon Met (xCons x)) : xCon Met (xCons 230) := by
  refine xCtx_ok (d := 2) (X := 230) (con := xCons) (opt := xOpt) (hp := xHpt) (hn := xHnt) (cutp := xcC_230) (L := xcL_230) hc hcon (j := 22) (na := 4) (n := 52) (fuel := 100000) (pre := xcP_230) (src := xcS_230) (os := xcO_230) (ms := xcM_230) (ws := xcW_230) (t0 := xcTs_230) (tp := xcTp_230) (by omega) rfl rfl rfl (by decide +kernel) (by decide +kernel) (by decide +kernel) (xEF xk_230_s) (fun ci Tm sr rk hL => ?_)
  match ci, hL with
  | n + 0, hL => cases hL
theorem xc_231 (hc : xClo rvTab rvInf rvRet 316 rvMth Gd Met) (hcon : ∀ x, x < 231 → xCon Met (xCons x)) : xCon Met (xCons 231) := by
  refine xCtx_ok (d := 2) (X := 231) (con := xCons) (opt := xOpt) (hp := xHpt) (hn := xHnt) (cutp := xcC_231) (L := xcL_231) hc hcon (j := 119) (na := 3) (n := 52) (fuel := 100000) (pre := xcP_231) (src := xcS_231) (os := xcO_231) (ms := xcM_231) (ws := xcW_231) (t0 := xcTs_231) (tp := xcTp_231) (by omega) rfl rfl rfl (by decide +kernel) (by decide +kernel) (by decide +kernel) (xEF xk_231_s) (fun ci Tm sr rk hL => ?_)
  match ci, hL with
  | 0, hL => cases hL; exact ⟨xEF xk_231_0, by decide +kernel, by decide +kernel, by decide +kernel⟩
  | n + 1, hL => cases hL
theorem xc_232 (hc : xClo rvTab rvInf rvRet 316 rvMth Gd Met) (hcon : ∀ x, x < 232 → xCon Met (xCons x)) : xCon Met (xCons 232) := by
  refine xCtx_ok (d := 2) (X := 232) (con := xCons) (opt := xOpt) (hp := xHpt) (hn := xHnt) (cutp := xcC_232) (L := xcL_232) hc hcon (j := 120) (na := 4) (n := 52) (fuel := 100000) (pre := xcP_232) (src := xcS_232) (os := xcO_232) (ms := xcM_232) (ws := xcW_232) (t0 := xcTs_232) (tp := xcTp_232) (by omega) rfl rfl rfl (by decide +kernel) (by decide +kernel) (by decide +kernel) (xEF xk_232_s) (fun ci Tm sr rk hL => ?_)
  match ci, hL with
  | 0, hL => cases hL; exact ⟨xEF xk_232_0, by decide +kernel, by decide +kernel, by decide +kernel⟩
  | n + 1, hL => cases hL
theorem xc_233 (hc : xClo rvTab rvInf rvRet 316 rvMth Gd Met) (hcon : ∀ x, x < 233 → xCon Met (xCons x)) : xCon Met (xCons 233) := by
  refine xCtx_ok (d := 2) (X := 233) (con := xCons) (opt := xOpt) (hp := xHpt) (hn := xHnt) (cutp := xcC_233) (L := xcL_233) hc hcon (j := 120) (na := 4) (n := 52) (fuel := 100000) (pre := xcP_233) (src := xcS_233) (os := xcO_233) (ms := xcM_233) (ws := xcW_233) (t0 := xcTs_233) (tp := xcTp_233) (by omega) rfl rfl rfl (by decide +kernel) (by decide +kernel) (by decide +kernel) (xEF xk_233_s) (fun ci Tm sr rk hL => ?_)
  match ci, hL with
  | 0, hL => cases hL; exact ⟨xEF xk_233_0, by decide +kernel, by decide +kernel, by decide +kernel⟩
  | n + 1, hL => cases hL
theorem xKs_234_0 (hc : xClo rvTab rvInf rvRet 316 rvMth Gd Met) (hcon : ∀ x, x < 234 → xCon Met (xCons x)) : xKsem Gd 13 52 121 xcM_234 xcO_234 (fun i => xcL_234[i]?) (some xKrk_234_0) xcT_234_0 := by
  refine xKs_f (mth := rvMth) (d := 2) (NM := 316) (X := 234) (opt := xOpt) (hp := xHpt) (hn := xHnt) (cutp := xcC_234) (j0 := 121) (ck := xKck_234_0) (oc := xKoc_234_0) hc hcon (fun x S h => ⟨2, x, h⟩) (fun R h => ?_) (by omega) rfl xKr_234_0 (fun m q hm => ?_)
  · obtain ⟨q, hq, hq2⟩ := List.any_eq_true.mp h
    exact ⟨2, q, hq, hq2⟩
  · match m, hm with
    | 0, hm => cases hm; exact ⟨100000, _, xKr_234_0_0⟩
    | 1, hm => cases hm; exact ⟨100000, _, xKr_234_0_1⟩
    | 2, hm => cases hm; exact ⟨100000, _, xKr_234_0_2⟩
    | 3, hm => cases hm; exact ⟨100000, _, xKr_234_0_3⟩
    | 4, hm => cases hm; exact ⟨100000, _, xKr_234_0_4⟩
    | 5, hm => cases hm; exact ⟨100000, _, xKr_234_0_5⟩
    | 6, hm => cases hm; exact ⟨100000, _, xKr_234_0_6⟩
    | 7, hm => cases hm; exact ⟨100000, _, xKr_234_0_7⟩
    | 8, hm => cases hm; exact ⟨100000, _, xKr_234_0_8⟩
    | m + 9, hm => cases hm
theorem xKs_234_1 (hc : xClo rvTab rvInf rvRet 316 rvMth Gd Met) (hcon : ∀ x, x < 234 → xCon Met (xCons x)) : xKsem Gd 13 52 121 xcM_234 xcO_234 (fun i => xcL_234[i]?) (some xKrk_234_1) xcT_234_1 := by
  refine xKs_f (mth := rvMth) (d := 2) (NM := 316) (X := 234) (opt := xOpt) (hp := xHpt) (hn := xHnt) (cutp := xcC_234) (j0 := 121) (ck := xKck_234_1) (oc := xKoc_234_1) hc hcon (fun x S h => ⟨2, x, h⟩) (fun R h => ?_) (by omega) rfl xKr_234_1 (fun m q hm => ?_)
  · obtain ⟨q, hq, hq2⟩ := List.any_eq_true.mp h
    exact ⟨2, q, hq, hq2⟩
  · match m, hm with
    | 0, hm => cases hm; exact ⟨100000, _, xKr_234_1_0⟩
    | 1, hm => cases hm; exact ⟨100000, _, xKr_234_1_1⟩
    | 2, hm => cases hm; exact ⟨100000, _, xKr_234_1_2⟩
    | 3, hm => cases hm; exact ⟨100000, _, xKr_234_1_3⟩
    | 4, hm => cases hm; exact ⟨100000, _, xKr_234_1_4⟩
    | 5, hm => cases hm; exact ⟨100000, _, xKr_234_1_5⟩
    | 6, hm => cases hm; exact ⟨100000, _, xKr_234_1_6⟩
    | 7, hm => cases hm; exact ⟨100000, _, xKr_234_1_7⟩
    | 8, hm => cases hm; exact ⟨100000, _, xKr_234_1_8⟩
    | 9, hm => cases hm; exact ⟨100000, _, xKr_234_1_9⟩
    | 10, hm => cases hm; exact ⟨100000, _, xKr_234_1_10⟩
    | 11, hm => cases hm; exact ⟨100000, _, xKr_234_1_11⟩
    | 12, hm => cases hm; exact ⟨100000, _, xKr_234_1_12⟩
    | 13, hm => cases hm; exact ⟨100000, _, xKr_234_1_13⟩
    | 14, hm => cases hm; exact ⟨100000, _, xKr_234_1_14⟩
    | 15, hm => cases hm; exact ⟨100000, _, xKr_234_1_15⟩
    | 16, hm => cases hm; exact ⟨100000, _, xKr_234_1_16⟩
    | 17, hm => cases hm; exact ⟨100000, _, xKr_234_1_17⟩
    | 18, hm => cases hm; exact ⟨100000, _, xKr_234_1_18⟩
    | 19, hm => cases hm; exact ⟨100000, _, xKr_234_1_19⟩
    | 20, hm => cases hm; exact ⟨100000, _, xKr_234_1_20⟩
    | 21, hm => cases hm; exact ⟨100000, _, xKr_234_1_21⟩
    | 22, hm => cases hm; exact ⟨100000, _, xKr_234_1_22⟩
    | m + 23, hm => cases hm
theorem xc_234 (hc : xClo rvTab rvInf rvRet 316 rvMth Gd Met) (hcon : ∀ x, x < 234 → xCon Met (xCons x)) : xCon Met (xCons 234) := by
  refine xCtx_okF (mth := rvMth) (d := 2) (X := 234) (con := xCons) (opt := xOpt) (hp := xHpt) (hn := xHnt) (cutp := xcC_234) (L := xcL_234) hc hcon (j := 121) (na := 13) (n := 52) (fuel := 100000) (pre := xcP_234) (src := xcS_234) (os := xcO_234) (ms := xcM_234) (ws := xcW_234) (t0 := xcTs_234) (by omega) rfl rfl rfl (by decide +kernel) (by decide +kernel) (by decide +kernel) (xEF xk_234_s) (fun ci Tm sr rk hL => ?_)
  match ci, hL with
  | 0, hL => cases hL; exact ⟨xKs_234_0 hc hcon, by decide +kernel, by decide +kernel, by decide +kernel⟩
  | 1, hL => cases hL; exact ⟨xKs_234_1 hc hcon, by decide +kernel, by decide +kernel, by decide +kernel⟩
  | 2, hL => cases hL; exact ⟨xKs_run hc hcon (by omega) (xEF xk_234_2), by decide +kernel, by decide +kernel, by decide +kernel⟩
  | 3, hL => cases hL; exact ⟨xKs_run hc hcon (by omega) (xEF xk_234_3), by decide +kernel, by decide +kernel, by decide +kernel⟩
  | 4, hL => cases hL; exact ⟨xKs_run hc hcon (by omega) (xEF xk_234_4), by decide +kernel, by decide +kernel, by decide +kernel⟩
  | 5, hL => cases hL; exact ⟨xKs_run hc hcon (by omega) (xEF xk_234_5), by decide +kernel, by decide +kernel, by decide +kernel⟩
  | 6, hL => cases hL; exact ⟨xKs_run hc hcon (by omega) (xEF xk_234_6), by decide +kernel, by decide +kernel, by decide +kernel⟩
  | 7, hL => cases hL; exact ⟨xKs_run hc hcon (by omega) (xEF xk_234_7), by decide +kernel, by decide +kernel, by decide +kernel⟩
  | 8, hL => cases hL; exact ⟨xKs_run hc hcon (by omega) (xEF xk_234_8), by decide +kernel, by decide +kernel, by decide +kernel⟩
  | 9, hL => cases hL; exact ⟨xKs_run hc hcon (by omega) (xEF xk_234_9), by decide +kernel, by decide +kernel, by decide +kernel⟩
  | 10, hL => cases hL; exact ⟨xKs_run hc hcon (by omega) (xEF xk_234_10), by decide +kernel, by decide +kernel, by decide +kernel⟩
  | 11, hL => cases hL; exact ⟨xKs_run hc hcon (by omega) (xEF xk_234_11), by decide +kernel, by decide +kernel, by decide +kernel⟩
  | 12, hL => cases hL; exact ⟨xKs_run hc hcon (by omega) (xEF xk_234_12), by decide +kernel, by decide +kernel, by decide +kernel⟩
  | 13, hL => cases hL; exact ⟨xKs_run hc hcon (by omega) (xEF xk_234_13), by decide +kernel, by decide +kernel, by decide +kernel⟩
  | 14, hL => cases hL; exact ⟨xKs_run hc hcon (by omega) (xEF xk_234_14), by decide +kernel, by decide +kernel, by decide +kernel⟩
  | n + 15, hL => cases hL
theorem xc_235 (hc : xClo rvTab rvInf rvRet 316 rvMth Gd Met) (hcon : ∀ x, x < 235 → xCon Met (xCons x)) : xCon Met (xCons 235) := by
  refine xCtx_ok (d := 2) (X := 235) (con := xCons) (opt := xOpt) (hp := xHpt) (hn := xHnt) (cutp := xcC_235) (L := xcL_235) hc hcon (j := 122) (na := 2) (n := 57) (fuel := 100000) (pre := xcP_235) (src := xcS_235) (os := xcO_235) (ms := xcM_235) (ws := xcW_235) (t0 := xcTs_235) (tp := xcTp_235) (by omega) rfl rfl rfl (by decide +kernel) (by decide +kernel) (by decide +kernel) (xEF xk_235_s) (fun ci Tm sr rk hL => ?_)
  match ci, hL with
  | 0, hL => cases hL; exact ⟨xEF xk_235_0, by decide +kernel, by decide +kernel, by decide +kernel⟩
  | n + 1, hL => cases hL
end XCC
