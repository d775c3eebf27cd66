section XCC
variable {Gd : Nat → (xRes2 → Prop) → rvS → Prop} {Met : Nat → List rvV → rvH → (xRes2 → Prop) → Prop}
theorem xc_236 (hc : xClo rvTab rvInf rvRet 316 rvMth Gd Met) (hcon : ∀ x, x < 236 → xCon Met (xCons x)) : xCon Met (xCons 236) := by
  refine xCtx_ok (d := 2) (X := 236) (con := xCons) (opt := xOpt) (hp := xHpt) (hn := xHnt) (cutp := xcC_236) (L := xcL_236) hc hcon (j := 123) (na := 0) (n := 52) (fuel := 100000) (pre := xcP_236) (src := xcS_236) (os := xcO_236) (ms := xcM_236) (ws := xcW_236) (t0 := xcTs_236) (tp := xcTp_236) (by omega) rfl rfl rfl (by decide +kernel) (by decide +kernel) (by decide +kernel) (xEF xk_236_s) (fun ci Tm sr rk hL => ?_)
  match ci, hL with
  | 0, hL => cases hL; exact ⟨xEF xk_236_0, by decide +kernel, by decide +kernel, by decide +kernel⟩
  | n + 1, hL => cases hL
theorem xc_237 (hc : xClo rvTab rvInf rvRet 316 rvMth Gd Met) (hcon : ∀ x, x < 237 → xCon Met (xCons x)) : xCon Met (xCons 237) := by
  refine xCtx_ok (d := 2) (X := 237) (con := xCons) (opt := xOpt) (hp := xHpt) (hn := xHnt) (cutp := xcC_237) (L := xcL_237) hc hcon (j := 124) (na := 1) (n := 52) (fuel := 100000) (pre := xcP_237) (src := xcS_237) (os := xcO_237) (ms := xcM_237) (ws := xcW_237) (t0 := xcTs_237) (tp := xcTp_237) (by omega) rfl rfl rfl (by decide +kernel) (by decide +kernel) (by decide +kernel) (xEF xk_237_s) (fun ci Tm sr rk hL => ?_)
  match ci, hL with
  | 0, hL => cases hL; exact ⟨xEF xk_237_0, by decide +kernel, by decide +kernel, by decide +kernel⟩
  | n + 1, hL => cases hL
theorem xc_238 (hc : xClo rvTab rvInf rvRet 316 rvMth Gd Met) (hcon : ∀ x, x < 238 → xCon Met (xCons x)) : xCon Met (xCons 238) := by
  refine xCtx_ok (d := 2) (X := 238) (con := xCons) (opt := xOpt) (hp := xHpt) (hn := xHnt) (cutp := xcC_238) (L := xcL_238) hc hcon (j := 122) (na := 4) (n := 57) (fuel := 100000) (pre := xcP_238) (src := xcS_238) (os := xcO_238) (ms := xcM_238) (ws := xcW_238) (t0 := xcTs_238) (tp := xcTp_238) (by omega) rfl rfl rfl (by decide +kernel) (by decide +kernel) (by decide +kernel) (xEF xk_238_s) (fun ci Tm sr rk hL => ?_)
  match ci, hL with
  | 0, hL => cases hL; exact ⟨xEF xk_238_0, by decide +kernel, by decide +kernel, by decide +kernel⟩
  | n + 1, hL => cases hL
theorem xc_239 (hc : xClo rvTab rvInf rvRet 316 rvMth Gd Met) (hcon : ∀ x, x < 239 → xCon Met (xCons x)) : xCon Met (xCons 239) := by
  refine xCtx_ok (d := 2) (X := 239) (con := xCons) (opt := xOpt) (hp := xHpt) (hn := xHnt) (cutp := xcC_239) (L := xcL_239) hc hcon (j := 125) (na := 5) (n := 52) (fuel := 100000) (pre := xcP_239) (src := xcS_239) (os := xcO_239) (ms := xcM_239) (ws := xcW_239) (t0 := xcTs_239) (tp := xcTp_239) (by omega) rfl rfl rfl (by decide +kernel) (by decide +kernel) (by decide +kernel) (xEF xk_239_s) (fun ci Tm sr rk hL => ?_)
  match ci, hL with
  | 0, hL => cases hL; exact ⟨xEF xk_239_0, by decide +kernel, by decide +kernel, by decide +kernel⟩
  | n + 1, hL => cases hL
theorem xc_240 (hc : xClo rvTab rvInf rvRet 316 rvMth Gd Met) (hcon : ∀ x, x < 240 → xCon Met (xCons x)) : xCon Met (xCons 240) := by
  refine xCtx_ok (d := 2) (X := 240) (con := xCons) (opt := xOpt) (hp := xHpt) (hn := xHnt) (cutp := xcC_240) (L := xcL_240) hc hcon (j := 126) (na := 5) (n := 52) (fuel := 100000) (pre := xcP_240) (src := xcS_240) (os := xcO_240) (ms := xcM_240) (ws := xcW_240) (t0 := xcTs_240) (tp := xcTp_240) (by omega) rfl rfl rfl (by decide +kernel) (by decide +kernel) (by decide +kernel) (xEF xk_240_s) (fun ci Tm sr rk hL => ?_)
  match ci, hL with
  | 0, hL => cases hL; exact ⟨xEF xk_240_0, by decide +kernel, by decide +kernel, by decide +kernel⟩
  | n + 1, hL => cases hL
theorem xc_241 (hc : xClo rvTab rvInf rvRet 316 rvMth Gd Met) (hcon : ∀ x, x < 241 → xCon Met (xCons x)) : xCon Met (xCons 241) := by
  refine xCtx_ok (d := 2) (X := 241) (con := xCons) (opt := xOpt) (hp := xHpt) (hn := xHnt) (cutp := xcC_241) (L := xcL_241) hc hcon (j := 127) (na := 7) (n := 52) (fuel := 100000) (pre := xcP_241) (src := xcS_241) (os := xcO_241) (ms := xcM_241) (ws := xcW_241) (t0 := xcTs_241) (tp := xcTp_241) (by omega) rfl rfl rfl (by decide +kernel) (by decide +kernel) (by decide +kernel) (xEF xk_241_s) (fun ci Tm sr rk hL => ?_)
  match ci, hL with
  | 0, hL => cases hL; exact ⟨xEF xk_241_0, by decide +kernel, by decide +kernel, by decide +kernel⟩
  | 1, hL => cases hL; exact ⟨xEF xk_241_1, by decide +kernel, by decide +kernel, by decide +kernel⟩
  | 2, hL => cases hL; exact ⟨xEF xk_241_2, by decide +kernel, by decide +kernel, by decide +kernel⟩
  | 3, hL => cases hL; exact ⟨xEF xk_241_3, by decide +kernel, by decide +kernel, by decide +kernel⟩
  | 4, hL => cases hL; exact ⟨xEF xk_241_4, by decide +kernel, by decide +kernel, by decide +kernel⟩
  | n + 5, hL => cases hL
theorem xc_242 (hc : xClo rvTab rvInf rvRet 316 rvMth Gd Met) (hcon : ∀ x, x < 242 → xCon Met (xCons x)) : xCon Met (xCons 242) := by
  refine xCtx_ok (d := 2) (X := 242) (con := xCons) (opt := xOpt) (hp := xHpt) (hn := xHnt) (cutp := xcC_242) (L := xcL_242) hc hcon (j := 128) (na := 8) (n := 52) (fuel := 100000) (pre := xcP_242) (src := xcS_242) (os := xcO_242) (ms := xcM_242) (ws := xcW_242) (t0 := xcTs_242) (tp := xcTp_242) (by omega) rfl rfl rfl (by decide +kernel) (by decide +kernel) (by decide +kernel) (xEF xk_242_s) (fun ci Tm sr rk hL => ?_)
  match ci, hL with
  | 0, hL => cases hL; exact ⟨xEF xk_242_0, by decide +kernel, by decide +kernel, by decide +kernel⟩
  | 1, hL => cases hL; exact ⟨xEF xk_242_1, by decide +kernel, by decide +kernel, by decide +kernel⟩
  | 2, hL => cases hL; exact ⟨xEF xk_242_2, by decide +kernel, by decide +kernel, by decide +kernel⟩
  | 3, hL => cases hL; exact ⟨xEF xk_242_3, by decide +kernel, by decide +kernel, by decide +kernel⟩
  | 4, hL => cases hL; exact ⟨xEF xk_242_4, by decide +kernel, by decide +kernel, by decide +kernel⟩
  | 5, hL => cases hL; exact ⟨xEF xk_242_5, by decide +kernel, by decide +kernel, by decide +kernel⟩
  | 6, hL => cases hL; exact ⟨xEF xk_242_6, by decide +kernel, by decide +kernel, by decide +kernel⟩
  | 7, hL => cases hL; exact ⟨xEF xk_242_7, by decide +kernel, by decide +kernel, by decide +kernel⟩
  | n + 8, hL => cases hL
end XCC
