section XCC
variable {Gd : Nat → (xRes2 → Prop) → rvS → Prop} {Met : Nat → List rvV → rvH → (xRes2 → Prop) → Prop}
theorem xc_119 (hc : xClo rvTab rvInf rvRet 316 rvMth Gd Met) (hcon : ∀ x, x < 119 → xCon Met (xCons x)) : xCon Met (xCons 119) := by
  refine xCtx_ok (d := 2) (X := 119) (con := xCons) (opt := xOpt) (hp := xHpt) (hn := xHnt) (cutp := xcC_119) (L := xcL_119) hc hcon (j := 70) (na := 18) (n := 52) (fuel := 100000) (pre := xcP_119) (src := xcS_119) (os := xcO_119) (ms := xcM_119) (ws := xcW_119) (t0 := xcTs_119) (tp := xcTp_119) (by omega) rfl rfl rfl (by decide +kernel) (by decide +kernel) (by decide +kernel) (xEF xk_119_s) (fun ci Tm sr rk hL => ?_)
  match ci, hL with
  | 0, hL => cases hL; exact ⟨xEF xk_119_0, by decide +kernel, by decide +kernel, by decide +kernel⟩
  | 1, hL => cases hL; exact ⟨xEF xk_119_1, by decide +kernel, by decide +kernel, by decide +kernel⟩
  | 2, hL => cases hL; exact ⟨xEF xk_119_2, by decide +kernel, by decide +kernel, by decide +kernel⟩
  | 3, hL => cases hL; exact ⟨xEF xk_119_3, by decide +kernel, by decide +kernel, by decide +kernel⟩
  | n + 4, hL => cases hL
theorem xc_120 (hc : xClo rvTab rvInf rvRet 316 rvMth Gd Met) (hcon : ∀ x, x < 120 → xCon Met (xCons x)) : xCon Met (xCons 120) := by
  refine xCtx_ok (d := 2) (X := 120) (con := xCons) (opt := xOpt) (hp := xHpt) (hn := xHnt) (cutp := xcC_120) (L := xcL_120) hc hcon (j := 70) (na := 18) (n := 52) (fuel := 100000) (pre := xcP_120) (src := xcS_120) (os := xcO_120) (ms := xcM_120) (ws := xcW_120) (t0 := xcTs_120) (tp := xcTp_120) (by omega) rfl rfl rfl (by decide +kernel) (by decide +kernel) (by decide +kernel) (xEF xk_120_s) (fun ci Tm sr rk hL => ?_)
  match ci, hL with
  | 0, hL => cases hL; exact ⟨xEF xk_120_0, by decide +kernel, by decide +kernel, by decide +kernel⟩
  | 1, hL => cases hL; exact ⟨xEF xk_120_1, by decide +kernel, by decide +kernel, by decide +kernel⟩
  | 2, hL => cases hL; exact ⟨xEF xk_120_2, by decide +kernel, by decide +kernel, by decide +kernel⟩
  | 3, hL => cases hL; exact ⟨xEF xk_120_3, by decide +kernel, by decide +kernel, by decide +kernel⟩
  | 4, hL => cases hL; exact ⟨xEF xk_120_4, by decide +kernel, by decide +kernel, by decide +kernel⟩
  | n + 5, hL => cases hL
theorem xc_121 (hc : xClo rvTab rvInf rvRet 316 rvMth Gd Met) (hcon : ∀ x, x < 121 → xCon Met (xCons x)) : xCon Met (xCons 121) := by
  refine xCtx_ok (d := 2) (X := 121) (con := xCons) (opt := xOpt) (hp := xHpt) (hn := xHnt) (cutp := xcC_121) (L := xcL_121) hc hcon (j := 70) (na := 18) (n := 52) (fuel := 100000) (pre := xcP_121) (src := xcS_121) (os := xcO_121) (ms := xcM_121) (ws := xcW_121) (t0 := xcTs_121) (tp := xcTp_121) (by omega) rfl rfl rfl (by decide +kernel) (by decide +kernel) (by decide +kernel) (xEF xk_121_s) (fun ci Tm sr rk hL => ?_)
  match ci, hL with
  | 0, hL => cases hL; exact ⟨xEF xk_121_0, by decide +kernel, by decide +kernel, by decide +kernel⟩
  | 1, hL => cases hL; exact ⟨xEF xk_121_1, by decide +kernel, by decide +kernel, by decide +kernel⟩
  | 2, hL => cases hL; exact ⟨xEF xk_121_2, by decide +kernel, by decide +kernel, by decide +kernel⟩
  | 3, hL => cases hL; exact ⟨xEF xk_121_3, by decide +kernel, by decide +kernel, by decide +kernel⟩
  | 4, hL => cases hL; exact ⟨xEF xk_121_4, by decide +kernel, by decide +kernel, by decide +kernel⟩
  | n + 5, hL => cases hL
theorem xc_122 (hc : xClo rvTab rvInf rvRet 316 rvMth Gd Met) (hcon : ∀ x, x < 122 → xCon Met (xCons x)) : xCon Met (xCons 122) := by
  refine xCtx_ok (d := 2) (X := 122) (con := xCons) (opt := xOpt) (hp := xHpt) (hn := xHnt) (cutp := xcC_122) (L := xcL_122) hc hcon (j := 70) (na := 18) (n := 52) (fuel := 100000) (pre := xcP_122) (src := xcS_122) (os := xcO_122) (ms := xcM_122) (ws := xcW_122) (t0 := xcTs_122) (tp := xcTp_122) (by omega) rfl rfl rfl (by decide +kernel) (by decide +kernel) (by decide +kernel) (xEF xk_122_s) (fun ci Tm sr rk hL => ?_)
  match ci, hL with
  | 0, hL => cases hL; exact ⟨xEF xk_122_0, by decide +kernel, by decide +kernel, by decide +kernel⟩
  | 1, hL => cases hL; exact ⟨xEF xk_122_1, by decide +kernel, by decide +kernel, by decide +kernel⟩
  | 2, hL => cases hL; exact ⟨xEF xk_122_2, by decide +kernel, by decide +kernel, by decide +kernel⟩
  | 3, hL => cases hL; exact ⟨xEF xk_122_3, by decide +kernel, by decide +kernel, by decide +kernel⟩
  | 4, hL => cases hL; exact ⟨xEF xk_122_4, by decide +kernel, by decide +kernel, by decide +kernel⟩
  | 5, hL => cases hL; exact ⟨xEF xk_122_5, by decide +kernel, by decide +kernel, by decide +kernel⟩
  | n + 6, hL => cases hL
theorem xc_123 (hc : xClo rvTab rvInf rvRet 316 rvMth Gd Met) (hcon : ∀ x, x < 123 → xCon Met (xCons x)) : xCon Met (xCons 123) := by
  refine xCtx_ok (d := 2) (X := 123) (con := xCons) (opt := xOpt) (hp := xHpt) (hn := xHnt) (cutp := xcC_123) (L := xcL_123) hc hcon (j := 70) (na := 18) (n := 52) (fuel := 100000) (pre := xcP_123) (src := xcS_123) (os := xcO_123) (ms := xcM_123) (ws := xcW_123) (t0 := xcTs_123) (tp := xcTp_123) (by omega) rfl rfl rfl (by decide +kernel) (by decide +kernel) (by decide +kernel) (xEF xk_123_s) (fun ci Tm sr rk hL => ?_)
  match ci, hL with
  | 0, hL => cases hL; exact ⟨xEF xk_123_0, by decide +kernel, by decide +kernel, by decide +kernel⟩
  | 1, hL => cases hL; exact ⟨xEF xk_123_1, by decide +kernel, by decide +kernel, by decide +kernel⟩
  | 2, hL => cases hL; exact ⟨xEF xk_123_2, by decide +kernel, by decide +kernel, by decide +kernel⟩
  | 3, hL => cases hL; exact ⟨xEF xk_123_3, by decide +kernel, by decide +kernel, by decide +kernel⟩
  | 4, hL => cases hL; exact ⟨xEF xk_123_4, by decide +kernel, by decide +kernel, by decide +kernel⟩
  | 5, hL => cases hL; exact ⟨xEF xk_123_5, by decide +kernel, by decide +kernel, by decide +kernel⟩
  | n + 6, hL => cases hL
theorem xc_124 (hc : xClo rvTab rvInf rvRet 316 rvMth Gd Met) (hcon : ∀ x, x < 124 → xCon Met (xCons x)) : xCon Met (xCons 124) := by
  refine xCtx_ok (d := 2) (X := 124) (con := xCons) (opt := xOpt) (hp := xHpt) (hn := xHnt) (cutp := xcC_124) (L := xcL_124) hc hcon (j := 70) (na := 18) (n := 52) (fuel := 100000) (pre := xcP_124) (src := xcS_124) (os := xcO_124) (ms := xcM_124) (ws := xcW_124) (t0 := xcTs_124) (tp := xcTp_124) (by omega) rfl rfl rfl (by decide +kernel) (by decide +kernel) (by decide +kernel) (xEF xk_124_s) (fun ci Tm sr rk hL => ?_)
  match ci, hL with
  | 0, hL => cases hL; exact ⟨xEF xk_124_0, by decide +kernel, by decide +kernel, by decide +kernel⟩
  | 1, hL => cases hL; exact ⟨xEF xk_124_1, by decide +kernel, by decide +kernel, by decide +kernel⟩
  | 2, hL => cases hL; exact ⟨xEF xk_124_2, by decide +kernel, by decide +kernel, by decide +kernel⟩
  | 3, hL => cases hL; exact ⟨xEF xk_124_3, by decide +kernel, by decide +kernel, by decide +kernel⟩
  | 4, hL => cases hL; exact ⟨xEF xk_124_4, by decide +kernel, by decide +kernel, by decide +kernel⟩
  | 5, hL => cases hL; exact ⟨xEF xk_124_5, by decide +kernel, by decide +kernel, by decide +kernel⟩
  | 6, hL => cases hL; exact ⟨xEF xk_124_6, by decide +kernel, by decide +kernel, by decide +kernel⟩
  | n + 7, hL => cases hL
theorem xc_125 (hc : xClo rvTab rvInf rvRet 316 rvMth Gd Met) (hcon : ∀ x, x < 125 → xCon Met (xCons x)) : xCon Met (xCons 125) := by
  refine xCtx_ok (d := 2) (X := 125) (con := xCons) (opt := xOpt) (hp := xHpt) (hn := xHnt) (cutp := xcC_125) (L := xcL_125) hc hcon (j := 70) (na := 18) (n := 52) (fuel := 100000) (pre := xcP_125) (src := xcS_125) (os := xcO_125) (ms := xcM_125) (ws := xcW_125) (t0 := xcTs_125) (tp := xcTp_125) (by omega) rfl rfl rfl (by decide +kernel) (by decide +kernel) (by decide +kernel) (xEF xk_125_s) (fun ci Tm sr rk hL => ?_)
  match ci, hL with
  | 0, hL => cases hL; exact ⟨xEF xk_125_0, by decide +kernel, by decide +kernel, by decide +kernel⟩
  | 1, hL => cases hL; exact ⟨xEF xk_125_1, by decide +kernel, by decide +kernel, by decide +kernel⟩
  | 2, hL => cases hL; exact ⟨xEF xk_125_2, by decide +kernel, by decide +kernel, by decide +kernel⟩
  | 3, hL => cases hL; exact ⟨xEF xk_125_3, by decide +kernel, by decide +kernel, by decide +kernel⟩
  | 4, hL => cases hL; exact ⟨xEF xk_125_4, by decide +kernel, by decide +kernel, by decide +kernel⟩
  | 5, hL => cases hL; exact ⟨xEF xk_125_5, by decide +kernel, by decide +kernel, by decide +kernel⟩
  | 6, hL => cases hL; exact ⟨xEF xk_125_6, by decide +kernel, by decide +kernel, by decide +kernel⟩
  | n + 7, hL => cases hL
theorem xc_126 (hc : xClo rvTab rvInf rvRet 316 rvMth Gd Met) (hcon : ∀ x, x < 126 → xCon Met (xCons x)) : xCon Met (xCons 126) := by
  refine xCtx_ok (d := 2) (X := 126) (con := xCons) (opt := xOpt) (hp := xHpt) (hn := xHnt) (cutp := xcC_126) (L := xcL_126) hc hcon (j := 70) (na := 18) (n := 52) (fuel := 100000) (pre := xcP_126) (src := xcS_126) (os := xcO_126) (ms := xcM_126) (ws := xcW_126) (t0 := xcTs_126) (tp := xcTp_126) (by omega) rfl rfl rfl (by decide +kernel) (by decide +kernel) (by decide +kernel) (xEF xk_126_s) (fun ci Tm sr rk hL => ?_)
  match ci, hL with
  | 0, hL => cases hL; exact ⟨xEF xk_126_0, by decide +kernel, by decide +kernel, by decide +kernel⟩
  | 1, hL => cases hL; exact ⟨xEF xk_126_1, by decide +kernel, by decide +kernel, by decide +kernel⟩
  | 2, hL => cases hL; exact ⟨xEF xk_126_2, by decide +kernel, by decide +kernel, by decide +kernel⟩
  | 3, hL => cases hL; exact ⟨xEF xk_126_3, by decide +kernel, by decide +kernel, by decide +kernel⟩
  | 4, hL => cases hL; exact ⟨xEF xk_126_4, by decide +kernel, by decide +kernel, by decide +kernel⟩
  | 5, hL => cases hL; exact ⟨xEF xk_126_5, by decide +kernel, by decide +kernel, by decide +kernel⟩
  | 6, hL => cases hL; exact ⟨xEF xk_126_6, by decide +kernel, by decide +kernel, by decide +kernel⟩
  | 7, hL => cases hL; exact ⟨xEF xk_126_7, by decide +kernel, by decide +kernel, by decide +kernel⟩
  | n + 8, hL => cases hL
theorem xc_127 (hc : xClo rvTab rvInf rvRet 316 rvMth Gd Met) (hcon : ∀ x, x < 127 → xCon Met (xCons x)) : xCon Met (xCons 127) := by
  refine xCtx_ok (d := 2) (X := 127) (con := xCons) (opt := xOpt) (hp := xHpt) (hn := xHnt) (cutp := xcC_127) (L := xcL_127) hc hcon (j := 70) (na := 18) (n := 52) (fuel := 100000) (pre := xcP_127) (src := xcS_127) (os := xcO_127) (ms := xcM_127) (ws := xcW_127) (t0 := xcTs_127) (tp := xcTp_127) (by omega) rfl rfl rfl (by decide +kernel) (by decide +kernel) (by decide +kernel) (xEF xk_127_s) (fun ci Tm sr rk hL => ?_)
  match ci, hL with
  | 0, hL => cases hL; exact ⟨xEF xk_127_0, by decide +kernel, by decide +kernel, by decide +kernel⟩
  | 1, hL => cases hL; exact ⟨xEF xk_127_1, by decide +kernel, by decide +kernel, by decide +kernel⟩
  | 2, hL => cases hL; exact ⟨xEF xk_127_2, by decide +kernel, by decide +kernel, by decide +kernel⟩
  | 3, hL => cases hL; exact ⟨xEF xk_127_3, by decide +kernel, by decide +kernel, by decide +kernel⟩
  | 4, hL => cases hL; exact ⟨xEF xk_127_4, by decide +kernel, by decide +kernel, by decide +kernel⟩
  | 5, hL => cases hL; exact ⟨xEF xk_127_5, by decide +kernel, by decide +kernel, by decide +kernel⟩
  | 6, hL => cases hL; exact ⟨xEF xk_127_6, by decide +kernel, by decide +kernel, by decide +kernel⟩
  | 7, hL => cases hL; exact ⟨xEF xk_127_7, by decide +kernel, by decide +kernel, by decide +kernel⟩
  | n + 8, hL => cases hL
theorem xc_128 (hc : xClo rvTab rvInf rvRet 316 rvMth Gd Met) (hcon : ∀ x, x < 128 → xCon Met (xCons x)) : xCon Met (xCons 128) := by
  refine xCtx_ok (d := 2) (X := 128) (con := xCons) (opt := xOpt) (hp := xHpt) (hn := xHnt) (cutp := xcC_128) (L := xcL_128) hc hcon (j := 70) (na := 18) (n := 52) (fuel := 100000) (pre := xcP_128) (src := xcS_128) (os := xcO_128) (ms := xcM_128) (ws := xcW_128) (t0 := xcTs_128) (tp := xcTp_128) (by omega) rfl rfl rfl (by decide +kernel) (by decide +kernel) (by decide +kernel) (xEF xk_128_s) (fun ci Tm sr rk hL => ?_)
  match ci, hL with
  | 0, hL => cases hL; exact ⟨xEF xk_128_0, by decide +kernel, by decide +kernel, by decide +kernel⟩
  | 1, hL => cases hL; exact ⟨xEF xk_128_1, by decide +kernel, by decide +kernel, by decide +kernel⟩
  | 2, hL => cases hL; exact ⟨xEF xk_128_2, by decide +kernel, by decide +kernel, by decide +kernel⟩
  | 3, hL => cases hL; exact ⟨xEF xk_128_3, by decide +kernel, by decide +kernel, by decide +kernel⟩
  | 4, hL => cases hL; exact ⟨xEF xk_128_4, by decide +kernel, by decide +kernel, by decide +kernel⟩
  | 5, hL => cases hL; exact ⟨xEF xk_128_5, by decide +kernel, by decide +kernel, by decide +kernel⟩
  | 6, hL => cases hL; exact ⟨xEF xk_128_6, by decide +kernel, by decide +kernel, by decide +kernel⟩
  | 7, hL => cases hL; exact ⟨xEF xk_128_7, by decide +kernel, by decide +kernel, by decide +kernel⟩
  | 8, hL => cases hL; exact ⟨xEF xk_128_8, by decide +kernel, by decide +kernel, by decide +kernel⟩
  | n + 9, hL => cases hL
theorem xc_129 (hc : xClo rvTab rvInf rvRet 316 rvMth Gd Met) (hcon : ∀ x, x < 129 → xCon Met (xCons x)) : xCon Met (xCons 129) := by
  refine xCtx_ok (d := 2) (X := 129) (con := xCons) (opt := xOpt) (hp := xHpt) (hn := xHnt) (cutp := xcC_129) (L := xcL_129) hc hcon (j := 70) (na := 18) (n := 52) (fuel := 100000) (pre := xcP_129) (src := xcS_129) (os := xcO_129) (ms := xcM_129) (ws := xcW_129) (t0 := xcTs_129) (tp := xcTp_129) (by omega) rfl rfl rfl (by decide +kernel) (by decide +kernel) (by decide +kernel) (xEF xk_129_s) (fun ci Tm sr rk hL => ?_)
  match ci, hL with
  | 0, hL => cases hL; exact ⟨xEF xk_129_0, by decide +kernel, by decide +kernel, by decide +kernel⟩
  | 1, hL => cases hL; exact ⟨xEF xk_129_1, by decide +kernel, by decide +kernel, by decide +kernel⟩
  | 2, hL => cases hL; exact ⟨xEF xk_129_2, by decide +kernel, by decide +kernel, by decide +kernel⟩
  | 3, hL => cases hL; exact ⟨xEF xk_129_3, by decide +kernel, by decide +kernel, by decide +kernel⟩
  | 4, hL => cases hL; exact ⟨xEF xk_129_4, by decide +kernel, by decide +kernel, by decide +kernel⟩
  | 5, hL => cases hL; exact ⟨xEF xk_129_5, by decide +kernel, by decide +kernel, by decide +kernel⟩
  | 6, hL => cases hL; exact ⟨xEF xk_129_6, by decide +kernel, by decide +kernel, by decide +kernel⟩
  | 7, hL => cases hL; exact ⟨xEF xk_129_7, by decide +kernel, by decide +kernel, by decide +kernel⟩
  | 8, hL => cases hL; exact ⟨xEF xk_129_8, by decide +kernel, by decide +kernel, by decide +kernel⟩
  | n + 9, hL => cases hL
theorem xc_130 (hc : xClo rvTab rvInf rvRet 316 rvMth Gd Met) (hcon : ∀ x, x < 130 → xCon Met (xCons x)) : xCon Met (xCons 130) := by
  refine xCtx_ok (d := 2) (X := 130) (con := xCons) (opt := xOpt) (hp := xHpt) (hn := xHnt) (cutp := xcC_130) (L := xcL_130) hc hcon (j := 70) (na := 18) (n := 52) (fuel := 100000) (pre := xcP_130) (src := xcS_130) (os := xcO_130) (ms := xcM_130) (ws := xcW_130) (t0 := xcTs_130) (tp := xcTp_130) (by omega) rfl rfl rfl (by decide +kernel) (by decide +kernel) (by decide +kernel) (xEF xk_130_s) (fun ci Tm sr rk hL => ?_)
  match ci, hL with
  | 0, hL => cases hL; exact ⟨xEF xk_130_0, by decide +kernel, by decide +kernel, by decide +kernel⟩
  | 1, hL => cases hL; exact ⟨xEF xk_130_1, by decide +kernel, by decide +kernel, by decide +kernel⟩
  | n + 2, hL => cases hL
theorem xc_131 (hc : xClo rvTab rvInf rvRet 316 rvMth Gd Met) (hcon : ∀ x, x < 131 → xCon Met (xCons x)) : xCon Met (xCons 131) := by
  refine xCtx_ok (d := 2) (X := 131) (con := xCons) (opt := xOpt) (hp := xHpt) (hn := xHnt) (cutp := xcC_131) (L := xcL_131) hc hcon (j := 72) (na := 7) (n := 52) (fuel := 100000) (pre := xcP_131) (src := xcS_131) (os := xcO_131) (ms := xcM_131) (ws := xcW_131) (t0 := xcTs_131) (tp := xcTp_131) (by omega) rfl rfl rfl (by decide +kernel) (by decide +kernel) (by decide +kernel) (xEF xk_131_s) (fun ci Tm sr rk hL => ?_)
  match ci, hL with
  | 0, hL => cases hL; exact ⟨xEF xk_131_0, by decide +kernel, by decide +kernel, by decide +kernel⟩
  | 1, hL => cases hL; exact ⟨xEF xk_131_1, by decide +kernel, by decide +kernel, by decide +kernel⟩
  | 2, hL => cases hL; exact ⟨xEF xk_131_2, by decide +kernel, by decide +kernel, by decide +kernel⟩
  | 3, hL => cases hL; exact ⟨xEF xk_131_3, by decide +kernel, by decide +kernel, by decide +kernel⟩
  | 4, hL => cases hL; exact ⟨xEF xk_131_4, by decide +kernel, by decide +kernel, by decide +kernel⟩
  | 5, hL => cases hL; exact ⟨xEF xk_131_5, by decide +kernel, by decide +kernel, by decide +kernel⟩
  | 6, hL => cases hL; exact ⟨xEF xk_131_6, by decide +kernel, by decide +kernel, by decide +kernel⟩
  | 7, hL => cases hL; exact ⟨xEF xk_131_7, by decide +kernel, by decide +kernel, by decide +kernel⟩
  | 8, hL => cases hL; exact ⟨xEF xk_131_8, by decide +kernel, by decide +kernel, by decide +kernel⟩
  | 9, hL => cases hL; exact ⟨xEF xk_131_9, by decide +kernel, by decide +kernel, by decide +kernel⟩
  | 10, hL => cases hL; exact ⟨xEF xk_131_10, by decide +kernel, by decide +kernel, by decide +kernel⟩
  | 11, hL => cases hL; exact ⟨xEF xk_131_11, by decide +kernel, by decide +kernel, by decide +kernel⟩
  | 12, hL => cases hL; exact ⟨xEF xk_131_12, by decide +kernel, by decide +kernel, by decide +kernel⟩
  | 13, hL => cases hL; exact ⟨xEF xk_131_13, by decide +kernel, by decide +kernel, by decide +kernel⟩
  | 14, hL => cases hL; exact ⟨xEF xk_131_14, by decide +kernel, by decide +kernel, by decide +kernel⟩
  | 15, hL => cases hL; exact ⟨xEF xk_131_15, by decide +kernel, by decide +kernel, by decide +kernel⟩
  | 16, hL => cases hL; exact ⟨xEF xk_131_16, by decide +kernel, by decide +kernel, by decide +kernel⟩
  | 17, hL => cases hL; exact ⟨xEF xk_131_17, by decide +kernel, by decide +kernel, by decide +kernel⟩
  | 18, hL => cases hL; exact ⟨xEF xk_131_18, by decide +kernel, by decide +kernel, by decide +kernel⟩
  | 19, hL => cases hL; exact ⟨xEF xk_131_19, by decide +kernel, by decide +kernel, by decide +kernel⟩
  | 20, hL => cases hL; exact ⟨xEF xk_131_20, by decide +kernel, by decide +kernel, by decide +kernel⟩
  | 21, hL => cases hL; exact ⟨xEF xk_131_21, by decide +kernel, by decide +kernel, by decide +kernel⟩
  | 22, hL => cases hL; exact ⟨xEF xk_131_22, by decide +kernel, by decide +kernel, by decide +kernel⟩
  | 23, hL => cases hL; exact ⟨xEF xk_131_23, by decide +kernel, by decide +kernel, by decide +kernel⟩
  | 24, hL => cases hL; exact ⟨xEF xk_131_24, by decide +kernel, by decide +kernel, by decide +kernel⟩
  | 25, hL => cases hL; exact ⟨xEF xk_131_25, by decide +kernel, by decide +kernel, by decide +kernel⟩
  | 26, hL => cases hL; exact ⟨xEF xk_131_26, by decide +kernel, by decide +kernel, by decide +kernel⟩
  | 27, hL => cases hL; exact ⟨xEF xk_131_27, by decide +kernel, by decide +kernel, by decide +kernel⟩
  | 28, hL => cases hL; exact ⟨xEF xk_131_28, by decide +kernel, by decide +kernel, by decide +kernel⟩
  | 29, hL => cases hL; exact ⟨xEF xk_131_29, by decide +kernel, by decide +kernel, by decide +kernel⟩
  | 30, hL => cases hL; exact ⟨xEF xk_131_30, by decide +kernel, by decide +kernel, by decide +kernel⟩
  | 31, hL => cases hL; exact ⟨xEF xk_131_31, by decide +kernel, by decide +kernel, by decide +kernel⟩
  | 32, hL => cases hL; exact ⟨xEF xk_131_32, by decide +kernel, by decide +kernel, by decide +kernel⟩
  | 33, hL => cases hL; exact ⟨xEF xk_131_33, by decide +kernel, by decide +kernel, by decide +kernel⟩
  | 34, hL => cases hL; exact ⟨xEF xk_131_34, by decide +kernel, by decide +kernel, by decide +kernel⟩
  | 35, hL => cases hL; exact ⟨xEF xk_131_35, by decide +kernel, by decide +kernel, by decide +kernel⟩
  | 36, hL => cases hL; exact ⟨xEF xk_131_36, by decide +kernel, by decide +kernel, by decide +kernel⟩
  | 37, hL => cases hL; exact ⟨xEF xk_131_37, by decide +kernel, by decide +kernel, by decide +kernel⟩
  | 38, hL => cases hL; exact ⟨xEF xk_131_38, by decide +kernel, by decide +kernel, by decide +kernel⟩
  | 39, hL => cases hL; exact ⟨xEF xk_131_39, by decide +kernel, by decide +kernel, by decide +kernel⟩
  | 40, hL => cases hL; exact ⟨xEF xk_131_40, by decide +kernel, by decide +kernel, by decide +kernel⟩
  | 41, hL => cases hL; exact ⟨xEF xk_131_41, by decide +kernel, by decide +kernel, by decide +kernel⟩
  | 42, hL => cases hL; exact ⟨xEF xk_131_42, by decide +kernel, by decide +kernel, by decide +kernel⟩
  | 43, hL => cases hL; exact ⟨xEF xk_131_43, by decide +kernel, by decide +kernel, by decide +kernel⟩
  | 44, hL => cases hL; exact ⟨xEF xk_131_44, by decide +kernel, by decide +kernel, by decide +kernel⟩
  | 45, hL => cases hL; exact ⟨xEF xk_131_45, by decide +kernel, by decide +kernel, by decide +kernel⟩
  | 46, hL => cases hL; exact ⟨xEF xk_131_46, by decide +kernel, by decide +kernel, by decide +kernel⟩
  | 47, hL => cases hL; exact ⟨xEF xk_131_47, by decide +kernel, by decide +kernel, by decide +kernel⟩
  | 48, hL => cases hL; exact ⟨xEF xk_131_48, by decide +kernel, by decide +kernel, by decide +kernel⟩
  | 49, hL => cases hL; exact ⟨xEF xk_131_49, by decide +kernel, by decide +kernel, by decide +kernel⟩
  | 50, hL => cases hL; exact ⟨xEF xk_131_50, by decide +kernel, by decide +kernel, by decide +kernel⟩
  | 51, hL => cases hL; exact ⟨xEF xk_131_51, by decide +kernel, by decide +kernel, by decide +kernel⟩
  | 52, hL => cases hL; exact ⟨xEF xk_131_52, by decide +kernel, by decide +kernel, by decide +kernel⟩
  | 53, hL => cases hL; exact ⟨xEF xk_131_53, by decide +kernel, by decide +kernel, by decide +kernel⟩
  | 54, hL => cases hL; exact ⟨xEF xk_131_54, by decide +kernel, by decide +kernel, by decide +kernel⟩
  | 55, hL => cases hL; exact ⟨xEF xk_131_55, by decide +kernel, by decide +kernel, by decide +kernel⟩
  | 56, hL => cases hL; exact ⟨xEF xk_131_56, by decide +kernel, by decide +kernel, by decide +kernel⟩
  | 57, hL => cases hL; exact ⟨xEF xk_131_57, by decide +kernel, by decide +kernel, by decide +kernel⟩
  | 58, hL => cases hL; exact ⟨xEF xk_131_58, by decide +kernel, by decide +kernel, by decide +kernel⟩
  | 59, hL => cases hL; exact ⟨xEF xk_131_59, by decide +kernel, by decide +kernel, by decide +kernel⟩
  | 60, hL => cases hL; exact ⟨xEF xk_131_60, by decide +kernel, by decide +kernel, by decide +kernel⟩
  | 61, hL => cases hL; exact ⟨xEF xk_131_61, by decide +kernel, by decide +kernel, by decide +kernel⟩
  | 62, hL => cases hL; exact ⟨xEF xk_131_62, by decide +kernel, by decide +kernel, by decide +kernel⟩
  | 63, hL => cases hL; exact ⟨xEF xk_131_63, by decide +kernel, by decide +kernel, by decide +kernel⟩
  | 64, hL => cases hL; exact ⟨xEF xk_131_64, by decide +kernel, by decide +kernel, by decide +kernel⟩
  | 65, hL => cases hL; exact ⟨xEF xk_131_65, by decide +kernel, by decide +kernel, by decide +kernel⟩
  | 66, hL => cases hL; exact ⟨xEF xk_131_66, by decide +kernel, by decide +kernel, by decide +kernel⟩
  | 67, hL => cases hL; exact ⟨xEF xk_131_67, by decide +kernel, by decide +kernel, by decide +kernel⟩
  | 68, hL => cases hL; exact ⟨xEF xk_131_68, by decide +kernel, by decide +kernel, by decide +kernel⟩
  | 69, hL => cases hL; exact ⟨xEF xk_131_69, by decide +kernel, by decide +kernel, by decide +kernel⟩
  | 70, hL => cases hL; exact ⟨xEF xk_131_70, by decide +kernel, by decide +kernel, by decide +kernel⟩
  | 71, hL => cases hL; exact ⟨xEF xk_131_71, by decide +kernel, by decide +kernel, by decide +kernel⟩
  | 72, hL => cases hL; exact ⟨xEF xk_131_72, by decide +kernel, by decide +kernel, by decide +kernel⟩
  | 73, hL => cases hL; exact ⟨xEF xk_131_73, by decide +kernel, by decide +kernel, by decide +kernel⟩
  | 74, hL => cases hL; exact ⟨xEF xk_131_74, by decide +kernel, by decide +kernel, by decide +kernel⟩
  | 75, hL => cases hL; exact ⟨xEF xk_131_75, by decide +kernel, by decide +kernel, by decide +kernel⟩
  | 76, hL => cases hL; exact ⟨xEF xk_131_76, by decide +kernel, by decide +kernel, by decide +kernel⟩
  | 77, hL => cases hL; exact ⟨xEF xk_131_77, by decide +kernel, by decide +kernel, by decide +kernel⟩
  | 78, hL => cases hL; exact ⟨xEF xk_131_78, by decide +kernel, by decide +kernel, by decide +kernel⟩
  | 79, hL => cases hL; exact ⟨xEF xk_131_79, by decide +kernel, by decide +kernel, by decide +kernel⟩
  | 80, hL => cases hL; exact ⟨xEF xk_131_80, by decide +kernel, by decide +kernel, by decide +kernel⟩
  | 81, hL => cases hL; exact ⟨xEF xk_131_81, by decide +kernel, by decide +kernel, by decide +kernel⟩
  | 82, hL => cases hL; exact ⟨xEF xk_131_82, by decide +kernel, by decide +kernel, by decide +kernel⟩
  | 83, hL => cases hL; exact ⟨xEF xk_131_83, by decide +kernel, by decide +kernel, by decide +kernel⟩
  | 84, hL => cases hL; exact ⟨xEF xk_131_84, by decide +kernel, by decide +kernel, by decide +kernel⟩
  | 85, hL => cases hL; exact ⟨xEF xk_131_85, by decide +kernel, by decide +kernel, by decide +kernel⟩
  | 86, hL => cases hL; exact ⟨xEF xk_131_86, by decide +kernel, by decide +kernel, by decide +kernel⟩
  | 87, hL => cases hL; exact ⟨xEF xk_131_87, by decide +kernel, by decide +kernel, by decide +kernel⟩
  | 88, hL => cases hL; exact ⟨xEF xk_131_88, by decide +kernel, by decide +kernel, by decide +kernel⟩
  | 89, hL => cases hL; exact ⟨xEF xk_131_89, by decide +kernel, by decide +kernel, by decide +kernel⟩
  | 90, hL => cases hL; exact ⟨xEF xk_131_90, by decide +kernel, by decide +kernel, by decide +kernel⟩
  | 91, hL => cases hL; exact ⟨xEF xk_131_91, by decide +kernel, by decide +kernel, by decide +kernel⟩
  | 92, hL => cases hL; exact ⟨xEF xk_131_92, by decide +kernel, by decide +kernel, by decide +kernel⟩
  | 93, hL => cases hL; exact ⟨xEF xk_131_93, by decide +kernel, by decide +kernel, by decide +kernel⟩
  | 94, hL => cases hL; exact ⟨xEF xk_131_94, by decide +kernel, by decide +kernel, by decide +kernel⟩
  | 95, hL => cases hL; exact ⟨xEF xk_131_95, by decide +kernel, by decide +kernel, by decide +kernel⟩
  | 96, hL => cases hL; exact ⟨xEF xk_131_96, by decide +kernel, by decide +kernel, by decide +kernel⟩
  | 97, hL => cases hL; exact ⟨xEF xk_131_97, by decide +kernel, by decide +kernel, by decide +kernel⟩
  | 98, hL => cases hL; exact ⟨xEF xk_131_98, by decide +kernel, by decide +kernel, by decide +kernel⟩
  | 99, hL => cases hL; exact ⟨xEF xk_131_99, by decide +kernel, by decide +kernel, by decide +kernel⟩
  | 100, hL => cases hL; exact ⟨xEF xk_131_100, by decide +kernel, by decide +kernel, by decide +kernel⟩
  | 101, hL => cases hL; exact ⟨xEF xk_131_101, by decide +kernel, by decide +kernel, by decide +kernel⟩
  | n + 102, hL => cases hL
theorem xc_132 (hc : xClo rvTab rvInf rvRet 316 rvMth Gd Met) (hcon : ∀ x, x < 132 → xCon Met (xCons x)) : xCon Met (xCons 132) := by
  refine xCtx_ok (d := 2) (X := 132) (con := xCons) (opt := xOpt) (hp := xHpt) (hn := xHnt) (cutp := xcC_132) (L := xcL_132) hc hcon (j := 73) (na := 2) (n := 52) (fuel := 100000) (pre := xcP_132) (src := xcS_132) (os := xcO_132) (ms := xcM_132) (ws := xcW_132) (t0 := xcTs_132) (tp := xcTp_132) (by omega) rfl rfl rfl (by decide +kernel) (by decide +kernel) (by decide +kernel) (xEF xk_132_s) (fun ci Tm sr rk hL => ?_)
  match ci, hL with
  | 0, hL => cases hL; exact ⟨xEF xk_132_0, by decide +kernel, by decide +kernel, by decide +kernel⟩
  | n + 1, hL => cases hL
theorem xc_133 (hc : xClo rvTab rvInf rvRet 316 rvMth Gd Met) (hcon : ∀ x, x < 133 → xCon Met (xCons x)) : xCon Met (xCons 133) := by
  refine xCtx_ok (d := 2) (X := 133) (con := xCons) (opt := xOpt) (hp := xHpt) (hn := xHnt) (cutp := xcC_133) (L := xcL_133) hc hcon (j := 74) (na := 6) (n := 52) (fuel := 100000) (pre := xcP_133) (src := xcS_133) (os := xcO_133) (ms := xcM_133) (ws := xcW_133) (t0 := xcTs_133) (tp := xcTp_133) (by omega) rfl rfl rfl (by decide +kernel) (by decide +kernel) (by decide +kernel) (xEF xk_133_s) (fun ci Tm sr rk hL => ?_)
  match ci, hL with
  | 0, hL => cases hL; exact ⟨xEF xk_133_0, by decide +kernel, by decide +kernel, by decide +kernel⟩
  | n + 1, hL => cases hL
theorem xc_134 (hc : xClo rvTab rvInf rvRet 316 rvMth Gd Met) (hcon : ∀ x, x < 134 → xCon Met (xCons x)) : xCon Met (xCons 134) := by
  refine xCtx_ok (d := 2) (X := 134) (con := xCons) (opt := xOpt) (hp := xHpt) (hn := xHnt) (cutp := xcC_134) (L := xcL_134) hc hcon (j := 75) (na := 0) (n := 52) (fuel := 100000) (pre := xcP_134) (src := xcS_134) (os := xcO_134) (ms := xcM_134) (ws := xcW_134) (t0 := xcTs_134) (tp := xcTp_134) (by omega) rfl rfl rfl (by decide +kernel) (by decide +kernel) (by decide +kernel) (xEF xk_134_s) (fun ci Tm sr rk hL => ?_)
  match ci, hL with
  | 0, hL => cases hL; exact ⟨xEF xk_134_0, by decide +kernel, by decide +kernel, by decide +kernel⟩
  | n + 1, hL => cases hL
theorem xc_135 (hc : xClo rvTab rvInf rvRet 316 rvMth Gd Met) (hcon : ∀ x, x < 135 → xCon Met (xCons x)) : xCon Met (xCons 135) := by
  refine xCtx_ok (d := 2) (X := 135) (con := xCons) (opt := xOpt) (hp := xHpt) (hn := xHnt) (cutp := xcC_135) (L := xcL_135) hc hcon (j := 76) (na := 4) (n := 52) (fuel := 100000) (pre := xcP_135) (src := xcS_135) (os := xcO_135) (ms := xcM_135) (ws := xcW_135) (t0 := xcTs_135) (tp := xcTp_135) (by omega) rfl rfl rfl (by decide +kernel) (by decide +kernel) (by decide +kernel) (xEF xk_135_s) (fun ci Tm sr rk hL => ?_)
  match ci, hL with
  | n + 0, hL => cases hL
theorem xc_136 (hc : xClo rvTab rvInf rvRet 316 rvMth Gd Met) (hcon : ∀ x, x < 136 → xCon Met (xCons x)) : xCon Met (xCons 136) := by
  refine xCtx_ok (d := 2) (X := 136) (con := xCons) (opt := xOpt) (hp := xHpt) (hn := xHnt) (cutp := xcC_136) (L := xcL_136) hc hcon (j := 77) (na := 4) (n := 52) (fuel := 100000) (pre := xcP_136) (src := xcS_136) (os := xcO_136) (ms := xcM_136) (ws := xcW_136) (t0 := xcTs_136) (tp := xcTp_136) (by omega) rfl rfl rfl (by decide +kernel) (by decide +kernel) (by decide +kernel) (xEF xk_136_s) (fun ci Tm sr rk hL => ?_)
  match ci, hL with
  | n + 0, hL => cases hL
theorem xc_137 (hc : xClo rvTab rvInf rvRet 316 rvMth Gd Met) (hcon : ∀ x, x < 137 → xCon Met (xCons x)) : xCon Met (xCons 137) := by
  refine xCtx_ok (d := 2) (X := 137) (con := xCons) (opt := xOpt) (hp := xHpt) (hn := xHnt) (cutp := xcC_137) (L := xcL_137) hc hcon (j := 78) (na := 4) (n := 52) (fuel := 100000) (pre := xcP_137) (src := xcS_137) (os := xcO_137) (ms := xcM_137) (ws := xcW_137) (t0 := xcTs_137) (tp := xcTp_137) (by omega) rfl rfl rfl (by decide +kernel) (by decide +kernel) (by decide +kernel) (xEF xk_137_s) (fun ci Tm sr rk hL => ?_)
  match ci, hL with
  | 0, hL => cases hL; exact ⟨xEF xk_137_0, by decide +kernel, by decide +kernel, by decide +kernel⟩
  | n + 1, hL => cases hL
theorem xc_138 (hc : xClo rvTab rvInf rvRet 316 rvMth Gd Met) (hcon : ∀ x, x < 138 → xCon Met (xCons x)) : xCon Met (xCons 138) := by
  refine xCtx_ok (d := 2) (X := 138) (con := xCons) (opt := xOpt) (hp := xHpt) (hn := xHnt) (cutp := xcC_138) (L := xcL_138) hc hcon (j := 79) (na := 1) (n := 52) (fuel := 100000) (pre := xcP_138) (src := xcS_138) (os := xcO_138) (ms := xcM_138) (ws := xcW_138) (t0 := xcTs_138) (tp := xcTp_138) (by omega) rfl rfl rfl (by decide +kernel) (by decide +kernel) (by decide +kernel) (xEF xk_138_s) (fun ci Tm sr rk hL => ?_)
  match ci, hL with
  | 0, hL => cases hL; exact ⟨xEF xk_138_0, by decide +kernel, by decide +kernel, by decide +kernel⟩
  | n + 1, hL => cases hL
theorem xc_139 (hc : xClo rvTab rvInf rvRet 316 rvMth Gd Met) (hcon : ∀ x, x < 139 → xCon Met (xCons x)) : xCon Met (xCons 139) := by
  refine xCtx_ok (d := 2) (X := 139) (con := xCons) (opt := xOpt) (hp := xHpt) (hn := xHnt) (cutp := xcC_139) (L := xcL_139) hc hcon (j := 80) (na := 1) (n := 52) (fuel := 100000) (pre := xcP_139) (src := xcS_139) (os := xcO_139) (ms := xcM_139) (ws := xcW_139) (t0 := xcTs_139) (tp := xcTp_139) (by omega) rfl rfl rfl (by decide +kernel) (by decide +kernel) (by decide +kernel) (xEF xk_139_s) (fun ci Tm sr rk hL => ?_)
  match ci, hL with
  | 0, hL => cases hL; exact ⟨xEF xk_139_0, by decide +kernel, by decide +kernel, by decide +kernel⟩
  | n + 1, hL => cases hL
theorem xc_140 (hc : xClo rvTab rvInf rvRet 316 rvMth Gd Met) (hcon : ∀ x, x < 140 → xCon Met (xCons x)) : xCon Met (xCons 140) := by
  refine xCtx_ok (d := 2) (X := 140) (con := xCons) (opt := xOpt) (hp := xHpt) (hn := xHnt) (cutp := xcC_140) (L := xcL_140) hc hcon (j := 80) (na := 1) (n := 52) (fuel := 100000) (pre := xcP_140) (src := xcS_140) (os := xcO_140) (ms := xcM_140) (ws := xcW_140) (t0 := xcTs_140) (tp := xcTp_140) (by omega) rfl rfl rfl (by decide +kernel) (by decide +kernel) (by decide +kernel) (xEF xk_140_s) (fun ci Tm sr rk hL => ?_)
  match ci, hL with
  | 0, hL => cases hL; exact ⟨xEF xk_140_0, by decide +kernel, by decide +kernel, by decide +kernel⟩
  | n + 1, hL => cases hL
theorem xc_141 (hc : xClo rvTab rvInf rvRet 316 rvMth Gd Met) (hcon : ∀ x, x < 141 → xCon Met (xCons x)) : xCon Met (xCons 141) := by
  refine xCtx_ok (d := 2) (X := 141) (con := xCons) (opt := xOpt) (hp := xHpt) (hn := xHnt) (cutp := xcC_141) (L := xcL_141) hc hcon (j := 80) (na := 1) (n := 52) (fuel := 100000) (pre := xcP_141) (src := xcS_141) (os := xcO_141) (ms := xcM_141) (ws := xcW_141) (t0 := xcTs_141) (tp := xcTp_141) (by omega) rfl rfl rfl (by decide +kernel) (by decide +kernel) (by decide +kernel) (xEF xk_141_s) (fun ci Tm sr rk hL => ?_)
  match ci, hL with
  | 0, hL => cases hL; exact ⟨xEF xk_141_0, by decide +kernel, by decide +kernel, by decide +kernel⟩
  | n + 1, hL => cases hL
theorem xc_142 (hc : xClo rvTab rvInf rvRet 316 rvMth Gd Met) (hcon : ∀ x, x < 142 → xCon Met (xCons x)) : xCon Met (xCons 142) := by
  refine xCtx_ok (d := 2) (X := 142) (con := xCons) (opt := xOpt) (hp := xHpt) (hn := xHnt) (cutp := xcC_142) (L := xcL_142) hc hcon (j := 80) (na := 1) (n := 52) (fuel := 100000) (pre := xcP_142) (src := xcS_142) (os := xcO_142) (ms := xcM_142) (ws := xcW_142) (t0 := xcTs_142) (tp := xcTp_142) (by omega) rfl rfl rfl (by decide +kernel) (by decide +kernel) (by decide +kernel) (xEF xk_142_s) (fun ci Tm sr rk hL => ?_)
  match ci, hL with
  | 0, hL => cases hL; exact ⟨xEF xk_142_0, by decide +kernel, by decide +kernel, by decide +kernel⟩
  | n + 1, hL => cases hL
theorem xc_143 (hc : xClo rvTab rvInf rvRet 316 rvMth Gd Met) (hcon : ∀ x, x < 143 → xCon Met (xCons x)) : xCon Met (xCons 143) := by
  refine xCtx_ok (d := 2) (X := 143) (con := xCons) (opt := xOpt) (hp := xHpt) (hn := xHnt) (cutp := xcC_143) (L := xcL_143) hc hcon (j := 80) (na := 1) (n := 52) (fuel := 100000) (pre := xcP_143) (src := xcS_143) (os := xcO_143) (ms := xcM_143) (ws := xcW_143) (t0 := xcTs_143) (tp := xcTp_143) (by omega) rfl rfl rfl (by decide +kernel) (by decide +kernel) (by decide +kernel) (xEF xk_143_s) (fun ci Tm sr rk hL => ?_)
  match ci, hL with
  | 0, hL => cases hL; exact ⟨xEF xk_143_0, by decide +kernel, by decide +kernel, by decide +kernel⟩
  | n + 1, hL => cases hL
theorem xc_144 (hc : xClo rvTab rvInf rvRet 316 rvMth Gd Met) (hcon : ∀ x, x < 144 → xCon Met (xCons x)) : xCon Met (xCons 144) := by
  refine xCtx_ok (d := 2) (X := 144) (con := xCons) (opt := xOpt) (hp := xHpt) (hn := xHnt) (cutp := xcC_144) (L := xcL_144) hc hcon (j := 81) (na := 2) (n := 52) (fuel := 100000) (pre := xcP_144) (src := xcS_144) (os := xcO_144) (ms := xcM_144) (ws := xcW_144) (t0 := xcTs_144) (tp := xcTp_144) (by omega) rfl rfl rfl (by decide +kernel) (by decide +kernel) (by decide +kernel) (xEF xk_144_s) (fun ci Tm sr rk hL => ?_)
  match ci, hL with
  | 0, hL => cases hL; exact ⟨xEF xk_144_0, by decide +kernel, by decide +kernel, by decide +kernel⟩
  | n + 1, hL => cases hL
theorem xc_145 (hc : xClo rvTab rvInf rvRet 316 rvMth Gd Met) (hcon : ∀ x, x < 145 → xCon Met (xCons x)) : xCon Met (xCons 145) := by
  refine xCtx_ok (d := 2) (X := 145) (con := xCons) (opt := xOpt) (hp := xHpt) (hn := xHnt) (cutp := xcC_145) (L := xcL_145) hc hcon (j := 82) (na := 1) (n := 52) (fuel := 100000) (pre := xcP_145) (src := xcS_145) (os := xcO_145) (ms := xcM_145) (ws := xcW_145) (t0 := xcTs_145) (tp := xcTp_145) (by omega) rfl rfl rfl (by decide +kernel) (by decide +kernel) (by decide +kernel) (xEF xk_145_s) (fun ci Tm sr rk hL => ?_)
  match ci, hL with
  | 0, hL => cases hL; exact ⟨xEF xk_145_0, by decide +kernel, by decide +kernel, by decide +kernel⟩
  | 1, hL => cases hL; exact ⟨xEF xk_145_1, by decide +kernel, by decide +kernel, by decide +kernel⟩
  | 2, hL => cases hL; exact ⟨xEF xk_145_2, by decide +kernel, by decide +kernel, by decide +kernel⟩
  | 3, hL => cases hL; exact ⟨xEF xk_145_3, by decide +kernel, by decide +kernel, by decide +kernel⟩
  | 4, hL => cases hL; exact ⟨xEF xk_145_4, by decide +kernel, by decide +kernel, by decide +kernel⟩
  | 5, hL => cases hL; exact ⟨xEF xk_145_5, by decide +kernel, by decide +kernel, by decide +kernel⟩
  | 6, hL => cases hL; exact ⟨xEF xk_145_6, by decide +kernel, by decide +kernel, by decide +kernel⟩
  | 7, hL => cases hL; exact ⟨xEF xk_145_7, by decide +kernel, by decide +kernel, by decide +kernel⟩
  | 8, hL => cases hL; exact ⟨xEF xk_145_8, by decide +kernel, by decide +kernel, by decide +kernel⟩
  | n + 9, hL => cases hL
theorem xc_146 (hc : xClo rvTab rvInf rvRet 316 rvMth Gd Met) (hcon : ∀ x, x < 146 → xCon Met (xCons x)) : xCon Met (xCons 146) := by
  refine xCtx_ok (d := 2) (X := 146) (con := xCons) (opt := xOpt) (hp := xHpt) (hn := xHnt) (cutp := xcC_146) (L := xcL_146) hc hcon (j := 82) (na := 1) (n := 52) (fuel := 100000) (pre := xcP_146) (src := xcS_146) (os := xcO_146) (ms := xcM_146) (ws := xcW_146) (t0 := xcTs_146) (tp := xcTp_146) (by omega) rfl rfl rfl (by decide +kernel) (by decide +kernel) (by decide +kernel) (xEF xk_146_s) (fun ci Tm sr rk hL => ?_)
  match ci, hL with
  | 0, hL => cases hL; exact ⟨xEF xk_146_0, by decide +kernel, by decide +kernel, by decide +kernel⟩
  | 1, hL => cases hL; exact ⟨xEF xk_146_1, by decide +kernel, by decide +kernel, by decide +kernel⟩
  | 2, hL => cases hL; exact ⟨xEF xk_146_2, by decide +kernel, by decide +kernel, by decide +kernel⟩
  | 3, hL => cases hL; exact ⟨xEF xk_146_3, by decide +kernel, by decide +kernel, by decide +kernel⟩
  | 4, hL => cases hL; exact ⟨xEF xk_146_4, by decide +kernel, by decide +kernel, by decide +kernel⟩
  | 5, hL => cases hL; exact ⟨xEF xk_146_5, by decide +kernel, by decide +kernel, by decide +kernel⟩
  | 6, hL => cases hL; exact ⟨xEF xk_146_6, by decide +kernel, by decide +kernel, by decide +kernel⟩
  | 7, hL => cases hL; exact ⟨xEF xk_146_7, by decide +kernel, by decide +kernel, by decide +kernel⟩
  | 8, hL => cases hL; exact ⟨xEF xk_146_8, by decide +kernel, by decide +kernel, by decide +kernel⟩
  | n + 9, hL => cases hL
theorem xc_147 (hc : xClo rvTab rvInf rvRet 316 rvMth Gd Met) (hcon : ∀ x, x < 147 → xCon Met (xCons x)) : xCon Met (xCons 147) := by
  refine xCtx_ok (d := 2) (X := 147) (con := xCons) (opt := xOpt) (hp := xHpt) (hn := xHnt) (cutp := xcC_147) (L := xcL_147) hc hcon (j := 82) (na := 1) (n := 52) (fuel := 100000) (pre := xcP_147) (src := xcS_147) (os := xcO_147) (ms := xcM_147) (ws := xcW_147) (t0 := xcTs_147) (tp := xcTp_147) (by omega) rfl rfl rfl (by decide +kernel) (by decide +kernel) (by decide +kernel) (xEF xk_147_s) (fun ci Tm sr rk hL => ?_)
  match ci, hL with
  | 0, hL => cases hL; exact ⟨xEF xk_147_0, by decide +kernel, by decide +kernel, by decide +kernel⟩
  | 1, hL => cases hL; exact ⟨xEF xk_147_1, by decide +kernel, by decide +kernel, by decide +kernel⟩
  | 2, hL => cases hL; exact ⟨xEF xk_147_2, by decide +kernel, by decide +kernel, by decide +kernel⟩
  | 3, hL => cases hL; exact ⟨xEF xk_147_3, by decide +kernel, by decide +kernel, by decide +kernel⟩
  | 4, hL => cases hL; exact ⟨xEF xk_147_4, by decide +kernel, by decide +kernel, by decide +kernel⟩
  | 5, hL => cases hL; exact ⟨xEF xk_147_5, by decide +kernel, by decide +kernel, by decide +kernel⟩
  | 6, hL => cases hL; exact ⟨xEF xk_147_6, by decide +kernel, by decide +kernel, by decide +kernel⟩
  | 7, hL => cases hL; exact ⟨xEF xk_147_7, by decide +kernel, by decide +kernel, by decide +kernel⟩
  | 8, hL => cases hL; exact ⟨xEF xk_147_8, by decide +kernel, by decide +kernel, by decide +kernel⟩
  | n + 9, hL => cases hL
theorem xc_148 (hc : xClo rvTab rvInf rvRet 316 rvMth Gd Met) (hcon : ∀ x, x < 148 → xCon Met (xCons x)) : xCon Met (xCons 148) := by
  refine xCtx_ok (d := 2) (X := 148) (con := xCons) (opt := xOpt) (hp := xHpt) (hn := xHnt) (cutp := xcC_148) (L := xcL_148) hc hcon (j := 82) (na := 1) (n := 52) (fuel := 100000) (pre := xcP_148) (src := xcS_148) (os := xcO_148) (ms := xcM_148) (ws := xcW_148) (t0 := xcTs_148) (tp := xcTp_148) (by omega) rfl rfl rfl (by decide +kernel) (by decide +kernel) (by decide +kernel) (xEF xk_148_s) (fun ci Tm sr rk hL => ?_)
  match ci, hL with
  | 0, hL => cases hL; exact ⟨xEF xk_148_0, by decide +kernel, by decide +kernel, by decide +kernel⟩
  | 1, hL => cases hL; exact ⟨xEF xk_148_1, by decide +kernel, by decide +kernel, by decide +kernel⟩
  | 2, hL => cases hL; exact ⟨xEF xk_148_2, by decide +kernel, by decide +kernel, by decide +kernel⟩
  | 3, hL => cases hL; exact ⟨xEF xk_148_3, by decide +kernel, by decide +kernel, by decide +kernel⟩
  | 4, hL => cases hL; exact ⟨xEF xk_148_4, by decide +kernel, by decide +kernel, by decide +kernel⟩
  | 5, hL => cases hL; exact ⟨xEF xk_148_5, by decide +kernel, by decide +kernel, by decide +kernel⟩
  | 6, hL => cases hL; exact ⟨xEF xk_148_6, by decide +kernel, by decide +kernel, by decide +kernel⟩
  | 7, hL => cases hL; exact ⟨xEF xk_148_7, by decide +kernel, by decide +kernel, by decide +kernel⟩
  | 8, hL => cases hL; exact ⟨xEF xk_148_8, by decide +kernel, by decide +kernel, by decide +kernel⟩
  | n + 9, hL => cases hL
end XCC
