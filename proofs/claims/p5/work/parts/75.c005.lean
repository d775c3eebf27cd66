section XCC
variable {Gd : Nat → (xRes2 → Prop) → rvS → Prop} {Met : Nat → List rvV → rvH → (xRes2 → Prop) → Prop}
theorem xc_149 (hc : xClo rvTab rvInf rvRet 316 rvMth Gd Met) (hcon : ∀ x, x < 149 → xCon Met (xCons x)) : xCon Met (xCons 149) := by
  refine xCtx_ok (d := 2) (X := 149) (con := xCons) (opt := xOpt) (hp := xHpt) (hn := xHnt) (cutp := xcC_149) (L := xcL_149) hc hcon (j := 82) (na := 1) (n := 52) (fuel := 100000) (pre := xcP_149) (src := xcS_149) (os := xcO_149) (ms := xcM_149) (ws := xcW_149) (t0 := xcTs_149) (tp := xcTp_149) (by omega) rfl rfl rfl (by decide +kernel) (by decide +kernel) (by decide +kernel) (xEF xk_149_s) (fun ci Tm sr rk hL => ?_)
  match ci, hL with
  | 0, hL => cases hL; exact ⟨xEF xk_149_0, by decide +kernel, by decide +kernel, by decide +kernel⟩
  | 1, hL => cases hL; exact ⟨xEF xk_149_1, by decide +kernel, by decide +kernel, by decide +kernel⟩
  | 2, hL => cases hL; exact ⟨xEF xk_149_2, by decide +kernel, by decide +kernel, by decide +kernel⟩
  | 3, hL => cases hL; exact ⟨xEF xk_149_3, by decide +kernel, by decide +kernel, by decide +kernel⟩
  | 4, hL => cases hL; exact ⟨xEF xk_149_4, by decide +kernel, by decide +kernel, by decide +kernel⟩
  | 5, hL => cases hL; exact ⟨xEF xk_149_5, by decide +kernel, by decide +kernel, by decide +kernel⟩
  | 6, hL => cases hL; exact ⟨xEF xk_149_6, by decide +kernel, by decide +kernel, by decide +kernel⟩
  | 7, hL => cases hL; exact ⟨xEF xk_149_7, by decide +kernel, by decide +kernel, by decide +kernel⟩
  | 8, hL => cases hL; exact ⟨xEF xk_149_8, by decide +kernel, by decide +kernel, by decide +kernel⟩
  | n + 9, hL => cases hL
theorem xc_150 (hc : xClo rvTab rvInf rvRet 316 rvMth Gd Met) (hcon : ∀ x, x < 150 → xCon Met (xCons x)) : xCon Met (xCons 150) := by
  refine xCtx_ok (d := 2) (X := 150) (con := xCons) (opt := xOpt) (hp := xHpt) (hn := xHnt) (cutp := xcC_150) (L := xcL_150) hc hcon (j := 82) (na := 1) (n := 52) (fuel := 100000) (pre := xcP_150) (src := xcS_150) (os := xcO_150) (ms := xcM_150) (ws := xcW_150) (t0 := xcTs_150) (tp := xcTp_150) (by omega) rfl rfl rfl (by decide +kernel) (by decide +kernel) (by decide +kernel) (xEF xk_150_s) (fun ci Tm sr rk hL => ?_)
  match ci, hL with
  | 0, hL => cases hL; exact ⟨xEF xk_150_0, by decide +kernel, by decide +kernel, by decide +kernel⟩
  | 1, hL => cases hL; exact ⟨xEF xk_150_1, by decide +kernel, by decide +kernel, by decide +kernel⟩
  | 2, hL => cases hL; exact ⟨xEF xk_150_2, by decide +kernel, by decide +kernel, by decide +kernel⟩
  | 3, hL => cases hL; exact ⟨xEF xk_150_3, by decide +kernel, by decide +kernel, by decide +kernel⟩
  | 4, hL => cases hL; exact ⟨xEF xk_150_4, by decide +kernel, by decide +kernel, by decide +kernel⟩
  | 5, hL => cases hL; exact ⟨xEF xk_150_5, by decide +kernel, by decide +kernel, by decide +kernel⟩
  | 6, hL => cases hL; exact ⟨xEF xk_150_6, by decide +kernel, by decide +kernel, by decide +kernel⟩
  | 7, hL => cases hL; exact ⟨xEF xk_150_7, by decide +kernel, by decide +kernel, by decide +kernel⟩
  | 8, hL => cases hL; exact ⟨xEF xk_150_8, by decide +kernel, by decide +kernel, by decide +kernel⟩
  | n + 9, hL => cases hL
theorem xc_151 (hc : xClo rvTab rvInf rvRet 316 rvMth Gd Met) (hcon : ∀ x, x < 151 → xCon Met (xCons x)) : xCon Met (xCons 151) := by
  refine xCtx_ok (d := 2) (X := 151) (con := xCons) (opt := xOpt) (hp := xHpt) (hn := xHnt) (cutp := xcC_151) (L := xcL_151) hc hcon (j := 83) (na := 6) (n := 52) (fuel := 100000) (pre := xcP_151) (src := xcS_151) (os := xcO_151) (ms := xcM_151) (ws := xcW_151) (t0 := xcTs_151) (tp := xcTp_151) (by omega) rfl rfl rfl (by decide +kernel) (by decide +kernel) (by decide +kernel) (xEF xk_151_s) (fun ci Tm sr rk hL => ?_)
  match ci, hL with
  | 0, hL => cases hL; exact ⟨xEF xk_151_0, by decide +kernel, by decide +kernel, by decide +kernel⟩
  | 1, hL => cases hL; exact ⟨xEF xk_151_1, by decide +kernel, by decide +kernel, by decide +kernel⟩
  | 2, hL => cases hL; exact ⟨xEF xk_151_2, by decide +kernel, by decide +kernel, by decide +kernel⟩
  | 3, hL => cases hL; exact ⟨xEF xk_151_3, by decide +kernel, by decide +kernel, by decide +kernel⟩
  | n + 4, hL => cases hL
theorem xc_152 (hc : xClo rvTab rvInf rvRet 316 rvMth Gd Met) (hcon : ∀ x, x < 152 → xCon Met (xCons x)) : xCon Met (xCons 152) := by
  refine xCtx_ok (d := 2) (X := 152) (con := xCons) (opt := xOpt) (hp := xHpt) (hn := xHnt) (cutp := xcC_152) (L := xcL_152) hc hcon (j := 84) (na := 2) (n := 52) (fuel := 100000) (pre := xcP_152) (src := xcS_152) (os := xcO_152) (ms := xcM_152) (ws := xcW_152) (t0 := xcTs_152) (tp := xcTp_152) (by omega) rfl rfl rfl (by decide +kernel) (by decide +kernel) (by decide +kernel) (xEF xk_152_s) (fun ci Tm sr rk hL => ?_)
  match ci, hL with
  | 0, hL => cases hL; exact ⟨xEF xk_152_0, by decide +kernel, by decide +kernel, by decide +kernel⟩
  | n + 1, hL => cases hL
theorem xc_153 (hc : xClo rvTab rvInf rvRet 316 rvMth Gd Met) (hcon : ∀ x, x < 153 → xCon Met (xCons x)) : xCon Met (xCons 153) := by
  refine xCtx_ok (d := 2) (X := 153) (con := xCons) (opt := xOpt) (hp := xHpt) (hn := xHnt) (cutp := xcC_153) (L := xcL_153) hc hcon (j := 85) (na := 6) (n := 52) (fuel := 100000) (pre := xcP_153) (src := xcS_153) (os := xcO_153) (ms := xcM_153) (ws := xcW_153) (t0 := xcTs_153) (tp := xcTp_153) (by omega) rfl rfl rfl (by decide +kernel) (by decide +kernel) (by decide +kernel) (xEF xk_153_s) (fun ci Tm sr rk hL => ?_)
  match ci, hL with
  | 0, hL => cases hL; exact ⟨xEF xk_153_0, by decide +kernel, by decide +kernel, by decide +kernel⟩
  | n + 1, hL => cases hL
theorem xc_154 (hc : xClo rvTab rvInf rvRet 316 rvMth Gd Met) (hcon : ∀ x, x < 154 → xCon Met (xCons x)) : xCon Met (xCons 154) := by
  refine xCtx_ok (d := 2) (X := 154) (con := xCons) (opt := xOpt) (hp := xHpt) (hn := xHnt) (cutp := xcC_154) (L := xcL_154) hc hcon (j := 86) (na := 3) (n := 52) (fuel := 100000) (pre := xcP_154) (src := xcS_154) (os := xcO_154) (ms := xcM_154) (ws := xcW_154) (t0 := xcTs_154) (tp := xcTp_154) (by omega) rfl rfl rfl (by decide +kernel) (by decide +kernel) (by decide +kernel) (xEF xk_154_s) (fun ci Tm sr rk hL => ?_)
  match ci, hL with
  | 0, hL => cases hL; exact ⟨xEF xk_154_0, by decide +kernel, by decide +kernel, by decide +kernel⟩
  | n + 1, hL => cases hL
theorem xc_155 (hc : xClo rvTab rvInf rvRet 316 rvMth Gd Met) (hcon : ∀ x, x < 155 → xCon Met (xCons x)) : xCon Met (xCons 155) := by
  refine xCtx_ok (d := 2) (X := 155) (con := xCons) (opt := xOpt) (hp := xHpt) (hn := xHnt) (cutp := xcC_155) (L := xcL_155) hc hcon (j := 87) (na := 7) (n := 52) (fuel := 100000) (pre := xcP_155) (src := xcS_155) (os := xcO_155) (ms := xcM_155) (ws := xcW_155) (t0 := xcTs_155) (tp := xcTp_155) (by omega) rfl rfl rfl (by decide +kernel) (by decide +kernel) (by decide +kernel) (xEF xk_155_s) (fun ci Tm sr rk hL => ?_)
  match ci, hL with
  | 0, hL => cases hL; exact ⟨xEF xk_155_0, by decide +kernel, by decide +kernel, by decide +kernel⟩
  | n + 1, hL => cases hL
theorem xc_156 (hc : xClo rvTab rvInf rvRet 316 rvMth Gd Met) (hcon : ∀ x, x < 156 → xCon Met (xCons x)) : xCon Met (xCons 156) := by
  refine xCtx_ok (d := 2) (X := 156) (con := xCons) (opt := xOpt) (hp := xHpt) (hn := xHnt) (cutp := xcC_156) (L := xcL_156) hc hcon (j := 7) (na := 1) (n := 52) (fuel := 100000) (pre := xcP_156) (src := xcS_156) (os := xcO_156) (ms := xcM_156) (ws := xcW_156) (t0 := xcTs_156) (tp := xcTp_156) (by omega) rfl rfl rfl (by decide +kernel) (by decide +kernel) (by decide +kernel) (xEF xk_156_s) (fun ci Tm sr rk hL => ?_)
  match ci, hL with
  | 0, hL => cases hL; exact ⟨xEF xk_156_0, by decide +kernel, by decide +kernel, by decide +kernel⟩
  | n + 1, hL => cases hL
theorem xc_157 (hc : xClo rvTab rvInf rvRet 316 rvMth Gd Met) (hcon : ∀ x, x < 157 → xCon Met (xCons x)) : xCon Met (xCons 157) := by
  refine xCtx_ok (d := 2) (X := 157) (con := xCons) (opt := xOpt) (hp := xHpt) (hn := xHnt) (cutp := xcC_157) (L := xcL_157) hc hcon (j := 11) (na := 2) (n := 52) (fuel := 100000) (pre := xcP_157) (src := xcS_157) (os := xcO_157) (ms := xcM_157) (ws := xcW_157) (t0 := xcTs_157) (tp := xcTp_157) (by omega) rfl rfl rfl (by decide +kernel) (by decide +kernel) (by decide +kernel) (xEF xk_157_s) (fun ci Tm sr rk hL => ?_)
  match ci, hL with
  | n + 0, hL => cases hL
theorem xc_158 (hc : xClo rvTab rvInf rvRet 316 rvMth Gd Met) (hcon : ∀ x, x < 158 → xCon Met (xCons x)) : xCon Met (xCons 158) := by
  refine xCtx_ok (d := 2) (X := 158) (con := xCons) (opt := xOpt) (hp := xHpt) (hn := xHnt) (cutp := xcC_158) (L := xcL_158) hc hcon (j := 7) (na := 1) (n := 52) (fuel := 100000) (pre := xcP_158) (src := xcS_158) (os := xcO_158) (ms := xcM_158) (ws := xcW_158) (t0 := xcTs_158) (tp := xcTp_158) (by omega) rfl rfl rfl (by decide +kernel) (by decide +kernel) (by decide +kernel) (xEF xk_158_s) (fun ci Tm sr rk hL => ?_)
  match ci, hL with
  | 0, hL => cases hL; exact ⟨xEF xk_158_0, by decide +kernel, by decide +kernel, by decide +kernel⟩
  | n + 1, hL => cases hL
theorem xc_159 (hc : xClo rvTab rvInf rvRet 316 rvMth Gd Met) (hcon : ∀ x, x < 159 → xCon Met (xCons x)) : xCon Met (xCons 159) := by
  refine xCtx_ok (d := 2) (X := 159) (con := xCons) (opt := xOpt) (hp := xHpt) (hn := xHnt) (cutp := xcC_159) (L := xcL_159) hc hcon (j := 11) (na := 2) (n := 52) (fuel := 100000) (pre := xcP_159) (src := xcS_159) (os := xcO_159) (ms := xcM_159) (ws := xcW_159) (t0 := xcTs_159) (tp := xcTp_159) (by omega) rfl rfl rfl (by decide +kernel) (by decide +kernel) (by decide +kernel) (xEF xk_159_s) (fun ci Tm sr rk hL => ?_)
  match ci, hL with
  | n + 0, hL => cases hL
theorem xc_160 (hc : xClo rvTab rvInf rvRet 316 rvMth Gd Met) (hcon : ∀ x, x < 160 → xCon Met (xCons x)) : xCon Met (xCons 160) := by
  refine xCtx_ok (d := 2) (X := 160) (con := xCons) (opt := xOpt) (hp := xHpt) (hn := xHnt) (cutp := xcC_160) (L := xcL_160) hc hcon (j := 7) (na := 1) (n := 52) (fuel := 100000) (pre := xcP_160) (src := xcS_160) (os := xcO_160) (ms := xcM_160) (ws := xcW_160) (t0 := xcTs_160) (tp := xcTp_160) (by omega) rfl rfl rfl (by decide +kernel) (by decide +kernel) (by decide +kernel) (xEF xk_160_s) (fun ci Tm sr rk hL => ?_)
  match ci, hL with
  | 0, hL => cases hL; exact ⟨xEF xk_160_0, by decide +kernel, by decide +kernel, by decide +kernel⟩
  | n + 1, hL => cases hL
theorem xc_161 (hc : xClo rvTab rvInf rvRet 316 rvMth Gd Met) (hcon : ∀ x, x < 161 → xCon Met (xCons x)) : xCon Met (xCons 161) := by
  refine xCtx_ok (d := 2) (X := 161) (con := xCons) (opt := xOpt) (hp := xHpt) (hn := xHnt) (cutp := xcC_161) (L := xcL_161) hc hcon (j := 11) (na := 2) (n := 52) (fuel := 100000) (pre := xcP_161) (src := xcS_161) (os := xcO_161) (ms := xcM_161) (ws := xcW_161) (t0 := xcTs_161) (tp := xcTp_161) (by omega) rfl rfl rfl (by decide +kernel) (by decide +kernel) (by decide +kernel) (xEF xk_161_s) (fun ci Tm sr rk hL => ?_)
  match ci, hL with
  | n + 0, hL => cases hL
theorem xc_162 (hc : xClo rvTab rvInf rvRet 316 rvMth Gd Met) (hcon : ∀ x, x < 162 → xCon Met (xCons x)) : xCon Met (xCons 162) := by
  refine xCtx_ok (d := 2) (X := 162) (con := xCons) (opt := xOpt) (hp := xHpt) (hn := xHnt) (cutp := xcC_162) (L := xcL_162) hc hcon (j := 12) (na := 4) (n := 52) (fuel := 100000) (pre := xcP_162) (src := xcS_162) (os := xcO_162) (ms := xcM_162) (ws := xcW_162) (t0 := xcTs_162) (tp := xcTp_162) (by omega) rfl rfl rfl (by decide +kernel) (by decide +kernel) (by decide +kernel) (xEF xk_162_s) (fun ci Tm sr rk hL => ?_)
  match ci, hL with
  | n + 0, hL => cases hL
theorem xc_163 (hc : xClo rvTab rvInf rvRet 316 rvMth Gd Met) (hcon : ∀ x, x < 163 → xCon Met (xCons x)) : xCon Met (xCons 163) := by
  refine xCtx_ok (d := 2) (X := 163) (con := xCons) (opt := xOpt) (hp := xHpt) (hn := xHnt) (cutp := xcC_163) (L := xcL_163) hc hcon (j := 88) (na := 5) (n := 52) (fuel := 100000) (pre := xcP_163) (src := xcS_163) (os := xcO_163) (ms := xcM_163) (ws := xcW_163) (t0 := xcTs_163) (tp := xcTp_163) (by omega) rfl rfl rfl (by decide +kernel) (by decide +kernel) (by decide +kernel) (xEF xk_163_s) (fun ci Tm sr rk hL => ?_)
  match ci, hL with
  | 0, hL => cases hL; exact ⟨xEF xk_163_0, by decide +kernel, by decide +kernel, by decide +kernel⟩
  | n + 1, hL => cases hL
theorem xc_164 (hc : xClo rvTab rvInf rvRet 316 rvMth Gd Met) (hcon : ∀ x, x < 164 → xCon Met (xCons x)) : xCon Met (xCons 164) := by
  refine xCtx_ok (d := 2) (X := 164) (con := xCons) (opt := xOpt) (hp := xHpt) (hn := xHnt) (cutp := xcC_164) (L := xcL_164) hc hcon (j := 89) (na := 1) (n := 52) (fuel := 100000) (pre := xcP_164) (src := xcS_164) (os := xcO_164) (ms := xcM_164) (ws := xcW_164) (t0 := xcTs_164) (tp := xcTp_164) (by omega) rfl rfl rfl (by decide +kernel) (by decide +kernel) (by decide +kernel) (xEF xk_164_s) (fun ci Tm sr rk hL => ?_)
  match ci, hL with
  | 0, hL => cases hL; exact ⟨xEF xk_164_0, by decide +kernel, by decide +kernel, by decide +kernel⟩
  | n + 1, hL => cases hL
theorem xc_165 (hc : xClo rvTab rvInf rvRet 316 rvMth Gd Met) (hcon : ∀ x, x < 165 → xCon Met (xCons x)) : xCon Met (xCons 165) := by
  refine xCtx_ok (d := 2) (X := 165) (con := xCons) (opt := xOpt) (hp := xHpt) (hn := xHnt) (cutp := xcC_165) (L := xcL_165) hc hcon (j := 21) (na := 2) (n := 52) (fuel := 100000) (pre := xcP_165) (src := xcS_165) (os := xcO_165) (ms := xcM_165) (ws := xcW_165) (t0 := xcTs_165) (tp := xcTp_165) (by omega) rfl rfl rfl (by decide +kernel) (by decide +kernel) (by decide +kernel) (xEF xk_165_s) (fun ci Tm sr rk hL => ?_)
  match ci, hL with
  | 0, hL => cases hL; exact ⟨xEF xk_165_0, by decide +kernel, by decide +kernel, by decide +kernel⟩
  | n + 1, hL => cases hL
theorem xc_166 (hc : xClo rvTab rvInf rvRet 316 rvMth Gd Met) (hcon : ∀ x, x < 166 → xCon Met (xCons x)) : xCon Met (xCons 166) := by
  refine xCtx_ok (d := 2) (X := 166) (con := xCons) (opt := xOpt) (hp := xHpt) (hn := xHnt) (cutp := xcC_166) (L := xcL_166) hc hcon (j := 22) (na := 4) (n := 52) (fuel := 100000) (pre := xcP_166) (src := xcS_166) (os := xcO_166) (ms := xcM_166) (ws := xcW_166) (t0 := xcTs_166) (tp := xcTp_166) (by omega) rfl rfl rfl (by decide +kernel) (by decide +kernel) (by decide +kernel) (xEF xk_166_s) (fun ci Tm sr rk hL => ?_)
  match ci, hL with
  | n + 0, hL => cases hL
theorem xc_167 (hc : xClo rvTab rvInf rvRet 316 rvMth Gd Met) (hcon : ∀ x, x < 167 → xCon Met (xCons x)) : xCon Met (xCons 167) := by
  refine xCtx_ok (d := 2) (X := 167) (con := xCons) (opt := xOpt) (hp := xHpt) (hn := xHnt) (cutp := xcC_167) (L := xcL_167) hc hcon (j := 21) (na := 2) (n := 52) (fuel := 100000) (pre := xcP_167) (src := xcS_167) (os := xcO_167) (ms := xcM_167) (ws := xcW_167) (t0 := xcTs_167) (tp := xcTp_167) (by omega) rfl rfl rfl (by decide +kernel) (by decide +kernel) (by decide +kernel) (xEF xk_167_s) (fun ci Tm sr rk hL => ?_)
  match ci, hL with
  | 0, hL => cases hL; exact ⟨xEF xk_167_0, by decide +kernel, by decide +kernel, by decide +kernel⟩
  | n + 1, hL => cases hL
theorem xc_168 (hc : xClo rvTab rvInf rvRet 316 rvMth Gd Met) (hcon : ∀ x, x < 168 → xCon Met (xCons x)) : xCon Met (xCons 168) := by
  refine xCtx_ok (d := 2) (X := 168) (con := xCons) (opt := xOpt) (hp := xHpt) (hn := xHnt) (cutp := xcC_168) (L := xcL_168) hc hcon (j := 22) (na := 4) (n := 52) (fuel := 100000) (pre := xcP_168) (src := xcS_168) (os := xcO_168) (ms := xcM_168) (ws := xcW_168) (t0 := xcTs_168) (tp := xcTp_168) (by omega) rfl rfl rfl (by decide +kernel) (by decide +kernel) (by decide +kernel) (xEF xk_168_s) (fun ci Tm sr rk hL => ?_)
  match ci, hL with
  | n + 0, hL => cases hL
theorem xc_169 (hc : xClo rvTab rvInf rvRet 316 rvMth Gd Met) (hcon : ∀ x, x < 169 → xCon Met (xCons x)) : xCon Met (xCons 169) := by
  refine xCtx_ok (d := 2) (X := 169) (con := xCons) (opt := xOpt) (hp := xHpt) (hn := xHnt) (cutp := xcC_169) (L := xcL_169) hc hcon (j := 21) (na := 2) (n := 52) (fuel := 100000) (pre := xcP_169) (src := xcS_169) (os := xcO_169) (ms := xcM_169) (ws := xcW_169) (t0 := xcTs_169) (tp := xcTp_169) (by omega) rfl rfl rfl (by decide +kernel) (by decide +kernel) (by decide +kernel) (xEF xk_169_s) (fun ci Tm sr rk hL => ?_)
  match ci, hL with
  | 0, hL => cases hL; exact ⟨xEF xk_169_0, by decide +kernel, by decide +kernel, by decide +kernel⟩
  | n + 1, hL => cases hL
theorem xc_170 (hc : xClo rvTab rvInf rvRet 316 rvMth Gd Met) (hcon : ∀ x, x < 170 → xCon Met (xCons x)) : xCon Met (xCons 170) := by
  refine xCtx_ok (d := 2) (X := 170) (con := xCons) (opt := xOpt) (hp := xHpt) (hn := xHnt) (cutp := xcC_170) (L := xcL_170) hc hcon (j := 22) (na := 4) (n := 52) (fuel := 100000) (pre := xcP_170) (src := xcS_170) (os := xcO_170) (ms := xcM_170) (ws := xcW_170) (t0 := xcTs_170) (tp := xcTp_170) (by omega) rfl rfl rfl (by decide +kernel) (by decide +kernel) (by decide +kernel) (xEF xk_170_s) (fun ci Tm sr rk hL => ?_)
  match ci, hL with
  | n + 0, hL => cases hL
theorem xKs_171_0 (hc : xClo rvTab rvInf rvRet 316 rvMth Gd Met) (hcon : ∀ x, x < 171 → xCon Met (xCons x)) : xKsem Gd 12 52 90 xcM_171 xcO_171 (fun i => xcL_171[i]?) (some xKrk_171_0) xcT_171_0 := by
  refine xKs_f (mth := rvMth) (d := 2) (NM := 316) (X := 171) (opt := xOpt) (hp := xHpt) (hn := xHnt) (cutp := xcC_171) (j0 := 90) (ck := xKck_171_0) (oc := xKoc_171_0) hc hcon (fun x S h => ⟨2, x, h⟩) (fun R h => ?_) (by omega) rfl xKr_171_0 (fun m q hm => ?_)
  · obtain ⟨q, hq, hq2⟩ := List.any_eq_true.mp h
    exact ⟨2, q, hq, hq2⟩
  · match m, hm with
    | 0, hm => cases hm; exact ⟨100000, _, xKr_171_0_0⟩
    | 1, hm => cases hm; exact ⟨100000, _, xKr_171_0_1⟩
    | 2, hm => cases hm; exact ⟨100000, _, xKr_171_0_2⟩
    | 3, hm => cases hm; exact ⟨100000, _, xKr_171_0_3⟩
    | 4, hm => cases hm; exact ⟨100000, _, xKr_171_0_4⟩
    | 5, hm => cases hm; exact ⟨100000, _, xKr_171_0_5⟩
    | 6, hm => cases hm; exact ⟨100000, _, xKr_171_0_6⟩
    | 7, hm => cases hm; exact ⟨100000, _, xKr_171_0_7⟩
    | 8, hm => cases hm; exact ⟨100000, _, xKr_171_0_8⟩
    | 9, hm => cases hm; exact ⟨100000, _, xKr_171_0_9⟩
    | 10, hm => cases hm; exact ⟨100000, _, xKr_171_0_10⟩
    | 11, hm => cases hm; exact ⟨100000, _, xKr_171_0_11⟩
    | 12, hm => cases hm; exact ⟨100000, _, xKr_171_0_12⟩
    | 13, hm => cases hm; exact ⟨100000, _, xKr_171_0_13⟩
    | 14, hm => cases hm; exact ⟨100000, _, xKr_171_0_14⟩
    | 15, hm => cases hm; exact ⟨100000, _, xKr_171_0_15⟩
    | 16, hm => cases hm; exact ⟨100000, _, xKr_171_0_16⟩
    | 17, hm => cases hm; exact ⟨100000, _, xKr_171_0_17⟩
    | 18, hm => cases hm; exact ⟨100000, _, xKr_171_0_18⟩
    | 19, hm => cases hm; exact ⟨100000, _, xKr_171_0_19⟩
    | 20, hm => cases hm; exact ⟨100000, _, xKr_171_0_20⟩
    | m + 21, hm => cases hm
theorem xc_171 (hc : xClo rvTab rvInf rvRet 316 rvMth Gd Met) (hcon : ∀ x, x < 171 → xCon Met (xCons x)) : xCon Met (xCons 171) := by
  refine xCtx_okF (mth := rvMth) (d := 2) (X := 171) (con := xCons) (opt := xOpt) (hp := xHpt) (hn := xHnt) (cutp := xcC_171) (L := xcL_171) hc hcon (j := 90) (na := 12) (n := 52) (fuel := 100000) (pre := xcP_171) (src := xcS_171) (os := xcO_171) (ms := xcM_171) (ws := xcW_171) (t0 := xcTs_171) (by omega) rfl rfl rfl (by decide +kernel) (by decide +kernel) (by decide +kernel) (xEF xk_171_s) (fun ci Tm sr rk hL => ?_)
  match ci, hL with
  | 0, hL => cases hL; exact ⟨xKs_171_0 hc hcon, by decide +kernel, by decide +kernel, by decide +kernel⟩
  | 1, hL => cases hL; exact ⟨xKs_run hc hcon (by omega) (xEF xk_171_1), by decide +kernel, by decide +kernel, by decide +kernel⟩
  | 2, hL => cases hL; exact ⟨xKs_run hc hcon (by omega) (xEF xk_171_2), by decide +kernel, by decide +kernel, by decide +kernel⟩
  | 3, hL => cases hL; exact ⟨xKs_run hc hcon (by omega) (xEF xk_171_3), by decide +kernel, by decide +kernel, by decide +kernel⟩
  | 4, hL => cases hL; exact ⟨xKs_run hc hcon (by omega) (xEF xk_171_4), by decide +kernel, by decide +kernel, by decide +kernel⟩
  | 5, hL => cases hL; exact ⟨xKs_run hc hcon (by omega) (xEF xk_171_5), by decide +kernel, by decide +kernel, by decide +kernel⟩
  | 6, hL => cases hL; exact ⟨xKs_run hc hcon (by omega) (xEF xk_171_6), by decide +kernel, by decide +kernel, by decide +kernel⟩
  | 7, hL => cases hL; exact ⟨xKs_run hc hcon (by omega) (xEF xk_171_7), by decide +kernel, by decide +kernel, by decide +kernel⟩
  | 8, hL => cases hL; exact ⟨xKs_run hc hcon (by omega) (xEF xk_171_8), by decide +kernel, by decide +kernel, by decide +kernel⟩
  | 9, hL => cases hL; exact ⟨xKs_run hc hcon (by omega) (xEF xk_171_9), by decide +kernel, by decide +kernel, by decide +kernel⟩
  | 10, hL => cases hL; exact ⟨xKs_run hc hcon (by omega) (xEF xk_171_10), by decide +kernel, by decide +kernel, by decide +kernel⟩
  | 11, hL => cases hL; exact ⟨xKs_run hc hcon (by omega) (xEF xk_171_11), by decide +kernel, by decide +kernel, by decide +kernel⟩
  | 12, hL => cases hL; exact ⟨xKs_run hc hcon (by omega) (xEF xk_171_12), by decide +kernel, by decide +kernel, by decide +kernel⟩
  | 13, hL => cases hL; exact ⟨xKs_run hc hcon (by omega) (xEF xk_171_13), by decide +kernel, by decide +kernel, by decide +kernel⟩
  | 14, hL => cases hL; exact ⟨xKs_run hc hcon (by omega) (xEF xk_171_14), by decide +kernel, by decide +kernel, by decide +kernel⟩
  | 15, hL => cases hL; exact ⟨xKs_run hc hcon (by omega) (xEF xk_171_15), by decide +kernel, by decide +kernel, by decide +kernel⟩
  | 16, hL => cases hL; exact ⟨xKs_run hc hcon (by omega) (xEF xk_171_16), by decide +kernel, by decide +kernel, by decide +kernel⟩
  | 17, hL => cases hL; exact ⟨xKs_run hc hcon (by omega) (xEF xk_171_17), by decide +kernel, by decide +kernel, by decide +kernel⟩
  | 18, hL => cases hL; exact ⟨xKs_run hc hcon (by omega) (xEF xk_171_18), by decide +kernel, by decide +kernel, by decide +kernel⟩
  | 19, hL => cases hL; exact ⟨xKs_run hc hcon (by omega) (xEF xk_171_19), by decide +kernel, by decide +kernel, by decide +kernel⟩
  | 20, hL => cases hL; exact ⟨xKs_run hc hcon (by omega) (xEF xk_171_20), by decide +kernel, by decide +kernel, by decide +kernel⟩
  | 21, hL => cases hL; exact ⟨xKs_run hc hcon (by omega) (xEF xk_171_21), by decide +kernel, by decide +kernel, by decide +kernel⟩
  | n + 22, hL => cases hL
theorem xc_172 (hc : xClo rvTab rvInf rvRet 316 rvMth Gd Met) (hcon : ∀ x, x < 172 → xCon Met (xCons x)) : xCon Met (xCons 172) := by
  refine xCtx_ok (d := 2) (X := 172) (con := xCons) (opt := xOpt) (hp := xHpt) (hn := xHnt) (cutp := xcC_172) (L := xcL_172) hc hcon (j := 12) (na := 4) (n := 52) (fuel := 100000) (pre := xcP_172) (src := xcS_172) (os := xcO_172) (ms := xcM_172) (ws := xcW_172) (t0 := xcTs_172) (tp := xcTp_172) (by omega) rfl rfl rfl (by decide +kernel) (by decide +kernel) (by decide +kernel) (xEF xk_172_s) (fun ci Tm sr rk hL => ?_)
  match ci, hL with
  | n + 0, hL => cases hL
theorem xc_173 (hc : xClo rvTab rvInf rvRet 316 rvMth Gd Met) (hcon : ∀ x, x < 173 → xCon Met (xCons x)) : xCon Met (xCons 173) := by
  refine xCtx_ok (d := 2) (X := 173) (con := xCons) (opt := xOpt) (hp := xHpt) (hn := xHnt) (cutp := xcC_173) (L := xcL_173) hc hcon (j := 91) (na := 5) (n := 57) (fuel := 100000) (pre := xcP_173) (src := xcS_173) (os := xcO_173) (ms := xcM_173) (ws := xcW_173) (t0 := xcTs_173) (tp := xcTp_173) (by omega) rfl rfl rfl (by decide +kernel) (by decide +kernel) (by decide +kernel) (xEF xk_173_s) (fun ci Tm sr rk hL => ?_)
  match ci, hL with
  | n + 0, hL => cases hL
theorem xc_174 (hc : xClo rvTab rvInf rvRet 316 rvMth Gd Met) (hcon : ∀ x, x < 174 → xCon Met (xCons x)) : xCon Met (xCons 174) := by
  refine xCtx_ok (d := 2) (X := 174) (con := xCons) (opt := xOpt) (hp := xHpt) (hn := xHnt) (cutp := xcC_174) (L := xcL_174) hc hcon (j := 7) (na := 1) (n := 52) (fuel := 100000) (pre := xcP_174) (src := xcS_174) (os := xcO_174) (ms := xcM_174) (ws := xcW_174) (t0 := xcTs_174) (tp := xcTp_174) (by omega) rfl rfl rfl (by decide +kernel) (by decide +kernel) (by decide +kernel) (xEF xk_174_s) (fun ci Tm sr rk hL => ?_)
  match ci, hL with
  | 0, hL => cases hL; exact ⟨xEF xk_174_0, by decide +kernel, by decide +kernel, by decide +kernel⟩
  | n + 1, hL => cases hL
theorem xc_175 (hc : xClo rvTab rvInf rvRet 316 rvMth Gd Met) (hcon : ∀ x, x < 175 → xCon Met (xCons x)) : xCon Met (xCons 175) := by
  refine xCtx_ok (d := 2) (X := 175) (con := xCons) (opt := xOpt) (hp := xHpt) (hn := xHnt) (cutp := xcC_175) (L := xcL_175) hc hcon (j := 11) (na := 2) (n := 52) (fuel := 100000) (pre := xcP_175) (src := xcS_175) (os := xcO_175) (ms := xcM_175) (ws := xcW_175) (t0 := xcTs_175) (tp := xcTp_175) (by omega) rfl rfl rfl (by decide +kernel) (by decide +kernel) (by decide +kernel) (xEF xk_175_s) (fun ci Tm sr rk hL => ?_)
  match ci, hL with
  | n + 0, hL => cases hL
theorem xc_176 (hc : xClo rvTab rvInf rvRet 316 rvMth Gd Met) (hcon : ∀ x, x < 176 → xCon Met (xCons x)) : xCon Met (xCons 176) := by
  refine xCtx_ok (d := 2) (X := 176) (con := xCons) (opt := xOpt) (hp := xHpt) (hn := xHnt) (cutp := xcC_176) (L := xcL_176) hc hcon (j := 92) (na := 5) (n := 57) (fuel := 100000) (pre := xcP_176) (src := xcS_176) (os := xcO_176) (ms := xcM_176) (ws := xcW_176) (t0 := xcTs_176) (tp := xcTp_176) (by omega) rfl rfl rfl (by decide +kernel) (by decide +kernel) (by decide +kernel) (xEF xk_176_s) (fun ci Tm sr rk hL => ?_)
  match ci, hL with
  | n + 0, hL => cases hL
theorem xc_177 (hc : xClo rvTab rvInf rvRet 316 rvMth Gd Met) (hcon : ∀ x, x < 177 → xCon Met (xCons x)) : xCon Met (xCons 177) := by
  refine xCtx_ok (d := 2) (X := 177) (con := xCons) (opt := xOpt) (hp := xHpt) (hn := xHnt) (cutp := xcC_177) (L := xcL_177) hc hcon (j := 93) (na := 5) (n := 57) (fuel := 100000) (pre := xcP_177) (src := xcS_177) (os := xcO_177) (ms := xcM_177) (ws := xcW_177) (t0 := xcTs_177) (tp := xcTp_177) (by omega) rfl rfl rfl (by decide +kernel) (by decide +kernel) (by decide +kernel) (xEF xk_177_s) (fun ci Tm sr rk hL => ?_)
  match ci, hL with
  | n + 0, hL => cases hL
end XCC
