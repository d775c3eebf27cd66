section XCC
variable {Gd : Nat → (xRes2 → Prop) → rvS → Prop} {Met : Nat → List rvV → rvH → (xRes2 → Prop) → Prop}
theorem xc_0 (hc : xClo rvTab rvInf rvRet 316 rvMth Gd Met) : xCon Met (xCons 0) := xBt_conB hc (by omega) rfl ⟨rfl, rfl, rfl, rfl, rfl, rfl, rfl, rfl, rfl, rfl, rfl, rfl, rfl, rfl, rfl, rfl⟩ rfl rfl
theorem xc_1 (hc : xClo rvTab rvInf rvRet 316 rvMth Gd Met) : xCon Met (xCons 1) := xBt_conA hc (by omega) rfl ⟨rfl, rfl, rfl, rfl, rfl, rfl, rfl, rfl, rfl, rfl, rfl, rfl, rfl, rfl, rfl, rfl⟩ rfl rfl
theorem xc_2 (hc : xClo rvTab rvInf rvRet 316 rvMth Gd Met) (hcon : ∀ x, x < 2 → xCon Met (xCons x)) : xCon Met (xCons 2) := by
  refine xCtx_ok (d := 2) (X := 2) (con := xCons) (opt := xOpt) (hp := xHpt) (hn := xHnt) (cutp := xcC_2) (L := xcL_2) hc hcon (j := 1) (na := 1) (n := 52) (fuel := 100000) (pre := xcP_2) (src := xcS_2) (os := xcO_2) (ms := xcM_2) (ws := xcW_2) (t0 := xcTs_2) (tp := xcTp_2) (by omega) rfl rfl rfl (by decide +kernel) (by decide +kernel) (by decide +kernel) (xEF xk_2_s) (fun ci Tm sr rk hL => ?_)
  match ci, hL with
  | 0, hL => cases hL; exact ⟨xEF xk_2_0, by decide +kernel, by decide +kernel, by decide +kernel⟩
  | n + 1, hL => cases hL
theorem xc_3 (hc : xClo rvTab rvInf rvRet 316 rvMth Gd Met) (hcon : ∀ x, x < 3 → xCon Met (xCons x)) : xCon Met (xCons 3) := by
  refine xCtx_ok (d := 2) (X := 3) (con := xCons) (opt := xOpt) (hp := xHpt) (hn := xHnt) (cutp := xcC_3) (L := xcL_3) hc hcon (j := 1) (na := 1) (n := 52) (fuel := 100000) (pre := xcP_3) (src := xcS_3) (os := xcO_3) (ms := xcM_3) (ws := xcW_3) (t0 := xcTs_3) (tp := xcTp_3) (by omega) rfl rfl rfl (by decide +kernel) (by decide +kernel) (by decide +kernel) (xEF xk_3_s) (fun ci Tm sr rk hL => ?_)
  match ci, hL with
  | 0, hL => cases hL; exact ⟨xEF xk_3_0, by decide +kernel, by decide +kernel, by decide +kernel⟩
  | n + 1, hL => cases hL
theorem xc_4 (hc : xClo rvTab rvInf rvRet 316 rvMth Gd Met) (hcon : ∀ x, x < 4 → xCon Met (xCons x)) : xCon Met (xCons 4) := by
  refine xCtx_ok (d := 2) (X := 4) (con := xCons) (opt := xOpt) (hp := xHpt) (hn := xHnt) (cutp := xcC_4) (L := xcL_4) hc hcon (j := 2) (na := 0) (n := 52) (fuel := 100000) (pre := xcP_4) (src := xcS_4) (os := xcO_4) (ms := xcM_4) (ws := xcW_4) (t0 := xcTs_4) (tp := xcTp_4) (by omega) rfl rfl rfl (by decide +kernel) (by decide +kernel) (by decide +kernel) (xEF xk_4_s) (fun ci Tm sr rk hL => ?_)
  match ci, hL with
  | 0, hL => cases hL; exact ⟨xEF xk_4_0, by decide +kernel, by decide +kernel, by decide +kernel⟩
  | n + 1, hL => cases hL
theorem xc_5 (hc : xClo rvTab rvInf rvRet 316 rvMth Gd Met) (hcon : ∀ x, x < 5 → xCon Met (xCons x)) : xCon Met (xCons 5) := by
  refine xCtx_ok (d := 2) (X := 5) (con := xCons) (opt := xOpt) (hp := xHpt) (hn := xHnt) (cutp := xcC_5) (L := xcL_5) hc hcon (j := 3) (na := 3) (n := 52) (fuel := 100000) (pre := xcP_5) (src := xcS_5) (os := xcO_5) (ms := xcM_5) (ws := xcW_5) (t0 := xcTs_5) (tp := xcTp_5) (by omega) rfl rfl rfl (by decide +kernel) (by decide +kernel) (by decide +kernel) (xEF xk_5_s) (fun ci Tm sr rk hL => ?_)
  match ci, hL with
  | 0, hL => cases hL; exact ⟨xEF xk_5_0, by decide +kernel, by decide +kernel, by decide +kernel⟩
  | n + 1, hL => cases hL
theorem xc_6 (hc : xClo rvTab rvInf rvRet 316 rvMth Gd Met) (hcon : ∀ x, x < 6 → xCon Met (xCons x)) : xCon Met (xCons 6) := by
  refine xCtx_ok (d := 2) (X := 6) (con := xCons) (opt := xOpt) (hp := xHpt) (hn := xHnt) (cutp := xcC_6) (L := xcL_6) hc hcon (j := 4) (na := 4) (n := 52) (fuel := 100000) (pre := xcP_6) (src := xcS_6) (os := xcO_6) (ms := xcM_6) (ws := xcW_6) (t0 := xcTs_6) (tp := xcTp_6) (by omega) rfl rfl rfl (by decide +kernel) (by decide +kernel) (by decide +kernel) (xEF xk_6_s) (fun ci Tm sr rk hL => ?_)
  match ci, hL with
  | 0, hL => cases hL; exact ⟨xEF xk_6_0, by decide +kernel, by decide +kernel, by decide +kernel⟩
  | n + 1, hL => cases hL
theorem xc_7 (hc : xClo rvTab rvInf rvRet 316 rvMth Gd Met) (hcon : ∀ x, x < 7 → xCon Met (xCons x)) : xCon Met (xCons 7) := by
  refine xCtx_ok (d := 2) (X := 7) (con := xCons) (opt := xOpt) (hp := xHpt) (hn := xHnt) (cutp := xcC_7) (L := xcL_7) hc hcon (j := 5) (na := 2) (n := 52) (fuel := 100000) (pre := xcP_7) (src := xcS_7) (os := xcO_7) (ms := xcM_7) (ws := xcW_7) (t0 := xcTs_7) (tp := xcTp_7) (by omega) rfl rfl rfl (by decide +kernel) (by decide +kernel) (by decide +kernel) (xEF xk_7_s) (fun ci Tm sr rk hL => ?_)
  match ci, hL with
  | n + 0, hL => cases hL
theorem xc_8 (hc : xClo rvTab rvInf rvRet 316 rvMth Gd Met) (hcon : ∀ x, x < 8 → xCon Met (xCons x)) : xCon Met (xCons 8) := by
  refine xCtx_ok (d := 2) (X := 8) (con := xCons) (opt := xOpt) (hp := xHpt) (hn := xHnt) (cutp := xcC_8) (L := xcL_8) hc hcon (j := 6) (na := 5) (n := 52) (fuel := 100000) (pre := xcP_8) (src := xcS_8) (os := xcO_8) (ms := xcM_8) (ws := xcW_8) (t0 := xcTs_8) (tp := xcTp_8) (by omega) rfl rfl rfl (by decide +kernel) (by decide +kernel) (by decide +kernel) (xEF xk_8_s) (fun ci Tm sr rk hL => ?_)
  match ci, hL with
  | 0, hL => cases hL; exact ⟨xEF xk_8_0, by decide +kernel, by decide +kernel, by decide +kernel⟩
  | 1, hL => cases hL; exact ⟨xEF xk_8_1, by decide +kernel, by decide +kernel, by decide +kernel⟩
  | n + 2, hL => cases hL
theorem xc_9 (hc : xClo rvTab rvInf rvRet 316 rvMth Gd Met) (hcon : ∀ x, x < 9 → xCon Met (xCons x)) : xCon Met (xCons 9) := by
  refine xCtx_ok (d := 2) (X := 9) (con := xCons) (opt := xOpt) (hp := xHpt) (hn := xHnt) (cutp := xcC_9) (L := xcL_9) hc hcon (j := 5) (na := 2) (n := 52) (fuel := 100000) (pre := xcP_9) (src := xcS_9) (os := xcO_9) (ms := xcM_9) (ws := xcW_9) (t0 := xcTs_9) (tp := xcTp_9) (by omega) rfl rfl rfl (by decide +kernel) (by decide +kernel) (by decide +kernel) (xEF xk_9_s) (fun ci Tm sr rk hL => ?_)
  match ci, hL with
  | n + 0, hL => cases hL
theorem xc_10 (hc : xClo rvTab rvInf rvRet 316 rvMth Gd Met) (hcon : ∀ x, x < 10 → xCon Met (xCons x)) : xCon Met (xCons 10) := by
  refine xCtx_ok (d := 2) (X := 10) (con := xCons) (opt := xOpt) (hp := xHpt) (hn := xHnt) (cutp := xcC_10) (L := xcL_10) hc hcon (j := 7) (na := 6) (n := 60) (fuel := 100000) (pre := xcP_10) (src := xcS_10) (os := xcO_10) (ms := xcM_10) (ws := xcW_10) (t0 := xcTs_10) (tp := xcTp_10) (by omega) rfl rfl rfl (by decide +kernel) (by decide +kernel) (by decide +kernel) (xEF xk_10_s) (fun ci Tm sr rk hL => ?_)
  match ci, hL with
  | 0, hL => cases hL; exact ⟨xEF xk_10_0, by decide +kernel, by decide +kernel, by decide +kernel⟩
  | n + 1, hL => cases hL
theorem xc_11 (hc : xClo rvTab rvInf rvRet 316 rvMth Gd Met) (hcon : ∀ x, x < 11 → xCon Met (xCons x)) : xCon Met (xCons 11) := by
  refine xCtx_ok (d := 2) (X := 11) (con := xCons) (opt := xOpt) (hp := xHpt) (hn := xHnt) (cutp := xcC_11) (L := xcL_11) hc hcon (j := 8) (na := 5) (n := 60) (fuel := 100000) (pre := xcP_11) (src := xcS_11) (os := xcO_11) (ms := xcM_11) (ws := xcW_11) (t0 := xcTs_11) (tp := xcTp_11) (by omega) rfl rfl rfl (by decide +kernel) (by decide +kernel) (by decide +kernel) (xEF xk_11_s) (fun ci Tm sr rk hL => ?_)
  match ci, hL with
  | 0, hL => cases hL; exact ⟨xEF xk_11_0, by decide +kernel, by decide +kernel, by decide +kernel⟩
  | n + 1, hL => cases hL
theorem xc_12 (hc : xClo rvTab rvInf rvRet 316 rvMth Gd Met) (hcon : ∀ x, x < 12 → xCon Met (xCons x)) : xCon Met (xCons 12) := by
  refine xCtx_ok (d := 2) (X := 12) (con := xCons) (opt := xOpt) (hp := xHpt) (hn := xHnt) (cutp := xcC_12) (L := xcL_12) hc hcon (j := 9) (na := 2) (n := 52) (fuel := 100000) (pre := xcP_12) (src := xcS_12) (os := xcO_12) (ms := xcM_12) (ws := xcW_12) (t0 := xcTs_12) (tp := xcTp_12) (by omega) rfl rfl rfl (by decide +kernel) (by decide +kernel) (by decide +kernel) (xEF xk_12_s) (fun ci Tm sr rk hL => ?_)
  match ci, hL with
  | n + 0, hL => cases hL
theorem xc_13 (hc : xClo rvTab rvInf rvRet 316 rvMth Gd Met) (hcon : ∀ x, x < 13 → xCon Met (xCons x)) : xCon Met (xCons 13) := by
  refine xCtx_ok (d := 2) (X := 13) (con := xCons) (opt := xOpt) (hp := xHpt) (hn := xHnt) (cutp := xcC_13) (L := xcL_13) hc hcon (j := 10) (na := 3) (n := 52) (fuel := 100000) (pre := xcP_13) (src := xcS_13) (os := xcO_13) (ms := xcM_13) (ws := xcW_13) (t0 := xcTs_13) (tp := xcTp_13) (by omega) rfl rfl rfl (by decide +kernel) (by decide +kernel) (by decide +kernel) (xEF xk_13_s) (fun ci Tm sr rk hL => ?_)
  match ci, hL with
  | n + 0, hL => cases hL
theorem xc_14 (hc : xClo rvTab rvInf rvRet 316 rvMth Gd Met) (hcon : ∀ x, x < 14 → xCon Met (xCons x)) : xCon Met (xCons 14) := by
  refine xCtx_ok (d := 2) (X := 14) (con := xCons) (opt := xOpt) (hp := xHpt) (hn := xHnt) (cutp := xcC_14) (L := xcL_14) hc hcon (j := 7) (na := 6) (n := 60) (fuel := 100000) (pre := xcP_14) (src := xcS_14) (os := xcO_14) (ms := xcM_14) (ws := xcW_14) (t0 := xcTs_14) (tp := xcTp_14) (by omega) rfl rfl rfl (by decide +kernel) (by decide +kernel) (by decide +kernel) (xEF xk_14_s) (fun ci Tm sr rk hL => ?_)
  match ci, hL with
  | 0, hL => cases hL; exact ⟨xEF xk_14_0, by decide +kernel, by decide +kernel, by decide +kernel⟩
  | n + 1, hL => cases hL
theorem xc_15 (hc : xClo rvTab rvInf rvRet 316 rvMth Gd Met) (hcon : ∀ x, x < 15 → xCon Met (xCons x)) : xCon Met (xCons 15) := by
  refine xCtx_ok (d := 2) (X := 15) (con := xCons) (opt := xOpt) (hp := xHpt) (hn := xHnt) (cutp := xcC_15) (L := xcL_15) hc hcon (j := 11) (na := 7) (n := 60) (fuel := 100000) (pre := xcP_15) (src := xcS_15) (os := xcO_15) (ms := xcM_15) (ws := xcW_15) (t0 := xcTs_15) (tp := xcTp_15) (by omega) rfl rfl rfl (by decide +kernel) (by decide +kernel) (by decide +kernel) (xEF xk_15_s) (fun ci Tm sr rk hL => ?_)
  match ci, hL with
  | n + 0, hL => cases hL
theorem xc_16 (hc : xClo rvTab rvInf rvRet 316 rvMth Gd Met) (hcon : ∀ x, x < 16 → xCon Met (xCons x)) : xCon Met (xCons 16) := by
  refine xCtx_ok (d := 2) (X := 16) (con := xCons) (opt := xOpt) (hp := xHpt) (hn := xHnt) (cutp := xcC_16) (L := xcL_16) hc hcon (j := 12) (na := 4) (n := 52) (fuel := 100000) (pre := xcP_16) (src := xcS_16) (os := xcO_16) (ms := xcM_16) (ws := xcW_16) (t0 := xcTs_16) (tp := xcTp_16) (by omega) rfl rfl rfl (by decide +kernel) (by decide +kernel) (by decide +kernel) (xEF xk_16_s) (fun ci Tm sr rk hL => ?_)
  match ci, hL with
  | n + 0, hL => cases hL
theorem xc_17 (hc : xClo rvTab rvInf rvRet 316 rvMth Gd Met) (hcon : ∀ x, x < 17 → xCon Met (xCons x)) : xCon Met (xCons 17) := by
  refine xCtx_ok (d := 2) (X := 17) (con := xCons) (opt := xOpt) (hp := xHpt) (hn := xHnt) (cutp := xcC_17) (L := xcL_17) hc hcon (j := 12) (na := 4) (n := 52) (fuel := 100000) (pre := xcP_17) (src := xcS_17) (os := xcO_17) (ms := xcM_17) (ws := xcW_17) (t0 := xcTs_17) (tp := xcTp_17) (by omega) rfl rfl rfl (by decide +kernel) (by decide +kernel) (by decide +kernel) (xEF xk_17_s) (fun ci Tm sr rk hL => ?_)
  match ci, hL with
  | n + 0, hL => cases hL
theorem xc_18 (hc : xClo rvTab rvInf rvRet 316 rvMth Gd Met) (hcon : ∀ x, x < 18 → xCon Met (xCons x)) : xCon Met (xCons 18) := by
  refine xCtx_ok (d := 2) (X := 18) (con := xCons) (opt := xOpt) (hp := xHpt) (hn := xHnt) (cutp := xcC_18) (L := xcL_18) hc hcon (j := 12) (na := 4) (n := 52) (fuel := 100000) (pre := xcP_18) (src := xcS_18) (os := xcO_18) (ms := xcM_18) (ws := xcW_18) (t0 := xcTs_18) (tp := xcTp_18) (by omega) rfl rfl rfl (by decide +kernel) (by decide +kernel) (by decide +kernel) (xEF xk_18_s) (fun ci Tm sr rk hL => ?_)
  match ci, hL with
  | n + 0, hL => cases hL
theorem xc_19 (hc : xClo rvTab rvInf rvRet 316 rvMth Gd Met) (hcon : ∀ x, x < 19 → xCon Met (xCons x)) : xCon Met (xCons 19) := by
  refine xCtx_ok (d := 2) (X := 19) (con := xCons) (opt := xOpt) (hp := xHpt) (hn := xHnt) (cutp := xcC_19) (L := xcL_19) hc hcon (j := 7) (na := 6) (n := 60) (fuel := 100000) (pre := xcP_19) (src := xcS_19) (os := xcO_19) (ms := xcM_19) (ws := xcW_19) (t0 := xcTs_19) (tp := xcTp_19) (by omega) rfl rfl rfl (by decide +kernel) (by decide +kernel) (by decide +kernel) (xEF xk_19_s) (fun ci Tm sr rk hL => ?_)
  match ci, hL with
  | 0, hL => cases hL; exact ⟨xEF xk_19_0, by decide +kernel, by decide +kernel, by decide +kernel⟩
  | n + 1, hL => cases hL
theorem xc_20 (hc : xClo rvTab rvInf rvRet 316 rvMth Gd Met) (hcon : ∀ x, x < 20 → xCon Met (xCons x)) : xCon Met (xCons 20) := by
  refine xCtx_ok (d := 2) (X := 20) (con := xCons) (opt := xOpt) (hp := xHpt) (hn := xHnt) (cutp := xcC_20) (L := xcL_20) hc hcon (j := 11) (na := 7) (n := 60) (fuel := 100000) (pre := xcP_20) (src := xcS_20) (os := xcO_20) (ms := xcM_20) (ws := xcW_20) (t0 := xcTs_20) (tp := xcTp_20) (by omega) rfl rfl rfl (by decide +kernel) (by decide +kernel) (by decide +kernel) (xEF xk_20_s) (fun ci Tm sr rk hL => ?_)
  match ci, hL with
  | n + 0, hL => cases hL
theorem xc_21 (hc : xClo rvTab rvInf rvRet 316 rvMth Gd Met) (hcon : ∀ x, x < 21 → xCon Met (xCons x)) : xCon Met (xCons 21) := by
  refine xCtx_ok (d := 2) (X := 21) (con := xCons) (opt := xOpt) (hp := xHpt) (hn := xHnt) (cutp := xcC_21) (L := xcL_21) hc hcon (j := 12) (na := 4) (n := 52) (fuel := 100000) (pre := xcP_21) (src := xcS_21) (os := xcO_21) (ms := xcM_21) (ws := xcW_21) (t0 := xcTs_21) (tp := xcTp_21) (by omega) rfl rfl rfl (by decide +kernel) (by decide +kernel) (by decide +kernel) (xEF xk_21_s) (fun ci Tm sr rk hL => ?_)
  match ci, hL with
  | n + 0, hL => cases hL
theorem xc_22 (hc : xClo rvTab rvInf rvRet 316 rvMth Gd Met) (hcon : ∀ x, x < 22 → xCon Met (xCons x)) : xCon Met (xCons 22) := by
  refine xCtx_ok (d := 2) (X := 22) (con := xCons) (opt := xOpt) (hp := xHpt) (hn := xHnt) (cutp := xcC_22) (L := xcL_22) hc hcon (j := 7) (na := 6) (n := 60) (fuel := 100000) (pre := xcP_22) (src := xcS_22) (os := xcO_22) (ms := xcM_22) (ws := xcW_22) (t0 := xcTs_22) (tp := xcTp_22) (by omega) rfl rfl rfl (by decide +kernel) (by decide +kernel) (by decide +kernel) (xEF xk_22_s) (fun ci Tm sr rk hL => ?_)
  match ci, hL with
  | 0, hL => cases hL; exact ⟨xEF xk_22_0, by decide +kernel, by decide +kernel, by decide +kernel⟩
  | n + 1, hL => cases hL
theorem xc_23 (hc : xClo rvTab rvInf rvRet 316 rvMth Gd Met) (hcon : ∀ x, x < 23 → xCon Met (xCons x)) : xCon Met (xCons 23) := by
  refine xCtx_ok (d := 2) (X := 23) (con := xCons) (opt := xOpt) (hp := xHpt) (hn := xHnt) (cutp := xcC_23) (L := xcL_23) hc hcon (j := 11) (na := 7) (n := 60) (fuel := 100000) (pre := xcP_23) (src := xcS_23) (os := xcO_23) (ms := xcM_23) (ws := xcW_23) (t0 := xcTs_23) (tp := xcTp_23) (by omega) rfl rfl rfl (by decide +kernel) (by decide +kernel) (by decide +kernel) (xEF xk_23_s) (fun ci Tm sr rk hL => ?_)
  match ci, hL with
  | n + 0, hL => cases hL
theorem xc_24 (hc : xClo rvTab rvInf rvRet 316 rvMth Gd Met) (hcon : ∀ x, x < 24 → xCon Met (xCons x)) : xCon Met (xCons 24) := by
  refine xCtx_ok (d := 2) (X := 24) (con := xCons) (opt := xOpt) (hp := xHpt) (hn := xHnt) (cutp := xcC_24) (L := xcL_24) hc hcon (j := 12) (na := 4) (n := 52) (fuel := 100000) (pre := xcP_24) (src := xcS_24) (os := xcO_24) (ms := xcM_24) (ws := xcW_24) (t0 := xcTs_24) (tp := xcTp_24) (by omega) rfl rfl rfl (by decide +kernel) (by decide +kernel) (by decide +kernel) (xEF xk_24_s) (fun ci Tm sr rk hL => ?_)
  match ci, hL with
  | n + 0, hL => cases hL
theorem xc_25 (hc : xClo rvTab rvInf rvRet 316 rvMth Gd Met) (hcon : ∀ x, x < 25 → xCon Met (xCons x)) : xCon Met (xCons 25) := by
  refine xCtx_ok (d := 2) (X := 25) (con := xCons) (opt := xOpt) (hp := xHpt) (hn := xHnt) (cutp := xcC_25) (L := xcL_25) hc hcon (j := 7) (na := 6) (n := 60) (fuel := 100000) (pre := xcP_25) (src := xcS_25) (os := xcO_25) (ms := xcM_25) (ws := xcW_25) (t0 := xcTs_25) (tp := xcTp_25) (by omega) rfl rfl rfl (by decide +kernel) (by decide +kernel) (by decide +kernel) (xEF xk_25_s) (fun ci Tm sr rk hL => ?_)
  match ci, hL with
  | 0, hL => cases hL; exact ⟨xEF xk_25_0, by decide +kernel, by decide +kernel, by decide +kernel⟩
  | n + 1, hL => cases hL
theorem xc_26 (hc : xClo rvTab rvInf rvRet 316 rvMth Gd Met) (hcon : ∀ x, x < 26 → xCon Met (xCons x)) : xCon Met (xCons 26) := by
  refine xCtx_ok (d := 2) (X := 26) (con := xCons) (opt := xOpt) (hp := xHpt) (hn := xHnt) (cutp := xcC_26) (L := xcL_26) hc hcon (j := 11) (na := 7) (n := 60) (fuel := 100000) (pre := xcP_26) (src := xcS_26) (os := xcO_26) (ms := xcM_26) (ws := xcW_26) (t0 := xcTs_26) (tp := xcTp_26) (by omega) rfl rfl rfl (by decide +kernel) (by decide +kernel) (by decide +kernel) (xEF xk_26_s) (fun ci Tm sr rk hL => ?_)
  match ci, hL with
  | n + 0, hL => cases hL
theorem xc_27 (hc : xClo rvTab rvInf rvRet 316 rvMth Gd Met) (hcon : ∀ x, x < 27 → xCon Met (xCons x)) : xCon Met (xCons 27) := by
  refine xCtx_ok (d := 2) (X := 27) (con := xCons) (opt := xOpt) (hp := xHpt) (hn := xHnt) (cutp := xcC_27) (L := xcL_27) hc hcon (j := 1) (na := 1) (n := 52) (fuel := 100000) (pre := xcP_27) (src := xcS_27) (os := xcO_27) (ms := xcM_27) (ws := xcW_27) (t0 := xcTs_27) (tp := xcTp_27) (by omega) rfl rfl rfl (by decide +kernel) (by decide +kernel) (by decide +kernel) (xEF xk_27_s) (fun ci Tm sr rk hL => ?_)
  match ci, hL with
  | 0, hL => cases hL; exact ⟨xEF xk_27_0, by decide +kernel, by decide +kernel, by decide +kernel⟩
  | n + 1, hL => cases hL
theorem xc_28 (hc : xClo rvTab rvInf rvRet 316 rvMth Gd Met) (hcon : ∀ x, x < 28 → xCon Met (xCons x)) : xCon Met (xCons 28) := by
  refine xCtx_ok (d := 2) (X := 28) (con := xCons) (opt := xOpt) (hp := xHpt) (hn := xHnt) (cutp := xcC_28) (L := xcL_28) hc hcon (j := 1) (na := 1) (n := 52) (fuel := 100000) (pre := xcP_28) (src := xcS_28) (os := xcO_28) (ms := xcM_28) (ws := xcW_28) (t0 := xcTs_28) (tp := xcTp_28) (by omega) rfl rfl rfl (by decide +kernel) (by decide +kernel) (by decide +kernel) (xEF xk_28_s) (fun ci Tm sr rk hL => ?_)
  match ci, hL with
  | 0, hL => cases hL; exact ⟨xEF xk_28_0, by decide +kernel, by decide +kernel, by decide +kernel⟩
  | n + 1, hL => cases hL
theorem xc_29 (hc : xClo rvTab rvInf rvRet 316 rvMth Gd Met) (hcon : ∀ x, x < 29 → xCon Met (xCons x)) : xCon Met (xCons 29) := by
  refine xCtx_ok (d := 2) (X := 29) (con := xCons) (opt := xOpt) (hp := xHpt) (hn := xHnt) (cutp := xcC_29) (L := xcL_29) hc hcon (j := 13) (na := 0) (n := 52) (fuel := 100000) (pre := xcP_29) (src := xcS_29) (os := xcO_29) (ms := xcM_29) (ws := xcW_29) (t0 := xcTs_29) (tp := xcTp_29) (by omega) rfl rfl rfl (by decide +kernel) (by decide +kernel) (by decide +kernel) (xEF xk_29_s) (fun ci Tm sr rk hL => ?_)
  match ci, hL with
  | 0, hL => cases hL; exact ⟨xEF xk_29_0, by decide +kernel, by decide +kernel, by decide +kernel⟩
  | 1, hL => cases hL; exact ⟨xEF xk_29_1, by decide +kernel, by decide +kernel, by decide +kernel⟩
  | n + 2, hL => cases hL
end XCC
