section XCC
variable {Gd : Nat → (xRes2 → Prop) → rvS → Prop} {Met : Nat → List rvV → rvH → (xRes2 → Prop) → Prop}
theorem xc_30 (hc : xClo rvTab rvInf rvRet 316 rvMth Gd Met) (hcon : ∀ x, x < 30 → xCon Met (xCons x)) : xCon Met (xCons 30) := by
  refine xCtx_ok (d := 2) (X := 30) (con := xCons) (opt := xOpt) (hp := xHpt) (hn := xHnt) (cutp := xcC_30) (L := xcL_30) hc hcon (j := 14) (na := 1) (n := 52) (fuel := 100000) (pre := xcP_30) (src := xcS_30) (os := xcO_30) (ms := xcM_30) (ws := xcW_30) (t0 := xcTs_30) (tp := xcTp_30) (by omega) rfl rfl rfl (by decide +kernel) (by decide +kernel) (by decide +kernel) (xEF xk_30_s) (fun ci Tm sr rk hL => ?_)
  match ci, hL with
  | 0, hL => cases hL; exact ⟨xEF xk_30_0, by decide +kernel, by decide +kernel, by decide +kernel⟩
  | 1, hL => cases hL; exact ⟨xEF xk_30_1, by decide +kernel, by decide +kernel, by decide +kernel⟩
  | 2, hL => cases hL; exact ⟨xEF xk_30_2, by decide +kernel, by decide +kernel, by decide +kernel⟩
  | 3, hL => cases hL; exact ⟨xEF xk_30_3, by decide +kernel, by decide +kernel, by decide +kernel⟩
  | 4, hL => cases hL; exact ⟨xEF xk_30_4, by decide +kernel, by decide +kernel, by decide +kernel⟩
  | 5, hL => cases hL; exact ⟨xEF xk_30_5, by decide +kernel, by decide +kernel, by decide +kernel⟩
  | 6, hL => cases hL; exact ⟨xEF xk_30_6, by decide +kernel, by decide +kernel, by decide +kernel⟩
  | 7, hL => cases hL; exact ⟨xEF xk_30_7, by decide +kernel, by decide +kernel, by decide +kernel⟩
  | 8, hL => cases hL; exact ⟨xEF xk_30_8, by decide +kernel, by decide +kernel, by decide +kernel⟩
  | 9, hL => cases hL; exact ⟨xEF xk_30_9, by decide +kernel, by decide +kernel, by decide +kernel⟩
  | 10, hL => cases hL; exact ⟨xEF xk_30_10, by decide +kernel, by decide +kernel, by decide +kernel⟩
  | 11, hL => cases hL; exact ⟨xEF xk_30_11, by decide +kernel, by decide +kernel, by decide +kernel⟩
  | 12, hL => cases hL; exact ⟨xEF xk_30_12, by decide +kernel, by decide +kernel, by decide +kernel⟩
  | 13, hL => cases hL; exact ⟨xEF xk_30_13, by decide +kernel, by decide +kernel, by decide +kernel⟩
  | 14, hL => cases hL; exact ⟨xEF xk_30_14, by decide +kernel, by decide +kernel, by decide +kernel⟩
  | 15, hL => cases hL; exact ⟨xEF xk_30_15, by decide +kernel, by decide +kernel, by decide +kernel⟩
  | n + 16, hL => cases hL
theorem xc_31 (hc : xClo rvTab rvInf rvRet 316 rvMth Gd Met) (hcon : ∀ x, x < 31 → xCon Met (xCons x)) : xCon Met (xCons 31) := by
  refine xCtx_ok (d := 2) (X := 31) (con := xCons) (opt := xOpt) (hp := xHpt) (hn := xHnt) (cutp := xcC_31) (L := xcL_31) hc hcon (j := 15) (na := 0) (n := 52) (fuel := 100000) (pre := xcP_31) (src := xcS_31) (os := xcO_31) (ms := xcM_31) (ws := xcW_31) (t0 := xcTs_31) (tp := xcTp_31) (by omega) rfl rfl rfl (by decide +kernel) (by decide +kernel) (by decide +kernel) (xEF xk_31_s) (fun ci Tm sr rk hL => ?_)
  match ci, hL with
  | 0, hL => cases hL; exact ⟨xEF xk_31_0, by decide +kernel, by decide +kernel, by decide +kernel⟩
  | 1, hL => cases hL; exact ⟨xEF xk_31_1, by decide +kernel, by decide +kernel, by decide +kernel⟩
  | n + 2, hL => cases hL
theorem xc_32 (hc : xClo rvTab rvInf rvRet 316 rvMth Gd Met) (hcon : ∀ x, x < 32 → xCon Met (xCons x)) : xCon Met (xCons 32) := by
  refine xCtx_ok (d := 2) (X := 32) (con := xCons) (opt := xOpt) (hp := xHpt) (hn := xHnt) (cutp := xcC_32) (L := xcL_32) hc hcon (j := 16) (na := 0) (n := 52) (fuel := 100000) (pre := xcP_32) (src := xcS_32) (os := xcO_32) (ms := xcM_32) (ws := xcW_32) (t0 := xcTs_32) (tp := xcTp_32) (by omega) rfl rfl rfl (by decide +kernel) (by decide +kernel) (by decide +kernel) (xEF xk_32_s) (fun ci Tm sr rk hL => ?_)
  match ci, hL with
  | 0, hL => cases hL; exact ⟨xEF xk_32_0, by decide +kernel, by decide +kernel, by decide +kernel⟩
  | 1, hL => cases hL; exact ⟨xEF xk_32_1, by decide +kernel, by decide +kernel, by decide +kernel⟩
  | n + 2, hL => cases hL
theorem xc_33 (hc : xClo rvTab rvInf rvRet 316 rvMth Gd Met) (hcon : ∀ x, x < 33 → xCon Met (xCons x)) : xCon Met (xCons 33) := by
  refine xCtx_ok (d := 2) (X := 33) (con := xCons) (opt := xOpt) (hp := xHpt) (hn := xHnt) (cutp := xcC_33) (L := xcL_33) hc hcon (j := 17) (na := 4) (n := 52) (fuel := 100000) (pre := xcP_33) (src := xcS_33) (os := xcO_33) (ms := xcM_33) (ws := xcW_33) (t0 := xcTs_33) (tp := xcTp_33) (by omega) rfl rfl rfl (by decide +kernel) (by decide +kernel) (by decide +kernel) (xEF xk_33_s) (fun ci Tm sr rk hL => ?_)
  match ci, hL with
  | 0, hL => cases hL; exact ⟨xEF xk_33_0, by decide +kernel, by decide +kernel, by decide +kernel⟩
  | n + 1, hL => cases hL
theorem xc_34 (hc : xClo rvTab rvInf rvRet 316 rvMth Gd Met) (hcon : ∀ x, x < 34 → xCon Met (xCons x)) : xCon Met (xCons 34) := by
  refine xCtx_ok (d := 2) (X := 34) (con := xCons) (opt := xOpt) (hp := xHpt) (hn := xHnt) (cutp := xcC_34) (L := xcL_34) hc hcon (j := 2) (na := 0) (n := 52) (fuel := 100000) (pre := xcP_34) (src := xcS_34) (os := xcO_34) (ms := xcM_34) (ws := xcW_34) (t0 := xcTs_34) (tp := xcTp_34) (by omega) rfl rfl rfl (by decide +kernel) (by decide +kernel) (by decide +kernel) (xEF xk_34_s) (fun ci Tm sr rk hL => ?_)
  match ci, hL with
  | 0, hL => cases hL; exact ⟨xEF xk_34_0, by decide +kernel, by decide +kernel, by decide +kernel⟩
  | n + 1, hL => cases hL
theorem xc_35 (hc : xClo rvTab rvInf rvRet 316 rvMth Gd Met) (hcon : ∀ x, x < 35 → xCon Met (xCons x)) : xCon Met (xCons 35) := by
  refine xCtx_ok (d := 2) (X := 35) (con := xCons) (opt := xOpt) (hp := xHpt) (hn := xHnt) (cutp := xcC_35) (L := xcL_35) hc hcon (j := 7) (na := 6) (n := 60) (fuel := 100000) (pre := xcP_35) (src := xcS_35) (os := xcO_35) (ms := xcM_35) (ws := xcW_35) (t0 := xcTs_35) (tp := xcTp_35) (by omega) rfl rfl rfl (by decide +kernel) (by decide +kernel) (by decide +kernel) (xEF xk_35_s) (fun ci Tm sr rk hL => ?_)
  match ci, hL with
  | 0, hL => cases hL; exact ⟨xEF xk_35_0, by decide +kernel, by decide +kernel, by decide +kernel⟩
  | n + 1, hL => cases hL
theorem xc_36 (hc : xClo rvTab rvInf rvRet 316 rvMth Gd Met) (hcon : ∀ x, x < 36 → xCon Met (xCons x)) : xCon Met (xCons 36) := by
  refine xCtx_ok (d := 2) (X := 36) (con := xCons) (opt := xOpt) (hp := xHpt) (hn := xHnt) (cutp := xcC_36) (L := xcL_36) hc hcon (j := 16) (na := 5) (n := 60) (fuel := 100000) (pre := xcP_36) (src := xcS_36) (os := xcO_36) (ms := xcM_36) (ws := xcW_36) (t0 := xcTs_36) (tp := xcTp_36) (by omega) rfl rfl rfl (by decide +kernel) (by decide +kernel) (by decide +kernel) (xEF xk_36_s) (fun ci Tm sr rk hL => ?_)
  match ci, hL with
  | 0, hL => cases hL; exact ⟨xEF xk_36_0, by decide +kernel, by decide +kernel, by decide +kernel⟩
  | 1, hL => cases hL; exact ⟨xEF xk_36_1, by decide +kernel, by decide +kernel, by decide +kernel⟩
  | n + 2, hL => cases hL
theorem xc_37 (hc : xClo rvTab rvInf rvRet 316 rvMth Gd Met) (hcon : ∀ x, x < 37 → xCon Met (xCons x)) : xCon Met (xCons 37) := by
  refine xCtx_ok (d := 2) (X := 37) (con := xCons) (opt := xOpt) (hp := xHpt) (hn := xHnt) (cutp := xcC_37) (L := xcL_37) hc hcon (j := 13) (na := 5) (n := 60) (fuel := 100000) (pre := xcP_37) (src := xcS_37) (os := xcO_37) (ms := xcM_37) (ws := xcW_37) (t0 := xcTs_37) (tp := xcTp_37) (by omega) rfl rfl rfl (by decide +kernel) (by decide +kernel) (by decide +kernel) (xEF xk_37_s) (fun ci Tm sr rk hL => ?_)
  match ci, hL with
  | 0, hL => cases hL; exact ⟨xEF xk_37_0, by decide +kernel, by decide +kernel, by decide +kernel⟩
  | 1, hL => cases hL; exact ⟨xEF xk_37_1, by decide +kernel, by decide +kernel, by decide +kernel⟩
  | n + 2, hL => cases hL
theorem xc_38 (hc : xClo rvTab rvInf rvRet 316 rvMth Gd Met) (hcon : ∀ x, x < 38 → xCon Met (xCons x)) : xCon Met (xCons 38) := by
  refine xCtx_ok (d := 2) (X := 38) (con := xCons) (opt := xOpt) (hp := xHpt) (hn := xHnt) (cutp := xcC_38) (L := xcL_38) hc hcon (j := 15) (na := 5) (n := 60) (fuel := 100000) (pre := xcP_38) (src := xcS_38) (os := xcO_38) (ms := xcM_38) (ws := xcW_38) (t0 := xcTs_38) (tp := xcTp_38) (by omega) rfl rfl rfl (by decide +kernel) (by decide +kernel) (by decide +kernel) (xEF xk_38_s) (fun ci Tm sr rk hL => ?_)
  match ci, hL with
  | 0, hL => cases hL; exact ⟨xEF xk_38_0, by decide +kernel, by decide +kernel, by decide +kernel⟩
  | 1, hL => cases hL; exact ⟨xEF xk_38_1, by decide +kernel, by decide +kernel, by decide +kernel⟩
  | n + 2, hL => cases hL
theorem xc_39 (hc : xClo rvTab rvInf rvRet 316 rvMth Gd Met) (hcon : ∀ x, x < 39 → xCon Met (xCons x)) : xCon Met (xCons 39) := by
  refine xCtx_ok (d := 2) (X := 39) (con := xCons) (opt := xOpt) (hp := xHpt) (hn := xHnt) (cutp := xcC_39) (L := xcL_39) hc hcon (j := 18) (na := 3) (n := 52) (fuel := 100000) (pre := xcP_39) (src := xcS_39) (os := xcO_39) (ms := xcM_39) (ws := xcW_39) (t0 := xcTs_39) (tp := xcTp_39) (by omega) rfl rfl rfl (by decide +kernel) (by decide +kernel) (by decide +kernel) (xEF xk_39_s) (fun ci Tm sr rk hL => ?_)
  match ci, hL with
  | 0, hL => cases hL; exact ⟨xEF xk_39_0, by decide +kernel, by decide +kernel, by decide +kernel⟩
  | 1, hL => cases hL; exact ⟨xEF xk_39_1, by decide +kernel, by decide +kernel, by decide +kernel⟩
  | 2, hL => cases hL; exact ⟨xEF xk_39_2, by decide +kernel, by decide +kernel, by decide +kernel⟩
  | 3, hL => cases hL; exact ⟨xEF xk_39_3, by decide +kernel, by decide +kernel, by decide +kernel⟩
  | 4, hL => cases hL; exact ⟨xEF xk_39_4, by decide +kernel, by decide +kernel, by decide +kernel⟩
  | 5, hL => cases hL; exact ⟨xEF xk_39_5, by decide +kernel, by decide +kernel, by decide +kernel⟩
  | 6, hL => cases hL; exact ⟨xEF xk_39_6, by decide +kernel, by decide +kernel, by decide +kernel⟩
  | 7, hL => cases hL; exact ⟨xEF xk_39_7, by decide +kernel, by decide +kernel, by decide +kernel⟩
  | 8, hL => cases hL; exact ⟨xEF xk_39_8, by decide +kernel, by decide +kernel, by decide +kernel⟩
  | 9, hL => cases hL; exact ⟨xEF xk_39_9, by decide +kernel, by decide +kernel, by decide +kernel⟩
  | 10, hL => cases hL; exact ⟨xEF xk_39_10, by decide +kernel, by decide +kernel, by decide +kernel⟩
  | n + 11, hL => cases hL
theorem xc_40 (hc : xClo rvTab rvInf rvRet 316 rvMth Gd Met) (hcon : ∀ x, x < 40 → xCon Met (xCons x)) : xCon Met (xCons 40) := by
  refine xCtx_ok (d := 2) (X := 40) (con := xCons) (opt := xOpt) (hp := xHpt) (hn := xHnt) (cutp := xcC_40) (L := xcL_40) hc hcon (j := 19) (na := 1) (n := 52) (fuel := 100000) (pre := xcP_40) (src := xcS_40) (os := xcO_40) (ms := xcM_40) (ws := xcW_40) (t0 := xcTs_40) (tp := xcTp_40) (by omega) rfl rfl rfl (by decide +kernel) (by decide +kernel) (by decide +kernel) (xEF xk_40_s) (fun ci Tm sr rk hL => ?_)
  match ci, hL with
  | n + 0, hL => cases hL
theorem xc_41 (hc : xClo rvTab rvInf rvRet 316 rvMth Gd Met) (hcon : ∀ x, x < 41 → xCon Met (xCons x)) : xCon Met (xCons 41) := by
  refine xCtx_ok (d := 2) (X := 41) (con := xCons) (opt := xOpt) (hp := xHpt) (hn := xHnt) (cutp := xcC_41) (L := xcL_41) hc hcon (j := 20) (na := 1) (n := 52) (fuel := 100000) (pre := xcP_41) (src := xcS_41) (os := xcO_41) (ms := xcM_41) (ws := xcW_41) (t0 := xcTs_41) (tp := xcTp_41) (by omega) rfl rfl rfl (by decide +kernel) (by decide +kernel) (by decide +kernel) (xEF xk_41_s) (fun ci Tm sr rk hL => ?_)
  match ci, hL with
  | 0, hL => cases hL; exact ⟨xEF xk_41_0, by decide +kernel, by decide +kernel, by decide +kernel⟩
  | n + 1, hL => cases hL
theorem xc_42 (hc : xClo rvTab rvInf rvRet 316 rvMth Gd Met) (hcon : ∀ x, x < 42 → xCon Met (xCons x)) : xCon Met (xCons 42) := by
  refine xCtx_ok (d := 2) (X := 42) (con := xCons) (opt := xOpt) (hp := xHpt) (hn := xHnt) (cutp := xcC_42) (L := xcL_42) hc hcon (j := 21) (na := 2) (n := 52) (fuel := 100000) (pre := xcP_42) (src := xcS_42) (os := xcO_42) (ms := xcM_42) (ws := xcW_42) (t0 := xcTs_42) (tp := xcTp_42) (by omega) rfl rfl rfl (by decide +kernel) (by decide +kernel) (by decide +kernel) (xEF xk_42_s) (fun ci Tm sr rk hL => ?_)
  match ci, hL with
  | 0, hL => cases hL; exact ⟨xEF xk_42_0, by decide +kernel, by decide +kernel, by decide +kernel⟩
  | n + 1, hL => cases hL
theorem xc_43 (hc : xClo rvTab rvInf rvRet 316 rvMth Gd Met) (hcon : ∀ x, x < 43 → xCon Met (xCons x)) : xCon Met (xCons 43) := by
  refine xCtx_ok (d := 2) (X := 43) (con := xCons) (opt := xOpt) (hp := xHpt) (hn := xHnt) (cutp := xcC_43) (L := xcL_43) hc hcon (j := 21) (na := 2) (n := 52) (fuel := 100000) (pre := xcP_43) (src := xcS_43) (os := xcO_43) (ms := xcM_43) (ws := xcW_43) (t0 := xcTs_43) (tp := xcTp_43) (by omega) rfl rfl rfl (by decide +kernel) (by decide +kernel) (by decide +kernel) (xEF xk_43_s) (fun ci Tm sr rk hL => ?_)
  match ci, hL with
  | 0, hL => cases hL; exact ⟨xEF xk_43_0, by decide +kernel, by decide +kernel, by decide +kernel⟩
  | n + 1, hL => cases hL
theorem xc_44 (hc : xClo rvTab rvInf rvRet 316 rvMth Gd Met) (hcon : ∀ x, x < 44 → xCon Met (xCons x)) : xCon Met (xCons 44) := by
  refine xCtx_ok (d := 2) (X := 44) (con := xCons) (opt := xOpt) (hp := xHpt) (hn := xHnt) (cutp := xcC_44) (L := xcL_44) hc hcon (j := 21) (na := 2) (n := 52) (fuel := 100000) (pre := xcP_44) (src := xcS_44) (os := xcO_44) (ms := xcM_44) (ws := xcW_44) (t0 := xcTs_44) (tp := xcTp_44) (by omega) rfl rfl rfl (by decide +kernel) (by decide +kernel) (by decide +kernel) (xEF xk_44_s) (fun ci Tm sr rk hL => ?_)
  match ci, hL with
  | 0, hL => cases hL; exact ⟨xEF xk_44_0, by decide +kernel, by decide +kernel, by decide +kernel⟩
  | n + 1, hL => cases hL
theorem xc_45 (hc : xClo rvTab rvInf rvRet 316 rvMth Gd Met) (hcon : ∀ x, x < 45 → xCon Met (xCons x)) : xCon Met (xCons 45) := by
  refine xCtx_ok (d := 2) (X := 45) (con := xCons) (opt := xOpt) (hp := xHpt) (hn := xHnt) (cutp := xcC_45) (L := xcL_45) hc hcon (j := 21) (na := 2) (n := 52) (fuel := 100000) (pre := xcP_45) (src := xcS_45) (os := xcO_45) (ms := xcM_45) (ws := xcW_45) (t0 := xcTs_45) (tp := xcTp_45) (by omega) rfl rfl rfl (by decide +kernel) (by decide +kernel) (by decide +kernel) (xEF xk_45_s) (fun ci Tm sr rk hL => ?_)
  match ci, hL with
  | 0, hL => cases hL; exact ⟨xEF xk_45_0, by decide +kernel, by decide +kernel, by decide +kernel⟩
  | n + 1, hL => cases hL
theorem xc_46 (hc : xClo rvTab rvInf rvRet 316 rvMth Gd Met) (hcon : ∀ x, x < 46 → xCon Met (xCons x)) : xCon Met (xCons 46) := by
  refine xCtx_ok (d := 2) (X := 46) (con := xCons) (opt := xOpt) (hp := xHpt) (hn := xHnt) (cutp := xcC_46) (L := xcL_46) hc hcon (j := 22) (na := 4) (n := 52) (fuel := 100000) (pre := xcP_46) (src := xcS_46) (os := xcO_46) (ms := xcM_46) (ws := xcW_46) (t0 := xcTs_46) (tp := xcTp_46) (by omega) rfl rfl rfl (by decide +kernel) (by decide +kernel) (by decide +kernel) (xEF xk_46_s) (fun ci Tm sr rk hL => ?_)
  match ci, hL with
  | n + 0, hL => cases hL
theorem xc_47 (hc : xClo rvTab rvInf rvRet 316 rvMth Gd Met) (hcon : ∀ x, x < 47 → xCon Met (xCons x)) : xCon Met (xCons 47) := by
  refine xCtx_ok (d := 2) (X := 47) (con := xCons) (opt := xOpt) (hp := xHpt) (hn := xHnt) (cutp := xcC_47) (L := xcL_47) hc hcon (j := 22) (na := 4) (n := 52) (fuel := 100000) (pre := xcP_47) (src := xcS_47) (os := xcO_47) (ms := xcM_47) (ws := xcW_47) (t0 := xcTs_47) (tp := xcTp_47) (by omega) rfl rfl rfl (by decide +kernel) (by decide +kernel) (by decide +kernel) (xEF xk_47_s) (fun ci Tm sr rk hL => ?_)
  match ci, hL with
  | n + 0, hL => cases hL
theorem xc_48 (hc : xClo rvTab rvInf rvRet 316 rvMth Gd Met) (hcon : ∀ x, x < 48 → xCon Met (xCons x)) : xCon Met (xCons 48) := by
  refine xCtx_ok (d := 2) (X := 48) (con := xCons) (opt := xOpt) (hp := xHpt) (hn := xHnt) (cutp := xcC_48) (L := xcL_48) hc hcon (j := 23) (na := 8) (n := 52) (fuel := 100000) (pre := xcP_48) (src := xcS_48) (os := xcO_48) (ms := xcM_48) (ws := xcW_48) (t0 := xcTs_48) (tp := xcTp_48) (by omega) rfl rfl rfl (by decide +kernel) (by decide +kernel) (by decide +kernel) (xEF xk_48_s) (fun ci Tm sr rk hL => ?_)
  match ci, hL with
  | 0, hL => cases hL; exact ⟨xEF xk_48_0, by decide +kernel, by decide +kernel, by decide +kernel⟩
  | 1, hL => cases hL; exact ⟨xEF xk_48_1, by decide +kernel, by decide +kernel, by decide +kernel⟩
  | 2, hL => cases hL; exact ⟨xEF xk_48_2, by decide +kernel, by decide +kernel, by decide +kernel⟩
  | 3, hL => cases hL; exact ⟨xEF xk_48_3, by decide +kernel, by decide +kernel, by decide +kernel⟩
  | 4, hL => cases hL; exact ⟨xEF xk_48_4, by decide +kernel, by decide +kernel, by decide +kernel⟩
  | 5, hL => cases hL; exact ⟨xEF xk_48_5, by decide +kernel, by decide +kernel, by decide +kernel⟩
  | 6, hL => cases hL; exact ⟨xEF xk_48_6, by decide +kernel, by decide +kernel, by decide +kernel⟩
  | 7, hL => cases hL; exact ⟨xEF xk_48_7, by decide +kernel, by decide +kernel, by decide +kernel⟩
  | 8, hL => cases hL; exact ⟨xEF xk_48_8, by decide +kernel, by decide +kernel, by decide +kernel⟩
  | 9, hL => cases hL; exact ⟨xEF xk_48_9, by decide +kernel, by decide +kernel, by decide +kernel⟩
  | 10, hL => cases hL; exact ⟨xEF xk_48_10, by decide +kernel, by decide +kernel, by decide +kernel⟩
  | 11, hL => cases hL; exact ⟨xEF xk_48_11, by decide +kernel, by decide +kernel, by decide +kernel⟩
  | 12, hL => cases hL; exact ⟨xEF xk_48_12, by decide +kernel, by decide +kernel, by decide +kernel⟩
  | 13, hL => cases hL; exact ⟨xEF xk_48_13, by decide +kernel, by decide +kernel, by decide +kernel⟩
  | 14, hL => cases hL; exact ⟨xEF xk_48_14, by decide +kernel, by decide +kernel, by decide +kernel⟩
  | 15, hL => cases hL; exact ⟨xEF xk_48_15, by decide +kernel, by decide +kernel, by decide +kernel⟩
  | 16, hL => cases hL; exact ⟨xEF xk_48_16, by decide +kernel, by decide +kernel, by decide +kernel⟩
  | 17, hL => cases hL; exact ⟨xEF xk_48_17, by decide +kernel, by decide +kernel, by decide +kernel⟩
  | 18, hL => cases hL; exact ⟨xEF xk_48_18, by decide +kernel, by decide +kernel, by decide +kernel⟩
  | 19, hL => cases hL; exact ⟨xEF xk_48_19, by decide +kernel, by decide +kernel, by decide +kernel⟩
  | 20, hL => cases hL; exact ⟨xEF xk_48_20, by decide +kernel, by decide +kernel, by decide +kernel⟩
  | 21, hL => cases hL; exact ⟨xEF xk_48_21, by decide +kernel, by decide +kernel, by decide +kernel⟩
  | 22, hL => cases hL; exact ⟨xEF xk_48_22, by decide +kernel, by decide +kernel, by decide +kernel⟩
  | 23, hL => cases hL; exact ⟨xEF xk_48_23, by decide +kernel, by decide +kernel, by decide +kernel⟩
  | 24, hL => cases hL; exact ⟨xEF xk_48_24, by decide +kernel, by decide +kernel, by decide +kernel⟩
  | 25, hL => cases hL; exact ⟨xEF xk_48_25, by decide +kernel, by decide +kernel, by decide +kernel⟩
  | 26, hL => cases hL; exact ⟨xEF xk_48_26, by decide +kernel, by decide +kernel, by decide +kernel⟩
  | 27, hL => cases hL; exact ⟨xEF xk_48_27, by decide +kernel, by decide +kernel, by decide +kernel⟩
  | n + 28, hL => cases hL
theorem xc_49 (hc : xClo rvTab rvInf rvRet 316 rvMth Gd Met) (hcon : ∀ x, x < 49 → xCon Met (xCons x)) : xCon Met (xCons 49) := by
  refine xCtx_ok (d := 2) (X := 49) (con := xCons) (opt := xOpt) (hp := xHpt) (hn := xHnt) (cutp := xcC_49) (L := xcL_49) hc hcon (j := 22) (na := 4) (n := 52) (fuel := 100000) (pre := xcP_49) (src := xcS_49) (os := xcO_49) (ms := xcM_49) (ws := xcW_49) (t0 := xcTs_49) (tp := xcTp_49) (by omega) rfl rfl rfl (by decide +kernel) (by decide +kernel) (by decide +kernel) (xEF xk_49_s) (fun ci Tm sr rk hL => ?_)
  match ci, hL with
  | n + 0, hL => cases hL
theorem xc_50 (hc : xClo rvTab rvInf rvRet 316 rvMth Gd Met) (hcon : ∀ x, x < 50 → xCon Met (xCons x)) : xCon Met (xCons 50) := by
  refine xCtx_ok (d := 2) (X := 50) (con := xCons) (opt := xOpt) (hp := xHpt) (hn := xHnt) (cutp := xcC_50) (L := xcL_50) hc hcon (j := 22) (na := 4) (n := 52) (fuel := 100000) (pre := xcP_50) (src := xcS_50) (os := xcO_50) (ms := xcM_50) (ws := xcW_50) (t0 := xcTs_50) (tp := xcTp_50) (by omega) rfl rfl rfl (by decide +kernel) (by decide +kernel) (by decide +kernel) (xEF xk_50_s) (fun ci Tm sr rk hL => ?_)
  match ci, hL with
  | n + 0, hL => cases hL
theorem xKs_51_7 (hc : xClo rvTab rvInf rvRet 316 rvMth Gd Met) (hcon : ∀ x, x < 51 → xCon Met (xCons x)) : xKsem Gd 14 52 24 xcM_51 xcO_51 (fun i => xcL_51[i]?) (some xKrk_51_7) xcT_51_7 := by
  refine xKs_f (mth := rvMth) (d := 2) (NM := 316) (X := 51) (opt := xOpt) (hp := xHpt) (hn := xHnt) (cutp := xcC_51) (j0 := 24) (ck := xKck_51_7) (oc := xKoc_51_7) hc hcon (fun x S h => ⟨2, x, h⟩) (fun R h => ?_) (by omega) rfl xKr_51_7 (fun m q hm => ?_)
  · obtain ⟨q, hq, hq2⟩ := List.any_eq_true.mp h
    exact ⟨2, q, hq, hq2⟩
  · match m, hm with
    | 0, hm => cases hm; exact ⟨100000, _, xKr_51_7_0⟩
    | 1, hm => cases hm; exact ⟨100000, _, xKr_51_7_1⟩
    | 2, hm => cases hm; exact ⟨100000, _, xKr_51_7_2⟩
    | 3, hm => cases hm; exact ⟨100000, _, xKr_51_7_3⟩
    | 4, hm => cases hm; exact ⟨100000, _, xKr_51_7_4⟩
    | 5, hm => cases hm; exact ⟨100000, _, xKr_51_7_5⟩
    | 6, hm => cases hm; exact ⟨100000, _, xKr_51_7_6⟩
    | 7, hm => cases hm; exact ⟨100000, _, xKr_51_7_7⟩
    | 8, hm => cases hm; exact ⟨100000, _, xKr_51_7_8⟩
    | 9, hm => cases hm; exact ⟨100000, _, xKr_51_7_9⟩
    | 10, hm => cases hm; exact ⟨100000, _, xKr_51_7_10⟩
    | 11, hm => cases hm; exact ⟨100000, _, xKr_51_7_11⟩
    | 12, hm => cases hm; exact ⟨100000, _, xKr_51_7_12⟩
    | 13, hm => cases hm; exact ⟨100000, _, xKr_51_7_13⟩
    | 14, hm => cases hm; exact ⟨100000, _, xKr_51_7_14⟩
    | 15, hm => cases hm; exact ⟨100000, _, xKr_51_7_15⟩
    | 16, hm => cases hm; exact ⟨100000, _, xKr_51_7_16⟩
    | 17, hm => cases hm; exact ⟨100000, _, xKr_51_7_17⟩
    | 18, hm => cases hm; exact ⟨100000, _, xKr_51_7_18⟩
    | 19, hm => cases hm; exact ⟨100000, _, xKr_51_7_19⟩
    | 20, hm => cases hm; exact ⟨100000, _, xKr_51_7_20⟩
    | 21, hm => cases hm; exact ⟨100000, _, xKr_51_7_21⟩
    | 22, hm => cases hm; exact ⟨100000, _, xKr_51_7_22⟩
    | 23, hm => cases hm; exact ⟨100000, _, xKr_51_7_23⟩
    | 24, hm => cases hm; exact ⟨100000, _, xKr_51_7_24⟩
    | m + 25, hm => cases hm
theorem xc_51 (hc : xClo rvTab rvInf rvRet 316 rvMth Gd Met) (hcon : ∀ x, x < 51 → xCon Met (xCons x)) : xCon Met (xCons 51) := by
  refine xCtx_okF (mth := rvMth) (d := 2) (X := 51) (con := xCons) (opt := xOpt) (hp := xHpt) (hn := xHnt) (cutp := xcC_51) (L := xcL_51) hc hcon (j := 24) (na := 14) (n := 52) (fuel := 100000) (pre := xcP_51) (src := xcS_51) (os := xcO_51) (ms := xcM_51) (ws := xcW_51) (t0 := xcTs_51) (by omega) rfl rfl rfl (by decide +kernel) (by decide +kernel) (by decide +kernel) (xEF xk_51_s) (fun ci Tm sr rk hL => ?_)
  match ci, hL with
  | 0, hL => cases hL; exact ⟨xKs_run hc hcon (by omega) (xEF xk_51_0), by decide +kernel, by decide +kernel, by decide +kernel⟩
  | 1, hL => cases hL; exact ⟨xKs_run hc hcon (by omega) (xEF xk_51_1), by decide +kernel, by decide +kernel, by decide +kernel⟩
  | 2, hL => cases hL; exact ⟨xKs_run hc hcon (by omega) (xEF xk_51_2), by decide +kernel, by decide +kernel, by decide +kernel⟩
  | 3, hL => cases hL; exact ⟨xKs_run hc hcon (by omega) (xEF xk_51_3), by decide +kernel, by decide +kernel, by decide +kernel⟩
  | 4, hL => cases hL; exact ⟨xKs_run hc hcon (by omega) (xEF xk_51_4), by decide +kernel, by decide +kernel, by decide +kernel⟩
  | 5, hL => cases hL; exact ⟨xKs_run hc hcon (by omega) (xEF xk_51_5), by decide +kernel, by decide +kernel, by decide +kernel⟩
  | 6, hL => cases hL; exact ⟨xKs_run hc hcon (by omega) (xEF xk_51_6), by decide +kernel, by decide +kernel, by decide +kernel⟩
  | 7, hL => cases hL; exact ⟨xKs_51_7 hc hcon, by decide +kernel, by decide +kernel, by decide +kernel⟩
  | 8, hL => cases hL; exact ⟨xKs_run hc hcon (by omega) (xEF xk_51_8), by decide +kernel, by decide +kernel, by decide +kernel⟩
  | 9, hL => cases hL; exact ⟨xKs_run hc hcon (by omega) (xEF xk_51_9), by decide +kernel, by decide +kernel, by decide +kernel⟩
  | 10, hL => cases hL; exact ⟨xKs_run hc hcon (by omega) (xEF xk_51_10), by decide +kernel, by decide +kernel, by decide +kernel⟩
  | 11, hL => cases hL; exact ⟨xKs_run hc hcon (by omega) (xEF xk_51_11), by decide +kernel, by decide +kernel, by decide +kernel⟩
  | 12, hL => cases hL; exact ⟨xKs_run hc hcon (by omega) (xEF xk_51_12), by decide +kernel, by decide +kernel, by decide +kernel⟩
  | 13, hL => cases hL; exact ⟨xKs_run hc hcon (by omega) (xEF xk_51_13), by decide +kernel, by decide +kernel, by decide +kernel⟩
  | 14, hL => cases hL; exact ⟨xKs_run hc hcon (by omega) (xEF xk_51_14), by decide +kernel, by decide +kernel, by decide +kernel⟩
  | 15, hL => cases hL; exact ⟨xKs_run hc hcon (by omega) (xEF xk_51_15), by decide +kernel, by decide +kernel, by decide +kernel⟩
  | 16, hL => cases hL; exact ⟨xKs_run hc hcon (by omega) (xEF xk_51_16), by decide +kernel, by decide +kernel, by decide +kernel⟩
  | 17, hL => cases hL; exact ⟨xKs_run hc hcon (by omega) (xEF xk_51_17), by decide +kernel, by decide +kernel, by decide +kernel⟩
  | 18, hL => cases hL; exact ⟨xKs_run hc hcon (by omega) (xEF xk_51_18), by decide +kernel, by decide +kernel, by decide +kernel⟩
  | 19, hL => cases hL; exact ⟨xKs_run hc hcon (by omega) (xEF xk_51_19), by decide +kernel, by decide +kernel, by decide +kernel⟩
  | 20, hL => cases hL; exact ⟨xKs_run hc hcon (by omega) (xEF xk_51_20), by decide +kernel, by decide +kernel, by decide +kernel⟩
  | 21, hL => cases hL; exact ⟨xKs_run hc hcon (by omega) (xEF xk_51_21), by decide +kernel, by decide +kernel, by decide +kernel⟩
  | 22, hL => cases hL; exact ⟨xKs_run hc hcon (by omega) (xEF xk_51_22), by decide +kernel, by decide +kernel, by decide +kernel⟩
  | 23, hL => cases hL; exact ⟨xKs_run hc hcon (by omega) (xEF xk_51_23), by decide +kernel, by decide +kernel, by decide +kernel⟩
  | 24, hL => cases hL; exact ⟨xKs_run hc hcon (by omega) (xEF xk_51_24), by decide +kernel, by decide +kernel, by decide +kernel⟩
  | 25, hL => cases hL; exact ⟨xKs_run hc hcon (by omega) (xEF xk_51_25), by decide +kernel, by decide +kernel, by decide +kernel⟩
  | 26, hL => cases hL; exact ⟨xKs_run hc hcon (by omega) (xEF xk_51_26), by decide +kernel, by decide +kernel, by decide +kernel⟩
  | 27, hL => cases hL; exact ⟨xKs_run hc hcon (by omega) (xEF xk_51_27), by decide +kernel, by decide +kernel, by decide +kernel⟩
  | 28, hL => cases hL; exact ⟨xKs_run hc hcon (by omega) (xEF xk_51_28), by decide +kernel, by decide +kernel, by decide +kernel⟩
  | 29, hL => cases hL; exact ⟨xKs_run hc hcon (by omega) (xEF xk_51_29), by decide +kernel, by decide +kernel, by decide +kernel⟩
  | 30, hL => cases hL; exact ⟨xKs_run hc hcon (by omega) (xEF xk_51_30), by decide +kernel, by decide +kernel, by decide +kernel⟩
  | 31, hL => cases hL; exact ⟨xKs_run hc hcon (by omega) (xEF xk_51_31), by decide +kernel, by decide +kernel, by decide +kernel⟩
  | 32, hL => cases hL; exact ⟨xKs_run hc hcon (by omega) (xEF xk_51_32), by decide +kernel, by decide +kernel, by decide +kernel⟩
  | 33, hL => cases hL; exact ⟨xKs_run hc hcon (by omega) (xEF xk_51_33), by decide +kernel, by decide +kernel, by decide +kernel⟩
  | 34, hL => cases hL; exact ⟨xKs_run hc hcon (by omega) (xEF xk_51_34), by decide +kernel, by decide +kernel, by decide +kernel⟩
  | 35, hL => cases hL; exact ⟨xKs_run hc hcon (by omega) (xEF xk_51_35), by decide +kernel, by decide +kernel, by decide +kernel⟩
  | 36, hL => cases hL; exact ⟨xKs_run hc hcon (by omega) (xEF xk_51_36), by decide +kernel, by decide +kernel, by decide +kernel⟩
  | 37, hL => cases hL; exact ⟨xKs_run hc hcon (by omega) (xEF xk_51_37), by decide +kernel, by decide +kernel, by decide +kernel⟩
  | 38, hL => cases hL; exact ⟨xKs_run hc hcon (by omega) (xEF xk_51_38), by decide +kernel, by decide +kernel, by decide +kernel⟩
  | 39, hL => cases hL; exact ⟨xKs_run hc hcon (by omega) (xEF xk_51_39), by decide +kernel, by decide +kernel, by decide +kernel⟩
  | 40, hL => cases hL; exact ⟨xKs_run hc hcon (by omega) (xEF xk_51_40), by decide +kernel, by decide +kernel, by decide +kernel⟩
  | n + 41, hL => cases hL
theorem xc_52 (hc : xClo rvTab rvInf rvRet 316 rvMth Gd Met) (hcon : ∀ x, x < 52 → xCon Met (xCons x)) : xCon Met (xCons 52) := by
  refine xCtx_ok (d := 2) (X := 52) (con := xCons) (opt := xOpt) (hp := xHpt) (hn := xHnt) (cutp := xcC_52) (L := xcL_52) hc hcon (j := 25) (na := 1) (n := 52) (fuel := 100000) (pre := xcP_52) (src := xcS_52) (os := xcO_52) (ms := xcM_52) (ws := xcW_52) (t0 := xcTs_52) (tp := xcTp_52) (by omega) rfl rfl rfl (by decide +kernel) (by decide +kernel) (by decide +kernel) (xEF xk_52_s) (fun ci Tm sr rk hL => ?_)
  match ci, hL with
  | 0, hL => cases hL; exact ⟨xEF xk_52_0, by decide +kernel, by decide +kernel, by decide +kernel⟩
  | n + 1, hL => cases hL
theorem xc_53 (hc : xClo rvTab rvInf rvRet 316 rvMth Gd Met) (hcon : ∀ x, x < 53 → xCon Met (xCons x)) : xCon Met (xCons 53) := by
  refine xCtx_ok (d := 2) (X := 53) (con := xCons) (opt := xOpt) (hp := xHpt) (hn := xHnt) (cutp := xcC_53) (L := xcL_53) hc hcon (j := 26) (na := 1) (n := 52) (fuel := 100000) (pre := xcP_53) (src := xcS_53) (os := xcO_53) (ms := xcM_53) (ws := xcW_53) (t0 := xcTs_53) (tp := xcTp_53) (by omega) rfl rfl rfl (by decide +kernel) (by decide +kernel) (by decide +kernel) (xEF xk_53_s) (fun ci Tm sr rk hL => ?_)
  match ci, hL with
  | 0, hL => cases hL; exact ⟨xEF xk_53_0, by decide +kernel, by decide +kernel, by decide +kernel⟩
  | n + 1, hL => cases hL
theorem xc_54 (hc : xClo rvTab rvInf rvRet 316 rvMth Gd Met) (hcon : ∀ x, x < 54 → xCon Met (xCons x)) : xCon Met (xCons 54) := by
  refine xCtx_ok (d := 2) (X := 54) (con := xCons) (opt := xOpt) (hp := xHpt) (hn := xHnt) (cutp := xcC_54) (L := xcL_54) hc hcon (j := 27) (na := 1) (n := 52) (fuel := 100000) (pre := xcP_54) (src := xcS_54) (os := xcO_54) (ms := xcM_54) (ws := xcW_54) (t0 := xcTs_54) (tp := xcTp_54) (by omega) rfl rfl rfl (by decide +kernel) (by decide +kernel) (by decide +kernel) (xEF xk_54_s) (fun ci Tm sr rk hL => ?_)
  match ci, hL with
  | 0, hL => cases hL; exact ⟨xEF xk_54_0, by decide +kernel, by decide +kernel, by decide +kernel⟩
  | n + 1, hL => cases hL
theorem xc_55 (hc : xClo rvTab rvInf rvRet 316 rvMth Gd Met) (hcon : ∀ x, x < 55 → xCon Met (xCons x)) : xCon Met (xCons 55) := by
  refine xCtx_ok (d := 2) (X := 55) (con := xCons) (opt := xOpt) (hp := xHpt) (hn := xHnt) (cutp := xcC_55) (L := xcL_55) hc hcon (j := 28) (na := 5) (n := 52) (fuel := 100000) (pre := xcP_55) (src := xcS_55) (os := xcO_55) (ms := xcM_55) (ws := xcW_55) (t0 := xcTs_55) (tp := xcTp_55) (by omega) rfl rfl rfl (by decide +kernel) (by decide +kernel) (by decide +kernel) (xEF xk_55_s) (fun ci Tm sr rk hL => ?_)
  match ci, hL with
  | 0, hL => cases hL; exact ⟨xEF xk_55_0, by decide +kernel, by decide +kernel, by decide +kernel⟩
  | n + 1, hL => cases hL
theorem xc_56 (hc : xClo rvTab rvInf rvRet 316 rvMth Gd Met) (hcon : ∀ x, x < 56 → xCon Met (xCons x)) : xCon Met (xCons 56) := by
  refine xCtx_ok (d := 2) (X := 56) (con := xCons) (opt := xOpt) (hp := xHpt) (hn := xHnt) (cutp := xcC_56) (L := xcL_56) hc hcon (j := 29) (na := 4) (n := 52) (fuel := 100000) (pre := xcP_56) (src := xcS_56) (os := xcO_56) (ms := xcM_56) (ws := xcW_56) (t0 := xcTs_56) (tp := xcTp_56) (by omega) rfl rfl rfl (by decide +kernel) (by decide +kernel) (by decide +kernel) (xEF xk_56_s) (fun ci Tm sr rk hL => ?_)
  match ci, hL with
  | 0, hL => cases hL; exact ⟨xEF xk_56_0, by decide +kernel, by decide +kernel, by decide +kernel⟩
  | 1, hL => cases hL; exact ⟨xEF xk_56_1, by decide +kernel, by decide +kernel, by decide +kernel⟩
  | 2, hL => cases hL; exact ⟨xEF xk_56_2, by decide +kernel, by decide +kernel, by decide +kernel⟩
  | n + 3, hL => cases hL
theorem xc_57 (hc : xClo rvTab rvInf rvRet 316 rvMth Gd Met) (hcon : ∀ x, x < 57 → xCon Met (xCons x)) : xCon Met (xCons 57) := by
  refine xCtx_ok (d := 2) (X := 57) (con := xCons) (opt := xOpt) (hp := xHpt) (hn := xHnt) (cutp := xcC_57) (L := xcL_57) hc hcon (j := 30) (na := 5) (n := 52) (fuel := 100000) (pre := xcP_57) (src := xcS_57) (os := xcO_57) (ms := xcM_57) (ws := xcW_57) (t0 := xcTs_57) (tp := xcTp_57) (by omega) rfl rfl rfl (by decide +kernel) (by decide +kernel) (by decide +kernel) (xEF xk_57_s) (fun ci Tm sr rk hL => ?_)
  match ci, hL with
  | 0, hL => cases hL; exact ⟨xEF xk_57_0, by decide +kernel, by decide +kernel, by decide +kernel⟩
  | n + 1, hL => cases hL
theorem xc_58 (hc : xClo rvTab rvInf rvRet 316 rvMth Gd Met) (hcon : ∀ x, x < 58 → xCon Met (xCons x)) : xCon Met (xCons 58) := by
  refine xCtx_ok (d := 2) (X := 58) (con := xCons) (opt := xOpt) (hp := xHpt) (hn := xHnt) (cutp := xcC_58) (L := xcL_58) hc hcon (j := 31) (na := 2) (n := 52) (fuel := 100000) (pre := xcP_58) (src := xcS_58) (os := xcO_58) (ms := xcM_58) (ws := xcW_58) (t0 := xcTs_58) (tp := xcTp_58) (by omega) rfl rfl rfl (by decide +kernel) (by decide +kernel) (by decide +kernel) (xEF xk_58_s) (fun ci Tm sr rk hL => ?_)
  match ci, hL with
  | 0, hL => cases hL; exact ⟨xEF xk_58_0, by decide +kernel, by decide +kernel, by decide +kernel⟩
  | n + 1, hL => cases hL
end XCC
