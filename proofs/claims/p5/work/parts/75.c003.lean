section XCC
variable {Gd : Nat → (xRes2 → Prop) → rvS → Prop} {Met : Nat → List rvV → rvH → (xRes2 → Prop) → Prop}
theorem xc_89 (hc : xClo rvTab rvInf rvRet 316 rvMth Gd Met) (hcon : ∀ x, x < 89 → xCon Met (xCons x)) : xCon Met (xCons 89) := by
  refine xCtx_ok (d := 2) (X := 89) (con := xCons) (opt := xOpt) (hp := xHpt) (hn := xHnt) (cutp := xcC_89) (L := xcL_89) hc hcon (j := 60) (na := 1) (n := 52) (fuel := 100000) (pre := xcP_89) (src := xcS_89) (os := xcO_89) (ms := xcM_89) (ws := xcW_89) (t0 := xcTs_89) (tp := xcTp_89) (by omega) rfl rfl rfl (by decide +kernel) (by decide +kernel) (by decide +kernel) (xEF xk_89_s) (fun ci Tm sr rk hL => ?_)
  match ci, hL with
  | 0, hL => cases hL; exact ⟨xEF xk_89_0, by decide +kernel, by decide +kernel, by decide +kernel⟩
  | 1, hL => cases hL; exact ⟨xEF xk_89_1, by decide +kernel, by decide +kernel, by decide +kernel⟩
  | n + 2, hL => cases hL
theorem xc_90 (hc : xClo rvTab rvInf rvRet 316 rvMth Gd Met) (hcon : ∀ x, x < 90 → xCon Met (xCons x)) : xCon Met (xCons 90) := by
  refine xCtx_ok (d := 2) (X := 90) (con := xCons) (opt := xOpt) (hp := xHpt) (hn := xHnt) (cutp := xcC_90) (L := xcL_90) hc hcon (j := 61) (na := 2) (n := 52) (fuel := 100000) (pre := xcP_90) (src := xcS_90) (os := xcO_90) (ms := xcM_90) (ws := xcW_90) (t0 := xcTs_90) (tp := xcTp_90) (by omega) rfl rfl rfl (by decide +kernel) (by decide +kernel) (by decide +kernel) (xEF xk_90_s) (fun ci Tm sr rk hL => ?_)
  match ci, hL with
  | 0, hL => cases hL; exact ⟨xEF xk_90_0, by decide +kernel, by decide +kernel, by decide +kernel⟩
  | 1, hL => cases hL; exact ⟨xEF xk_90_1, by decide +kernel, by decide +kernel, by decide +kernel⟩
  | n + 2, hL => cases hL
theorem xc_91 (hc : xClo rvTab rvInf rvRet 316 rvMth Gd Met) (hcon : ∀ x, x < 91 → xCon Met (xCons x)) : xCon Met (xCons 91) := by
  refine xCtx_ok (d := 2) (X := 91) (con := xCons) (opt := xOpt) (hp := xHpt) (hn := xHnt) (cutp := xcC_91) (L := xcL_91) hc hcon (j := 62) (na := 5) (n := 52) (fuel := 100000) (pre := xcP_91) (src := xcS_91) (os := xcO_91) (ms := xcM_91) (ws := xcW_91) (t0 := xcTs_91) (tp := xcTp_91) (by omega) rfl rfl rfl (by decide +kernel) (by decide +kernel) (by decide +kernel) (xEF xk_91_s) (fun ci Tm sr rk hL => ?_)
  match ci, hL with
  | 0, hL => cases hL; exact ⟨xEF xk_91_0, by decide +kernel, by decide +kernel, by decide +kernel⟩
  | n + 1, hL => cases hL
theorem xc_92 (hc : xClo rvTab rvInf rvRet 316 rvMth Gd Met) (hcon : ∀ x, x < 92 → xCon Met (xCons x)) : xCon Met (xCons 92) := by
  refine xCtx_ok (d := 2) (X := 92) (con := xCons) (opt := xOpt) (hp := xHpt) (hn := xHnt) (cutp := xcC_92) (L := xcL_92) hc hcon (j := 62) (na := 5) (n := 52) (fuel := 100000) (pre := xcP_92) (src := xcS_92) (os := xcO_92) (ms := xcM_92) (ws := xcW_92) (t0 := xcTs_92) (tp := xcTp_92) (by omega) rfl rfl rfl (by decide +kernel) (by decide +kernel) (by decide +kernel) (xEF xk_92_s) (fun ci Tm sr rk hL => ?_)
  match ci, hL with
  | 0, hL => cases hL; exact ⟨xEF xk_92_0, by decide +kernel, by decide +kernel, by decide +kernel⟩
  | n + 1, hL => cases hL
theorem xc_93 (hc : xClo rvTab rvInf rvRet 316 rvMth Gd Met) (hcon : ∀ x, x < 93 → xCon Met (xCons x)) : xCon Met (xCons 93) := by
  refine xCtx_ok (d := 2) (X := 93) (con := xCons) (opt := xOpt) (hp := xHpt) (hn := xHnt) (cutp := xcC_93) (L := xcL_93) hc hcon (j := 63) (na := 6) (n := 52) (fuel := 100000) (pre := xcP_93) (src := xcS_93) (os := xcO_93) (ms := xcM_93) (ws := xcW_93) (t0 := xcTs_93) (tp := xcTp_93) (by omega) rfl rfl rfl (by decide +kernel) (by decide +kernel) (by decide +kernel) (xEF xk_93_s) (fun ci Tm sr rk hL => ?_)
  match ci, hL with
  | 0, hL => cases hL; exact ⟨xEF xk_93_0, by decide +kernel, by decide +kernel, by decide +kernel⟩
  | 1, hL => cases hL; exact ⟨xEF xk_93_1, by decide +kernel, by decide +kernel, by decide +kernel⟩
  | n + 2, hL => cases hL
theorem xc_94 (hc : xClo rvTab rvInf rvRet 316 rvMth Gd Met) (hcon : ∀ x, x < 94 → xCon Met (xCons x)) : xCon Met (xCons 94) := by
  refine xCtx_ok (d := 2) (X := 94) (con := xCons) (opt := xOpt) (hp := xHpt) (hn := xHnt) (cutp := xcC_94) (L := xcL_94) hc hcon (j := 64) (na := 17) (n := 52) (fuel := 100000) (pre := xcP_94) (src := xcS_94) (os := xcO_94) (ms := xcM_94) (ws := xcW_94) (t0 := xcTs_94) (tp := xcTp_94) (by omega) rfl rfl rfl (by decide +kernel) (by decide +kernel) (by decide +kernel) (xEF xk_94_s) (fun ci Tm sr rk hL => ?_)
  match ci, hL with
  | 0, hL => cases hL; exact ⟨xEF xk_94_0, by decide +kernel, by decide +kernel, by decide +kernel⟩
  | 1, hL => cases hL; exact ⟨xEF xk_94_1, by decide +kernel, by decide +kernel, by decide +kernel⟩
  | 2, hL => cases hL; exact ⟨xEF xk_94_2, by decide +kernel, by decide +kernel, by decide +kernel⟩
  | 3, hL => cases hL; exact ⟨xEF xk_94_3, by decide +kernel, by decide +kernel, by decide +kernel⟩
  | 4, hL => cases hL; exact ⟨xEF xk_94_4, by decide +kernel, by decide +kernel, by decide +kernel⟩
  | 5, hL => cases hL; exact ⟨xEF xk_94_5, by decide +kernel, by decide +kernel, by decide +kernel⟩
  | 6, hL => cases hL; exact ⟨xEF xk_94_6, by decide +kernel, by decide +kernel, by decide +kernel⟩
  | 7, hL => cases hL; exact ⟨xEF xk_94_7, by decide +kernel, by decide +kernel, by decide +kernel⟩
  | 8, hL => cases hL; exact ⟨xEF xk_94_8, by decide +kernel, by decide +kernel, by decide +kernel⟩
  | 9, hL => cases hL; exact ⟨xEF xk_94_9, by decide +kernel, by decide +kernel, by decide +kernel⟩
  | 10, hL => cases hL; exact ⟨xEF xk_94_10, by decide +kernel, by decide +kernel, by decide +kernel⟩
  | 11, hL => cases hL; exact ⟨xEF xk_94_11, by decide +kernel, by decide +kernel, by decide +kernel⟩
  | 12, hL => cases hL; exact ⟨xEF xk_94_12, by decide +kernel, by decide +kernel, by decide +kernel⟩
  | 13, hL => cases hL; exact ⟨xEF xk_94_13, by decide +kernel, by decide +kernel, by decide +kernel⟩
  | 14, hL => cases hL; exact ⟨xEF xk_94_14, by decide +kernel, by decide +kernel, by decide +kernel⟩
  | 15, hL => cases hL; exact ⟨xEF xk_94_15, by decide +kernel, by decide +kernel, by decide +kernel⟩
  | 16, hL => cases hL; exact ⟨xEF xk_94_16, by decide +kernel, by decide +kernel, by decide +kernel⟩
  | 17, hL => cases hL; exact ⟨xEF xk_94_17, by decide +kernel, by decide +kernel, by decide +kernel⟩
  | 18, hL => cases hL; exact ⟨xEF xk_94_18, by decide +kernel, by decide +kernel, by decide +kernel⟩
  | 19, hL => cases hL; exact ⟨xEF xk_94_19, by decide +kernel, by decide +kernel, by decide +kernel⟩
  | 20, hL => cases hL; exact ⟨xEF xk_94_20, by decide +kernel, by decide +kernel, by decide +kernel⟩
  | 21, hL => cases hL; exact ⟨xEF xk_94_21, by decide +kernel, by decide +kernel, by decide +kernel⟩
  | 22, hL => cases hL; exact ⟨xEF xk_94_22, by decide +kernel, by decide +kernel, by decide +kernel⟩
  | 23, hL => cases hL; exact ⟨xEF xk_94_23, by decide +kernel, by decide +kernel, by decide +kernel⟩
  | 24, hL => cases hL; exact ⟨xEF xk_94_24, by decide +kernel, by decide +kernel, by decide +kernel⟩
  | 25, hL => cases hL; exact ⟨xEF xk_94_25, by decide +kernel, by decide +kernel, by decide +kernel⟩
  | 26, hL => cases hL; exact ⟨xEF xk_94_26, by decide +kernel, by decide +kernel, by decide +kernel⟩
  | 27, hL => cases hL; exact ⟨xEF xk_94_27, by decide +kernel, by decide +kernel, by decide +kernel⟩
  | 28, hL => cases hL; exact ⟨xEF xk_94_28, by decide +kernel, by decide +kernel, by decide +kernel⟩
  | 29, hL => cases hL; exact ⟨xEF xk_94_29, by decide +kernel, by decide +kernel, by decide +kernel⟩
  | 30, hL => cases hL; exact ⟨xEF xk_94_30, by decide +kernel, by decide +kernel, by decide +kernel⟩
  | 31, hL => cases hL; exact ⟨xEF xk_94_31, by decide +kernel, by decide +kernel, by decide +kernel⟩
  | 32, hL => cases hL; exact ⟨xEF xk_94_32, by decide +kernel, by decide +kernel, by decide +kernel⟩
  | 33, hL => cases hL; exact ⟨xEF xk_94_33, by decide +kernel, by decide +kernel, by decide +kernel⟩
  | 34, hL => cases hL; exact ⟨xEF xk_94_34, by decide +kernel, by decide +kernel, by decide +kernel⟩
  | 35, hL => cases hL; exact ⟨xEF xk_94_35, by decide +kernel, by decide +kernel, by decide +kernel⟩
  | 36, hL => cases hL; exact ⟨xEF xk_94_36, by decide +kernel, by decide +kernel, by decide +kernel⟩
  | 37, hL => cases hL; exact ⟨xEF xk_94_37, by decide +kernel, by decide +kernel, by decide +kernel⟩
  | 38, hL => cases hL; exact ⟨xEF xk_94_38, by decide +kernel, by decide +kernel, by decide +kernel⟩
  | 39, hL => cases hL; exact ⟨xEF xk_94_39, by decide +kernel, by decide +kernel, by decide +kernel⟩
  | 40, hL => cases hL; exact ⟨xEF xk_94_40, by decide +kernel, by decide +kernel, by decide +kernel⟩
  | 41, hL => cases hL; exact ⟨xEF xk_94_41, by decide +kernel, by decide +kernel, by decide +kernel⟩
  | 42, hL => cases hL; exact ⟨xEF xk_94_42, by decide +kernel, by decide +kernel, by decide +kernel⟩
  | 43, hL => cases hL; exact ⟨xEF xk_94_43, by decide +kernel, by decide +kernel, by decide +kernel⟩
  | 44, hL => cases hL; exact ⟨xEF xk_94_44, by decide +kernel, by decide +kernel, by decide +kernel⟩
  | 45, hL => cases hL; exact ⟨xEF xk_94_45, by decide +kernel, by decide +kernel, by decide +kernel⟩
  | 46, hL => cases hL; exact ⟨xEF xk_94_46, by decide +kernel, by decide +kernel, by decide +kernel⟩
  | 47, hL => cases hL; exact ⟨xEF xk_94_47, by decide +kernel, by decide +kernel, by decide +kernel⟩
  | 48, hL => cases hL; exact ⟨xEF xk_94_48, by decide +kernel, by decide +kernel, by decide +kernel⟩
  | 49, hL => cases hL; exact ⟨xEF xk_94_49, by decide +kernel, by decide +kernel, by decide +kernel⟩
  | 50, hL => cases hL; exact ⟨xEF xk_94_50, by decide +kernel, by decide +kernel, by decide +kernel⟩
  | 51, hL => cases hL; exact ⟨xEF xk_94_51, by decide +kernel, by decide +kernel, by decide +kernel⟩
  | 52, hL => cases hL; exact ⟨xEF xk_94_52, by decide +kernel, by decide +kernel, by decide +kernel⟩
  | 53, hL => cases hL; exact ⟨xEF xk_94_53, by decide +kernel, by decide +kernel, by decide +kernel⟩
  | 54, hL => cases hL; exact ⟨xEF xk_94_54, by decide +kernel, by decide +kernel, by decide +kernel⟩
  | 55, hL => cases hL; exact ⟨xEF xk_94_55, by decide +kernel, by decide +kernel, by decide +kernel⟩
  | 56, hL => cases hL; exact ⟨xEF xk_94_56, by decide +kernel, by decide +kernel, by decide +kernel⟩
  | 57, hL => cases hL; exact ⟨xEF xk_94_57, by decide +kernel, by decide +kernel, by decide +kernel⟩
  | 58, hL => cases hL; exact ⟨xEF xk_94_58, by decide +kernel, by decide +kernel, by decide +kernel⟩
  | 59, hL => cases hL; exact ⟨xEF xk_94_59, by decide +kernel, by decide +kernel, by decide +kernel⟩
  | 60, hL => cases hL; exact ⟨xEF xk_94_60, by decide +kernel, by decide +kernel, by decide +kernel⟩
  | 61, hL => cases hL; exact ⟨xEF xk_94_61, by decide +kernel, by decide +kernel, by decide +kernel⟩
  | 62, hL => cases hL; exact ⟨xEF xk_94_62, by decide +kernel, by decide +kernel, by decide +kernel⟩
  | 63, hL => cases hL; exact ⟨xEF xk_94_63, by decide +kernel, by decide +kernel, by decide +kernel⟩
  | 64, hL => cases hL; exact ⟨xEF xk_94_64, by decide +kernel, by decide +kernel, by decide +kernel⟩
  | 65, hL => cases hL; exact ⟨xEF xk_94_65, by decide +kernel, by decide +kernel, by decide +kernel⟩
  | 66, hL => cases hL; exact ⟨xEF xk_94_66, by decide +kernel, by decide +kernel, by decide +kernel⟩
  | 67, hL => cases hL; exact ⟨xEF xk_94_67, by decide +kernel, by decide +kernel, by decide +kernel⟩
  | 68, hL => cases hL; exact ⟨xEF xk_94_68, by decide +kernel, by decide +kernel, by decide +kernel⟩
  | 69, hL => cases hL; exact ⟨xEF xk_94_69, by decide +kernel, by decide +kernel, by decide +kernel⟩
  | 70, hL => cases hL; exact ⟨xEF xk_94_70, by decide +kernel, by decide +kernel, by decide +kernel⟩
  | 71, hL => cases hL; exact ⟨xEF xk_94_71, by decide +kernel, by decide +kernel, by decide +kernel⟩
  | 72, hL => cases hL; exact ⟨xEF xk_94_72, by decide +kernel, by decide +kernel, by decide +kernel⟩
  | 73, hL => cases hL; exact ⟨xEF xk_94_73, by decide +kernel, by decide +kernel, by decide +kernel⟩
  | 74, hL => cases hL; exact ⟨xEF xk_94_74, by decide +kernel, by decide +kernel, by decide +kernel⟩
  | 75, hL => cases hL; exact ⟨xEF xk_94_75, by decide +kernel, by decide +kernel, by decide +kernel⟩
  | 76, hL => cases hL; exact ⟨xEF xk_94_76, by decide +kernel, by decide +kernel, by decide +kernel⟩
  | 77, hL => cases hL; exact ⟨xEF xk_94_77, by decide +kernel, by decide +kernel, by decide +kernel⟩
  | 78, hL => cases hL; exact ⟨xEF xk_94_78, by decide +kernel, by decide +kernel, by decide +kernel⟩
  | 79, hL => cases hL; exact ⟨xEF xk_94_79, by decide +kernel, by decide +kernel, by decide +kernel⟩
  | 80, hL => cases hL; exact ⟨xEF xk_94_80, by decide +kernel, by decide +kernel, by decide +kernel⟩
  | 81, hL => cases hL; exact ⟨xEF xk_94_81, by decide +kernel, by decide +kernel, by decide +kernel⟩
  | 82, hL => cases hL; exact ⟨xEF xk_94_82, by decide +kernel, by decide +kernel, by decide +kernel⟩
  | 83, hL => cases hL; exact ⟨xEF xk_94_83, by decide +kernel, by decide +kernel, by decide +kernel⟩
  | 84, hL => cases hL; exact ⟨xEF xk_94_84, by decide +kernel, by decide +kernel, by decide +kernel⟩
  | 85, hL => cases hL; exact ⟨xEF xk_94_85, by decide +kernel, by decide +kernel, by decide +kernel⟩
  | n + 86, hL => cases hL
theorem xc_95 (hc : xClo rvTab rvInf rvRet 316 rvMth Gd Met) (hcon : ∀ x, x < 95 → xCon Met (xCons x)) : xCon Met (xCons 95) := by
  refine xCtx_ok (d := 2) (X := 95) (con := xCons) (opt := xOpt) (hp := xHpt) (hn := xHnt) (cutp := xcC_95) (L := xcL_95) hc hcon (j := 65) (na := 18) (n := 52) (fuel := 100000) (pre := xcP_95) (src := xcS_95) (os := xcO_95) (ms := xcM_95) (ws := xcW_95) (t0 := xcTs_95) (tp := xcTp_95) (by omega) rfl rfl rfl (by decide +kernel) (by decide +kernel) (by decide +kernel) (xEF xk_95_s) (fun ci Tm sr rk hL => ?_)
  match ci, hL with
  | 0, hL => cases hL; exact ⟨xEF xk_95_0, by decide +kernel, by decide +kernel, by decide +kernel⟩
  | 1, hL => cases hL; exact ⟨xEF xk_95_1, by decide +kernel, by decide +kernel, by decide +kernel⟩
  | n + 2, hL => cases hL
theorem xc_96 (hc : xClo rvTab rvInf rvRet 316 rvMth Gd Met) (hcon : ∀ x, x < 96 → xCon Met (xCons x)) : xCon Met (xCons 96) := by
  refine xCtx_ok (d := 2) (X := 96) (con := xCons) (opt := xOpt) (hp := xHpt) (hn := xHnt) (cutp := xcC_96) (L := xcL_96) hc hcon (j := 66) (na := 1) (n := 52) (fuel := 100000) (pre := xcP_96) (src := xcS_96) (os := xcO_96) (ms := xcM_96) (ws := xcW_96) (t0 := xcTs_96) (tp := xcTp_96) (by omega) rfl rfl rfl (by decide +kernel) (by decide +kernel) (by decide +kernel) (xEF xk_96_s) (fun ci Tm sr rk hL => ?_)
  match ci, hL with
  | 0, hL => cases hL; exact ⟨xEF xk_96_0, by decide +kernel, by decide +kernel, by decide +kernel⟩
  | n + 1, hL => cases hL
theorem xc_97 (hc : xClo rvTab rvInf rvRet 316 rvMth Gd Met) (hcon : ∀ x, x < 97 → xCon Met (xCons x)) : xCon Met (xCons 97) := by
  refine xCtx_ok (d := 2) (X := 97) (con := xCons) (opt := xOpt) (hp := xHpt) (hn := xHnt) (cutp := xcC_97) (L := xcL_97) hc hcon (j := 1) (na := 1) (n := 52) (fuel := 100000) (pre := xcP_97) (src := xcS_97) (os := xcO_97) (ms := xcM_97) (ws := xcW_97) (t0 := xcTs_97) (tp := xcTp_97) (by omega) rfl rfl rfl (by decide +kernel) (by decide +kernel) (by decide +kernel) (xEF xk_97_s) (fun ci Tm sr rk hL => ?_)
  match ci, hL with
  | 0, hL => cases hL; exact ⟨xEF xk_97_0, by decide +kernel, by decide +kernel, by decide +kernel⟩
  | n + 1, hL => cases hL
theorem xc_98 (hc : xClo rvTab rvInf rvRet 316 rvMth Gd Met) (hcon : ∀ x, x < 98 → xCon Met (xCons x)) : xCon Met (xCons 98) := by
  refine xCtx_ok (d := 2) (X := 98) (con := xCons) (opt := xOpt) (hp := xHpt) (hn := xHnt) (cutp := xcC_98) (L := xcL_98) hc hcon (j := 67) (na := 2) (n := 52) (fuel := 100000) (pre := xcP_98) (src := xcS_98) (os := xcO_98) (ms := xcM_98) (ws := xcW_98) (t0 := xcTs_98) (tp := xcTp_98) (by omega) rfl rfl rfl (by decide +kernel) (by decide +kernel) (by decide +kernel) (xEF xk_98_s) (fun ci Tm sr rk hL => ?_)
  match ci, hL with
  | 0, hL => cases hL; exact ⟨xEF xk_98_0, by decide +kernel, by decide +kernel, by decide +kernel⟩
  | n + 1, hL => cases hL
theorem xc_99 (hc : xClo rvTab rvInf rvRet 316 rvMth Gd Met) (hcon : ∀ x, x < 99 → xCon Met (xCons x)) : xCon Met (xCons 99) := by
  refine xCtx_ok (d := 2) (X := 99) (con := xCons) (opt := xOpt) (hp := xHpt) (hn := xHnt) (cutp := xcC_99) (L := xcL_99) hc hcon (j := 68) (na := 1) (n := 52) (fuel := 100000) (pre := xcP_99) (src := xcS_99) (os := xcO_99) (ms := xcM_99) (ws := xcW_99) (t0 := xcTs_99) (tp := xcTp_99) (by omega) rfl rfl rfl (by decide +kernel) (by decide +kernel) (by decide +kernel) (xEF xk_99_s) (fun ci Tm sr rk hL => ?_)
  match ci, hL with
  | 0, hL => cases hL; exact ⟨xEF xk_99_0, by decide +kernel, by decide +kernel, by decide +kernel⟩
  | n + 1, hL => cases hL
theorem xc_100 (hc : xClo rvTab rvInf rvRet 316 rvMth Gd Met) (hcon : ∀ x, x < 100 → xCon Met (xCons x)) : xCon Met (xCons 100) := by
  refine xCtx_ok (d := 2) (X := 100) (con := xCons) (opt := xOpt) (hp := xHpt) (hn := xHnt) (cutp := xcC_100) (L := xcL_100) hc hcon (j := 65) (na := 18) (n := 52) (fuel := 100000) (pre := xcP_100) (src := xcS_100) (os := xcO_100) (ms := xcM_100) (ws := xcW_100) (t0 := xcTs_100) (tp := xcTp_100) (by omega) rfl rfl rfl (by decide +kernel) (by decide +kernel) (by decide +kernel) (xEF xk_100_s) (fun ci Tm sr rk hL => ?_)
  match ci, hL with
  | 0, hL => cases hL; exact ⟨xEF xk_100_0, by decide +kernel, by decide +kernel, by decide +kernel⟩
  | 1, hL => cases hL; exact ⟨xEF xk_100_1, by decide +kernel, by decide +kernel, by decide +kernel⟩
  | 2, hL => cases hL; exact ⟨xEF xk_100_2, by decide +kernel, by decide +kernel, by decide +kernel⟩
  | n + 3, hL => cases hL
theorem xc_101 (hc : xClo rvTab rvInf rvRet 316 rvMth Gd Met) (hcon : ∀ x, x < 101 → xCon Met (xCons x)) : xCon Met (xCons 101) := by
  refine xCtx_ok (d := 2) (X := 101) (con := xCons) (opt := xOpt) (hp := xHpt) (hn := xHnt) (cutp := xcC_101) (L := xcL_101) hc hcon (j := 65) (na := 18) (n := 52) (fuel := 100000) (pre := xcP_101) (src := xcS_101) (os := xcO_101) (ms := xcM_101) (ws := xcW_101) (t0 := xcTs_101) (tp := xcTp_101) (by omega) rfl rfl rfl (by decide +kernel) (by decide +kernel) (by decide +kernel) (xEF xk_101_s) (fun ci Tm sr rk hL => ?_)
  match ci, hL with
  | 0, hL => cases hL; exact ⟨xEF xk_101_0, by decide +kernel, by decide +kernel, by decide +kernel⟩
  | 1, hL => cases hL; exact ⟨xEF xk_101_1, by decide +kernel, by decide +kernel, by decide +kernel⟩
  | 2, hL => cases hL; exact ⟨xEF xk_101_2, by decide +kernel, by decide +kernel, by decide +kernel⟩
  | n + 3, hL => cases hL
theorem xc_102 (hc : xClo rvTab rvInf rvRet 316 rvMth Gd Met) (hcon : ∀ x, x < 102 → xCon Met (xCons x)) : xCon Met (xCons 102) := by
  refine xCtx_ok (d := 2) (X := 102) (con := xCons) (opt := xOpt) (hp := xHpt) (hn := xHnt) (cutp := xcC_102) (L := xcL_102) hc hcon (j := 65) (na := 18) (n := 52) (fuel := 100000) (pre := xcP_102) (src := xcS_102) (os := xcO_102) (ms := xcM_102) (ws := xcW_102) (t0 := xcTs_102) (tp := xcTp_102) (by omega) rfl rfl rfl (by decide +kernel) (by decide +kernel) (by decide +kernel) (xEF xk_102_s) (fun ci Tm sr rk hL => ?_)
  match ci, hL with
  | 0, hL => cases hL; exact ⟨xEF xk_102_0, by decide +kernel, by decide +kernel, by decide +kernel⟩
  | 1, hL => cases hL; exact ⟨xEF xk_102_1, by decide +kernel, by decide +kernel, by decide +kernel⟩
  | 2, hL => cases hL; exact ⟨xEF xk_102_2, by decide +kernel, by decide +kernel, by decide +kernel⟩
  | 3, hL => cases hL; exact ⟨xEF xk_102_3, by decide +kernel, by decide +kernel, by decide +kernel⟩
  | n + 4, hL => cases hL
theorem xc_103 (hc : xClo rvTab rvInf rvRet 316 rvMth Gd Met) (hcon : ∀ x, x < 103 → xCon Met (xCons x)) : xCon Met (xCons 103) := by
  refine xCtx_ok (d := 2) (X := 103) (con := xCons) (opt := xOpt) (hp := xHpt) (hn := xHnt) (cutp := xcC_103) (L := xcL_103) hc hcon (j := 65) (na := 18) (n := 52) (fuel := 100000) (pre := xcP_103) (src := xcS_103) (os := xcO_103) (ms := xcM_103) (ws := xcW_103) (t0 := xcTs_103) (tp := xcTp_103) (by omega) rfl rfl rfl (by decide +kernel) (by decide +kernel) (by decide +kernel) (xEF xk_103_s) (fun ci Tm sr rk hL => ?_)
  match ci, hL with
  | 0, hL => cases hL; exact ⟨xEF xk_103_0, by decide +kernel, by decide +kernel, by decide +kernel⟩
  | 1, hL => cases hL; exact ⟨xEF xk_103_1, by decide +kernel, by decide +kernel, by decide +kernel⟩
  | 2, hL => cases hL; exact ⟨xEF xk_103_2, by decide +kernel, by decide +kernel, by decide +kernel⟩
  | 3, hL => cases hL; exact ⟨xEF xk_103_3, by decide +kernel, by decide +kernel, by decide +kernel⟩
  | n + 4, hL => cases hL
theorem xc_104 (hc : xClo rvTab rvInf rvRet 316 rvMth Gd Met) (hcon : ∀ x, x < 104 → xCon Met (xCons x)) : xCon Met (xCons 104) := by
  refine xCtx_ok (d := 2) (X := 104) (con := xCons) (opt := xOpt) (hp := xHpt) (hn := xHnt) (cutp := xcC_104) (L := xcL_104) hc hcon (j := 65) (na := 18) (n := 52) (fuel := 100000) (pre := xcP_104) (src := xcS_104) (os := xcO_104) (ms := xcM_104) (ws := xcW_104) (t0 := xcTs_104) (tp := xcTp_104) (by omega) rfl rfl rfl (by decide +kernel) (by decide +kernel) (by decide +kernel) (xEF xk_104_s) (fun ci Tm sr rk hL => ?_)
  match ci, hL with
  | 0, hL => cases hL; exact ⟨xEF xk_104_0, by decide +kernel, by decide +kernel, by decide +kernel⟩
  | 1, hL => cases hL; exact ⟨xEF xk_104_1, by decide +kernel, by decide +kernel, by decide +kernel⟩
  | 2, hL => cases hL; exact ⟨xEF xk_104_2, by decide +kernel, by decide +kernel, by decide +kernel⟩
  | 3, hL => cases hL; exact ⟨xEF xk_104_3, by decide +kernel, by decide +kernel, by decide +kernel⟩
  | 4, hL => cases hL; exact ⟨xEF xk_104_4, by decide +kernel, by decide +kernel, by decide +kernel⟩
  | n + 5, hL => cases hL
theorem xc_105 (hc : xClo rvTab rvInf rvRet 316 rvMth Gd Met) (hcon : ∀ x, x < 105 → xCon Met (xCons x)) : xCon Met (xCons 105) := by
  refine xCtx_ok (d := 2) (X := 105) (con := xCons) (opt := xOpt) (hp := xHpt) (hn := xHnt) (cutp := xcC_105) (L := xcL_105) hc hcon (j := 65) (na := 18) (n := 52) (fuel := 100000) (pre := xcP_105) (src := xcS_105) (os := xcO_105) (ms := xcM_105) (ws := xcW_105) (t0 := xcTs_105) (tp := xcTp_105) (by omega) rfl rfl rfl (by decide +kernel) (by decide +kernel) (by decide +kernel) (xEF xk_105_s) (fun ci Tm sr rk hL => ?_)
  match ci, hL with
  | 0, hL => cases hL; exact ⟨xEF xk_105_0, by decide +kernel, by decide +kernel, by decide +kernel⟩
  | 1, hL => cases hL; exact ⟨xEF xk_105_1, by decide +kernel, by decide +kernel, by decide +kernel⟩
  | 2, hL => cases hL; exact ⟨xEF xk_105_2, by decide +kernel, by decide +kernel, by decide +kernel⟩
  | 3, hL => cases hL; exact ⟨xEF xk_105_3, by decide +kernel, by decide +kernel, by decide +kernel⟩
  | 4, hL => cases hL; exact ⟨xEF xk_105_4, by decide +kernel, by decide +kernel, by decide +kernel⟩
  | n + 5, hL => cases hL
theorem xc_106 (hc : xClo rvTab rvInf rvRet 316 rvMth Gd Met) (hcon : ∀ x, x < 106 → xCon Met (xCons x)) : xCon Met (xCons 106) := by
  refine xCtx_ok (d := 2) (X := 106) (con := xCons) (opt := xOpt) (hp := xHpt) (hn := xHnt) (cutp := xcC_106) (L := xcL_106) hc hcon (j := 65) (na := 18) (n := 52) (fuel := 100000) (pre := xcP_106) (src := xcS_106) (os := xcO_106) (ms := xcM_106) (ws := xcW_106) (t0 := xcTs_106) (tp := xcTp_106) (by omega) rfl rfl rfl (by decide +kernel) (by decide +kernel) (by decide +kernel) (xEF xk_106_s) (fun ci Tm sr rk hL => ?_)
  match ci, hL with
  | 0, hL => cases hL; exact ⟨xEF xk_106_0, by decide +kernel, by decide +kernel, by decide +kernel⟩
  | 1, hL => cases hL; exact ⟨xEF xk_106_1, by decide +kernel, by decide +kernel, by decide +kernel⟩
  | 2, hL => cases hL; exact ⟨xEF xk_106_2, by decide +kernel, by decide +kernel, by decide +kernel⟩
  | 3, hL => cases hL; exact ⟨xEF xk_106_3, by decide +kernel, by decide +kernel, by decide +kernel⟩
  | 4, hL => cases hL; exact ⟨xEF xk_106_4, by decide +kernel, by decide +kernel, by decide +kernel⟩
  | 5, hL => cases hL; exact ⟨xEF xk_106_5, by decide +kernel, by decide +kernel, by decide +kernel⟩
  | n + 6, hL => cases hL
theorem xc_107 (hc : xClo rvTab rvInf rvRet 316 rvMth Gd Met) (hcon : ∀ x, x < 107 → xCon Met (xCons x)) : xCon Met (xCons 107) := by
  refine xCtx_ok (d := 2) (X := 107) (con := xCons) (opt := xOpt) (hp := xHpt) (hn := xHnt) (cutp := xcC_107) (L := xcL_107) hc hcon (j := 65) (na := 18) (n := 52) (fuel := 100000) (pre := xcP_107) (src := xcS_107) (os := xcO_107) (ms := xcM_107) (ws := xcW_107) (t0 := xcTs_107) (tp := xcTp_107) (by omega) rfl rfl rfl (by decide +kernel) (by decide +kernel) (by decide +kernel) (xEF xk_107_s) (fun ci Tm sr rk hL => ?_)
  match ci, hL with
  | 0, hL => cases hL; exact ⟨xEF xk_107_0, by decide +kernel, by decide +kernel, by decide +kernel⟩
  | 1, hL => cases hL; exact ⟨xEF xk_107_1, by decide +kernel, by decide +kernel, by decide +kernel⟩
  | 2, hL => cases hL; exact ⟨xEF xk_107_2, by decide +kernel, by decide +kernel, by decide +kernel⟩
  | 3, hL => cases hL; exact ⟨xEF xk_107_3, by decide +kernel, by decide +kernel, by decide +kernel⟩
  | 4, hL => cases hL; exact ⟨xEF xk_107_4, by decide +kernel, by decide +kernel, by decide +kernel⟩
  | 5, hL => cases hL; exact ⟨xEF xk_107_5, by decide +kernel, by decide +kernel, by decide +kernel⟩
  | n + 6, hL => cases hL
theorem xc_108 (hc : xClo rvTab rvInf rvRet 316 rvMth Gd Met) (hcon : ∀ x, x < 108 → xCon Met (xCons x)) : xCon Met (xCons 108) := by
  refine xCtx_ok (d := 2) (X := 108) (con := xCons) (opt := xOpt) (hp := xHpt) (hn := xHnt) (cutp := xcC_108) (L := xcL_108) hc hcon (j := 65) (na := 18) (n := 52) (fuel := 100000) (pre := xcP_108) (src := xcS_108) (os := xcO_108) (ms := xcM_108) (ws := xcW_108) (t0 := xcTs_108) (tp := xcTp_108) (by omega) rfl rfl rfl (by decide +kernel) (by decide +kernel) (by decide +kernel) (xEF xk_108_s) (fun ci Tm sr rk hL => ?_)
  match ci, hL with
  | 0, hL => cases hL; exact ⟨xEF xk_108_0, by decide +kernel, by decide +kernel, by decide +kernel⟩
  | 1, hL => cases hL; exact ⟨xEF xk_108_1, by decide +kernel, by decide +kernel, by decide +kernel⟩
  | 2, hL => cases hL; exact ⟨xEF xk_108_2, by decide +kernel, by decide +kernel, by decide +kernel⟩
  | 3, hL => cases hL; exact ⟨xEF xk_108_3, by decide +kernel, by decide +kernel, by decide +kernel⟩
  | 4, hL => cases hL; exact ⟨xEF xk_108_4, by decide +kernel, by decide +kernel, by decide +kernel⟩
  | 5, hL => cases hL; exact ⟨xEF xk_108_5, by decide +kernel, by decide +kernel, by decide +kernel⟩
  | 6, hL => cases hL; exact ⟨xEF xk_108_6, by decide +kernel, by decide +kernel, by decide +kernel⟩
  | n + 7, hL => cases hL
theorem xc_109 (hc : xClo rvTab rvInf rvRet 316 rvMth Gd Met) (hcon : ∀ x, x < 109 → xCon Met (xCons x)) : xCon Met (xCons 109) := by
  refine xCtx_ok (d := 2) (X := 109) (con := xCons) (opt := xOpt) (hp := xHpt) (hn := xHnt) (cutp := xcC_109) (L := xcL_109) hc hcon (j := 65) (na := 18) (n := 52) (fuel := 100000) (pre := xcP_109) (src := xcS_109) (os := xcO_109) (ms := xcM_109) (ws := xcW_109) (t0 := xcTs_109) (tp := xcTp_109) (by omega) rfl rfl rfl (by decide +kernel) (by decide +kernel) (by decide +kernel) (xEF xk_109_s) (fun ci Tm sr rk hL => ?_)
  match ci, hL with
  | 0, hL => cases hL; exact ⟨xEF xk_109_0, by decide +kernel, by decide +kernel, by decide +kernel⟩
  | 1, hL => cases hL; exact ⟨xEF xk_109_1, by decide +kernel, by decide +kernel, by decide +kernel⟩
  | 2, hL => cases hL; exact ⟨xEF xk_109_2, by decide +kernel, by decide +kernel, by decide +kernel⟩
  | 3, hL => cases hL; exact ⟨xEF xk_109_3, by decide +kernel, by decide +kernel, by decide +kernel⟩
  | 4, hL => cases hL; exact ⟨xEF xk_109_4, by decide +kernel, by decide +kernel, by decide +kernel⟩
  | 5, hL => cases hL; exact ⟨xEF xk_109_5, by decide +kernel, by decide +kernel, by decide +kernel⟩
  | 6, hL => cases hL; exact ⟨xEF xk_109_6, by decide +kernel, by decide +kernel, by decide +kernel⟩
  | n + 7, hL => cases hL
theorem xc_110 (hc : xClo rvTab rvInf rvRet 316 rvMth Gd Met) (hcon : ∀ x, x < 110 → xCon Met (xCons x)) : xCon Met (xCons 110) := by
  refine xCtx_ok (d := 2) (X := 110) (con := xCons) (opt := xOpt) (hp := xHpt) (hn := xHnt) (cutp := xcC_110) (L := xcL_110) hc hcon (j := 65) (na := 18) (n := 52) (fuel := 100000) (pre := xcP_110) (src := xcS_110) (os := xcO_110) (ms := xcM_110) (ws := xcW_110) (t0 := xcTs_110) (tp := xcTp_110) (by omega) rfl rfl rfl (by decide +kernel) (by decide +kernel) (by decide +kernel) (xEF xk_110_s) (fun ci Tm sr rk hL => ?_)
  match ci, hL with
  | 0, hL => cases hL; exact ⟨xEF xk_110_0, by decide +kernel, by decide +kernel, by decide +kernel⟩
  | 1, hL => cases hL; exact ⟨xEF xk_110_1, by decide +kernel, by decide +kernel, by decide +kernel⟩
  | 2, hL => cases hL; exact ⟨xEF xk_110_2, by decide +kernel, by decide +kernel, by decide +kernel⟩
  | 3, hL => cases hL; exact ⟨xEF xk_110_3, by decide +kernel, by decide +kernel, by decide +kernel⟩
  | 4, hL => cases hL; exact ⟨xEF xk_110_4, by decide +kernel, by decide +kernel, by decide +kernel⟩
  | 5, hL => cases hL; exact ⟨xEF xk_110_5, by decide +kernel, by decide +kernel, by decide +kernel⟩
  | 6, hL => cases hL; exact ⟨xEF xk_110_6, by decide +kernel, by decide +kernel, by decide +kernel⟩
  | 7, hL => cases hL; exact ⟨xEF xk_110_7, by decide +kernel, by decide +kernel, by decide +kernel⟩
  | n + 8, hL => cases hL
theorem xc_111 (hc : xClo rvTab rvInf rvRet 316 rvMth Gd Met) (hcon : ∀ x, x < 111 → xCon Met (xCons x)) : xCon Met (xCons 111) := by
  refine xCtx_ok (d := 2) (X := 111) (con := xCons) (opt := xOpt) (hp := xHpt) (hn := xHnt) (cutp := xcC_111) (L := xcL_111) hc hcon (j := 65) (na := 18) (n := 52) (fuel := 100000) (pre := xcP_111) (src := xcS_111) (os := xcO_111) (ms := xcM_111) (ws := xcW_111) (t0 := xcTs_111) (tp := xcTp_111) (by omega) rfl rfl rfl (by decide +kernel) (by decide +kernel) (by decide +kernel) (xEF xk_111_s) (fun ci Tm sr rk hL => ?_)
  match ci, hL with
  | 0, hL => cases hL; exact ⟨xEF xk_111_0, by decide +kernel, by decide +kernel, by decide +kernel⟩
  | 1, hL => cases hL; exact ⟨xEF xk_111_1, by decide +kernel, by decide +kernel, by decide +kernel⟩
  | 2, hL => cases hL; exact ⟨xEF xk_111_2, by decide +kernel, by decide +kernel, by decide +kernel⟩
  | 3, hL => cases hL; exact ⟨xEF xk_111_3, by decide +kernel, by decide +kernel, by decide +kernel⟩
  | 4, hL => cases hL; exact ⟨xEF xk_111_4, by decide +kernel, by decide +kernel, by decide +kernel⟩
  | 5, hL => cases hL; exact ⟨xEF xk_111_5, by decide +kernel, by decide +kernel, by decide +kernel⟩
  | 6, hL => cases hL; exact ⟨xEF xk_111_6, by decide +kernel, by decide +kernel, by decide +kernel⟩
  | 7, hL => cases hL; exact ⟨xEF xk_111_7, by decide +kernel, by decide +kernel, by decide +kernel⟩
  | n + 8, hL => cases hL
theorem xc_112 (hc : xClo rvTab rvInf rvRet 316 rvMth Gd Met) (hcon : ∀ x, x < 112 → xCon Met (xCons x)) : xCon Met (xCons 112) := by
  refine xCtx_ok (d := 2) (X := 112) (con := xCons) (opt := xOpt) (hp := xHpt) (hn := xHnt) (cutp := xcC_112) (L := xcL_112) hc hcon (j := 65) (na := 18) (n := 52) (fuel := 100000) (pre := xcP_112) (src := xcS_112) (os := xcO_112) (ms := xcM_112) (ws := xcW_112) (t0 := xcTs_112) (tp := xcTp_112) (by omega) rfl rfl rfl (by decide +kernel) (by decide +kernel) (by decide +kernel) (xEF xk_112_s) (fun ci Tm sr rk hL => ?_)
  match ci, hL with
  | 0, hL => cases hL; exact ⟨xEF xk_112_0, by decide +kernel, by decide +kernel, by decide +kernel⟩
  | 1, hL => cases hL; exact ⟨xEF xk_112_1, by decide +kernel, by decide +kernel, by decide +kernel⟩
  | 2, hL => cases hL; exact ⟨xEF xk_112_2, by decide +kernel, by decide +kernel, by decide +kernel⟩
  | 3, hL => cases hL; exact ⟨xEF xk_112_3, by decide +kernel, by decide +kernel, by decide +kernel⟩
  | 4, hL => cases hL; exact ⟨xEF xk_112_4, by decide +kernel, by decide +kernel, by decide +kernel⟩
  | 5, hL => cases hL; exact ⟨xEF xk_112_5, by decide +kernel, by decide +kernel, by decide +kernel⟩
  | 6, hL => cases hL; exact ⟨xEF xk_112_6, by decide +kernel, by decide +kernel, by decide +kernel⟩
  | 7, hL => cases hL; exact ⟨xEF xk_112_7, by decide +kernel, by decide +kernel, by decide +kernel⟩
  | 8, hL => cases hL; exact ⟨xEF xk_112_8, by decide +kernel, by decide +kernel, by decide +kernel⟩
  | n + 9, hL => cases hL
theorem xc_113 (hc : xClo rvTab rvInf rvRet 316 rvMth Gd Met) (hcon : ∀ x, x < 113 → xCon Met (xCons x)) : xCon Met (xCons 113) := by
  refine xCtx_ok (d := 2) (X := 113) (con := xCons) (opt := xOpt) (hp := xHpt) (hn := xHnt) (cutp := xcC_113) (L := xcL_113) hc hcon (j := 65) (na := 18) (n := 52) (fuel := 100000) (pre := xcP_113) (src := xcS_113) (os := xcO_113) (ms := xcM_113) (ws := xcW_113) (t0 := xcTs_113) (tp := xcTp_113) (by omega) rfl rfl rfl (by decide +kernel) (by decide +kernel) (by decide +kernel) (xEF xk_113_s) (fun ci Tm sr rk hL => ?_)
  match ci, hL with
  | 0, hL => cases hL; exact ⟨xEF xk_113_0, by decide +kernel, by decide +kernel, by decide +kernel⟩
  | 1, hL => cases hL; exact ⟨xEF xk_113_1, by decide +kernel, by decide +kernel, by decide +kernel⟩
  | n + 2, hL => cases hL
theorem xc_114 (hc : xClo rvTab rvInf rvRet 316 rvMth Gd Met) (hcon : ∀ x, x < 114 → xCon Met (xCons x)) : xCon Met (xCons 114) := by
  refine xCtx_ok (d := 2) (X := 114) (con := xCons) (opt := xOpt) (hp := xHpt) (hn := xHnt) (cutp := xcC_114) (L := xcL_114) hc hcon (j := 69) (na := 2) (n := 52) (fuel := 100000) (pre := xcP_114) (src := xcS_114) (os := xcO_114) (ms := xcM_114) (ws := xcW_114) (t0 := xcTs_114) (tp := xcTp_114) (by omega) rfl rfl rfl (by decide +kernel) (by decide +kernel) (by decide +kernel) (xEF xk_114_s) (fun ci Tm sr rk hL => ?_)
  match ci, hL with
  | 0, hL => cases hL; exact ⟨xEF xk_114_0, by decide +kernel, by decide +kernel, by decide +kernel⟩
  | 1, hL => cases hL; exact ⟨xEF xk_114_1, by decide +kernel, by decide +kernel, by decide +kernel⟩
  | 2, hL => cases hL; exact ⟨xEF xk_114_2, by decide +kernel, by decide +kernel, by decide +kernel⟩
  | 3, hL => cases hL; exact ⟨xEF xk_114_3, by decide +kernel, by decide +kernel, by decide +kernel⟩
  | 4, hL => cases hL; exact ⟨xEF xk_114_4, by decide +kernel, by decide +kernel, by decide +kernel⟩
  | 5, hL => cases hL; exact ⟨xEF xk_114_5, by decide +kernel, by decide +kernel, by decide +kernel⟩
  | 6, hL => cases hL; exact ⟨xEF xk_114_6, by decide +kernel, by decide +kernel, by decide +kernel⟩
  | 7, hL => cases hL; exact ⟨xEF xk_114_7, by decide +kernel, by decide +kernel, by decide +kernel⟩
  | 8, hL => cases hL; exact ⟨xEF xk_114_8, by decide +kernel, by decide +kernel, by decide +kernel⟩
  | 9, hL => cases hL; exact ⟨xEF xk_114_9, by decide +kernel, by decide +kernel, by decide +kernel⟩
  | 10, hL => cases hL; exact ⟨xEF xk_114_10, by decide +kernel, by decide +kernel, by decide +kernel⟩
  | 11, hL => cases hL; exact ⟨xEF xk_114_11, by decide +kernel, by decide +kernel, by decide +kernel⟩
  | 12, hL => cases hL; exact ⟨xEF xk_114_12, by decide +kernel, by decide +kernel, by decide +kernel⟩
  | 13, hL => cases hL; exact ⟨xEF xk_114_13, by decide +kernel, by decide +kernel, by decide +kernel⟩
  | 14, hL => cases hL; exact ⟨xEF xk_114_14, by decide +kernel, by decide +kernel, by decide +kernel⟩
  | n + 15, hL => cases hL
theorem xc_115 (hc : xClo rvTab rvInf rvRet 316 rvMth Gd Met) (hcon : ∀ x, x < 115 → xCon Met (xCons x)) : xCon Met (xCons 115) := by
  refine xCtx_ok (d := 2) (X := 115) (con := xCons) (opt := xOpt) (hp := xHpt) (hn := xHnt) (cutp := xcC_115) (L := xcL_115) hc hcon (j := 70) (na := 18) (n := 52) (fuel := 100000) (pre := xcP_115) (src := xcS_115) (os := xcO_115) (ms := xcM_115) (ws := xcW_115) (t0 := xcTs_115) (tp := xcTp_115) (by omega) rfl rfl rfl (by decide +kernel) (by decide +kernel) (by decide +kernel) (xEF xk_115_s) (fun ci Tm sr rk hL => ?_)
  match ci, hL with
  | 0, hL => cases hL; exact ⟨xEF xk_115_0, by decide +kernel, by decide +kernel, by decide +kernel⟩
  | 1, hL => cases hL; exact ⟨xEF xk_115_1, by decide +kernel, by decide +kernel, by decide +kernel⟩
  | 2, hL => cases hL; exact ⟨xEF xk_115_2, by decide +kernel, by decide +kernel, by decide +kernel⟩
  | n + 3, hL => cases hL
theorem xc_116 (hc : xClo rvTab rvInf rvRet 316 rvMth Gd Met) (hcon : ∀ x, x < 116 → xCon Met (xCons x)) : xCon Met (xCons 116) := by
  refine xCtx_ok (d := 2) (X := 116) (con := xCons) (opt := xOpt) (hp := xHpt) (hn := xHnt) (cutp := xcC_116) (L := xcL_116) hc hcon (j := 71) (na := 2) (n := 52) (fuel := 100000) (pre := xcP_116) (src := xcS_116) (os := xcO_116) (ms := xcM_116) (ws := xcW_116) (t0 := xcTs_116) (tp := xcTp_116) (by omega) rfl rfl rfl (by decide +kernel) (by decide +kernel) (by decide +kernel) (xEF xk_116_s) (fun ci Tm sr rk hL => ?_)
  match ci, hL with
  | 0, hL => cases hL; exact ⟨xEF xk_116_0, by decide +kernel, by decide +kernel, by decide +kernel⟩
  | 1, hL => cases hL; exact ⟨xEF xk_116_1, by decide +kernel, by decide +kernel, by decide +kernel⟩
  | n + 2, hL => cases hL
theorem xc_117 (hc : xClo rvTab rvInf rvRet 316 rvMth Gd Met) (hcon : ∀ x, x < 117 → xCon Met (xCons x)) : xCon Met (xCons 117) := by
  refine xCtx_ok (d := 2) (X := 117) (con := xCons) (opt := xOpt) (hp := xHpt) (hn := xHnt) (cutp := xcC_117) (L := xcL_117) hc hcon (j := 70) (na := 18) (n := 52) (fuel := 100000) (pre := xcP_117) (src := xcS_117) (os := xcO_117) (ms := xcM_117) (ws := xcW_117) (t0 := xcTs_117) (tp := xcTp_117) (by omega) rfl rfl rfl (by decide +kernel) (by decide +kernel) (by decide +kernel) (xEF xk_117_s) (fun ci Tm sr rk hL => ?_)
  match ci, hL with
  | 0, hL => cases hL; exact ⟨xEF xk_117_0, by decide +kernel, by decide +kernel, by decide +kernel⟩
  | 1, hL => cases hL; exact ⟨xEF xk_117_1, by decide +kernel, by decide +kernel, by decide +kernel⟩
  | 2, hL => cases hL; exact ⟨xEF xk_117_2, by decide +kernel, by decide +kernel, by decide +kernel⟩
  | n + 3, hL => cases hL
theorem xc_118 (hc : xClo rvTab rvInf rvRet 316 rvMth Gd Met) (hcon : ∀ x, x < 118 → xCon Met (xCons x)) : xCon Met (xCons 118) := by
  refine xCtx_ok (d := 2) (X := 118) (con := xCons) (opt := xOpt) (hp := xHpt) (hn := xHnt) (cutp := xcC_118) (L := xcL_118) hc hcon (j := 70) (na := 18) (n := 52) (fuel := 100000) (pre := xcP_118) (src := xcS_118) (os := xcO_118) (ms := xcM_118) (ws := xcW_118) (t0 := xcTs_118) (tp := xcTp_118) (by omega) rfl rfl rfl (by decide +kernel) (by decide +kernel) (by decide +kernel) (xEF xk_118_s) (fun ci Tm sr rk hL => ?_)
  match ci, hL with
  | 0, hL => cases hL; exact ⟨xEF xk_118_0, by decide +kernel, by decide +kernel, by decide +kernel⟩
  | 1, hL => cases hL; exact ⟨xEF xk_118_1, by decide +kernel, by decide +kernel, by decide +kernel⟩
  | 2, hL => cases hL; exact ⟨xEF xk_118_2, by decide +kernel, by decide +kernel, by decide +kernel⟩
  | 3, hL => cases hL; exact ⟨xEF xk_118_3, by decide +kernel, by decide +kernel, by decide +kernel⟩
  | n + 4, hL => cases hL
end XCC
