section XCC
variable {Gd : Nat → (xRes2 → Prop) → rvS → Prop} {Met : Nat → List rvV → rvH → (xRes2 → Prop) → Prop}
theorem xc_59 (hc : xClo rvTab rvInf rvRet 316 rvMth Gd Met) (hcon : ∀ x, x < 59 → xCon Met (xCons x)) : xCon Met (xCons 59) := by
  refine xCtx_ok (d := 2) (X := 59) (con := xCons) (opt := xOpt) (hp := xHpt) (hn := xHnt) (cutp := xcC_59) (L := xcL_59) hc hcon (j := 32) (na := 6) (n := 52) (fuel := 100000) (pre := xcP_59) (src := xcS_59) (os := xcO_59) (ms := xcM_59) (ws := xcW_59) (t0 := xcTs_59) (tp := xcTp_59) (by omega) rfl rfl rfl (by decide +kernel) (by decide +kernel) (by decide +kernel) (xEF xk_59_s) (fun ci Tm sr rk hL => ?_)
  match ci, hL with
  | 0, hL => cases hL; exact ⟨xEF xk_59_0, by decide +kernel, by decide +kernel, by decide +kernel⟩
  | n + 1, hL => cases hL
theorem xc_60 (hc : xClo rvTab rvInf rvRet 316 rvMth Gd Met) (hcon : ∀ x, x < 60 → xCon Met (xCons x)) : xCon Met (xCons 60) := by
  refine xCtx_ok (d := 2) (X := 60) (con := xCons) (opt := xOpt) (hp := xHpt) (hn := xHnt) (cutp := xcC_60) (L := xcL_60) hc hcon (j := 33) (na := 0) (n := 52) (fuel := 100000) (pre := xcP_60) (src := xcS_60) (os := xcO_60) (ms := xcM_60) (ws := xcW_60) (t0 := xcTs_60) (tp := xcTp_60) (by omega) rfl rfl rfl (by decide +kernel) (by decide +kernel) (by decide +kernel) (xEF xk_60_s) (fun ci Tm sr rk hL => ?_)
  match ci, hL with
  | 0, hL => cases hL; exact ⟨xEF xk_60_0, by decide +kernel, by decide +kernel, by decide +kernel⟩
  | n + 1, hL => cases hL
theorem xc_61 (hc : xClo rvTab rvInf rvRet 316 rvMth Gd Met) (hcon : ∀ x, x < 61 → xCon Met (xCons x)) : xCon Met (xCons 61) := by
  refine xCtx_ok (d := 2) (X := 61) (con := xCons) (opt := xOpt) (hp := xHpt) (hn := xHnt) (cutp := xcC_61) (L := xcL_61) hc hcon (j := 34) (na := 0) (n := 52) (fuel := 100000) (pre := xcP_61) (src := xcS_61) (os := xcO_61) (ms := xcM_61) (ws := xcW_61) (t0 := xcTs_61) (tp := xcTp_61) (by omega) rfl rfl rfl (by decide +kernel) (by decide +kernel) (by decide +kernel) (xEF xk_61_s) (fun ci Tm sr rk hL => ?_)
  match ci, hL with
  | 0, hL => cases hL; exact ⟨xEF xk_61_0, by decide +kernel, by decide +kernel, by decide +kernel⟩
  | n + 1, hL => cases hL
theorem xc_62 (hc : xClo rvTab rvInf rvRet 316 rvMth Gd Met) (hcon : ∀ x, x < 62 → xCon Met (xCons x)) : xCon Met (xCons 62) := by
  refine xCtx_ok (d := 2) (X := 62) (con := xCons) (opt := xOpt) (hp := xHpt) (hn := xHnt) (cutp := xcC_62) (L := xcL_62) hc hcon (j := 35) (na := 4) (n := 52) (fuel := 100000) (pre := xcP_62) (src := xcS_62) (os := xcO_62) (ms := xcM_62) (ws := xcW_62) (t0 := xcTs_62) (tp := xcTp_62) (by omega) rfl rfl rfl (by decide +kernel) (by decide +kernel) (by decide +kernel) (xEF xk_62_s) (fun ci Tm sr rk hL => ?_)
  match ci, hL with
  | 0, hL => cases hL; exact ⟨xEF xk_62_0, by decide +kernel, by decide +kernel, by decide +kernel⟩
  | n + 1, hL => cases hL
theorem xc_63 (hc : xClo rvTab rvInf rvRet 316 rvMth Gd Met) (hcon : ∀ x, x < 63 → xCon Met (xCons x)) : xCon Met (xCons 63) := by
  refine xCtx_ok (d := 2) (X := 63) (con := xCons) (opt := xOpt) (hp := xHpt) (hn := xHnt) (cutp := xcC_63) (L := xcL_63) hc hcon (j := 36) (na := 5) (n := 52) (fuel := 100000) (pre := xcP_63) (src := xcS_63) (os := xcO_63) (ms := xcM_63) (ws := xcW_63) (t0 := xcTs_63) (tp := xcTp_63) (by omega) rfl rfl rfl (by decide +kernel) (by decide +kernel) (by decide +kernel) (xEF xk_63_s) (fun ci Tm sr rk hL => ?_)
  match ci, hL with
  | 0, hL => cases hL; exact ⟨xEF xk_63_0, by decide +kernel, by decide +kernel, by decide +kernel⟩
  | n + 1, hL => cases hL
theorem xc_64 (hc : xClo rvTab rvInf rvRet 316 rvMth Gd Met) (hcon : ∀ x, x < 64 → xCon Met (xCons x)) : xCon Met (xCons 64) := by
  refine xCtx_ok (d := 2) (X := 64) (con := xCons) (opt := xOpt) (hp := xHpt) (hn := xHnt) (cutp := xcC_64) (L := xcL_64) hc hcon (j := 37) (na := 5) (n := 52) (fuel := 100000) (pre := xcP_64) (src := xcS_64) (os := xcO_64) (ms := xcM_64) (ws := xcW_64) (t0 := xcTs_64) (tp := xcTp_64) (by omega) rfl rfl rfl (by decide +kernel) (by decide +kernel) (by decide +kernel) (xEF xk_64_s) (fun ci Tm sr rk hL => ?_)
  match ci, hL with
  | 0, hL => cases hL; exact ⟨xEF xk_64_0, by decide +kernel, by decide +kernel, by decide +kernel⟩
  | n + 1, hL => cases hL
theorem xc_65 (hc : xClo rvTab rvInf rvRet 316 rvMth Gd Met) (hcon : ∀ x, x < 65 → xCon Met (xCons x)) : xCon Met (xCons 65) := by
  refine xCtx_ok (d := 2) (X := 65) (con := xCons) (opt := xOpt) (hp := xHpt) (hn := xHnt) (cutp := xcC_65) (L := xcL_65) hc hcon (j := 14) (na := 1) (n := 52) (fuel := 100000) (pre := xcP_65) (src := xcS_65) (os := xcO_65) (ms := xcM_65) (ws := xcW_65) (t0 := xcTs_65) (tp := xcTp_65) (by omega) rfl rfl rfl (by decide +kernel) (by decide +kernel) (by decide +kernel) (xEF xk_65_s) (fun ci Tm sr rk hL => ?_)
  match ci, hL with
  | n + 0, hL => cases hL
theorem xc_66 (hc : xClo rvTab rvInf rvRet 316 rvMth Gd Met) (hcon : ∀ x, x < 66 → xCon Met (xCons x)) : xCon Met (xCons 66) := by
  refine xCtx_ok (d := 2) (X := 66) (con := xCons) (opt := xOpt) (hp := xHpt) (hn := xHnt) (cutp := xcC_66) (L := xcL_66) hc hcon (j := 38) (na := 1) (n := 52) (fuel := 100000) (pre := xcP_66) (src := xcS_66) (os := xcO_66) (ms := xcM_66) (ws := xcW_66) (t0 := xcTs_66) (tp := xcTp_66) (by omega) rfl rfl rfl (by decide +kernel) (by decide +kernel) (by decide +kernel) (xEF xk_66_s) (fun ci Tm sr rk hL => ?_)
  match ci, hL with
  | 0, hL => cases hL; exact ⟨xEF xk_66_0, by decide +kernel, by decide +kernel, by decide +kernel⟩
  | 1, hL => cases hL; exact ⟨xEF xk_66_1, by decide +kernel, by decide +kernel, by decide +kernel⟩
  | n + 2, hL => cases hL
theorem xc_67 (hc : xClo rvTab rvInf rvRet 316 rvMth Gd Met) (hcon : ∀ x, x < 67 → xCon Met (xCons x)) : xCon Met (xCons 67) := by
  refine xCtx_ok (d := 2) (X := 67) (con := xCons) (opt := xOpt) (hp := xHpt) (hn := xHnt) (cutp := xcC_67) (L := xcL_67) hc hcon (j := 39) (na := 2) (n := 52) (fuel := 100000) (pre := xcP_67) (src := xcS_67) (os := xcO_67) (ms := xcM_67) (ws := xcW_67) (t0 := xcTs_67) (tp := xcTp_67) (by omega) rfl rfl rfl (by decide +kernel) (by decide +kernel) (by decide +kernel) (xEF xk_67_s) (fun ci Tm sr rk hL => ?_)
  match ci, hL with
  | 0, hL => cases hL; exact ⟨xEF xk_67_0, by decide +kernel, by decide +kernel, by decide +kernel⟩
  | n + 1, hL => cases hL
theorem xc_68 (hc : xClo rvTab rvInf rvRet 316 rvMth Gd Met) (hcon : ∀ x, x < 68 → xCon Met (xCons x)) : xCon Met (xCons 68) := by
  refine xCtx_ok (d := 2) (X := 68) (con := xCons) (opt := xOpt) (hp := xHpt) (hn := xHnt) (cutp := xcC_68) (L := xcL_68) hc hcon (j := 40) (na := 0) (n := 52) (fuel := 100000) (pre := xcP_68) (src := xcS_68) (os := xcO_68) (ms := xcM_68) (ws := xcW_68) (t0 := xcTs_68) (tp := xcTp_68) (by omega) rfl rfl rfl (by decide +kernel) (by decide +kernel) (by decide +kernel) (xEF xk_68_s) (fun ci Tm sr rk hL => ?_)
  match ci, hL with
  | 0, hL => cases hL; exact ⟨xEF xk_68_0, by decide +kernel, by decide +kernel, by decide +kernel⟩
  | n + 1, hL => cases hL
theorem xc_69 (hc : xClo rvTab rvInf rvRet 316 rvMth Gd Met) (hcon : ∀ x, x < 69 → xCon Met (xCons x)) : xCon Met (xCons 69) := by
  refine xCtx_ok (d := 2) (X := 69) (con := xCons) (opt := xOpt) (hp := xHpt) (hn := xHnt) (cutp := xcC_69) (L := xcL_69) hc hcon (j := 41) (na := 1) (n := 52) (fuel := 100000) (pre := xcP_69) (src := xcS_69) (os := xcO_69) (ms := xcM_69) (ws := xcW_69) (t0 := xcTs_69) (tp := xcTp_69) (by omega) rfl rfl rfl (by decide +kernel) (by decide +kernel) (by decide +kernel) (xEF xk_69_s) (fun ci Tm sr rk hL => ?_)
  match ci, hL with
  | 0, hL => cases hL; exact ⟨xEF xk_69_0, by decide +kernel, by decide +kernel, by decide +kernel⟩
  | n + 1, hL => cases hL
theorem xc_70 (hc : xClo rvTab rvInf rvRet 316 rvMth Gd Met) (hcon : ∀ x, x < 70 → xCon Met (xCons x)) : xCon Met (xCons 70) := by
  refine xCtx_ok (d := 2) (X := 70) (con := xCons) (opt := xOpt) (hp := xHpt) (hn := xHnt) (cutp := xcC_70) (L := xcL_70) hc hcon (j := 42) (na := 5) (n := 52) (fuel := 100000) (pre := xcP_70) (src := xcS_70) (os := xcO_70) (ms := xcM_70) (ws := xcW_70) (t0 := xcTs_70) (tp := xcTp_70) (by omega) rfl rfl rfl (by decide +kernel) (by decide +kernel) (by decide +kernel) (xEF xk_70_s) (fun ci Tm sr rk hL => ?_)
  match ci, hL with
  | 0, hL => cases hL; exact ⟨xEF xk_70_0, by decide +kernel, by decide +kernel, by decide +kernel⟩
  | n + 1, hL => cases hL
theorem xc_71 (hc : xClo rvTab rvInf rvRet 316 rvMth Gd Met) (hcon : ∀ x, x < 71 → xCon Met (xCons x)) : xCon Met (xCons 71) := by
  refine xCtx_ok (d := 2) (X := 71) (con := xCons) (opt := xOpt) (hp := xHpt) (hn := xHnt) (cutp := xcC_71) (L := xcL_71) hc hcon (j := 43) (na := 4) (n := 52) (fuel := 100000) (pre := xcP_71) (src := xcS_71) (os := xcO_71) (ms := xcM_71) (ws := xcW_71) (t0 := xcTs_71) (tp := xcTp_71) (by omega) rfl rfl rfl (by decide +kernel) (by decide +kernel) (by decide +kernel) (xEF xk_71_s) (fun ci Tm sr rk hL => ?_)
  match ci, hL with
  | 0, hL => cases hL; exact ⟨xEF xk_71_0, by decide +kernel, by decide +kernel, by decide +kernel⟩
  | 1, hL => cases hL; exact ⟨xEF xk_71_1, by decide +kernel, by decide +kernel, by decide +kernel⟩
  | 2, hL => cases hL; exact ⟨xEF xk_71_2, by decide +kernel, by decide +kernel, by decide +kernel⟩
  | n + 3, hL => cases hL
theorem xc_72 (hc : xClo rvTab rvInf rvRet 316 rvMth Gd Met) (hcon : ∀ x, x < 72 → xCon Met (xCons x)) : xCon Met (xCons 72) := by
  refine xCtx_ok (d := 2) (X := 72) (con := xCons) (opt := xOpt) (hp := xHpt) (hn := xHnt) (cutp := xcC_72) (L := xcL_72) hc hcon (j := 44) (na := 5) (n := 52) (fuel := 100000) (pre := xcP_72) (src := xcS_72) (os := xcO_72) (ms := xcM_72) (ws := xcW_72) (t0 := xcTs_72) (tp := xcTp_72) (by omega) rfl rfl rfl (by decide +kernel) (by decide +kernel) (by decide +kernel) (xEF xk_72_s) (fun ci Tm sr rk hL => ?_)
  match ci, hL with
  | 0, hL => cases hL; exact ⟨xEF xk_72_0, by decide +kernel, by decide +kernel, by decide +kernel⟩
  | n + 1, hL => cases hL
theorem xc_73 (hc : xClo rvTab rvInf rvRet 316 rvMth Gd Met) (hcon : ∀ x, x < 73 → xCon Met (xCons x)) : xCon Met (xCons 73) := by
  refine xCtx_ok (d := 2) (X := 73) (con := xCons) (opt := xOpt) (hp := xHpt) (hn := xHnt) (cutp := xcC_73) (L := xcL_73) hc hcon (j := 45) (na := 5) (n := 52) (fuel := 100000) (pre := xcP_73) (src := xcS_73) (os := xcO_73) (ms := xcM_73) (ws := xcW_73) (t0 := xcTs_73) (tp := xcTp_73) (by omega) rfl rfl rfl (by decide +kernel) (by decide +kernel) (by decide +kernel) (xEF xk_73_s) (fun ci Tm sr rk hL => ?_)
  match ci, hL with
  | n + 0, hL => cases hL
theorem xc_74 (hc : xClo rvTab rvInf rvRet 316 rvMth Gd Met) (hcon : ∀ x, x < 74 → xCon Met (xCons x)) : xCon Met (xCons 74) := by
  refine xCtx_ok (d := 2) (X := 74) (con := xCons) (opt := xOpt) (hp := xHpt) (hn := xHnt) (cutp := xcC_74) (L := xcL_74) hc hcon (j := 46) (na := 1) (n := 52) (fuel := 100000) (pre := xcP_74) (src := xcS_74) (os := xcO_74) (ms := xcM_74) (ws := xcW_74) (t0 := xcTs_74) (tp := xcTp_74) (by omega) rfl rfl rfl (by decide +kernel) (by decide +kernel) (by decide +kernel) (xEF xk_74_s) (fun ci Tm sr rk hL => ?_)
  match ci, hL with
  | 0, hL => cases hL; exact ⟨xEF xk_74_0, by decide +kernel, by decide +kernel, by decide +kernel⟩
  | n + 1, hL => cases hL
theorem xc_75 (hc : xClo rvTab rvInf rvRet 316 rvMth Gd Met) (hcon : ∀ x, x < 75 → xCon Met (xCons x)) : xCon Met (xCons 75) := by
  refine xCtx_ok (d := 2) (X := 75) (con := xCons) (opt := xOpt) (hp := xHpt) (hn := xHnt) (cutp := xcC_75) (L := xcL_75) hc hcon (j := 47) (na := 1) (n := 52) (fuel := 100000) (pre := xcP_75) (src := xcS_75) (os := xcO_75) (ms := xcM_75) (ws := xcW_75) (t0 := xcTs_75) (tp := xcTp_75) (by omega) rfl rfl rfl (by decide +kernel) (by decide +kernel) (by decide +kernel) (xEF xk_75_s) (fun ci Tm sr rk hL => ?_)
  match ci, hL with
  | 0, hL => cases hL; exact ⟨xEF xk_75_0, by decide +kernel, by decide +kernel, by decide +kernel⟩
  | n + 1, hL => cases hL
theorem xc_76 (hc : xClo rvTab rvInf rvRet 316 rvMth Gd Met) (hcon : ∀ x, x < 76 → xCon Met (xCons x)) : xCon Met (xCons 76) := by
  refine xCtx_ok (d := 2) (X := 76) (con := xCons) (opt := xOpt) (hp := xHpt) (hn := xHnt) (cutp := xcC_76) (L := xcL_76) hc hcon (j := 48) (na := 1) (n := 52) (fuel := 100000) (pre := xcP_76) (src := xcS_76) (os := xcO_76) (ms := xcM_76) (ws := xcW_76) (t0 := xcTs_76) (tp := xcTp_76) (by omega) rfl rfl rfl (by decide +kernel) (by decide +kernel) (by decide +kernel) (xEF xk_76_s) (fun ci Tm sr rk hL => ?_)
  match ci, hL with
  | 0, hL => cases hL; exact ⟨xEF xk_76_0, by decide +kernel, by decide +kernel, by decide +kernel⟩
  | n + 1, hL => cases hL
theorem xc_77 (hc : xClo rvTab rvInf rvRet 316 rvMth Gd Met) (hcon : ∀ x, x < 77 → xCon Met (xCons x)) : xCon Met (xCons 77) := by
  refine xCtx_ok (d := 2) (X := 77) (con := xCons) (opt := xOpt) (hp := xHpt) (hn := xHnt) (cutp := xcC_77) (L := xcL_77) hc hcon (j := 49) (na := 1) (n := 52) (fuel := 100000) (pre := xcP_77) (src := xcS_77) (os := xcO_77) (ms := xcM_77) (ws := xcW_77) (t0 := xcTs_77) (tp := xcTp_77) (by omega) rfl rfl rfl (by decide +kernel) (by decide +kernel) (by decide +kernel) (xEF xk_77_s) (fun ci Tm sr rk hL => ?_)
  match ci, hL with
  | 0, hL => cases hL; exact ⟨xEF xk_77_0, by decide +kernel, by decide +kernel, by decide +kernel⟩
  | n + 1, hL => cases hL
theorem xc_78 (hc : xClo rvTab rvInf rvRet 316 rvMth Gd Met) (hcon : ∀ x, x < 78 → xCon Met (xCons x)) : xCon Met (xCons 78) := by
  refine xCtx_ok (d := 2) (X := 78) (con := xCons) (opt := xOpt) (hp := xHpt) (hn := xHnt) (cutp := xcC_78) (L := xcL_78) hc hcon (j := 50) (na := 6) (n := 52) (fuel := 100000) (pre := xcP_78) (src := xcS_78) (os := xcO_78) (ms := xcM_78) (ws := xcW_78) (t0 := xcTs_78) (tp := xcTp_78) (by omega) rfl rfl rfl (by decide +kernel) (by decide +kernel) (by decide +kernel) (xEF xk_78_s) (fun ci Tm sr rk hL => ?_)
  match ci, hL with
  | 0, hL => cases hL; exact ⟨xEF xk_78_0, by decide +kernel, by decide +kernel, by decide +kernel⟩
  | n + 1, hL => cases hL
theorem xc_79 (hc : xClo rvTab rvInf rvRet 316 rvMth Gd Met) (hcon : ∀ x, x < 79 → xCon Met (xCons x)) : xCon Met (xCons 79) := by
  refine xCtx_ok (d := 2) (X := 79) (con := xCons) (opt := xOpt) (hp := xHpt) (hn := xHnt) (cutp := xcC_79) (L := xcL_79) hc hcon (j := 51) (na := 5) (n := 52) (fuel := 100000) (pre := xcP_79) (src := xcS_79) (os := xcO_79) (ms := xcM_79) (ws := xcW_79) (t0 := xcTs_79) (tp := xcTp_79) (by omega) rfl rfl rfl (by decide +kernel) (by decide +kernel) (by decide +kernel) (xEF xk_79_s) (fun ci Tm sr rk hL => ?_)
  match ci, hL with
  | 0, hL => cases hL; exact ⟨xEF xk_79_0, by decide +kernel, by decide +kernel, by decide +kernel⟩
  | n + 1, hL => cases hL
theorem xc_80 (hc : xClo rvTab rvInf rvRet 316 rvMth Gd Met) (hcon : ∀ x, x < 80 → xCon Met (xCons x)) : xCon Met (xCons 80) := by
  refine xCtx_ok (d := 2) (X := 80) (con := xCons) (opt := xOpt) (hp := xHpt) (hn := xHnt) (cutp := xcC_80) (L := xcL_80) hc hcon (j := 1) (na := 1) (n := 52) (fuel := 100000) (pre := xcP_80) (src := xcS_80) (os := xcO_80) (ms := xcM_80) (ws := xcW_80) (t0 := xcTs_80) (tp := xcTp_80) (by omega) rfl rfl rfl (by decide +kernel) (by decide +kernel) (by decide +kernel) (xEF xk_80_s) (fun ci Tm sr rk hL => ?_)
  match ci, hL with
  | 0, hL => cases hL; exact ⟨xEF xk_80_0, by decide +kernel, by decide +kernel, by decide +kernel⟩
  | n + 1, hL => cases hL
theorem xc_81 (hc : xClo rvTab rvInf rvRet 316 rvMth Gd Met) (hcon : ∀ x, x < 81 → xCon Met (xCons x)) : xCon Met (xCons 81) := by
  refine xCtx_ok (d := 2) (X := 81) (con := xCons) (opt := xOpt) (hp := xHpt) (hn := xHnt) (cutp := xcC_81) (L := xcL_81) hc hcon (j := 52) (na := 1) (n := 52) (fuel := 100000) (pre := xcP_81) (src := xcS_81) (os := xcO_81) (ms := xcM_81) (ws := xcW_81) (t0 := xcTs_81) (tp := xcTp_81) (by omega) rfl rfl rfl (by decide +kernel) (by decide +kernel) (by decide +kernel) (xEF xk_81_s) (fun ci Tm sr rk hL => ?_)
  match ci, hL with
  | 0, hL => cases hL; exact ⟨xEF xk_81_0, by decide +kernel, by decide +kernel, by decide +kernel⟩
  | 1, hL => cases hL; exact ⟨xEF xk_81_1, by decide +kernel, by decide +kernel, by decide +kernel⟩
  | 2, hL => cases hL; exact ⟨xEF xk_81_2, by decide +kernel, by decide +kernel, by decide +kernel⟩
  | 3, hL => cases hL; exact ⟨xEF xk_81_3, by decide +kernel, by decide +kernel, by decide +kernel⟩
  | 4, hL => cases hL; exact ⟨xEF xk_81_4, by decide +kernel, by decide +kernel, by decide +kernel⟩
  | 5, hL => cases hL; exact ⟨xEF xk_81_5, by decide +kernel, by decide +kernel, by decide +kernel⟩
  | 6, hL => cases hL; exact ⟨xEF xk_81_6, by decide +kernel, by decide +kernel, by decide +kernel⟩
  | 7, hL => cases hL; exact ⟨xEF xk_81_7, by decide +kernel, by decide +kernel, by decide +kernel⟩
  | 8, hL => cases hL; exact ⟨xEF xk_81_8, by decide +kernel, by decide +kernel, by decide +kernel⟩
  | 9, hL => cases hL; exact ⟨xEF xk_81_9, by decide +kernel, by decide +kernel, by decide +kernel⟩
  | 10, hL => cases hL; exact ⟨xEF xk_81_10, by decide +kernel, by decide +kernel, by decide +kernel⟩
  | 11, hL => cases hL; exact ⟨xEF xk_81_11, by decide +kernel, by decide +kernel, by decide +kernel⟩
  | 12, hL => cases hL; exact ⟨xEF xk_81_12, by decide +kernel, by decide +kernel, by decide +kernel⟩
  | 13, hL => cases hL; exact ⟨xEF xk_81_13, by decide +kernel, by decide +kernel, by decide +kernel⟩
  | 14, hL => cases hL; exact ⟨xEF xk_81_14, by decide +kernel, by decide +kernel, by decide +kernel⟩
  | 15, hL => cases hL; exact ⟨xEF xk_81_15, by decide +kernel, by decide +kernel, by decide +kernel⟩
  | 16, hL => cases hL; exact ⟨xEF xk_81_16, by decide +kernel, by decide +kernel, by decide +kernel⟩
  | 17, hL => cases hL; exact ⟨xEF xk_81_17, by decide +kernel, by decide +kernel, by decide +kernel⟩
  | n + 18, hL => cases hL
theorem xc_82 (hc : xClo rvTab rvInf rvRet 316 rvMth Gd Met) (hcon : ∀ x, x < 82 → xCon Met (xCons x)) : xCon Met (xCons 82) := by
  refine xCtx_ok (d := 2) (X := 82) (con := xCons) (opt := xOpt) (hp := xHpt) (hn := xHnt) (cutp := xcC_82) (L := xcL_82) hc hcon (j := 53) (na := 1) (n := 52) (fuel := 100000) (pre := xcP_82) (src := xcS_82) (os := xcO_82) (ms := xcM_82) (ws := xcW_82) (t0 := xcTs_82) (tp := xcTp_82) (by omega) rfl rfl rfl (by decide +kernel) (by decide +kernel) (by decide +kernel) (xEF xk_82_s) (fun ci Tm sr rk hL => ?_)
  match ci, hL with
  | 0, hL => cases hL; exact ⟨xEF xk_82_0, by decide +kernel, by decide +kernel, by decide +kernel⟩
  | n + 1, hL => cases hL
theorem xc_83 (hc : xClo rvTab rvInf rvRet 316 rvMth Gd Met) (hcon : ∀ x, x < 83 → xCon Met (xCons x)) : xCon Met (xCons 83) := by
  refine xCtx_ok (d := 2) (X := 83) (con := xCons) (opt := xOpt) (hp := xHpt) (hn := xHnt) (cutp := xcC_83) (L := xcL_83) hc hcon (j := 54) (na := 5) (n := 52) (fuel := 100000) (pre := xcP_83) (src := xcS_83) (os := xcO_83) (ms := xcM_83) (ws := xcW_83) (t0 := xcTs_83) (tp := xcTp_83) (by omega) rfl rfl rfl (by decide +kernel) (by decide +kernel) (by decide +kernel) (xEF xk_83_s) (fun ci Tm sr rk hL => ?_)
  match ci, hL with
  | 0, hL => cases hL; exact ⟨xEF xk_83_0, by decide +kernel, by decide +kernel, by decide +kernel⟩
  | 1, hL => cases hL; exact ⟨xEF xk_83_1, by decide +kernel, by decide +kernel, by decide +kernel⟩
  | 2, hL => cases hL; exact ⟨xEF xk_83_2, by decide +kernel, by decide +kernel, by decide +kernel⟩
  | 3, hL => cases hL; exact ⟨xEF xk_83_3, by decide +kernel, by decide +kernel, by decide +kernel⟩
  | 4, hL => cases hL; exact ⟨xEF xk_83_4, by decide +kernel, by decide +kernel, by decide +kernel⟩
  | n + 5, hL => cases hL
theorem xc_84 (hc : xClo rvTab rvInf rvRet 316 rvMth Gd Met) (hcon : ∀ x, x < 84 → xCon Met (xCons x)) : xCon Met (xCons 84) := by
  refine xCtx_ok (d := 2) (X := 84) (con := xCons) (opt := xOpt) (hp := xHpt) (hn := xHnt) (cutp := xcC_84) (L := xcL_84) hc hcon (j := 55) (na := 5) (n := 52) (fuel := 100000) (pre := xcP_84) (src := xcS_84) (os := xcO_84) (ms := xcM_84) (ws := xcW_84) (t0 := xcTs_84) (tp := xcTp_84) (by omega) rfl rfl rfl (by decide +kernel) (by decide +kernel) (by decide +kernel) (xEF xk_84_s) (fun ci Tm sr rk hL => ?_)
  match ci, hL with
  | 0, hL => cases hL; exact ⟨xEF xk_84_0, by decide +kernel, by decide +kernel, by decide +kernel⟩
  | n + 1, hL => cases hL
theorem xc_85 (hc : xClo rvTab rvInf rvRet 316 rvMth Gd Met) (hcon : ∀ x, x < 85 → xCon Met (xCons x)) : xCon Met (xCons 85) := by
  refine xCtx_ok (d := 2) (X := 85) (con := xCons) (opt := xOpt) (hp := xHpt) (hn := xHnt) (cutp := xcC_85) (L := xcL_85) hc hcon (j := 56) (na := 1) (n := 52) (fuel := 100000) (pre := xcP_85) (src := xcS_85) (os := xcO_85) (ms := xcM_85) (ws := xcW_85) (t0 := xcTs_85) (tp := xcTp_85) (by omega) rfl rfl rfl (by decide +kernel) (by decide +kernel) (by decide +kernel) (xEF xk_85_s) (fun ci Tm sr rk hL => ?_)
  match ci, hL with
  | 0, hL => cases hL; exact ⟨xEF xk_85_0, by decide +kernel, by decide +kernel, by decide +kernel⟩
  | n + 1, hL => cases hL
theorem xc_86 (hc : xClo rvTab rvInf rvRet 316 rvMth Gd Met) (hcon : ∀ x, x < 86 → xCon Met (xCons x)) : xCon Met (xCons 86) := by
  refine xCtx_ok (d := 2) (X := 86) (con := xCons) (opt := xOpt) (hp := xHpt) (hn := xHnt) (cutp := xcC_86) (L := xcL_86) hc hcon (j := 57) (na := 5) (n := 52) (fuel := 100000) (pre := xcP_86) (src := xcS_86) (os := xcO_86) (ms := xcM_86) (ws := xcW_86) (t0 := xcTs_86) (tp := xcTp_86) (by omega) rfl rfl rfl (by decide +kernel) (by decide +kernel) (by decide +kernel) (xEF xk_86_s) (fun ci Tm sr rk hL => ?_)
  match ci, hL with
  | 0, hL => cases hL; exact ⟨xEF xk_86_0, by decide +kernel, by decide +kernel, by decide +kernel⟩
  | n + 1, hL => cases hL
theorem xc_87 (hc : xClo rvTab rvInf rvRet 316 rvMth Gd Met) (hcon : ∀ x, x < 87 → xCon Met (xCons x)) : xCon Met (xCons 87) := by
  refine xCtx_ok (d := 2) (X := 87) (con := xCons) (opt := xOpt) (hp := xHpt) (hn := xHnt) (cutp := xcC_87) (L := xcL_87) hc hcon (j := 58) (na := 1) (n := 52) (fuel := 100000) (pre := xcP_87) (src := xcS_87) (os := xcO_87) (ms := xcM_87) (ws := xcW_87) (t0 := xcTs_87) (tp := xcTp_87) (by omega) rfl rfl rfl (by decide +kernel) (by decide +kernel) (by decide +kernel) (xEF xk_87_s) (fun ci Tm sr rk hL => ?_)
  match ci, hL with
  | 0, hL => cases hL; exact ⟨xEF xk_87_0, by decide +kernel, by decide +kernel, by decide +kernel⟩
  | n + 1, hL => cases hL
theorem xc_88 (hc : xClo rvTab rvInf rvRet 316 rvMth Gd Met) (hcon : ∀ x, x < 88 → xCon Met (xCons x)) : xCon Met (xCons 88) := by
  refine xCtx_ok (d := 2) (X := 88) (con := xCons) (opt := xOpt) (hp := xHpt) (hn := xHnt) (cutp := xcC_88) (L := xcL_88) hc hcon (j := 59) (na := 5) (n := 52) (fuel := 100000) (pre := xcP_88) (src := xcS_88) (os := xcO_88) (ms := xcM_88) (ws := xcW_88) (t0 := xcTs_88) (tp := xcTp_88) (by omega) rfl rfl rfl (by decide +kernel) (by decide +kernel) (by decide +kernel) (xEF xk_88_s) (fun ci Tm sr rk hL => ?_)
  match ci, hL with
  | 0, hL => cases hL; exact ⟨xEF xk_88_0, by decide +kernel, by decide +kernel, by decide +kernel⟩
  | n + 1, hL => cases hL
end XCC
