theorem xu_ne {a b : Nat} (h : a ≠ b) : Nat.beq a b = false := by
  cases e : Nat.beq a b with
  | true => exact absurd (rv_beq e) h
  | false => rfl
section XYC
variable {Gd : Nat → (xRes2 → Prop) → rvS → Prop} {Met : Nat → List rvV → rvH → (xRes2 → Prop) → Prop}
theorem xc_171 (hc : xClo rvTab rvInf rvRet 316 rvMth Gd Met) (hcon0 : ∀ x, x < 171 → xCon Met (xCons x)) : xCon Met (xCons 171) := by
  have hcon51 : ∀ x, x < 171 → xCon Met (xCons x) := fun x hx => hcon0 x (by omega)
  have hcon : ∀ x, x < 171 → xCon Met (xuCon_171 x) := hcon0
  refine xCtx_ok (d := 2) (X := 171) (con := xuCon_171) (opt := xuOpt) (hp := xuHp) (hn := xHnt) (cutp := xuC_d171) (L := xuL_d171) hc hcon (j := 90) (na := 12) (n := 52) (fuel := 100000) (pre := xcP_171) (src := xcS_171) (os := xcO_171) (ms := xcM_171) (ws := xuW_d171) (t0 := xuTs_d171) (tp := xuTp_d171) (by omega) rfl rfl rfl (by decide +kernel) (by decide +kernel) (by decide +kernel) xuk_d171_s (fun ci Tm sr rk hL => ?_)
  match ci, hL with
  | 0, hL => cases hL; exact ⟨xuk_d171_0, by decide +kernel, by decide +kernel, by decide⟩
  | 1, hL => cases hL; exact ⟨xuk_d171_1, by decide +kernel, by decide +kernel, by decide⟩
  | 2, hL => cases hL; exact ⟨xuk_d171_2, by decide +kernel, by decide +kernel, by decide⟩
  | 3, hL => cases hL; exact ⟨xuk_d171_3, by decide +kernel, by decide +kernel, by decide⟩
  | 4, hL => cases hL; exact ⟨xuk_d171_4, by decide +kernel, by decide +kernel, by decide⟩
  | 5, hL => cases hL; exact ⟨xuk_d171_5, by decide +kernel, by decide +kernel, by decide⟩
  | 6, hL => cases hL; exact ⟨xuk_d171_6, by decide +kernel, by decide +kernel, by decide⟩
  | 7, hL => cases hL; exact ⟨xuk_d171_7, by decide +kernel, by decide +kernel, by decide⟩
  | 8, hL => cases hL; exact ⟨xuk_d171_8, by decide +kernel, by decide +kernel, by decide⟩
  | 9, hL => cases hL; exact ⟨xuk_d171_9, by decide +kernel, by decide +kernel, by decide⟩
  | 10, hL => cases hL; exact ⟨xuk_d171_10, by decide +kernel, by decide +kernel, by decide⟩
  | 11, hL => cases hL; exact ⟨xuk_d171_11, by decide +kernel, by decide +kernel, by decide⟩
  | 12, hL => cases hL; exact ⟨xuk_d171_12, by decide +kernel, by decide +kernel, by decide⟩
  | 13, hL => cases hL; exact ⟨xuk_d171_13, by decide +kernel, by decide +kernel, by decide⟩
  | 14, hL => cases hL; exact ⟨xuk_d171_14, by decide +kernel, by decide +kernel, by decide⟩
  | 15, hL => cases hL; exact ⟨xuk_d171_15, by decide +kernel, by decide +kernel, by decide⟩
  | 16, hL => cases hL; exact ⟨xuk_d171_16, by decide +kernel, by decide +kernel, by decide⟩
  | 17, hL => cases hL; exact ⟨xuk_d171_17, by decide +kernel, by decide +kernel, by decide⟩
  | 18, hL => cases hL; exact ⟨xuk_d171_18, by decide +kernel, by decide +kernel, by decide⟩
  | 19, hL => cases hL; exact ⟨xuk_d171_19, by decide +kernel, by decide +kernel, by decide⟩
  | 20, hL => cases hL; exact ⟨xuk_d171_20, by decide +kernel, by decide +kernel, by decide⟩
  | 21, hL => cases hL; exact ⟨xuk_d171_21, by decide +kernel, by decide +kernel, by decide⟩
  | 22, hL => cases hL; exact ⟨xuk_d171_22, by decide +kernel, by decide +kernel, by decide⟩
  | 23, hL => cases hL; exact ⟨xuk_d171_23, by decide +kernel, by decide +kernel, by decide⟩
  | 24, hL => cases hL; exact ⟨xuk_d171_24, by decide +kernel, by decide +kernel, by decide⟩
  | 25, hL => cases hL; exact ⟨xuk_d171_25, by decide +kernel, by decide +kernel, by decide⟩
  | 26, hL => cases hL; exact ⟨xuk_d171_26, by decide +kernel, by decide +kernel, by decide⟩
  | 27, hL => cases hL; exact ⟨xuk_d171_27, by decide +kernel, by decide +kernel, by decide⟩
  | 28, hL => cases hL; exact ⟨xuk_d171_28, by decide +kernel, by decide +kernel, by decide⟩
  | 29, hL => cases hL; exact ⟨xuk_d171_29, by decide +kernel, by decide +kernel, by decide⟩
  | n + 30, hL => cases hL
end XYC
