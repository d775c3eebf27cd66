theorem xz_ne {a b : Nat} (h : a ≠ b) : Nat.beq a b = false := by
  cases e : Nat.beq a b with
  | true => exact absurd (rv_beq e) h
  | false => rfl
section XYC
variable {Gd : Nat → (xRes2 → Prop) → rvS → Prop} {Met : Nat → List rvV → rvH → (xRes2 → Prop) → Prop}
theorem xz_n0 (hc : xClo rvTab rvInf rvRet 316 rvMth Gd Met) (hcon : ∀ x, x < 51 → xCon Met (xCons x)) : xCon Met (154, xzP_n0, xzS_n0, xzO_n0.map (fun q => q.1), xzM_n0) := by
  refine xCtx_ok (d := 2) (X := 51) (con := xCons) (opt := xzOpt) (hp := xzHp) (hn := xHnt) (cutp := xzC_n0) (L := xzL_n0) hc hcon (j := 154) (na := 8) (n := 52) (fuel := 100000) (pre := xzP_n0) (src := xzS_n0) (os := xzO_n0) (ms := xzM_n0) (ws := xzW_n0) (t0 := xzTs_n0) (tp := xzTp_n0) (by omega) rfl rfl rfl (by decide +kernel) (by decide +kernel) (by decide +kernel) xzk_n0_s (fun ci Tm sr rk hL => ?_)
  match ci, hL with
  | 0, hL => cases hL; exact ⟨xzk_n0_0, by decide +kernel, by decide +kernel, by decide⟩
  | 1, hL => cases hL; exact ⟨xzk_n0_1, by decide +kernel, by decide +kernel, by decide⟩
  | 2, hL => cases hL; exact ⟨xzk_n0_2, by decide +kernel, by decide +kernel, by decide⟩
  | 3, hL => cases hL; exact ⟨xzk_n0_3, by decide +kernel, by decide +kernel, by decide⟩
  | 4, hL => cases hL; exact ⟨xzk_n0_4, by decide +kernel, by decide +kernel, by decide⟩
  | 5, hL => cases hL; exact ⟨xzk_n0_5, by decide +kernel, by decide +kernel, by decide⟩
  | 6, hL => cases hL; exact ⟨xzk_n0_6, by decide +kernel, by decide +kernel, by decide⟩
  | 7, hL => cases hL; exact ⟨xzk_n0_7, by decide +kernel, by decide +kernel, by decide⟩
  | 8, hL => cases hL; exact ⟨xzk_n0_8, by decide +kernel, by decide +kernel, by decide⟩
  | 9, hL => cases hL; exact ⟨xzk_n0_9, by decide +kernel, by decide +kernel, by decide⟩
  | 10, hL => cases hL; exact ⟨xzk_n0_10, by decide +kernel, by decide +kernel, by decide⟩
  | 11, hL => cases hL; exact ⟨xzk_n0_11, by decide +kernel, by decide +kernel, by decide⟩
  | 12, hL => cases hL; exact ⟨xzk_n0_12, by decide +kernel, by decide +kernel, by decide⟩
  | 13, hL => cases hL; exact ⟨xzk_n0_13, by decide +kernel, by decide +kernel, by decide⟩
  | 14, hL => cases hL; exact ⟨xzk_n0_14, by decide +kernel, by decide +kernel, by decide⟩
  | 15, hL => cases hL; exact ⟨xzk_n0_15, by decide +kernel, by decide +kernel, by decide⟩
  | 16, hL => cases hL; exact ⟨xzk_n0_16, by decide +kernel, by decide +kernel, by decide⟩
  | 17, hL => cases hL; exact ⟨xzk_n0_17, by decide +kernel, by decide +kernel, by decide⟩
  | 18, hL => cases hL; exact ⟨xzk_n0_18, by decide +kernel, by decide +kernel, by decide⟩
  | 19, hL => cases hL; exact ⟨xzk_n0_19, by decide +kernel, by decide +kernel, by decide⟩
  | 20, hL => cases hL; exact ⟨xzk_n0_20, by decide +kernel, by decide +kernel, by decide⟩
  | n + 21, hL => cases hL
theorem xc_51 (hc : xClo rvTab rvInf rvRet 316 rvMth Gd Met) (hcon0 : ∀ x, x < 51 → xCon Met (xCons x)) : xCon Met (xCons 51) := by
  have hcon51 : ∀ x, x < 51 → xCon Met (xCons x) := fun x hx => hcon0 x (by omega)
  have hcon : ∀ x, x < 52 → xCon Met (xzCon_51 x) := by
    intro x hx
    by_cases h : x < 51
    · have e : xzCon_51 x = xCons x := by
        unfold xzCon_51
        rw [xz_ne (by omega : x ≠ 51)]
        rfl
      rw [e]
      exact hcon0 x h
    by_cases h0 : x = 51
    · subst h0
      exact xz_n0 hc hcon51
    omega
  refine xCtx_ok (d := 2) (X := 52) (con := xzCon_51) (opt := xzOpt) (hp := xzHp) (hn := xHnt) (cutp := xzC_d51) (L := xzL_d51) hc hcon (j := 24) (na := 14) (n := 52) (fuel := 100000) (pre := xcP_51) (src := xcS_51) (os := xcO_51) (ms := xcM_51) (ws := xzW_d51) (t0 := xzTs_d51) (tp := xzTp_d51) (by omega) rfl rfl rfl (by decide +kernel) (by decide +kernel) (by decide +kernel) xzk_d51_s (fun ci Tm sr rk hL => ?_)
  match ci, hL with
  | 0, hL => cases hL; exact ⟨xzk_d51_0, by decide +kernel, by decide +kernel, by decide⟩
  | 1, hL => cases hL; exact ⟨xzk_d51_1, by decide +kernel, by decide +kernel, by decide⟩
  | 2, hL => cases hL; exact ⟨xzk_d51_2, by decide +kernel, by decide +kernel, by decide⟩
  | 3, hL => cases hL; exact ⟨xzk_d51_3, by decide +kernel, by decide +kernel, by decide⟩
  | 4, hL => cases hL; exact ⟨xzk_d51_4, by decide +kernel, by decide +kernel, by decide⟩
  | 5, hL => cases hL; exact ⟨xzk_d51_5, by decide +kernel, by decide +kernel, by decide⟩
  | 6, hL => cases hL; exact ⟨xzk_d51_6, by decide +kernel, by decide +kernel, by decide⟩
  | 7, hL => cases hL; exact ⟨xzk_d51_7, by decide +kernel, by decide +kernel, by decide⟩
  | 8, hL => cases hL; exact ⟨xzk_d51_8, by decide +kernel, by decide +kernel, by decide⟩
  | 9, hL => cases hL; exact ⟨xzk_d51_9, by decide +kernel, by decide +kernel, by decide⟩
  | 10, hL => cases hL; exact ⟨xzk_d51_10, by decide +kernel, by decide +kernel, by decide⟩
  | n + 11, hL => cases hL
end XYC
