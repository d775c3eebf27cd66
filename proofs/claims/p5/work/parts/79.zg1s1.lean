def f_X12_run (c : Int) (s : Int) : Nat → Int → hH → Int × hH
  | 0, a, H => (a, H)
  | k + 1, a, H =>
    if f_X12_isSmall (f_X12_peek H) = 0 then
      if f_X12_isDigit (f_X12_peek H) = 0 then
        (a, H)
      else
        if a = 0 then
          if H.1 29 13 < 7 then
            if H.1 29 13 < 3 then
              f_X12_run c s k 0 (upI (upI (upI (upL H 29 17 (((H.2.1 29 17) <<< ((Int32.ofInt 8).toInt64 &&& 63)) ||| ((Int32.ofInt (f_X12_peek H)).toInt64))) 29 14 (iSub (iAdd (iMul 10 (H.1 29 14)) (f_X12_peek H)) 48)) 29 13 (iAdd (H.1 29 13) 1)) 29 4 (iAdd (H.1 29 4) 1))
            else
              f_X12_run c s k 0 (upI (upI (upL H 29 17 (((H.2.1 29 17) <<< ((Int32.ofInt 8).toInt64 &&& 63)) ||| ((Int32.ofInt (f_X12_peek H)).toInt64))) 29 13 (iAdd (H.1 29 13) 1)) 29 4 (iAdd (H.1 29 4) 1))
          else
            if H.1 29 13 < 3 then
              f_X12_run c s k 0 (upI (upI (upI H 29 14 (iSub (iAdd (iMul 10 (H.1 29 14)) (f_X12_peek H)) 48)) 29 13 (iAdd (H.1 29 13) 1)) 29 4 (iAdd (H.1 29 4) 1))
            else
              f_X12_run c s k 0 (upI (upI H 29 13 (iAdd (H.1 29 13) 1)) 29 4 (iAdd (H.1 29 4) 1))
        else
          if f_X12_isSmall (f_X12_peek H) = s then
            if H.1 29 13 < 7 then
              if H.1 29 13 < 3 then
                f_X12_run c s k 1 (upI (upI (upI (upL H 29 17 (((H.2.1 29 17) <<< ((Int32.ofInt 8).toInt64 &&& 63)) ||| ((Int32.ofInt (f_X12_peek H)).toInt64))) 29 14 (iSub (iAdd (iMul 10 (H.1 29 14)) (f_X12_peek H)) 48)) 29 13 (iAdd (H.1 29 13) 1)) 29 4 (iAdd (H.1 29 4) 1))
              else
                f_X12_run c s k 1 (upI (upI (upL H 29 17 (((H.2.1 29 17) <<< ((Int32.ofInt 8).toInt64 &&& 63)) ||| ((Int32.ofInt (f_X12_peek H)).toInt64))) 29 13 (iAdd (H.1 29 13) 1)) 29 4 (iAdd (H.1 29 4) 1))
            else
              if H.1 29 13 < 3 then
                f_X12_run c s k 1 (upI (upI (upI H 29 14 (iSub (iAdd (iMul 10 (H.1 29 14)) (f_X12_peek H)) 48)) 29 13 (iAdd (H.1 29 13) 1)) 29 4 (iAdd (H.1 29 4) 1))
              else
                f_X12_run c s k 1 (upI (upI H 29 13 (iAdd (H.1 29 13) 1)) 29 4 (iAdd (H.1 29 4) 1))
          else
            if H.1 29 13 < 7 then
              if H.1 29 13 < 3 then
                f_X12_run c s k 0 (upI (upI (upI (upL H 29 17 (((H.2.1 29 17) <<< ((Int32.ofInt 8).toInt64 &&& 63)) ||| ((Int32.ofInt (f_X12_peek H)).toInt64))) 29 14 (iSub (iAdd (iMul 10 (H.1 29 14)) (f_X12_peek H)) 48)) 29 13 (iAdd (H.1 29 13) 1)) 29 4 (iAdd (H.1 29 4) 1))
              else
                f_X12_run c s k 0 (upI (upI (upL H 29 17 (((H.2.1 29 17) <<< ((Int32.ofInt 8).toInt64 &&& 63)) ||| ((Int32.ofInt (f_X12_peek H)).toInt64))) 29 13 (iAdd (H.1 29 13) 1)) 29 4 (iAdd (H.1 29 4) 1))
            else
              if H.1 29 13 < 3 then
                f_X12_run c s k 0 (upI (upI (upI H 29 14 (iSub (iAdd (iMul 10 (H.1 29 14)) (f_X12_peek H)) 48)) 29 13 (iAdd (H.1 29 13) 1)) 29 4 (iAdd (H.1 29 4) 1))
              else
                f_X12_run c s k 0 (upI (upI H 29 13 (iAdd (H.1 29 13) 1)) 29 4 (iAdd (H.1 29 4) 1))
    else
      if a = 0 then
        if H.1 29 13 < 7 then
          if H.1 29 13 < 3 then
            f_X12_run c s k 0 (upI (upI (upI (upL H 29 17 (((H.2.1 29 17) <<< ((Int32.ofInt 8).toInt64 &&& 63)) ||| ((Int32.ofInt (f_X12_peek H)).toInt64))) 29 14 (iSub (iAdd (iMul 10 (H.1 29 14)) (f_X12_peek H)) 48)) 29 13 (iAdd (H.1 29 13) 1)) 29 4 (iAdd (H.1 29 4) 1))
          else
            f_X12_run c s k 0 (upI (upI (upL H 29 17 (((H.2.1 29 17) <<< ((Int32.ofInt 8).toInt64 &&& 63)) ||| ((Int32.ofInt (f_X12_peek H)).toInt64))) 29 13 (iAdd (H.1 29 13) 1)) 29 4 (iAdd (H.1 29 4) 1))
        else
          if H.1 29 13 < 3 then
            f_X12_run c s k 0 (upI (upI (upI H 29 14 (iSub (iAdd (iMul 10 (H.1 29 14)) (f_X12_peek H)) 48)) 29 13 (iAdd (H.1 29 13) 1)) 29 4 (iAdd (H.1 29 4) 1))
          else
            f_X12_run c s k 0 (upI (upI H 29 13 (iAdd (H.1 29 13) 1)) 29 4 (iAdd (H.1 29 4) 1))
      else
        if f_X12_isSmall (f_X12_peek H) = s then
          if H.1 29 13 < 7 then
            if H.1 29 13 < 3 then
              f_X12_run c s k 1 (upI (upI (upI (upL H 29 17 (((H.2.1 29 17) <<< ((Int32.ofInt 8).toInt64 &&& 63)) ||| ((Int32.ofInt (f_X12_peek H)).toInt64))) 29 14 (iSub (iAdd (iMul 10 (H.1 29 14)) (f_X12_peek H)) 48)) 29 13 (iAdd (H.1 29 13) 1)) 29 4 (iAdd (H.1 29 4) 1))
            else
              f_X12_run c s k 1 (upI (upI (upL H 29 17 (((H.2.1 29 17) <<< ((Int32.ofInt 8).toInt64 &&& 63)) ||| ((Int32.ofInt (f_X12_peek H)).toInt64))) 29 13 (iAdd (H.1 29 13) 1)) 29 4 (iAdd (H.1 29 4) 1))
          else
            if H.1 29 13 < 3 then
              f_X12_run c s k 1 (upI (upI (upI H 29 14 (iSub (iAdd (iMul 10 (H.1 29 14)) (f_X12_peek H)) 48)) 29 13 (iAdd (H.1 29 13) 1)) 29 4 (iAdd (H.1 29 4) 1))
            else
              f_X12_run c s k 1 (upI (upI H 29 13 (iAdd (H.1 29 13) 1)) 29 4 (iAdd (H.1 29 4) 1))
        else
          if H.1 29 13 < 7 then
            if H.1 29 13 < 3 then
              f_X12_run c s k 0 (upI (upI (upI (upL H 29 17 (((H.2.1 29 17) <<< ((Int32.ofInt 8).toInt64 &&& 63)) ||| ((Int32.ofInt (f_X12_peek H)).toInt64))) 29 14 (iSub (iAdd (iMul 10 (H.1 29 14)) (f_X12_peek H)) 48)) 29 13 (iAdd (H.1 29 13) 1)) 29 4 (iAdd (H.1 29 4) 1))
            else
              f_X12_run c s k 0 (upI (upI (upL H 29 17 (((H.2.1 29 17) <<< ((Int32.ofInt 8).toInt64 &&& 63)) ||| ((Int32.ofInt (f_X12_peek H)).toInt64))) 29 13 (iAdd (H.1 29 13) 1)) 29 4 (iAdd (H.1 29 4) 1))
          else
            if H.1 29 13 < 3 then
              f_X12_run c s k 0 (upI (upI (upI H 29 14 (iSub (iAdd (iMul 10 (H.1 29 14)) (f_X12_peek H)) 48)) 29 13 (iAdd (H.1 29 13) 1)) 29 4 (iAdd (H.1 29 4) 1))
            else
              f_X12_run c s k 0 (upI (upI H 29 13 (iAdd (H.1 29 13) 1)) 29 4 (iAdd (H.1 29 4) 1))
set_option maxHeartbeats 16000000 in
set_option maxRecDepth 100000 in
theorem lp_X12_run {g : Nat → Nat} {Post : xRes2 → Prop} (c : Int) (s : Int) : ∀ (k : Nat) (a : Int) (H : hH), RM H.2.2.1 → H.1 29 3 ≤ 2147483647 → (H.1 29 3 - H.1 29 4).toNat ≤ k → (J g rvTab rvInf rvRet 316 rvMth 18 Post 298 [rf (g 29), pt c, pt s, pt ((f_X12_run c s k a H).1)] [] (f_X12_run c s k a H).2) → J g rvTab rvInf rvRet 316 rvMth 18 Post 181 [rf (g 29), pt c, pt s, pt a] [] H := by
  intro k
  induction k with
  | zero =>
    intro a H hr hv hm hx
    have hj : 18 < 316 := by decide
    refine J_ld 182 jw hj rfl rfl rfl rfl ?_
    refine J_callV1 jw rfl (Or.inl ⟨_, rfl⟩) rfl rfl (sp_X12_peek (g := g) H hr) ?_
    refine J_callS1 jw rfl rfl rfl rfl (sp_X12_isSmall (g := g) (f_X12_peek H) H) ?_
    refine J_ifc (t := 201) jw hj rfl (evn rfl) rfl (fun (h0 : ¬ f_X12_isSmall (f_X12_peek H) = 0) => ?_) (fun (h0 : f_X12_isSmall (f_X12_peek H) = 0) => ?_)
    · exfalso; first | (have := nxp_ge (H := H) (sm_ne (c := f_X12_peek H) (by assumption)); omega) | (have := nxp_ge (H := H) (dg_ne (c := f_X12_peek H) (by assumption)); omega)
    · refine J_ld 192 jw hj rfl rfl rfl rfl ?_
      refine J_callV1 jw rfl (Or.inl ⟨_, rfl⟩) rfl rfl (sp_X12_peek (g := g) H hr) ?_
      refine J_callS1 jw rfl rfl rfl rfl (sp_X12_isDigit (g := g) (f_X12_peek H) H) ?_
      refine J_ifc (t := 298) jw hj rfl (evn rfl) rfl (fun (h1 : f_X12_isDigit (f_X12_peek H) = 0) => ?_) (fun (h1 : ¬ f_X12_isDigit (f_X12_peek H) = 0) => ?_)
      · exact hx
      · exfalso; first | (have := nxp_ge (H := H) (sm_ne (c := f_X12_peek H) (by assumption)); omega) | (have := nxp_ge (H := H) (dg_ne (c := f_X12_peek H) (by assumption)); omega)
  | succ k ih =>
    intro a H hr hv hm hx
    have hj : 18 < 316 := by decide
    refine J_ld 182 jw hj rfl rfl rfl rfl ?_
    refine J_callV1 jw rfl (Or.inl ⟨_, rfl⟩) rfl rfl (sp_X12_peek (g := g) H hr) ?_
    refine J_callS1 jw rfl rfl rfl rfl (sp_X12_isSmall (g := g) (f_X12_peek H) H) ?_
    refine J_ifc (t := 201) jw hj rfl (evn rfl) rfl (fun (h0 : ¬ f_X12_isSmall (f_X12_peek H) = 0) => ?_) (fun (h0 : f_X12_isSmall (f_X12_peek H) = 0) => ?_)
    · refine J_ld 202 jw hj rfl rfl rfl rfl ?_
      refine J_ifc (t := 220) jw hj rfl (evn rfl) rfl (fun (h1 : a = 0) => ?_) (fun (h1 : ¬ a = 0) => ?_)
      · refine J_cst 221 jw hj rfl rfl rfl ?_
        refine J_st 222 [rf (g 29), pt c, pt s, pt 0] (k := 3) jw hj rfl (Or.inr (Or.inr (Or.inl ⟨_, rfl, rfl, rfl⟩))) rfl ?_
        refine J_ld 223 jw hj rfl rfl rfl rfl ?_
        refine J_gfI jw hj rfl (evn rfl) (by decide) rfl (fun r0 => ?_)
        refine J_cst 228 jw hj rfl rfl rfl ?_
        refine J_icmp (t := 248) jw hj rfl (evn rfl) rfl (fun (h2 : ¬ H.1 29 13 < 7) => ?_) (fun (h2 : H.1 29 13 < 7) => ?_)
        · refine J_ld 249 jw hj rfl rfl rfl rfl ?_
          refine J_gfI jw hj rfl (evn rfl) (by decide) rfl (fun r1 => ?_)
          refine J_cst 253 jw hj rfl rfl rfl ?_
          refine J_icmp (t := 275) jw hj rfl (evn rfl) rfl (fun (h3 : ¬ H.1 29 13 < 3) => ?_) (fun (h3 : H.1 29 13 < 3) => ?_)
          · refine J_ld 276 jw hj rfl rfl rfl rfl ?_
            refine J_dup 277 jw hj rfl rfl ?_
            refine J_gfI jw hj rfl (evn rfl) (by decide) rfl (fun r2 => ?_)
            refine J_cst 281 jw hj rfl rfl rfl ?_
            refine J_bin jw hj rfl rfl ?_
            refine J_pfI jw hj rfl (evn rfl) rfl ?_
            refine J_ld 286 jw hj rfl rfl rfl rfl ?_
            refine J_dup 287 jw hj rfl rfl ?_
            refine J_gfI jw hj rfl (evn rfl) (by decide) rfl (fun r3 => ?_)
            refine J_cst 291 jw hj rfl rfl rfl ?_
            refine J_bin jw hj rfl rfl ?_
            refine J_pfI jw hj rfl (evn rfl) rfl ?_
            refine J_goto 181 jw hj rfl rfl ?_
            have e : f_X12_run c s (k + 1) a H = f_X12_run c s k 0 (upI (upI H 29 13 (iAdd (H.1 29 13) 1)) 29 4 (iAdd (H.1 29 4) 1)) := by
              rw [f_X12_run]
              rw [if_neg h0, if_pos h1, if_neg h2, if_neg h3]
            rw [e] at hx
            exact ih 0 (upI (upI H 29 13 (iAdd (H.1 29 13) 1)) 29 4 (iAdd (H.1 29 4) 1)) hr hv (by first | exact mpM hv r3 (nxp_ge (sm_ne (c := f_X12_peek H) (by assumption))) hm | exact mpM hv r3 (nxp_ge (dg_ne (c := f_X12_peek H) (by assumption))) hm) hx
          · refine J_ld 257 jw hj rfl rfl rfl rfl ?_
            refine J_cst 259 jw hj rfl rfl rfl ?_
            refine J_ld 260 jw hj rfl rfl rfl rfl ?_
            refine J_gfI jw hj rfl (evn rfl) (by decide) rfl (fun r4 => ?_)
            refine J_bin jw hj rfl rfl ?_
            refine J_ld 265 jw hj rfl rfl rfl rfl ?_
            refine J_callV1 jw rfl (Or.inl ⟨_, rfl⟩) rfl rfl (sp_X12_peek (g := g) H hr) ?_
            refine J_bin jw hj rfl rfl ?_
            refine J_cst 271 jw hj rfl rfl rfl ?_
            refine J_bin jw hj rfl rfl ?_
            refine J_pfI jw hj rfl (evn rfl) rfl ?_
            refine J_ld 276 jw hj rfl rfl rfl rfl ?_
            refine J_dup 277 jw hj rfl rfl ?_
            refine J_gfI jw hj rfl (evn rfl) (by decide) rfl (fun r5 => ?_)
            refine J_cst 281 jw hj rfl rfl rfl ?_
            refine J_bin jw hj rfl rfl ?_
            refine J_pfI jw hj rfl (evn rfl) rfl ?_
            refine J_ld 286 jw hj rfl rfl rfl rfl ?_
            refine J_dup 287 jw hj rfl rfl ?_
            refine J_gfI jw hj rfl (evn rfl) (by decide) rfl (fun r6 => ?_)
            refine J_cst 291 jw hj rfl rfl rfl ?_
            refine J_bin jw hj rfl rfl ?_
            refine J_pfI jw hj rfl (evn rfl) rfl ?_
            refine J_goto 181 jw hj rfl rfl ?_
            have e : f_X12_run c s (k + 1) a H = f_X12_run c s k 0 (upI (upI (upI H 29 14 (iSub (iAdd (iMul 10 (H.1 29 14)) (f_X12_peek H)) 48)) 29 13 (iAdd (H.1 29 13) 1)) 29 4 (iAdd (H.1 29 4) 1)) := by
              rw [f_X12_run]
              rw [if_neg h0, if_pos h1, if_neg h2, if_pos h3]
            rw [e] at hx
            exact ih 0 (upI (upI (upI H 29 14 (iSub (iAdd (iMul 10 (H.1 29 14)) (f_X12_peek H)) 48)) 29 13 (iAdd (H.1 29 13) 1)) 29 4 (iAdd (H.1 29 4) 1)) hr hv (by first | exact mpM hv r6 (nxp_ge (sm_ne (c := f_X12_peek H) (by assumption))) hm | exact mpM hv r6 (nxp_ge (dg_ne (c := f_X12_peek H) (by assumption))) hm) hx
        · refine J_ld 232 jw hj rfl rfl rfl rfl ?_
          refine J_ld 233 jw hj rfl rfl rfl rfl ?_
          refine J_gfL jw hj rfl (evn rfl) (by decide) rfl ?_
          refine J_cst 238 jw hj rfl rfl rfl ?_
          refine J_lshl jw hj rfl (evn rfl) ?_
          refine J_ld 240 jw hj rfl rfl rfl rfl ?_
          refine J_callV1 jw rfl (Or.inl ⟨_, rfl⟩) rfl rfl (sp_X12_peek (g := g) H hr) ?_
          refine J_i2l jw hj rfl (evn rfl) ?_
          refine J_lb jw hj rfl (Or.inl ⟨rfl, rfl⟩) ?_
          refine J_pfL jw hj rfl (evn rfl) rfl ?_
          refine J_ld 249 jw hj rfl rfl rfl rfl ?_
          refine J_gfI jw hj rfl (evn rfl) (by decide) rfl (fun r7 => ?_)
          refine J_cst 253 jw hj rfl rfl rfl ?_
          refine J_icmp (t := 275) jw hj rfl (evn rfl) rfl (fun (h4 : ¬ H.1 29 13 < 3) => ?_) (fun (h4 : H.1 29 13 < 3) => ?_)
          · refine J_ld 276 jw hj rfl rfl rfl rfl ?_
            refine J_dup 277 jw hj rfl rfl ?_
            refine J_gfI jw hj rfl (evn rfl) (by decide) rfl (fun r8 => ?_)
            refine J_cst 281 jw hj rfl rfl rfl ?_
            refine J_bin jw hj rfl rfl ?_
            refine J_pfI jw hj rfl (evn rfl) rfl ?_
            refine J_ld 286 jw hj rfl rfl rfl rfl ?_
            refine J_dup 287 jw hj rfl rfl ?_
            refine J_gfI jw hj rfl (evn rfl) (by decide) rfl (fun r9 => ?_)
            refine J_cst 291 jw hj rfl rfl rfl ?_
            refine J_bin jw hj rfl rfl ?_
            refine J_pfI jw hj rfl (evn rfl) rfl ?_
            refine J_goto 181 jw hj rfl rfl ?_
            have e : f_X12_run c s (k + 1) a H = f_X12_run c s k 0 (upI (upI (upL H 29 17 (((H.2.1 29 17) <<< ((Int32.ofInt 8).toInt64 &&& 63)) ||| ((Int32.ofInt (f_X12_peek H)).toInt64))) 29 13 (iAdd (H.1 29 13) 1)) 29 4 (iAdd (H.1 29 4) 1)) := by
              rw [f_X12_run]
              rw [if_neg h0, if_pos h1, if_pos h2, if_neg h4]
            rw [e] at hx
            exact ih 0 (upI (upI (upL H 29 17 (((H.2.1 29 17) <<< ((Int32.ofInt 8).toInt64 &&& 63)) ||| ((Int32.ofInt (f_X12_peek H)).toInt64))) 29 13 (iAdd (H.1 29 13) 1)) 29 4 (iAdd (H.1 29 4) 1)) hr hv (by first | exact mpM hv r9 (nxp_ge (sm_ne (c := f_X12_peek H) (by assumption))) hm | exact mpM hv r9 (nxp_ge (dg_ne (c := f_X12_peek H) (by assumption))) hm) hx
          · refine J_ld 257 jw hj rfl rfl rfl rfl ?_
            refine J_cst 259 jw hj rfl rfl rfl ?_
            refine J_ld 260 jw hj rfl rfl rfl rfl ?_
            refine J_gfI jw hj rfl (evn rfl) (by decide) rfl (fun r10 => ?_)
            refine J_bin jw hj rfl rfl ?_
            refine J_ld 265 jw hj rfl rfl rfl rfl ?_
            refine J_callV1 jw rfl (Or.inl ⟨_, rfl⟩) rfl rfl (sp_X12_peek (g := g) (upL H 29 17 (((H.2.1 29 17) <<< ((Int32.ofInt 8).toInt64 &&& 63)) ||| ((Int32.ofInt (f_X12_peek H)).toInt64))) hr) ?_
            refine J_bin jw hj rfl rfl ?_
            refine J_cst 271 jw hj rfl rfl rfl ?_
            refine J_bin jw hj rfl rfl ?_
            refine J_pfI jw hj rfl (evn rfl) rfl ?_
            refine J_ld 276 jw hj rfl rfl rfl rfl ?_
            refine J_dup 277 jw hj rfl rfl ?_
            refine J_gfI jw hj rfl (evn rfl) (by decide) rfl (fun r11 => ?_)
            refine J_cst 281 jw hj rfl rfl rfl ?_
            refine J_bin jw hj rfl rfl ?_
            refine J_pfI jw hj rfl (evn rfl) rfl ?_
            refine J_ld 286 jw hj rfl rfl rfl rfl ?_
            refine J_dup 287 jw hj rfl rfl ?_
            refine J_gfI jw hj rfl (evn rfl) (by decide) rfl (fun r12 => ?_)
            refine J_cst 291 jw hj rfl rfl rfl ?_
            refine J_bin jw hj rfl rfl ?_
            refine J_pfI jw hj rfl (evn rfl) rfl ?_
            refine J_goto 181 jw hj rfl rfl ?_
            have e : f_X12_run c s (k + 1) a H = f_X12_run c s k 0 (upI (upI (upI (upL H 29 17 (((H.2.1 29 17) <<< ((Int32.ofInt 8).toInt64 &&& 63)) ||| ((Int32.ofInt (f_X12_peek H)).toInt64))) 29 14 (iSub (iAdd (iMul 10 (H.1 29 14)) (f_X12_peek H)) 48)) 29 13 (iAdd (H.1 29 13) 1)) 29 4 (iAdd (H.1 29 4) 1)) := by
              rw [f_X12_run]
              rw [if_neg h0, if_pos h1, if_pos h2, if_pos h4]
            rw [e] at hx
            exact ih 0 (upI (upI (upI (upL H 29 17 (((H.2.1 29 17) <<< ((Int32.ofInt 8).toInt64 &&& 63)) ||| ((Int32.ofInt (f_X12_peek H)).toInt64))) 29 14 (iSub (iAdd (iMul 10 (H.1 29 14)) (f_X12_peek H)) 48)) 29 13 (iAdd (H.1 29 13) 1)) 29 4 (iAdd (H.1 29 4) 1)) hr hv (by first | exact mpM hv r12 (nxp_ge (sm_ne (c := f_X12_peek H) (by assumption))) hm | exact mpM hv r12 (nxp_ge (dg_ne (c := f_X12_peek H) (by assumption))) hm) hx
      · refine J_ld 206 jw hj rfl rfl rfl rfl ?_
        refine J_callV1 jw rfl (Or.inl ⟨_, rfl⟩) rfl rfl (sp_X12_peek (g := g) H hr) ?_
        refine J_callS1 jw rfl rfl rfl rfl (sp_X12_isSmall (g := g) (f_X12_peek H) H) ?_
        refine J_ld 213 jw hj rfl rfl rfl rfl ?_
        refine J_icmp (t := 220) jw hj rfl (evn rfl) rfl (fun (h5 : ¬ f_X12_isSmall (f_X12_peek H) = s) => ?_) (fun (h5 : f_X12_isSmall (f_X12_peek H) = s) => ?_)
        · refine J_cst 221 jw hj rfl rfl rfl ?_
          refine J_st 222 [rf (g 29), pt c, pt s, pt 0] (k := 3) jw hj rfl (Or.inr (Or.inr (Or.inl ⟨_, rfl, rfl, rfl⟩))) rfl ?_
          refine J_ld 223 jw hj rfl rfl rfl rfl ?_
          refine J_gfI jw hj rfl (evn rfl) (by decide) rfl (fun r13 => ?_)
          refine J_cst 228 jw hj rfl rfl rfl ?_
          refine J_icmp (t := 248) jw hj rfl (evn rfl) rfl (fun (h6 : ¬ H.1 29 13 < 7) => ?_) (fun (h6 : H.1 29 13 < 7) => ?_)
          · refine J_ld 249 jw hj rfl rfl rfl rfl ?_
            refine J_gfI jw hj rfl (evn rfl) (by decide) rfl (fun r14 => ?_)
            refine J_cst 253 jw hj rfl rfl rfl ?_
            refine J_icmp (t := 275) jw hj rfl (evn rfl) rfl (fun (h7 : ¬ H.1 29 13 < 3) => ?_) (fun (h7 : H.1 29 13 < 3) => ?_)
            · refine J_ld 276 jw hj rfl rfl rfl rfl ?_
              refine J_dup 277 jw hj rfl rfl ?_
              refine J_gfI jw hj rfl (evn rfl) (by decide) rfl (fun r15 => ?_)
              refine J_cst 281 jw hj rfl rfl rfl ?_
              refine J_bin jw hj rfl rfl ?_
              refine J_pfI jw hj rfl (evn rfl) rfl ?_
              refine J_ld 286 jw hj rfl rfl rfl rfl ?_
              refine J_dup 287 jw hj rfl rfl ?_
              refine J_gfI jw hj rfl (evn rfl) (by decide) rfl (fun r16 => ?_)
              refine J_cst 291 jw hj rfl rfl rfl ?_
              refine J_bin jw hj rfl rfl ?_
              refine J_pfI jw hj rfl (evn rfl) rfl ?_
              refine J_goto 181 jw hj rfl rfl ?_
              have e : f_X12_run c s (k + 1) a H = f_X12_run c s k 0 (upI (upI H 29 13 (iAdd (H.1 29 13) 1)) 29 4 (iAdd (H.1 29 4) 1)) := by
                rw [f_X12_run]
                rw [if_neg h0, if_neg h1, if_neg h5, if_neg h6, if_neg h7]
              rw [e] at hx
              exact ih 0 (upI (upI H 29 13 (iAdd (H.1 29 13) 1)) 29 4 (iAdd (H.1 29 4) 1)) hr hv (by first | exact mpM hv r16 (nxp_ge (sm_ne (c := f_X12_peek H) (by assumption))) hm | exact mpM hv r16 (nxp_ge (dg_ne (c := f_X12_peek H) (by assumption))) hm) hx
            · refine J_ld 257 jw hj rfl rfl rfl rfl ?_
              refine J_cst 259 jw hj rfl rfl rfl ?_
              refine J_ld 260 jw hj rfl rfl rfl rfl ?_
              refine J_gfI jw hj rfl (evn rfl) (by decide) rfl (fun r17 => ?_)
              refine J_bin jw hj rfl rfl ?_
              refine J_ld 265 jw hj rfl rfl rfl rfl ?_
              refine J_callV1 jw rfl (Or.inl ⟨_, rfl⟩) rfl rfl (sp_X12_peek (g := g) H hr) ?_
              refine J_bin jw hj rfl rfl ?_
              refine J_cst 271 jw hj rfl rfl rfl ?_
              refine J_bin jw hj rfl rfl ?_
              refine J_pfI jw hj rfl (evn rfl) rfl ?_
              refine J_ld 276 jw hj rfl rfl rfl rfl ?_
              refine J_dup 277 jw hj rfl rfl ?_
              refine J_gfI jw hj rfl (evn rfl) (by decide) rfl (fun r18 => ?_)
              refine J_cst 281 jw hj rfl rfl rfl ?_
              refine J_bin jw hj rfl rfl ?_
              refine J_pfI jw hj rfl (evn rfl) rfl ?_
              refine J_ld 286 jw hj rfl rfl rfl rfl ?_
              refine J_dup 287 jw hj rfl rfl ?_
              refine J_gfI jw hj rfl (evn rfl) (by decide) rfl (fun r19 => ?_)
              refine J_cst 291 jw hj rfl rfl rfl ?_
              refine J_bin jw hj rfl rfl ?_
              refine J_pfI jw hj rfl (evn rfl) rfl ?_
              refine J_goto 181 jw hj rfl rfl ?_
              have e : f_X12_run c s (k + 1) a H = f_X12_run c s k 0 (upI (upI (upI H 29 14 (iSub (iAdd (iMul 10 (H.1 29 14)) (f_X12_peek H)) 48)) 29 13 (iAdd (H.1 29 13) 1)) 29 4 (iAdd (H.1 29 4) 1)) := by
                rw [f_X12_run]
                rw [if_neg h0, if_neg h1, if_neg h5, if_neg h6, if_pos h7]
              rw [e] at hx
              exact ih 0 (upI (upI (upI H 29 14 (iSub (iAdd (iMul 10 (H.1 29 14)) (f_X12_peek H)) 48)) 29 13 (iAdd (H.1 29 13) 1)) 29 4 (iAdd (H.1 29 4) 1)) hr hv (by first | exact mpM hv r19 (nxp_ge (sm_ne (c := f_X12_peek H) (by assumption))) hm | exact mpM hv r19 (nxp_ge (dg_ne (c := f_X12_peek H) (by assumption))) hm) hx
          · refine J_ld 232 jw hj rfl rfl rfl rfl ?_
            refine J_ld 233 jw hj rfl rfl rfl rfl ?_
            refine J_gfL jw hj rfl (evn rfl) (by decide) rfl ?_
            refine J_cst 238 jw hj rfl rfl rfl ?_
            refine J_lshl jw hj rfl (evn rfl) ?_
            refine J_ld 240 jw hj rfl rfl rfl rfl ?_
            refine J_callV1 jw rfl (Or.inl ⟨_, rfl⟩) rfl rfl (sp_X12_peek (g := g) H hr) ?_
            refine J_i2l jw hj rfl (evn rfl) ?_
            refine J_lb jw hj rfl (Or.inl ⟨rfl, rfl⟩) ?_
            refine J_pfL jw hj rfl (evn rfl) rfl ?_
            refine J_ld 249 jw hj rfl rfl rfl rfl ?_
            refine J_gfI jw hj rfl (evn rfl) (by decide) rfl (fun r20 => ?_)
            refine J_cst 253 jw hj rfl rfl rfl ?_
            refine J_icmp (t := 275) jw hj rfl (evn rfl) rfl (fun (h8 : ¬ H.1 29 13 < 3) => ?_) (fun (h8 : H.1 29 13 < 3) => ?_)
            · refine J_ld 276 jw hj rfl rfl rfl rfl ?_
              refine J_dup 277 jw hj rfl rfl ?_
              refine J_gfI jw hj rfl (evn rfl) (by decide) rfl (fun r21 => ?_)
              refine J_cst 281 jw hj rfl rfl rfl ?_
              refine J_bin jw hj rfl rfl ?_
              refine J_pfI jw hj rfl (evn rfl) rfl ?_
              refine J_ld 286 jw hj rfl rfl rfl rfl ?_
              refine J_dup 287 jw hj rfl rfl ?_
              refine J_gfI jw hj rfl (evn rfl) (by decide) rfl (fun r22 => ?_)
              refine J_cst 291 jw hj rfl rfl rfl ?_
              refine J_bin jw hj rfl rfl ?_
              refine J_pfI jw hj rfl (evn rfl) rfl ?_
              refine J_goto 181 jw hj rfl rfl ?_
              have e : f_X12_run c s (k + 1) a H = f_X12_run c s k 0 (upI (upI (upL H 29 17 (((H.2.1 29 17) <<< ((Int32.ofInt 8).toInt64 &&& 63)) ||| ((Int32.ofInt (f_X12_peek H)).toInt64))) 29 13 (iAdd (H.1 29 13) 1)) 29 4 (iAdd (H.1 29 4) 1)) := by
                rw [f_X12_run]
                rw [if_neg h0, if_neg h1, if_neg h5, if_pos h6, if_neg h8]
              rw [e] at hx
              exact ih 0 (upI (upI (upL H 29 17 (((H.2.1 29 17) <<< ((Int32.ofInt 8).toInt64 &&& 63)) ||| ((Int32.ofInt (f_X12_peek H)).toInt64))) 29 13 (iAdd (H.1 29 13) 1)) 29 4 (iAdd (H.1 29 4) 1)) hr hv (by first | exact mpM hv r22 (nxp_ge (sm_ne (c := f_X12_peek H) (by assumption))) hm | exact mpM hv r22 (nxp_ge (dg_ne (c := f_X12_peek H) (by assumption))) hm) hx
            · refine J_ld 257 jw hj rfl rfl rfl rfl ?_
              refine J_cst 259 jw hj rfl rfl rfl ?_
              refine J_ld 260 jw hj rfl rfl rfl rfl ?_
              refine J_gfI jw hj rfl (evn rfl) (by decide) rfl (fun r23 => ?_)
              refine J_bin jw hj rfl rfl ?_
              refine J_ld 265 jw hj rfl rfl rfl rfl ?_
              refine J_callV1 jw rfl (Or.inl ⟨_, rfl⟩) rfl rfl (sp_X12_peek (g := g) (upL H 29 17 (((H.2.1 29 17) <<< ((Int32.ofInt 8).toInt64 &&& 63)) ||| ((Int32.ofInt (f_X12_peek H)).toInt64))) hr) ?_
              refine J_bin jw hj rfl rfl ?_
              refine J_cst 271 jw hj rfl rfl rfl ?_
              refine J_bin jw hj rfl rfl ?_
              refine J_pfI jw hj rfl (evn rfl) rfl ?_
              refine J_ld 276 jw hj rfl rfl rfl rfl ?_
              refine J_dup 277 jw hj rfl rfl ?_
              refine J_gfI jw hj rfl (evn rfl) (by decide) rfl (fun r24 => ?_)
              refine J_cst 281 jw hj rfl rfl rfl ?_
              refine J_bin jw hj rfl rfl ?_
              refine J_pfI jw hj rfl (evn rfl) rfl ?_
              refine J_ld 286 jw hj rfl rfl rfl rfl ?_
              refine J_dup 287 jw hj rfl rfl ?_
              refine J_gfI jw hj rfl (evn rfl) (by decide) rfl (fun r25 => ?_)
              refine J_cst 291 jw hj rfl rfl rfl ?_
              refine J_bin jw hj rfl rfl ?_
              refine J_pfI jw hj rfl (evn rfl) rfl ?_
              refine J_goto 181 jw hj rfl rfl ?_
              have e : f_X12_run c s (k + 1) a H = f_X12_run c s k 0 (upI (upI (upI (upL H 29 17 (((H.2.1 29 17) <<< ((Int32.ofInt 8).toInt64 &&& 63)) ||| ((Int32.ofInt (f_X12_peek H)).toInt64))) 29 14 (iSub (iAdd (iMul 10 (H.1 29 14)) (f_X12_peek H)) 48)) 29 13 (iAdd (H.1 29 13) 1)) 29 4 (iAdd (H.1 29 4) 1)) := by
                rw [f_X12_run]
                rw [if_neg h0, if_neg h1, if_neg h5, if_pos h6, if_pos h8]
              rw [e] at hx
              exact ih 0 (upI (upI (upI (upL H 29 17 (((H.2.1 29 17) <<< ((Int32.ofInt 8).toInt64 &&& 63)) ||| ((Int32.ofInt (f_X12_peek H)).toInt64))) 29 14 (iSub (iAdd (iMul 10 (H.1 29 14)) (f_X12_peek H)) 48)) 29 13 (iAdd (H.1 29 13) 1)) 29 4 (iAdd (H.1 29 4) 1)) hr hv (by first | exact mpM hv r25 (nxp_ge (sm_ne (c := f_X12_peek H) (by assumption))) hm | exact mpM hv r25 (nxp_ge (dg_ne (c := f_X12_peek H) (by assumption))) hm) hx
        · refine J_cst 217 jw hj rfl rfl rfl ?_
          refine J_goto 221 jw hj rfl rfl ?_
          refine J_st 222 [rf (g 29), pt c, pt s, pt 1] (k := 3) jw hj rfl (Or.inr (Or.inr (Or.inl ⟨_, rfl, rfl, rfl⟩))) rfl ?_
          refine J_ld 223 jw hj rfl rfl rfl rfl ?_
          refine J_gfI jw hj rfl (evn rfl) (by decide) rfl (fun r26 => ?_)
          refine J_cst 228 jw hj rfl rfl rfl ?_
          refine J_icmp (t := 248) jw hj rfl (evn rfl) rfl (fun (h9 : ¬ H.1 29 13 < 7) => ?_) (fun (h9 : H.1 29 13 < 7) => ?_)
          · refine J_ld 249 jw hj rfl rfl rfl rfl ?_
            refine J_gfI jw hj rfl (evn rfl) (by decide) rfl (fun r27 => ?_)
            refine J_cst 253 jw hj rfl rfl rfl ?_
            refine J_icmp (t := 275) jw hj rfl (evn rfl) rfl (fun (h10 : ¬ H.1 29 13 < 3) => ?_) (fun (h10 : H.1 29 13 < 3) => ?_)
            · refine J_ld 276 jw hj rfl rfl rfl rfl ?_
              refine J_dup 277 jw hj rfl rfl ?_
              refine J_gfI jw hj rfl (evn rfl) (by decide) rfl (fun r28 => ?_)
              refine J_cst 281 jw hj rfl rfl rfl ?_
              refine J_bin jw hj rfl rfl ?_
              refine J_pfI jw hj rfl (evn rfl) rfl ?_
              refine J_ld 286 jw hj rfl rfl rfl rfl ?_
              refine J_dup 287 jw hj rfl rfl ?_
              refine J_gfI jw hj rfl (evn rfl) (by decide) rfl (fun r29 => ?_)
              refine J_cst 291 jw hj rfl rfl rfl ?_
              refine J_bin jw hj rfl rfl ?_
              refine J_pfI jw hj rfl (evn rfl) rfl ?_
              refine J_goto 181 jw hj rfl rfl ?_
              have e : f_X12_run c s (k + 1) a H = f_X12_run c s k 1 (upI (upI H 29 13 (iAdd (H.1 29 13) 1)) 29 4 (iAdd (H.1 29 4) 1)) := by
                rw [f_X12_run]
                rw [if_neg h0, if_neg h1, if_pos h5, if_neg h9, if_neg h10]
              rw [e] at hx
              exact ih 1 (upI (upI H 29 13 (iAdd (H.1 29 13) 1)) 29 4 (iAdd (H.1 29 4) 1)) hr hv (by first | exact mpM hv r29 (nxp_ge (sm_ne (c := f_X12_peek H) (by assumption))) hm | exact mpM hv r29 (nxp_ge (dg_ne (c := f_X12_peek H) (by assumption))) hm) hx
            · refine J_ld 257 jw hj rfl rfl rfl rfl ?_
              refine J_cst 259 jw hj rfl rfl rfl ?_
              refine J_ld 260 jw hj rfl rfl rfl rfl ?_
              refine J_gfI jw hj rfl (evn rfl) (by decide) rfl (fun r30 => ?_)
              refine J_bin jw hj rfl rfl ?_
              refine J_ld 265 jw hj rfl rfl rfl rfl ?_
              refine J_callV1 jw rfl (Or.inl ⟨_, rfl⟩) rfl rfl (sp_X12_peek (g := g) H hr) ?_
              refine J_bin jw hj rfl rfl ?_
              refine J_cst 271 jw hj rfl rfl rfl ?_
              refine J_bin jw hj rfl rfl ?_
              refine J_pfI jw hj rfl (evn rfl) rfl ?_
              refine J_ld 276 jw hj rfl rfl rfl rfl ?_
              refine J_dup 277 jw hj rfl rfl ?_
              refine J_gfI jw hj rfl (evn rfl) (by decide) rfl (fun r31 => ?_)
              refine J_cst 281 jw hj rfl rfl rfl ?_
              refine J_bin jw hj rfl rfl ?_
              refine J_pfI jw hj rfl (evn rfl) rfl ?_
              refine J_ld 286 jw hj rfl rfl rfl rfl ?_
              refine J_dup 287 jw hj rfl rfl ?_
              refine J_gfI jw hj rfl (evn rfl) (by decide) rfl (fun r32 => ?_)
              refine J_cst 291 jw hj rfl rfl rfl ?_
              refine J_bin jw hj rfl rfl ?_
              refine J_pfI jw hj rfl (evn rfl) rfl ?_
              refine J_goto 181 jw hj rfl rfl ?_
              have e : f_X12_run c s (k + 1) a H = f_X12_run c s k 1 (upI (upI (upI H 29 14 (iSub (iAdd (iMul 10 (H.1 29 14)) (f_X12_peek H)) 48)) 29 13 (iAdd (H.1 29 13) 1)) 29 4 (iAdd (H.1 29 4) 1)) := by
                rw [f_X12_run]
                rw [if_neg h0, if_neg h1, if_pos h5, if_neg h9, if_pos h10]
              rw [e] at hx
              exact ih 1 (upI (upI (upI H 29 14 (iSub (iAdd (iMul 10 (H.1 29 14)) (f_X12_peek H)) 48)) 29 13 (iAdd (H.1 29 13) 1)) 29 4 (iAdd (H.1 29 4) 1)) hr hv (by first | exact mpM hv r32 (nxp_ge (sm_ne (c := f_X12_peek H) (by assumption))) hm | exact mpM hv r32 (nxp_ge (dg_ne (c := f_X12_peek H) (by assumption))) hm) hx
          · refine J_ld 232 jw hj rfl rfl rfl rfl ?_
            refine J_ld 233 jw hj rfl rfl rfl rfl ?_
            refine J_gfL jw hj rfl (evn rfl) (by decide) rfl ?_
            refine J_cst 238 jw hj rfl rfl rfl ?_
            refine J_lshl jw hj rfl (evn rfl) ?_
            refine J_ld 240 jw hj rfl rfl rfl rfl ?_
            refine J_callV1 jw rfl (Or.inl ⟨_, rfl⟩) rfl rfl (sp_X12_peek (g := g) H hr) ?_
            refine J_i2l jw hj rfl (evn rfl) ?_
            refine J_lb jw hj rfl (Or.inl ⟨rfl, rfl⟩) ?_
            refine J_pfL jw hj rfl (evn rfl) rfl ?_
            refine J_ld 249 jw hj rfl rfl rfl rfl ?_
            refine J_gfI jw hj rfl (evn rfl) (by decide) rfl (fun r33 => ?_)
            refine J_cst 253 jw hj rfl rfl rfl ?_
            refine J_icmp (t := 275) jw hj rfl (evn rfl) rfl (fun (h11 : ¬ H.1 29 13 < 3) => ?_) (fun (h11 : H.1 29 13 < 3) => ?_)
            · refine J_ld 276 jw hj rfl rfl rfl rfl ?_
              refine J_dup 277 jw hj rfl rfl ?_
              refine J_gfI jw hj rfl (evn rfl) (by decide) rfl (fun r34 => ?_)
              refine J_cst 281 jw hj rfl rfl rfl ?_
              refine J_bin jw hj rfl rfl ?_
              refine J_pfI jw hj rfl (evn rfl) rfl ?_
              refine J_ld 286 jw hj rfl rfl rfl rfl ?_
              refine J_dup 287 jw hj rfl rfl ?_
              refine J_gfI jw hj rfl (evn rfl) (by decide) rfl (fun r35 => ?_)
              refine J_cst 291 jw hj rfl rfl rfl ?_
              refine J_bin jw hj rfl rfl ?_
              refine J_pfI jw hj rfl (evn rfl) rfl ?_
              refine J_goto 181 jw hj rfl rfl ?_
              have e : f_X12_run c s (k + 1) a H = f_X12_run c s k 1 (upI (upI (upL H 29 17 (((H.2.1 29 17) <<< ((Int32.ofInt 8).toInt64 &&& 63)) ||| ((Int32.ofInt (f_X12_peek H)).toInt64))) 29 13 (iAdd (H.1 29 13) 1)) 29 4 (iAdd (H.1 29 4) 1)) := by
                rw [f_X12_run]
                rw [if_neg h0, if_neg h1, if_pos h5, if_pos h9, if_neg h11]
              rw [e] at hx
              exact ih 1 (upI (upI (upL H 29 17 (((H.2.1 29 17) <<< ((Int32.ofInt 8).toInt64 &&& 63)) ||| ((Int32.ofInt (f_X12_peek H)).toInt64))) 29 13 (iAdd (H.1 29 13) 1)) 29 4 (iAdd (H.1 29 4) 1)) hr hv (by first | exact mpM hv r35 (nxp_ge (sm_ne (c := f_X12_peek H) (by assumption))) hm | exact mpM hv r35 (nxp_ge (dg_ne (c := f_X12_peek H) (by assumption))) hm) hx
            · refine J_ld 257 jw hj rfl rfl rfl rfl ?_
              refine J_cst 259 jw hj rfl rfl rfl ?_
              refine J_ld 260 jw hj rfl rfl rfl rfl ?_
              refine J_gfI jw hj rfl (evn rfl) (by decide) rfl (fun r36 => ?_)
              refine J_bin jw hj rfl rfl ?_
              refine J_ld 265 jw hj rfl rfl rfl rfl ?_
              refine J_callV1 jw rfl (Or.inl ⟨_, rfl⟩) rfl rfl (sp_X12_peek (g := g) (upL H 29 17 (((H.2.1 29 17) <<< ((Int32.ofInt 8).toInt64 &&& 63)) ||| ((Int32.ofInt (f_X12_peek H)).toInt64))) hr) ?_
              refine J_bin jw hj rfl rfl ?_
              refine J_cst 271 jw hj rfl rfl rfl ?_
              refine J_bin jw hj rfl rfl ?_
              refine J_pfI jw hj rfl (evn rfl) rfl ?_
              refine J_ld 276 jw hj rfl rfl rfl rfl ?_
              refine J_dup 277 jw hj rfl rfl ?_
              refine J_gfI jw hj rfl (evn rfl) (by decide) rfl (fun r37 => ?_)
              refine J_cst 281 jw hj rfl rfl rfl ?_
              refine J_bin jw hj rfl rfl ?_
              refine J_pfI jw hj rfl (evn rfl) rfl ?_
              refine J_ld 286 jw hj rfl rfl rfl rfl ?_
              refine J_dup 287 jw hj rfl rfl ?_
              refine J_gfI jw hj rfl (evn rfl) (by decide) rfl (fun r38 => ?_)
              refine J_cst 291 jw hj rfl rfl rfl ?_
              refine J_bin jw hj rfl rfl ?_
              refine J_pfI jw hj rfl (evn rfl) rfl ?_
              refine J_goto 181 jw hj rfl rfl ?_
              have e : f_X12_run c s (k + 1) a H = f_X12_run c s k 1 (upI (upI (upI (upL H 29 17 (((H.2.1 29 17) <<< ((Int32.ofInt 8).toInt64 &&& 63)) ||| ((Int32.ofInt (f_X12_peek H)).toInt64))) 29 14 (iSub (iAdd (iMul 10 (H.1 29 14)) (f_X12_peek H)) 48)) 29 13 (iAdd (H.1 29 13) 1)) 29 4 (iAdd (H.1 29 4) 1)) := by
                rw [f_X12_run]
                rw [if_neg h0, if_neg h1, if_pos h5, if_pos h9, if_pos h11]
              rw [e] at hx
              exact ih 1 (upI (upI (upI (upL H 29 17 (((H.2.1 29 17) <<< ((Int32.ofInt 8).toInt64 &&& 63)) ||| ((Int32.ofInt (f_X12_peek H)).toInt64))) 29 14 (iSub (iAdd (iMul 10 (H.1 29 14)) (f_X12_peek H)) 48)) 29 13 (iAdd (H.1 29 13) 1)) 29 4 (iAdd (H.1 29 4) 1)) hr hv (by first | exact mpM hv r38 (nxp_ge (sm_ne (c := f_X12_peek H) (by assumption))) hm | exact mpM hv r38 (nxp_ge (dg_ne (c := f_X12_peek H) (by assumption))) hm) hx
    · refine J_ld 192 jw hj rfl rfl rfl rfl ?_
      refine J_callV1 jw rfl (Or.inl ⟨_, rfl⟩) rfl rfl (sp_X12_peek (g := g) H hr) ?_
      refine J_callS1 jw rfl rfl rfl rfl (sp_X12_isDigit (g := g) (f_X12_peek H) H) ?_
      refine J_ifc (t := 298) jw hj rfl (evn rfl) rfl (fun (h12 : f_X12_isDigit (f_X12_peek H) = 0) => ?_) (fun (h12 : ¬ f_X12_isDigit (f_X12_peek H) = 0) => ?_)
      · have e : f_X12_run c s (k + 1) a H = (a, H) := by
          rw [f_X12_run]
          rw [if_pos h0, if_pos h12]
        rw [e] at hx
        exact hx
      · refine J_ld 202 jw hj rfl rfl rfl rfl ?_
        refine J_ifc (t := 220) jw hj rfl (evn rfl) rfl (fun (h13 : a = 0) => ?_) (fun (h13 : ¬ a = 0) => ?_)
        · refine J_cst 221 jw hj rfl rfl rfl ?_
          refine J_st 222 [rf (g 29), pt c, pt s, pt 0] (k := 3) jw hj rfl (Or.inr (Or.inr (Or.inl ⟨_, rfl, rfl, rfl⟩))) rfl ?_
          refine J_ld 223 jw hj rfl rfl rfl rfl ?_
          refine J_gfI jw hj rfl (evn rfl) (by decide) rfl (fun r39 => ?_)
          refine J_cst 228 jw hj rfl rfl rfl ?_
          refine J_icmp (t := 248) jw hj rfl (evn rfl) rfl (fun (h14 : ¬ H.1 29 13 < 7) => ?_) (fun (h14 : H.1 29 13 < 7) => ?_)
          · refine J_ld 249 jw hj rfl rfl rfl rfl ?_
            refine J_gfI jw hj rfl (evn rfl) (by decide) rfl (fun r40 => ?_)
            refine J_cst 253 jw hj rfl rfl rfl ?_
            refine J_icmp (t := 275) jw hj rfl (evn rfl) rfl (fun (h15 : ¬ H.1 29 13 < 3) => ?_) (fun (h15 : H.1 29 13 < 3) => ?_)
            · refine J_ld 276 jw hj rfl rfl rfl rfl ?_
              refine J_dup 277 jw hj rfl rfl ?_
              refine J_gfI jw hj rfl (evn rfl) (by decide) rfl (fun r41 => ?_)
              refine J_cst 281 jw hj rfl rfl rfl ?_
              refine J_bin jw hj rfl rfl ?_
              refine J_pfI jw hj rfl (evn rfl) rfl ?_
              refine J_ld 286 jw hj rfl rfl rfl rfl ?_
              refine J_dup 287 jw hj rfl rfl ?_
              refine J_gfI jw hj rfl (evn rfl) (by decide) rfl (fun r42 => ?_)
              refine J_cst 291 jw hj rfl rfl rfl ?_
              refine J_bin jw hj rfl rfl ?_
              refine J_pfI jw hj rfl (evn rfl) rfl ?_
              refine J_goto 181 jw hj rfl rfl ?_
              have e : f_X12_run c s (k + 1) a H = f_X12_run c s k 0 (upI (upI H 29 13 (iAdd (H.1 29 13) 1)) 29 4 (iAdd (H.1 29 4) 1)) := by
                rw [f_X12_run]
                rw [if_pos h0, if_neg h12, if_pos h13, if_neg h14, if_neg h15]
              rw [e] at hx
              exact ih 0 (upI (upI H 29 13 (iAdd (H.1 29 13) 1)) 29 4 (iAdd (H.1 29 4) 1)) hr hv (by first | exact mpM hv r42 (nxp_ge (sm_ne (c := f_X12_peek H) (by assumption))) hm | exact mpM hv r42 (nxp_ge (dg_ne (c := f_X12_peek H) (by assumption))) hm) hx
            · refine J_ld 257 jw hj rfl rfl rfl rfl ?_
              refine J_cst 259 jw hj rfl rfl rfl ?_
              refine J_ld 260 jw hj rfl rfl rfl rfl ?_
              refine J_gfI jw hj rfl (evn rfl) (by decide) rfl (fun r43 => ?_)
              refine J_bin jw hj rfl rfl ?_
              refine J_ld 265 jw hj rfl rfl rfl rfl ?_
              refine J_callV1 jw rfl (Or.inl ⟨_, rfl⟩) rfl rfl (sp_X12_peek (g := g) H hr) ?_
              refine J_bin jw hj rfl rfl ?_
              refine J_cst 271 jw hj rfl rfl rfl ?_
              refine J_bin jw hj rfl rfl ?_
              refine J_pfI jw hj rfl (evn rfl) rfl ?_
              refine J_ld 276 jw hj rfl rfl rfl rfl ?_
              refine J_dup 277 jw hj rfl rfl ?_
              refine J_gfI jw hj rfl (evn rfl) (by decide) rfl (fun r44 => ?_)
              refine J_cst 281 jw hj rfl rfl rfl ?_
              refine J_bin jw hj rfl rfl ?_
              refine J_pfI jw hj rfl (evn rfl) rfl ?_
              refine J_ld 286 jw hj rfl rfl rfl rfl ?_
              refine J_dup 287 jw hj rfl rfl ?_
              refine J_gfI jw hj rfl (evn rfl) (by decide) rfl (fun r45 => ?_)
              refine J_cst 291 jw hj rfl rfl rfl ?_
              refine J_bin jw hj rfl rfl ?_
              refine J_pfI jw hj rfl (evn rfl) rfl ?_
              refine J_goto 181 jw hj rfl rfl ?_
              have e : f_X12_run c s (k + 1) a H = f_X12_run c s k 0 (upI (upI (upI H 29 14 (iSub (iAdd (iMul 10 (H.1 29 14)) (f_X12_peek H)) 48)) 29 13 (iAdd (H.1 29 13) 1)) 29 4 (iAdd (H.1 29 4) 1)) := by
                rw [f_X12_run]
                rw [if_pos h0, if_neg h12, if_pos h13, if_neg h14, if_pos h15]
              rw [e] at hx
              exact ih 0 (upI (upI (upI H 29 14 (iSub (iAdd (iMul 10 (H.1 29 14)) (f_X12_peek H)) 48)) 29 13 (iAdd (H.1 29 13) 1)) 29 4 (iAdd (H.1 29 4) 1)) hr hv (by first | exact mpM hv r45 (nxp_ge (sm_ne (c := f_X12_peek H) (by assumption))) hm | exact mpM hv r45 (nxp_ge (dg_ne (c := f_X12_peek H) (by assumption))) hm) hx
          · refine J_ld 232 jw hj rfl rfl rfl rfl ?_
            refine J_ld 233 jw hj rfl rfl rfl rfl ?_
            refine J_gfL jw hj rfl (evn rfl) (by decide) rfl ?_
            refine J_cst 238 jw hj rfl rfl rfl ?_
            refine J_lshl jw hj rfl (evn rfl) ?_
            refine J_ld 240 jw hj rfl rfl rfl rfl ?_
            refine J_callV1 jw rfl (Or.inl ⟨_, rfl⟩) rfl rfl (sp_X12_peek (g := g) H hr) ?_
            refine J_i2l jw hj rfl (evn rfl) ?_
            refine J_lb jw hj rfl (Or.inl ⟨rfl, rfl⟩) ?_
            refine J_pfL jw hj rfl (evn rfl) rfl ?_
            refine J_ld 249 jw hj rfl rfl rfl rfl ?_
            refine J_gfI jw hj rfl (evn rfl) (by decide) rfl (fun r46 => ?_)
            refine J_cst 253 jw hj rfl rfl rfl ?_
            refine J_icmp (t := 275) jw hj rfl (evn rfl) rfl (fun (h16 : ¬ H.1 29 13 < 3) => ?_) (fun (h16 : H.1 29 13 < 3) => ?_)
            · refine J_ld 276 jw hj rfl rfl rfl rfl ?_
              refine J_dup 277 jw hj rfl rfl ?_
              refine J_gfI jw hj rfl (evn rfl) (by decide) rfl (fun r47 => ?_)
              refine J_cst 281 jw hj rfl rfl rfl ?_
              refine J_bin jw hj rfl rfl ?_
              refine J_pfI jw hj rfl (evn rfl) rfl ?_
              refine J_ld 286 jw hj rfl rfl rfl rfl ?_
              refine J_dup 287 jw hj rfl rfl ?_
              refine J_gfI jw hj rfl (evn rfl) (by decide) rfl (fun r48 => ?_)
              refine J_cst 291 jw hj rfl rfl rfl ?_
              refine J_bin jw hj rfl rfl ?_
              refine J_pfI jw hj rfl (evn rfl) rfl ?_
              refine J_goto 181 jw hj rfl rfl ?_
              have e : f_X12_run c s (k + 1) a H = f_X12_run c s k 0 (upI (upI (upL H 29 17 (((H.2.1 29 17) <<< ((Int32.ofInt 8).toInt64 &&& 63)) ||| ((Int32.ofInt (f_X12_peek H)).toInt64))) 29 13 (iAdd (H.1 29 13) 1)) 29 4 (iAdd (H.1 29 4) 1)) := by
                rw [f_X12_run]
                rw [if_pos h0, if_neg h12, if_pos h13, if_pos h14, if_neg h16]
              rw [e] at hx
              exact ih 0 (upI (upI (upL H 29 17 (((H.2.1 29 17) <<< ((Int32.ofInt 8).toInt64 &&& 63)) ||| ((Int32.ofInt (f_X12_peek H)).toInt64))) 29 13 (iAdd (H.1 29 13) 1)) 29 4 (iAdd (H.1 29 4) 1)) hr hv (by first | exact mpM hv r48 (nxp_ge (sm_ne (c := f_X12_peek H) (by assumption))) hm | exact mpM hv r48 (nxp_ge (dg_ne (c := f_X12_peek H) (by assumption))) hm) hx
            · refine J_ld 257 jw hj rfl rfl rfl rfl ?_
              refine J_cst 259 jw hj rfl rfl rfl ?_
              refine J_ld 260 jw hj rfl rfl rfl rfl ?_
              refine J_gfI jw hj rfl (evn rfl) (by decide) rfl (fun r49 => ?_)
              refine J_bin jw hj rfl rfl ?_
              refine J_ld 265 jw hj rfl rfl rfl rfl ?_
              refine J_callV1 jw rfl (Or.inl ⟨_, rfl⟩) rfl rfl (sp_X12_peek (g := g) (upL H 29 17 (((H.2.1 29 17) <<< ((Int32.ofInt 8).toInt64 &&& 63)) ||| ((Int32.ofInt (f_X12_peek H)).toInt64))) hr) ?_
              refine J_bin jw hj rfl rfl ?_
              refine J_cst 271 jw hj rfl rfl rfl ?_
              refine J_bin jw hj rfl rfl ?_
              refine J_pfI jw hj rfl (evn rfl) rfl ?_
              refine J_ld 276 jw hj rfl rfl rfl rfl ?_
              refine J_dup 277 jw hj rfl rfl ?_
              refine J_gfI jw hj rfl (evn rfl) (by decide) rfl (fun r50 => ?_)
              refine J_cst 281 jw hj rfl rfl rfl ?_
              refine J_bin jw hj rfl rfl ?_
              refine J_pfI jw hj rfl (evn rfl) rfl ?_
              refine J_ld 286 jw hj rfl rfl rfl rfl ?_
              refine J_dup 287 jw hj rfl rfl ?_
              refine J_gfI jw hj rfl (evn rfl) (by decide) rfl (fun r51 => ?_)
              refine J_cst 291 jw hj rfl rfl rfl ?_
              refine J_bin jw hj rfl rfl ?_
              refine J_pfI jw hj rfl (evn rfl) rfl ?_
              refine J_goto 181 jw hj rfl rfl ?_
              have e : f_X12_run c s (k + 1) a H = f_X12_run c s k 0 (upI (upI (upI (upL H 29 17 (((H.2.1 29 17) <<< ((Int32.ofInt 8).toInt64 &&& 63)) ||| ((Int32.ofInt (f_X12_peek H)).toInt64))) 29 14 (iSub (iAdd (iMul 10 (H.1 29 14)) (f_X12_peek H)) 48)) 29 13 (iAdd (H.1 29 13) 1)) 29 4 (iAdd (H.1 29 4) 1)) := by
                rw [f_X12_run]
                rw [if_pos h0, if_neg h12, if_pos h13, if_pos h14, if_pos h16]
              rw [e] at hx
              exact ih 0 (upI (upI (upI (upL H 29 17 (((H.2.1 29 17) <<< ((Int32.ofInt 8).toInt64 &&& 63)) ||| ((Int32.ofInt (f_X12_peek H)).toInt64))) 29 14 (iSub (iAdd (iMul 10 (H.1 29 14)) (f_X12_peek H)) 48)) 29 13 (iAdd (H.1 29 13) 1)) 29 4 (iAdd (H.1 29 4) 1)) hr hv (by first | exact mpM hv r51 (nxp_ge (sm_ne (c := f_X12_peek H) (by assumption))) hm | exact mpM hv r51 (nxp_ge (dg_ne (c := f_X12_peek H) (by assumption))) hm) hx
        · refine J_ld 206 jw hj rfl rfl rfl rfl ?_
          refine J_callV1 jw rfl (Or.inl ⟨_, rfl⟩) rfl rfl (sp_X12_peek (g := g) H hr) ?_
          refine J_callS1 jw rfl rfl rfl rfl (sp_X12_isSmall (g := g) (f_X12_peek H) H) ?_
          refine J_ld 213 jw hj rfl rfl rfl rfl ?_
          refine J_icmp (t := 220) jw hj rfl (evn rfl) rfl (fun (h17 : ¬ f_X12_isSmall (f_X12_peek H) = s) => ?_) (fun (h17 : f_X12_isSmall (f_X12_peek H) = s) => ?_)
          · refine J_cst 221 jw hj rfl rfl rfl ?_
            refine J_st 222 [rf (g 29), pt c, pt s, pt 0] (k := 3) jw hj rfl (Or.inr (Or.inr (Or.inl ⟨_, rfl, rfl, rfl⟩))) rfl ?_
            refine J_ld 223 jw hj rfl rfl rfl rfl ?_
            refine J_gfI jw hj rfl (evn rfl) (by decide) rfl (fun r52 => ?_)
            refine J_cst 228 jw hj rfl rfl rfl ?_
            refine J_icmp (t := 248) jw hj rfl (evn rfl) rfl (fun (h18 : ¬ H.1 29 13 < 7) => ?_) (fun (h18 : H.1 29 13 < 7) => ?_)
            · refine J_ld 249 jw hj rfl rfl rfl rfl ?_
              refine J_gfI jw hj rfl (evn rfl) (by decide) rfl (fun r53 => ?_)
              refine J_cst 253 jw hj rfl rfl rfl ?_
              refine J_icmp (t := 275) jw hj rfl (evn rfl) rfl (fun (h19 : ¬ H.1 29 13 < 3) => ?_) (fun (h19 : H.1 29 13 < 3) => ?_)
              · refine J_ld 276 jw hj rfl rfl rfl rfl ?_
                refine J_dup 277 jw hj rfl rfl ?_
                refine J_gfI jw hj rfl (evn rfl) (by decide) rfl (fun r54 => ?_)
                refine J_cst 281 jw hj rfl rfl rfl ?_
                refine J_bin jw hj rfl rfl ?_
                refine J_pfI jw hj rfl (evn rfl) rfl ?_
                refine J_ld 286 jw hj rfl rfl rfl rfl ?_
                refine J_dup 287 jw hj rfl rfl ?_
                refine J_gfI jw hj rfl (evn rfl) (by decide) rfl (fun r55 => ?_)
                refine J_cst 291 jw hj rfl rfl rfl ?_
                refine J_bin jw hj rfl rfl ?_
                refine J_pfI jw hj rfl (evn rfl) rfl ?_
                refine J_goto 181 jw hj rfl rfl ?_
                have e : f_X12_run c s (k + 1) a H = f_X12_run c s k 0 (upI (upI H 29 13 (iAdd (H.1 29 13) 1)) 29 4 (iAdd (H.1 29 4) 1)) := by
                  rw [f_X12_run]
                  rw [if_pos h0, if_neg h12, if_neg h13, if_neg h17, if_neg h18, if_neg h19]
                rw [e] at hx
                exact ih 0 (upI (upI H 29 13 (iAdd (H.1 29 13) 1)) 29 4 (iAdd (H.1 29 4) 1)) hr hv (by first | exact mpM hv r55 (nxp_ge (sm_ne (c := f_X12_peek H) (by assumption))) hm | exact mpM hv r55 (nxp_ge (dg_ne (c := f_X12_peek H) (by assumption))) hm) hx
              · refine J_ld 257 jw hj rfl rfl rfl rfl ?_
                refine J_cst 259 jw hj rfl rfl rfl ?_
                refine J_ld 260 jw hj rfl rfl rfl rfl ?_
                refine J_gfI jw hj rfl (evn rfl) (by decide) rfl (fun r56 => ?_)
                refine J_bin jw hj rfl rfl ?_
                refine J_ld 265 jw hj rfl rfl rfl rfl ?_
                refine J_callV1 jw rfl (Or.inl ⟨_, rfl⟩) rfl rfl (sp_X12_peek (g := g) H hr) ?_
                refine J_bin jw hj rfl rfl ?_
                refine J_cst 271 jw hj rfl rfl rfl ?_
                refine J_bin jw hj rfl rfl ?_
                refine J_pfI jw hj rfl (evn rfl) rfl ?_
                refine J_ld 276 jw hj rfl rfl rfl rfl ?_
                refine J_dup 277 jw hj rfl rfl ?_
                refine J_gfI jw hj rfl (evn rfl) (by decide) rfl (fun r57 => ?_)
                refine J_cst 281 jw hj rfl rfl rfl ?_
                refine J_bin jw hj rfl rfl ?_
                refine J_pfI jw hj rfl (evn rfl) rfl ?_
                refine J_ld 286 jw hj rfl rfl rfl rfl ?_
                refine J_dup 287 jw hj rfl rfl ?_
                refine J_gfI jw hj rfl (evn rfl) (by decide) rfl (fun r58 => ?_)
                refine J_cst 291 jw hj rfl rfl rfl ?_
                refine J_bin jw hj rfl rfl ?_
                refine J_pfI jw hj rfl (evn rfl) rfl ?_
                refine J_goto 181 jw hj rfl rfl ?_
                have e : f_X12_run c s (k + 1) a H = f_X12_run c s k 0 (upI (upI (upI H 29 14 (iSub (iAdd (iMul 10 (H.1 29 14)) (f_X12_peek H)) 48)) 29 13 (iAdd (H.1 29 13) 1)) 29 4 (iAdd (H.1 29 4) 1)) := by
                  rw [f_X12_run]
                  rw [if_pos h0, if_neg h12, if_neg h13, if_neg h17, if_neg h18, if_pos h19]
                rw [e] at hx
                exact ih 0 (upI (upI (upI H 29 14 (iSub (iAdd (iMul 10 (H.1 29 14)) (f_X12_peek H)) 48)) 29 13 (iAdd (H.1 29 13) 1)) 29 4 (iAdd (H.1 29 4) 1)) hr hv (by first | exact mpM hv r58 (nxp_ge (sm_ne (c := f_X12_peek H) (by assumption))) hm | exact mpM hv r58 (nxp_ge (dg_ne (c := f_X12_peek H) (by assumption))) hm) hx
            · refine J_ld 232 jw hj rfl rfl rfl rfl ?_
              refine J_ld 233 jw hj rfl rfl rfl rfl ?_
              refine J_gfL jw hj rfl (evn rfl) (by decide) rfl ?_
              refine J_cst 238 jw hj rfl rfl rfl ?_
              refine J_lshl jw hj rfl (evn rfl) ?_
              refine J_ld 240 jw hj rfl rfl rfl rfl ?_
              refine J_callV1 jw rfl (Or.inl ⟨_, rfl⟩) rfl rfl (sp_X12_peek (g := g) H hr) ?_
              refine J_i2l jw hj rfl (evn rfl) ?_
              refine J_lb jw hj rfl (Or.inl ⟨rfl, rfl⟩) ?_
              refine J_pfL jw hj rfl (evn rfl) rfl ?_
              refine J_ld 249 jw hj rfl rfl rfl rfl ?_
              refine J_gfI jw hj rfl (evn rfl) (by decide) rfl (fun r59 => ?_)
              refine J_cst 253 jw hj rfl rfl rfl ?_
              refine J_icmp (t := 275) jw hj rfl (evn rfl) rfl (fun (h20 : ¬ H.1 29 13 < 3) => ?_) (fun (h20 : H.1 29 13 < 3) => ?_)
              · refine J_ld 276 jw hj rfl rfl rfl rfl ?_
                refine J_dup 277 jw hj rfl rfl ?_
                refine J_gfI jw hj rfl (evn rfl) (by decide) rfl (fun r60 => ?_)
                refine J_cst 281 jw hj rfl rfl rfl ?_
                refine J_bin jw hj rfl rfl ?_
                refine J_pfI jw hj rfl (evn rfl) rfl ?_
                refine J_ld 286 jw hj rfl rfl rfl rfl ?_
                refine J_dup 287 jw hj rfl rfl ?_
                refine J_gfI jw hj rfl (evn rfl) (by decide) rfl (fun r61 => ?_)
                refine J_cst 291 jw hj rfl rfl rfl ?_
                refine J_bin jw hj rfl rfl ?_
                refine J_pfI jw hj rfl (evn rfl) rfl ?_
                refine J_goto 181 jw hj rfl rfl ?_
                have e : f_X12_run c s (k + 1) a H = f_X12_run c s k 0 (upI (upI (upL H 29 17 (((H.2.1 29 17) <<< ((Int32.ofInt 8).toInt64 &&& 63)) ||| ((Int32.ofInt (f_X12_peek H)).toInt64))) 29 13 (iAdd (H.1 29 13) 1)) 29 4 (iAdd (H.1 29 4) 1)) := by
                  rw [f_X12_run]
                  rw [if_pos h0, if_neg h12, if_neg h13, if_neg h17, if_pos h18, if_neg h20]
                rw [e] at hx
                exact ih 0 (upI (upI (upL H 29 17 (((H.2.1 29 17) <<< ((Int32.ofInt 8).toInt64 &&& 63)) ||| ((Int32.ofInt (f_X12_peek H)).toInt64))) 29 13 (iAdd (H.1 29 13) 1)) 29 4 (iAdd (H.1 29 4) 1)) hr hv (by first | exact mpM hv r61 (nxp_ge (sm_ne (c := f_X12_peek H) (by assumption))) hm | exact mpM hv r61 (nxp_ge (dg_ne (c := f_X12_peek H) (by assumption))) hm) hx
              · refine J_ld 257 jw hj rfl rfl rfl rfl ?_
                refine J_cst 259 jw hj rfl rfl rfl ?_
                refine J_ld 260 jw hj rfl rfl rfl rfl ?_
                refine J_gfI jw hj rfl (evn rfl) (by decide) rfl (fun r62 => ?_)
                refine J_bin jw hj rfl rfl ?_
                refine J_ld 265 jw hj rfl rfl rfl rfl ?_
                refine J_callV1 jw rfl (Or.inl ⟨_, rfl⟩) rfl rfl (sp_X12_peek (g := g) (upL H 29 17 (((H.2.1 29 17) <<< ((Int32.ofInt 8).toInt64 &&& 63)) ||| ((Int32.ofInt (f_X12_peek H)).toInt64))) hr) ?_
                refine J_bin jw hj rfl rfl ?_
                refine J_cst 271 jw hj rfl rfl rfl ?_
                refine J_bin jw hj rfl rfl ?_
                refine J_pfI jw hj rfl (evn rfl) rfl ?_
                refine J_ld 276 jw hj rfl rfl rfl rfl ?_
                refine J_dup 277 jw hj rfl rfl ?_
                refine J_gfI jw hj rfl (evn rfl) (by decide) rfl (fun r63 => ?_)
                refine J_cst 281 jw hj rfl rfl rfl ?_
                refine J_bin jw hj rfl rfl ?_
                refine J_pfI jw hj rfl (evn rfl) rfl ?_
                refine J_ld 286 jw hj rfl rfl rfl rfl ?_
                refine J_dup 287 jw hj rfl rfl ?_
                refine J_gfI jw hj rfl (evn rfl) (by decide) rfl (fun r64 => ?_)
                refine J_cst 291 jw hj rfl rfl rfl ?_
                refine J_bin jw hj rfl rfl ?_
                refine J_pfI jw hj rfl (evn rfl) rfl ?_
                refine J_goto 181 jw hj rfl rfl ?_
                have e : f_X12_run c s (k + 1) a H = f_X12_run c s k 0 (upI (upI (upI (upL H 29 17 (((H.2.1 29 17) <<< ((Int32.ofInt 8).toInt64 &&& 63)) ||| ((Int32.ofInt (f_X12_peek H)).toInt64))) 29 14 (iSub (iAdd (iMul 10 (H.1 29 14)) (f_X12_peek H)) 48)) 29 13 (iAdd (H.1 29 13) 1)) 29 4 (iAdd (H.1 29 4) 1)) := by
                  rw [f_X12_run]
                  rw [if_pos h0, if_neg h12, if_neg h13, if_neg h17, if_pos h18, if_pos h20]
                rw [e] at hx
                exact ih 0 (upI (upI (upI (upL H 29 17 (((H.2.1 29 17) <<< ((Int32.ofInt 8).toInt64 &&& 63)) ||| ((Int32.ofInt (f_X12_peek H)).toInt64))) 29 14 (iSub (iAdd (iMul 10 (H.1 29 14)) (f_X12_peek H)) 48)) 29 13 (iAdd (H.1 29 13) 1)) 29 4 (iAdd (H.1 29 4) 1)) hr hv (by first | exact mpM hv r64 (nxp_ge (sm_ne (c := f_X12_peek H) (by assumption))) hm | exact mpM hv r64 (nxp_ge (dg_ne (c := f_X12_peek H) (by assumption))) hm) hx
          · refine J_cst 217 jw hj rfl rfl rfl ?_
            refine J_goto 221 jw hj rfl rfl ?_
            refine J_st 222 [rf (g 29), pt c, pt s, pt 1] (k := 3) jw hj rfl (Or.inr (Or.inr (Or.inl ⟨_, rfl, rfl, rfl⟩))) rfl ?_
            refine J_ld 223 jw hj rfl rfl rfl rfl ?_
            refine J_gfI jw hj rfl (evn rfl) (by decide) rfl (fun r65 => ?_)
            refine J_cst 228 jw hj rfl rfl rfl ?_
            refine J_icmp (t := 248) jw hj rfl (evn rfl) rfl (fun (h21 : ¬ H.1 29 13 < 7) => ?_) (fun (h21 : H.1 29 13 < 7) => ?_)
            · refine J_ld 249 jw hj rfl rfl rfl rfl ?_
              refine J_gfI jw hj rfl (evn rfl) (by decide) rfl (fun r66 => ?_)
              refine J_cst 253 jw hj rfl rfl rfl ?_
              refine J_icmp (t := 275) jw hj rfl (evn rfl) rfl (fun (h22 : ¬ H.1 29 13 < 3) => ?_) (fun (h22 : H.1 29 13 < 3) => ?_)
              · refine J_ld 276 jw hj rfl rfl rfl rfl ?_
                refine J_dup 277 jw hj rfl rfl ?_
                refine J_gfI jw hj rfl (evn rfl) (by decide) rfl (fun r67 => ?_)
                refine J_cst 281 jw hj rfl rfl rfl ?_
                refine J_bin jw hj rfl rfl ?_
                refine J_pfI jw hj rfl (evn rfl) rfl ?_
                refine J_ld 286 jw hj rfl rfl rfl rfl ?_
                refine J_dup 287 jw hj rfl rfl ?_
                refine J_gfI jw hj rfl (evn rfl) (by decide) rfl (fun r68 => ?_)
                refine J_cst 291 jw hj rfl rfl rfl ?_
                refine J_bin jw hj rfl rfl ?_
                refine J_pfI jw hj rfl (evn rfl) rfl ?_
                refine J_goto 181 jw hj rfl rfl ?_
                have e : f_X12_run c s (k + 1) a H = f_X12_run c s k 1 (upI (upI H 29 13 (iAdd (H.1 29 13) 1)) 29 4 (iAdd (H.1 29 4) 1)) := by
                  rw [f_X12_run]
                  rw [if_pos h0, if_neg h12, if_neg h13, if_pos h17, if_neg h21, if_neg h22]
                rw [e] at hx
                exact ih 1 (upI (upI H 29 13 (iAdd (H.1 29 13) 1)) 29 4 (iAdd (H.1 29 4) 1)) hr hv (by first | exact mpM hv r68 (nxp_ge (sm_ne (c := f_X12_peek H) (by assumption))) hm | exact mpM hv r68 (nxp_ge (dg_ne (c := f_X12_peek H) (by assumption))) hm) hx
              · refine J_ld 257 jw hj rfl rfl rfl rfl ?_
                refine J_cst 259 jw hj rfl rfl rfl ?_
                refine J_ld 260 jw hj rfl rfl rfl rfl ?_
                refine J_gfI jw hj rfl (evn rfl) (by decide) rfl (fun r69 => ?_)
                refine J_bin jw hj rfl rfl ?_
                refine J_ld 265 jw hj rfl rfl rfl rfl ?_
                refine J_callV1 jw rfl (Or.inl ⟨_, rfl⟩) rfl rfl (sp_X12_peek (g := g) H hr) ?_
                refine J_bin jw hj rfl rfl ?_
                refine J_cst 271 jw hj rfl rfl rfl ?_
                refine J_bin jw hj rfl rfl ?_
                refine J_pfI jw hj rfl (evn rfl) rfl ?_
                refine J_ld 276 jw hj rfl rfl rfl rfl ?_
                refine J_dup 277 jw hj rfl rfl ?_
                refine J_gfI jw hj rfl (evn rfl) (by decide) rfl (fun r70 => ?_)
                refine J_cst 281 jw hj rfl rfl rfl ?_
                refine J_bin jw hj rfl rfl ?_
                refine J_pfI jw hj rfl (evn rfl) rfl ?_
                refine J_ld 286 jw hj rfl rfl rfl rfl ?_
                refine J_dup 287 jw hj rfl rfl ?_
                refine J_gfI jw hj rfl (evn rfl) (by decide) rfl (fun r71 => ?_)
                refine J_cst 291 jw hj rfl rfl rfl ?_
                refine J_bin jw hj rfl rfl ?_
                refine J_pfI jw hj rfl (evn rfl) rfl ?_
                refine J_goto 181 jw hj rfl rfl ?_
                have e : f_X12_run c s (k + 1) a H = f_X12_run c s k 1 (upI (upI (upI H 29 14 (iSub (iAdd (iMul 10 (H.1 29 14)) (f_X12_peek H)) 48)) 29 13 (iAdd (H.1 29 13) 1)) 29 4 (iAdd (H.1 29 4) 1)) := by
                  rw [f_X12_run]
                  rw [if_pos h0, if_neg h12, if_neg h13, if_pos h17, if_neg h21, if_pos h22]
                rw [e] at hx
                exact ih 1 (upI (upI (upI H 29 14 (iSub (iAdd (iMul 10 (H.1 29 14)) (f_X12_peek H)) 48)) 29 13 (iAdd (H.1 29 13) 1)) 29 4 (iAdd (H.1 29 4) 1)) hr hv (by first | exact mpM hv r71 (nxp_ge (sm_ne (c := f_X12_peek H) (by assumption))) hm | exact mpM hv r71 (nxp_ge (dg_ne (c := f_X12_peek H) (by assumption))) hm) hx
            · refine J_ld 232 jw hj rfl rfl rfl rfl ?_
              refine J_ld 233 jw hj rfl rfl rfl rfl ?_
              refine J_gfL jw hj rfl (evn rfl) (by decide) rfl ?_
              refine J_cst 238 jw hj rfl rfl rfl ?_
              refine J_lshl jw hj rfl (evn rfl) ?_
              refine J_ld 240 jw hj rfl rfl rfl rfl ?_
              refine J_callV1 jw rfl (Or.inl ⟨_, rfl⟩) rfl rfl (sp_X12_peek (g := g) H hr) ?_
              refine J_i2l jw hj rfl (evn rfl) ?_
              refine J_lb jw hj rfl (Or.inl ⟨rfl, rfl⟩) ?_
              refine J_pfL jw hj rfl (evn rfl) rfl ?_
              refine J_ld 249 jw hj rfl rfl rfl rfl ?_
              refine J_gfI jw hj rfl (evn rfl) (by decide) rfl (fun r72 => ?_)
              refine J_cst 253 jw hj rfl rfl rfl ?_
              refine J_icmp (t := 275) jw hj rfl (evn rfl) rfl (fun (h23 : ¬ H.1 29 13 < 3) => ?_) (fun (h23 : H.1 29 13 < 3) => ?_)
              · refine J_ld 276 jw hj rfl rfl rfl rfl ?_
                refine J_dup 277 jw hj rfl rfl ?_
                refine J_gfI jw hj rfl (evn rfl) (by decide) rfl (fun r73 => ?_)
                refine J_cst 281 jw hj rfl rfl rfl ?_
                refine J_bin jw hj rfl rfl ?_
                refine J_pfI jw hj rfl (evn rfl) rfl ?_
                refine J_ld 286 jw hj rfl rfl rfl rfl ?_
                refine J_dup 287 jw hj rfl rfl ?_
                refine J_gfI jw hj rfl (evn rfl) (by decide) rfl (fun r74 => ?_)
                refine J_cst 291 jw hj rfl rfl rfl ?_
                refine J_bin jw hj rfl rfl ?_
                refine J_pfI jw hj rfl (evn rfl) rfl ?_
                refine J_goto 181 jw hj rfl rfl ?_
                have e : f_X12_run c s (k + 1) a H = f_X12_run c s k 1 (upI (upI (upL H 29 17 (((H.2.1 29 17) <<< ((Int32.ofInt 8).toInt64 &&& 63)) ||| ((Int32.ofInt (f_X12_peek H)).toInt64))) 29 13 (iAdd (H.1 29 13) 1)) 29 4 (iAdd (H.1 29 4) 1)) := by
                  rw [f_X12_run]
                  rw [if_pos h0, if_neg h12, if_neg h13, if_pos h17, if_pos h21, if_neg h23]
                rw [e] at hx
                exact ih 1 (upI (upI (upL H 29 17 (((H.2.1 29 17) <<< ((Int32.ofInt 8).toInt64 &&& 63)) ||| ((Int32.ofInt (f_X12_peek H)).toInt64))) 29 13 (iAdd (H.1 29 13) 1)) 29 4 (iAdd (H.1 29 4) 1)) hr hv (by first | exact mpM hv r74 (nxp_ge (sm_ne (c := f_X12_peek H) (by assumption))) hm | exact mpM hv r74 (nxp_ge (dg_ne (c := f_X12_peek H) (by assumption))) hm) hx
              · refine J_ld 257 jw hj rfl rfl rfl rfl ?_
                refine J_cst 259 jw hj rfl rfl rfl ?_
                refine J_ld 260 jw hj rfl rfl rfl rfl ?_
                refine J_gfI jw hj rfl (evn rfl) (by decide) rfl (fun r75 => ?_)
                refine J_bin jw hj rfl rfl ?_
                refine J_ld 265 jw hj rfl rfl rfl rfl ?_
                refine J_callV1 jw rfl (Or.inl ⟨_, rfl⟩) rfl rfl (sp_X12_peek (g := g) (upL H 29 17 (((H.2.1 29 17) <<< ((Int32.ofInt 8).toInt64 &&& 63)) ||| ((Int32.ofInt (f_X12_peek H)).toInt64))) hr) ?_
                refine J_bin jw hj rfl rfl ?_
                refine J_cst 271 jw hj rfl rfl rfl ?_
                refine J_bin jw hj rfl rfl ?_
                refine J_pfI jw hj rfl (evn rfl) rfl ?_
                refine J_ld 276 jw hj rfl rfl rfl rfl ?_
                refine J_dup 277 jw hj rfl rfl ?_
                refine J_gfI jw hj rfl (evn rfl) (by decide) rfl (fun r76 => ?_)
                refine J_cst 281 jw hj rfl rfl rfl ?_
                refine J_bin jw hj rfl rfl ?_
                refine J_pfI jw hj rfl (evn rfl) rfl ?_
                refine J_ld 286 jw hj rfl rfl rfl rfl ?_
                refine J_dup 287 jw hj rfl rfl ?_
                refine J_gfI jw hj rfl (evn rfl) (by decide) rfl (fun r77 => ?_)
                refine J_cst 291 jw hj rfl rfl rfl ?_
                refine J_bin jw hj rfl rfl ?_
                refine J_pfI jw hj rfl (evn rfl) rfl ?_
                refine J_goto 181 jw hj rfl rfl ?_
                have e : f_X12_run c s (k + 1) a H = f_X12_run c s k 1 (upI (upI (upI (upL H 29 17 (((H.2.1 29 17) <<< ((Int32.ofInt 8).toInt64 &&& 63)) ||| ((Int32.ofInt (f_X12_peek H)).toInt64))) 29 14 (iSub (iAdd (iMul 10 (H.1 29 14)) (f_X12_peek H)) 48)) 29 13 (iAdd (H.1 29 13) 1)) 29 4 (iAdd (H.1 29 4) 1)) := by
                  rw [f_X12_run]
                  rw [if_pos h0, if_neg h12, if_neg h13, if_pos h17, if_pos h21, if_pos h23]
                rw [e] at hx
                exact ih 1 (upI (upI (upI (upL H 29 17 (((H.2.1 29 17) <<< ((Int32.ofInt 8).toInt64 &&& 63)) ||| ((Int32.ofInt (f_X12_peek H)).toInt64))) 29 14 (iSub (iAdd (iMul 10 (H.1 29 14)) (f_X12_peek H)) 48)) 29 13 (iAdd (H.1 29 13) 1)) 29 4 (iAdd (H.1 29 4) 1)) hr hv (by first | exact mpM hv r77 (nxp_ge (sm_ne (c := f_X12_peek H) (by assumption))) hm | exact mpM hv r77 (nxp_ge (dg_ne (c := f_X12_peek H) (by assumption))) hm) hx
theorem rf_X12_run (c : Int) (s : Int) : ∀ (k : Nat) (a : Int) (H : hH), RM H.2.2.1 → RM (f_X12_run c s k a H).2.2.2.1 := by
  intro k
  induction k with
  | zero => intro a H hr; exact hr
  | succ k ih =>
    intro a H hr
    rw [f_X12_run]
    by_cases q2 : f_X12_isSmall (f_X12_peek H) = 0
    · rw [if_pos q2]
      by_cases q3 : f_X12_isDigit (f_X12_peek H) = 0
      · rw [if_pos q3]
        exact hr
      · rw [if_neg q3]
        by_cases q4 : a = 0
        · rw [if_pos q4]
          by_cases q5 : H.1 29 13 < 7
          · rw [if_pos q5]
            by_cases q6 : H.1 29 13 < 3
            · rw [if_pos q6]
              exact ih 0 (upI (upI (upI (upL H 29 17 (((H.2.1 29 17) <<< ((Int32.ofInt 8).toInt64 &&& 63)) ||| ((Int32.ofInt (f_X12_peek H)).toInt64))) 29 14 (iSub (iAdd (iMul 10 (H.1 29 14)) (f_X12_peek H)) 48)) 29 13 (iAdd (H.1 29 13) 1)) 29 4 (iAdd (H.1 29 4) 1)) hr
            · rw [if_neg q6]
              exact ih 0 (upI (upI (upL H 29 17 (((H.2.1 29 17) <<< ((Int32.ofInt 8).toInt64 &&& 63)) ||| ((Int32.ofInt (f_X12_peek H)).toInt64))) 29 13 (iAdd (H.1 29 13) 1)) 29 4 (iAdd (H.1 29 4) 1)) hr
          · rw [if_neg q5]
            by_cases q6 : H.1 29 13 < 3
            · rw [if_pos q6]
              exact ih 0 (upI (upI (upI H 29 14 (iSub (iAdd (iMul 10 (H.1 29 14)) (f_X12_peek H)) 48)) 29 13 (iAdd (H.1 29 13) 1)) 29 4 (iAdd (H.1 29 4) 1)) hr
            · rw [if_neg q6]
              exact ih 0 (upI (upI H 29 13 (iAdd (H.1 29 13) 1)) 29 4 (iAdd (H.1 29 4) 1)) hr
        · rw [if_neg q4]
          by_cases q5 : f_X12_isSmall (f_X12_peek H) = s
          · rw [if_pos q5]
            by_cases q6 : H.1 29 13 < 7
            · rw [if_pos q6]
              by_cases q7 : H.1 29 13 < 3
              · rw [if_pos q7]
                exact ih 1 (upI (upI (upI (upL H 29 17 (((H.2.1 29 17) <<< ((Int32.ofInt 8).toInt64 &&& 63)) ||| ((Int32.ofInt (f_X12_peek H)).toInt64))) 29 14 (iSub (iAdd (iMul 10 (H.1 29 14)) (f_X12_peek H)) 48)) 29 13 (iAdd (H.1 29 13) 1)) 29 4 (iAdd (H.1 29 4) 1)) hr
              · rw [if_neg q7]
                exact ih 1 (upI (upI (upL H 29 17 (((H.2.1 29 17) <<< ((Int32.ofInt 8).toInt64 &&& 63)) ||| ((Int32.ofInt (f_X12_peek H)).toInt64))) 29 13 (iAdd (H.1 29 13) 1)) 29 4 (iAdd (H.1 29 4) 1)) hr
            · rw [if_neg q6]
              by_cases q7 : H.1 29 13 < 3
              · rw [if_pos q7]
                exact ih 1 (upI (upI (upI H 29 14 (iSub (iAdd (iMul 10 (H.1 29 14)) (f_X12_peek H)) 48)) 29 13 (iAdd (H.1 29 13) 1)) 29 4 (iAdd (H.1 29 4) 1)) hr
              · rw [if_neg q7]
                exact ih 1 (upI (upI H 29 13 (iAdd (H.1 29 13) 1)) 29 4 (iAdd (H.1 29 4) 1)) hr
          · rw [if_neg q5]
            by_cases q6 : H.1 29 13 < 7
            · rw [if_pos q6]
              by_cases q7 : H.1 29 13 < 3
              · rw [if_pos q7]
                exact ih 0 (upI (upI (upI (upL H 29 17 (((H.2.1 29 17) <<< ((Int32.ofInt 8).toInt64 &&& 63)) ||| ((Int32.ofInt (f_X12_peek H)).toInt64))) 29 14 (iSub (iAdd (iMul 10 (H.1 29 14)) (f_X12_peek H)) 48)) 29 13 (iAdd (H.1 29 13) 1)) 29 4 (iAdd (H.1 29 4) 1)) hr
              · rw [if_neg q7]
                exact ih 0 (upI (upI (upL H 29 17 (((H.2.1 29 17) <<< ((Int32.ofInt 8).toInt64 &&& 63)) ||| ((Int32.ofInt (f_X12_peek H)).toInt64))) 29 13 (iAdd (H.1 29 13) 1)) 29 4 (iAdd (H.1 29 4) 1)) hr
            · rw [if_neg q6]
              by_cases q7 : H.1 29 13 < 3
              · rw [if_pos q7]
                exact ih 0 (upI (upI (upI H 29 14 (iSub (iAdd (iMul 10 (H.1 29 14)) (f_X12_peek H)) 48)) 29 13 (iAdd (H.1 29 13) 1)) 29 4 (iAdd (H.1 29 4) 1)) hr
              · rw [if_neg q7]
                exact ih 0 (upI (upI H 29 13 (iAdd (H.1 29 13) 1)) 29 4 (iAdd (H.1 29 4) 1)) hr
    · rw [if_neg q2]
      by_cases q3 : a = 0
      · rw [if_pos q3]
        by_cases q4 : H.1 29 13 < 7
        · rw [if_pos q4]
          by_cases q5 : H.1 29 13 < 3
          · rw [if_pos q5]
            exact ih 0 (upI (upI (upI (upL H 29 17 (((H.2.1 29 17) <<< ((Int32.ofInt 8).toInt64 &&& 63)) ||| ((Int32.ofInt (f_X12_peek H)).toInt64))) 29 14 (iSub (iAdd (iMul 10 (H.1 29 14)) (f_X12_peek H)) 48)) 29 13 (iAdd (H.1 29 13) 1)) 29 4 (iAdd (H.1 29 4) 1)) hr
          · rw [if_neg q5]
            exact ih 0 (upI (upI (upL H 29 17 (((H.2.1 29 17) <<< ((Int32.ofInt 8).toInt64 &&& 63)) ||| ((Int32.ofInt (f_X12_peek H)).toInt64))) 29 13 (iAdd (H.1 29 13) 1)) 29 4 (iAdd (H.1 29 4) 1)) hr
        · rw [if_neg q4]
          by_cases q5 : H.1 29 13 < 3
          · rw [if_pos q5]
            exact ih 0 (upI (upI (upI H 29 14 (iSub (iAdd (iMul 10 (H.1 29 14)) (f_X12_peek H)) 48)) 29 13 (iAdd (H.1 29 13) 1)) 29 4 (iAdd (H.1 29 4) 1)) hr
          · rw [if_neg q5]
            exact ih 0 (upI (upI H 29 13 (iAdd (H.1 29 13) 1)) 29 4 (iAdd (H.1 29 4) 1)) hr
      · rw [if_neg q3]
        by_cases q4 : f_X12_isSmall (f_X12_peek H) = s
        · rw [if_pos q4]
          by_cases q5 : H.1 29 13 < 7
          · rw [if_pos q5]
            by_cases q6 : H.1 29 13 < 3
            · rw [if_pos q6]
              exact ih 1 (upI (upI (upI (upL H 29 17 (((H.2.1 29 17) <<< ((Int32.ofInt 8).toInt64 &&& 63)) ||| ((Int32.ofInt (f_X12_peek H)).toInt64))) 29 14 (iSub (iAdd (iMul 10 (H.1 29 14)) (f_X12_peek H)) 48)) 29 13 (iAdd (H.1 29 13) 1)) 29 4 (iAdd (H.1 29 4) 1)) hr
            · rw [if_neg q6]
              exact ih 1 (upI (upI (upL H 29 17 (((H.2.1 29 17) <<< ((Int32.ofInt 8).toInt64 &&& 63)) ||| ((Int32.ofInt (f_X12_peek H)).toInt64))) 29 13 (iAdd (H.1 29 13) 1)) 29 4 (iAdd (H.1 29 4) 1)) hr
          · rw [if_neg q5]
            by_cases q6 : H.1 29 13 < 3
            · rw [if_pos q6]
              exact ih 1 (upI (upI (upI H 29 14 (iSub (iAdd (iMul 10 (H.1 29 14)) (f_X12_peek H)) 48)) 29 13 (iAdd (H.1 29 13) 1)) 29 4 (iAdd (H.1 29 4) 1)) hr
            · rw [if_neg q6]
              exact ih 1 (upI (upI H 29 13 (iAdd (H.1 29 13) 1)) 29 4 (iAdd (H.1 29 4) 1)) hr
        · rw [if_neg q4]
          by_cases q5 : H.1 29 13 < 7
          · rw [if_pos q5]
            by_cases q6 : H.1 29 13 < 3
            · rw [if_pos q6]
              exact ih 0 (upI (upI (upI (upL H 29 17 (((H.2.1 29 17) <<< ((Int32.ofInt 8).toInt64 &&& 63)) ||| ((Int32.ofInt (f_X12_peek H)).toInt64))) 29 14 (iSub (iAdd (iMul 10 (H.1 29 14)) (f_X12_peek H)) 48)) 29 13 (iAdd (H.1 29 13) 1)) 29 4 (iAdd (H.1 29 4) 1)) hr
            · rw [if_neg q6]
              exact ih 0 (upI (upI (upL H 29 17 (((H.2.1 29 17) <<< ((Int32.ofInt 8).toInt64 &&& 63)) ||| ((Int32.ofInt (f_X12_peek H)).toInt64))) 29 13 (iAdd (H.1 29 13) 1)) 29 4 (iAdd (H.1 29 4) 1)) hr
          · rw [if_neg q5]
            by_cases q6 : H.1 29 13 < 3
            · rw [if_pos q6]
              exact ih 0 (upI (upI (upI H 29 14 (iSub (iAdd (iMul 10 (H.1 29 14)) (f_X12_peek H)) 48)) 29 13 (iAdd (H.1 29 13) 1)) 29 4 (iAdd (H.1 29 4) 1)) hr
            · rw [if_neg q6]
              exact ih 0 (upI (upI H 29 13 (iAdd (H.1 29 13) 1)) 29 4 (iAdd (H.1 29 4) 1)) hr
