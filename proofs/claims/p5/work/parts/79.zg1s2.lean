def f_X9_runEnd (l : Int) (d : Int) (n : Int) (m : Int64) (H : hH) : Int × hH :=
  if d = 0 then
    if 7 < l then
      if l = 0 then
        if 3 < d then
          (0, (upI H 9 (H.1 4 7).toNat n))
        else
          (3, (upI H 9 (H.1 4 7).toNat n))
      else
        (0, (upI H 9 (H.1 4 7).toNat n))
    else
      if ((upI (upL H 10 (H.1 4 7).toNat m) 9 (H.1 4 7).toNat (f_X9_wordOf m H)).1 9 (H.1 4 7).toNat) = (-1) then
        (5, (upI (upL H 10 (H.1 4 7).toNat m) 9 (H.1 4 7).toNat (f_X9_wordOf m H)))
      else
        (4, (upI (upL H 10 (H.1 4 7).toNat m) 9 (H.1 4 7).toNat (f_X9_wordOf m H)))
  else
    if l = 0 then
      if 3 < d then
        (0, (upI H 9 (H.1 4 7).toNat n))
      else
        (3, (upI H 9 (H.1 4 7).toNat n))
    else
      (0, (upI H 9 (H.1 4 7).toNat n))
set_option maxHeartbeats 16000000 in
set_option maxRecDepth 100000 in
theorem jx_X9_runEnd {g : Nat → Nat} (l : Int) (d : Int) (n : Int) (m : Int64) {w : rvV} (H : hH) (hr : RF H.2.2.1) : J g rvTab rvInf rvRet 316 rvMth 3 (fun res => res.1 = some (pt (f_X9_runEnd l d n m H).1) ∧ RH g res.2 (f_X9_runEnd l d n m H).2) 111 [rf (g 4), pt l, pt d, pt n, lg m, rvU, w] [] H := by
  have hj : 3 < 316 := by decide
  refine J_ld 112 jw hj rfl rfl rfl rfl ?_
  refine J_ifc (t := 166) jw hj rfl (evn rfl) rfl (fun (h0 : ¬ d = 0) => ?_) (fun (h0 : d = 0) => ?_)
  · refine J_ld 167 jw hj rfl rfl rfl rfl ?_
    refine J_gfR (k := 9) jw hj rfl (evn rfl) (by decide) (by decide) (RFa hr rfl) ?_
    refine J_ld 171 jw hj rfl rfl rfl rfl ?_
    refine J_gfI jw hj rfl (evn rfl) (by decide) rfl (fun r0 => ?_)
    refine J_ld 175 jw hj rfl rfl rfl rfl ?_
    refine J_iast jw hj rfl (Or.inl rfl) (fun _ => ?_)
    refine J_ld 177 jw hj rfl rfl rfl rfl ?_
    refine J_ifc (t := 189) jw hj rfl (evn rfl) rfl (fun (h1 : ¬ l = 0) => ?_) (fun (h1 : l = 0) => ?_)
    · refine J_cst 190 jw hj rfl rfl rfl ?_
      exact J_ret rfl (Or.inl rfl) (fun aw hR => by show _ ∧ _; unfold f_X9_runEnd; rw [if_neg h0, if_neg h1]; exact ⟨rfl, hR⟩)
    · refine J_ld 181 jw hj rfl rfl rfl rfl ?_
      refine J_cst 182 jw hj rfl rfl rfl ?_
      refine J_icmp (t := 189) jw hj rfl (evn rfl) rfl (fun (h2 : 3 < d) => ?_) (fun (h2 : ¬ 3 < d) => ?_)
      · refine J_cst 190 jw hj rfl rfl rfl ?_
        exact J_ret rfl (Or.inl rfl) (fun aw hR => by show _ ∧ _; unfold f_X9_runEnd; rw [if_neg h0, if_pos h1, if_pos h2]; exact ⟨rfl, hR⟩)
      · refine J_cst 186 jw hj rfl rfl rfl ?_
        refine J_goto 190 jw hj rfl rfl ?_
        exact J_ret rfl (Or.inl rfl) (fun aw hR => by show _ ∧ _; unfold f_X9_runEnd; rw [if_neg h0, if_pos h1, if_neg h2]; exact ⟨rfl, hR⟩)
  · refine J_ld 116 jw hj rfl rfl rfl rfl ?_
    refine J_cst 118 jw hj rfl rfl rfl ?_
    refine J_icmp (t := 166) jw hj rfl (evn rfl) rfl (fun (h3 : 7 < l) => ?_) (fun (h3 : ¬ 7 < l) => ?_)
    · refine J_ld 167 jw hj rfl rfl rfl rfl ?_
      refine J_gfR (k := 9) jw hj rfl (evn rfl) (by decide) (by decide) (RFa hr rfl) ?_
      refine J_ld 171 jw hj rfl rfl rfl rfl ?_
      refine J_gfI jw hj rfl (evn rfl) (by decide) rfl (fun r1 => ?_)
      refine J_ld 175 jw hj rfl rfl rfl rfl ?_
      refine J_iast jw hj rfl (Or.inl rfl) (fun _ => ?_)
      refine J_ld 177 jw hj rfl rfl rfl rfl ?_
      refine J_ifc (t := 189) jw hj rfl (evn rfl) rfl (fun (h4 : ¬ l = 0) => ?_) (fun (h4 : l = 0) => ?_)
      · refine J_cst 190 jw hj rfl rfl rfl ?_
        exact J_ret rfl (Or.inl rfl) (fun aw hR => by show _ ∧ _; unfold f_X9_runEnd; rw [if_pos h0, if_pos h3, if_neg h4]; exact ⟨rfl, hR⟩)
      · refine J_ld 181 jw hj rfl rfl rfl rfl ?_
        refine J_cst 182 jw hj rfl rfl rfl ?_
        refine J_icmp (t := 189) jw hj rfl (evn rfl) rfl (fun (h5 : 3 < d) => ?_) (fun (h5 : ¬ 3 < d) => ?_)
        · refine J_cst 190 jw hj rfl rfl rfl ?_
          exact J_ret rfl (Or.inl rfl) (fun aw hR => by show _ ∧ _; unfold f_X9_runEnd; rw [if_pos h0, if_pos h3, if_pos h4, if_pos h5]; exact ⟨rfl, hR⟩)
        · refine J_cst 186 jw hj rfl rfl rfl ?_
          refine J_goto 190 jw hj rfl rfl ?_
          exact J_ret rfl (Or.inl rfl) (fun aw hR => by show _ ∧ _; unfold f_X9_runEnd; rw [if_pos h0, if_pos h3, if_pos h4, if_neg h5]; exact ⟨rfl, hR⟩)
    · refine J_ld 122 jw hj rfl rfl rfl rfl ?_
      refine J_gfR (k := 10) jw hj rfl (evn rfl) (by decide) (by decide) (RFa hr rfl) ?_
      refine J_ld 126 jw hj rfl rfl rfl rfl ?_
      refine J_gfI jw hj rfl (evn rfl) (by decide) rfl (fun r2 => ?_)
      refine J_ld 131 jw hj rfl rfl rfl rfl ?_
      refine J_last jw hj rfl (evn rfl) (fun _ => ?_)
      refine J_ld 133 jw hj rfl rfl rfl rfl ?_
      refine J_gfR (k := 9) jw hj rfl (evn rfl) (by decide) (by decide) (RFa hr rfl) ?_
      refine J_ld 137 jw hj rfl rfl rfl rfl ?_
      refine J_gfI jw hj rfl (evn rfl) (by decide) rfl (fun r3 => ?_)
      refine J_ld 141 jw hj rfl rfl rfl rfl ?_
      refine J_ld 143 jw hj rfl rfl rfl rfl ?_
      refine J_callV1 jw rfl (Or.inl ⟨_, rfl⟩) rfl rfl (sp_X9_wordOf (g := g) m (upL H 10 (H.1 4 7).toNat m) hr) ?_
      refine J_iast jw hj rfl (Or.inl rfl) (fun _ => ?_)
      refine J_ld 148 jw hj rfl rfl rfl rfl ?_
      refine J_gfR (k := 9) jw hj rfl (evn rfl) (by decide) (by decide) (RFa hr rfl) ?_
      refine J_ld 152 jw hj rfl rfl rfl rfl ?_
      refine J_gfI jw hj rfl (evn rfl) (by decide) rfl (fun r4 => ?_)
      refine J_iald jw hj rfl (Or.inl rfl) (fun z5 r5 => ?_)
      refine J_cst 157 jw hj rfl rfl rfl ?_
      refine J_icmp (t := 164) jw hj rfl (evn rfl) rfl (fun (h6 : ¬ ((upI (upL H 10 (H.1 4 7).toNat m) 9 (H.1 4 7).toNat (f_X9_wordOf m H)).1 9 (H.1 4 7).toNat) = (-1)) => ?_) (fun (h6 : ((upI (upL H 10 (H.1 4 7).toNat m) 9 (H.1 4 7).toNat (f_X9_wordOf m H)).1 9 (H.1 4 7).toNat) = (-1)) => ?_)
      · refine J_cst 165 jw hj rfl rfl rfl ?_
        exact J_ret rfl (Or.inl rfl) (fun aw hR => by show _ ∧ _; unfold f_X9_runEnd; rw [if_pos h0, if_neg h3, if_neg h6]; exact ⟨rfl, hR⟩)
      · refine J_cst 161 jw hj rfl rfl rfl ?_
        refine J_goto 165 jw hj rfl rfl ?_
        exact J_ret rfl (Or.inl rfl) (fun aw hR => by show _ ∧ _; unfold f_X9_runEnd; rw [if_pos h0, if_neg h3, if_pos h6]; exact ⟨rfl, hR⟩)
theorem rf_X9_runEnd (l : Int) (d : Int) (n : Int) (m : Int64) (H : hH) (hr : RF H.2.2.1) : RF (f_X9_runEnd l d n m H).2.2.2.1 := by
  unfold f_X9_runEnd
  by_cases q1 : d = 0
  · rw [if_pos q1]
    by_cases q2 : 7 < l
    · rw [if_pos q2]
      by_cases q3 : l = 0
      · rw [if_pos q3]
        by_cases q4 : 3 < d
        · rw [if_pos q4]
          exact hr
        · rw [if_neg q4]
          exact hr
      · rw [if_neg q3]
        exact hr
    · rw [if_neg q2]
      by_cases q3 : ((upI (upL H 10 (H.1 4 7).toNat m) 9 (H.1 4 7).toNat (f_X9_wordOf m H)).1 9 (H.1 4 7).toNat) = (-1)
      · rw [if_pos q3]
        exact hr
      · rw [if_neg q3]
        exact hr
  · rw [if_neg q1]
    by_cases q2 : l = 0
    · rw [if_pos q2]
      by_cases q3 : 3 < d
      · rw [if_pos q3]
        exact hr
      · rw [if_neg q3]
        exact hr
    · rw [if_neg q2]
      exact hr
def f_X9_scanRun (H : hH) : Int × hH := f_X9_runEnd (f_X9_run (H.1 4 2 - H.1 4 8).toNat 0 0 0 0 H).1 (f_X9_run (H.1 4 2 - H.1 4 8).toNat 0 0 0 0 H).2.1 (f_X9_run (H.1 4 2 - H.1 4 8).toNat 0 0 0 0 H).2.2.1 (f_X9_run (H.1 4 2 - H.1 4 8).toNat 0 0 0 0 H).2.2.2.1 (f_X9_run (H.1 4 2 - H.1 4 8).toNat 0 0 0 0 H).2.2.2.2
theorem rf_X9_scanRun (H : hH) (hr : RF H.2.2.1) : RF (f_X9_scanRun H).2.2.2.1 := rf_X9_runEnd _ _ _ _ _ (rf_X9_run _ 0 0 0 0 H hr)
theorem sp_X9_scanRun {g : Nat → Nat} (H : hH) (hr : RF H.2.2.1) : SP g rvTab rvInf rvRet 316 rvMth 3 [rf (g 4)] H (some (pt (f_X9_scanRun H).1)) (f_X9_scanRun H).2 := by
  have hj : 3 < 316 := by decide
  refine J_SP hj (Nat.le_of_ble_eq_true rfl) ?_
  show J g rvTab rvInf rvRet 316 rvMth 3 _ 0 [rf (g 4), rvU, rvU, rvU, rvU, rvU, rvU] [] H
  refine J_cst 1 jw hj rfl rfl rfl ?_
  refine J_st 2 [rf (g 4), pt 0, rvU, rvU, rvU, rvU, rvU] (k := 1) jw hj rfl (Or.inr (Or.inr (Or.inl ⟨_, rfl, rfl, rfl⟩))) rfl ?_
  refine J_cst 3 jw hj rfl rfl rfl ?_
  refine J_st 4 [rf (g 4), pt 0, pt 0, rvU, rvU, rvU, rvU] (k := 2) jw hj rfl (Or.inr (Or.inr (Or.inl ⟨_, rfl, rfl, rfl⟩))) rfl ?_
  refine J_cst 5 jw hj rfl rfl rfl ?_
  refine J_st 6 [rf (g 4), pt 0, pt 0, pt 0, rvU, rvU, rvU] (k := 3) jw hj rfl (Or.inr (Or.inr (Or.inl ⟨_, rfl, rfl, rfl⟩))) rfl ?_
  refine J_lc (n := 0) 7 jw hj rfl (Or.inl ⟨_, rfl, by decide +kernel, rfl⟩) ?_
  refine J_lst 9 [rf (g 4), pt 0, pt 0, pt 0, lg 0, rvU, rvU] (k := 4) jw hj rfl (Or.inl ⟨rfl, rfl⟩) rfl ?_
  exact lp_X9_run _ 0 0 0 0 H rvU hr (Nat.le_refl _) (fun w => jx_X9_runEnd _ _ _ _ _ (rf_X9_run _ 0 0 0 0 H hr))
def f_X9_tok (a1 : Int) (H : hH) : Int × hH :=
  if a1 < H.1 4 2 then
    if H.1 4 8 < a1 then
      if H.1 4 8 < H.1 4 2 then
        if f_X9_isDigit (H.1 5 (H.1 4 8).toNat) = 0 then
          if f_X9_isLetter (H.1 5 (H.1 4 8).toNat) = 0 then
            if f_X9_isSignByte (H.1 5 (H.1 4 8).toNat) = 0 then
              (0, (upI (upI (upI (upL (upI H 9 (H.1 4 7).toNat 0) 10 (H.1 4 7).toNat 0) 8 (H.1 4 7).toNat (H.1 4 8)) 4 8 (iAdd (H.1 4 8) 1)) 9 (H.1 4 7).toNat (H.1 5 (H.1 4 8).toNat)))
            else
              (2, (upI (upI (upI (upL (upI H 9 (H.1 4 7).toNat 0) 10 (H.1 4 7).toNat 0) 8 (H.1 4 7).toNat (H.1 4 8)) 4 8 (iAdd (H.1 4 8) 1)) 9 (H.1 4 7).toNat (H.1 5 (H.1 4 8).toNat)))
          else
            ((f_X9_scanRun (upI (upL (upI H 9 (H.1 4 7).toNat 0) 10 (H.1 4 7).toNat 0) 8 (H.1 4 7).toNat (H.1 4 8))).1, (f_X9_scanRun (upI (upL (upI H 9 (H.1 4 7).toNat 0) 10 (H.1 4 7).toNat 0) 8 (H.1 4 7).toNat (H.1 4 8))).2)
        else
          ((f_X9_scanRun (upI (upL (upI H 9 (H.1 4 7).toNat 0) 10 (H.1 4 7).toNat 0) 8 (H.1 4 7).toNat (H.1 4 8))).1, (f_X9_scanRun (upI (upL (upI H 9 (H.1 4 7).toNat 0) 10 (H.1 4 7).toNat 0) 8 (H.1 4 7).toNat (H.1 4 8))).2)
      else
        (1, (upI (upL (upI H 9 (H.1 4 7).toNat 0) 10 (H.1 4 7).toNat 0) 8 (H.1 4 7).toNat (H.1 4 8)))
    else
      (0, (upI (upI (upL (upI H 9 (H.1 4 7).toNat 0) 10 (H.1 4 7).toNat 0) 8 (H.1 4 7).toNat (H.1 4 8)) 8 (H.1 4 7).toNat a1))
  else
    if H.1 4 8 < H.1 4 2 then
      if f_X9_isDigit (H.1 5 (H.1 4 8).toNat) = 0 then
        if f_X9_isLetter (H.1 5 (H.1 4 8).toNat) = 0 then
          if f_X9_isSignByte (H.1 5 (H.1 4 8).toNat) = 0 then
            (0, (upI (upI (upI (upL (upI H 9 (H.1 4 7).toNat 0) 10 (H.1 4 7).toNat 0) 8 (H.1 4 7).toNat (H.1 4 8)) 4 8 (iAdd (H.1 4 8) 1)) 9 (H.1 4 7).toNat (H.1 5 (H.1 4 8).toNat)))
          else
            (2, (upI (upI (upI (upL (upI H 9 (H.1 4 7).toNat 0) 10 (H.1 4 7).toNat 0) 8 (H.1 4 7).toNat (H.1 4 8)) 4 8 (iAdd (H.1 4 8) 1)) 9 (H.1 4 7).toNat (H.1 5 (H.1 4 8).toNat)))
        else
          ((f_X9_scanRun (upI (upL (upI H 9 (H.1 4 7).toNat 0) 10 (H.1 4 7).toNat 0) 8 (H.1 4 7).toNat (H.1 4 8))).1, (f_X9_scanRun (upI (upL (upI H 9 (H.1 4 7).toNat 0) 10 (H.1 4 7).toNat 0) 8 (H.1 4 7).toNat (H.1 4 8))).2)
      else
        ((f_X9_scanRun (upI (upL (upI H 9 (H.1 4 7).toNat 0) 10 (H.1 4 7).toNat 0) 8 (H.1 4 7).toNat (H.1 4 8))).1, (f_X9_scanRun (upI (upL (upI H 9 (H.1 4 7).toNat 0) 10 (H.1 4 7).toNat 0) 8 (H.1 4 7).toNat (H.1 4 8))).2)
    else
      (1, (upI (upL (upI H 9 (H.1 4 7).toNat 0) 10 (H.1 4 7).toNat 0) 8 (H.1 4 7).toNat (H.1 4 8)))
set_option maxHeartbeats 16000000 in
set_option maxRecDepth 100000 in
theorem jx_X9_tok {g : Nat → Nat} (a1 : Int) {w : rvV} (H : hH) (hr : RF H.2.2.1) : J g rvTab rvInf rvRet 316 rvMth 4 (fun res => res.1 = some (pt (f_X9_tok a1 H).1) ∧ RH g res.2 (f_X9_tok a1 H).2) 39 [rf (g 4), pt a1, w] [] H := by
  have hj : 4 < 316 := by decide
  refine J_ld 40 jw hj rfl rfl rfl rfl ?_
  refine J_gfR (k := 9) jw hj rfl (evn rfl) (by decide) (by decide) (RFa hr rfl) ?_
  refine J_ld 44 jw hj rfl rfl rfl rfl ?_
  refine J_gfI jw hj rfl (evn rfl) (by decide) rfl (fun r0 => ?_)
  refine J_cst 48 jw hj rfl rfl rfl ?_
  refine J_iast jw hj rfl (Or.inl rfl) (fun _ => ?_)
  refine J_ld 50 jw hj rfl rfl rfl rfl ?_
  refine J_gfR (k := 10) jw hj rfl (evn rfl) (by decide) (by decide) (RFa hr rfl) ?_
  refine J_ld 54 jw hj rfl rfl rfl rfl ?_
  refine J_gfI jw hj rfl (evn rfl) (by decide) rfl (fun r1 => ?_)
  refine J_lc (n := 0) 58 jw hj rfl (Or.inl ⟨_, rfl, by decide +kernel, rfl⟩) ?_
  refine J_last jw hj rfl (evn rfl) (fun _ => ?_)
  refine J_ld 60 jw hj rfl rfl rfl rfl ?_
  refine J_gfR (k := 8) jw hj rfl (evn rfl) (by decide) (by decide) (RFa hr rfl) ?_
  refine J_ld 64 jw hj rfl rfl rfl rfl ?_
  refine J_gfI jw hj rfl (evn rfl) (by decide) rfl (fun r2 => ?_)
  refine J_ld 68 jw hj rfl rfl rfl rfl ?_
  refine J_gfI jw hj rfl (evn rfl) (by decide) rfl (fun r3 => ?_)
  refine J_iast jw hj rfl (Or.inl rfl) (fun _ => ?_)
  refine J_ld 73 jw hj rfl rfl rfl rfl ?_
  refine J_gfI jw hj rfl (evn rfl) (by decide) rfl (fun r4 => ?_)
  refine J_ld 77 jw hj rfl rfl rfl rfl ?_
  refine J_icmp (t := 100) jw hj rfl (evn rfl) rfl (fun (h0 : ¬ a1 < H.1 4 2) => ?_) (fun (h0 : a1 < H.1 4 2) => ?_)
  · refine J_ld 101 jw hj rfl rfl rfl rfl ?_
    refine J_gfI jw hj rfl (evn rfl) (by decide) rfl (fun r5 => ?_)
    refine J_ld 105 jw hj rfl rfl rfl rfl ?_
    refine J_gfI jw hj rfl (evn rfl) (by decide) rfl (fun r6 => ?_)
    refine J_icmp (t := 113) jw hj rfl (evn rfl) rfl (fun (h1 : H.1 4 8 < H.1 4 2) => ?_) (fun (h1 : ¬ H.1 4 8 < H.1 4 2) => ?_)
    · refine J_ld 114 jw hj rfl rfl rfl rfl ?_
      refine J_gfR (k := 5) jw hj rfl (evn rfl) (by decide) (by decide) (RFa hr rfl) ?_
      refine J_ld 118 jw hj rfl rfl rfl rfl ?_
      refine J_gfI jw hj rfl (evn rfl) (by decide) rfl (fun r7 => ?_)
      refine J_iald jw hj rfl (Or.inr rfl) (fun z8 r8 => ?_)
      refine J_st 123 [rf (g 4), pt a1, pt (H.1 5 (H.1 4 8).toNat)] (k := 2) jw hj rfl (Or.inr (Or.inr (Or.inl ⟨_, rfl, rfl, rfl⟩))) rfl ?_
      refine J_ld 124 jw hj rfl rfl rfl rfl ?_
      refine J_callS1 jw rfl rfl rfl rfl (sp_X9_isDigit (g := g) (H.1 5 (H.1 4 8).toNat) (upI (upL (upI H 9 (H.1 4 7).toNat 0) 10 (H.1 4 7).toNat 0) 8 (H.1 4 7).toNat (H.1 4 8))) ?_
      refine J_ifc (t := 137) jw hj rfl (evn rfl) rfl (fun (h2 : ¬ f_X9_isDigit (H.1 5 (H.1 4 8).toNat) = 0) => ?_) (fun (h2 : f_X9_isDigit (H.1 5 (H.1 4 8).toNat) = 0) => ?_)
      · refine J_ld 138 jw hj rfl rfl rfl rfl ?_
        refine J_callV1 jw rfl (Or.inl ⟨_, rfl⟩) rfl rfl (sp_X9_scanRun (g := g) (upI (upL (upI H 9 (H.1 4 7).toNat 0) 10 (H.1 4 7).toNat 0) 8 (H.1 4 7).toNat (H.1 4 8)) hr) ?_
        exact J_ret rfl (Or.inl rfl) (fun aw hR => by show _ ∧ _; unfold f_X9_tok; rw [if_neg h0, if_pos h1, if_neg h2]; exact ⟨rfl, hR⟩)
      · refine J_ld 131 jw hj rfl rfl rfl rfl ?_
        refine J_callS1 jw rfl rfl rfl rfl (sp_X9_isLetter (g := g) (H.1 5 (H.1 4 8).toNat) (upI (upL (upI H 9 (H.1 4 7).toNat 0) 10 (H.1 4 7).toNat 0) 8 (H.1 4 7).toNat (H.1 4 8))) ?_
        refine J_ifc (t := 142) jw hj rfl (evn rfl) rfl (fun (h3 : f_X9_isLetter (H.1 5 (H.1 4 8).toNat) = 0) => ?_) (fun (h3 : ¬ f_X9_isLetter (H.1 5 (H.1 4 8).toNat) = 0) => ?_)
        · refine J_ld 143 jw hj rfl rfl rfl rfl ?_
          refine J_dup 144 jw hj rfl rfl ?_
          refine J_gfI jw hj rfl (evn rfl) (by decide) rfl (fun r9 => ?_)
          refine J_cst 148 jw hj rfl rfl rfl ?_
          refine J_bin jw hj rfl rfl ?_
          refine J_pfI jw hj rfl (evn rfl) rfl ?_
          refine J_ld 153 jw hj rfl rfl rfl rfl ?_
          refine J_gfR (k := 9) jw hj rfl (evn rfl) (by decide) (by decide) (RFa hr rfl) ?_
          refine J_ld 157 jw hj rfl rfl rfl rfl ?_
          refine J_gfI jw hj rfl (evn rfl) (by decide) rfl (fun r10 => ?_)
          refine J_ld 161 jw hj rfl rfl rfl rfl ?_
          refine J_iast jw hj rfl (Or.inl rfl) (fun _ => ?_)
          refine J_ld 163 jw hj rfl rfl rfl rfl ?_
          refine J_callS1 jw rfl rfl rfl rfl (sp_X9_isSignByte (g := g) (H.1 5 (H.1 4 8).toNat) (upI (upI (upI (upL (upI H 9 (H.1 4 7).toNat 0) 10 (H.1 4 7).toNat 0) 8 (H.1 4 7).toNat (H.1 4 8)) 4 8 (iAdd (H.1 4 8) 1)) 9 (H.1 4 7).toNat (H.1 5 (H.1 4 8).toNat))) ?_
          refine J_ifc (t := 173) jw hj rfl (evn rfl) rfl (fun (h4 : f_X9_isSignByte (H.1 5 (H.1 4 8).toNat) = 0) => ?_) (fun (h4 : ¬ f_X9_isSignByte (H.1 5 (H.1 4 8).toNat) = 0) => ?_)
          · refine J_cst 174 jw hj rfl rfl rfl ?_
            exact J_ret rfl (Or.inl rfl) (fun aw hR => by show _ ∧ _; unfold f_X9_tok; rw [if_neg h0, if_pos h1, if_pos h2, if_pos h3, if_pos h4]; exact ⟨rfl, hR⟩)
          · refine J_cst 170 jw hj rfl rfl rfl ?_
            refine J_goto 174 jw hj rfl rfl ?_
            exact J_ret rfl (Or.inl rfl) (fun aw hR => by show _ ∧ _; unfold f_X9_tok; rw [if_neg h0, if_pos h1, if_pos h2, if_pos h3, if_neg h4]; exact ⟨rfl, hR⟩)
        · refine J_ld 138 jw hj rfl rfl rfl rfl ?_
          refine J_callV1 jw rfl (Or.inl ⟨_, rfl⟩) rfl rfl (sp_X9_scanRun (g := g) (upI (upL (upI H 9 (H.1 4 7).toNat 0) 10 (H.1 4 7).toNat 0) 8 (H.1 4 7).toNat (H.1 4 8)) hr) ?_
          exact J_ret rfl (Or.inl rfl) (fun aw hR => by show _ ∧ _; unfold f_X9_tok; rw [if_neg h0, if_pos h1, if_pos h2, if_neg h3]; exact ⟨rfl, hR⟩)
    · refine J_cst 112 jw hj rfl rfl rfl ?_
      exact J_ret rfl (Or.inl rfl) (fun aw hR => by show _ ∧ _; unfold f_X9_tok; rw [if_neg h0, if_neg h1]; exact ⟨rfl, hR⟩)
  · refine J_ld 81 jw hj rfl rfl rfl rfl ?_
    refine J_gfI jw hj rfl (evn rfl) (by decide) rfl (fun r11 => ?_)
    refine J_ld 85 jw hj rfl rfl rfl rfl ?_
    refine J_icmp (t := 100) jw hj rfl (evn rfl) rfl (fun (h5 : H.1 4 8 < a1) => ?_) (fun (h5 : ¬ H.1 4 8 < a1) => ?_)
    · refine J_ld 101 jw hj rfl rfl rfl rfl ?_
      refine J_gfI jw hj rfl (evn rfl) (by decide) rfl (fun r12 => ?_)
      refine J_ld 105 jw hj rfl rfl rfl rfl ?_
      refine J_gfI jw hj rfl (evn rfl) (by decide) rfl (fun r13 => ?_)
      refine J_icmp (t := 113) jw hj rfl (evn rfl) rfl (fun (h6 : H.1 4 8 < H.1 4 2) => ?_) (fun (h6 : ¬ H.1 4 8 < H.1 4 2) => ?_)
      · refine J_ld 114 jw hj rfl rfl rfl rfl ?_
        refine J_gfR (k := 5) jw hj rfl (evn rfl) (by decide) (by decide) (RFa hr rfl) ?_
        refine J_ld 118 jw hj rfl rfl rfl rfl ?_
        refine J_gfI jw hj rfl (evn rfl) (by decide) rfl (fun r14 => ?_)
        refine J_iald jw hj rfl (Or.inr rfl) (fun z15 r15 => ?_)
        refine J_st 123 [rf (g 4), pt a1, pt (H.1 5 (H.1 4 8).toNat)] (k := 2) jw hj rfl (Or.inr (Or.inr (Or.inl ⟨_, rfl, rfl, rfl⟩))) rfl ?_
        refine J_ld 124 jw hj rfl rfl rfl rfl ?_
        refine J_callS1 jw rfl rfl rfl rfl (sp_X9_isDigit (g := g) (H.1 5 (H.1 4 8).toNat) (upI (upL (upI H 9 (H.1 4 7).toNat 0) 10 (H.1 4 7).toNat 0) 8 (H.1 4 7).toNat (H.1 4 8))) ?_
        refine J_ifc (t := 137) jw hj rfl (evn rfl) rfl (fun (h7 : ¬ f_X9_isDigit (H.1 5 (H.1 4 8).toNat) = 0) => ?_) (fun (h7 : f_X9_isDigit (H.1 5 (H.1 4 8).toNat) = 0) => ?_)
        · refine J_ld 138 jw hj rfl rfl rfl rfl ?_
          refine J_callV1 jw rfl (Or.inl ⟨_, rfl⟩) rfl rfl (sp_X9_scanRun (g := g) (upI (upL (upI H 9 (H.1 4 7).toNat 0) 10 (H.1 4 7).toNat 0) 8 (H.1 4 7).toNat (H.1 4 8)) hr) ?_
          exact J_ret rfl (Or.inl rfl) (fun aw hR => by show _ ∧ _; unfold f_X9_tok; rw [if_pos h0, if_pos h5, if_pos h6, if_neg h7]; exact ⟨rfl, hR⟩)
        · refine J_ld 131 jw hj rfl rfl rfl rfl ?_
          refine J_callS1 jw rfl rfl rfl rfl (sp_X9_isLetter (g := g) (H.1 5 (H.1 4 8).toNat) (upI (upL (upI H 9 (H.1 4 7).toNat 0) 10 (H.1 4 7).toNat 0) 8 (H.1 4 7).toNat (H.1 4 8))) ?_
          refine J_ifc (t := 142) jw hj rfl (evn rfl) rfl (fun (h8 : f_X9_isLetter (H.1 5 (H.1 4 8).toNat) = 0) => ?_) (fun (h8 : ¬ f_X9_isLetter (H.1 5 (H.1 4 8).toNat) = 0) => ?_)
          · refine J_ld 143 jw hj rfl rfl rfl rfl ?_
            refine J_dup 144 jw hj rfl rfl ?_
            refine J_gfI jw hj rfl (evn rfl) (by decide) rfl (fun r16 => ?_)
            refine J_cst 148 jw hj rfl rfl rfl ?_
            refine J_bin jw hj rfl rfl ?_
            refine J_pfI jw hj rfl (evn rfl) rfl ?_
            refine J_ld 153 jw hj rfl rfl rfl rfl ?_
            refine J_gfR (k := 9) jw hj rfl (evn rfl) (by decide) (by decide) (RFa hr rfl) ?_
            refine J_ld 157 jw hj rfl rfl rfl rfl ?_
            refine J_gfI jw hj rfl (evn rfl) (by decide) rfl (fun r17 => ?_)
            refine J_ld 161 jw hj rfl rfl rfl rfl ?_
            refine J_iast jw hj rfl (Or.inl rfl) (fun _ => ?_)
            refine J_ld 163 jw hj rfl rfl rfl rfl ?_
            refine J_callS1 jw rfl rfl rfl rfl (sp_X9_isSignByte (g := g) (H.1 5 (H.1 4 8).toNat) (upI (upI (upI (upL (upI H 9 (H.1 4 7).toNat 0) 10 (H.1 4 7).toNat 0) 8 (H.1 4 7).toNat (H.1 4 8)) 4 8 (iAdd (H.1 4 8) 1)) 9 (H.1 4 7).toNat (H.1 5 (H.1 4 8).toNat))) ?_
            refine J_ifc (t := 173) jw hj rfl (evn rfl) rfl (fun (h9 : f_X9_isSignByte (H.1 5 (H.1 4 8).toNat) = 0) => ?_) (fun (h9 : ¬ f_X9_isSignByte (H.1 5 (H.1 4 8).toNat) = 0) => ?_)
            · refine J_cst 174 jw hj rfl rfl rfl ?_
              exact J_ret rfl (Or.inl rfl) (fun aw hR => by show _ ∧ _; unfold f_X9_tok; rw [if_pos h0, if_pos h5, if_pos h6, if_pos h7, if_pos h8, if_pos h9]; exact ⟨rfl, hR⟩)
            · refine J_cst 170 jw hj rfl rfl rfl ?_
              refine J_goto 174 jw hj rfl rfl ?_
              exact J_ret rfl (Or.inl rfl) (fun aw hR => by show _ ∧ _; unfold f_X9_tok; rw [if_pos h0, if_pos h5, if_pos h6, if_pos h7, if_pos h8, if_neg h9]; exact ⟨rfl, hR⟩)
          · refine J_ld 138 jw hj rfl rfl rfl rfl ?_
            refine J_callV1 jw rfl (Or.inl ⟨_, rfl⟩) rfl rfl (sp_X9_scanRun (g := g) (upI (upL (upI H 9 (H.1 4 7).toNat 0) 10 (H.1 4 7).toNat 0) 8 (H.1 4 7).toNat (H.1 4 8)) hr) ?_
            exact J_ret rfl (Or.inl rfl) (fun aw hR => by show _ ∧ _; unfold f_X9_tok; rw [if_pos h0, if_pos h5, if_pos h6, if_pos h7, if_neg h8]; exact ⟨rfl, hR⟩)
      · refine J_cst 112 jw hj rfl rfl rfl ?_
        exact J_ret rfl (Or.inl rfl) (fun aw hR => by show _ ∧ _; unfold f_X9_tok; rw [if_pos h0, if_pos h5, if_neg h6]; exact ⟨rfl, hR⟩)
    · refine J_ld 89 jw hj rfl rfl rfl rfl ?_
      refine J_gfR (k := 8) jw hj rfl (evn rfl) (by decide) (by decide) (RFa hr rfl) ?_
      refine J_ld 93 jw hj rfl rfl rfl rfl ?_
      refine J_gfI jw hj rfl (evn rfl) (by decide) rfl (fun r18 => ?_)
      refine J_ld 97 jw hj rfl rfl rfl rfl ?_
      refine J_iast jw hj rfl (Or.inl rfl) (fun _ => ?_)
      refine J_cst 99 jw hj rfl rfl rfl ?_
      exact J_ret rfl (Or.inl rfl) (fun aw hR => by show _ ∧ _; unfold f_X9_tok; rw [if_pos h0, if_neg h5]; exact ⟨rfl, hR⟩)
theorem rf_X9_tok (a1 : Int) (H : hH) (hr : RF H.2.2.1) : RF (f_X9_tok a1 H).2.2.2.1 := by
  unfold f_X9_tok
  by_cases q1 : a1 < H.1 4 2
  · rw [if_pos q1]
    by_cases q2 : H.1 4 8 < a1
    · rw [if_pos q2]
      by_cases q3 : H.1 4 8 < H.1 4 2
      · rw [if_pos q3]
        by_cases q4 : f_X9_isDigit (H.1 5 (H.1 4 8).toNat) = 0
        · rw [if_pos q4]
          by_cases q5 : f_X9_isLetter (H.1 5 (H.1 4 8).toNat) = 0
          · rw [if_pos q5]
            by_cases q6 : f_X9_isSignByte (H.1 5 (H.1 4 8).toNat) = 0
            · rw [if_pos q6]
              exact hr
            · rw [if_neg q6]
              exact hr
          · rw [if_neg q5]
            exact (rf_X9_scanRun (upI (upL (upI H 9 (H.1 4 7).toNat 0) 10 (H.1 4 7).toNat 0) 8 (H.1 4 7).toNat (H.1 4 8)) hr)
        · rw [if_neg q4]
          exact (rf_X9_scanRun (upI (upL (upI H 9 (H.1 4 7).toNat 0) 10 (H.1 4 7).toNat 0) 8 (H.1 4 7).toNat (H.1 4 8)) hr)
      · rw [if_neg q3]
        exact hr
    · rw [if_neg q2]
      exact hr
  · rw [if_neg q1]
    by_cases q2 : H.1 4 8 < H.1 4 2
    · rw [if_pos q2]
      by_cases q3 : f_X9_isDigit (H.1 5 (H.1 4 8).toNat) = 0
      · rw [if_pos q3]
        by_cases q4 : f_X9_isLetter (H.1 5 (H.1 4 8).toNat) = 0
        · rw [if_pos q4]
          by_cases q5 : f_X9_isSignByte (H.1 5 (H.1 4 8).toNat) = 0
          · rw [if_pos q5]
            exact hr
          · rw [if_neg q5]
            exact hr
        · rw [if_neg q4]
          exact (rf_X9_scanRun (upI (upL (upI H 9 (H.1 4 7).toNat 0) 10 (H.1 4 7).toNat 0) 8 (H.1 4 7).toNat (H.1 4 8)) hr)
      · rw [if_neg q3]
        exact (rf_X9_scanRun (upI (upL (upI H 9 (H.1 4 7).toNat 0) 10 (H.1 4 7).toNat 0) 8 (H.1 4 7).toNat (H.1 4 8)) hr)
    · rw [if_neg q2]
      exact hr
def f_X9_scanToken (a1 : Int) (H : hH) : Int × hH := f_X9_tok a1 (f_X9_blanks a1 (H.1 4 2 - H.1 4 8).toNat H)
theorem rf_X9_scanToken (a1 : Int) (H : hH) (hr : RF H.2.2.1) : RF (f_X9_scanToken a1 H).2.2.2.1 := rf_X9_tok a1 _ (rf_X9_blanks a1 _ H hr)
theorem sp_X9_scanToken {g : Nat → Nat} (a1 : Int) (H : hH) (hr : RF H.2.2.1) : SP g rvTab rvInf rvRet 316 rvMth 4 [rf (g 4), pt a1] H (some (pt (f_X9_scanToken a1 H).1)) (f_X9_scanToken a1 H).2 := by
  have hj : 4 < 316 := by decide
  refine J_SP hj (Nat.le_of_ble_eq_true rfl) ?_
  show J g rvTab rvInf rvRet 316 rvMth 4 _ 0 [rf (g 4), pt a1, rvU] [] H
  exact lp_X9_blanks a1 _ H rvU hr (Nat.le_refl _) (fun w => jx_X9_tok a1 _ (rf_X9_blanks a1 _ H hr))
def f_X12_nxEnd (c : Int) (s : Int) (a : Int) (H : hH) : hH :=
  if a = 0 then
    (upI H 29 11 4)
  else
    if s = 0 then
      if 3 < H.1 29 13 then
        (upI H 29 11 4)
      else
        if s = 0 then
          (upI H 29 11 2)
        else
          (upI H 29 11 1)
    else
      if 7 < H.1 29 13 then
        (upI H 29 11 4)
      else
        if s = 0 then
          (upI H 29 11 2)
        else
          (upI H 29 11 1)
set_option maxHeartbeats 16000000 in
set_option maxRecDepth 100000 in
theorem jx_X12_nxEnd {g : Nat → Nat} (c : Int) (s : Int) (a : Int) (H : hH) (hr : RM H.2.2.1) : J g rvTab rvInf rvRet 316 rvMth 18 (fun res => res.1 = none ∧ RH g res.2 (f_X12_nxEnd c s a H)) 298 [rf (g 29), pt c, pt s, pt a] [] H := by
  have hj : 18 < 316 := by decide
  refine J_ld 299 jw hj rfl rfl rfl rfl ?_
  refine J_ld 300 jw hj rfl rfl rfl rfl ?_
  refine J_ifc (t := 320) jw hj rfl (evn rfl) rfl (fun (h0 : a = 0) => ?_) (fun (h0 : ¬ a = 0) => ?_)
  · refine J_cst 321 jw hj rfl rfl rfl ?_
    refine J_goto 333 jw hj rfl rfl ?_
    refine J_pfI jw hj rfl (evn rfl) rfl ?_
    exact J_ret rfl (Or.inr (Or.inr rfl)) (fun aw hR => by show _ ∧ _; unfold f_X12_nxEnd; rw [if_pos h0]; exact ⟨rfl, hR⟩)
  · refine J_ld 304 jw hj rfl rfl rfl rfl ?_
    refine J_gfI jw hj rfl (evn rfl) (by decide) rfl (fun r0 => ?_)
    refine J_ld 308 jw hj rfl rfl rfl rfl ?_
    refine J_ifc (t := 316) jw hj rfl (evn rfl) rfl (fun (h1 : s = 0) => ?_) (fun (h1 : ¬ s = 0) => ?_)
    · refine J_cst 317 jw hj rfl rfl rfl ?_
      refine J_icmp (t := 324) jw hj rfl (evn rfl) rfl (fun (h2 : ¬ 3 < H.1 29 13) => ?_) (fun (h2 : 3 < H.1 29 13) => ?_)
      · refine J_ld 325 jw hj rfl rfl rfl rfl ?_
        refine J_ifc (t := 332) jw hj rfl (evn rfl) rfl (fun (h3 : s = 0) => ?_) (fun (h3 : ¬ s = 0) => ?_)
        · refine J_cst 333 jw hj rfl rfl rfl ?_
          refine J_pfI jw hj rfl (evn rfl) rfl ?_
          exact J_ret rfl (Or.inr (Or.inr rfl)) (fun aw hR => by show _ ∧ _; unfold f_X12_nxEnd; rw [if_neg h0, if_pos h1, if_neg h2, if_pos h3]; exact ⟨rfl, hR⟩)
        · refine J_cst 329 jw hj rfl rfl rfl ?_
          refine J_goto 333 jw hj rfl rfl ?_
          refine J_pfI jw hj rfl (evn rfl) rfl ?_
          exact J_ret rfl (Or.inr (Or.inr rfl)) (fun aw hR => by show _ ∧ _; unfold f_X12_nxEnd; rw [if_neg h0, if_pos h1, if_neg h2, if_neg h3]; exact ⟨rfl, hR⟩)
      · refine J_cst 321 jw hj rfl rfl rfl ?_
        refine J_goto 333 jw hj rfl rfl ?_
        refine J_pfI jw hj rfl (evn rfl) rfl ?_
        exact J_ret rfl (Or.inr (Or.inr rfl)) (fun aw hR => by show _ ∧ _; unfold f_X12_nxEnd; rw [if_neg h0, if_pos h1, if_pos h2]; exact ⟨rfl, hR⟩)
    · refine J_cst 313 jw hj rfl rfl rfl ?_
      refine J_goto 317 jw hj rfl rfl ?_
      refine J_icmp (t := 324) jw hj rfl (evn rfl) rfl (fun (h4 : ¬ 7 < H.1 29 13) => ?_) (fun (h4 : 7 < H.1 29 13) => ?_)
      · refine J_ld 325 jw hj rfl rfl rfl rfl ?_
        refine J_ifc (t := 332) jw hj rfl (evn rfl) rfl (fun (h5 : s = 0) => ?_) (fun (h5 : ¬ s = 0) => ?_)
        · refine J_cst 333 jw hj rfl rfl rfl ?_
          refine J_pfI jw hj rfl (evn rfl) rfl ?_
          exact J_ret rfl (Or.inr (Or.inr rfl)) (fun aw hR => by show _ ∧ _; unfold f_X12_nxEnd; rw [if_neg h0, if_neg h1, if_neg h4, if_pos h5]; exact ⟨rfl, hR⟩)
        · refine J_cst 329 jw hj rfl rfl rfl ?_
          refine J_goto 333 jw hj rfl rfl ?_
          refine J_pfI jw hj rfl (evn rfl) rfl ?_
          exact J_ret rfl (Or.inr (Or.inr rfl)) (fun aw hR => by show _ ∧ _; unfold f_X12_nxEnd; rw [if_neg h0, if_neg h1, if_neg h4, if_neg h5]; exact ⟨rfl, hR⟩)
      · refine J_cst 321 jw hj rfl rfl rfl ?_
        refine J_goto 333 jw hj rfl rfl ?_
        refine J_pfI jw hj rfl (evn rfl) rfl ?_
        exact J_ret rfl (Or.inr (Or.inr rfl)) (fun aw hR => by show _ ∧ _; unfold f_X12_nxEnd; rw [if_neg h0, if_neg h1, if_pos h4]; exact ⟨rfl, hR⟩)
theorem rf_X12_nxEnd (c : Int) (s : Int) (a : Int) (H : hH) (hr : RM H.2.2.1) : RM (f_X12_nxEnd c s a H).2.2.1 := by
  unfold f_X12_nxEnd
  by_cases q1 : a = 0
  · rw [if_pos q1]
    exact hr
  · rw [if_neg q1]
    by_cases q2 : s = 0
    · rw [if_pos q2]
      by_cases q3 : 3 < H.1 29 13
      · rw [if_pos q3]
        exact hr
      · rw [if_neg q3]
        by_cases q4 : s = 0
        · rw [if_pos q4]
          exact hr
        · rw [if_neg q4]
          exact hr
    · rw [if_neg q2]
      by_cases q3 : 7 < H.1 29 13
      · rw [if_pos q3]
        exact hr
      · rw [if_neg q3]
        by_cases q4 : s = 0
        · rw [if_pos q4]
          exact hr
        · rw [if_neg q4]
          exact hr
def f_X12_nx2  (H : hH) : hH :=
  if H.1 29 5 < H.1 29 3 then
    if H.1 29 4 < H.1 29 5 then
      if f_X12_peek H < 0 then
        (upI (upI (upI H 29 12 (H.1 29 4)) 29 13 0) 29 11 0)
      else
        if f_X12_isSmall (f_X12_peek H) = 0 then
          if f_X12_isDigit (f_X12_peek H) = 0 then
            if f_X12_peek H = 59 then
              (upI (upI (upI (upI (upI H 29 12 (H.1 29 4)) 29 13 0) 29 11 3) 29 14 (f_X12_peek H)) 29 4 (iAdd (H.1 29 4) 1))
            else
              if f_X12_peek H = 40 then
                (upI (upI (upI (upI (upI H 29 12 (H.1 29 4)) 29 13 0) 29 11 3) 29 14 (f_X12_peek H)) 29 4 (iAdd (H.1 29 4) 1))
              else
                if f_X12_peek H = 41 then
                  (upI (upI (upI (upI (upI H 29 12 (H.1 29 4)) 29 13 0) 29 11 3) 29 14 (f_X12_peek H)) 29 4 (iAdd (H.1 29 4) 1))
                else
                  if f_X12_peek H < 60 then
                    (upI (upI (upI (upI (upI H 29 12 (H.1 29 4)) 29 13 0) 29 11 4) 29 14 (f_X12_peek H)) 29 4 (iAdd (H.1 29 4) 1))
                  else
                    if 62 < f_X12_peek H then
                      (upI (upI (upI (upI (upI H 29 12 (H.1 29 4)) 29 13 0) 29 11 4) 29 14 (f_X12_peek H)) 29 4 (iAdd (H.1 29 4) 1))
                    else
                      (upI (upI (upI (upI (upI H 29 12 (H.1 29 4)) 29 13 0) 29 11 3) 29 14 (f_X12_peek H)) 29 4 (iAdd (H.1 29 4) 1))
          else
            (f_X12_nxEnd (f_X12_peek H) (f_X12_isSmall (f_X12_peek H)) (f_X12_run (f_X12_peek H) (f_X12_isSmall (f_X12_peek H)) (H.1 29 3 - H.1 29 4).toNat 1 (upI (upL (upI (upI H 29 12 (H.1 29 4)) 29 13 0) 29 17 0) 29 14 0)).1 (f_X12_run (f_X12_peek H) (f_X12_isSmall (f_X12_peek H)) (H.1 29 3 - H.1 29 4).toNat 1 (upI (upL (upI (upI H 29 12 (H.1 29 4)) 29 13 0) 29 17 0) 29 14 0)).2)
        else
          (f_X12_nxEnd (f_X12_peek H) (f_X12_isSmall (f_X12_peek H)) (f_X12_run (f_X12_peek H) (f_X12_isSmall (f_X12_peek H)) (H.1 29 3 - H.1 29 4).toNat 1 (upI (upL (upI (upI H 29 12 (H.1 29 4)) 29 13 0) 29 17 0) 29 14 0)).1 (f_X12_run (f_X12_peek H) (f_X12_isSmall (f_X12_peek H)) (H.1 29 3 - H.1 29 4).toNat 1 (upI (upL (upI (upI H 29 12 (H.1 29 4)) 29 13 0) 29 17 0) 29 14 0)).2)
    else
      (upI (upI (upI (upI H 29 12 (H.1 29 4)) 29 13 0) 29 12 (H.1 29 5)) 29 11 4)
  else
    if f_X12_peek H < 0 then
      (upI (upI (upI H 29 12 (H.1 29 4)) 29 13 0) 29 11 0)
    else
      if f_X12_isSmall (f_X12_peek H) = 0 then
        if f_X12_isDigit (f_X12_peek H) = 0 then
          if f_X12_peek H = 59 then
            (upI (upI (upI (upI (upI H 29 12 (H.1 29 4)) 29 13 0) 29 11 3) 29 14 (f_X12_peek H)) 29 4 (iAdd (H.1 29 4) 1))
          else
            if f_X12_peek H = 40 then
              (upI (upI (upI (upI (upI H 29 12 (H.1 29 4)) 29 13 0) 29 11 3) 29 14 (f_X12_peek H)) 29 4 (iAdd (H.1 29 4) 1))
            else
              if f_X12_peek H = 41 then
                (upI (upI (upI (upI (upI H 29 12 (H.1 29 4)) 29 13 0) 29 11 3) 29 14 (f_X12_peek H)) 29 4 (iAdd (H.1 29 4) 1))
              else
                if f_X12_peek H < 60 then
                  (upI (upI (upI (upI (upI H 29 12 (H.1 29 4)) 29 13 0) 29 11 4) 29 14 (f_X12_peek H)) 29 4 (iAdd (H.1 29 4) 1))
                else
                  if 62 < f_X12_peek H then
                    (upI (upI (upI (upI (upI H 29 12 (H.1 29 4)) 29 13 0) 29 11 4) 29 14 (f_X12_peek H)) 29 4 (iAdd (H.1 29 4) 1))
                  else
                    (upI (upI (upI (upI (upI H 29 12 (H.1 29 4)) 29 13 0) 29 11 3) 29 14 (f_X12_peek H)) 29 4 (iAdd (H.1 29 4) 1))
        else
          (f_X12_nxEnd (f_X12_peek H) (f_X12_isSmall (f_X12_peek H)) (f_X12_run (f_X12_peek H) (f_X12_isSmall (f_X12_peek H)) (H.1 29 3 - H.1 29 4).toNat 1 (upI (upL (upI (upI H 29 12 (H.1 29 4)) 29 13 0) 29 17 0) 29 14 0)).1 (f_X12_run (f_X12_peek H) (f_X12_isSmall (f_X12_peek H)) (H.1 29 3 - H.1 29 4).toNat 1 (upI (upL (upI (upI H 29 12 (H.1 29 4)) 29 13 0) 29 17 0) 29 14 0)).2)
      else
        (f_X12_nxEnd (f_X12_peek H) (f_X12_isSmall (f_X12_peek H)) (f_X12_run (f_X12_peek H) (f_X12_isSmall (f_X12_peek H)) (H.1 29 3 - H.1 29 4).toNat 1 (upI (upL (upI (upI H 29 12 (H.1 29 4)) 29 13 0) 29 17 0) 29 14 0)).1 (f_X12_run (f_X12_peek H) (f_X12_isSmall (f_X12_peek H)) (H.1 29 3 - H.1 29 4).toNat 1 (upI (upL (upI (upI H 29 12 (H.1 29 4)) 29 13 0) 29 17 0) 29 14 0)).2)
set_option maxHeartbeats 16000000 in
set_option maxRecDepth 100000 in
theorem jx_X12_nx2 {g : Nat → Nat}  (H : hH) (hr : RM H.2.2.1) : J g rvTab rvInf rvRet 316 rvMth 18 (fun res => res.1 = none ∧ RH g res.2 (f_X12_nx2 H)) 31 [rf (g 29), rvU, rvU, rvU] [] H := by
  have hj : 18 < 316 := by decide
  refine J_ld 32 jw hj rfl rfl rfl rfl ?_
  refine J_ld 33 jw hj rfl rfl rfl rfl ?_
  refine J_gfI jw hj rfl (evn rfl) (by decide) rfl (fun r0 => ?_)
  refine J_pfI jw hj rfl (evn rfl) rfl ?_
  refine J_ld 40 jw hj rfl rfl rfl rfl ?_
  refine J_cst 41 jw hj rfl rfl rfl ?_
  refine J_pfI jw hj rfl (evn rfl) rfl ?_
  refine J_ld 45 jw hj rfl rfl rfl rfl ?_
  refine J_gfI jw hj rfl (evn rfl) (by decide) rfl (fun r1 => ?_)
  refine J_ld 49 jw hj rfl rfl rfl rfl ?_
  refine J_gfI jw hj rfl (evn rfl) (by decide) rfl (fun r2 => ?_)
  refine J_icmp (t := 80) jw hj rfl (evn rfl) rfl (fun (h0 : ¬ H.1 29 5 < H.1 29 3) => ?_) (fun (h0 : H.1 29 5 < H.1 29 3) => ?_)
  · refine J_ld 81 jw hj rfl rfl rfl rfl ?_
    refine J_callV1 jw rfl (Or.inl ⟨_, rfl⟩) rfl rfl (sp_X12_peek (g := g) (upI (upI H 29 12 (H.1 29 4)) 29 13 0) hr) ?_
    refine J_st 85 [rf (g 29), pt (f_X12_peek H), rvU, rvU] (k := 1) jw hj rfl (Or.inr (Or.inr (Or.inl ⟨_, rfl, rfl, rfl⟩))) rfl ?_
    refine J_ld 86 jw hj rfl rfl rfl rfl ?_
    refine J_ifc (t := 95) jw hj rfl (evn rfl) rfl (fun (h1 : ¬ f_X12_peek H < 0) => ?_) (fun (h1 : f_X12_peek H < 0) => ?_)
    · refine J_ld 96 jw hj rfl rfl rfl rfl ?_
      refine J_callS1 jw rfl rfl rfl rfl (sp_X12_isSmall (g := g) (f_X12_peek H) (upI (upI H 29 12 (H.1 29 4)) 29 13 0)) ?_
      refine J_ifc (t := 164) jw hj rfl (evn rfl) rfl (fun (h2 : ¬ f_X12_isSmall (f_X12_peek H) = 0) => ?_) (fun (h2 : f_X12_isSmall (f_X12_peek H) = 0) => ?_)
      · refine J_ld 165 jw hj rfl rfl rfl rfl ?_
        refine J_callS1 jw rfl rfl rfl rfl (sp_X12_isSmall (g := g) (f_X12_peek H) (upI (upI H 29 12 (H.1 29 4)) 29 13 0)) ?_
        refine J_st 169 [rf (g 29), pt (f_X12_peek H), pt (f_X12_isSmall (f_X12_peek H)), rvU] (k := 2) jw hj rfl (Or.inr (Or.inr (Or.inl ⟨_, rfl, rfl, rfl⟩))) rfl ?_
        refine J_cst 170 jw hj rfl rfl rfl ?_
        refine J_st 171 [rf (g 29), pt (f_X12_peek H), pt (f_X12_isSmall (f_X12_peek H)), pt 1] (k := 3) jw hj rfl (Or.inr (Or.inr (Or.inl ⟨_, rfl, rfl, rfl⟩))) rfl ?_
        refine J_ld 172 jw hj rfl rfl rfl rfl ?_
        refine J_lc (n := 0) 173 jw hj rfl (Or.inl ⟨_, rfl, by decide +kernel, rfl⟩) ?_
        refine J_pfL jw hj rfl (evn rfl) rfl ?_
        refine J_ld 177 jw hj rfl rfl rfl rfl ?_
        refine J_cst 178 jw hj rfl rfl rfl ?_
        refine J_pfI jw hj rfl (evn rfl) rfl ?_
        have e : f_X12_nx2 H = (f_X12_nxEnd (f_X12_peek H) (f_X12_isSmall (f_X12_peek H)) (f_X12_run (f_X12_peek H) (f_X12_isSmall (f_X12_peek H)) (H.1 29 3 - H.1 29 4).toNat 1 (upI (upL (upI (upI H 29 12 (H.1 29 4)) 29 13 0) 29 17 0) 29 14 0)).1 (f_X12_run (f_X12_peek H) (f_X12_isSmall (f_X12_peek H)) (H.1 29 3 - H.1 29 4).toNat 1 (upI (upL (upI (upI H 29 12 (H.1 29 4)) 29 13 0) 29 17 0) 29 14 0)).2) := by
          unfold f_X12_nx2
          rw [if_neg h0, if_neg h1, if_neg h2]
        rw [e]
        refine J_in (fun hz => ?_)
        exact lp_X12_run (f_X12_peek H) (f_X12_isSmall (f_X12_peek H)) _ 1 (upI (upL (upI (upI H 29 12 (H.1 29 4)) 29 13 0) 29 17 0) 29 14 0) hr (hz 29 3).2 (Nat.le_refl _) (jx_X12_nxEnd (f_X12_peek H) (f_X12_isSmall (f_X12_peek H)) _ _ (rf_X12_run (f_X12_peek H) (f_X12_isSmall (f_X12_peek H)) _ 1 (upI (upL (upI (upI H 29 12 (H.1 29 4)) 29 13 0) 29 17 0) 29 14 0) hr))
      · refine J_ld 103 jw hj rfl rfl rfl rfl ?_
        refine J_callS1 jw rfl rfl rfl rfl (sp_X12_isDigit (g := g) (f_X12_peek H) (upI (upI H 29 12 (H.1 29 4)) 29 13 0)) ?_
        refine J_ifc (t := 164) jw hj rfl (evn rfl) rfl (fun (h3 : ¬ f_X12_isDigit (f_X12_peek H) = 0) => ?_) (fun (h3 : f_X12_isDigit (f_X12_peek H) = 0) => ?_)
        · refine J_ld 165 jw hj rfl rfl rfl rfl ?_
          refine J_callS1 jw rfl rfl rfl rfl (sp_X12_isSmall (g := g) (f_X12_peek H) (upI (upI H 29 12 (H.1 29 4)) 29 13 0)) ?_
          refine J_st 169 [rf (g 29), pt (f_X12_peek H), pt (f_X12_isSmall (f_X12_peek H)), rvU] (k := 2) jw hj rfl (Or.inr (Or.inr (Or.inl ⟨_, rfl, rfl, rfl⟩))) rfl ?_
          refine J_cst 170 jw hj rfl rfl rfl ?_
          refine J_st 171 [rf (g 29), pt (f_X12_peek H), pt (f_X12_isSmall (f_X12_peek H)), pt 1] (k := 3) jw hj rfl (Or.inr (Or.inr (Or.inl ⟨_, rfl, rfl, rfl⟩))) rfl ?_
          refine J_ld 172 jw hj rfl rfl rfl rfl ?_
          refine J_lc (n := 0) 173 jw hj rfl (Or.inl ⟨_, rfl, by decide +kernel, rfl⟩) ?_
          refine J_pfL jw hj rfl (evn rfl) rfl ?_
          refine J_ld 177 jw hj rfl rfl rfl rfl ?_
          refine J_cst 178 jw hj rfl rfl rfl ?_
          refine J_pfI jw hj rfl (evn rfl) rfl ?_
          have e : f_X12_nx2 H = (f_X12_nxEnd (f_X12_peek H) (f_X12_isSmall (f_X12_peek H)) (f_X12_run (f_X12_peek H) (f_X12_isSmall (f_X12_peek H)) (H.1 29 3 - H.1 29 4).toNat 1 (upI (upL (upI (upI H 29 12 (H.1 29 4)) 29 13 0) 29 17 0) 29 14 0)).1 (f_X12_run (f_X12_peek H) (f_X12_isSmall (f_X12_peek H)) (H.1 29 3 - H.1 29 4).toNat 1 (upI (upL (upI (upI H 29 12 (H.1 29 4)) 29 13 0) 29 17 0) 29 14 0)).2) := by
            unfold f_X12_nx2
            rw [if_neg h0, if_neg h1, if_pos h2, if_neg h3]
          rw [e]
          refine J_in (fun hz => ?_)
          exact lp_X12_run (f_X12_peek H) (f_X12_isSmall (f_X12_peek H)) _ 1 (upI (upL (upI (upI H 29 12 (H.1 29 4)) 29 13 0) 29 17 0) 29 14 0) hr (hz 29 3).2 (Nat.le_refl _) (jx_X12_nxEnd (f_X12_peek H) (f_X12_isSmall (f_X12_peek H)) _ _ (rf_X12_run (f_X12_peek H) (f_X12_isSmall (f_X12_peek H)) _ 1 (upI (upL (upI (upI H 29 12 (H.1 29 4)) 29 13 0) 29 17 0) 29 14 0) hr))
        · refine J_ld 110 jw hj rfl rfl rfl rfl ?_
          refine J_ld 111 jw hj rfl rfl rfl rfl ?_
          refine J_cst 113 jw hj rfl rfl rfl ?_
          refine J_icmp (t := 140) jw hj rfl (evn rfl) rfl (fun (h4 : f_X12_peek H = 59) => ?_) (fun (h4 : ¬ f_X12_peek H = 59) => ?_)
          · refine J_cst 141 jw hj rfl rfl rfl ?_
            refine J_goto 145 jw hj rfl rfl ?_
            refine J_pfI jw hj rfl (evn rfl) rfl ?_
            refine J_ld 149 jw hj rfl rfl rfl rfl ?_
            refine J_ld 150 jw hj rfl rfl rfl rfl ?_
            refine J_pfI jw hj rfl (evn rfl) rfl ?_
            refine J_ld 154 jw hj rfl rfl rfl rfl ?_
            refine J_dup 155 jw hj rfl rfl ?_
            refine J_gfI jw hj rfl (evn rfl) (by decide) rfl (fun r3 => ?_)
            refine J_cst 159 jw hj rfl rfl rfl ?_
            refine J_bin jw hj rfl rfl ?_
            refine J_pfI jw hj rfl (evn rfl) rfl ?_
            exact J_ret rfl (Or.inr (Or.inr rfl)) (fun aw hR => by show _ ∧ _; unfold f_X12_nx2; rw [if_neg h0, if_neg h1, if_pos h2, if_pos h3, if_pos h4]; exact ⟨rfl, hR⟩)
          · refine J_ld 117 jw hj rfl rfl rfl rfl ?_
            refine J_cst 119 jw hj rfl rfl rfl ?_
            refine J_icmp (t := 140) jw hj rfl (evn rfl) rfl (fun (h5 : f_X12_peek H = 40) => ?_) (fun (h5 : ¬ f_X12_peek H = 40) => ?_)
            · refine J_cst 141 jw hj rfl rfl rfl ?_
              refine J_goto 145 jw hj rfl rfl ?_
              refine J_pfI jw hj rfl (evn rfl) rfl ?_
              refine J_ld 149 jw hj rfl rfl rfl rfl ?_
              refine J_ld 150 jw hj rfl rfl rfl rfl ?_
              refine J_pfI jw hj rfl (evn rfl) rfl ?_
              refine J_ld 154 jw hj rfl rfl rfl rfl ?_
              refine J_dup 155 jw hj rfl rfl ?_
              refine J_gfI jw hj rfl (evn rfl) (by decide) rfl (fun r4 => ?_)
              refine J_cst 159 jw hj rfl rfl rfl ?_
              refine J_bin jw hj rfl rfl ?_
              refine J_pfI jw hj rfl (evn rfl) rfl ?_
              exact J_ret rfl (Or.inr (Or.inr rfl)) (fun aw hR => by show _ ∧ _; unfold f_X12_nx2; rw [if_neg h0, if_neg h1, if_pos h2, if_pos h3, if_neg h4, if_pos h5]; exact ⟨rfl, hR⟩)
            · refine J_ld 123 jw hj rfl rfl rfl rfl ?_
              refine J_cst 125 jw hj rfl rfl rfl ?_
              refine J_icmp (t := 140) jw hj rfl (evn rfl) rfl (fun (h6 : f_X12_peek H = 41) => ?_) (fun (h6 : ¬ f_X12_peek H = 41) => ?_)
              · refine J_cst 141 jw hj rfl rfl rfl ?_
                refine J_goto 145 jw hj rfl rfl ?_
                refine J_pfI jw hj rfl (evn rfl) rfl ?_
                refine J_ld 149 jw hj rfl rfl rfl rfl ?_
                refine J_ld 150 jw hj rfl rfl rfl rfl ?_
                refine J_pfI jw hj rfl (evn rfl) rfl ?_
                refine J_ld 154 jw hj rfl rfl rfl rfl ?_
                refine J_dup 155 jw hj rfl rfl ?_
                refine J_gfI jw hj rfl (evn rfl) (by decide) rfl (fun r5 => ?_)
                refine J_cst 159 jw hj rfl rfl rfl ?_
                refine J_bin jw hj rfl rfl ?_
                refine J_pfI jw hj rfl (evn rfl) rfl ?_
                exact J_ret rfl (Or.inr (Or.inr rfl)) (fun aw hR => by show _ ∧ _; unfold f_X12_nx2; rw [if_neg h0, if_neg h1, if_pos h2, if_pos h3, if_neg h4, if_neg h5, if_pos h6]; exact ⟨rfl, hR⟩)
              · refine J_ld 129 jw hj rfl rfl rfl rfl ?_
                refine J_cst 131 jw hj rfl rfl rfl ?_
                refine J_icmp (t := 144) jw hj rfl (evn rfl) rfl (fun (h7 : f_X12_peek H < 60) => ?_) (fun (h7 : ¬ f_X12_peek H < 60) => ?_)
                · refine J_cst 145 jw hj rfl rfl rfl ?_
                  refine J_pfI jw hj rfl (evn rfl) rfl ?_
                  refine J_ld 149 jw hj rfl rfl rfl rfl ?_
                  refine J_ld 150 jw hj rfl rfl rfl rfl ?_
                  refine J_pfI jw hj rfl (evn rfl) rfl ?_
                  refine J_ld 154 jw hj rfl rfl rfl rfl ?_
                  refine J_dup 155 jw hj rfl rfl ?_
                  refine J_gfI jw hj rfl (evn rfl) (by decide) rfl (fun r6 => ?_)
                  refine J_cst 159 jw hj rfl rfl rfl ?_
                  refine J_bin jw hj rfl rfl ?_
                  refine J_pfI jw hj rfl (evn rfl) rfl ?_
                  exact J_ret rfl (Or.inr (Or.inr rfl)) (fun aw hR => by show _ ∧ _; unfold f_X12_nx2; rw [if_neg h0, if_neg h1, if_pos h2, if_pos h3, if_neg h4, if_neg h5, if_neg h6, if_pos h7]; exact ⟨rfl, hR⟩)
                · refine J_ld 135 jw hj rfl rfl rfl rfl ?_
                  refine J_cst 137 jw hj rfl rfl rfl ?_
                  refine J_icmp (t := 144) jw hj rfl (evn rfl) rfl (fun (h8 : 62 < f_X12_peek H) => ?_) (fun (h8 : ¬ 62 < f_X12_peek H) => ?_)
                  · refine J_cst 145 jw hj rfl rfl rfl ?_
                    refine J_pfI jw hj rfl (evn rfl) rfl ?_
                    refine J_ld 149 jw hj rfl rfl rfl rfl ?_
                    refine J_ld 150 jw hj rfl rfl rfl rfl ?_
                    refine J_pfI jw hj rfl (evn rfl) rfl ?_
                    refine J_ld 154 jw hj rfl rfl rfl rfl ?_
                    refine J_dup 155 jw hj rfl rfl ?_
                    refine J_gfI jw hj rfl (evn rfl) (by decide) rfl (fun r7 => ?_)
                    refine J_cst 159 jw hj rfl rfl rfl ?_
                    refine J_bin jw hj rfl rfl ?_
                    refine J_pfI jw hj rfl (evn rfl) rfl ?_
                    exact J_ret rfl (Or.inr (Or.inr rfl)) (fun aw hR => by show _ ∧ _; unfold f_X12_nx2; rw [if_neg h0, if_neg h1, if_pos h2, if_pos h3, if_neg h4, if_neg h5, if_neg h6, if_neg h7, if_pos h8]; exact ⟨rfl, hR⟩)
                  · refine J_cst 141 jw hj rfl rfl rfl ?_
                    refine J_goto 145 jw hj rfl rfl ?_
                    refine J_pfI jw hj rfl (evn rfl) rfl ?_
                    refine J_ld 149 jw hj rfl rfl rfl rfl ?_
                    refine J_ld 150 jw hj rfl rfl rfl rfl ?_
                    refine J_pfI jw hj rfl (evn rfl) rfl ?_
                    refine J_ld 154 jw hj rfl rfl rfl rfl ?_
                    refine J_dup 155 jw hj rfl rfl ?_
                    refine J_gfI jw hj rfl (evn rfl) (by decide) rfl (fun r8 => ?_)
                    refine J_cst 159 jw hj rfl rfl rfl ?_
                    refine J_bin jw hj rfl rfl ?_
                    refine J_pfI jw hj rfl (evn rfl) rfl ?_
                    exact J_ret rfl (Or.inr (Or.inr rfl)) (fun aw hR => by show _ ∧ _; unfold f_X12_nx2; rw [if_neg h0, if_neg h1, if_pos h2, if_pos h3, if_neg h4, if_neg h5, if_neg h6, if_neg h7, if_neg h8]; exact ⟨rfl, hR⟩)
    · refine J_ld 90 jw hj rfl rfl rfl rfl ?_
      refine J_cst 91 jw hj rfl rfl rfl ?_
      refine J_pfI jw hj rfl (evn rfl) rfl ?_
      exact J_ret rfl (Or.inr (Or.inr rfl)) (fun aw hR => by show _ ∧ _; unfold f_X12_nx2; rw [if_neg h0, if_pos h1]; exact ⟨rfl, hR⟩)
  · refine J_ld 56 jw hj rfl rfl rfl rfl ?_
    refine J_gfI jw hj rfl (evn rfl) (by decide) rfl (fun r9 => ?_)
    refine J_ld 60 jw hj rfl rfl rfl rfl ?_
    refine J_gfI jw hj rfl (evn rfl) (by decide) rfl (fun r10 => ?_)
    refine J_icmp (t := 80) jw hj rfl (evn rfl) rfl (fun (h9 : H.1 29 4 < H.1 29 5) => ?_) (fun (h9 : ¬ H.1 29 4 < H.1 29 5) => ?_)
    · refine J_ld 81 jw hj rfl rfl rfl rfl ?_
      refine J_callV1 jw rfl (Or.inl ⟨_, rfl⟩) rfl rfl (sp_X12_peek (g := g) (upI (upI H 29 12 (H.1 29 4)) 29 13 0) hr) ?_
      refine J_st 85 [rf (g 29), pt (f_X12_peek H), rvU, rvU] (k := 1) jw hj rfl (Or.inr (Or.inr (Or.inl ⟨_, rfl, rfl, rfl⟩))) rfl ?_
      refine J_ld 86 jw hj rfl rfl rfl rfl ?_
      refine J_ifc (t := 95) jw hj rfl (evn rfl) rfl (fun (h10 : ¬ f_X12_peek H < 0) => ?_) (fun (h10 : f_X12_peek H < 0) => ?_)
      · refine J_ld 96 jw hj rfl rfl rfl rfl ?_
        refine J_callS1 jw rfl rfl rfl rfl (sp_X12_isSmall (g := g) (f_X12_peek H) (upI (upI H 29 12 (H.1 29 4)) 29 13 0)) ?_
        refine J_ifc (t := 164) jw hj rfl (evn rfl) rfl (fun (h11 : ¬ f_X12_isSmall (f_X12_peek H) = 0) => ?_) (fun (h11 : f_X12_isSmall (f_X12_peek H) = 0) => ?_)
        · refine J_ld 165 jw hj rfl rfl rfl rfl ?_
          refine J_callS1 jw rfl rfl rfl rfl (sp_X12_isSmall (g := g) (f_X12_peek H) (upI (upI H 29 12 (H.1 29 4)) 29 13 0)) ?_
          refine J_st 169 [rf (g 29), pt (f_X12_peek H), pt (f_X12_isSmall (f_X12_peek H)), rvU] (k := 2) jw hj rfl (Or.inr (Or.inr (Or.inl ⟨_, rfl, rfl, rfl⟩))) rfl ?_
          refine J_cst 170 jw hj rfl rfl rfl ?_
          refine J_st 171 [rf (g 29), pt (f_X12_peek H), pt (f_X12_isSmall (f_X12_peek H)), pt 1] (k := 3) jw hj rfl (Or.inr (Or.inr (Or.inl ⟨_, rfl, rfl, rfl⟩))) rfl ?_
          refine J_ld 172 jw hj rfl rfl rfl rfl ?_
          refine J_lc (n := 0) 173 jw hj rfl (Or.inl ⟨_, rfl, by decide +kernel, rfl⟩) ?_
          refine J_pfL jw hj rfl (evn rfl) rfl ?_
          refine J_ld 177 jw hj rfl rfl rfl rfl ?_
          refine J_cst 178 jw hj rfl rfl rfl ?_
          refine J_pfI jw hj rfl (evn rfl) rfl ?_
          have e : f_X12_nx2 H = (f_X12_nxEnd (f_X12_peek H) (f_X12_isSmall (f_X12_peek H)) (f_X12_run (f_X12_peek H) (f_X12_isSmall (f_X12_peek H)) (H.1 29 3 - H.1 29 4).toNat 1 (upI (upL (upI (upI H 29 12 (H.1 29 4)) 29 13 0) 29 17 0) 29 14 0)).1 (f_X12_run (f_X12_peek H) (f_X12_isSmall (f_X12_peek H)) (H.1 29 3 - H.1 29 4).toNat 1 (upI (upL (upI (upI H 29 12 (H.1 29 4)) 29 13 0) 29 17 0) 29 14 0)).2) := by
            unfold f_X12_nx2
            rw [if_pos h0, if_pos h9, if_neg h10, if_neg h11]
          rw [e]
          refine J_in (fun hz => ?_)
          exact lp_X12_run (f_X12_peek H) (f_X12_isSmall (f_X12_peek H)) _ 1 (upI (upL (upI (upI H 29 12 (H.1 29 4)) 29 13 0) 29 17 0) 29 14 0) hr (hz 29 3).2 (Nat.le_refl _) (jx_X12_nxEnd (f_X12_peek H) (f_X12_isSmall (f_X12_peek H)) _ _ (rf_X12_run (f_X12_peek H) (f_X12_isSmall (f_X12_peek H)) _ 1 (upI (upL (upI (upI H 29 12 (H.1 29 4)) 29 13 0) 29 17 0) 29 14 0) hr))
        · refine J_ld 103 jw hj rfl rfl rfl rfl ?_
          refine J_callS1 jw rfl rfl rfl rfl (sp_X12_isDigit (g := g) (f_X12_peek H) (upI (upI H 29 12 (H.1 29 4)) 29 13 0)) ?_
          refine J_ifc (t := 164) jw hj rfl (evn rfl) rfl (fun (h12 : ¬ f_X12_isDigit (f_X12_peek H) = 0) => ?_) (fun (h12 : f_X12_isDigit (f_X12_peek H) = 0) => ?_)
          · refine J_ld 165 jw hj rfl rfl rfl rfl ?_
            refine J_callS1 jw rfl rfl rfl rfl (sp_X12_isSmall (g := g) (f_X12_peek H) (upI (upI H 29 12 (H.1 29 4)) 29 13 0)) ?_
            refine J_st 169 [rf (g 29), pt (f_X12_peek H), pt (f_X12_isSmall (f_X12_peek H)), rvU] (k := 2) jw hj rfl (Or.inr (Or.inr (Or.inl ⟨_, rfl, rfl, rfl⟩))) rfl ?_
            refine J_cst 170 jw hj rfl rfl rfl ?_
            refine J_st 171 [rf (g 29), pt (f_X12_peek H), pt (f_X12_isSmall (f_X12_peek H)), pt 1] (k := 3) jw hj rfl (Or.inr (Or.inr (Or.inl ⟨_, rfl, rfl, rfl⟩))) rfl ?_
            refine J_ld 172 jw hj rfl rfl rfl rfl ?_
            refine J_lc (n := 0) 173 jw hj rfl (Or.inl ⟨_, rfl, by decide +kernel, rfl⟩) ?_
            refine J_pfL jw hj rfl (evn rfl) rfl ?_
            refine J_ld 177 jw hj rfl rfl rfl rfl ?_
            refine J_cst 178 jw hj rfl rfl rfl ?_
            refine J_pfI jw hj rfl (evn rfl) rfl ?_
            have e : f_X12_nx2 H = (f_X12_nxEnd (f_X12_peek H) (f_X12_isSmall (f_X12_peek H)) (f_X12_run (f_X12_peek H) (f_X12_isSmall (f_X12_peek H)) (H.1 29 3 - H.1 29 4).toNat 1 (upI (upL (upI (upI H 29 12 (H.1 29 4)) 29 13 0) 29 17 0) 29 14 0)).1 (f_X12_run (f_X12_peek H) (f_X12_isSmall (f_X12_peek H)) (H.1 29 3 - H.1 29 4).toNat 1 (upI (upL (upI (upI H 29 12 (H.1 29 4)) 29 13 0) 29 17 0) 29 14 0)).2) := by
              unfold f_X12_nx2
              rw [if_pos h0, if_pos h9, if_neg h10, if_pos h11, if_neg h12]
            rw [e]
            refine J_in (fun hz => ?_)
            exact lp_X12_run (f_X12_peek H) (f_X12_isSmall (f_X12_peek H)) _ 1 (upI (upL (upI (upI H 29 12 (H.1 29 4)) 29 13 0) 29 17 0) 29 14 0) hr (hz 29 3).2 (Nat.le_refl _) (jx_X12_nxEnd (f_X12_peek H) (f_X12_isSmall (f_X12_peek H)) _ _ (rf_X12_run (f_X12_peek H) (f_X12_isSmall (f_X12_peek H)) _ 1 (upI (upL (upI (upI H 29 12 (H.1 29 4)) 29 13 0) 29 17 0) 29 14 0) hr))
          · refine J_ld 110 jw hj rfl rfl rfl rfl ?_
            refine J_ld 111 jw hj rfl rfl rfl rfl ?_
            refine J_cst 113 jw hj rfl rfl rfl ?_
            refine J_icmp (t := 140) jw hj rfl (evn rfl) rfl (fun (h13 : f_X12_peek H = 59) => ?_) (fun (h13 : ¬ f_X12_peek H = 59) => ?_)
            · refine J_cst 141 jw hj rfl rfl rfl ?_
              refine J_goto 145 jw hj rfl rfl ?_
              refine J_pfI jw hj rfl (evn rfl) rfl ?_
              refine J_ld 149 jw hj rfl rfl rfl rfl ?_
              refine J_ld 150 jw hj rfl rfl rfl rfl ?_
              refine J_pfI jw hj rfl (evn rfl) rfl ?_
              refine J_ld 154 jw hj rfl rfl rfl rfl ?_
              refine J_dup 155 jw hj rfl rfl ?_
              refine J_gfI jw hj rfl (evn rfl) (by decide) rfl (fun r11 => ?_)
              refine J_cst 159 jw hj rfl rfl rfl ?_
              refine J_bin jw hj rfl rfl ?_
              refine J_pfI jw hj rfl (evn rfl) rfl ?_
              exact J_ret rfl (Or.inr (Or.inr rfl)) (fun aw hR => by show _ ∧ _; unfold f_X12_nx2; rw [if_pos h0, if_pos h9, if_neg h10, if_pos h11, if_pos h12, if_pos h13]; exact ⟨rfl, hR⟩)
            · refine J_ld 117 jw hj rfl rfl rfl rfl ?_
              refine J_cst 119 jw hj rfl rfl rfl ?_
              refine J_icmp (t := 140) jw hj rfl (evn rfl) rfl (fun (h14 : f_X12_peek H = 40) => ?_) (fun (h14 : ¬ f_X12_peek H = 40) => ?_)
              · refine J_cst 141 jw hj rfl rfl rfl ?_
                refine J_goto 145 jw hj rfl rfl ?_
                refine J_pfI jw hj rfl (evn rfl) rfl ?_
                refine J_ld 149 jw hj rfl rfl rfl rfl ?_
                refine J_ld 150 jw hj rfl rfl rfl rfl ?_
                refine J_pfI jw hj rfl (evn rfl) rfl ?_
                refine J_ld 154 jw hj rfl rfl rfl rfl ?_
                refine J_dup 155 jw hj rfl rfl ?_
                refine J_gfI jw hj rfl (evn rfl) (by decide) rfl (fun r12 => ?_)
                refine J_cst 159 jw hj rfl rfl rfl ?_
                refine J_bin jw hj rfl rfl ?_
                refine J_pfI jw hj rfl (evn rfl) rfl ?_
                exact J_ret rfl (Or.inr (Or.inr rfl)) (fun aw hR => by show _ ∧ _; unfold f_X12_nx2; rw [if_pos h0, if_pos h9, if_neg h10, if_pos h11, if_pos h12, if_neg h13, if_pos h14]; exact ⟨rfl, hR⟩)
              · refine J_ld 123 jw hj rfl rfl rfl rfl ?_
                refine J_cst 125 jw hj rfl rfl rfl ?_
                refine J_icmp (t := 140) jw hj rfl (evn rfl) rfl (fun (h15 : f_X12_peek H = 41) => ?_) (fun (h15 : ¬ f_X12_peek H = 41) => ?_)
                · refine J_cst 141 jw hj rfl rfl rfl ?_
                  refine J_goto 145 jw hj rfl rfl ?_
                  refine J_pfI jw hj rfl (evn rfl) rfl ?_
                  refine J_ld 149 jw hj rfl rfl rfl rfl ?_
                  refine J_ld 150 jw hj rfl rfl rfl rfl ?_
                  refine J_pfI jw hj rfl (evn rfl) rfl ?_
                  refine J_ld 154 jw hj rfl rfl rfl rfl ?_
                  refine J_dup 155 jw hj rfl rfl ?_
                  refine J_gfI jw hj rfl (evn rfl) (by decide) rfl (fun r13 => ?_)
                  refine J_cst 159 jw hj rfl rfl rfl ?_
                  refine J_bin jw hj rfl rfl ?_
                  refine J_pfI jw hj rfl (evn rfl) rfl ?_
                  exact J_ret rfl (Or.inr (Or.inr rfl)) (fun aw hR => by show _ ∧ _; unfold f_X12_nx2; rw [if_pos h0, if_pos h9, if_neg h10, if_pos h11, if_pos h12, if_neg h13, if_neg h14, if_pos h15]; exact ⟨rfl, hR⟩)
                · refine J_ld 129 jw hj rfl rfl rfl rfl ?_
                  refine J_cst 131 jw hj rfl rfl rfl ?_
                  refine J_icmp (t := 144) jw hj rfl (evn rfl) rfl (fun (h16 : f_X12_peek H < 60) => ?_) (fun (h16 : ¬ f_X12_peek H < 60) => ?_)
                  · refine J_cst 145 jw hj rfl rfl rfl ?_
                    refine J_pfI jw hj rfl (evn rfl) rfl ?_
                    refine J_ld 149 jw hj rfl rfl rfl rfl ?_
                    refine J_ld 150 jw hj rfl rfl rfl rfl ?_
                    refine J_pfI jw hj rfl (evn rfl) rfl ?_
                    refine J_ld 154 jw hj rfl rfl rfl rfl ?_
                    refine J_dup 155 jw hj rfl rfl ?_
                    refine J_gfI jw hj rfl (evn rfl) (by decide) rfl (fun r14 => ?_)
                    refine J_cst 159 jw hj rfl rfl rfl ?_
                    refine J_bin jw hj rfl rfl ?_
                    refine J_pfI jw hj rfl (evn rfl) rfl ?_
                    exact J_ret rfl (Or.inr (Or.inr rfl)) (fun aw hR => by show _ ∧ _; unfold f_X12_nx2; rw [if_pos h0, if_pos h9, if_neg h10, if_pos h11, if_pos h12, if_neg h13, if_neg h14, if_neg h15, if_pos h16]; exact ⟨rfl, hR⟩)
                  · refine J_ld 135 jw hj rfl rfl rfl rfl ?_
                    refine J_cst 137 jw hj rfl rfl rfl ?_
                    refine J_icmp (t := 144) jw hj rfl (evn rfl) rfl (fun (h17 : 62 < f_X12_peek H) => ?_) (fun (h17 : ¬ 62 < f_X12_peek H) => ?_)
                    · refine J_cst 145 jw hj rfl rfl rfl ?_
                      refine J_pfI jw hj rfl (evn rfl) rfl ?_
                      refine J_ld 149 jw hj rfl rfl rfl rfl ?_
                      refine J_ld 150 jw hj rfl rfl rfl rfl ?_
                      refine J_pfI jw hj rfl (evn rfl) rfl ?_
                      refine J_ld 154 jw hj rfl rfl rfl rfl ?_
                      refine J_dup 155 jw hj rfl rfl ?_
                      refine J_gfI jw hj rfl (evn rfl) (by decide) rfl (fun r15 => ?_)
                      refine J_cst 159 jw hj rfl rfl rfl ?_
                      refine J_bin jw hj rfl rfl ?_
                      refine J_pfI jw hj rfl (evn rfl) rfl ?_
                      exact J_ret rfl (Or.inr (Or.inr rfl)) (fun aw hR => by show _ ∧ _; unfold f_X12_nx2; rw [if_pos h0, if_pos h9, if_neg h10, if_pos h11, if_pos h12, if_neg h13, if_neg h14, if_neg h15, if_neg h16, if_pos h17]; exact ⟨rfl, hR⟩)
                    · refine J_cst 141 jw hj rfl rfl rfl ?_
                      refine J_goto 145 jw hj rfl rfl ?_
                      refine J_pfI jw hj rfl (evn rfl) rfl ?_
                      refine J_ld 149 jw hj rfl rfl rfl rfl ?_
                      refine J_ld 150 jw hj rfl rfl rfl rfl ?_
                      refine J_pfI jw hj rfl (evn rfl) rfl ?_
                      refine J_ld 154 jw hj rfl rfl rfl rfl ?_
                      refine J_dup 155 jw hj rfl rfl ?_
                      refine J_gfI jw hj rfl (evn rfl) (by decide) rfl (fun r16 => ?_)
                      refine J_cst 159 jw hj rfl rfl rfl ?_
                      refine J_bin jw hj rfl rfl ?_
                      refine J_pfI jw hj rfl (evn rfl) rfl ?_
                      exact J_ret rfl (Or.inr (Or.inr rfl)) (fun aw hR => by show _ ∧ _; unfold f_X12_nx2; rw [if_pos h0, if_pos h9, if_neg h10, if_pos h11, if_pos h12, if_neg h13, if_neg h14, if_neg h15, if_neg h16, if_neg h17]; exact ⟨rfl, hR⟩)
      · refine J_ld 90 jw hj rfl rfl rfl rfl ?_
        refine J_cst 91 jw hj rfl rfl rfl ?_
        refine J_pfI jw hj rfl (evn rfl) rfl ?_
        exact J_ret rfl (Or.inr (Or.inr rfl)) (fun aw hR => by show _ ∧ _; unfold f_X12_nx2; rw [if_pos h0, if_pos h9, if_pos h10]; exact ⟨rfl, hR⟩)
    · refine J_ld 67 jw hj rfl rfl rfl rfl ?_
      refine J_ld 68 jw hj rfl rfl rfl rfl ?_
      refine J_gfI jw hj rfl (evn rfl) (by decide) rfl (fun r17 => ?_)
      refine J_pfI jw hj rfl (evn rfl) rfl ?_
      refine J_ld 75 jw hj rfl rfl rfl rfl ?_
      refine J_cst 76 jw hj rfl rfl rfl ?_
      refine J_pfI jw hj rfl (evn rfl) rfl ?_
      exact J_ret rfl (Or.inr (Or.inr rfl)) (fun aw hR => by show _ ∧ _; unfold f_X12_nx2; rw [if_pos h0, if_neg h9]; exact ⟨rfl, hR⟩)
theorem rf_X12_nx2  (H : hH) (hr : RM H.2.2.1) : RM (f_X12_nx2 H).2.2.1 := by
  unfold f_X12_nx2
  by_cases q1 : H.1 29 5 < H.1 29 3
  · rw [if_pos q1]
    by_cases q2 : H.1 29 4 < H.1 29 5
    · rw [if_pos q2]
      by_cases q3 : f_X12_peek H < 0
      · rw [if_pos q3]
        exact hr
      · rw [if_neg q3]
        by_cases q4 : f_X12_isSmall (f_X12_peek H) = 0
        · rw [if_pos q4]
          by_cases q5 : f_X12_isDigit (f_X12_peek H) = 0
          · rw [if_pos q5]
            by_cases q6 : f_X12_peek H = 59
            · rw [if_pos q6]
              exact hr
            · rw [if_neg q6]
              by_cases q7 : f_X12_peek H = 40
              · rw [if_pos q7]
                exact hr
              · rw [if_neg q7]
                by_cases q8 : f_X12_peek H = 41
                · rw [if_pos q8]
                  exact hr
                · rw [if_neg q8]
                  by_cases q9 : f_X12_peek H < 60
                  · rw [if_pos q9]
                    exact hr
                  · rw [if_neg q9]
                    by_cases q10 : 62 < f_X12_peek H
                    · rw [if_pos q10]
                      exact hr
                    · rw [if_neg q10]
                      exact hr
          · rw [if_neg q5]
            exact (rf_X12_nxEnd (f_X12_peek H) (f_X12_isSmall (f_X12_peek H)) _ _ (rf_X12_run (f_X12_peek H) (f_X12_isSmall (f_X12_peek H)) _ 1 (upI (upL (upI (upI H 29 12 (H.1 29 4)) 29 13 0) 29 17 0) 29 14 0) hr))
        · rw [if_neg q4]
          exact (rf_X12_nxEnd (f_X12_peek H) (f_X12_isSmall (f_X12_peek H)) _ _ (rf_X12_run (f_X12_peek H) (f_X12_isSmall (f_X12_peek H)) _ 1 (upI (upL (upI (upI H 29 12 (H.1 29 4)) 29 13 0) 29 17 0) 29 14 0) hr))
    · rw [if_neg q2]
      exact hr
  · rw [if_neg q1]
    by_cases q2 : f_X12_peek H < 0
    · rw [if_pos q2]
      exact hr
    · rw [if_neg q2]
      by_cases q3 : f_X12_isSmall (f_X12_peek H) = 0
      · rw [if_pos q3]
        by_cases q4 : f_X12_isDigit (f_X12_peek H) = 0
        · rw [if_pos q4]
          by_cases q5 : f_X12_peek H = 59
          · rw [if_pos q5]
            exact hr
          · rw [if_neg q5]
            by_cases q6 : f_X12_peek H = 40
            · rw [if_pos q6]
              exact hr
            · rw [if_neg q6]
              by_cases q7 : f_X12_peek H = 41
              · rw [if_pos q7]
                exact hr
              · rw [if_neg q7]
                by_cases q8 : f_X12_peek H < 60
                · rw [if_pos q8]
                  exact hr
                · rw [if_neg q8]
                  by_cases q9 : 62 < f_X12_peek H
                  · rw [if_pos q9]
                    exact hr
                  · rw [if_neg q9]
                    exact hr
        · rw [if_neg q4]
          exact (rf_X12_nxEnd (f_X12_peek H) (f_X12_isSmall (f_X12_peek H)) _ _ (rf_X12_run (f_X12_peek H) (f_X12_isSmall (f_X12_peek H)) _ 1 (upI (upL (upI (upI H 29 12 (H.1 29 4)) 29 13 0) 29 17 0) 29 14 0) hr))
      · rw [if_neg q3]
        exact (rf_X12_nxEnd (f_X12_peek H) (f_X12_isSmall (f_X12_peek H)) _ _ (rf_X12_run (f_X12_peek H) (f_X12_isSmall (f_X12_peek H)) _ 1 (upI (upL (upI (upI H 29 12 (H.1 29 4)) 29 13 0) 29 17 0) 29 14 0) hr))
def f_X12_next (H : hH) : hH := f_X12_nx2 (f_X12_blanks (H.1 29 3 - H.1 29 4).toNat H)
theorem rf_X12_next (H : hH) (hr : RM H.2.2.1) : RM (f_X12_next H).2.2.1 := rf_X12_nx2 _ (rf_X12_blanks _ H hr)
theorem sp_X12_next {g : Nat → Nat} (H : hH) (hr : RM H.2.2.1) : SP g rvTab rvInf rvRet 316 rvMth 18 [rf (g 29)] H none (f_X12_next H) := by
  have hj : 18 < 316 := by decide
  refine J_SP hj (Nat.le_of_ble_eq_true rfl) ?_
  show J g rvTab rvInf rvRet 316 rvMth 18 _ 0 [rf (g 29), rvU, rvU, rvU] [] H
  refine J_in (fun hz => ?_)
  exact lp_X12_blanks _ H hr (hz 29 3).2 (Nat.le_refl _) (jx_X12_nx2 _ (rf_X12_blanks _ H hr))
