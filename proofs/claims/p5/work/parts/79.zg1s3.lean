theorem kpI_X9_blanks_4_7 (a1 : Int) : ∀ (k : Nat)  (H : hH), (f_X9_blanks a1 k H).1 4 7 = H.1 4 7 := by
  intro k
  induction k with
  | zero => intro  H; rfl
  | succ k ih =>
    intro  H
    rw [f_X9_blanks]
    by_cases q2 : H.1 4 8 < H.1 4 2
    · rw [if_pos q2]
      by_cases q3 : f_X9_isBlank (H.1 5 (H.1 4 8).toNat) = 0
      · rw [if_pos q3]
        try exact rfl
      · rw [if_neg q3]
        exact (ih  (upI H 4 8 (iAdd (H.1 4 8) 1)))
    · rw [if_neg q2]
      try exact rfl
theorem kpI_X9_run_4_7  : ∀ (k : Nat) (l : Int) (d : Int) (n : Int) (m : Int64) (H : hH), (f_X9_run k l d n m H).2.2.2.2.1 4 7 = H.1 4 7 := by
  intro k
  induction k with
  | zero => intro l d n m H; rfl
  | succ k ih =>
    intro l d n m H
    rw [f_X9_run]
    by_cases q2 : H.1 4 8 < H.1 4 2
    · rw [if_pos q2]
      by_cases q3 : f_X9_isDigit (H.1 5 (H.1 4 8).toNat) = 0
      · rw [if_pos q3]
        by_cases q4 : f_X9_isLetter (H.1 5 (H.1 4 8).toNat) = 0
        · rw [if_pos q4]
          try exact rfl
        · rw [if_neg q4]
          by_cases q5 : f_X9_isLetter (H.1 5 (H.1 4 8).toNat) = 0
          · rw [if_pos q5]
            exact (ih l (iAdd d 1) (iSub (iAdd (iMul n 10) (H.1 5 (H.1 4 8).toNat)) 48) m (upI H 4 8 (iAdd (H.1 4 8) 1)))
          · rw [if_neg q5]
            exact (ih (iAdd l 1) d n (f_X9_withLetter m (H.1 5 (H.1 4 8).toNat)) (upI H 4 8 (iAdd (H.1 4 8) 1)))
      · rw [if_neg q3]
        by_cases q4 : f_X9_isLetter (H.1 5 (H.1 4 8).toNat) = 0
        · rw [if_pos q4]
          exact (ih l (iAdd d 1) (iSub (iAdd (iMul n 10) (H.1 5 (H.1 4 8).toNat)) 48) m (upI H 4 8 (iAdd (H.1 4 8) 1)))
        · rw [if_neg q4]
          exact (ih (iAdd l 1) d n (f_X9_withLetter m (H.1 5 (H.1 4 8).toNat)) (upI H 4 8 (iAdd (H.1 4 8) 1)))
    · rw [if_neg q2]
      try exact rfl
theorem kpI_X9_runEnd_4_7 (l : Int) (d : Int) (n : Int) (m : Int64) (H : hH) : (f_X9_runEnd l d n m H).2.1 4 7 = H.1 4 7 := by
  unfold f_X9_runEnd
  by_cases q1 : d = 0
  · rw [if_pos q1]
    by_cases q2 : 7 < l
    · rw [if_pos q2]
      by_cases q3 : l = 0
      · rw [if_pos q3]
        by_cases q4 : 3 < d
        · rw [if_pos q4]
          try exact rfl
        · rw [if_neg q4]
          try exact rfl
      · rw [if_neg q3]
        try exact rfl
    · rw [if_neg q2]
      by_cases q3 : ((upI (upL H 10 (H.1 4 7).toNat m) 9 (H.1 4 7).toNat (f_X9_wordOf m H)).1 9 (H.1 4 7).toNat) = (-1)
      · rw [if_pos q3]
        try exact rfl
      · rw [if_neg q3]
        try exact rfl
  · rw [if_neg q1]
    by_cases q2 : l = 0
    · rw [if_pos q2]
      by_cases q3 : 3 < d
      · rw [if_pos q3]
        try exact rfl
      · rw [if_neg q3]
        try exact rfl
    · rw [if_neg q2]
      try exact rfl
theorem kpI_X9_scanRun_4_7 (H : hH) : (f_X9_scanRun H).2.1 4 7 = H.1 4 7 := (kpI_X9_runEnd_4_7 _ _ _ _ _).trans (kpI_X9_run_4_7 _ 0 0 0 0 H)
theorem kpI_X9_tok_4_7 (a1 : Int) (H : hH) : (f_X9_tok a1 H).2.1 4 7 = H.1 4 7 := by
  unfold f_X9_tok
  by_cases q1 : a1 < H.1 4 2
  · rw [if_pos q1]
    by_cases q2 : H.1 4 8 < a1
    · rw [if_pos q2]
      by_cases q3 : H.1 4 8 < H.1 4 2
      · rw [if_pos q3]
        by_cases q4 : f_X9_isDigit (H.1 5 (H.1 4 8).toNat) = 0
        · rw [if_pos q4]
          by_cases q5 : f_X9_isLetter (H.1 5 (H.1 4 8).toNat) = 0
          · rw [if_pos q5]
            by_cases q6 : f_X9_isSignByte (H.1 5 (H.1 4 8).toNat) = 0
            · rw [if_pos q6]
              try exact rfl
            · rw [if_neg q6]
              try exact rfl
          · rw [if_neg q5]
            exact (kpI_X9_scanRun_4_7 (upI (upL (upI H 9 (H.1 4 7).toNat 0) 10 (H.1 4 7).toNat 0) 8 (H.1 4 7).toNat (H.1 4 8)))
        · rw [if_neg q4]
          exact (kpI_X9_scanRun_4_7 (upI (upL (upI H 9 (H.1 4 7).toNat 0) 10 (H.1 4 7).toNat 0) 8 (H.1 4 7).toNat (H.1 4 8)))
      · rw [if_neg q3]
        try exact rfl
    · rw [if_neg q2]
      try exact rfl
  · rw [if_neg q1]
    by_cases q2 : H.1 4 8 < H.1 4 2
    · rw [if_pos q2]
      by_cases q3 : f_X9_isDigit (H.1 5 (H.1 4 8).toNat) = 0
      · rw [if_pos q3]
        by_cases q4 : f_X9_isLetter (H.1 5 (H.1 4 8).toNat) = 0
        · rw [if_pos q4]
          by_cases q5 : f_X9_isSignByte (H.1 5 (H.1 4 8).toNat) = 0
          · rw [if_pos q5]
            try exact rfl
          · rw [if_neg q5]
            try exact rfl
        · rw [if_neg q4]
          exact (kpI_X9_scanRun_4_7 (upI (upL (upI H 9 (H.1 4 7).toNat 0) 10 (H.1 4 7).toNat 0) 8 (H.1 4 7).toNat (H.1 4 8)))
      · rw [if_neg q3]
        exact (kpI_X9_scanRun_4_7 (upI (upL (upI H 9 (H.1 4 7).toNat 0) 10 (H.1 4 7).toNat 0) 8 (H.1 4 7).toNat (H.1 4 8)))
    · rw [if_neg q2]
      try exact rfl
theorem kpI_X9_scanToken_4_7 (a1 : Int) (H : hH) : (f_X9_scanToken a1 H).2.1 4 7 = H.1 4 7 := (kpI_X9_tok_4_7 a1 _).trans (kpI_X9_blanks_4_7 a1 _ H)
theorem mpB {H : hH} {k : Nat} {x : Int} (hx : x = H.1 4 7) (r0 : xIn32 (H.1 4 7)) (h0 : H.1 4 7 < 941) (hm : (941 - H.1 4 7).toNat ≤ k + 1) : (941 - iAdd x 1).toNat ≤ k := by
  subst hx
  have a1 := r0.1
  have e : iAdd (H.1 4 7) 1 = H.1 4 7 + 1 := iop_add r0 ⟨by decide, by decide⟩ ⟨by omega, by omega⟩
  rw [e]
  omega
def f_X9_all (a1 : Int) : Nat → Int → hH → Int × hH
  | 0, b, H => (b, H)
  | k + 1, b, H =>
    if b = 0 then
      (b, H)
    else
      if H.1 4 7 < 941 then
        if ((upI (f_X9_scanToken a1 H).2 7 (H.1 4 7).toNat ((Int32.ofInt ((f_X9_scanToken a1 H).1)).toInt8.toInt32.toInt)).1 7 ((f_X9_scanToken a1 H).2.1 4 7).toNat) = 1 then
          f_X9_all a1 k 0 (upI (upI (f_X9_scanToken a1 H).2 7 (H.1 4 7).toNat ((Int32.ofInt ((f_X9_scanToken a1 H).1)).toInt8.toInt32.toInt)) 4 7 (iAdd ((f_X9_scanToken a1 H).2.1 4 7) 1))
        else
          if ((upI (f_X9_scanToken a1 H).2 7 (H.1 4 7).toNat ((Int32.ofInt ((f_X9_scanToken a1 H).1)).toInt8.toInt32.toInt)).1 7 ((f_X9_scanToken a1 H).2.1 4 7).toNat) = 0 then
            f_X9_all a1 k 0 (upI (upI (f_X9_scanToken a1 H).2 7 (H.1 4 7).toNat ((Int32.ofInt ((f_X9_scanToken a1 H).1)).toInt8.toInt32.toInt)) 4 7 (iAdd ((f_X9_scanToken a1 H).2.1 4 7) 1))
          else
            f_X9_all a1 k 1 (upI (upI (f_X9_scanToken a1 H).2 7 (H.1 4 7).toNat ((Int32.ofInt ((f_X9_scanToken a1 H).1)).toInt8.toInt32.toInt)) 4 7 (iAdd ((f_X9_scanToken a1 H).2.1 4 7) 1))
      else
        (b, H)
set_option maxHeartbeats 16000000 in
set_option maxRecDepth 100000 in
theorem lp_X9_all {g : Nat → Nat} {Post : xRes2 → Prop} (a1 : Int) : ∀ (k : Nat) (b : Int) (H : hH), RF H.2.2.1 → (941 - H.1 4 7).toNat ≤ k → (J g rvTab rvInf rvRet 316 rvMth 6 Post 85 [rf (g 4), pt a1, pt ((f_X9_all a1 k b H).1)] [] (f_X9_all a1 k b H).2) → J g rvTab rvInf rvRet 316 rvMth 6 Post 12 [rf (g 4), pt a1, pt b] [] H := by
  intro k
  induction k with
  | zero =>
    intro b H hr hm hx
    have hj : 6 < 316 := by decide
    refine J_ld 13 jw hj rfl rfl rfl rfl ?_
    refine J_ifc (t := 85) jw hj rfl (evn rfl) rfl (fun (h0 : b = 0) => ?_) (fun (h0 : ¬ b = 0) => ?_)
    · exact hx
    · refine J_ld 17 jw hj rfl rfl rfl rfl ?_
      refine J_gfI jw hj rfl (evn rfl) (by decide) rfl (fun r0 => ?_)
      refine J_cst 23 jw hj rfl rfl rfl ?_
      refine J_icmp (t := 85) jw hj rfl (evn rfl) rfl (fun (h1 : ¬ H.1 4 7 < 941) => ?_) (fun (h1 : H.1 4 7 < 941) => ?_)
      · exact hx
      · exfalso; omega
  | succ k ih =>
    intro b H hr hm hx
    have hj : 6 < 316 := by decide
    refine J_ld 13 jw hj rfl rfl rfl rfl ?_
    refine J_ifc (t := 85) jw hj rfl (evn rfl) rfl (fun (h0 : b = 0) => ?_) (fun (h0 : ¬ b = 0) => ?_)
    · have e : f_X9_all a1 (k + 1) b H = (b, H) := by
        rw [f_X9_all]
        rw [if_pos h0]
      rw [e] at hx
      exact hx
    · refine J_ld 17 jw hj rfl rfl rfl rfl ?_
      refine J_gfI jw hj rfl (evn rfl) (by decide) rfl (fun r0 => ?_)
      refine J_cst 23 jw hj rfl rfl rfl ?_
      refine J_icmp (t := 85) jw hj rfl (evn rfl) rfl (fun (h1 : ¬ H.1 4 7 < 941) => ?_) (fun (h1 : H.1 4 7 < 941) => ?_)
      · have e : f_X9_all a1 (k + 1) b H = (b, H) := by
          rw [f_X9_all]
          rw [if_neg h0, if_neg h1]
        rw [e] at hx
        exact hx
      · refine J_ld 27 jw hj rfl rfl rfl rfl ?_
        refine J_gfR (k := 7) jw hj rfl (evn rfl) (by decide) (by decide) (RFa hr rfl) ?_
        refine J_ld 31 jw hj rfl rfl rfl rfl ?_
        refine J_gfI jw hj rfl (evn rfl) (by decide) rfl (fun r1 => ?_)
        refine J_ld 35 jw hj rfl rfl rfl rfl ?_
        refine J_ld 36 jw hj rfl rfl rfl rfl ?_
        refine J_callV1 jw rfl (Or.inl ⟨_, rfl⟩) rfl rfl (sp_X9_scanToken (g := g) a1 H hr) ?_
        refine J_i2b jw hj rfl (evn rfl) ?_
        refine J_iast jw hj rfl (Or.inr rfl) (fun _ => ?_)
        refine J_ld 42 jw hj rfl rfl rfl rfl ?_
        refine J_gfR (k := 7) jw hj rfl (evn rfl) (by decide) (by decide) (RFa (rf_X9_scanToken a1 H hr) rfl) ?_
        refine J_ld 46 jw hj rfl rfl rfl rfl ?_
        refine J_gfI jw hj rfl (evn rfl) (by decide) rfl (fun r2 => ?_)
        refine J_iald jw hj rfl (Or.inr rfl) (fun z3 r3 => ?_)
        refine J_cst 51 jw hj rfl rfl rfl ?_
        refine J_icmp (t := 70) jw hj rfl (evn rfl) rfl (fun (h2 : ((upI (f_X9_scanToken a1 H).2 7 (H.1 4 7).toNat ((Int32.ofInt ((f_X9_scanToken a1 H).1)).toInt8.toInt32.toInt)).1 7 ((f_X9_scanToken a1 H).2.1 4 7).toNat) = 1) => ?_) (fun (h2 : ¬ ((upI (f_X9_scanToken a1 H).2 7 (H.1 4 7).toNat ((Int32.ofInt ((f_X9_scanToken a1 H).1)).toInt8.toInt32.toInt)).1 7 ((f_X9_scanToken a1 H).2.1 4 7).toNat) = 1) => ?_)
        · refine J_cst 71 jw hj rfl rfl rfl ?_
          refine J_st 72 [rf (g 4), pt a1, pt 0] (k := 2) jw hj rfl (Or.inr (Or.inr (Or.inl ⟨_, rfl, rfl, rfl⟩))) rfl ?_
          refine J_ld 73 jw hj rfl rfl rfl rfl ?_
          refine J_dup 74 jw hj rfl rfl ?_
          refine J_gfI jw hj rfl (evn rfl) (by decide) rfl (fun r4 => ?_)
          refine J_cst 78 jw hj rfl rfl rfl ?_
          refine J_bin jw hj rfl rfl ?_
          refine J_pfI jw hj rfl (evn rfl) rfl ?_
          refine J_goto 12 jw hj rfl rfl ?_
          have e : f_X9_all a1 (k + 1) b H = f_X9_all a1 k 0 (upI (upI (f_X9_scanToken a1 H).2 7 (H.1 4 7).toNat ((Int32.ofInt ((f_X9_scanToken a1 H).1)).toInt8.toInt32.toInt)) 4 7 (iAdd ((f_X9_scanToken a1 H).2.1 4 7) 1)) := by
            rw [f_X9_all]
            rw [if_neg h0, if_pos h1, if_pos h2]
          rw [e] at hx
          exact ih 0 (upI (upI (f_X9_scanToken a1 H).2 7 (H.1 4 7).toNat ((Int32.ofInt ((f_X9_scanToken a1 H).1)).toInt8.toInt32.toInt)) 4 7 (iAdd ((f_X9_scanToken a1 H).2.1 4 7) 1)) (rf_X9_scanToken a1 H hr) (by exact mpB (kpI_X9_scanToken_4_7 a1 H) (by assumption) h1 hm) hx
        · refine J_ld 55 jw hj rfl rfl rfl rfl ?_
          refine J_gfR (k := 7) jw hj rfl (evn rfl) (by decide) (by decide) (RFa (rf_X9_scanToken a1 H hr) rfl) ?_
          refine J_ld 59 jw hj rfl rfl rfl rfl ?_
          refine J_gfI jw hj rfl (evn rfl) (by decide) rfl (fun r5 => ?_)
          refine J_iald jw hj rfl (Or.inr rfl) (fun z6 r6 => ?_)
          refine J_ifc (t := 70) jw hj rfl (evn rfl) rfl (fun (h3 : ((upI (f_X9_scanToken a1 H).2 7 (H.1 4 7).toNat ((Int32.ofInt ((f_X9_scanToken a1 H).1)).toInt8.toInt32.toInt)).1 7 ((f_X9_scanToken a1 H).2.1 4 7).toNat) = 0) => ?_) (fun (h3 : ¬ ((upI (f_X9_scanToken a1 H).2 7 (H.1 4 7).toNat ((Int32.ofInt ((f_X9_scanToken a1 H).1)).toInt8.toInt32.toInt)).1 7 ((f_X9_scanToken a1 H).2.1 4 7).toNat) = 0) => ?_)
          · refine J_cst 71 jw hj rfl rfl rfl ?_
            refine J_st 72 [rf (g 4), pt a1, pt 0] (k := 2) jw hj rfl (Or.inr (Or.inr (Or.inl ⟨_, rfl, rfl, rfl⟩))) rfl ?_
            refine J_ld 73 jw hj rfl rfl rfl rfl ?_
            refine J_dup 74 jw hj rfl rfl ?_
            refine J_gfI jw hj rfl (evn rfl) (by decide) rfl (fun r7 => ?_)
            refine J_cst 78 jw hj rfl rfl rfl ?_
            refine J_bin jw hj rfl rfl ?_
            refine J_pfI jw hj rfl (evn rfl) rfl ?_
            refine J_goto 12 jw hj rfl rfl ?_
            have e : f_X9_all a1 (k + 1) b H = f_X9_all a1 k 0 (upI (upI (f_X9_scanToken a1 H).2 7 (H.1 4 7).toNat ((Int32.ofInt ((f_X9_scanToken a1 H).1)).toInt8.toInt32.toInt)) 4 7 (iAdd ((f_X9_scanToken a1 H).2.1 4 7) 1)) := by
              rw [f_X9_all]
              rw [if_neg h0, if_pos h1, if_neg h2, if_pos h3]
            rw [e] at hx
            exact ih 0 (upI (upI (f_X9_scanToken a1 H).2 7 (H.1 4 7).toNat ((Int32.ofInt ((f_X9_scanToken a1 H).1)).toInt8.toInt32.toInt)) 4 7 (iAdd ((f_X9_scanToken a1 H).2.1 4 7) 1)) (rf_X9_scanToken a1 H hr) (by exact mpB (kpI_X9_scanToken_4_7 a1 H) (by assumption) h1 hm) hx
          · refine J_cst 67 jw hj rfl rfl rfl ?_
            refine J_goto 71 jw hj rfl rfl ?_
            refine J_st 72 [rf (g 4), pt a1, pt 1] (k := 2) jw hj rfl (Or.inr (Or.inr (Or.inl ⟨_, rfl, rfl, rfl⟩))) rfl ?_
            refine J_ld 73 jw hj rfl rfl rfl rfl ?_
            refine J_dup 74 jw hj rfl rfl ?_
            refine J_gfI jw hj rfl (evn rfl) (by decide) rfl (fun r8 => ?_)
            refine J_cst 78 jw hj rfl rfl rfl ?_
            refine J_bin jw hj rfl rfl ?_
            refine J_pfI jw hj rfl (evn rfl) rfl ?_
            refine J_goto 12 jw hj rfl rfl ?_
            have e : f_X9_all a1 (k + 1) b H = f_X9_all a1 k 1 (upI (upI (f_X9_scanToken a1 H).2 7 (H.1 4 7).toNat ((Int32.ofInt ((f_X9_scanToken a1 H).1)).toInt8.toInt32.toInt)) 4 7 (iAdd ((f_X9_scanToken a1 H).2.1 4 7) 1)) := by
              rw [f_X9_all]
              rw [if_neg h0, if_pos h1, if_neg h2, if_neg h3]
            rw [e] at hx
            exact ih 1 (upI (upI (f_X9_scanToken a1 H).2 7 (H.1 4 7).toNat ((Int32.ofInt ((f_X9_scanToken a1 H).1)).toInt8.toInt32.toInt)) 4 7 (iAdd ((f_X9_scanToken a1 H).2.1 4 7) 1)) (rf_X9_scanToken a1 H hr) (by exact mpB (kpI_X9_scanToken_4_7 a1 H) (by assumption) h1 hm) hx
theorem rf_X9_all (a1 : Int) : ∀ (k : Nat) (b : Int) (H : hH), RF H.2.2.1 → RF (f_X9_all a1 k b H).2.2.2.1 := by
  intro k
  induction k with
  | zero => intro b H hr; exact hr
  | succ k ih =>
    intro b H hr
    rw [f_X9_all]
    by_cases q2 : b = 0
    · rw [if_pos q2]
      exact hr
    · rw [if_neg q2]
      by_cases q3 : H.1 4 7 < 941
      · rw [if_pos q3]
        by_cases q4 : ((upI (f_X9_scanToken a1 H).2 7 (H.1 4 7).toNat ((Int32.ofInt ((f_X9_scanToken a1 H).1)).toInt8.toInt32.toInt)).1 7 ((f_X9_scanToken a1 H).2.1 4 7).toNat) = 1
        · rw [if_pos q4]
          exact ih 0 (upI (upI (f_X9_scanToken a1 H).2 7 (H.1 4 7).toNat ((Int32.ofInt ((f_X9_scanToken a1 H).1)).toInt8.toInt32.toInt)) 4 7 (iAdd ((f_X9_scanToken a1 H).2.1 4 7) 1)) (rf_X9_scanToken a1 H hr)
        · rw [if_neg q4]
          by_cases q5 : ((upI (f_X9_scanToken a1 H).2 7 (H.1 4 7).toNat ((Int32.ofInt ((f_X9_scanToken a1 H).1)).toInt8.toInt32.toInt)).1 7 ((f_X9_scanToken a1 H).2.1 4 7).toNat) = 0
          · rw [if_pos q5]
            exact ih 0 (upI (upI (f_X9_scanToken a1 H).2 7 (H.1 4 7).toNat ((Int32.ofInt ((f_X9_scanToken a1 H).1)).toInt8.toInt32.toInt)) 4 7 (iAdd ((f_X9_scanToken a1 H).2.1 4 7) 1)) (rf_X9_scanToken a1 H hr)
          · rw [if_neg q5]
            exact ih 1 (upI (upI (f_X9_scanToken a1 H).2 7 (H.1 4 7).toNat ((Int32.ofInt ((f_X9_scanToken a1 H).1)).toInt8.toInt32.toInt)) 4 7 (iAdd ((f_X9_scanToken a1 H).2.1 4 7) 1)) (rf_X9_scanToken a1 H hr)
      · rw [if_neg q3]
        exact hr
