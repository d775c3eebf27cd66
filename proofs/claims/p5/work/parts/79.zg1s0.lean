/-! The scanners of both sides (written by wip/p4/scan.py). -/
theorem mpX {H : hH} {k : Nat} (r0 : xIn32 (H.1 4 8)) (r1 : xIn32 (H.1 4 2)) (h0 : H.1 4 8 < H.1 4 2) (hm : (H.1 4 2 - H.1 4 8).toNat ≤ k + 1) : (H.1 4 2 - iAdd (H.1 4 8) 1).toNat ≤ k := by
  have a1 := r0.1
  have a2 := r1.2
  have e : iAdd (H.1 4 8) 1 = H.1 4 8 + 1 := iop_add r0 ⟨by decide, by decide⟩ ⟨by omega, by omega⟩
  rw [e]
  omega
theorem mpM {H : hH} {k : Nat} (hv : H.1 29 3 ≤ 2147483647) (r0 : xIn32 (H.1 29 4)) (h0 : H.1 29 4 < H.1 29 3) (hm : (H.1 29 3 - H.1 29 4).toNat ≤ k + 1) : (H.1 29 3 - iAdd (H.1 29 4) 1).toNat ≤ k := by
  have a1 := r0.1
  have e : iAdd (H.1 29 4) 1 = H.1 29 4 + 1 := iop_add r0 ⟨by decide, by decide⟩ ⟨by omega, by omega⟩
  rw [e]
  omega
theorem nxp_lt {H : hH} {c : Int} (h : f_X12_peek H = c) (hc : ¬ c = -1) : H.1 29 4 < H.1 29 3 := by
  unfold f_X12_peek at h
  split at h
  · assumption
  · exact absurd h.symm hc
theorem nxp_ge {H : hH} (h : ¬ f_X12_peek H = -1) : H.1 29 4 < H.1 29 3 := nxp_lt rfl h
theorem sm_ne {c : Int} (h : ¬ f_X12_isSmall c = 0) : ¬ c = -1 := by
  intro e
  subst e
  exact h (by decide)
theorem dg_ne {c : Int} (h : ¬ f_X12_isDigit c = 0) : ¬ c = -1 := by
  intro e
  subst e
  exact h (by decide)
def f_X9_blanks (a1 : Int) : Nat → hH → hH
  | 0, H => H
  | k + 1, H =>
    if H.1 4 8 < H.1 4 2 then
      if f_X9_isBlank (H.1 5 (H.1 4 8).toNat) = 0 then
        H
      else
        f_X9_blanks a1 k (upI H 4 8 (iAdd (H.1 4 8) 1))
    else
      H
set_option maxHeartbeats 16000000 in
set_option maxRecDepth 100000 in
theorem lp_X9_blanks {g : Nat → Nat} {Post : xRes2 → Prop} (a1 : Int) : ∀ (k : Nat)  (H : hH) (w : rvV), RF H.2.2.1 → (H.1 4 2 - H.1 4 8).toNat ≤ k → (∀ w : rvV, J g rvTab rvInf rvRet 316 rvMth 4 Post 39 [rf (g 4), pt a1, w] [] (f_X9_blanks a1 k H)) → J g rvTab rvInf rvRet 316 rvMth 4 Post 0 [rf (g 4), pt a1, w] [] H := by
  intro k
  induction k with
  | zero =>
    intro  H w hr hm hx
    have hj : 4 < 316 := by decide
    refine J_ld 1 jw hj rfl rfl rfl rfl ?_
    refine J_gfI jw hj rfl (evn rfl) (by decide) rfl (fun r0 => ?_)
    refine J_ld 5 jw hj rfl rfl rfl rfl ?_
    refine J_gfI jw hj rfl (evn rfl) (by decide) rfl (fun r1 => ?_)
    refine J_icmp (t := 39) jw hj rfl (evn rfl) rfl (fun (h0 : ¬ H.1 4 8 < H.1 4 2) => ?_) (fun (h0 : H.1 4 8 < H.1 4 2) => ?_)
    · exact hx w
    · exfalso; omega
  | succ k ih =>
    intro  H w hr hm hx
    have hj : 4 < 316 := by decide
    refine J_ld 1 jw hj rfl rfl rfl rfl ?_
    refine J_gfI jw hj rfl (evn rfl) (by decide) rfl (fun r0 => ?_)
    refine J_ld 5 jw hj rfl rfl rfl rfl ?_
    refine J_gfI jw hj rfl (evn rfl) (by decide) rfl (fun r1 => ?_)
    refine J_icmp (t := 39) jw hj rfl (evn rfl) rfl (fun (h0 : ¬ H.1 4 8 < H.1 4 2) => ?_) (fun (h0 : H.1 4 8 < H.1 4 2) => ?_)
    · have e : f_X9_blanks a1 (k + 1) H = H := by
        rw [f_X9_blanks]
        rw [if_neg h0]
      rw [e] at hx
      exact hx w
    · refine J_ld 12 jw hj rfl rfl rfl rfl ?_
      refine J_gfR (k := 5) jw hj rfl (evn rfl) (by decide) (by decide) (RFa hr rfl) ?_
      refine J_ld 16 jw hj rfl rfl rfl rfl ?_
      refine J_gfI jw hj rfl (evn rfl) (by decide) rfl (fun r2 => ?_)
      refine J_iald jw hj rfl (Or.inr rfl) (fun z3 r3 => ?_)
      refine J_callS1 jw rfl rfl rfl rfl (sp_X9_isBlank (g := g) (H.1 5 (H.1 4 8).toNat) H) ?_
      refine J_ifc (t := 39) jw hj rfl (evn rfl) rfl (fun (h1 : f_X9_isBlank (H.1 5 (H.1 4 8).toNat) = 0) => ?_) (fun (h1 : ¬ f_X9_isBlank (H.1 5 (H.1 4 8).toNat) = 0) => ?_)
      · have e : f_X9_blanks a1 (k + 1) H = H := by
          rw [f_X9_blanks]
          rw [if_pos h0, if_pos h1]
        rw [e] at hx
        exact hx w
      · refine J_ld 27 jw hj rfl rfl rfl rfl ?_
        refine J_dup 28 jw hj rfl rfl ?_
        refine J_gfI jw hj rfl (evn rfl) (by decide) rfl (fun r4 => ?_)
        refine J_cst 32 jw hj rfl rfl rfl ?_
        refine J_bin jw hj rfl rfl ?_
        refine J_pfI jw hj rfl (evn rfl) rfl ?_
        refine J_goto 0 jw hj rfl rfl ?_
        have e : f_X9_blanks a1 (k + 1) H = f_X9_blanks a1 k (upI H 4 8 (iAdd (H.1 4 8) 1)) := by
          rw [f_X9_blanks]
          rw [if_pos h0, if_neg h1]
        rw [e] at hx
        exact ih  (upI H 4 8 (iAdd (H.1 4 8) 1)) w hr (by exact mpX r0 r1 h0 hm) hx
theorem rf_X9_blanks (a1 : Int) : ∀ (k : Nat)  (H : hH), RF H.2.2.1 → RF (f_X9_blanks a1 k H).2.2.1 := by
  intro k
  induction k with
  | zero => intro  H hr; exact hr
  | succ k ih =>
    intro  H hr
    rw [f_X9_blanks]
    by_cases q2 : H.1 4 8 < H.1 4 2
    · rw [if_pos q2]
      by_cases q3 : f_X9_isBlank (H.1 5 (H.1 4 8).toNat) = 0
      · rw [if_pos q3]
        exact hr
      · rw [if_neg q3]
        exact ih  (upI H 4 8 (iAdd (H.1 4 8) 1)) hr
    · rw [if_neg q2]
      exact hr
def f_X9_run  : Nat → Int → Int → Int → Int64 → hH → Int × Int × Int × Int64 × hH
  | 0, l, d, n, m, H => (l, d, n, m, H)
  | k + 1, l, d, n, m, H =>
    if H.1 4 8 < H.1 4 2 then
      if f_X9_isDigit (H.1 5 (H.1 4 8).toNat) = 0 then
        if f_X9_isLetter (H.1 5 (H.1 4 8).toNat) = 0 then
          (l, d, n, m, H)
        else
          if f_X9_isLetter (H.1 5 (H.1 4 8).toNat) = 0 then
            f_X9_run k l (iAdd d 1) (iSub (iAdd (iMul n 10) (H.1 5 (H.1 4 8).toNat)) 48) m (upI H 4 8 (iAdd (H.1 4 8) 1))
          else
            f_X9_run k (iAdd l 1) d n (f_X9_withLetter m (H.1 5 (H.1 4 8).toNat)) (upI H 4 8 (iAdd (H.1 4 8) 1))
      else
        if f_X9_isLetter (H.1 5 (H.1 4 8).toNat) = 0 then
          f_X9_run k l (iAdd d 1) (iSub (iAdd (iMul n 10) (H.1 5 (H.1 4 8).toNat)) 48) m (upI H 4 8 (iAdd (H.1 4 8) 1))
        else
          f_X9_run k (iAdd l 1) d n (f_X9_withLetter m (H.1 5 (H.1 4 8).toNat)) (upI H 4 8 (iAdd (H.1 4 8) 1))
    else
      (l, d, n, m, H)
set_option maxHeartbeats 16000000 in
set_option maxRecDepth 100000 in
theorem lp_X9_run {g : Nat → Nat} {Post : xRes2 → Prop}  : ∀ (k : Nat) (l : Int) (d : Int) (n : Int) (m : Int64) (H : hH) (w : rvV), RF H.2.2.1 → (H.1 4 2 - H.1 4 8).toNat ≤ k → (∀ w : rvV, J g rvTab rvInf rvRet 316 rvMth 3 Post 111 [rf (g 4), pt ((f_X9_run k l d n m H).1), pt ((f_X9_run k l d n m H).2.1), pt ((f_X9_run k l d n m H).2.2.1), lg ((f_X9_run k l d n m H).2.2.2.1), rvU, w] [] (f_X9_run k l d n m H).2.2.2.2) → J g rvTab rvInf rvRet 316 rvMth 3 Post 9 [rf (g 4), pt l, pt d, pt n, lg m, rvU, w] [] H := by
  intro k
  induction k with
  | zero =>
    intro l d n m H w hr hm hx
    have hj : 3 < 316 := by decide
    refine J_ld 10 jw hj rfl rfl rfl rfl ?_
    refine J_gfI jw hj rfl (evn rfl) (by decide) rfl (fun r0 => ?_)
    refine J_ld 14 jw hj rfl rfl rfl rfl ?_
    refine J_gfI jw hj rfl (evn rfl) (by decide) rfl (fun r1 => ?_)
    refine J_icmp (t := 111) jw hj rfl (evn rfl) rfl (fun (h0 : ¬ H.1 4 8 < H.1 4 2) => ?_) (fun (h0 : H.1 4 8 < H.1 4 2) => ?_)
    · exact hx w
    · exfalso; omega
  | succ k ih =>
    intro l d n m H w hr hm hx
    have hj : 3 < 316 := by decide
    refine J_ld 10 jw hj rfl rfl rfl rfl ?_
    refine J_gfI jw hj rfl (evn rfl) (by decide) rfl (fun r0 => ?_)
    refine J_ld 14 jw hj rfl rfl rfl rfl ?_
    refine J_gfI jw hj rfl (evn rfl) (by decide) rfl (fun r1 => ?_)
    refine J_icmp (t := 111) jw hj rfl (evn rfl) rfl (fun (h0 : ¬ H.1 4 8 < H.1 4 2) => ?_) (fun (h0 : H.1 4 8 < H.1 4 2) => ?_)
    · have e : f_X9_run (k + 1) l d n m H = (l, d, n, m, H) := by
        rw [f_X9_run]
        rw [if_neg h0]
      rw [e] at hx
      exact hx w
    · refine J_ld 21 jw hj rfl rfl rfl rfl ?_
      refine J_gfR (k := 5) jw hj rfl (evn rfl) (by decide) (by decide) (RFa hr rfl) ?_
      refine J_ld 25 jw hj rfl rfl rfl rfl ?_
      refine J_gfI jw hj rfl (evn rfl) (by decide) rfl (fun r2 => ?_)
      refine J_iald jw hj rfl (Or.inr rfl) (fun z3 r3 => ?_)
      refine J_callS1 jw rfl rfl rfl rfl (sp_X9_isDigit (g := g) (H.1 5 (H.1 4 8).toNat) H) ?_
      refine J_ifc (t := 50) jw hj rfl (evn rfl) rfl (fun (h1 : ¬ f_X9_isDigit (H.1 5 (H.1 4 8).toNat) = 0) => ?_) (fun (h1 : f_X9_isDigit (H.1 5 (H.1 4 8).toNat) = 0) => ?_)
      · refine J_ld 51 jw hj rfl rfl rfl rfl ?_
        refine J_gfR (k := 5) jw hj rfl (evn rfl) (by decide) (by decide) (RFa hr rfl) ?_
        refine J_ld 55 jw hj rfl rfl rfl rfl ?_
        refine J_gfI jw hj rfl (evn rfl) (by decide) rfl (fun r4 => ?_)
        refine J_iald jw hj rfl (Or.inr rfl) (fun z5 r5 => ?_)
        refine J_st 61 [rf (g 4), pt l, pt d, pt n, lg m, rvU, pt (H.1 5 (H.1 4 8).toNat)] (k := 6) jw hj rfl (Or.inl ⟨rfl, rfl⟩) rfl ?_
        refine J_ld 63 jw hj rfl rfl rfl rfl ?_
        refine J_callS1 jw rfl rfl rfl rfl (sp_X9_isLetter (g := g) (H.1 5 (H.1 4 8).toNat) H) ?_
        refine J_ifc (t := 84) jw hj rfl (evn rfl) rfl (fun (h2 : f_X9_isLetter (H.1 5 (H.1 4 8).toNat) = 0) => ?_) (fun (h2 : ¬ f_X9_isLetter (H.1 5 (H.1 4 8).toNat) = 0) => ?_)
        · refine J_iinc (al' := [rf (g 4), pt l, pt (iAdd d 1), pt n, lg m, rvU, pt (H.1 5 (H.1 4 8).toNat)]) jw hj rfl (evn rfl) rfl rfl ?_
          refine J_ld 88 jw hj rfl rfl rfl rfl ?_
          refine J_cst 90 jw hj rfl rfl rfl ?_
          refine J_bin jw hj rfl rfl ?_
          refine J_ld 93 jw hj rfl rfl rfl rfl ?_
          refine J_bin jw hj rfl rfl ?_
          refine J_cst 96 jw hj rfl rfl rfl ?_
          refine J_bin jw hj rfl rfl ?_
          refine J_st 98 [rf (g 4), pt l, pt (iAdd d 1), pt (iSub (iAdd (iMul n 10) (H.1 5 (H.1 4 8).toNat)) 48), lg m, rvU, pt (H.1 5 (H.1 4 8).toNat)] (k := 3) jw hj rfl (Or.inr (Or.inr (Or.inl ⟨_, rfl, rfl, rfl⟩))) rfl ?_
          refine J_ld 99 jw hj rfl rfl rfl rfl ?_
          refine J_dup 100 jw hj rfl rfl ?_
          refine J_gfI jw hj rfl (evn rfl) (by decide) rfl (fun r6 => ?_)
          refine J_cst 104 jw hj rfl rfl rfl ?_
          refine J_bin jw hj rfl rfl ?_
          refine J_pfI jw hj rfl (evn rfl) rfl ?_
          refine J_goto 9 jw hj rfl rfl ?_
          have e : f_X9_run (k + 1) l d n m H = f_X9_run k l (iAdd d 1) (iSub (iAdd (iMul n 10) (H.1 5 (H.1 4 8).toNat)) 48) m (upI H 4 8 (iAdd (H.1 4 8) 1)) := by
            rw [f_X9_run]
            rw [if_pos h0, if_neg h1, if_pos h2]
          rw [e] at hx
          exact ih l (iAdd d 1) (iSub (iAdd (iMul n 10) (H.1 5 (H.1 4 8).toNat)) 48) m (upI H 4 8 (iAdd (H.1 4 8) 1)) (pt (H.1 5 (H.1 4 8).toNat)) hr (by exact mpX r0 r1 h0 hm) hx
        · refine J_iinc (al' := [rf (g 4), pt (iAdd l 1), pt d, pt n, lg m, rvU, pt (H.1 5 (H.1 4 8).toNat)]) jw hj rfl (evn rfl) rfl rfl ?_
          refine J_ld 74 jw hj rfl rfl rfl rfl ?_
          refine J_ld 76 jw hj rfl rfl rfl rfl ?_
          refine J_callS1 jw rfl rfl rfl rfl (sp_X9_withLetter (g := g) m (H.1 5 (H.1 4 8).toNat) H) ?_
          refine J_lst 81 [rf (g 4), pt (iAdd l 1), pt d, pt n, lg (f_X9_withLetter m (H.1 5 (H.1 4 8).toNat)), rvU, pt (H.1 5 (H.1 4 8).toNat)] (k := 4) jw hj rfl (Or.inl ⟨rfl, rfl⟩) rfl ?_
          refine J_goto 98 jw hj rfl rfl ?_
          refine J_ld 99 jw hj rfl rfl rfl rfl ?_
          refine J_dup 100 jw hj rfl rfl ?_
          refine J_gfI jw hj rfl (evn rfl) (by decide) rfl (fun r7 => ?_)
          refine J_cst 104 jw hj rfl rfl rfl ?_
          refine J_bin jw hj rfl rfl ?_
          refine J_pfI jw hj rfl (evn rfl) rfl ?_
          refine J_goto 9 jw hj rfl rfl ?_
          have e : f_X9_run (k + 1) l d n m H = f_X9_run k (iAdd l 1) d n (f_X9_withLetter m (H.1 5 (H.1 4 8).toNat)) (upI H 4 8 (iAdd (H.1 4 8) 1)) := by
            rw [f_X9_run]
            rw [if_pos h0, if_neg h1, if_neg h2]
          rw [e] at hx
          exact ih (iAdd l 1) d n (f_X9_withLetter m (H.1 5 (H.1 4 8).toNat)) (upI H 4 8 (iAdd (H.1 4 8) 1)) (pt (H.1 5 (H.1 4 8).toNat)) hr (by exact mpX r0 r1 h0 hm) hx
      · refine J_ld 36 jw hj rfl rfl rfl rfl ?_
        refine J_gfR (k := 5) jw hj rfl (evn rfl) (by decide) (by decide) (RFa hr rfl) ?_
        refine J_ld 40 jw hj rfl rfl rfl rfl ?_
        refine J_gfI jw hj rfl (evn rfl) (by decide) rfl (fun r8 => ?_)
        refine J_iald jw hj rfl (Or.inr rfl) (fun z9 r9 => ?_)
        refine J_callS1 jw rfl rfl rfl rfl (sp_X9_isLetter (g := g) (H.1 5 (H.1 4 8).toNat) H) ?_
        refine J_ifc (t := 111) jw hj rfl (evn rfl) rfl (fun (h3 : f_X9_isLetter (H.1 5 (H.1 4 8).toNat) = 0) => ?_) (fun (h3 : ¬ f_X9_isLetter (H.1 5 (H.1 4 8).toNat) = 0) => ?_)
        · have e : f_X9_run (k + 1) l d n m H = (l, d, n, m, H) := by
            rw [f_X9_run]
            rw [if_pos h0, if_pos h1, if_pos h3]
          rw [e] at hx
          exact hx w
        · refine J_ld 51 jw hj rfl rfl rfl rfl ?_
          refine J_gfR (k := 5) jw hj rfl (evn rfl) (by decide) (by decide) (RFa hr rfl) ?_
          refine J_ld 55 jw hj rfl rfl rfl rfl ?_
          refine J_gfI jw hj rfl (evn rfl) (by decide) rfl (fun r10 => ?_)
          refine J_iald jw hj rfl (Or.inr rfl) (fun z11 r11 => ?_)
          refine J_st 61 [rf (g 4), pt l, pt d, pt n, lg m, rvU, pt (H.1 5 (H.1 4 8).toNat)] (k := 6) jw hj rfl (Or.inl ⟨rfl, rfl⟩) rfl ?_
          refine J_ld 63 jw hj rfl rfl rfl rfl ?_
          refine J_callS1 jw rfl rfl rfl rfl (sp_X9_isLetter (g := g) (H.1 5 (H.1 4 8).toNat) H) ?_
          refine J_ifc (t := 84) jw hj rfl (evn rfl) rfl (fun (h4 : f_X9_isLetter (H.1 5 (H.1 4 8).toNat) = 0) => ?_) (fun (h4 : ¬ f_X9_isLetter (H.1 5 (H.1 4 8).toNat) = 0) => ?_)
          · refine J_iinc (al' := [rf (g 4), pt l, pt (iAdd d 1), pt n, lg m, rvU, pt (H.1 5 (H.1 4 8).toNat)]) jw hj rfl (evn rfl) rfl rfl ?_
            refine J_ld 88 jw hj rfl rfl rfl rfl ?_
            refine J_cst 90 jw hj rfl rfl rfl ?_
            refine J_bin jw hj rfl rfl ?_
            refine J_ld 93 jw hj rfl rfl rfl rfl ?_
            refine J_bin jw hj rfl rfl ?_
            refine J_cst 96 jw hj rfl rfl rfl ?_
            refine J_bin jw hj rfl rfl ?_
            refine J_st 98 [rf (g 4), pt l, pt (iAdd d 1), pt (iSub (iAdd (iMul n 10) (H.1 5 (H.1 4 8).toNat)) 48), lg m, rvU, pt (H.1 5 (H.1 4 8).toNat)] (k := 3) jw hj rfl (Or.inr (Or.inr (Or.inl ⟨_, rfl, rfl, rfl⟩))) rfl ?_
            refine J_ld 99 jw hj rfl rfl rfl rfl ?_
            refine J_dup 100 jw hj rfl rfl ?_
            refine J_gfI jw hj rfl (evn rfl) (by decide) rfl (fun r12 => ?_)
            refine J_cst 104 jw hj rfl rfl rfl ?_
            refine J_bin jw hj rfl rfl ?_
            refine J_pfI jw hj rfl (evn rfl) rfl ?_
            refine J_goto 9 jw hj rfl rfl ?_
            have e : f_X9_run (k + 1) l d n m H = f_X9_run k l (iAdd d 1) (iSub (iAdd (iMul n 10) (H.1 5 (H.1 4 8).toNat)) 48) m (upI H 4 8 (iAdd (H.1 4 8) 1)) := by
              rw [f_X9_run]
              rw [if_pos h0, if_pos h1, if_neg h3, if_pos h4]
            rw [e] at hx
            exact ih l (iAdd d 1) (iSub (iAdd (iMul n 10) (H.1 5 (H.1 4 8).toNat)) 48) m (upI H 4 8 (iAdd (H.1 4 8) 1)) (pt (H.1 5 (H.1 4 8).toNat)) hr (by exact mpX r0 r1 h0 hm) hx
          · refine J_iinc (al' := [rf (g 4), pt (iAdd l 1), pt d, pt n, lg m, rvU, pt (H.1 5 (H.1 4 8).toNat)]) jw hj rfl (evn rfl) rfl rfl ?_
            refine J_ld 74 jw hj rfl rfl rfl rfl ?_
            refine J_ld 76 jw hj rfl rfl rfl rfl ?_
            refine J_callS1 jw rfl rfl rfl rfl (sp_X9_withLetter (g := g) m (H.1 5 (H.1 4 8).toNat) H) ?_
            refine J_lst 81 [rf (g 4), pt (iAdd l 1), pt d, pt n, lg (f_X9_withLetter m (H.1 5 (H.1 4 8).toNat)), rvU, pt (H.1 5 (H.1 4 8).toNat)] (k := 4) jw hj rfl (Or.inl ⟨rfl, rfl⟩) rfl ?_
            refine J_goto 98 jw hj rfl rfl ?_
            refine J_ld 99 jw hj rfl rfl rfl rfl ?_
            refine J_dup 100 jw hj rfl rfl ?_
            refine J_gfI jw hj rfl (evn rfl) (by decide) rfl (fun r13 => ?_)
            refine J_cst 104 jw hj rfl rfl rfl ?_
            refine J_bin jw hj rfl rfl ?_
            refine J_pfI jw hj rfl (evn rfl) rfl ?_
            refine J_goto 9 jw hj rfl rfl ?_
            have e : f_X9_run (k + 1) l d n m H = f_X9_run k (iAdd l 1) d n (f_X9_withLetter m (H.1 5 (H.1 4 8).toNat)) (upI H 4 8 (iAdd (H.1 4 8) 1)) := by
              rw [f_X9_run]
              rw [if_pos h0, if_pos h1, if_neg h3, if_neg h4]
            rw [e] at hx
            exact ih (iAdd l 1) d n (f_X9_withLetter m (H.1 5 (H.1 4 8).toNat)) (upI H 4 8 (iAdd (H.1 4 8) 1)) (pt (H.1 5 (H.1 4 8).toNat)) hr (by exact mpX r0 r1 h0 hm) hx
theorem rf_X9_run  : ∀ (k : Nat) (l : Int) (d : Int) (n : Int) (m : Int64) (H : hH), RF H.2.2.1 → RF (f_X9_run k l d n m H).2.2.2.2.2.2.1 := by
  intro k
  induction k with
  | zero => intro l d n m H hr; exact hr
  | succ k ih =>
    intro l d n m H hr
    rw [f_X9_run]
    by_cases q2 : H.1 4 8 < H.1 4 2
    · rw [if_pos q2]
      by_cases q3 : f_X9_isDigit (H.1 5 (H.1 4 8).toNat) = 0
      · rw [if_pos q3]
        by_cases q4 : f_X9_isLetter (H.1 5 (H.1 4 8).toNat) = 0
        · rw [if_pos q4]
          exact hr
        · rw [if_neg q4]
          by_cases q5 : f_X9_isLetter (H.1 5 (H.1 4 8).toNat) = 0
          · rw [if_pos q5]
            exact ih l (iAdd d 1) (iSub (iAdd (iMul n 10) (H.1 5 (H.1 4 8).toNat)) 48) m (upI H 4 8 (iAdd (H.1 4 8) 1)) hr
          · rw [if_neg q5]
            exact ih (iAdd l 1) d n (f_X9_withLetter m (H.1 5 (H.1 4 8).toNat)) (upI H 4 8 (iAdd (H.1 4 8) 1)) hr
      · rw [if_neg q3]
        by_cases q4 : f_X9_isLetter (H.1 5 (H.1 4 8).toNat) = 0
        · rw [if_pos q4]
          exact ih l (iAdd d 1) (iSub (iAdd (iMul n 10) (H.1 5 (H.1 4 8).toNat)) 48) m (upI H 4 8 (iAdd (H.1 4 8) 1)) hr
        · rw [if_neg q4]
          exact ih (iAdd l 1) d n (f_X9_withLetter m (H.1 5 (H.1 4 8).toNat)) (upI H 4 8 (iAdd (H.1 4 8) 1)) hr
    · rw [if_neg q2]
      exact hr
def f_X12_blanks  : Nat → hH → hH
  | 0, H => H
  | k + 1, H =>
    if f_X12_peek H = 32 then
      f_X12_blanks k (upI H 29 4 (iAdd (H.1 29 4) 1))
    else
      if f_X12_peek H = 10 then
        f_X12_blanks k (upI H 29 4 (iAdd (H.1 29 4) 1))
      else
        H
set_option maxHeartbeats 16000000 in
set_option maxRecDepth 100000 in
theorem lp_X12_blanks {g : Nat → Nat} {Post : xRes2 → Prop}  : ∀ (k : Nat)  (H : hH), RM H.2.2.1 → H.1 29 3 ≤ 2147483647 → (H.1 29 3 - H.1 29 4).toNat ≤ k → (J g rvTab rvInf rvRet 316 rvMth 18 Post 31 [rf (g 29), rvU, rvU, rvU] [] (f_X12_blanks k H)) → J g rvTab rvInf rvRet 316 rvMth 18 Post 0 [rf (g 29), rvU, rvU, rvU] [] H := by
  intro k
  induction k with
  | zero =>
    intro  H hr hv hm hx
    have hj : 18 < 316 := by decide
    refine J_ld 1 jw hj rfl rfl rfl rfl ?_
    refine J_callV1 jw rfl (Or.inl ⟨_, rfl⟩) rfl rfl (sp_X12_peek (g := g) H hr) ?_
    refine J_cst 6 jw hj rfl rfl rfl ?_
    refine J_icmp (t := 18) jw hj rfl (evn rfl) rfl (fun (h0 : f_X12_peek H = 32) => ?_) (fun (h0 : ¬ f_X12_peek H = 32) => ?_)
    · exfalso; first | (have := nxp_lt h0 (by decide); omega) | (have := nxp_lt h1 (by decide); omega)
    · refine J_ld 10 jw hj rfl rfl rfl rfl ?_
      refine J_callV1 jw rfl (Or.inl ⟨_, rfl⟩) rfl rfl (sp_X12_peek (g := g) H hr) ?_
      refine J_cst 15 jw hj rfl rfl rfl ?_
      refine J_icmp (t := 31) jw hj rfl (evn rfl) rfl (fun (h1 : ¬ f_X12_peek H = 10) => ?_) (fun (h1 : f_X12_peek H = 10) => ?_)
      · exact hx
      · exfalso; first | (have := nxp_lt h0 (by decide); omega) | (have := nxp_lt h1 (by decide); omega)
  | succ k ih =>
    intro  H hr hv hm hx
    have hj : 18 < 316 := by decide
    refine J_ld 1 jw hj rfl rfl rfl rfl ?_
    refine J_callV1 jw rfl (Or.inl ⟨_, rfl⟩) rfl rfl (sp_X12_peek (g := g) H hr) ?_
    refine J_cst 6 jw hj rfl rfl rfl ?_
    refine J_icmp (t := 18) jw hj rfl (evn rfl) rfl (fun (h0 : f_X12_peek H = 32) => ?_) (fun (h0 : ¬ f_X12_peek H = 32) => ?_)
    · refine J_ld 19 jw hj rfl rfl rfl rfl ?_
      refine J_dup 20 jw hj rfl rfl ?_
      refine J_gfI jw hj rfl (evn rfl) (by decide) rfl (fun r0 => ?_)
      refine J_cst 24 jw hj rfl rfl rfl ?_
      refine J_bin jw hj rfl rfl ?_
      refine J_pfI jw hj rfl (evn rfl) rfl ?_
      refine J_goto 0 jw hj rfl rfl ?_
      have e : f_X12_blanks (k + 1) H = f_X12_blanks k (upI H 29 4 (iAdd (H.1 29 4) 1)) := by
        rw [f_X12_blanks]
        rw [if_pos h0]
      rw [e] at hx
      exact ih  (upI H 29 4 (iAdd (H.1 29 4) 1)) hr hv (by first | exact mpM hv r0 (nxp_lt h0 (by decide)) hm | exact mpM hv r0 (nxp_lt h1 (by decide)) hm) hx
    · refine J_ld 10 jw hj rfl rfl rfl rfl ?_
      refine J_callV1 jw rfl (Or.inl ⟨_, rfl⟩) rfl rfl (sp_X12_peek (g := g) H hr) ?_
      refine J_cst 15 jw hj rfl rfl rfl ?_
      refine J_icmp (t := 31) jw hj rfl (evn rfl) rfl (fun (h1 : ¬ f_X12_peek H = 10) => ?_) (fun (h1 : f_X12_peek H = 10) => ?_)
      · have e : f_X12_blanks (k + 1) H = H := by
          rw [f_X12_blanks]
          rw [if_neg h0, if_neg h1]
        rw [e] at hx
        exact hx
      · refine J_ld 19 jw hj rfl rfl rfl rfl ?_
        refine J_dup 20 jw hj rfl rfl ?_
        refine J_gfI jw hj rfl (evn rfl) (by decide) rfl (fun r1 => ?_)
        refine J_cst 24 jw hj rfl rfl rfl ?_
        refine J_bin jw hj rfl rfl ?_
        refine J_pfI jw hj rfl (evn rfl) rfl ?_
        refine J_goto 0 jw hj rfl rfl ?_
        have e : f_X12_blanks (k + 1) H = f_X12_blanks k (upI H 29 4 (iAdd (H.1 29 4) 1)) := by
          rw [f_X12_blanks]
          rw [if_neg h0, if_pos h1]
        rw [e] at hx
        exact ih  (upI H 29 4 (iAdd (H.1 29 4) 1)) hr hv (by first | exact mpM hv r1 (nxp_lt h0 (by decide)) hm | exact mpM hv r1 (nxp_lt h1 (by decide)) hm) hx
theorem rf_X12_blanks  : ∀ (k : Nat)  (H : hH), RM H.2.2.1 → RM (f_X12_blanks k H).2.2.1 := by
  intro k
  induction k with
  | zero => intro  H hr; exact hr
  | succ k ih =>
    intro  H hr
    rw [f_X12_blanks]
    by_cases q2 : f_X12_peek H = 32
    · rw [if_pos q2]
      exact ih  (upI H 29 4 (iAdd (H.1 29 4) 1)) hr
    · rw [if_neg q2]
      by_cases q3 : f_X12_peek H = 10
      · rw [if_pos q3]
        exact ih  (upI H 29 4 (iAdd (H.1 29 4) 1)) hr
      · rw [if_neg q3]
        exact hr
