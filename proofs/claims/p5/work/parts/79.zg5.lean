/-! The reference's district (written by wip/p4/top.py). -/
theorem mpI {n i : Int} {k : Nat} (hn : n ≤ 2147483647) (hv : xIn32 i) (h0 : i < n) (hm : (n - i).toNat ≤ k + 1) : (n - iAdd i 1).toNat ≤ k := by
  have a1 := hv.1
  have e : iAdd i 1 = i + 1 := iop_add hv ⟨by decide, by decide⟩ ⟨by omega, by omega⟩
  rw [e]
  omega
def f_X12_dz  : Nat → Int → hH → Int × hH
  | 0, i, H => (i, H)
  | k + 1, i, H =>
    if i < 91 then
      f_X12_dz k (iAdd i 1) (upI H 32 (i).toNat 0)
    else
      (i, H)
set_option maxHeartbeats 16000000 in
set_option maxRecDepth 100000 in
theorem lp_X12_dz {g : Nat → Nat} {Post : xRes2 → Prop}  : ∀ (k : Nat) (i : Int) (H : hH), RM H.2.2.1 → xIn32 i → (91 - i).toNat ≤ k → (J g rvTab rvInf rvRet 316 rvMth 24 Post 43 [rf (g 29), pt ((f_X12_dz k i H).1)] [] (f_X12_dz k i H).2) → J g rvTab rvInf rvRet 316 rvMth 24 Post 24 [rf (g 29), pt i] [] H := by
  intro k
  induction k with
  | zero =>
    intro i H hr hv hm hx
    have hj : 24 < 316 := by decide
    refine J_ld 25 jw hj rfl rfl rfl rfl ?_
    refine J_cst 27 jw hj rfl rfl rfl ?_
    refine J_icmp (t := 43) jw hj rfl (evn rfl) rfl (fun (h0 : ¬ i < 91) => ?_) (fun (h0 : i < 91) => ?_)
    · exact hx
    · exfalso; omega
  | succ k ih =>
    intro i H hr hv hm hx
    have hj : 24 < 316 := by decide
    refine J_ld 25 jw hj rfl rfl rfl rfl ?_
    refine J_cst 27 jw hj rfl rfl rfl ?_
    refine J_icmp (t := 43) jw hj rfl (evn rfl) rfl (fun (h0 : ¬ i < 91) => ?_) (fun (h0 : i < 91) => ?_)
    · have e : f_X12_dz (k + 1) i H = (i, H) := by
        rw [f_X12_dz]
        rw [if_neg h0]
      rw [e] at hx
      exact hx
    · refine J_ld 31 jw hj rfl rfl rfl rfl ?_
      refine J_gfR (k := 32) jw hj rfl (evn rfl) (by decide) (by decide) (RMa hr rfl) ?_
      refine J_ld 35 jw hj rfl rfl rfl rfl ?_
      refine J_cst 36 jw hj rfl rfl rfl ?_
      refine J_iast jw hj rfl (Or.inl rfl) (fun _ => ?_)
      refine J_iinc (al' := [rf (g 29), pt (iAdd i 1)]) jw hj rfl (evn rfl) rfl rfl ?_
      refine J_goto 24 jw hj rfl rfl ?_
      have e : f_X12_dz (k + 1) i H = f_X12_dz k (iAdd i 1) (upI H 32 (i).toNat 0) := by
        rw [f_X12_dz]
        rw [if_pos h0]
      rw [e] at hx
      exact ih (iAdd i 1) (upI H 32 (i).toNat 0) hr (xi_in _) (by exact mpI (by decide) hv (by assumption) hm) hx
theorem rf_X12_dz  : ∀ (k : Nat) (i : Int) (H : hH), RM H.2.2.1 → RM (f_X12_dz k i H).2.2.2.1 := by
  intro k
  induction k with
  | zero => intro i H hr; exact hr
  | succ k ih =>
    intro i H hr
    rw [f_X12_dz]
    by_cases q2 : i < 91
    · rw [if_pos q2]
      exact ih (iAdd i 1) (upI H 32 (i).toNat 0) hr
    · rw [if_neg q2]
      exact hr
def f_X12_dc  : Nat → Int → hH → Int × hH
  | 0, i, H => (i, H)
  | k + 1, i, H =>
    if i < 296 then
      if i < 91 then
        f_X12_dc k (iAdd i 1) (upI H 31 (i).toNat (H.1 32 (i).toNat))
      else
        f_X12_dc k (iAdd i 1) (upI H 31 (i).toNat 0)
    else
      (i, H)
set_option maxHeartbeats 16000000 in
set_option maxRecDepth 100000 in
theorem lp_X12_dc {g : Nat → Nat} {Post : xRes2 → Prop}  : ∀ (k : Nat) (i : Int) (H : hH), RM H.2.2.1 → xIn32 i → (296 - i).toNat ≤ k → (J g rvTab rvInf rvRet 316 rvMth 24 Post 127 [rf (g 29), pt ((f_X12_dc k i H).1)] [] (f_X12_dc k i H).2) → J g rvTab rvInf rvRet 316 rvMth 24 Post 92 [rf (g 29), pt i] [] H := by
  intro k
  induction k with
  | zero =>
    intro i H hr hv hm hx
    have hj : 24 < 316 := by decide
    refine J_ld 93 jw hj rfl rfl rfl rfl ?_
    refine J_cst 96 jw hj rfl rfl rfl ?_
    refine J_icmp (t := 127) jw hj rfl (evn rfl) rfl (fun (h0 : ¬ i < 296) => ?_) (fun (h0 : i < 296) => ?_)
    · exact hx
    · exfalso; omega
  | succ k ih =>
    intro i H hr hv hm hx
    have hj : 24 < 316 := by decide
    refine J_ld 93 jw hj rfl rfl rfl rfl ?_
    refine J_cst 96 jw hj rfl rfl rfl ?_
    refine J_icmp (t := 127) jw hj rfl (evn rfl) rfl (fun (h0 : ¬ i < 296) => ?_) (fun (h0 : i < 296) => ?_)
    · have e : f_X12_dc (k + 1) i H = (i, H) := by
        rw [f_X12_dc]
        rw [if_neg h0]
      rw [e] at hx
      exact hx
    · refine J_ld 100 jw hj rfl rfl rfl rfl ?_
      refine J_gfR (k := 31) jw hj rfl (evn rfl) (by decide) (by decide) (RMa hr rfl) ?_
      refine J_ld 104 jw hj rfl rfl rfl rfl ?_
      refine J_ld 105 jw hj rfl rfl rfl rfl ?_
      refine J_cst 107 jw hj rfl rfl rfl ?_
      refine J_icmp (t := 119) jw hj rfl (evn rfl) rfl (fun (h1 : ¬ i < 91) => ?_) (fun (h1 : i < 91) => ?_)
      · refine J_cst 120 jw hj rfl rfl rfl ?_
        refine J_iast jw hj rfl (Or.inl rfl) (fun _ => ?_)
        refine J_iinc (al' := [rf (g 29), pt (iAdd i 1)]) jw hj rfl (evn rfl) rfl rfl ?_
        refine J_goto 92 jw hj rfl rfl ?_
        have e : f_X12_dc (k + 1) i H = f_X12_dc k (iAdd i 1) (upI H 31 (i).toNat 0) := by
          rw [f_X12_dc]
          rw [if_pos h0, if_neg h1]
        rw [e] at hx
        exact ih (iAdd i 1) (upI H 31 (i).toNat 0) hr (xi_in _) (by exact mpI (by decide) hv (by assumption) hm) hx
      · refine J_ld 111 jw hj rfl rfl rfl rfl ?_
        refine J_gfR (k := 32) jw hj rfl (evn rfl) (by decide) (by decide) (RMa hr rfl) ?_
        refine J_ld 115 jw hj rfl rfl rfl rfl ?_
        refine J_iald jw hj rfl (Or.inl rfl) (fun z0 r0 => ?_)
        refine J_goto 120 jw hj rfl rfl ?_
        refine J_iast jw hj rfl (Or.inl rfl) (fun _ => ?_)
        refine J_iinc (al' := [rf (g 29), pt (iAdd i 1)]) jw hj rfl (evn rfl) rfl rfl ?_
        refine J_goto 92 jw hj rfl rfl ?_
        have e : f_X12_dc (k + 1) i H = f_X12_dc k (iAdd i 1) (upI H 31 (i).toNat (H.1 32 (i).toNat)) := by
          rw [f_X12_dc]
          rw [if_pos h0, if_pos h1]
        rw [e] at hx
        exact ih (iAdd i 1) (upI H 31 (i).toNat (H.1 32 (i).toNat)) hr (xi_in _) (by exact mpI (by decide) hv (by assumption) hm) hx
theorem rf_X12_dc  : ∀ (k : Nat) (i : Int) (H : hH), RM H.2.2.1 → RM (f_X12_dc k i H).2.2.2.1 := by
  intro k
  induction k with
  | zero => intro i H hr; exact hr
  | succ k ih =>
    intro i H hr
    rw [f_X12_dc]
    by_cases q2 : i < 296
    · rw [if_pos q2]
      by_cases q3 : i < 91
      · rw [if_pos q3]
        exact ih (iAdd i 1) (upI H 31 (i).toNat (H.1 32 (i).toNat)) hr
      · rw [if_neg q3]
        exact ih (iAdd i 1) (upI H 31 (i).toNat 0) hr
    · rw [if_neg q2]
      exact hr
def f_X12_dn  : Nat → Int → hH → Int × hH
  | 0, i, H => (i, H)
  | k + 1, i, H =>
    if i < 20 then
      f_X12_dn k (iAdd i 1) (upL H 34 (i).toNat (H.2.1 34 (iAdd 20 i).toNat))
    else
      (i, H)
set_option maxHeartbeats 16000000 in
set_option maxRecDepth 100000 in
theorem lp_X12_dn {g : Nat → Nat} {Post : xRes2 → Prop}  : ∀ (k : Nat) (i : Int) (H : hH), RM H.2.2.1 → xIn32 i → (20 - i).toNat ≤ k → (J g rvTab rvInf rvRet 316 rvMth 24 Post 156 [rf (g 29), pt ((f_X12_dn k i H).1)] [] (f_X12_dn k i H).2) → J g rvTab rvInf rvRet 316 rvMth 24 Post 129 [rf (g 29), pt i] [] H := by
  intro k
  induction k with
  | zero =>
    intro i H hr hv hm hx
    have hj : 24 < 316 := by decide
    refine J_ld 130 jw hj rfl rfl rfl rfl ?_
    refine J_cst 132 jw hj rfl rfl rfl ?_
    refine J_icmp (t := 156) jw hj rfl (evn rfl) rfl (fun (h0 : ¬ i < 20) => ?_) (fun (h0 : i < 20) => ?_)
    · exact hx
    · exfalso; omega
  | succ k ih =>
    intro i H hr hv hm hx
    have hj : 24 < 316 := by decide
    refine J_ld 130 jw hj rfl rfl rfl rfl ?_
    refine J_cst 132 jw hj rfl rfl rfl ?_
    refine J_icmp (t := 156) jw hj rfl (evn rfl) rfl (fun (h0 : ¬ i < 20) => ?_) (fun (h0 : i < 20) => ?_)
    · have e : f_X12_dn (k + 1) i H = (i, H) := by
        rw [f_X12_dn]
        rw [if_neg h0]
      rw [e] at hx
      exact hx
    · refine J_ld 136 jw hj rfl rfl rfl rfl ?_
      refine J_gfR (k := 34) jw hj rfl (evn rfl) (by decide) (by decide) (RMa hr rfl) ?_
      refine J_ld 140 jw hj rfl rfl rfl rfl ?_
      refine J_ld 141 jw hj rfl rfl rfl rfl ?_
      refine J_gfR (k := 34) jw hj rfl (evn rfl) (by decide) (by decide) (RMa hr rfl) ?_
      refine J_cst 146 jw hj rfl rfl rfl ?_
      refine J_ld 147 jw hj rfl rfl rfl rfl ?_
      refine J_bin jw hj rfl rfl ?_
      refine J_lald jw hj rfl (evn rfl) (fun _ => ?_)
      refine J_last jw hj rfl (evn rfl) (fun _ => ?_)
      refine J_iinc (al' := [rf (g 29), pt (iAdd i 1)]) jw hj rfl (evn rfl) rfl rfl ?_
      refine J_goto 129 jw hj rfl rfl ?_
      have e : f_X12_dn (k + 1) i H = f_X12_dn k (iAdd i 1) (upL H 34 (i).toNat (H.2.1 34 (iAdd 20 i).toNat)) := by
        rw [f_X12_dn]
        rw [if_pos h0]
      rw [e] at hx
      exact ih (iAdd i 1) (upL H 34 (i).toNat (H.2.1 34 (iAdd 20 i).toNat)) hr (xi_in _) (by exact mpI (by decide) hv (by assumption) hm) hx
theorem rf_X12_dn  : ∀ (k : Nat) (i : Int) (H : hH), RM H.2.2.1 → RM (f_X12_dn k i H).2.2.2.1 := by
  intro k
  induction k with
  | zero => intro i H hr; exact hr
  | succ k ih =>
    intro i H hr
    rw [f_X12_dn]
    by_cases q2 : i < 20
    · rw [if_pos q2]
      exact ih (iAdd i 1) (upL H 34 (i).toNat (H.2.1 34 (iAdd 20 i).toNat)) hr
    · rw [if_neg q2]
      exact hr
def f_X12_dl  : Nat → Int → hH → Int × hH
  | 0, i, H => (i, H)
  | k + 1, i, H =>
    if i < 10 then
      f_X12_dl k (iAdd i 1) (upI (upI H 31 (iAdd 95 i).toNat (H.1 31 (iAdd 4 i).toNat)) 31 (iAdd 105 i).toNat ((upI H 31 (iAdd 95 i).toNat (H.1 31 (iAdd 4 i).toNat)).1 31 (iAdd 45 i).toNat))
    else
      (i, H)
set_option maxHeartbeats 16000000 in
set_option maxRecDepth 100000 in
theorem lp_X12_dl {g : Nat → Nat} {Post : xRes2 → Prop}  : ∀ (k : Nat) (i : Int) (H : hH), RM H.2.2.1 → xIn32 i → (10 - i).toNat ≤ k → (J g rvTab rvInf rvRet 316 rvMth 24 Post 219 [rf (g 29), pt ((f_X12_dl k i H).1)] [] (f_X12_dl k i H).2) → J g rvTab rvInf rvRet 316 rvMth 24 Post 172 [rf (g 29), pt i] [] H := by
  intro k
  induction k with
  | zero =>
    intro i H hr hv hm hx
    have hj : 24 < 316 := by decide
    refine J_ld 173 jw hj rfl rfl rfl rfl ?_
    refine J_cst 175 jw hj rfl rfl rfl ?_
    refine J_icmp (t := 219) jw hj rfl (evn rfl) rfl (fun (h0 : ¬ i < 10) => ?_) (fun (h0 : i < 10) => ?_)
    · exact hx
    · exfalso; omega
  | succ k ih =>
    intro i H hr hv hm hx
    have hj : 24 < 316 := by decide
    refine J_ld 173 jw hj rfl rfl rfl rfl ?_
    refine J_cst 175 jw hj rfl rfl rfl ?_
    refine J_icmp (t := 219) jw hj rfl (evn rfl) rfl (fun (h0 : ¬ i < 10) => ?_) (fun (h0 : i < 10) => ?_)
    · have e : f_X12_dl (k + 1) i H = (i, H) := by
        rw [f_X12_dl]
        rw [if_neg h0]
      rw [e] at hx
      exact hx
    · refine J_ld 179 jw hj rfl rfl rfl rfl ?_
      refine J_gfR (k := 31) jw hj rfl (evn rfl) (by decide) (by decide) (RMa hr rfl) ?_
      refine J_cst 184 jw hj rfl rfl rfl ?_
      refine J_ld 185 jw hj rfl rfl rfl rfl ?_
      refine J_bin jw hj rfl rfl ?_
      refine J_ld 187 jw hj rfl rfl rfl rfl ?_
      refine J_gfR (k := 31) jw hj rfl (evn rfl) (by decide) (by decide) (RMa hr rfl) ?_
      refine J_cst 191 jw hj rfl rfl rfl ?_
      refine J_ld 192 jw hj rfl rfl rfl rfl ?_
      refine J_bin jw hj rfl rfl ?_
      refine J_iald jw hj rfl (Or.inl rfl) (fun z0 r0 => ?_)
      refine J_iast jw hj rfl (Or.inl rfl) (fun _ => ?_)
      refine J_ld 196 jw hj rfl rfl rfl rfl ?_
      refine J_gfR (k := 31) jw hj rfl (evn rfl) (by decide) (by decide) (RMa hr rfl) ?_
      refine J_cst 201 jw hj rfl rfl rfl ?_
      refine J_ld 202 jw hj rfl rfl rfl rfl ?_
      refine J_bin jw hj rfl rfl ?_
      refine J_ld 204 jw hj rfl rfl rfl rfl ?_
      refine J_gfR (k := 31) jw hj rfl (evn rfl) (by decide) (by decide) (RMa hr rfl) ?_
      refine J_cst 209 jw hj rfl rfl rfl ?_
      refine J_ld 210 jw hj rfl rfl rfl rfl ?_
      refine J_bin jw hj rfl rfl ?_
      refine J_iald jw hj rfl (Or.inl rfl) (fun z1 r1 => ?_)
      refine J_iast jw hj rfl (Or.inl rfl) (fun _ => ?_)
      refine J_iinc (al' := [rf (g 29), pt (iAdd i 1)]) jw hj rfl (evn rfl) rfl rfl ?_
      refine J_goto 172 jw hj rfl rfl ?_
      have e : f_X12_dl (k + 1) i H = f_X12_dl k (iAdd i 1) (upI (upI H 31 (iAdd 95 i).toNat (H.1 31 (iAdd 4 i).toNat)) 31 (iAdd 105 i).toNat ((upI H 31 (iAdd 95 i).toNat (H.1 31 (iAdd 4 i).toNat)).1 31 (iAdd 45 i).toNat)) := by
        rw [f_X12_dl]
        rw [if_pos h0]
      rw [e] at hx
      exact ih (iAdd i 1) (upI (upI H 31 (iAdd 95 i).toNat (H.1 31 (iAdd 4 i).toNat)) 31 (iAdd 105 i).toNat ((upI H 31 (iAdd 95 i).toNat (H.1 31 (iAdd 4 i).toNat)).1 31 (iAdd 45 i).toNat)) hr (xi_in _) (by exact mpI (by decide) hv (by assumption) hm) hx
theorem rf_X12_dl  : ∀ (k : Nat) (i : Int) (H : hH), RM H.2.2.1 → RM (f_X12_dl k i H).2.2.2.1 := by
  intro k
  induction k with
  | zero => intro i H hr; exact hr
  | succ k ih =>
    intro i H hr
    rw [f_X12_dl]
    by_cases q2 : i < 10
    · rw [if_pos q2]
      exact ih (iAdd i 1) (upI (upI H 31 (iAdd 95 i).toNat (H.1 31 (iAdd 4 i).toNat)) 31 (iAdd 105 i).toNat ((upI H 31 (iAdd 95 i).toNat (H.1 31 (iAdd 4 i).toNat)).1 31 (iAdd 45 i).toNat)) hr
    · rw [if_neg q2]
      exact hr
def f_X12_dtail (H : hH) : Int × hH := ((f_X12_dl 10 0 (upI (f_X12_dn 20 0 (f_X12_dc 296 0 H).2).2 31 92 ((f_X12_dn 20 0 (f_X12_dc 296 0 H).2).2.1 31 34))).2.1 29 19, (upI (f_X12_dl 10 0 (upI (f_X12_dn 20 0 (f_X12_dc 296 0 H).2).2 31 92 ((f_X12_dn 20 0 (f_X12_dc 296 0 H).2).2.1 31 34))).2 29 23 0))
theorem rf_X12_dtail (H : hH) (hr : RM H.2.2.1) : RM (f_X12_dtail H).2.2.2.1 := rf_X12_dl 10 0 (upI (f_X12_dn 20 0 (f_X12_dc 296 0 H).2).2 31 92 ((f_X12_dn 20 0 (f_X12_dc 296 0 H).2).2.1 31 34)) (rf_X12_dn 20 0 (f_X12_dc 296 0 H).2 (rf_X12_dc 296 0 H hr))
set_option maxHeartbeats 16000000 in
set_option maxRecDepth 100000 in
theorem jx_X12_dtail {g : Nat → Nat} {w : rvV} (H : hH) (hr : RM H.2.2.1) : J g rvTab rvInf rvRet 316 rvMth 24 (fun res => res.1 = some (pt (f_X12_dtail H).1) ∧ RH g res.2 (f_X12_dtail H).2) 90 [rf (g 29), w] [] H := by
  have hj : 24 < 316 := by decide
  refine J_cst 91 jw hj rfl rfl rfl ?_
  refine J_st 92 [rf (g 29), pt 0] (k := 1) jw hj rfl (Or.inr (Or.inr (Or.inl ⟨_, rfl, rfl, rfl⟩))) rfl ?_
  refine lp_X12_dc 296 0 H hr ⟨by decide, by decide⟩ (by decide) ?_
  refine J_cst 128 jw hj rfl rfl rfl ?_
  refine J_st 129 [rf (g 29), pt 0] (k := 1) jw hj rfl (Or.inr (Or.inr (Or.inl ⟨_, rfl, rfl, rfl⟩))) rfl ?_
  refine lp_X12_dn 20 0 (f_X12_dc 296 0 H).2 (rf_X12_dc 296 0 H hr) ⟨by decide, by decide⟩ (by decide) ?_
  refine J_ld 157 jw hj rfl rfl rfl rfl ?_
  refine J_gfR (k := 31) jw hj rfl (evn rfl) (by decide) (by decide) (RMa (rf_X12_dn 20 0 (f_X12_dc 296 0 H).2 (rf_X12_dc 296 0 H hr)) rfl) ?_
  refine J_cst 162 jw hj rfl rfl rfl ?_
  refine J_ld 163 jw hj rfl rfl rfl rfl ?_
  refine J_gfR (k := 31) jw hj rfl (evn rfl) (by decide) (by decide) (RMa (rf_X12_dn 20 0 (f_X12_dc 296 0 H).2 (rf_X12_dc 296 0 H hr)) rfl) ?_
  refine J_cst 168 jw hj rfl rfl rfl ?_
  refine J_iald jw hj rfl (Or.inl rfl) (fun z0 r0 => ?_)
  refine J_iast jw hj rfl (Or.inl rfl) (fun _ => ?_)
  refine J_cst 171 jw hj rfl rfl rfl ?_
  refine J_st 172 [rf (g 29), pt 0] (k := 1) jw hj rfl (Or.inr (Or.inr (Or.inl ⟨_, rfl, rfl, rfl⟩))) rfl ?_
  refine lp_X12_dl 10 0 (upI (f_X12_dn 20 0 (f_X12_dc 296 0 H).2).2 31 92 ((f_X12_dn 20 0 (f_X12_dc 296 0 H).2).2.1 31 34)) (rf_X12_dn 20 0 (f_X12_dc 296 0 H).2 (rf_X12_dc 296 0 H hr)) ⟨by decide, by decide⟩ (by decide) ?_
  refine J_ld 220 jw hj rfl rfl rfl rfl ?_
  refine J_cst 221 jw hj rfl rfl rfl ?_
  refine J_pfI jw hj rfl (evn rfl) rfl ?_
  refine J_ld 225 jw hj rfl rfl rfl rfl ?_
  refine J_gfI jw hj rfl (evn rfl) (by decide) rfl (fun r0 => ?_)
  exact J_ret rfl (Or.inl rfl) (fun aw hR => ⟨rfl, hR⟩)
/-- line by line, as far as k goes -/
def f_X12_dmain : Nat → hH → Option (Int × hH)
  | 0, _ => none
  | k + 1, H =>
    if H.1 29 11 = 0 then
      some (f_X12_dtail H)
    else
      if ((f_X12_line H).1) = 0 then
        some (iSub (-1) ((f_X12_line H).2.1 29 16), (f_X12_line H).2)
      else
        if ((f_X12_sign 59 (f_X12_line H).2).1) = 0 then
          some (iSub (-1) ((f_X12_sign 59 (f_X12_line H).2).2.1 29 16), (f_X12_sign 59 (f_X12_line H).2).2)
        else
          f_X12_dmain k (upI (f_X12_sign 59 (f_X12_line H).2).2 29 19 (iAdd ((f_X12_sign 59 (f_X12_line H).2).2.1 29 19) 1))
set_option maxHeartbeats 16000000 in
set_option maxRecDepth 100000 in
theorem jx_X12_dmain {g : Nat → Nat} {w : rvV} {r : Int × hH} : ∀ (k : Nat) (H : hH), RM H.2.2.1 → f_X12_dmain k H = some r → J g rvTab rvInf rvRet 316 rvMth 24 (fun res => res.1 = some (pt r.1) ∧ RH g res.2 r.2) 47 [rf (g 29), w] [] H := by
  intro k
  induction k with
  | zero => intro H hr hx; cases hx
  | succ k ih =>
    intro H hr hx
    have hj : 24 < 316 := by decide
    refine J_ld 48 jw hj rfl rfl rfl rfl ?_
    refine J_gfI jw hj rfl (evn rfl) (by decide) rfl (fun r0 => ?_)
    refine J_ifc (t := 90) jw hj rfl (evn rfl) rfl (fun (h0 : H.1 29 11 = 0) => ?_) (fun (h0 : ¬ H.1 29 11 = 0) => ?_)
    · have e : f_X12_dmain (k + 1) H = some (f_X12_dtail H) := by
        rw [f_X12_dmain]
        rw [if_pos h0]
      rw [e] at hx
      have e2 := Option.some.inj hx
      subst e2
      exact jx_X12_dtail H hr
    · refine J_ld 55 jw hj rfl rfl rfl rfl ?_
      refine J_callV1 jw rfl (Or.inl ⟨_, rfl⟩) rfl rfl (sp_X12_line (g := g) H hr) ?_
      refine J_ifc (t := 70) jw hj rfl (evn rfl) rfl (fun (h1 : ((f_X12_line H).1) = 0) => ?_) (fun (h1 : ¬ ((f_X12_line H).1) = 0) => ?_)
      · refine J_cst 71 jw hj rfl rfl rfl ?_
        refine J_ld 72 jw hj rfl rfl rfl rfl ?_
        refine J_gfI jw hj rfl (evn rfl) (by decide) rfl (fun r1 => ?_)
        refine J_bin jw hj rfl rfl ?_
        have e : f_X12_dmain (k + 1) H = some (iSub (-1) ((f_X12_line H).2.1 29 16), (f_X12_line H).2) := by
          rw [f_X12_dmain]
          rw [if_neg h0, if_pos h1]
        rw [e] at hx
        have e2 := Option.some.inj hx
        have e3 : r.1 = iSub (-1) ((f_X12_line H).2.1 29 16) := by rw [← e2]
        have e4 : r.2 = (f_X12_line H).2 := by rw [← e2]
        rw [e3, e4]
        exact J_ret rfl (Or.inl rfl) (fun aw hR => ⟨rfl, hR⟩)
      · refine J_ld 62 jw hj rfl rfl rfl rfl ?_
        refine J_cst 64 jw hj rfl rfl rfl ?_
        refine J_callV1 jw rfl (Or.inl ⟨_, rfl⟩) rfl rfl (sp_X12_sign (g := g) 59 (f_X12_line H).2 (rf_X12_line H hr)) ?_
        refine J_ifc (t := 77) jw hj rfl (evn rfl) rfl (fun (h2 : ¬ ((f_X12_sign 59 (f_X12_line H).2).1) = 0) => ?_) (fun (h2 : ((f_X12_sign 59 (f_X12_line H).2).1) = 0) => ?_)
        · refine J_ld 78 jw hj rfl rfl rfl rfl ?_
          refine J_dup 79 jw hj rfl rfl ?_
          refine J_gfI jw hj rfl (evn rfl) (by decide) rfl (fun r2 => ?_)
          refine J_cst 83 jw hj rfl rfl rfl ?_
          refine J_bin jw hj rfl rfl ?_
          refine J_pfI jw hj rfl (evn rfl) rfl ?_
          refine J_goto 47 jw hj rfl rfl ?_
          have e : f_X12_dmain (k + 1) H = f_X12_dmain k (upI (f_X12_sign 59 (f_X12_line H).2).2 29 19 (iAdd ((f_X12_sign 59 (f_X12_line H).2).2.1 29 19) 1)) := by
            rw [f_X12_dmain]
            rw [if_neg h0, if_neg h1, if_neg h2]
          rw [e] at hx
          exact ih (upI (f_X12_sign 59 (f_X12_line H).2).2 29 19 (iAdd ((f_X12_sign 59 (f_X12_line H).2).2.1 29 19) 1)) (rf_X12_sign 59 (f_X12_line H).2 (rf_X12_line H hr)) hx
        · refine J_cst 71 jw hj rfl rfl rfl ?_
          refine J_ld 72 jw hj rfl rfl rfl rfl ?_
          refine J_gfI jw hj rfl (evn rfl) (by decide) rfl (fun r3 => ?_)
          refine J_bin jw hj rfl rfl ?_
          have e : f_X12_dmain (k + 1) H = some (iSub (-1) ((f_X12_sign 59 (f_X12_line H).2).2.1 29 16), (f_X12_sign 59 (f_X12_line H).2).2) := by
            rw [f_X12_dmain]
            rw [if_neg h0, if_neg h1, if_pos h2]
          rw [e] at hx
          have e2 := Option.some.inj hx
          have e3 : r.1 = iSub (-1) ((f_X12_sign 59 (f_X12_line H).2).2.1 29 16) := by rw [← e2]
          have e4 : r.2 = (f_X12_sign 59 (f_X12_line H).2).2 := by rw [← e2]
          rw [e3, e4]
          exact J_ret rfl (Or.inl rfl) (fun aw hR => ⟨rfl, hR⟩)
def f_X12_district (k : Nat) (H : hH) : Option (Int × hH) := f_X12_dmain k (f_X12_next (f_X12_dz 91 0 (upI (upI (f_X12_taken 900 (upI H 29 0 0)) 29 15 0) 29 19 0)).2)
set_option maxHeartbeats 16000000 in
set_option maxRecDepth 100000 in
theorem sp_X12_district {g : Nat → Nat} (k : Nat) (H : hH) (hr : RM H.2.2.1) {r : Int × hH} (hx : f_X12_district k H = some r) : SP g rvTab rvInf rvRet 316 rvMth 24 [rf (g 29)] H (some (pt r.1)) r.2 := by
  have hj : 24 < 316 := by decide
  refine J_SP hj (Nat.le_of_ble_eq_true rfl) ?_
  show J g rvTab rvInf rvRet 316 rvMth 24 _ 0 [rf (g 29), rvU] [] H
  refine J_ld 1 jw hj rfl rfl rfl rfl ?_
  refine J_cst 2 jw hj rfl rfl rfl ?_
  refine J_pfI jw hj rfl (evn rfl) rfl ?_
  refine J_ld 6 jw hj rfl rfl rfl rfl ?_
  refine J_cst 9 jw hj rfl rfl rfl ?_
  refine J_callV0 jw rfl (Or.inl ⟨_, rfl⟩) rfl rfl (sp_X12_taken (g := g) 900 (upI H 29 0 0)) ?_
  refine J_ld 13 jw hj rfl rfl rfl rfl ?_
  refine J_cst 14 jw hj rfl rfl rfl ?_
  refine J_pfI jw hj rfl (evn rfl) rfl ?_
  refine J_ld 18 jw hj rfl rfl rfl rfl ?_
  refine J_cst 19 jw hj rfl rfl rfl ?_
  refine J_pfI jw hj rfl (evn rfl) rfl ?_
  refine J_cst 23 jw hj rfl rfl rfl ?_
  refine J_st 24 [rf (g 29), pt 0] (k := 1) jw hj rfl (Or.inr (Or.inr (Or.inl ⟨_, rfl, rfl, rfl⟩))) rfl ?_
  refine lp_X12_dz 91 0 (upI (upI (f_X12_taken 900 (upI H 29 0 0)) 29 15 0) 29 19 0) (rf_X12_taken 900 (upI H 29 0 0) hr) ⟨by decide, by decide⟩ (by decide) ?_
  refine J_ld 44 jw hj rfl rfl rfl rfl ?_
  refine J_callV0 jw rfl (Or.inl ⟨_, rfl⟩) rfl rfl (sp_X12_next (g := g) (f_X12_dz 91 0 (upI (upI (f_X12_taken 900 (upI H 29 0 0)) 29 15 0) 29 19 0)).2 (rf_X12_dz 91 0 _ (rf_X12_taken 900 (upI H 29 0 0) hr))) ?_
  exact jx_X12_dmain k _ (rf_X12_next (f_X12_dz 91 0 (upI (upI (f_X12_taken 900 (upI H 29 0 0)) 29 15 0) 29 19 0)).2 (rf_X12_dz 91 0 _ (rf_X12_taken 900 (upI H 29 0 0) hr))) hx
