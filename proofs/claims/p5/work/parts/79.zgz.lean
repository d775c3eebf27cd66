/-! The sets gathered (written by wip/p4/gather.py). -/
theorem kpI_X2_ge1_61_0 (s : Int) : ∀ (k : Nat) (i : Int) (H : hH), (f_X2_ge1 s k i H).2.1 61 0 = H.1 61 0 := by
  intro k
  induction k with
  | zero => intro i H; rfl
  | succ k ih =>
    intro i H
    rw [f_X2_ge1]
    by_cases q2 : i < H.1 61 2
    · rw [if_pos q2]
      by_cases q3 : f_X11_isIn (H.1 55 (s).toNat) i = 0
      · rw [if_pos q3]
        exact (ih (iAdd i 1) H)
      · rw [if_neg q3]
        exact (ih (iAdd i 1) (upI H 56 (i).toNat (iOr (H.1 56 (i).toNat) (iShl 1 s))))
    · rw [if_neg q2]
      try exact rfl
theorem kpI_X2_ge1_61_1 (s : Int) : ∀ (k : Nat) (i : Int) (H : hH), (f_X2_ge1 s k i H).2.1 61 1 = H.1 61 1 := by
  intro k
  induction k with
  | zero => intro i H; rfl
  | succ k ih =>
    intro i H
    rw [f_X2_ge1]
    by_cases q2 : i < H.1 61 2
    · rw [if_pos q2]
      by_cases q3 : f_X11_isIn (H.1 55 (s).toNat) i = 0
      · rw [if_pos q3]
        exact (ih (iAdd i 1) H)
      · rw [if_neg q3]
        exact (ih (iAdd i 1) (upI H 56 (i).toNat (iOr (H.1 56 (i).toNat) (iShl 1 s))))
    · rw [if_neg q2]
      try exact rfl
theorem kpI_X2_ge1_61_2 (s : Int) : ∀ (k : Nat) (i : Int) (H : hH), (f_X2_ge1 s k i H).2.1 61 2 = H.1 61 2 := by
  intro k
  induction k with
  | zero => intro i H; rfl
  | succ k ih =>
    intro i H
    rw [f_X2_ge1]
    by_cases q2 : i < H.1 61 2
    · rw [if_pos q2]
      by_cases q3 : f_X11_isIn (H.1 55 (s).toNat) i = 0
      · rw [if_pos q3]
        exact (ih (iAdd i 1) H)
      · rw [if_neg q3]
        exact (ih (iAdd i 1) (upI H 56 (i).toNat (iOr (H.1 56 (i).toNat) (iShl 1 s))))
    · rw [if_neg q2]
      try exact rfl
theorem kpI_X2_ge1_61_3 (s : Int) : ∀ (k : Nat) (i : Int) (H : hH), (f_X2_ge1 s k i H).2.1 61 3 = H.1 61 3 := by
  intro k
  induction k with
  | zero => intro i H; rfl
  | succ k ih =>
    intro i H
    rw [f_X2_ge1]
    by_cases q2 : i < H.1 61 2
    · rw [if_pos q2]
      by_cases q3 : f_X11_isIn (H.1 55 (s).toNat) i = 0
      · rw [if_pos q3]
        exact (ih (iAdd i 1) H)
      · rw [if_neg q3]
        exact (ih (iAdd i 1) (upI H 56 (i).toNat (iOr (H.1 56 (i).toNat) (iShl 1 s))))
    · rw [if_neg q2]
      try exact rfl
theorem sc_ge1 (s : Int) (k : Nat) (i : Int) (H : hH) : f_X10_setCount (f_X2_ge1 s k i H).2 = f_X10_setCount H := by
  unfold f_X10_setCount
  rw [kpI_X2_ge1_61_0, kpI_X2_ge1_61_1]
def f_X2_ge2  : Nat → Int → hH → Int × hH
  | 0, s, H => (s, H)
  | k + 1, s, H =>
    if s < f_X10_setCount H then
      f_X2_ge2 k (iAdd s 1) (f_X2_ge1 s (H.1 61 2 - 0).toNat 0 H).2
    else
      (s, H)
set_option maxHeartbeats 16000000 in
set_option maxRecDepth 100000 in
theorem lp_X2_ge2 {g : Nat → Nat} {Post : xRes2 → Prop}  : ∀ (k : Nat) (s : Int) (H : hH) (w : rvV), RF H.2.2.1 → xIn32 s → (f_X10_setCount H - s).toNat ≤ k → (∀ w : rvV, J g rvTab rvInf rvRet 316 rvMth 13 Post 73 [rf (g 52), pt ((f_X2_ge2 k s H).1), w] [] (f_X2_ge2 k s H).2) → J g rvTab rvInf rvRet 316 rvMth 13 Post 10 [rf (g 52), pt s, w] [] H := by
  intro k
  induction k with
  | zero =>
    intro s H w hr hv hm hx
    have hj : 13 < 316 := by decide
    refine J_ld 11 jw hj rfl rfl rfl rfl ?_
    refine J_ld 12 jw hj rfl rfl rfl rfl ?_
    refine J_gfR (k := 60) jw hj rfl (evn rfl) (by decide) (by decide) (RFa hr rfl) ?_
    refine J_callV1 jw rfl (Or.inl ⟨_, rfl⟩) rfl rfl (sp_X10_setCount (g := g) H hr) ?_
    refine J_icmp (t := 73) jw hj rfl (evn rfl) rfl (fun (h0 : ¬ s < f_X10_setCount H) => ?_) (fun (h0 : s < f_X10_setCount H) => ?_)
    · exact hx w
    · exfalso; omega
  | succ k ih =>
    intro s H w hr hv hm hx
    have hj : 13 < 316 := by decide
    refine J_ld 11 jw hj rfl rfl rfl rfl ?_
    refine J_ld 12 jw hj rfl rfl rfl rfl ?_
    refine J_gfR (k := 60) jw hj rfl (evn rfl) (by decide) (by decide) (RFa hr rfl) ?_
    refine J_callV1 jw rfl (Or.inl ⟨_, rfl⟩) rfl rfl (sp_X10_setCount (g := g) H hr) ?_
    refine J_icmp (t := 73) jw hj rfl (evn rfl) rfl (fun (h0 : ¬ s < f_X10_setCount H) => ?_) (fun (h0 : s < f_X10_setCount H) => ?_)
    · have e : f_X2_ge2 (k + 1) s H = (s, H) := by
        rw [f_X2_ge2]
        rw [if_neg h0]
      rw [e] at hx
      exact hx w
    · refine J_cst 22 jw hj rfl rfl rfl ?_
      refine J_st 23 [rf (g 52), pt s, pt 0] (k := 2) jw hj rfl (Or.inr (Or.inr (Or.inl ⟨_, rfl, rfl, rfl⟩))) rfl ?_
      refine lp_X2_ge1 s (H.1 61 2 - 0).toNat 0 H hr ⟨by decide, by decide⟩ (Nat.le_refl _) ?_
      refine J_iinc (al' := [rf (g 52), pt (iAdd s 1), pt ((f_X2_ge1 s (H.1 61 2 - 0).toNat 0 H).1)]) jw hj rfl (evn rfl) rfl rfl ?_
      refine J_goto 10 jw hj rfl rfl ?_
      have e : f_X2_ge2 (k + 1) s H = f_X2_ge2 k (iAdd s 1) (f_X2_ge1 s (H.1 61 2 - 0).toNat 0 H).2 := by
        rw [f_X2_ge2]
        rw [if_pos h0]
      rw [e] at hx
      exact ih (iAdd s 1) (f_X2_ge1 s (H.1 61 2 - 0).toNat 0 H).2 (pt ((f_X2_ge1 s (H.1 61 2 - 0).toNat 0 H).1)) (rf_X2_ge1 s (H.1 61 2 - 0).toNat 0 H hr) (xi_in _) (by exact mpS (sc_ge1 s _ 0 H) (xi_in _) hv (by assumption) hm) hx
theorem rf_X2_ge2  : ∀ (k : Nat) (s : Int) (H : hH), RF H.2.2.1 → RF (f_X2_ge2 k s H).2.2.2.1 := by
  intro k
  induction k with
  | zero => intro s H hr; exact hr
  | succ k ih =>
    intro s H hr
    rw [f_X2_ge2]
    by_cases q2 : s < f_X10_setCount H
    · rw [if_pos q2]
      exact ih (iAdd s 1) (f_X2_ge1 s (H.1 61 2 - 0).toNat 0 H).2 (rf_X2_ge1 s (H.1 61 2 - 0).toNat 0 H hr)
    · rw [if_neg q2]
      exact hr
def f_X2_gd1 (m : Int) : Nat → Int → hH → Int × hH
  | 0, s, H => (s, H)
  | k + 1, s, H =>
    if s < f_X10_setCount H then
      f_X2_gd1 m k (iAdd s 1) (upI H 57 (iAdd (iMul m 12) s).toNat (f_X10_dueOfMany (f_J6_bitCount_0f7a4 (H.1 55 (s).toNat)) m H))
    else
      (s, H)
set_option maxHeartbeats 16000000 in
set_option maxRecDepth 100000 in
theorem lp_X2_gd1 {g : Nat → Nat} {Post : xRes2 → Prop} (m : Int) : ∀ (k : Nat) (s : Int) (H : hH), RF H.2.2.1 → xIn32 s → (f_X10_setCount H - s).toNat ≤ k → (J g rvTab rvInf rvRet 316 rvMth 15 Post 62 [rf (g 52), pt m, pt ((f_X2_gd1 m k s H).1)] [] (f_X2_gd1 m k s H).2) → J g rvTab rvInf rvRet 316 rvMth 15 Post 17 [rf (g 52), pt m, pt s] [] H := by
  intro k
  induction k with
  | zero =>
    intro s H hr hv hm hx
    have hj : 15 < 316 := by decide
    refine J_ld 18 jw hj rfl rfl rfl rfl ?_
    refine J_ld 19 jw hj rfl rfl rfl rfl ?_
    refine J_gfR (k := 60) jw hj rfl (evn rfl) (by decide) (by decide) (RFa hr rfl) ?_
    refine J_callV1 jw rfl (Or.inl ⟨_, rfl⟩) rfl rfl (sp_X10_setCount (g := g) H hr) ?_
    refine J_icmp (t := 62) jw hj rfl (evn rfl) rfl (fun (h0 : ¬ s < f_X10_setCount H) => ?_) (fun (h0 : s < f_X10_setCount H) => ?_)
    · exact hx
    · exfalso; omega
  | succ k ih =>
    intro s H hr hv hm hx
    have hj : 15 < 316 := by decide
    refine J_ld 18 jw hj rfl rfl rfl rfl ?_
    refine J_ld 19 jw hj rfl rfl rfl rfl ?_
    refine J_gfR (k := 60) jw hj rfl (evn rfl) (by decide) (by decide) (RFa hr rfl) ?_
    refine J_callV1 jw rfl (Or.inl ⟨_, rfl⟩) rfl rfl (sp_X10_setCount (g := g) H hr) ?_
    refine J_icmp (t := 62) jw hj rfl (evn rfl) rfl (fun (h0 : ¬ s < f_X10_setCount H) => ?_) (fun (h0 : s < f_X10_setCount H) => ?_)
    · have e : f_X2_gd1 m (k + 1) s H = (s, H) := by
        rw [f_X2_gd1]
        rw [if_neg h0]
      rw [e] at hx
      exact hx
    · refine J_ld 29 jw hj rfl rfl rfl rfl ?_
      refine J_gfR (k := 57) jw hj rfl (evn rfl) (by decide) (by decide) (RFa hr rfl) ?_
      refine J_ld 33 jw hj rfl rfl rfl rfl ?_
      refine J_cst 35 jw hj rfl rfl rfl ?_
      refine J_bin jw hj rfl rfl ?_
      refine J_ld 37 jw hj rfl rfl rfl rfl ?_
      refine J_bin jw hj rfl rfl ?_
      refine J_ld 39 jw hj rfl rfl rfl rfl ?_
      refine J_gfR (k := 60) jw hj rfl (evn rfl) (by decide) (by decide) (RFa hr rfl) ?_
      refine J_ld 43 jw hj rfl rfl rfl rfl ?_
      refine J_gfR (k := 55) jw hj rfl (evn rfl) (by decide) (by decide) (RFa hr rfl) ?_
      refine J_ld 47 jw hj rfl rfl rfl rfl ?_
      refine J_iald jw hj rfl (Or.inl rfl) (fun z0 r0 => ?_)
      refine J_callS1 jw rfl rfl rfl rfl (sp_J6_bitCount_0f7a4 (g := g) (H.1 55 (s).toNat) H) ?_
      refine J_ld 52 jw hj rfl rfl rfl rfl ?_
      refine J_callV1 jw rfl (Or.inl ⟨_, rfl⟩) rfl rfl (sp_X10_dueOfMany (g := g) (f_J6_bitCount_0f7a4 (H.1 55 (s).toNat)) m H hr) ?_
      refine J_iast jw hj rfl (Or.inl rfl) (fun _ => ?_)
      refine J_iinc (al' := [rf (g 52), pt m, pt (iAdd s 1)]) jw hj rfl (evn rfl) rfl rfl ?_
      refine J_goto 17 jw hj rfl rfl ?_
      have e : f_X2_gd1 m (k + 1) s H = f_X2_gd1 m k (iAdd s 1) (upI H 57 (iAdd (iMul m 12) s).toNat (f_X10_dueOfMany (f_J6_bitCount_0f7a4 (H.1 55 (s).toNat)) m H)) := by
        rw [f_X2_gd1]
        rw [if_pos h0]
      rw [e] at hx
      exact ih (iAdd s 1) (upI H 57 (iAdd (iMul m 12) s).toNat (f_X10_dueOfMany (f_J6_bitCount_0f7a4 (H.1 55 (s).toNat)) m H)) hr (xi_in _) (by exact mpS rfl (xi_in _) hv (by assumption) hm) hx
theorem rf_X2_gd1 (m : Int) : ∀ (k : Nat) (s : Int) (H : hH), RF H.2.2.1 → RF (f_X2_gd1 m k s H).2.2.2.1 := by
  intro k
  induction k with
  | zero => intro s H hr; exact hr
  | succ k ih =>
    intro s H hr
    rw [f_X2_gd1]
    by_cases q2 : s < f_X10_setCount H
    · rw [if_pos q2]
      exact ih (iAdd s 1) (upI H 57 (iAdd (iMul m 12) s).toNat (f_X10_dueOfMany (f_J6_bitCount_0f7a4 (H.1 55 (s).toNat)) m H)) hr
    · rw [if_neg q2]
      exact hr
theorem kpI_X2_gd1_61_3 (m : Int) : ∀ (k : Nat) (s : Int) (H : hH), (f_X2_gd1 m k s H).2.1 61 3 = H.1 61 3 := by
  intro k
  induction k with
  | zero => intro s H; rfl
  | succ k ih =>
    intro s H
    rw [f_X2_gd1]
    by_cases q2 : s < f_X10_setCount H
    · rw [if_pos q2]
      exact (ih (iAdd s 1) (upI H 57 (iAdd (iMul m 12) s).toNat (f_X10_dueOfMany (f_J6_bitCount_0f7a4 (H.1 55 (s).toNat)) m H)))
    · rw [if_neg q2]
      try exact rfl
def f_X2_gd2  : Nat → Int → hH → Int × hH
  | 0, m, H => (m, H)
  | k + 1, m, H =>
    if m < H.1 61 3 then
      f_X2_gd2 k (iAdd m 1) (f_X2_gd1 m (f_X10_setCount H - 0).toNat 0 H).2
    else
      (m, H)
set_option maxHeartbeats 16000000 in
set_option maxRecDepth 100000 in
theorem lp_X2_gd2 {g : Nat → Nat} {Post : xRes2 → Prop}  : ∀ (k : Nat) (m : Int) (H : hH) (w : rvV), RF H.2.2.1 → xIn32 m → (H.1 61 3 - m).toNat ≤ k → (∀ w : rvV, J g rvTab rvInf rvRet 316 rvMth 15 Post 68 [rf (g 52), pt ((f_X2_gd2 k m H).1), w] [] (f_X2_gd2 k m H).2) → J g rvTab rvInf rvRet 316 rvMth 15 Post 2 [rf (g 52), pt m, w] [] H := by
  intro k
  induction k with
  | zero =>
    intro m H w hr hv hm hx
    have hj : 15 < 316 := by decide
    refine J_ld 3 jw hj rfl rfl rfl rfl ?_
    refine J_ld 4 jw hj rfl rfl rfl rfl ?_
    refine J_gfR (k := 60) jw hj rfl (evn rfl) (by decide) (by decide) (RFa hr rfl) ?_
    refine J_gfR (k := 61) jw hj rfl (evn rfl) (by decide) (by decide) (RFa hr rfl) ?_
    refine J_cst 11 jw hj rfl rfl rfl ?_
    refine J_iald jw hj rfl (Or.inl rfl) (fun z0 r0 => ?_)
    refine J_icmp (t := 68) jw hj rfl (evn rfl) rfl (fun (h0 : ¬ m < H.1 61 3) => ?_) (fun (h0 : m < H.1 61 3) => ?_)
    · exact hx w
    · exfalso; omega
  | succ k ih =>
    intro m H w hr hv hm hx
    have hj : 15 < 316 := by decide
    refine J_ld 3 jw hj rfl rfl rfl rfl ?_
    refine J_ld 4 jw hj rfl rfl rfl rfl ?_
    refine J_gfR (k := 60) jw hj rfl (evn rfl) (by decide) (by decide) (RFa hr rfl) ?_
    refine J_gfR (k := 61) jw hj rfl (evn rfl) (by decide) (by decide) (RFa hr rfl) ?_
    refine J_cst 11 jw hj rfl rfl rfl ?_
    refine J_iald jw hj rfl (Or.inl rfl) (fun z0 r0 => ?_)
    refine J_icmp (t := 68) jw hj rfl (evn rfl) rfl (fun (h0 : ¬ m < H.1 61 3) => ?_) (fun (h0 : m < H.1 61 3) => ?_)
    · have e : f_X2_gd2 (k + 1) m H = (m, H) := by
        rw [f_X2_gd2]
        rw [if_neg h0]
      rw [e] at hx
      exact hx w
    · refine J_cst 16 jw hj rfl rfl rfl ?_
      refine J_st 17 [rf (g 52), pt m, pt 0] (k := 2) jw hj rfl (Or.inr (Or.inr (Or.inl ⟨_, rfl, rfl, rfl⟩))) rfl ?_
      refine lp_X2_gd1 m (f_X10_setCount H - 0).toNat 0 H hr ⟨by decide, by decide⟩ (Nat.le_refl _) ?_
      refine J_iinc (al' := [rf (g 52), pt (iAdd m 1), pt ((f_X2_gd1 m (f_X10_setCount H - 0).toNat 0 H).1)]) jw hj rfl (evn rfl) rfl rfl ?_
      refine J_goto 2 jw hj rfl rfl ?_
      have e : f_X2_gd2 (k + 1) m H = f_X2_gd2 k (iAdd m 1) (f_X2_gd1 m (f_X10_setCount H - 0).toNat 0 H).2 := by
        rw [f_X2_gd2]
        rw [if_pos h0]
      rw [e] at hx
      exact ih (iAdd m 1) (f_X2_gd1 m (f_X10_setCount H - 0).toNat 0 H).2 (pt ((f_X2_gd1 m (f_X10_setCount H - 0).toNat 0 H).1)) (rf_X2_gd1 m (f_X10_setCount H - 0).toNat 0 H hr) (xi_in _) (by exact mpS (kpI_X2_gd1_61_3 m _ 0 H) (by assumption) hv (by assumption) hm) hx
theorem rf_X2_gd2  : ∀ (k : Nat) (m : Int) (H : hH), RF H.2.2.1 → RF (f_X2_gd2 k m H).2.2.2.1 := by
  intro k
  induction k with
  | zero => intro m H hr; exact hr
  | succ k ih =>
    intro m H hr
    rw [f_X2_gd2]
    by_cases q2 : m < H.1 61 3
    · rw [if_pos q2]
      exact ih (iAdd m 1) (f_X2_gd1 m (f_X10_setCount H - 0).toNat 0 H).2 (rf_X2_gd1 m (f_X10_setCount H - 0).toNat 0 H hr)
    · rw [if_neg q2]
      exact hr
def f_X2_gatherSetsOfEach (H : hH) : hH := (f_X2_ge2 (f_X10_setCount (upRow H 56 0 10) - 0).toNat 0 (upRow H 56 0 10)).2
theorem rf_X2_gatherSetsOfEach (H : hH) (hr : RF H.2.2.1) : RF (f_X2_gatherSetsOfEach H).2.2.1 := (rf_X2_ge2 (f_X10_setCount (upRow H 56 0 10) - 0).toNat 0 (upRow H 56 0 10) hr)
set_option maxHeartbeats 16000000 in
set_option maxRecDepth 100000 in
theorem sp_X2_gatherSetsOfEach {g : Nat → Nat} (H : hH) (hr : RF H.2.2.1)  : SP g rvTab rvInf rvRet 316 rvMth 13 [rf (g 52)] H none (f_X2_gatherSetsOfEach H) := by
  have hj : 13 < 316 := by decide
  refine J_SP hj (Nat.le_of_ble_eq_true rfl) ?_
  show J g rvTab rvInf rvRet 316 rvMth 13 _ 0 [rf (g 52), rvU, rvU] [] H
  refine J_ld 1 jw hj rfl rfl rfl rfl ?_
  refine J_gfR (k := 56) jw hj rfl (evn rfl) (by decide) (by decide) (RFa hr rfl) ?_
  refine J_cst 5 jw hj rfl rfl rfl ?_
  refine J_callS0 jw rfl rfl rfl rfl (sp_fill (g := g) 56 10 0 H (RFa hr rfl)) ?_
  refine J_cst 9 jw hj rfl rfl rfl ?_
  refine J_st 10 [rf (g 52), pt 0, rvU] (k := 1) jw hj rfl (Or.inr (Or.inr (Or.inl ⟨_, rfl, rfl, rfl⟩))) rfl ?_
  refine lp_X2_ge2 (f_X10_setCount (upRow H 56 0 10) - 0).toNat 0 (upRow H 56 0 10) rvU hr ⟨by decide, by decide⟩ (Nat.le_refl _) (fun w => ?_)
  exact J_ret rfl (Or.inr (Or.inr rfl)) (fun aw hR => by show _ ∧ _; unfold f_X2_gatherSetsOfEach; exact ⟨rfl, hR⟩)
def f_X2_gatherDues (H : hH) : hH := (f_X2_gd2 (H.1 61 3 - 0).toNat 0 H).2
theorem rf_X2_gatherDues (H : hH) (hr : RF H.2.2.1) : RF (f_X2_gatherDues H).2.2.1 := (rf_X2_gd2 (H.1 61 3 - 0).toNat 0 H hr)
set_option maxHeartbeats 16000000 in
set_option maxRecDepth 100000 in
theorem sp_X2_gatherDues {g : Nat → Nat} (H : hH) (hr : RF H.2.2.1)  : SP g rvTab rvInf rvRet 316 rvMth 15 [rf (g 52)] H none (f_X2_gatherDues H) := by
  have hj : 15 < 316 := by decide
  refine J_SP hj (Nat.le_of_ble_eq_true rfl) ?_
  show J g rvTab rvInf rvRet 316 rvMth 15 _ 0 [rf (g 52), rvU, rvU] [] H
  refine J_cst 1 jw hj rfl rfl rfl ?_
  refine J_st 2 [rf (g 52), pt 0, rvU] (k := 1) jw hj rfl (Or.inr (Or.inr (Or.inl ⟨_, rfl, rfl, rfl⟩))) rfl ?_
  refine lp_X2_gd2 (H.1 61 3 - 0).toNat 0 H rvU hr ⟨by decide, by decide⟩ (Nat.le_refl _) (fun w => ?_)
  exact J_ret rfl (Or.inr (Or.inr rfl)) (fun aw hR => by show _ ∧ _; unfold f_X2_gatherDues; exact ⟨rfl, hR⟩)
def f_X2_gatherSets (H : hH) : hH := (f_X2_gatherDues (f_X2_gatherSetsOfEach (f_X2_gs2 (iAnd (f_X10_everybody H) (iXor (H.1 52 1) (-1))) (H.1 61 0) ((f_X2_gs1 (iAnd (f_X10_everybody H) (iXor (H.1 52 1) (-1))) (H.1 61 0) (H.1 61 2 - 0).toNat 0 (upI (upI (upI (upI (upI (upRow H 55 0 12) 55 0 (iAnd (f_X10_everybody H) (iXor (H.1 52 1) (-1)))) 55 1 (iAnd (iAnd (f_X10_everybody H) (iXor (H.1 52 1) (-1))) (iXor (H.1 60 7) (-1)))) 55 2 (iAnd (iAnd (f_X10_everybody H) (iXor (H.1 52 1) (-1))) (H.1 60 7))) 55 3 (iAnd (iAnd (f_X10_everybody H) (iXor (H.1 52 1) (-1))) 341)) 55 4 (iAnd (iAnd (f_X10_everybody H) (iXor (H.1 52 1) (-1))) 682))).2.1 61 1 - 0).toNat 0 (f_X2_gs1 (iAnd (f_X10_everybody H) (iXor (H.1 52 1) (-1))) (H.1 61 0) (H.1 61 2 - 0).toNat 0 (upI (upI (upI (upI (upI (upRow H 55 0 12) 55 0 (iAnd (f_X10_everybody H) (iXor (H.1 52 1) (-1)))) 55 1 (iAnd (iAnd (f_X10_everybody H) (iXor (H.1 52 1) (-1))) (iXor (H.1 60 7) (-1)))) 55 2 (iAnd (iAnd (f_X10_everybody H) (iXor (H.1 52 1) (-1))) (H.1 60 7))) 55 3 (iAnd (iAnd (f_X10_everybody H) (iXor (H.1 52 1) (-1))) 341)) 55 4 (iAnd (iAnd (f_X10_everybody H) (iXor (H.1 52 1) (-1))) 682))).2).2))
theorem rf_X2_gatherSets (H : hH) (hr : RF H.2.2.1) : RF (f_X2_gatherSets H).2.2.1 := (rf_X2_gatherDues (f_X2_gatherSetsOfEach (f_X2_gs2 (iAnd (f_X10_everybody H) (iXor (H.1 52 1) (-1))) (H.1 61 0) ((f_X2_gs1 (iAnd (f_X10_everybody H) (iXor (H.1 52 1) (-1))) (H.1 61 0) (H.1 61 2 - 0).toNat 0 (upI (upI (upI (upI (upI (upRow H 55 0 12) 55 0 (iAnd (f_X10_everybody H) (iXor (H.1 52 1) (-1)))) 55 1 (iAnd (iAnd (f_X10_everybody H) (iXor (H.1 52 1) (-1))) (iXor (H.1 60 7) (-1)))) 55 2 (iAnd (iAnd (f_X10_everybody H) (iXor (H.1 52 1) (-1))) (H.1 60 7))) 55 3 (iAnd (iAnd (f_X10_everybody H) (iXor (H.1 52 1) (-1))) 341)) 55 4 (iAnd (iAnd (f_X10_everybody H) (iXor (H.1 52 1) (-1))) 682))).2.1 61 1 - 0).toNat 0 (f_X2_gs1 (iAnd (f_X10_everybody H) (iXor (H.1 52 1) (-1))) (H.1 61 0) (H.1 61 2 - 0).toNat 0 (upI (upI (upI (upI (upI (upRow H 55 0 12) 55 0 (iAnd (f_X10_everybody H) (iXor (H.1 52 1) (-1)))) 55 1 (iAnd (iAnd (f_X10_everybody H) (iXor (H.1 52 1) (-1))) (iXor (H.1 60 7) (-1)))) 55 2 (iAnd (iAnd (f_X10_everybody H) (iXor (H.1 52 1) (-1))) (H.1 60 7))) 55 3 (iAnd (iAnd (f_X10_everybody H) (iXor (H.1 52 1) (-1))) 341)) 55 4 (iAnd (iAnd (f_X10_everybody H) (iXor (H.1 52 1) (-1))) 682))).2).2) (rf_X2_gatherSetsOfEach (f_X2_gs2 (iAnd (f_X10_everybody H) (iXor (H.1 52 1) (-1))) (H.1 61 0) ((f_X2_gs1 (iAnd (f_X10_everybody H) (iXor (H.1 52 1) (-1))) (H.1 61 0) (H.1 61 2 - 0).toNat 0 (upI (upI (upI (upI (upI (upRow H 55 0 12) 55 0 (iAnd (f_X10_everybody H) (iXor (H.1 52 1) (-1)))) 55 1 (iAnd (iAnd (f_X10_everybody H) (iXor (H.1 52 1) (-1))) (iXor (H.1 60 7) (-1)))) 55 2 (iAnd (iAnd (f_X10_everybody H) (iXor (H.1 52 1) (-1))) (H.1 60 7))) 55 3 (iAnd (iAnd (f_X10_everybody H) (iXor (H.1 52 1) (-1))) 341)) 55 4 (iAnd (iAnd (f_X10_everybody H) (iXor (H.1 52 1) (-1))) 682))).2.1 61 1 - 0).toNat 0 (f_X2_gs1 (iAnd (f_X10_everybody H) (iXor (H.1 52 1) (-1))) (H.1 61 0) (H.1 61 2 - 0).toNat 0 (upI (upI (upI (upI (upI (upRow H 55 0 12) 55 0 (iAnd (f_X10_everybody H) (iXor (H.1 52 1) (-1)))) 55 1 (iAnd (iAnd (f_X10_everybody H) (iXor (H.1 52 1) (-1))) (iXor (H.1 60 7) (-1)))) 55 2 (iAnd (iAnd (f_X10_everybody H) (iXor (H.1 52 1) (-1))) (H.1 60 7))) 55 3 (iAnd (iAnd (f_X10_everybody H) (iXor (H.1 52 1) (-1))) 341)) 55 4 (iAnd (iAnd (f_X10_everybody H) (iXor (H.1 52 1) (-1))) 682))).2).2 (rf_X2_gs2 (iAnd (f_X10_everybody H) (iXor (H.1 52 1) (-1))) (H.1 61 0) ((f_X2_gs1 (iAnd (f_X10_everybody H) (iXor (H.1 52 1) (-1))) (H.1 61 0) (H.1 61 2 - 0).toNat 0 (upI (upI (upI (upI (upI (upRow H 55 0 12) 55 0 (iAnd (f_X10_everybody H) (iXor (H.1 52 1) (-1)))) 55 1 (iAnd (iAnd (f_X10_everybody H) (iXor (H.1 52 1) (-1))) (iXor (H.1 60 7) (-1)))) 55 2 (iAnd (iAnd (f_X10_everybody H) (iXor (H.1 52 1) (-1))) (H.1 60 7))) 55 3 (iAnd (iAnd (f_X10_everybody H) (iXor (H.1 52 1) (-1))) 341)) 55 4 (iAnd (iAnd (f_X10_everybody H) (iXor (H.1 52 1) (-1))) 682))).2.1 61 1 - 0).toNat 0 (f_X2_gs1 (iAnd (f_X10_everybody H) (iXor (H.1 52 1) (-1))) (H.1 61 0) (H.1 61 2 - 0).toNat 0 (upI (upI (upI (upI (upI (upRow H 55 0 12) 55 0 (iAnd (f_X10_everybody H) (iXor (H.1 52 1) (-1)))) 55 1 (iAnd (iAnd (f_X10_everybody H) (iXor (H.1 52 1) (-1))) (iXor (H.1 60 7) (-1)))) 55 2 (iAnd (iAnd (f_X10_everybody H) (iXor (H.1 52 1) (-1))) (H.1 60 7))) 55 3 (iAnd (iAnd (f_X10_everybody H) (iXor (H.1 52 1) (-1))) 341)) 55 4 (iAnd (iAnd (f_X10_everybody H) (iXor (H.1 52 1) (-1))) 682))).2 (rf_X2_gs1 (iAnd (f_X10_everybody H) (iXor (H.1 52 1) (-1))) (H.1 61 0) (H.1 61 2 - 0).toNat 0 (upI (upI (upI (upI (upI (upRow H 55 0 12) 55 0 (iAnd (f_X10_everybody H) (iXor (H.1 52 1) (-1)))) 55 1 (iAnd (iAnd (f_X10_everybody H) (iXor (H.1 52 1) (-1))) (iXor (H.1 60 7) (-1)))) 55 2 (iAnd (iAnd (f_X10_everybody H) (iXor (H.1 52 1) (-1))) (H.1 60 7))) 55 3 (iAnd (iAnd (f_X10_everybody H) (iXor (H.1 52 1) (-1))) 341)) 55 4 (iAnd (iAnd (f_X10_everybody H) (iXor (H.1 52 1) (-1))) 682)) hr))))
set_option maxHeartbeats 16000000 in
set_option maxRecDepth 100000 in
theorem sp_X2_gatherSets {g : Nat → Nat} (H : hH) (hr : RF H.2.2.1)  : SP g rvTab rvInf rvRet 316 rvMth 16 [rf (g 52)] H none (f_X2_gatherSets H) := by
  have hj : 16 < 316 := by decide
  refine J_SP hj (Nat.le_of_ble_eq_true rfl) ?_
  show J g rvTab rvInf rvRet 316 rvMth 16 _ 0 [rf (g 52), rvU, rvU, rvU] [] H
  refine J_ld 1 jw hj rfl rfl rfl rfl ?_
  refine J_gfR (k := 60) jw hj rfl (evn rfl) (by decide) (by decide) (RFa hr rfl) ?_
  refine J_callV1 jw rfl (Or.inl ⟨_, rfl⟩) rfl rfl (sp_X10_everybody (g := g) H hr) ?_
  refine J_ld 8 jw hj rfl rfl rfl rfl ?_
  refine J_gfI jw hj rfl (evn rfl) (by decide) rfl (fun r0 => ?_)
  refine J_cst 12 jw hj rfl rfl rfl ?_
  refine J_xor jw hj rfl ?_
  refine J_bin jw hj rfl rfl ?_
  refine J_st 15 [rf (g 52), pt (iAnd (f_X10_everybody H) (iXor (H.1 52 1) (-1))), rvU, rvU] (k := 1) jw hj rfl (Or.inr (Or.inr (Or.inl ⟨_, rfl, rfl, rfl⟩))) rfl ?_
  refine J_ld 16 jw hj rfl rfl rfl rfl ?_
  refine J_gfR (k := 60) jw hj rfl (evn rfl) (by decide) (by decide) (RFa hr rfl) ?_
  refine J_gfR (k := 61) jw hj rfl (evn rfl) (by decide) (by decide) (RFa hr rfl) ?_
  refine J_cst 23 jw hj rfl rfl rfl ?_
  refine J_iald jw hj rfl (Or.inl rfl) (fun z1 r1 => ?_)
  refine J_st 25 [rf (g 52), pt (iAnd (f_X10_everybody H) (iXor (H.1 52 1) (-1))), pt (H.1 61 0), rvU] (k := 2) jw hj rfl (Or.inr (Or.inr (Or.inl ⟨_, rfl, rfl, rfl⟩))) rfl ?_
  refine J_ld 26 jw hj rfl rfl rfl rfl ?_
  refine J_gfR (k := 55) jw hj rfl (evn rfl) (by decide) (by decide) (RFa hr rfl) ?_
  refine J_cst 30 jw hj rfl rfl rfl ?_
  refine J_callS0 jw rfl rfl rfl rfl (sp_fill (g := g) 55 12 0 H (RFa hr rfl)) ?_
  refine J_ld 34 jw hj rfl rfl rfl rfl ?_
  refine J_gfR (k := 55) jw hj rfl (evn rfl) (by decide) (by decide) (RFa hr rfl) ?_
  refine J_cst 38 jw hj rfl rfl rfl ?_
  refine J_ld 39 jw hj rfl rfl rfl rfl ?_
  refine J_iast jw hj rfl (Or.inl rfl) (fun _ => ?_)
  refine J_ld 41 jw hj rfl rfl rfl rfl ?_
  refine J_gfR (k := 55) jw hj rfl (evn rfl) (by decide) (by decide) (RFa hr rfl) ?_
  refine J_cst 45 jw hj rfl rfl rfl ?_
  refine J_ld 46 jw hj rfl rfl rfl rfl ?_
  refine J_ld 47 jw hj rfl rfl rfl rfl ?_
  refine J_gfR (k := 60) jw hj rfl (evn rfl) (by decide) (by decide) (RFa hr rfl) ?_
  refine J_gfI jw hj rfl (evn rfl) (by decide) rfl (fun r2 => ?_)
  refine J_cst 54 jw hj rfl rfl rfl ?_
  refine J_xor jw hj rfl ?_
  refine J_bin jw hj rfl rfl ?_
  refine J_iast jw hj rfl (Or.inl rfl) (fun _ => ?_)
  refine J_ld 58 jw hj rfl rfl rfl rfl ?_
  refine J_gfR (k := 55) jw hj rfl (evn rfl) (by decide) (by decide) (RFa hr rfl) ?_
  refine J_cst 62 jw hj rfl rfl rfl ?_
  refine J_ld 63 jw hj rfl rfl rfl rfl ?_
  refine J_ld 64 jw hj rfl rfl rfl rfl ?_
  refine J_gfR (k := 60) jw hj rfl (evn rfl) (by decide) (by decide) (RFa hr rfl) ?_
  refine J_gfI jw hj rfl (evn rfl) (by decide) rfl (fun r3 => ?_)
  refine J_bin jw hj rfl rfl ?_
  refine J_iast jw hj rfl (Or.inl rfl) (fun _ => ?_)
  refine J_ld 73 jw hj rfl rfl rfl rfl ?_
  refine J_gfR (k := 55) jw hj rfl (evn rfl) (by decide) (by decide) (RFa hr rfl) ?_
  refine J_cst 77 jw hj rfl rfl rfl ?_
  refine J_ld 78 jw hj rfl rfl rfl rfl ?_
  refine J_cst 81 jw hj rfl rfl rfl ?_
  refine J_bin jw hj rfl rfl ?_
  refine J_iast jw hj rfl (Or.inl rfl) (fun _ => ?_)
  refine J_ld 84 jw hj rfl rfl rfl rfl ?_
  refine J_gfR (k := 55) jw hj rfl (evn rfl) (by decide) (by decide) (RFa hr rfl) ?_
  refine J_cst 88 jw hj rfl rfl rfl ?_
  refine J_ld 89 jw hj rfl rfl rfl rfl ?_
  refine J_cst 92 jw hj rfl rfl rfl ?_
  refine J_bin jw hj rfl rfl ?_
  refine J_iast jw hj rfl (Or.inl rfl) (fun _ => ?_)
  refine J_cst 95 jw hj rfl rfl rfl ?_
  refine J_st 96 [rf (g 52), pt (iAnd (f_X10_everybody H) (iXor (H.1 52 1) (-1))), pt (H.1 61 0), pt 0] (k := 3) jw hj rfl (Or.inr (Or.inr (Or.inl ⟨_, rfl, rfl, rfl⟩))) rfl ?_
  refine lp_X2_gs1 (iAnd (f_X10_everybody H) (iXor (H.1 52 1) (-1))) (H.1 61 0) (H.1 61 2 - 0).toNat 0 (upI (upI (upI (upI (upI (upRow H 55 0 12) 55 0 (iAnd (f_X10_everybody H) (iXor (H.1 52 1) (-1)))) 55 1 (iAnd (iAnd (f_X10_everybody H) (iXor (H.1 52 1) (-1))) (iXor (H.1 60 7) (-1)))) 55 2 (iAnd (iAnd (f_X10_everybody H) (iXor (H.1 52 1) (-1))) (H.1 60 7))) 55 3 (iAnd (iAnd (f_X10_everybody H) (iXor (H.1 52 1) (-1))) 341)) 55 4 (iAnd (iAnd (f_X10_everybody H) (iXor (H.1 52 1) (-1))) 682)) hr ⟨by decide, by decide⟩ (Nat.le_refl _) ?_
  refine J_cst 143 jw hj rfl rfl rfl ?_
  refine J_st 144 [rf (g 52), pt (iAnd (f_X10_everybody H) (iXor (H.1 52 1) (-1))), pt (H.1 61 0), pt 0] (k := 3) jw hj rfl (Or.inr (Or.inr (Or.inl ⟨_, rfl, rfl, rfl⟩))) rfl ?_
  refine lp_X2_gs2 (iAnd (f_X10_everybody H) (iXor (H.1 52 1) (-1))) (H.1 61 0) ((f_X2_gs1 (iAnd (f_X10_everybody H) (iXor (H.1 52 1) (-1))) (H.1 61 0) (H.1 61 2 - 0).toNat 0 (upI (upI (upI (upI (upI (upRow H 55 0 12) 55 0 (iAnd (f_X10_everybody H) (iXor (H.1 52 1) (-1)))) 55 1 (iAnd (iAnd (f_X10_everybody H) (iXor (H.1 52 1) (-1))) (iXor (H.1 60 7) (-1)))) 55 2 (iAnd (iAnd (f_X10_everybody H) (iXor (H.1 52 1) (-1))) (H.1 60 7))) 55 3 (iAnd (iAnd (f_X10_everybody H) (iXor (H.1 52 1) (-1))) 341)) 55 4 (iAnd (iAnd (f_X10_everybody H) (iXor (H.1 52 1) (-1))) 682))).2.1 61 1 - 0).toNat 0 (f_X2_gs1 (iAnd (f_X10_everybody H) (iXor (H.1 52 1) (-1))) (H.1 61 0) (H.1 61 2 - 0).toNat 0 (upI (upI (upI (upI (upI (upRow H 55 0 12) 55 0 (iAnd (f_X10_everybody H) (iXor (H.1 52 1) (-1)))) 55 1 (iAnd (iAnd (f_X10_everybody H) (iXor (H.1 52 1) (-1))) (iXor (H.1 60 7) (-1)))) 55 2 (iAnd (iAnd (f_X10_everybody H) (iXor (H.1 52 1) (-1))) (H.1 60 7))) 55 3 (iAnd (iAnd (f_X10_everybody H) (iXor (H.1 52 1) (-1))) 341)) 55 4 (iAnd (iAnd (f_X10_everybody H) (iXor (H.1 52 1) (-1))) 682))).2 (rf_X2_gs1 (iAnd (f_X10_everybody H) (iXor (H.1 52 1) (-1))) (H.1 61 0) (H.1 61 2 - 0).toNat 0 (upI (upI (upI (upI (upI (upRow H 55 0 12) 55 0 (iAnd (f_X10_everybody H) (iXor (H.1 52 1) (-1)))) 55 1 (iAnd (iAnd (f_X10_everybody H) (iXor (H.1 52 1) (-1))) (iXor (H.1 60 7) (-1)))) 55 2 (iAnd (iAnd (f_X10_everybody H) (iXor (H.1 52 1) (-1))) (H.1 60 7))) 55 3 (iAnd (iAnd (f_X10_everybody H) (iXor (H.1 52 1) (-1))) 341)) 55 4 (iAnd (iAnd (f_X10_everybody H) (iXor (H.1 52 1) (-1))) 682)) hr) ⟨by decide, by decide⟩ (Nat.le_refl _) ?_
  refine J_ld 185 jw hj rfl rfl rfl rfl ?_
  refine J_callV0 jw rfl (Or.inl ⟨_, rfl⟩) rfl rfl (sp_X2_gatherSetsOfEach (g := g) (f_X2_gs2 (iAnd (f_X10_everybody H) (iXor (H.1 52 1) (-1))) (H.1 61 0) ((f_X2_gs1 (iAnd (f_X10_everybody H) (iXor (H.1 52 1) (-1))) (H.1 61 0) (H.1 61 2 - 0).toNat 0 (upI (upI (upI (upI (upI (upRow H 55 0 12) 55 0 (iAnd (f_X10_everybody H) (iXor (H.1 52 1) (-1)))) 55 1 (iAnd (iAnd (f_X10_everybody H) (iXor (H.1 52 1) (-1))) (iXor (H.1 60 7) (-1)))) 55 2 (iAnd (iAnd (f_X10_everybody H) (iXor (H.1 52 1) (-1))) (H.1 60 7))) 55 3 (iAnd (iAnd (f_X10_everybody H) (iXor (H.1 52 1) (-1))) 341)) 55 4 (iAnd (iAnd (f_X10_everybody H) (iXor (H.1 52 1) (-1))) 682))).2.1 61 1 - 0).toNat 0 (f_X2_gs1 (iAnd (f_X10_everybody H) (iXor (H.1 52 1) (-1))) (H.1 61 0) (H.1 61 2 - 0).toNat 0 (upI (upI (upI (upI (upI (upRow H 55 0 12) 55 0 (iAnd (f_X10_everybody H) (iXor (H.1 52 1) (-1)))) 55 1 (iAnd (iAnd (f_X10_everybody H) (iXor (H.1 52 1) (-1))) (iXor (H.1 60 7) (-1)))) 55 2 (iAnd (iAnd (f_X10_everybody H) (iXor (H.1 52 1) (-1))) (H.1 60 7))) 55 3 (iAnd (iAnd (f_X10_everybody H) (iXor (H.1 52 1) (-1))) 341)) 55 4 (iAnd (iAnd (f_X10_everybody H) (iXor (H.1 52 1) (-1))) 682))).2).2 (rf_X2_gs2 (iAnd (f_X10_everybody H) (iXor (H.1 52 1) (-1))) (H.1 61 0) ((f_X2_gs1 (iAnd (f_X10_everybody H) (iXor (H.1 52 1) (-1))) (H.1 61 0) (H.1 61 2 - 0).toNat 0 (upI (upI (upI (upI (upI (upRow H 55 0 12) 55 0 (iAnd (f_X10_everybody H) (iXor (H.1 52 1) (-1)))) 55 1 (iAnd (iAnd (f_X10_everybody H) (iXor (H.1 52 1) (-1))) (iXor (H.1 60 7) (-1)))) 55 2 (iAnd (iAnd (f_X10_everybody H) (iXor (H.1 52 1) (-1))) (H.1 60 7))) 55 3 (iAnd (iAnd (f_X10_everybody H) (iXor (H.1 52 1) (-1))) 341)) 55 4 (iAnd (iAnd (f_X10_everybody H) (iXor (H.1 52 1) (-1))) 682))).2.1 61 1 - 0).toNat 0 (f_X2_gs1 (iAnd (f_X10_everybody H) (iXor (H.1 52 1) (-1))) (H.1 61 0) (H.1 61 2 - 0).toNat 0 (upI (upI (upI (upI (upI (upRow H 55 0 12) 55 0 (iAnd (f_X10_everybody H) (iXor (H.1 52 1) (-1)))) 55 1 (iAnd (iAnd (f_X10_everybody H) (iXor (H.1 52 1) (-1))) (iXor (H.1 60 7) (-1)))) 55 2 (iAnd (iAnd (f_X10_everybody H) (iXor (H.1 52 1) (-1))) (H.1 60 7))) 55 3 (iAnd (iAnd (f_X10_everybody H) (iXor (H.1 52 1) (-1))) 341)) 55 4 (iAnd (iAnd (f_X10_everybody H) (iXor (H.1 52 1) (-1))) 682))).2 (rf_X2_gs1 (iAnd (f_X10_everybody H) (iXor (H.1 52 1) (-1))) (H.1 61 0) (H.1 61 2 - 0).toNat 0 (upI (upI (upI (upI (upI (upRow H 55 0 12) 55 0 (iAnd (f_X10_everybody H) (iXor (H.1 52 1) (-1)))) 55 1 (iAnd (iAnd (f_X10_everybody H) (iXor (H.1 52 1) (-1))) (iXor (H.1 60 7) (-1)))) 55 2 (iAnd (iAnd (f_X10_everybody H) (iXor (H.1 52 1) (-1))) (H.1 60 7))) 55 3 (iAnd (iAnd (f_X10_everybody H) (iXor (H.1 52 1) (-1))) 341)) 55 4 (iAnd (iAnd (f_X10_everybody H) (iXor (H.1 52 1) (-1))) 682)) hr))) ?_
  refine J_ld 189 jw hj rfl rfl rfl rfl ?_
  refine J_callV0 jw rfl (Or.inl ⟨_, rfl⟩) rfl rfl (sp_X2_gatherDues (g := g) (f_X2_gatherSetsOfEach (f_X2_gs2 (iAnd (f_X10_everybody H) (iXor (H.1 52 1) (-1))) (H.1 61 0) ((f_X2_gs1 (iAnd (f_X10_everybody H) (iXor (H.1 52 1) (-1))) (H.1 61 0) (H.1 61 2 - 0).toNat 0 (upI (upI (upI (upI (upI (upRow H 55 0 12) 55 0 (iAnd (f_X10_everybody H) (iXor (H.1 52 1) (-1)))) 55 1 (iAnd (iAnd (f_X10_everybody H) (iXor (H.1 52 1) (-1))) (iXor (H.1 60 7) (-1)))) 55 2 (iAnd (iAnd (f_X10_everybody H) (iXor (H.1 52 1) (-1))) (H.1 60 7))) 55 3 (iAnd (iAnd (f_X10_everybody H) (iXor (H.1 52 1) (-1))) 341)) 55 4 (iAnd (iAnd (f_X10_everybody H) (iXor (H.1 52 1) (-1))) 682))).2.1 61 1 - 0).toNat 0 (f_X2_gs1 (iAnd (f_X10_everybody H) (iXor (H.1 52 1) (-1))) (H.1 61 0) (H.1 61 2 - 0).toNat 0 (upI (upI (upI (upI (upI (upRow H 55 0 12) 55 0 (iAnd (f_X10_everybody H) (iXor (H.1 52 1) (-1)))) 55 1 (iAnd (iAnd (f_X10_everybody H) (iXor (H.1 52 1) (-1))) (iXor (H.1 60 7) (-1)))) 55 2 (iAnd (iAnd (f_X10_everybody H) (iXor (H.1 52 1) (-1))) (H.1 60 7))) 55 3 (iAnd (iAnd (f_X10_everybody H) (iXor (H.1 52 1) (-1))) 341)) 55 4 (iAnd (iAnd (f_X10_everybody H) (iXor (H.1 52 1) (-1))) 682))).2).2) (rf_X2_gatherSetsOfEach (f_X2_gs2 (iAnd (f_X10_everybody H) (iXor (H.1 52 1) (-1))) (H.1 61 0) ((f_X2_gs1 (iAnd (f_X10_everybody H) (iXor (H.1 52 1) (-1))) (H.1 61 0) (H.1 61 2 - 0).toNat 0 (upI (upI (upI (upI (upI (upRow H 55 0 12) 55 0 (iAnd (f_X10_everybody H) (iXor (H.1 52 1) (-1)))) 55 1 (iAnd (iAnd (f_X10_everybody H) (iXor (H.1 52 1) (-1))) (iXor (H.1 60 7) (-1)))) 55 2 (iAnd (iAnd (f_X10_everybody H) (iXor (H.1 52 1) (-1))) (H.1 60 7))) 55 3 (iAnd (iAnd (f_X10_everybody H) (iXor (H.1 52 1) (-1))) 341)) 55 4 (iAnd (iAnd (f_X10_everybody H) (iXor (H.1 52 1) (-1))) 682))).2.1 61 1 - 0).toNat 0 (f_X2_gs1 (iAnd (f_X10_everybody H) (iXor (H.1 52 1) (-1))) (H.1 61 0) (H.1 61 2 - 0).toNat 0 (upI (upI (upI (upI (upI (upRow H 55 0 12) 55 0 (iAnd (f_X10_everybody H) (iXor (H.1 52 1) (-1)))) 55 1 (iAnd (iAnd (f_X10_everybody H) (iXor (H.1 52 1) (-1))) (iXor (H.1 60 7) (-1)))) 55 2 (iAnd (iAnd (f_X10_everybody H) (iXor (H.1 52 1) (-1))) (H.1 60 7))) 55 3 (iAnd (iAnd (f_X10_everybody H) (iXor (H.1 52 1) (-1))) 341)) 55 4 (iAnd (iAnd (f_X10_everybody H) (iXor (H.1 52 1) (-1))) 682))).2).2 (rf_X2_gs2 (iAnd (f_X10_everybody H) (iXor (H.1 52 1) (-1))) (H.1 61 0) ((f_X2_gs1 (iAnd (f_X10_everybody H) (iXor (H.1 52 1) (-1))) (H.1 61 0) (H.1 61 2 - 0).toNat 0 (upI (upI (upI (upI (upI (upRow H 55 0 12) 55 0 (iAnd (f_X10_everybody H) (iXor (H.1 52 1) (-1)))) 55 1 (iAnd (iAnd (f_X10_everybody H) (iXor (H.1 52 1) (-1))) (iXor (H.1 60 7) (-1)))) 55 2 (iAnd (iAnd (f_X10_everybody H) (iXor (H.1 52 1) (-1))) (H.1 60 7))) 55 3 (iAnd (iAnd (f_X10_everybody H) (iXor (H.1 52 1) (-1))) 341)) 55 4 (iAnd (iAnd (f_X10_everybody H) (iXor (H.1 52 1) (-1))) 682))).2.1 61 1 - 0).toNat 0 (f_X2_gs1 (iAnd (f_X10_everybody H) (iXor (H.1 52 1) (-1))) (H.1 61 0) (H.1 61 2 - 0).toNat 0 (upI (upI (upI (upI (upI (upRow H 55 0 12) 55 0 (iAnd (f_X10_everybody H) (iXor (H.1 52 1) (-1)))) 55 1 (iAnd (iAnd (f_X10_everybody H) (iXor (H.1 52 1) (-1))) (iXor (H.1 60 7) (-1)))) 55 2 (iAnd (iAnd (f_X10_everybody H) (iXor (H.1 52 1) (-1))) (H.1 60 7))) 55 3 (iAnd (iAnd (f_X10_everybody H) (iXor (H.1 52 1) (-1))) 341)) 55 4 (iAnd (iAnd (f_X10_everybody H) (iXor (H.1 52 1) (-1))) 682))).2 (rf_X2_gs1 (iAnd (f_X10_everybody H) (iXor (H.1 52 1) (-1))) (H.1 61 0) (H.1 61 2 - 0).toNat 0 (upI (upI (upI (upI (upI (upRow H 55 0 12) 55 0 (iAnd (f_X10_everybody H) (iXor (H.1 52 1) (-1)))) 55 1 (iAnd (iAnd (f_X10_everybody H) (iXor (H.1 52 1) (-1))) (iXor (H.1 60 7) (-1)))) 55 2 (iAnd (iAnd (f_X10_everybody H) (iXor (H.1 52 1) (-1))) (H.1 60 7))) 55 3 (iAnd (iAnd (f_X10_everybody H) (iXor (H.1 52 1) (-1))) 341)) 55 4 (iAnd (iAnd (f_X10_everybody H) (iXor (H.1 52 1) (-1))) 682)) hr)))) ?_
  exact J_ret rfl (Or.inr (Or.inr rfl)) (fun aw hR => by show _ ∧ _; unfold f_X2_gatherSets; exact ⟨rfl, hR⟩)
