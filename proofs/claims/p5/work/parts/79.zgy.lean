/-! What the sets of a life are gathered from (written by wip/p4/gather.py). -/
def f_X10_everybody  (H : hH) : Int :=
  iSub (iShl 1 (H.1 61 2)) 1
set_option maxHeartbeats 16000000 in
set_option maxRecDepth 100000 in
theorem sp_X10_everybody {g : Nat → Nat}  (H : hH) (hr : RF H.2.2.1) : SP g rvTab rvInf rvRet 316 rvMth 150 [rf (g 60)] H (some (pt (f_X10_everybody H))) H := by
  have hj : 150 < 316 := by decide
  refine J_SP hj (Nat.le_of_ble_eq_true rfl) ?_
  show J g rvTab rvInf rvRet 316 rvMth 150 _ 0 [rf (g 60)] [] H
  refine J_cst 1 jw hj rfl rfl rfl ?_
  refine J_ld 2 jw hj rfl rfl rfl rfl ?_
  refine J_gfR (k := 61) jw hj rfl (evn rfl) (by decide) (by decide) (RFa hr rfl) ?_
  refine J_cst 6 jw hj rfl rfl rfl ?_
  refine J_iald jw hj rfl (Or.inl rfl) (fun z0 r0 => ?_)
  refine J_bin jw hj rfl rfl ?_
  refine J_cst 9 jw hj rfl rfl rfl ?_
  refine J_bin jw hj rfl rfl ?_
  exact J_ret rfl (Or.inl rfl) (fun aw hR => by show _ ∧ _; unfold f_X10_everybody; exact ⟨rfl, hR⟩)
def f_X10_setCount  (H : hH) : Int :=
  iAdd (iAdd 5 (H.1 61 0)) (H.1 61 1)
set_option maxHeartbeats 16000000 in
set_option maxRecDepth 100000 in
theorem sp_X10_setCount {g : Nat → Nat}  (H : hH) (hr : RF H.2.2.1) : SP g rvTab rvInf rvRet 316 rvMth 151 [rf (g 60)] H (some (pt (f_X10_setCount H))) H := by
  have hj : 151 < 316 := by decide
  refine J_SP hj (Nat.le_of_ble_eq_true rfl) ?_
  show J g rvTab rvInf rvRet 316 rvMth 151 _ 0 [rf (g 60)] [] H
  refine J_cst 1 jw hj rfl rfl rfl ?_
  refine J_ld 2 jw hj rfl rfl rfl rfl ?_
  refine J_gfR (k := 61) jw hj rfl (evn rfl) (by decide) (by decide) (RFa hr rfl) ?_
  refine J_cst 6 jw hj rfl rfl rfl ?_
  refine J_iald jw hj rfl (Or.inl rfl) (fun z0 r0 => ?_)
  refine J_bin jw hj rfl rfl ?_
  refine J_ld 9 jw hj rfl rfl rfl rfl ?_
  refine J_gfR (k := 61) jw hj rfl (evn rfl) (by decide) (by decide) (RFa hr rfl) ?_
  refine J_cst 13 jw hj rfl rfl rfl ?_
  refine J_iald jw hj rfl (Or.inl rfl) (fun z1 r1 => ?_)
  refine J_bin jw hj rfl rfl ?_
  exact J_ret rfl (Or.inl rfl) (fun aw hR => by show _ ∧ _; unfold f_X10_setCount; exact ⟨rfl, hR⟩)
def f_X10_dueOfMany (a1 : Int) (a2 : Int) (H : hH) : Int :=
  if 0 < H.1 67 (a2).toNat then
    iDiv (iAdd (iMul (iMul 2 a1) (H.1 66 (a2).toNat)) (H.1 67 (a2).toNat)) (iMul 2 (H.1 67 (a2).toNat))
  else
    0
set_option maxHeartbeats 16000000 in
set_option maxRecDepth 100000 in
theorem sp_X10_dueOfMany {g : Nat → Nat} (a1 : Int) (a2 : Int) (H : hH) (hr : RF H.2.2.1) : SP g rvTab rvInf rvRet 316 rvMth 152 [rf (g 60), pt a1, pt a2] H (some (pt (f_X10_dueOfMany a1 a2 H))) H := by
  have hj : 152 < 316 := by decide
  refine J_SP hj (Nat.le_of_ble_eq_true rfl) ?_
  show J g rvTab rvInf rvRet 316 rvMth 152 _ 0 [rf (g 60), pt a1, pt a2, rvU] [] H
  refine J_ld 1 jw hj rfl rfl rfl rfl ?_
  refine J_gfR (k := 67) jw hj rfl (evn rfl) (by decide) (by decide) (RFa hr rfl) ?_
  refine J_ld 5 jw hj rfl rfl rfl rfl ?_
  refine J_iald jw hj rfl (Or.inl rfl) (fun z0 r0 => ?_)
  refine J_st 7 [rf (g 60), pt a1, pt a2, pt (H.1 67 (a2).toNat)] (k := 3) jw hj rfl (Or.inr (Or.inr (Or.inl ⟨_, rfl, rfl, rfl⟩))) rfl ?_
  refine J_ld 8 jw hj rfl rfl rfl rfl ?_
  refine J_ifc (t := 30) jw hj rfl (evn rfl) rfl (fun (h0 : ¬ 0 < H.1 67 (a2).toNat) => ?_) (fun (h0 : 0 < H.1 67 (a2).toNat) => ?_)
  · refine J_cst 31 jw hj rfl rfl rfl ?_
    exact J_ret rfl (Or.inl rfl) (fun aw hR => by show _ ∧ _; unfold f_X10_dueOfMany; rw [if_neg h0]; exact ⟨rfl, hR⟩)
  · refine J_cst 12 jw hj rfl rfl rfl ?_
    refine J_ld 13 jw hj rfl rfl rfl rfl ?_
    refine J_bin jw hj rfl rfl ?_
    refine J_ld 15 jw hj rfl rfl rfl rfl ?_
    refine J_gfR (k := 66) jw hj rfl (evn rfl) (by decide) (by decide) (RFa hr rfl) ?_
    refine J_ld 19 jw hj rfl rfl rfl rfl ?_
    refine J_iald jw hj rfl (Or.inl rfl) (fun z1 r1 => ?_)
    refine J_bin jw hj rfl rfl ?_
    refine J_ld 22 jw hj rfl rfl rfl rfl ?_
    refine J_bin jw hj rfl rfl ?_
    refine J_cst 24 jw hj rfl rfl rfl ?_
    refine J_ld 25 jw hj rfl rfl rfl rfl ?_
    refine J_bin jw hj rfl rfl ?_
    refine J_div jw hj rfl ?_
    refine J_goto 31 jw hj rfl rfl ?_
    exact J_ret rfl (Or.inl rfl) (fun aw hR => by show _ ∧ _; unfold f_X10_dueOfMany; rw [if_pos h0]; exact ⟨rfl, hR⟩)
def f_J6_bitCount_0f7a4 (a1 : Int) : Int :=
  iAnd (iAdd (iAdd (iAnd (iAdd (iAdd (iAnd (iSub a1 (iAnd (iUshr a1 1) 1431655765)) 858993459) (iAnd (iUshr (iSub a1 (iAnd (iUshr a1 1) 1431655765)) 2) 858993459)) (iUshr (iAdd (iAnd (iSub a1 (iAnd (iUshr a1 1) 1431655765)) 858993459) (iAnd (iUshr (iSub a1 (iAnd (iUshr a1 1) 1431655765)) 2) 858993459)) 4)) 252645135) (iUshr (iAnd (iAdd (iAdd (iAnd (iSub a1 (iAnd (iUshr a1 1) 1431655765)) 858993459) (iAnd (iUshr (iSub a1 (iAnd (iUshr a1 1) 1431655765)) 2) 858993459)) (iUshr (iAdd (iAnd (iSub a1 (iAnd (iUshr a1 1) 1431655765)) 858993459) (iAnd (iUshr (iSub a1 (iAnd (iUshr a1 1) 1431655765)) 2) 858993459)) 4)) 252645135) 8)) (iUshr (iAdd (iAnd (iAdd (iAdd (iAnd (iSub a1 (iAnd (iUshr a1 1) 1431655765)) 858993459) (iAnd (iUshr (iSub a1 (iAnd (iUshr a1 1) 1431655765)) 2) 858993459)) (iUshr (iAdd (iAnd (iSub a1 (iAnd (iUshr a1 1) 1431655765)) 858993459) (iAnd (iUshr (iSub a1 (iAnd (iUshr a1 1) 1431655765)) 2) 858993459)) 4)) 252645135) (iUshr (iAnd (iAdd (iAdd (iAnd (iSub a1 (iAnd (iUshr a1 1) 1431655765)) 858993459) (iAnd (iUshr (iSub a1 (iAnd (iUshr a1 1) 1431655765)) 2) 858993459)) (iUshr (iAdd (iAnd (iSub a1 (iAnd (iUshr a1 1) 1431655765)) 858993459) (iAnd (iUshr (iSub a1 (iAnd (iUshr a1 1) 1431655765)) 2) 858993459)) 4)) 252645135) 8)) 16)) 63
set_option maxHeartbeats 16000000 in
set_option maxRecDepth 100000 in
theorem sp_J6_bitCount_0f7a4 {g : Nat → Nat} (a1 : Int) (H : hH) : SP g rvTab rvInf rvRet 316 rvMth 14 [pt a1] H (some (pt (f_J6_bitCount_0f7a4 a1))) H := by
  have hj : 14 < 316 := by decide
  refine J_SP hj (Nat.le_of_ble_eq_true rfl) ?_
  show J g rvTab rvInf rvRet 316 rvMth 14 _ 0 [pt a1] [] H
  refine J_ld 1 jw hj rfl rfl rfl rfl ?_
  refine J_ld 2 jw hj rfl rfl rfl rfl ?_
  refine J_cst 3 jw hj rfl rfl rfl ?_
  refine J_bin jw hj rfl rfl ?_
  refine J_ldcw 7 jw hj rfl rfl ?_
  refine J_bin jw hj rfl rfl ?_
  refine J_bin jw hj rfl rfl ?_
  refine J_st 10 [pt (iSub a1 (iAnd (iUshr a1 1) 1431655765))] (k := 0) jw hj rfl (Or.inr (Or.inr (Or.inl ⟨_, rfl, rfl, rfl⟩))) rfl ?_
  refine J_ld 11 jw hj rfl rfl rfl rfl ?_
  refine J_ldcw 14 jw hj rfl rfl ?_
  refine J_bin jw hj rfl rfl ?_
  refine J_ld 16 jw hj rfl rfl rfl rfl ?_
  refine J_cst 17 jw hj rfl rfl rfl ?_
  refine J_bin jw hj rfl rfl ?_
  refine J_ldcw 21 jw hj rfl rfl ?_
  refine J_bin jw hj rfl rfl ?_
  refine J_bin jw hj rfl rfl ?_
  refine J_st 24 [pt (iAdd (iAnd (iSub a1 (iAnd (iUshr a1 1) 1431655765)) 858993459) (iAnd (iUshr (iSub a1 (iAnd (iUshr a1 1) 1431655765)) 2) 858993459))] (k := 0) jw hj rfl (Or.inr (Or.inr (Or.inl ⟨_, rfl, rfl, rfl⟩))) rfl ?_
  refine J_ld 25 jw hj rfl rfl rfl rfl ?_
  refine J_ld 26 jw hj rfl rfl rfl rfl ?_
  refine J_cst 27 jw hj rfl rfl rfl ?_
  refine J_bin jw hj rfl rfl ?_
  refine J_bin jw hj rfl rfl ?_
  refine J_ldcw 32 jw hj rfl rfl ?_
  refine J_bin jw hj rfl rfl ?_
  refine J_st 34 [pt (iAnd (iAdd (iAdd (iAnd (iSub a1 (iAnd (iUshr a1 1) 1431655765)) 858993459) (iAnd (iUshr (iSub a1 (iAnd (iUshr a1 1) 1431655765)) 2) 858993459)) (iUshr (iAdd (iAnd (iSub a1 (iAnd (iUshr a1 1) 1431655765)) 858993459) (iAnd (iUshr (iSub a1 (iAnd (iUshr a1 1) 1431655765)) 2) 858993459)) 4)) 252645135)] (k := 0) jw hj rfl (Or.inr (Or.inr (Or.inl ⟨_, rfl, rfl, rfl⟩))) rfl ?_
  refine J_ld 35 jw hj rfl rfl rfl rfl ?_
  refine J_ld 36 jw hj rfl rfl rfl rfl ?_
  refine J_cst 38 jw hj rfl rfl rfl ?_
  refine J_bin jw hj rfl rfl ?_
  refine J_bin jw hj rfl rfl ?_
  refine J_st 41 [pt (iAdd (iAnd (iAdd (iAdd (iAnd (iSub a1 (iAnd (iUshr a1 1) 1431655765)) 858993459) (iAnd (iUshr (iSub a1 (iAnd (iUshr a1 1) 1431655765)) 2) 858993459)) (iUshr (iAdd (iAnd (iSub a1 (iAnd (iUshr a1 1) 1431655765)) 858993459) (iAnd (iUshr (iSub a1 (iAnd (iUshr a1 1) 1431655765)) 2) 858993459)) 4)) 252645135) (iUshr (iAnd (iAdd (iAdd (iAnd (iSub a1 (iAnd (iUshr a1 1) 1431655765)) 858993459) (iAnd (iUshr (iSub a1 (iAnd (iUshr a1 1) 1431655765)) 2) 858993459)) (iUshr (iAdd (iAnd (iSub a1 (iAnd (iUshr a1 1) 1431655765)) 858993459) (iAnd (iUshr (iSub a1 (iAnd (iUshr a1 1) 1431655765)) 2) 858993459)) 4)) 252645135) 8))] (k := 0) jw hj rfl (Or.inr (Or.inr (Or.inl ⟨_, rfl, rfl, rfl⟩))) rfl ?_
  refine J_ld 42 jw hj rfl rfl rfl rfl ?_
  refine J_ld 43 jw hj rfl rfl rfl rfl ?_
  refine J_cst 45 jw hj rfl rfl rfl ?_
  refine J_bin jw hj rfl rfl ?_
  refine J_bin jw hj rfl rfl ?_
  refine J_st 48 [pt (iAdd (iAdd (iAnd (iAdd (iAdd (iAnd (iSub a1 (iAnd (iUshr a1 1) 1431655765)) 858993459) (iAnd (iUshr (iSub a1 (iAnd (iUshr a1 1) 1431655765)) 2) 858993459)) (iUshr (iAdd (iAnd (iSub a1 (iAnd (iUshr a1 1) 1431655765)) 858993459) (iAnd (iUshr (iSub a1 (iAnd (iUshr a1 1) 1431655765)) 2) 858993459)) 4)) 252645135) (iUshr (iAnd (iAdd (iAdd (iAnd (iSub a1 (iAnd (iUshr a1 1) 1431655765)) 858993459) (iAnd (iUshr (iSub a1 (iAnd (iUshr a1 1) 1431655765)) 2) 858993459)) (iUshr (iAdd (iAnd (iSub a1 (iAnd (iUshr a1 1) 1431655765)) 858993459) (iAnd (iUshr (iSub a1 (iAnd (iUshr a1 1) 1431655765)) 2) 858993459)) 4)) 252645135) 8)) (iUshr (iAdd (iAnd (iAdd (iAdd (iAnd (iSub a1 (iAnd (iUshr a1 1) 1431655765)) 858993459) (iAnd (iUshr (iSub a1 (iAnd (iUshr a1 1) 1431655765)) 2) 858993459)) (iUshr (iAdd (iAnd (iSub a1 (iAnd (iUshr a1 1) 1431655765)) 858993459) (iAnd (iUshr (iSub a1 (iAnd (iUshr a1 1) 1431655765)) 2) 858993459)) 4)) 252645135) (iUshr (iAnd (iAdd (iAdd (iAnd (iSub a1 (iAnd (iUshr a1 1) 1431655765)) 858993459) (iAnd (iUshr (iSub a1 (iAnd (iUshr a1 1) 1431655765)) 2) 858993459)) (iUshr (iAdd (iAnd (iSub a1 (iAnd (iUshr a1 1) 1431655765)) 858993459) (iAnd (iUshr (iSub a1 (iAnd (iUshr a1 1) 1431655765)) 2) 858993459)) 4)) 252645135) 8)) 16))] (k := 0) jw hj rfl (Or.inr (Or.inr (Or.inl ⟨_, rfl, rfl, rfl⟩))) rfl ?_
  refine J_ld 49 jw hj rfl rfl rfl rfl ?_
  refine J_cst 51 jw hj rfl rfl rfl ?_
  refine J_bin jw hj rfl rfl ?_
  exact J_ret rfl (Or.inl rfl) (fun aw hR => by show _ ∧ _; unfold f_J6_bitCount_0f7a4; exact ⟨rfl, hR⟩)
def f_X2_gs1 (b : Int) (c : Int) : Nat → Int → hH → Int × hH
  | 0, i, H => (i, H)
  | k + 1, i, H =>
    if i < H.1 61 2 then
      if f_X11_isIn b i = 0 then
        f_X2_gs1 b c k (iAdd i 1) H
      else
        f_X2_gs1 b c k (iAdd i 1) (upI H 55 (iAdd 5 (H.1 53 (i).toNat)).toNat (iOr (H.1 55 (iAdd 5 (H.1 53 (i).toNat)).toNat) (iShl 1 i)))
    else
      (i, H)
set_option maxHeartbeats 16000000 in
set_option maxRecDepth 100000 in
theorem lp_X2_gs1 {g : Nat → Nat} {Post : xRes2 → Prop} (b : Int) (c : Int) : ∀ (k : Nat) (i : Int) (H : hH), RF H.2.2.1 → xIn32 i → (H.1 61 2 - i).toNat ≤ k → (J g rvTab rvInf rvRet 316 rvMth 16 Post 142 [rf (g 52), pt b, pt c, pt ((f_X2_gs1 b c k i H).1)] [] (f_X2_gs1 b c k i H).2) → J g rvTab rvInf rvRet 316 rvMth 16 Post 96 [rf (g 52), pt b, pt c, pt i] [] H := by
  intro k
  induction k with
  | zero =>
    intro i H hr hv hm hx
    have hj : 16 < 316 := by decide
    refine J_ld 97 jw hj rfl rfl rfl rfl ?_
    refine J_ld 98 jw hj rfl rfl rfl rfl ?_
    refine J_gfR (k := 60) jw hj rfl (evn rfl) (by decide) (by decide) (RFa hr rfl) ?_
    refine J_gfR (k := 61) jw hj rfl (evn rfl) (by decide) (by decide) (RFa hr rfl) ?_
    refine J_cst 105 jw hj rfl rfl rfl ?_
    refine J_iald jw hj rfl (Or.inl rfl) (fun z0 r0 => ?_)
    refine J_icmp (t := 142) jw hj rfl (evn rfl) rfl (fun (h0 : ¬ i < H.1 61 2) => ?_) (fun (h0 : i < H.1 61 2) => ?_)
    · exact hx
    · exfalso; omega
  | succ k ih =>
    intro i H hr hv hm hx
    have hj : 16 < 316 := by decide
    refine J_ld 97 jw hj rfl rfl rfl rfl ?_
    refine J_ld 98 jw hj rfl rfl rfl rfl ?_
    refine J_gfR (k := 60) jw hj rfl (evn rfl) (by decide) (by decide) (RFa hr rfl) ?_
    refine J_gfR (k := 61) jw hj rfl (evn rfl) (by decide) (by decide) (RFa hr rfl) ?_
    refine J_cst 105 jw hj rfl rfl rfl ?_
    refine J_iald jw hj rfl (Or.inl rfl) (fun z0 r0 => ?_)
    refine J_icmp (t := 142) jw hj rfl (evn rfl) rfl (fun (h0 : ¬ i < H.1 61 2) => ?_) (fun (h0 : i < H.1 61 2) => ?_)
    · have e : f_X2_gs1 b c (k + 1) i H = (i, H) := by
        rw [f_X2_gs1]
        rw [if_neg h0]
      rw [e] at hx
      exact hx
    · refine J_ld 110 jw hj rfl rfl rfl rfl ?_
      refine J_ld 111 jw hj rfl rfl rfl rfl ?_
      refine J_callS1 jw rfl rfl rfl rfl (sp_X11_isIn (g := g) b i H) ?_
      refine J_ifc (t := 136) jw hj rfl (evn rfl) rfl (fun (h1 : f_X11_isIn b i = 0) => ?_) (fun (h1 : ¬ f_X11_isIn b i = 0) => ?_)
      · refine J_iinc (al' := [rf (g 52), pt b, pt c, pt (iAdd i 1)]) jw hj rfl (evn rfl) rfl rfl ?_
        refine J_goto 96 jw hj rfl rfl ?_
        have e : f_X2_gs1 b c (k + 1) i H = f_X2_gs1 b c k (iAdd i 1) H := by
          rw [f_X2_gs1]
          rw [if_pos h0, if_pos h1]
        rw [e] at hx
        exact ih (iAdd i 1) H hr (xi_in _) (by exact mpJ (by assumption) hv (by assumption) hm) hx
      · refine J_ld 118 jw hj rfl rfl rfl rfl ?_
        refine J_gfR (k := 55) jw hj rfl (evn rfl) (by decide) (by decide) (RFa hr rfl) ?_
        refine J_cst 122 jw hj rfl rfl rfl ?_
        refine J_ld 123 jw hj rfl rfl rfl rfl ?_
        refine J_gfR (k := 53) jw hj rfl (evn rfl) (by decide) (by decide) (RFa hr rfl) ?_
        refine J_ld 127 jw hj rfl rfl rfl rfl ?_
        refine J_iald jw hj rfl (Or.inl rfl) (fun z1 r1 => ?_)
        refine J_bin jw hj rfl rfl ?_
        refine J_dup2 130 jw hj rfl rfl ?_
        refine J_iald jw hj rfl (Or.inl rfl) (fun z2 r2 => ?_)
        refine J_cst 132 jw hj rfl rfl rfl ?_
        refine J_ld 133 jw hj rfl rfl rfl rfl ?_
        refine J_bin jw hj rfl rfl ?_
        refine J_bin jw hj rfl rfl ?_
        refine J_iast jw hj rfl (Or.inl rfl) (fun _ => ?_)
        refine J_iinc (al' := [rf (g 52), pt b, pt c, pt (iAdd i 1)]) jw hj rfl (evn rfl) rfl rfl ?_
        refine J_goto 96 jw hj rfl rfl ?_
        have e : f_X2_gs1 b c (k + 1) i H = f_X2_gs1 b c k (iAdd i 1) (upI H 55 (iAdd 5 (H.1 53 (i).toNat)).toNat (iOr (H.1 55 (iAdd 5 (H.1 53 (i).toNat)).toNat) (iShl 1 i))) := by
          rw [f_X2_gs1]
          rw [if_pos h0, if_neg h1]
        rw [e] at hx
        exact ih (iAdd i 1) (upI H 55 (iAdd 5 (H.1 53 (i).toNat)).toNat (iOr (H.1 55 (iAdd 5 (H.1 53 (i).toNat)).toNat) (iShl 1 i))) hr (xi_in _) (by exact mpJ (by assumption) hv (by assumption) hm) hx
theorem rf_X2_gs1 (b : Int) (c : Int) : ∀ (k : Nat) (i : Int) (H : hH), RF H.2.2.1 → RF (f_X2_gs1 b c k i H).2.2.2.1 := by
  intro k
  induction k with
  | zero => intro i H hr; exact hr
  | succ k ih =>
    intro i H hr
    rw [f_X2_gs1]
    by_cases q2 : i < H.1 61 2
    · rw [if_pos q2]
      by_cases q3 : f_X11_isIn b i = 0
      · rw [if_pos q3]
        exact ih (iAdd i 1) H hr
      · rw [if_neg q3]
        exact ih (iAdd i 1) (upI H 55 (iAdd 5 (H.1 53 (i).toNat)).toNat (iOr (H.1 55 (iAdd 5 (H.1 53 (i).toNat)).toNat) (iShl 1 i))) hr
    · rw [if_neg q2]
      exact hr
def f_X2_gs2 (b : Int) (c : Int) : Nat → Int → hH → Int × hH
  | 0, i, H => (i, H)
  | k + 1, i, H =>
    if i < H.1 61 1 then
      f_X2_gs2 b c k (iAdd i 1) (upI H 55 (iAdd (iAdd 5 c) i).toNat (iAnd b (H.1 65 (i).toNat)))
    else
      (i, H)
set_option maxHeartbeats 16000000 in
set_option maxRecDepth 100000 in
theorem lp_X2_gs2 {g : Nat → Nat} {Post : xRes2 → Prop} (b : Int) (c : Int) : ∀ (k : Nat) (i : Int) (H : hH), RF H.2.2.1 → xIn32 i → (H.1 61 1 - i).toNat ≤ k → (J g rvTab rvInf rvRet 316 rvMth 16 Post 184 [rf (g 52), pt b, pt c, pt ((f_X2_gs2 b c k i H).1)] [] (f_X2_gs2 b c k i H).2) → J g rvTab rvInf rvRet 316 rvMth 16 Post 144 [rf (g 52), pt b, pt c, pt i] [] H := by
  intro k
  induction k with
  | zero =>
    intro i H hr hv hm hx
    have hj : 16 < 316 := by decide
    refine J_ld 145 jw hj rfl rfl rfl rfl ?_
    refine J_ld 146 jw hj rfl rfl rfl rfl ?_
    refine J_gfR (k := 60) jw hj rfl (evn rfl) (by decide) (by decide) (RFa hr rfl) ?_
    refine J_gfR (k := 61) jw hj rfl (evn rfl) (by decide) (by decide) (RFa hr rfl) ?_
    refine J_cst 153 jw hj rfl rfl rfl ?_
    refine J_iald jw hj rfl (Or.inl rfl) (fun z0 r0 => ?_)
    refine J_icmp (t := 184) jw hj rfl (evn rfl) rfl (fun (h0 : ¬ i < H.1 61 1) => ?_) (fun (h0 : i < H.1 61 1) => ?_)
    · exact hx
    · exfalso; omega
  | succ k ih =>
    intro i H hr hv hm hx
    have hj : 16 < 316 := by decide
    refine J_ld 145 jw hj rfl rfl rfl rfl ?_
    refine J_ld 146 jw hj rfl rfl rfl rfl ?_
    refine J_gfR (k := 60) jw hj rfl (evn rfl) (by decide) (by decide) (RFa hr rfl) ?_
    refine J_gfR (k := 61) jw hj rfl (evn rfl) (by decide) (by decide) (RFa hr rfl) ?_
    refine J_cst 153 jw hj rfl rfl rfl ?_
    refine J_iald jw hj rfl (Or.inl rfl) (fun z0 r0 => ?_)
    refine J_icmp (t := 184) jw hj rfl (evn rfl) rfl (fun (h0 : ¬ i < H.1 61 1) => ?_) (fun (h0 : i < H.1 61 1) => ?_)
    · have e : f_X2_gs2 b c (k + 1) i H = (i, H) := by
        rw [f_X2_gs2]
        rw [if_neg h0]
      rw [e] at hx
      exact hx
    · refine J_ld 158 jw hj rfl rfl rfl rfl ?_
      refine J_gfR (k := 55) jw hj rfl (evn rfl) (by decide) (by decide) (RFa hr rfl) ?_
      refine J_cst 162 jw hj rfl rfl rfl ?_
      refine J_ld 163 jw hj rfl rfl rfl rfl ?_
      refine J_bin jw hj rfl rfl ?_
      refine J_ld 165 jw hj rfl rfl rfl rfl ?_
      refine J_bin jw hj rfl rfl ?_
      refine J_ld 167 jw hj rfl rfl rfl rfl ?_
      refine J_ld 168 jw hj rfl rfl rfl rfl ?_
      refine J_gfR (k := 60) jw hj rfl (evn rfl) (by decide) (by decide) (RFa hr rfl) ?_
      refine J_gfR (k := 65) jw hj rfl (evn rfl) (by decide) (by decide) (RFa hr rfl) ?_
      refine J_ld 175 jw hj rfl rfl rfl rfl ?_
      refine J_iald jw hj rfl (Or.inl rfl) (fun z1 r1 => ?_)
      refine J_bin jw hj rfl rfl ?_
      refine J_iast jw hj rfl (Or.inl rfl) (fun _ => ?_)
      refine J_iinc (al' := [rf (g 52), pt b, pt c, pt (iAdd i 1)]) jw hj rfl (evn rfl) rfl rfl ?_
      refine J_goto 144 jw hj rfl rfl ?_
      have e : f_X2_gs2 b c (k + 1) i H = f_X2_gs2 b c k (iAdd i 1) (upI H 55 (iAdd (iAdd 5 c) i).toNat (iAnd b (H.1 65 (i).toNat))) := by
        rw [f_X2_gs2]
        rw [if_pos h0]
      rw [e] at hx
      exact ih (iAdd i 1) (upI H 55 (iAdd (iAdd 5 c) i).toNat (iAnd b (H.1 65 (i).toNat))) hr (xi_in _) (by exact mpJ (by assumption) hv (by assumption) hm) hx
theorem rf_X2_gs2 (b : Int) (c : Int) : ∀ (k : Nat) (i : Int) (H : hH), RF H.2.2.1 → RF (f_X2_gs2 b c k i H).2.2.2.1 := by
  intro k
  induction k with
  | zero => intro i H hr; exact hr
  | succ k ih =>
    intro i H hr
    rw [f_X2_gs2]
    by_cases q2 : i < H.1 61 1
    · rw [if_pos q2]
      exact ih (iAdd i 1) (upI H 55 (iAdd (iAdd 5 c) i).toNat (iAnd b (H.1 65 (i).toNat))) hr
    · rw [if_neg q2]
      exact hr
def f_X2_ge1 (s : Int) : Nat → Int → hH → Int × hH
  | 0, i, H => (i, H)
  | k + 1, i, H =>
    if i < H.1 61 2 then
      if f_X11_isIn (H.1 55 (s).toNat) i = 0 then
        f_X2_ge1 s k (iAdd i 1) H
      else
        f_X2_ge1 s k (iAdd i 1) (upI H 56 (i).toNat (iOr (H.1 56 (i).toNat) (iShl 1 s)))
    else
      (i, H)
set_option maxHeartbeats 16000000 in
set_option maxRecDepth 100000 in
theorem lp_X2_ge1 {g : Nat → Nat} {Post : xRes2 → Prop} (s : Int) : ∀ (k : Nat) (i : Int) (H : hH), RF H.2.2.1 → xIn32 i → (H.1 61 2 - i).toNat ≤ k → (J g rvTab rvInf rvRet 316 rvMth 13 Post 67 [rf (g 52), pt s, pt ((f_X2_ge1 s k i H).1)] [] (f_X2_ge1 s k i H).2) → J g rvTab rvInf rvRet 316 rvMth 13 Post 23 [rf (g 52), pt s, pt i] [] H := by
  intro k
  induction k with
  | zero =>
    intro i H hr hv hm hx
    have hj : 13 < 316 := by decide
    refine J_ld 24 jw hj rfl rfl rfl rfl ?_
    refine J_ld 25 jw hj rfl rfl rfl rfl ?_
    refine J_gfR (k := 60) jw hj rfl (evn rfl) (by decide) (by decide) (RFa hr rfl) ?_
    refine J_gfR (k := 61) jw hj rfl (evn rfl) (by decide) (by decide) (RFa hr rfl) ?_
    refine J_cst 32 jw hj rfl rfl rfl ?_
    refine J_iald jw hj rfl (Or.inl rfl) (fun z0 r0 => ?_)
    refine J_icmp (t := 67) jw hj rfl (evn rfl) rfl (fun (h0 : ¬ i < H.1 61 2) => ?_) (fun (h0 : i < H.1 61 2) => ?_)
    · exact hx
    · exfalso; omega
  | succ k ih =>
    intro i H hr hv hm hx
    have hj : 13 < 316 := by decide
    refine J_ld 24 jw hj rfl rfl rfl rfl ?_
    refine J_ld 25 jw hj rfl rfl rfl rfl ?_
    refine J_gfR (k := 60) jw hj rfl (evn rfl) (by decide) (by decide) (RFa hr rfl) ?_
    refine J_gfR (k := 61) jw hj rfl (evn rfl) (by decide) (by decide) (RFa hr rfl) ?_
    refine J_cst 32 jw hj rfl rfl rfl ?_
    refine J_iald jw hj rfl (Or.inl rfl) (fun z0 r0 => ?_)
    refine J_icmp (t := 67) jw hj rfl (evn rfl) rfl (fun (h0 : ¬ i < H.1 61 2) => ?_) (fun (h0 : i < H.1 61 2) => ?_)
    · have e : f_X2_ge1 s (k + 1) i H = (i, H) := by
        rw [f_X2_ge1]
        rw [if_neg h0]
      rw [e] at hx
      exact hx
    · refine J_ld 37 jw hj rfl rfl rfl rfl ?_
      refine J_gfR (k := 55) jw hj rfl (evn rfl) (by decide) (by decide) (RFa hr rfl) ?_
      refine J_ld 41 jw hj rfl rfl rfl rfl ?_
      refine J_iald jw hj rfl (Or.inl rfl) (fun z1 r1 => ?_)
      refine J_ld 43 jw hj rfl rfl rfl rfl ?_
      refine J_callS1 jw rfl rfl rfl rfl (sp_X11_isIn (g := g) (H.1 55 (s).toNat) i H) ?_
      refine J_ifc (t := 61) jw hj rfl (evn rfl) rfl (fun (h1 : f_X11_isIn (H.1 55 (s).toNat) i = 0) => ?_) (fun (h1 : ¬ f_X11_isIn (H.1 55 (s).toNat) i = 0) => ?_)
      · refine J_iinc (al' := [rf (g 52), pt s, pt (iAdd i 1)]) jw hj rfl (evn rfl) rfl rfl ?_
        refine J_goto 23 jw hj rfl rfl ?_
        have e : f_X2_ge1 s (k + 1) i H = f_X2_ge1 s k (iAdd i 1) H := by
          rw [f_X2_ge1]
          rw [if_pos h0, if_pos h1]
        rw [e] at hx
        exact ih (iAdd i 1) H hr (xi_in _) (by exact mpJ (by assumption) hv (by assumption) hm) hx
      · refine J_ld 50 jw hj rfl rfl rfl rfl ?_
        refine J_gfR (k := 56) jw hj rfl (evn rfl) (by decide) (by decide) (RFa hr rfl) ?_
        refine J_ld 54 jw hj rfl rfl rfl rfl ?_
        refine J_dup2 55 jw hj rfl rfl ?_
        refine J_iald jw hj rfl (Or.inl rfl) (fun z2 r2 => ?_)
        refine J_cst 57 jw hj rfl rfl rfl ?_
        refine J_ld 58 jw hj rfl rfl rfl rfl ?_
        refine J_bin jw hj rfl rfl ?_
        refine J_bin jw hj rfl rfl ?_
        refine J_iast jw hj rfl (Or.inl rfl) (fun _ => ?_)
        refine J_iinc (al' := [rf (g 52), pt s, pt (iAdd i 1)]) jw hj rfl (evn rfl) rfl rfl ?_
        refine J_goto 23 jw hj rfl rfl ?_
        have e : f_X2_ge1 s (k + 1) i H = f_X2_ge1 s k (iAdd i 1) (upI H 56 (i).toNat (iOr (H.1 56 (i).toNat) (iShl 1 s))) := by
          rw [f_X2_ge1]
          rw [if_pos h0, if_neg h1]
        rw [e] at hx
        exact ih (iAdd i 1) (upI H 56 (i).toNat (iOr (H.1 56 (i).toNat) (iShl 1 s))) hr (xi_in _) (by exact mpJ (by assumption) hv (by assumption) hm) hx
theorem rf_X2_ge1 (s : Int) : ∀ (k : Nat) (i : Int) (H : hH), RF H.2.2.1 → RF (f_X2_ge1 s k i H).2.2.2.1 := by
  intro k
  induction k with
  | zero => intro i H hr; exact hr
  | succ k ih =>
    intro i H hr
    rw [f_X2_ge1]
    by_cases q2 : i < H.1 61 2
    · rw [if_pos q2]
      by_cases q3 : f_X11_isIn (H.1 55 (s).toNat) i = 0
      · rw [if_pos q3]
        exact ih (iAdd i 1) H hr
      · rw [if_neg q3]
        exact ih (iAdd i 1) (upI H 56 (i).toNat (iOr (H.1 56 (i).toNat) (iShl 1 s))) hr
    · rw [if_neg q2]
      exact hr
