/-! Both sides' feed (by hand). -/
def f_put1 (n s : Int) (H : hH) : hH := upI (upI H 5 (H.1 4 2).toNat ((Int32.ofInt (iUshr n s)).toInt8.toInt32.toInt)) 4 2 (iAdd (H.1 4 2) 1)
def f_put (n : Int) (H : hH) : hH := f_put1 n 0 (f_put1 n 8 (f_put1 n 16 (f_put1 n 24 H)))
def f_four1 (n s : Int) (H : hH) : hH := upI (upI H 30 (H.1 29 2).toNat ((Int32.ofInt (iShr n s)).toInt8.toInt32.toInt)) 29 2 (iAdd (H.1 29 2) 1)
def f_four (n : Int) (H : hH) : hH := f_four1 n 0 (f_four1 n 8 (f_four1 n 16 (f_four1 n 24 H)))
set_option maxHeartbeats 16000000 in
set_option maxRecDepth 100000 in
theorem lp_put1 {g : Nat → Nat} {Post : xRes2 → Prop} (n s : Int) (H : hH) (hr : H.2.2.1 4 0 = some 5) (hlt : H.1 4 2 < 940) (hs : 0 ≤ s) (h : J g rvTab rvInf rvRet 316 rvMth 230 Post 3 [rf (g 4), pt n, pt (iAdd s (-8))] [] (f_put1 n s H)) : J g rvTab rvInf rvRet 316 rvMth 230 Post 3 [rf (g 4), pt n, pt s] [] H := by
  have hj : 230 < 316 := by decide
  refine J_ld 4 jw hj rfl rfl rfl rfl ?_
  refine J_ifc (t := 46) jw hj rfl (evn rfl) rfl (fun (h0 : s < 0) => absurd h0 (by omega)) (fun (h0 : ¬ s < 0) => ?_)
  refine J_ld 8 jw hj rfl rfl rfl rfl ?_
  refine J_gfI jw hj rfl (evn rfl) (by decide) rfl (fun r0 => ?_)
  refine J_cst 14 jw hj rfl rfl rfl ?_
  refine J_icmp (t := 46) jw hj rfl (evn rfl) rfl (fun (h0 : ¬ H.1 4 2 < 940) => absurd hlt h0) (fun (h0 : H.1 4 2 < 940) => ?_)
  refine J_ld 18 jw hj rfl rfl rfl rfl ?_
  refine J_gfR (k := 5) jw hj rfl (evn rfl) (by decide) (by decide) hr ?_
  refine J_ld 22 jw hj rfl rfl rfl rfl ?_
  refine J_gfI jw hj rfl (evn rfl) (by decide) rfl (fun r1 => ?_)
  refine J_ld 26 jw hj rfl rfl rfl rfl ?_
  refine J_ld 27 jw hj rfl rfl rfl rfl ?_
  refine J_bin jw hj rfl rfl ?_
  refine J_i2b jw hj rfl (evn rfl) ?_
  refine J_iast jw hj rfl (Or.inr rfl) (fun _ => ?_)
  refine J_ld 31 jw hj rfl rfl rfl rfl ?_
  refine J_dup 32 jw hj rfl rfl ?_
  refine J_gfI jw hj rfl (evn rfl) (by decide) rfl (fun r2 => ?_)
  refine J_cst 36 jw hj rfl rfl rfl ?_
  refine J_bin jw hj rfl rfl ?_
  refine J_pfI jw hj rfl (evn rfl) rfl ?_
  refine J_iinc (al' := [rf (g 4), pt n, pt (iAdd s (-8))]) jw hj rfl (evn rfl) rfl rfl ?_
  refine J_goto 3 jw hj rfl rfl ?_
  exact h
theorem iad_1 {N : Int} (h0 : 0 ≤ N) (h : N < 2147483647) : iAdd N 1 = N + 1 := iop_add ⟨by omega, by omega⟩ ⟨by decide, by decide⟩ ⟨by omega, by omega⟩
theorem put1_42 (n s : Int) (H : hH) : (f_put1 n s H).1 4 2 = iAdd (H.1 4 2) 1 := by simp [f_put1, upI]
theorem put1_rf (n s : Int) (H : hH) : (f_put1 n s H).2 = H.2 := rfl
set_option maxHeartbeats 16000000 in
set_option maxRecDepth 100000 in
theorem sp_put {g : Nat → Nat} (n : Int) (H : hH) (hr : H.2.2.1 4 0 = some 5) (h0 : 0 ≤ H.1 4 2) (hlt : H.1 4 2 ≤ 936) : SP g rvTab rvInf rvRet 316 rvMth 230 [rf (g 4), pt n] H none (f_put n H) := by
  have hj : 230 < 316 := by decide
  refine J_SP hj (Nat.le_of_ble_eq_true rfl) ?_
  show J g rvTab rvInf rvRet 316 rvMth 230 _ 0 [rf (g 4), pt n, rvU] [] H
  refine J_cst 2 jw hj rfl rfl rfl ?_
  refine J_st 3 [rf (g 4), pt n, pt 24] (k := 2) jw hj rfl (Or.inr (Or.inr (Or.inl ⟨_, rfl, rfl, rfl⟩))) rfl ?_
  have e1 : (f_put1 n 24 H).1 4 2 = H.1 4 2 + 1 := by rw [put1_42, iad_1 h0 (by omega)]
  have e2 : (f_put1 n 16 (f_put1 n 24 H)).1 4 2 = H.1 4 2 + 2 := by rw [put1_42, e1, iad_1 (by omega) (by omega)]; omega
  have e3 : (f_put1 n 8 (f_put1 n 16 (f_put1 n 24 H))).1 4 2 = H.1 4 2 + 3 := by rw [put1_42, e2, iad_1 (by omega) (by omega)]; omega
  refine lp_put1 n 24 H hr (by omega) (by omega) ?_
  rw [show iAdd 24 (-8) = 16 from by decide]
  refine lp_put1 n 16 _ hr (by omega) (by omega) ?_
  rw [show iAdd 16 (-8) = 8 from by decide]
  refine lp_put1 n 8 _ hr (by omega) (by omega) ?_
  rw [show iAdd 8 (-8) = 0 from by decide]
  refine lp_put1 n 0 _ hr (by omega) (by omega) ?_
  rw [show iAdd 0 (-8) = -8 from by decide]
  refine J_ld 4 jw hj rfl rfl rfl rfl ?_
  refine J_ifc (t := 46) jw hj rfl (evn rfl) rfl (fun (h0 : (-8 : Int) < 0) => ?_) (fun (h0 : ¬ (-8 : Int) < 0) => absurd (by decide) h0)
  exact J_ret rfl (Or.inr (Or.inr rfl)) (fun aw hR => ⟨rfl, hR⟩)
set_option maxHeartbeats 16000000 in
set_option maxRecDepth 100000 in
theorem lp_four1 {g : Nat → Nat} {Post : xRes2 → Prop} (n s : Int) (H : hH) (hr : H.2.2.1 29 1 = some 30) (hs : 0 ≤ s) (h : J g rvTab rvInf rvRet 316 rvMth 232 Post 3 [rf (g 29), pt n, pt (iAdd s (-8))] [] (f_four1 n s H)) : J g rvTab rvInf rvRet 316 rvMth 232 Post 3 [rf (g 29), pt n, pt s] [] H := by
  have hj : 232 < 316 := by decide
  refine J_ld 4 jw hj rfl rfl rfl rfl ?_
  refine J_ifc (t := 36) jw hj rfl (evn rfl) rfl (fun (h0 : s < 0) => absurd h0 (by omega)) (fun (h0 : ¬ s < 0) => ?_)
  refine J_ld 8 jw hj rfl rfl rfl rfl ?_
  refine J_gfR (k := 30) jw hj rfl (evn rfl) (by decide) (by decide) hr ?_
  refine J_ld 12 jw hj rfl rfl rfl rfl ?_
  refine J_gfI jw hj rfl (evn rfl) (by decide) rfl (fun r1 => ?_)
  refine J_ld 16 jw hj rfl rfl rfl rfl ?_
  refine J_ld 17 jw hj rfl rfl rfl rfl ?_
  refine J_bin jw hj rfl rfl ?_
  refine J_i2b jw hj rfl (evn rfl) ?_
  refine J_iast jw hj rfl (Or.inr rfl) (fun _ => ?_)
  refine J_ld 21 jw hj rfl rfl rfl rfl ?_
  refine J_dup 22 jw hj rfl rfl ?_
  refine J_gfI jw hj rfl (evn rfl) (by decide) rfl (fun r2 => ?_)
  refine J_cst 26 jw hj rfl rfl rfl ?_
  refine J_bin jw hj rfl rfl ?_
  refine J_pfI jw hj rfl (evn rfl) rfl ?_
  refine J_iinc (al' := [rf (g 29), pt n, pt (iAdd s (-8))]) jw hj rfl (evn rfl) rfl rfl ?_
  refine J_goto 3 jw hj rfl rfl ?_
  exact h
set_option maxHeartbeats 16000000 in
set_option maxRecDepth 100000 in
theorem sp_four {g : Nat → Nat} (n : Int) (H : hH) (hr : H.2.2.1 29 1 = some 30) : SP g rvTab rvInf rvRet 316 rvMth 232 [rf (g 29), pt n] H none (f_four n H) := by
  have hj : 232 < 316 := by decide
  refine J_SP hj (Nat.le_of_ble_eq_true rfl) ?_
  show J g rvTab rvInf rvRet 316 rvMth 232 _ 0 [rf (g 29), pt n, rvU] [] H
  refine J_cst 2 jw hj rfl rfl rfl ?_
  refine J_st 3 [rf (g 29), pt n, pt 24] (k := 2) jw hj rfl (Or.inr (Or.inr (Or.inl ⟨_, rfl, rfl, rfl⟩))) rfl ?_
  refine lp_four1 n 24 H hr (by omega) ?_
  rw [show iAdd 24 (-8) = 16 from by decide]
  refine lp_four1 n 16 _ hr (by omega) ?_
  rw [show iAdd 16 (-8) = 8 from by decide]
  refine lp_four1 n 8 _ hr (by omega) ?_
  rw [show iAdd 8 (-8) = 0 from by decide]
  refine lp_four1 n 0 _ hr (by omega) ?_
  rw [show iAdd 0 (-8) = -8 from by decide]
  refine J_ld 4 jw hj rfl rfl rfl rfl ?_
  refine J_ifc (t := 36) jw hj rfl (evn rfl) rfl (fun (h0 : (-8 : Int) < 0) => ?_) (fun (h0 : ¬ (-8 : Int) < 0) => absurd (by decide) h0)
  exact J_ret rfl (Or.inr (Or.inr rfl)) (fun aw hR => ⟨rfl, hR⟩)
/-- feed: five numbers, if there is room -/
def f_feedX (a b c d e : Int) (H : hH) : hH := if 940 < iAdd (H.1 4 2) 20 then H else f_put e (f_put d (f_put c (f_put b (f_put a H))))
def f_feedM (a b c d e : Int) (H : hH) : hH := if 940 < iAdd (H.1 29 2) 20 then upI H 29 0 0 else f_four e (f_four d (f_four c (f_four b (f_four a (upI H 29 0 0)))))
theorem put_42 (n : Int) (H : hH) (h0 : 0 ≤ H.1 4 2) (hlt : H.1 4 2 ≤ 936) : (f_put n H).1 4 2 = H.1 4 2 + 4 := by
  unfold f_put
  have e1 : (f_put1 n 24 H).1 4 2 = H.1 4 2 + 1 := by rw [put1_42, iad_1 h0 (by omega)]
  have e2 : (f_put1 n 16 (f_put1 n 24 H)).1 4 2 = H.1 4 2 + 2 := by rw [put1_42, e1, iad_1 (by omega) (by omega)]; omega
  have e3 : (f_put1 n 8 (f_put1 n 16 (f_put1 n 24 H))).1 4 2 = H.1 4 2 + 3 := by rw [put1_42, e2, iad_1 (by omega) (by omega)]; omega
  rw [put1_42, e3, iad_1 (by omega) (by omega)]; omega
set_option maxHeartbeats 16000000 in
set_option maxRecDepth 100000 in
theorem jx_feedX {g : Nat → Nat} (a b c d e : Int) (H : hH) (hr : H.2.2.1 4 0 = some 5) (p0 : H.2.2.1 0 0 = some 4) (h0 : 0 ≤ H.1 4 2) (h9 : H.1 4 2 ≤ 940) : J g rvTab rvInf rvRet 316 rvMth 229 (fun res => RH g res.2 (f_feedX a b c d e H)) 0 [rf (g 0), pt a, pt b, pt c, pt d, pt e] [] H := by
  have hj : 229 < 316 := by decide
  have e20 : iAdd (H.1 4 2) 20 = H.1 4 2 + 20 := iop_add ⟨by omega, by omega⟩ ⟨by decide, by decide⟩ ⟨by omega, by omega⟩
  refine J_ld 1 jw hj rfl rfl rfl rfl ?_
  refine J_gfR (k := 4) jw hj rfl (evn rfl) (by decide) (by decide) p0 ?_
  refine J_gfI jw hj rfl (evn rfl) (by decide) rfl (fun r0 => ?_)
  refine J_cst 9 jw hj rfl rfl rfl ?_
  refine J_bin jw hj rfl rfl ?_
  refine J_cst 13 jw hj rfl rfl rfl ?_
  refine J_icmp (t := 18) jw hj rfl (evn rfl) rfl (fun (h1 : ¬ 940 < iAdd (H.1 4 2) 20) => ?_) (fun (h1 : 940 < iAdd (H.1 4 2) 20) => ?_)
  · have hf : f_feedX a b c d e H = f_put e (f_put d (f_put c (f_put b (f_put a H)))) := if_neg h1
    rw [hf]
    rw [e20] at h1
    have q1 := put_42 a H h0 (by omega)
    have q2 := put_42 b (f_put a H) (by omega) (by omega)
    have q3 := put_42 c (f_put b (f_put a H)) (by omega) (by omega)
    have q4 := put_42 d (f_put c (f_put b (f_put a H))) (by omega) (by omega)
    refine J_ld 19 jw hj rfl rfl rfl rfl ?_
    refine J_gfR (k := 4) jw hj rfl (evn rfl) (by decide) (by decide) p0 ?_
    refine J_ld 23 jw hj rfl rfl rfl rfl ?_
    refine J_callV0 jw rfl (Or.inl ⟨_, rfl⟩) rfl rfl (sp_put (g := g) a H hr (by omega) (by omega)) ?_
    refine J_ld 27 jw hj rfl rfl rfl rfl ?_
    refine J_gfR (k := 4) jw hj rfl (evn rfl) (by decide) (by decide) p0 ?_
    refine J_ld 31 jw hj rfl rfl rfl rfl ?_
    refine J_callV0 jw rfl (Or.inl ⟨_, rfl⟩) rfl rfl (sp_put (g := g) b _ hr (by omega) (by omega)) ?_
    refine J_ld 35 jw hj rfl rfl rfl rfl ?_
    refine J_gfR (k := 4) jw hj rfl (evn rfl) (by decide) (by decide) p0 ?_
    refine J_ld 39 jw hj rfl rfl rfl rfl ?_
    refine J_callV0 jw rfl (Or.inl ⟨_, rfl⟩) rfl rfl (sp_put (g := g) c _ hr (by omega) (by omega)) ?_
    refine J_ld 43 jw hj rfl rfl rfl rfl ?_
    refine J_gfR (k := 4) jw hj rfl (evn rfl) (by decide) (by decide) p0 ?_
    refine J_ld 48 jw hj rfl rfl rfl rfl ?_
    refine J_callV0 jw rfl (Or.inl ⟨_, rfl⟩) rfl rfl (sp_put (g := g) d _ hr (by omega) (by omega)) ?_
    refine J_ld 52 jw hj rfl rfl rfl rfl ?_
    refine J_gfR (k := 4) jw hj rfl (evn rfl) (by decide) (by decide) p0 ?_
    refine J_ld 57 jw hj rfl rfl rfl rfl ?_
    refine J_callV0 jw rfl (Or.inl ⟨_, rfl⟩) rfl rfl (sp_put (g := g) e _ hr (by omega) (by omega)) ?_
    refine J_ld 61 jw hj rfl rfl rfl rfl ?_
    refine J_gfR (k := 4) jw hj rfl (evn rfl) (by decide) (by decide) p0 ?_
    refine J_gfI jw hj rfl (evn rfl) (by decide) rfl (fun r1 => ?_)
    exact J_ret rfl (Or.inl rfl) (fun aw hR => hR)
  · have hf : f_feedX a b c d e H = H := if_pos h1
    rw [hf]
    refine J_cst 17 jw hj rfl rfl rfl ?_
    exact J_ret rfl (Or.inl rfl) (fun aw hR => hR)
set_option maxHeartbeats 16000000 in
set_option maxRecDepth 100000 in
theorem jx_feedM {g : Nat → Nat} (a b c d e : Int) (H : hH) (hr : H.2.2.1 29 1 = some 30) : J g rvTab rvInf rvRet 316 rvMth 231 (fun res => RH g res.2 (f_feedM a b c d e H)) 0 [rf (g 29), pt a, pt b, pt c, pt d, pt e] [] H := by
  have hj : 231 < 316 := by decide
  refine J_ld 1 jw hj rfl rfl rfl rfl ?_
  refine J_cst 2 jw hj rfl rfl rfl ?_
  refine J_pfI jw hj rfl (evn rfl) rfl ?_
  refine J_ld 6 jw hj rfl rfl rfl rfl ?_
  refine J_gfI jw hj rfl (evn rfl) (by decide) rfl (fun r0 => ?_)
  refine J_cst 11 jw hj rfl rfl rfl ?_
  refine J_bin jw hj rfl rfl ?_
  refine J_cst 15 jw hj rfl rfl rfl ?_
  refine J_icmp (t := 20) jw hj rfl (evn rfl) rfl (fun (h1 : ¬ 940 < iAdd (H.1 29 2) 20) => ?_) (fun (h1 : 940 < iAdd (H.1 29 2) 20) => ?_)
  · have hf : f_feedM a b c d e H = f_four e (f_four d (f_four c (f_four b (f_four a (upI H 29 0 0))))) := if_neg h1
    rw [hf]
    refine J_ld 21 jw hj rfl rfl rfl rfl ?_
    refine J_ld 22 jw hj rfl rfl rfl rfl ?_
    refine J_callV0 jw rfl (Or.inl ⟨_, rfl⟩) rfl rfl (sp_four (g := g) a _ hr) ?_
    refine J_ld 26 jw hj rfl rfl rfl rfl ?_
    refine J_ld 27 jw hj rfl rfl rfl rfl ?_
    refine J_callV0 jw rfl (Or.inl ⟨_, rfl⟩) rfl rfl (sp_four (g := g) b _ hr) ?_
    refine J_ld 31 jw hj rfl rfl rfl rfl ?_
    refine J_ld 32 jw hj rfl rfl rfl rfl ?_
    refine J_callV0 jw rfl (Or.inl ⟨_, rfl⟩) rfl rfl (sp_four (g := g) c _ hr) ?_
    refine J_ld 36 jw hj rfl rfl rfl rfl ?_
    refine J_ld 38 jw hj rfl rfl rfl rfl ?_
    refine J_callV0 jw rfl (Or.inl ⟨_, rfl⟩) rfl rfl (sp_four (g := g) d _ hr) ?_
    refine J_ld 42 jw hj rfl rfl rfl rfl ?_
    refine J_ld 44 jw hj rfl rfl rfl rfl ?_
    refine J_callV0 jw rfl (Or.inl ⟨_, rfl⟩) rfl rfl (sp_four (g := g) e _ hr) ?_
    refine J_ld 48 jw hj rfl rfl rfl rfl ?_
    refine J_gfI jw hj rfl (evn rfl) (by decide) rfl (fun r1 => ?_)
    exact J_ret rfl (Or.inl rfl) (fun aw hR => hR)
  · have hf : f_feedM a b c d e H = upI H 29 0 0 := if_pos h1
    rw [hf]
    refine J_cst 19 jw hj rfl rfl rfl ?_
    exact J_ret rfl (Or.inl rfl) (fun aw hR => hR)
