/-! The class's district (by hand). -/
theorem J_callX {g : Nat → Nat} {tab : Nat → Nat → Option rvE} {info : Nat → rvM} {rets : Nat → Option FieldType} {NM : Nat} {mth : Nat → Option Nat} {j pc len a2 a3 wi : Nat} {i : Instr} {al st : List rvV} {Post : xRes2 → Prop} {H : hH} {as0 : List rvV} {p j2 : Nat} (hw : jRows tab NM) (ht : tab j pc = some (i, len, j2, a2, a3, wi)) (hi0 : (∃ x, i = .invokevirtual x) ∨ ((∃ x, i = .invokespecial x) ∧ Nat.beq a3 9 = false)) (hm : mth j2 = none) (hp : rvPop a2 st [] = some (as0, rf p :: [])) (h : ∀ r : Option rvV, JX tab info rets NM mth j Post (pc + 3) al (r.toList ++ [])) : J g tab info rets NM mth j Post pc al st H := fun aw kc ks hR ha hst => J_callU (g := g) hw ht hi0 hm hp (fun aw' kc' ks' r hA hr => h r aw' kc' ks' hA ha (by rw [List.append_nil]; exact hr)) aw kc ks hR ha hst
set_option maxHeartbeats 16000000 in
set_option maxRecDepth 100000 in
theorem jx_X11_district {g : Nat → Nat} (k : Nat) (H : hH) (hn : H.2.2.2 = 60) (hg : ∀ n, 60 ≤ n → g (n + 1) = g n + 1) (hr : RF (f_X1_pre H).2.2.1) (h6 : H.2.2.1 52 6 = some 53) (h7 : H.2.2.1 52 7 = some 54) (hl53 : H.2.2.1 53 1000 = some 10) (hl54 : H.2.2.1 54 1000 = some 3) {r : Int × hH} (hx : f_X1_read k H = some r) (p7 : H.2.2.1 0 7 = some 13) (p2 : H.2.2.1 0 2 = some 52) {kL : Nat} (q0 : r.2.2.2.1 0 0 = some 4) (q1 : r.2.2.2.1 0 1 = some kL) (q2 : r.2.2.2.1 0 2 = some 52) : J g rvTab rvInf rvRet 316 rvMth 235 (fun res => res.1 = some (pt (if r.2.1 4 13 = 0 then r.1 else iSub (-1) (r.2.1 4 14)))) 0 [rf (g 0), rvU] [] H := by
  have hj : 235 < 316 := by decide
  refine J_ld 1 jw hj rfl rfl rfl rfl ?_
  refine J_gfR (k := 13) jw hj rfl (evn rfl) (by decide) (by decide) p7 ?_
  refine J_ld 5 jw hj rfl rfl rfl rfl ?_
  refine J_gfR (k := 52) jw hj rfl (evn rfl) (by decide) (by decide) p2 ?_
  refine J_callV1 jw rfl (Or.inl ⟨_, rfl⟩) rfl rfl (sp_X1_read (g := g) k H hn hg hr h6 h7 hl53 hl54 hx) ?_
  refine J_st 12 [rf (g 0), pt r.1] (k := 1) jw hj rfl (Or.inr (Or.inr (Or.inl ⟨_, rfl, rfl, rfl⟩))) rfl ?_
  refine J_ld 13 jw hj rfl rfl rfl rfl ?_
  refine J_ld 14 jw hj rfl rfl rfl rfl ?_
  refine J_gfR (k := 4) jw hj rfl (evn rfl) (by decide) (by decide) q0 ?_
  refine J_gfI jw hj rfl (evn rfl) (by decide) rfl (fun r0 => ?_)
  refine J_pfI jw hj rfl (evn rfl) rfl ?_
  refine J_ld 24 jw hj rfl rfl rfl rfl ?_
  refine J_gfR (k := 4) jw hj rfl (evn rfl) (by decide) (by decide) q0 ?_
  refine J_cst 28 jw hj rfl rfl rfl ?_
  refine J_pfI jw hj rfl (evn rfl) rfl ?_
  refine J_ld 32 jw hj rfl rfl rfl rfl ?_
  refine J_gfI jw hj rfl (evn rfl) (by decide) rfl (fun r1 => ?_)
  refine J_ifc (t := 48) jw hj rfl (evn rfl) rfl (fun h0 => ?_) (fun h0 => ?_)
  · have h0 : r.2.1 4 13 = 0 := h0
    rw [if_pos h0]
    refine J_ld 49 jw hj rfl rfl rfl rfl ?_
    refine J_gfR (k := kL) jw hj rfl (evn rfl) (by decide) (by decide) q1 ?_
    refine J_ld 53 jw hj rfl rfl rfl rfl ?_
    refine J_gfR (k := 52) jw hj rfl (evn rfl) (by decide) (by decide) q2 ?_
    refine J_callX jw rfl (Or.inl ⟨_, rfl⟩) rfl rfl (fun r' => ?_)
    refine JX_ld 60 jw hj rfl rfl rfl rfl ?_
    refine JX_gf jw hj rfl (evn rfl) (by decide) (fun w => ?_)
    refine JX_call0 jw rfl rfl (fun r2 => ?_)
    refine JX_ld 67 jw hj rfl rfl rfl rfl ?_
    refine JX_null jw hj rfl (evn rfl) (fun w2 => ?_)
    refine JX_pf jw hj rfl (evn rfl) ?_
    refine JX_ld 72 jw hj rfl rfl rfl rfl ?_
    exact JX_ret rfl (Or.inl rfl) (fun aw => rfl)
  · have h0 : ¬ r.2.1 4 13 = 0 := h0
    rw [if_neg h0]
    refine J_cst 39 jw hj rfl rfl rfl ?_
    refine J_ld 40 jw hj rfl rfl rfl rfl ?_
    refine J_gfR (k := 4) jw hj rfl (evn rfl) (by decide) (by decide) q0 ?_
    refine J_gfI jw hj rfl (evn rfl) (by decide) rfl (fun r2 => ?_)
    refine J_bin jw hj rfl rfl ?_
    exact J_ret rfl (Or.inl rfl) (fun aw hR => rfl)
