/-! The class's district: the heap behind it (by hand). -/
theorem fg_tl : (rvEn 236).all (fun ch => ch.2.all (fun q => tlRow 0 q.1 q.2)) = true := by decide +kernel
theorem fg_nx : (rvEn 236).all (fun ch => ch.2.all (fun q => noX q.2)) = true := by decide +kernel
theorem sp_forget3 (P : Nat) (aw : rvH) : PCM rvTab rvInf rvRet 316 rvMth 236 [rf P] aw (fun res => ∀ y, y ≠ P → res.2[y]? = aw[y]?) := by
  have hj : 236 < 316 := by decide
  refine PCM_of (fun _ _ => ?_)
  have key : Pr rvTab rvInf rvRet 316 rvMth 236 (fun res => ∀ y, y ≠ P → res.2[y]? = aw[y]?) 0 [rf P] [] aw := by
    refine Pr_ld 1 hj rfl rfl rfl rfl ?_
    refine Pr_cst 2 hj rfl rfl rfl ?_
    refine Pr_pfC hj rfl (fun fs e => ?_)
    exact Pr_ret rfl (Or.inr (Or.inr rfl)) (fun y hy => List.getElem?_set_ne (Ne.symm hy))
  exact key 0 0
theorem sp_forget2 (P : Nat) (aw : rvH) : PCM rvTab rvInf rvRet 316 rvMth 236 [rf P] aw (fun res => Up aw res.2 P 1 (pt 0) ∧ K0 aw res.2) := PCM_and (sp_forget P aw) (PCM_of (fun _ _ => tl_run fg_tl fg_nx (fun _ _ h => h) 0 0))
/-- behind a text with a FAULT -/
def DXf (aw1 aw' : rvH) : Prop := Fr aw1 aw' ∧ K0 aw1 aw'
/-- behind a text that is a district's -/
def DXs (aw1 aw' : rvH) : Prop := ∃ aw2 aw3 aw4, Fr aw1 aw2 ∧ K0 aw1 aw2 ∧ CFp 35 41 aw2 aw3 ∧ RXa 35 aw2 aw3 ∧ Up aw3 aw4 47 1 (pt 0) ∧ K0 aw3 aw4 ∧ Fr aw4 aw' ∧ K0 aw4 aw' ∧ ∀ y, y ≠ 0 → y ≠ 1 → y ≠ 35 → y ≠ 47 → (∀ j, 6 ≤ j → j ≤ 10 → ¬ hV aw2 35 j (rf y)) → aw'[y]? = aw1[y]?
theorem int_fld {aw : rvH} {p ci f : Nat} {fs : List rvV} {w : rvV} (hx : exH aw) (e1 : aw[p]? = some (.inl (ci, fs))) (e2 : fs[f]? = some w) (ht : rvTy ci f = .int) : ∃ z, w = pt z ∧ hI aw p f z := by
  have hc : exC (.inl (ci, fs)) := exH_get hx e1
  have hf := hc f w e2
  rw [ht] at hf
  obtain ⟨hv, a, rfl⟩ := hf
  obtain ⟨a1, a2⟩ := a
  have e : a1 = a2 := hv.1
  subst e
  exact ⟨a1, rfl, _, e1, e2⟩
theorem sp_districtX {aw : rvH} {Q : xRes2 → Prop} (hc : HC aw) (hl : 103 < aw.length) (h17 : PCM rvTab rvInf rvRet 316 rvMth 17 [rf 11, rf 41] aw Q) (hQ : ∀ res, Q res → (∃ n, res.1 = some (pt n)) ∧ exH res.2) : PCM rvTab rvInf rvRet 316 rvMth 235 [rf 0] aw (fun res => ∃ r1 aw1, Q (r1, aw1) ∧ RDp 11 41 aw aw1 ∧ ((∃ z, hI aw1 1 13 z ∧ ¬ z = 0 ∧ DXf aw1 res.2) ∨ (hI aw1 1 13 0 ∧ DXs aw1 res.2))) := by
  have hj : 235 < 316 := by decide
  refine PCM_of (fun _ _ => ?_)
  have c0 := hc (0, 0, 1) (by decide)
  have c1 := hc (0, 1, 35) (by decide)
  have c2 := hc (0, 2, 41) (by decide)
  have c3 := hc (0, 3, 47) (by decide)
  have c7 := hc (0, 7, 11) (by decide)
  have key : Pr rvTab rvInf rvRet 316 rvMth 235 (fun res => ∃ r1 aw1, Q (r1, aw1) ∧ RDp 11 41 aw aw1 ∧ ((∃ z, hI aw1 1 13 z ∧ ¬ z = 0 ∧ DXf aw1 res.2) ∨ (hI aw1 1 13 0 ∧ DXs aw1 res.2))) 0 [rf 0, rvU] [] aw := by
    refine Pr_ld 1 hj rfl rfl rfl rfl ?_
    refine Pr_gfV hj rfl (by decide) rfl c7 ?_
    refine Pr_ld 5 hj rfl rfl rfl rfl ?_
    refine Pr_gfV hj rfl (by decide) rfl c2 ?_
    refine Pr_callV rfl (Or.inl ⟨_, rfl⟩) rfl rfl (PCM_and h17 (sp_readX 11 41 aw (by omega) (by omega) (by decide))) (fun res hres => ?_)
    obtain ⟨r1, aw1⟩ := res
    obtain ⟨hq, hd⟩ := hres
    obtain ⟨⟨n, hn⟩, hx⟩ := hQ _ hq
    have hn : r1 = some (pt n) := hn
    subst hn
    have hx : exH aw1 := hx
    have hd : RDp 11 41 aw aw1 := hd
    have k0 : hV aw1 0 0 (rf 1) := hd.1 _ _ _ (by omega) (by omega) (by omega) c0
    have k1 : hV aw1 0 1 (rf 35) := hd.1 _ _ _ (by omega) (by omega) (by omega) c1
    have k2 : hV aw1 0 2 (rf 41) := hd.1 _ _ _ (by omega) (by omega) (by omega) c2
    have k3 : hV aw1 0 3 (rf 47) := hd.1 _ _ _ (by omega) (by omega) (by omega) c3
    refine Pr_st 12 [rf 0, pt n] (k := 1) hj rfl (Or.inr (Or.inr (Or.inl ⟨_, rfl, rfl, rfl⟩))) rfl ?_
    refine Pr_ld 13 hj rfl rfl rfl rfl ?_
    refine Pr_ld 14 hj rfl rfl rfl rfl ?_
    refine Pr_gfV hj rfl (by decide) rfl k0 ?_
    refine Pr_gf hj rfl (by decide) (fun fs w e1 e2 => ?_)
    obtain ⟨z, rfl, hz⟩ := int_fld hx e1 e2 rfl
    refine Pr_pfC hj rfl (fun xs ex => ?_)
    have hl0 := (List.getElem?_eq_some_iff.mp ex).1
    have f1 : Fr aw1 (aw1.set 0 (.inl (11, xs.set 14 (pt z)))) := Fr_set ex (kp_put rfl)
    have q1 : K0 aw1 (aw1.set 0 (.inl (11, xs.set 14 (pt z)))) := K0_set ex (fun n d ov q => by cases q)
    have s0 : (aw1.set 0 (.inl (11, xs.set 14 (pt z))))[0]? = some (.inl (11, xs.set 14 (pt z))) := List.getElem?_set_self hl0
    refine Pr_ld 24 hj rfl rfl rfl rfl ?_
    refine Pr_gfV hj rfl (by decide) rfl (hV_Fr f1 k0) ?_
    refine Pr_cst 28 hj rfl rfl rfl ?_
    refine Pr_pfC hj rfl (fun ys ey => ?_)
    have f2 := Fr_trans f1 (Fr_set ey (kp_put (v := pt 0) (rfl : (!prF 9 2) = true)))
    have q2 := K0_trans q1 (K0_set (c' := .inl (9, ys.set 2 (pt 0))) ey (fun n d ov q => by cases q))
    have s0' : ((aw1.set 0 (.inl (11, xs.set 14 (pt z)))).set 1 (.inl (9, ys.set 2 (pt 0))))[0]? = some (.inl (11, xs.set 14 (pt z))) := by
      rw [List.getElem?_set_ne (by omega)]
      exact s0
    have hce : ∀ y, y ≠ 0 → y ≠ 1 → ((aw1.set 0 (.inl (11, xs.set 14 (pt z)))).set 1 (.inl (9, ys.set 2 (pt 0))))[y]? = aw1[y]? := fun y h0 h1 => by rw [List.getElem?_set_ne (Ne.symm h1), List.getElem?_set_ne (Ne.symm h0)]
    generalize ((aw1.set 0 (.inl (11, xs.set 14 (pt z)))).set 1 (.inl (9, ys.set 2 (pt 0)))) = aw2 at f2 q2 s0' hce ⊢
    refine Pr_ld 32 hj rfl rfl rfl rfl ?_
    refine Pr_gf hj rfl (by decide) (fun us w e3 e4 => ?_)
    rw [s0'] at e3
    have e3 := (Prod.mk.inj (Sum.inl.inj (Option.some.inj e3))).2
    subst e3
    have hw : w = pt z := by
      have hl := (List.getElem?_eq_some_iff.mp e4).1
      rw [List.length_set] at hl
      rw [List.getElem?_set_self hl] at e4
      exact (Option.some.inj e4).symm
    subst hw
    refine Pr_ifc (t := 48) hj rfl rfl (fun h0 => ?_) (fun h0 => ?_)
    · have h0 : z = 0 := h0
      subst h0
      refine Pr_ld 49 hj rfl rfl rfl rfl ?_
      refine Pr_gfV hj rfl (by decide) rfl (hV_Fr f2 k1) ?_
      refine Pr_ld 53 hj rfl rfl rfl rfl ?_
      refine Pr_gfV hj rfl (by decide) rfl (hV_Fr f2 k2) ?_
      refine Pr_callV rfl (Or.inl ⟨_, rfl⟩) rfl rfl (PCM_and (sp_copyFrom 35 41 aw2) (sp_copyRows 35 41 aw2)) (fun res3 h3 => ?_)
      obtain ⟨h3, h3r⟩ := h3
      refine Pr_ld 60 hj rfl rfl rfl rfl ?_
      refine Pr_gfV hj rfl (by decide) rfl (cf_old h3 (fun q => by omega) (hV_Fr f2 k3)) ?_
      refine Pr_callV rfl (Or.inl ⟨_, rfl⟩) rfl rfl (PCM_and (sp_forget2 47 res3.2) (sp_forget3 47 res3.2)) (fun res4 h4 => ?_)
      obtain ⟨h4, h4c⟩ := h4
      refine Pr_ld 67 hj rfl rfl rfl rfl ?_
      refine Pr_pure hj rfl (evn rfl) (fun BC BS kc ks o' he => (Option.some.inj he).symm) ?_
      refine Pr_pfC hj rfl (fun vs ev => ?_)
      refine Pr_ld 72 hj rfl rfl rfl rfl ?_
      refine Pr_ret rfl (Or.inl rfl) ⟨_, aw1, hq, hd, Or.inr ⟨hz, aw2, res3.2, res4.2, f2, q2, h3, h3r, h4.1, h4.2, Fr_set ev (kp_put rfl), K0_set ev (fun n d ov q => by cases q), fun y y0 y1 y35 y47 y6 => by rw [List.getElem?_set_ne (Ne.symm y0), h4c y y47, h3r.1 y y35 y6, hce y y0 y1]⟩⟩
    · have h0 : ¬ z = 0 := h0
      refine Pr_cst 39 hj rfl rfl rfl ?_
      refine Pr_ld 40 hj rfl rfl rfl rfl ?_
      refine Pr_gfV hj rfl (by decide) rfl (hV_Fr f2 k0) ?_
      refine Pr_gf hj rfl (by decide) (fun vs w e5 e6 => ?_)
      refine Pr_step hj rfl (evn rfl) (fun kc ks o' hs => ?_)
      have hh : o'.2.2.2.1 = aw2 := (tStep hs).2.2 rfl
      have hpc : o'.1 = 47 := by
        have := (tStep hs).1 (fun t => Nat.beq t 47) rfl
        exact rv_beq this
      rw [hpc, hh]
      exact Pr_ret rfl (Or.inl rfl) ⟨_, aw1, hq, hd, Or.inl ⟨z, hz, h0, f2, q2⟩⟩
  exact key 0 0
