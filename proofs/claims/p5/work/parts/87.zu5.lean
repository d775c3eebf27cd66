/-! The fault at the loop's head (by hand). -/
def HFk (aw : rvH) : Prop := ∃ v : Int, FB 0 11 14 v aw ∧ FB 109 12 15 v aw
/-- a slot that isn't written -/
def ghAt (ms : List Nat) (g j : Nat) : Bool := match ms with
  | a :: lo :: hi :: t => !(Nat.beq g a && (Nat.ble lo j && Nat.ble j hi)) && ghAt t g j
  | _ => true
theorem ghAt_ok {g j : Nat} : ∀ (ms : List Nat), ghAt ms g j = true → ¬ xInM ms g j
  | [], _, h => h
  | [_], _, h => h
  | [_, _], _, h => h
  | a :: lo :: hi :: t, hn, h => by
    have hn : (!(Nat.beq g a && (Nat.ble lo j && Nat.ble j hi)) && ghAt t g j) = true := hn
    obtain ⟨n1, n2⟩ := rv_and hn
    have h : (g = a ∧ lo ≤ j ∧ j ≤ hi) ∨ xInM t g j := h
    rcases h with ⟨e, e1, e2⟩ | h
    · subst e
      rw [Nat.beq_refl, Nat.ble_eq_true_of_le e1, Nat.ble_eq_true_of_le e2] at n1
      cases n1
    · exact ghAt_ok t n2 h
theorem fr_FB {T pl T1 pl1 ms : List Nat} {aw aw1 : rvH} (h : gS T pl aw) (hf : lwFr ms T pl aw T1 pl1 aw1) {k ci f x : Nat} {v : Int} (hk : k < 52) (hx : pl[k]? = some x) (ht : ∃ ft, xRgn (60 + k) = .inl (ci, ft)) (hm : ghAt ms (60 + k) f = true) (hv : FB x ci f v aw) : FB x ci f v aw1 := by
  obtain ⟨ft, ht⟩ := ht
  obtain ⟨i, c, h1, h2, h3⟩ := h.1 k hk
  rw [hx] at h1
  have e := Option.some.inj h1
  subst e
  obtain ⟨c0, d1, d2⟩ := gh_at h h2
  rw [h3] at d1
  have d1 := Option.some.inj d1
  subst d1
  rw [ht] at d2
  obtain ⟨c', e1, e2⟩ := hf.2.2 x _ c h2 h3
  intro fs z q1 q2
  rw [e1] at q1
  have q1 := Option.some.inj q1
  subst q1
  have q3 : xSlot c f = some (pt z) := by rw [← e2 f (ghAt_ok ms hm)]; exact q2
  rcases c with ⟨ci0, gs⟩ | ⟨q, n, d, ov⟩
  · have hc : ci = ci0 := d2.1
    subst hc
    exact hv gs z h3 q3
  · exact absurd d2 id
theorem fr_F0 {T pl T1 pl1 ms : List Nat} {aw aw1 : rvH} (hp : pl = rzPl) (h : gS T pl aw) (hf : lwFr ms T pl aw T1 pl1 aw1) {v : Int} (hm : ghAt ms 60 14 = true) (hv : FB 0 11 14 v aw) : FB 0 11 14 v aw1 := fr_FB h hf (k := 0) (by omega) (by rw [hp]; rfl) ⟨_, rfl⟩ hm hv
theorem fr_F29 {T pl T1 pl1 ms : List Nat} {aw aw1 : rvH} (hp : pl = rzPl) (h : gS T pl aw) (hf : lwFr ms T pl aw T1 pl1 aw1) {v : Int} (hm : ghAt ms 89 15 = true) (hv : FB 109 12 15 v aw) : FB 109 12 15 v aw1 := fr_FB h hf (k := 29) (by omega) (by rw [hp]; rfl) ⟨_, rfl⟩ hm hv
def fkNo (ms : List Nat) : Bool := ghAt ms 60 14 && ghAt ms 89 15
theorem HFk_turn {T pl T1 pl1 ms : List Nat} {aw aw1 : rvH} (hp : pl = rzPl) (h : gS T pl aw) (hf : lwFr ms T pl aw T1 pl1 aw1) (hm : fkNo ms = true) (hv : HFk aw) : HFk aw1 := by
  obtain ⟨m1, m2⟩ := rv_and hm
  obtain ⟨v, v1, v2⟩ := hv
  exact ⟨v, fr_F0 hp h hf m1 v1, fr_F29 hp h hf m2 v2⟩
/-- fault() -/
theorem sp_faultX {aw : rvH} {v : Int} (hx : exH aw) (h : FB 0 11 14 v aw) : PCM rvTab rvInf rvRet 316 rvMth 237 [rf 0] aw (fun res => res.1 = some (pt v) ∧ res.2 = aw) := by
  have hj : 237 < 316 := by decide
  refine PCM_of (fun _ _ => ?_)
  have key : Pr rvTab rvInf rvRet 316 rvMth 237 (fun res => res.1 = some (pt v) ∧ res.2 = aw) 0 [rf 0] [] aw := by
    refine Pr_ld 1 hj rfl rfl rfl rfl ?_
    refine Pr_gf hj rfl (by decide) (fun fs w e1 e2 => ?_)
    obtain ⟨z, rfl, hz⟩ := int_fld hx e1 e2 rfl
    have e := h fs z e1 e2
    subst e
    exact Pr_ret rfl (Or.inl rfl) ⟨rfl, rfl⟩
  exact key 0 0
theorem sp_faultM {aw : rvH} {v : Int} (hx : exH aw) (h : FB 109 12 15 v aw) : PCM rvTab rvInf rvRet 316 rvMth 238 [rf 109] aw (fun res => res.1 = some (pt v)) := by
  have hj : 238 < 316 := by decide
  refine PCM_of (fun _ _ => ?_)
  have key : Pr rvTab rvInf rvRet 316 rvMth 238 (fun res => res.1 = some (pt v)) 0 [rf 109] [] aw := by
    refine Pr_ld 1 hj rfl rfl rfl rfl ?_
    refine Pr_cst 2 hj rfl rfl rfl ?_
    refine Pr_pfC hj rfl (fun fs e => ?_)
    refine Pr_ld 6 hj rfl rfl rfl rfl ?_
    refine Pr_gf hj rfl (by decide) (fun gs w e1 e2 => ?_)
    rw [List.getElem?_set_self (List.getElem?_eq_some_iff.mp e).1] at e1
    have e1 := (Prod.mk.inj (Sum.inl.inj (Option.some.inj e1))).2
    subst e1
    rw [List.getElem?_set_ne (by omega)] at e2
    obtain ⟨z, rfl, hz⟩ := int_fld hx e e2 rfl
    have e9 := h fs z e e2
    subst e9
    exact Pr_ret rfl (Or.inl rfl) rfl
  exact key 0 0
/-- book() with other numbers than 0 and 1 -/
theorem sp_bookXn {aw : rvH} {k : Int} (h0 : ¬ k = 0) (h1 : ¬ k = 1) : PCM rvTab rvInf rvRet 316 rvMth 303 [rf 0, pt k] aw (fun res => res.2 = aw) := by
  have hj : 303 < 316 := by decide
  refine PCM_of (fun _ _ => ?_)
  have key : Pr rvTab rvInf rvRet 316 rvMth 303 (fun res => res.2 = aw) 0 [rf 0, pt k, rvU, rvU] [] aw := by
    refine Pr_ld 1 hj rfl rfl rfl rfl ?_
    refine Pr_ifc (t := 13) hj rfl rfl (fun q => absurd q h0) (fun _ => ?_)
    refine Pr_ld 5 hj rfl rfl rfl rfl ?_
    refine Pr_cst 6 hj rfl rfl rfl ?_
    refine Pr_icmp (t := 13) hj rfl rfl (fun q => absurd q h1) (fun _ => ?_)
    refine Pr_cst 12 hj rfl rfl rfl ?_
    exact Pr_ret rfl (Or.inl rfl) rfl
  exact key 0 0
theorem sp_bookMn {aw : rvH} {k v : Int} (h0 : ¬ k = 0) (h1 : ¬ k = 1) (h' : FB 0 11 14 v aw) (h : FB 109 12 15 v aw) : PCM rvTab rvInf rvRet 316 rvMth 90 [rf 109, pt k] aw (fun res => FB 0 11 14 v res.2 ∧ FB 109 12 15 v res.2) := by
  have hj : 90 < 316 := by decide
  refine PCM_of (fun _ _ => ?_)
  have key : Pr rvTab rvInf rvRet 316 rvMth 90 (fun res => FB 0 11 14 v res.2 ∧ FB 109 12 15 v res.2) 0 [rf 109, pt k, rvU, rvU] [] aw := by
    refine Pr_ld 1 hj rfl rfl rfl rfl ?_
    refine Pr_cst 2 hj rfl rfl rfl ?_
    refine Pr_pfC hj rfl (fun fs e => ?_)
    refine Pr_ld 6 hj rfl rfl rfl rfl ?_
    refine Pr_cst 7 hj rfl rfl rfl ?_
    refine Pr_cst 8 hj rfl rfl rfl ?_
    refine Pr_callS rfl rfl rfl rfl (sp_isInM k 0 1 _) (fun res hres => ?_)
    obtain ⟨r1, r2⟩ := hres
    rw [r1, r2]
    have ez : (if k < 0 then (0 : Int) else if 1 < k then 0 else 1) = 0 := by
      by_cases q : k < 0
      · rw [if_pos q]
      · rw [if_neg q, if_pos (by omega)]
    rw [ez]
    refine Pr_ifc (t := 18) hj rfl rfl (fun q => absurd rfl q) (fun _ => ?_)
    refine Pr_cst 17 hj rfl rfl rfl ?_
    refine Pr_ret rfl (Or.inl rfl) ⟨fun gs z e1 e2 => ?_, fun gs z e1 e2 => ?_⟩
    · rw [List.getElem?_set_ne (by omega)] at e1
      exact h' gs z e1 e2
    rw [List.getElem?_set_self (List.getElem?_eq_some_iff.mp e).1] at e1
    have e1 := (Prod.mk.inj (Sum.inl.inj (Option.some.inj e1))).2
    subst e1
    rw [List.getElem?_set_ne (by omega)] at e2
    exact h fs z e e2
  exact key 0 0
/-- the class's district: its fault -/
theorem sp_districtF {aw : rvH} {v : Int} (hc : HC aw) (hl : 103 < aw.length) (h17 : PCM rvTab rvInf rvRet 316 rvMth 17 [rf 11, rf 41] aw (fun res => ((∃ n, res.1 = some (pt n)) ∧ exH res.2) ∧ ∀ z, hI res.2 1 13 z → z = v)) : PCM rvTab rvInf rvRet 316 rvMth 235 [rf 0] aw (fun res => FB 0 11 14 v res.2) := by
  have hj : 235 < 316 := by decide
  refine PCM_of (fun _ _ => ?_)
  have c0 := hc (0, 0, 1) (by decide)
  have c2 := hc (0, 2, 41) (by decide)
  have c7 := hc (0, 7, 11) (by decide)
  have key : Pr rvTab rvInf rvRet 316 rvMth 235 (fun res => FB 0 11 14 v res.2) 0 [rf 0, rvU] [] aw := by
    refine Pr_ld 1 hj rfl rfl rfl rfl ?_
    refine Pr_gfV hj rfl (by decide) rfl c7 ?_
    refine Pr_ld 5 hj rfl rfl rfl rfl ?_
    refine Pr_gfV hj rfl (by decide) rfl c2 ?_
    refine Pr_callV rfl (Or.inl ⟨_, rfl⟩) rfl rfl (PCM_and h17 (sp_readX 11 41 aw (by omega) (by omega) (by decide))) (fun res hres => ?_)
    obtain ⟨r1, aw1⟩ := res
    obtain ⟨⟨⟨⟨n, hn⟩, hx⟩, hq⟩, hd⟩ := hres
    have hn : r1 = some (pt n) := hn
    subst hn
    have hx : exH aw1 := hx
    have hq : ∀ z, hI aw1 1 13 z → z = v := hq
    have hd : RDp 11 41 aw aw1 := hd
    have k0 : hV aw1 0 0 (rf 1) := hd.1 _ _ _ (by omega) (by omega) (by omega) c0
    refine Pr_st 12 [rf 0, pt n] (k := 1) hj rfl (Or.inr (Or.inr (Or.inl ⟨_, rfl, rfl, rfl⟩))) rfl ?_
    refine Pr_ld 13 hj rfl rfl rfl rfl ?_
    refine Pr_ld 14 hj rfl rfl rfl rfl ?_
    refine Pr_gfV hj rfl (by decide) rfl k0 ?_
    refine Pr_gf hj rfl (by decide) (fun fs w e1 e2 => ?_)
    obtain ⟨z, rfl, hz⟩ := int_fld hx e1 e2 rfl
    refine Pr_pfC hj rfl (fun xs ex => ?_)
    have hl0 := (List.getElem?_eq_some_iff.mp ex).1
    have fb : FB 0 11 14 v (aw1.set 0 (.inl (11, xs.set 14 (pt z)))) := fun gs z' q1 q2 => by
      rw [List.getElem?_set_self hl0] at q1
      have q1 := (Prod.mk.inj (Sum.inl.inj (Option.some.inj q1))).2
      subst q1
      have hl := (List.getElem?_eq_some_iff.mp q2).1
      rw [List.length_set] at hl
      rw [List.getElem?_set_self hl] at q2
      have q2 : z = z' := (Prod.mk.inj (Sum.inl.inj (Option.some.inj q2))).1
      rw [← q2]
      exact hq z hz
    exact kl_run klX_all dsX_row dsX_nx (fun r aw' hk => FB_KL fb (by rw [List.length_set]; exact hl0) hk)
  exact key 0 0
theorem c2_FX {r : List Int} {T pl : List Nat} {aw : rvH} (h : lwInv r T pl aw) (hP : PI pl aw) (hp : pl = rzPl) (hT : HT aw) {g : Nat → Nat} {kL : Nat} {r0 : Int × hH} (hg : GHOK T pl aw g kL) (hr0 : f_X1_read 941 (ghH g aw ((0, 1, kL) :: ghR0) 60) = some r0) : PCM rvTab rvInf rvRet 316 rvMth 235 [rf 0] aw (fun res => FB 0 11 14 (r0.2.1 4 13) res.2) := by
  have hS := gS_inv h
  obtain ⟨hkn, t0, hF, hTC, hIm⟩ := hT
  obtain ⟨g0, g13, g52, gL, g4, g31⟩ := g_at (r := r) hS hp hF hg
  obtain ⟨q0, q0', a1, a2, a3, a4, a5, a6⟩ := rd_g h hP hg hg.hi (fun n _ => rfl)
  have e : r0 = q0 := by rw [hr0] at a1; exact Option.some.inj a1
  subst e
  rw [g13, g52] at a6
  obtain ⟨tb, ib1, ib2⟩ := hIm 1 (by omega)
  have hlen : 103 < aw.length := by
    have := hV_lt ib1
    unfold ti2 at this
    omega
  refine sp_districtF hF.1 hlen (PCM_mono (fun res hres => ⟨⟨⟨_, hres.1.1⟩, hres.2.2⟩, fun z hz => (hres.1.2.2.1 4 13 z (by rw [g4]; exact hz)).symm⟩) (PCM_and a6 (PCM_ex jw (fun v hv => by
    rcases List.mem_cons.mp hv with e | hv
    · rw [e]; trivial
    · rw [List.mem_singleton.mp hv]; trivial) hP.1)))
theorem cM_fault {r : List Int} {T pl : List Nat} {aw : rvH} {g : Nat → Nat} {kL : Nat} {r0 : Int × hH} (h : lwInv r T pl aw) (hP : PI pl aw) (hp : pl = rzPl) (hg : GHOK T pl aw g kL) (hr0 : f_X1_read 941 (ghH g aw ((0, 1, kL) :: ghR0) 60) = some r0) (T1 : List Nat) (aw1 : rvH) (ms : List Nat) (hS1 : gS T1 pl aw1) (hx1 : exH aw1) (hf : lwFr ms T pl aw T1 pl aw1) (m29 : ghNo ms 89 = true) (m30 : ghNo ms 90 = true) (m35 : ghNo ms 95 = true) : PCM rvTab rvInf rvRet 316 rvMth 24 [rf 109] aw1 (fun res => FB 109 12 15 (r0.2.1 4 13) res.2) := by
  have hS := gS_inv h
  obtain ⟨hx, hw5, hw8, hby⟩ := hP
  obtain ⟨N, n1, n2, n3⟩ := gh_size h
  have hR := gh_H hg hx
  have hpk := hg.hp
  have hN60 : ∀ a, 60 ≤ a → aw.length ≤ g a := fun a ha => by rw [hg.hn a ha]; omega
  have e5 : pd_hW5 (ghH g aw ((0, 1, kL) :: ghR0) 60) := fun i hi => hw5 (g 6) i (hpk 6 (by omega)) hi
  have ez : ∀ a b, 60 ≤ a → (ghH g aw ((0, 1, kL) :: ghR0) 60).1 a b = 0 := fun a b ha => (hR.2.2.2.2.2.1 a b (hN60 a ha)).1
  obtain ⟨g1, kL1, hg1⟩ := gh_mk hS1
  have hp1 := hg1.hp
  obtain ⟨q0, q0', a1, a2, a3⟩ := pd_qDistrictF (K := ghH g1 aw1 ((0, 1, kL1) :: ghR0) 60) (B := fun i => ghI aw (g 5) i) n1 (fun i => gh_by hS (hpk 5 (by omega)) i) (fun i => rfl) (n2 _ (hpk 4 (by omega))) e5 ez (fun i => by
    show ghI aw1 (g1 30) i = ghI aw (g 5) i
    rw [fr_ghI hS hf (k := 30) (by omega) m30 (hp1 30 (by omega))]
    exact (hby _ _ (hpk 5 (by omega)) (hp1 30 (by omega)) i).symm) (by
    show ghI aw1 (g1 29) 2 = (N : Int)
    rw [fr_ghI hS hf (k := 29) (by omega) m29 (hp1 29 (by omega))]
    exact n3 _ (hp1 29 (by omega))) (fun i hi => by
    show ghL aw1 (g1 35) i = _
    rw [fr_ghL hS hf (k := 35) (by omega) m35 (hp1 35 (by omega))]
    exact hw8 _ i (hp1 35 (by omega)) hi)
  have eq : r0 = q0 := by rw [hr0] at a1; exact Option.some.inj a1
  subst eq
  have hR1 := gh_H hg1 hx1
  have g29 : g1 29 = 109 := by
    have := hp1 29 (by omega)
    rw [hp] at this
    exact (Option.some.inj this).symm
  have g31 : g1 31 = 111 := by
    have := hp1 31 (by omega)
    rw [hp] at this
    exact (Option.some.inj this).symm
  have hsp := sp_X12_district (g := g1) 941 _ (gh_RM g1 aw1 kL1) a2 aw1 hR1 (exL_2 _)
  rw [g29] at hsp
  refine PCM_mono (fun res hres => ?_) hsp
  have := RH_FB (k := 29) (ci := 12) (f := 15) hres.2
  rw [g29, ← a3] at this
  exact this
theorem c40_FM {r : List Int} {T pl : List Nat} {aw : rvH} (h : lwInv r T pl aw) (hP : PI pl aw) (hp : pl = rzPl) (hT : HT aw) (hN : HN aw) : ∃ v : Int, (∀ x0, pl[0]? = some x0 → PCM rvTab rvInf rvRet 316 rvMth 307 [.inr (2, x0)] aw (fun res => FB x0 11 14 v res.2)) ∧ ∀ (T1 : List Nat) (aw1 : rvH) (ms : List Nat), gS T1 pl aw1 → exH aw1 → lwFr ms T pl aw T1 pl aw1 → ghNo ms 89 = true → ghNo ms 90 = true → ghNo ms 91 = true → ghNo ms 94 = true → ghNo ms 95 = true → ∀ y0, pl[29]? = some y0 → PCM rvTab rvInf rvRet 316 rvMth 121 [.inr (2, y0)] aw1 (fun res => FB y0 12 15 v res.2) := by
  have hS := gS_inv h
  obtain ⟨hx, hw5, hw8, hby⟩ := hP
  obtain ⟨N, n1, n2, n3⟩ := gh_size h
  obtain ⟨hk, t0, hF, hTC, hIm⟩ := hT
  obtain ⟨⟨t1, u1, nr, u2, u3⟩, -⟩ := hN
  have et1 : t1 = t0 := rf_inj (hV_one u1 hF.2.2.2.2.1)
  subst et1
  obtain ⟨h10, c, m, x, v0, v2, v3, c1, c2, c3⟩ := hTC
  obtain ⟨g, gi, gn, gp, g52, g53, g54, g56⟩ := gs_mk hp hS hk hF h10 v0 u2
  have hq : ∀ {k x : Nat}, rzPl[k]? = some x → k < 52 → g k = x := fun e hk => by
    have := gp _ hk
    rw [hp, e] at this
    exact (Option.some.inj this).symm
  have g0 : g 0 = 0 := hq rfl (by omega)
  have hR : RH g aw (ghH g aw gsR 60) := by
    refine ghH_ok hx ?_ (by rw [gn 60 (by omega)]; omega) gi
    have vv : ∀ {p j k i y : Nat}, j ≠ 1000 → g p = i → g k = y → hV aw i j (rf y) → hK g aw p j k := by
      intro p j k i y hj e1 e2 hh
      unfold hK
      rw [if_neg hj, e1, e2]; exact hV_R hh
    unfold gsR
    simp only [List.forall_mem_cons]
    refine ⟨st_K hS gp (by omega) (by omega) (by omega) rfl, vv (by omega) g0 g56 (hF.1 (0, 1, 35) (by decide)), st_K hS gp (by omega) (by omega) (by omega) rfl, st_K hS gp (by omega) (by omega) (by omega) rfl, st_K hS gp (by omega) (by omega) (by omega) rfl, st_K hS gp (by omega) (by omega) (by omega) rfl, st_K hS gp (by omega) (by omega) (by omega) rfl, st_K hS gp (by omega) (by omega) (by omega) rfl, st_K hS gp (by omega) (by omega) (by omega) rfl, st_K hS gp (by omega) (by omega) (by omega) rfl, vv (by omega) g56 g52 u1, vv (by omega) g52 g53 v0, vv (by omega) g52 g54 u2, fun q hq => by cases hq⟩
  have e5 : pd_hW5 (ghH g aw gsR 60) := fun i hi => hw5 (g 6) i (gp 6 (by omega)) hi
  have key : ∀ (T1 : List Nat) (aw1 : rvH) (ms : List Nat) (g1 : Nat → Nat), gS T1 pl aw1 → (∀ k, k < 52 → pl[k]? = some (g1 k)) → lwFr ms T pl aw T1 pl aw1 → ghNo ms 89 = true → ghNo ms 90 = true → ghNo ms 91 = true → ghNo ms 94 = true → ghNo ms 95 = true → ∃ k r, f_X12_sentence k (ghH g1 aw1 gmR 60) = some r ∧ r.1 = (f_X11_sentence (ghH g aw gsR 60)).1 ∧ r.2.1 29 15 = (f_X11_sentence (ghH g aw gsR 60)).2.1 0 14 := by
    intro T1 aw1 ms g1 hS1 hp1 hf m29 m30 m31 m34 m35
    have q31 : g1 31 = 111 := by
      have := hp1 31 (by omega)
      rw [hp] at this
      exact (Option.some.inj this).symm
    have q34 : g1 34 = 114 := by
      have := hp1 34 (by omega)
      rw [hp] at this
      exact (Option.some.inj this).symm
    refine pSentence (B := fun i => ghI aw (g 5) i) n1 (fun i => gh_by hS (gp 5 (by omega)) i) (fun i => rfl) (n2 _ (gp 4 (by omega))) e5 (fun i => ?_) ?_ (fun i hi => ?_) (fun s hs => ?_)
    · show ghI aw1 (g1 30) i = ghI aw (g 5) i
      rw [fr_ghI hS hf (k := 30) (by omega) m30 (hp1 30 (by omega))]
      exact (hby _ _ (gp 5 (by omega)) (hp1 30 (by omega)) i).symm
    · show ghI aw1 (g1 29) 2 = (N : Int)
      rw [fr_ghI hS hf (k := 29) (by omega) m29 (hp1 29 (by omega))]
      exact n3 _ (hp1 29 (by omega))
    · show ghL aw1 (g1 35) i = _
      rw [fr_ghL hS hf (k := 35) (by omega) m35 (hp1 35 (by omega))]
      exact hw8 _ i (hp1 35 (by omega)) hi
    · obtain ⟨n, b1, b2, b3⟩ := u3 s hs
      refine ⟨n, b1, ?_, ?_, fun i hi => ?_⟩
      · show ghI aw (g 53) s = _
        rw [g53, c1 s hs]; exact b2
      · show ghI aw1 (g1 31) s = _
        rw [fr_ghI hS hf (k := 31) (by omega) m31 (hp1 31 (by omega)), q31]; exact b2
      · obtain ⟨r, r1, r2, r3⟩ := b3 i hi
        refine ⟨r, r1, ?_, ?_⟩
        · show ghL aw (g 54) _ = _
          rw [g54]; exact r2
        · show ghL aw1 (g1 34) _ = _
          rw [fr_ghL hS hf (k := 34) (by omega) m34 (hp1 34 (by omega)), q34]; exact r3
  refine ⟨(f_X11_sentence (ghH g aw gsR 60)).2.1 0 14, fun x0 hx0 => ?_, fun T1 aw1 ms hS1 hx1 hf m29 m30 m31 m34 m35 y0 hy0 => ?_⟩
  · have e0 : x0 = g 0 := by have := gp 0 (by omega); rw [hx0] at this; exact Option.some.inj this
    subst e0
    have hsp := sp_X11_sentence (g := g) (ghH g aw gsR 60) rfl (fun n hn => by rw [gn n hn, gn (n + 1) (by omega)]; omega) (gs_RZ g aw) aw hR (exL_2 _)
    exact fun P hE => EvM_mono (fun res hres => ⟨hres.1, RH_FB (k := 0) hres.2.2⟩) (hsp P hE)
  · obtain ⟨g1, kL1, hg1⟩ := gh_mk hS1
    have e0 : y0 = g1 29 := by have := hg1.hp 29 (by omega); rw [hy0] at this; exact Option.some.inj this
    subst e0
    obtain ⟨k, r, b1, -, b2⟩ := key T1 aw1 ms g1 hS1 hg1.hp hf m29 m30 m31 m34 m35
    have hR1 : RH g1 aw1 (ghH g1 aw1 gmR 60) := by
      refine ghH_ok hx1 ?_ (by rw [hg1.hn 60 (by omega)]; omega) hg1.hi
      unfold gmR
      simp only [List.forall_mem_cons]
      exact ⟨st_K hS1 hg1.hp (by omega) (by omega) (by omega) rfl, st_K hS1 hg1.hp (by omega) (by omega) (by omega) rfl, st_K hS1 hg1.hp (by omega) (by omega) (by omega) rfl, st_K hS1 hg1.hp (by omega) (by omega) (by omega) rfl, st_K hS1 hg1.hp (by omega) (by omega) (by omega) rfl, st_K hS1 hg1.hp (by omega) (by omega) (by omega) rfl, st_K hS1 hg1.hp (by omega) (by omega) (by omega) rfl, fun q hq => by cases hq⟩
    have hsp := sp_X12_sentence (g := g1) k _ (gm_RMs g1 aw1) b1 aw1 hR1 (exL_2 _)
    rw [← b2]
    exact fun P hE => EvM_mono (fun res hres => ⟨hres.1, RH_FB (k := 29) hres.2.2⟩) (hsp P hE)
def gsB : List (Nat × Nat × Nat) := [(0, 0, 4), (0, 1, 56), (0, 9, 15), (4, 0, 5), (4, 1, 6), (4, 3, 7), (4, 4, 8), (4, 5, 9), (4, 6, 10), (15, 0, 16), (15, 1, 17), (15, 2, 18), (56, 0, 52), (52, 0, 53), (52, 1, 54)]
theorem gs_RY (g : Nat → Nat) (aw : rvH) : RY (ghH g aw gsB 60).2.2.1 := by
  unfold RY ryL rbL rtL
  simp only [List.cons_append, List.nil_append, List.forall_mem_cons]
  refine ⟨?_, ?_, ?_, ?_, ?_, ?_, ?_, ?_, ?_, ?_, ?_, ?_, ?_, ?_, ?_, fun q hq => by cases hq⟩ <;> rfl
theorem exL_3 (x : Nat) {a : Int} (h : xIn32 a) : exL [rf x, pt a] := fun v hv => by
  rcases List.mem_cons.mp hv with e | hv
  · rw [e]; trivial
  · rw [List.mem_singleton.mp hv]; exact ⟨rfl, h⟩
theorem bkTailX_ok (g : Nat → Nat) : bkTailX g := fun a1 a2 H hr aw kc ks hR _ _ => by
  have hl : g 0 < aw.length := by
    have hk := hR.2.2.2.1 0 0 4 (RYa (p := 0) (f := 0) (k := 4) hr rfl)
    unfold hK at hk
    rw [if_neg (by omega)] at hk
    obtain ⟨c, e, -⟩ := hk
    exact (List.getElem?_eq_some_iff.mp e).1
  exact kl_run klX_all bkX_row bkX_nx (fun r aw' hk => FB_KL (RH_FB hR) hl hk) kc ks
theorem bkTail_ok (g : Nat → Nat) : bkTail g := fun a1 H hr aw kc ks hR _ _ => by
  have hl : g 29 < aw.length := by
    have hk := hR.2.2.2.1 29 45 46 hr.2
    unfold hK at hk
    rw [if_neg (by omega)] at hk
    obtain ⟨c, e, -⟩ := hk
    exact (List.getElem?_eq_some_iff.mp e).1
  exact kl_run klM_all bkM_row bkM_nx (fun r aw' hk => FB_KL (RH_FB hR) hl hk) kc ks
theorem c38_FM {r : List Int} {T pl : List Nat} {aw : rvH} (h : lwInv r T pl aw) (hP : PI pl aw) (hp : pl = rzPl) (hT : HT aw) (hN : HN aw) {a1 : Int} (ha : a1 = 0 ∨ a1 = 1) (ha32 : xIn32 a1) : ∃ v : Int, (∀ x0, pl[0]? = some x0 → PCM rvTab rvInf rvRet 316 rvMth 303 [.inr (2, x0), pt a1] aw (fun res => FB x0 11 14 v res.2)) ∧ ∀ (T1 : List Nat) (aw1 : rvH) (ms : List Nat), gS T1 pl aw1 → exH aw1 → lwFr ms T pl aw T1 pl aw1 → ghNo ms 89 = true → ghNo ms 90 = true → ghNo ms 91 = true → ghNo ms 94 = true → ghNo ms 95 = true → ∀ y0, pl[29]? = some y0 → PCM rvTab rvInf rvRet 316 rvMth 90 [.inr (2, y0), pt a1] aw1 (fun res => FB y0 12 15 v res.2) := by
  have hS := gS_inv h
  obtain ⟨hx, hw5, hw8, hby⟩ := hP
  obtain ⟨N, n1, n2, n3⟩ := gh_size h
  obtain ⟨hk, t0, hF, hTC, hIm⟩ := hT
  obtain ⟨⟨t1, u1, nr, u2, u3⟩, -⟩ := hN
  have et1 : t1 = t0 := rf_inj (hV_one u1 hF.2.2.2.2.1)
  subst et1
  obtain ⟨h10, c, m, x, v0, v2, v3, c1, c2, c3⟩ := hTC
  obtain ⟨g, gi, gn, gp, g52, g53, g54, g56⟩ := gs_mk hp hS hk hF h10 v0 u2
  have hq : ∀ {k x : Nat}, rzPl[k]? = some x → k < 52 → g k = x := fun e hk => by
    have := gp _ hk
    rw [hp, e] at this
    exact (Option.some.inj this).symm
  have g0 : g 0 = 0 := hq rfl (by omega)
  have hR : RH g aw (ghH g aw gsB 60) := by
    refine ghH_ok hx ?_ (by rw [gn 60 (by omega)]; omega) gi
    have vv : ∀ {p j k i y : Nat}, j ≠ 1000 → g p = i → g k = y → hV aw i j (rf y) → hK g aw p j k := by
      intro p j k i y hj e1 e2 hh
      unfold hK
      rw [if_neg hj, e1, e2]; exact hV_R hh
    unfold gsB
    simp only [List.forall_mem_cons]
    refine ⟨st_K hS gp (by omega) (by omega) (by omega) rfl, vv (by omega) g0 g56 (hF.1 (0, 1, 35) (by decide)), st_K hS gp (by omega) (by omega) (by omega) rfl, st_K hS gp (by omega) (by omega) (by omega) rfl, st_K hS gp (by omega) (by omega) (by omega) rfl, st_K hS gp (by omega) (by omega) (by omega) rfl, st_K hS gp (by omega) (by omega) (by omega) rfl, st_K hS gp (by omega) (by omega) (by omega) rfl, st_K hS gp (by omega) (by omega) (by omega) rfl, st_K hS gp (by omega) (by omega) (by omega) rfl, st_K hS gp (by omega) (by omega) (by omega) rfl, st_K hS gp (by omega) (by omega) (by omega) rfl, vv (by omega) g56 g52 u1, vv (by omega) g52 g53 v0, vv (by omega) g52 g54 u2, fun q hq => by cases hq⟩
  have e5 : pd_hW5 (ghH g aw gsB 60) := fun i hi => hw5 (g 6) i (gp 6 (by omega)) hi
  have key : ∀ (T1 : List Nat) (aw1 : rvH) (ms : List Nat) (g1 : Nat → Nat), gS T1 pl aw1 → (∀ k, k < 52 → pl[k]? = some (g1 k)) → lwFr ms T pl aw T1 pl aw1 → ghNo ms 89 = true → ghNo ms 90 = true → ghNo ms 91 = true → ghNo ms 94 = true → ghNo ms 95 = true → ∃ k r, f_X12_book k (ghH g1 aw1 gmR 60) = some r ∧ r.1 29 15 = (f_X0_read (ghH g aw gsB 60)).2.1 4 13 := by
    intro T1 aw1 ms g1 hS1 hp1 hf m29 m30 m31 m34 m35
    have q31 : g1 31 = 111 := by
      have := hp1 31 (by omega)
      rw [hp] at this
      exact (Option.some.inj this).symm
    have q34 : g1 34 = 114 := by
      have := hp1 34 (by omega)
      rw [hp] at this
      exact (Option.some.inj this).symm
    refine pBook (B := fun i => ghI aw (g 5) i) n1 (fun i => gh_by hS (gp 5 (by omega)) i) (fun i => rfl) (n2 _ (gp 4 (by omega))) e5 (fun i => ?_) ?_ (fun i hi => ?_) (fun s hs => ?_)
    · show ghI aw1 (g1 30) i = ghI aw (g 5) i
      rw [fr_ghI hS hf (k := 30) (by omega) m30 (hp1 30 (by omega))]
      exact (hby _ _ (gp 5 (by omega)) (hp1 30 (by omega)) i).symm
    · show ghI aw1 (g1 29) 2 = (N : Int)
      rw [fr_ghI hS hf (k := 29) (by omega) m29 (hp1 29 (by omega))]
      exact n3 _ (hp1 29 (by omega))
    · show ghL aw1 (g1 35) i = _
      rw [fr_ghL hS hf (k := 35) (by omega) m35 (hp1 35 (by omega))]
      exact hw8 _ i (hp1 35 (by omega)) hi
    · obtain ⟨n, b1, b2, b3⟩ := u3 s hs
      refine ⟨n, b1, ?_, ?_, fun i hi => ?_⟩
      · show ghI aw (g 53) s = _
        rw [g53, c1 s hs]; exact b2
      · show ghI aw1 (g1 31) s = _
        rw [fr_ghI hS hf (k := 31) (by omega) m31 (hp1 31 (by omega)), q31]; exact b2
      · obtain ⟨r, r1, r2, r3⟩ := b3 i hi
        refine ⟨r, r1, ?_, ?_⟩
        · show ghL aw (g 54) _ = _
          rw [g54]; exact r2
        · show ghL aw1 (g1 34) _ = _
          rw [fr_ghL hS hf (k := 34) (by omega) m34 (hp1 34 (by omega)), q34]; exact r3
  refine ⟨(f_X0_read (ghH g aw gsB 60)).2.1 4 13, fun x0 hx0 => ?_, fun T1 aw1 ms hS1 hx1 hf m29 m30 m31 m34 m35 y0 hy0 => ?_⟩
  · have e0 : x0 = g 0 := by have := gp 0 (by omega); rw [hx0] at this; exact Option.some.inj this
    subst e0
    exact sp_X11_book (bkTailX_ok g) a1 ha _ (gs_RY g aw) aw hR (exL_3 _ ha32)
  · obtain ⟨g1, kL1, hg1⟩ := gh_mk hS1
    have e0 : y0 = g1 29 := by have := hg1.hp 29 (by omega); rw [hy0] at this; exact Option.some.inj this
    subst e0
    obtain ⟨k, r, b1, b2⟩ := key T1 aw1 ms g1 hS1 hg1.hp hf m29 m30 m31 m34 m35
    have hR1 : RH g1 aw1 (ghH g1 aw1 gmR 60) := by
      refine ghH_ok hx1 ?_ (by rw [hg1.hn 60 (by omega)]; omega) hg1.hi
      unfold gmR
      simp only [List.forall_mem_cons]
      exact ⟨st_K hS1 hg1.hp (by omega) (by omega) (by omega) rfl, st_K hS1 hg1.hp (by omega) (by omega) (by omega) rfl, st_K hS1 hg1.hp (by omega) (by omega) (by omega) rfl, st_K hS1 hg1.hp (by omega) (by omega) (by omega) rfl, st_K hS1 hg1.hp (by omega) (by omega) (by omega) rfl, st_K hS1 hg1.hp (by omega) (by omega) (by omega) rfl, st_K hS1 hg1.hp (by omega) (by omega) (by omega) rfl, fun q hq => by cases hq⟩
    have hsp := sp_X12_book (bkTail_ok g1) k a1 ha _ (gm_RMs g1 aw1) b1 aw1 hR1 (exL_3 _ ha32)
    rw [b2] at hsp
    exact hsp
