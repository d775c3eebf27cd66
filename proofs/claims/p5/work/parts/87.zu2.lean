/-! The names of the towns, behind district (written by wip/p42/gen_tn2.py). -/
theorem lrow {aw : rvH} {y n x : Nat} {d : rvV} {ov : List (Nat × rvV)} (hx : exH aw) (e : aw[y]? = some (.inr (3, n, d, ov))) (hl : x < n) : hL aw y x (ghL aw y x) := by
  have hc : exC (.inr (3, n, d, ov)) := exH_get hx e
  have hk := ex_look hc.1 hc.2 (j := x)
  obtain ⟨z, hz⟩ := hk.2.2 rfl
  have hv := hk.1
  rw [hz] at hv
  obtain ⟨m, hm⟩ : ∃ m, z = rvLe m := hv
  subst hm
  have hs : xSlot (.inr (3, n, d, ov)) x = some (.inr (1, rvLe m)) := by
    show (bif Nat.blt x n then some (rvLook d ov x) else none) = _
    rw [show Nat.blt x n = true from Nat.ble_eq_true_of_le hl, hz]
    rfl
  have eg : ghL aw y x = m := by
    rw [ghL_row e, if_pos hl, hz]
    exact rvLe_ok m
  rw [eg]
  exact ⟨_, e, hs⟩
/-- the names' row of an old town stays behind the class's reader -/
theorem old_rowL {r : List Int} {T pl : List Nat} {aw : rvH} {g : Nat → Nat} {kL y q : Nat} (h : lwInv r T pl aw) (hP : PI pl aw) (hg : GHOK T pl aw g kL) (hy : T[y]? = some q) (hq : q = 8) (hne : ∀ n, ndB kL n → g n ≠ y) : PCM rvTab rvInf rvRet 316 rvMth 17 [rf (g 13), rf (g 52)] aw (fun res => ∀ j, ghL res.2 y j = ghL aw y j) := by
  have hS := gS_inv h
  by_cases k1 : ndB kL 1
  · have : kL = 1 := by unfold ndB at k1; omega
    subst this
    exfalso
    have hL := hg.hL
    unfold hK at hL
    rw [if_neg (by decide)] at hL
    obtain ⟨i, c, p1, p2, p3, p4⟩ := gh_st hS (k := 0) (by omega)
    have e0 : g 0 = i := by have := hg.hp 0 (by omega); rw [p1] at this; exact (Option.some.inj this).symm
    obtain ⟨x, x1, c', x2, x3⟩ := gh_r20 (j := 1) (q := 0) p3 p4 rfl
    obtain ⟨c'', y2, y3⟩ := hL
    rw [e0] at y2
    rw [x2] at y2
    have y2 := Option.some.inj y2
    subst y2
    rw [x3] at y3
    have : x = g 1 := (Prod.mk.inj (Sum.inr.inj (Option.some.inj y3))).2
    obtain ⟨i', c1, q1, q2, -⟩ := gh_st hS (k := 1) (by omega)
    have e1 : g 1 = i' := by have := hg.hp 1 (by omega); rw [q1] at this; exact (Option.some.inj this).symm
    rw [this, e1, q2] at x1
    have := Option.some.inj x1
    omega
  · obtain ⟨g', hg'⟩ : ∃ g' : Nat → Nat, g' = fun n => if n = 1 then y else if g n = y then g 1 else g n := ⟨_, rfl⟩
    have hn : ∀ n, ndB kL n → g' n = g n := fun n hq => by
      rw [hg']
      dsimp only
      rw [if_neg (show ¬ n = 1 from fun e => k1 (by rw [← e]; exact hq)), if_neg (hne n hq)]
    have hinj : ∀ a b, g' a = g' b → a = b := by
      intro a b e
      rw [hg'] at e
      dsimp only at e
      by_cases a1 : a = 1
      · by_cases b1 : b = 1
        · omega
        · rw [if_pos a1, if_neg b1] at e
          by_cases b2 : g b = y
          · rw [if_pos b2] at e
            have := hg.hi _ _ (b2.trans e)
            omega
          · rw [if_neg b2] at e
            exact absurd e.symm b2
      · by_cases b1 : b = 1
        · rw [if_neg a1, if_pos b1] at e
          by_cases a2 : g a = y
          · rw [if_pos a2] at e
            have := hg.hi _ _ (a2.trans e.symm)
            omega
          · rw [if_neg a2] at e
            exact absurd e a2
        · rw [if_neg a1, if_neg b1] at e
          by_cases a2 : g a = y
          · by_cases b2 : g b = y
            · exact hg.hi _ _ (a2.trans b2.symm)
            · rw [if_pos a2, if_neg b2] at e
              have := hg.hi _ _ e
              omega
          · by_cases b2 : g b = y
            · rw [if_neg a2, if_pos b2] at e
              have := hg.hi _ _ e
              omega
            · rw [if_neg a2, if_neg b2] at e
              exact hg.hi _ _ e
    obtain ⟨r0, r0', a1, a2, a3, a4, a5, a6⟩ := rd_g h hP hg hinj hn
    have g1 : g' 1 = y := by rw [hg']; rfl
    obtain ⟨c, c1, c2⟩ := gh_at hS hy
    subst hq
    obtain ⟨d, ov, hc⟩ : ∃ d ov, c = .inr (3, 40, d, ov) := by
      rcases c with ⟨ci, fs⟩ | ⟨k', n', d, ov⟩
      · exact absurd c2 id
      · have : (3 : Nat) = k' := c2.1
        have hn : (40 : Nat) = n' := c2.2.1
        subst this; subst hn
        exact ⟨_, _, rfl⟩
    subst hc
    refine PCM_mono (fun res hres => ?_) (PCM_and a6 (sp_kinds 17 _ aw))
    obtain ⟨⟨h1, hRH⟩, hw⟩ := hres
    obtain ⟨c', e', sh⟩ := hw.2.1 y _ c1
    rcases c' with ⟨ci, fs⟩ | ⟨q', n', d', ov'⟩
    · exact absurd sh id
    · obtain ⟨rfl, rfl⟩ := sh
      intro j
      by_cases hj : j < 40
      · have hI1 : hL res.2 (g' 1) j (ghL res.2 y j) := by
          rw [g1]
          exact lrow hRH.1 e' hj
        have := hRH.2.2.1 1 j _ hI1
        rw [← this, fl_read (by omega) a1]
        show ghL aw (g' 1) j = _
        rw [g1]
      · rw [ghL_row e', ghL_row c1, if_neg hj, if_neg hj]
def DXg (aw1 aw' : rvH) : Prop := Fr aw1 aw' ∧ K0 aw1 aw' ∧ ∀ y, y ≠ 0 → y ≠ 1 → aw'[y]? = aw1[y]?
theorem sp_districtY {aw : rvH} {Q : xRes2 → Prop} (hc : HC aw) (hl : 103 < aw.length) (h17 : PCM rvTab rvInf rvRet 316 rvMth 17 [rf 11, rf 41] aw Q) (hQ : ∀ res, Q res → (∃ n, res.1 = some (pt n)) ∧ exH res.2) : PCM rvTab rvInf rvRet 316 rvMth 235 [rf 0] aw (fun res => ∃ r1 aw1, Q (r1, aw1) ∧ RDp 11 41 aw aw1 ∧ ((∃ z, hI aw1 1 13 z ∧ ¬ z = 0 ∧ DXg aw1 res.2) ∨ (hI aw1 1 13 0 ∧ DXs aw1 res.2))) := by
  have hj : 235 < 316 := by decide
  refine PCM_of (fun _ _ => ?_)
  have c0 := hc (0, 0, 1) (by decide)
  have c1 := hc (0, 1, 35) (by decide)
  have c2 := hc (0, 2, 41) (by decide)
  have c3 := hc (0, 3, 47) (by decide)
  have c7 := hc (0, 7, 11) (by decide)
  have key : Pr rvTab rvInf rvRet 316 rvMth 235 (fun res => ∃ r1 aw1, Q (r1, aw1) ∧ RDp 11 41 aw aw1 ∧ ((∃ z, hI aw1 1 13 z ∧ ¬ z = 0 ∧ DXg aw1 res.2) ∨ (hI aw1 1 13 0 ∧ DXs aw1 res.2))) 0 [rf 0, rvU] [] aw := by
    refine Pr_ld 1 hj rfl rfl rfl rfl ?_
    refine Pr_gfV hj rfl (by decide) rfl c7 ?_
    refine Pr_ld 5 hj rfl rfl rfl rfl ?_
    refine Pr_gfV hj rfl (by decide) rfl c2 ?_
    refine Pr_callV rfl (Or.inl ⟨_, rfl⟩) rfl rfl (PCM_and h17 (sp_readX 11 41 aw (by omega) (by omega) (by decide))) (fun res hres => ?_)
    obtain ⟨r1, aw1⟩ := res
    obtain ⟨hq, hd⟩ := hres
    obtain ⟨⟨n, hn⟩, hx⟩ := hQ _ hq
    have hn : r1 = some (pt n) := hn
    subst hn
    have hx : exH aw1 := hx
    have hd : RDp 11 41 aw aw1 := hd
    have k0 : hV aw1 0 0 (rf 1) := hd.1 _ _ _ (by omega) (by omega) (by omega) c0
    have k1 : hV aw1 0 1 (rf 35) := hd.1 _ _ _ (by omega) (by omega) (by omega) c1
    have k2 : hV aw1 0 2 (rf 41) := hd.1 _ _ _ (by omega) (by omega) (by omega) c2
    have k3 : hV aw1 0 3 (rf 47) := hd.1 _ _ _ (by omega) (by omega) (by omega) c3
    refine Pr_st 12 [rf 0, pt n] (k := 1) hj rfl (Or.inr (Or.inr (Or.inl ⟨_, rfl, rfl, rfl⟩))) rfl ?_
    refine Pr_ld 13 hj rfl rfl rfl rfl ?_
    refine Pr_ld 14 hj rfl rfl rfl rfl ?_
    refine Pr_gfV hj rfl (by decide) rfl k0 ?_
    refine Pr_gf hj rfl (by decide) (fun fs w e1 e2 => ?_)
    obtain ⟨z, rfl, hz⟩ := int_fld hx e1 e2 rfl
    refine Pr_pfC hj rfl (fun xs ex => ?_)
    have hl0 := (List.getElem?_eq_some_iff.mp ex).1
    have f1 : Fr aw1 (aw1.set 0 (.inl (11, xs.set 14 (pt z)))) := Fr_set ex (kp_put rfl)
    have q1 : K0 aw1 (aw1.set 0 (.inl (11, xs.set 14 (pt z)))) := K0_set ex (fun n d ov q => by cases q)
    have s0 : (aw1.set 0 (.inl (11, xs.set 14 (pt z))))[0]? = some (.inl (11, xs.set 14 (pt z))) := List.getElem?_set_self hl0
    refine Pr_ld 24 hj rfl rfl rfl rfl ?_
    refine Pr_gfV hj rfl (by decide) rfl (hV_Fr f1 k0) ?_
    refine Pr_cst 28 hj rfl rfl rfl ?_
    refine Pr_pfC hj rfl (fun ys ey => ?_)
    have f2 := Fr_trans f1 (Fr_set ey (kp_put (v := pt 0) (rfl : (!prF 9 2) = true)))
    have q2 := K0_trans q1 (K0_set (c' := .inl (9, ys.set 2 (pt 0))) ey (fun n d ov q => by cases q))
    have s0' : ((aw1.set 0 (.inl (11, xs.set 14 (pt z)))).set 1 (.inl (9, ys.set 2 (pt 0))))[0]? = some (.inl (11, xs.set 14 (pt z))) := by
      rw [List.getElem?_set_ne (by omega)]
      exact s0
    have hce : ∀ y, y ≠ 0 → y ≠ 1 → ((aw1.set 0 (.inl (11, xs.set 14 (pt z)))).set 1 (.inl (9, ys.set 2 (pt 0))))[y]? = aw1[y]? := fun y h0 h1 => by rw [List.getElem?_set_ne (Ne.symm h1), List.getElem?_set_ne (Ne.symm h0)]
    generalize ((aw1.set 0 (.inl (11, xs.set 14 (pt z)))).set 1 (.inl (9, ys.set 2 (pt 0)))) = aw2 at f2 q2 s0' hce ⊢
    refine Pr_ld 32 hj rfl rfl rfl rfl ?_
    refine Pr_gf hj rfl (by decide) (fun us w e3 e4 => ?_)
    rw [s0'] at e3
    have e3 := (Prod.mk.inj (Sum.inl.inj (Option.some.inj e3))).2
    subst e3
    have hw : w = pt z := by
      have hl := (List.getElem?_eq_some_iff.mp e4).1
      rw [List.length_set] at hl
      rw [List.getElem?_set_self hl] at e4
      exact (Option.some.inj e4).symm
    subst hw
    refine Pr_ifc (t := 48) hj rfl rfl (fun h0 => ?_) (fun h0 => ?_)
    · have h0 : z = 0 := h0
      subst h0
      refine Pr_ld 49 hj rfl rfl rfl rfl ?_
      refine Pr_gfV hj rfl (by decide) rfl (hV_Fr f2 k1) ?_
      refine Pr_ld 53 hj rfl rfl rfl rfl ?_
      refine Pr_gfV hj rfl (by decide) rfl (hV_Fr f2 k2) ?_
      refine Pr_callV rfl (Or.inl ⟨_, rfl⟩) rfl rfl (PCM_and (sp_copyFrom 35 41 aw2) (sp_copyRows 35 41 aw2)) (fun res3 h3 => ?_)
      obtain ⟨h3, h3r⟩ := h3
      refine Pr_ld 60 hj rfl rfl rfl rfl ?_
      refine Pr_gfV hj rfl (by decide) rfl (cf_old h3 (fun q => by omega) (hV_Fr f2 k3)) ?_
      refine Pr_callV rfl (Or.inl ⟨_, rfl⟩) rfl rfl (PCM_and (sp_forget2 47 res3.2) (sp_forget3 47 res3.2)) (fun res4 h4 => ?_)
      obtain ⟨h4, h4c⟩ := h4
      refine Pr_ld 67 hj rfl rfl rfl rfl ?_
      refine Pr_pure hj rfl (evn rfl) (fun BC BS kc ks o' he => (Option.some.inj he).symm) ?_
      refine Pr_pfC hj rfl (fun vs ev => ?_)
      refine Pr_ld 72 hj rfl rfl rfl rfl ?_
      refine Pr_ret rfl (Or.inl rfl) ⟨_, aw1, hq, hd, Or.inr ⟨hz, aw2, res3.2, res4.2, f2, q2, h3, h3r, h4.1, h4.2, Fr_set ev (kp_put rfl), K0_set ev (fun n d ov q => by cases q), fun y y0 y1 y35 y47 y6 => by rw [List.getElem?_set_ne (Ne.symm y0), h4c y y47, h3r.1 y y35 y6, hce y y0 y1]⟩⟩
    · have h0 : ¬ z = 0 := h0
      refine Pr_cst 39 hj rfl rfl rfl ?_
      refine Pr_ld 40 hj rfl rfl rfl rfl ?_
      refine Pr_gfV hj rfl (by decide) rfl (hV_Fr f2 k0) ?_
      refine Pr_gf hj rfl (by decide) (fun vs w e5 e6 => ?_)
      refine Pr_step hj rfl (evn rfl) (fun kc ks o' hs => ?_)
      have hh : o'.2.2.2.1 = aw2 := (tStep hs).2.2 rfl
      have hpc : o'.1 = 47 := by
        have := (tStep hs).1 (fun t => Nat.beq t 47) rfl
        exact rv_beq this
      rw [hpc, hh]
      exact Pr_ret rfl (Or.inl rfl) ⟨_, aw1, hq, hd, Or.inl ⟨z, hz, h0, f2, q2, hce⟩⟩
  exact key 0 0
def isL (aw : rvH) (y n : Nat) : Prop := ∃ d ov, aw[y]? = some (.inr (3, n, d, ov))
def DN (aw : rvH) (r0 : Int × hH) (aw1 : rvH) : Prop := (∀ n, n < 2 → ∃ tk, hV aw1 (ti2 n) 0 (rf tk) ∧ TN aw1 tk (fun i => ghI aw 128 (296 * n + i)) (fun i => ghL aw 129 (20 * n + i))) ∧ ((¬ r0.2.1 4 13 = 0 ∧ ∃ t0, hV aw1 35 0 (rf t0) ∧ TN aw1 t0 (ghI aw 111) (ghL aw 114)) ∨ (r0.2.1 4 13 = 0 ∧ ∃ t0 nr, hV aw1 35 0 (rf t0) ∧ hV aw1 t0 1 (rf nr) ∧ (isL aw1 nr 40 → ∀ x, x < 40 → ghL aw1 nr x = r0.2.2.1 62 x)))
theorem ne8 {T pl : List Nat} {aw : rvH} (hp : pl = rzPl) (h : gS T pl aw) {t0 : Nat} (hF : HF t0 aw) {y : Nat} (hy : T[y]? = some 8) : y ≠ 0 ∧ y ≠ 1 ∧ y ≠ 35 ∧ y ≠ 47 ∧ y ≠ 41 ∧ y ≠ 11 := by
  have st : ∀ k x, k < 52 → rzPl[k]? = some x → y ≠ x := fun k x hk e q => by
    obtain ⟨i, c, a1, a2, -⟩ := gh_st h hk
    rw [hp, e] at a1
    have e1 := Option.some.inj a1
    subst e1
    rw [q, a2] at hy
    have := Option.some.inj hy
    omega
  refine ⟨st 0 0 (by omega) rfl, st 4 1 (by omega) rfl, fun q => ?_, st 11 47 (by omega) rfl, fun q => ?_, st 13 11 (by omega) rfl⟩
  · rw [q, (HF_T hp h hF).1] at hy
    cases hy
  · obtain ⟨i, c, a1, a2, a3, a4⟩ := gh_st h (k := 0) (by omega)
    have e0 : (0 : Nat) = i := by rw [hp] at a1; exact Option.some.inj a1
    subst e0
    have := hV_T h a2 (j := 2) (q := 0) rfl (hF.1 (0, 2, 41) (by decide))
    rw [q, this] at hy
    cases hy
theorem g_row8 {r : List Int} {T pl : List Nat} {aw : rvH} {g : Nat → Nat} {kL y q : Nat} {t0 : Nat} (hS : gS T pl aw) (hp : pl = rzPl) (hF : HF t0 aw) (hg : GHOK T pl aw g kL) (hy : T[y]? = some q) (hq : q = 8) : ∀ n, ndB kL n → g n ≠ y := by
  obtain ⟨g0, g13, g52, gL, g4, g31⟩ := g_at (r := r) hS hp hF hg
  have t35 := (HF_T hp hS hF).1
  have st : ∀ k, k < 52 → T[g k]? = some (60 + k) := fun k hk => by
    obtain ⟨i, c, a1, a2, -⟩ := gh_st hS hk
    have := hg.hp k hk
    rw [a1] at this
    rw [← Option.some.inj this]
    exact a2
  have t41 : T[41]? = some 0 := by
    obtain ⟨i, c, a1, a2, a3, a4⟩ := gh_st hS (k := 0) (by omega)
    have e0 : (0 : Nat) = i := by
      rw [hp] at a1
      exact Option.some.inj a1
    subst e0
    exact hV_T hS a2 rfl (hF.1 (0, 2, 41) (by decide))
  have r5 : ∀ m j q', (52, j, m) ∈ ghR0 → ¬ j = 1000 → xTyp xRgn 0 j = some (.inr (20, q')) → T[g m]? = some q' := by
    intro m j q' hm hj ht
    have hr := hg.hr _ hm
    unfold hK at hr
    dsimp only at hr
    rw [if_neg hj, g52] at hr
    exact hR_T hS t41 ht hr
  have hlen := gh_len hS
  intro n hn e
  have hc : ∀ q', T[g n]? = some q' → q' = q := fun q' h => by
    rw [e, hy] at h
    exact (Option.some.inj h).symm
  rcases hn with h | h | h | h | h | h | h
  · have := hc _ (st n (by omega)); omega
  · have := hc _ (st n (by omega)); omega
  · have := hc _ (st n (by omega)); omega
  · have := hc _ (st n (by omega)); omega
  · have : n = 52 ∨ n = 53 ∨ n = 54 ∨ n = 55 ∨ n = 56 ∨ n = 57 := by omega
    rcases this with rfl | rfl | rfl | rfl | rfl | rfl
    · have := hc 0 (by rw [g52]; exact t41); omega
    · have := hc 1 (r5 53 6 1 (by decide) (by decide) rfl); omega
    · have := hc 2 (r5 54 7 2 (by decide) (by decide) rfl); omega
    · have := hc 3 (r5 55 8 3 (by decide) (by decide) rfl); omega
    · have := hc 4 (r5 56 9 4 (by decide) (by decide) rfl); omega
    · have := hc 5 (r5 57 10 5 (by decide) (by decide) rfl); omega
  · have := hc 0 (by rw [h, gL]; exact t35); omega
  · have h1 := hg.hn n h
    have h2 : y < T.length := (List.getElem?_eq_some_iff.mp hy).1
    omega
theorem cX_town2 {r : List Int} {T pl : List Nat} {aw : rvH} (h : lwInv r T pl aw) (hP : PI pl aw) (hp : pl = rzPl) (hT : HT aw) (hN : HN aw) : ∃ (g : Nat → Nat) (kL : Nat) (r0 : Int × hH), GHOK T pl aw g kL ∧ f_X1_read 941 (ghH g aw ((0, 1, kL) :: ghR0) 60) = some r0 ∧ PCM rvTab rvInf rvRet 316 rvMth 235 [rf 0] aw (fun res => DA aw r0 res.2 ∧ DN aw r0 res.2) := by
  have hS := gS_inv h
  obtain ⟨hkn, t0, hF, hTC, hIm⟩ := hT
  obtain ⟨g, kL, hg⟩ := gh_mk hS
  obtain ⟨g0, g13, g52, gL, g4, g31⟩ := g_at (r := r) hS hp hF hg
  obtain ⟨r0, r0', a1, a2, a3, a4, a5, a6⟩ := rd_g h hP hg hg.hi (fun n _ => rfl)
  refine ⟨g, kL, r0, hg, a1, ?_⟩
  rw [g13, g52] at a6
  obtain ⟨ta, ia1, ia2⟩ := hIm 0 (by omega)
  obtain ⟨tb, ib1, ib2⟩ := hIm 1 (by omega)
  obtain ⟨⟨t1, u1, nr0, u2, u3⟩, hIN⟩ := hN
  have et1 : t0 = t1 := rf_inj (hV_one hF.2.2.2.2.1 u1)
  subst et1
  obtain ⟨ta', va1, nra, va2, va3⟩ := hIN 0 (by omega)
  have eta : ta = ta' := rf_inj (hV_one ia1 va1)
  subst eta
  obtain ⟨tb', vb1, nrb, vb2, vb3⟩ := hIN 1 (by omega)
  have etb : tb = tb' := rf_inj (hV_one ib1 vb1)
  subst etb
  have z0 : T[nr0]? = some 8 := town_N hp hS hF (Or.inl rfl) u1 u2
  have za : T[nra]? = some 8 := town_N hp hS hF (Or.inr ⟨0, by omega, rfl⟩) va1 va2
  have zb : T[nrb]? = some 8 := town_N hp hS hF (Or.inr ⟨1, by omega, rfl⟩) vb1 vb2
  have z8 : ∀ y ∈ [nr0, nra, nrb], T[y]? = some 8 := fun y hy => by
    simp only [List.mem_cons, List.not_mem_nil, or_false] at hy
    rcases hy with rfl | rfl | rfl
    · exact z0
    · exact za
    · exact zb
  have pOldL : PCM rvTab rvInf rvRet 316 rvMth 17 [rf 11, rf 41] aw (fun res => ∀ y ∈ [nr0, nra, nrb], ∀ j, ghL res.2 y j = ghL aw y j) := PCM_list _ (fun y hy => by
    have := old_rowL h hP hg (z8 y hy) rfl (g_row8 (r := r) hS hp hF hg (z8 y hy) rfl)
    rw [g13, g52] at this
    exact this)
  -- the rows of the three towns
  have rows : ∀ {t : Nat} {f : Nat → Int}, TC aw t f → (∃ k, (k = 35 ∨ ∃ n, n < 2 ∧ k = ti2 n) ∧ hV aw k 0 (rf t)) → ∃ ys : List Nat, (∀ j x, hV aw t j (rf x) → (j = 0 ∨ j = 2 ∨ j = 3) → x ∈ ys) ∧ ∀ y ∈ ys, ∃ q, T[y]? = some q ∧ (q = 7 ∨ q = 9 ∨ q = 10) := by
    intro t f ht hk
    obtain ⟨-, c, m, x, h1, h2, h3, -⟩ := ht
    obtain ⟨k, k1, k2⟩ := hk
    refine ⟨[c, m, x], fun j z hz hj => ?_, fun y hy => ?_⟩
    · rcases hj with rfl | rfl | rfl
      · have := rf_inj (hV_one hz h1); subst this; simp
      · have := rf_inj (hV_one hz h2); subst this; simp
      · have := rf_inj (hV_one hz h3); subst this; simp
    · simp only [List.mem_cons, List.not_mem_nil, or_false] at hy
      rcases hy with rfl | rfl | rfl
      · exact ⟨7, (town_T hp hS hF k1 k2 h1).1 rfl, Or.inl rfl⟩
      · exact ⟨9, (town_T hp hS hF k1 k2 h2).2.1 rfl, Or.inr (Or.inl rfl)⟩
      · exact ⟨10, (town_T hp hS hF k1 k2 h3).2.2 rfl, Or.inr (Or.inr rfl)⟩
  obtain ⟨y0, y01, y02⟩ := rows hTC ⟨35, Or.inl rfl, hF.2.2.2.2.1⟩
  obtain ⟨ya, ya1, ya2⟩ := rows ia2 ⟨ti2 0, Or.inr ⟨0, by omega, rfl⟩, ia1⟩
  obtain ⟨yb, yb1, yb2⟩ := rows ib2 ⟨ti2 1, Or.inr ⟨1, by omega, rfl⟩, ib1⟩
  have hys : ∀ y ∈ y0 ++ (ya ++ yb), ∃ q, T[y]? = some q ∧ (q = 7 ∨ q = 9 ∨ q = 10) := fun y hy => by
    rcases List.mem_append.mp hy with e | e
    · exact y02 y e
    · rcases List.mem_append.mp e with e | e
      · exact ya2 y e
      · exact yb2 y e
  have pOld : PCM rvTab rvInf rvRet 316 rvMth 17 [rf 11, rf 41] aw (fun res => ∀ y ∈ y0 ++ (ya ++ yb), ∀ j, ghI res.2 y j = ghI aw y j) := PCM_list _ (fun y hy => by
    obtain ⟨q, q1, q2⟩ := hys y hy
    have := old_row h hP hg q1 q2 (g_row (r := r) hS hp hF hg q1 q2)
    rw [g13, g52] at this
    exact this)
  have hlen : 103 < aw.length := by
    have := hV_lt ib1
    unfold ti2 at this
    omega
  have h35 : ∃ fs, aw[35]? = some (.inl (2, fs)) := hkn.1 35 (Or.inl rfl)
  have h6 : ∀ j, 6 ≤ j → j ≤ 10 → ∃ x, hV aw 35 j (rf x) ∧ T[x]? = some (j - 5) := by
    intro j j1 j2
    have t35 := (HF_T hp hS hF).1
    obtain ⟨c, e1, e2⟩ := gh_at hS t35
    obtain ⟨fs, e3⟩ := h35
    have fin : ∀ q, xTyp xRgn 0 j = some (.inr (20, q)) → prF 2 j = true → ∃ x, hV aw 35 j (rf x) ∧ T[x]? = some q := by
      intro q hq hpr
      obtain ⟨x, x1, c', x2, x3⟩ := gh_r20 (j := j) e1 e2 hq
      rw [e3] at x2
      have x2 := Option.some.inj x2
      subst x2
      exact ⟨x, ⟨_, e3, hpr, x3⟩, x1⟩
    have : j = 6 ∨ j = 7 ∨ j = 8 ∨ j = 9 ∨ j = 10 := by omega
    rcases this with rfl | rfl | rfl | rfl | rfl
    · exact fin 1 rfl rfl
    · exact fin 2 rfl rfl
    · exact fin 3 rfl rfl
    · exact fin 4 rfl rfl
    · exact fin 5 rfl rfl
  have hdx := sp_districtY (aw := aw) hF.1 hlen (PCM_and (PCM_and (PCM_and a6 (PCM_ex jw (fun v hv => by
    rcases List.mem_cons.mp hv with e | hv
    · rw [e]; trivial
    · rw [List.mem_singleton.mp hv]; trivial) hP.1)) (PCM_and pOld (PCM_and pOldL (sp_kinds 17 _ aw)))) (sp_readCls [rf 11, rf 41] aw)) (fun res hres => ⟨⟨_, hres.1.1.1.1⟩, hres.1.1.2.2⟩)
  refine PCM_mono (fun res hres => ?_) (PCM_and (PCM_and hdx (sp_kinds 235 _ aw)) (sp_districtCls [rf 0] aw))
  obtain ⟨⟨⟨r1, aw1, ⟨⟨⟨⟨-, hRH⟩, -, hex⟩, hold, holdL, hw1⟩, hcls⟩, hd, hcase⟩, hw⟩, hcl2⟩ := hres
  have hRH : RH g aw1 r0.2 := hRH
  have hold : ∀ y ∈ y0 ++ (ya ++ yb), ∀ j, ghI aw1 y j = ghI aw y j := hold
  have hw1 : Fw aw aw1 := hw1
  have holdL : ∀ y ∈ [nr0, nra, nrb], ∀ j, ghL aw1 y j = ghL aw y j := holdL
  have keep1 : ∀ (k j : Nat) (v : rvV), ¬ (k = 41 ∧ j = 0) → k ≠ 11 → hV aw k j v → hV aw1 k j v := fun k j v b1 b2 hv => hd.1 k j v (hV_lt hv) b1 b2 hv
  have hf13 : ∀ z, hI aw1 1 13 z → r0.2.1 4 13 = z := fun z hz => hRH.2.1 4 13 z (by rw [g4]; exact hz)
  -- old rows are rows of ints behind the reader
  have rowI : ∀ y ∈ y0 ++ (ya ++ yb), ∃ n d ov, aw1[y]? = some (.inr (0, n, d, ov)) := by
    intro y hy
    obtain ⟨q, q1, q2⟩ := hys y hy
    obtain ⟨c, c1, c2⟩ := gh_at hS q1
    obtain ⟨c', e', sh⟩ := hw1.2.1 y _ c1
    rcases q2 with rfl | rfl | rfl
    all_goals
      rcases c with ⟨ci, fs⟩ | ⟨k', n', d, ov⟩
      · exact absurd c2 id
      · have : (0 : Nat) = k' := c2.1
        subst this
        rcases c' with ⟨ci, fs⟩ | ⟨q', n'', d', ov'⟩
        · exact absurd sh id
        · obtain ⟨rfl, rfl⟩ := sh
          exact ⟨_, _, _, e'⟩
  have nT : ∀ {t : Nat}, (∃ fs, aw[t]? = some (.inl (10, fs))) → t ≠ 41 ∧ t ≠ 11 ∧ t ≠ 35 ∧ t ≠ 47 := by
    intro t ht
    have o1 := okE_t hkn ht (j := 0)
    have o2 := okE_t hkn ht (j := 1)
    refine ⟨fun e => o1.2.2 ⟨Or.inr (Or.inl e), rfl⟩, fun e => ?_, fun e => o1.2.2 ⟨Or.inl e, rfl⟩, fun e => o2.1 ⟨e, rfl⟩⟩
    subst e
    obtain ⟨i, c, p1, p2, p3, p4⟩ := gh_st hS (k := 13) (by omega)
    have e11 : (11 : Nat) = i := by
      rw [hp] at p1
      exact Option.some.inj p1
    subst e11
    obtain ⟨fs, e⟩ := ht
    rw [e] at p3
    have p3 := Option.some.inj p3
    subst p3
    have : (10 : Nat) = 1 := p4.1.symm
    omega
  rcases hcase with ⟨z, hz, hz0, hdf⟩ | ⟨hz, hds⟩
  · -- a FAULT
    have hkF : ∀ (k j : Nat) (v : rvV), ¬ (k = 41 ∧ j = 0) → k ≠ 11 → hV aw k j v → hV res.2 k j v := fun k j v b1 b2 hv => hV_Fr hdf.1 (keep1 k j v b1 b2 hv)
    have hrow : ∀ y ∈ y0 ++ (ya ++ yb), ∀ i, ghI res.2 y i = ghI aw y i := fun y hy i => by
      obtain ⟨n, d, ov, e⟩ := rowI y hy
      rw [K0_ghI hdf.2.1 e, hold y hy]
    have tc : ∀ {t : Nat} {f : Nat → Int} {ys : List Nat}, TC aw t f → (∀ j x, hV aw t j (rf x) → (j = 0 ∨ j = 2 ∨ j = 3) → x ∈ ys) → (∀ y ∈ ys, y ∈ y0 ++ (ya ++ yb)) → TC res.2 t f := fun ht hy hs => TC_half ht hy hw (fun j v hv => hkF _ j v (fun q => (nT ht.1).1 q.1) (nT ht.1).2.1 hv) (fun y hy => hrow y (hs y hy))
    have hDA : DA aw r0 res.2 := by
      refine ⟨KN_Fw hw hkn, fun n hn => ?_, Or.inl ⟨by rw [hf13 z hz]; exact hz0, t0, HF_keepF hF hkF hw, tc hTC y01 (fun y hy => List.mem_append_left _ hy)⟩⟩
      have : n = 0 ∨ n = 1 := by omega
      rcases this with rfl | rfl
      · exact ⟨ta, hkF _ _ _ (by unfold ti2; omega) (by unfold ti2; omega) ia1, tc ia2 ya1 (fun y hy => List.mem_append_right _ (List.mem_append_left _ hy))⟩
      · exact ⟨tb, hkF _ _ _ (by unfold ti2; omega) (by unfold ti2; omega) ib1, tc ib2 yb1 (fun y hy => List.mem_append_right _ (List.mem_append_right _ hy))⟩
    have tnk : ∀ {t nr : Nat} {f : Nat → Int} {l : Nat → Int64}, (∃ fs, aw[t]? = some (.inl (10, fs))) → hV aw t 1 (rf nr) → nr ∈ [nr0, nra, nrb] → TN aw t f l → TN res.2 t f l := fun h10 hnr hm hTN => TN_keep hTN (fun v hv => hkF _ 1 v (fun q => (nT h10).1 q.1) (nT h10).2.1 hv) (fun nr' hnr' i => by
      have e := rf_inj (hV_one hnr' hnr)
      subst e
      obtain ⟨b0, b1, -⟩ := ne8 hp hS hF (z8 _ hm)
      rw [ghL_same (hdf.2.2 _ b0 b1), holdL _ hm]) (fun _ _ => rfl) (fun _ _ => rfl)
    refine ⟨hDA, fun n hn => ?_, Or.inl ⟨by rw [hf13 z hz]; exact hz0, t0, hkF _ _ _ (by omega) (by omega) u1, tnk hTC.1 u2 (by simp) ⟨nr0, u2, u3⟩⟩⟩
    have : n = 0 ∨ n = 1 := by omega
    rcases this with rfl | rfl
    · exact ⟨ta, hkF _ _ _ (by unfold ti2; omega) (by unfold ti2; omega) ia1, tnk ia2.1 va2 (by simp) ⟨nra, va2, va3⟩⟩
    · exact ⟨tb, hkF _ _ _ (by unfold ti2; omega) (by unfold ti2; omega) ib1, tnk ib2.1 vb2 (by simp) ⟨nrb, vb2, vb3⟩⟩
  · -- a district
    have hkS : ∀ (k j : Nat) (v : rvV), ¬ (k = 41 ∧ j = 0) → k ≠ 11 → ¬ (k = 35 ∧ j = 0) → ¬ (k = 47 ∧ j = 1) → hV aw k j v → hV res.2 k j v := fun k j v b1 b2 b3 b4 hv => dxs_hV hds b3 b4 (keep1 k j v b1 b2 hv)
    have h6' : ∀ j, 6 ≤ j → j ≤ 10 → ∃ x, hV aw1 35 j (rf x) ∧ T[x]? = some (j - 5) := fun j j1 j2 => by
      obtain ⟨x, x1, x2⟩ := h6 j j1 j2
      exact ⟨x, keep1 _ _ _ (by omega) (by omega) x1, x2⟩
    have h35' : ∀ y, (∃ n d ov, aw1[y]? = some (.inr (0, n, d, ov))) → y ≠ 35 := fun y hy e => by
      subst e
      obtain ⟨n, d, ov, e⟩ := hy
      obtain ⟨fs, e3⟩ := h35
      obtain ⟨c', e', sh⟩ := hw1.2.1 35 _ e3
      rw [e] at e'
      have e' := Option.some.inj e'
      subst e'
      exact sh
    have hrow : ∀ y ∈ y0 ++ (ya ++ yb), ∀ i, ghI res.2 y i = ghI aw y i := fun y hy i => by
      obtain ⟨n, d, ov, e⟩ := rowI y hy
      obtain ⟨q, q1, q2⟩ := hys y hy
      rw [dxs_row hds e (h35' y ⟨n, d, ov, e⟩) (fun j j1 j2 => by
        obtain ⟨x, x1, x2⟩ := h6' j j1 j2
        refine ⟨x, x1, fun e => ?_⟩
        rw [e, q1] at x2
        have := Option.some.inj x2
        omega), hold y hy]
    have tc : ∀ {t : Nat} {f : Nat → Int} {ys : List Nat}, TC aw t f → (∀ j x, hV aw t j (rf x) → (j = 0 ∨ j = 2 ∨ j = 3) → x ∈ ys) → (∀ y ∈ ys, y ∈ y0 ++ (ya ++ yb)) → TC res.2 t f := fun ht hy hs => TC_half ht hy hw (fun j v hv => hkS _ j v (fun q => (nT ht.1).1 q.1) (nT ht.1).2.1 (fun q => (nT ht.1).2.2.1 q.1) (fun q => (nT ht.1).2.2.2 q.1) hv) (fun y hy => hrow y (hs y hy))
    obtain ⟨n1, n2⟩ := dxs_new hds hd.2
    -- the new town
    have g60 : g 60 = aw.length := by rw [hg.hn 60 (by omega)]; omega
    have newR : ∀ j m, (f_X1_pre (ghH g aw ((0, 1, kL) :: ghR0) 60)).2.2.1 60 j = some m → ¬ j = 1000 → prF 10 j = true → hV aw1 aw.length j (rf (g m)) := by
      intro j m e hj hpr
      have hk := hRH.2.2.2.1 60 j m (by rw [a5]; exact e)
      unfold hK at hk
      rw [if_neg hj, g60] at hk
      obtain ⟨c, c1, c2⟩ := hk
      obtain ⟨fs, e3⟩ := hcls
      have e3 : aw1[aw.length]? = some (.inl (10, fs)) := e3
      rw [e3] at c1
      have c1 := Option.some.inj c1
      subst c1
      exact ⟨_, e3, hpr, c2⟩
    have newC : ∀ m, 60 ≤ m → res.2[g m]? = aw1[g m]? := by
      intro m hm
      have hge : aw.length ≤ g m := by rw [hg.hn m hm]; omega
      have hds' := hds
      obtain ⟨aw2, aw3, aw4, f1, q1, h3, h3r, hu, q2, f3, q3, qc⟩ := hds'
      refine qc (g m) (by omega) (by omega) (by omega) (by omega) (fun j j1 j2 hv => ?_)
      obtain ⟨x, x1, x2⟩ := h6' j j1 j2
      have e := rf_inj (hV_one (hV_Fr f1 x1) hv)
      have h1 := (List.getElem?_eq_some_iff.mp x2).1
      have := gh_len hS
      omega
    have newV : ∀ m, 60 ≤ m → ∀ (len : Nat), isI res.2 (g m) len → ∀ i, i < len → ghI res.2 (g m) i = r0.2.1 m i := by
      intro m hm len hc i hi
      obtain ⟨d, ov, e⟩ := hc
      have e1 := e
      rw [newC m hm] at e1
      rw [ghI_same (newC m hm)]
      refine (hRH.2.1 m i _ ⟨_, e1, ?_⟩).symm
      show (bif Nat.blt i len then some (rvLook d ov i) else none) = _
      rw [show Nat.blt i len = true from Nat.ble_eq_true_of_le hi, row_look hex (by omega) e1 hi]
      rfl
    have v0 := newR 0 61 rfl (by decide) rfl
    have v2 := newR 2 63 rfl (by decide) rfl
    have v3 := newR 3 64 rfl (by decide) rfl
    have vk : ∀ j v, hV aw1 aw.length j v → hV res.2 aw.length j v := fun j v hv => dxs_hV hds (fun q => by omega) (fun q => by omega) hv
    have hDA : DA aw r0 res.2 := by
      refine ⟨KN_Fw hw hkn, fun n hn => ?_, Or.inr ⟨hf13 0 hz, aw.length, HF_keepS hF hkS n1 n2 hw, hcl2, g 61, g 63, g 64, vk 0 _ v0, vk 2 _ v2, vk 3 _ v3, fun hc i hi => ?_, fun hc i hi => ?_, fun hc i hi => ?_⟩⟩
      · have : n = 0 ∨ n = 1 := by omega
        rcases this with rfl | rfl
        · exact ⟨ta, hkS _ _ _ (by unfold ti2; omega) (by unfold ti2; omega) (by unfold ti2; omega) (by unfold ti2; omega) ia1, tc ia2 ya1 (fun y hy => List.mem_append_right _ (List.mem_append_left _ hy))⟩
        · exact ⟨tb, hkS _ _ _ (by unfold ti2; omega) (by unfold ti2; omega) (by unfold ti2; omega) (by unfold ti2; omega) ib1, tc ib2 yb1 (fun y hy => List.mem_append_right _ (List.mem_append_right _ hy))⟩
      · rw [newV 61 (by omega) 4 hc i hi]
        unfold fN
        rw [if_pos hi]
      · rw [newV 63 (by omega) 10 hc i hi]
        unfold fN
        rw [if_neg (by omega), if_pos (by omega), show 24 + i - 24 = i by omega]
      · rw [newV 64 (by omega) 30 hc i hi]
        unfold fN
        rw [if_neg (by omega), if_neg (by omega), show 55 + i - 55 = i by omega]
    have h6n : ∀ y, T[y]? = some 8 → res.2[y]? = aw1[y]? := fun y hy => by
      obtain ⟨b0, b1, b35, b47, -⟩ := ne8 hp hS hF hy
      have hds' := hds
      obtain ⟨aw2, aw3, aw4, f1, q1, h3, h3r, hu, q2, f3, q3, qc⟩ := hds'
      refine qc y b0 b1 b35 b47 (fun j j1 j2 hv => ?_)
      obtain ⟨x, x1, x2⟩ := h6' j j1 j2
      have e := rf_inj (hV_one (hV_Fr f1 x1) hv)
      rw [e, hy] at x2
      have := Option.some.inj x2
      omega
    have tnk : ∀ {t nr : Nat} {f : Nat → Int} {l : Nat → Int64}, (∃ fs, aw[t]? = some (.inl (10, fs))) → hV aw t 1 (rf nr) → nr ∈ [nr0, nra, nrb] → TN aw t f l → TN res.2 t f l := fun h10 hnr hm hTN => TN_keep hTN (fun v hv => hkS _ 1 v (fun q => (nT h10).1 q.1) (nT h10).2.1 (fun q => (nT h10).2.2.1 q.1) (fun q => (nT h10).2.2.2 q.1) hv) (fun nr' hnr' i => by
      have e := rf_inj (hV_one hnr' hnr)
      subst e
      rw [ghL_same (h6n _ (z8 _ hm)), holdL _ hm]) (fun _ _ => rfl) (fun _ _ => rfl)
    have v1 := newR 1 62 rfl (by decide) rfl
    refine ⟨hDA, fun n hn => ?_, Or.inr ⟨hf13 0 hz, aw.length, g 62, n1, vk 1 _ v1, fun hc x hx => ?_⟩⟩
    · have : n = 0 ∨ n = 1 := by omega
      rcases this with rfl | rfl
      · exact ⟨ta, hkS _ _ _ (by unfold ti2; omega) (by unfold ti2; omega) (by unfold ti2; omega) (by unfold ti2; omega) ia1, tnk ia2.1 va2 (by simp) ⟨nra, va2, va3⟩⟩
      · exact ⟨tb, hkS _ _ _ (by unfold ti2; omega) (by unfold ti2; omega) (by unfold ti2; omega) (by unfold ti2; omega) ib1, tnk ib2.1 vb2 (by simp) ⟨nrb, vb2, vb3⟩⟩
    · obtain ⟨d, ov, e⟩ := hc
      have e1 := e
      rw [newC 62 (by omega)] at e1
      rw [ghL_same (newC 62 (by omega))]
      exact (hRH.2.2.1 62 x _ (lrow hex e1 hx)).symm
