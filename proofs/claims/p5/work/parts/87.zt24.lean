/-! The class's half of district: what holds behind it (by hand). -/
def fN (r0 : Int × hH) (i : Nat) : Int := if i < 4 then r0.2.1 61 i else if i < 34 then r0.2.1 63 (i - 24) else r0.2.1 64 (i - 55)
/-- a row of ints -/
def isI (aw : rvH) (y n : Nat) : Prop := ∃ d ov, aw[y]? = some (.inr (0, n, d, ov))
/-- a town tells what f tells, if its rows are what they are -/
def TCc (aw : rvH) (t : Nat) (f : Nat → Int) : Prop := (∃ fs, aw[t]? = some (.inl (10, fs))) ∧ ∃ c m h, hV aw t 0 (rf c) ∧ hV aw t 2 (rf m) ∧ hV aw t 3 (rf h) ∧ (isI aw c 4 → ∀ i, i < 4 → ghI aw c i = f i) ∧ (isI aw m 10 → ∀ i, i < 10 → ghI aw m i = f (24 + i)) ∧ (isI aw h 30 → ∀ i, i < 30 → ghI aw h i = f (55 + i))
def DA (aw : rvH) (r0 : Int × hH) (aw1 : rvH) : Prop := KN aw1 ∧ (∀ n, n < 2 → ∃ tk, hV aw1 (ti2 n) 0 (rf tk) ∧ TC aw1 tk (fun i => ghI aw 128 (296 * n + i))) ∧ ((¬ r0.2.1 4 13 = 0 ∧ ∃ t0, HF t0 aw1 ∧ TC aw1 t0 (ghI aw 111)) ∨ (r0.2.1 4 13 = 0 ∧ ∃ t0, HF t0 aw1 ∧ TCc aw1 t0 (fN r0)))
theorem hV_lt {aw : rvH} {k j : Nat} {v : rvV} (h : hV aw k j v) : k < aw.length := by
  obtain ⟨c, e, -⟩ := h
  exact (List.getElem?_eq_some_iff.mp e).1
theorem HF_keepF {t0 : Nat} {aw aw' : rvH} (h : HF t0 aw) (hk : ∀ (k j : Nat) (v : rvV), ¬ (k = 41 ∧ j = 0) → k ≠ 11 → hV aw k j v → hV aw' k j v) (hw : Fw aw aw') : HF t0 aw' := by
  obtain ⟨h1, h2, h3, g1, g2, g3, g4, m, g5, g6, g7⟩ := h
  have hcn : ∀ q ∈ hcL, ¬ (q.1 = 41 ∧ q.2.1 = 0) ∧ q.1 ≠ 11 := by decide
  have hz : ∀ {z : Nat}, Zs z → ¬ (z = 41 ∧ (0 : Nat) = 0) ∧ z ≠ 11 := fun hz => by
    have := Zs_no hz
    omega
  refine ⟨fun q hq => hk _ _ _ (hcn q hq).1 (hcn q hq).2 (h1 q hq), K5_Fw hw h2, one_Fw hw h3, fun k j v e => e.2, hk _ _ _ (by omega) (by omega) g2, (fun e => by cases e), fun i hi => ?_, m, g5, hk _ _ _ (by omega) (by omega) g6, fun i hi => ?_⟩
  · obtain ⟨z, z1, z2⟩ := g4 i hi
    exact ⟨z, z1, hk _ _ _ (by omega) (by omega) z2⟩
  · obtain ⟨z, z1, z2, z3⟩ := g7 i hi
    exact ⟨z, z1, hk _ _ _ (by omega) (by omega) z2, hk _ _ _ (hz z1).1 (hz z1).2 z3⟩
theorem HF_keepS {t0 t1 : Nat} {aw aw' : rvH} (h : HF t0 aw) (hk : ∀ (k j : Nat) (v : rvV), ¬ (k = 41 ∧ j = 0) → k ≠ 11 → ¬ (k = 35 ∧ j = 0) → ¬ (k = 47 ∧ j = 1) → hV aw k j v → hV aw' k j v) (hL : hV aw' 35 0 (rf t1)) (hP : hV aw' 47 1 (pt 0)) (hw : Fw aw aw') : HF t1 aw' := by
  obtain ⟨h1, h2, h3, g1, g2, g3, g4, m, g5, g6, g7⟩ := h
  have hcn : ∀ q ∈ hcL, ¬ (q.1 = 41 ∧ q.2.1 = 0) ∧ q.1 ≠ 11 ∧ ¬ (q.1 = 35 ∧ q.2.1 = 0) ∧ ¬ (q.1 = 47 ∧ q.2.1 = 1) := by decide
  refine ⟨fun q hq => hk _ _ _ (hcn q hq).1 (hcn q hq).2.1 (hcn q hq).2.2.1 (hcn q hq).2.2.2 (h1 q hq), K5_Fw hw h2, one_Fw hw h3, fun k j v e => e.2, hL, (fun e => by cases e), fun i hi => ?_, 0, by omega, hP, fun i hi => by omega⟩
  obtain ⟨z, z1, z2⟩ := g4 i hi
  exact ⟨z, z1, hk _ _ _ (by omega) (by omega) (by omega) (by omega) z2⟩
/-- a row of ints that isn't the life's stays -/
theorem dxs_row {aw1 aw' : rvH} {y n : Nat} {d : rvV} {ov : List (Nat × rvV)} (h : DXs aw1 aw') (e : aw1[y]? = some (.inr (0, n, d, ov))) (hy : y ≠ 35) (h6 : ∀ j, 6 ≤ j → j ≤ 10 → ∃ x, hV aw1 35 j (rf x) ∧ x ≠ y) (i : Nat) : ghI aw' y i = ghI aw1 y i := by
  obtain ⟨aw2, aw3, aw4, f1, q1, h3, h3r, hu, q2, f3, q3, qc⟩ := h
  have e2 := q1 y n d ov e
  have e3 : aw3[y]? = some (.inr (0, n, d, ov)) := by
    rw [h3r.1 y hy (fun j j1 j2 hv => ?_)]
    · exact e2
    · obtain ⟨x, x1, x2⟩ := h6 j j1 j2
      exact x2 (rf_inj (hV_one (hV_Fr f1 x1) hv))
  have e5 := q3 y n d ov (q2 y n d ov e3)
  exact ghI_same (by rw [e5, e]) i
theorem dxs_hV {aw1 aw' : rvH} (h : DXs aw1 aw') {k j : Nat} {v : rvV} (h1 : ¬ (k = 35 ∧ j = 0)) (h2 : ¬ (k = 47 ∧ j = 1)) (hv : hV aw1 k j v) : hV aw' k j v := by
  obtain ⟨aw2, aw3, aw4, f1, q1, h3, h3r, hu, q2, f3, q3, qc⟩ := h
  exact hV_Fr f3 (hu.2.1 k j v h2 (cf_old h3 h1 (hV_Fr f1 hv)))
theorem dxs_new {aw1 aw' : rvH} (h : DXs aw1 aw') {t : Nat} (hv : hV aw1 41 0 (rf t)) : hV aw' 35 0 (rf t) ∧ hV aw' 47 1 (pt 0) := by
  obtain ⟨aw2, aw3, aw4, f1, q1, h3, h3r, hu, q2, f3, q3, qc⟩ := h
  exact ⟨hV_Fr f3 (hu.2.1 35 0 _ (by omega) (cf_new h3 (hV_Fr f1 hv))), hV_Fr f3 hu.2.2⟩
/-- a town's rows behind the class's half -/
theorem TC_half {aw aw' : rvH} {t : Nat} {f : Nat → Int} {ys : List Nat} (hT : TC aw t f) (hys : ∀ j x, hV aw t j (rf x) → (j = 0 ∨ j = 2 ∨ j = 3) → x ∈ ys) (hw : Fw aw aw') (hv : ∀ j v, hV aw t j v → hV aw' t j v) (hr : ∀ y ∈ ys, ∀ i, ghI aw' y i = ghI aw y i) : TC aw' t f := TC_keep hw hv (fun j x i hx hj => hr x (hys j x hx hj) i) (fun i _ => rfl) hT
def dcRow (pc : Nat) (e : rvE) : Bool := match e with
  | (.invokevirtual _, _, a1, _) => (Nat.blt pc 9 && Nat.beq a1 17 && Nat.beq pc 8) || Nat.ble 11 pc
  | (.invokestatic _, _) => Nat.ble 11 pc
  | (.invokespecial _, _) => Nat.ble 11 pc
  | (.ireturn, _) => Nat.ble 11 pc
  | (.lreturn, _) => Nat.ble 11 pc
  | (.return_, _) => Nat.ble 11 pc
  | (i, _, a1, _) => (Nat.blt pc 9 && (hpB i && sqB i pc (fun t => Nat.blt t 9))) || (Nat.ble 11 pc && (nw11 i a1 && sqB i pc (fun t => Nat.ble 11 t)))
theorem dc_rows : (rvEn 235).all (fun ch => ch.2.all (fun q => dcRow q.1 q.2)) = true := by decide +kernel
theorem dc_nx : (rvEn 235).all (fun ch => ch.2.all (fun q => noX q.2)) = true := by decide +kernel
theorem sp_districtCls (as : List rvV) (aw : rvH) : PCM rvTab rvInf rvRet 316 rvMth 235 as aw (fun res => ∃ fs, res.2[aw.length]? = some (.inl (10, fs))) := by
  refine PCM_of (fun _ _ => ?_)
  have hrow : ∀ {pc : Nat} {e : rvE}, rvTab 235 pc = some e → dcRow pc e = true := fun ht => rows_all (f := dcRow) dc_rows ht
  refine T_run (R := fun o => (o.1 < 9 ∧ o.2.2.2.1 = aw) ∨ (11 ≤ o.1 ∧ ∃ fs, o.2.2.2.1[aw.length]? = some (.inl (10, fs)))) (noX_ok dc_nx) ?_ ?_ ?_ ?_ _ (Or.inl ⟨by show 0 < 9; omega, rfl⟩)
  · intro o o' i len a1 a2 a3 wi ht hs hr
    have hq := hrow ht
    have gen : ((Nat.blt o.1 9 && (hpB i && sqB i o.1 (fun t => Nat.blt t 9))) || (Nat.ble 11 o.1 && (nw11 i a1 && sqB i o.1 (fun t => Nat.ble 11 t)))) = true → (o'.1 < 9 ∧ o'.2.2.2.1 = aw) ∨ (11 ≤ o'.1 ∧ ∃ fs, o'.2.2.2.1[aw.length]? = some (.inl (10, fs))) := by
      intro hg
      rcases rv_or' hg with hg | hg
      · obtain ⟨b1, hg⟩ := rv_and hg
        obtain ⟨b2, b3⟩ := rv_and hg
        have b1 := rv_blt b1
        rcases hr with ⟨e1, e2⟩ | ⟨e1, e2⟩
        · exact Or.inl ⟨rv_blt ((tStep hs).1 _ b3), by rw [(tStep hs).2.2 b2, e2]⟩
        · omega
      · obtain ⟨b1, hg⟩ := rv_and hg
        obtain ⟨b2, b3⟩ := rv_and hg
        have b1 := rv_ble b1
        rcases hr with ⟨e1, e2⟩ | ⟨e1, e2⟩
        · omega
        · exact Or.inr ⟨rv_ble ((tStep hs).1 _ b3), c10_Fw (fwStep b2 hs) e2⟩
    cases i
    case invokevirtual x => exact absurd hs (fun q => ev_no (Or.inr (Or.inl ⟨_, rfl⟩)) q)
    case invokestatic x => exact absurd hs (fun q => ev_no (Or.inl ⟨_, rfl⟩) q)
    case invokespecial x => exact absurd hs (fun q => ev_no (Or.inr (Or.inr (Or.inl ⟨_, rfl⟩))) q)
    case ireturn => exact absurd hs (fun q => ev_no (Or.inr (Or.inr (Or.inr (Or.inl rfl)))) q)
    case lreturn => exact absurd hs (fun q => ev_no (Or.inr (Or.inr (Or.inr (Or.inr (Or.inl rfl))))) q)
    case return_ => exact absurd hs (fun q => ev_no (Or.inr (Or.inr (Or.inr (Or.inr (Or.inr rfl))))) q)
    all_goals exact gen hq
  · intro o o' idx len a1 a2 a3 wi ht h8 hs hr
    have h4 : Nat.ble 11 o.1 = true := hrow ht
    have h4 := rv_ble h4
    obtain ⟨f1, f2, f3⟩ := frCopy hs
    rcases hr with ⟨e1, -⟩ | ⟨e1, e2⟩
    · omega
    · exact Or.inr ⟨by omega, c10_Fw (fwCopy hs) e2⟩
  · intro pc al st aw' kc ks j2 as' rest hr hi hm
    obtain ⟨i, len, a2, a3, wi, ht, hc⟩ := xInv_cr hi
    have hq := hrow ht
    have big : 11 ≤ pc → ∃ Q, PCM rvTab rvInf rvRet 316 rvMth j2 as' aw' Q ∧ ∀ res, Q res → ∀ kc' ks' : Nat, ((pc + 3 < 9 ∧ res.2 = aw) ∨ (11 ≤ pc + 3 ∧ ∃ fs, res.2[aw.length]? = some (.inl (10, fs)))) := by
      intro h11
      rcases hr with ⟨e1, -⟩ | ⟨e1, e2⟩
      · have e1 : pc < 9 := e1
        omega
      · exact ⟨_, sp_kinds j2 as' aw', fun res hres kc' ks' => Or.inr ⟨by omega, c10_Fw hres e2⟩⟩
    rcases hc with ⟨⟨x, rfl⟩, -⟩ | ⟨x, rfl⟩ | ⟨⟨x, rfl⟩, -⟩
    · have hq : Nat.ble 11 pc = true := hq
      exact big (rv_ble hq)
    · have hq : ((Nat.blt pc 9 && Nat.beq j2 17 && Nat.beq pc 8) || Nat.ble 11 pc) = true := hq
      rcases rv_or' hq with hq | hq
      · obtain ⟨hq, b3⟩ := rv_and hq
        obtain ⟨b1, b2⟩ := rv_and hq
        have b2 := rv_beq b2
        have b3 := rv_beq b3
        subst b2; subst b3
        rcases hr with ⟨e1, e2⟩ | ⟨e1, e2⟩
        · have e2 : aw' = aw := e2
          subst e2
          exact ⟨_, sp_readCls as' aw', fun res hres kc' ks' => Or.inr ⟨by show 11 ≤ 8 + 3; omega, hres⟩⟩
        · have e1 : 11 ≤ 8 := e1
          omega
      · exact big (rv_ble hq)
    · have hq : Nat.ble 11 pc = true := hq
      exact big (rv_ble hq)
  · intro o i len a1 a2 a3 wi ht hi hr
    have hq := hrow ht
    have h4 : 11 ≤ o.1 := by
      rcases hi with rfl | rfl | rfl
      all_goals
        have hq : Nat.ble 11 o.1 = true := hq
        exact rv_ble hq
    rcases hr with ⟨e1, -⟩ | ⟨e1, e2⟩
    · omega
    · exact e2
theorem cX_town {r : List Int} {T pl : List Nat} {aw : rvH} (h : lwInv r T pl aw) (hP : PI pl aw) (hp : pl = rzPl) (hT : HT aw) : ∃ (g : Nat → Nat) (kL : Nat) (r0 : Int × hH), GHOK T pl aw g kL ∧ f_X1_read 941 (ghH g aw ((0, 1, kL) :: ghR0) 60) = some r0 ∧ PCM rvTab rvInf rvRet 316 rvMth 235 [rf 0] aw (fun res => DA aw r0 res.2) := by
  have hS := gS_inv h
  obtain ⟨hkn, t0, hF, hTC, hIm⟩ := hT
  obtain ⟨g, kL, hg⟩ := gh_mk hS
  obtain ⟨g0, g13, g52, gL, g4, g31⟩ := g_at (r := r) hS hp hF hg
  obtain ⟨r0, r0', a1, a2, a3, a4, a5, a6⟩ := rd_g h hP hg hg.hi (fun n _ => rfl)
  refine ⟨g, kL, r0, hg, a1, ?_⟩
  rw [g13, g52] at a6
  obtain ⟨ta, ia1, ia2⟩ := hIm 0 (by omega)
  obtain ⟨tb, ib1, ib2⟩ := hIm 1 (by omega)
  -- the rows of the three towns
  have rows : ∀ {t : Nat} {f : Nat → Int}, TC aw t f → (∃ k, (k = 35 ∨ ∃ n, n < 2 ∧ k = ti2 n) ∧ hV aw k 0 (rf t)) → ∃ ys : List Nat, (∀ j x, hV aw t j (rf x) → (j = 0 ∨ j = 2 ∨ j = 3) → x ∈ ys) ∧ ∀ y ∈ ys, ∃ q, T[y]? = some q ∧ (q = 7 ∨ q = 9 ∨ q = 10) := by
    intro t f ht hk
    obtain ⟨-, c, m, x, h1, h2, h3, -⟩ := ht
    obtain ⟨k, k1, k2⟩ := hk
    refine ⟨[c, m, x], fun j z hz hj => ?_, fun y hy => ?_⟩
    · rcases hj with rfl | rfl | rfl
      · have := rf_inj (hV_one hz h1); subst this; simp
      · have := rf_inj (hV_one hz h2); subst this; simp
      · have := rf_inj (hV_one hz h3); subst this; simp
    · simp only [List.mem_cons, List.not_mem_nil, or_false] at hy
      rcases hy with rfl | rfl | rfl
      · exact ⟨7, (town_T hp hS hF k1 k2 h1).1 rfl, Or.inl rfl⟩
      · exact ⟨9, (town_T hp hS hF k1 k2 h2).2.1 rfl, Or.inr (Or.inl rfl)⟩
      · exact ⟨10, (town_T hp hS hF k1 k2 h3).2.2 rfl, Or.inr (Or.inr rfl)⟩
  obtain ⟨y0, y01, y02⟩ := rows hTC ⟨35, Or.inl rfl, hF.2.2.2.2.1⟩
  obtain ⟨ya, ya1, ya2⟩ := rows ia2 ⟨ti2 0, Or.inr ⟨0, by omega, rfl⟩, ia1⟩
  obtain ⟨yb, yb1, yb2⟩ := rows ib2 ⟨ti2 1, Or.inr ⟨1, by omega, rfl⟩, ib1⟩
  have hys : ∀ y ∈ y0 ++ (ya ++ yb), ∃ q, T[y]? = some q ∧ (q = 7 ∨ q = 9 ∨ q = 10) := fun y hy => by
    rcases List.mem_append.mp hy with e | e
    · exact y02 y e
    · rcases List.mem_append.mp e with e | e
      · exact ya2 y e
      · exact yb2 y e
  have pOld : PCM rvTab rvInf rvRet 316 rvMth 17 [rf 11, rf 41] aw (fun res => ∀ y ∈ y0 ++ (ya ++ yb), ∀ j, ghI res.2 y j = ghI aw y j) := PCM_list _ (fun y hy => by
    obtain ⟨q, q1, q2⟩ := hys y hy
    have := old_row h hP hg q1 q2 (g_row (r := r) hS hp hF hg q1 q2)
    rw [g13, g52] at this
    exact this)
  have hlen : 103 < aw.length := by
    have := hV_lt ib1
    unfold ti2 at this
    omega
  have h35 : ∃ fs, aw[35]? = some (.inl (2, fs)) := hkn.1 35 (Or.inl rfl)
  have h6 : ∀ j, 6 ≤ j → j ≤ 10 → ∃ x, hV aw 35 j (rf x) ∧ T[x]? = some (j - 5) := by
    intro j j1 j2
    have t35 := (HF_T hp hS hF).1
    obtain ⟨c, e1, e2⟩ := gh_at hS t35
    obtain ⟨fs, e3⟩ := h35
    have fin : ∀ q, xTyp xRgn 0 j = some (.inr (20, q)) → prF 2 j = true → ∃ x, hV aw 35 j (rf x) ∧ T[x]? = some q := by
      intro q hq hpr
      obtain ⟨x, x1, c', x2, x3⟩ := gh_r20 (j := j) e1 e2 hq
      rw [e3] at x2
      have x2 := Option.some.inj x2
      subst x2
      exact ⟨x, ⟨_, e3, hpr, x3⟩, x1⟩
    have : j = 6 ∨ j = 7 ∨ j = 8 ∨ j = 9 ∨ j = 10 := by omega
    rcases this with rfl | rfl | rfl | rfl | rfl
    · exact fin 1 rfl rfl
    · exact fin 2 rfl rfl
    · exact fin 3 rfl rfl
    · exact fin 4 rfl rfl
    · exact fin 5 rfl rfl
  have hdx := sp_districtX (aw := aw) hF.1 hlen (PCM_and (PCM_and (PCM_and a6 (PCM_ex jw (fun v hv => by
    rcases List.mem_cons.mp hv with e | hv
    · rw [e]; trivial
    · rw [List.mem_singleton.mp hv]; trivial) hP.1)) (PCM_and pOld (sp_kinds 17 _ aw))) (sp_readCls [rf 11, rf 41] aw)) (fun res hres => ⟨⟨_, hres.1.1.1.1⟩, hres.1.1.2.2⟩)
  refine PCM_mono (fun res hres => ?_) (PCM_and (PCM_and hdx (sp_kinds 235 _ aw)) (sp_districtCls [rf 0] aw))
  obtain ⟨⟨⟨r1, aw1, ⟨⟨⟨⟨-, hRH⟩, -, hex⟩, hold, hw1⟩, hcls⟩, hd, hcase⟩, hw⟩, hcl2⟩ := hres
  have hRH : RH g aw1 r0.2 := hRH
  have hold : ∀ y ∈ y0 ++ (ya ++ yb), ∀ j, ghI aw1 y j = ghI aw y j := hold
  have hw1 : Fw aw aw1 := hw1
  have keep1 : ∀ (k j : Nat) (v : rvV), ¬ (k = 41 ∧ j = 0) → k ≠ 11 → hV aw k j v → hV aw1 k j v := fun k j v b1 b2 hv => hd.1 k j v (hV_lt hv) b1 b2 hv
  have hf13 : ∀ z, hI aw1 1 13 z → r0.2.1 4 13 = z := fun z hz => hRH.2.1 4 13 z (by rw [g4]; exact hz)
  -- old rows are rows of ints behind the reader
  have rowI : ∀ y ∈ y0 ++ (ya ++ yb), ∃ n d ov, aw1[y]? = some (.inr (0, n, d, ov)) := by
    intro y hy
    obtain ⟨q, q1, q2⟩ := hys y hy
    obtain ⟨c, c1, c2⟩ := gh_at hS q1
    obtain ⟨c', e', sh⟩ := hw1.2.1 y _ c1
    rcases q2 with rfl | rfl | rfl
    all_goals
      rcases c with ⟨ci, fs⟩ | ⟨k', n', d, ov⟩
      · exact absurd c2 id
      · have : (0 : Nat) = k' := c2.1
        subst this
        rcases c' with ⟨ci, fs⟩ | ⟨q', n'', d', ov'⟩
        · exact absurd sh id
        · obtain ⟨rfl, rfl⟩ := sh
          exact ⟨_, _, _, e'⟩
  have nT : ∀ {t : Nat}, (∃ fs, aw[t]? = some (.inl (10, fs))) → t ≠ 41 ∧ t ≠ 11 ∧ t ≠ 35 ∧ t ≠ 47 := by
    intro t ht
    have o1 := okE_t hkn ht (j := 0)
    have o2 := okE_t hkn ht (j := 1)
    refine ⟨fun e => o1.2.2 ⟨Or.inr (Or.inl e), rfl⟩, fun e => ?_, fun e => o1.2.2 ⟨Or.inl e, rfl⟩, fun e => o2.1 ⟨e, rfl⟩⟩
    subst e
    obtain ⟨i, c, p1, p2, p3, p4⟩ := gh_st hS (k := 13) (by omega)
    have e11 : (11 : Nat) = i := by
      rw [hp] at p1
      exact Option.some.inj p1
    subst e11
    obtain ⟨fs, e⟩ := ht
    rw [e] at p3
    have p3 := Option.some.inj p3
    subst p3
    have : (10 : Nat) = 1 := p4.1.symm
    omega
  rcases hcase with ⟨z, hz, hz0, hdf⟩ | ⟨hz, hds⟩
  · -- a FAULT
    have hkF : ∀ (k j : Nat) (v : rvV), ¬ (k = 41 ∧ j = 0) → k ≠ 11 → hV aw k j v → hV res.2 k j v := fun k j v b1 b2 hv => hV_Fr hdf.1 (keep1 k j v b1 b2 hv)
    have hrow : ∀ y ∈ y0 ++ (ya ++ yb), ∀ i, ghI res.2 y i = ghI aw y i := fun y hy i => by
      obtain ⟨n, d, ov, e⟩ := rowI y hy
      rw [K0_ghI hdf.2 e, hold y hy]
    have tc : ∀ {t : Nat} {f : Nat → Int} {ys : List Nat}, TC aw t f → (∀ j x, hV aw t j (rf x) → (j = 0 ∨ j = 2 ∨ j = 3) → x ∈ ys) → (∀ y ∈ ys, y ∈ y0 ++ (ya ++ yb)) → TC res.2 t f := fun ht hy hs => TC_half ht hy hw (fun j v hv => hkF _ j v (fun q => (nT ht.1).1 q.1) (nT ht.1).2.1 hv) (fun y hy => hrow y (hs y hy))
    refine ⟨KN_Fw hw hkn, fun n hn => ?_, Or.inl ⟨by rw [hf13 z hz]; exact hz0, t0, HF_keepF hF hkF hw, tc hTC y01 (fun y hy => List.mem_append_left _ hy)⟩⟩
    have : n = 0 ∨ n = 1 := by omega
    rcases this with rfl | rfl
    · exact ⟨ta, hkF _ _ _ (by unfold ti2; omega) (by unfold ti2; omega) ia1, tc ia2 ya1 (fun y hy => List.mem_append_right _ (List.mem_append_left _ hy))⟩
    · exact ⟨tb, hkF _ _ _ (by unfold ti2; omega) (by unfold ti2; omega) ib1, tc ib2 yb1 (fun y hy => List.mem_append_right _ (List.mem_append_right _ hy))⟩
  · -- a district
    have hkS : ∀ (k j : Nat) (v : rvV), ¬ (k = 41 ∧ j = 0) → k ≠ 11 → ¬ (k = 35 ∧ j = 0) → ¬ (k = 47 ∧ j = 1) → hV aw k j v → hV res.2 k j v := fun k j v b1 b2 b3 b4 hv => dxs_hV hds b3 b4 (keep1 k j v b1 b2 hv)
    have h6' : ∀ j, 6 ≤ j → j ≤ 10 → ∃ x, hV aw1 35 j (rf x) ∧ T[x]? = some (j - 5) := fun j j1 j2 => by
      obtain ⟨x, x1, x2⟩ := h6 j j1 j2
      exact ⟨x, keep1 _ _ _ (by omega) (by omega) x1, x2⟩
    have h35' : ∀ y, (∃ n d ov, aw1[y]? = some (.inr (0, n, d, ov))) → y ≠ 35 := fun y hy e => by
      subst e
      obtain ⟨n, d, ov, e⟩ := hy
      obtain ⟨fs, e3⟩ := h35
      obtain ⟨c', e', sh⟩ := hw1.2.1 35 _ e3
      rw [e] at e'
      have e' := Option.some.inj e'
      subst e'
      exact sh
    have hrow : ∀ y ∈ y0 ++ (ya ++ yb), ∀ i, ghI res.2 y i = ghI aw y i := fun y hy i => by
      obtain ⟨n, d, ov, e⟩ := rowI y hy
      obtain ⟨q, q1, q2⟩ := hys y hy
      rw [dxs_row hds e (h35' y ⟨n, d, ov, e⟩) (fun j j1 j2 => by
        obtain ⟨x, x1, x2⟩ := h6' j j1 j2
        refine ⟨x, x1, fun e => ?_⟩
        rw [e, q1] at x2
        have := Option.some.inj x2
        omega), hold y hy]
    have tc : ∀ {t : Nat} {f : Nat → Int} {ys : List Nat}, TC aw t f → (∀ j x, hV aw t j (rf x) → (j = 0 ∨ j = 2 ∨ j = 3) → x ∈ ys) → (∀ y ∈ ys, y ∈ y0 ++ (ya ++ yb)) → TC res.2 t f := fun ht hy hs => TC_half ht hy hw (fun j v hv => hkS _ j v (fun q => (nT ht.1).1 q.1) (nT ht.1).2.1 (fun q => (nT ht.1).2.2.1 q.1) (fun q => (nT ht.1).2.2.2 q.1) hv) (fun y hy => hrow y (hs y hy))
    obtain ⟨n1, n2⟩ := dxs_new hds hd.2
    -- the new town
    have g60 : g 60 = aw.length := by rw [hg.hn 60 (by omega)]; omega
    have newR : ∀ j m, (f_X1_pre (ghH g aw ((0, 1, kL) :: ghR0) 60)).2.2.1 60 j = some m → ¬ j = 1000 → prF 10 j = true → hV aw1 aw.length j (rf (g m)) := by
      intro j m e hj hpr
      have hk := hRH.2.2.2.1 60 j m (by rw [a5]; exact e)
      unfold hK at hk
      rw [if_neg hj, g60] at hk
      obtain ⟨c, c1, c2⟩ := hk
      obtain ⟨fs, e3⟩ := hcls
      have e3 : aw1[aw.length]? = some (.inl (10, fs)) := e3
      rw [e3] at c1
      have c1 := Option.some.inj c1
      subst c1
      exact ⟨_, e3, hpr, c2⟩
    have newC : ∀ m, 60 ≤ m → res.2[g m]? = aw1[g m]? := by
      intro m hm
      have hge : aw.length ≤ g m := by rw [hg.hn m hm]; omega
      have hds' := hds
      obtain ⟨aw2, aw3, aw4, f1, q1, h3, h3r, hu, q2, f3, q3, qc⟩ := hds'
      refine qc (g m) (by omega) (by omega) (by omega) (by omega) (fun j j1 j2 hv => ?_)
      obtain ⟨x, x1, x2⟩ := h6' j j1 j2
      have e := rf_inj (hV_one (hV_Fr f1 x1) hv)
      have h1 := (List.getElem?_eq_some_iff.mp x2).1
      have := gh_len hS
      omega
    have newV : ∀ m, 60 ≤ m → ∀ (len : Nat), isI res.2 (g m) len → ∀ i, i < len → ghI res.2 (g m) i = r0.2.1 m i := by
      intro m hm len hc i hi
      obtain ⟨d, ov, e⟩ := hc
      have e1 := e
      rw [newC m hm] at e1
      rw [ghI_same (newC m hm)]
      refine (hRH.2.1 m i _ ⟨_, e1, ?_⟩).symm
      show (bif Nat.blt i len then some (rvLook d ov i) else none) = _
      rw [show Nat.blt i len = true from Nat.ble_eq_true_of_le hi, row_look hex (by omega) e1 hi]
      rfl
    have v0 := newR 0 61 rfl (by decide) rfl
    have v2 := newR 2 63 rfl (by decide) rfl
    have v3 := newR 3 64 rfl (by decide) rfl
    have vk : ∀ j v, hV aw1 aw.length j v → hV res.2 aw.length j v := fun j v hv => dxs_hV hds (fun q => by omega) (fun q => by omega) hv
    refine ⟨KN_Fw hw hkn, fun n hn => ?_, Or.inr ⟨hf13 0 hz, aw.length, HF_keepS hF hkS n1 n2 hw, hcl2, g 61, g 63, g 64, vk 0 _ v0, vk 2 _ v2, vk 3 _ v3, fun hc i hi => ?_, fun hc i hi => ?_, fun hc i hi => ?_⟩⟩
    · have : n = 0 ∨ n = 1 := by omega
      rcases this with rfl | rfl
      · exact ⟨ta, hkS _ _ _ (by unfold ti2; omega) (by unfold ti2; omega) (by unfold ti2; omega) (by unfold ti2; omega) ia1, tc ia2 ya1 (fun y hy => List.mem_append_right _ (List.mem_append_left _ hy))⟩
      · exact ⟨tb, hkS _ _ _ (by unfold ti2; omega) (by unfold ti2; omega) (by unfold ti2; omega) (by unfold ti2; omega) ib1, tc ib2 yb1 (fun y hy => List.mem_append_right _ (List.mem_append_right _ hy))⟩
    · rw [newV 61 (by omega) 4 hc i hi]
      unfold fN
      rw [if_pos hi]
    · rw [newV 63 (by omega) 10 hc i hi]
      unfold fN
      rw [if_neg (by omega), if_pos (by omega), show 24 + i - 24 = i by omega]
    · rw [newV 64 (by omega) 30 hc i hi]
      unfold fN
      rw [if_neg (by omega), if_neg (by omega), show 55 + i - 55 = i by omega]
