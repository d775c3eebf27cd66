/-! The class's reader from the head, with any names of cells (by hand). -/
/-- cells whose names matter -/
def ndB (kL n : Nat) : Prop := n = 0 ∨ (4 ≤ n ∧ n ≤ 10) ∨ n = 13 ∨ (29 ≤ n ∧ n ≤ 35) ∨ (52 ≤ n ∧ n ≤ 57) ∨ n = kL ∨ 60 ≤ n
theorem nd_R0 (kL : Nat) : ∀ q ∈ ghR0, ndB kL q.1 ∧ (¬ q.2.1 = 1000 → ndB kL q.2.2) := by
  unfold ghR0
  simp only [List.forall_mem_cons]
  unfold ndB
  refine ⟨?_, ?_, ?_, ?_, ?_, ?_, ?_, ?_, ?_, ?_, ?_, ?_, ?_, ?_, ?_, ?_, ?_, ?_, ?_, ?_, ?_, ?_, ?_, ?_, ?_, ?_, fun q hq => by cases hq⟩
  all_goals first
    | exact ⟨by omega, fun _ => by omega⟩
    | exact ⟨by omega, fun e => absurd trivial e⟩
theorem rd_g {r : List Int} {T pl : List Nat} {aw : rvH} {g g' : Nat → Nat} {kL : Nat} (h : lwInv r T pl aw) (hP : PI pl aw) (hg : GHOK T pl aw g kL) (hi : ∀ a b, g' a = g' b → a = b) (hn : ∀ n, ndB kL n → g' n = g n) : ∃ r0 r0' : Int × hH, f_X1_read 941 (ghH g' aw ((0, 1, kL) :: ghR0) 60) = some r0 ∧ f_X12_district 941 (ghH g' aw ((0, 1, kL) :: ghR0) 60) = some r0' ∧ (∀ a b, a < 4 → r0.2.1 a b = ghI aw (g' a) b) ∧ (r0.2.1 4 13 = 0 → pd_SC r0 r0') ∧ r0.2.2.2 = (f_X1_pre (ghH g' aw ((0, 1, kL) :: ghR0) 60)).2.2 ∧ PCM rvTab rvInf rvRet 316 rvMth 17 [rf (g 13), rf (g 52)] aw (fun res => res.1 = some (pt r0.1) ∧ RH g' res.2 r0.2) := by
  have hS := gS_inv h
  obtain ⟨hx, hw5, hw8, hby⟩ := hP
  obtain ⟨N, n1, n2, n3⟩ := gh_size h
  have hp := hg.hp
  have e4 : g' 4 = g 4 := hn 4 (by unfold ndB; omega)
  have e5 : g' 5 = g 5 := hn 5 (by unfold ndB; omega)
  have e6 : g' 6 = g 6 := hn 6 (by unfold ndB; omega)
  have e29 : g' 29 = g 29 := hn 29 (by unfold ndB; omega)
  have e30 : g' 30 = g 30 := hn 30 (by unfold ndB; omega)
  have e35 : g' 35 = g 35 := hn 35 (by unfold ndB; omega)
  have e13 : g' 13 = g 13 := hn 13 (by unfold ndB; omega)
  have e52 : g' 52 = g 52 := hn 52 (by unfold ndB; omega)
  have eN : ∀ n, 60 ≤ n → g' n = aw.length + (n - 60) := fun n hq => by rw [hn n (by unfold ndB; omega)]; exact hg.hn n hq
  have hK : ∀ q ∈ (0, 1, kL) :: ghR0, hK g' aw q.1 q.2.1 q.2.2 := by
    intro q hq
    have key : ∀ p j k, ndB kL p → (¬ j = 1000 → ndB kL k) → _root_.Jvm.Pilot.COboeDistrictLaw_law_r2378_e1acae.hK g aw p j k → _root_.Jvm.Pilot.COboeDistrictLaw_law_r2378_e1acae.hK g' aw p j k := by
      intro p j k h1 h2 h3
      unfold _root_.Jvm.Pilot.COboeDistrictLaw_law_r2378_e1acae.hK at h3 ⊢
      rw [hn p h1]
      by_cases e : j = 1000
      · rw [if_pos e] at h3 ⊢
        exact h3
      · rw [if_neg e] at h3 ⊢
        rw [hn k (h2 e)]
        exact h3
    rcases List.mem_cons.mp hq with e | hq
    · subst e
      exact key 0 1 kL (Or.inl rfl) (fun _ => by unfold ndB; omega) hg.hL
    · obtain ⟨q1, q2⟩ := nd_R0 kL q hq
      exact key _ _ _ q1 q2 (hg.hr q hq)
  have hR : RH g' aw (ghH g' aw ((0, 1, kL) :: ghR0) 60) := ghH_ok hx hK (by rw [eN 60 (by omega)]; omega) hi
  have hN60 : ∀ a, 60 ≤ a → aw.length ≤ g' a := fun a ha => by rw [eN a ha]; omega
  have ez : ∀ a b, 60 ≤ a → (ghH g' aw ((0, 1, kL) :: ghR0) 60).1 a b = 0 := fun a b ha => (hR.2.2.2.2.2.1 a b (hN60 a ha)).1
  have w5 : pd_hW5 (ghH g' aw ((0, 1, kL) :: ghR0) 60) := fun i hq => by
    show ghL aw (g' 6) i = _
    rw [e6]; exact hw5 (g 6) i (hp 6 (by omega)) hq
  have w8 : pd_hW8 (ghH g' aw ((0, 1, kL) :: ghR0) 60) := fun i hq => by
    show ghL aw (g' 35) i = _
    rw [e35]; exact hw8 (g 35) i (hp 35 (by omega)) hq
  have b5 : ∀ i, (ghH g' aw ((0, 1, kL) :: ghR0) 60).1 5 i = ghI aw (g 5) i := fun i => by show ghI aw (g' 5) i = _; rw [e5]
  have b30 : ∀ i, (ghH g' aw ((0, 1, kL) :: ghR0) 60).1 30 i = ghI aw (g 5) i := fun i => by
    show ghI aw (g' 30) i = _
    rw [e30]; exact (hby _ _ (hp 5 (by omega)) (hp 30 (by omega)) i).symm
  have s4 : (ghH g' aw ((0, 1, kL) :: ghR0) 60).1 4 2 = (N : Int) := by show ghI aw (g' 4) 2 = _; rw [e4]; exact n2 _ (hp 4 (by omega))
  have s29 : (ghH g' aw ((0, 1, kL) :: ghR0) 60).1 29 2 = (N : Int) := by show ghI aw (g' 29) 2 = _; rw [e29]; exact n3 _ (hp 29 (by omega))
  obtain ⟨r0, r0', a1, a2, a3, a4, a5⟩ := pd_qDistrict (B := fun i => ghI aw (g 5) i) n1 (fun i => gh_by hS (hp 5 (by omega)) i) b5 s4 w5 ez b30 s29 w8
  obtain ⟨r1, r1', c1, c2, c3, c4⟩ := pd_pDistrict2 (B := fun i => ghI aw (g 5) i) n1 (fun i => gh_by hS (hp 5 (by omega)) i) b5 s4 w5 ez b30 s29 w8
  have e : r0 = r1 := by rw [a1] at c1; exact Option.some.inj c1
  subst e
  refine ⟨r0, r0', a1, a2, a3, a4, c4, ?_⟩
  have hsp := sp_X1_read (g := g') 941 (ghH g' aw ((0, 1, kL) :: ghR0) 60) rfl (fun n hq => by rw [eN n hq, eN (n + 1) (by omega)]; omega) (gh_RF g' aw kL) rfl rfl rfl rfl a1 aw hR
  rw [e13, e52] at hsp
  exact hsp (fun v hv => by
    rcases List.mem_cons.mp hv with e | hv
    · rw [e]; trivial
    · rw [List.mem_singleton.mp hv]; trivial)
/-- a row of an old town stays behind the class's reader -/
theorem old_row {r : List Int} {T pl : List Nat} {aw : rvH} {g : Nat → Nat} {kL y q : Nat} (h : lwInv r T pl aw) (hP : PI pl aw) (hg : GHOK T pl aw g kL) (hy : T[y]? = some q) (hq : q = 7 ∨ q = 9 ∨ q = 10) (hne : ∀ n, ndB kL n → g n ≠ y) : PCM rvTab rvInf rvRet 316 rvMth 17 [rf (g 13), rf (g 52)] aw (fun res => ∀ j, ghI res.2 y j = ghI aw y j) := by
  have hS := gS_inv h
  by_cases k1 : ndB kL 1
  · have : kL = 1 := by unfold ndB at k1; omega
    subst this
    exfalso
    have hL := hg.hL
    unfold hK at hL
    rw [if_neg (by decide)] at hL
    obtain ⟨i, c, p1, p2, p3, p4⟩ := gh_st hS (k := 0) (by omega)
    have e0 : g 0 = i := by have := hg.hp 0 (by omega); rw [p1] at this; exact (Option.some.inj this).symm
    obtain ⟨x, x1, c', x2, x3⟩ := gh_r20 (j := 1) (q := 0) p3 p4 rfl
    obtain ⟨c'', y2, y3⟩ := hL
    rw [e0] at y2
    rw [x2] at y2
    have y2 := Option.some.inj y2
    subst y2
    rw [x3] at y3
    have : x = g 1 := (Prod.mk.inj (Sum.inr.inj (Option.some.inj y3))).2
    obtain ⟨i', c1, q1, q2, -⟩ := gh_st hS (k := 1) (by omega)
    have e1 : g 1 = i' := by have := hg.hp 1 (by omega); rw [q1] at this; exact (Option.some.inj this).symm
    rw [this, e1, q2] at x1
    have := Option.some.inj x1
    omega
  · obtain ⟨g', hg'⟩ : ∃ g' : Nat → Nat, g' = fun n => if n = 1 then y else if g n = y then g 1 else g n := ⟨_, rfl⟩
    have hn : ∀ n, ndB kL n → g' n = g n := fun n hq => by
      rw [hg']
      dsimp only
      rw [if_neg (show ¬ n = 1 from fun e => k1 (by rw [← e]; exact hq)), if_neg (hne n hq)]
    have hinj : ∀ a b, g' a = g' b → a = b := by
      intro a b e
      rw [hg'] at e
      dsimp only at e
      by_cases a1 : a = 1
      · by_cases b1 : b = 1
        · omega
        · rw [if_pos a1, if_neg b1] at e
          by_cases b2 : g b = y
          · rw [if_pos b2] at e
            have := hg.hi _ _ (b2.trans e)
            omega
          · rw [if_neg b2] at e
            exact absurd e.symm b2
      · by_cases b1 : b = 1
        · rw [if_neg a1, if_pos b1] at e
          by_cases a2 : g a = y
          · rw [if_pos a2] at e
            have := hg.hi _ _ (a2.trans e.symm)
            omega
          · rw [if_neg a2] at e
            exact absurd e a2
        · rw [if_neg a1, if_neg b1] at e
          by_cases a2 : g a = y
          · by_cases b2 : g b = y
            · exact hg.hi _ _ (a2.trans b2.symm)
            · rw [if_pos a2, if_neg b2] at e
              have := hg.hi _ _ e
              omega
          · by_cases b2 : g b = y
            · rw [if_neg a2, if_pos b2] at e
              have := hg.hi _ _ e
              omega
            · rw [if_neg a2, if_neg b2] at e
              exact hg.hi _ _ e
    obtain ⟨r0, r0', a1, a2, a3, a4, a5, a6⟩ := rd_g h hP hg hinj hn
    have g1 : g' 1 = y := by rw [hg']; rfl
    obtain ⟨c, c1, c2⟩ := gh_at hS hy
    obtain ⟨n, d, ov, hc⟩ : ∃ n d ov, c = .inr (0, n, d, ov) := by
      rcases hq with rfl | rfl | rfl
      all_goals
        rcases c with ⟨ci, fs⟩ | ⟨k', n', d, ov⟩
        · exact absurd c2 id
        · have : (0 : Nat) = k' := c2.1
          subst this
          exact ⟨_, _, _, rfl⟩
    subst hc
    refine PCM_mono (fun res hres => ?_) (PCM_and a6 (sp_kinds 17 _ aw))
    obtain ⟨⟨h1, hRH⟩, hw⟩ := hres
    obtain ⟨c', e', sh⟩ := hw.2.1 y _ c1
    rcases c' with ⟨ci, fs⟩ | ⟨q', n', d', ov'⟩
    · exact absurd sh id
    · obtain ⟨rfl, rfl⟩ := sh
      intro j
      by_cases hj : j < n'
      · have hl := row_look hRH.1 (by omega) e' hj
        have hI1 : hI res.2 (g' 1) j (ghI res.2 y j) := by
          rw [g1]
          refine ⟨_, e', ?_⟩
          show (bif Nat.blt j n' then some (rvLook d' ov' j) else none) = _
          rw [show Nat.blt j n' = true from Nat.ble_eq_true_of_le hj, hl]
          rfl
        have := hRH.2.1 1 j _ hI1
        rw [← this, a3 1 j (by omega), g1]
      · rw [ghI_row e', ghI_row c1, if_neg hj, if_neg hj]
