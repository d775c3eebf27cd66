/-! The names behind district: the reference's half, both (written by wip/p42/gen_tn3.py). -/
theorem cM_names {r : List Int} {T pl : List Nat} {aw : rvH} {g : Nat → Nat} {kL : Nat} {r0 : Int × hH} (h : lwInv r T pl aw) (hP : PI pl aw) (hp : pl = rzPl) (hg : GHOK T pl aw g kL) (hr0 : f_X1_read 941 (ghH g aw ((0, 1, kL) :: ghR0) 60) = some r0) (T1 : List Nat) (aw1 : rvH) (ms : List Nat) (hS1 : gS T1 pl aw1) (hx1 : exH aw1) (hf : lwFr ms T pl aw T1 pl aw1) (m29 : ghNo ms 89 = true) (m30 : ghNo ms 90 = true) (m35 : ghNo ms 95 = true) : PCM rvTab rvInf rvRet 316 rvMth 24 [rf 109] aw1 (fun res => (¬ r0.2.1 4 13 = 0 → ∀ b, b < 20 → ghL res.2 114 b = ghL aw1 114 b) ∧ (r0.2.1 4 13 = 0 → ∀ s, s < 4 → ∃ n : Nat, n ≤ pd_tMost s ∧ r0.2.1 61 s = (n : Int) ∧ ∀ i, i < n → ∃ r, pd_vR r ∧ r0.2.2.1 62 (10 * s + i) = pd_tF5 r ∧ ghL res.2 114 (sn_base s + i) = pd_tF8 r)) := by
  have hS := gS_inv h
  obtain ⟨hx, hw5, hw8, hby⟩ := hP
  obtain ⟨N, n1, n2, n3⟩ := gh_size h
  have hR := gh_H hg hx
  have hpk := hg.hp
  have hN60 : ∀ a, 60 ≤ a → aw.length ≤ g a := fun a ha => by rw [hg.hn a ha]; omega
  have e5 : pd_hW5 (ghH g aw ((0, 1, kL) :: ghR0) 60) := fun i hi => hw5 (g 6) i (hpk 6 (by omega)) hi
  have ez : ∀ a b, 60 ≤ a → (ghH g aw ((0, 1, kL) :: ghR0) 60).1 a b = 0 := fun a b ha => (hR.2.2.2.2.2.1 a b (hN60 a ha)).1
  obtain ⟨g1, kL1, hg1⟩ := gh_mk hS1
  have hp1 := hg1.hp
  obtain ⟨q0, q0', a1, a2, a4, a5⟩ := pd_qDistrictN (K := ghH g1 aw1 ((0, 1, kL1) :: ghR0) 60) (B := fun i => ghI aw (g 5) i) n1 (fun i => gh_by hS (hpk 5 (by omega)) i) (fun i => rfl) (n2 _ (hpk 4 (by omega))) e5 ez (fun i => by
    show ghI aw1 (g1 30) i = ghI aw (g 5) i
    rw [fr_ghI hS hf (k := 30) (by omega) m30 (hp1 30 (by omega))]
    exact (hby _ _ (hpk 5 (by omega)) (hp1 30 (by omega)) i).symm) (by
    show ghI aw1 (g1 29) 2 = (N : Int)
    rw [fr_ghI hS hf (k := 29) (by omega) m29 (hp1 29 (by omega))]
    exact n3 _ (hp1 29 (by omega))) (fun i hi => by
    show ghL aw1 (g1 35) i = _
    rw [fr_ghL hS hf (k := 35) (by omega) m35 (hp1 35 (by omega))]
    exact hw8 _ i (hp1 35 (by omega)) hi)
  have eq : r0 = q0 := by rw [hr0] at a1; exact Option.some.inj a1
  subst eq
  have hR1 := gh_H hg1 hx1
  have g29 : g1 29 = 109 := by
    have := hp1 29 (by omega)
    rw [hp] at this
    exact (Option.some.inj this).symm
  have g34 : g1 34 = 114 := by
    have := hp1 34 (by omega)
    rw [hp] at this
    exact (Option.some.inj this).symm
  have hsp := sp_X12_district (g := g1) 941 _ (gh_RM g1 aw1 kL1) a2 aw1 hR1 (exL_2 _)
  rw [g29] at hsp
  refine PCM_mono (fun res hres => ?_) (PCM_and hsp (sp_kinds 24 _ aw1))
  obtain ⟨⟨-, hRH⟩, hw⟩ := hres
  obtain ⟨d0, o0, e0⟩ := row_T3 hS1 (pl_114 hp hS1).1 ⟨_, rfl⟩
  obtain ⟨c', e', sh⟩ := hw.2.1 114 _ e0
  rcases c' with ⟨ci, fs⟩ | ⟨q', n'', d', ov'⟩
  · exact absurd sh id
  · obtain ⟨rfl, rfl⟩ := sh
    have val : ∀ b, b < 40 → ghL res.2 114 b = q0'.2.2.1 34 b := by
      intro b hb
      refine (hRH.2.2.1 34 b _ ?_).symm
      rw [g34]
      exact lrow hRH.1 e' hb
    refine ⟨fun hz b hb => ?_, fun hz s hs => ?_⟩
    · rw [val b (by omega), a5 hz b hb]
      show ghL aw1 (g1 34) b = _
      rw [g34]
    · obtain ⟨n, b1, b2, b3⟩ := a4 hz s hs
      obtain ⟨-, b4⟩ := qn_base hs
      refine ⟨n, b1, b2, fun i hi => ?_⟩
      obtain ⟨r, r1, r2, r3⟩ := b3 i hi
      exact ⟨r, r1, r2, by rw [val _ (by omega)]; exact r3⟩
/-- behind both halves of district -/
theorem HN_district {T pl T1 T2 : List Nat} {aw aw1 aw2 : rvH} {ms ms2 : List Nat} {r0 : Int × hH} (hp : pl = rzPl) (hS : gS T pl aw) (hS1 : gS T1 pl aw1) (hf : lwFr ms T pl aw T1 pl aw1) (hf2 : lwFr ms2 T1 pl aw1 T2 pl aw2) (m91 : ghNo ms 91 = true) (m94 : ghNo ms 94 = true) (m108 : ghNo ms 108 = true) (m109 : ghNo ms 109 = true) (k8 : ghNo ms2 8 = true) (k108 : ghNo ms2 108 = true) (k109 : ghNo ms2 109 = true) (hD : DA aw r0 aw1) (hDN : DN aw r0 aw1) (hF2 : Fr aw1 aw2) (hw2 : Fw aw1 aw2) (hM : (¬ r0.2.1 4 13 = 0 → ∀ b, b < 91 → ghI aw2 111 b = ghI aw1 111 b) ∧ (r0.2.1 4 13 = 0 → (∀ i, i < 4 → r0.2.1 61 i = ghI aw2 111 i) ∧ (∀ p, p < 10 → r0.2.1 63 p = ghI aw2 111 (24 + p)) ∧ ∀ x, x < 30 → r0.2.1 64 x = ghI aw2 111 (55 + x)))
    (hMN : (¬ r0.2.1 4 13 = 0 → ∀ b, b < 20 → ghL aw2 114 b = ghL aw1 114 b) ∧ (r0.2.1 4 13 = 0 → ∀ s, s < 4 → ∃ n : Nat, n ≤ pd_tMost s ∧ r0.2.1 61 s = (n : Int) ∧ ∀ i, i < n → ∃ r, pd_vR r ∧ r0.2.2.1 62 (10 * s + i) = pd_tF5 r ∧ ghL aw2 114 (sn_base s + i) = pd_tF8 r)) : HN aw2 := by
  obtain ⟨hk, -, hc⟩ := hD
  obtain ⟨hI, hc2⟩ := hDN
  obtain ⟨q1, q2⟩ := pl_111 hp hS
  obtain ⟨p1, p2⟩ := pl_111 hp hS1
  obtain ⟨q3, q4⟩ := pl_114 hp hS
  obtain ⟨p3, p4⟩ := pl_114 hp hS1
  obtain ⟨h0, hF⟩ : ∃ h0, HF h0 aw1 := by
    rcases hc with ⟨-, t0, h, -⟩ | ⟨-, t0, h, -⟩
    · exact ⟨t0, h⟩
    · exact ⟨t0, h⟩
  have key : ∀ {k t f f' l l'}, (k = 35 ∨ ∃ n, n < 2 ∧ k = ti2 n) → hV aw1 k 0 (rf t) → TN aw1 t f l → (∀ i, i < 4 → f' i = f i) → (∀ i, i < 20 → l' i = l i) → TN aw2 t f' l' := fun hkk ht hTN hff hll => TN_keep hTN (fun v hv => hV_Fr hF2 hv) (fun nr hnr i => fr_glT hS1 hf2 (town_N hp hS1 hF hkk ht hnr) (ghNo_ok ms2 k8)) hff hll
  refine ⟨?_, fun n hn => ?_⟩
  · rcases hc2 with ⟨hz, t0, h1, h2⟩ | ⟨hz, t0, nr, h1, h2, h3⟩
    · exact ⟨t0, hV_Fr hF2 h1, key (Or.inl rfl) h1 h2 (fun i hi => by rw [hM.1 hz i (by omega), fr_ghT hS hf q1 (ghNo_ok ms m91)]) (fun i hi => by rw [hMN.1 hz i hi, fr_glT hS hf q3 (ghNo_ok ms m94)])⟩
    · refine ⟨t0, hV_Fr hF2 h1, nr, hV_Fr hF2 h2, fun s hs => ?_⟩
      have t8 := town_N hp hS1 hF (Or.inl rfl) h1 h2
      obtain ⟨d, ov, e⟩ := row_T3 hS1 t8 ⟨_, rfl⟩
      obtain ⟨n, b1, b2, b3⟩ := hMN.2 hz s hs
      refine ⟨n, b1, by rw [← (hM.2 hz).1 s hs]; exact b2, fun i hi => ?_⟩
      obtain ⟨r, r1, r2, r3⟩ := b3 i hi
      have hm := pd_tMost_le hs
      exact ⟨r, r1, by rw [fr_glT hS1 hf2 t8 (ghNo_ok ms2 k8), h3 ⟨d, ov, e⟩ _ (by omega)]; exact r2, r3⟩
  · obtain ⟨tk, e1, e2⟩ := hI n hn
    refine ⟨tk, hV_Fr hF2 e1, key (Or.inr ⟨n, hn, rfl⟩) e1 e2 (fun i hi => ?_) (fun i hi => ?_)⟩
    · rw [fr_ghT hS1 hf2 p2 (ghNo_ok ms2 k108), fr_ghT hS hf q2 (ghNo_ok ms m108)]
    · rw [fr_glT hS1 hf2 p4 (ghNo_ok ms2 k109), fr_glT hS hf q4 (ghNo_ok ms m109)]
