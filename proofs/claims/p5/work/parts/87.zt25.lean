/-! The reference's half of district (by hand). -/
theorem cM_town {r : List Int} {T pl : List Nat} {aw : rvH} {g : Nat → Nat} {kL : Nat} {r0 : Int × hH} (h : lwInv r T pl aw) (hP : PI pl aw) (hp : pl = rzPl) (hg : GHOK T pl aw g kL) (hr0 : f_X1_read 941 (ghH g aw ((0, 1, kL) :: ghR0) 60) = some r0) (T1 : List Nat) (aw1 : rvH) (ms : List Nat) (hS1 : gS T1 pl aw1) (hx1 : exH aw1) (hf : lwFr ms T pl aw T1 pl aw1) (m29 : ghNo ms 89 = true) (m30 : ghNo ms 90 = true) (m35 : ghNo ms 95 = true) : PCM rvTab rvInf rvRet 316 rvMth 24 [rf 109] aw1 (fun res => (¬ r0.2.1 4 13 = 0 → ∀ b, b < 91 → ghI res.2 111 b = ghI aw1 111 b) ∧ (r0.2.1 4 13 = 0 → (∀ i, i < 4 → r0.2.1 61 i = ghI res.2 111 i) ∧ (∀ p, p < 10 → r0.2.1 63 p = ghI res.2 111 (24 + p)) ∧ ∀ x, x < 30 → r0.2.1 64 x = ghI res.2 111 (55 + x))) := by
  have hS := gS_inv h
  obtain ⟨hx, hw5, hw8, hby⟩ := hP
  obtain ⟨N, n1, n2, n3⟩ := gh_size h
  have hR := gh_H hg hx
  have hpk := hg.hp
  have hN60 : ∀ a, 60 ≤ a → aw.length ≤ g a := fun a ha => by rw [hg.hn a ha]; omega
  have e5 : pd_hW5 (ghH g aw ((0, 1, kL) :: ghR0) 60) := fun i hi => hw5 (g 6) i (hpk 6 (by omega)) hi
  have ez : ∀ a b, 60 ≤ a → (ghH g aw ((0, 1, kL) :: ghR0) 60).1 a b = 0 := fun a b ha => (hR.2.2.2.2.2.1 a b (hN60 a ha)).1
  obtain ⟨g1, kL1, hg1⟩ := gh_mk hS1
  have hp1 := hg1.hp
  obtain ⟨q0, q0', a1, a2, a3, a4, a5⟩ := pd_qDistrict (K := ghH g1 aw1 ((0, 1, kL1) :: ghR0) 60) (B := fun i => ghI aw (g 5) i) n1 (fun i => gh_by hS (hpk 5 (by omega)) i) (fun i => rfl) (n2 _ (hpk 4 (by omega))) e5 ez (fun i => by
    show ghI aw1 (g1 30) i = ghI aw (g 5) i
    rw [fr_ghI hS hf (k := 30) (by omega) m30 (hp1 30 (by omega))]
    exact (hby _ _ (hpk 5 (by omega)) (hp1 30 (by omega)) i).symm) (by
    show ghI aw1 (g1 29) 2 = (N : Int)
    rw [fr_ghI hS hf (k := 29) (by omega) m29 (hp1 29 (by omega))]
    exact n3 _ (hp1 29 (by omega))) (fun i hi => by
    show ghL aw1 (g1 35) i = _
    rw [fr_ghL hS hf (k := 35) (by omega) m35 (hp1 35 (by omega))]
    exact hw8 _ i (hp1 35 (by omega)) hi)
  have eq : r0 = q0 := by rw [hr0] at a1; exact Option.some.inj a1
  subst eq
  have hR1 := gh_H hg1 hx1
  have g29 : g1 29 = 109 := by
    have := hp1 29 (by omega)
    rw [hp] at this
    exact (Option.some.inj this).symm
  have g31 : g1 31 = 111 := by
    have := hp1 31 (by omega)
    rw [hp] at this
    exact (Option.some.inj this).symm
  have hsp := sp_X12_district (g := g1) 941 _ (gh_RM g1 aw1 kL1) a2 aw1 hR1 (exL_2 _)
  rw [g29] at hsp
  refine PCM_mono (fun res hres => ?_) (PCM_and hsp (sp_kinds 24 _ aw1))
  obtain ⟨⟨-, hRH⟩, hw⟩ := hres
  -- the row s
  obtain ⟨i0, c, b1, b2, b3, b4⟩ := gh_st hS1 (k := 31) (by omega)
  have e111 : (111 : Nat) = i0 := by
    rw [hp] at b1
    exact Option.some.inj b1
  subst e111
  rcases c with ⟨ci, fs⟩ | ⟨k', n', d, ov⟩
  · exact absurd b4 id
  · have hk : (0 : Nat) = k' := b4.1
    have hn : (296 : Nat) = n' := b4.2.1
    subst hk; subst hn
    obtain ⟨c', e', sh⟩ := hw.2.1 111 _ b3
    rcases c' with ⟨ci, fs⟩ | ⟨q', n'', d', ov'⟩
    · exact absurd sh id
    · obtain ⟨rfl, rfl⟩ := sh
      have val : ∀ b, b < 296 → ghI res.2 111 b = q0'.2.1 31 b := by
        intro b hb
        have hl := row_look hRH.1 (by omega) e' hb
        refine (hRH.2.1 31 b _ ?_).symm
        rw [g31]
        refine ⟨_, e', ?_⟩
        show (bif Nat.blt b 296 then some (rvLook d' ov' b) else none) = _
        rw [show Nat.blt b 296 = true from Nat.ble_eq_true_of_le hb, hl]
        rfl
      refine ⟨fun hz b hb => ?_, fun hz => ?_⟩
      · rw [val b (by omega), a5 hz b]
        show ghI aw1 (g1 31) b = _
        rw [g31]
      · obtain ⟨s1, s2, s3⟩ := a4 hz
        exact ⟨fun i hi => by rw [val i (by omega)]; exact s1 i hi, fun p hp => by rw [val (24 + p) (by omega)]; exact s2 p hp, fun x hx => by rw [val (55 + x) (by omega)]; exact s3 x hx⟩
/-- typed rows make a town's tale whole -/
theorem TCc_T {T pl : List Nat} {aw : rvH} {t0 t : Nat} {f : Nat → Int} (hp : pl = rzPl) (h : gS T pl aw) (hF : HF t0 aw) {k : Nat} (hk : k = 35 ∨ ∃ n, n < 2 ∧ k = ti2 n) (ht : hV aw k 0 (rf t)) (hc : TCc aw t f) : TC aw t f := by
  obtain ⟨h0, c, m, x, h1, h2, h3, h4, h5, h6⟩ := hc
  have row : ∀ {y g n : Nat}, T[y]? = some g → (∃ sg q, xRgn g = .inr (0, n, q, sg)) → isI aw y n := by
    intro y g n hy hg
    obtain ⟨sg, q, hg⟩ := hg
    obtain ⟨c, e1, e2⟩ := gh_at h hy
    rw [hg] at e2
    rcases c with ⟨ci, fs⟩ | ⟨k', n', d, ov⟩
    · exact absurd e2 id
    · have hk : (0 : Nat) = k' := e2.1
      have hn : n = n' := e2.2.1
      subst hk; subst hn
      exact ⟨d, ov, e1⟩
  exact ⟨h0, c, m, x, h1, h2, h3, h4 (row ((town_T hp h hF hk ht h1).1 rfl) ⟨_, _, rfl⟩), h5 (row ((town_T hp h hF hk ht h2).2.1 rfl) ⟨_, _, rfl⟩), h6 (row ((town_T hp h hF hk ht h3).2.2 rfl) ⟨_, _, rfl⟩)⟩
/-- behind both halves of district -/
theorem HT_district {T pl T1 T2 : List Nat} {aw aw1 aw2 : rvH} {ms ms2 : List Nat} {r0 : Int × hH} (hp : pl = rzPl) (hS : gS T pl aw) (hS1 : gS T1 pl aw1) (hf : lwFr ms T pl aw T1 pl aw1) (hf2 : lwFr ms2 T1 pl aw1 T2 pl aw2) (m91 : ghNo ms 91 = true) (m108 : ghNo ms 108 = true) (k7 : ghNo ms2 7 = true) (k9 : ghNo ms2 9 = true) (k10 : ghNo ms2 10 = true) (k108 : ghNo ms2 108 = true) (hD : DA aw r0 aw1) (hF2 : Fr aw1 aw2) (hw2 : Fw aw1 aw2) (hM : (¬ r0.2.1 4 13 = 0 → ∀ b, b < 91 → ghI aw2 111 b = ghI aw1 111 b) ∧ (r0.2.1 4 13 = 0 → (∀ i, i < 4 → r0.2.1 61 i = ghI aw2 111 i) ∧ (∀ p, p < 10 → r0.2.1 63 p = ghI aw2 111 (24 + p)) ∧ ∀ x, x < 30 → r0.2.1 64 x = ghI aw2 111 (55 + x))) : HT aw2 := by
  obtain ⟨hk, hI2, hc⟩ := hD
  obtain ⟨q1, q2⟩ := pl_111 hp hS
  obtain ⟨p1, p2⟩ := pl_111 hp hS1
  have same : ∀ t0, HF t0 aw1 → SameT t0 aw1 aw2 := fun t0 h0 => SameT_Fr (SameT_refl h0) hF2 hw2
  have img : ∀ t0, HF t0 aw1 → ∀ n, n < 2 → ∃ tk, hV aw2 (ti2 n) 0 (rf tk) ∧ TC aw2 tk (fun i => ghI aw2 128 (296 * n + i)) := by
    intro t0 h0 n hn
    obtain ⟨tk, e1, e2⟩ := hI2 n hn
    refine ⟨tk, hV_Fr hF2 e1, TC_keep hw2 (fun j v hv => hV_Fr hF2 hv) (fun j x i hv hj => ?_) (fun i hi => ?_) e2⟩
    · obtain ⟨r1, r2, r3⟩ := town_T hp hS1 h0 (Or.inr ⟨n, hn, rfl⟩) e1 hv
      rcases hj with rfl | rfl | rfl
      · exact fr_ghT hS1 hf2 (r1 rfl) (ghNo_ok ms2 k7)
      · exact fr_ghT hS1 hf2 (r2 rfl) (ghNo_ok ms2 k9)
      · exact fr_ghT hS1 hf2 (r3 rfl) (ghNo_ok ms2 k10)
    · rw [fr_ghT hS1 hf2 p2 (ghNo_ok ms2 k108), fr_ghT hS hf q2 (ghNo_ok ms m108)]
  have mine : ∀ t0 f, HF t0 aw1 → TC aw1 t0 f → (∀ i, i < 4 → ghI aw2 111 i = f i) → (∀ i, i < 10 → ghI aw2 111 (24 + i) = f (24 + i)) → (∀ i, i < 30 → ghI aw2 111 (55 + i) = f (55 + i)) → TC aw2 t0 (ghI aw2 111) := by
    intro t0 f h0 ht f1 f2 f3
    have ht2 : TC aw2 t0 f := TC_keep hw2 (fun j v hv => hV_Fr hF2 hv) (fun j x i hv hj => by
      obtain ⟨r1, r2, r3⟩ := town_T hp hS1 h0 (Or.inl rfl) h0.2.2.2.2.1 hv
      rcases hj with rfl | rfl | rfl
      · exact fr_ghT hS1 hf2 (r1 rfl) (ghNo_ok ms2 k7)
      · exact fr_ghT hS1 hf2 (r2 rfl) (ghNo_ok ms2 k9)
      · exact fr_ghT hS1 hf2 (r3 rfl) (ghNo_ok ms2 k10)) (fun i hi => rfl) ht
    obtain ⟨c0, c, m, x, c1, c2, c3, c4, c5, c6⟩ := ht2
    exact ⟨c0, c, m, x, c1, c2, c3, fun i hi => by rw [c4 i hi, f1 i hi], fun i hi => by rw [c5 i hi, f2 i hi], fun i hi => by rw [c6 i hi, f3 i hi]⟩
  rcases hc with ⟨hz, t0, h0, ht⟩ | ⟨hz, t0, h0, ht⟩
  · have hs : ∀ b, b < 91 → ghI aw2 111 b = ghI aw 111 b := fun b hb => by rw [hM.1 hz b hb, fr_ghT hS hf q1 (ghNo_ok ms m91)]
    exact ⟨KN_Fw hw2 hk, t0, HF_same h0 (same t0 h0), mine t0 _ h0 ht (fun i hi => hs i (by omega)) (fun i hi => hs _ (by omega)) (fun i hi => hs _ (by omega)), img t0 h0⟩
  · obtain ⟨s1, s2, s3⟩ := hM.2 hz
    refine ⟨KN_Fw hw2 hk, t0, HF_same h0 (same t0 h0), mine t0 _ h0 (TCc_T hp hS1 h0 (Or.inl rfl) h0.2.2.2.2.1 ht) (fun i hi => ?_) (fun i hi => ?_) (fun i hi => ?_), img t0 h0⟩
    · rw [← s1 i hi]; unfold fN; rw [if_pos hi]
    · rw [← s2 i hi]; unfold fN; rw [if_neg (by omega), if_pos (by omega), show 24 + i - 24 = i by omega]
    · rw [← s3 i hi]; unfold fN; rw [if_neg (by omega), if_neg (by omega), show 55 + i - 55 = i by omega]
