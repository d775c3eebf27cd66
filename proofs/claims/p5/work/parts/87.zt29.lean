/-! Turns with image and restore (by hand). -/
theorem life_rows {T pl : List Nat} {aw : rvH} {t0 k : Nat} (hp : pl = rzPl) (h : gS T pl aw) (hF : HF t0 aw) (hk : k = 35 ∨ ∃ n, n < 2 ∧ k = ti2 n) {j x : Nat} (j1 : 6 ≤ j) (j2 : j ≤ 10) (hv : hV aw k j (rf x)) : T[x]? = some (j - 5) := by
  obtain ⟨t1, t2⟩ := HF_T hp h hF
  have hk0 : T[k]? = some 0 := by
    rcases hk with rfl | ⟨n, hn, rfl⟩
    · exact t1
    · exact t2 n hn
  have : j = 6 ∨ j = 7 ∨ j = 8 ∨ j = 9 ∨ j = 10 := by omega
  rcases this with rfl | rfl | rfl | rfl | rfl
  · exact hV_T h hk0 rfl hv
  · exact hV_T h hk0 rfl hv
  · exact hV_T h hk0 rfl hv
  · exact hV_T h hk0 rfl hv
  · exact hV_T h hk0 rfl hv
/-- a cell of another region stays behind copyFrom -/
theorem rxa_cell {T pl : List Nat} {aw aw1 : rvH} {t0 k y q : Nat} (hp : pl = rzPl) (h : gS T pl aw) (hF : HF t0 aw) (hk : k = 35 ∨ ∃ n, n < 2 ∧ k = ti2 n) (hr : RXa k aw aw1) (hy : T[y]? = some q) (hq : 5 < q) : aw1[y]? = aw[y]? := by
  obtain ⟨t1, t2⟩ := HF_T hp h hF
  refine hr.1 y (fun e => ?_) (fun j j1 j2 hv => ?_)
  · have hk0 : T[k]? = some 0 := by
      rcases hk with rfl | ⟨n, hn, rfl⟩
      · exact t1
      · exact t2 n hn
    rw [e, hk0] at hy
    have := Option.some.inj hy
    omega
  · have := life_rows hp h hF hk j1 j2 hv
    rw [hy] at this
    have := Option.some.inj this
    omega
/-- rows of ints of other regions stay behind copyFrom and what follows -/
theorem rxa_row {T pl : List Nat} {aw aw1 aw2 : rvH} {t0 k y q n : Nat} {d : rvV} {ov : List (Nat × rvV)} (hp : pl = rzPl) (h : gS T pl aw) (hF : HF t0 aw) (hk : k = 35 ∨ ∃ n, n < 2 ∧ k = ti2 n) (hr : RXa k aw aw1) (hK : K0 aw1 aw2) (hy : T[y]? = some q) (hq : 5 < q) (e : aw[y]? = some (.inr (0, n, d, ov))) : aw2[y]? = aw[y]? := by
  have e1 := rxa_cell hp h hF hk hr hy hq
  rw [e] at e1
  rw [hK y n d ov e1, e]
theorem HT_image {T pl T2 : List Nat} {aw aw1 aw2 : rvH} {ms : List Nat} {k : Int} (hp : pl = rzPl) (hS : gS T pl aw) (hT : HT aw) (hf : lwFr ms T pl aw T2 pl aw2) (k7 : ghNo ms 7 = true) (k9 : ghNo ms 9 = true) (k10 : ghNo ms 10 = true) (k91 : ghLt ms 91 91 = true)
    (hw1 : Fw aw aw1) (hX : (∀ n : Nat, k = (n : Int) → n < 2 → CFp (ti2 n) 35 aw aw1 ∧ ∃ aw', RXa (ti2 n) aw aw' ∧ K0 aw' aw1) ∧ ((k < 0 ∨ 1 < k) → Fr aw aw1 ∧ K0 aw aw1))
    (hF2 : Fr aw1 aw2) (hw2 : Fw aw1 aw2) (hM : (∀ n : Nat, k = (n : Int) → n < 2 → IMp n aw1 aw2) ∧ ((k < 0 ∨ 1 < k) → K0 aw1 aw2)) : HT aw2 := by
  obtain ⟨q1, q2⟩ := pl_111 hp hS
  have hT0 := hT
  obtain ⟨hk, t0, hF, hTC, hIm⟩ := hT
  have r111 : ∃ d ov, aw[111]? = some (.inr (0, 296, d, ov)) := by
    obtain ⟨c, e1, e2⟩ := gh_at hS q1
    rcases c with ⟨ci, fs⟩ | ⟨k', n', d, ov⟩
    · exact absurd e2 id
    · have hk : (0 : Nat) = k' := e2.1
      have hn : (296 : Nat) = n' := e2.2.1
      subst hk; subst hn
      exact ⟨d, ov, e1⟩
  have r128 : ∃ d ov, aw[128]? = some (.inr (0, 592, d, ov)) := by
    obtain ⟨c, e1, e2⟩ := gh_at hS q2
    rcases c with ⟨ci, fs⟩ | ⟨k', n', d, ov⟩
    · exact absurd e2 id
    · have hk : (0 : Nat) = k' := e2.1
      have hn : (592 : Nat) = n' := e2.2.1
      subst hk; subst hn
      exact ⟨d, ov, e1⟩
  obtain ⟨d1, o1, r111⟩ := r111
  obtain ⟨d2, o2, r128⟩ := r128
  have hw := Fw_trans hw1 hw2
  have s91 : ∀ i, i < 91 → ghI aw2 111 i = ghI aw 111 i := fun i hi => fr_ghT hS hf q1 (ghLt_ok hi ms k91)
  have rows : ∀ t j x i, (∃ k, (k = 35 ∨ ∃ n, n < 2 ∧ k = ti2 n) ∧ hV aw k 0 (rf t)) → hV aw t j (rf x) → (j = 0 ∨ j = 2 ∨ j = 3) → ghI aw2 x i = ghI aw x i := fun t j x i hkt hx hj => by
    obtain ⟨k, k1, k2⟩ := hkt
    obtain ⟨u1, u2, u3⟩ := town_T hp hS hF k1 k2 hx
    rcases hj with rfl | rfl | rfl
    · exact fr_ghT hS hf (u1 rfl) (ghNo_ok ms k7)
    · exact fr_ghT hS hf (u2 rfl) (ghNo_ok ms k9)
    · exact fr_ghT hS hf (u3 rfl) (ghNo_ok ms k10)
  by_cases hr : k < 0 ∨ 1 < k
  · obtain ⟨x1, x2⟩ := hX.2 hr
    have m1 := hM.2 hr
    refine HT_same hT0 (fun t h0 => SameT_Fr (SameT_Fr (SameT_refl h0) x1 hw1) hF2 hw2) rows s91 (fun i _ => ?_)
    rw [K0_ghI m1 (x2 128 _ _ _ r128), K0_ghI x2 r128]
  · obtain ⟨n, rfl⟩ : ∃ n : Nat, k = (n : Int) := ⟨k.toNat, by omega⟩
    have hn : n < 2 := by omega
    obtain ⟨x1, aw', x2, x3⟩ := hX.1 n rfl hn
    obtain ⟨m1, m2, m3⟩ := hM.1 n rfl hn
    obtain ⟨f1, f2, f3⟩ := HF_image hn hF x1 hw1
    have c111 : ∀ i, ghI aw1 111 i = ghI aw 111 i := fun i => ghI_same (rxa_row hp hS hF (Or.inr ⟨n, hn, rfl⟩) x2 x3 q1 (by omega) r111) i
    have c128 : ∀ i, ghI aw1 128 i = ghI aw 128 i := fun i => ghI_same (rxa_row hp hS hF (Or.inr ⟨n, hn, rfl⟩) x2 x3 q2 (by omega) r128) i
    have nt : ∀ {t : Nat}, (∃ fs, aw[t]? = some (.inl (10, fs))) → ∀ j, ¬ (t = ti2 n ∧ j = 0) := by
      intro t ht j q
      obtain ⟨fs, e⟩ := ht
      have t0' := (HF_T hp hS hF).2 n hn
      obtain ⟨c, e1, e2⟩ := gh_at hS t0'
      rw [q.1, e1] at e
      have e := Option.some.inj e
      subst e
      have : (10 : Nat) = 2 := e2.1.symm
      omega
    have tck : ∀ {t : Nat} {f f' : Nat → Int}, (∃ k, (k = 35 ∨ ∃ n, n < 2 ∧ k = ti2 n) ∧ hV aw k 0 (rf t)) → TC aw t f → (∀ i, i < 91 → f' i = f i) → TC aw2 t f' := fun hkt ht hff => TC_keep hw (fun j v hv => hV_Fr hF2 (f3 _ j v (nt ht.1 j) hv)) (fun j x i hv hj => rows _ j x i hkt hv hj) hff ht
    refine ⟨KN_Fw hw hk, t0, HF_same f1 (SameT_Fr (SameT_refl f1) hF2 hw2), tck ⟨35, Or.inl rfl, hF.2.2.2.2.1⟩ hTC s91, fun m hm => ?_⟩
    by_cases e : m = n
    · subst e
      refine ⟨t0, hV_Fr hF2 f2, tck ⟨35, Or.inl rfl, hF.2.2.2.2.1⟩ hTC (fun i hi => ?_)⟩
      show ghI aw2 128 (296 * m + i) = ghI aw 111 i
      rw [m1 i (by omega), c111]
    · obtain ⟨tn, e1, e2⟩ := hIm m hm
      refine ⟨tn, hV_Fr hF2 (f3 _ _ _ (fun q => e (by have := q.1; unfold ti2 at this; omega)) e1), tck ⟨ti2 m, Or.inr ⟨m, hm, rfl⟩, e1⟩ e2 (fun i hi => ?_)⟩
      show ghI aw2 128 (296 * m + i) = ghI aw 128 (296 * m + i)
      rw [m2 _ (by omega), c128]
theorem HT_restore {T pl T2 : List Nat} {aw aw1 aw2 : rvH} {ms : List Nat} {k : Int} (hp : pl = rzPl) (hS : gS T pl aw) (hT : HT aw) (hf : lwFr ms T pl aw T2 pl aw2) (k7 : ghNo ms 7 = true) (k9 : ghNo ms 9 = true) (k10 : ghNo ms 10 = true) (k108 : ghNo ms 108 = true)
    (hw1 : Fw aw aw1) (hfl : ∀ n, n < 2 → ghI aw1 130 n = ghI aw 9 n) (hX : (∀ n : Nat, k = (n : Int) → n < 2 → ¬ ghI aw 9 n = 0 → RSp 35 47 (ti2 n) aw aw1 ∧ ∃ aw', RXa 35 aw aw' ∧ K0 aw' aw1) ∧ ((k < 0 ∨ 1 < k ∨ ∃ n : Nat, k = (n : Int) ∧ ghI aw 9 n = 0) → Fr aw aw1 ∧ K0 aw aw1))
    (hF2 : Fr aw1 aw2) (hw2 : Fw aw1 aw2) (hM : (∀ n : Nat, k = (n : Int) → n < 2 → ¬ ghI aw1 130 n = 0 → REp n aw1 aw2) ∧ ((k < 0 ∨ 1 < k ∨ ∃ n : Nat, k = (n : Int) ∧ ghI aw1 130 n = 0) → K0 aw1 aw2)) : HT aw2 := by
  obtain ⟨q1, q2⟩ := pl_111 hp hS
  have hT0 := hT
  obtain ⟨hk, t0, hF, hTC, hIm⟩ := hT
  have r111 : ∃ d ov, aw[111]? = some (.inr (0, 296, d, ov)) := by
    obtain ⟨c, e1, e2⟩ := gh_at hS q1
    rcases c with ⟨ci, fs⟩ | ⟨k', n', d, ov⟩
    · exact absurd e2 id
    · have hk : (0 : Nat) = k' := e2.1
      have hn : (296 : Nat) = n' := e2.2.1
      subst hk; subst hn
      exact ⟨d, ov, e1⟩
  have r128 : ∃ d ov, aw[128]? = some (.inr (0, 592, d, ov)) := by
    obtain ⟨c, e1, e2⟩ := gh_at hS q2
    rcases c with ⟨ci, fs⟩ | ⟨k', n', d, ov⟩
    · exact absurd e2 id
    · have hk : (0 : Nat) = k' := e2.1
      have hn : (592 : Nat) = n' := e2.2.1
      subst hk; subst hn
      exact ⟨d, ov, e1⟩
  obtain ⟨d1, o1, r111⟩ := r111
  obtain ⟨d2, o2, r128⟩ := r128
  have hw := Fw_trans hw1 hw2
  have s108 : ∀ i, ghI aw2 128 i = ghI aw 128 i := fun i => fr_ghT hS hf q2 (ghNo_ok ms k108)
  have rows : ∀ t j x i, (∃ k, (k = 35 ∨ ∃ n, n < 2 ∧ k = ti2 n) ∧ hV aw k 0 (rf t)) → hV aw t j (rf x) → (j = 0 ∨ j = 2 ∨ j = 3) → ghI aw2 x i = ghI aw x i := fun t j x i hkt hx hj => by
    obtain ⟨k, k1, k2⟩ := hkt
    obtain ⟨u1, u2, u3⟩ := town_T hp hS hF k1 k2 hx
    rcases hj with rfl | rfl | rfl
    · exact fr_ghT hS hf (u1 rfl) (ghNo_ok ms k7)
    · exact fr_ghT hS hf (u2 rfl) (ghNo_ok ms k9)
    · exact fr_ghT hS hf (u3 rfl) (ghNo_ok ms k10)
  by_cases hr : k < 0 ∨ 1 < k ∨ ∃ n : Nat, k = (n : Int) ∧ n < 2 ∧ ghI aw 9 n = 0
  · have hr1 : k < 0 ∨ 1 < k ∨ ∃ n : Nat, k = (n : Int) ∧ ghI aw 9 n = 0 := by
      rcases hr with h | h | ⟨n, h1, h2, h3⟩
      · exact Or.inl h
      · exact Or.inr (Or.inl h)
      · exact Or.inr (Or.inr ⟨n, h1, h3⟩)
    have hr2 : k < 0 ∨ 1 < k ∨ ∃ n : Nat, k = (n : Int) ∧ ghI aw1 130 n = 0 := by
      rcases hr with h | h | ⟨n, h1, h2, h3⟩
      · exact Or.inl h
      · exact Or.inr (Or.inl h)
      · exact Or.inr (Or.inr ⟨n, h1, by rw [hfl n h2]; exact h3⟩)
    obtain ⟨x1, x2⟩ := hX.2 hr1
    have m1 := hM.2 hr2
    refine HT_same hT0 (fun t h0 => SameT_Fr (SameT_Fr (SameT_refl h0) x1 hw1) hF2 hw2) rows (fun i _ => ?_) (fun i _ => s108 i)
    rw [K0_ghI m1 (x2 111 _ _ _ r111), K0_ghI x2 r111]
  · obtain ⟨n, rfl⟩ : ∃ n : Nat, k = (n : Int) := ⟨k.toNat, by omega⟩
    have hn : n < 2 := by omega
    have hz : ¬ ghI aw 9 n = 0 := fun q => hr (Or.inr (Or.inr ⟨n, rfl, hn, q⟩))
    obtain ⟨x1, aw', x2, x3⟩ := hX.1 n rfl hn hz
    obtain ⟨m1, m2⟩ := hM.1 n rfl hn (by rw [hfl n hn]; exact hz)
    obtain ⟨tn, e1, e2⟩ := hIm n hn
    obtain ⟨f1, f3⟩ := HF_restore hF e1 x1 hw1
    have c128 : ∀ i, ghI aw1 128 i = ghI aw 128 i := fun i => ghI_same (rxa_row hp hS hF (Or.inl rfl) x2 x3 q2 (by omega) r128) i
    have nt : ∀ {t : Nat}, (∃ fs, aw[t]? = some (.inl (10, fs))) → ∀ j, ¬ (t = 35 ∧ j = 0) ∧ ¬ (t = 47 ∧ j = 1) := by
      intro t ht j
      have o1 := okE_t hk ht (j := j)
      exact ⟨fun q => o1.2.2 ⟨Or.inl q.1, q.2⟩, o1.1⟩
    have tck : ∀ {t : Nat} {f f' : Nat → Int}, (∃ k, (k = 35 ∨ ∃ n, n < 2 ∧ k = ti2 n) ∧ hV aw k 0 (rf t)) → TC aw t f → (∀ i, i < 91 → f' i = f i) → TC aw2 t f' := fun hkt ht hff => TC_keep hw (fun j v hv => hV_Fr hF2 (f3 _ j v (nt ht.1 j).1 (nt ht.1 j).2 hv)) (fun j x i hv hj => rows _ j x i hkt hv hj) hff ht
    refine ⟨KN_Fw hw hk, tn, HF_same f1 (SameT_Fr (SameT_refl f1) hF2 hw2), tck ⟨ti2 n, Or.inr ⟨n, hn, rfl⟩, e1⟩ e2 (fun i hi => ?_), fun m hm => ?_⟩
    · rw [m1 i (by omega), c128]
    · obtain ⟨tm, g1, g2⟩ := hIm m hm
      exact ⟨tm, hV_Fr hF2 (f3 _ _ _ (by unfold ti2; omega) (by unfold ti2; omega) g1), tck ⟨ti2 m, Or.inr ⟨m, hm, rfl⟩, g1⟩ g2 (fun i hi => s108 _)⟩
