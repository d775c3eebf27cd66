/-! The names of the towns, on both sides (by hand). -/
theorem k3Copy {BF BL pc kc ks : Nat} {al st : List rvV} {aw : rvH} {o : rvS} (h : rvCopy BF BL pc al st aw kc ks = some o) : K3 aw o.2.2.2.1 := by
  unfold rvCopy at h
  split at h
  · split at h
    · rename_i m d ov m' d' ov' e1 e2
      obtain ⟨hc, rfl⟩ := rv_bif h
      exact K3_set e2 (fun n d ov q => by cases q)
    · cases h
  · cases h
def k3Tb (j : Nat) : Bool := (rvEn j).all (fun ch => ch.2.all (fun q => ni3 q.2.1 && clRow k12S q.2))
theorem k3Tb_all : [310, 149, 185].all k3Tb = true := by decide +kernel
/-- the class's image leaves rows of longs -/
theorem sp_k3 {j : Nat} (hj : k12S j = true) (as : List rvV) (aw : rvH) : PCM rvTab rvInf rvRet 316 rvMth j as aw (fun res => K3 aw res.2) := fun P hP => Ev_rel (Rl := K3) (S := k12S) K3_refl K3_trans (fun j pc i len a1 a2 a3 wi _ hs ht => by
  have h := rows_all (f := fun _ e => ni3 e.1 && clRow k12S e) (List.all_eq_true.mp k3Tb_all j (any_mem hs)) ht
  obtain ⟨h1, h3⟩ := rv_and h
  exact ⟨fun h => k3Step h1 h, fun hc hm => clRow_ok h3 hc hm, fun hc _ _ _ _ _ _ _ _ _ h => k3Copy h⟩) hj hP
/-- a town's names are those of l -/
def TN (aw : rvH) (t : Nat) (f : Nat → Int) (l : Nat → Int64) : Prop := ∃ nr, hV aw t 1 (rf nr) ∧ ∀ s, s < 4 → ∃ n : Nat, n ≤ pd_tMost s ∧ f s = (n : Int) ∧ ∀ i, i < n → ∃ r, pd_vR r ∧ ghL aw nr (10 * s + i) = pd_tF5 r ∧ l (sn_base s + i) = pd_tF8 r
/-- what holds at the loop's head of the names -/
def HN (aw : rvH) : Prop := (∃ t0, hV aw 35 0 (rf t0) ∧ TN aw t0 (ghI aw 111) (ghL aw 114)) ∧ ∀ n, n < 2 → ∃ tn, hV aw (ti2 n) 0 (rf tn) ∧ TN aw tn (fun i => ghI aw 128 (296 * n + i)) (fun i => ghL aw 129 (20 * n + i))
theorem TN_keep {aw aw' : rvH} {t : Nat} {f f' : Nat → Int} {l l' : Nat → Int64} (h : TN aw t f l) (hv : ∀ v, hV aw t 1 v → hV aw' t 1 v) (hr : ∀ nr, hV aw t 1 (rf nr) → ∀ i, ghL aw' nr i = ghL aw nr i) (hf : ∀ i, i < 4 → f' i = f i) (hl : ∀ i, i < 20 → l' i = l i) : TN aw' t f' l' := by
  obtain ⟨nr, h1, h2⟩ := h
  refine ⟨nr, hv _ h1, fun s hs => ?_⟩
  obtain ⟨n, a, b, c⟩ := h2 s hs
  obtain ⟨-, b2⟩ := qn_base hs
  refine ⟨n, a, by rw [hf s hs]; exact b, fun i hi => ?_⟩
  obtain ⟨r, e1, e2, e3⟩ := c i hi
  exact ⟨r, e1, by rw [hr nr h1]; exact e2, by rw [hl _ (by omega)]; exact e3⟩
theorem fr_glT {T pl T1 pl1 : List Nat} {aw aw1 : rvH} {ms : List Nat} (h : gS T pl aw) (hf : lwFr ms T pl aw T1 pl1 aw1) {x g : Nat} (hx : T[x]? = some g) {j : Nat} (hno : ¬ xInM ms g j) : ghL aw1 x j = ghL aw x j := by
  obtain ⟨c, e, -⟩ := gh_at h hx
  obtain ⟨c', e1, e2⟩ := hf.2.2 x _ c hx e
  unfold ghL
  rw [e, e1]
  dsimp only
  rw [e2 j hno]
theorem pl_114 {T pl : List Nat} {aw : rvH} (hp : pl = rzPl) (h : gS T pl aw) : T[114]? = some 94 ∧ T[129]? = some 109 := by
  subst hp
  obtain ⟨i, c, a1, a2, -⟩ := gh_st h (k := 34) (by omega)
  obtain ⟨i', c', b1, b2, -⟩ := gh_st h (k := 49) (by omega)
  have e1 : (114 : Nat) = i := Option.some.inj a1
  have e2 : (129 : Nat) = i' := Option.some.inj b1
  subst e1; subst e2
  exact ⟨a2, b2⟩
theorem town_N {T pl : List Nat} {aw : rvH} {t0 : Nat} (hp : pl = rzPl) (h : gS T pl aw) (hf : HF t0 aw) {t x k : Nat} (hk : k = 35 ∨ ∃ n, n < 2 ∧ k = ti2 n) (ht : hV aw k 0 (rf t)) (hx : hV aw t 1 (rf x)) : T[x]? = some 8 := by
  obtain ⟨t1, t2⟩ := HF_T hp h hf
  have hk0 : T[k]? = some 0 := by
    rcases hk with rfl | ⟨n, hn, rfl⟩
    · exact t1
    · exact t2 n hn
  have h6 : T[t]? = some 6 := hV_T h hk0 rfl ht
  exact hV_T h h6 rfl hx
def msN (ms : List Nat) : Bool := ghNo ms 8 && (ghNo ms 94 && (ghNo ms 109 && (ghLt ms 91 91 && ghNo ms 108)))
/-- a turn that is neither district's nor image's nor restore's -/
theorem HN_turn {T pl T1 pl1 : List Nat} {aw aw1 : rvH} {ms : List Nat} (hp : pl = rzPl) (h : gS T pl aw) (hT : HT aw) (hN : HN aw) (hm : msN ms = true) (hf : lwFr ms T pl aw T1 pl1 aw1) (hs : ∀ t0, HF t0 aw → SameT t0 aw aw1) : HN aw1 := by
  obtain ⟨m1, hm⟩ := rv_and hm
  obtain ⟨m2, hm⟩ := rv_and hm
  obtain ⟨m3, hm⟩ := rv_and hm
  obtain ⟨m4, m5⟩ := rv_and hm
  obtain ⟨q1, q2⟩ := pl_111 hp h
  obtain ⟨p1, p2⟩ := pl_114 hp h
  obtain ⟨hk, t0, hF, hTC, hIm⟩ := hT
  obtain ⟨⟨t1, n1, n2⟩, hI⟩ := hN
  have e1 : t1 = t0 := rf_inj (hV_one n1 hF.2.2.2.2.1)
  subst e1
  have s := hs t1 hF
  have hE : ∀ k j v, okE k j → hV aw k j v → hV aw1 k j v := fun k j v e hv => s.1.1 k j v ⟨e, hv⟩
  have key : ∀ {k t f f' l l'}, (k = 35 ∨ ∃ n, n < 2 ∧ k = ti2 n) → hV aw k 0 (rf t) → (∃ fs, aw[t]? = some (.inl (10, fs))) → TN aw t f l → (∀ i, i < 4 → f' i = f i) → (∀ i, i < 20 → l' i = l i) → TN aw1 t f' l' := fun hkk ht h10 hTN hff hll => TN_keep hTN (fun v hv => hE _ _ _ (okE_t hk h10) hv) (fun nr hnr i => fr_glT h hf (town_N hp h hF hkk ht hnr) (ghNo_ok ms m1)) hff hll
  refine ⟨⟨t1, (HF_same hF s).2.2.2.2.1, key (Or.inl rfl) n1 hTC.1 n2 (fun i hi => fr_ghT h hf q1 (ghLt_ok (by omega) ms m4)) (fun i hi => fr_glT h hf p1 (ghNo_ok ms m2))⟩, fun n hn => ?_⟩
  obtain ⟨tn, a1, a2⟩ := hI n hn
  obtain ⟨tm, b1, b2⟩ := hIm n hn
  have e2 : tm = tn := rf_inj (hV_one b1 a1)
  subst e2
  exact ⟨tm, hE _ _ _ (okE_i hn) a1, key (Or.inr ⟨n, hn, rfl⟩) a1 b2.1 a2 (fun i hi => fr_ghT h hf q2 (ghNo_ok ms m5)) (fun i hi => fr_glT h hf p2 (ghNo_ok ms m3))⟩
theorem row_T3 {T pl : List Nat} {aw : rvH} (h : gS T pl aw) {y g n q : Nat} (hy : T[y]? = some g) (hg : ∃ sg, xRgn g = .inr (3, n, q, sg)) : ∃ d ov, aw[y]? = some (.inr (3, n, d, ov)) := by
  obtain ⟨sg, hg⟩ := hg
  obtain ⟨c, e1, e2⟩ := gh_at h hy
  rw [hg] at e2
  rcases c with ⟨ci, fs⟩ | ⟨k', n', d, ov⟩
  · exact absurd e2 id
  · have hk : (3 : Nat) = k' := e2.1
    have hn : n = n' := e2.2.1
    subst hk; subst hn
    exact ⟨d, ov, e1⟩
/-- image -/
theorem HN_image {T pl T2 : List Nat} {aw aw1 aw2 : rvH} {ms : List Nat} {k : Int} (hp : pl = rzPl) (hS : gS T pl aw) (hT : HT aw) (hN : HN aw) (hf : lwFr ms T pl aw T2 pl aw2) (k8 : ghNo ms 8 = true) (k94 : ghNo ms 94 = true) (k91 : ghLt ms 91 91 = true)
    (hw1 : Fw aw aw1) (hX : (∀ n : Nat, k = (n : Int) → n < 2 → CFp (ti2 n) 35 aw aw1 ∧ ∃ aw', RXa (ti2 n) aw aw' ∧ K0 aw' aw1) ∧ ((k < 0 ∨ 1 < k) → Fr aw aw1 ∧ K0 aw aw1)) (hK : K3 aw aw1)
    (hF2 : Fr aw1 aw2) (hw2 : Fw aw1 aw2) (hM : (∀ n : Nat, k = (n : Int) → n < 2 → IMp n aw1 aw2) ∧ ((k < 0 ∨ 1 < k) → K0 aw1 aw2)) (hM3 : (∀ n : Nat, k = (n : Int) → n < 2 → IMn n aw1 aw2) ∧ ((k < 0 ∨ 1 < k) → K3 aw1 aw2)) : HN aw2 := by
  obtain ⟨q1, q2⟩ := pl_111 hp hS
  obtain ⟨p1, p2⟩ := pl_114 hp hS
  obtain ⟨hk, t0, hF, hTC, hIm⟩ := hT
  obtain ⟨⟨t1, n1, n2⟩, hI⟩ := hN
  have e1 : t1 = t0 := rf_inj (hV_one n1 hF.2.2.2.2.1)
  subst e1
  obtain ⟨ds, os, r111⟩ : ∃ d ov, aw[111]? = some (.inr (0, 296, d, ov)) := row_T hS q1 ⟨_, _, rfl⟩
  obtain ⟨dk, ok, r128⟩ : ∃ d ov, aw[128]? = some (.inr (0, 592, d, ov)) := row_T hS q2 ⟨_, _, rfl⟩
  obtain ⟨d1, o1, r114⟩ : ∃ d ov, aw[114]? = some (.inr (3, 40, d, ov)) := row_T3 hS p1 ⟨_, rfl⟩
  obtain ⟨d2, o2, r129⟩ : ∃ d ov, aw[129]? = some (.inr (3, 40, d, ov)) := row_T3 hS p2 ⟨_, rfl⟩
  have s91 : ∀ i, i < 4 → ghI aw2 111 i = ghI aw 111 i := fun i hi => fr_ghT hS hf q1 (ghLt_ok (by omega) ms k91)
  have s94 : ∀ i, ghL aw2 114 i = ghL aw 114 i := fun i => fr_glT hS hf p1 (ghNo_ok ms k94)
  by_cases hr : k < 0 ∨ 1 < k
  · obtain ⟨x1, x2⟩ := hX.2 hr
    have s := SameT_Fr (SameT_Fr (SameT_refl hF) x1 hw1) hF2 hw2
    have hE : ∀ k j v, okE k j → hV aw k j v → hV aw2 k j v := fun k j v e hv => s.1.1 k j v ⟨e, hv⟩
    have key : ∀ {k t f f' l l'}, (k = 35 ∨ ∃ n, n < 2 ∧ k = ti2 n) → hV aw k 0 (rf t) → (∃ fs, aw[t]? = some (.inl (10, fs))) → TN aw t f l → (∀ i, i < 4 → f' i = f i) → (∀ i, i < 20 → l' i = l i) → TN aw2 t f' l' := fun hkk ht h10 hTN hff hll => TN_keep hTN (fun v hv => hE _ _ _ (okE_t hk h10) hv) (fun nr hnr i => fr_glT hS hf (town_N hp hS hF hkk ht hnr) (ghNo_ok ms k8)) hff hll
    refine ⟨⟨t1, (HF_same hF s).2.2.2.2.1, key (Or.inl rfl) n1 hTC.1 n2 s91 (fun i _ => s94 i)⟩, fun n hn => ?_⟩
    obtain ⟨tn, a1, a2⟩ := hI n hn
    obtain ⟨tm, b1, b2⟩ := hIm n hn
    have e2 : tm = tn := rf_inj (hV_one b1 a1)
    subst e2
    refine ⟨tm, hE _ _ _ (okE_i hn) a1, key (Or.inr ⟨n, hn, rfl⟩) a1 b2.1 a2 (fun i hi => ?_) (fun i hi => ?_)⟩
    · show ghI aw2 128 _ = ghI aw 128 _
      rw [K0_ghI (hM.2 hr) (x2 128 _ _ _ r128), K0_ghI x2 r128]
    · show ghL aw2 129 _ = ghL aw 129 _
      rw [K3_ghL (hM3.2 hr) (hK 129 _ _ _ r129), K3_ghL hK r129]
  · obtain ⟨n, rfl⟩ : ∃ n : Nat, k = (n : Int) := ⟨k.toNat, by omega⟩
    have hn : n < 2 := by omega
    obtain ⟨x1, aw', x2, x3⟩ := hX.1 n rfl hn
    obtain ⟨m1, m2, m3⟩ := hM.1 n rfl hn
    obtain ⟨w1, w2, w3⟩ := hM3.1 n rfl hn
    obtain ⟨f1, f2, f3⟩ := HF_image hn hF x1 hw1
    have c111 : ∀ i, ghI aw1 111 i = ghI aw 111 i := fun i => ghI_same (rxa_row hp hS hF (Or.inr ⟨n, hn, rfl⟩) x2 x3 q1 (by omega) r111) i
    have c128 : ∀ i, ghI aw1 128 i = ghI aw 128 i := fun i => ghI_same (rxa_row hp hS hF (Or.inr ⟨n, hn, rfl⟩) x2 x3 q2 (by omega) r128) i
    have nt : ∀ {t : Nat}, (∃ fs, aw[t]? = some (.inl (10, fs))) → ∀ j, ¬ (t = ti2 n ∧ j = 0) := by
      intro t ht j q
      obtain ⟨fs, e⟩ := ht
      have t0' := (HF_T hp hS hF).2 n hn
      obtain ⟨c, e1, e2⟩ := gh_at hS t0'
      rw [q.1, e1] at e
      have e := Option.some.inj e
      subst e
      have : (10 : Nat) = 2 := e2.1.symm
      omega
    have key : ∀ {k t f f' l l'}, (k = 35 ∨ ∃ n, n < 2 ∧ k = ti2 n) → hV aw k 0 (rf t) → (∃ fs, aw[t]? = some (.inl (10, fs))) → TN aw t f l → (∀ i, i < 4 → f' i = f i) → (∀ i, i < 20 → l' i = l i) → TN aw2 t f' l' := fun hkk ht h10 hTN hff hll => TN_keep hTN (fun v hv => hV_Fr hF2 (f3 _ _ v (nt h10 _) hv)) (fun nr hnr i => fr_glT hS hf (town_N hp hS hF hkk ht hnr) (ghNo_ok ms k8)) hff hll
    refine ⟨⟨t1, (HF_same f1 (SameT_Fr (SameT_refl f1) hF2 hw2)).2.2.2.2.1, key (Or.inl rfl) n1 hTC.1 n2 s91 (fun i _ => s94 i)⟩, fun m hm => ?_⟩
    by_cases e : m = n
    · subst e
      refine ⟨t1, hV_Fr hF2 f2, key (Or.inl rfl) n1 hTC.1 n2 (fun i hi => ?_) (fun i hi => ?_)⟩
      · show ghI aw2 128 (296 * m + i) = ghI aw 111 i
        rw [m1 i (by omega), c111]
      · show ghL aw2 129 (20 * m + i) = ghL aw 114 i
        rw [w1 i hi, K3_ghL hK r114]
    · obtain ⟨tn, a1, a2⟩ := hI m hm
      obtain ⟨tm, b1, b2⟩ := hIm m hm
      have e2 : tm = tn := rf_inj (hV_one b1 a1)
      subst e2
      refine ⟨tm, hV_Fr hF2 (f3 _ _ _ (fun q => e (by have := q.1; unfold ti2 at this; omega)) a1), key (Or.inr ⟨m, hm, rfl⟩) a1 b2.1 a2 (fun i hi => ?_) (fun i hi => ?_)⟩
      · show ghI aw2 128 (296 * m + i) = ghI aw 128 (296 * m + i)
        rw [m2 _ (by omega), c128]
      · show ghL aw2 129 (20 * m + i) = ghL aw 129 (20 * m + i)
        rw [w2 _ (by omega), K3_ghL hK r129]
/-- restore -/
theorem HN_restore {T pl T2 : List Nat} {aw aw1 aw2 : rvH} {ms : List Nat} {k : Int} (hp : pl = rzPl) (hS : gS T pl aw) (hT : HT aw) (hN : HN aw) (hf : lwFr ms T pl aw T2 pl aw2) (k8 : ghNo ms 8 = true) (k108 : ghNo ms 108 = true) (k109 : ghNo ms 109 = true)
    (hw1 : Fw aw aw1) (hfl : ∀ n, n < 2 → ghI aw1 130 n = ghI aw 9 n) (hl1 : ∀ x, ghL aw1 129 x = ghL aw 129 x) (hl2 : ∀ x, ghL aw1 114 x = ghL aw 114 x) (hX : (∀ n : Nat, k = (n : Int) → n < 2 → ¬ ghI aw 9 n = 0 → RSp 35 47 (ti2 n) aw aw1 ∧ ∃ aw', RXa 35 aw aw' ∧ K0 aw' aw1) ∧ ((k < 0 ∨ 1 < k ∨ ∃ n : Nat, k = (n : Int) ∧ ghI aw 9 n = 0) → Fr aw aw1 ∧ K0 aw aw1))
    (hF2 : Fr aw1 aw2) (hw2 : Fw aw1 aw2) (hM : (∀ n : Nat, k = (n : Int) → n < 2 → ¬ ghI aw1 130 n = 0 → REp n aw1 aw2) ∧ ((k < 0 ∨ 1 < k ∨ ∃ n : Nat, k = (n : Int) ∧ ghI aw1 130 n = 0) → K0 aw1 aw2)) (hM3 : (∀ n : Nat, k = (n : Int) → n < 2 → ¬ ghI aw1 130 n = 0 → REn n aw1 aw2) ∧ ((k < 0 ∨ 1 < k ∨ ∃ n : Nat, k = (n : Int) ∧ ghI aw1 130 n = 0) → K3 aw1 aw2)) : HN aw2 := by
  obtain ⟨q1, q2⟩ := pl_111 hp hS
  obtain ⟨p1, p2⟩ := pl_114 hp hS
  obtain ⟨hk, t0, hF, hTC, hIm⟩ := hT
  obtain ⟨⟨t1, n1, n2⟩, hI⟩ := hN
  have e1 : t1 = t0 := rf_inj (hV_one n1 hF.2.2.2.2.1)
  subst e1
  obtain ⟨ds, os, r111⟩ : ∃ d ov, aw[111]? = some (.inr (0, 296, d, ov)) := row_T hS q1 ⟨_, _, rfl⟩
  obtain ⟨dk, ok, r128⟩ : ∃ d ov, aw[128]? = some (.inr (0, 592, d, ov)) := row_T hS q2 ⟨_, _, rfl⟩
  obtain ⟨d1, o1, r114⟩ : ∃ d ov, aw[114]? = some (.inr (3, 40, d, ov)) := row_T3 hS p1 ⟨_, rfl⟩
  have s108 : ∀ i, ghI aw2 128 i = ghI aw 128 i := fun i => fr_ghT hS hf q2 (ghNo_ok ms k108)
  have s109 : ∀ i, ghL aw2 129 i = ghL aw 129 i := fun i => fr_glT hS hf p2 (ghNo_ok ms k109)
  by_cases hr : k < 0 ∨ 1 < k ∨ ∃ n : Nat, k = (n : Int) ∧ n < 2 ∧ ghI aw 9 n = 0
  · have hr1 : k < 0 ∨ 1 < k ∨ ∃ n : Nat, k = (n : Int) ∧ ghI aw 9 n = 0 := by
      rcases hr with h | h | ⟨n, h1, h2, h3⟩
      · exact Or.inl h
      · exact Or.inr (Or.inl h)
      · exact Or.inr (Or.inr ⟨n, h1, h3⟩)
    have hr2 : k < 0 ∨ 1 < k ∨ ∃ n : Nat, k = (n : Int) ∧ ghI aw1 130 n = 0 := by
      rcases hr with h | h | ⟨n, h1, h2, h3⟩
      · exact Or.inl h
      · exact Or.inr (Or.inl h)
      · exact Or.inr (Or.inr ⟨n, h1, by rw [hfl n h2]; exact h3⟩)
    obtain ⟨x1, x2⟩ := hX.2 hr1
    have m1 := hM.2 hr2
    have s := SameT_Fr (SameT_Fr (SameT_refl hF) x1 hw1) hF2 hw2
    have hE : ∀ k j v, okE k j → hV aw k j v → hV aw2 k j v := fun k j v e hv => s.1.1 k j v ⟨e, hv⟩
    have key : ∀ {k t f f' l l'}, (k = 35 ∨ ∃ n, n < 2 ∧ k = ti2 n) → hV aw k 0 (rf t) → (∃ fs, aw[t]? = some (.inl (10, fs))) → TN aw t f l → (∀ i, i < 4 → f' i = f i) → (∀ i, i < 20 → l' i = l i) → TN aw2 t f' l' := fun hkk ht h10 hTN hff hll => TN_keep hTN (fun v hv => hE _ _ _ (okE_t hk h10) hv) (fun nr hnr i => fr_glT hS hf (town_N hp hS hF hkk ht hnr) (ghNo_ok ms k8)) hff hll
    refine ⟨⟨t1, (HF_same hF s).2.2.2.2.1, key (Or.inl rfl) n1 hTC.1 n2 (fun i hi => ?_) (fun i _ => ?_)⟩, fun n hn => ?_⟩
    · rw [K0_ghI m1 (x2 111 _ _ _ r111), K0_ghI x2 r111]
    · obtain ⟨c', e', sh⟩ := hw1.2.1 114 _ r114
      rcases c' with ⟨ci, fs⟩ | ⟨q', n', d', ov'⟩
      · exact absurd sh id
      · obtain ⟨rfl, rfl⟩ := sh
        rw [K3_ghL (hM3.2 hr2) e', hl2]
    · obtain ⟨tn, a1, a2⟩ := hI n hn
      obtain ⟨tm, b1, b2⟩ := hIm n hn
      have e2 : tm = tn := rf_inj (hV_one b1 a1)
      subst e2
      exact ⟨tm, hE _ _ _ (okE_i hn) a1, key (Or.inr ⟨n, hn, rfl⟩) a1 b2.1 a2 (fun i hi => s108 _) (fun i hi => s109 _)⟩
  · obtain ⟨n, rfl⟩ : ∃ n : Nat, k = (n : Int) := ⟨k.toNat, by omega⟩
    have hn : n < 2 := by omega
    have hz : ¬ ghI aw 9 n = 0 := fun q => hr (Or.inr (Or.inr ⟨n, rfl, hn, q⟩))
    obtain ⟨x1, aw', x2, x3⟩ := hX.1 n rfl hn hz
    obtain ⟨m1, m2⟩ := hM.1 n rfl hn (by rw [hfl n hn]; exact hz)
    obtain ⟨w1, w2⟩ := hM3.1 n rfl hn (by rw [hfl n hn]; exact hz)
    obtain ⟨tn, e1, e2⟩ := hIm n hn
    obtain ⟨f1, f3⟩ := HF_restore hF e1 x1 hw1
    have c128 : ∀ i, ghI aw1 128 i = ghI aw 128 i := fun i => ghI_same (rxa_row hp hS hF (Or.inl rfl) x2 x3 q2 (by omega) r128) i
    have nt : ∀ {t : Nat}, (∃ fs, aw[t]? = some (.inl (10, fs))) → ∀ j, ¬ (t = 35 ∧ j = 0) ∧ ¬ (t = 47 ∧ j = 1) := by
      intro t ht j
      have o1 := okE_t hk ht (j := j)
      exact ⟨fun q => o1.2.2 ⟨Or.inl q.1, q.2⟩, o1.1⟩
    have key : ∀ {k t f f' l l'}, (k = 35 ∨ ∃ n, n < 2 ∧ k = ti2 n) → hV aw k 0 (rf t) → (∃ fs, aw[t]? = some (.inl (10, fs))) → TN aw t f l → (∀ i, i < 4 → f' i = f i) → (∀ i, i < 20 → l' i = l i) → TN aw2 t f' l' := fun hkk ht h10 hTN hff hll => TN_keep hTN (fun v hv => hV_Fr hF2 (f3 _ _ v (nt h10 _).1 (nt h10 _).2 hv)) (fun nr hnr i => fr_glT hS hf (town_N hp hS hF hkk ht hnr) (ghNo_ok ms k8)) hff hll
    obtain ⟨tm, a1, a2⟩ := hI n hn
    have e3 : tm = tn := rf_inj (hV_one a1 e1)
    subst e3
    refine ⟨⟨tm, (HF_same f1 (SameT_Fr (SameT_refl f1) hF2 hw2)).2.2.2.2.1, key (Or.inr ⟨n, hn, rfl⟩) e1 e2.1 a2 (fun i hi => ?_) (fun i hi => ?_)⟩, fun m hm => ?_⟩
    · rw [m1 i (by omega), c128]
    · rw [w1 i hi, hl1]
    · obtain ⟨ta, g1, g2⟩ := hIm m hm
      obtain ⟨tb, a3, a4⟩ := hI m hm
      have e4 : ta = tb := rf_inj (hV_one g1 a3)
      subst e4
      exact ⟨ta, hV_Fr hF2 (f3 _ _ _ (by unfold ti2; omega) (by unfold ti2; omega) g1), key (Or.inr ⟨m, hm, rfl⟩) g1 g2.1 a4 (fun i hi => s108 _) (fun i hi => s109 _)⟩
/-! the start -/
theorem rz_n1 : hVB rzAw0 27 1 (rf 29) = true := by decide +kernel
theorem rz_HN : HN rzAw0 := by
  obtain ⟨z1, hz⟩ := rv_and rz_0
  obtain ⟨z2, z3⟩ := rv_and hz
  obtain ⟨p1, hp⟩ := rv_and rz_35
  obtain ⟨p2, hp⟩ := rv_and hp
  obtain ⟨p3, hp⟩ := rv_and hp
  obtain ⟨p4, hp⟩ := rv_and hp
  have s0 : ∀ i, i < 91 → ghI rzAw0 111 i = 0 := fun i hi => of_decide_eq_true (List.all_eq_true.mp z1 i (List.mem_range.mpr hi))
  have kp0 : ∀ i, i < 592 → ghI rzAw0 128 i = 0 := fun i hi => of_decide_eq_true (List.all_eq_true.mp z2 i (List.mem_range.mpr hi))
  have tn : ∀ (f : Nat → Int) (l : Nat → Int64), (∀ i, i < 4 → f i = 0) → TN rzAw0 27 f l := fun f l hf => ⟨29, hVB_ok rz_n1, fun s hs => ⟨0, Nat.zero_le _, hf s hs, fun i hi => by omega⟩⟩
  refine ⟨⟨27, hVB_ok p1, tn _ _ (fun i hi => s0 i (by omega))⟩, fun n hn => ⟨27, ?_, tn _ _ (fun i hi => kp0 _ (by omega))⟩⟩
  have : n = 0 ∨ n = 1 := by omega
  rcases this with rfl | rfl
  · exact hVB_ok p3
  · exact hVB_ok p4
