/-! The lives that are kept (by hand). -/
theorem i_sub1 {i : Nat} (h1 : 1 ≤ i) (h : i < 2147483647) : iop (· - ·) (i : Int) 1 = ((i - 1 : Nat) : Int) := by
  have : iop (· - ·) (i : Int) 1 = (i : Int) - 1 := xi_sub ⟨by omega, by omega⟩ ⟨by omega, by omega⟩ ⟨by omega, by omega⟩
  rw [this]; omega
/-- cells of the class: the life, the trial, the past, its row; the lives; what else must stay -/
def SC (L B P W : Nat) (Z : Nat → Prop) (E : Nat → Nat → rvV → Prop) : Prop := L ≠ B ∧ ¬ Z L ∧ ¬ Z B ∧ W ≠ P ∧ W ≠ L ∧ W ≠ B ∧ ¬ Z W ∧ E P 0 (rf W) ∧ ∀ k j v, E k j v → ¬ (k = P ∧ j = 1) ∧ k ≠ W ∧ ¬ (k = L ∧ j = 0) ∧ ¬ (k = B ∧ j = 0) ∧ ¬ (Z k ∧ j = 0)
/-- the life's town is that of all lives that are kept -/
def TI (L B P W : Nat) (Z : Nat → Prop) (E : Nat → Nat → rvV → Prop) (t0 : Nat) (lv : Bool) (aw : rvH) : Prop := (∀ k j v, E k j v → hV aw k j v) ∧ hV aw L 0 (rf t0) ∧ (lv = true → hV aw B 0 (rf t0)) ∧ (∀ i, i < 8 → ∃ z, Z z ∧ hV aw W i (rf z)) ∧ ∃ n : Nat, n ≤ 8 ∧ hV aw P 1 (pt (n : Int)) ∧ ∀ i, i < n → ∃ z, Z z ∧ hV aw W i (rf z) ∧ hV aw z 0 (rf t0)
section KP
variable {L B P W t0 : Nat} {Z : Nat → Prop} {E : Nat → Nat → rvV → Prop} {lv : Bool} {aw : rvH}
theorem TI_Fr {aw' : rvH} (h : TI L B P W Z E t0 lv aw) (hf : Fr aw aw') : TI L B P W Z E t0 lv aw' := by
  obtain ⟨h1, h2, h3, h4, n, h5, h6, h7⟩ := h
  refine ⟨fun k j v e => hV_Fr hf (h1 k j v e), hV_Fr hf h2, fun e => hV_Fr hf (h3 e), fun i hi => ?_, n, h5, hV_Fr hf h6, fun i hi => ?_⟩
  · obtain ⟨z, z1, z2⟩ := h4 i hi
    exact ⟨z, z1, hV_Fr hf z2⟩
  · obtain ⟨z, z1, z2, z3⟩ := h7 i hi
    exact ⟨z, z1, hV_Fr hf z2, hV_Fr hf z3⟩
theorem TI_lv (h : TI L B P W Z E t0 lv aw) : TI L B P W Z E t0 false aw := ⟨h.1, h.2.1, (fun e => by cases e), h.2.2.2⟩
/-- the trial is made a copy of what has the life's town -/
theorem TI_cfB (hs : SC L B P W Z E) {x : Nat} {aw' : rvH} (h : TI L B P W Z E t0 lv aw) (hx : hV aw x 0 (rf t0)) (hc : CFp B x aw aw') : TI L B P W Z E t0 true aw' := by
  obtain ⟨s1, s2, s3, s4, s5, s6, s7, s8, s9⟩ := hs
  obtain ⟨h1, h2, h3, h4, n, h5, h6, h7⟩ := h
  refine ⟨fun k j v e => cf_old hc (s9 k j v e).2.2.2.1 (h1 k j v e), cf_old hc (fun q => s1 q.1) h2, fun _ => cf_new hc hx, fun i hi => ?_, n, h5, cf_old hc (fun q => by omega) h6, fun i hi => ?_⟩
  · obtain ⟨z, z1, z2⟩ := h4 i hi
    exact ⟨z, z1, cf_old hc (fun q => s6 q.1) z2⟩
  · obtain ⟨z, z1, z2, z3⟩ := h7 i hi
    exact ⟨z, z1, cf_old hc (fun q => s6 q.1) z2, cf_old hc (fun q => s3 (q.1 ▸ z1)) z3⟩
theorem TI_cfL (hs : SC L B P W Z E) {x : Nat} {aw' : rvH} (h : TI L B P W Z E t0 lv aw) (hx : hV aw x 0 (rf t0)) (hc : CFp L x aw aw') : TI L B P W Z E t0 lv aw' := by
  obtain ⟨s1, s2, s3, s4, s5, s6, s7, s8, s9⟩ := hs
  obtain ⟨h1, h2, h3, h4, n, h5, h6, h7⟩ := h
  refine ⟨fun k j v e => cf_old hc (s9 k j v e).2.2.1 (h1 k j v e), cf_new hc hx, fun e => cf_old hc (fun q => s1 q.1.symm) (h3 e), fun i hi => ?_, n, h5, cf_old hc (fun q => by omega) h6, fun i hi => ?_⟩
  · obtain ⟨z, z1, z2⟩ := h4 i hi
    exact ⟨z, z1, cf_old hc (fun q => s5 q.1) z2⟩
  · obtain ⟨z, z1, z2, z3⟩ := h7 i hi
    exact ⟨z, z1, cf_old hc (fun q => s5 q.1) z2, cf_old hc (fun q => s2 (q.1 ▸ z1)) z3⟩
/-! dropOldest -/
def DL (W : Nat) (G : Nat → Prop) (aw0 aw : rvH) : Prop := (∀ m, m < 8 → ∃ z, G z ∧ hV aw W m (rf z)) ∧ ∀ (k j : Nat) (v : rvV), k ≠ W → hV aw0 k j v → hV aw k j v
theorem DL_up {G : Nat → Prop} {aw0 aw aw' : rvH} {z i : Nat} (h : DL W G aw0 aw) (hz : G z) (hu : Up aw aw' W i (rf z)) : DL W G aw0 aw' := by
  refine ⟨fun m hm => ?_, fun k j v hk hv => hu.2.1 k j v (fun q => hk q.1) (h.2 k j v hk hv)⟩
  by_cases e : m = i
  · subst e; exact ⟨z, hz, hu.2.2⟩
  · obtain ⟨z', z1, z2⟩ := h.1 m hm
    exact ⟨z', z1, hu.2.1 W m _ (fun q => e q.2) z2⟩
/-- what dropOldest leaves -/
def DO (P W : Nat) (G : Nat → Prop) (aw0 aw : rvH) : Prop := (∀ m, m < 8 → ∃ z, G z ∧ hV aw W m (rf z)) ∧ (∀ (k j : Nat) (v : rvV), k ≠ W → ¬ (k = P ∧ j = 1) → hV aw0 k j v → hV aw k j v) ∧ hV aw P 1 (pt 7)
theorem do_loop {G : Nat → Prop} {aw0 : rvH} {z0 : Nat} (hWP : W ≠ P) (hP : hV aw0 P 0 (rf W)) (hk : hV aw0 P 1 (pt 8)) (hz0 : G z0) : ∀ (f i : Nat) (aw : rvH), i + f = 8 → 1 ≤ i → DL W G aw0 aw → Pr rvTab rvInf rvRet 316 rvMth 257 (fun res => DO P W G aw0 res.2) 9 [rf P, rf z0, pt (i : Int)] [] aw := by
  have hj : 257 < 316 := by decide
  intro f
  induction f with
  | zero =>
    intro i aw hi h1 hd
    have hi8 : i = 8 := by omega
    subst hi8
    have p0 := hd.2 P 0 _ (Ne.symm hWP) hP
    have p1 := hd.2 P 1 _ (Ne.symm hWP) hk
    refine Pr_ld 10 hj rfl rfl rfl rfl ?_
    refine Pr_cst 12 hj rfl rfl rfl ?_
    refine Pr_icmp (t := 35) hj rfl rfl (fun _ => ?_) (fun h => by
      have h : (8 : Int) < 8 := h
      omega)
    refine Pr_ld 36 hj rfl rfl rfl rfl ?_
    refine Pr_gfV hj rfl (by decide) rfl p0 ?_
    refine Pr_cst 41 hj rfl rfl rfl ?_
    refine Pr_ld 42 hj rfl rfl rfl rfl ?_
    obtain ⟨u, u1, u2⟩ := hd.1 7 (by omega)
    refine Pr_aast (x := 7) hj rfl u2 (fun aw1 hu => ?_)
    have hd1 := DL_up hd hz0 hu
    refine Pr_ld 44 hj rfl rfl rfl rfl ?_
    refine Pr_dup hj rfl ?_
    refine Pr_gfV hj rfl (by decide) rfl (hu.2.1 P 1 _ (fun q => hWP q.1.symm) p1) ?_
    refine Pr_cst 49 hj rfl rfl rfl ?_
    refine Pr_bin hj rfl rfl ?_
    refine Pr_pf hj rfl rfl (fun aw2 hu2 => ?_)
    refine Pr_ret rfl (Or.inr (Or.inr rfl)) ?_
    refine ⟨fun m hm => ?_, fun k j v h1 h2 hv => hu2.2.1 k j v h2 (hd1.2 k j v h1 hv), hu2.2.2⟩
    obtain ⟨z, z1, z2⟩ := hd1.1 m hm
    exact ⟨z, z1, hu2.2.1 W m _ (fun q => hWP q.1) z2⟩
  | succ f ih =>
    intro i aw hi h1 hd
    have p0 := hd.2 P 0 _ (Ne.symm hWP) hP
    refine Pr_ld 10 hj rfl rfl rfl rfl ?_
    refine Pr_cst 12 hj rfl rfl rfl ?_
    refine Pr_icmp (t := 35) hj rfl rfl (fun h => ?_) (fun _ => ?_)
    · have h : ¬ (i : Int) < 8 := h
      omega
    refine Pr_ld 16 hj rfl rfl rfl rfl ?_
    refine Pr_gfV hj rfl (by decide) rfl p0 ?_
    refine Pr_ld 20 hj rfl rfl rfl rfl ?_
    refine Pr_cst 21 hj rfl rfl rfl ?_
    refine Pr_bin hj rfl rfl ?_
    rw [i_sub1 h1 (by omega)]
    refine Pr_ld 23 hj rfl rfl rfl rfl ?_
    refine Pr_gfV hj rfl (by decide) rfl p0 ?_
    refine Pr_ld 27 hj rfl rfl rfl rfl ?_
    obtain ⟨z, z1, z2⟩ := hd.1 i (by omega)
    refine Pr_aald hj rfl z2 ?_
    obtain ⟨u, u1, u2⟩ := hd.1 (i - 1) (by omega)
    refine Pr_aast (x := i - 1) hj rfl u2 (fun aw1 hu => ?_)
    refine Pr_iinc (al' := [rf P, rf z0, pt ((i + 1 : Nat) : Int)]) hj rfl rfl ?_ ?_
    · rw [iAdd_1 (by omega)]; rfl
    refine Pr_goto 9 hj rfl rfl ?_
    exact ih (i + 1) aw1 (by omega) (by omega) (DL_up hd z1 hu)
theorem sp_drop {G : Nat → Prop} (hWP : W ≠ P) (hP : hV aw P 0 (rf W)) (hk : hV aw P 1 (pt 8)) (hG : ∀ m, m < 8 → ∃ z, G z ∧ hV aw W m (rf z)) : PCM rvTab rvInf rvRet 316 rvMth 257 [rf P] aw (fun res => DO P W G aw res.2) := by
  have hj : 257 < 316 := by decide
  refine PCM_of (fun _ _ => ?_)
  have key : Pr rvTab rvInf rvRet 316 rvMth 257 (fun res => DO P W G aw res.2) 0 [rf P, rvU, rvU] [] aw := by
    obtain ⟨z0, g0, w0⟩ := hG 0 (by omega)
    refine Pr_ld 1 hj rfl rfl rfl rfl ?_
    refine Pr_gfV hj rfl (by decide) rfl hP ?_
    refine Pr_cst 5 hj rfl rfl rfl ?_
    refine Pr_aald (x := 0) hj rfl w0 ?_
    refine Pr_st 7 [rf P, rf z0, rvU] (k := 1) hj rfl (Or.inr (Or.inr (Or.inr ⟨_, rfl, rfl, rfl⟩))) rfl ?_
    refine Pr_cst 8 hj rfl rfl rfl ?_
    refine Pr_st 9 [rf P, rf z0, pt 1] (k := 2) hj rfl (Or.inr (Or.inr (Or.inl ⟨_, rfl, rfl, rfl⟩))) rfl ?_
    exact do_loop hWP hP hk g0 7 1 aw rfl (by omega) ⟨hG, fun k j v _ hv => hv⟩
  exact key 0 0
/-! keep -/
theorem keep_13 (hs : SC L B P W Z E) {x n : Nat} (h1 : ∀ k j v, E k j v → hV aw k j v) (h2 : hV aw L 0 (rf t0)) (h3 : lv = true → hV aw B 0 (rf t0)) (h4 : ∀ i, i < 8 → ∃ z, Z z ∧ hV aw W i (rf z)) (hn : n < 8) (h6 : hV aw P 1 (pt (n : Int))) (h7 : ∀ i, i < n → ∃ z, Z z ∧ hV aw W i (rf z) ∧ hV aw z 0 (rf t0)) (hx : hV aw x 0 (rf t0)) (st : List rvV) : Pr rvTab rvInf rvRet 316 rvMth 256 (fun res => TI L B P W Z E t0 lv res.2) 13 [rf P, rf x] st aw := by
  have hj : 256 < 316 := by decide
  obtain ⟨s1, s2, s3, s4, s5, s6, s7, s8, s9⟩ := hs
  have p0 := h1 _ _ _ s8
  obtain ⟨z, z1, z2⟩ := h4 n hn
  refine Pr_ld 14 hj rfl rfl rfl rfl ?_
  refine Pr_gfV hj rfl (by decide) rfl p0 ?_
  refine Pr_ld 18 hj rfl rfl rfl rfl ?_
  refine Pr_gfV hj rfl (by decide) rfl h6 ?_
  refine Pr_aald hj rfl z2 ?_
  refine Pr_ld 23 hj rfl rfl rfl rfl ?_
  refine Pr_callV rfl (Or.inl ⟨_, rfl⟩) rfl rfl (sp_copyFrom z x aw) (fun res hc => ?_)
  have zP : ∀ (k j : Nat) (v : rvV), ¬ (k = z ∧ j = 0) → hV aw k j v → hV res.2 k j v := fun k j v hne hv => cf_old hc hne hv
  have hnoR : ∀ st : List rvV, Pr rvTab rvInf rvRet 316 rvMth 256 (fun res => TI L B P W Z E t0 lv res.2) 26 [rf P, rf x] st res.2 := by
    intro st
    refine Pr_ld 27 hj rfl rfl rfl rfl ?_
    refine Pr_dup hj rfl ?_
    refine Pr_gfV hj rfl (by decide) rfl (zP P 1 _ (fun q => by omega) h6) ?_
    refine Pr_cst 32 hj rfl rfl rfl ?_
    refine Pr_bin hj rfl rfl ?_
    rw [iAdd_1 (by omega)]
    refine Pr_pf hj rfl rfl (fun aw2 hu => ?_)
    refine Pr_ret rfl (Or.inr (Or.inr rfl)) ?_
    have q : ∀ (k j : Nat) (v : rvV), ¬ (k = z ∧ j = 0) → ¬ (k = P ∧ j = 1) → hV aw k j v → hV aw2 k j v := fun k j v a b hv => hu.2.1 k j v b (zP k j v a hv)
    refine ⟨fun k j v e => ?_, q L 0 _ (fun e => s2 (e.1 ▸ z1)) (fun e => by omega) h2, fun e => q B 0 _ (fun e => s3 (e.1 ▸ z1)) (fun e => by omega) (h3 e), fun i hi => ?_, n + 1, hn, hu.2.2, fun i hi => ?_⟩
    · obtain ⟨a, b, c, d, f⟩ := s9 k j v e
      exact q k j v (fun e => f ⟨e.1 ▸ z1, e.2⟩) a (h1 k j v e)
    · obtain ⟨y, y1, y2⟩ := h4 i hi
      exact ⟨y, y1, q W i _ (fun e => s7 (e.1 ▸ z1)) (fun e => s4 e.1) y2⟩
    · by_cases e : i = n
      · subst e
        exact ⟨z, z1, q W i _ (fun e => s7 (e.1 ▸ z1)) (fun e => s4 e.1) z2, hu.2.1 z 0 _ (fun e => by omega) (cf_new hc hx)⟩
      · obtain ⟨y, y1, y2, y3⟩ := h7 i (by omega)
        refine ⟨y, y1, q W i _ (fun e => s7 (e.1 ▸ z1)) (fun e => s4 e.1) y2, ?_⟩
        by_cases e : y = z
        · subst e
          exact hu.2.1 y 0 _ (fun e => by omega) (cf_new hc hx)
        · exact q y 0 _ (fun q => e q.1) (fun e => by omega) y3
  exact hnoR _
theorem sp_keep (hs : SC L B P W Z E) {x : Nat} (h : TI L B P W Z E t0 lv aw) (hx : hV aw x 0 (rf t0)) (hxP : x ≠ W) : PCM rvTab rvInf rvRet 316 rvMth 256 [rf P, rf x] aw (fun res => TI L B P W Z E t0 lv res.2) := by
  have hj : 256 < 316 := by decide
  refine PCM_of (fun _ _ => ?_)
  have hs' := hs
  obtain ⟨s1, s2, s3, s4, s5, s6, s7, s8, s9⟩ := hs'
  obtain ⟨h1, h2, h3, h4, n, h5, h6, h7⟩ := h
  have key : Pr rvTab rvInf rvRet 316 rvMth 256 (fun res => TI L B P W Z E t0 lv res.2) 0 [rf P, rf x] [] aw := by
    refine Pr_ld 1 hj rfl rfl rfl rfl ?_
    refine Pr_gfV hj rfl (by decide) rfl h6 ?_
    refine Pr_cst 6 hj rfl rfl rfl ?_
    refine Pr_icmp (t := 13) hj rfl rfl (fun hne => ?_) (fun he => ?_)
    · have hne : ¬ (n : Int) = 8 := hne
      exact keep_13 hs h1 h2 h3 h4 (by omega) h6 h7 hx _
    · have he : (n : Int) = 8 := he
      have he : n = 8 := by omega
      subst he
      refine Pr_ld 10 hj rfl rfl rfl rfl ?_
      refine Pr_callV rfl (Or.inl ⟨_, rfl⟩) rfl rfl (sp_drop (G := fun z => Z z ∧ hV aw z 0 (rf t0)) s4 (h1 _ _ _ s8) h6 (fun m hm => by
        obtain ⟨z, z1, z2, z3⟩ := h7 m hm
        exact ⟨z, ⟨z1, z3⟩, z2⟩)) (fun res hd => ?_)
      obtain ⟨d1, d2, d3⟩ := hd
      refine keep_13 (n := 7) hs (fun k j v e => d2 k j v (s9 k j v e).2.1 (s9 k j v e).1 (h1 k j v e)) (d2 L 0 _ (Ne.symm s5) (fun e => by omega) h2) (fun e => d2 B 0 _ (Ne.symm s6) (fun e => by omega) (h3 e)) (fun i hi => ?_) (by omega) d3 (fun i hi => ?_) (d2 x 0 _ hxP (fun e => by omega) hx) _
      · obtain ⟨z, ⟨z1, -⟩, z2⟩ := d1 i hi
        exact ⟨z, z1, z2⟩
      · obtain ⟨z, ⟨z1, z3⟩, z2⟩ := d1 i (by omega)
        exact ⟨z, z1, z2, d2 z 0 _ (fun e => s7 (e ▸ z1)) (fun e => by omega) z3⟩
  exact key 0 0
/-! takeBack -/
theorem i_sub0 {n : Nat} (h1 : 1 ≤ n) (h : n ≤ 8) : iop (· - ·) (n : Int) 1 = ((n - 1 : Nat) : Int) := i_sub1 h1 (by omega)
theorem sp_back (hs : SC L B P W Z E) (h : TI L B P W Z E t0 lv aw) : PCM rvTab rvInf rvRet 316 rvMth 273 [rf P, rf L] aw (fun res => TI L B P W Z E t0 lv res.2) := by
  have hj : 273 < 316 := by decide
  refine PCM_of (fun _ _ => ?_)
  have hs' := hs
  obtain ⟨s1, s2, s3, s4, s5, s6, s7, s8, s9⟩ := hs'
  have h0 := h
  obtain ⟨h1, h2, h3, h4, n, h5, h6, h7⟩ := h
  have key : Pr rvTab rvInf rvRet 316 rvMth 273 (fun res => TI L B P W Z E t0 lv res.2) 0 [rf P, rf L] [] aw := by
    refine Pr_ld 1 hj rfl rfl rfl rfl ?_
    refine Pr_gfV hj rfl (by decide) rfl h6 ?_
    refine Pr_ifc (t := 9) hj rfl rfl (fun hne => ?_) (fun he => ?_)
    · have hne : ¬ (n : Int) = 0 := hne
      refine Pr_ld 10 hj rfl rfl rfl rfl ?_
      refine Pr_dup hj rfl ?_
      refine Pr_gfV hj rfl (by decide) rfl h6 ?_
      refine Pr_cst 15 hj rfl rfl rfl ?_
      refine Pr_bin hj rfl rfl ?_
      rw [i_sub0 (by omega) h5]
      refine Pr_pf hj rfl rfl (fun aw1 hu => ?_)
      have q : ∀ (k j : Nat) (v : rvV), ¬ (k = P ∧ j = 1) → hV aw k j v → hV aw1 k j v := hu.2.1
      obtain ⟨z, z1, z2, z3⟩ := h7 (n - 1) (by omega)
      have t1 : TI L B P W Z E t0 lv aw1 := by
        refine ⟨fun k j v e => q k j v (s9 k j v e).1 (h1 k j v e), q L 0 _ (fun e => by omega) h2, fun e => q B 0 _ (fun e => by omega) (h3 e), fun i hi => ?_, n - 1, by omega, hu.2.2, fun i hi => ?_⟩
        · obtain ⟨y, y1, y2⟩ := h4 i hi
          exact ⟨y, y1, q W i _ (fun e => s4 e.1) y2⟩
        · obtain ⟨y, y1, y2, y3⟩ := h7 i (by omega)
          exact ⟨y, y1, q W i _ (fun e => s4 e.1) y2, q y 0 _ (fun e => by omega) y3⟩
      refine Pr_ld 20 hj rfl rfl rfl rfl ?_
      refine Pr_ld 21 hj rfl rfl rfl rfl ?_
      refine Pr_gfV hj rfl (by decide) rfl (q P 0 _ (fun e => by omega) (h1 _ _ _ s8)) ?_
      refine Pr_ld 25 hj rfl rfl rfl rfl ?_
      refine Pr_gfV hj rfl (by decide) rfl hu.2.2 ?_
      refine Pr_aald hj rfl (q W (n - 1) _ (fun e => s4 e.1) z2) ?_
      refine Pr_callV rfl (Or.inl ⟨_, rfl⟩) rfl rfl (sp_copyFrom L z aw1) (fun res hc => ?_)
      have t2 : TI L B P W Z E t0 lv res.2 := TI_cfL hs t1 (q z 0 _ (fun e => by omega) z3) hc
      refine Pr_ld 33 hj rfl rfl rfl rfl ?_
      refine Pr_gf hj rfl (by decide) (fun fs w e1 e2 => ?_)
      exact Pr_ret rfl (Or.inl rfl) t2
    · refine Pr_cst 8 hj rfl rfl rfl ?_
      exact Pr_ret rfl (Or.inl rfl) h0
  exact key 0 0
end KP
