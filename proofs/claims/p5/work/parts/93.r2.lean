/-! A turn in two halves (by hand). -/
theorem getD_take6 {l l' : List Int} (h : l.take 6 = l'.take 6) (k : Nat) (hk : k < 6) : l.getD k 0 = l'.getD k 0 := by
  have : (l.take 6)[k]? = (l'.take 6)[k]? := by rw [h]
  rw [List.getElem?_take, List.getElem?_take, if_pos hk, if_pos hk] at this
  rw [List.getD_eq_getElem?_getD, List.getD_eq_getElem?_getD, this]
theorem exL_al {x0 x29 x51 : Nat} {i : Int} {b5 b6 : rvV} (hi : xIn32 i) (h5 : exV b5) (h6 : exV b6) : exL [.inr (5, 0), .inr (2, x0), .inr (2, x29), .inr (2, x51), .inl (i, i), b5, b6] :=
  exL_c trivial (exL_c trivial (exL_c trivial (exL_c trivial (exL_c ⟨rfl, hi⟩ (exL_c h5 (exL_c h6 (fun v hv => by cases hv)))))))
theorem feedX_2 (a b c d e : Int) (H : hH) : (f_feedX a b c d e H).2 = H.2 := by
  unfold f_feedX
  split <;> rfl
section T4
variable {r : List Int} {T pl : List Nat} {aw : rvH}
theorem gh_940 (h : gS T pl aw) {k : Nat} (hk : k < 52) (hg : xRgn (60 + k) = .inr (1, 940, 1, [(1, .inl (-128, 127))])) {x : Nat} (hx : pl[k]? = some x) (j : Nat) : (j < 940 → ∃ z : Int, hI aw x j z ∧ ghI aw x j = z) ∧ (¬ j < 940 → ghI aw x j = 0) := by
  obtain ⟨i, c, h1, h2, h3, h4⟩ := gh_st h hk
  rw [hx] at h1
  have e := Option.some.inj h1
  subst e
  rw [hg] at h4
  rcases c with c | ⟨k', n', d, ov⟩
  · exact absurd h4 id
  · obtain ⟨-, e2, e3⟩ := h4
    have e2 : 940 = n' := e2
    subst e2
    refine ⟨fun hj => ?_, fun hj => ?_⟩
    · have hs : xSlot (.inr (k', 940, d, ov)) j = some (rvLook d ov j) := by
        show (bif Nat.blt j 940 then some (rvLook d ov j) else none) = _
        rw [show Nat.blt j 940 = true from Nat.ble_eq_true_of_le hj]
        rfl
      have ht := e3 j hj
      rw [Nat.mod_one] at ht
      obtain ⟨z, -, -, -, hz⟩ : ∃ z : Int, (-128 : Int) ≤ z ∧ z ≤ 127 ∧ xIn32 z ∧ rvLook d ov j = .inl (z, z) := ht
      rw [hz] at hs
      refine ⟨z, ⟨_, h3, hs⟩, ?_⟩
      unfold ghI
      rw [h3]
      dsimp only
      rw [hs]
    · have hs : xSlot (.inr (k', 940, d, ov)) j = none := by
        show (bif Nat.blt j 940 then some (rvLook d ov j) else none) = _
        have : Nat.blt j 940 = false := by
          cases hb : Nat.blt j 940 with
          | false => rfl
          | true => exact absurd (rv_blt hb) hj
        rw [this]
        rfl
      unfold ghI
      rw [h3]
      dsimp only
      rw [hs]
/-- both feed at the loop's head -/
theorem c0_XM (h : lwInv r T pl aw) (hP : PI pl aw) (v : Nat → Int) : ∃ A1 A2 : rvH → Prop, (∀ x0, pl[0]? = some x0 → exL [.inr (2, x0), .inl (v 0, v 0), .inl (v 1, v 1), .inl (v 2, v 2), .inl (v 3, v 3), .inl (v 4, v 4)] → PCM rvTab rvInf rvRet 316 rvMth 229 [.inr (2, x0), .inl (v 0, v 0), .inl (v 1, v 1), .inl (v 2, v 2), .inl (v 3, v 3), .inl (v 4, v 4)] aw (fun res => A1 res.2)) ∧ (∀ x29, pl[29]? = some x29 → ∀ aw1, A1 aw1 → exL [.inr (2, x29), .inl (v 0, v 0), .inl (v 1, v 1), .inl (v 2, v 2), .inl (v 3, v 3), .inl (v 4, v 4)] → PCM rvTab rvInf rvRet 316 rvMth 231 [.inr (2, x29), .inl (v 0, v 0), .inl (v 1, v 1), .inl (v 2, v 2), .inl (v 3, v 3), .inl (v 4, v 4)] aw1 (fun res => A2 res.2)) ∧ ∀ (aw2 : rvH) (T2 : List Nat), gS T2 pl aw2 → A2 aw2 → pBy pl aw2 := by
  have hS := gS_inv h
  obtain ⟨hx, -, -, hby⟩ := hP
  obtain ⟨g, kL, hg⟩ := gh_mk hS
  obtain ⟨N, n1, n2, n3⟩ := gh_size h
  have hR := gh_H hg hx
  have hp := hg.hp
  obtain ⟨H0, hH0⟩ : ∃ H0, H0 = ghH g aw ((0, 1, kL) :: ghR0) 60 := ⟨_, rfl⟩
  rw [← hH0] at hR
  have s4 : H0.1 4 2 = (N : Int) := by rw [hH0]; exact n2 _ (hp 4 (by omega))
  have s29 : H0.1 29 2 = (N : Int) := by rw [hH0]; exact n3 _ (hp 29 (by omega))
  have sB : ∀ i, H0.1 5 i = H0.1 30 i := fun i => by rw [hH0]; exact hby _ _ (hp 5 (by omega)) (hp 30 (by omega)) i
  have r40 : H0.2.2.1 4 0 = some 5 := by rw [hH0]; rfl
  have r00 : H0.2.2.1 0 0 = some 4 := by rw [hH0]; rfl
  have r291 : H0.2.2.1 29 1 = some 30 := by rw [hH0]; rfl
  refine ⟨fun aw1 => RH g aw1 (f_feedX (v 0) (v 1) (v 2) (v 3) (v 4) H0), fun aw2 => RH g aw2 (f_feedM (v 0) (v 1) (v 2) (v 3) (v 4) (f_feedX (v 0) (v 1) (v 2) (v 3) (v 4) H0)), fun x0 hx0 hex => ?_, fun x29 hx29 aw1 hA hex => ?_, fun aw2 T2 hS2 hA => ?_⟩
  · have e0 : x0 = g 0 := by have := hp 0 (by omega); rw [hx0] at this; exact Option.some.inj this
    subst e0
    exact J_PCM (g := g) (by decide) (Nat.le_of_ble_eq_true rfl) (jx_feedX (g := g) (v 0) (v 1) (v 2) (v 3) (v 4) H0 r40 r00 (by omega) (by omega)) hR hex
  · have e0 : x29 = g 29 := by have := hp 29 (by omega); rw [hx29] at this; exact Option.some.inj this
    subst e0
    exact J_PCM (g := g) (by decide) (Nat.le_of_ble_eq_true rfl) (jx_feedM (g := g) (v 0) (v 1) (v 2) (v 3) (v 4) (f_feedX (v 0) (v 1) (v 2) (v 3) (v 4) H0) (by rw [feedX_2]; exact r291)) hA hex
  · intro x y hx5 hy30 j
    have e5 : x = g 5 := by have := hp 5 (by omega); rw [hx5] at this; exact Option.some.inj this
    have e30 : y = g 30 := by have := hp 30 (by omega); rw [hy30] at this; exact Option.some.inj this
    obtain ⟨a1, a2⟩ := gh_940 hS2 (k := 5) (by omega) rfl hx5 j
    obtain ⟨b1, b2⟩ := gh_940 hS2 (k := 30) (by omega) rfl hy30 j
    by_cases hj : j < 940
    · obtain ⟨z, z1, z2⟩ := a1 hj
      obtain ⟨w, w1, w2⟩ := b1 hj
      rw [z2, w2]
      rw [e5] at z1
      rw [e30] at w1
      have q1 := hA.2.1 5 j z z1
      have q2 := hA.2.1 30 j w w1
      rw [← q1, ← q2]
      exact feed_alike (v 0) (v 1) (v 2) (v 3) (v 4) (by rw [s4, s29]) sB j
    · rw [a2 hj, b2 hj]
end T4
/-- what holds beside lwInv at the loop's head -/
def PJ (pl : List Nat) (aw : rvH) : Prop := PI pl aw ∧ pl = rzPl ∧ HT aw ∧ HN aw ∧ HFk aw
theorem PI_keepG {ms T pl T1 pl1 : List Nat} {aw aw1 : rvH} (h : gS T pl aw) (hP : PI pl aw) (hf : lwFr ms T pl aw T1 pl1 aw1) (m66 : ghNo ms 66 = true) (m95 : ghNo ms 95 = true) (m65 : ghNo ms 65 = true) (m90 : ghNo ms 90 = true) (hx : exH aw1) : PI pl1 aw1 :=
  ⟨hx, pW_keep h hf (k := 6) (by omega) m66 hP.2.1, pW_keep h hf (k := 35) (by omega) m95 hP.2.2.1, pBy_keep h hf m65 m90 hP.2.2.2⟩
/-- a heap that isn't exact -/
def awBad : rvH := [.inr (0, 1, .inl (0, 1), [])]
theorem awBad_no (h : exH awBad) : False := by
  have := (h _ (List.mem_singleton.mpr rfl)).1.1
  exact absurd this.1 (by decide)
section T2
variable {RG : rvS → Prop} {sc : List (Int × Int)} {Met : Nat → List rvV → rvH → (xRes2 → Prop) → Prop}
theorem lwX_L {R : rvS → Prop} (mL : ∀ (al st : List rvV) (aw : rvH) (kc ks : Nat), RG (27, al, .inl ((sc.length : Int), (sc.length : Int)) :: st, aw, kc, ks) → RG (26, al, .inr (5, 0) :: st, aw, kc, ks)) (hL : sc.length ≤ 3072) (hR : ∀ (al st : List rvV) (aw : rvH) (kc ks : Nat), R (26, al, .inr (5, 0) :: st, aw, kc, ks) → R (27, al, .inl ((sc.length : Int), (sc.length : Int)) :: st, aw, kc, ks)) : ∀ (al st : List rvV) (aw : rvH) (kc ks : Nat), lwX RG R (27, al, .inl ((sc.length : Int), (sc.length : Int)) :: st, aw, kc, ks) → lwX RG R (26, al, .inr (5, 0) :: st, aw, kc, ks) := fun al st aw kc ks hG hex hr => mL al st aw kc ks (hG ⟨hex.1, exL_c ⟨rfl, by show -2147483648 ≤ (sc.length : Int); omega, by show (sc.length : Int) ≤ 2147483647; omega⟩ (exL_tl hex.2.1), hex.2.2⟩ (hR al st aw kc ks hr))

set_option maxHeartbeats 4000000 in
theorem lw_half (mS : lwS RG sc) (mI : lwI RG Met) (msp : ∀ (pc : Nat) (al st : List rvV) (a : Int × Int) (aw : rvH) (kc ks : Nat), (∀ n, a.1 ≤ n → n ≤ a.2 → xIn32 n → RG (pc, al, .inl (n, n) :: st, aw, kc, ks)) → RG (pc, al, .inl a :: st, aw, kc, ks)) (hM : ∀ (j : Nat) (as : List rvV) (aw : rvH) (Q : xRes2 → Prop), EvM rvTab rvInf rvRet 316 rvMth j as aw Q → Met j as aw Q) (hpt : ∀ (k : Nat) (v : Int × Int), sc[k]? = some v → v.2 = v.1 ∧ xIn32 v.1)
    {n e iX iM jX jM : Nat} {g : Int} {w : Nat} (K : tkP n e iX iM jX jM g) (hn : okN n) (hsw : swTo (w : Int) e) (he : 40 < e) (he2 : e + 10 + 12 * n < 1448) (hf0 : lwF (e + 5 + 6 * n) = false)
    {ah : List xC} {ms1 ms2 : List Nat} {L1 L2 : List xCu} {C1 : Nat → Bool} {n1 t1 n2 t2 : Nat} (hah : ah.length = 52)
    (hK1 : xlRB C1 ms1 L1 (40, lwAl, [.inl (0, 0, (w : Int))], lwAh, (0, ms1, []) :: lwFs, (lwN ++ [], lwC), 0, 0) n1 t1 = true) (hL1 : L1.all (lwTokH (e + 5 + 6 * n) (lwTmA ah) ms1) = true)
    (hK2 : xlR ms2 L2 (e + 5 + 6 * n, lwAl, [], ah, (0, ms2, []) :: lwFs, (lwN, lwC), 0, 0) n2 t2 = true) (hL2 : L2.all (fun q => lwTok ms2 q && Nat.beq q.1.1 1448) = true)
    {i v1 v2 v3 v4 v5 : Int} {zs r : List Int} {T pl : List Nat} {aw : rvH} {b1 b2 b3 b5 b6 : rvV} {kc ks : Nat} (hr : r = i :: v1 :: v2 :: v3 :: v4 :: v5 :: zs) (h : lwInv r T pl aw) (hxa : exH aw) (hl : lwLoc pl b1 b2 b3) (hb5 : exV b5) (hb6 : exV b6) (hsc : ∀ k : Nat, 1 ≤ k → k ≤ 5 → ∃ v, ([.inl (v1, v1), .inl (v2, v2), .inl (v3, v3), .inl (v4, v4), .inl (v5, v5)] : List rvV)[k - 1]? = some (.inl v) ∧ sc[i.toNat + k]? = some v) (hi : 0 ≤ i) (hi2 : i ≤ 3066) (hk : kc + 60 ≤ 600000) (hs : ks + 1200 ≤ 7000000)
    {v : Nat → Int} (hvs : ∀ k, k < n → sc[i.toNat + (k + 1)]? = some (v k, v k)) (hw64 : w < 64) {A1 : rvH → Prop} {A2 : rvH → rvH → Prop}
    (p1 : ∀ x0, pl[0]? = some x0 → exL (.inr (2, x0) :: argl v n) → PCM rvTab rvInf rvRet 316 rvMth jX (.inr (2, x0) :: argl v n) aw (fun res => A1 res.2))
    (p2 : ∀ (x29 : Nat) (r3 : List Int) (T1 : List Nat) (aw1 : rvH), pl[29]? = some x29 → lwInvA ah r3 T1 pl aw1 → lwFr ms1 T pl aw T1 pl aw1 → exH aw1 → A1 aw1 → exL (.inr (2, x29) :: argl v n) → PCM rvTab rvInf rvRet 316 rvMth jM (.inr (2, x29) :: argl v n) aw1 (fun res => A2 aw1 res.2))
    (hN : ∀ (c1 c2 c3 c5 c6 : rvV) (aw1 aw' : rvH) (r3 r' : List Int) (T1 T' : List Nat) (k s : Nat), lwInvA ah r3 T1 pl aw1 → lwFr ms1 T pl aw T1 pl aw1 → exH aw1 → A1 aw1 → lwInv r' T' pl aw' → lwFr ms2 T1 pl aw1 T' pl aw' → exH aw' → A2 aw1 aw' → lwLoc pl c1 c2 c3 → exV c5 → exV c6 → k ≤ 40 → s ≤ 800 → RG (1448, [.inr (5, 0), c1, c2, c3, .inl (i, i), c5, c6], [], aw', kc + k, ks + s)) : RG (40, [.inr (5, 0), b1, b2, b3, .inl (i, i), b5, b6], [.inl ((w : Int), (w : Int))], aw, kc, ks) := by
  have hl0 := hl
  obtain ⟨⟨x0, rfl, p0⟩, ⟨x29, rfl, p29⟩, ⟨x51, rfl, p51⟩⟩ := hl
  have hpl : pl.length = 52 := h.1.1.symm
  have hlen := lw_len h
  have hi32 : xIn32 i := ⟨by omega, by omega⟩
  have hw32 : xIn32 (w : Int) := ⟨by omega, by omega⟩
  have hcX := EvX_clo (tab := rvTab) (info := rvInf) (rets := rvRet) (NM := 316) (mth := rvMth) jw
  have hconX := xc_all hcX
  have clo1 := lwClo (RG := lwX RG (trkP n e [.inr (5, 0), .inr (2, x0), .inr (2, x29), .inr (2, x51), .inl (i, i), b5, b6] v i (w : Int) aw x0 x29 A1 (fun _ => True))) (k0 := kc) (s0 := ks) lw_rows lw_m9 lw_inf hcX (lwX_S mS hpt (trkP_step K hn hsw hi hi2 hvs)) (lwX_I mI hM (fun pc al st aw' kc' ks' j2 as rest _ hinv hxs hxh hR => by
    obtain ⟨P, q1, q2⟩ := trkP_call K hn (fun q _ => p1 x0 p0 q) (fun _ _ _ _ => PCM_T) pc al st aw' kc' ks' j2 as rest hinv hxs hxh hR
    exact ⟨P, q1, fun res hres _ => q2 res hres _ _⟩)) (lwX_sp msp) hi hi2 (by omega) (by omega) hsc
  have hrel := lw_rel (t := []) (E := []) (st := [.inl (0, 0, (w : Int))]) (cs := [.inl ((w : Int), (w : Int))]) (pc := 40) (kc := 0) (ks := 0) (b5 := b5) (b6 := b6) hr h hl0 ⟨xR_K _ _ _ hw32, trivial⟩ (by have e : r ++ [] = r := List.append_nil r; rw [e]; exact h.2.2.2) ms1
  have hG := (lw_runB clo1 hconX hK1 hrel (by rw [List.append_nil]; omega) (Post := fun _ => True) (fun ci Tm src rk r2 o2 hL h6 hrel2 => ?_)).2 rfl
  · have h40 := hG _ _ _ _ _ rfl
    dsimp only at h40
    rw [lw_f40, cond_false] at h40
    exact h40 ⟨exL_al hi32 hb5 hb6, exL_c ⟨rfl, hw32⟩ (fun v hv => by cases hv), hxa⟩ ⟨rfl, Or.inl ⟨rfl, rfl, rfl⟩⟩
  obtain ⟨r3, T1, g1, gf, g3, gst, gpc, gk, gs, gl⟩ := lw_cutH (P := (r2, T, pl, aw, [])) hpl (List.all_eq_true.mp hL1 _ (List.mem_of_getElem? hL)) hah hrel2
  have gf : lwFr ms1 T pl aw T1 pl o2.2.2.2.1 := gf
  have g1 : lwInvA ah r3 T1 pl o2.2.2.2.1 := g1
  refine ⟨fun h => absurd h (by omega), fun _ => ?_⟩
  intro c1 c2 c3 c5 c6 hal
  have hloc : lwLoc pl c1 c2 c3 := gl _ _ _ _ _ _ _ hal
  rw [gpc, hf0, cond_false, gst]
  intro hex2 hr2
  obtain ⟨hA1, hal2⟩ := trkP_mid he he2 hr2
  obtain ⟨k1, hk1⟩ : ∃ k, k = o2.2.2.2.2.1 := ⟨_, rfl⟩
  obtain ⟨s1, hs1⟩ : ∃ s, s = o2.2.2.2.2.2 := ⟨_, rfl⟩
  rw [← hk1, ← hs1]
  rw [← hk1] at gk
  rw [← hs1] at gs
  have clo2 := lwClo (RG := lwX RG (trkP n e [.inr (5, 0), .inr (2, x0), .inr (2, x29), .inr (2, x51), .inl (i, i), b5, b6] v i (w : Int) awBad x0 x29 (fun a => a = o2.2.2.2.1) (A2 o2.2.2.2.1))) (k0 := kc + k1) (s0 := ks + s1) lw_rows lw_m9 lw_inf hcX (lwX_S mS hpt (trkP_step K hn hsw hi hi2 hvs)) (lwX_I mI hM (fun pc al st aw' kc' ks' j2 as rest _ hinv hxs hxh hR => by
    obtain ⟨P, q1, q2⟩ := trkP_call K hn (fun _ q => absurd q awBad_no) (fun aw1 e9 q _ => by rw [e9]; exact p2 x29 r3 T1 _ p29 g1 gf hex2.2.2 hA1 q) pc al st aw' kc' ks' j2 as rest hinv hxs hxh hR
    exact ⟨P, q1, fun res hres _ => q2 res hres _ _⟩)) (lwX_sp msp) hi hi2 (by omega) (by omega) hsc
  have h6' : r2.take 6 = r.take 6 := by rw [h6, List.append_nil]
  have ee : ∀ k, k < 6 → r3.getD k 0 = r.getD k 0 := fun k hk => (g3 k (by omega)).trans (getD_take6 h6' k hk)
  have hrel3 := lw_relA (pc0 := e + 5 + 6 * n) (i := i) (v1 := v1) (v2 := v2) (v3 := v3) (v4 := v4) (v5 := v5) (b5 := c5) (b6 := c6) (by rw [ee 0 (by omega), hr]; rfl) (by rw [ee 1 (by omega), hr]; rfl) (by rw [ee 2 (by omega), hr]; rfl) (by rw [ee 3 (by omega), hr]; rfl) (by rw [ee 4 (by omega), hr]; rfl) (by rw [ee 5 (by omega), hr]; rfl) g1 hloc ms2
  have hg2 := lw_one clo2 hconX (fun q hq => by rw [List.all_eq_true.mp hL2 q hq]; rfl) (fun ⟨q, hq, hne⟩ => absurd (rv_beq (rv_and (List.all_eq_true.mp hL2 q hq)).2) hne) hK2 hrel3 (by rw [lw_lenA g1]; omega) hpl (fun d1 d2 d3 d5 d6 aw2 r4 T2 pl2 k2 s2 q1 qf q2 q3 q4 hex3 hR3 => ?_)
  · have hm := hg2 _ _ _ _ _ rfl
    dsimp only at hm
    rw [hf0, cond_false] at hm
    exact hm hex2 ⟨hal2, Or.inr (Or.inr (Or.inr (Or.inr (Or.inl ⟨rfl, rfl, rfl⟩))))⟩
  · have e5 : exV d5 := hex3.1 d5 (by simp)
    have e6 : exV d6 := hex3.1 d6 (by simp)
    have epl := qf.2.1
    subst epl
    have := hN d1 d2 d3 d5 d6 o2.2.2.2.1 aw2 r3 r4 T1 T2 (k1 + k2) (s1 + s2) g1 gf hex2.2.2 hA1 q1 qf hex3.2.2 (trkP_end he2 hR3) q2 e5 e6 (by omega) (by omega)
    rw [← Nat.add_assoc, ← Nat.add_assoc] at this
    exact this
set_option maxHeartbeats 4000000 in
theorem lw_half5 (mS : lwS RG sc) (mI : lwI RG Met) (msp : ∀ (pc : Nat) (al st : List rvV) (a : Int × Int) (aw : rvH) (kc ks : Nat), (∀ n, a.1 ≤ n → n ≤ a.2 → xIn32 n → RG (pc, al, .inl (n, n) :: st, aw, kc, ks)) → RG (pc, al, .inl a :: st, aw, kc, ks)) (hM : ∀ (j : Nat) (as : List rvV) (aw : rvH) (Q : xRes2 → Prop), EvM rvTab rvInf rvRet 316 rvMth j as aw Q → Met j as aw Q) (hpt : ∀ (k : Nat) (v : Int × Int), sc[k]? = some v → v.2 = v.1 ∧ xIn32 v.1)
    {n e iX iM jX jM : Nat} {g : Int} {w : Nat} (K : tkP n e iX iM jX jM g) (hn : okN n) (hsw : swTo (w : Int) e) (he : 40 < e) (he2 : e + 10 + 12 * n < 1448) (hf0 : lwF (e + 5 + 6 * n) = false)
    {ms1 ms2 : List Nat} {L1 L2 : List xCu} {C1 : Nat → Bool} {n1 t1 n2 t2 : Nat}
    (hK1 : xlRB C1 ms1 L1 (40, lwAl, [.inl (0, 0, (w : Int))], lwAh, (0, ms1, []) :: lwFs, (lwN5 ++ [], lwC), 0, 0) n1 t1 = true) (hL1 : L1.all (lwTokH (e + 5 + 6 * n) lwTm5 ms1) = true)
    (hK2 : xlR ms2 L2 (e + 5 + 6 * n, lwAl, [], lwAh2, (0, ms2, []) :: lwFs, (lwN5, lwC), 0, 0) n2 t2 = true) (hL2 : L2.all (fun q => lwTok ms2 q && Nat.beq q.1.1 1448) = true)
    {i v1 v2 v3 v4 v5 : Int} {zs r : List Int} {T pl : List Nat} {aw : rvH} {b1 b2 b3 b5 b6 : rvV} {kc ks : Nat} (hr : r = i :: v1 :: v2 :: v3 :: v4 :: v5 :: zs) (hv01 : 0 ≤ v1 ∧ v1 ≤ 1) (h : lwInv r T pl aw) (hxa : exH aw) (hl : lwLoc pl b1 b2 b3) (hb5 : exV b5) (hb6 : exV b6) (hsc : ∀ k : Nat, 1 ≤ k → k ≤ 5 → ∃ v, ([.inl (v1, v1), .inl (v2, v2), .inl (v3, v3), .inl (v4, v4), .inl (v5, v5)] : List rvV)[k - 1]? = some (.inl v) ∧ sc[i.toNat + k]? = some v) (hi : 0 ≤ i) (hi2 : i ≤ 3066) (hk : kc + 60 ≤ 600000) (hs : ks + 1200 ≤ 7000000)
    {v : Nat → Int} (hvs : ∀ k, k < n → sc[i.toNat + (k + 1)]? = some (v k, v k)) (hw64 : w < 64) {A1 : rvH → Prop} {A2 : rvH → rvH → Prop}
    (p1 : ∀ x0, pl[0]? = some x0 → exL (.inr (2, x0) :: argl v n) → PCM rvTab rvInf rvRet 316 rvMth jX (.inr (2, x0) :: argl v n) aw (fun res => A1 res.2))
    (p2 : ∀ (x29 : Nat) (r3 : List Int) (T1 : List Nat) (aw1 : rvH), pl[29]? = some x29 → lwInv5 r3 T1 pl aw1 → lwFr ms1 T pl aw T1 pl aw1 → exH aw1 → A1 aw1 → exL (.inr (2, x29) :: argl v n) → PCM rvTab rvInf rvRet 316 rvMth jM (.inr (2, x29) :: argl v n) aw1 (fun res => A2 aw1 res.2))
    (hN : ∀ (c1 c2 c3 c5 c6 : rvV) (aw1 aw' : rvH) (r3 r' : List Int) (T1 T' : List Nat) (k s : Nat), lwInv5 r3 T1 pl aw1 → lwFr ms1 T pl aw T1 pl aw1 → exH aw1 → A1 aw1 → lwInv r' T' pl aw' → lwFr ms2 T1 pl aw1 T' pl aw' → exH aw' → A2 aw1 aw' → lwLoc pl c1 c2 c3 → exV c5 → exV c6 → k ≤ 40 → s ≤ 800 → RG (1448, [.inr (5, 0), c1, c2, c3, .inl (i, i), c5, c6], [], aw', kc + k, ks + s)) : RG (40, [.inr (5, 0), b1, b2, b3, .inl (i, i), b5, b6], [.inl ((w : Int), (w : Int))], aw, kc, ks) := by
  have hl0 := hl
  obtain ⟨⟨x0, rfl, p0⟩, ⟨x29, rfl, p29⟩, ⟨x51, rfl, p51⟩⟩ := hl
  have hpl : pl.length = 52 := h.1.1.symm
  have hlen := lw_len h
  have hi32 : xIn32 i := ⟨by omega, by omega⟩
  have hw32 : xIn32 (w : Int) := ⟨by omega, by omega⟩
  have hcX := EvX_clo (tab := rvTab) (info := rvInf) (rets := rvRet) (NM := 316) (mth := rvMth) jw
  have hconX := xc_all hcX
  have clo1 := lwClo (RG := lwX RG (trkP n e [.inr (5, 0), .inr (2, x0), .inr (2, x29), .inr (2, x51), .inl (i, i), b5, b6] v i (w : Int) aw x0 x29 A1 (fun _ => True))) (k0 := kc) (s0 := ks) lw_rows lw_m9 lw_inf hcX (lwX_S mS hpt (trkP_step K hn hsw hi hi2 hvs)) (lwX_I mI hM (fun pc al st aw' kc' ks' j2 as rest _ hinv hxs hxh hR => by
    obtain ⟨P, q1, q2⟩ := trkP_call K hn (fun q _ => p1 x0 p0 q) (fun _ _ _ _ => PCM_T) pc al st aw' kc' ks' j2 as rest hinv hxs hxh hR
    exact ⟨P, q1, fun res hres _ => q2 res hres _ _⟩)) (lwX_sp msp) hi hi2 (by omega) (by omega) hsc
  have hrel := lw_relS5 (t := []) (E := []) (st := [.inl (0, 0, (w : Int))]) (cs := [.inl ((w : Int), (w : Int))]) (pc := 40) (kc := 0) (ks := 0) (b5 := b5) (b6 := b6) hr h hl0 ⟨xR_K _ _ _ hw32, trivial⟩ (by have e : r ++ [] = r := List.append_nil r; rw [e]; exact lw_q5 hr h hv01) ms1
  have hG := (lw_runB clo1 hconX hK1 hrel (by rw [List.append_nil]; omega) (Post := fun _ => True) (fun ci Tm src rk r2 o2 hL h6 hrel2 => ?_)).2 rfl
  · have h40 := hG _ _ _ _ _ rfl
    dsimp only at h40
    rw [lw_f40, cond_false] at h40
    exact h40 ⟨exL_al hi32 hb5 hb6, exL_c ⟨rfl, hw32⟩ (fun v hv => by cases hv), hxa⟩ ⟨rfl, Or.inl ⟨rfl, rfl, rfl⟩⟩
  obtain ⟨r3, T1, g1, gf, g3, gst, gpc, gk, gs, gl⟩ := lw_cutH5 (P := (r2, T, pl, aw, [])) hpl (List.all_eq_true.mp hL1 _ (List.mem_of_getElem? hL)) hrel2
  have gf : lwFr ms1 T pl aw T1 pl o2.2.2.2.1 := gf
  have g1 : lwInv5 r3 T1 pl o2.2.2.2.1 := g1
  refine ⟨fun h => absurd h (by omega), fun _ => ?_⟩
  intro c1 c2 c3 c5 c6 hal
  have hloc : lwLoc pl c1 c2 c3 := gl _ _ _ _ _ _ _ hal
  rw [gpc, hf0, cond_false, gst]
  intro hex2 hr2
  obtain ⟨hA1, hal2⟩ := trkP_mid he he2 hr2
  obtain ⟨k1, hk1⟩ : ∃ k, k = o2.2.2.2.2.1 := ⟨_, rfl⟩
  obtain ⟨s1, hs1⟩ : ∃ s, s = o2.2.2.2.2.2 := ⟨_, rfl⟩
  rw [← hk1, ← hs1]
  rw [← hk1] at gk
  rw [← hs1] at gs
  have clo2 := lwClo (RG := lwX RG (trkP n e [.inr (5, 0), .inr (2, x0), .inr (2, x29), .inr (2, x51), .inl (i, i), b5, b6] v i (w : Int) awBad x0 x29 (fun a => a = o2.2.2.2.1) (A2 o2.2.2.2.1))) (k0 := kc + k1) (s0 := ks + s1) lw_rows lw_m9 lw_inf hcX (lwX_S mS hpt (trkP_step K hn hsw hi hi2 hvs)) (lwX_I mI hM (fun pc al st aw' kc' ks' j2 as rest _ hinv hxs hxh hR => by
    obtain ⟨P, q1, q2⟩ := trkP_call K hn (fun _ q => absurd q awBad_no) (fun aw1 e9 q _ => by rw [e9]; exact p2 x29 r3 T1 _ p29 g1 gf hex2.2.2 hA1 q) pc al st aw' kc' ks' j2 as rest hinv hxs hxh hR
    exact ⟨P, q1, fun res hres _ => q2 res hres _ _⟩)) (lwX_sp msp) hi hi2 (by omega) (by omega) hsc
  have h6' : r2.take 6 = r.take 6 := by rw [h6, List.append_nil]
  have ee : ∀ k, k < 6 → r3.getD k 0 = r.getD k 0 := fun k hk => (g3 k (by omega)).trans (getD_take6 h6' k hk)
  have hrel3 := lw_rel5 (pc0 := e + 5 + 6 * n) (i := i) (v1 := v1) (v2 := v2) (v3 := v3) (v4 := v4) (v5 := v5) (b5 := c5) (b6 := c6) (by rw [ee 0 (by omega), hr]; rfl) (by rw [ee 1 (by omega), hr]; rfl) (by rw [ee 2 (by omega), hr]; rfl) (by rw [ee 3 (by omega), hr]; rfl) (by rw [ee 4 (by omega), hr]; rfl) (by rw [ee 5 (by omega), hr]; rfl) g1 hloc ms2
  have hg2 := lw_one clo2 hconX (fun q hq => by rw [List.all_eq_true.mp hL2 q hq]; rfl) (fun ⟨q, hq, hne⟩ => absurd (rv_beq (rv_and (List.all_eq_true.mp hL2 q hq)).2) hne) hK2 hrel3 (by rw [lw_len5 g1]; omega) hpl (fun d1 d2 d3 d5 d6 aw2 r4 T2 pl2 k2 s2 q1 qf q2 q3 q4 hex3 hR3 => ?_)
  · have hm := hg2 _ _ _ _ _ rfl
    dsimp only at hm
    rw [hf0, cond_false] at hm
    exact hm hex2 ⟨hal2, Or.inr (Or.inr (Or.inr (Or.inr (Or.inl ⟨rfl, rfl, rfl⟩))))⟩
  · have e5 : exV d5 := hex3.1 d5 (by simp)
    have e6 : exV d6 := hex3.1 d6 (by simp)
    have epl := qf.2.1
    subst epl
    have := hN d1 d2 d3 d5 d6 o2.2.2.2.1 aw2 r3 r4 T1 T2 (k1 + k2) (s1 + s2) g1 gf hex2.2.2 hA1 q1 qf hex3.2.2 (trkP_end he2 hR3) q2 e5 e6 (by omega) (by omega)
    rw [← Nat.add_assoc, ← Nat.add_assoc] at this
    exact this
end T2
