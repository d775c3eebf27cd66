/-! All turns end with what holds at the head (by hand). -/
theorem feedX_2 (a b c d e : Int) (H : hH) : (f_feedX a b c d e H).2 = H.2 := by
  unfold f_feedX
  split <;> rfl
section T4
variable {r : List Int} {T pl : List Nat} {aw : rvH}
theorem gh_940 (h : gS T pl aw) {k : Nat} (hk : k < 52) (hg : xRgn (60 + k) = .inr (1, 940, 1, [(1, .inl (-128, 127))])) {x : Nat} (hx : pl[k]? = some x) (j : Nat) : (j < 940 → ∃ z : Int, hI aw x j z ∧ ghI aw x j = z) ∧ (¬ j < 940 → ghI aw x j = 0) := by
  obtain ⟨i, c, h1, h2, h3, h4⟩ := gh_st h hk
  rw [hx] at h1
  have e := Option.some.inj h1
  subst e
  rw [hg] at h4
  rcases c with c | ⟨k', n', d, ov⟩
  · exact absurd h4 id
  · obtain ⟨-, e2, e3⟩ := h4
    have e2 : 940 = n' := e2
    subst e2
    refine ⟨fun hj => ?_, fun hj => ?_⟩
    · have hs : xSlot (.inr (k', 940, d, ov)) j = some (rvLook d ov j) := by
        show (bif Nat.blt j 940 then some (rvLook d ov j) else none) = _
        rw [show Nat.blt j 940 = true from Nat.ble_eq_true_of_le hj]
        rfl
      have ht := e3 j hj
      rw [Nat.mod_one] at ht
      obtain ⟨z, -, -, -, hz⟩ : ∃ z : Int, (-128 : Int) ≤ z ∧ z ≤ 127 ∧ xIn32 z ∧ rvLook d ov j = .inl (z, z) := ht
      rw [hz] at hs
      refine ⟨z, ⟨_, h3, hs⟩, ?_⟩
      unfold ghI
      rw [h3]
      dsimp only
      rw [hs]
    · have hs : xSlot (.inr (k', 940, d, ov)) j = none := by
        show (bif Nat.blt j 940 then some (rvLook d ov j) else none) = _
        have : Nat.blt j 940 = false := by
          cases hb : Nat.blt j 940 with
          | false => rfl
          | true => exact absurd (rv_blt hb) hj
        rw [this]
        rfl
      unfold ghI
      rw [h3]
      dsimp only
      rw [hs]
/-- both feed at the loop's head -/
theorem c0_XM (h : lwInv r T pl aw) (hP : PI pl aw) (v : Nat → Int) : ∃ A1 A2 : rvH → Prop, (∀ x0, pl[0]? = some x0 → exL [.inr (2, x0), .inl (v 0, v 0), .inl (v 1, v 1), .inl (v 2, v 2), .inl (v 3, v 3), .inl (v 4, v 4)] → PCM rvTab rvInf rvRet 316 rvMth 229 [.inr (2, x0), .inl (v 0, v 0), .inl (v 1, v 1), .inl (v 2, v 2), .inl (v 3, v 3), .inl (v 4, v 4)] aw (fun res => A1 res.2)) ∧ (∀ x29, pl[29]? = some x29 → ∀ aw1, A1 aw1 → exL [.inr (2, x29), .inl (v 0, v 0), .inl (v 1, v 1), .inl (v 2, v 2), .inl (v 3, v 3), .inl (v 4, v 4)] → PCM rvTab rvInf rvRet 316 rvMth 231 [.inr (2, x29), .inl (v 0, v 0), .inl (v 1, v 1), .inl (v 2, v 2), .inl (v 3, v 3), .inl (v 4, v 4)] aw1 (fun res => A2 res.2)) ∧ ∀ (aw2 : rvH) (T2 : List Nat), gS T2 pl aw2 → A2 aw2 → pBy pl aw2 := by
  have hS := gS_inv h
  obtain ⟨hx, -, -, hby⟩ := hP
  obtain ⟨g, kL, hg⟩ := gh_mk hS
  obtain ⟨N, n1, n2, n3⟩ := gh_size h
  have hR := gh_H hg hx
  have hp := hg.hp
  obtain ⟨H0, hH0⟩ : ∃ H0, H0 = ghH g aw ((0, 1, kL) :: ghR0) 60 := ⟨_, rfl⟩
  rw [← hH0] at hR
  have s4 : H0.1 4 2 = (N : Int) := by rw [hH0]; exact n2 _ (hp 4 (by omega))
  have s29 : H0.1 29 2 = (N : Int) := by rw [hH0]; exact n3 _ (hp 29 (by omega))
  have sB : ∀ i, H0.1 5 i = H0.1 30 i := fun i => by rw [hH0]; exact hby _ _ (hp 5 (by omega)) (hp 30 (by omega)) i
  have r40 : H0.2.2.1 4 0 = some 5 := by rw [hH0]; rfl
  have r00 : H0.2.2.1 0 0 = some 4 := by rw [hH0]; rfl
  have r291 : H0.2.2.1 29 1 = some 30 := by rw [hH0]; rfl
  refine ⟨fun aw1 => RH g aw1 (f_feedX (v 0) (v 1) (v 2) (v 3) (v 4) H0), fun aw2 => RH g aw2 (f_feedM (v 0) (v 1) (v 2) (v 3) (v 4) (f_feedX (v 0) (v 1) (v 2) (v 3) (v 4) H0)), fun x0 hx0 hex => ?_, fun x29 hx29 aw1 hA hex => ?_, fun aw2 T2 hS2 hA => ?_⟩
  · have e0 : x0 = g 0 := by have := hp 0 (by omega); rw [hx0] at this; exact Option.some.inj this
    subst e0
    exact J_PCM (g := g) (by decide) (Nat.le_of_ble_eq_true rfl) (jx_feedX (g := g) (v 0) (v 1) (v 2) (v 3) (v 4) H0 r40 r00 (by omega) (by omega)) hR hex
  · have e0 : x29 = g 29 := by have := hp 29 (by omega); rw [hx29] at this; exact Option.some.inj this
    subst e0
    exact J_PCM (g := g) (by decide) (Nat.le_of_ble_eq_true rfl) (jx_feedM (g := g) (v 0) (v 1) (v 2) (v 3) (v 4) (f_feedX (v 0) (v 1) (v 2) (v 3) (v 4) H0) (by rw [feedX_2]; exact r291)) hA hex
  · intro x y hx5 hy30 j
    have e5 : x = g 5 := by have := hp 5 (by omega); rw [hx5] at this; exact Option.some.inj this
    have e30 : y = g 30 := by have := hp 30 (by omega); rw [hy30] at this; exact Option.some.inj this
    obtain ⟨a1, a2⟩ := gh_940 hS2 (k := 5) (by omega) rfl hx5 j
    obtain ⟨b1, b2⟩ := gh_940 hS2 (k := 30) (by omega) rfl hy30 j
    by_cases hj : j < 940
    · obtain ⟨z, z1, z2⟩ := a1 hj
      obtain ⟨w, w1, w2⟩ := b1 hj
      rw [z2, w2]
      rw [e5] at z1
      rw [e30] at w1
      have q1 := hA.2.1 5 j z z1
      have q2 := hA.2.1 30 j w w1
      rw [← q1, ← q2]
      exact feed_alike (v 0) (v 1) (v 2) (v 3) (v 4) (by rw [s4, s29]) sB j
    · rw [a2 hj, b2 hj]
end T4
section T5
variable {RG : rvS → Prop} {sc : List (Int × Int)} {Met : Nat → List rvV → rvH → (xRes2 → Prop) → Prop}
theorem lwX_L {R : rvS → Prop} (mL : ∀ (al st : List rvV) (aw : rvH) (kc ks : Nat), RG (27, al, .inl ((sc.length : Int), (sc.length : Int)) :: st, aw, kc, ks) → RG (26, al, .inr (5, 0) :: st, aw, kc, ks)) (hL : sc.length ≤ 3072) (hR : ∀ (al st : List rvV) (aw : rvH) (kc ks : Nat), R (26, al, .inr (5, 0) :: st, aw, kc, ks) → R (27, al, .inl ((sc.length : Int), (sc.length : Int)) :: st, aw, kc, ks)) : ∀ (al st : List rvV) (aw : rvH) (kc ks : Nat), lwX RG R (27, al, .inl ((sc.length : Int), (sc.length : Int)) :: st, aw, kc, ks) → lwX RG R (26, al, .inr (5, 0) :: st, aw, kc, ks) := fun al st aw kc ks hG hex hr => mL al st aw kc ks (hG ⟨hex.1, exL_c ⟨rfl, by show -2147483648 ≤ (sc.length : Int); omega, by show (sc.length : Int) ≤ 2147483647; omega⟩ (exL_tl hex.2.1), hex.2.2⟩ (hR al st aw kc ks hr))
set_option maxHeartbeats 4000000 in
theorem lw_turns (mS : lwS RG sc) (mI : lwI RG Met) (msp : ∀ (pc : Nat) (al st : List rvV) (a : Int × Int) (aw : rvH) (kc ks : Nat), (∀ n, a.1 ≤ n → n ≤ a.2 → xIn32 n → RG (pc, al, .inl (n, n) :: st, aw, kc, ks)) → RG (pc, al, .inl a :: st, aw, kc, ks)) (mP : lwPerX RG) (mL : ∀ (al st : List rvV) (aw : rvH) (kc ks : Nat), RG (27, al, .inl ((sc.length : Int), (sc.length : Int)) :: st, aw, kc, ks) → RG (26, al, .inr (5, 0) :: st, aw, kc, ks)) (mE : ∀ (al : List rvV) (aw : rvH) (kc ks : Nat), kc ≤ 600000 → ks ≤ 7000000 → RG (1455, al, [.inl (1, 1)], aw, kc, ks)) (hM : ∀ (j : Nat) (as : List rvV) (aw : rvH) (Q : xRes2 → Prop), EvM rvTab rvInf rvRet 316 rvMth j as aw Q → Met j as aw Q) (hL : sc.length ≤ 3072) (hpt : ∀ (k : Nat) (v : Int × Int), sc[k]? = some v → v.2 = v.1 ∧ xIn32 v.1) : lwTurn RG sc := by
  intro i v1 v2 v3 v4 v5 zs r T pl aw b1 b2 b3 b5 b6 kc ks w hr h hP hl hb5 hb6 hsc hi hi2 hw hk hs hN
  have hi32 : xIn32 i := ⟨by omega, by omega⟩
  have hcX := EvX_clo (tab := rvTab) (info := rvInf) (rets := rvRet) (NM := 316) (mth := rvMth) jw
  have hconX := xc_all hcX
  have hw32 : exV (.inl ((w : Int), (w : Int))) := ⟨rfl, by show -2147483648 ≤ (w : Int); omega, by show (w : Int) ≤ 2147483647; omega⟩
  by_cases hw2 : w = 2
  · subst hw2
    exact lw_c2 mS mI msp hM hpt hr h hP hl hb5 hb6 hsc hi hi2 hk hs hN
  have hl0 := hl
  obtain ⟨⟨x0, rfl, p0⟩, ⟨x29, rfl, p29⟩, ⟨x51, rfl, p51⟩⟩ := hl
  have hex : exO (40, [.inr (5, 0), .inr (2, x0), .inr (2, x29), .inr (2, x51), .inl (i, i), b5, b6], [.inl ((w : Int), (w : Int))], aw, kc, ks) := ⟨exL_al hi32 hb5 hb6, exL_c hw32 (fun v hv => by cases hv), hP.1⟩
  have h56 : ∀ {c1 c2 c3 c5 c6 : rvV}, exL [.inr (5, 0), c1, c2, c3, .inl (i, i), c5, c6] → exV c5 ∧ exV c6 := fun hx => ⟨hx _ (by simp), hx _ (by simp)⟩
  by_cases hw0 : w = 0
  · subst hw0
    obtain ⟨v, hv0, hv1, hv2, hv3, hv4⟩ : ∃ v : Nat → Int, v 0 = v1 ∧ v 1 = v2 ∧ v 2 = v3 ∧ v 3 = v4 ∧ v 4 = v5 := ⟨fun n => match n with | 0 => v1 | 1 => v2 | 2 => v3 | 3 => v4 | _ => v5, rfl, rfl, rfl, rfl, rfl⟩
    have hvs : ∀ k, k < 5 → sc[i.toNat + (k + 1)]? = some (v k, v k) := by
      intro k hk
      match k, hk with
      | 0, _ => obtain ⟨q, q1, q2⟩ := hsc 1 (by omega) (by omega); rw [q2]; have := Sum.inl.inj (Option.some.inj q1); rw [← this, hv0]
      | 1, _ => obtain ⟨q, q1, q2⟩ := hsc 2 (by omega) (by omega); rw [q2]; have := Sum.inl.inj (Option.some.inj q1); rw [← this, hv1]
      | 2, _ => obtain ⟨q, q1, q2⟩ := hsc 3 (by omega) (by omega); rw [q2]; have := Sum.inl.inj (Option.some.inj q1); rw [← this, hv2]
      | 3, _ => obtain ⟨q, q1, q2⟩ := hsc 4 (by omega) (by omega); rw [q2]; have := Sum.inl.inj (Option.some.inj q1); rw [← this, hv3]
      | 4, _ => obtain ⟨q, q1, q2⟩ := hsc 5 (by omega) (by omega); rw [q2]; have := Sum.inl.inj (Option.some.inj q1); rw [← this, hv4]
      | n + 5, hk => omega
    have hv32 : ∀ k, k < 5 → exV (.inl (v k, v k)) := fun k hk => ⟨rfl, (hpt _ _ (hvs k hk)).2⟩
    have hexL : ∀ x : Nat, exL [.inr (2, x), .inl (v 0, v 0), .inl (v 1, v 1), .inl (v 2, v 2), .inl (v 3, v 3), .inl (v 4, v 4)] := fun x => exL_c trivial (exL_c (hv32 0 (by omega)) (exL_c (hv32 1 (by omega)) (exL_c (hv32 2 (by omega)) (exL_c (hv32 3 (by omega)) (exL_c (hv32 4 (by omega)) (fun v hv => by cases hv))))))
    obtain ⟨A1, A2, q1, q2, q3⟩ := c0_XM h hP v
    have hno : ∀ (pc : Nat) (al st : List rvV) (aw' : rvH) (kc' ks' : Nat), (pc = 26 ∨ pc = 374) → ¬ trkF [.inr (5, 0), .inr (2, x0), .inr (2, x29), .inr (2, x51), .inl (i, i), b5, b6] v i aw x0 x29 A1 A2 (pc, al, st, aw', kc', ks') := by
      intro pc al st aw' kc' ks' hpc hf
      obtain ⟨-, hf⟩ := hf
      dsimp only at hf
      have harg : ∀ base, (base = 237 ∨ base = 272) → ∀ X, trkArg v i X base pc st → False := by
        intro base hb X hq
        rcases hq with ⟨e, -⟩ | ⟨k, hq⟩
        · omega
        · have := k.2
          rcases hq with ⟨e, -⟩ | ⟨e, -⟩ | ⟨e, -⟩ | ⟨e, -⟩ | ⟨e, -⟩ <;> omega
      rcases hf with ⟨e, -⟩ | ⟨e, -⟩ | ⟨e, -⟩ | ⟨e, -⟩ | ⟨e, -⟩ | ⟨e, -⟩ | ⟨e, -⟩ | ⟨e, -⟩ | ⟨e, -⟩
      · omega
      · omega
      · exact harg 237 (Or.inl rfl) _ e
      · omega
      · omega
      · exact harg 272 (Or.inr rfl) _ e
      · omega
      · omega
      · omega
    have hM4 : lwMach (lwX RG (trkF [.inr (5, 0), .inr (2, x0), .inr (2, x29), .inr (2, x51), .inl (i, i), b5, b6] v i aw x0 x29 A1 A2)) sc (EvXM rvTab rvInf rvRet 316 rvMth) := ⟨lwX_S mS hpt (trkF_step hi hi2 hvs), lwX_I mI hM (fun pc al st aw' kc' ks' j2 as rest _ hinv hxa _ hR => by
      obtain ⟨P, u1, u2⟩ := trkF_call (q1 x0 p0 (hexL x0)) (q2 x29 p29) pc al st aw' kc' ks' j2 as rest hinv hxa hR
      exact ⟨P, u1, fun res hres _ => u2 res hres _ _⟩), lwX_sp msp, lwX_P mP (fun al st aw' kc' ks' k aw2 hR => absurd hR (hno 374 al st aw' kc' ks' (Or.inr rfl))), lwX_L mL hL (fun al st aw' kc' ks' hR => absurd hR (hno 26 al _ aw' kc' ks' (Or.inl rfl))), fun al aw' kc' ks' a b _ _ => mE al aw' kc' ks' a b⟩
    refine lw_turn lw_all lw_rows lw_m9 lw_inf hcX hconX hM4 hr h hl0 hsc hi hi2 hw hk hs (fun e => by cases e) (fun c1 c2 c3 c5 c6 aw' r' T' pl' k s g1 gf g2 g3 g4 hex2 hR => ?_) hex ⟨rfl, Or.inl ⟨rfl, rfl, rfl⟩⟩
    have hA : A2 aw' := by
      obtain ⟨-, hf⟩ := hR
      dsimp only at hf
      have harg : ∀ base, (base = 237 ∨ base = 272) → ∀ X st, trkArg v i X base 1448 st → False := by
        intro base hb X st hq
        rcases hq with ⟨e, -⟩ | ⟨k, hq⟩
        · omega
        · have := k.2
          rcases hq with ⟨e, -⟩ | ⟨e, -⟩ | ⟨e, -⟩ | ⟨e, -⟩ | ⟨e, -⟩ <;> omega
      rcases hf with ⟨e, -⟩ | ⟨e, -⟩ | ⟨e, -⟩ | ⟨e, -⟩ | ⟨e, -⟩ | ⟨e, -⟩ | ⟨e, -⟩ | ⟨e, -⟩ | ⟨-, e⟩
      · omega
      · omega
      · exact absurd (harg 237 (Or.inl rfl) _ _ e) id
      · omega
      · omega
      · exact absurd (harg 272 (Or.inr rfl) _ _ e) id
      · omega
      · omega
      · exact e
    obtain ⟨e5, e6⟩ := h56 hex2.1
    have gf : lwFr xlMA T pl aw T' pl' aw' := gf
    have hS := gS_inv h
    have hPI : PI pl' aw' := by
      refine ⟨hex2.2.2, pW_keep hS gf (k := 6) (by omega) xlMA_no.1 hP.2.1, pW_keep hS gf (k := 35) (by omega) xlMA_no.2 hP.2.2.1, ?_⟩
      have epl := gf.2.1
      subst epl
      exact q3 aw' T' (gS_inv g1) hA
    exact hN c1 c2 c3 c5 c6 aw' r' T' pl' k s g1 hPI g2 e5 e6 g3 g4
  · have hM4 : lwMach (lwX RG (fun _ => True)) sc (EvXM rvTab rvInf rvRet 316 rvMth) := ⟨lwX_S mS hpt (fun _ _ _ _ _ _ _ _ _ _ _ _ _ _ _ _ => trivial), lwX_I mI hM (fun _ _ _ _ _ _ _ _ _ _ _ _ _ _ => ⟨_, PCM_T, fun _ _ _ => trivial⟩), lwX_sp msp, lwX_P mP (fun _ _ _ _ _ _ _ _ => trivial), lwX_L mL hL (fun _ _ _ _ _ _ => trivial), fun al aw' kc' ks' a b _ _ => mE al aw' kc' ks' a b⟩
    refine lw_turn lw_all lw_rows lw_m9 lw_inf hcX hconX hM4 hr h hl0 hsc hi hi2 hw hk hs (fun e => absurd e hw2) (fun c1 c2 c3 c5 c6 aw' r' T' pl' k s g1 gf g2 g3 g4 hex2 _ => ?_) hex trivial
    obtain ⟨e5, e6⟩ := h56 hex2.1
    have gf : lwFr xlM T pl aw T' pl' aw' := by
      have em : lwMs w = xlM := if_neg hw0
      rw [em] at gf
      exact gf
    exact hN c1 c2 c3 c5 c6 aw' r' T' pl' k s g1 (PI_keep (gS_inv h) hP gf hex2.2.2) g2 e5 e6 g3 g4
end T5
