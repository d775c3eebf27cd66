/-! All turns end with what holds at the head (by hand). -/
/-- the reference's cells, the sets' row too -/
theorem MC20_T {T pl : List Nat} {aw : rvH} (hp : pl = rzPl) (h : gS T pl aw) : ∃ fs, aw[109]? = some (.inl (12, fs)) ∧ fs[6]? = some (rf 111) ∧ fs[20]? = some (rf 116) := by
  subst hp
  obtain ⟨i, c, a1, a2, a3, a4⟩ := gh_st h (k := 29) (by omega)
  have e : (109 : Nat) = i := Option.some.inj a1
  subst e
  obtain ⟨x, x1, c1, x2, x3⟩ := gh_r2 (j := 6) (m := 31) a3 a4 rfl
  obtain ⟨y, y1, c2, y2, y3⟩ := gh_r2 (j := 20) (m := 36) a3 a4 rfl
  have ex : (111 : Nat) = x := Option.some.inj x1
  have ey : (116 : Nat) = y := Option.some.inj y1
  subst ex; subst ey
  rw [a3] at x2 y2
  have x2 := Option.some.inj x2
  have y2 := Option.some.inj y2
  subst x2; subst y2
  rcases c with ⟨ci, fs⟩ | ⟨k', n', d, ov⟩
  · have hc : (12 : Nat) = ci := a4.1
    subst hc
    exact ⟨fs, a3, x3, y3⟩
  · exact absurd a4 id
theorem row111 {T pl : List Nat} {aw : rvH} (hp : pl = rzPl) (h : gS T pl aw) : ∃ d ov, aw[111]? = some (.inr (0, 296, d, ov)) := row_T h (pl_111 hp h).1 ⟨_, _, rfl⟩
theorem row128 {T pl : List Nat} {aw : rvH} (hp : pl = rzPl) (h : gS T pl aw) : ∃ d ov, aw[128]? = some (.inr (0, 592, d, ov)) := row_T h (pl_111 hp h).2 ⟨_, _, rfl⟩
theorem row130 {T pl : List Nat} {aw : rvH} (hp : pl = rzPl) (h : gS T pl aw) : ∃ q d ov, aw[130]? = some (.inr (q, 2, d, ov)) ∧ q < 3 := by
  subst hp
  obtain ⟨i, c, a1, a2, a3, a4⟩ := gh_st h (k := 50) (by omega)
  have e : (130 : Nat) = i := Option.some.inj a1
  subst e
  rcases c with ⟨ci, fs⟩ | ⟨k', n', d, ov⟩
  · exact absurd a4 id
  · have hk : (2 : Nat) = k' := a4.1
    have hn : (2 : Nat) = n' := a4.2.1
    subst hk; subst hn
    exact ⟨2, d, ov, a3, by omega⟩
/-- a slot that a variable tells -/
theorem gh_var {r : List Int} {T pl : List Nat} {aw : rvH} (h : lwInv r T pl aw) {k : Nat} {l : List ((Nat × Int × Int) × xV)} (e : lwAh[k]? = some (60 + k, l)) {jj : Int} {j x : Nat} (hm : ((0, 0, jj), .inl (x, 1, 0)) ∈ l) (hj : jj = (j : Int)) {p : Nat} (hp : pl[k]? = some p) : ghI aw p j = r.getD x 0 := by
  obtain ⟨g1, g2, g3, g4⟩ := h
  obtain ⟨i, c, h1, h2, h3, h4⟩ := g1.2 k _ e
  rw [hp] at h1
  have ei := Option.some.inj h1
  subst ei
  obtain ⟨-, j', w, j1, j2, j3⟩ := h4 _ hm
  have j1 : xVal r (xSm (0, 0, jj)) = (j' : Int) := j1
  have e2 : xVal r (xSm (0, 0, jj)) = jj := by
    have : xVal r (xSm (0, 0, jj)) = 0 + jj := rfl
    omega
  have ej : j' = j := by rw [e2] at j1; omega
  subst ej
  have j3 : w = .inl (xVal r (xSm (x, 1, 0)), xVal r (xSm (x, 1, 0))) := j3.2.2
  unfold ghI
  rw [h3]
  dsimp only
  rw [j2, j3]
  exact xl_10 x
theorem flag_eq {r : List Int} {T pl : List Nat} {aw : rvH} (hp : pl = rzPl) (h : lwInv r T pl aw) : ∀ n, n < 2 → ghI aw 130 n = ghI aw 9 n := by
  intro n hn
  have p9 : pl[2]? = some 9 := by subst hp; rfl
  have p130 : pl[50]? = some 130 := by subst hp; rfl
  have : n = 0 ∨ n = 1 := by omega
  rcases this with rfl | rfl
  · rw [gh_var h (k := 50) rfl (jj := 0) (x := 11) (List.mem_cons_self) rfl p130, gh_var h (k := 2) rfl (jj := 0) (x := 11) (List.mem_cons_self) rfl p9]
  · rw [gh_var h (k := 50) rfl (jj := 1) (x := 12) (List.mem_cons_of_mem _ List.mem_cons_self) rfl p130, gh_var h (k := 2) rfl (jj := 1) (x := 12) (List.mem_cons_of_mem _ List.mem_cons_self) rfl p9]
/-- behind spared -/
theorem HT_spared {T pl T1 T2 : List Nat} {aw aw1 aw2 : rvH} (hp : pl = rzPl) (hS : gS T pl aw) (hT : HT aw) (gf : lwFr xlM T pl aw T1 pl aw1) (hS1 : gS T1 pl aw1) (hF1 : Fr aw aw1) (hW1 : Fw aw aw1) (gf2 : lwFr xlMS T1 pl aw1 T2 pl aw2) (hF2 : Fr aw1 aw2) (hW2 : Fw aw1 aw2) (hs : ∀ i, ghI aw2 111 i = ghI aw1 111 i) : HT aw2 := by
  obtain ⟨k7, hno⟩ := rv_and no_MS
  obtain ⟨k9, hno⟩ := rv_and hno
  obtain ⟨k10, k108⟩ := rv_and hno
  have hT1 : HT aw1 := HT_turn hp hS hT mt_M gf (fun t0 h0 => SameT_Fr (SameT_refl h0) hF1 hW1)
  obtain ⟨q1, q2⟩ := pl_111 hp hS1
  have hT0 := hT1
  obtain ⟨hk, t0, hF, -⟩ := hT0
  refine HT_same hT1 (fun t0 h0 => SameT_Fr (SameT_refl h0) hF2 hW2) (fun t j x i hkt hx hj => ?_) (fun i _ => hs i) (fun i _ => fr_ghT hS1 gf2 q2 (ghNo_ok xlMS k108))
  obtain ⟨k, k1, k2⟩ := hkt
  obtain ⟨r1, r2, r3⟩ := town_T hp hS1 hF k1 k2 hx
  rcases hj with rfl | rfl | rfl
  · exact fr_ghT hS1 gf2 (r1 rfl) (ghNo_ok xlMS k7)
  · exact fr_ghT hS1 gf2 (r2 rfl) (ghNo_ok xlMS k9)
  · exact fr_ghT hS1 gf2 (r3 rfl) (ghNo_ok xlMS k10)
/-- what the reference's district leaves -/
def cMs (r0 : Int × hH) (aw1 aw2 : rvH) : Prop := (¬ r0.2.1 4 13 = 0 → ∀ b, b < 91 → ghI aw2 111 b = ghI aw1 111 b) ∧ (r0.2.1 4 13 = 0 → (∀ i, i < 4 → r0.2.1 61 i = ghI aw2 111 i) ∧ (∀ p, p < 10 → r0.2.1 63 p = ghI aw2 111 (24 + p)) ∧ ∀ x, x < 30 → r0.2.1 64 x = ghI aw2 111 (55 + x))
def cMn (r0 : Int × hH) (aw1 aw2 : rvH) : Prop := (¬ r0.2.1 4 13 = 0 → ∀ b, b < 20 → ghL aw2 114 b = ghL aw1 114 b) ∧ (r0.2.1 4 13 = 0 → ∀ s, s < 4 → ∃ n : Nat, n ≤ pd_tMost s ∧ r0.2.1 61 s = (n : Int) ∧ ∀ i, i < n → ∃ r, pd_vR r ∧ r0.2.2.1 62 (10 * s + i) = pd_tF5 r ∧ ghL aw2 114 (sn_base s + i) = pd_tF8 r)
def iMn (k : Int) (aw1 aw2 : rvH) : Prop := (∀ n : Nat, k = (n : Int) → n < 2 → IMn n aw1 aw2) ∧ ((k < 0 ∨ 1 < k) → K3 aw1 aw2)
def rMn (k : Int) (aw1 aw2 : rvH) : Prop := (∀ n : Nat, k = (n : Int) → n < 2 → ¬ ghI aw1 130 n = 0 → REn n aw1 aw2) ∧ ((k < 0 ∨ 1 < k ∨ ∃ n : Nat, k = (n : Int) ∧ ghI aw1 130 n = 0) → K3 aw1 aw2)
theorem MN_T {T pl : List Nat} {aw : rvH} (hp : pl = rzPl) (h : gS T pl aw) : ∃ fs, MC aw fs ∧ MN fs := by
  subst hp
  obtain ⟨i, c, a1, a2, a3, a4⟩ := gh_st h (k := 29) (by omega)
  have e : (109 : Nat) = i := Option.some.inj a1
  subst e
  obtain ⟨x, x1, c1, x2, x3⟩ := gh_r2 (j := 6) (m := 31) a3 a4 rfl
  obtain ⟨y, y1, c2, y2, y3⟩ := gh_r2 (j := 52) (m := 48) a3 a4 rfl
  obtain ⟨z, z1, c3, z2, z3⟩ := gh_r2 (j := 54) (m := 50) a3 a4 rfl
  obtain ⟨u, u1, c4, u2, u3⟩ := gh_r2 (j := 9) (m := 34) a3 a4 rfl
  obtain ⟨w, w1, c5, w2, w3⟩ := gh_r2 (j := 53) (m := 49) a3 a4 rfl
  have ex : (111 : Nat) = x := Option.some.inj x1
  have ey : (128 : Nat) = y := Option.some.inj y1
  have ez : (130 : Nat) = z := Option.some.inj z1
  have eu : (114 : Nat) = u := Option.some.inj u1
  have ew : (129 : Nat) = w := Option.some.inj w1
  subst ex; subst ey; subst ez; subst eu; subst ew
  rw [a3] at x2 y2 z2 u2 w2
  have x2 := Option.some.inj x2
  have y2 := Option.some.inj y2
  have z2 := Option.some.inj z2
  have u2 := Option.some.inj u2
  have w2 := Option.some.inj w2
  subst x2; subst y2; subst z2; subst u2; subst w2
  rcases c with ⟨ci, fs⟩ | ⟨k', n', d, ov⟩
  · have hc : (12 : Nat) = ci := a4.1
    subst hc
    exact ⟨fs, ⟨a3, x3, y3, z3⟩, u3, w3⟩
  · exact absurd a4 id
theorem row_K3 {aw aw1 : rvH} {y n : Nat} (h : K3 aw aw1) (e : ∃ d ov, aw[y]? = some (.inr (3, n, d, ov))) : ∃ d ov, aw1[y]? = some (.inr (3, n, d, ov)) := by
  obtain ⟨d, ov, e⟩ := e
  exact ⟨d, ov, h y n d ov e⟩
theorem HN_spared {T pl T1 T2 : List Nat} {aw aw1 aw2 : rvH} (hp : pl = rzPl) (hS : gS T pl aw) (hT : HT aw) (hN : HN aw) (gf : lwFr xlM T pl aw T1 pl aw1) (hS1 : gS T1 pl aw1) (hF1 : Fr aw aw1) (hW1 : Fw aw aw1) (gf2 : lwFr xlMS T1 pl aw1 T2 pl aw2) (hF2 : Fr aw1 aw2) (hW2 : Fw aw1 aw2) (hs : ∀ i, ghI aw2 111 i = ghI aw1 111 i) : HN aw2 := by
  obtain ⟨k8, hno⟩ := rv_and no2_MS
  obtain ⟨k94, hno⟩ := rv_and hno
  obtain ⟨k109, hno⟩ := rv_and hno
  obtain ⟨k91, k108⟩ := rv_and hno
  have hs1 : ∀ t0, HF t0 aw → SameT t0 aw aw1 := fun t0 h0 => SameT_Fr (SameT_refl h0) hF1 hW1
  have hT1 : HT aw1 := HT_turn hp hS hT mt_M gf hs1
  have hN1 : HN aw1 := HN_turn hp hS hT hN mn_M gf hs1
  obtain ⟨q1, q2⟩ := pl_111 hp hS1
  obtain ⟨p1, p2⟩ := pl_114 hp hS1
  obtain ⟨hk, t0, hF, hTC, hIm⟩ := hT1
  obtain ⟨⟨t1, n1, n2⟩, hI⟩ := hN1
  have key : ∀ {k t f f' l l'}, (k = 35 ∨ ∃ n, n < 2 ∧ k = ti2 n) → hV aw1 k 0 (rf t) → TN aw1 t f l → (∀ i, i < 4 → f' i = f i) → (∀ i, i < 20 → l' i = l i) → TN aw2 t f' l' := fun hkk ht hTN hff hll => TN_keep hTN (fun v hv => hV_Fr hF2 hv) (fun nr hnr i => fr_glT hS1 gf2 (town_N hp hS1 hF hkk ht hnr) (ghNo_ok xlMS k8)) hff hll
  refine ⟨⟨t1, hV_Fr hF2 n1, key (Or.inl rfl) n1 n2 (fun i _ => hs i) (fun i _ => fr_glT hS1 gf2 p1 (ghNo_ok xlMS k94))⟩, fun n hn => ?_⟩
  obtain ⟨tn, a1, a2⟩ := hI n hn
  exact ⟨tn, hV_Fr hF2 a1, key (Or.inr ⟨n, hn, rfl⟩) a1 a2 (fun i _ => fr_ghT hS1 gf2 q2 (ghNo_ok xlMS k108)) (fun i _ => fr_glT hS1 gf2 p2 (ghNo_ok xlMS k109))⟩
/-- what the class's image leaves -/
def iXs (k : Int) (aw aw1 : rvH) : Prop := (∀ n : Nat, k = (n : Int) → n < 2 → CFp (ti2 n) 35 aw aw1 ∧ ∃ aw', RXa (ti2 n) aw aw' ∧ K0 aw' aw1) ∧ ((k < 0 ∨ 1 < k) → Fr aw aw1 ∧ K0 aw aw1)
def iMs (k : Int) (aw1 aw2 : rvH) : Prop := (∀ n : Nat, k = (n : Int) → n < 2 → IMp n aw1 aw2) ∧ ((k < 0 ∨ 1 < k) → K0 aw1 aw2)
def rXs (k : Int) (aw aw1 : rvH) : Prop := (∀ n : Nat, k = (n : Int) → n < 2 → ¬ ghI aw 9 n = 0 → RSp 35 47 (ti2 n) aw aw1 ∧ ∃ aw', RXa 35 aw aw' ∧ K0 aw' aw1) ∧ ((k < 0 ∨ 1 < k ∨ ∃ n : Nat, k = (n : Int) ∧ ghI aw 9 n = 0) → Fr aw aw1 ∧ K0 aw aw1)
def rMs (k : Int) (aw1 aw2 : rvH) : Prop := (∀ n : Nat, k = (n : Int) → n < 2 → ¬ ghI aw1 130 n = 0 → REp n aw1 aw2) ∧ ((k < 0 ∨ 1 < k ∨ ∃ n : Nat, k = (n : Int) ∧ ghI aw1 130 n = 0) → K0 aw1 aw2)
theorem hc_at {aw : rvH} {t0 : Nat} (hF : HF t0 aw) {a j x : Nat} (h : (a, j, x) ∈ hcL) : hV aw a j (rf x) := hF.1 (a, j, x) h
theorem hc_im {aw : rvH} {t0 : Nat} (hF : HF t0 aw) : ∀ n, n < 2 → hV aw 8 n (rf (ti2 n)) := by
  intro n hn
  have : n = 0 ∨ n = 1 := by omega
  rcases this with rfl | rfl
  · exact hF.1 (8, 0, 97) (by decide)
  · exact hF.1 (8, 1, 103) (by decide)
theorem iX_ok {aw : rvH} {t0 : Nat} (hF : HF t0 aw) (k : Int) : PCM rvTab rvInf rvRet 316 rvMth 310 [rf 0, pt k] aw (fun res => iXs k aw res.2) := sp_imageX2 (hF.1 (0, 1, 35) (by decide)) (hF.1 (0, 4, 8) (by decide)) (hF.1 (0, 6, 10) (by decide)) (hc_im hF) hF.2.1 (fun n _ => by unfold ti2; omega) k
theorem rX_ok {aw : rvH} {t0 : Nat} (hx : exH aw) (hF : HF t0 aw) (k : Int) : PCM rvTab rvInf rvRet 316 rvMth 311 [rf 0, pt k] aw (fun res => rXs k aw res.2) := sp_restoreX2 hx (hF.1 (0, 1, 35) (by decide)) (hF.1 (0, 3, 47) (by decide)) (hF.1 (0, 4, 8) (by decide)) (hF.1 (0, 5, 9) (by decide)) (hc_im hF) (by decide) k
/-- a row's kind stays -/
theorem row_Fw {aw aw1 : rvH} (h : Fw aw aw1) {y n : Nat} (e : ∃ d ov, aw[y]? = some (.inr (0, n, d, ov))) : ∃ d ov, aw1[y]? = some (.inr (0, n, d, ov)) := by
  obtain ⟨d, ov, e⟩ := e
  obtain ⟨c', e', sh⟩ := h.2.1 y _ e
  rcases c' with ⟨ci', fs'⟩ | ⟨q, n', d', ov'⟩
  · exact absurd sh id
  · obtain ⟨rfl, rfl⟩ := sh
    exact ⟨_, _, e'⟩
theorem swNat {w e : Nat} (h : swTo (w : Int) e) : swTo (w : Int) e := h
section T5
variable {RG : rvS → Prop} {sc : List (Int × Int)} {Met : Nat → List rvV → rvH → (xRes2 → Prop) → Prop}
/-- the law's machine over a block's tracked set -/
theorem mach_P (mS : lwS RG sc) (mI : lwI RG Met) (msp : ∀ (pc : Nat) (al st : List rvV) (a : Int × Int) (aw : rvH) (kc ks : Nat), (∀ n, a.1 ≤ n → n ≤ a.2 → xIn32 n → RG (pc, al, .inl (n, n) :: st, aw, kc, ks)) → RG (pc, al, .inl a :: st, aw, kc, ks)) (mP : lwPerX RG) (mL : ∀ (al st : List rvV) (aw : rvH) (kc ks : Nat), RG (27, al, .inl ((sc.length : Int), (sc.length : Int)) :: st, aw, kc, ks) → RG (26, al, .inr (5, 0) :: st, aw, kc, ks)) (mE : ∀ (al : List rvV) (aw : rvH) (kc ks : Nat), kc ≤ 600000 → ks ≤ 7000000 → RG (1455, al, [.inl (1, 1)], aw, kc, ks)) (hM : ∀ (j : Nat) (as : List rvV) (aw : rvH) (Q : xRes2 → Prop), EvM rvTab rvInf rvRet 316 rvMth j as aw Q → Met j as aw Q) (hL : sc.length ≤ 3072) (hpt : ∀ (k : Nat) (v : Int × Int), sc[k]? = some v → v.2 = v.1 ∧ xIn32 v.1) {n e iX iM jX jM : Nat} {g w i : Int} (K : tkP n e iX iM jX jM g) (hn : okN n) (hsw : swTo w e) (he : 40 < e) (h374 : e + 10 + 12 * n < 374 ∨ 374 < e) (hi : 0 ≤ i) (hi2 : i ≤ 3066) {v : Nat → Int} (hvs : ∀ k, k < n → sc[i.toNat + (k + 1)]? = some (v k, v k)) {x0 x29 x51 : Nat} {b5 b6 : rvV} {aw : rvH} {A1 A2 : rvH → Prop} (p1 : exL (.inr (2, x0) :: argl v n) → exH aw → PCM rvTab rvInf rvRet 316 rvMth jX (.inr (2, x0) :: argl v n) aw (fun res => A1 res.2)) (p2 : ∀ aw1, A1 aw1 → exL (.inr (2, x29) :: argl v n) → exH aw1 → PCM rvTab rvInf rvRet 316 rvMth jM (.inr (2, x29) :: argl v n) aw1 (fun res => A2 res.2)) : lwMach (lwX RG (trkP n e [.inr (5, 0), .inr (2, x0), .inr (2, x29), .inr (2, x51), .inl (i, i), b5, b6] v i w aw x0 x29 A1 A2)) sc (EvXM rvTab rvInf rvRet 316 rvMth) := by
  have hno : ∀ (pc : Nat) (al st : List rvV) (aw' : rvH) (kc' ks' : Nat), (pc = 26 ∨ pc = 374) → ¬ trkP n e [.inr (5, 0), .inr (2, x0), .inr (2, x29), .inr (2, x51), .inl (i, i), b5, b6] v i w aw x0 x29 A1 A2 (pc, al, st, aw', kc', ks') := by
    intro pc al st aw' kc' ks' hpc hf
    have := trkP_not hf
    omega
  exact ⟨lwX_S mS hpt (trkP_step K hn hsw hi hi2 hvs), lwX_I mI hM (fun pc al st aw' kc' ks' j2 as rest _ hinv hxs hxh hR => by
      obtain ⟨P, u1, u2⟩ := trkP_call K hn p1 p2 pc al st aw' kc' ks' j2 as rest hinv hxs hxh hR
      exact ⟨P, u1, fun res hres _ => u2 res hres _ _⟩), lwX_sp msp, lwX_P mP (fun al st aw' kc' ks' k aw2 _ _ hR => absurd hR (hno 374 al st aw' kc' ks' (Or.inr rfl))), lwX_L mL hL (fun al st aw' kc' ks' hR => absurd hR (hno 26 al _ aw' kc' ks' (Or.inl rfl))), fun al aw' kc' ks' a b _ _ => mE al aw' kc' ks' a b⟩
theorem mach_Q (mS : lwS RG sc) (mI : lwI RG Met) (msp : ∀ (pc : Nat) (al st : List rvV) (a : Int × Int) (aw : rvH) (kc ks : Nat), (∀ n, a.1 ≤ n → n ≤ a.2 → xIn32 n → RG (pc, al, .inl (n, n) :: st, aw, kc, ks)) → RG (pc, al, .inl a :: st, aw, kc, ks)) (mP : lwPerX RG) (mL : ∀ (al st : List rvV) (aw : rvH) (kc ks : Nat), RG (27, al, .inl ((sc.length : Int), (sc.length : Int)) :: st, aw, kc, ks) → RG (26, al, .inr (5, 0) :: st, aw, kc, ks)) (mE : ∀ (al : List rvV) (aw : rvH) (kc ks : Nat), kc ≤ 600000 → ks ≤ 7000000 → RG (1455, al, [.inl (1, 1)], aw, kc, ks)) (hM : ∀ (j : Nat) (as : List rvV) (aw : rvH) (Q : xRes2 → Prop), EvM rvTab rvInf rvRet 316 rvMth j as aw Q → Met j as aw Q) (hL : sc.length ≤ 3072) (hpt : ∀ (k : Nat) (v : Int × Int), sc[k]? = some v → v.2 = v.1 ∧ xIn32 v.1) {n e iX iM jX jM : Nat} {g w i ans : Int} (K : tkQ n e iX iM jX jM g) (hn : okN n) (hsw : swTo w e) (he : 40 < e) (h374 : e + 8 + 12 * n < 374 ∨ 374 < e) (hi : 0 ≤ i) (hi2 : i ≤ 3066) {v : Nat → Int} (hvs : ∀ k, k < n → sc[i.toNat + (k + 1)]? = some (v k, v k)) {x0 x29 x51 : Nat} {b5 b6 : rvV} {aw : rvH} {A2 : rvH → Prop} (p1 : PCM rvTab rvInf rvRet 316 rvMth jX (.inr (2, x0) :: argl v n) aw (fun res => res.1 = some (.inl (ans, ans)) ∧ res.2 = aw)) (p2 : PCM rvTab rvInf rvRet 316 rvMth jM (.inr (2, x29) :: argl v n) aw (fun res => res.1 = some (.inl (ans, ans)) ∧ A2 res.2)) : lwMach (lwX RG (trkQ n e [.inr (5, 0), .inr (2, x0), .inr (2, x29), .inr (2, x51), .inl (i, i), b5, b6] v i w aw x0 x29 ans A2)) sc (EvXM rvTab rvInf rvRet 316 rvMth) := by
  have hno : ∀ (pc : Nat) (al st : List rvV) (aw' : rvH) (kc' ks' : Nat), (pc = 26 ∨ pc = 374) → ¬ trkQ n e [.inr (5, 0), .inr (2, x0), .inr (2, x29), .inr (2, x51), .inl (i, i), b5, b6] v i w aw x0 x29 ans A2 (pc, al, st, aw', kc', ks') := by
    intro pc al st aw' kc' ks' hpc hf
    have := trkQ_not hf
    omega
  exact ⟨lwX_S mS hpt (trkQ_step K hn hsw hi hi2 hvs), lwX_I mI hM (fun pc al st aw' kc' ks' j2 as rest _ hinv _ _ hR => by
      obtain ⟨P, u1, u2⟩ := trkQ_call K hn p1 p2 pc al st aw' kc' ks' j2 as rest hinv hR
      exact ⟨P, u1, fun res hres _ => u2 res hres _ _⟩), lwX_sp msp, lwX_P mP (fun al st aw' kc' ks' k aw2 _ _ hR => absurd hR (hno 374 al st aw' kc' ks' (Or.inr rfl))), lwX_L mL hL (fun al st aw' kc' ks' hR => absurd hR (hno 26 al _ aw' kc' ks' (Or.inl rfl))), fun al aw' kc' ks' a b _ _ => mE al aw' kc' ks' a b⟩
theorem lwA_26 : lwA 26 = false := by decide
theorem lwA_377 : lwA 377 = true := by decide
theorem mach_G (mS : lwS RG sc) (mI : lwI RG Met) (msp : ∀ (pc : Nat) (al st : List rvV) (a : Int × Int) (aw : rvH) (kc ks : Nat), (∀ n, a.1 ≤ n → n ≤ a.2 → xIn32 n → RG (pc, al, .inl (n, n) :: st, aw, kc, ks)) → RG (pc, al, .inl a :: st, aw, kc, ks)) (mP : lwPerX RG) (mL : ∀ (al st : List rvV) (aw : rvH) (kc ks : Nat), RG (27, al, .inl ((sc.length : Int), (sc.length : Int)) :: st, aw, kc, ks) → RG (26, al, .inr (5, 0) :: st, aw, kc, ks)) (mE : ∀ (al : List rvV) (aw : rvH) (kc ks : Nat), kc ≤ 600000 → ks ≤ 7000000 → RG (1455, al, [.inl (1, 1)], aw, kc, ks)) (hM : ∀ (j : Nat) (as : List rvV) (aw : rvH) (Q : xRes2 → Prop), EvM rvTab rvInf rvRet 316 rvMth j as aw Q → Met j as aw Q) (hL : sc.length ≤ 3072) (hpt : ∀ (k : Nat) (v : Int × Int), sc[k]? = some v → v.2 = v.1 ∧ xIn32 v.1) {t0 e : Nat} {aw : rvH} {w : Int} (hF : HF t0 aw) (hA : lwA e = true) (hsw : swTo w e) : lwMach (lwX RG (trkG t0 aw w)) sc (EvXM rvTab rvInf rvRet 316 rvMth) :=
  ⟨lwX_S mS hpt (trkG_step hF hA hsw), lwX_I mI hM (fun pc al st aw' kc' ks' j2 as rest hj hinv _ _ hR => by
      obtain ⟨P, u1, u2⟩ := trkG_call hF pc al st aw' kc' ks' j2 as rest hj hinv hR
      exact ⟨P, u1, fun res hres _ => u2 res hres _ _⟩), lwX_sp msp, lwX_P mP (fun al st aw' kc' ks' k aw2 hFr hFw hR => by
      rcases hR with ⟨q, -⟩ | ⟨-, q⟩
      · have q : (374 : Nat) = 40 := q
        exact absurd q (by decide)
      · exact Or.inr ⟨lwA_377, SameT_Fr q hFr hFw⟩), lwX_L mL hL (fun al st aw' kc' ks' hR => by
      rcases hR with ⟨q, -⟩ | ⟨q, -⟩
      · have q : (26 : Nat) = 40 := q
        exact absurd q (by decide)
      · rw [lwA_26] at q; cases q), fun al aw' kc' ks' a b _ _ => mE al aw' kc' ks' a b⟩
set_option maxHeartbeats 8000000 in
theorem lw_turns (mS : lwS RG sc) (mI : lwI RG Met) (msp : ∀ (pc : Nat) (al st : List rvV) (a : Int × Int) (aw : rvH) (kc ks : Nat), (∀ n, a.1 ≤ n → n ≤ a.2 → xIn32 n → RG (pc, al, .inl (n, n) :: st, aw, kc, ks)) → RG (pc, al, .inl a :: st, aw, kc, ks)) (mP : lwPerX RG) (mL : ∀ (al st : List rvV) (aw : rvH) (kc ks : Nat), RG (27, al, .inl ((sc.length : Int), (sc.length : Int)) :: st, aw, kc, ks) → RG (26, al, .inr (5, 0) :: st, aw, kc, ks)) (mE : ∀ (al : List rvV) (aw : rvH) (kc ks : Nat), kc ≤ 600000 → ks ≤ 7000000 → RG (1455, al, [.inl (1, 1)], aw, kc, ks)) (hM : ∀ (j : Nat) (as : List rvV) (aw : rvH) (Q : xRes2 → Prop), EvM rvTab rvInf rvRet 316 rvMth j as aw Q → Met j as aw Q) (hL : sc.length ≤ 3072) (hpt : ∀ (k : Nat) (v : Int × Int), sc[k]? = some v → v.2 = v.1 ∧ xIn32 v.1) : lwTurn PJ RG sc := by
  intro i v1 v2 v3 v4 v5 zs r T pl aw b1 b2 b3 b5 b6 kc ks w hr h hJ hl hb5 hb6 hsc hi hi2 hw hk hs hN
  obtain ⟨hP, hp, hT, hNm, hFk⟩ := hJ
  have hS := gS_inv h
  have hi32 : xIn32 i := ⟨by omega, by omega⟩
  have hcX := EvX_clo (tab := rvTab) (info := rvInf) (rets := rvRet) (NM := 316) (mth := rvMth) jw
  have hconX := xc_all hcX
  have hw32 : exV (.inl ((w : Int), (w : Int))) := ⟨rfl, by show -2147483648 ≤ (w : Int); omega, by show (w : Int) ≤ 2147483647; omega⟩
  have hT0 := hT
  obtain ⟨-, t0, hF, -⟩ := hT0
  obtain ⟨v, hv0, hv1, hv2, hv3, hv4⟩ : ∃ v : Nat → Int, v 0 = v1 ∧ v 1 = v2 ∧ v 2 = v3 ∧ v 3 = v4 ∧ v 4 = v5 := ⟨fun n => match n with | 0 => v1 | 1 => v2 | 2 => v3 | 3 => v4 | _ => v5, rfl, rfl, rfl, rfl, rfl⟩
  have hvs : ∀ k, k < 5 → sc[i.toNat + (k + 1)]? = some (v k, v k) := by
    intro k hk
    match k, hk with
    | 0, _ => obtain ⟨q, q1, q2⟩ := hsc 1 (by omega) (by omega); rw [q2]; have := Sum.inl.inj (Option.some.inj q1); rw [← this, hv0]
    | 1, _ => obtain ⟨q, q1, q2⟩ := hsc 2 (by omega) (by omega); rw [q2]; have := Sum.inl.inj (Option.some.inj q1); rw [← this, hv1]
    | 2, _ => obtain ⟨q, q1, q2⟩ := hsc 3 (by omega) (by omega); rw [q2]; have := Sum.inl.inj (Option.some.inj q1); rw [← this, hv2]
    | 3, _ => obtain ⟨q, q1, q2⟩ := hsc 4 (by omega) (by omega); rw [q2]; have := Sum.inl.inj (Option.some.inj q1); rw [← this, hv3]
    | 4, _ => obtain ⟨q, q1, q2⟩ := hsc 5 (by omega) (by omega); rw [q2]; have := Sum.inl.inj (Option.some.inj q1); rw [← this, hv4]
    | n + 5, hk => omega
  have x0e : ∀ x0, pl[0]? = some x0 → x0 = 0 := fun x0 q => by rw [hp] at q; exact (Option.some.inj q).symm
  have x29e : ∀ x, pl[29]? = some x → x = 109 := fun x q => by rw [hp] at q; exact (Option.some.inj q).symm
  by_cases hw40 : w = 40
  · subst hw40
    obtain ⟨v40, pX, pM⟩ := c40_FM h hP hp hT hNm
    obtain ⟨m89, hno⟩ := rv_and xlMY_no
    obtain ⟨m90, hno⟩ := rv_and hno
    obtain ⟨m91, hno⟩ := rv_and hno
    obtain ⟨m94, m95⟩ := rv_and hno
    have hK1 : xlRB xlCN xlMY xlLN (40, lwAl, [.inl (0, 0, ((40 : Nat) : Int))], lwAh, (0, xlMY, []) :: lwFs, (lwN ++ [], lwC), 0, 0) _ _ = true := xlKB_40
    have hK2 : xlR xlMZ xlLO (1335 + 5 + 6 * 0, lwAl, [], lwAh2, (0, xlMZ, []) :: lwFs, (lwN, lwC), 0, 0) _ _ = true := xlKB_140
    refine lw_half mS mI msp hM hpt tkP_40 (Or.inl rfl) (w := 40) sw_40 (by omega) (by omega) lw_f1340 rfl hK1 lwTokN_all hK2 lwTokO_all hr h hP.1 hl hb5 hb6 hsc hi hi2 hk hs (v := v) (fun k hk => absurd hk (by omega)) hw (A1 := fun aw1 => FB 0 11 14 v40 aw1 ∧ SameT t0 aw aw1) (A2 := fun aw1 aw2 => FB 109 12 15 v40 aw2 ∧ SameT t0 aw aw2) ?_ ?_ ?_
    · intro x0 hx0 _
      rw [x0e x0 hx0]
      exact PCM_and (pX 0 (by rw [hp]; rfl)) (sm_neutral (j := 307) (by decide) (SameT_refl hF) _)
    · intro x29 r3 T1 aw1 hx29 g1 gf hx1 hA1 _
      rw [x29e x29 hx29]
      exact PCM_and (pM T1 aw1 xlMY (gS_invA lw_rg2 g1) hx1 gf m89 m90 m91 m94 m95 109 (by rw [hp]; rfl)) (sm_neutral (j := 121) (by decide) hA1.2 _)
    · intro c1 c2 c3 c5 c6 aw1 aw' r3 r' T1 T' k s g1 gf hx1 hA1 ginv gf2 hx' hA2 hloc e5 e6 hk1 hs1
      have hS1 := gS_invA lw_rg2 g1
      have gfw := lwFr_trans (lwFr_mono xlMY_sub gf) (lwFr_mono xlMZ_sub gf2)
      have hsm : ∀ t1, HF t1 aw → SameT t1 aw aw' := fun t1 h1 => by
        have e := hf_one hF h1
        subst e
        exact hA2.2
      exact hN c1 c2 c3 c5 c6 aw' r' T' pl k s ginv ⟨PI_keepJ hS hP gfw pj_MW hx', hp, HT_turn hp hS hT mt_MW gfw hsm, HN_turn hp hS hT hNm mn_MW gfw hsm, v40, fr_F0 hp hS1 gf2 fk_MZ hA1.1, hA2.1⟩ hloc e5 e6 hk1 hs1
  by_cases hw38 : w = 38 ∧ (v 0 = 0 ∨ v 0 = 1)
  · obtain ⟨e38, hv01⟩ := hw38
    subst e38
    obtain ⟨v38, pX, pM⟩ := c38_FM h hP hp hT hNm (a1 := v 0) hv01 (by rcases hv01 with e | e <;> rw [e] <;> exact ⟨by decide, by decide⟩)
    obtain ⟨m89, hno⟩ := rv_and xlMY_no
    obtain ⟨m90, hno⟩ := rv_and hno
    obtain ⟨m91, hno⟩ := rv_and hno
    obtain ⟨m94, m95⟩ := rv_and hno
    have hK1 : xlRB xlCU xlMY xlLU (40, lwAl, [.inl (0, 0, ((38 : Nat) : Int))], lwAh, (0, xlMY, []) :: lwFs, (lwN5 ++ [], lwC), 0, 0) _ _ = true := xlKB_38
    have hK2 : xlR xlMZ xlLV (1285 + 5 + 6 * 1, lwAl, [], lwAh2, (0, xlMZ, []) :: lwFs, (lwN5, lwC), 0, 0) _ _ = true := xlKB_138
    refine lw_half5 mS mI msp hM hpt tkP_38 (Or.inr (Or.inl rfl)) (w := 38) sw_38 (by omega) (by omega) lw_f1296 hK1 lwTokU_all hK2 lwTokV_all hr (by rw [← hv0]; omega) h hP.1 hl hb5 hb6 hsc hi hi2 hk hs (v := v) (fun k hk => hvs k (by omega)) hw (A1 := fun aw1 => FB 0 11 14 v38 aw1 ∧ SameT t0 aw aw1) (A2 := fun aw1 aw2 => FB 109 12 15 v38 aw2 ∧ SameT t0 aw aw2) ?_ ?_ ?_
    · intro x0 hx0 _
      rw [x0e x0 hx0]
      exact PCM_and (pX 0 (by rw [hp]; rfl)) (sm_mv (j := 303) (by decide) hF (SameT_refl hF) _)
    · intro x29 r3 T1 aw1 hx29 g1 gf hx1 hA1 _
      rw [x29e x29 hx29]
      exact PCM_and (pM T1 aw1 xlMY (gS_inv5 g1) hx1 gf m89 m90 m91 m94 m95 109 (by rw [hp]; rfl)) (sm_neutral (j := 90) (by decide) hA1.2 _)
    · intro c1 c2 c3 c5 c6 aw1 aw' r3 r' T1 T' k s g1 gf hx1 hA1 ginv gf2 hx' hA2 hloc e5 e6 hk1 hs1
      have hS1 := gS_inv5 g1
      have gfw := lwFr_trans (lwFr_mono xlMY_sub gf) (lwFr_mono xlMZ_sub gf2)
      have hsm : ∀ t1, HF t1 aw → SameT t1 aw aw' := fun t1 h1 => by
        have e := hf_one hF h1
        subst e
        exact hA2.2
      exact hN c1 c2 c3 c5 c6 aw' r' T' pl k s ginv ⟨PI_keepJ hS hP gfw pj_MW hx', hp, HT_turn hp hS hT mt_MW gfw hsm, HN_turn hp hS hT hNm mn_MW gfw hsm, v38, fr_F0 hp hS1 gf2 fk_MZ hA1.1, hA2.1⟩ hloc e5 e6 hk1 hs1
  by_cases hw2 : w = 2
  · subst hw2
    obtain ⟨g, kL, r0, hg, hr0, pX⟩ := cX_town2 h hP hp hT hNm
    obtain ⟨m94, m109⟩ := rv_and no2_M2
    obtain ⟨k8, k109⟩ := rv_and no2_M3
    obtain ⟨m89, hno⟩ := rv_and no_M2
    obtain ⟨m90, hno⟩ := rv_and hno
    obtain ⟨m95, hno⟩ := rv_and hno
    obtain ⟨m91, m108⟩ := rv_and hno
    obtain ⟨k7, hno⟩ := rv_and no_M3
    obtain ⟨k9, hno⟩ := rv_and hno
    obtain ⟨k10, k108⟩ := rv_and hno
    have hK1 : xlRB xlCB xlM2 xlLB (40, lwAl, [.inl (0, 0, ((2 : Nat) : Int))], lwAh, (0, xlM2, []) :: lwFs, (lwN ++ [], lwC), 0, 0) _ _ = true := xlKB_2
    have hK2 : xlR xlM3 xlLD (334 + 5 + 6 * 0, lwAl, [], lwAh2, (0, xlM3, []) :: lwFs, (lwN, lwC), 0, 0) _ _ = true := xlKB_102
    refine lw_half mS mI msp hM hpt tkP_2 (Or.inl rfl) (w := 2) sw_2 (by omega) (by omega) lw_f339 rfl hK1 lwTokB_all hK2 lwTokD_all hr h hP.1 hl hb5 hb6 hsc hi hi2 hk hs (v := v) (fun k hk => absurd hk (by omega)) hw (A1 := fun aw1 => (DA aw r0 aw1 ∧ DN aw r0 aw1) ∧ FB 0 11 14 (r0.2.1 4 13) aw1) (A2 := fun aw1 aw2 => ((cMs r0 aw1 aw2 ∧ cMn r0 aw1 aw2) ∧ Fr aw1 aw2 ∧ Fw aw1 aw2) ∧ FB 109 12 15 (r0.2.1 4 13) aw2) ?_ ?_ ?_
    · intro x0 hx0 _
      rw [x0e x0 hx0]
      exact PCM_and pX (c2_FX h hP hp hT hg hr0)
    · intro x29 r3 T1 aw1 hx29 g1 gf hx1 hA1 _
      rw [x29e x29 hx29]
      refine PCM_and ?_ (cM_fault h hP hp hg hr0 T1 aw1 xlM2 (gS_invA lw_rg2 g1) hx1 gf m89 m90 m95)
      exact PCM_and (PCM_and (cM_town h hP hp hg hr0 T1 aw1 xlM2 (gS_invA lw_rg2 g1) hx1 gf m89 m90 m95) (cM_names h hP hp hg hr0 T1 aw1 xlM2 (gS_invA lw_rg2 g1) hx1 gf m89 m90 m95)) (PCM_and (sp_neutral (j := 24) (by decide) _ _) (sp_kinds 24 _ _))
    · intro c1 c2 c3 c5 c6 aw1 aw' r3 r' T1 T' k s g1 gf hx1 hA1 ginv gf2 hx' hA2 hloc e5 e6 hk1 hs1
      have hS1 := gS_invA lw_rg2 g1
      exact hN c1 c2 c3 c5 c6 aw' r' T' pl k s ginv ⟨PI_keepJ hS1 (PI_keepJ hS hP gf pj_M2 hx1) gf2 pj_M3 hx', hp, HT_district hp hS hS1 gf gf2 m91 m108 k7 k9 k10 k108 hA1.1.1 hA2.1.2.1 hA2.1.2.2 hA2.1.1.1, HN_district hp hS hS1 gf gf2 m91 m94 m108 m109 k8 k108 k109 hA1.1.1 hA1.1.2 hA2.1.2.1 hA2.1.2.2 hA2.1.1.1 hA2.1.1.2, _, fr_F0 hp hS1 gf2 fk_M3 hA1.2, hA2.2⟩ hloc e5 e6 hk1 hs1
  by_cases hw28 : w = 28
  · subst hw28
    have hK1 : xlRB xlCE xlM xlLE (40, lwAl, [.inl (0, 0, ((28 : Nat) : Int))], lwAh, (0, xlM, []) :: lwFs, (lwN ++ [], lwC), 0, 0) _ _ = true := xlKB_28
    have hK2 : xlR xlMS xlLF (1011 + 5 + 6 * 3, lwAl, [], lwAh, (0, xlMS, []) :: lwFs, (lwN, lwC), 0, 0) _ _ = true := xlKB_128
    refine lw_half mS mI msp hM hpt tkP_28 (Or.inr (Or.inr (Or.inr (Or.inl rfl)))) (w := 28) sw_28 (by omega) (by omega) lw_f1034 rfl hK1 lwTokE_all hK2 lwTokF_all hr h hP.1 hl hb5 hb6 hsc hi hi2 hk hs (v := v) (fun k hk => hvs k (by omega)) hw (A1 := fun aw1 => Fr aw aw1 ∧ Fw aw aw1) (A2 := fun aw1 aw2 => Fr aw1 aw2 ∧ Fw aw1 aw2 ∧ ∀ i, ghI aw2 111 i = ghI aw1 111 i) ?_ ?_ ?_
    · intro x0 hx0 _
      exact PCM_and (sp_neutral (j := 288) (by decide) _ _) (sp_kinds 288 _ _)
    · intro x29 r3 T1 aw1 hx29 g1 gf hx1 hA1 _
      rw [x29e x29 hx29]
      have hS1 : gS T1 pl aw1 := gS_invA gh_rg g1
      obtain ⟨fs, m1, m2, m3⟩ := MC20_T hp hS1
      exact PCM_and (sp_neutral (j := 290) (by decide) _ _) (PCM_and (sp_kinds 290 _ _) (sp_sparedM hx1 m1 m2 m3 (by decide) (by decide) (row111 hp hS1) (v 0) (v 1) (v 2)))
    · intro c1 c2 c3 c5 c6 aw1 aw' r3 r' T1 T' k s g1 gf hx1 hA1 ginv gf2 hx' hA2 hloc e5 e6 hk1 hs1
      have hS1 : gS T1 pl aw1 := gS_invA gh_rg g1
      exact hN c1 c2 c3 c5 c6 aw' r' T' pl k s ginv ⟨PI_keepJ hS1 (PI_keepJ hS hP gf pj_M hx1) gf2 pj_MS hx', hp, HT_spared hp hS hT gf hS1 hA1.1 hA1.2 gf2 hA2.1 hA2.2.1 hA2.2.2, HN_spared hp hS hT hNm gf hS1 hA1.1 hA1.2 gf2 hA2.1 hA2.2.1 hA2.2.2, HFk_turn hp hS1 gf2 fk_MS (HFk_turn hp hS gf fk_M hFk)⟩ hloc e5 e6 hk1 hs1
  by_cases hw43 : w = 43
  · subst hw43
    obtain ⟨m110, msub⟩ := rv_and no_MX
    obtain ⟨k8, k109⟩ := rv_and no2_MR
    obtain ⟨z94, z109⟩ := rv_and no2_MX
    obtain ⟨k7, hno⟩ := rv_and no_MR
    obtain ⟨k9, hno⟩ := rv_and hno
    obtain ⟨k10, k108⟩ := rv_and hno
    have hK1 : xlRB xlCJ xlMX xlLJ (40, lwAl, [.inl (0, 0, ((43 : Nat) : Int))], lwAh, (0, xlMX, []) :: lwFs, (lwN ++ [], lwC), 0, 0) _ _ = true := xlKB_43
    have hK2 : xlR xlMR xlLQ (1398 + 5 + 6 * 1, lwAl, [], lwAh, (0, xlMR, []) :: lwFs, (lwN, lwC), 0, 0) _ _ = true := xlKB_143
    refine lw_half mS mI msp hM hpt tkP_43 (Or.inr (Or.inl rfl)) (w := 43) sw_43 (by omega) (by omega) lw_f1409 rfl hK1 lwTokJ_all hK2 lwTokQ_all hr h hP.1 hl hb5 hb6 hsc hi hi2 hk hs (v := v) (fun k hk => hvs k (by omega)) hw (A1 := fun aw1 => rXs (v 0) aw aw1 ∧ Fw aw aw1) (A2 := fun aw1 aw2 => (rMs (v 0) aw1 aw2 ∧ rMn (v 0) aw1 aw2) ∧ Fr aw1 aw2 ∧ Fw aw1 aw2) ?_ ?_ ?_
    · intro x0 hx0 _
      rw [x0e x0 hx0]
      exact PCM_and (rX_ok hP.1 hF (v 0)) (sp_kinds 311 _ _)
    · intro x29 r3 T1 aw1 hx29 g1 gf hx1 hA1 _
      rw [x29e x29 hx29]
      have hS1 : gS T1 pl aw1 := gS_invA gh_rg g1
      obtain ⟨fs, hmc, hmn⟩ := MN_T hp hS1
      exact PCM_and (PCM_and (sp_restoreM hx1 hmc (row128 hp hS1) (row111 hp hS1) (row130 hp hS1) (v 0)) (sp_restoreN hx1 hmc (row128 hp hS1) (row111 hp hS1) hmn (row_T3 hS1 (pl_114 hp hS1).1 ⟨_, rfl⟩) (row_T3 hS1 (pl_114 hp hS1).2 ⟨_, rfl⟩) (row130 hp hS1) (v 0))) (PCM_and (sp_neutral (j := 128) (by decide) _ _) (sp_kinds 128 _ _))
    · intro c1 c2 c3 c5 c6 aw1 aw' r3 r' T1 T' k s g1 gf hx1 hA1 ginv gf2 hx' hA2 hloc e5 e6 hk1 hs1
      have hS1 : gS T1 pl aw1 := gS_invA gh_rg g1
      have gfw := lwFr_trans (lwFr_mono msub gf) gf2
      have hfl : ∀ n, n < 2 → ghI aw1 130 n = ghI aw 9 n := fun n hn => by
        rw [fr_ghI hS gf (k := 50) (by omega) m110 (by rw [hp]; rfl)]
        exact flag_eq hp h n hn
      exact hN c1 c2 c3 c5 c6 aw' r' T' pl k s ginv ⟨PI_keepJ hS hP gfw pj_MR hx', hp, HT_restore hp hS hT gfw k7 k9 k10 k108 hA1.2 hfl hA1.1 hA2.2.1 hA2.2.2 hA2.1.1, HN_restore hp hS hT hNm gfw k8 k108 k109 hA1.2 hfl (fun x => fr_glT hS gf (pl_114 hp hS).2 (ghNo_ok xlMX z109)) (fun x => fr_glT hS gf (pl_114 hp hS).1 (ghNo_ok xlMX z94)) hA1.1 hA2.2.1 hA2.2.2 hA2.1.1 hA2.1.2, HFk_turn hp hS1 gf2 fk_MR (HFk_turn hp hS gf fk_MX hFk)⟩ hloc e5 e6 hk1 hs1
  have hl0 := hl
  obtain ⟨⟨x0, rfl, p0⟩, ⟨x29, rfl, p29⟩, ⟨x51, rfl, p51⟩⟩ := hl
  have ex0 := x0e x0 p0
  have ex29 := x29e x29 p29
  subst ex0; subst ex29
  have hex : exO (40, [.inr (5, 0), .inr (2, 0), .inr (2, 109), .inr (2, x51), .inl (i, i), b5, b6], [.inl ((w : Int), (w : Int))], aw, kc, ks) := ⟨exL_al hi32 hb5 hb6, exL_c hw32 (fun v hv => by cases hv), hP.1⟩
  have h56 : ∀ {c1 c2 c3 c5 c6 : rvV}, exL [.inr (5, 0), c1, c2, c3, .inl (i, i), c5, c6] → exV c5 ∧ exV c6 := fun hx => ⟨hx _ (by simp), hx _ (by simp)⟩
  by_cases hw0 : w = 0
  · subst hw0
    obtain ⟨A1, A2, q1, q2, q3⟩ := c0_XM h hP v
    have hM4 := mach_P (x51 := x51) (b5 := b5) (b6 := b6) (x0 := 0) (x29 := 109) (aw := aw) mS mI msp mP mL mE hM hL hpt tkP_0 (Or.inr (Or.inr (Or.inr (Or.inr rfl)))) sw_0 (by omega) (Or.inl (by omega)) hi hi2 hvs (A1 := fun a => A1 a ∧ SameT t0 aw a) (A2 := fun a => A2 a ∧ SameT t0 aw a) (fun q _ => PCM_and (q1 0 p0 q) (sm_neutral (j := 229) (by decide) (SameT_refl hF) _)) (fun aw1 hA q _ => PCM_and (q2 109 p29 aw1 hA.1 q) (sm_neutral (j := 231) (by decide) hA.2 _))
    refine lw_turn lw_all lw_rows lw_m9 lw_inf hcX hconX hM4 hr h hl0 hsc hi hi2 hw hk hs (by omega) (by omega) (by omega) (by omega) (fun e => absurd e (by omega)) (fun c1 c2 c3 c5 c6 aw' r' T' pl' k s g1 gf g2 g3 g4 hex2 hR => ?_) hex ⟨rfl, Or.inl ⟨rfl, rfl, rfl⟩⟩
    obtain ⟨hA, hsm⟩ := trkP_end (by omega) hR
    obtain ⟨e5, e6⟩ := h56 hex2.1
    have gf : lwFr xlMA T pl aw T' pl' aw' := gf
    have epl := gf.2.1
    subst epl
    obtain ⟨n1, n2⟩ := rv_and no_MA
    exact hN c1 c2 c3 c5 c6 aw' r' T' _ k s g1 ⟨⟨hex2.2.2, pW_keep hS gf (k := 6) (by omega) n1 hP.2.1, pW_keep hS gf (k := 35) (by omega) n2 hP.2.2.1, q3 aw' T' (gS_inv g1) hA⟩, hp, HT_turn hp hS hT mt_MA gf (fun t1 h1 => by
      have e := hf_one hF h1
      subst e
      exact hsm), HN_turn hp hS hT hNm mn_MA gf (fun t1 h1 => by
      have e := hf_one hF h1
      subst e
      exact hsm), HFk_turn hp hS gf fk_MA hFk⟩ g2 e5 e6 g3 g4
  by_cases hw42 : w = 42
  · subst hw42
    obtain ⟨fs0, hmc, hmn⟩ := MN_T hp hS
    obtain ⟨k8, k94⟩ := rv_and no2_MI
    have hM4 := mach_P (x51 := x51) (b5 := b5) (b6 := b6) (x0 := 0) (x29 := 109) (aw := aw) mS mI msp mP mL mE hM hL hpt tkP_42 (Or.inr (Or.inl rfl)) sw_42 (by omega) (Or.inr (by omega)) hi hi2 (fun k hk => hvs k (by omega)) (A1 := fun a => iXs (v 0) aw a ∧ Fw aw a ∧ K12 aw a ∧ K3 aw a) (A2 := fun a => ∃ aw1, (iXs (v 0) aw aw1 ∧ Fw aw aw1 ∧ K3 aw aw1) ∧ (iMs (v 0) aw1 a ∧ iMn (v 0) aw1 a) ∧ Fr aw1 a ∧ Fw aw1 a) (fun q _ => PCM_and (iX_ok hF (v 0)) (PCM_and (sp_kinds 310 _ _) (PCM_and (sp_k12 (j := 310) (by decide) _ _) (sp_k3 (j := 310) (by decide) _ _)))) (fun aw1 hA q hx1 => PCM_mono (fun res hres => ⟨aw1, ⟨hA.1, hA.2.1, hA.2.2.2⟩, hres⟩) (PCM_and (PCM_and (sp_imageM hx1 (fs := fs0) ⟨hA.2.2.1 _ _ hmc.1, hmc.2⟩ (row_Fw hA.2.1 (row128 hp hS)) (row_Fw hA.2.1 (row111 hp hS)) (v 0)) (sp_imageN hx1 (fs := fs0) ⟨hA.2.2.1 _ _ hmc.1, hmc.2⟩ (row_Fw hA.2.1 (row128 hp hS)) (row_Fw hA.2.1 (row111 hp hS)) hmn (row_K3 hA.2.2.2 (row_T3 hS (pl_114 hp hS).1 ⟨_, rfl⟩)) (row_K3 hA.2.2.2 (row_T3 hS (pl_114 hp hS).2 ⟨_, rfl⟩)) (v 0))) (PCM_and (sp_neutral (j := 127) (by decide) _ _) (sp_kinds 127 _ _))))
    refine lw_turn lw_all lw_rows lw_m9 lw_inf hcX hconX hM4 hr h hl0 hsc hi hi2 hw hk hs (by omega) (by omega) (by omega) (by omega) (fun e => absurd e (by omega)) (fun c1 c2 c3 c5 c6 aw' r' T' pl' k s g1 gf g2 g3 g4 hex2 hR => ?_) hex ⟨rfl, Or.inl ⟨rfl, rfl, rfl⟩⟩
    obtain ⟨aw1, ⟨hiX, hW1, hK3⟩, ⟨hiM, hiN⟩, hF2, hW2⟩ := trkP_end (by omega) hR
    obtain ⟨e5, e6⟩ := h56 hex2.1
    have gf : lwFr xlMI T pl aw T' pl' aw' := gf
    have epl := gf.2.1
    subst epl
    obtain ⟨k7, hno⟩ := rv_and no_MI
    obtain ⟨k9, hno⟩ := rv_and hno
    obtain ⟨k10, k91⟩ := rv_and hno
    exact hN c1 c2 c3 c5 c6 aw' r' T' _ k s g1 ⟨PI_keepJ hS hP gf pj_MI hex2.2.2, hp, HT_image hp hS hT gf k7 k9 k10 k91 hW1 hiX hF2 hW2 hiM, HN_image hp hS hT hNm gf k8 k94 k91 hW1 hiX hK3 hF2 hW2 hiM hiN, HFk_turn hp hS gf fk_MI hFk⟩ g2 e5 e6 g3 g4
  by_cases h38 : w = 38
  · subst h38
    have hv01 : ¬ v 0 = 0 ∧ ¬ v 0 = 1 := ⟨fun q => hw38 ⟨rfl, Or.inl q⟩, fun q => hw38 ⟨rfl, Or.inr q⟩⟩
    obtain ⟨vf, f1, f2⟩ := hFk
    have hM4 := mach_P (x51 := x51) (b5 := b5) (b6 := b6) (x0 := 0) (x29 := 109) (aw := aw) mS mI msp mP mL mE hM hL hpt tkP_38 (Or.inr (Or.inl rfl)) sw_38 (by omega) (Or.inr (by omega)) hi hi2 (fun k hk => hvs k (by omega)) (A1 := fun a => a = aw) (A2 := fun a => (FB 0 11 14 vf a ∧ FB 109 12 15 vf a) ∧ SameT t0 aw a) (fun q _ => sp_bookXn hv01.1 hv01.2) (fun aw1 hA q hx1 => by
      subst hA
      exact PCM_and (sp_bookMn hv01.1 hv01.2 f1 f2) (sm_neutral (j := 90) (by decide) (SameT_refl hF) _))
    refine lw_turn lw_all lw_rows lw_m9 lw_inf hcX hconX hM4 hr h hl0 hsc hi hi2 hw hk hs (by omega) (by omega) (by omega) (by omega) (fun e => absurd e (by omega)) (fun c1 c2 c3 c5 c6 aw' r' T' pl' k s g1 gf g2 g3 g4 hex2 hR => ?_) hex ⟨rfl, Or.inl ⟨rfl, rfl, rfl⟩⟩
    obtain ⟨⟨b1', b2'⟩, hsm⟩ := trkP_end (by omega) hR
    obtain ⟨e5, e6⟩ := h56 hex2.1
    have gf : lwFr xlMW T pl aw T' pl' aw' := gf
    have epl := gf.2.1
    subst epl
    have hsm' : ∀ t1, HF t1 aw → SameT t1 aw aw' := fun t1 h1 => by
      have e := hf_one hF h1
      subst e
      exact hsm
    exact hN c1 c2 c3 c5 c6 aw' r' T' _ k s g1 ⟨PI_keepJ hS hP gf pj_MW hex2.2.2, hp, HT_turn hp hS hT mt_MW gf hsm', HN_turn hp hS hT hNm mn_MW gf hsm', vf, b1', b2'⟩ g2 e5 e6 g3 g4
  have keep : ∀ (c1 c2 c3 c5 c6 : rvV) (aw' : rvH) (r' : List Int) (T' pl' : List Nat) (k s : Nat), lwInv r' T' pl' aw' → lwFr (lwMs w) T pl aw T' pl' aw' → lwLoc pl' c1 c2 c3 → k ≤ 40 → s ≤ 800 → exO (1448, [.inr (5, 0), c1, c2, c3, .inl (i, i), c5, c6], [], aw', kc + k, ks + s) → SameT t0 aw aw' → RG (1448, [.inr (5, 0), c1, c2, c3, .inl (i, i), c5, c6], [], aw', kc + k, ks + s) := by
    intro c1 c2 c3 c5 c6 aw' r' T' pl' k s g1 gf g2 g3 g4 hex2 hsm
    obtain ⟨e5, e6⟩ := h56 hex2.1
    rw [lwMs_M hw0 hw42 h38] at gf
    have epl := gf.2.1
    subst epl
    exact hN c1 c2 c3 c5 c6 aw' r' T' _ k s g1 ⟨PI_keepJ hS hP gf pj_M hex2.2.2, hp, HT_turn hp hS hT mt_M gf (fun t1 h1 => by
      have e := hf_one hF h1
      subst e
      exact hsm), HN_turn hp hS hT hNm mn_M gf (fun t1 h1 => by
      have e := hf_one hF h1
      subst e
      exact hsm), HFk_turn hp hS gf fk_M hFk⟩ g2 e5 e6 g3 g4
  by_cases hw3 : w = 3
  · subst hw3
    obtain ⟨vf, f1, f2⟩ := hFk
    have hM4 := mach_Q (x51 := x51) (b5 := b5) (b6 := b6) (x0 := 0) (x29 := 109) (aw := aw) mS mI msp mP mL mE hM hL hpt tkQ_3 (Or.inl rfl) sw_3 (by omega) (Or.inl (by omega)) hi hi2 (v := v) (fun k hk => absurd hk (by omega)) (A2 := fun a => SameT t0 aw a) (sp_faultX hP.1 f1) (PCM_and (sp_faultM hP.1 f2) (sm_neutral (j := 238) (by decide) (SameT_refl hF) _))
    refine lw_turn lw_all lw_rows lw_m9 lw_inf hcX hconX hM4 hr h hl0 hsc hi hi2 hw hk hs (by omega) (by omega) (by omega) (by omega) (fun _ al st aw' kc' ks' _ hb => ?_) (fun c1 c2 c3 c5 c6 aw' r' T' pl' k s g1 gf g2 g3 g4 hex2 hR => ?_) hex ⟨rfl, Or.inl ⟨rfl, rfl, rfl⟩⟩
    · have := trkQ_not hb
      omega
    · refine keep c1 c2 c3 c5 c6 aw' r' T' pl' k s g1 gf g2 g3 g4 hex2 ?_
      rcases trkQ_not hR with q | ⟨-, q⟩ | ⟨-, q⟩
      · omega
      · exact q
      · omega
  obtain ⟨e, hA, hsw⟩ := sw_any w hw hw0 hw2 hw28 hw42 hw43 hw3 hw40 h38
  have hM4 := mach_G mS mI msp mP mL mE hM hL hpt hF hA hsw
  refine lw_turn lw_all lw_rows lw_m9 lw_inf hcX hconX hM4 hr h hl0 hsc hi hi2 hw hk hs hw2 hw28 hw43 hw40 (fun e => absurd e hw3) (fun c1 c2 c3 c5 c6 aw' r' T' pl' k s g1 gf g2 g3 g4 hex2 hR => ?_) hex (Or.inl ⟨rfl, rfl, rfl⟩)
  refine keep c1 c2 c3 c5 c6 aw' r' T' pl' k s g1 gf g2 g3 g4 hex2 ?_
  rcases hR with ⟨q, -⟩ | ⟨-, q⟩
  · have q : (1448 : Nat) = 40 := q
    exact absurd q (by decide)
  · exact q
end T5
