/-! Both answers at the loop's head (by hand). -/
theorem MC_T {T pl : List Nat} {aw : rvH} (hp : pl = rzPl) (h : gS T pl aw) : ∃ fs, MC aw fs := by
  subst hp
  obtain ⟨i, c, a1, a2, a3, a4⟩ := gh_st h (k := 29) (by omega)
  have e : (109 : Nat) = i := Option.some.inj a1
  subst e
  obtain ⟨x, x1, c1, x2, x3⟩ := gh_r2 (j := 6) (m := 31) a3 a4 rfl
  obtain ⟨y, y1, c2, y2, y3⟩ := gh_r2 (j := 52) (m := 48) a3 a4 rfl
  obtain ⟨z, z1, c3, z2, z3⟩ := gh_r2 (j := 54) (m := 50) a3 a4 rfl
  have ex : (111 : Nat) = x := Option.some.inj x1
  have ey : (128 : Nat) = y := Option.some.inj y1
  have ez : (130 : Nat) = z := Option.some.inj z1
  subst ex; subst ey; subst ez
  rw [a3] at x2 y2 z2
  have x2 := Option.some.inj x2
  have y2 := Option.some.inj y2
  have z2 := Option.some.inj z2
  subst x2; subst y2; subst z2
  rcases c with ⟨ci, fs⟩ | ⟨k', n', d, ov⟩
  · have hc : (12 : Nat) = ci := a4.1
    subst hc
    exact ⟨fs, a3, x3, y3, z3⟩
  · exact absurd a4 id
theorem row_T {T pl : List Nat} {aw : rvH} (h : gS T pl aw) {y g n : Nat} (hy : T[y]? = some g) (hg : ∃ sg q, xRgn g = .inr (0, n, q, sg)) : ∃ d ov, aw[y]? = some (.inr (0, n, d, ov)) := by
  obtain ⟨sg, q, hg⟩ := hg
  obtain ⟨c, e1, e2⟩ := gh_at h hy
  rw [hg] at e2
  rcases c with ⟨ci, fs⟩ | ⟨k', n', d, ov⟩
  · exact absurd e2 id
  · have hk : (0 : Nat) = k' := e2.1
    have hn : n = n' := e2.2.1
    subst hk; subst hn
    exact ⟨d, ov, e1⟩
theorem c44_XM {r : List Int} {T pl : List Nat} {aw : rvH} (h : lwInv r T pl aw) (hx : exH aw) (hp : pl = rzPl) (hT : HT aw) (k : Int) : ∃ ans : Int, PCM rvTab rvInf rvRet 316 rvMth 312 [rf 0, pt k] aw (fun res => res.1 = some (pt ans) ∧ res.2 = aw) ∧ PCM rvTab rvInf rvRet 316 rvMth 313 [rf 109, pt k] aw (fun res => res.1 = some (pt ans)) := by
  have hS := gS_inv h
  obtain ⟨N, n1, n2, n3⟩ := gh_size h
  obtain ⟨hk, t0, hF, hTC, -⟩ := hT
  obtain ⟨fs, hM⟩ := MC_T hp hS
  obtain ⟨d, ov, hs⟩ := row_T hS (pl_111 hp hS).1 ⟨_, _, rfl⟩
  obtain ⟨-, c, m, x, v0, v2, v3, t1, t2, t3⟩ := hTC
  obtain ⟨dc, oc, hc⟩ := row_T hS ((town_T hp hS hF (Or.inl rfl) hF.2.2.2.2.1 v0).1 rfl) ⟨_, _, rfl⟩
  refine ⟨cA (ghI aw 111) (N : Int) k, sp_countX hx hF.1 hF.2.2.2.2.1 v0 hc t1 (n2 1 (by rw [hp]; rfl)) k, sp_countM hx hM hs (n3 109 (by rw [hp]; rfl)) k⟩
theorem c5_XM {r : List Int} {T pl : List Nat} {aw : rvH} (h : lwInv r T pl aw) (hx : exH aw) (hp : pl = rzPl) (hT : HT aw) (k q : Int) : ∃ ans : Int, PCM rvTab rvInf rvRet 316 rvMth 239 [rf 0, pt k, pt q] aw (fun res => res.1 = some (pt ans) ∧ res.2 = aw) ∧ PCM rvTab rvInf rvRet 316 rvMth 240 [rf 109, pt k, pt q] aw (fun res => res.1 = some (pt ans)) := by
  have hS := gS_inv h
  obtain ⟨hk, t0, hF, hTC, -⟩ := hT
  obtain ⟨fs, hM⟩ := MC_T hp hS
  obtain ⟨d, ov, hs⟩ := row_T hS (pl_111 hp hS).1 ⟨_, _, rfl⟩
  obtain ⟨-, c, m, x, v0, v2, v3, t1, t2, t3⟩ := hTC
  obtain ⟨w0, w2, w3⟩ : (T[c]? = some 7) ∧ (T[m]? = some 9) ∧ (T[x]? = some 10) := ⟨(town_T hp hS hF (Or.inl rfl) hF.2.2.2.2.1 v0).1 rfl, (town_T hp hS hF (Or.inl rfl) hF.2.2.2.2.1 v2).2.1 rfl, (town_T hp hS hF (Or.inl rfl) hF.2.2.2.2.1 v3).2.2 rfl⟩
  obtain ⟨dc, oc, hc⟩ := row_T hS w0 ⟨_, _, rfl⟩
  obtain ⟨dm, om, hm⟩ := row_T hS w2 ⟨_, _, rfl⟩
  obtain ⟨dx, ox, hxx⟩ := row_T hS w3 ⟨_, _, rfl⟩
  have bnd : ∀ j (a : Int × Int), j < 296 → xAt [] j = xAt [] j → (∀ c, xCell T pl (xRgn 91) c → aw[111]? = some c → True) → True := fun _ _ _ _ _ => trivial
  have b : (0 ≤ ghI aw 111 2 ∧ ghI aw 111 2 ≤ 10) ∧ (0 ≤ ghI aw 111 3 ∧ ghI aw 111 3 ≤ 3) := by
    obtain ⟨c', e1, e2⟩ := gh_at hS (pl_111 hp hS).1
    rw [hs] at e1
    have e1 := Option.some.inj e1
    subst e1
    obtain ⟨-, -, e3⟩ := e2
    obtain ⟨z2, p1, p2, -, p3⟩ : ∃ z : Int, (0 : Int) ≤ z ∧ z ≤ 10 ∧ xIn32 z ∧ rvLook d ov 2 = .inl (z, z) := e3 2 (by decide)
    obtain ⟨z3, s1, s2, -, s3⟩ : ∃ z : Int, (0 : Int) ≤ z ∧ z ≤ 3 ∧ xIn32 z ∧ rvLook d ov 3 = .inl (z, z) := e3 3 (by decide)
    have f2 := row_look hx (by omega) hs (by omega : 2 < 296)
    have f3 := row_look hx (by omega) hs (by omega : 3 < 296)
    rw [p3] at f2
    rw [s3] at f3
    have g2 : z2 = ghI aw 111 2 := (Prod.mk.inj (Sum.inl.inj f2)).1
    have g3 : z3 = ghI aw 111 3 := (Prod.mk.inj (Sum.inl.inj f3)).1
    rw [← g2, ← g3]
    exact ⟨⟨p1, p2⟩, s1, s2⟩
  exact ⟨bA (ghI aw 111) k q, sp_burdenX hx hF.1 hF.2.2.2.2.1 v0 v2 v3 hc hm hxx t1 t2 t3 b.1.2 b.2.2 k q, sp_burdenM hx hM hs b.1 b.2 k q⟩
