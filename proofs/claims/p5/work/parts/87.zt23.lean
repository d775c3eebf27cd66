/-! The class's half of district, from the head (by hand). -/
theorem PCM_list {j : Nat} {as : List rvV} {aw : rvH} {Q : Nat → xRes2 → Prop} : ∀ (ys : List Nat), (∀ y ∈ ys, PCM rvTab rvInf rvRet 316 rvMth j as aw (Q y)) → PCM rvTab rvInf rvRet 316 rvMth j as aw (fun res => ∀ y ∈ ys, Q y res)
  | [], _ => fun P hP => EvM_mono (fun res hr => ⟨hr, fun y hy => by cases hy⟩) hP
  | y :: ys, h => PCM_mono (fun res hr z hz => by
      rcases List.mem_cons.mp hz with e | hz
      · rw [e]; exact hr.1
      · exact hr.2 z hz) (PCM_and (h y List.mem_cons_self) (PCM_list ys (fun z hz => h z (List.mem_cons_of_mem _ hz))))
theorem hR_V {aw : rvH} {i j k : Nat} {v : rvV} (h : hR aw i j k) (hv : hV aw i j v) : v = rf k := by
  obtain ⟨c, e1, e2⟩ := h
  obtain ⟨c', e3, -, e4⟩ := hv
  rw [e1] at e3
  have e3 := Option.some.inj e3
  subst e3
  rw [e2] at e4
  exact (Option.some.inj e4).symm
theorem hR_T {T pl : List Nat} {aw : rvH} (h : gS T pl aw) {i g j q k : Nat} (hi : T[i]? = some g) (ht : xTyp xRgn g j = some (.inr (20, q))) (hv : hR aw i j k) : T[k]? = some q := by
  obtain ⟨c, e1, e2⟩ := gh_at h hi
  obtain ⟨x, x1, c', x2, x3⟩ := gh_r20 (j := j) e1 e2 ht
  obtain ⟨c'', y1, y3⟩ := hv
  rw [x2] at y1
  have y1 := Option.some.inj y1
  subst y1
  rw [x3] at y3
  have : x = k := (Prod.mk.inj (Sum.inr.inj (Option.some.inj y3))).2
  subst this
  exact x1
theorem rf_inj {a b : Nat} (h : rf a = rf b) : a = b := (Prod.mk.inj (Sum.inr.inj h)).2
/-- the names of the cells that matter here -/
theorem g_at {r : List Int} {T pl : List Nat} {aw : rvH} {g : Nat → Nat} {kL : Nat} {t0 : Nat} (hS : gS T pl aw) (hp : pl = rzPl) (hF : HF t0 aw) (hg : GHOK T pl aw g kL) : g 0 = 0 ∧ g 13 = 11 ∧ g 52 = 41 ∧ g kL = 35 ∧ g 4 = 1 ∧ g 31 = 111 := by
  have hpk : ∀ k x, k < 52 → rzPl[k]? = some x → g k = x := fun k x hk e => by
    have := hg.hp k hk
    rw [hp, e] at this
    exact (Option.some.inj this).symm
  have g0 := hpk 0 0 (by omega) rfl
  refine ⟨g0, hpk 13 11 (by omega) rfl, ?_, ?_, hpk 4 1 (by omega) rfl, hpk 31 111 (by omega) rfl⟩
  · have hr := hg.hr (0, 2, 52) (by decide)
    unfold hK at hr
    rw [if_neg (by decide)] at hr
    dsimp only at hr
    rw [g0] at hr
    exact (rf_inj (hR_V hr (hF.1 (0, 2, 41) (by decide)))).symm
  · have hr := hg.hL
    unfold hK at hr
    rw [if_neg (by decide), g0] at hr
    exact (rf_inj (hR_V hr (hF.1 (0, 1, 35) (by decide)))).symm
theorem g_row {r : List Int} {T pl : List Nat} {aw : rvH} {g : Nat → Nat} {kL y q : Nat} {t0 : Nat} (hS : gS T pl aw) (hp : pl = rzPl) (hF : HF t0 aw) (hg : GHOK T pl aw g kL) (hy : T[y]? = some q) (hq : q = 7 ∨ q = 9 ∨ q = 10) : ∀ n, ndB kL n → g n ≠ y := by
  obtain ⟨g0, g13, g52, gL, g4, g31⟩ := g_at (r := r) hS hp hF hg
  have t35 := (HF_T hp hS hF).1
  have st : ∀ k, k < 52 → T[g k]? = some (60 + k) := fun k hk => by
    obtain ⟨i, c, a1, a2, -⟩ := gh_st hS hk
    have := hg.hp k hk
    rw [a1] at this
    rw [← Option.some.inj this]
    exact a2
  have t41 : T[41]? = some 0 := by
    obtain ⟨i, c, a1, a2, a3, a4⟩ := gh_st hS (k := 0) (by omega)
    have e0 : (0 : Nat) = i := by
      rw [hp] at a1
      exact Option.some.inj a1
    subst e0
    exact hV_T hS a2 rfl (hF.1 (0, 2, 41) (by decide))
  have r5 : ∀ m j q', (52, j, m) ∈ ghR0 → ¬ j = 1000 → xTyp xRgn 0 j = some (.inr (20, q')) → T[g m]? = some q' := by
    intro m j q' hm hj ht
    have hr := hg.hr _ hm
    unfold hK at hr
    dsimp only at hr
    rw [if_neg hj, g52] at hr
    exact hR_T hS t41 ht hr
  have hlen := gh_len hS
  intro n hn e
  have hc : ∀ q', T[g n]? = some q' → q' = q := fun q' h => by
    rw [e, hy] at h
    exact (Option.some.inj h).symm
  rcases hn with h | h | h | h | h | h | h
  · have := hc _ (st n (by omega)); omega
  · have := hc _ (st n (by omega)); omega
  · have := hc _ (st n (by omega)); omega
  · have := hc _ (st n (by omega)); omega
  · have : n = 52 ∨ n = 53 ∨ n = 54 ∨ n = 55 ∨ n = 56 ∨ n = 57 := by omega
    rcases this with rfl | rfl | rfl | rfl | rfl | rfl
    · have := hc 0 (by rw [g52]; exact t41); omega
    · have := hc 1 (r5 53 6 1 (by decide) (by decide) rfl); omega
    · have := hc 2 (r5 54 7 2 (by decide) (by decide) rfl); omega
    · have := hc 3 (r5 55 8 3 (by decide) (by decide) rfl); omega
    · have := hc 4 (r5 56 9 4 (by decide) (by decide) rfl); omega
    · have := hc 5 (r5 57 10 5 (by decide) (by decide) rfl); omega
  · have := hc 0 (by rw [h, gL]; exact t35); omega
  · have h1 := hg.hn n h
    have h2 : y < T.length := (List.getElem?_eq_some_iff.mp hy).1
    omega
