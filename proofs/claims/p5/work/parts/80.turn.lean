/-! One turn of the law's loop, by the checker's run of its case. -/
theorem lw_run {G : Nat → (xRes2 → Prop) → rvS → Prop} {Met : Nat → List rvV → rvH → (xRes2 → Prop) → Prop} (hc : xClo rvTab rvInf rvRet 317 rvMth G Met) (hcon : ∀ x, x < 243 → xCon Met (xCons x)) {ms : List Nat} {L : List xCu} {S : xS} {n t : Nat} (hK : xlR ms L S n t = true) {r : List Int} {T pl : List Nat} {aw : rvH} {o : rvS} {Post : xRes2 → Prop} (hrel : xRel xRgn (xFM (r, T, pl, aw, [])) S o) (hna : 6 ≤ r.length) (hcut : ∀ (ci : Nat) (Tm : xS) (src : List (Nat × List Nat × Int)) (rk : List xL) (r2 : List Int) (o2 : rvS), L[ci]? = some (Tm, src, rk) → xRelR r2 xRgn (xFM (r2, T, pl, aw, [])) Tm o2 → G 316 Post o2) : G 316 Post o := by
  unfold xlR at hK
  obtain ⟨Rs, tt, hrun, hR⟩ := xEnds_ok hK
  have hS := xRun_ok (mth := rvMth) (d := 2) (na := 6) (opt := xOpt) (hp := xHpt) (hn := xHnt) (cutp := xlC) (cuts := fun i => L[i]?) (ms0 := ms) (rk0 := none) hc hcon 100000 0 316 false (r, T, pl, aw, []) Post (by omega) rfl
  refine hS (fun _ => ?_) (fun a ha => by cases ha) hna S _ Rs tt hrun (fun R hm o' ho' => ?_) o hrel
  · intro ci Tm src rk r2 o2 hL _ hrel2 _
    exact hcut ci Tm src rk r2 o2 hL hrel2
  · obtain ⟨q, hq, -⟩ := hR R hm
    cases hq
def lwId : List xL := [([(0, 1)], 0), ([(1, 1)], 0), ([(2, 1)], 0), ([(3, 1)], 0), ([(4, 1)], 0), ([(5, 1)], 0), ([(6, 1)], 0), ([(7, 1)], 0), ([(8, 1)], 0), ([(9, 1)], 0), ([(10, 1)], 0), ([(11, 1)], 0), ([(12, 1)], 0)]
def lwTm : xS := (0, [], [], lwAh, lwFs, (lwN, lwC), 0, 0)
/-- what a turn may write -/
def lwFr (ms : List Nat) (T pl : List Nat) (aw : rvH) (T1 pl1 : List Nat) (aw1 : rvH) : Prop := (T.length ≤ T1.length ∧ ∀ i, i < T.length → T1[i]? = T[i]?) ∧ pl1 = pl ∧ xFrm ms T aw aw1
theorem lwFr_trans {ms T pl T1 pl1 T2 pl2 : List Nat} {aw aw1 aw2 : rvH} (h : lwFr ms T pl aw T1 pl1 aw1) (h' : lwFr ms T1 pl1 aw1 T2 pl2 aw2) : lwFr ms T pl aw T2 pl2 aw2 := by
  obtain ⟨⟨a1, a2⟩, a3, a4⟩ := h
  obtain ⟨⟨b1, b2⟩, b3, b4⟩ := h'
  refine ⟨⟨Nat.le_trans a1 b1, fun i hi => (b2 i (by omega)).trans (a2 i hi)⟩, b3.trans a3, fun i g c hT hc => ?_⟩
  obtain ⟨c1, e1, e2⟩ := a4 i g c hT hc
  have hlt : i < T.length := (List.getElem?_eq_some_iff.mp hT).1
  obtain ⟨c2, e3, e4⟩ := b4 i g c1 ((a2 i hlt).trans hT) e1
  exact ⟨c2, e3, fun j hj => (e4 j hj).trans (e2 j hj)⟩
/-- each template of a cut is the loop's, perhaps with more cells -/
noncomputable def lwTok (ms : List Nat) (q : xCu) : Bool := xFitK 2 lwId q.1 lwTm && (decide (q.1.2.1 = lwAl) && ((Nat.beq q.1.1 1448 && decide (q.1.2.2.1 = []) || Nat.beq q.1.1 374 && decide (q.1.2.2.1 = [.inr (2, 51), .inl (2, 1, 0), .inl (1, 1, 0), .inr (2, 0)])) && (Nat.ble q.1.2.2.2.2.2.2.1 8 && (Nat.ble q.1.2.2.2.2.2.2.2 165 && decide (q.1.2.2.2.2.1.head? = some (0, ms, []))))))
theorem lwTok_all : xlL.all (lwTok xlM) = true := by decide +kernel
theorem lwTok_all2 : xlL2.all (fun q => lwTok xlM q && Nat.beq q.1.1 1448) = true := by decide +kernel
theorem lwTok_allA : xlLA.all (fun q => lwTok xlMA q && Nat.beq q.1.1 1448) = true := by decide +kernel
theorem lwTok_all3 : xlL3.all (fun q => (lwTok xlM q && Nat.beq q.1.1 1448) || Nat.beq q.1.1 358) = true := by decide +kernel
theorem lwTok_allW : xlLW.all (fun q => lwTok xlMW q && Nat.beq q.1.1 1448) = true := by decide +kernel
theorem lwTok_allI : xlLI.all (fun q => lwTok xlMI q && Nat.beq q.1.1 1448) = true := by decide +kernel
theorem lwTok_allR : xlLR.all (fun q => lwTok xlMR q && Nat.beq q.1.1 1448) = true := by decide +kernel
theorem lwAh_len : lwAh.length = 52 := rfl
theorem lw_at {pl : List Nat} {k x : Nat} (hk : k < 52) (h : pl[k]? = some x) : (pl.take 52)[k]? = some x := by
  rw [List.getElem?_take, if_pos hk]
  exact h
/-- the stack of the call of person -/
def lwSt4 (pl : List Nat) (st : List rvV) : Prop := ∃ (xo xx : Nat) (w1 w2 : Int), st = [.inr (2, xo), .inl (w2, w2), .inl (w1, w1), .inr (2, xx)] ∧ pl[51]? = some xo ∧ pl[0]? = some xx ∧ xIn32 w1 ∧ xIn32 w2
/-- the locals' cells -/
def lwLoc (pl : List Nat) (b1 b2 b3 : rvV) : Prop := (∃ x, b1 = .inr (2, x) ∧ pl[0]? = some x) ∧ (∃ x, b2 = .inr (2, x) ∧ pl[29]? = some x) ∧ ∃ x, b3 = .inr (2, x) ∧ pl[51]? = some x
theorem lw_cut {Tm : xS} {src : List (Nat × List Nat × Int)} {rk : List xL} {r2 : List Int} {ms : List Nat} {P : xP} {o2 : rvS} (hpl : P.2.2.1.length = 52) (hk : lwTok ms (Tm, src, rk) = true) (hrel : xRelR r2 xRgn (xFM P) Tm o2) : ∃ (r3 : List Int) (T1 pl1 : List Nat), lwInv r3 T1 pl1 o2.2.2.2.1 ∧ lwFr ms P.2.1 P.2.2.1 P.2.2.2.1 T1 pl1 o2.2.2.2.1 ∧ (∀ (b1 b2 b3 b5 b6 : rvV) (i : Int) (vs : List rvV), o2.2.1 = .inr (5, 0) :: b1 :: b2 :: b3 :: .inl (i, i) :: b5 :: b6 :: vs → lwLoc pl1 b1 b2 b3) ∧ ((o2.1 = 1448 ∧ o2.2.2.1 = []) ∨ (o2.1 = 374 ∧ lwSt4 pl1 o2.2.2.1)) ∧ o2.2.2.2.2.1 ≤ 8 ∧ o2.2.2.2.2.2 ≤ 165 := by
  have hk : (xFitK 2 lwId Tm lwTm && (decide (Tm.2.1 = lwAl) && ((Nat.beq Tm.1 1448 && decide (Tm.2.2.1 = []) || Nat.beq Tm.1 374 && decide (Tm.2.2.1 = [.inr (2, 51), .inl (2, 1, 0), .inl (1, 1, 0), .inr (2, 0)])) && (Nat.ble Tm.2.2.2.2.2.2.1 8 && (Nat.ble Tm.2.2.2.2.2.2.2 165 && decide (Tm.2.2.2.2.1.head? = some (0, ms, []))))))) = true := hk
  obtain ⟨k1, k2⟩ := rv_and hk
  obtain ⟨k2, k3⟩ := rv_and k2
  obtain ⟨k3, k4⟩ := rv_and k3
  obtain ⟨k4, k5⟩ := rv_and k4
  obtain ⟨k5, k6⟩ := rv_and k5
  have k6 := of_decide_eq_true k6
  obtain ⟨T, pl, h1, h2, h3, h4, h5, h6, h7, h8, h9⟩ := hrel
  obtain ⟨f1, f2, f3, f4⟩ := xFitK_ok h4 h5 h6 h7 k1
  have f2 : xSt (lwId.map (xVal r2)) T (pl.take 52) lwAh o2.2.2.2.1 := f2
  have f3 : xHp xRgn T (pl.take 52) o2.2.2.2.1 := f3
  have f4 : ∀ f ∈ lwFs, f.1 ≠ 0 → ∀ P' : xP, xFM P' f (lwId.map (xVal r2)) T (pl.take 52) o2.2.2.2.1 := f4
  have hal := of_decide_eq_true k2
  rw [hal] at h2
  have hmem : ((0, ms, []) : xF) ∈ Tm.2.2.2.2.1 := List.mem_of_mem_head? (by rw [k6]; exact rfl)
  obtain ⟨-, z2, ⟨u, z3⟩, z4⟩ : (∃ t, r2 = P.1 ++ t) ∧ (P.2.1.length ≤ T.length ∧ ∀ i, i < P.2.1.length → T[i]? = P.2.1[i]?) ∧ (∃ t, pl = P.2.2.1 ++ t) ∧ xFrm ms P.2.1 P.2.2.2.1 o2.2.2.2.1 := h6 _ hmem
  have z5 : pl.take 52 = P.2.2.1 := by rw [z3, ← hpl]; simp
  refine ⟨lwId.map (xVal r2), T, pl.take 52, ⟨f2, f3, fun f hf P' => f4 f hf ?_ P', f1⟩, ⟨z2, z5, z4⟩, ?_, ?_, ?_, ?_⟩
  · have : ∀ f ∈ lwFs, f.1 ≠ 0 := by decide
    exact this f hf
  · intro b1 b2 b3 b5 b6 i vs ho
    rw [ho] at h2
    obtain ⟨-, ⟨x1, p1, e1⟩, ⟨x2, p2, e2⟩, ⟨x3, p3, e3⟩, -⟩ := h2
    exact ⟨⟨x1, e1, lw_at (by omega) p1⟩, ⟨x2, e2, lw_at (by omega) p2⟩, ⟨x3, e3, lw_at (by omega) p3⟩⟩
  · rcases rv_or' k3 with e | e
    · obtain ⟨g1, g2⟩ := rv_and e
      have g2 := of_decide_eq_true g2
      rw [g2] at h3
      refine Or.inl ⟨h1.trans (rv_beq g1), ?_⟩
      cases hs : o2.2.2.1 with
      | nil => rfl
      | cons a b => rw [hs] at h3; exact absurd h3 id
    · obtain ⟨g1, g2⟩ := rv_and e
      have g2 := of_decide_eq_true g2
      rw [g2] at h3
      refine Or.inr ⟨h1.trans (rv_beq g1), ?_⟩
      obtain ⟨c1, d1, e1, ⟨xo, p1, rfl⟩, m1⟩ := xRs_cons h3
      obtain ⟨c2, d2, rfl, q2, m2⟩ := xRs_cons m1
      obtain ⟨c3, d3, rfl, q3, m3⟩ := xRs_cons m2
      obtain ⟨c4, d4, rfl, ⟨xx, p4, rfl⟩, m4⟩ := xRs_cons m3
      obtain ⟨z2, rfl, -, i2, -⟩ := xR_pt q2
      obtain ⟨z3, rfl, -, i3, -⟩ := xR_pt q3
      cases d4 with
      | nil => exact ⟨xo, xx, z3, z2, e1, lw_at (by omega) p1, lw_at (by omega) p4, i3, i2⟩
      | cons a b => exact absurd m4 id
  · rw [h8]; exact rv_ble k4
  · rw [h9]; exact rv_ble k5
/-- the checker's state at a turn's start tells of the machine's -/
theorem lw_rel {r t : List Int} {T pl : List Nat} {aw : rvH} {i v1 v2 v3 v4 v5 : Int} {zs : List Int} {b1 b2 b3 b5 b6 : rvV} {st : List xV} {cs : List rvV} {E : xN} {pc kc ks : Nat} (hr : r = i :: v1 :: v2 :: v3 :: v4 :: v5 :: zs) (h : lwInv r T pl aw) (hl : lwLoc pl b1 b2 b3) (hst : xRs (r ++ t) T pl st cs) (hE : xQs (lwN ++ E, lwC) (r ++ t)) (ms : List Nat) :
    xRel xRgn (xFM (r ++ t, T, pl, aw, [])) (pc, lwAl, st, lwAh, (0, ms, []) :: lwFs, (lwN ++ E, lwC), kc, ks) (pc, [.inr (5, 0), b1, b2, b3, .inl (i, i), b5, b6, .inl (v1, v1), .inl (v2, v2), .inl (v3, v3), .inl (v4, v4), .inl (v5, v5)], cs, aw, kc, ks) := by
  have hlen := lw_len h
  obtain ⟨g1, g2, g3, g4⟩ := h
  obtain ⟨⟨x1, rfl, p1⟩, ⟨x2, rfl, p2⟩, ⟨x3, rfl, p3⟩⟩ := hl
  have hv : ∀ (x : Nat) (z : Int), x < 6 → r.getD x 0 = z → xIn32 z → xR (r ++ t) T pl (.inl (x, 1, 0)) (.inl (z, z)) := by
    intro x z hx hz h32
    have e : xVal (r ++ t) (xSm (x, 1, 0)) = z := by
      have : xVal (r ++ t) (xSm (x, 1, 0)) = 1 * (r ++ t).getD x 0 + 0 + 0 := rfl
      rw [this, List.getD_eq_getElem?_getD, List.getElem?_append_left (by omega), ← List.getD_eq_getElem?_getD, hz]
      omega
    refine ⟨fun q hq => ?_, by rw [e]; exact h32, by rw [e]⟩
    have hq : q ∈ [(x, (1 : Int))] := hq
    have := List.mem_singleton.mp hq
    subst this
    show x < (r ++ t).length
    rw [List.length_append]
    omega
  have hg : ∀ (x : Nat) (a : Int × Int), lwN[x]? = some a → a.1 ≤ r.getD x 0 ∧ r.getD x 0 ≤ a.2 := g4.1.2
  refine ⟨r ++ t, T, pl, rfl, ?_, hst, xSt_app t g1, g2, fun f hf => ?_, hE, rfl, rfl⟩
  · subst hr
    have i0 := hg 0 _ rfl
    have i1 := hg 1 _ rfl
    have i2 := hg 2 _ rfl
    have i3 := hg 3 _ rfl
    have i4 := hg 4 _ rfl
    have i5 := hg 5 _ rfl
    have j0 : xIn32 i := ⟨Int.le_trans (by omega) i0.1, Int.le_trans i0.2 (by omega)⟩
    exact ⟨rfl, ⟨x1, p1, rfl⟩, ⟨x2, p2, rfl⟩, ⟨x3, p3, rfl⟩, hv 0 i (by omega) rfl j0, trivial, trivial, hv 1 v1 (by omega) rfl i1, hv 2 v2 (by omega) rfl i2, hv 3 v3 (by omega) rfl i3, hv 4 v4 (by omega) rfl i4, hv 5 v5 (by omega) rfl i5, trivial⟩
  · rcases List.mem_cons.mp hf with e | hf
    · subst e
      exact ⟨⟨[], (List.append_nil _).symm⟩, ⟨Nat.le_refl _, fun i _ => rfl⟩, ⟨[], (List.append_nil pl).symm⟩, fun i g c hi hcc => ⟨c, hcc, fun j _ => rfl⟩⟩
    · exact xFM_app _ f r t T pl aw (g3 f hf _)
