/-! The law's case of district in two halves: what the checker's runs tell (by hand). -/
theorem lw_runB {G : Nat → (xRes2 → Prop) → rvS → Prop} {Met : Nat → List rvV → rvH → (xRes2 → Prop) → Prop} (hc : xClo rvTab rvInf rvRet 317 rvMth G Met) (hcon : ∀ x, x < 243 → xCon Met (xCons x)) {C : Nat → Bool} {ms : List Nat} {L : List xCu} {S : xS} {n t : Nat} (hK : xlRB C ms L S n t = true) {r : List Int} {T pl : List Nat} {aw : rvH} {o : rvS} {Post : xRes2 → Prop} (hrel : xRel xRgn (xFM (r, T, pl, aw, [])) S o) (hna : 6 ≤ r.length) (hcut : ∀ (ci : Nat) (Tm : xS) (src : List (Nat × List Nat × Int)) (rk : List xL) (r2 : List Int) (o2 : rvS), L[ci]? = some (Tm, src, rk) → r2.take 6 = r.take 6 → xRelR r2 xRgn (xFM (r2, T, pl, aw, [])) Tm o2 → G 316 Post o2) : G 316 Post o := by
  unfold xlRB at hK
  obtain ⟨Rs, tt, hrun, hR⟩ := xEnds_ok hK
  have hS := xRun_ok (mth := rvMth) (d := 2) (na := 6) (opt := xOpt) (hp := xHpt) (hn := xHnt) (cutp := C) (cuts := fun i => L[i]?) (ms0 := ms) (rk0 := none) hc hcon 100000 0 316 false (r, T, pl, aw, []) Post (by omega) rfl
  refine hS (fun _ => ?_) (fun a ha => by cases ha) hna S _ Rs tt hrun (fun R hm o' ho' => ?_) o hrel
  · intro ci Tm src rk r2 o2 hL h6 hrel2 _
    exact hcut ci Tm src rk r2 o2 hL h6 hrel2
  · obtain ⟨q, hq, -⟩ := hR R hm
    cases hq
/-- the templates between the two calls of a case -/
noncomputable def lwTokH (pc : Nat) (Tm0 : xS) (ms : List Nat) (q : xCu) : Bool := xFitK 2 lwId q.1 Tm0 && (decide (q.1.2.1 = lwAl) && (Nat.beq q.1.1 pc && (decide (q.1.2.2.1 = []) && (Nat.ble q.1.2.2.2.2.2.2.1 8 && (Nat.ble q.1.2.2.2.2.2.2.2 165 && decide (q.1.2.2.2.2.1.head? = some (0, ms, [])))))))
def lwTmA (ah : List xC) : xS := (0, [], [], ah, lwFs, (lwN, lwC), 0, 0)
theorem lwTokB_all : xlLB.all (lwTokH 339 (lwTmA lwAh2) xlM2) = true := by decide +kernel
theorem lwTokD_all : xlLD.all (fun q => lwTok xlM3 q && Nat.beq q.1.1 1448) = true := by decide +kernel
theorem lwTokE_all : xlLE.all (lwTokH 1034 (lwTmA lwAh) xlM) = true := by decide +kernel
theorem lwTokF_all : xlLF.all (fun q => lwTok xlMS q && Nat.beq q.1.1 1448) = true := by decide +kernel
theorem lwTokJ_all : xlLJ.all (lwTokH 1409 (lwTmA lwAh) xlMX) = true := by decide +kernel
theorem lwTokQ_all : xlLQ.all (fun q => lwTok xlMR q && Nat.beq q.1.1 1448) = true := by decide +kernel
/-- what holds between the calls -/
def lwInvA (ah : List xC) (r : List Int) (T pl : List Nat) (aw : rvH) : Prop := xSt r T pl ah aw ∧ xHp xRgn T pl aw ∧ (∀ f ∈ lwFs, ∀ P : xP, xFM P f r T pl aw) ∧ xQs (lwN, lwC) r
theorem lw_rg2 : ∀ k, k < 52 → ∃ l, lwAh2[k]? = some (60 + k, l) := by
  have h : ∀ k : Fin 52, (lwAh2[k.1]?.map Prod.fst) = some (60 + k.1) := by decide +kernel
  intro k hk
  have := h ⟨k, hk⟩
  cases e : lwAh2[k]? with
  | none => rw [e] at this; cases this
  | some s =>
    rw [e] at this
    have := Option.some.inj this
    obtain ⟨a, l⟩ := s
    have this : a = 60 + k := this
    exact ⟨l, by rw [this]⟩
theorem gS_invA {ah : List xC} (hr : ∀ k, k < 52 → ∃ l, ah[k]? = some (60 + k, l)) {r : List Int} {T pl : List Nat} {aw : rvH} (h : lwInvA ah r T pl aw) : gS T pl aw := gS_of hr h.1 h.2.1
theorem lw_lenA {ah : List xC} {r : List Int} {T pl : List Nat} {aw : rvH} (h : lwInvA ah r T pl aw) : r.length = 13 := h.2.2.2.1.1.symm
theorem idA_at (r : List Int) (k : Nat) (hk : k < 13) : (lwId.map (xVal r)).getD k 0 = r.getD k 0 := by
  have e : ∀ k : Fin 13, lwId[k.1]? = some (([(k.1, 1)], 0) : xL) := by decide
  rw [List.getD_eq_getElem?_getD, List.getElem?_map, e ⟨k, hk⟩]
  have : xVal r (([(k, 1)], 0) : xL) = 1 * r.getD k 0 + 0 + 0 := rfl
  show xVal r (([(k, 1)], 0) : xL) = _
  rw [this]; omega
theorem lw_cutH {pc0 : Nat} {ah : List xC} {ms : List Nat} {Tm : xS} {src : List (Nat × List Nat × Int)} {rk : List xL} {r2 : List Int} {P : xP} {o2 : rvS} (hpl : P.2.2.1.length = 52) (hk : lwTokH pc0 (lwTmA ah) ms (Tm, src, rk) = true) (hah : ah.length = 52) (hrel : xRelR r2 xRgn (xFM P) Tm o2) : ∃ (r3 : List Int) (T1 : List Nat), lwInvA ah r3 T1 P.2.2.1 o2.2.2.2.1 ∧ lwFr ms P.2.1 P.2.2.1 P.2.2.2.1 T1 P.2.2.1 o2.2.2.2.1 ∧ (∀ k, k < 13 → r3.getD k 0 = r2.getD k 0) ∧ o2.2.2.1 = [] ∧ o2.1 = pc0 ∧ o2.2.2.2.2.1 ≤ 8 ∧ o2.2.2.2.2.2 ≤ 165 ∧ ∀ (b1 b2 b3 b5 b6 : rvV) (i : Int) (vs : List rvV), o2.2.1 = .inr (5, 0) :: b1 :: b2 :: b3 :: .inl (i, i) :: b5 :: b6 :: vs → lwLoc P.2.2.1 b1 b2 b3 := by
  have hk : (xFitK 2 lwId Tm (lwTmA ah) && (decide (Tm.2.1 = lwAl) && (Nat.beq Tm.1 pc0 && (decide (Tm.2.2.1 = []) && (Nat.ble Tm.2.2.2.2.2.2.1 8 && (Nat.ble Tm.2.2.2.2.2.2.2 165 && decide (Tm.2.2.2.2.1.head? = some (0, ms, [])))))))) = true := hk
  obtain ⟨k1, k2⟩ := rv_and hk
  obtain ⟨k2, k3⟩ := rv_and k2
  obtain ⟨k3, k4⟩ := rv_and k3
  obtain ⟨k4, k5⟩ := rv_and k4
  obtain ⟨k5, k6⟩ := rv_and k5
  obtain ⟨k6, k7⟩ := rv_and k6
  have k7 := of_decide_eq_true k7
  have k4 := of_decide_eq_true k4
  obtain ⟨T, pl, h1, h2, h3, h4, h5, h6, h7, h8, h9⟩ := hrel
  obtain ⟨f1, f2, f3, f4⟩ := xFitK_ok h4 h5 h6 h7 k1
  have e52 : (lwTmA ah).2.2.2.1.length = 52 := hah
  have f2 : xSt (lwId.map (xVal r2)) T (pl.take (lwTmA ah).2.2.2.1.length) ah o2.2.2.2.1 := f2
  have f3 : xHp xRgn T (pl.take (lwTmA ah).2.2.2.1.length) o2.2.2.2.1 := f3
  have f4 : ∀ f ∈ lwFs, f.1 ≠ 0 → ∀ P' : xP, xFM P' f (lwId.map (xVal r2)) T (pl.take (lwTmA ah).2.2.2.1.length) o2.2.2.2.1 := f4
  rw [e52] at f2 f3 f4
  have hal := of_decide_eq_true k2
  rw [hal] at h2
  have hmem : ((0, ms, []) : xF) ∈ Tm.2.2.2.2.1 := List.mem_of_mem_head? (by rw [k7]; exact rfl)
  obtain ⟨-, z2, ⟨u, z3⟩, z4⟩ : (∃ t, r2 = P.1 ++ t) ∧ (P.2.1.length ≤ T.length ∧ ∀ i, i < P.2.1.length → T[i]? = P.2.1[i]?) ∧ (∃ t, pl = P.2.2.1 ++ t) ∧ xFrm ms P.2.1 P.2.2.2.1 o2.2.2.2.1 := h6 _ hmem
  have z5 : pl.take 52 = P.2.2.1 := by rw [z3, ← hpl]; simp
  rw [k4] at h3
  have hst : o2.2.2.1 = [] := by
    cases hs : o2.2.2.1 with
    | nil => rfl
    | cons a b => rw [hs] at h3; exact absurd h3 id
  rw [z5] at f2 f3 f4
  refine ⟨lwId.map (xVal r2), T, ⟨f2, f3, fun f hf P' => f4 f hf ?_ P', f1⟩, ⟨z2, rfl, z4⟩, fun k hk => idA_at r2 k hk, hst, h1.trans (rv_beq k3), by rw [h8]; exact rv_ble k5, by rw [h9]; exact rv_ble k6, ?_⟩
  · have : ∀ f ∈ lwFs, f.1 ≠ 0 := by decide
    exact this f hf
  · intro b1 b2 b3 b5 b6 i vs ho
    rw [ho] at h2
    obtain ⟨-, ⟨x1, p1, e1⟩, ⟨x2, p2, e2⟩, ⟨x3, p3, e3⟩, -⟩ := h2
    rw [← z5]
    exact ⟨⟨x1, e1, lw_at (by omega) p1⟩, ⟨x2, e2, lw_at (by omega) p2⟩, ⟨x3, e3, lw_at (by omega) p3⟩⟩
/-- the second half's start -/
theorem lw_relA {pc0 : Nat} {ah : List xC} {r : List Int} {T pl : List Nat} {aw : rvH} {i v1 v2 v3 v4 v5 : Int} {b1 b2 b3 b5 b6 : rvV} (h0 : r.getD 0 0 = i) (h1 : r.getD 1 0 = v1) (h2 : r.getD 2 0 = v2) (h3 : r.getD 3 0 = v3) (h4 : r.getD 4 0 = v4) (h5 : r.getD 5 0 = v5) (h : lwInvA ah r T pl aw) (hl : lwLoc pl b1 b2 b3) (ms : List Nat) :
    xRel xRgn (xFM (r, T, pl, aw, [])) (pc0, lwAl, [], ah, (0, ms, []) :: lwFs, (lwN, lwC), 0, 0) (pc0, [.inr (5, 0), b1, b2, b3, .inl (i, i), b5, b6, .inl (v1, v1), .inl (v2, v2), .inl (v3, v3), .inl (v4, v4), .inl (v5, v5)], [], aw, 0, 0) := by
  have hlen := lw_lenA h
  obtain ⟨g1, g2, g3, g4⟩ := h
  obtain ⟨⟨x1, rfl, p1⟩, ⟨x2, rfl, p2⟩, ⟨x3, rfl, p3⟩⟩ := hl
  have hg : ∀ (x : Nat) (a : Int × Int), lwN[x]? = some a → a.1 ≤ r.getD x 0 ∧ r.getD x 0 ≤ a.2 := g4.1.2
  have hv : ∀ (x : Nat) (z : Int), x < 13 → r.getD x 0 = z → xIn32 z → xR r T pl (.inl (x, 1, 0)) (.inl (z, z)) := fun x z hx hz h32 => ps_v x z (by omega) hz h32
  have i0 := hg 0 _ rfl
  have i1 := hg 1 _ rfl
  have i2 := hg 2 _ rfl
  have i3 := hg 3 _ rfl
  have i4 := hg 4 _ rfl
  have i5 := hg 5 _ rfl
  subst h0; subst h1; subst h2; subst h3; subst h4; subst h5
  have j0 : xIn32 (r.getD 0 0) := ⟨Int.le_trans (by omega) i0.1, Int.le_trans i0.2 (by omega)⟩
  refine ⟨r, T, pl, rfl, ⟨rfl, ⟨x1, p1, rfl⟩, ⟨x2, p2, rfl⟩, ⟨x3, p3, rfl⟩, hv 0 _ (by omega) rfl j0, trivial, trivial, hv 1 _ (by omega) rfl i1, hv 2 _ (by omega) rfl i2, hv 3 _ (by omega) rfl i3, hv 4 _ (by omega) rfl i4, hv 5 _ (by omega) rfl i5, trivial⟩, trivial, g1, g2, fun f hf => ?_, g4, rfl, rfl⟩
  rcases List.mem_cons.mp hf with e | hf
  · subst e
    exact ⟨⟨[], (List.append_nil _).symm⟩, ⟨Nat.le_refl _, fun i _ => rfl⟩, ⟨[], (List.append_nil pl).symm⟩, fun i g c hi hcc => ⟨c, hcc, fun j _ => rfl⟩⟩
  · exact g3 f hf _
/-- frames: fewer regions, more regions -/
def frSub (ms ms' : List Nat) : Bool := match ms with
  | a :: lo :: hi :: t => (match ms' with
    | _ => frIn a lo hi ms') && frSub t ms'
  | _ => true
where frIn (a lo hi : Nat) (ms' : List Nat) : Bool := match ms' with
  | b :: lo' :: hi' :: t => (Nat.beq a b && (Nat.ble lo' lo && Nat.ble hi hi')) || frIn a lo hi t
  | _ => false
theorem frIn_ok {a lo hi g j : Nat} : ∀ (ms' : List Nat), frSub.frIn a lo hi ms' = true → (g = a ∧ lo ≤ j ∧ j ≤ hi) → xInM ms' g j
  | [], h, _ => by cases h
  | [_], h, _ => by cases h
  | [_, _], h, _ => by cases h
  | b :: lo' :: hi' :: t, h, q => by
    have h : ((Nat.beq a b && (Nat.ble lo' lo && Nat.ble hi hi')) || frSub.frIn a lo hi t) = true := h
    rcases rv_or' h with h | h
    · obtain ⟨h1, h2⟩ := rv_and h
      obtain ⟨h2, h3⟩ := rv_and h2
      have h1 := rv_beq h1
      have h2 := rv_ble h2
      have h3 := rv_ble h3
      exact Or.inl ⟨by omega, by omega, by omega⟩
    · exact Or.inr (frIn_ok t h q)
theorem frSub_ok {g j : Nat} {ms' : List Nat} : ∀ (ms : List Nat), frSub ms ms' = true → xInM ms g j → xInM ms' g j
  | [], _, h => absurd h id
  | [_], _, h => absurd h id
  | [_, _], _, h => absurd h id
  | a :: lo :: hi :: t, hs, h => by
    have hs : (frSub.frIn a lo hi ms' && frSub t ms') = true := hs
    obtain ⟨s1, s2⟩ := rv_and hs
    have h : (g = a ∧ lo ≤ j ∧ j ≤ hi) ∨ xInM t g j := h
    rcases h with h | h
    · exact frIn_ok ms' s1 h
    · exact frSub_ok t s2 h
theorem lwFr_mono {ms ms' T pl T1 pl1 : List Nat} {aw aw1 : rvH} (hs : frSub ms ms' = true) (h : lwFr ms T pl aw T1 pl1 aw1) : lwFr ms' T pl aw T1 pl1 aw1 := by
  refine ⟨h.1, h.2.1, fun i g c a b => ?_⟩
  obtain ⟨c', e1, e2⟩ := h.2.2 i g c a b
  exact ⟨c', e1, fun j hj => e2 j (fun q => hj (frSub_ok ms hs q))⟩
theorem xlM2_no : ghNo xlM2 89 = true ∧ ghNo xlM2 90 = true ∧ ghNo xlM2 95 = true := by decide +kernel
/-! The law's cases of sentence and book, in two halves (by hand). -/
theorem lwTokN_all : xlLN.all (lwTokH 1340 (lwTmA lwAh2) xlMY) = true := by decide +kernel
theorem lwTokO_all : xlLO.all (fun q => lwTok xlMZ q && Nat.beq q.1.1 1448) = true := by decide +kernel
/-- book with 0 or 1 -/
def lwTm5 : xS := (0, [], [], lwAh2, lwFs, (lwN5, lwC), 0, 0)
theorem lwTokU_all : xlLU.all (lwTokH 1296 lwTm5 xlMY) = true := by decide +kernel
theorem lwTokV_all : xlLV.all (fun q => lwTok xlMZ q && Nat.beq q.1.1 1448) = true := by decide +kernel
theorem xlMY_sub : frSub xlMY xlMW = true := by decide +kernel
theorem xlMZ_sub : frSub xlMZ xlMW = true := by decide +kernel
theorem xlMY_no : (ghNo xlMY 89 && (ghNo xlMY 90 && (ghNo xlMY 91 && (ghNo xlMY 94 && ghNo xlMY 95)))) = true := by decide +kernel
theorem lw_f1340 : lwF 1340 = false := by decide +kernel
theorem lw_f1296 : lwF 1296 = false := by decide +kernel
/-- what holds between the calls -/
def lwInv5 (r : List Int) (T pl : List Nat) (aw : rvH) : Prop := xSt r T pl lwAh2 aw ∧ xHp xRgn T pl aw ∧ (∀ f ∈ lwFs, ∀ P : xP, xFM P f r T pl aw) ∧ xQs (lwN5, lwC) r
theorem gS_inv5 {r : List Int} {T pl : List Nat} {aw : rvH} (h : lwInv5 r T pl aw) : gS T pl aw := gS_of lw_rg2 h.1 h.2.1
theorem lw_len5 {r : List Int} {T pl : List Nat} {aw : rvH} (h : lwInv5 r T pl aw) : r.length = 13 := h.2.2.2.1.1.symm
theorem id5_at (r : List Int) (k : Nat) (hk : k < 13) : (lwId.map (xVal r)).getD k 0 = r.getD k 0 := by
  have e : ∀ k : Fin 13, lwId[k.1]? = some (([(k.1, 1)], 0) : xL) := by decide
  rw [List.getD_eq_getElem?_getD, List.getElem?_map, e ⟨k, hk⟩]
  have : xVal r (([(k, 1)], 0) : xL) = 1 * r.getD k 0 + 0 + 0 := rfl
  show xVal r (([(k, 1)], 0) : xL) = _
  rw [this]; omega
theorem lw_cutH5 {pc0 : Nat} {ms : List Nat} {Tm : xS} {src : List (Nat × List Nat × Int)} {rk : List xL} {r2 : List Int} {P : xP} {o2 : rvS} (hpl : P.2.2.1.length = 52) (hk : lwTokH pc0 lwTm5 ms (Tm, src, rk) = true) (hrel : xRelR r2 xRgn (xFM P) Tm o2) : ∃ (r3 : List Int) (T1 : List Nat), lwInv5 r3 T1 P.2.2.1 o2.2.2.2.1 ∧ lwFr ms P.2.1 P.2.2.1 P.2.2.2.1 T1 P.2.2.1 o2.2.2.2.1 ∧ (∀ k, k < 13 → r3.getD k 0 = r2.getD k 0) ∧ o2.2.2.1 = [] ∧ o2.1 = pc0 ∧ o2.2.2.2.2.1 ≤ 8 ∧ o2.2.2.2.2.2 ≤ 165 ∧ ∀ (b1 b2 b3 b5 b6 : rvV) (i : Int) (vs : List rvV), o2.2.1 = .inr (5, 0) :: b1 :: b2 :: b3 :: .inl (i, i) :: b5 :: b6 :: vs → lwLoc P.2.2.1 b1 b2 b3 := by
  have hk : (xFitK 2 lwId Tm lwTm5 && (decide (Tm.2.1 = lwAl) && (Nat.beq Tm.1 pc0 && (decide (Tm.2.2.1 = []) && (Nat.ble Tm.2.2.2.2.2.2.1 8 && (Nat.ble Tm.2.2.2.2.2.2.2 165 && decide (Tm.2.2.2.2.1.head? = some (0, ms, [])))))))) = true := hk
  obtain ⟨k1, k2⟩ := rv_and hk
  obtain ⟨k2, k3⟩ := rv_and k2
  obtain ⟨k3, k4⟩ := rv_and k3
  obtain ⟨k4, k5⟩ := rv_and k4
  obtain ⟨k5, k6⟩ := rv_and k5
  obtain ⟨k6, k7⟩ := rv_and k6
  have k7 := of_decide_eq_true k7
  have k4 := of_decide_eq_true k4
  obtain ⟨T, pl, h1, h2, h3, h4, h5, h6, h7, h8, h9⟩ := hrel
  obtain ⟨f1, f2, f3, f4⟩ := xFitK_ok h4 h5 h6 h7 k1
  have e52 : lwTm5.2.2.2.1.length = 52 := rfl
  have f2 : xSt (lwId.map (xVal r2)) T (pl.take lwTm5.2.2.2.1.length) lwAh2 o2.2.2.2.1 := f2
  have f3 : xHp xRgn T (pl.take lwTm5.2.2.2.1.length) o2.2.2.2.1 := f3
  have f4 : ∀ f ∈ lwFs, f.1 ≠ 0 → ∀ P' : xP, xFM P' f (lwId.map (xVal r2)) T (pl.take lwTm5.2.2.2.1.length) o2.2.2.2.1 := f4
  rw [e52] at f2 f3 f4
  have hal := of_decide_eq_true k2
  rw [hal] at h2
  have hmem : ((0, ms, []) : xF) ∈ Tm.2.2.2.2.1 := List.mem_of_mem_head? (by rw [k7]; exact rfl)
  obtain ⟨-, z2, ⟨u, z3⟩, z4⟩ : (∃ t, r2 = P.1 ++ t) ∧ (P.2.1.length ≤ T.length ∧ ∀ i, i < P.2.1.length → T[i]? = P.2.1[i]?) ∧ (∃ t, pl = P.2.2.1 ++ t) ∧ xFrm ms P.2.1 P.2.2.2.1 o2.2.2.2.1 := h6 _ hmem
  have z5 : pl.take 52 = P.2.2.1 := by rw [z3, ← hpl]; simp
  rw [k4] at h3
  have hst : o2.2.2.1 = [] := by
    cases hs : o2.2.2.1 with
    | nil => rfl
    | cons a b => rw [hs] at h3; exact absurd h3 id
  rw [z5] at f2 f3 f4
  refine ⟨lwId.map (xVal r2), T, ⟨f2, f3, fun f hf P' => f4 f hf ?_ P', f1⟩, ⟨z2, rfl, z4⟩, fun k hk => id5_at r2 k hk, hst, h1.trans (rv_beq k3), by rw [h8]; exact rv_ble k5, by rw [h9]; exact rv_ble k6, ?_⟩
  · have : ∀ f ∈ lwFs, f.1 ≠ 0 := by decide
    exact this f hf
  · intro b1 b2 b3 b5 b6 i vs ho
    rw [ho] at h2
    obtain ⟨-, ⟨x1, p1, e1⟩, ⟨x2, p2, e2⟩, ⟨x3, p3, e3⟩, -⟩ := h2
    rw [← z5]
    exact ⟨⟨x1, e1, lw_at (by omega) p1⟩, ⟨x2, e2, lw_at (by omega) p2⟩, ⟨x3, e3, lw_at (by omega) p3⟩⟩
/-- the second half's start -/
theorem lw_rel5 {pc0 : Nat} {r : List Int} {T pl : List Nat} {aw : rvH} {i v1 v2 v3 v4 v5 : Int} {b1 b2 b3 b5 b6 : rvV} (h0 : r.getD 0 0 = i) (h1 : r.getD 1 0 = v1) (h2 : r.getD 2 0 = v2) (h3 : r.getD 3 0 = v3) (h4 : r.getD 4 0 = v4) (h5 : r.getD 5 0 = v5) (h : lwInv5 r T pl aw) (hl : lwLoc pl b1 b2 b3) (ms : List Nat) :
    xRel xRgn (xFM (r, T, pl, aw, [])) (pc0, lwAl, [], lwAh2, (0, ms, []) :: lwFs, (lwN5, lwC), 0, 0) (pc0, [.inr (5, 0), b1, b2, b3, .inl (i, i), b5, b6, .inl (v1, v1), .inl (v2, v2), .inl (v3, v3), .inl (v4, v4), .inl (v5, v5)], [], aw, 0, 0) := by
  have hlen := lw_len5 h
  obtain ⟨g1, g2, g3, g4⟩ := h
  obtain ⟨⟨x1, rfl, p1⟩, ⟨x2, rfl, p2⟩, ⟨x3, rfl, p3⟩⟩ := hl
  have hg : ∀ (x : Nat) (a : Int × Int), lwN5[x]? = some a → a.1 ≤ r.getD x 0 ∧ r.getD x 0 ≤ a.2 := g4.1.2
  have hv : ∀ (x : Nat) (z : Int), x < 13 → r.getD x 0 = z → xIn32 z → xR r T pl (.inl (x, 1, 0)) (.inl (z, z)) := fun x z hx hz h32 => ps_v x z (by omega) hz h32
  have i0 := hg 0 _ rfl
  have i1 := hg 1 _ rfl
  have i2 := hg 2 _ rfl
  have i3 := hg 3 _ rfl
  have i4 := hg 4 _ rfl
  have i5 := hg 5 _ rfl
  subst h0; subst h1; subst h2; subst h3; subst h4; subst h5
  have j0 : xIn32 (r.getD 0 0) := ⟨Int.le_trans (by omega) i0.1, Int.le_trans i0.2 (by omega)⟩
  have j1 : xIn32 (r.getD 1 0) := ⟨Int.le_trans (by omega) i1.1, Int.le_trans i1.2 (by omega)⟩
  refine ⟨r, T, pl, rfl, ⟨rfl, ⟨x1, p1, rfl⟩, ⟨x2, p2, rfl⟩, ⟨x3, p3, rfl⟩, hv 0 _ (by omega) rfl j0, trivial, trivial, hv 1 _ (by omega) rfl j1, hv 2 _ (by omega) rfl i2, hv 3 _ (by omega) rfl i3, hv 4 _ (by omega) rfl i4, hv 5 _ (by omega) rfl i5, trivial⟩, trivial, g1, g2, fun f hf => ?_, g4, rfl, rfl⟩
  rcases List.mem_cons.mp hf with e | hf
  · subst e
    exact ⟨⟨[], (List.append_nil _).symm⟩, ⟨Nat.le_refl _, fun i _ => rfl⟩, ⟨[], (List.append_nil pl).symm⟩, fun i g c hi hcc => ⟨c, hcc, fun j _ => rfl⟩⟩
  · exact g3 f hf _
theorem lw_relS5 {r t : List Int} {T pl : List Nat} {aw : rvH} {i v1 v2 v3 v4 v5 : Int} {zs : List Int} {b1 b2 b3 b5 b6 : rvV} {st : List xV} {cs : List rvV} {E : xN} {pc kc ks : Nat} (hr : r = i :: v1 :: v2 :: v3 :: v4 :: v5 :: zs) (h : lwInv r T pl aw) (hl : lwLoc pl b1 b2 b3) (hst : xRs (r ++ t) T pl st cs) (hE : xQs (lwN5 ++ E, lwC) (r ++ t)) (ms : List Nat) :
    xRel xRgn (xFM (r ++ t, T, pl, aw, [])) (pc, lwAl, st, lwAh, (0, ms, []) :: lwFs, (lwN5 ++ E, lwC), kc, ks) (pc, [.inr (5, 0), b1, b2, b3, .inl (i, i), b5, b6, .inl (v1, v1), .inl (v2, v2), .inl (v3, v3), .inl (v4, v4), .inl (v5, v5)], cs, aw, kc, ks) := by
  have hlen := lw_len h
  obtain ⟨g1, g2, g3, g4⟩ := h
  obtain ⟨⟨x1, rfl, p1⟩, ⟨x2, rfl, p2⟩, ⟨x3, rfl, p3⟩⟩ := hl
  have hv : ∀ (x : Nat) (z : Int), x < 6 → r.getD x 0 = z → xIn32 z → xR (r ++ t) T pl (.inl (x, 1, 0)) (.inl (z, z)) := by
    intro x z hx hz h32
    have e : xVal (r ++ t) (xSm (x, 1, 0)) = z := by
      have : xVal (r ++ t) (xSm (x, 1, 0)) = 1 * (r ++ t).getD x 0 + 0 + 0 := rfl
      rw [this, List.getD_eq_getElem?_getD, List.getElem?_append_left (by omega), ← List.getD_eq_getElem?_getD, hz]
      omega
    refine ⟨fun q hq => ?_, by rw [e]; exact h32, by rw [e]⟩
    have hq : q ∈ [(x, (1 : Int))] := hq
    have := List.mem_singleton.mp hq
    subst this
    show x < (r ++ t).length
    rw [List.length_append]
    omega
  have hg : ∀ (x : Nat) (a : Int × Int), lwN[x]? = some a → a.1 ≤ r.getD x 0 ∧ r.getD x 0 ≤ a.2 := g4.1.2
  refine ⟨r ++ t, T, pl, rfl, ?_, hst, xSt_app t g1, g2, fun f hf => ?_, hE, rfl, rfl⟩
  · subst hr
    have i0 := hg 0 _ rfl
    have i1 := hg 1 _ rfl
    have i2 := hg 2 _ rfl
    have i3 := hg 3 _ rfl
    have i4 := hg 4 _ rfl
    have i5 := hg 5 _ rfl
    have j0 : xIn32 i := ⟨Int.le_trans (by omega) i0.1, Int.le_trans i0.2 (by omega)⟩
    exact ⟨rfl, ⟨x1, p1, rfl⟩, ⟨x2, p2, rfl⟩, ⟨x3, p3, rfl⟩, hv 0 i (by omega) rfl j0, trivial, trivial, hv 1 v1 (by omega) rfl i1, hv 2 v2 (by omega) rfl i2, hv 3 v3 (by omega) rfl i3, hv 4 v4 (by omega) rfl i4, hv 5 v5 (by omega) rfl i5, trivial⟩
  · rcases List.mem_cons.mp hf with e | hf
    · subst e
      exact ⟨⟨[], (List.append_nil _).symm⟩, ⟨Nat.le_refl _, fun i _ => rfl⟩, ⟨[], (List.append_nil pl).symm⟩, fun i g c hi hcc => ⟨c, hcc, fun j _ => rfl⟩⟩
    · exact xFM_app _ f r t T pl aw (g3 f hf _)
theorem lw_q5 {r : List Int} {T pl : List Nat} {aw : rvH} {i v1 v2 v3 v4 v5 : Int} {zs : List Int} (hr : r = i :: v1 :: v2 :: v3 :: v4 :: v5 :: zs) (h : lwInv r T pl aw) (hv : 0 ≤ v1 ∧ v1 ≤ 1) : xQs (lwN5, lwC) r := by
  obtain ⟨⟨g1, g2⟩, g3, g4⟩ := h.2.2.2
  refine ⟨⟨g1, fun x a hx => ?_⟩, g3, g4⟩
  by_cases e : x = 1
  · subst e
    have ea : ((0 : Int), (1 : Int)) = a := Option.some.inj hx
    subst ea
    subst hr
    exact hv
  · refine g2 x a ?_
    have : ∀ x, x ≠ 1 → lwN5[x]? = lwN[x]? := fun x hx => by
      match x, hx with
      | 0, _ => rfl
      | n + 2, _ => rfl
    rw [← this x e]
    exact hx
