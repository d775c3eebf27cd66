/-! The law's loop. -/
def lwS0 (ms : List Nat) (w : Nat) : xS := (40, lwAl, [.inl (0, 0, (w : Int))], lwAh, (0, ms, []) :: lwFs, (lwN, lwC), 0, 0)
def lwS45 : xS := (40, lwAl, [.inl (13, 1, 0)], lwAh, (0, xlM, []) :: lwFs, (lwN ++ [(45, 63)], lwC), 0, 0)
def lwS100 : xS := (377, lwAl, [.inl (13, 1, 0)], lwAh, (0, xlM, []) :: lwFs, (lwN ++ [(0, 1)], lwC), 1, 6)
/-- the runs of all cases -/
def lwAllK : Prop := (∀ w, w < 45 → w ≠ 4 → w ≠ 0 → w ≠ 2 → w ≠ 28 → w ≠ 42 → w ≠ 43 → w ≠ 3 → w ≠ 40 → w ≠ 38 → ∃ n t, xlR xlM xlL2 (lwS0 xlM w) n t = true) ∧ (∃ n t, xlR xlM xlL (lwS0 xlM 4) n t = true) ∧ (∃ n t, xlR xlM xlL2 lwS45 n t = true) ∧ (∃ n t, xlR xlM xlL2 lwS100 n t = true) ∧ (∃ n t, xlR xlMA xlLA (lwS0 xlMA 0) n t = true) ∧ (∃ n t, xlR xlM xlL3 (lwS0 xlM 3) n t = true) ∧ (∃ n t, xlR xlMW xlLW (lwS0 xlMW 38) n t = true) ∧ ∃ n t, xlR xlMI xlLI (lwS0 xlMI 42) n t = true
/-- what a turn of the case w may write -/
def lwMs (w : Nat) : List Nat := if w = 0 then xlMA else if w = 42 then xlMI else if w = 38 then xlMW else xlM
theorem lwMs_M {w : Nat} (h0 : w ≠ 0) (h42 : w ≠ 42) (h38 : w ≠ 38) : lwMs w = xlM := by
  unfold lwMs
  rw [if_neg h0, if_neg h42, if_neg h38]
theorem lw_q1 {r : List Int} {N : xN} {C : List xL} {a : Int × Int} {z : Int} (h : xQs (N, C) r) (h1 : a.1 ≤ z) (h2 : z ≤ a.2) : xQs (N ++ [a], C) (r ++ [z]) := by
  obtain ⟨⟨g1, g2⟩, g3, g4⟩ := h
  have g1 : N.length = r.length := g1
  refine ⟨⟨?_, fun x b hx => ?_⟩, fun c hc => ?_, fun c hc => ?_⟩
  · show (N ++ [a]).length = (r ++ [z]).length
    rw [List.length_append, List.length_append, g1]
    rfl
  · have hx : (N ++ [a])[x]? = some b := hx
    by_cases hl : x < N.length
    · rw [List.getElem?_append_left hl] at hx
      have := g2 x b hx
      rw [List.getD_eq_getElem?_getD, List.getElem?_append_left (by omega), ← List.getD_eq_getElem?_getD]
      exact this
    · rw [List.getElem?_append_right (by omega)] at hx
      have h0 : x - N.length = 0 := by
        have := (List.getElem?_eq_some_iff.mp hx).1
        have : x - N.length < 1 := this
        omega
      rw [h0] at hx
      have e : a = b := Option.some.inj hx
      subst e
      rw [List.getD_eq_getElem?_getD, List.getElem?_append_right (by omega)]
      have e2 : x - r.length = 0 := by omega
      rw [e2]
      exact ⟨h1, h2⟩
  · have := g3 c hc
    rw [xVal_app]
    · exact this
    · have := g4 c hc
      rw [← g1]
      exact this
  · intro q hq
    have := g4 c hc q hq
    have this : q.1 < N.length := this
    show q.1 < (N ++ [a]).length
    rw [List.length_append]
    omega
theorem lw_ext {r : List Int} {T pl : List Nat} {z : Int} (hl : r.length = 13) (h : xIn32 z) : xRs (r ++ [z]) T pl [.inl (13, 1, 0)] [.inl (z, z)] := by
  have e : xVal (r ++ [z]) (xSm (13, 1, 0)) = z := by
    have : xVal (r ++ [z]) (xSm (13, 1, 0)) = 1 * (r ++ [z]).getD 13 0 + 0 + 0 := rfl
    rw [this, List.getD_eq_getElem?_getD, List.getElem?_append_right (by omega), hl]
    show 1 * z + 0 + 0 = z
    omega
  refine ⟨⟨fun q hq => ?_, by rw [e]; exact h, by rw [e]⟩, trivial⟩
  have hq : q ∈ [((13 : Nat), (1 : Int))] := hq
  have := List.mem_singleton.mp hq
  subst this
  show 13 < (r ++ [z]).length
  rw [List.length_append, hl]
  show 13 < 13 + 1
  omega
section LWO
variable {RG : rvS → Prop} {i : Int} {vs : List rvV} {k0 s0 : Nat} {sc : List (Int × Int)} {Met : Nat → List rvV → rvH → (xRes2 → Prop) → Prop} {Gd : Nat → (xRes2 → Prop) → rvS → Prop}
/-- the call of person, which may throw and is caught -/
def lwPer (RG : rvS → Prop) : Prop := ∀ (al st : List rvV) (aw : rvH) (kc ks : Nat) (r : List Int) (T pl : List Nat), lwInv r T pl aw → lwSt4 pl st → kc + 20 ≤ 600000 → ks + 400 ≤ 7000000 → (∀ (k : Int) (aw' : rvH) (r' : List Int) (T' pl' : List Nat), 0 ≤ k → k ≤ 1 → lwInv r' T' pl' aw' → lwFr xlM T pl aw T' pl' aw' → RG (377, al, [.inl (k, k)], aw', kc + 1, ks + 6)) → RG (374, al, st, aw, kc, ks)
/-- what the machine gives of the law -/
def lwMach (RG : rvS → Prop) (sc : List (Int × Int)) (Met : Nat → List rvV → rvH → (xRes2 → Prop) → Prop) : Prop := lwS RG sc ∧ lwI RG Met ∧ (∀ (pc : Nat) (al st : List rvV) (a : Int × Int) (aw : rvH) (kc ks : Nat), (∀ n, a.1 ≤ n → n ≤ a.2 → xIn32 n → RG (pc, al, .inl (n, n) :: st, aw, kc, ks)) → RG (pc, al, .inl a :: st, aw, kc, ks)) ∧ lwPer RG ∧
  (∀ (al st : List rvV) (aw : rvH) (kc ks : Nat), RG (27, al, .inl ((sc.length : Int), (sc.length : Int)) :: st, aw, kc, ks) → RG (26, al, .inr (5, 0) :: st, aw, kc, ks)) ∧
  (∀ (al : List rvV) (aw : rvH) (kc ks : Nat), kc ≤ 600000 → ks ≤ 7000000 → RG (1455, al, [.inl (1, 1)], aw, kc, ks))
/-- the second half of a turn: from the loop's end on -/
def lwNext (RG : rvS → Prop) (i : Int) (kc ks : Nat) (ms T0 pl0 : List Nat) (aw0 : rvH) : Prop := ∀ (b1 b2 b3 b5 b6 : rvV) (aw : rvH) (r : List Int) (T pl : List Nat) (k s : Nat), lwInv r T pl aw → lwFr ms T0 pl0 aw0 T pl aw → lwLoc pl b1 b2 b3 → k ≤ 20 → s ≤ 400 → RG (1448, [.inr (5, 0), b1, b2, b3, .inl (i, i), b5, b6], [], aw, kc + k, ks + s)
theorem lw_f1448 : lwF 1448 = false := by decide +kernel
theorem lw_f374 : lwF 374 = false := by decide +kernel
theorem lw_f358 : lwF 358 = false := by decide +kernel
theorem lw_f377 : lwF 377 = false := by decide +kernel
theorem lw_f40 : lwF 40 = false := by decide +kernel
/-- a run of a case that ends at the loop's end -/
theorem lw_one (hc : xClo rvTab rvInf rvRet 317 rvMth (lwGd RG Gd i vs k0 s0) Met) (hcon : ∀ x, x < 243 → xCon Met (xCons x)) {ms : List Nat} {L : List xCu} (hB : ∀ q ∈ L, (lwTok ms q && Nat.beq q.1.1 1448 || Nat.beq q.1.1 358) = true) (h358 : (∃ q ∈ L, ¬ q.1.1 = 1448) → ∀ (al st : List rvV) (aw : rvH) (kc ks : Nat), RG (358, al, st, aw, kc, ks)) {S : xS} {n t : Nat} (hK : xlR ms L S n t = true) {r : List Int} {T pl : List Nat} {aw : rvH} {o : rvS} (hrel : xRel xRgn (xFM (r, T, pl, aw, [])) S o) (hna : 6 ≤ r.length) (hpl : pl.length = 52) (hN : lwNext RG i k0 s0 ms T pl aw) : lwG RG i vs k0 s0 o := by
  refine (lw_run hc hcon hK hrel hna (Post := fun _ => True) (fun ci Tm src rk r2 o2 hL hrel2 => ?_)).2 rfl
  have hmem := List.mem_of_getElem? hL
  have hq := hB _ hmem
  have h45 : Tm.1 = 358 → lwGd RG Gd i vs k0 s0 316 (fun _ => True) o2 := by
    intro e
    refine ⟨fun h => absurd h (by omega), fun _ => ?_⟩
    intro b1 b2 b3 b5 b6 hal
    obtain ⟨T9, pl9, k1, -⟩ := hrel2
    rw [k1, e, lw_f358, cond_false]
    exact h358 ⟨_, hmem, by show ¬ Tm.1 = 1448; omega⟩ _ _ _ _ _
  rcases rv_or' hq with hq | hq
  · obtain ⟨h1, h2⟩ := rv_and hq
    obtain ⟨r3, T1, pl1, g1, gf, g2, g3, g4, g5⟩ := lw_cut (P := (r2, T, pl, aw, [])) hpl h1 hrel2
    refine ⟨fun h => absurd h (by omega), fun _ => ?_⟩
    intro b1 b2 b3 b5 b6 hal
    rcases g3 with ⟨e1, e2⟩ | ⟨e1, -⟩
    · rw [e1, lw_f1448, cond_false, e2]
      exact hN b1 b2 b3 b5 b6 _ r3 T1 pl1 _ _ g1 gf (g2 _ _ _ _ _ _ _ hal) (by omega) (by omega)
    · obtain ⟨T9, pl9, k1, -⟩ := hrel2
      have := rv_beq h2
      have this : Tm.1 = 1448 := this
      omega
  · exact h45 (rv_beq hq)
theorem lw_L2 : ∀ q ∈ xlL2, (lwTok xlM q && Nat.beq q.1.1 1448 || Nat.beq q.1.1 358) = true := fun q hq => by
  have := List.all_eq_true.mp lwTok_all2 q hq
  rw [this]; rfl
theorem lw_LA : ∀ q ∈ xlLA, (lwTok xlMA q && Nat.beq q.1.1 1448 || Nat.beq q.1.1 358) = true := fun q hq => by
  have := List.all_eq_true.mp lwTok_allA q hq
  rw [this]; rfl
theorem lw_LI : ∀ q ∈ xlLI, (lwTok xlMI q && Nat.beq q.1.1 1448 || Nat.beq q.1.1 358) = true := fun q hq => by
  have := List.all_eq_true.mp lwTok_allI q hq
  rw [this]; rfl
theorem lw_LR : ∀ q ∈ xlLR, (lwTok xlMR q && Nat.beq q.1.1 1448 || Nat.beq q.1.1 358) = true := fun q hq => by
  have := List.all_eq_true.mp lwTok_allR q hq
  rw [this]; rfl
theorem lw_LW : ∀ q ∈ xlLW, (lwTok xlMW q && Nat.beq q.1.1 1448 || Nat.beq q.1.1 358) = true := fun q hq => by
  have := List.all_eq_true.mp lwTok_allW q hq
  rw [this]; rfl
theorem lw_noW {P : Prop} : (∃ q ∈ xlLW, ¬ q.1.1 = 1448) → P := fun ⟨q, hq, h⟩ => absurd (rv_beq (rv_and (List.all_eq_true.mp lwTok_allW q hq)).2) h
theorem lw_noI {P : Prop} : (∃ q ∈ xlLI, ¬ q.1.1 = 1448) → P := fun ⟨q, hq, h⟩ => absurd (rv_beq (rv_and (List.all_eq_true.mp lwTok_allI q hq)).2) h
theorem lw_noR {P : Prop} : (∃ q ∈ xlLR, ¬ q.1.1 = 1448) → P := fun ⟨q, hq, h⟩ => absurd (rv_beq (rv_and (List.all_eq_true.mp lwTok_allR q hq)).2) h
theorem lw_no2 {P : Prop} : (∃ q ∈ xlL2, ¬ q.1.1 = 1448) → P := fun ⟨q, hq, h⟩ => absurd (rv_beq (rv_and (List.all_eq_true.mp lwTok_all2 q hq)).2) h
theorem lw_noA {P : Prop} : (∃ q ∈ xlLA, ¬ q.1.1 = 1448) → P := fun ⟨q, hq, h⟩ => absurd (rv_beq (rv_and (List.all_eq_true.mp lwTok_allA q hq)).2) h
/-- a turn of the loop, from the switch on -/
theorem lw_turn (hA : lwAllK) (hR : lwRows) (hm : rvMth 316 = some 9) (hB : (rvInf 316).2.2.1 = 20 ∧ (rvInf 316).2.2.2.1 = 400 ∧ (rvInf 316).1 = 12) (hc : xClo rvTab rvInf rvRet 316 rvMth Gd Met) (hcon : ∀ x, x < 243 → xCon Met (xCons x)) (hM : lwMach RG sc Met) {i v1 v2 v3 v4 v5 : Int} {zs : List Int} {r : List Int} {T pl : List Nat} {aw : rvH} {b1 b2 b3 b5 b6 : rvV} {kc ks w : Nat} (hr : r = i :: v1 :: v2 :: v3 :: v4 :: v5 :: zs) (h : lwInv r T pl aw) (hl : lwLoc pl b1 b2 b3) (hsc : ∀ k : Nat, 1 ≤ k → k ≤ 5 → ∃ v, ([.inl (v1, v1), .inl (v2, v2), .inl (v3, v3), .inl (v4, v4), .inl (v5, v5)] : List rvV)[k - 1]? = some (.inl v) ∧ sc[i.toNat + k]? = some v) (hi : 0 ≤ i) (hi2 : i ≤ 3066) (hw : w < 64) (hk : kc + 60 ≤ 600000) (hs : ks + 1200 ≤ 7000000) (hn2 : w ≠ 2) (hn28 : w ≠ 28) (hw43 : w ≠ 43) (hw40 : w ≠ 40) (h358 : w = 3 → ∀ (al st : List rvV) (aw : rvH) (kc ks : Nat), RG (358, al, st, aw, kc, ks))
    (hN : ∀ (b1 b2 b3 b5 b6 : rvV) (aw' : rvH) (r' : List Int) (T' pl' : List Nat) (k s : Nat), lwInv r' T' pl' aw' → lwFr (lwMs w) T pl aw T' pl' aw' → lwLoc pl' b1 b2 b3 → k ≤ 40 → s ≤ 800 → RG (1448, [.inr (5, 0), b1, b2, b3, .inl (i, i), b5, b6], [], aw', kc + k, ks + s)) : RG (40, [.inr (5, 0), b1, b2, b3, .inl (i, i), b5, b6], [.inl ((w : Int), (w : Int))], aw, kc, ks) := by
  obtain ⟨mS, mI, msp, mP, -, -⟩ := hM
  obtain ⟨hA1, ⟨n4, t4, hA2⟩, ⟨n5, t5, hA3⟩, ⟨n6, t6, hA4⟩, ⟨n7, t7, hA5⟩, ⟨n8, t8, hA6⟩, ⟨nW, tW, hAW⟩, ⟨n9, t9, hA7⟩⟩ := hA
  have hpl : pl.length = 52 := h.1.1.symm
  have hlen := lw_len h
  have clo : ∀ k s : Nat, k ≤ 20 → s ≤ 400 → xClo rvTab rvInf rvRet 317 rvMth (lwGd RG Gd i [.inl (v1, v1), .inl (v2, v2), .inl (v3, v3), .inl (v4, v4), .inl (v5, v5)] (kc + k) (ks + s)) Met := fun k s h1 h2 => lwClo hR hm hB hc mS mI msp hi hi2 (by omega) (by omega) hsc
  have h0 := clo 0 0 (by omega) (by omega)
  have nx : ∀ k s : Nat, k ≤ 20 → s ≤ 400 → lwNext RG i (kc + k) (ks + s) (lwMs w) T pl aw := by
    intro k s h1 h2 c1 c2 c3 c5 c6 aw' r' T' pl' k2 s2 q1 qf q2 q3 q4
    have := hN c1 c2 c3 c5 c6 aw' r' T' pl' (k + k2) (s + s2) q1 qf q2 (by omega) (by omega)
    rw [Nat.add_assoc, Nat.add_assoc]
    exact this
  have w32 : xIn32 (w : Int) := ⟨by omega, by omega⟩
  have back : ∀ (cs : List rvV) (pc : Nat), lwF pc = false → ∀ (aw' : rvH) (c1 c2 c3 c5 c6 : rvV) (k s k2 s2 : Nat), lwG RG i [.inl (v1, v1), .inl (v2, v2), .inl (v3, v3), .inl (v4, v4), .inl (v5, v5)] (kc + k) (ks + s) (pc, [.inr (5, 0), c1, c2, c3, .inl (i, i), c5, c6, .inl (v1, v1), .inl (v2, v2), .inl (v3, v3), .inl (v4, v4), .inl (v5, v5)], cs, aw', k2, s2) → RG (pc, [.inr (5, 0), c1, c2, c3, .inl (i, i), c5, c6], cs, aw', kc + k + k2, ks + s + s2) := by
    intro cs pc hf aw' c1 c2 c3 c5 c6 k s k2 s2 hg
    have := hg c1 c2 c3 c5 c6 rfl
    dsimp only at this
    rw [hf, cond_false] at this
    exact this
  have rel0 : ∀ ms : List Nat, xRel xRgn (xFM (r ++ [], T, pl, aw, [])) (lwS0 ms w) (40, [.inr (5, 0), b1, b2, b3, .inl (i, i), b5, b6, .inl (v1, v1), .inl (v2, v2), .inl (v3, v3), .inl (v4, v4), .inl (v5, v5)], [.inl ((w : Int), (w : Int))], aw, 0, 0) := by
    intro ms
    refine lw_rel (t := []) (E := []) (st := [.inl (0, 0, (w : Int))]) (cs := [.inl ((w : Int), (w : Int))]) hr h hl ⟨xR_K _ _ _ w32, trivial⟩ ?_ ms
    have e : r ++ [] = r := List.append_nil r
    rw [e]
    exact h.2.2.2
  by_cases h45 : w < 45
  · by_cases h4 : w = 4
    · subst h4
      refine back _ 40 lw_f40 aw b1 b2 b3 b5 b6 0 0 0 0 ?_
      refine (lw_run h0 hcon hA2 (rel0 xlM) (by rw [List.append_nil]; omega) (Post := fun _ => True) (fun ci Tm src rk r2 o2 hL hrel2 => ?_)).2 rfl
      obtain ⟨r3, T1, pl1, g1, gf, g2, g3, g4, g5⟩ := lw_cut (P := (r2, T, pl, aw, [])) hpl (List.all_eq_true.mp lwTok_all _ (List.mem_of_getElem? hL)) hrel2
      have gf : lwFr (lwMs 4) T pl aw T1 pl1 o2.2.2.2.1 := gf
      refine ⟨fun h => absurd h (by omega), fun _ => ?_⟩
      intro c1 c2 c3 c5 c6 hal
      have hloc := g2 _ _ _ _ _ _ _ hal
      rcases g3 with ⟨e1, e2⟩ | ⟨e1, e2⟩
      · rw [e1, lw_f1448, cond_false, e2]
        exact nx 0 0 (by omega) (by omega) c1 c2 c3 c5 c6 _ r3 T1 pl1 _ _ g1 gf hloc (by omega) (by omega)
      · rw [e1, lw_f374, cond_false]
        refine mP _ _ _ _ _ r3 T1 pl1 g1 e2 (by omega) (by omega) (fun k aw' r' T' pl' k1 k2 hinv hfr => ?_)
        have epl := hfr.2.1
        subst epl
        have k32 : xIn32 k := ⟨by omega, by omega⟩
        have hinv2 := lw_other hinv hi hi2 (v1 := v1) (v2 := v2) (v3 := v3) (v4 := v4) (v5 := v5) ?_ ?_ ?_ ?_ ?_
        · have hl2 := lw_len hinv2
          have hg := lw_one (clo (0 + o2.2.2.2.2.1) (0 + o2.2.2.2.2.2) (by omega) (by omega)) hcon lw_L2 lw_no2 hA4 (lw_rel (t := [k]) (E := [(0, 1)]) (pc := 377) (kc := 1) (ks := 6) (b5 := c5) (b6 := c6) rfl hinv2 hloc (lw_ext hl2 k32) (lw_q1 hinv2.2.2.2 k1 k2) xlM) (by rw [List.length_append, hl2]; exact Nat.le_trans (by omega) (Nat.le_add_right 13 _)) hinv2.1.1.symm (fun d1 d2 d3 d5 d6 aw9 r9 T9 pl9 k9 s9 q1 qf q2 q3 q4 => nx _ _ (by omega) (by omega) d1 d2 d3 d5 d6 aw9 r9 T9 pl9 k9 s9 q1 (lwFr_trans gf (lwFr_trans hfr qf)) q2 q3 q4)
          have := back _ 377 lw_f377 aw' c1 c2 c3 c5 c6 _ _ 1 6 hg
          rw [Nat.zero_add, Nat.zero_add] at this
          exact this
        all_goals
          have hgg := h.2.2.2.1.2
          subst hr
          first
            | exact hgg 1 _ rfl
            | exact hgg 2 _ rfl
            | exact hgg 3 _ rfl
            | exact hgg 4 _ rfl
            | exact hgg 5 _ rfl
    · have e0 : (r ++ []).length = 13 := by rw [List.append_nil]; exact hlen
      by_cases hw0 : w = 0
      · subst hw0
        exact back _ 40 lw_f40 aw b1 b2 b3 b5 b6 0 0 0 0 (lw_one h0 hcon lw_LA lw_noA hA5 (rel0 xlMA) (by omega) hpl (nx 0 0 (by omega) (by omega)))
      · by_cases hw3 : w = 3
        · subst hw3
          exact back _ 40 lw_f40 aw b1 b2 b3 b5 b6 0 0 0 0 (lw_one h0 hcon (fun q hq => List.all_eq_true.mp lwTok_all3 q hq) (fun _ => h358 rfl) hA6 (rel0 xlM) (by omega) hpl (nx 0 0 (by omega) (by omega)))
        · by_cases hw42 : w = 42
          · subst hw42
            exact back _ 40 lw_f40 aw b1 b2 b3 b5 b6 0 0 0 0 (lw_one h0 hcon lw_LI lw_noI hA7 (rel0 xlMI) (by omega) hpl (nx 0 0 (by omega) (by omega)))
          · by_cases hw38 : w = 38
            · subst hw38
              exact back _ 40 lw_f40 aw b1 b2 b3 b5 b6 0 0 0 0 (lw_one h0 hcon lw_LW lw_noW hAW (rel0 xlMW) (by omega) hpl (nx 0 0 (by omega) (by omega)))
            obtain ⟨n, t, hK⟩ := hA1 w h45 h4 hw0 hn2 hn28 hw42 hw43 hw3 hw40 hw38
            have em : lwMs w = xlM := lwMs_M hw0 hw42 hw38
            have hnx := nx 0 0 (by omega) (by omega)
            rw [em] at hnx
            exact back _ 40 lw_f40 aw b1 b2 b3 b5 b6 0 0 0 0 (lw_one h0 hcon lw_L2 lw_no2 hK (rel0 xlM) (by omega) hpl hnx)
  · have em : lwMs w = xlM := lwMs_M (by omega) (by omega) (by omega)
    have hnx := nx 0 0 (by omega) (by omega)
    rw [em] at hnx
    exact back _ 40 lw_f40 aw b1 b2 b3 b5 b6 0 0 0 0 (lw_one h0 hcon lw_L2 lw_no2 hA3 (lw_rel (t := [(w : Int)]) (E := [(45, 63)]) (pc := 40) (kc := 0) (ks := 0) (b5 := b5) (b6 := b6) hr h hl (lw_ext hlen w32) (lw_q1 h.2.2.2 (by show (45 : Int) ≤ w; omega) (by show (w : Int) ≤ 63; omega)) xlM) (by rw [List.length_append, hlen]; exact Nat.le_trans (by omega) (Nat.le_add_right 13 _)) hpl hnx)
end LWO
