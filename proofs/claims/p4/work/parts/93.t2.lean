/-! A turn with district ends with what holds at the head (by hand). -/
theorem lw_f338 : lwF 338 = false := by decide +kernel
theorem getD_take6 {l l' : List Int} (h : l.take 6 = l'.take 6) (k : Nat) (hk : k < 6) : l.getD k 0 = l'.getD k 0 := by
  have : (l.take 6)[k]? = (l'.take 6)[k]? := by rw [h]
  rw [List.getElem?_take, List.getElem?_take, if_pos hk, if_pos hk] at this
  rw [List.getD_eq_getElem?_getD, List.getD_eq_getElem?_getD, this]
theorem exL_al {x0 x29 x51 : Nat} {i : Int} {b5 b6 : rvV} (hi : xIn32 i) (h5 : exV b5) (h6 : exV b6) : exL [.inr (5, 0), .inr (2, x0), .inr (2, x29), .inr (2, x51), .inl (i, i), b5, b6] :=
  exL_c trivial (exL_c trivial (exL_c trivial (exL_c trivial (exL_c ⟨rfl, hi⟩ (exL_c h5 (exL_c h6 (fun v hv => by cases hv)))))))
section T2
variable {RG : rvS → Prop} {sc : List (Int × Int)} {Met : Nat → List rvV → rvH → (xRes2 → Prop) → Prop}
set_option maxHeartbeats 4000000 in
theorem lw_c2 (mS : lwS RG sc) (mI : lwI RG Met) (msp : ∀ (pc : Nat) (al st : List rvV) (a : Int × Int) (aw : rvH) (kc ks : Nat), (∀ n, a.1 ≤ n → n ≤ a.2 → xIn32 n → RG (pc, al, .inl (n, n) :: st, aw, kc, ks)) → RG (pc, al, .inl a :: st, aw, kc, ks)) (hM : ∀ (j : Nat) (as : List rvV) (aw : rvH) (Q : xRes2 → Prop), EvM rvTab rvInf rvRet 316 rvMth j as aw Q → Met j as aw Q) (hpt : ∀ (k : Nat) (v : Int × Int), sc[k]? = some v → v.2 = v.1 ∧ xIn32 v.1) {i v1 v2 v3 v4 v5 : Int} {zs r : List Int} {T pl : List Nat} {aw : rvH} {b1 b2 b3 b5 b6 : rvV} {kc ks : Nat} (hr : r = i :: v1 :: v2 :: v3 :: v4 :: v5 :: zs) (h : lwInv r T pl aw) (hP : PI pl aw) (hl : lwLoc pl b1 b2 b3) (hb5 : exV b5) (hb6 : exV b6) (hsc : ∀ k : Nat, 1 ≤ k → k ≤ 5 → ∃ v, ([.inl (v1, v1), .inl (v2, v2), .inl (v3, v3), .inl (v4, v4), .inl (v5, v5)] : List rvV)[k - 1]? = some (.inl v) ∧ sc[i.toNat + k]? = some v) (hi : 0 ≤ i) (hi2 : i ≤ 3066) (hk : kc + 60 ≤ 600000) (hs : ks + 1200 ≤ 7000000)
    (hN : ∀ (c1 c2 c3 c5 c6 : rvV) (aw' : rvH) (r' : List Int) (T' pl' : List Nat) (k s : Nat), lwInv r' T' pl' aw' → PI pl' aw' → lwLoc pl' c1 c2 c3 → exV c5 → exV c6 → k ≤ 40 → s ≤ 800 → RG (1448, [.inr (5, 0), c1, c2, c3, .inl (i, i), c5, c6], [], aw', kc + k, ks + s)) : RG (40, [.inr (5, 0), b1, b2, b3, .inl (i, i), b5, b6], [.inl (2, 2)], aw, kc, ks) := by
  obtain ⟨ans, pX, pM⟩ := c2_XM h hP
  have hl0 := hl
  obtain ⟨⟨x0, rfl, p0⟩, ⟨x29, rfl, p29⟩, ⟨x51, rfl, p51⟩⟩ := hl
  have hpl : pl.length = 52 := h.1.1.symm
  have hlen := lw_len h
  have hi32 : xIn32 i := ⟨by omega, by omega⟩
  have hcX := EvX_clo (tab := rvTab) (info := rvInf) (rets := rvRet) (NM := 316) (mth := rvMth) jw
  have hconX := xc_all hcX
  have clo1 := lwClo (RG := lwX RG (trkA [.inr (5, 0), .inr (2, x0), .inr (2, x29), .inr (2, x51), .inl (i, i), b5, b6] aw x0 ans)) (k0 := kc) (s0 := ks) lw_rows lw_m9 lw_inf hcX (lwX_S mS hpt trkA_step) (lwX_I mI hM (fun pc al st aw' kc' ks' j2 as rest _ hinv _ _ hR => by
    obtain ⟨P, q1, q2⟩ := trkA_call (pX x0 p0) pc al st aw' kc' ks' j2 as rest hinv hR
    exact ⟨P, q1, fun res hres _ => q2 res hres _ _⟩)) (lwX_sp msp) hi hi2 (by omega) (by omega) hsc
  have hrel := lw_rel (t := []) (E := []) (st := [.inl (0, 0, 2)]) (cs := [.inl (2, 2)]) (pc := 40) (kc := 0) (ks := 0) (b5 := b5) (b6 := b6) hr h hl0 ⟨xR_K _ _ _ ⟨by omega, by omega⟩, trivial⟩ (by have e : r ++ [] = r := List.append_nil r; rw [e]; exact h.2.2.2) xlM2
  have hK : xlRB xlCB xlM2 xlLB (40, lwAl, [.inl (0, 0, 2)], lwAh, (0, xlM2, []) :: lwFs, (lwN ++ [], lwC), 0, 0) _ _ = true := xlKB_2
  have hG := (lw_runB clo1 hconX hK hrel (by rw [List.append_nil]; omega) (Post := fun _ => True) (fun ci Tm src rk r2 o2 hL h6 hrel2 => ?_)).2 rfl
  · have h40 := hG _ _ _ _ _ rfl
    dsimp only at h40
    rw [lw_f40, cond_false] at h40
    exact h40 ⟨exL_al hi32 hb5 hb6, exL_c ⟨rfl, by omega, by omega⟩ (fun v hv => by cases hv), hP.1⟩ ⟨rfl, Or.inl ⟨rfl, rfl, rfl⟩⟩
  obtain ⟨r3, T1, z, g1, gf, g3, g13, gst, gpc, gk, gs, gl⟩ := lw_cutB (P := (r2, T, pl, aw, [])) hpl (List.all_eq_true.mp lwTokB_all _ (List.mem_of_getElem? hL)) hrel2
  have gf : lwFr xlM2 T pl aw T1 pl o2.2.2.2.1 := gf
  have g1 : lwInv2 r3 T1 pl o2.2.2.2.1 := g1
  refine ⟨fun h => absurd h (by omega), fun _ => ?_⟩
  intro c1 c2 c3 c5 c6 hal
  have hloc : lwLoc pl c1 c2 c3 := gl _ _ _ _ _ _ _ hal
  rw [gpc, lw_f338, cond_false, gst]
  intro hex2 hr2
  obtain ⟨hal2, hcs⟩ := hr2
  dsimp only at hal2 hcs
  have hz : z = ans := by
    rcases hcs with ⟨e, -⟩ | ⟨e, -⟩ | ⟨e, -⟩ | ⟨-, e⟩ | e | e | e | e | e
    · omega
    · omega
    · omega
    · have e1 := (List.cons.inj e).1
      exact (Prod.mk.inj (Sum.inl.inj e1)).1
    · omega
    · omega
    · omega
    · omega
    · omega
  subst hz
  obtain ⟨k1, hk1⟩ : ∃ k, k = o2.2.2.2.2.1 := ⟨_, rfl⟩
  obtain ⟨s1, hs1⟩ : ∃ s, s = o2.2.2.2.2.2 := ⟨_, rfl⟩
  rw [← hk1, ← hs1]
  rw [← hk1] at gk
  rw [← hs1] at gs
  have pM1 := pM T1 o2.2.2.2.1 xlM2 (gS_inv2 g1) hex2.2.2 gf xlM2_no.1 xlM2_no.2.1 xlM2_no.2.2 x29 p29
  have clo2 := lwClo (RG := lwX RG (trkB [.inr (5, 0), .inr (2, x0), .inr (2, x29), .inr (2, x51), .inl (i, i), b5, b6] o2.2.2.2.1 x29 z)) (k0 := kc + k1) (s0 := ks + s1) lw_rows lw_m9 lw_inf hcX (lwX_S mS hpt trkB_step) (lwX_I mI hM (fun pc al st aw' kc' ks' j2 as rest _ hinv _ _ hR => by
    obtain ⟨P, q1, q2⟩ := trkB_call pM1 pc al st aw' kc' ks' j2 as rest hinv hR
    exact ⟨P, q1, fun res hres _ => q2 res hres _ _⟩)) (lwX_sp msp) hi hi2 (by omega) (by omega) hsc
  have h6' : r2.take 6 = r.take 6 := by rw [h6, List.append_nil]
  have e : ∀ k, k < 6 → r3.getD k 0 = r.getD k 0 := fun k hk => (g3 k (by omega)).trans (getD_take6 h6' k hk)
  have hrel3 := lw_rel2 (i := i) (v1 := v1) (v2 := v2) (v3 := v3) (v4 := v4) (v5 := v5) (b5 := c5) (b6 := c6) (by rw [e 0 (by omega), hr]; rfl) (by rw [e 1 (by omega), hr]; rfl) (by rw [e 2 (by omega), hr]; rfl) (by rw [e 3 (by omega), hr]; rfl) (by rw [e 4 (by omega), hr]; rfl) (by rw [e 5 (by omega), hr]; rfl) g13 g1 hloc xlM
  have hKD : xlR xlM xlLD (338, lwAl, [.inl (13, 1, 0)], lwAh2, (0, xlM, []) :: lwFs, (lwN2, lwC), 0, 0) _ _ = true := xlKB_102
  have hg2 := lw_one clo2 hconX (fun q hq => List.all_eq_true.mp lwTokD_all q hq) (fun _ al st aw' kc' ks' _ hb => ?_) hKD hrel3 (by rw [lw_len2 g1]; omega) hpl (fun d1 d2 d3 d5 d6 aw2 r4 T2 pl2 k2 s2 q1 qf q2 q3 q4 hex3 _ => ?_)
  · have h338 := hg2 _ _ _ _ _ rfl
    dsimp only at h338
    rw [lw_f338, cond_false] at h338
    exact h338 hex2 ⟨hal2, Or.inl ⟨rfl, rfl, rfl⟩⟩
  · obtain ⟨-, hb⟩ := hb
    dsimp only at hb
    rcases hb with ⟨e, -⟩ | ⟨e, -⟩ | ⟨e, -⟩ | e <;> omega
  · have e5 : exV d5 := hex3.1 d5 (by simp)
    have e6 : exV d6 := hex3.1 d6 (by simp)
    have := hN d1 d2 d3 d5 d6 aw2 r4 T2 pl2 (k1 + k2) (s1 + s2) q1 (PI_keep (gS_inv h) hP (lwFr_trans (lwFr_mono xlM2_sub gf) qf) hex3.2.2) q2 e5 e6 (by omega) (by omega)
    rw [← Nat.add_assoc, ← Nat.add_assoc] at this
    exact this
end T2
