/-! Images; a field that may be null. -/
theorem xKn_wf {S : xS} {k : Nat} {b v : Nat × Int × Int} {r : List Int} {T pl : List Nat} {aw : rvH} {m : Nat} (h4 : xSt r T pl S.2.2.2.1 aw) (h7 : xQs S.2.2.2.2.2.1 r) (hb : xVal r (xSm b) = (m : Int)) (h : xKn S k b = some v) : xWf r.length (xSm v).1 := by
  unfold xKn at h
  split at h
  · rename_i s hk
    obtain ⟨i, c, p1, p2, p3, p4⟩ := h4.2 k s hk
    split at h
    · rename_i w hv
      cases h
      obtain ⟨w, w1, w2⟩ := xFindL_ok h7 hb hv p4
      exact w2.1
    · cases h
  · cases h
def xG9 (h : Nat) (on : Option Nat) (S : xS) : Option xS := match on with
  | none => some (xPut5 S (9, [h, 0], []))
  | some n => (match xHas S.2.2.2.2.1 9 [h, n] with
    | some [] => (match xKn S 31 (0, 0, (n : Int)), xKn S 48 (0, 0, ((296 * h + n : Nat) : Int)) with
      | some v, some w => bif xSame S.2.2.2.2.2.1 v w then some (xPut5 (xWf2 S (xOut 9 [h, n] S.2.2.2.2.1)) (9, [h, n + 1], [])) else none
      | _, _ => none)
    | _ => none)
theorem xG9_ok {P : xP} {rg : Nat → xG} {h9 : Nat} {on : Option Nat} {S S' : xS} {o : rvS} (hs : xG9 h9 on S = some S') (h : xRel rg (xFM P) S o) : xRel rg (xFM P) S' o := by
  obtain ⟨r, T, pl, h1, h2, h3, h4, h5, h6, h7, h8, hk⟩ := h
  unfold xG9 at hs
  split at hs
  · cases hs
    exact xPut5_ok h1 h2 h3 h4 h5 h6 h7 h8 hk ⟨(fun v hv => by cases hv), fun i hi => absurd hi (Nat.not_lt_zero i)⟩
  · rename_i n
    split at hs
    · rename_i hh
      obtain ⟨-, hh⟩ := h6 _ (xHas_ok hh)
      split at hs
      · rename_i v w hv hw
        obtain ⟨hc, rfl⟩ := rv_bif hs
        have k1 : xRd pl o.2.2.2.1 31 n = some (xVal r (xSm v)) := xKn_ok h4 h7 (xV0 r _) hv
        have k2 : xRd pl o.2.2.2.1 48 (296 * h9 + n) = some (xVal r (xSm w)) := xKn_ok h4 h7 (xV0 r _) hw
        have k3 := xSame_ok h7 hc
        refine xPut5_ok (S := xWf2 S (xOut 9 [h9, n] S.2.2.2.2.1)) h1 h2 h3 h4 h5 (fun f hf9 => h6 f (List.mem_filter.mp hf9).1) h7 h8 hk ⟨(fun v hv => by cases hv), fun i hi => ?_⟩
        by_cases e : i = n
        · subst e
          exact ⟨_, k1, by rw [k2, k3]⟩
        · exact hh i (by omega)
      · cases hs
    · cases hs
noncomputable def xG11 (d h : Nat) (S : xS) : Option xS := match xHas S.2.2.2.2.1 9 [h, 296], xHas S.2.2.2.2.1 7 [], xHas S.2.2.2.2.1 4 [5] with
  | some [], some [], some [B] => (match xKn S 31 (0, 0, 3), xKn S 31 (0, 0, 0), xKn S 31 (0, 0, 2) with
    | some v, some a, some c => bif xSame S.2.2.2.2.2.1 v B && (xEnt S.2.2.2.2.2.1.1 S.2.2.2.2.2.1.2 d (xSub (xK 100) (xSm B)) && xEnt S.2.2.2.2.2.1.1 S.2.2.2.2.2.1.2 d (xSub (xMul 10 (xSm a)) (xSm c))) then some (xPut5 (xWf2 S (xOut 9 [h, 296] S.2.2.2.2.1)) (11, [h], [])) else none
    | _, _, _ => none)
  | _, _, _ => none
theorem xGrp5 : xGrp 5 = ([(31, 1, 88)], [[(1, 40)]]) := rfl
theorem xG11_ok {P : xP} {rg : Nat → xG} {d h9 : Nat} {S S' : xS} {o : rvS} (hs : xG11 d h9 S = some S') (h : xRel rg (xFM P) S o) : xRel rg (xFM P) S' o := by
  obtain ⟨r, T, pl, h1, h2, h3, h4, h5, h6, h7, h8, hk⟩ := h
  unfold xG11 at hs
  split at hs
  · rename_i B he hr hB
    obtain ⟨-, he⟩ := h6 _ (xHas_ok he)
    obtain ⟨-, hr⟩ := h6 _ (xHas_ok hr)
    obtain ⟨-, hB⟩ := h6 _ (xHas_ok hB)
    have he : ∀ i, i < 296 → ∃ z, xRd pl o.2.2.2.1 31 i = some z ∧ xRd pl o.2.2.2.1 48 (296 * h9 + i) = some z := he
    have hr : xRsn (xRd pl o.2.2.2.1 31) := hr
    have hB : xPf (xRd pl o.2.2.2.1) 5 (xVal r (xSm B)) := hB
    split at hs
    · rename_i v a c hv ha hc
      obtain ⟨hb, rfl⟩ := rv_bif hs
      obtain ⟨b1, e2⟩ := rv_and hb
      obtain ⟨b2, b3⟩ := rv_and e2
      have k1 : xRd pl o.2.2.2.1 31 3 = some (xVal r (xSm v)) := xKn_ok h4 h7 (xV0 r _) hv
      have k2 : xRd pl o.2.2.2.1 31 0 = some (xVal r (xSm a)) := xKn_ok h4 h7 (xV0 r _) ha
      have k3 : xRd pl o.2.2.2.1 31 2 = some (xVal r (xSm c)) := xKn_ok h4 h7 (xV0 r _) hc
      rw [xSame_ok h7 b1] at k1
      have q2 := xEnt_ok h7.1 h7.2.1 d b2
      have q3 := xEnt_ok h7.1 h7.2.1 d b3
      rw [xSub_ok, xK_ok] at q2
      rw [xSub_ok, xMul_ok] at q3
      have si : xSi (xRd pl o.2.2.2.1 31) := by
        refine ⟨⟨_, k1, by omega, fun j hj => ?_⟩, hr, _, _, k2, k3, by omega⟩
        obtain ⟨bx, m, hbx⟩ := hB j hj
        rw [xGrp5] at m hbx
        have e := List.mem_singleton.mp m
        subst e
        obtain ⟨⟨z, z1, z2, z3⟩, -⟩ := hbx
        have z1 : xRd pl o.2.2.2.1 31 (1 * j + 88) = some z := z1
        rw [Nat.one_mul, Nat.add_comm] at z1
        exact ⟨z, z1, z2, z3⟩
      refine xPut5_ok (S := xWf2 S (xOut 9 [h9, 296] S.2.2.2.2.1)) h1 h2 h3 h4 h5 (fun f hf9 => h6 f (List.mem_filter.mp hf9).1) h7 h8 hk ⟨(fun v hv => by cases hv), ?_⟩
      show xSi (fun j => xRd pl o.2.2.2.1 48 (296 * h9 + j))
      refine xSi_mono (fun j hj z hz => ?_) si
      obtain ⟨z2, z3, z4⟩ := he j (by omega)
      rw [hz] at z3
      have e := Option.some.inj z3
      subst e
      exact z4
    · cases hs
  · cases hs
def xGbk (h : Nat) (S : xS) : Option (List xS) := match xHas S.2.2.2.2.1 9 [h, 296], xHas S.2.2.2.2.1 11 [h] with
  | some [], some [] => (match xKn S 31 (0, 0, 3), xKn S 31 (0, 0, 0), xKn S 31 (0, 0, 2) with
    | some v, some a, some c => (match xKnow (xSub (xMul 10 (xSm a)) (xSm c)) S.2.2.2.2.2.1 with
      | none => some []
      | some Q => some [xPut5 (xPut5 (xWq (xWf2 S (xOut 9 [h, 296] S.2.2.2.2.1)) Q) (7, [], [])) (4, [5], [v])])
    | _, _, _ => none)
  | _, _ => none
theorem xGbk_ok {P : xP} {rg : Nat → xG} {h9 : Nat} {S : xS} {Ss : List xS} {o : rvS} (hs : xGbk h9 S = some Ss) (h : xRel rg (xFM P) S o) : ∃ S' ∈ Ss, xRel rg (xFM P) S' o := by
  obtain ⟨r, T, pl, h1, h2, h3, h4, h5, h6, h7, h8, hk⟩ := h
  unfold xGbk at hs
  split at hs
  · rename_i he hki
    obtain ⟨-, he⟩ := h6 _ (xHas_ok he)
    obtain ⟨-, hki⟩ := h6 _ (xHas_ok hki)
    have he : ∀ i, i < 296 → ∃ z, xRd pl o.2.2.2.1 31 i = some z ∧ xRd pl o.2.2.2.1 48 (296 * h9 + i) = some z := he
    have hki : xSi (fun j => xRd pl o.2.2.2.1 48 (296 * h9 + j)) := hki
    have si : xSi (xRd pl o.2.2.2.1 31) := by
      refine xSi_mono (fun j hj z hz => ?_) hki
      obtain ⟨z2, z3, z4⟩ := he j (by omega)
      have hz : xRd pl o.2.2.2.1 48 (296 * h9 + j) = some z := hz
      rw [hz] at z4
      have e := Option.some.inj z4
      subst e
      exact z3
    obtain ⟨⟨b, b1, b2, b3⟩, hr, a0, c0, a1, c1, ac⟩ := si
    split at hs
    · rename_i v a c hv ha hc
      have k1 : xRd pl o.2.2.2.1 31 3 = some (xVal r (xSm v)) := xKn_ok h4 h7 (xV0 r _) hv
      have k2 : xRd pl o.2.2.2.1 31 0 = some (xVal r (xSm a)) := xKn_ok h4 h7 (xV0 r _) ha
      have k3 : xRd pl o.2.2.2.1 31 2 = some (xVal r (xSm c)) := xKn_ok h4 h7 (xV0 r _) hc
      have wv := xKn_wf h4 h7 (xV0 r _) hv
      rw [b1] at k1
      rw [a1] at k2
      rw [c1] at k3
      have k1 := Option.some.inj k1
      have k2 := Option.some.inj k2
      have k3 := Option.some.inj k3
      obtain ⟨Q, q1, hQ, -⟩ := xKnow_ok (l := xSub (xMul 10 (xSm a)) (xSm c)) h7 (by rw [xSub_ok, xMul_ok]; omega)
      rw [q1] at hs
      have hs : some [xPut5 (xPut5 (xWq (xWf2 S (xOut 9 [h9, 296] S.2.2.2.2.1)) Q) (7, [], [])) (4, [5], [v])] = some Ss := hs
      cases hs
      refine ⟨_, List.mem_singleton.mpr rfl, xPut5_ok (S := xPut5 (xWq (xWf2 S (xOut 9 [h9, 296] S.2.2.2.2.1)) Q) (7, [], [])) h1 h2 h3 h4 h5 (fun f hf9 => ?_) hQ h8 hk ⟨xW1 wv, ?_⟩⟩
      · rcases List.mem_cons.mp hf9 with e | hf9
        · rw [e]
          exact ⟨(fun v hv => by cases hv), hr⟩
        · exact h6 f (List.mem_filter.mp (List.mem_filter.mp hf9).1).1
      · show xPf (xRd pl o.2.2.2.1) 5 (xVal r (xSm v))
        rw [← k1]
        intro j hj
        rw [xGrp5]
        obtain ⟨z, z1, z2, z3⟩ := b3 j hj
        refine ⟨[(1, 40)], List.mem_singleton.mpr rfl, ⟨z, ?_, z2, z3⟩, trivial⟩
        show xRd pl o.2.2.2.1 31 (1 * j + 88) = some z
        rw [Nat.one_mul, Nat.add_comm]
        exact z1
    · cases hs
  · cases hs
/-- a field of a strong cell is null, or it is not -/
def xGnul (rg : Nat → xG) (k j : Nat) (S : xS) : Option (List xS) := match S.2.2.2.1[k]? with
  | some s => (match xTyp rg s.1 j with
    | some (.inr (21, g)) => some [xWa S (S.2.2.2.1.set k (s.1, ((0, 0, (j : Int)), .inr (0, 0)) :: s.2.filter (xKeepO j))) S.2.2.2.2.2.1, xWa S (S.2.2.2.1.set k (s.1, ((0, 0, (j : Int)), .inr (20, g)) :: s.2.filter (xKeepO j))) S.2.2.2.2.2.1]
    | _ => none)
  | none => none
theorem xGnul_ok {rg : Nat → xG} {fm : xF → List Int → List Nat → List Nat → rvH → Prop} {k j : Nat} {S : xS} {Ss : List xS} {o : rvS} (hs : xGnul rg k j S = some Ss) (h : xRel rg fm S o) : ∃ S' ∈ Ss, xRel rg fm S' o := by
  obtain ⟨r, T, pl, h1, h2, h3, h4, h5, h6, h7, h8, h9⟩ := h
  unfold xGnul at hs
  split at hs
  · rename_i s hk
    obtain ⟨i, c, p1, p2, p3, p4⟩ := h4.2 k s hk
    split at hs
    · rename_i g ht
      cases hs
      obtain ⟨w, w1, hw⟩ := xTyp_ok (h5.2 i s.1 c p2 p3) ht
      obtain ⟨v2, v3⟩ := xSm_nat r j
      have put : ∀ v, xR r T pl v w → xRel rg fm (xWa S (S.2.2.2.1.set k (s.1, ((0, 0, (j : Int)), v) :: s.2.filter (xKeepO j))) S.2.2.2.2.2.1) o := by
        intro v hv
        refine ⟨r, T, pl, h1, h2, h3, xSt_put h4 hk p1 p3 (fun b hb9 => ?_), h5, h6, h7, h8, h9⟩
        rcases List.mem_cons.mp hb9 with e | hb9
        · rw [e]
          exact ⟨v2, j, _, v3, w1, hv⟩
        · exact p4 b (List.mem_filter.mp hb9).1
      rcases hw with ⟨z, rfl⟩ | ⟨g1, i2, g2, rfl⟩
      · exact ⟨_, List.mem_cons_self, put (.inr (0, 0)) ⟨z, rfl⟩⟩
      · exact ⟨_, List.mem_cons_of_mem _ List.mem_cons_self, put (.inr (20, g)) ⟨g1, i2, g2, rfl⟩⟩
    · cases hs
  · cases hs
