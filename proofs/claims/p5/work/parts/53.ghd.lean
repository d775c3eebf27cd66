/-! More of the reference's sentences and images. -/
/-- the slot off + q * j of the strong row k gets a number's name -/
noncomputable def xGrcl (rg : Nat → xG) (d k q off : Nat) (p : Nat × Nat × Nat) (S : xS) : Option xS := match S.2.2.2.1[k]?, xPlc S p with
  | some s, some j => (match xFindL S.2.2.2.2.2.1 (xAd j q off) s.2 with
    | some _ => some S
    | none => (match rg s.1 with
      | .inr (_, n, per, sg) => bif xBnd d S.2.2.2.2.2.1 (xAd j q off) n && Nat.blt 0 per then (match xHull sg (xResid S.2.2.2.2.2.1 per (xAd j q off)) with
        | some t => some (xWa S (S.2.2.2.1.set k (s.1, (xAd j q off, (xNew t S.2.2.2.2.2.1).2) :: s.2)) (xNew t S.2.2.2.2.2.1).1)
        | none => none) else none
      | .inl _ => none))
  | _, _ => none
theorem xGrcl_ok {rg : Nat → xG} {fm : xF → List Int → List Nat → List Nat → rvH → Prop} (hf : xFm fm) {d k q off : Nat} {p : Nat × Nat × Nat} {S S' : xS} {o : rvS} (hs : xGrcl rg d k q off p S = some S') (h : xRel rg fm S o) : xRel rg fm S' o := by
  obtain ⟨r, T, pl, h1, h2, h3, h4, h5, h6, h7, h8, h9⟩ := h
  unfold xGrcl at hs
  split at hs
  · rename_i s j hk hj
    have hw := xPlc_ok (rg := rg) (fm := fm) h2 h3 h4 hj
    split at hs
    · cases hs
      exact ⟨r, T, pl, h1, h2, h3, h4, h5, h6, h7, h8, h9⟩
    · split at hs
      · rename_i q9 n per sg hr
        cases hb : (xBnd d S.2.2.2.2.2.1 (xAd j q off) n && Nat.blt 0 per) with
        | false => rw [hb] at hs; cases hs
        | true =>
          rw [hb] at hs
          simp only [cond_true] at hs
          obtain ⟨b1, b2⟩ := rv_and hb
          have b2 := rv_blt b2
          obtain ⟨l1, l2⟩ := xBnd_ok h7 b1
          obtain ⟨i, c, p1, p2, p3, p4⟩ := h4.2 k s hk
          have hc := h5.2 i s.1 c p2 p3
          rw [hr] at hc
          obtain ⟨dv, cv, rfl, hty⟩ := xCell_row hc
          have hkey : xVal r (xSm (xAd j q off)) = (((xVal r (xSm (xAd j q off))).toNat : Nat) : Int) := by omega
          have hn : (xVal r (xSm (xAd j q off))).toNat < n := by omega
          split at hs
          · rename_i t ht
            cases hs
            obtain ⟨y, y1, y2, y3, y4⟩ := xRow_ty hty h7 b2 hkey hn ht
            obtain ⟨r', hr9, hQ2, hv2⟩ := xNew_ok (a := t) T pl h7 y1 y2 y3
            have gr := xG_r (T := T) (pl := pl) hr9
            obtain ⟨tr, rfl⟩ := hr9
            refine ⟨r ++ tr, T, pl, h1, xRs_grow gr h2, xRs_grow gr h3, ?_, h5, fun f hf9 => hf f r tr T pl _ (h6 f hf9), hQ2, h8, h9⟩
            refine xSt_put (xSt_app tr h4) hk p1 p3 (fun b hb9 => ?_)
            rcases List.mem_cons.mp hb9 with e | hb9
            · rw [e]
              refine ⟨xWf_app (xAd_wf hw), _, .inl (y, y), (by rw [xVal_app (xAd_wf hw)]; exact hkey), ?_, hv2⟩
              show (bif Nat.blt _ n then some (rvLook dv cv _) else none) = _
              have hbl : Nat.blt (xVal r (xSm (xAd j q off))).toNat n = true := Nat.ble_eq_true_of_le hn
              rw [hbl, y4]
              rfl
            · exact xOv_grow gr (p4 b hb9)
          · cases hs
      · cases hs
  · cases hs
theorem xW1 {n : Nat} {a : Nat × Int × Int} (h1 : xWf n (xSm a).1) : ∀ v ∈ [a], xWf n (xSm v).1 := by
  intro v hv
  rw [List.mem_singleton.mp hv]; exact h1
theorem xW2 {n : Nat} {a b : Nat × Int × Int} (h1 : xWf n (xSm a).1) (h2 : xWf n (xSm b).1) : ∀ v ∈ [a, b], xWf n (xSm v).1 := by
  intro v hv
  rcases List.mem_cons.mp hv with e | hv
  · rw [e]; exact h1
  · rw [List.mem_singleton.mp hv]; exact h2
/-- the fact 6: the row s is the row read, so far -/
def xG6 (op : Nat) (S : xS) : Option xS := match op with
  | 0 => some (xPut5 S (6, [], [(0, 0, 0)]))
  | _ => (match xHas S.2.2.2.2.1 6 [] with
    | some [b] => (match xKn S 31 (xUp b 116), xKn S 33 b with
      | some v, some w => bif xSame S.2.2.2.2.2.1 v w then some (xPut5 S (6, [], [xUp b 1])) else none
      | _, _ => none)
    | _ => none)
theorem xG6_ok {P : xP} {rg : Nat → xG} {op : Nat} {S S' : xS} {o : rvS} (hs : xG6 op S = some S') (h : xRel rg (xFM P) S o) : xRel rg (xFM P) S' o := by
  obtain ⟨r, T, pl, h1, h2, h3, h4, h5, h6, h7, h8, h9⟩ := h
  unfold xG6 at hs
  split at hs
  · cases hs
    exact xPut5_ok h1 h2 h3 h4 h5 h6 h7 h8 h9 ⟨xW1 xW0, 0, xV0 r 0, fun i hi => absurd hi (Nat.not_lt_zero i)⟩
  · split at hs
    · rename_i b hh
      obtain ⟨w, n, e1, hh⟩ := h6 _ (xHas_ok hh)
      have e1 : xVal r (xSm b) = (n : Int) := e1
      have w := w b (List.mem_singleton.mpr rfl)
      split at hs
      · rename_i v x hv hx
        obtain ⟨hc, rfl⟩ := rv_bif hs
        have k1 : xRd pl o.2.2.2.1 31 (116 + n) = some (xVal r (xSm v)) := xKn_ok h4 h7 (by rw [xUp_v, e1]; omega) hv
        have k2 : xRd pl o.2.2.2.1 33 n = some (xVal r (xSm x)) := xKn_ok h4 h7 e1 hx
        have k3 := xSame_ok h7 hc
        refine xPut5_ok h1 h2 h3 h4 h5 h6 h7 h8 h9 ⟨xW1 (xUp_w w), n + 1, ?_, fun i hi => ?_⟩
        · show xVal r (xSm (xUp b 1)) = _
          rw [xUp_v, e1]; omega
        · by_cases e : i = n
          · subst e
            exact ⟨_, k1, by rw [k2, k3]⟩
          · exact hh i (by omega)
      · cases hs
    · cases hs
/-- the fact 7: s holds a good sentence: none (0), or the one that was told (1) -/
noncomputable def xG7 (d op : Nat) (S : xS) : Option xS := match op with
  | 0 => (match xKn S 31 (0, 0, 115) with
    | some v => bif xPt S.2.2.2.2.2.1 v 0 then some (xPut5 S (7, [], [])) else none
    | none => none)
  | _ => (match xHas S.2.2.2.2.1 5 [], xHas S.2.2.2.2.1 6 [], xKn S 31 (0, 0, 115) with
    | some [c, _, _], some [b], some v => bif xSame S.2.2.2.2.2.1 v c && (xEnt S.2.2.2.2.2.1.1 S.2.2.2.2.2.1.2 d (xSub (xSm b) (xMul 3 (xSm c))) && xEnt S.2.2.2.2.2.1.1 S.2.2.2.2.2.1.2 d (xSub (xK 60) (xSm c))) then some (xPut5 S (7, [], [])) else none
    | _, _, _ => none)
theorem xG7_ok {P : xP} {rg : Nat → xG} {d op : Nat} {S S' : xS} {o : rvS} (hs : xG7 d op S = some S') (h : xRel rg (xFM P) S o) : xRel rg (xFM P) S' o := by
  obtain ⟨r, T, pl, h1, h2, h3, h4, h5, h6, h7, h8, h9⟩ := h
  have put : xRsn (xRd pl o.2.2.2.1 31) → xRel rg (xFM P) (xPut5 S (7, [], [])) o := fun hr => xPut5_ok h1 h2 h3 h4 h5 h6 h7 h8 h9 ⟨(fun v hv => by cases hv), hr⟩
  unfold xG7 at hs
  split at hs
  · split at hs
    · rename_i v hv
      obtain ⟨hc, rfl⟩ := rv_bif hs
      have k1 : xRd pl o.2.2.2.1 31 115 = some (xVal r (xSm v)) := xKn_ok h4 h7 (xV0 r 115) hv
      rw [xPt_ok h7 hc] at k1
      exact put ⟨0, 0, by omega, k1, rfl⟩
    · cases hs
  · split at hs
    · rename_i c t e b v hc hb hv
      obtain ⟨hc9, rfl⟩ := rv_bif hs
      obtain ⟨b1, e2⟩ := rv_and hc9
      obtain ⟨b2, b3⟩ := rv_and e2
      obtain ⟨-, n, m, k, f1, f2, f3, f4⟩ := h6 _ (xHas_ok hc)
      obtain ⟨-, nb, g1, g2⟩ := h6 _ (xHas_ok hb)
      have f1 : xVal r (xSm c) = (n : Int) := f1
      have g1 : xVal r (xSm b) = (nb : Int) := g1
      have k1 : xRd pl o.2.2.2.1 31 115 = some (xVal r (xSm v)) := xKn_ok h4 h7 (xV0 r 115) hv
      rw [xSame_ok h7 b1, f1] at k1
      have q2 := xEnt_ok h7.1 h7.2.1 d b2
      have q3 := xEnt_ok h7.1 h7.2.1 d b3
      rw [xSub_ok, xMul_ok] at q2
      rw [xSub_ok, xK_ok] at q3
      refine put ⟨n, _, by omega, k1, xHt_mono n (fun i hi z hz => ?_) f3⟩
      obtain ⟨z2, z3, z4⟩ := g2 (3 * i) (by omega)
      have hz : xRd pl o.2.2.2.1 33 (3 * i) = some z := hz
      rw [z4] at hz
      have e : z2 = z := Option.some.inj hz
      subst e
      exact z3
    · cases hs
/-- the fact 8: how high the codes stand behind the i-th -/
def xRc1 (i n v : Nat × Int × Int) (lo hi need dn : Int) (S : xS) : List xS := match xKnow (xSub (xSm v) (xK lo)) S.2.2.2.2.2.1 with
  | none => []
  | some Q1 => (match xKnow (xSub (xK hi) (xSm v)) Q1 with
    | none => []
    | some Q2 => (match xKnow (xSub (xSm n) (xK need)) Q2 with
      | none => []
      | some Q3 => [xPut5 (xWq S Q3) (8, [], [xUp i 1, xUp n dn])]))
noncomputable def xG8 (d op : Nat) (S : xS) : Option (List xS) := match op with
  | 0 => some [xPut5 S (8, [], [(0, 0, 0), (0, 0, 0)])]
  | _ => (match xHas S.2.2.2.2.1 8 [], xHas S.2.2.2.2.1 7 [], xKn S 31 (0, 0, 115) with
    | some [i, n], some [], some c => (match xKn S 31 (xAd i 3 116) with
      | some v => bif xEnt S.2.2.2.2.2.1.1 S.2.2.2.2.2.1.2 d (xSub (xSub (xSm c) (xSm i)) (xK 1)) then some (xRc1 i n v (-2147483648) 19 0 1 S ++ (xRc1 i n v 20 20 1 0 S ++ (xRc1 i n v 21 22 2 (-1) S ++ xRc1 i n v 23 2147483647 0 1 S))) else none
      | none => none)
    | _, _, _ => none)
theorem xHt_nn {f : Nat → Option Int} : ∀ (n : Nat) {h : Int}, xHt f n = some h → 0 ≤ h
  | 0, h, hh => by
      have e := Option.some.inj hh
      omega
  | n + 1, h, hh => by
      unfold xHt at hh
      split at hh
      · rename_i k z h1 h2
        have := xHt_nn n h1
        cases hb : decide (z = 20) with
        | true =>
          rw [hb] at hh
          cases h3 : decide (1 ≤ k) with
          | true =>
            rw [h3] at hh
            have e := Option.some.inj hh
            omega
          | false => rw [h3] at hh; cases hh
        | false =>
          rw [hb] at hh
          cases h4 : (decide (z = 21) || decide (z = 22)) with
          | true =>
            rw [h4] at hh
            cases h3 : decide (2 ≤ k) with
            | true =>
              rw [h3] at hh
              have e := Option.some.inj hh
              have h3 := of_decide_eq_true h3
              omega
            | false => rw [h3] at hh; cases hh
          | false =>
            rw [h4] at hh
            have e := Option.some.inj hh
            omega
      · cases hh
set_option maxHeartbeats 1000000 in
theorem xG8_ok {P : xP} {rg : Nat → xG} {d op : Nat} {S : xS} {Ss : List xS} {o : rvS} (hs : xG8 d op S = some Ss) (h : xRel rg (xFM P) S o) : ∃ S' ∈ Ss, xRel rg (xFM P) S' o := by
  obtain ⟨r, T, pl, h1, h2, h3, h4, h5, h6, h7, h8, h9⟩ := h
  unfold xG8 at hs
  split at hs
  · cases hs
    exact ⟨_, List.mem_singleton.mpr rfl, xPut5_ok h1 h2 h3 h4 h5 h6 h7 h8 h9 ⟨xW2 xW0 xW0, 0, xV0 r 0, by show xHt _ 0 = some (xVal r (xSm (0, 0, 0))); rw [xV0]; rfl⟩⟩
  · split at hs
    · rename_i i n c hi hr hc
      split at hs
      · rename_i v hv
        obtain ⟨hb, rfl⟩ := rv_bif hs
        have hb := xEnt_ok h7.1 h7.2.1 d hb
        rw [xSub_ok, xSub_ok, xK_ok] at hb
        obtain ⟨w, m, e1, e2⟩ := h6 _ (xHas_ok hi)
        obtain ⟨-, hr⟩ := h6 _ (xHas_ok hr)
        have hr : xRsn (xRd pl o.2.2.2.1 31) := hr
        obtain ⟨mc, hh, r1, r2, r3⟩ := hr
        have e1 : xVal r (xSm i) = (m : Int) := e1
        have e2 : xHt (fun i => xRd pl o.2.2.2.1 31 (116 + 3 * i)) m = some (xVal r (xSm n)) := e2
        have wi := w i (by simp)
        have wn := w n (by simp)
        have k1 : xRd pl o.2.2.2.1 31 115 = some (xVal r (xSm c)) := xKn_ok h4 h7 (xV0 r 115) hc
        rw [r2] at k1
        have k1 := Option.some.inj k1
        have hz : (fun i => xRd pl o.2.2.2.1 31 (116 + 3 * i)) m = some (xVal r (xSm v)) := xKn_ok h4 h7 (by rw [xAd_val, e1]; omega) hv
        have hz1 : xRd pl o.2.2.2.1 31 (116 + 3 * m) = some (xVal r (xSm v)) := hz
        obtain ⟨-, -, -, -, -, z32⟩ := xRd_pt hz1
        obtain ⟨k, hk⟩ := xHt_pre (m + 1) mc (by omega) r3
        have pu := xHt_push e2 hz
        rw [hk] at pu
        have nn := xHt_nn m e2
        have one : ∀ lo hi need dn : Int, lo ≤ xVal r (xSm v) → xVal r (xSm v) ≤ hi → need ≤ xVal r (xSm n) → k = xVal r (xSm n) + dn → ∃ S' ∈ xRc1 i n v lo hi need dn S, xRel rg (xFM P) S' o := by
          intro lo hi need dn a1 a2 a3 a4
          obtain ⟨Q1, q1, hQ1, -⟩ := xKnow_ok (l := xSub (xSm v) (xK lo)) h7 (by rw [xSub_ok, xK_ok]; omega)
          obtain ⟨Q2, q2, hQ2, -⟩ := xKnow_ok (l := xSub (xK hi) (xSm v)) hQ1 (by rw [xSub_ok, xK_ok]; omega)
          obtain ⟨Q3, q3, hQ3, -⟩ := xKnow_ok (l := xSub (xSm n) (xK need)) hQ2 (by rw [xSub_ok, xK_ok]; omega)
          unfold xRc1
          rw [q1]
          dsimp only
          rw [q2]
          dsimp only
          rw [q3]
          refine ⟨_, List.mem_singleton.mpr rfl, xPut5_ok (S := xWq S Q3) h1 h2 h3 h4 h5 h6 hQ3 h8 h9 ⟨xW2 (xUp_w wi) (xUp_w wn), m + 1, ?_, ?_⟩⟩
          · show xVal r (xSm (xUp i 1)) = _
            rw [xUp_v, e1]; omega
          · show xHt _ (m + 1) = some (xVal r (xSm (xUp n dn)))
            rw [xUp_v, ← a4]
            exact hk
        by_cases c20 : xVal r (xSm v) = 20
        · rw [decide_eq_true c20] at pu
          cases hd : decide (1 ≤ xVal r (xSm n)) with
          | false => rw [hd] at pu; cases pu
          | true =>
            rw [hd] at pu
            have pu := Option.some.inj pu
            have hd := of_decide_eq_true hd
            obtain ⟨S', m', hS'⟩ := one 20 20 1 0 (by omega) (by omega) hd (by omega)
            exact ⟨S', List.mem_append.mpr (Or.inr (List.mem_append.mpr (Or.inl m'))), hS'⟩
        · rw [decide_eq_false c20] at pu
          by_cases c21 : xVal r (xSm v) = 21 ∨ xVal r (xSm v) = 22
          · have a2 : (decide (xVal r (xSm v) = 21) || decide (xVal r (xSm v) = 22)) = true := by
              rcases c21 with e | e
              · rw [decide_eq_true e]; rfl
              · rw [decide_eq_true e]; cases decide (xVal r (xSm v) = 21) <;> rfl
            rw [a2] at pu
            cases hd : decide (2 ≤ xVal r (xSm n)) with
            | false => rw [hd] at pu; cases pu
            | true =>
              rw [hd] at pu
              have pu := Option.some.inj pu
              have hd := of_decide_eq_true hd
              obtain ⟨S', m', hS'⟩ := one 21 22 2 (-1) (by omega) (by omega) hd (by omega)
              exact ⟨S', List.mem_append.mpr (Or.inr (List.mem_append.mpr (Or.inr (List.mem_append.mpr (Or.inl m'))))), hS'⟩
          · have a2 : (decide (xVal r (xSm v) = 21) || decide (xVal r (xSm v) = 22)) = false := by
              rw [decide_eq_false (by omega : ¬ xVal r (xSm v) = 21), decide_eq_false (by omega : ¬ xVal r (xSm v) = 22)]; rfl
            rw [a2] at pu
            have pu := Option.some.inj pu
            by_cases c19 : xVal r (xSm v) ≤ 19
            · obtain ⟨S', m', hS'⟩ := one (-2147483648) 19 0 1 z32.1 c19 nn (by omega)
              exact ⟨S', List.mem_append.mpr (Or.inl m'), hS'⟩
            · obtain ⟨S', m', hS'⟩ := one 23 2147483647 0 1 (by omega) z32.2 nn (by omega)
              exact ⟨S', List.mem_append.mpr (Or.inr (List.mem_append.mpr (Or.inr (List.mem_append.mpr (Or.inr m'))))), hS'⟩
      · cases hs
    · cases hs
