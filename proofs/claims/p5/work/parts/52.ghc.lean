/-! The reference's sentences, and its images: what is told stays good to be said. -/
def xKn (S : xS) (k : Nat) (b : Nat × Int × Int) : Option (Nat × Int × Int) := match S.2.2.2.1[k]? with
  | some s => (match xFindL S.2.2.2.2.2.1 b s.2 with
    | some (.inl v) => some v
    | _ => none)
  | none => none
theorem xKn_ok {S : xS} {k m : Nat} {b v : Nat × Int × Int} {r : List Int} {T pl : List Nat} {aw : rvH} (h4 : xSt r T pl S.2.2.2.1 aw) (h7 : xQs S.2.2.2.2.2.1 r) (hb : xVal r (xSm b) = (m : Int)) (h : xKn S k b = some v) : xRd pl aw k m = some (xVal r (xSm v)) := by
  unfold xKn at h
  split at h
  · rename_i s hk
    split at h
    · rename_i w hv
      cases h
      exact xRd_of h4 hk h7 hb hv
    · cases h
  · cases h
/-- what a code does: 0 gives one, 1 takes one and gives one, 2 takes two and gives one -/
noncomputable def xCl (d : Nat) (Q : xQ) (v : Nat × Int × Int) : Nat := bif xEnt Q.1 Q.2 d (xSub (xK 19) (xSm v)) || xEnt Q.1 Q.2 d (xSub (xSm v) (xK 23)) then 0 else bif xIn d Q v 20 20 then 1 else bif xIn d Q v 21 22 then 2 else 3
theorem xCl_ok {d : Nat} {Q : xQ} {r : List Int} {v : Nat × Int × Int} (h : xQs Q r) : (xCl d Q v = 0 → xVal r (xSm v) ≤ 19 ∨ 23 ≤ xVal r (xSm v)) ∧ (xCl d Q v = 1 → xVal r (xSm v) = 20) ∧ (xCl d Q v = 2 → xVal r (xSm v) = 21 ∨ xVal r (xSm v) = 22) := by
  unfold xCl
  cases h0 : (xEnt Q.1 Q.2 d (xSub (xK 19) (xSm v)) || xEnt Q.1 Q.2 d (xSub (xSm v) (xK 23))) with
  | true =>
    refine ⟨fun _ => ?_, (fun e => absurd (show (0 : Nat) = 1 from e) (by decide)), (fun e => absurd (show (0 : Nat) = 2 from e) (by decide))⟩
    rcases rv_or' h0 with e | e
    · have := xEnt_ok h.1 h.2.1 d e
      rw [xSub_ok, xK_ok] at this
      omega
    · have := xEnt_ok h.1 h.2.1 d e
      rw [xSub_ok, xK_ok] at this
      omega
  | false =>
    cases h1 : xIn d Q v 20 20 with
    | true =>
      refine ⟨(fun e => absurd (show (1 : Nat) = 0 from e) (by decide)), fun _ => ?_, (fun e => absurd (show (1 : Nat) = 2 from e) (by decide))⟩
      have := xIn_ok h h1
      omega
    | false =>
      cases h2 : xIn d Q v 21 22 with
      | true =>
        refine ⟨(fun e => absurd (show (2 : Nat) = 0 from e) (by decide)), (fun e => absurd (show (2 : Nat) = 1 from e) (by decide)), fun _ => ?_⟩
        have := xIn_ok h h2
        omega
      | false => exact ⟨(fun e => absurd (show (3 : Nat) = 0 from e) (by decide)), (fun e => absurd (show (3 : Nat) = 1 from e) (by decide)), (fun e => absurd (show (3 : Nat) = 2 from e) (by decide))⟩
theorem xHt_push {f : Nat → Option Int} {n : Nat} {h z : Int} (hh : xHt f n = some h) (hz : f n = some z) : xHt f (n + 1) = bif decide (z = 20) then (bif decide (1 ≤ h) then some h else none) else bif decide (z = 21) || decide (z = 22) then (bif decide (2 ≤ h) then some (h - 1) else none) else some (h + 1) := by
  rw [xHt, hh, hz]
theorem xNb_push {f : Nat → Option Int} {n : Nat} {h z : Int} (hh : xNb f n = some h) (hz : f n = some z) : xNb f (n + 1) = bif decide (z = 21) || decide (z = 22) then some (h + 1) else some h := by
  rw [xNb, hh, hz]
theorem xNb_nn {f : Nat → Option Int} : ∀ (n : Nat) {h : Int}, xNb f n = some h → 0 ≤ h
  | 0, h, hh => by
      have e := Option.some.inj hh
      omega
  | n + 1, h, hh => by
      unfold xNb at hh
      split at hh
      · rename_i k z h1 h2
        have := xNb_nn n h1
        cases hb : (decide (z = 21) || decide (z = 22)) with
        | true =>
          rw [hb] at hh
          have e := Option.some.inj hh
          omega
        | false =>
          rw [hb] at hh
          have e := Option.some.inj hh
          omega
      · cases hh
theorem xHt_pre {f : Nat → Option Int} : ∀ (m n : Nat) {h : Int}, m ≤ n → xHt f n = some h → ∃ k, xHt f m = some k
  | m, 0, h, hm, hh => by
      have e : m = 0 := by omega
      subst e
      exact ⟨h, hh⟩
  | m, n + 1, h, hm, hh => by
      by_cases e : m = n + 1
      · subst e
        exact ⟨h, hh⟩
      · unfold xHt at hh
        split at hh
        · rename_i k z h1 h2
          exact xHt_pre m n (by omega) h1
        · cases hh
def xPut5 (S : xS) (f : xF) : xS := xWf2 S (f :: xOut f.1 f.2.1 S.2.2.2.2.1)
theorem xPut5_ok {P : xP} {rg : Nat → xG} {S : xS} {f : xF} {o : rvS} {r : List Int} {T pl : List Nat} (h1 : o.1 = S.1) (h2 : xRs r T pl S.2.1 o.2.1) (h3 : xRs r T pl S.2.2.1 o.2.2.1) (h4 : xSt r T pl S.2.2.2.1 o.2.2.2.1) (h5 : xHp rg T pl o.2.2.2.1) (h6 : ∀ f ∈ S.2.2.2.2.1, xFM P f r T pl o.2.2.2.1) (h7 : xQs S.2.2.2.2.2.1 r) (h8 : o.2.2.2.2.1 = S.2.2.2.2.2.2.1) (h9 : o.2.2.2.2.2 = S.2.2.2.2.2.2.2) (hf : xFM P f r T pl o.2.2.2.1) : xRel rg (xFM P) (xPut5 S f) o := by
  refine ⟨r, T, pl, h1, h2, h3, h4, h5, fun f2 hf9 => ?_, h7, h8, h9⟩
  rcases List.mem_cons.mp hf9 with e | hf9
  · rw [e]; exact hf
  · exact h6 f2 (List.mem_filter.mp hf9).1
def xUp (v : Nat × Int × Int) (n : Int) : Nat × Int × Int := (v.1, v.2.1, v.2.2 + n)
theorem xUp_v (r : List Int) (v : Nat × Int × Int) (n : Int) : xVal r (xSm (xUp v n)) = xVal r (xSm v) + n := (xSm_one r v n).1
theorem xUp_w {m : Nat} {v : Nat × Int × Int} {n : Int} (h : xWf m (xSm v).1) : xWf m (xSm (xUp v n)).1 := by
  have e : (xSm (xUp v n)).1 = (xSm v).1 := (xSm_one [] v n).2
  rw [e]
  exact h
/-- the fact 5: a code more (1), one more on the stack (2), one less (3) -/
noncomputable def xG5 (d op : Nat) (S : xS) : Option xS := match op with
  | 0 => some (xPut5 S (5, [], [(0, 0, 0), (0, 0, 0), (0, 0, 0)]))
  | 1 => (match xHas S.2.2.2.2.1 5 [] with
    | some [c, t, e] => (match xKn S 33 (xAd c 3 0) with
      | some v => (match xCl d S.2.2.2.2.2.1 v with
        | 0 => some (xPut5 S (5, [], [xUp c 1, t, xUp e 1]))
        | 1 => bif xEnt S.2.2.2.2.2.1.1 S.2.2.2.2.2.1.2 d (xSub (xSm e) (xK 1)) then some (xPut5 S (5, [], [xUp c 1, t, e])) else none
        | 2 => bif xEnt S.2.2.2.2.2.1.1 S.2.2.2.2.2.1.2 d (xSub (xSm e) (xK 2)) then some (xPut5 S (5, [], [xUp c 1, t, xUp e (-1)])) else none
        | _ => none)
      | none => none)
    | _ => none)
  | 2 => (match xHas S.2.2.2.2.1 5 [] with
    | some [c, t, e] => (match xKn S 46 t with
      | some v => (match xCl d S.2.2.2.2.2.1 v with
        | 0 => some (xPut5 S (5, [], [c, xUp t 1, e]))
        | 1 => some (xPut5 S (5, [], [c, xUp t 1, e]))
        | 2 => some (xPut5 S (5, [], [c, xUp t 1, xUp e (-1)]))
        | _ => none)
      | none => none)
    | _ => none)
  | _ => (match xHas S.2.2.2.2.1 5 [] with
    | some [c, t, e] => bif xEnt S.2.2.2.2.2.1.1 S.2.2.2.2.2.1.2 d (xSub (xSm t) (xK 1)) then (match xKn S 46 (xUp t (-1)) with
      | some v => (match xCl d S.2.2.2.2.2.1 v with
        | 0 => some (xPut5 S (5, [], [c, xUp t (-1), e]))
        | 1 => some (xPut5 S (5, [], [c, xUp t (-1), e]))
        | 2 => some (xPut5 S (5, [], [c, xUp t (-1), xUp e 1]))
        | _ => none)
      | none => none) else none
    | _ => none)
theorem xW3 {n : Nat} {a b c : Nat × Int × Int} (h1 : xWf n (xSm a).1) (h2 : xWf n (xSm b).1) (h3 : xWf n (xSm c).1) : ∀ v ∈ [a, b, c], xWf n (xSm v).1 := by
  intro v hv
  rcases List.mem_cons.mp hv with e | hv
  · rw [e]; exact h1
  · rcases List.mem_cons.mp hv with e | hv
    · rw [e]; exact h2
    · rw [List.mem_singleton.mp hv]; exact h3
theorem xW0 {n : Nat} {c : Int} : xWf n (xSm (0, 0, c)).1 := fun q hq => by cases hq
theorem xV0 (r : List Int) (c : Int) : xVal r (xSm (0, 0, c)) = c := by
  rw [xSm_val]
  show 0 * _ + c = c
  omega
set_option maxHeartbeats 1000000 in
theorem xG5_ok {P : xP} {rg : Nat → xG} {d op : Nat} {S S' : xS} {o : rvS} (hs : xG5 d op S = some S') (h : xRel rg (xFM P) S o) : xRel rg (xFM P) S' o := by
  obtain ⟨r, T, pl, h1, h2, h3, h4, h5, h6, h7, h8, h9⟩ := h
  have fact : ∀ (c t e : Nat × Int × Int), xHas S.2.2.2.2.1 5 [] = some [c, t, e] → xWf r.length (xSm c).1 ∧ xWf r.length (xSm t).1 ∧ xWf r.length (xSm e).1 ∧ ∃ (n m : Nat) (h : Int), xVal r (xSm c) = (n : Int) ∧ xVal r (xSm t) = (m : Int) ∧ xHt (fun i => xRd pl o.2.2.2.1 33 (3 * i)) n = some (h + xVal r (xSm e)) ∧ xNb (fun i => xRd pl o.2.2.2.1 46 i) m = some h := by
    intro c t e hh
    obtain ⟨w, hh⟩ := h6 _ (xHas_ok hh)
    exact ⟨w c (by simp), w t (by simp), w e (by simp), hh⟩
  have put : ∀ (c t e : Nat × Int × Int) (n m : Nat) (h : Int), xWf r.length (xSm c).1 → xWf r.length (xSm t).1 → xWf r.length (xSm e).1 → xVal r (xSm c) = (n : Int) → xVal r (xSm t) = (m : Int) → xHt (fun i => xRd pl o.2.2.2.1 33 (3 * i)) n = some (h + xVal r (xSm e)) → xNb (fun i => xRd pl o.2.2.2.1 46 i) m = some h → xRel rg (xFM P) (xPut5 S (5, [], [c, t, e])) o := by
    intro c t e n m h w1 w2 w3 v1 v2 v3 v4
    exact xPut5_ok h1 h2 h3 h4 h5 h6 h7 h8 h9 ⟨xW3 w1 w2 w3, n, m, h, v1, v2, v3, v4⟩
  unfold xG5 at hs
  split at hs
  · cases hs
    exact put _ _ _ 0 0 0 xW0 xW0 xW0 (xV0 r 0) (xV0 r 0) (by rw [xV0]; rfl) rfl
  · split at hs
    · rename_i c t e hh
      obtain ⟨w1, w2, w3, n, m, k, e1, e2, e3, e4⟩ := fact c t e hh
      split at hs
      · rename_i v hv
        have hz : (fun i => xRd pl o.2.2.2.1 33 (3 * i)) n = some (xVal r (xSm v)) := xKn_ok h4 h7 (by rw [xAd_val, e1]; omega) hv
        have nn := xNb_nn m e4
        have pu := xHt_push e3 hz
        have c1 : xVal r (xSm (xUp c 1)) = ((n + 1 : Nat) : Int) := by rw [xUp_v, e1]; omega
        obtain ⟨k0, k1, k2⟩ := xCl_ok (d := d) (v := v) h7
        split at hs
        · rename_i hc
          cases hs
          have := k0 hc
          have a1 : decide (xVal r (xSm v) = 20) = false := decide_eq_false (by omega)
          have a2 : (decide (xVal r (xSm v) = 21) || decide (xVal r (xSm v) = 22)) = false := by
            rw [decide_eq_false (by omega : ¬ xVal r (xSm v) = 21), decide_eq_false (by omega : ¬ xVal r (xSm v) = 22)]; rfl
          rw [a1, a2] at pu
          refine put _ _ _ (n + 1) m k (xUp_w w1) w2 (xUp_w w3) c1 e2 ?_ e4
          rw [pu, xUp_v]
          show some _ = some _
          congr 1
          omega
        · rename_i hc
          obtain ⟨hb, rfl⟩ := rv_bif hs
          have hb := xEnt_ok h7.1 h7.2.1 d hb
          rw [xSub_ok, xK_ok] at hb
          have := k1 hc
          have a1 : decide (xVal r (xSm v) = 20) = true := decide_eq_true this
          have a2 : decide (1 ≤ k + xVal r (xSm e)) = true := decide_eq_true (by omega)
          rw [a1, a2] at pu
          exact put _ _ _ (n + 1) m k (xUp_w w1) w2 w3 c1 e2 pu e4
        · rename_i hc
          obtain ⟨hb, rfl⟩ := rv_bif hs
          have hb := xEnt_ok h7.1 h7.2.1 d hb
          rw [xSub_ok, xK_ok] at hb
          have hz2 := k2 hc
          have a1 : decide (xVal r (xSm v) = 20) = false := decide_eq_false (by omega)
          have a2 : (decide (xVal r (xSm v) = 21) || decide (xVal r (xSm v) = 22)) = true := by
            rcases hz2 with e | e
            · rw [decide_eq_true e]; rfl
            · rw [decide_eq_true e]; cases decide (xVal r (xSm v) = 21) <;> rfl
          have a3 : decide (2 ≤ k + xVal r (xSm e)) = true := decide_eq_true (by omega)
          rw [a1, a2, a3] at pu
          refine put _ _ _ (n + 1) m k (xUp_w w1) w2 (xUp_w w3) c1 e2 ?_ e4
          rw [pu, xUp_v]
          show some _ = some _
          congr 1
          omega
        · cases hs
      · cases hs
    · cases hs
  · split at hs
    · rename_i c t e hh
      obtain ⟨w1, w2, w3, n, m, k, e1, e2, e3, e4⟩ := fact c t e hh
      split at hs
      · rename_i v hv
        have hz : (fun i => xRd pl o.2.2.2.1 46 i) m = some (xVal r (xSm v)) := xKn_ok h4 h7 e2 hv
        have pu := xNb_push e4 hz
        have c1 : xVal r (xSm (xUp t 1)) = ((m + 1 : Nat) : Int) := by rw [xUp_v, e2]; omega
        obtain ⟨k0, k1, k2⟩ := xCl_ok (d := d) (v := v) h7
        have same : (decide (xVal r (xSm v) = 21) || decide (xVal r (xSm v) = 22)) = false → xRel rg (xFM P) (xPut5 S (5, [], [c, xUp t 1, e])) o := by
          intro a2
          rw [a2] at pu
          exact put _ _ _ n (m + 1) k w1 (xUp_w w2) w3 e1 c1 e3 pu
        split at hs
        · rename_i hc
          cases hs
          have := k0 hc
          exact same (by rw [decide_eq_false (by omega : ¬ xVal r (xSm v) = 21), decide_eq_false (by omega : ¬ xVal r (xSm v) = 22)]; rfl)
        · rename_i hc
          cases hs
          have := k1 hc
          exact same (by rw [decide_eq_false (by omega : ¬ xVal r (xSm v) = 21), decide_eq_false (by omega : ¬ xVal r (xSm v) = 22)]; rfl)
        · rename_i hc
          cases hs
          have hz2 := k2 hc
          have a2 : (decide (xVal r (xSm v) = 21) || decide (xVal r (xSm v) = 22)) = true := by
            rcases hz2 with e | e
            · rw [decide_eq_true e]; rfl
            · rw [decide_eq_true e]; cases decide (xVal r (xSm v) = 21) <;> rfl
          rw [a2] at pu
          refine put _ _ _ n (m + 1) (k + 1) w1 (xUp_w w2) (xUp_w w3) e1 c1 ?_ pu
          rw [e3, xUp_v]
          congr 1
          omega
        · cases hs
      · cases hs
    · cases hs
  · split at hs
    · rename_i c t e hh
      obtain ⟨w1, w2, w3, n, m, k, e1, e2, e3, e4⟩ := fact c t e hh
      cases hb : xEnt S.2.2.2.2.2.1.1 S.2.2.2.2.2.1.2 d (xSub (xSm t) (xK 1)) with
      | false => rw [hb] at hs; cases hs
      | true =>
        rw [hb] at hs
        simp only [cond_true] at hs
        have hb := xEnt_ok h7.1 h7.2.1 d hb
        rw [xSub_ok, xK_ok] at hb
        obtain ⟨m', rfl⟩ : ∃ m', m = m' + 1 := ⟨m - 1, by omega⟩
        have c1 : xVal r (xSm (xUp t (-1))) = (m' : Int) := by rw [xUp_v, e2]; omega
        split at hs
        · rename_i v hv
          have hz : (fun i => xRd pl o.2.2.2.1 46 i) m' = some (xVal r (xSm v)) := xKn_ok h4 h7 c1 hv
          have pre : ∃ k', xNb (fun i => xRd pl o.2.2.2.1 46 i) m' = some k' := by
            unfold xNb at e4
            split at e4
            · rename_i k' z h1 h2
              exact ⟨k', h1⟩
            · cases e4
          obtain ⟨k', e5⟩ := pre
          have pu := xNb_push e5 hz
          rw [e4] at pu
          obtain ⟨k0, k1, k2⟩ := xCl_ok (d := d) (v := v) h7
          have same : (decide (xVal r (xSm v) = 21) || decide (xVal r (xSm v) = 22)) = false → xRel rg (xFM P) (xPut5 S (5, [], [c, xUp t (-1), e])) o := by
            intro a2
            rw [a2] at pu
            have pu := Option.some.inj pu
            have pu : k = k' := pu
            subst pu
            exact put _ _ _ n m' k w1 (xUp_w w2) w3 e1 c1 e3 e5
          split at hs
          · rename_i hc
            cases hs
            have := k0 hc
            exact same (by rw [decide_eq_false (by omega : ¬ xVal r (xSm v) = 21), decide_eq_false (by omega : ¬ xVal r (xSm v) = 22)]; rfl)
          · rename_i hc
            cases hs
            have := k1 hc
            exact same (by rw [decide_eq_false (by omega : ¬ xVal r (xSm v) = 21), decide_eq_false (by omega : ¬ xVal r (xSm v) = 22)]; rfl)
          · rename_i hc
            cases hs
            have hz2 := k2 hc
            have a2 : (decide (xVal r (xSm v) = 21) || decide (xVal r (xSm v) = 22)) = true := by
              rcases hz2 with e | e
              · rw [decide_eq_true e]; rfl
              · rw [decide_eq_true e]; cases decide (xVal r (xSm v) = 21) <;> rfl
            rw [a2] at pu
            have pu := Option.some.inj pu
            have pu : k = k' + 1 := pu
            subst pu
            refine put _ _ _ n m' k' w1 (xUp_w w2) (xUp_w w3) e1 c1 ?_ e5
            rw [e3, xUp_v]
            congr 1
            omega
          · cases hs
        · cases hs
    · cases hs
