/-! Which facts a store, a new cell, a call leave. -/
noncomputable def xInMb (d : Nat) (Q : xQ) (ms : List Nat) (g : Nat) (x : Nat × Int × Int) : Bool := match ms with
  | a :: lo :: hi :: t => (Nat.beq g a && (xEnt Q.1 Q.2 d (xSub (xSm x) (xK (lo : Int))) && xEnt Q.1 Q.2 d (xSub (xK (hi : Int)) (xSm x)))) || xInMb d Q t g x
  | _ => false
theorem xInMb_ok {d : Nat} {Q : xQ} {r : List Int} {g j : Nat} {x : Nat × Int × Int} (h : xQs Q r) (hx : xVal r (xSm x) = (j : Int)) : ∀ (ms : List Nat), xInMb d Q ms g x = true → xInM ms g j
  | a :: lo :: hi :: t, hb => by
      rw [xInMb] at hb
      rw [xInM]
      rcases rv_or' hb with e | e
      · obtain ⟨e1, e2⟩ := rv_and e
        obtain ⟨e2, e3⟩ := rv_and e2
        have k2 := xEnt_ok h.1 h.2.1 d e2
        have k3 := xEnt_ok h.1 h.2.1 d e3
        rw [xSub_ok, xK_ok, hx] at k2 k3
        exact Or.inl ⟨rv_beq e1, by omega, by omega⟩
      · exact Or.inr (xInMb_ok h hx t e)
  | [], hb => by cases hb
  | [_], hb => by cases hb
  | [_, _], hb => by cases hb
noncomputable def xFkk (d : Nat) (g : Nat) (x : Nat × Int × Int) (Q : xQ) (ah : List xC) (f : xF) : Bool := match f.1 with
  | 0 => xInMb d Q f.2.1 g x
  | 1 => true
  | 2 => !(Nat.beq g 14 || (Nat.beq g 15 || Nat.beq g 17))
  | 3 => true
  | _ => (xRds f.1 f.2.1 f.2.2).all (fun q => match ah[q.1]? with
    | some s => !Nat.beq s.1 g || (xEnt Q.1 Q.2 d (xSub (xSub q.2.1 (xSm x)) (xK 1)) || xEnt Q.1 Q.2 d (xSub (xSub (xSm x) q.2.2) (xK 1)))
    | none => false)
theorem xNbeq {a b : Nat} (h : Nat.beq a b = false) : a ≠ b := fun e => by
  subst e
  rw [Nat.beq_refl] at h
  cases h
theorem xFkk_ok (P : xP) (d : Nat) (rg : Nat → xG) : xFk rg (xFM P) (xFkk d) := by
  intro f g i j x Q ah r T pl aw c c' hQ hS hi hc hx hsl hP2 hk hf
  obtain ⟨kd, ns, vs⟩ := f
  refine xFM_chg (M := fun g' j' => g' = g ∧ j' = j) (r' := r) (T' := T) hS ?_ ⟨[], (List.append_nil r).symm⟩ ⟨[], (List.append_nil T).symm⟩ ?_ ?_ ?_ hf
  · intro i2 g2 c2 hi2 hc2
    rw [List.getElem?_set]
    by_cases e : i = i2
    · subst e
      have hlt := (List.getElem?_eq_some_iff.mp hc2).1
      have e1 : g = g2 := by rw [hi] at hi2; exact Option.some.inj hi2
      have e2 : c = c2 := by rw [hc] at hc2; exact Option.some.inj hc2
      subst e1; subst e2
      exact ⟨c', by simp [hlt], fun m hm => hsl m (fun e => hm ⟨rfl, e⟩)⟩
    · exact ⟨c2, by simp [e, hc2], fun m hm => rfl⟩
  · intro e g2 j2 hm
    have e : kd = 0 := e
    subst e
    obtain ⟨rfl, rfl⟩ := hm
    exact xInMb_ok hQ hx ns hk
  · intro e
    have e : kd = 2 := e
    subst e
    have hk : (!(Nat.beq g 14 || (Nat.beq g 15 || Nat.beq g 17))) = true := hk
    have hk : (Nat.beq g 14 || (Nat.beq g 15 || Nat.beq g 17)) = false := by
      cases h9 : (Nat.beq g 14 || (Nat.beq g 15 || Nat.beq g 17)) with
      | false => rfl
      | true => rw [h9] at hk; cases hk
    obtain ⟨k1, k2⟩ := rv_or hk
    obtain ⟨k2, k3⟩ := rv_or k2
    exact ⟨rfl, fun m => ⟨fun hm => xNbeq k1 hm.1.symm, fun hm => xNbeq k2 hm.1.symm, fun hm => xNbeq k3 hm.1.symm⟩⟩
  · intro h4 q hq
    match kd, h4, hk, hq with
    | n + 4, _, hk, hq =>
      have h1 := List.all_eq_true.mp hk q hq
      split at h1
      · rename_i s hs
        refine ⟨s, hs, fun m m1 m2 hm => ?_⟩
        obtain ⟨e1, e2⟩ := hm
        subst e2
        rcases rv_or' h1 with e | e
        · have : Nat.beq s.1 g = true := by rw [e1]; exact Nat.beq_refl g
          rw [this] at e
          cases e
        · rcases rv_or' e with e | e
          · have := xEnt_ok hQ.1 hQ.2.1 d e
            rw [xSub_ok, xSub_ok, xK_ok, hx] at this
            omega
          · have := xEnt_ok hQ.1 hQ.2.1 d e
            rw [xSub_ok, xSub_ok, xK_ok, hx] at this
            omega
      · cases h1
/-- a new cell -/
def xFnn (k g : Nat) (fs : List xF) : List xF := bif Nat.beq g 14 then [] else bif fs.any (fun f => Nat.beq f.1 0) then (3, [k], []) :: fs else fs
theorem xRdc_app {aw t : rvH} {i j : Nat} {z : Int} (h : xRdc aw i j = some z) : xRdc (aw ++ t) i j = some z := by
  obtain ⟨c, h1, h2, h3⟩ := xRdc_pt h
  exact xRdc_of (x_get_app h1) h2 h3
theorem xRd_app {pl u : List Nat} {aw t : rvH} {k j : Nat} {z : Int} (h : xRd pl aw k j = some z) : xRd (pl ++ u) (aw ++ t) k j = some z := by
  unfold xRd at h ⊢
  split at h
  · rename_i i hi
    rw [x_get_app hi]
    exact xRdc_app h
  · cases h
theorem xFM_new {P : xP} {f : xF} {r : List Int} {T pl : List Nat} {aw : rvH} {g : Nat} {c : rvC} (hl : aw.length = T.length) (hg : Nat.beq g 14 = false) (h : xFM P f r T pl aw) : xFM P f r (T ++ [g]) (pl ++ [T.length]) (aw ++ [c]) := by
  obtain ⟨kd, ns, vs⟩ := f
  match kd, h with
  | 0, h =>
    obtain ⟨h1, ⟨g1, g2⟩, ⟨t, e⟩, hf⟩ := h
    refine ⟨h1, ⟨by rw [List.length_append]; omega, fun i hi => ?_⟩, ⟨t ++ [T.length], by rw [e, List.append_assoc]⟩, fun i g3 c3 hi hc => ?_⟩
    · rw [List.getElem?_append_left (by omega)]
      exact g2 i hi
    · obtain ⟨c', k1, k2⟩ := hf i g3 c3 hi hc
      exact ⟨c', x_get_app k1, k2⟩
  | 1, h =>
    match ns, h with
    | i :: ns, h =>
      obtain ⟨l, k1, k2⟩ := h
      exact ⟨l, k1, xRs_grow (xG_new g T.length) k2⟩
    | [], h => exact absurd h id
  | 2, h =>
    intro i hi
    have hlt : i < T.length := by
      have hlt := (List.getElem?_eq_some_iff.mp hi).1
      rcases Nat.lt_or_ge i T.length with hl9 | hl9
      · exact hl9
      · have hk2 : i = T.length := by simp at hlt; omega
        subst hk2
        rw [List.getElem?_append_right (Nat.le_refl _)] at hi
        simp at hi
        exact absurd hi (xNbeq hg)
    rw [List.getElem?_append_left hlt] at hi
    obtain ⟨c2, a, b, n, k1, k2, k3, k4, k5, k6, k7⟩ := h i hi
    refine ⟨c2, a, b, n, x_get_app k1, k2, x_get_app k3, k4, x_get_app k5, xRdc_app k6, fun j hj => ?_⟩
    obtain ⟨bx, b1, b2⟩ := k7 j hj
    refine ⟨bx, b1, xBx_mono (fun s hs z hz => ?_) b2⟩
    show (bif Nat.beq s.1 53 then xRdc (aw ++ [c]) a (s.2.1 * j + s.2.2) else xRdc (aw ++ [c]) b (s.2.1 * j + s.2.2)) = some z
    have hz : (bif Nat.beq s.1 53 then xRdc aw a (s.2.1 * j + s.2.2) else xRdc aw b (s.2.1 * j + s.2.2)) = some z := hz
    cases hb : Nat.beq s.1 53 with
    | true =>
      rw [hb] at hz
      exact xRdc_app hz
    | false =>
      rw [hb] at hz
      exact xRdc_app hz
  | 3, h =>
    match ns, h with
    | [k], h =>
      obtain ⟨i, k1, k2⟩ := h
      exact ⟨i, x_get_app k1, k2⟩
    | [], h => exact absurd h id
    | _ :: _ :: _, h => exact absurd h id
  | kd + 4, h => exact ⟨h.1, xFv_loc (fun q hq j j1 j2 z hz => xRd_app hz) h.2⟩
theorem xFnn_ok (P : xP) (rg : Nat → xG) : xFn rg (xFM P) xFnn := by
  intro fs g r T pl aw c hP hF f hf
  unfold xFnn at hf
  cases hg : Nat.beq g 14 with
  | true => rw [hg] at hf; cases hf
  | false =>
    rw [hg] at hf
    simp only [cond_false] at hf
    cases ha : fs.any (fun f => Nat.beq f.1 0) with
    | false =>
      rw [ha] at hf
      exact xFM_new hP.1 hg (hF f hf)
    | true =>
      rw [ha] at hf
      rcases List.mem_cons.mp hf with e | hf
      · subst e
        obtain ⟨f0, m0, k0⟩ := List.any_eq_true.mp ha
        have h0 := hF f0 m0
        obtain ⟨kd, ns, vs⟩ := f0
        have k0 := rv_beq k0
        have k0 : kd = 0 := k0
        subst k0
        refine ⟨T.length, ?_, h0.2.1.1⟩
        rw [List.getElem?_append_right (Nat.le_refl _)]
        simp
      · exact xFM_new hP.1 hg (hF f hf)
/-- a call that may write ms -/
def xSubM (ms os : List Nat) : Bool := match ms with
  | a :: lo :: hi :: t => xOne os a lo hi && xSubM t os
  | [] => true
  | _ => false
where xOne (os : List Nat) (a lo hi : Nat) : Bool := match os with
  | b :: u :: v :: t => (Nat.beq a b && (Nat.ble u lo && Nat.ble hi v)) || xOne t a lo hi
  | _ => false
theorem xOne_ok {a lo hi j : Nat} (h1 : lo ≤ j) (h2 : j ≤ hi) : ∀ (os : List Nat), xSubM.xOne os a lo hi = true → xInM os a j
  | b :: u :: v :: t, h => by
      rw [xSubM.xOne] at h
      rw [xInM]
      rcases rv_or' h with e | e
      · obtain ⟨e1, e2⟩ := rv_and e
        obtain ⟨e2, e3⟩ := rv_and e2
        have e2 := rv_ble e2
        have e3 := rv_ble e3
        exact Or.inl ⟨rv_beq e1, by omega, by omega⟩
      · exact Or.inr (xOne_ok h1 h2 t e)
  | [], h => by cases h
  | [_], h => by cases h
  | [_, _], h => by cases h
theorem xSubM_ok {os : List Nat} {g j : Nat} : ∀ (ms : List Nat), xSubM ms os = true → xInM ms g j → xInM os g j
  | a :: lo :: hi :: t, h, hm => by
      rw [xSubM] at h
      rw [xInM] at hm
      obtain ⟨e1, e2⟩ := rv_and h
      rcases hm with ⟨m1, m2, m3⟩ | hm
      · subst m1
        exact xOne_ok m2 m3 os e1
      · exact xSubM_ok t e2 hm
  | [], _, hm => absurd hm id
  | [_], h, _ => by cases h
  | [_, _], h, _ => by cases h
noncomputable def xFar (d : Nat) (Q : xQ) (ms : List Nat) (g : Nat) (lo hi : xL) : Bool := match ms with
  | a :: u :: v :: t => (!Nat.beq g a || (xEnt Q.1 Q.2 d (xSub (xSub lo (xK (v : Int))) (xK 1)) || xEnt Q.1 Q.2 d (xSub (xSub (xK (u : Int)) hi) (xK 1)))) && xFar d Q t g lo hi
  | _ => true
theorem xFar_ok {d : Nat} {Q : xQ} {r : List Int} {g j : Nat} {lo hi : xL} (h : xQs Q r) (h1 : xVal r lo ≤ (j : Int)) (h2 : (j : Int) ≤ xVal r hi) : ∀ (ms : List Nat), xFar d Q ms g lo hi = true → ¬ xInM ms g j
  | a :: u :: v :: t, hb, hm => by
      rw [xFar] at hb
      rw [xInM] at hm
      obtain ⟨e1, e2⟩ := rv_and hb
      rcases hm with ⟨m1, m2, m3⟩ | hm
      · subst m1
        rcases rv_or' e1 with e | e
        · rw [Nat.beq_refl] at e
          cases e
        · rcases rv_or' e with e | e
          · have := xEnt_ok h.1 h.2.1 d e
            rw [xSub_ok, xSub_ok, xK_ok, xK_ok] at this
            omega
          · have := xEnt_ok h.1 h.2.1 d e
            rw [xSub_ok, xSub_ok, xK_ok, xK_ok] at this
            omega
      · exact xFar_ok h h1 h2 t e2 hm
  | [], _, hm => absurd hm id
  | [_], _, hm => absurd hm id
  | [_, _], _, hm => absurd hm id
noncomputable def xFtt (d : Nat) (ms : List Nat) (Q : xQ) (ah : List xC) (f : xF) : Bool := match f.1 with
  | 0 => xSubM ms f.2.1
  | 1 => true
  | 2 => false
  | 3 => true
  | _ => (xRds f.1 f.2.1 f.2.2).all (fun q => match ah[q.1]? with
    | some s => xFar d Q ms s.1 q.2.1 q.2.2
    | none => false)
theorem xFtt_ok {P : xP} {d : Nat} {ms : List Nat} {Q : xQ} {f : xF} {r r' : List Int} {T T' pl : List Nat} {ah : List xC} {aw aw' : rvH} (hQ : xQs Q r) (hS : xSt r T pl ah aw) (hc : xChg (xInM ms) T aw aw') (hr : ∃ t, r' = r ++ t) (hT : ∃ t, T' = T ++ t) (hk : xFtt d ms Q ah f = true) (h : xFM P f r T pl aw) : xFM P f r' T' pl aw' := by
  obtain ⟨kd, ns, vs⟩ := f
  refine xFM_chg hS hc hr hT ?_ ?_ ?_ h
  · intro e g j hm
    have e : kd = 0 := e
    subst e
    exact xSubM_ok ms hk hm
  · intro e
    have e : kd = 2 := e
    subst e
    cases hk
  · intro h4 q hq
    match kd, h4, hk, hq with
    | n + 4, _, hk, hq =>
      have h1 := List.all_eq_true.mp hk q hq
      split at h1
      · rename_i s hs
        exact ⟨s, hs, fun m m1 m2 hm => xFar_ok hQ m1 m2 ms h1 hm⟩
      · cases h1
