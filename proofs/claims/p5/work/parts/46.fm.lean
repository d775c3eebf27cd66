/-! What facts say. The numbers of a run: variables, places, strong cells and cells at its start, and the frames of those who wait for it. -/
abbrev xP : Type := List Int × List Nat × List Nat × rvH × List (List rvV)
/-- slots that may be written: region, from, to, and so on -/
def xInM (ms : List Nat) (g j : Nat) : Prop := match ms with
  | a :: lo :: hi :: t => (g = a ∧ lo ≤ j ∧ j ≤ hi) ∨ xInM t g j
  | _ => False
def xFrm (ms : List Nat) (T0 : List Nat) (aw0 aw : rvH) : Prop := ∀ (i g : Nat) (c : rvC), T0[i]? = some g → aw0[i]? = some c → ∃ c', aw[i]? = some c' ∧ ∀ j, ¬ xInM ms g j → xSlot c' j = xSlot c j
def xDec : List Nat → List (Nat × Int × Int) → List xV
  | 0 :: ns, v :: vs => .inl v :: xDec ns vs
  | (t + 1) :: k :: ns, vs => .inr (t, k) :: xDec ns vs
  | _, _ => []
def xEncN : List xV → List Nat
  | .inl _ :: t => 0 :: xEncN t
  | .inr (a, k) :: t => (a + 1) :: k :: xEncN t
  | [] => []
def xEncV : List xV → List (Nat × Int × Int)
  | .inl v :: t => v :: xEncV t
  | .inr _ :: t => xEncV t
  | [] => []
theorem xDec_enc : ∀ l : List xV, xDec (xEncN l) (xEncV l) = l
  | [] => rfl
  | .inl v :: t => by
      show .inl v :: xDec (xEncN t) (xEncV t) = _
      rw [xDec_enc t]
  | .inr (a, k) :: t => by
      show .inr (a, k) :: xDec (xEncN t) (xEncV t) = _
      rw [xDec_enc t]
/-- every sentence that may be said is good -/
def xSgA (T : List Nat) (aw : rvH) : Prop := ∀ i, T[i]? = some 14 → ∃ (c : rvC) (a b : Nat) (n : Int), aw[i]? = some c ∧ xSlot c 0 = some (.inr (2, a)) ∧ T[a]? = some 15 ∧ xSlot c 2 = some (.inr (2, b)) ∧ T[b]? = some 17 ∧ xRdc aw i 4 = some n ∧ ∀ j : Nat, (j : Int) < n → ∃ bx ∈ (xGrp 6).2, xBx (fun k j => bif Nat.beq k 53 then xRdc aw a j else xRdc aw b j) j (xGrp 6).1 bx
def xFM (P : xP) (f : xF) (r : List Int) (T pl : List Nat) (aw : rvH) : Prop := match f.1 with
  | 0 => (∃ t, r = P.1 ++ t) ∧ (P.2.1.length ≤ T.length ∧ ∀ i, i < P.2.1.length → T[i]? = P.2.1[i]?) ∧ (∃ t, pl = P.2.2.1 ++ t) ∧ xFrm f.2.1 P.2.1 P.2.2.2.1 aw
  | 1 => (match f.2.1 with
    | i :: ns => ∃ l, P.2.2.2.2[i]? = some l ∧ xRs r T pl (xDec ns f.2.2) l
    | [] => False)
  | 2 => xSgA T aw
  | 3 => (match f.2.1 with
    | [k] => ∃ i, pl[k]? = some i ∧ P.2.1.length ≤ i
    | _ => False)
  | kd + 4 => (∀ v ∈ f.2.2, xWf r.length (xSm v).1) ∧ xFv (kd + 4) f.2.1 (f.2.2.map (fun v => xVal r (xSm v))) (xRd pl aw)
theorem xVal_app {r t : List Int} {l : xL} (h : xWf r.length l.1) : xVal (r ++ t) l = xVal r l := by
  unfold xVal
  rw [xEv_grow h]
theorem xWf_app {r t : List Int} {l : List (Nat × Int)} (h : xWf r.length l) : xWf (r ++ t).length l := fun q hq => by
  have := h q hq
  rw [List.length_append]
  omega
theorem xMap_app {r t : List Int} {vs : List (Nat × Int × Int)} (h : ∀ v ∈ vs, xWf r.length (xSm v).1) : vs.map (fun v => xVal (r ++ t) (xSm v)) = vs.map (fun v => xVal r (xSm v)) :=
  List.map_congr_left (fun v hv => xVal_app (h v hv))
theorem xFM_app (P : xP) : xFm (xFM P) := by
  intro f r t T pl aw h
  unfold xFM at h ⊢
  split at h
  · obtain ⟨⟨t1, e⟩, h2⟩ := h
    exact ⟨⟨t1 ++ t, by rw [e, List.append_assoc]⟩, h2⟩
  · split at h
    · obtain ⟨l, h1, h2⟩ := h
      exact ⟨l, h1, xRs_grow (xG_r ⟨t, rfl⟩) h2⟩
    · exact h
  · exact h
  · exact h
  · exact ⟨fun v hv => xWf_app (h.1 v hv), by rw [xMap_app h.1]; exact h.2⟩
/-- a change of the cells: only what M says -/
def xChg (M : Nat → Nat → Prop) (T : List Nat) (aw aw' : rvH) : Prop := ∀ (i g : Nat) (c : rvC), T[i]? = some g → aw[i]? = some c → ∃ c', aw'[i]? = some c' ∧ ∀ j, ¬ M g j → xSlot c' j = xSlot c j
theorem xRdc_chg {M : Nat → Nat → Prop} {T : List Nat} {aw aw' : rvH} {i g j : Nat} (hc : xChg M T aw aw') (hi : T[i]? = some g) (hm : ¬ M g j) {z : Int} (h : xRdc aw i j = some z) : xRdc aw' i j = some z := by
  obtain ⟨c, h1, h2, h3⟩ := xRdc_pt h
  obtain ⟨c', k1, k2⟩ := hc i g c hi h1
  exact xRdc_of k1 (by rw [k2 j hm]; exact h2) h3
theorem xRs_growT {r r' : List Int} {T T' pl : List Nat} (hr : ∃ t, r' = r ++ t) (hT : ∃ t, T' = T ++ t) {vs : List xV} {cs : List rvV} (h : xRs r T pl vs cs) : xRs r' T' pl vs cs :=
  xRs_grow ⟨hr, hT, ⟨[], (List.append_nil pl).symm⟩⟩ h
theorem xFM_chg {P : xP} {f : xF} {r r' : List Int} {T T' pl : List Nat} {ah : List xC} {aw aw' : rvH} {M : Nat → Nat → Prop} (hS : xSt r T pl ah aw) (hc : xChg M T aw aw') (hr : ∃ t, r' = r ++ t) (hT : ∃ t, T' = T ++ t)
    (h0 : f.1 = 0 → ∀ g j, M g j → xInM f.2.1 g j) (h2 : f.1 = 2 → T' = T ∧ ∀ j, ¬ M 14 j ∧ ¬ M 15 j ∧ ¬ M 17 j)
    (h4 : 4 ≤ f.1 → ∀ q ∈ xRds f.1 f.2.1 f.2.2, ∃ s, ah[q.1]? = some s ∧ ∀ j : Nat, xVal r q.2.1 ≤ (j : Int) → (j : Int) ≤ xVal r q.2.2 → ¬ M s.1 j) (h : xFM P f r T pl aw) : xFM P f r' T' pl aw' := by
  obtain ⟨kd, ns, vs⟩ := f
  obtain ⟨tr, rfl⟩ := hr
  obtain ⟨tT, rfl⟩ := hT
  match kd, h0, h2, h4, h with
  | 0, h0, _, _, h =>
    obtain ⟨⟨t1, e⟩, ⟨g1, g2⟩, hp, hf⟩ := h
    refine ⟨⟨t1 ++ tr, by rw [e, List.append_assoc]⟩, ⟨by rw [List.length_append]; omega, fun i hi => ?_⟩, hp, fun i g c hi hcc => ?_⟩
    · rw [List.getElem?_append_left (by omega)]
      exact g2 i hi
    · obtain ⟨c1, k1, k2⟩ := hf i g c hi hcc
      have hT9 : T[i]? = some g := by rw [g2 i (List.getElem?_eq_some_iff.mp hi).1]; exact hi
      obtain ⟨c2, k3, k4⟩ := hc i g c1 hT9 k1
      exact ⟨c2, k3, fun j hj => by rw [k4 j (fun hm => hj (h0 rfl g j hm)), k2 j hj]⟩
  | 1, _, _, _, h =>
    match ns, h with
    | i :: ns, h =>
      obtain ⟨l, k1, k2⟩ := h
      exact ⟨l, k1, xRs_growT ⟨tr, rfl⟩ ⟨tT, rfl⟩ k2⟩
    | [], h => exact absurd h id
  | 2, _, h2, _, h =>
    obtain ⟨e, h2⟩ := h2 rfl
    have e : T ++ tT = T := e
    intro i hi
    show ∃ (c : rvC) (a b : Nat) (n : Int), aw'[i]? = some c ∧ xSlot c 0 = some (.inr (2, a)) ∧ (T ++ tT)[a]? = some 15 ∧ xSlot c 2 = some (.inr (2, b)) ∧ (T ++ tT)[b]? = some 17 ∧ xRdc aw' i 4 = some n ∧ ∀ j : Nat, (j : Int) < n → ∃ bx ∈ (xGrp 6).2, xBx (fun k j => bif Nat.beq k 53 then xRdc aw' a j else xRdc aw' b j) j (xGrp 6).1 bx
    rw [e] at hi ⊢
    obtain ⟨c, a, b, n, k1, k2, k3, k4, k5, k6, k7⟩ := h i hi
    obtain ⟨c', m1, m2⟩ := hc i 14 c hi k1
    refine ⟨c', a, b, n, m1, by rw [m2 0 (h2 0).1]; exact k2, k3, by rw [m2 2 (h2 2).1]; exact k4, k5, xRdc_chg hc hi (h2 4).1 k6, fun j hj => ?_⟩
    obtain ⟨bx, b1, b2⟩ := k7 j hj
    refine ⟨bx, b1, xBx_mono (fun s hs z hz => ?_) b2⟩
    show (bif Nat.beq s.1 53 then xRdc aw' a (s.2.1 * j + s.2.2) else xRdc aw' b (s.2.1 * j + s.2.2)) = some z
    have hz : (bif Nat.beq s.1 53 then xRdc aw a (s.2.1 * j + s.2.2) else xRdc aw b (s.2.1 * j + s.2.2)) = some z := hz
    cases hb : Nat.beq s.1 53 with
    | true =>
      rw [hb] at hz
      exact xRdc_chg hc k3 (h2 _).2.1 hz
    | false =>
      rw [hb] at hz
      exact xRdc_chg hc k5 (h2 _).2.2 hz
  | 3, _, _, _, h => exact h
  | kd + 4, _, _, h4, h =>
    obtain ⟨w, h⟩ := h
    refine ⟨fun v hv => xWf_app (w v hv), ?_⟩
    show xFv (kd + 4) ns (vs.map (fun v => xVal (r ++ tr) (xSm v))) (xRd pl aw')
    rw [xMap_app w]
    refine xFv_loc (fun q hq j j1 j2 z hz => ?_) h
    obtain ⟨s, s1, s2⟩ := h4 (by omega) q hq
    have s2 := s2 j j1 j2
    obtain ⟨i, c, p1, p2, p3, -⟩ := hS.2 q.1 s s1
    unfold xRd at hz ⊢
    rw [p1] at hz ⊢
    exact xRdc_chg hc p2 s2 hz
