/-! What is known of the variables: a constraint is added, ranges are cut by it. -/
def xClipV (l : xL) (N : xN) (q : Nat × Int) : xN := match N[q.1]?, xLo N (xTm [] (xTm l.1 [q] (-1)) (-1)) with
  | some a, some b => N.set q.1 (xCut1 a q.2 (l.2 - b))
  | _, _ => N
theorem xClipV_ok {l : xL} {N : xN} {q : Nat × Int} {r : List Int} (h : xRg N r) (hl : 0 ≤ xVal r l) : xRg (xClipV l N q) r := by
  unfold xClipV
  split
  · rename_i a b ha hb
    refine ⟨by simp [h.1], fun x c hc => ?_⟩
    rw [List.getElem?_set] at hc
    by_cases hx : q.1 = x
    · subst hx
      have hlt := (List.getElem?_eq_some_iff.mp ha).1
      simp [hlt] at hc
      subst hc
      obtain ⟨p1, p2⟩ := h.2 q.1 a ha
      refine xCut1_ok p1 p2 ?_
      have h1 := xLo_ok h hb
      rw [xTm_ok, xTm_ok] at h1
      have h2 : xEv r [q] = q.2 * r.getD q.1 0 := by
        show q.2 * r.getD q.1 0 + 0 = _
        omega
      have h3 : xEv r [] = 0 := rfl
      rw [h2, h3] at h1
      have h4 : 0 ≤ xEv r l.1 + l.2 := hl
      omega
    · simp [hx] at hc
      exact h.2 x c hc
  · exact h
def xClip (l : xL) (N : xN) : xN := l.1.foldl (xClipV l) N
theorem xClip_ok {l : xL} {r : List Int} (hl : 0 ≤ xVal r l) : ∀ (t : List (Nat × Int)) {N : xN}, xRg N r → xRg (t.foldl (xClipV l) N) r
  | [], _, h => h
  | q :: t, _, h => xClip_ok hl t (xClipV_ok h hl)
def xBad (N : xN) : Bool := N.any fun a => decide (a.2 < a.1)
theorem xBad_ok {N : xN} {r : List Int} (h : xRg N r) : xBad N = false := by
  cases hb : xBad N with
  | false => rfl
  | true =>
    obtain ⟨a, ha, hlt⟩ := List.any_eq_true.mp hb
    obtain ⟨x, hx⟩ := List.getElem?_of_mem ha
    obtain ⟨p, q⟩ := h.2 x a hx
    have := of_decide_eq_true hlt
    omega
/-- ranges and constraints -/
abbrev xQ : Type := xN × List xL
def xQs (Q : xQ) (r : List Int) : Prop := xRg Q.1 r ∧ xCs Q.2 r ∧ ∀ c ∈ Q.2, xWf Q.1.length c.1
def xKnow (l : xL) (Q : xQ) : Option xQ := match xLo Q.1 l.1 with
  | some b => bif decide (0 ≤ b + l.2) then some Q else bif l.1.isEmpty || xBad (xClip l Q.1) then none else some (xClip l Q.1, bif xTwo l then Q.2 ++ [l] else Q.2)
  | none => some Q
theorem xClipV_len (l : xL) (N : xN) (q : Nat × Int) : (xClipV l N q).length = N.length := by
  unfold xClipV
  split
  · simp
  · rfl
theorem xClip_len (l : xL) : ∀ (t : List (Nat × Int)) (N : xN), (t.foldl (xClipV l) N).length = N.length
  | [], _ => rfl
  | q :: t, N => by
      show (t.foldl (xClipV l) (xClipV l N q)).length = N.length
      rw [xClip_len l t, xClipV_len]
theorem xKnow_ok {l : xL} {Q : xQ} {r : List Int} (h : xQs Q r) (hl : 0 ≤ xVal r l) : ∃ Q', xKnow l Q = some Q' ∧ xQs Q' r ∧ Q'.1.length = Q.1.length := by
  unfold xKnow
  split
  · rename_i b hb
    cases hd : decide (0 ≤ b + l.2) with
    | true => exact ⟨Q, rfl, h, rfl⟩
    | false =>
      have h1 : xRg (xClip l Q.1) r := xClip_ok hl l.1 h.1
      have h2 : (xClip l Q.1).length = Q.1.length := xClip_len l l.1 Q.1
      have he : l.1.isEmpty = false := by
        cases h9 : l.1.isEmpty with
        | false => rfl
        | true =>
          have e : l.1 = [] := List.isEmpty_iff.mp h9
          have hd := of_decide_eq_false hd
          rw [e] at hb
          have hb : (0 : Int) = b := Option.some.inj hb
          unfold xVal at hl
          rw [e] at hl
          have hl : 0 ≤ 0 + l.2 := hl
          omega
      rw [xBad_ok h1, he]
      cases ht : xTwo l with
      | true =>
        refine ⟨_, rfl, ⟨h1, fun c hc => ?_, fun c hc => ?_⟩, h2⟩
        · rcases List.mem_append.mp hc with hc | hc
          · exact h.2.1 c hc
          · rw [List.mem_singleton.mp hc]; exact hl
        · show xWf (xClip l Q.1).length c.1
          rw [h2]
          rcases List.mem_append.mp hc with hc | hc
          · exact h.2.2 c hc
          · rw [List.mem_singleton.mp hc]; exact xLo_wf hb
      | false =>
        refine ⟨_, rfl, ⟨h1, h.2.1, fun c hc => ?_⟩, h2⟩
        show xWf (xClip l Q.1).length c.1
        rw [h2]
        exact h.2.2 c hc
  · exact ⟨Q, rfl, h, rfl⟩
/-- one variable more -/
theorem xQs_app {Q : xQ} {r : List Int} {v : Int} {a : Int × Int} (h : xQs Q r) (h1 : a.1 ≤ v) (h2 : v ≤ a.2) : xQs (Q.1 ++ [a], Q.2) (r ++ [v]) := by
  refine ⟨xRg_app h.1 h1 h2, fun c hc => ?_, fun c hc q hq => ?_⟩
  · have hw : xWf r.length c.1 := by rw [← h.1.1]; exact h.2.2 c hc
    show 0 ≤ xEv (r ++ [v]) c.1 + c.2
    rw [xEv_app hw]
    exact h.2.1 c hc
  · have := h.2.2 c hc q hq
    show q.1 < (Q.1 ++ [a]).length
    simp
    omega
/-! Values: a number k * x + c of a variable x, or (0, _) null, (1, k) a long, (2, k) the strong cell k, (3, j) a text, (4, j) its bytes, (5, _) the script, (6, _) any reference or null, (9, _) nothing known, (10, j) a static row, (20, r) a cell of the region r, (21, r) that or null -/
abbrev xV : Type := (Nat × Int × Int) ⊕ (Nat × Nat)
def xSm (v : Nat × Int × Int) : xL := bif decide (v.2.1 = 0) then ([], v.2.2) else ([(v.1, v.2.1)], v.2.2)
def xIn32 (z : Int) : Prop := -2147483648 ≤ z ∧ z ≤ 2147483647
def xR (r : List Int) (T pl : List Nat) (v : xV) (c : rvV) : Prop := match v with
  | .inl a => xWf r.length (xSm a).1 ∧ xIn32 (xVal r (xSm a)) ∧ c = .inl (xVal r (xSm a), xVal r (xSm a))
  | .inr (0, _) => ∃ z, c = .inr (0, z)
  | .inr (1, 0) => ∃ z, c = .inr (1, z)
  | .inr (2, k) => ∃ i, pl[k]? = some i ∧ c = .inr (2, i)
  | .inr (6, _) => (∃ z, c = .inr (6, z)) ∨ (∃ z, c = .inr (0, z)) ∨ ∃ i, i < T.length ∧ c = .inr (2, i)
  | .inr (9, _) => True
  | .inr (20, g) => g < 40 ∧ ∃ i, T[i]? = some g ∧ c = .inr (2, i)
  | .inr (21, g) => (∃ z, c = .inr (0, z)) ∨ (g < 40 ∧ ∃ i, T[i]? = some g ∧ c = .inr (2, i))
  | .inr q => c = .inr q
/-- more variables, more places, more strong cells -/
def xGrow (r r' : List Int) (T T' pl pl' : List Nat) : Prop := (∃ t, r' = r ++ t) ∧ (∃ t, T' = T ++ t) ∧ ∃ t, pl' = pl ++ t
theorem xEv_grow {r t : List Int} : ∀ {u : List (Nat × Int)}, xWf r.length u → xEv (r ++ t) u = xEv r u
  | [], _ => rfl
  | (x, k) :: u, h => by
      have h1 : x < r.length := h (x, k) List.mem_cons_self
      have h2 := xEv_grow (t := t) (u := u) (fun q hq => h q (List.mem_cons_of_mem _ hq))
      show k * (r ++ t).getD x 0 + xEv (r ++ t) u = k * r.getD x 0 + xEv r u
      rw [h2]
      congr 2
      rw [List.getD_eq_getElem?_getD, List.getD_eq_getElem?_getD, List.getElem?_append_left h1]
theorem x_get_app {α : Type} {l t : List α} {i : Nat} {a : α} (h : l[i]? = some a) : (l ++ t)[i]? = some a := by
  rw [List.getElem?_append_left (List.getElem?_eq_some_iff.mp h).1]
  exact h
theorem xR_grow {r r' : List Int} {T T' pl pl' : List Nat} (g : xGrow r r' T T' pl pl') {v : xV} {c : rvV} (h : xR r T pl v c) : xR r' T' pl' v c := by
  obtain ⟨⟨t1, rfl⟩, ⟨t2, rfl⟩, ⟨t3, rfl⟩⟩ := g
  rcases v with a | ⟨t, k⟩
  · obtain ⟨h1, h2, h3⟩ := h
    have e : xVal (r ++ t1) (xSm a) = xVal r (xSm a) := by
      unfold xVal
      rw [xEv_grow h1]
    refine ⟨fun q hq => ?_, by rw [e]; exact h2, by rw [e]; exact h3⟩
    have := h1 q hq
    rw [List.length_append]
    omega
  · unfold xR at h ⊢
    split at h
    · rename_i heq; cases heq
    · rename_i heq; cases heq; exact h
    · rename_i heq; cases heq; exact h
    · rename_i heq; cases heq
      obtain ⟨i, p, q⟩ := h
      exact ⟨i, x_get_app p, q⟩
    · rename_i heq; cases heq
      rcases h with h | h | ⟨i, p, q⟩
      · exact Or.inl h
      · exact Or.inr (Or.inl h)
      · exact Or.inr (Or.inr ⟨i, by rw [List.length_append]; omega, q⟩)
    · rename_i heq; cases heq; trivial
    · rename_i heq; cases heq
      obtain ⟨w, i, p, q⟩ := h
      exact ⟨w, i, x_get_app p, q⟩
    · rename_i heq; cases heq
      rcases h with h | ⟨w, i, p, q⟩
      · exact Or.inl h
      · exact Or.inr ⟨w, i, x_get_app p, q⟩
    · rename_i heq
      cases heq
      exact h
