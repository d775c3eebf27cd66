/-! A call by a contract. -/
def xToV (l : xL) : Option (Nat × Int × Int) := match l.1 with
  | [] => some (0, 0, l.2)
  | [q] => some (q.1, q.2, l.2)
  | _ => none
theorem xToV_ok {l : xL} {v : Nat × Int × Int} (r : List Int) (h : xToV l = some v) : xVal r (xSm v) = xVal r l ∧ ∀ n, xWf n l.1 → xWf n (xSm v).1 := by
  unfold xToV at h
  split at h
  · rename_i h1
    cases h
    refine ⟨?_, fun n _ => xW0⟩
    rw [xV0]
    unfold xVal
    rw [h1]
    show l.2 = 0 + l.2
    omega
  · rename_i q h1
    cases h
    refine ⟨?_, fun n hw p hp => ?_⟩
    · rw [xSm_val]
      unfold xVal
      rw [h1]
      show q.2 * r.getD q.1 0 + l.2 = q.2 * r.getD q.1 0 + 0 + l.2
      omega
    · unfold xSm at hp
      dsimp only at hp
      cases hz : decide (q.2 = 0) with
      | true => rw [hz] at hp; cases hp
      | false =>
        rw [hz] at hp
        have e : p = (q.1, q.2) := List.mem_singleton.mp hp
        rw [e]
        exact hw q (by rw [h1]; exact List.mem_singleton.mpr rfl)
  · cases h
theorem xSbT_wf {n : Nat} {s : List xL} (hs : ∀ l ∈ s, xWf n l.1) : ∀ {t : List (Nat × Int)} {m : xL}, xSbT s t = some m → xWf n m.1
  | [], m, h => by
      cases h
      exact fun q hq => by cases hq
  | (x, k) :: t, m, h => by
      unfold xSbT at h
      split at h
      · rename_i l m2 hl hm
        cases h
        exact xTm_wf (xTm_wf (fun q hq => by cases hq) (hs l (List.mem_of_getElem? hl))) (xSbT_wf hs hm)
      · cases h
theorem xSb_wf {n : Nat} {s : List xL} (hs : ∀ l ∈ s, xWf n l.1) {l m : xL} (h : xSb s l = some m) : xWf n m.1 := by
  unfold xSb at h
  split at h
  · rename_i m2 hm
    cases h
    show xWf n m2.1
    exact xSbT_wf hs hm
  · cases h
def xMl (s : List xL) (a : Nat × Int × Int) : Option (Nat × Int × Int) := match xSb s (xSm a) with
  | some m => xToV m
  | none => none
theorem xMl_ok {s : List xL} {a w : Nat × Int × Int} {r : List Int} (hs : ∀ l ∈ s, xWf r.length l.1) (h : xMl s a = some w) : xVal r (xSm w) = xVal (s.map (xVal r)) (xSm a) ∧ xWf r.length (xSm w).1 := by
  unfold xMl at h
  split at h
  · rename_i m hm
    obtain ⟨k1, k2⟩ := xToV_ok r h
    obtain ⟨k3, -⟩ := xSb_ok (r := r) hm
    exact ⟨by rw [k1, k3], k2 _ (xSb_wf hs hm)⟩
  · cases h
def xMv (s : List xL) (v : xV) : Option xV := match v with
  | .inl a => (match xMl s a with
    | some w => some (.inl w)
    | none => none)
  | .inr q => some (.inr q)
theorem x_take_out {α : Type} {l : List α} {n k : Nat} {a : α} (h : (l.take n)[k]? = some a) : l[k]? = some a := by
  rw [List.getElem?_take] at h
  by_cases hk : k < n
  · simpa [hk] using h
  · simp [hk] at h
theorem xR_up {r r' : List Int} {T pl : List Nat} {n : Nat} {q : Nat × Nat} {c : rvV} (h : xR r T (pl.take n) (.inr q) c) : xR r' T pl (.inr q) c := by
  obtain ⟨t, k⟩ := q
  by_cases e : t = 2
  · subst e
    obtain ⟨i, hi, rfl⟩ := h
    exact ⟨i, x_take_out hi, rfl⟩
  · refine xR_any ?_ h
    cases hb : Nat.beq t 2 with
    | false => rfl
    | true => exact absurd (rv_beq hb) e
theorem xMv_ok {s : List xL} {v w : xV} {r : List Int} {T pl : List Nat} {n : Nat} {c : rvV} (hs : ∀ l ∈ s, xWf r.length l.1) (h : xMv s v = some w) (hv : xR (s.map (xVal r)) T (pl.take n) v c) : xR r T pl w c := by
  rcases v with a | q
  · unfold xMv at h
    dsimp only at h
    split at h
    · rename_i w2 hw
      cases h
      obtain ⟨k1, k2⟩ := xMl_ok hs hw
      obtain ⟨z, rfl, ez, z32, -⟩ := xR_pt hv
      exact ⟨k2, by rw [k1, ← ez]; exact z32, by rw [k1, ← ez]⟩
    · cases h
  · cases h
    exact xR_up hv
def xMo (s : List xL) (q : (Nat × Int × Int) × xV) : Option ((Nat × Int × Int) × xV) := match xMl s q.1, xMv s q.2 with
  | some a, some b => some (a, b)
  | _, _ => none
theorem xMo_ok {s : List xL} {q q2 : (Nat × Int × Int) × xV} {r : List Int} {T pl : List Nat} {n : Nat} {c : rvC} (hs : ∀ l ∈ s, xWf r.length l.1) (h : xMo s q = some q2) (hv : xOv (s.map (xVal r)) T (pl.take n) c q) : xOv r T pl c q2 := by
  unfold xMo at h
  split at h
  · rename_i a b ha hb
    cases h
    obtain ⟨k1, k2⟩ := xMl_ok hs ha
    obtain ⟨-, j, w, j1, j2, j3⟩ := hv
    exact ⟨k2, j, w, by rw [k1]; exact j1, j2, xMv_ok hs hb j3⟩
  · cases h
def xMls (s : List xL) : List (Nat × Int × Int) → Option (List (Nat × Int × Int))
  | [] => some []
  | a :: t => (match xMl s a, xMls s t with
    | some b, some u => some (b :: u)
    | _, _ => none)
theorem xMls_ok {s : List xL} {r : List Int} (hs : ∀ l ∈ s, xWf r.length l.1) : ∀ {as bs : List (Nat × Int × Int)}, xMls s as = some bs → bs.map (fun v => xVal r (xSm v)) = as.map (fun v => xVal (s.map (xVal r)) (xSm v)) ∧ ∀ v ∈ bs, xWf r.length (xSm v).1
  | [], _, h => by
      cases h
      exact ⟨rfl, (fun v hv => by cases hv)⟩
  | a :: t, bs, h => by
      unfold xMls at h
      split at h
      · rename_i b u hb hu
        cases h
        obtain ⟨k1, k2⟩ := xMl_ok hs hb
        obtain ⟨k3, k4⟩ := xMls_ok hs hu
        refine ⟨by rw [List.map_cons, List.map_cons, k3, k1], fun v hv => ?_⟩
        rcases List.mem_cons.mp hv with e | hv
        · rw [e]; exact k2
        · exact k4 v hv
      · cases h
def xMf (s : List xL) (f : xF) : Option xF := match f.1 with
  | 0 => none
  | 1 => none
  | 3 => none
  | _ => (match xMls s f.2.2 with
    | some vs => some (f.1, f.2.1, vs)
    | none => none)
theorem xMf_ok {P : xP} {s : List xL} {f f2 : xF} {r : List Int} {T pl : List Nat} {n : Nat} {aw : rvH} (hs : ∀ l ∈ s, xWf r.length l.1) (h : xMf s f = some f2) (hv : f.1 ≠ 0 → ∀ P' : xP, xFM P' f (s.map (xVal r)) T (pl.take n) aw) : xFM P f2 r T pl aw := by
  obtain ⟨kd, ns, vs⟩ := f
  match kd, h, hv with
  | 0, h, _ => cases h
  | 1, h, _ => cases h
  | 3, h, _ => cases h
  | 2, h, hv =>
    have h : (match xMls s vs with
      | some vs => some (2, ns, vs)
      | none => none) = some f2 := h
    split at h
    · cases h
      exact hv (show (2 : Nat) ≠ 0 by decide) P
    · cases h
  | kd + 4, h, hv =>
    have h : (match xMls s vs with
      | some vs => some (kd + 4, ns, vs)
      | none => none) = some f2 := h
    split at h
    · rename_i us hu
      cases h
      obtain ⟨k1, k2⟩ := xMls_ok hs hu
      obtain ⟨-, hf⟩ := hv (show kd + 4 ≠ 0 by omega) P
      have hf : xFv (kd + 4) ns (vs.map (fun v => xVal (s.map (xVal r)) (xSm v))) (xRd (pl.take n) aw) := hf
      rw [← k1] at hf
      refine ⟨k2, xFv_loc (fun q hq j j1 j2 z hz => ?_) hf⟩
      unfold xRd at hz ⊢
      split at hz
      · rename_i i hi
        rw [x_take_out hi]
        exact hz
      · cases hz
    · cases h
noncomputable def xMrg (d : Nat) (Q : xQ) (ms : List Nat) (s : List xL) : List xC → List xC → List xC
  | [], a :: as => (a.1, a.2.filter (fun b => xFar d Q ms a.1 (xSm b.1) (xSm b.1))) :: xMrg d Q ms s [] as
  | o :: os, a :: as => (a.1, o.2.filterMap (xMo s) ++ a.2.filter (fun b => xFar d Q ms a.1 (xSm b.1) (xSm b.1))) :: xMrg d Q ms s os as
  | _, [] => []
theorem xMrg_len {d : Nat} {Q : xQ} {ms : List Nat} {s : List xL} : ∀ (os as : List xC), (xMrg d Q ms s os as).length = as.length
  | [], [] => rfl
  | _ :: _, [] => rfl
  | [], a :: as => by
      show (xMrg d Q ms s [] as).length + 1 = as.length + 1
      rw [xMrg_len [] as]
  | o :: os, a :: as => by
      show (xMrg d Q ms s os as).length + 1 = as.length + 1
      rw [xMrg_len os as]
theorem xMrg_get {d : Nat} {Q : xQ} {ms : List Nat} {s : List xL} : ∀ (os as : List xC) (k : Nat) (t : xC), (xMrg d Q ms s os as)[k]? = some t → ∃ a, as[k]? = some a ∧ t.1 = a.1 ∧ ∀ q ∈ t.2, (q ∈ a.2 ∧ xFar d Q ms a.1 (xSm q.1) (xSm q.1) = true) ∨ ∃ o q0, os[k]? = some o ∧ q0 ∈ o.2 ∧ xMo s q0 = some q
  | [], [], k, t, h => by simp [xMrg] at h
  | _ :: _, [], k, t, h => by simp [xMrg] at h
  | [], a :: as, 0, t, h => by
      have e : (a.1, a.2.filter (fun b => xFar d Q ms a.1 (xSm b.1) (xSm b.1))) = t := by simpa [xMrg] using h
      subst e
      exact ⟨a, rfl, rfl, fun q hq => Or.inl (List.mem_filter.mp hq)⟩
  | [], a :: as, k + 1, t, h => by
      obtain ⟨b, h1, h2, h3⟩ := xMrg_get [] as k t (by simpa [xMrg] using h)
      refine ⟨b, by simpa using h1, h2, fun q hq => ?_⟩
      rcases h3 q hq with h4 | ⟨o, q0, h4, -⟩
      · exact Or.inl h4
      · simp at h4
  | o :: os, a :: as, 0, t, h => by
      have e : (a.1, o.2.filterMap (xMo s) ++ a.2.filter (fun b => xFar d Q ms a.1 (xSm b.1) (xSm b.1))) = t := by simpa [xMrg] using h
      subst e
      refine ⟨a, rfl, rfl, fun q hq => ?_⟩
      rcases List.mem_append.mp hq with hq | hq
      · obtain ⟨q0, h1, h2⟩ := List.mem_filterMap.mp hq
        exact Or.inr ⟨o, q0, rfl, h1, h2⟩
      · exact Or.inl (List.mem_filter.mp hq)
  | o :: os, a :: as, k + 1, t, h => by
      obtain ⟨b, h1, h2, h3⟩ := xMrg_get os as k t (by simpa [xMrg] using h)
      exact ⟨b, by simpa using h1, h2, fun q hq => by simpa using h3 q hq⟩
def xKnows : List xL → xQ → Option xQ
  | [], Q => some Q
  | l :: t, Q => (match xKnow l Q with
    | some Q2 => xKnows t Q2
    | none => none)
theorem xKnows_ok {r : List Int} : ∀ (l : List xL) {Q : xQ}, xQs Q r → (∀ m ∈ l, 0 ≤ xVal r m) → ∃ Q2, xKnows l Q = some Q2 ∧ xQs Q2 r
  | [], Q, h, _ => ⟨Q, rfl, h⟩
  | m :: t, Q, h, hm => by
      obtain ⟨Q1, q1, hQ1, -⟩ := xKnow_ok h (hm m List.mem_cons_self)
      obtain ⟨Q2, q2, hQ2⟩ := xKnows_ok t hQ1 (fun x hx => hm x (List.mem_cons_of_mem _ hx))
      refine ⟨Q2, ?_, hQ2⟩
      unfold xKnows
      rw [q1]
      exact q2
