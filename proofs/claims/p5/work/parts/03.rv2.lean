/-- a cell and what the run knows of it; cT: the classes of rows -/
def rvCe (cT : Nat → ClassId) (ad : List Nat) (ex : Nat → Nat → Nat) (c : rvC) (e : va_E) : Prop := match c with
  | .inl (ci, fs) => ∃ vs : List Value, e = .inr (ci, vs) ∧ rvRs ad ex fs vs
  | .inr (q, n, d, ov) =>
    (q < 3 ∧ ∃ f : Nat → Int32, e = .inl (cT q, n, .inl f) ∧ ∀ j, j < n → rvR ad ex (rvLook d ov j) (.int (f j))) ∨
    (q = 3 ∧ ∃ f : Nat → Int64, e = .inl (cT q, n, .inr (.inl f)) ∧ ∀ j, j < n → rvR ad ex (rvLook d ov j) (.long (f j))) ∨
    ((q = 4 ∨ q = 5) ∧ ∃ f : Nat → Option Nat, e = .inl (cT q, n, .inr (.inr (.inr (.inr f)))) ∧ ∀ j, j < n → rvR ad ex (rvLook d ov j) (va_rf (f j)))
def rvWoo (cT : Nat → ClassId) (ad : List Nat) (ex : Nat → Nat → Nat) : rvH → va_W → Prop
  | [], [] => True
  | c :: cs, q :: qs => rvCe cT ad ex c q.2 ∧ rvWoo cT ad ex cs qs
  | _, _ => False
theorem rvCe_mono {cT : Nat → ClassId} {ad : List Nat} {ex : Nat → Nat → Nat} {c : rvC} {e : va_E} (t : List Nat) (h : rvCe cT ad ex c e) : rvCe cT (ad ++ t) ex c e := by
  rcases c with ⟨ci, fs⟩ | ⟨q, n, d, ov⟩
  · obtain ⟨vs, h1, h2⟩ := h
    exact ⟨vs, h1, rvRs_mono t h2⟩
  · rcases h with ⟨h0, f, h1, h2⟩ | ⟨h0, f, h1, h2⟩ | ⟨h0, f, h1, h2⟩
    · exact Or.inl ⟨h0, f, h1, fun j hj => rvR_mono t (h2 j hj)⟩
    · exact Or.inr (Or.inl ⟨h0, f, h1, fun j hj => rvR_mono t (h2 j hj)⟩)
    · exact Or.inr (Or.inr ⟨h0, f, h1, fun j hj => rvR_mono t (h2 j hj)⟩)
theorem rvWoo_mono {cT : Nat → ClassId} {ad : List Nat} {ex : Nat → Nat → Nat} (t : List Nat) : ∀ {aw : rvH} {ws : va_W}, rvWoo cT ad ex aw ws → rvWoo cT (ad ++ t) ex aw ws
  | [], [], _ => trivial
  | _ :: _, _ :: _, h => ⟨rvCe_mono t h.1, rvWoo_mono t h.2⟩
  | [], _ :: _, h => h
  | _ :: _, [], h => h
theorem rvWoo_get {cT : Nat → ClassId} {ad : List Nat} {ex : Nat → Nat → Nat} : ∀ {aw : rvH} {ws : va_W} {k : Nat} {c : rvC}, rvWoo cT ad ex aw ws → aw[k]? = some c → ∃ q : Nat × va_E, ws[k]? = some q ∧ rvCe cT ad ex c q.2
  | [], _, _, _, _, hv => by simp at hv
  | w :: vs, [], _, _, h, _ => absurd h id
  | w :: vs, y :: ys, 0, v, h, hv => ⟨y, rfl, by
      have e : w = v := by simpa using hv
      rw [← e]; exact h.1⟩
  | w :: vs, y :: ys, k + 1, v, h, hv => by
      obtain ⟨x, h1, h2⟩ := rvWoo_get (k := k) h.2 (by simpa using hv)
      exact ⟨x, by simpa using h1, h2⟩
theorem rvWoo_set {cT : Nat → ClassId} {ad : List Nat} {ex : Nat → Nat → Nat} : ∀ {aw : rvH} {ws : va_W} {k : Nat} {c : rvC} {q : Nat × va_E}, rvWoo cT ad ex aw ws → rvCe cT ad ex c q.2 → rvWoo cT ad ex (aw.set k c) (ws.set k q)
  | [], [], _, _, _, _, _ => trivial
  | w :: vs, [], _, _, _, h, _ => absurd h id
  | [], y :: ys, _, _, _, h, _ => absurd h id
  | w :: vs, y :: ys, 0, v, x, h, hv => ⟨hv, h.2⟩
  | w :: vs, y :: ys, k + 1, v, x, h, hv => ⟨h.1, rvWoo_set (k := k) h.2 hv⟩
theorem rvWoo_push {cT : Nat → ClassId} {ad : List Nat} {ex : Nat → Nat → Nat} {c : rvC} {q : Nat × va_E} : ∀ {aw : rvH} {ws : va_W}, rvWoo cT ad ex aw ws → rvCe cT ad ex c q.2 → rvWoo cT ad ex (aw ++ [c]) (ws ++ [q])
  | [], [], _, hv => ⟨hv, trivial⟩
  | w :: vs, [], h, _ => absurd h id
  | [], y :: ys, h, _ => absurd h id
  | w :: vs, y :: ys, h, hv => ⟨h.1, rvWoo_push h.2 hv⟩
theorem rvWoo_len {cT : Nat → ClassId} {ad : List Nat} {ex : Nat → Nat → Nat} : ∀ {aw : rvH} {ws : va_W}, rvWoo cT ad ex aw ws → aw.length = ws.length
  | [], [], _ => rfl
  | w :: vs, [], h => absurd h id
  | [], y :: ys, h => absurd h id
  | w :: vs, y :: ys, h => by simp [rvWoo_len h.2]
/-- and the first places are at the addresses that cT keeps (its numbers from 99 on) -/
def rvWo (cT : Nat → ClassId) (ad : List Nat) (ex : Nat → Nat → Nat) (aw : rvH) (ws : va_W) : Prop := rvWoo cT ad ex aw ws ∧ ∀ k : Nat, k < cT 99 → ad[k]? = some (cT (100 + k))
theorem rvWo_mono {cT : Nat → ClassId} {ad : List Nat} {ex : Nat → Nat → Nat} (t : List Nat) {aw : rvH} {ws : va_W} (h : rvWo cT ad ex aw ws) : rvWo cT (ad ++ t) ex aw ws :=
  ⟨rvWoo_mono t h.1, fun k hk => by rw [List.getElem?_append_left (List.getElem?_eq_some_iff.mp (h.2 k hk)).1]; exact h.2 k hk⟩
theorem rvWo_get {cT : Nat → ClassId} {ad : List Nat} {ex : Nat → Nat → Nat} {aw : rvH} {ws : va_W} {k : Nat} {c : rvC} (h : rvWo cT ad ex aw ws) (hk : aw[k]? = some c) : ∃ q : Nat × va_E, ws[k]? = some q ∧ rvCe cT ad ex c q.2 := rvWoo_get h.1 hk
theorem rvWo_set {cT : Nat → ClassId} {ad : List Nat} {ex : Nat → Nat → Nat} {aw : rvH} {ws : va_W} {k : Nat} {c : rvC} {q : Nat × va_E} (h : rvWo cT ad ex aw ws) (hc : rvCe cT ad ex c q.2) : rvWo cT ad ex (aw.set k c) (ws.set k q) := ⟨rvWoo_set h.1 hc, h.2⟩
theorem rvWo_push {cT : Nat → ClassId} {ad : List Nat} {ex : Nat → Nat → Nat} {c : rvC} {q : Nat × va_E} {aw : rvH} {ws : va_W} (h : rvWo cT ad ex aw ws) (hc : rvCe cT ad ex c q.2) : rvWo cT ad ex (aw ++ [c]) (ws ++ [q]) := ⟨rvWoo_push h.1 hc, h.2⟩
theorem rvWo_len {cT : Nat → ClassId} {ad : List Nat} {ex : Nat → Nat → Nat} {aw : rvH} {ws : va_W} (h : rvWo cT ad ex aw ws) : aw.length = ws.length := rvWoo_len h.1
def rvCt (cT : Nat → ClassId) (ad : List Nat) : Nat → ClassId := fun n => if n < 99 then cT n else if n = 99 then ad.length else ad.getD (n - 100) 0
theorem rvCe_c {cT cU : Nat → ClassId} {ad : List Nat} {ex : Nat → Nat → Nat} {c : rvC} {e : va_E} (hc : ∀ q, q < 6 → cT q = cU q) (h : rvCe cT ad ex c e) : rvCe cU ad ex c e := by
  rcases c with ⟨ci, fs⟩ | ⟨q, n, d, ov⟩
  · exact h
  · rcases h with ⟨h0, f, h1, h2⟩ | ⟨h0, f, h1, h2⟩ | ⟨h0, f, h1, h2⟩
    · exact Or.inl ⟨h0, f, by rw [← hc q (by omega)]; exact h1, h2⟩
    · exact Or.inr (Or.inl ⟨h0, f, by rw [← hc q (by omega)]; exact h1, h2⟩)
    · exact Or.inr (Or.inr ⟨h0, f, by rw [← hc q (by omega)]; exact h1, h2⟩)
theorem rvWoo_c {cT cU : Nat → ClassId} {ad : List Nat} {ex : Nat → Nat → Nat} (hc : ∀ q, q < 6 → cT q = cU q) : ∀ {aw : rvH} {ws : va_W}, rvWoo cT ad ex aw ws → rvWoo cU ad ex aw ws
  | [], [], _ => trivial
  | w :: vs, [], h => absurd h id
  | [], y :: ys, h => absurd h id
  | w :: vs, y :: ys, h => ⟨rvCe_c hc h.1, rvWoo_c hc h.2⟩
theorem rvCt_c (cT : Nat → ClassId) (ad : List Nat) : ∀ q, q < 6 → cT q = rvCt cT ad q := fun q hq => by
  unfold rvCt
  rw [if_pos (by omega)]
theorem rvWo_in {cT : Nat → ClassId} {ad : List Nat} {ex : Nat → Nat → Nat} {aw : rvH} {ws : va_W} (h : rvWoo cT ad ex aw ws) : rvWo (rvCt cT ad) ad ex aw ws := by
  refine ⟨rvWoo_c (rvCt_c cT ad) h, fun k hk => ?_⟩
  have e1 : rvCt cT ad 99 = ad.length := by simp [rvCt]
  have e2 : rvCt cT ad (100 + k) = ad.getD k 0 := by
    unfold rvCt
    rw [if_neg (by omega), if_neg (by omega), show 100 + k - 100 = k by omega]
  rw [e1] at hk
  rw [e2, List.getD_eq_getElem?_getD, List.getElem?_eq_getElem hk]
  rfl
theorem rvWo_out {cT : Nat → ClassId} {ad ad0 : List Nat} {ex : Nat → Nat → Nat} {aw : rvH} {ws : va_W} (h : rvWo (rvCt cT ad0) ad ex aw ws) : rvWoo cT ad ex aw ws ∧ ∃ t, ad = ad0 ++ t := by
  refine ⟨rvWoo_c (fun q hq => (rvCt_c cT ad0 q hq).symm) h.1, ad.drop ad0.length, ?_⟩
  have e1 : rvCt cT ad0 99 = ad0.length := by simp [rvCt]
  have h2 := h.2
  rw [e1] at h2
  have h3 : ∀ k, k < ad0.length → ad[k]? = ad0[k]? := fun k hk => by
    have e2 : rvCt cT ad0 (100 + k) = ad0.getD k 0 := by
      unfold rvCt
      rw [if_neg (by omega), if_neg (by omega), show 100 + k - 100 = k by omega]
    rw [h2 k hk, e2, List.getD_eq_getElem?_getD, List.getElem?_eq_getElem hk]
    rfl
  have hlen : ad0.length ≤ ad.length := by
    cases hz : ad0.length with
    | zero => exact Nat.zero_le _
    | succ n =>
      have := (List.getElem?_eq_some_iff.mp (h2 n (by omega))).1
      omega
  apply List.ext_getElem?
  intro k
  by_cases hk : k < ad0.length
  · rw [List.getElem?_append_left hk]
    exact h3 k hk
  · rw [List.getElem?_append_right (by omega), List.getElem?_drop]
    congr 1
    omega
/-- the addresses of the places -/
abbrev rvAd (ws : va_W) : List Nat := ws.map (·.1)
theorem rvAd_set {ws : va_W} {k a : Nat} {e0 e : va_E} (h : ws[k]? = some (a, e0)) : rvAd (ws.set k (a, e)) = rvAd ws := by
  apply List.ext_getElem?
  intro i
  simp only [List.getElem?_map, List.getElem?_set]
  by_cases hk : k = i
  · subst hk
    have hl := (List.getElem?_eq_some_iff.mp h).1
    simp [hl, h]
    have := (List.getElem?_eq_some_iff.mp h).2
    rw [this]
  · simp [hk]
theorem rvAd_push {ws : va_W} {q : Nat × va_E} : rvAd (ws ++ [q]) = rvAd ws ++ [q.1] := by simp
theorem rvAd_at {ws : va_W} {k a : Nat} {e : va_E} (h : ws[k]? = some (a, e)) : (rvAd ws)[k]? = some a := by
  simp [List.getElem?_map, h]
/-- a reference is the address of its place -/
theorem rvAd_ref {ws : va_W} {k a q : Nat} {e : va_E} (h : ws[k]? = some (a, e)) (h2 : (rvAd ws)[k]? = some q) : q = a := by
  rw [rvAd_at h] at h2
  exact (Option.some.inj h2).symm
/-! locals -/
def rvLo (ad : List Nat) (ex : Nat → Nat → Nat) (mL : Nat) (al : List rvV) (ls : Array Slot) : Prop :=
  al.length = mL ∧ ∃ l : List (Nat × Value), lv_has ls mL l ∧ ∀ (i : Nat) (v : rvV), al[i]? = some v → (∃ z, v = .inr (9, z)) ∨ ∃ x : Value, (i, x) ∈ l ∧ rvR ad ex v x
theorem rvLo_mono {ad : List Nat} {ex : Nat → Nat → Nat} {mL : Nat} {al : List rvV} {ls : Array Slot} (t : List Nat) (h : rvLo ad ex mL al ls) : rvLo (ad ++ t) ex mL al ls := by
  obtain ⟨h0, l, h1, h2⟩ := h
  refine ⟨h0, l, h1, fun i v hv => ?_⟩
  rcases h2 i v hv with q | ⟨x, q1, q2⟩
  · exact Or.inl q
  · exact Or.inr ⟨x, q1, rvR_mono t q2⟩
theorem rvLo_get {ad : List Nat} {ex : Nat → Nat → Nat} {mL : Nat} {al : List rvV} {ls : Array Slot} {i : Nat} {v : rvV} (h : rvLo ad ex mL al ls) (hv : al[i]? = some v) (hn : ∀ z, v ≠ .inr (9, z)) : ∃ x : Value, ls[i]? = some (.val x) ∧ rvR ad ex v x := by
  obtain ⟨-, l, h1, h2⟩ := h
  rcases h2 i v hv with ⟨z, q⟩ | ⟨x, q1, q2⟩
  · exact absurd q (hn z)
  · exact ⟨x, h1.2.2 (i, x) q1, q2⟩
/-- behind a store of one or two words -/
theorem rvSet_at {al : List rvV} {i j : Nat} {v w : rvV} (hi : i < al.length) (h : (rvSet al i v)[j]? = some w) : (j = i ∧ w = v) ∨ (j ≠ i ∧ ((∃ z, w = .inr (9, z)) ∨ (al[j]? = some w ∧ (j + 1 = i → rvIsL w = false)))) := by
  cases i with
  | zero =>
    have h : (al.set 0 v)[j]? = some w := h
    rw [List.getElem?_set] at h
    by_cases hj : 0 = j
    · subst hj
      simp [hi] at h
      exact Or.inl ⟨rfl, h.symm⟩
    · simp [hj] at h
      exact Or.inr ⟨fun q => hj q.symm, Or.inr ⟨h, fun q => absurd q (Nat.succ_ne_zero j)⟩⟩
  | succ k =>
    have hk : k < al.length := by omega
    have e : al[k]? = some al[k] := List.getElem?_eq_getElem hk
    have h : (match al[k]? with
      | some w => bif rvIsL w then (al.set k rvU).set (k + 1) v else al.set (k + 1) v
      | none => al)[j]? = some w := h
    rw [e] at h
    have h : (bif rvIsL al[k] then (al.set k rvU).set (k + 1) v else al.set (k + 1) v)[j]? = some w := h
    cases hb : rvIsL al[k] with
    | true =>
      rw [hb] at h
      have h : ((al.set k rvU).set (k + 1) v)[j]? = some w := h
      rw [List.getElem?_set, List.getElem?_set] at h
      by_cases hj : k + 1 = j
      · subst hj
        simp [hi] at h
        exact Or.inl ⟨rfl, h.symm⟩
      · by_cases hj2 : k = j
        · subst hj2
          simp [hk] at h
          exact Or.inr ⟨by omega, Or.inl ⟨0, h.symm⟩⟩
        · simp [hj, hj2] at h
          exact Or.inr ⟨fun q => hj q.symm, Or.inr ⟨h, fun q => absurd q (by omega)⟩⟩
    | false =>
      rw [hb] at h
      have h : (al.set (k + 1) v)[j]? = some w := h
      rw [List.getElem?_set] at h
      by_cases hj : k + 1 = j
      · subst hj
        simp [hi] at h
        exact Or.inl ⟨rfl, h.symm⟩
      · have h9 : al[j]? = some w := by simpa [hj] using h
        refine Or.inr ⟨fun q => hj q.symm, Or.inr ⟨h9, fun q => ?_⟩⟩
        have e3 : j = k := by omega
        rw [e3, e] at h9
        rw [← Option.some.inj h9]
        exact hb
theorem rvSet_len (al : List rvV) (i : Nat) (v : rvV) : (rvSet al i v).length = al.length := by
  cases i with
  | zero => simp [rvSet]
  | succ k =>
    cases h : al[k]? with
    | none => simp [rvSet, h]
    | some w =>
      cases hb : rvIsL w with
      | true => simp [rvSet, h, hb]
      | false => simp [rvSet, h, hb]
theorem rvLo_set1 {ad : List Nat} {ex : Nat → Nat → Nat} {mL : Nat} {al : List rvV} {ls' : Array Slot} {l : List (Nat × Value)} {i : Nat} {v : rvV} {x : Value} (h0 : al.length = mL) (hi : i < mL)
    (h2 : ∀ (i : Nat) (v : rvV), al[i]? = some v → (∃ z, v = .inr (9, z)) ∨ ∃ x : Value, (i, x) ∈ l ∧ rvR ad ex v x) (hx : rvR ad ex v x)
    (hl : lv_has ls' mL ((i, x) :: l.filter (fun q => !(q.1 == i) && !(q.1 + 1 == i && q.2.category == 2)))) : rvLo ad ex mL (rvSet al i v) ls' := by
  refine ⟨by rw [rvSet_len]; exact h0, _, hl, fun j w hw => ?_⟩
  rcases rvSet_at (by omega) hw with ⟨rfl, rfl⟩ | ⟨hj, q | ⟨q1, q2⟩⟩
  · exact Or.inr ⟨x, List.mem_cons_self, hx⟩
  · exact Or.inl q
  · rcases h2 j w q1 with q | ⟨y, q3, q4⟩
    · exact Or.inl q
    · refine Or.inr ⟨y, List.mem_cons_of_mem _ (List.mem_filter.mpr ⟨q3, ?_⟩), q4⟩
      have hc := rvR_cat q4
      by_cases hji : j + 1 = i
      · rw [q2 hji] at hc
        have hc : y.category = 1 := hc
        simp [hj, hc]
      · simp [hj, hji]
theorem rvLo_set2 {ad : List Nat} {ex : Nat → Nat → Nat} {mL : Nat} {al : List rvV} {ls' : Array Slot} {l : List (Nat × Value)} {i : Nat} {v : rvV} {x : Value} (h0 : al.length = mL) (hi : i + 1 < mL)
    (h2 : ∀ (i : Nat) (v : rvV), al[i]? = some v → (∃ z, v = .inr (9, z)) ∨ ∃ x : Value, (i, x) ∈ l ∧ rvR ad ex v x) (hx : rvR ad ex v x)
    (hl : lv_has ls' mL ((i, x) :: l.filter (fun q => !(q.1 == i) && (!(q.1 == i + 1) && !(q.1 + 1 == i && q.2.category == 2))))) : rvLo ad ex mL ((rvSet al i v).set (i + 1) rvU) ls' := by
  refine ⟨by rw [List.length_set, rvSet_len]; exact h0, _, hl, fun j w hw => ?_⟩
  rw [List.getElem?_set] at hw
  by_cases hj1 : i + 1 = j
  · subst hj1
    have e : i + 1 < (rvSet al i v).length := by rw [rvSet_len]; omega
    simp [e] at hw
    exact Or.inl ⟨0, hw.symm⟩
  · simp [hj1] at hw
    rcases rvSet_at (by omega) hw with ⟨rfl, rfl⟩ | ⟨hj, q | ⟨q1, q2⟩⟩
    · exact Or.inr ⟨x, List.mem_cons_self, hx⟩
    · exact Or.inl q
    · rcases h2 j w q1 with q | ⟨y, q3, q4⟩
      · exact Or.inl q
      · refine Or.inr ⟨y, List.mem_cons_of_mem _ (List.mem_filter.mpr ⟨q3, ?_⟩), q4⟩
        have hc := rvR_cat q4
        have hj2 : ¬ j = i + 1 := fun q => hj1 q.symm
        by_cases hji : j + 1 = i
        · rw [q2 hji] at hc
          have hc : y.category = 1 := hc
          simp [hj, hj2, hc]
        · simp [hj, hj2, hji]
/-- a method's locals at its start -/
theorem rvEnt_ok {ad : List Nat} {ex : Nat → Nat → Nat} : ∀ {as : List rvV} {xs : List Value}, rvRs ad ex as xs → (lg_sl xs).length = rvLen (rvEnt as) ∧ ∀ (k : Nat) (i : Nat) (v : rvV), (rvEnt as)[i]? = some v → (∃ z, v = .inr (9, z)) ∨ ∃ x : Value, (k + i, x) ∈ lv_args k xs ∧ rvR ad ex v x
  | [], [], _ => ⟨rfl, fun k i v h => by simp [rvEnt] at h⟩
  | w :: vs, [], h => absurd h id
  | [], y :: ys, h => absurd h id
  | w :: vs, y :: ys, h => by
      obtain ⟨e1, e2⟩ := rvEnt_ok h.2
      have hc := rvR_cat h.1
      cases hb : rvIsL w with
      | true =>
        rw [hb] at hc
        have hc : y.category = 2 := hc
        have ee : rvEnt (w :: vs) = w :: rvU :: rvEnt vs := by simp [rvEnt, hb]
        have ea : ∀ k, lv_args k (y :: ys) = (k, y) :: lv_args (k + 2) ys := fun k => by simp [lv_args, hc]
        rw [ee]
        refine ⟨?_, fun k i v hv => ?_⟩
        · have : (lg_sl (y :: ys)).length = (lg_sl ys).length + 2 := by simp [lg_sl, hc]
          rw [this, e1]
          simp [rvLen]
        · rw [ea]
          match i, hv with
          | 0, hv => exact Or.inr ⟨y, List.mem_cons_self, by
              have e : w = v := by simpa using hv
              rw [← e]; exact h.1⟩
          | 1, hv => exact Or.inl ⟨0, by
              have e : rvU = v := by simpa using hv
              rw [← e]; rfl⟩
          | i + 2, hv =>
            rcases e2 (k + 2) i v (by simpa using hv) with q | ⟨x, q1, q2⟩
            · exact Or.inl q
            · exact Or.inr ⟨x, List.mem_cons_of_mem _ (by rw [show k + (i + 2) = k + 2 + i by omega]; exact q1), q2⟩
      | false =>
        rw [hb] at hc
        have hc : y.category = 1 := hc
        have ee : rvEnt (w :: vs) = w :: rvEnt vs := by simp [rvEnt, hb]
        have ea : ∀ k, lv_args k (y :: ys) = (k, y) :: lv_args (k + 1) ys := fun k => by simp [lv_args, hc]
        rw [ee]
        refine ⟨?_, fun k i v hv => ?_⟩
        · have : (lg_sl (y :: ys)).length = (lg_sl ys).length + 1 := by simp [lg_sl, hc]
          rw [this, e1]
          simp [rvLen]
        · rw [ea]
          match i, hv with
          | 0, hv => exact Or.inr ⟨y, List.mem_cons_self, by
              have e : w = v := by simpa using hv
              rw [← e]; exact h.1⟩
          | i + 1, hv =>
            rcases e2 (k + 1) i v (by simpa using hv) with q | ⟨x, q1, q2⟩
            · exact Or.inl q
            · exact Or.inr ⟨x, List.mem_cons_of_mem _ (by rw [show k + (i + 1) = k + 1 + i by omega]; exact q1), q2⟩
theorem rvLen_eq (l : List rvV) : rvLen l = l.length := by
  induction l with
  | nil => rfl
  | cons a t ih => simp [rvLen, ih]
theorem rvLo_entry {ad : List Nat} {ex : Nat → Nat → Nat} {as : List rvV} {xs : List Value} {mL : Nat} (h : rvRs ad ex as xs) (hm : rvLen (rvEnt as) ≤ mL) :
    rvLo ad ex mL (rvEnt as ++ List.replicate (mL - rvLen (rvEnt as)) rvU) (lg_sl xs ++ List.replicate (mL - (lg_sl xs).length) Slot.unset).toArray := by
  obtain ⟨e1, e2⟩ := rvEnt_ok h
  refine ⟨by rw [List.length_append, List.length_replicate, ← rvLen_eq]; omega, _, lv_entry xs (by omega), fun i v hv => ?_⟩
  by_cases hi : i < (rvEnt as).length
  · rw [List.getElem?_append_left hi] at hv
    rcases e2 0 i v hv with q | ⟨x, q1, q2⟩
    · exact Or.inl q
    · exact Or.inr ⟨x, by rw [Nat.zero_add] at q1; exact q1, q2⟩
  · rw [List.getElem?_append_right (by omega)] at hv
    have := List.mem_of_getElem? hv
    exact Or.inl ⟨0, List.eq_of_mem_replicate this⟩
/-! fields -/
theorem rvFit_ok {ad : List Nat} {ex : Nat → Nat → Nat} {ty : FieldType} {v : rvV} {x : Value} (h : rvFit ty v = true) (hx : rvR ad ex v x) : narrow ty x = x ∧ fits ty x = true := by
  have small : ∀ (n : Int32), 0 ≤ n.toInt → n.toInt ≤ 1 → n = 0 ∨ n = 1 := fun n h1 h2 => by
    rcases (show n.toInt = 0 ∨ n.toInt = 1 by omega) with q | q
    · exact Or.inl (Int32.toInt_inj.mp q)
    · exact Or.inr (Int32.toInt_inj.mp q)
  cases ty with
  | int =>
    rcases v with a | ⟨t, k⟩
    · obtain ⟨n, rfl, -⟩ := hx
      exact ⟨rfl, rfl⟩
    · match t, h with
      | 0, h => cases h
      | 1, h => cases h
      | 2, h => cases h
      | n + 3, h => cases h
  | boolean =>
    rcases v with a | ⟨t, k⟩
    · obtain ⟨n, rfl, h1, h2⟩ := hx
      obtain ⟨g1, g2⟩ := rv_and h
      have g1 := of_decide_eq_true g1
      have g2 := of_decide_eq_true g2
      rcases small n (by omega) (by omega) with rfl | rfl
      · exact ⟨rfl, rfl⟩
      · exact ⟨rfl, rfl⟩
    · match t, h with
      | 0, h => cases h
      | 1, h => cases h
      | 2, h => cases h
      | n + 3, h => cases h
  | byte =>
    rcases v with a | ⟨t, k⟩
    · obtain ⟨n, rfl, h1, h2⟩ := hx
      obtain ⟨g1, g2⟩ := rv_and h
      have g1 := of_decide_eq_true g1
      have g2 := of_decide_eq_true g2
      refine ⟨?_, ?_⟩
      · show Value.int n.toInt8.toInt32 = .int n
        congr 1
        apply Int32.toInt_inj.mp
        rw [Int8.toInt_toInt32, Int32.toInt_toInt8]
        exact Int.bmod_eq_of_le (by omega) (by omega)
      · show (decide (-128 ≤ n) && decide (n ≤ 127)) = true
        rw [Bool.and_eq_true, decide_eq_true_eq, decide_eq_true_eq, Int32.le_iff_toInt_le, Int32.le_iff_toInt_le]
        exact ⟨show (-128 : Int) ≤ n.toInt by omega, show n.toInt ≤ 127 by omega⟩
    · match t, h with
      | 0, h => cases h
      | 1, h => cases h
      | 2, h => cases h
      | n + 3, h => cases h
  | char =>
    rcases v with a | ⟨t, k⟩
    · obtain ⟨n, rfl, h1, h2⟩ := hx
      obtain ⟨g1, g2⟩ := rv_and h
      have g1 := of_decide_eq_true g1
      have g2 := of_decide_eq_true g2
      have e : ∃ q : Nat, q < 65536 ∧ n = nI q := by
        refine ⟨n.toInt.toNat, by omega, ?_⟩
        apply Int32.toInt_inj.mp
        rw [nI_toInt (by omega)]
        omega
      obtain ⟨q, hq, rfl⟩ := e
      exact pk_charN hq
    · match t, h with
      | 0, h => cases h
      | 1, h => cases h
      | 2, h => cases h
      | n + 3, h => cases h
  | long =>
    rcases v with a | ⟨t, k⟩
    · cases h
    · match t, h, hx with
      | 0, h, _ => cases h
      | 1, h, hx => obtain ⟨n, rfl, -⟩ := hx; exact ⟨rfl, rfl⟩
      | 2, h, _ => cases h
      | n + 3, h, _ => cases h
  | object C =>
    rcases v with a | ⟨t, k⟩
    · cases h
    · match t, h, hx with
      | 0, h, hx => cases hx; exact ⟨rfl, rfl⟩
      | 1, h, _ => cases h
      | 2, h, hx => obtain ⟨q, -, rfl⟩ := hx; exact ⟨rfl, rfl⟩
      | n + 3, h, _ => cases h
  | array C =>
    rcases v with a | ⟨t, k⟩
    · cases h
    · match t, h, hx with
      | 0, h, hx => cases hx; exact ⟨rfl, rfl⟩
      | 1, h, _ => cases h
      | 2, h, hx => obtain ⟨q, -, rfl⟩ := hx; exact ⟨rfl, rfl⟩
      | n + 3, h, _ => cases h
  | short =>
    rcases v with a | ⟨t, k⟩
    · cases h
    · match t, h with
      | 0, h => cases h
      | 1, h => cases h
      | 2, h => cases h
      | n + 3, h => cases h
  | float =>
    rcases v with a | ⟨t, k⟩
    · cases h
    · match t, h with
      | 0, h => cases h
      | 1, h => cases h
      | 2, h => cases h
      | n + 3, h => cases h
  | double =>
    rcases v with a | ⟨t, k⟩
    · cases h
    · match t, h with
      | 0, h => cases h
      | 1, h => cases h
      | 2, h => cases h
      | n + 3, h => cases h
