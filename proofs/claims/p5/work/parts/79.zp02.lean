/-! Both sides read a text alike (by hand), 2. -/
set_option maxRecDepth 100000
/-- the words of the language -/
def pd_tW : List (List Int) := [[115, 116, 114, 101, 101, 116], [116, 114, 97, 109], [112, 101, 114, 115, 111, 110], [109, 97, 114, 107], [114, 105, 100, 101, 115], [104, 97, 115], [104, 97, 116, 101, 115], [109, 97, 110], [119, 111, 109, 97, 110], [97, 119, 97, 121], [103, 101, 116, 115], [108, 111, 115, 101, 115], [109, 111, 118, 101, 115], [108, 101, 97, 118, 101, 115], [99, 111, 109, 101, 115], [121, 101, 97, 114], [111, 114], [97, 110, 100], [110, 111, 116], [105, 110], [109, 105, 110, 100, 115], [109, 97, 114, 107, 115], [110, 117, 109, 98, 101, 114]]
/-- the reference's order of them -/
def pd_tWr : List Nat := [0, 1, 2, 7, 8, 9, 3, 4, 5, 6, 10, 11, 12, 13, 14, 15, 16, 17, 18, 19, 20, 21, 22]
def pd_tIdx (r : List Int) : Int := fstI (fun i => decide (pd_tW.getD i [] = r)) 23 0
def pd_hW5 (H : hH) : Prop := ∀ i, i < 23 → H.2.1 6 i = pd_tF5 (pd_tW.getD i [])
def pd_hW8 (K : hH) : Prop := ∀ i, i < 23 → K.2.1 35 i = pd_tF8 (pd_tW.getD (pd_tWr.getD i 0) [])
theorem pd_fstI_congr {p q : Nat → Bool} : ∀ (k i : Nat), (∀ j, i ≤ j → j < i + k → p j = q j) → fstI p k i = fstI q k i
  | 0, _, _ => rfl
  | k + 1, i, h => by
    show (if p i = true then _ else _) = (if q i = true then _ else _)
    rw [h i (by omega) (by omega), pd_fstI_congr k (i + 1) (fun j a b => h j (by omega) (by omega))]
theorem pd_fstI_spec {p : Nat → Bool} : ∀ (k i : Nat), (fstI p k i = -1 ∧ ∀ j, i ≤ j → j < i + k → p j = false) ∨ ∃ j : Nat, fstI p k i = (j : Int) ∧ i ≤ j ∧ j < i + k ∧ p j = true
  | 0, i => Or.inl ⟨rfl, fun j a b => by omega⟩
  | k + 1, i => by
    by_cases h : p i = true
    · refine Or.inr ⟨i, ?_, by omega, by omega, h⟩
      show (if p i = true then _ else _) = _
      rw [if_pos h]
    · have e : fstI p (k + 1) i = fstI p k (i + 1) := by
        show (if p i = true then _ else _) = _
        rw [if_neg h]
      rcases pd_fstI_spec (p := p) k (i + 1) with ⟨a, b⟩ | ⟨j, a, b, c, d⟩
      · refine Or.inl ⟨by rw [e]; exact a, fun j h1 h2 => ?_⟩
        by_cases hj : j = i
        · subst hj; simpa using h
        · exact b j (by omega) (by omega)
      · exact Or.inr ⟨j, by rw [e]; exact a, by omega, by omega, d⟩
theorem pd_allI_spec {p : Nat → Bool} : ∀ (k i : Nat), (allI p k i = 1 ∧ ∀ j, i ≤ j → j < i + k → p j = true) ∨ (allI p k i = 0 ∧ ∃ j : Nat, i ≤ j ∧ j < i + k ∧ p j = false)
  | 0, i => Or.inl ⟨rfl, fun j a b => by omega⟩
  | k + 1, i => by
    by_cases h : p i = true
    · have e : allI p (k + 1) i = allI p k (i + 1) := by
        show (if p i = true then _ else _) = _
        rw [if_pos h]
      rcases pd_allI_spec (p := p) k (i + 1) with ⟨a, b⟩ | ⟨a, j, b, c, d⟩
      · refine Or.inl ⟨by rw [e]; exact a, fun j h1 h2 => ?_⟩
        by_cases hj : j = i
        · subst hj; exact h
        · exact b j (by omega) (by omega)
      · exact Or.inr ⟨by rw [e]; exact a, j, by omega, by omega, d⟩
    · refine Or.inr ⟨?_, i, by omega, by omega, by simpa using h⟩
      show (if p i = true then _ else _) = _
      rw [if_neg h]
theorem pd_anyI_spec {p : Nat → Bool} : ∀ (k i : Nat), (anyI p k i = 0 ∧ ∀ j, i ≤ j → j < i + k → p j = false) ∨ (anyI p k i = 1 ∧ ∃ j : Nat, i ≤ j ∧ j < i + k ∧ p j = true)
  | 0, i => Or.inl ⟨rfl, fun j a b => by omega⟩
  | k + 1, i => by
    by_cases h : p i = true
    · refine Or.inr ⟨?_, i, by omega, by omega, h⟩
      show (if p i = true then _ else _) = _
      rw [if_pos h]
    · have e : anyI p (k + 1) i = anyI p k (i + 1) := by
        show (if p i = true then _ else _) = _
        rw [if_neg h]
      rcases pd_anyI_spec (p := p) k (i + 1) with ⟨a, b⟩ | ⟨a, j, b, c, d⟩
      · refine Or.inl ⟨by rw [e]; exact a, fun j h1 h2 => ?_⟩
        by_cases hj : j = i
        · subst hj; simpa using h
        · exact b j (by omega) (by omega)
      · exact Or.inr ⟨by rw [e]; exact a, j, by omega, by omega, d⟩
theorem pd_tW_ok : ∀ i, i < 23 → pd_vR (pd_tW.getD i []) := by
  have h : ∀ i : Fin 23, (pd_tW.getD i.1 []).length ≤ 7 ∧ (pd_tW.getD i.1 []).all pd_tLt = true := by decide
  intro i hi
  exact ⟨(h ⟨i, hi⟩).1, fun b hb => List.all_eq_true.mp (h ⟨i, hi⟩).2 b hb⟩
theorem pd_tW_inj : ∀ i j, i < 23 → j < 23 → pd_tW.getD i [] = pd_tW.getD j [] → i = j := by
  have h : ∀ i j : Fin 23, pd_tW.getD i.1 [] = pd_tW.getD j.1 [] → i = j := by decide
  intro i j hi hj e
  exact congrArg Fin.val (h ⟨i, hi⟩ ⟨j, hj⟩ e)
theorem pd_tWr_ok : ∀ i, i < 23 → pd_tWr.getD i 0 < 23 := by
  have h : ∀ i : Fin 23, pd_tWr.getD i.1 0 < 23 := by decide
  exact fun i hi => h ⟨i, hi⟩
theorem pd_tWr_sur : ∀ j, j < 23 → ∃ i, i < 23 ∧ pd_tWr.getD i 0 = j := by
  have h : ∀ j : Fin 23, ∃ i : Fin 23, pd_tWr.getD i.1 0 = j.1 := by decide
  intro j hj
  obtain ⟨i, e⟩ := h ⟨j, hj⟩
  exact ⟨i.1, i.2, e⟩
theorem pd_tIdx_of {i : Nat} (hi : i < 23) : pd_tIdx (pd_tW.getD i []) = (i : Int) := by
  unfold pd_tIdx
  rcases pd_fstI_spec (p := fun j => decide (pd_tW.getD j [] = pd_tW.getD i [])) 23 0 with ⟨-, b⟩ | ⟨j, a, -, c, d⟩
  · have := b i (by omega) (by omega)
    simp at this
  · rw [a, pd_tW_inj j i (by omega) hi (by simpa using d)]
theorem pd_tIdx_spec (r : List Int) : (pd_tIdx r = -1 ∧ ∀ i, i < 23 → ¬ pd_tW.getD i [] = r) ∨ ∃ i : Nat, pd_tIdx r = (i : Int) ∧ i < 23 ∧ pd_tW.getD i [] = r := by
  unfold pd_tIdx
  rcases pd_fstI_spec (p := fun j => decide (pd_tW.getD j [] = r)) 23 0 with ⟨a, b⟩ | ⟨j, a, -, c, d⟩
  · refine Or.inl ⟨a, fun i hi => ?_⟩
    have := b i (by omega) (by omega)
    simpa using this
  · exact Or.inr ⟨j, a, by omega, by simpa using d⟩
theorem pd_tWordOf {H : hH} (hw : pd_hW5 H) {r : List Int} (hr : pd_vR r) : f_X9_wordOf (pd_tF5 r) H = pd_tIdx r := by
  unfold f_X9_wordOf pd_tIdx
  apply pd_fstI_congr
  intro j _ hj
  rw [hw j (by omega)]
  exact decide_eq_decide.mpr (pd_tF5_inj (pd_tW_ok j (by omega)) hr)
theorem pd_tIsName {K : hH} (hw : pd_hW8 K) {r : List Int} (hr : pd_vR r) (h1 : K.1 29 11 = 1) (h2 : K.2.1 29 17 = pd_tF8 r) : f_X12_isName K = if pd_tIdx r = -1 then 1 else 0 := by
  unfold f_X12_isName
  rw [if_pos h1]
  rcases pd_allI_spec (p := fun i => decide (¬ K.2.1 29 17 = K.2.1 35 i)) 23 0 with ⟨a, b⟩ | ⟨a, j, -, c, d⟩
  · rw [a]
    rcases pd_tIdx_spec r with ⟨e, -⟩ | ⟨i, e1, e2, e3⟩
    · rw [if_pos e]
    · exfalso
      obtain ⟨k, k1, k2⟩ := pd_tWr_sur i e2
      have := b k (by omega) (by omega)
      rw [h2, hw k k1, k2, e3] at this
      simp at this
  · rw [a]
    rw [h2, hw j (by omega)] at d
    have d2 : pd_tF8 r = pd_tF8 (pd_tW.getD (pd_tWr.getD j 0) []) := by simpa using d
    have d3 := (pd_tF8_inj hr (pd_tW_ok _ (pd_tWr_ok j (by omega)))).mp d2
    rw [if_neg]
    rw [d3, pd_tIdx_of (pd_tWr_ok j (by omega))]
    omega
/-- a token: sort (0 none, 1 the end, 2 sign, 3 number, 4 word, 5 name), value, letters, place -/
abbrev pd_tT : Type := Nat × Int × List Int × Int
def pd_tOk (t : pd_tT) : Prop := t.1 ≤ 5 ∧ (t.1 = 4 → pd_vR t.2.2.1 ∧ t.2.1 = pd_tIdx t.2.2.1 ∧ 0 ≤ t.2.1) ∧ (t.1 = 5 → pd_vR t.2.2.1 ∧ pd_tIdx t.2.2.1 = -1)
/-- the reference looks at the token -/
def pd_tR (K : hH) (t : pd_tT) : Prop := K.1 29 11 = [4, 0, 3, 2, 1, 1].getD t.1 9 ∧ (t.1 = 2 ∨ t.1 = 3 → K.1 29 14 = t.2.1) ∧ (t.1 = 4 ∨ t.1 = 5 → K.2.1 29 17 = pd_tF8 t.2.2.1) ∧ K.1 29 12 = t.2.2.2
/-- the class looks at the token -/
def pd_tC (H : hH) (t : pd_tT) : Prop := H.1 4 10 = (t.1 : Int) ∧ (t.1 = 2 ∨ t.1 = 3 ∨ t.1 = 4 → H.1 4 11 = t.2.1) ∧ (t.1 = 5 → H.2.1 4 12 = pd_tF5 t.2.2.1) ∧ H.1 8 (H.1 4 9).toNat = t.2.2.2
theorem pd_tR_kd {K : hH} {t : pd_tT} (h : pd_tR K t) (ho : pd_tOk t) : (K.1 29 11 = 1 ↔ t.1 = 4 ∨ t.1 = 5) ∧ (K.1 29 11 = 0 ↔ t.1 = 1) ∧ (K.1 29 11 = 3 ↔ t.1 = 2) ∧ (K.1 29 11 = 2 ↔ t.1 = 3) := by
  obtain ⟨n, v, l, p⟩ := t
  rw [h.1]
  have := ho.1
  simp only at this ⊢
  match n, this with
  | 0, _ => decide
  | 1, _ => decide
  | 2, _ => decide
  | 3, _ => decide
  | 4, _ => decide
  | 5, _ => decide
theorem pd_tR_name {K : hH} {t : pd_tT} (h : pd_tR K t) (ho : pd_tOk t) (hw : pd_hW8 K) : f_X12_isName K = if t.1 = 5 then 1 else 0 := by
  by_cases h5 : t.1 = 5
  · rw [pd_tIsName hw (ho.2.2 h5).1 ((pd_tR_kd h ho).1.mpr (Or.inr h5)) (h.2.2.1 (Or.inr h5)), if_pos h5, if_pos (ho.2.2 h5).2]
  · rw [if_neg h5]
    by_cases h4 : t.1 = 4
    · rw [pd_tIsName hw (ho.2.1 h4).1 ((pd_tR_kd h ho).1.mpr (Or.inl h4)) (h.2.2.1 (Or.inl h4)), if_neg]
      have := ho.2.1 h4
      rw [← this.2.1]; omega
    · unfold f_X12_isName
      rw [if_neg]
      intro e
      rcases (pd_tR_kd h ho).1.mp e with e | e
      · exact h4 e
      · exact h5 e
theorem pd_tR_word {K : hH} {t : pd_tT} (h : pd_tR K t) (ho : pd_tOk t) {w : Int64} {i : Nat} (hi : i < 23) (hw : w = pd_tF8 (pd_tW.getD i [])) : f_X12_isWord w K = if t.1 = 4 ∧ t.2.1 = (i : Int) then 1 else 0 := by
  unfold f_X12_isWord
  by_cases h1 : K.1 29 11 = 1
  · rw [if_pos h1]
    rcases (pd_tR_kd h ho).1.mp h1 with h4 | h5
    · have o := ho.2.1 h4
      rw [h.2.2.1 (Or.inl h4), hw]
      by_cases e : t.2.1 = (i : Int)
      · rw [if_pos (show t.1 = 4 ∧ t.2.1 = (i : Int) from ⟨h4, e⟩)]
        apply if_pos
        apply (lgc0 _ _).mpr
        rcases pd_tIdx_spec t.2.2.1 with ⟨e2, -⟩ | ⟨j, e1, e2, e3⟩
        · rw [o.2.1, e2] at e; omega
        · rw [o.2.1, e1] at e
          have : j = i := by omega
          subst this
          rw [e3]
      · rw [if_neg (show ¬ (t.1 = 4 ∧ t.2.1 = (i : Int)) from fun q => e q.2)]
        apply if_neg
        intro q
        have q2 := (pd_tF8_inj o.1 (pd_tW_ok i hi)).mp ((lgc0 _ _).mp q)
        apply e
        rw [o.2.1, q2, pd_tIdx_of hi]
    · have o := ho.2.2 h5
      rw [h.2.2.1 (Or.inr h5), hw, if_neg (show ¬ (t.1 = 4 ∧ t.2.1 = (i : Int)) from fun q => by have := q.1; omega)]
      apply if_neg
      intro q
      have q2 := (pd_tF8_inj o.1 (pd_tW_ok i hi)).mp ((lgc0 _ _).mp q)
      have := o.2
      rw [q2, pd_tIdx_of hi] at this
      omega
  · rw [if_neg h1, if_neg]
    intro q
    exact h1 ((pd_tR_kd h ho).1.mpr (Or.inl q.1))
