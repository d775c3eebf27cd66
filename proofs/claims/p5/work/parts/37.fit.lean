/-! What may be stored: a value of a slot's type, as the machine and the region have it. -/
def xFitJ (jt : FieldType) (t : Int × Int) : Bool := match jt with
  | .int => true
  | .boolean => decide (0 ≤ t.1) && decide (t.2 ≤ 1)
  | .byte => decide (-128 ≤ t.1) && decide (t.2 ≤ 127)
  | _ => false
def xFitR (jt : FieldType) : Bool := match jt with
  | .object _ => true
  | .array _ => true
  | _ => false
/-- a reference of a type: null (n), or a cell of the region g -/
def xFitG (ah : List xC) (n : Bool) (g : Nat) (v : xV) : Bool := match v with
  | .inr (0, _) => n
  | .inr (2, k) => (match ah[k]? with
    | some s => Nat.beq s.1 g && Nat.blt g 40
    | none => false)
  | .inr (20, g2) => Nat.beq g2 g
  | .inr (21, g2) => n && Nat.beq g2 g
  | _ => false
def xFit6 (v : xV) : Bool := match v with
  | .inr (0, _) => true
  | .inr (2, _) => true
  | .inr (20, _) => true
  | .inr (21, _) => true
  | _ => false
noncomputable def xFit (d : Nat) (Q : xQ) (ah : List xC) (jt : FieldType) (ty : xT) (v : xV) : Bool := match ty, v with
  | .inl t, .inl a => xFitJ jt t && (xEnt Q.1 Q.2 d (xSub (xSm a) (xK t.1)) && xEnt Q.1 Q.2 d (xSub (xK t.2) (xSm a)))
  | .inr (1, 0), .inr (1, _) => (match jt with
    | .long => true
    | _ => false)
  | .inr (20, g), v => xFitR jt && xFitG ah false g v
  | .inr (21, g), v => xFitR jt && xFitG ah true g v
  | .inr (2, k), .inr (2, k2) => xFitR jt && Nat.beq k k2
  | .inr (6, _), v => xFitR jt && xFit6 v
  | _, _ => false
theorem xFitG_ok {r : List Int} {T pl : List Nat} {ah : List xC} {aw : rvH} {n : Bool} {g : Nat} {v : xV} {c : rvV} (hS : xSt r T pl ah aw) (hv : xR r T pl v c) (h : xFitG ah n g v = true) : ((n = true ∧ ∃ z, c = .inr (0, z)) ∨ (g < 40 ∧ ∃ i, T[i]? = some g ∧ c = .inr (2, i))) := by
  unfold xFitG at h
  split at h
  · exact Or.inl ⟨h, hv⟩
  · rename_i k
    split at h
    · rename_i s hk
      obtain ⟨b1, b2⟩ := rv_and h
      have b1 := rv_beq b1
      obtain ⟨i, hi, rfl⟩ := hv
      obtain ⟨i2, b, p1, p2, p3, -⟩ := hS.2 k s hk
      have e : i2 = i := by rw [hi] at p1; exact (Option.some.inj p1).symm
      subst e
      rw [b1] at p2
      exact Or.inr ⟨rv_blt b2, i2, p2, rfl⟩
    · cases h
  · have b := rv_beq h
    subst b
    exact Or.inr hv
  · obtain ⟨b1, b2⟩ := rv_and h
    have b := rv_beq b2
    subst b
    rcases hv with hv | hv
    · exact Or.inl ⟨b1, hv⟩
    · exact Or.inr hv
  · cases h
theorem xFitR_ok {jt : FieldType} {c : rvV} (h : xFitR jt = true) (hc : (∃ z, c = .inr (0, z)) ∨ ∃ i, c = .inr (2, i)) : rvFit jt c = true := by
  cases jt <;> first | (cases h; done) | (rcases hc with ⟨z, rfl⟩ | ⟨i, rfl⟩ <;> rfl)
theorem xFit_ok {d : Nat} {Q : xQ} {r : List Int} {T pl : List Nat} {ah : List xC} {aw : rvH} {jt : FieldType} {ty : xT} {v : xV} {c : rvV} (hQ : xQs Q r) (hS : xSt r T pl ah aw) (hv : xR r T pl v c) (h : xFit d Q ah jt ty v = true) : rvFit jt c = true ∧ xTy T pl ty c := by
  unfold xFit at h
  split at h
  · rename_i t a
    obtain ⟨b1, b2⟩ := rv_and h
    obtain ⟨b2, b3⟩ := rv_and b2
    have h2 := xEnt_ok hQ.1 hQ.2.1 d b2
    have h3 := xEnt_ok hQ.1 hQ.2.1 d b3
    rw [xSub_ok, xK_ok] at h2 h3
    obtain ⟨z, rfl, ez, z32, -⟩ := xR_pt hv
    rw [← ez] at h2 h3
    refine ⟨?_, z, by omega, by omega, z32, rfl⟩
    cases jt <;> first | (cases b1; done) | rfl | (obtain ⟨c1, c2⟩ := rv_and b1; have c1 := of_decide_eq_true c1; have c2 := of_decide_eq_true c2; simp [rvFit, rvIn]; omega)
  · rename_i k
    obtain ⟨z, rfl, -⟩ := xR_lc hv
    cases jt <;> first | (cases h; done) | exact ⟨rfl, z, rfl⟩
  · rename_i g v0
    obtain ⟨b1, b2⟩ := rv_and h
    rcases xFitG_ok hS hv b2 with ⟨b, -⟩ | ⟨g1, i, g2, rfl⟩
    · cases b
    · exact ⟨xFitR_ok b1 (Or.inr ⟨i, rfl⟩), g1, i, g2, rfl⟩
  · rename_i g v0
    obtain ⟨b1, b2⟩ := rv_and h
    rcases xFitG_ok hS hv b2 with ⟨-, z, rfl⟩ | ⟨g1, i, g2, rfl⟩
    · exact ⟨xFitR_ok b1 (Or.inl ⟨z, rfl⟩), Or.inl ⟨z, rfl⟩⟩
    · exact ⟨xFitR_ok b1 (Or.inr ⟨i, rfl⟩), Or.inr ⟨g1, i, g2, rfl⟩⟩
  · rename_i k k2
    obtain ⟨b1, b2⟩ := rv_and h
    have b := rv_beq b2
    subst b
    obtain ⟨i, hi, rfl⟩ := hv
    exact ⟨xFitR_ok b1 (Or.inr ⟨i, rfl⟩), i, hi, rfl⟩
  · obtain ⟨b1, b2⟩ := rv_and h
    have nul : ∀ z, c = .inr (0, z) → rvFit jt c = true ∧ ∀ z0, xTy T pl (.inr (6, z0)) c := fun z e => ⟨xFitR_ok b1 (Or.inl ⟨z, e⟩), fun _ => Or.inr (Or.inl ⟨z, e⟩)⟩
    have cel : ∀ i, i < T.length → c = .inr (2, i) → rvFit jt c = true ∧ ∀ z0, xTy T pl (.inr (6, z0)) c := fun i hi e => ⟨xFitR_ok b1 (Or.inr ⟨i, e⟩), fun _ => Or.inr (Or.inr ⟨i, hi, e⟩)⟩
    unfold xFit6 at b2
    split at b2
    · obtain ⟨z, e⟩ := hv
      exact ⟨(nul z e).1, (nul z e).2 _⟩
    · rename_i k
      obtain ⟨i, hi, e⟩ := hv
      have hk := (List.getElem?_eq_some_iff.mp hi).1
      rw [← hS.1] at hk
      obtain ⟨i2, b, p1, p2, -, -⟩ := hS.2 k _ (List.getElem?_eq_getElem hk)
      have e2 : i2 = i := by rw [hi] at p1; exact (Option.some.inj p1).symm
      subst e2
      have k9 := cel i2 (List.getElem?_eq_some_iff.mp p2).1 e
      exact ⟨k9.1, k9.2 _⟩
    · obtain ⟨-, i, hi, e⟩ := hv
      have k9 := cel i (List.getElem?_eq_some_iff.mp hi).1 e
      exact ⟨k9.1, k9.2 _⟩
    · rcases hv with ⟨z, e⟩ | ⟨-, i, hi, e⟩
      · exact ⟨(nul z e).1, (nul z e).2 _⟩
      · have k9 := cel i (List.getElem?_eq_some_iff.mp hi).1 e
        exact ⟨k9.1, k9.2 _⟩
    · cases b2
  · cases h
