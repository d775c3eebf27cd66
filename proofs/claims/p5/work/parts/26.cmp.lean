/-! Rests, products, narrowings; comparisons cut what is known. -/
def xIrem (x y : Int × Int) : Int × Int := bif decide (0 < y.1) then ((bif decide (0 ≤ x.1) then 0 else 1 - y.2), (bif decide (0 ≤ x.1) && decide (x.2 < y.2 - 1) then x.2 else y.2 - 1)) else xT32
theorem xIrem_ok : xIvOk (fun x y => x - x / y * y) xIrem := by
  intro x y z w hz hw x1 x2 y1 y2
  show (xIrem x y).1 ≤ (Int32.ofInt z - Int32.ofInt z / Int32.ofInt w * Int32.ofInt w).toInt ∧ (Int32.ofInt z - Int32.ofInt z / Int32.ofInt w * Int32.ofInt w).toInt ≤ (xIrem x y).2
  have hb := xi_in (Int32.ofInt z - Int32.ofInt z / Int32.ofInt w * Int32.ofInt w)
  unfold xIrem
  cases hy : decide (0 < y.1) with
  | false => exact hb
  | true =>
    have hy := of_decide_eq_true hy
    have hw0 : 0 < w := by omega
    rw [xi_rem hz hw hw0]
    obtain ⟨b1, b2, b3⟩ := xi_rem_b (a := z) hw0
    simp only [cond_true]
    cases hx : decide (0 ≤ x.1) with
    | false =>
      simp only [cond_false, Bool.false_and]
      exact ⟨by omega, by omega⟩
    | true =>
      have hx := of_decide_eq_true hx
      obtain ⟨b4, b5⟩ := b3 (by omega)
      simp only [cond_true, Bool.true_and]
      cases hd : decide (x.2 < y.2 - 1) with
      | true => exact ⟨b4, by show _ ≤ x.2; omega⟩
      | false => exact ⟨b4, by show _ ≤ y.2 - 1; omega⟩
theorem xIdiv_ok : xIvOk (fun x y => x / y) (fun _ _ => xT32) := fun _ _ z w _ _ _ _ _ _ => xi_in (Int32.ofInt z / Int32.ofInt w)
/-- a product -/
def xPr (x y : Int × Int) : Int × Int := (min (min (x.1 * y.1) (x.1 * y.2)) (min (x.2 * y.1) (x.2 * y.2)), max (max (x.1 * y.1) (x.1 * y.2)) (max (x.2 * y.1) (x.2 * y.2)))
theorem x_mono {a b c y : Int} (h1 : b ≤ y) (h2 : y ≤ c) : min (a * b) (a * c) ≤ a * y ∧ a * y ≤ max (a * b) (a * c) := by
  rcases Int.le_total 0 a with h | h
  · have p := Int.mul_le_mul_of_nonneg_left h1 h
    have q := Int.mul_le_mul_of_nonneg_left h2 h
    exact ⟨Int.le_trans (Int.min_le_left _ _) p, Int.le_trans q (Int.le_max_right _ _)⟩
  · have p := Int.mul_le_mul_of_nonpos_left h h1
    have q := Int.mul_le_mul_of_nonpos_left h h2
    exact ⟨Int.le_trans (Int.min_le_right _ _) q, Int.le_trans p (Int.le_max_left _ _)⟩
theorem xPr_ok {x y : Int × Int} {z w : Int} (x1 : x.1 ≤ z) (x2 : z ≤ x.2) (y1 : y.1 ≤ w) (y2 : w ≤ y.2) : (xPr x y).1 ≤ z * w ∧ z * w ≤ (xPr x y).2 := by
  have a := x_mono (a := x.1) y1 y2
  have b := x_mono (a := x.2) y1 y2
  have c := x_mono (a := w) x1 x2
  rw [Int.mul_comm w x.1, Int.mul_comm w x.2, Int.mul_comm w z] at c
  unfold xPr
  refine ⟨Int.le_trans ?_ c.1, Int.le_trans c.2 ?_⟩
  · exact Int.le_min.mpr ⟨Int.le_trans (Int.min_le_left _ _) a.1, Int.le_trans (Int.min_le_right _ _) b.1⟩
  · exact Int.max_le.mpr ⟨Int.le_trans a.2 (Int.le_max_left _ _), Int.le_trans b.2 (Int.le_max_right _ _)⟩
def xImul (x y : Int × Int) : Int × Int := bif decide (-2147483648 ≤ (xPr x y).1) && decide ((xPr x y).2 ≤ 2147483647) then xPr x y else xT32
theorem xImul_ok : xIvOk (· * ·) xImul := by
  intro x y z w hz hw x1 x2 y1 y2
  show (xImul x y).1 ≤ (Int32.ofInt z * Int32.ofInt w).toInt ∧ (Int32.ofInt z * Int32.ofInt w).toInt ≤ (xImul x y).2
  have hb := xi_in (Int32.ofInt z * Int32.ofInt w)
  unfold xImul
  cases hc : (decide (-2147483648 ≤ (xPr x y).1) && decide ((xPr x y).2 ≤ 2147483647)) with
  | false => exact hb
  | true =>
    obtain ⟨c1, c2⟩ := rv_and hc
    have c1 := of_decide_eq_true c1
    have c2 := of_decide_eq_true c2
    obtain ⟨p, q⟩ := xPr_ok x1 x2 y1 y2
    rw [xi_mul hz hw ⟨by omega, by omega⟩]
    exact ⟨p, q⟩
/-- by a number that is known it stays linear -/
def xMop (Q : xQ) (a b : Nat × Int × Int) : Option (xQ × xV) := match xItv Q a, xItv Q b with
  | some x, some y => bif decide (y.1 = y.2) then some (xRes Q (xMul y.1 (xSm a))) else bif decide (x.1 = x.2) then some (xRes Q (xMul x.1 (xSm b))) else some (xNew (xImul x y) Q)
  | _, _ => none
theorem xMop_ok {Q Q' : xQ} {r : List Int} {T pl : List Nat} {a b : Nat × Int × Int} {v : xV} {z w : Int} (h : xQs Q r) (ha : xR r T pl (.inl a) (.inl (z, z))) (hb : xR r T pl (.inl b) (.inl (w, w))) (he : xMop Q a b = some (Q', v)) :
    ∃ r', (∃ t, r' = r ++ t) ∧ xQs Q' r' ∧ xR r' T pl v (rvBin (· * ·) (z, z) (w, w)) := by
  obtain ⟨z', e1, e2, hz, w1⟩ := xR_pt ha
  cases e1
  obtain ⟨w', e3, e4, hw, w2⟩ := xR_pt hb
  cases e3
  rw [rvBin_pt]
  unfold xMop at he
  split at he
  · rename_i x y hx hy
    obtain ⟨x1, x2⟩ := xItv_ok h hx
    obtain ⟨y1, y2⟩ := xItv_ok h hy
    rw [← e2] at x1 x2
    rw [← e4] at y1 y2
    have hnil : xWf r.length [] := fun q hq => by cases hq
    cases hc : decide (y.1 = y.2) with
    | true =>
      rw [hc] at he
      have he : xRes Q (xMul y.1 (xSm a)) = (Q', v) := Option.some.inj he
      have hc := of_decide_eq_true hc
      have d : y.1 = w := by omega
      have h9 := xRes_ok (l := xMul y.1 (xSm a)) (z := (Int32.ofInt z * Int32.ofInt w).toInt) T pl h (xTm_wf hnil w1) (xi_in _) (fun hi => by
        rw [xMul_ok, ← e2, d, Int.mul_comm] at hi ⊢
        exact xi_mul hz hw hi)
      rw [he] at h9
      exact h9
    | false =>
      rw [hc] at he
      simp only [cond_false] at he
      cases hd : decide (x.1 = x.2) with
      | true =>
        rw [hd] at he
        have he : xRes Q (xMul x.1 (xSm b)) = (Q', v) := Option.some.inj he
        have hd := of_decide_eq_true hd
        have d : x.1 = z := by omega
        have h9 := xRes_ok (l := xMul x.1 (xSm b)) (z := (Int32.ofInt z * Int32.ofInt w).toInt) T pl h (xTm_wf hnil w2) (xi_in _) (fun hi => by
          rw [xMul_ok, ← e4, d] at hi ⊢
          exact xi_mul hz hw hi)
        rw [he] at h9
        exact h9
      | false =>
        rw [hd] at he
        have he : xNew (xImul x y) Q = (Q', v) := Option.some.inj he
        obtain ⟨i1, i2⟩ := xImul_ok x y z w hz hw x1 x2 y1 y2
        have h9 := xNew_ok T pl h i1 i2 (xi_in _)
        rw [he] at h9
        exact h9
  · cases he
/-! comparisons -/
def xOl (o : Option xQ) : List xQ := match o with
  | some q => [q]
  | none => []
def xTwice (l m : xL) (Q : xQ) : List xQ := match xKnow l Q with
  | some Q => xOl (xKnow m Q)
  | none => []
/-- by the ranges, or less one constraint -/
def xEn1 (Q : xQ) (l : xL) : Bool := xGe Q.1 l || Q.2.any (fun c => xSh c.1 l.1 && xGe Q.1 (xSub l c))
theorem xEn1_ok {Q : xQ} {r : List Int} {l : xL} (h : xQs Q r) (hl : xEn1 Q l = true) : 0 ≤ xVal r l := by
  rcases rv_or' hl with g | g
  · exact xGe_ok h.1 g
  · obtain ⟨c, hm, g⟩ := List.any_eq_true.mp g
    have h1 := xGe_ok h.1 (rv_and g).2
    rw [xSub_ok] at h1
    have h2 := h.2.1 c hm
    omega
/-- what is known where a comparison holds -/
def xCmp (c : ClassFile.Cond) (a b : xL) (Q : xQ) : List xQ := match c with
  | .lt => xOl (xKnow (xSub (xSub b a) (xK 1)) Q)
  | .le => xOl (xKnow (xSub b a) Q)
  | .gt => xOl (xKnow (xSub (xSub a b) (xK 1)) Q)
  | .ge => xOl (xKnow (xSub a b) Q)
  | .eq => xTwice (xSub a b) (xSub b a) Q
  | .ne => bif xEn1 Q (xSub a b) then xOl (xKnow (xSub (xSub a b) (xK 1)) Q) else bif xEn1 Q (xSub b a) then xOl (xKnow (xSub (xSub b a) (xK 1)) Q) else [Q]
def xHolds (c : ClassFile.Cond) (z w : Int) : Bool := match c with
  | .eq => decide (z = w)
  | .ne => !decide (z = w)
  | .lt => decide (z < w)
  | .ge => !decide (z < w)
  | .gt => decide (w < z)
  | .le => !decide (w < z)
theorem xOl_ok {l : xL} {Q : xQ} {r : List Int} (h : xQs Q r) (hl : 0 ≤ xVal r l) : ∃ Q' ∈ xOl (xKnow l Q), xQs Q' r ∧ Q'.1.length = Q.1.length := by
  obtain ⟨Q', h1, h2, h3⟩ := xKnow_ok h hl
  rw [h1]
  exact ⟨Q', List.mem_singleton.mpr rfl, h2, h3⟩
theorem xCmp_ok {c : ClassFile.Cond} {a b : xL} {Q : xQ} {r : List Int} (h : xQs Q r) (hc : xHolds c (xVal r a) (xVal r b) = true) : ∃ Q' ∈ xCmp c a b Q, xQs Q' r ∧ Q'.1.length = Q.1.length := by
  cases c with
  | lt =>
    have hc := of_decide_eq_true hc
    exact xOl_ok h (by rw [xSub_ok, xSub_ok, xK_ok]; omega)
  | gt =>
    have hc := of_decide_eq_true hc
    exact xOl_ok h (by rw [xSub_ok, xSub_ok, xK_ok]; omega)
  | le =>
    have hc : (!decide (xVal r b < xVal r a)) = true := hc
    have hc : ¬ xVal r b < xVal r a := by simpa using hc
    exact xOl_ok h (by rw [xSub_ok]; omega)
  | ge =>
    have hc : (!decide (xVal r a < xVal r b)) = true := hc
    have hc : ¬ xVal r a < xVal r b := by simpa using hc
    exact xOl_ok h (by rw [xSub_ok]; omega)
  | eq =>
    have hc := of_decide_eq_true hc
    obtain ⟨Q1, h1, h2, h3⟩ := xKnow_ok (l := xSub a b) h (by rw [xSub_ok]; omega)
    obtain ⟨Q2, h4, h5, h6⟩ := xOl_ok (l := xSub b a) h2 (by rw [xSub_ok]; omega)
    refine ⟨Q2, ?_, h5, by rw [h6, h3]⟩
    show Q2 ∈ xTwice (xSub a b) (xSub b a) Q
    unfold xTwice
    rw [h1]
    exact h4
  | ne =>
    have hc : (!decide (xVal r a = xVal r b)) = true := hc
    have hc : ¬ xVal r a = xVal r b := by simpa using hc
    show ∃ Q' ∈ (bif xEn1 Q (xSub a b) then xOl (xKnow (xSub (xSub a b) (xK 1)) Q) else bif xEn1 Q (xSub b a) then xOl (xKnow (xSub (xSub b a) (xK 1)) Q) else [Q]), _
    cases h1 : xEn1 Q (xSub a b) with
    | true =>
      have := xEn1_ok h h1
      rw [xSub_ok] at this
      exact xOl_ok h (by rw [xSub_ok, xSub_ok, xK_ok]; omega)
    | false =>
      simp only [cond_false]
      cases h2 : xEn1 Q (xSub b a) with
      | true =>
        have := xEn1_ok h h2
        rw [xSub_ok] at this
        exact xOl_ok h (by rw [xSub_ok, xSub_ok, xK_ok]; omega)
      | false => exact ⟨Q, List.mem_singleton.mpr rfl, h, rfl⟩
theorem rvCmp_pt (c : ClassFile.Cond) (z w : Int) : rvCmp c (z, z) (w, w) = some (xHolds c z w) := by
  have hl : ∀ a b : Int, rvLt (a, a) (b, b) = some (decide (a < b)) := by
    intro a b
    unfold rvLt
    by_cases h : a < b
    · simp [h]
    · have h2 : b ≤ a := by omega
      simp [h, h2]
  cases c with
  | eq => simp [rvCmp, rvEq, rvOne, xHolds]
  | ne => simp [rvCmp, rvEq, rvOne, rvNo, xHolds]
  | lt => exact hl z w
  | ge => show rvNo (rvLt (z, z) (w, w)) = _; rw [hl]; rfl
  | gt => exact hl w z
  | le => show rvNo (rvLt (w, w) (z, z)) = _; rw [hl]; rfl
