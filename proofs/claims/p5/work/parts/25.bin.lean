/-! Operations of two numbers: a range for what comes out, held to rvBin at points. -/
def xItv (Q : xQ) (v : Nat × Int × Int) : Option (Int × Int) := match xLow Q.1 (xSm v), xHigh Q.1 (xSm v) with
  | some a, some b => some (a, b)
  | _, _ => none
theorem xItv_ok {Q : xQ} {r : List Int} {v : Nat × Int × Int} {a : Int × Int} (h : xQs Q r) (ha : xItv Q v = some a) : a.1 ≤ xVal r (xSm v) ∧ xVal r (xSm v) ≤ a.2 := by
  unfold xItv at ha
  split at ha
  · rename_i b c hb hc
    have e := Option.some.inj ha
    rw [← e]
    exact ⟨xLow_ok h.1 hb, xHigh_ok h.1 hc⟩
  · cases ha
/-- a number's point -/
theorem xR_pt {r : List Int} {T pl : List Nat} {v : Nat × Int × Int} {c : rvV} (h : xR r T pl (.inl v) c) : ∃ z, c = .inl (z, z) ∧ z = xVal r (xSm v) ∧ xIn32 z ∧ xWf r.length (xSm v).1 := ⟨_, h.2.2, rfl, h.2.1, h.1⟩
theorem rvBin_pt (f : Int32 → Int32 → Int32) (z w : Int) : rvBin f (z, z) (w, w) = .inl ((f (Int32.ofInt z) (Int32.ofInt w)).toInt, (f (Int32.ofInt z) (Int32.ofInt w)).toInt) := by
  simp [rvBin, rvOne, rvK]
def xIvOk (f : Int32 → Int32 → Int32) (I : Int × Int → Int × Int → Int × Int) : Prop :=
  ∀ (x y : Int × Int) (z w : Int), xIn32 z → xIn32 w → x.1 ≤ z → z ≤ x.2 → y.1 ≤ w → w ≤ y.2 → (I x y).1 ≤ (f (Int32.ofInt z) (Int32.ofInt w)).toInt ∧ (f (Int32.ofInt z) (Int32.ofInt w)).toInt ≤ (I x y).2
def xBop (f : Int32 → Int32 → Int32) (I : Int × Int → Int × Int → Int × Int) (Q : xQ) (a b : Nat × Int × Int) : Option (xQ × xV) := match xItv Q a, xItv Q b with
  | some x, some y => bif decide (x.1 = x.2) && decide (y.1 = y.2) then some (Q, xKv (f (Int32.ofInt x.1) (Int32.ofInt y.1)).toInt) else some (xNew (I x y) Q)
  | _, _ => none
theorem xBop_ok {f : Int32 → Int32 → Int32} {I : Int × Int → Int × Int → Int × Int} (hI : xIvOk f I) {Q Q' : xQ} {r : List Int} {T pl : List Nat} {a b : Nat × Int × Int} {v : xV} {z w : Int} (h : xQs Q r) (ha : xR r T pl (.inl a) (.inl (z, z))) (hb : xR r T pl (.inl b) (.inl (w, w))) (he : xBop f I Q a b = some (Q', v)) :
    ∃ r', (∃ t, r' = r ++ t) ∧ xQs Q' r' ∧ xR r' T pl v (rvBin f (z, z) (w, w)) := by
  obtain ⟨z', e1, e2, hz, -⟩ := xR_pt ha
  cases e1
  obtain ⟨w', e3, e4, hw, -⟩ := xR_pt hb
  cases e3
  rw [rvBin_pt]
  unfold xBop at he
  split at he
  · rename_i x y hx hy
    obtain ⟨x1, x2⟩ := xItv_ok h hx
    obtain ⟨y1, y2⟩ := xItv_ok h hy
    rw [← e2] at x1 x2
    rw [← e4] at y1 y2
    cases hc : (decide (x.1 = x.2) && decide (y.1 = y.2)) with
    | true =>
      rw [hc] at he
      cases he
      obtain ⟨c1, c2⟩ := rv_and hc
      have c1 := of_decide_eq_true c1
      have c2 := of_decide_eq_true c2
      have d1 : x.1 = z := by omega
      have d2 : y.1 = w := by omega
      refine ⟨r, ⟨[], (List.append_nil r).symm⟩, h, ?_⟩
      rw [d1, d2]
      exact xR_K r T pl (xi_in _)
    | false =>
      rw [hc] at he
      have he : xNew (I x y) Q = (Q', v) := Option.some.inj he
      obtain ⟨i1, i2⟩ := hI x y z w hz hw x1 x2 y1 y2
      have h9 := xNew_ok T pl h i1 i2 (xi_in _)
      rw [he] at h9
      exact h9
  · cases he
/-- sums of two -/
def xLop (s : Bool) (Q : xQ) (a b : Nat × Int × Int) : xQ × xV := xRes Q (bif s then xSub (xSm a) (xSm b) else xAdd (xSm a) (xSm b))
theorem xTm_wf {n : Nat} {m : Int} : ∀ {u t : List (Nat × Int)}, xWf n t → xWf n u → xWf n (xTm t u m)
  | [], t, ht, _ => ht
  | (x, k) :: u, t, ht, hu => by
      refine xTm_wf (u := u) (t := xIns x (m * k) t) ?_ (fun q hq => hu q (List.mem_cons_of_mem _ hq))
      have hx : x < n := hu (x, k) List.mem_cons_self
      have hins : ∀ (k : Int) (t : List (Nat × Int)), xWf n t → xWf n (xIns x k t) := by
        intro k t
        induction t with
        | nil => intro _ q hq; rw [List.mem_singleton.mp hq]; exact hx
        | cons p t ih =>
          intro ht q hq
          have hp : p.1 < n := ht p List.mem_cons_self
          have ht2 : xWf n t := fun q hq => ht q (List.mem_cons_of_mem _ hq)
          obtain ⟨y, j⟩ := p
          unfold xIns at hq
          cases hb : Nat.beq x y with
          | true =>
            rw [hb] at hq
            simp only [cond_true] at hq
            cases hz : decide (j + k = 0) with
            | true => rw [hz] at hq; exact ht2 q hq
            | false =>
              rw [hz] at hq
              rcases List.mem_cons.mp hq with e | hq
              · rw [e]; exact hp
              · exact ht2 q hq
          | false =>
            rw [hb] at hq
            rcases List.mem_cons.mp hq with e | hq
            · rw [e]; exact hp
            · exact ih ht2 q hq
      exact hins _ t ht
theorem xLop_add {Q : xQ} {r : List Int} {T pl : List Nat} {a b : Nat × Int × Int} {z w : Int} (h : xQs Q r) (ha : xR r T pl (.inl a) (.inl (z, z))) (hb : xR r T pl (.inl b) (.inl (w, w))) :
    ∃ r', (∃ t, r' = r ++ t) ∧ xQs (xLop false Q a b).1 r' ∧ xR r' T pl (xLop false Q a b).2 (rvBin (· + ·) (z, z) (w, w)) := by
  obtain ⟨z', e1, e2, hz, w1⟩ := xR_pt ha
  cases e1
  obtain ⟨w', e3, e4, hw, w2⟩ := xR_pt hb
  cases e3
  rw [rvBin_pt]
  refine xRes_ok (l := xAdd (xSm a) (xSm b)) T pl h (xTm_wf w1 w2) (xi_in _) (fun hi => ?_)
  rw [xAdd_ok, ← e2, ← e4] at hi ⊢
  exact xi_add hz hw hi
theorem xLop_sub {Q : xQ} {r : List Int} {T pl : List Nat} {a b : Nat × Int × Int} {z w : Int} (h : xQs Q r) (ha : xR r T pl (.inl a) (.inl (z, z))) (hb : xR r T pl (.inl b) (.inl (w, w))) :
    ∃ r', (∃ t, r' = r ++ t) ∧ xQs (xLop true Q a b).1 r' ∧ xR r' T pl (xLop true Q a b).2 (rvBin (· - ·) (z, z) (w, w)) := by
  obtain ⟨z', e1, e2, hz, w1⟩ := xR_pt ha
  cases e1
  obtain ⟨w', e3, e4, hw, w2⟩ := xR_pt hb
  cases e3
  rw [rvBin_pt]
  refine xRes_ok (l := xSub (xSm a) (xSm b)) T pl h (xTm_wf w1 w2) (xi_in _) (fun hi => ?_)
  rw [xSub_ok, ← e2, ← e4] at hi ⊢
  exact xi_sub hz hw hi
/-! ranges -/
def xIand (x y : Int × Int) : Int × Int := bif decide (0 ≤ y.1) then (bif decide (0 ≤ x.1) then (0, min x.2 y.2) else (0, y.2)) else bif decide (0 ≤ x.1) then (0, x.2) else xT32
theorem xIand_ok : xIvOk (· &&& ·) xIand := by
  intro x y z w hz hw x1 x2 y1 y2
  show (xIand x y).1 ≤ (Int32.ofInt z &&& Int32.ofInt w).toInt ∧ (Int32.ofInt z &&& Int32.ofInt w).toInt ≤ (xIand x y).2
  have hb := xi_in (Int32.ofInt z &&& Int32.ofInt w)
  unfold xIand
  cases hy : decide (0 ≤ y.1) with
  | true =>
    have hy := of_decide_eq_true hy
    have h1 := xi_and_r (x := Int32.ofInt z) (y := Int32.ofInt w) (by rw [xi_of hw]; omega)
    rw [xi_of hw] at h1
    cases hx : decide (0 ≤ x.1) with
    | true =>
      have hx := of_decide_eq_true hx
      have h2 := xi_and_l (x := Int32.ofInt z) (y := Int32.ofInt w) (by rw [xi_of hz]; omega)
      rw [xi_of hz] at h2
      exact ⟨h1.1, Int.le_min.mpr ⟨by omega, by omega⟩⟩
    | false => exact ⟨h1.1, by show _ ≤ y.2; omega⟩
  | false =>
    cases hx : decide (0 ≤ x.1) with
    | true =>
      have hx := of_decide_eq_true hx
      have h2 := xi_and_l (x := Int32.ofInt z) (y := Int32.ofInt w) (by rw [xi_of hz]; omega)
      rw [xi_of hz] at h2
      exact ⟨h2.1, by show _ ≤ x.2; omega⟩
    | false => exact hb
/-- how many bits hold what is at most m -/
def xBl (m : Int) : Nat := bif decide (m ≤ 0) then 0 else Nat.log2 m.toNat + 1
theorem xBl_ok {z m : Int} (h0 : 0 ≤ z) (h : z ≤ m) : z < (2 ^ xBl m : Nat) := by
  unfold xBl
  cases hm : decide (m ≤ 0) with
  | true =>
    have hm := of_decide_eq_true hm
    show z < ((2 ^ 0 : Nat) : Int)
    omega
  | false =>
    have hm := of_decide_eq_false hm
    have := Nat.lt_log2_self (n := m.toNat)
    show z < ((2 ^ (Nat.log2 m.toNat + 1) : Nat) : Int)
    omega
def xIor (x y : Int × Int) : Int × Int := bif decide (0 ≤ x.1) && (decide (0 ≤ y.1) && Nat.ble (xBl (max x.2 y.2)) 31) then (0, ((2 ^ xBl (max x.2 y.2) : Nat) : Int) - 1) else xT32
theorem xIor_ok : xIvOk (· ||| ·) xIor := by
  intro x y z w hz hw x1 x2 y1 y2
  show (xIor x y).1 ≤ (Int32.ofInt z ||| Int32.ofInt w).toInt ∧ (Int32.ofInt z ||| Int32.ofInt w).toInt ≤ (xIor x y).2
  have hb := xi_in (Int32.ofInt z ||| Int32.ofInt w)
  unfold xIor
  cases hc : (decide (0 ≤ x.1) && (decide (0 ≤ y.1) && Nat.ble (xBl (max x.2 y.2)) 31)) with
  | false => exact hb
  | true =>
    obtain ⟨c1, c2⟩ := rv_and hc
    obtain ⟨c2, c3⟩ := rv_and c2
    have c1 := of_decide_eq_true c1
    have c2 := of_decide_eq_true c2
    have c3 := rv_ble c3
    have h1 := xBl_ok (z := z) (m := max x.2 y.2) (by omega) (Int.le_trans x2 (Int.le_max_left _ _))
    have h2 := xBl_ok (z := w) (m := max x.2 y.2) (by omega) (Int.le_trans y2 (Int.le_max_right _ _))
    have h3 := xi_or (x := Int32.ofInt z) (y := Int32.ofInt w) c3 (by rw [xi_of hz]; omega) (by rw [xi_of hz]; exact h1) (by rw [xi_of hw]; omega) (by rw [xi_of hw]; exact h2)
    exact ⟨h3.1, by show _ ≤ ((2 ^ xBl (max x.2 y.2) : Nat) : Int) - 1; omega⟩
theorem xIxor_ok : xIvOk (· ^^^ ·) xIor := by
  intro x y z w hz hw x1 x2 y1 y2
  show (xIor x y).1 ≤ (Int32.ofInt z ^^^ Int32.ofInt w).toInt ∧ (Int32.ofInt z ^^^ Int32.ofInt w).toInt ≤ (xIor x y).2
  have hb := xi_in (Int32.ofInt z ^^^ Int32.ofInt w)
  unfold xIor
  cases hc : (decide (0 ≤ x.1) && (decide (0 ≤ y.1) && Nat.ble (xBl (max x.2 y.2)) 31)) with
  | false => exact hb
  | true =>
    obtain ⟨c1, c2⟩ := rv_and hc
    obtain ⟨c2, c3⟩ := rv_and c2
    have c1 := of_decide_eq_true c1
    have c2 := of_decide_eq_true c2
    have c3 := rv_ble c3
    have h1 := xBl_ok (z := z) (m := max x.2 y.2) (by omega) (Int.le_trans x2 (Int.le_max_left _ _))
    have h2 := xBl_ok (z := w) (m := max x.2 y.2) (by omega) (Int.le_trans y2 (Int.le_max_right _ _))
    have h3 := xi_xor (x := Int32.ofInt z) (y := Int32.ofInt w) c3 (by rw [xi_of hz]; omega) (by rw [xi_of hz]; exact h1) (by rw [xi_of hw]; omega) (by rw [xi_of hw]; exact h2)
    exact ⟨h3.1, by show _ ≤ ((2 ^ xBl (max x.2 y.2) : Nat) : Int) - 1; omega⟩

/-- one is shifted left by the other -/
def xIshl (x y : Int × Int) : Int × Int := bif decide (0 ≤ x.1) && (decide (0 ≤ y.1) && (decide (y.2 ≤ 30) && decide (x.2 * (2 ^ y.2.toNat : Nat) ≤ 2147483647))) then (x.1 * (2 ^ y.1.toNat : Nat), x.2 * (2 ^ y.2.toNat : Nat)) else xT32
theorem x_pow_le {a b : Nat} (h : a ≤ b) : ((2 ^ a : Nat) : Int) ≤ ((2 ^ b : Nat) : Int) := by
  have := Nat.pow_le_pow_right (n := 2) (by decide) h
  omega
theorem x_pow_pos (a : Nat) : 0 ≤ ((2 ^ a : Nat) : Int) := Int.natCast_nonneg _
theorem xIshl_ok : xIvOk (fun x y => x <<< (y &&& 31)) xIshl := by
  intro x y z w hz hw x1 x2 y1 y2
  show (xIshl x y).1 ≤ (Int32.ofInt z <<< (Int32.ofInt w &&& 31)).toInt ∧ (Int32.ofInt z <<< (Int32.ofInt w &&& 31)).toInt ≤ (xIshl x y).2
  have hb := xi_in (Int32.ofInt z <<< (Int32.ofInt w &&& 31))
  unfold xIshl
  cases hc : (decide (0 ≤ x.1) && (decide (0 ≤ y.1) && (decide (y.2 ≤ 30) && decide (x.2 * (2 ^ y.2.toNat : Nat) ≤ 2147483647)))) with
  | false => exact hb
  | true =>
    obtain ⟨c1, c2⟩ := rv_and hc
    obtain ⟨c2, c3⟩ := rv_and c2
    obtain ⟨c3, c4⟩ := rv_and c3
    have c1 := of_decide_eq_true c1
    have c2 := of_decide_eq_true c2
    have c3 := of_decide_eq_true c3
    have c4 := of_decide_eq_true c4
    have p1 := x_pow_le (a := w.toNat) (b := y.2.toNat) (by omega)
    have p2 := x_pow_le (a := y.1.toNat) (b := w.toNat) (by omega)
    have m1 : z * (2 ^ w.toNat : Nat) ≤ x.2 * (2 ^ y.2.toNat : Nat) := Int.mul_le_mul x2 p1 (x_pow_pos _) (by omega)
    have m2 : x.1 * (2 ^ y.1.toNat : Nat) ≤ z * (2 ^ w.toNat : Nat) := Int.mul_le_mul x1 p2 (x_pow_pos _) (by omega)
    rw [xi_shl hz (by omega) (by omega) (by omega) (by omega)]
    exact ⟨m2, m1⟩
def xIshr (x y : Int × Int) : Int × Int := bif decide (0 ≤ x.1) then (bif decide (y.1 = y.2) && (decide (0 ≤ y.1) && decide (y.1 ≤ 31)) then (x.1 / (2 ^ y.1.toNat : Nat), x.2 / (2 ^ y.1.toNat : Nat)) else (0, x.2)) else xT32
theorem x_div_le {a b : Int} (k : Nat) (h : a ≤ b) : a / (2 ^ k : Nat) ≤ b / (2 ^ k : Nat) := Int.ediv_le_ediv (by have : 0 < 2 ^ k := Nat.pow_pos (by decide); omega) h
theorem xIshr_ok : xIvOk (fun x y => x >>> (y &&& 31)) xIshr := by
  intro x y z w hz hw x1 x2 y1 y2
  show (xIshr x y).1 ≤ (Int32.ofInt z >>> (Int32.ofInt w &&& 31)).toInt ∧ (Int32.ofInt z >>> (Int32.ofInt w &&& 31)).toInt ≤ (xIshr x y).2
  have hb := xi_in (Int32.ofInt z >>> (Int32.ofInt w &&& 31))
  unfold xIshr
  cases hx : decide (0 ≤ x.1) with
  | false => exact hb
  | true =>
    have hx := of_decide_eq_true hx
    simp only [cond_true]
    cases hc : (decide (y.1 = y.2) && (decide (0 ≤ y.1) && decide (y.1 ≤ 31))) with
    | false =>
      have h1 := xi_shr0 (x := Int32.ofInt z) (y := Int32.ofInt w) (by rw [xi_of hz]; omega)
      rw [xi_of hz] at h1
      exact ⟨h1.1, by show _ ≤ x.2; omega⟩
    | true =>
      obtain ⟨c1, c2⟩ := rv_and hc
      obtain ⟨c2, c3⟩ := rv_and c2
      have c1 := of_decide_eq_true c1
      have c2 := of_decide_eq_true c2
      have c3 := of_decide_eq_true c3
      have e : y.1 = w := by omega
      rw [xi_shr hz (by omega) (by omega), ← e]
      exact ⟨x_div_le _ x1, x_div_le _ x2⟩
def xIushr (x y : Int × Int) : Int × Int := bif decide (0 ≤ x.1) then (bif decide (y.1 = y.2) && (decide (0 ≤ y.1) && decide (y.1 ≤ 31)) then (x.1 / (2 ^ y.1.toNat : Nat), x.2 / (2 ^ y.1.toNat : Nat)) else (0, x.2)) else bif decide (y.1 = y.2) && (decide (0 < y.1) && decide (y.1 ≤ 31)) then (0, ((4294967295 / 2 ^ y.1.toNat : Nat) : Int)) else xT32
theorem xIushr_ok : xIvOk (fun x y => (x.toUInt32 >>> (y.toUInt32 &&& Int32.toUInt32 31)).toInt32) xIushr := by
  intro x y z w hz hw x1 x2 y1 y2
  show (xIushr x y).1 ≤ ((Int32.ofInt z).toUInt32 >>> ((Int32.ofInt w).toUInt32 &&& Int32.toUInt32 31)).toInt32.toInt ∧ ((Int32.ofInt z).toUInt32 >>> ((Int32.ofInt w).toUInt32 &&& Int32.toUInt32 31)).toInt32.toInt ≤ (xIushr x y).2
  have hb := xi_in ((Int32.ofInt z).toUInt32 >>> ((Int32.ofInt w).toUInt32 &&& Int32.toUInt32 31)).toInt32
  unfold xIushr
  cases hx : decide (0 ≤ x.1) with
  | false =>
    simp only [cond_false]
    cases hc : (decide (y.1 = y.2) && (decide (0 < y.1) && decide (y.1 ≤ 31))) with
    | false => exact hb
    | true =>
      obtain ⟨c1, c2⟩ := rv_and hc
      obtain ⟨c2, c3⟩ := rv_and c2
      have c1 := of_decide_eq_true c1
      have c2 := of_decide_eq_true c2
      have c3 := of_decide_eq_true c3
      have e : y.1 = w := by omega
      rw [e] at c2 c3 ⊢
      exact xi_ushrN c2 c3
  | true =>
    have hx := of_decide_eq_true hx
    simp only [cond_true]
    cases hc : (decide (y.1 = y.2) && (decide (0 ≤ y.1) && decide (y.1 ≤ 31))) with
    | false =>
      have h1 := xi_ushr0 (x := Int32.ofInt z) (y := Int32.ofInt w) (by rw [xi_of hz]; omega)
      rw [xi_of hz] at h1
      exact ⟨h1.1, by show _ ≤ x.2; omega⟩
    | true =>
      obtain ⟨c1, c2⟩ := rv_and hc
      obtain ⟨c2, c3⟩ := rv_and c2
      have c1 := of_decide_eq_true c1
      have c2 := of_decide_eq_true c2
      have c3 := of_decide_eq_true c3
      have e : y.1 = w := by omega
      rw [xi_ushr hz (by omega) (by omega) (by omega), ← e]
      exact ⟨x_div_le _ x1, x_div_le _ x2⟩
