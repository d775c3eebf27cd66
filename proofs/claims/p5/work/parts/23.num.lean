/-! Numbers of the checker: sums, bounds, new variables; the machine's operations within bounds. -/
theorem xSm_val (r : List Int) (v : Nat × Int × Int) : xVal r (xSm v) = v.2.1 * r.getD v.1 0 + v.2.2 := by
  unfold xSm
  cases h : decide (v.2.1 = 0) with
  | true =>
    have h := of_decide_eq_true h
    rw [h, Int.zero_mul]
    rfl
  | false =>
    show v.2.1 * r.getD v.1 0 + 0 + v.2.2 = _
    omega
def xLow (N : xN) (l : xL) : Option Int := match xLo N l.1 with
  | some b => some (b + l.2)
  | none => none
def xHigh (N : xN) (l : xL) : Option Int := match xLo N (xTm [] l.1 (-1)) with
  | some b => some (l.2 - b)
  | none => none
theorem xLow_ok {N : xN} {r : List Int} {l : xL} {b : Int} (h : xRg N r) (hb : xLow N l = some b) : b ≤ xVal r l := by
  unfold xLow at hb
  split at hb
  · rename_i c hc
    have e := Option.some.inj hb
    have := xLo_ok h hc
    unfold xVal
    omega
  · cases hb
theorem xHigh_ok {N : xN} {r : List Int} {l : xL} {b : Int} (h : xRg N r) (hb : xHigh N l = some b) : xVal r l ≤ b := by
  unfold xHigh at hb
  split at hb
  · rename_i c hc
    have e := Option.some.inj hb
    have h1 := xLo_ok h hc
    rw [xTm_ok] at h1
    have h3 : xEv r [] = 0 := rfl
    unfold xVal
    omega
  · cases hb
def xKv (n : Int) : xV := .inl (0, 0, n)
def xT32 : Int × Int := (-2147483648, 2147483647)
def xNew (a : Int × Int) (Q : xQ) : xQ × xV := bif decide (a.1 = a.2) then (Q, xKv a.1) else ((Q.1 ++ [a], Q.2), .inl (Q.1.length, 1, 0))
theorem xR_K (r : List Int) (T pl : List Nat) {n : Int} (h : xIn32 n) : xR r T pl (xKv n) (.inl (n, n)) := by
  have e : xVal r (xSm (0, 0, n)) = n := by
    rw [xSm_val]
    show 0 * _ + n = n
    omega
  exact ⟨(fun q hq => by cases hq), (by rw [e]; exact h), (by rw [e])⟩
theorem xNew_ok {a : Int × Int} {Q : xQ} {r : List Int} (T pl : List Nat) {z : Int} (h : xQs Q r) (h1 : a.1 ≤ z) (h2 : z ≤ a.2) (hz : xIn32 z) : ∃ r', (∃ t, r' = r ++ t) ∧ xQs (xNew a Q).1 r' ∧ xR r' T pl (xNew a Q).2 (.inl (z, z)) := by
  unfold xNew
  cases he : decide (a.1 = a.2) with
  | true =>
    have he := of_decide_eq_true he
    have e : a.1 = z := by omega
    refine ⟨r, ⟨[], (List.append_nil r).symm⟩, h, ?_⟩
    show xR r T pl (xKv a.1) _
    rw [e]
    exact xR_K r T pl hz
  | false =>
    refine ⟨r ++ [z], ⟨[z], rfl⟩, xQs_app h h1 h2, ?_⟩
    have e : xVal (r ++ [z]) (xSm (Q.1.length, 1, 0)) = z := by
      rw [xSm_val]
      show 1 * (r ++ [z]).getD Q.1.length 0 + 0 = z
      rw [h.1.1, List.getD_eq_getElem?_getD, List.getElem?_append_right (Nat.le_refl _)]
      simp
    refine ⟨fun q hq => ?_, by rw [e]; exact hz, by rw [e]⟩
    have hq : q ∈ [(Q.1.length, (1 : Int))] := hq
    rw [List.mem_singleton.mp hq, List.length_append, h.1.1]
    show r.length < r.length + 1
    omega
/-- the value of a sum, where the machine's number is that sum if it fits -/
def xRes (Q : xQ) (l : xL) : xQ × xV := match xLow Q.1 l, xHigh Q.1 l with
  | some a, some b => bif decide (-2147483648 ≤ a) && decide (b ≤ 2147483647) then (bif decide (a = b) then (Q, xKv a) else (match l.1 with
      | [(x, k)] => (Q, .inl (x, k, l.2))
      | _ => xNew (a, b) Q)) else xNew xT32 Q
  | _, _ => xNew xT32 Q
theorem xRes_ok {Q : xQ} {l : xL} {r : List Int} (T pl : List Nat) {z : Int} (h : xQs Q r) (hw : xWf r.length l.1) (hz : xIn32 z) (he : xIn32 (xVal r l) → z = xVal r l) : ∃ r', (∃ t, r' = r ++ t) ∧ xQs (xRes Q l).1 r' ∧ xR r' T pl (xRes Q l).2 (.inl (z, z)) := by
  unfold xRes
  split
  · rename_i a b ha hb
    have la := xLow_ok h.1 ha
    have lb := xHigh_ok h.1 hb
    cases hc : (decide (-2147483648 ≤ a) && decide (b ≤ 2147483647)) with
    | false => exact xNew_ok (a := xT32) T pl h hz.1 hz.2 hz
    | true =>
      obtain ⟨c1, c2⟩ := rv_and hc
      have c1 := of_decide_eq_true c1
      have c2 := of_decide_eq_true c2
      have e := he ⟨by omega, by omega⟩
      simp only [cond_true]
      cases hd : decide (a = b) with
      | true =>
        have hd := of_decide_eq_true hd
        have e2 : a = z := by omega
        refine ⟨r, ⟨[], (List.append_nil r).symm⟩, h, ?_⟩
        show xR r T pl (xKv a) _
        rw [e2]
        exact xR_K r T pl hz
      | false =>
        simp only [cond_false]
        split
        · rename_i x k hx
          refine ⟨r, ⟨[], (List.append_nil r).symm⟩, h, ?_⟩
          have e3 : xVal r (xSm (x, k, l.2)) = z := by
            rw [xSm_val, e]
            unfold xVal
            rw [hx]
            show k * r.getD x 0 + l.2 = k * r.getD x 0 + 0 + l.2
            omega
          refine ⟨fun q hq => ?_, by rw [e3]; exact hz, by rw [e3]⟩
          have hq : q ∈ (bif decide (k = 0) then (([], l.2) : xL) else ([(x, k)], l.2)).1 := hq
          cases hk : decide (k = 0) with
          | true => rw [hk] at hq; cases hq
          | false =>
            rw [hk] at hq
            have hq : q ∈ [(x, k)] := hq
            exact hw q (by rw [hx]; exact hq)
        · exact xNew_ok T pl h (by omega) (by omega) hz
  · exact xNew_ok (a := xT32) T pl h hz.1 hz.2 hz
/-! the machine's numbers -/
theorem xi_of {z : Int} (h : xIn32 z) : (Int32.ofInt z).toInt = z := Int32.toInt_ofInt_of_le (by have := h.1; omega) (by have := h.2; omega)
theorem xi_in (x : Int32) : xIn32 x.toInt := ⟨rv_lo x, rv_hi x⟩
theorem xi_bmod {z : Int} (h : xIn32 z) : z.bmod (2 ^ 32) = z := Int.bmod_eq_of_le (by have := h.1; omega) (by have := h.2; omega)
theorem xi_add {a b : Int} (ha : xIn32 a) (hb : xIn32 b) (h : xIn32 (a + b)) : (Int32.ofInt a + Int32.ofInt b).toInt = a + b := by
  rw [Int32.toInt_add, xi_of ha, xi_of hb, xi_bmod h]
theorem xi_sub {a b : Int} (ha : xIn32 a) (hb : xIn32 b) (h : xIn32 (a - b)) : (Int32.ofInt a - Int32.ofInt b).toInt = a - b := by
  rw [Int32.toInt_sub, xi_of ha, xi_of hb, xi_bmod h]
theorem xi_mul {a b : Int} (ha : xIn32 a) (hb : xIn32 b) (h : xIn32 (a * b)) : (Int32.ofInt a * Int32.ofInt b).toInt = a * b := by
  rw [Int32.toInt_mul, xi_of ha, xi_of hb, xi_bmod h]
theorem xi_neg {a : Int} (ha : xIn32 a) (h : xIn32 (-a)) : (-(Int32.ofInt a)).toInt = -a := by
  rw [Int32.toInt_neg, xi_of ha, xi_bmod h]
theorem xi_nat {x : Int32} (h : x.toBitVec.toNat < 2147483648) : x.toInt = (x.toBitVec.toNat : Int) := by
  have e := BitVec.toInt_eq_toNat_cond x.toBitVec
  rw [if_pos (by omega)] at e
  exact e
theorem xi_nn {x : Int32} (h : 0 ≤ x.toInt) : x.toBitVec.toNat < 2147483648 ∧ x.toInt = (x.toBitVec.toNat : Int) := by
  have e : x.toInt = _ := BitVec.toInt_eq_toNat_cond x.toBitVec
  have hlt := x.toBitVec.isLt
  by_cases hc : 2 * x.toBitVec.toNat < 2 ^ 32
  · have : x.toBitVec.toNat < 2147483648 := by omega
    exact ⟨this, xi_nat this⟩
  · rw [if_neg hc] at e
    omega
theorem xi_and_r {x y : Int32} (h : 0 ≤ y.toInt) : 0 ≤ (x &&& y).toInt ∧ (x &&& y).toInt ≤ y.toInt := by
  obtain ⟨h1, h2⟩ := xi_nn h
  have e : (x &&& y).toBitVec.toNat = x.toBitVec.toNat &&& y.toBitVec.toNat := by rw [Int32.toBitVec_and, BitVec.toNat_and]
  have h3 : x.toBitVec.toNat &&& y.toBitVec.toNat ≤ y.toBitVec.toNat := Nat.and_le_right
  have h4 := xi_nat (x := x &&& y) (by rw [e]; omega)
  rw [h4, e, h2]
  omega
theorem xi_and_l {x y : Int32} (h : 0 ≤ x.toInt) : 0 ≤ (x &&& y).toInt ∧ (x &&& y).toInt ≤ x.toInt := by
  obtain ⟨h1, h2⟩ := xi_nn h
  have e : (x &&& y).toBitVec.toNat = x.toBitVec.toNat &&& y.toBitVec.toNat := by rw [Int32.toBitVec_and, BitVec.toNat_and]
  have h3 : x.toBitVec.toNat &&& y.toBitVec.toNat ≤ x.toBitVec.toNat := Nat.and_le_left
  have h4 := xi_nat (x := x &&& y) (by rw [e]; omega)
  rw [h4, e, h2]
  omega
theorem xi_or {x y : Int32} {k : Nat} (hk : k ≤ 31) (h1 : 0 ≤ x.toInt) (h2 : x.toInt < (2 ^ k : Nat)) (h3 : 0 ≤ y.toInt) (h4 : y.toInt < (2 ^ k : Nat)) : 0 ≤ (x ||| y).toInt ∧ (x ||| y).toInt < (2 ^ k : Nat) := by
  obtain ⟨a1, a2⟩ := xi_nn h1
  obtain ⟨b1, b2⟩ := xi_nn h3
  have e : (x ||| y).toBitVec.toNat = x.toBitVec.toNat ||| y.toBitVec.toNat := by rw [Int32.toBitVec_or, BitVec.toNat_or]
  have h5 : x.toBitVec.toNat ||| y.toBitVec.toNat < 2 ^ k := Nat.or_lt_two_pow (by omega) (by omega)
  have h6 : (2 : Nat) ^ k ≤ 2 ^ 31 := Nat.pow_le_pow_right (by decide) hk
  have h7 := xi_nat (x := x ||| y) (by rw [e]; omega)
  rw [h7, e]
  omega
theorem xi_xor {x y : Int32} {k : Nat} (hk : k ≤ 31) (h1 : 0 ≤ x.toInt) (h2 : x.toInt < (2 ^ k : Nat)) (h3 : 0 ≤ y.toInt) (h4 : y.toInt < (2 ^ k : Nat)) : 0 ≤ (x ^^^ y).toInt ∧ (x ^^^ y).toInt < (2 ^ k : Nat) := by
  obtain ⟨a1, a2⟩ := xi_nn h1
  obtain ⟨b1, b2⟩ := xi_nn h3
  have e : (x ^^^ y).toBitVec.toNat = x.toBitVec.toNat ^^^ y.toBitVec.toNat := by rw [Int32.toBitVec_xor, BitVec.toNat_xor]
  have h5 : x.toBitVec.toNat ^^^ y.toBitVec.toNat < 2 ^ k := Nat.xor_lt_two_pow (by omega) (by omega)
  have h6 : (2 : Nat) ^ k ≤ 2 ^ 31 := Nat.pow_le_pow_right (by decide) hk
  have h7 := xi_nat (x := x ^^^ y) (by rw [e]; omega)
  rw [h7, e]
  omega
