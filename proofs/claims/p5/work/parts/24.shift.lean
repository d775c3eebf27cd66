/-! Shifts, rests and narrowings within bounds. -/
theorem xi_amt : ∀ n, n < 32 → ((nI n &&& 31).toBitVec.smod 32).toNat = n := by decide +kernel
theorem xi_amu : ∀ n, n < 32 → (((nI n).toUInt32 &&& Int32.toUInt32 31).toBitVec % 32).toNat = n := by decide +kernel
theorem xi_nI {z : Int} (h : xIn32 z) (h0 : 0 ≤ z) : Int32.ofInt z = nI z.toNat := by
  apply Int32.toInt_inj.mp
  rw [xi_of h, nI_toInt (by have := h.2; omega)]
  omega
/-- of a number that isn't below 0 -/
theorem xi_bits {x : Int32} (h : 0 ≤ x.toInt) : (x.toBitVec.toNat : Int) = x.toInt := (xi_nn h).2.symm
theorem xi_shl {a s : Int} (ha : xIn32 a) (h0 : 0 ≤ a) (hs0 : 0 ≤ s) (hs : s ≤ 30) (h : a * (2 ^ s.toNat : Nat) ≤ 2147483647) : (Int32.ofInt a <<< (Int32.ofInt s &&& 31)).toInt = a * (2 ^ s.toNat : Nat) := by
  have hn : s.toNat < 32 := by omega
  rw [xi_nI (z := s) ⟨by omega, by omega⟩ hs0]
  have e := pk_shl (Int32.ofInt a) (nI s.toNat &&& 31) s.toNat (xi_amt s.toNat hn)
  have e1 : ((Int32.ofInt a).toBitVec.toNat : Int) = a := by rw [xi_bits (by rw [xi_of ha]; exact h0), xi_of ha]
  have e2 : (((Int32.ofInt a).toBitVec.toNat * 2 ^ s.toNat : Nat) : Int) = a * (2 ^ s.toNat : Nat) := by
    rw [Int.natCast_mul, e1]
  have e3 : (Int32.ofInt a).toBitVec.toNat * 2 ^ s.toNat < 2147483648 := by omega
  rw [Nat.mod_eq_of_lt (by omega)] at e
  rw [xi_nat (by rw [e]; exact e3), e, e2]
/-- to the right, of a number that isn't below 0: by a known amount, by any -/
theorem xi_shr {a s : Int} (ha : xIn32 a) (hs0 : 0 ≤ s) (hs : s ≤ 31) : (Int32.ofInt a >>> (Int32.ofInt s &&& 31)).toInt = a / (2 ^ s.toNat : Nat) := by
  rw [xi_nI (z := s) ⟨by omega, by omega⟩ hs0, pk_shr _ _ s.toNat (xi_amt s.toNat (by omega)), xi_of ha, Int.shiftRight_eq_div_pow]
theorem xi_shr0 {x y : Int32} (h : 0 ≤ x.toInt) : 0 ≤ (x >>> (y &&& 31)).toInt ∧ (x >>> (y &&& 31)).toInt ≤ x.toInt := by
  rw [pk_shr x (y &&& 31) _ rfl, Int.shiftRight_eq_div_pow]
  generalize ((y &&& 31).toBitVec.smod 32).toNat = k
  have hp : (0 : Int) < (2 ^ k : Nat) := by
    have : 0 < 2 ^ k := Nat.pow_pos (by decide)
    omega
  exact ⟨Int.ediv_nonneg h (by omega), Int.ediv_le_self _ h⟩
theorem xi_ushr {a s : Int} (ha : xIn32 a) (h0 : 0 ≤ a) (hs0 : 0 ≤ s) (hs : s ≤ 31) : ((Int32.ofInt a).toUInt32 >>> ((Int32.ofInt s).toUInt32 &&& Int32.toUInt32 31)).toInt32.toInt = a / (2 ^ s.toNat : Nat) := by
  rw [xi_nI (z := s) ⟨by omega, by omega⟩ hs0]
  have e := pk_ushr (Int32.ofInt a) (nI s.toNat) s.toNat (xi_amu s.toNat (by omega))
  have hx : 0 ≤ (Int32.ofInt a).toInt := by rw [xi_of ha]; exact h0
  obtain ⟨h1, h2⟩ := xi_nn hx
  have h3 : (Int32.ofInt a).toBitVec.toNat / 2 ^ s.toNat ≤ (Int32.ofInt a).toBitVec.toNat := Nat.div_le_self _ _
  rw [xi_nat (by rw [e]; omega), e, Int.natCast_ediv, xi_bits hx, xi_of ha]
theorem xi_ushr0 {x y : Int32} (h : 0 ≤ x.toInt) : 0 ≤ (x.toUInt32 >>> (y.toUInt32 &&& Int32.toUInt32 31)).toInt32.toInt ∧ (x.toUInt32 >>> (y.toUInt32 &&& Int32.toUInt32 31)).toInt32.toInt ≤ x.toInt := by
  have e := pk_ushr x y _ rfl
  generalize ((y.toUInt32 &&& Int32.toUInt32 31).toBitVec % 32).toNat = k at e
  obtain ⟨h1, h2⟩ := xi_nn h
  have h3 : x.toBitVec.toNat / 2 ^ k ≤ x.toBitVec.toNat := Nat.div_le_self _ _
  rw [xi_nat (by rw [e]; omega), e, h2]
  omega
theorem xi_ushrN {x : Int32} {s : Int} (hs0 : 0 < s) (hs : s ≤ 31) : 0 ≤ (x.toUInt32 >>> ((Int32.ofInt s).toUInt32 &&& Int32.toUInt32 31)).toInt32.toInt ∧ (x.toUInt32 >>> ((Int32.ofInt s).toUInt32 &&& Int32.toUInt32 31)).toInt32.toInt ≤ ((4294967295 / 2 ^ s.toNat : Nat) : Int) := by
  rw [xi_nI (z := s) ⟨by omega, by omega⟩ (by omega)]
  have e := pk_ushr x (nI s.toNat) s.toNat (xi_amu s.toNat (by omega))
  have hlt := x.toBitVec.isLt
  have h2 : 2 ≤ 2 ^ s.toNat := by
    have : 2 ^ 1 ≤ 2 ^ s.toNat := Nat.pow_le_pow_right (by decide) (by omega)
    omega
  have h3 : x.toBitVec.toNat / 2 ^ s.toNat ≤ 4294967295 / 2 ^ s.toNat := Nat.div_le_div_right (by omega)
  have h4 : 4294967295 / 2 ^ s.toNat ≤ 4294967295 / 2 := Nat.div_le_div_left h2 (by decide)
  rw [xi_nat (by rw [e]; omega), e]
  omega
theorem x_emod_le {a b : Int} (h : 0 ≤ a) (hb : 0 < b) : a % b ≤ a := by
  have e := Int.mul_ediv_add_emod a b
  have q := Int.mul_nonneg (Int.le_of_lt hb) (Int.ediv_nonneg h (Int.le_of_lt hb))
  omega
/-- the rest of a division by a number above 0 -/
theorem xi_rem {a b : Int} (ha : xIn32 a) (hb : xIn32 b) (h0 : 0 < b) : (Int32.ofInt a - Int32.ofInt a / Int32.ofInt b * Int32.ofInt b).toInt = a.tmod b := by
  have hne : Int32.ofInt b ≠ -1 := fun q => by
    have := congrArg Int32.toInt q
    rw [xi_of hb] at this
    have h9 : (-1 : Int32).toInt = -1 := rfl
    omega
  have e1 : (Int32.ofInt a / Int32.ofInt b).toInt = a.tdiv b := by rw [Int32.toInt_div_of_ne_right _ _ hne, xi_of ha, xi_of hb]
  have e2 : a.tdiv b * b = a - a.tmod b := by
    have := Int.mul_tdiv_add_tmod a b
    rw [Int.mul_comm] at this
    omega
  have e3 : xIn32 (a.tdiv b * b) ∧ xIn32 (a.tmod b) := by
    rcases Int.le_total 0 a with h | h
    · have h1 := Int.tmod_nonneg b h
      have h2 : a.tmod b ≤ a := by
        rw [Int.tmod_eq_emod_of_nonneg h]
        exact x_emod_le h h0
      rw [e2]
      exact ⟨⟨by have := ha.1; omega, by have := ha.2; omega⟩, ⟨by have := ha.1; omega, by have := ha.2; omega⟩⟩
    · have h1 : a.tmod b ≤ 0 := by
        have := Int.tmod_nonneg (a := -a) b (by omega)
        rw [Int.neg_tmod] at this
        omega
      have h2 : a ≤ a.tmod b := by
        have h3 : (-a).tmod b ≤ -a := by
          rw [Int.tmod_eq_emod_of_nonneg (by omega)]
          exact x_emod_le (by omega) h0
        rw [Int.neg_tmod] at h3
        omega
      rw [e2]
      exact ⟨⟨by have := ha.1; omega, by have := ha.2; omega⟩, ⟨by have := ha.1; omega, by have := ha.2; omega⟩⟩
  rw [Int32.toInt_sub, Int32.toInt_mul, e1, xi_of ha, xi_of hb, xi_bmod e3.1, e2]
  have e4 : a - (a - a.tmod b) = a.tmod b := by omega
  rw [e4, xi_bmod e3.2]
theorem xi_rem_b {a b : Int} (h0 : 0 < b) : -b < a.tmod b ∧ a.tmod b < b ∧ (0 ≤ a → 0 ≤ a.tmod b ∧ a.tmod b ≤ a) := by
  refine ⟨?_, Int.tmod_lt_of_pos a h0, fun h => ⟨Int.tmod_nonneg b h, ?_⟩⟩
  · have := Int.tmod_lt_of_pos (-a) h0
    rw [Int.neg_tmod] at this
    omega
  · rw [Int.tmod_eq_emod_of_nonneg h]
    exact x_emod_le h h0
