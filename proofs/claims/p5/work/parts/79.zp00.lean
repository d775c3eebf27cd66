/-! Both sides read a text alike (by hand), 0. -/
set_option maxRecDepth 100000
theorem pd_tz_nat (X y : Nat) (hX : X < 2 ^ 50) (hy : y < 2 ^ 8) (n : Nat) (hn : n = 5 ∧ y < 32 ∨ n = 8) : ((BitVec.ofNat 64 X <<< n) ||| BitVec.ofNat 64 y) = BitVec.ofNat 64 (2 ^ n * X + y) := by
  apply BitVec.eq_of_toNat_eq
  rw [BitVec.toNat_or, BitVec.toNat_shiftLeft, BitVec.toNat_ofNat, BitVec.toNat_ofNat, BitVec.toNat_ofNat]
  have hx : X % 2 ^ 64 = X := Nat.mod_eq_of_lt (by omega)
  have hy' : y % 2 ^ 64 = y := Nat.mod_eq_of_lt (by omega)
  have hlt : y < 2 ^ n := by rcases hn with ⟨rfl, h⟩ | rfl <;> omega
  have hs : X <<< n % 2 ^ 64 = X <<< n := by
    apply Nat.mod_eq_of_lt
    rw [Nat.shiftLeft_eq]
    rcases hn with ⟨rfl, h⟩ | rfl <;> omega
  rw [hx, hy', hs, ← Nat.shiftLeft_add_eq_or_of_lt hlt, Nat.shiftLeft_eq, Nat.mul_comm]
  symm
  apply Nat.mod_eq_of_lt
  rcases hn with ⟨rfl, h⟩ | rfl <;> omega
theorem pd_tz_c5 (X : Nat) (hX : X < 2 ^ 50) (b : Int) (h1 : 97 ≤ b) (h2 : b ≤ 122) : f_X9_withLetter (Int64.ofNat X) b = Int64.ofNat (32 * X + (b.toNat - 96)) := by
  have hy : ∀ d : Fin 26, (Int32.ofInt (iAdd (iSub ((97 + d.1 : Nat) : Int) 97) 1)).toInt64 = Int64.ofNat (d.1 + 1) := by decide
  have hb : b = ((97 + (b.toNat - 97) : Nat) : Int) := by omega
  have e := hy ⟨b.toNat - 97, by omega⟩
  unfold f_X9_withLetter
  rw [show (Int32.ofInt (iAdd (iSub b 97) 1)).toInt64 = Int64.ofNat (b.toNat - 96) from by
    rw [show b.toNat - 96 = b.toNat - 97 + 1 from by omega]; rw [← e]; simp only []; rw [← hb]]
  rw [show ((Int32.ofInt 5).toInt64 &&& 63) = (5 : Int64) from by decide]
  apply Int64.toBitVec_inj.mp
  have := pd_tz_nat X (b.toNat - 96) hX (by omega) 5 (Or.inl ⟨rfl, by omega⟩)
  exact this
theorem pd_tz_c8 (X : Nat) (hX : X < 2 ^ 50) (b : Int) (h1 : 97 ≤ b) (h2 : b ≤ 122) : ((Int64.ofNat X) <<< ((Int32.ofInt 8).toInt64 &&& 63)) ||| ((Int32.ofInt b).toInt64) = Int64.ofNat (256 * X + b.toNat) := by
  have hy : ∀ d : Fin 26, (Int32.ofInt ((97 + d.1 : Nat) : Int)).toInt64 = Int64.ofNat (97 + d.1) := by decide
  have hb : b = ((97 + (b.toNat - 97) : Nat) : Int) := by omega
  have e := hy ⟨b.toNat - 97, by omega⟩
  rw [show (Int32.ofInt b).toInt64 = Int64.ofNat b.toNat from by
    rw [show b.toNat = 97 + (b.toNat - 97) from by omega, ← e]; simp only []; rw [← hb]]
  rw [show ((Int32.ofInt 8).toInt64 &&& 63) = (8 : Int64) from by decide]
  apply Int64.toBitVec_inj.mp
  exact pd_tz_nat X b.toNat hX (by omega) 8 (Or.inr rfl)
