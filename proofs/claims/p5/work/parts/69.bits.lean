/-! The number of ones of an int: its loop by hand. -/
def xPc : Nat → Nat → Nat
  | 0, _ => 0
  | f + 1, u => if u = 0 then 0 else xPc f (u &&& (u - 1)) + 1
theorem xPc_e {w : Nat} (h : 0 < w) : (2 * w) &&& (2 * w - 1) = 2 * (w &&& (w - 1)) := by
  apply Nat.eq_of_testBit_eq
  intro i
  cases i with
  | zero =>
    rw [Nat.testBit_and, Nat.testBit_zero, Nat.testBit_zero, Nat.testBit_zero]
    have e1 : 2 * w % 2 = 0 := by omega
    have e2 : 2 * (w &&& (w - 1)) % 2 = 0 := by omega
    rw [e1, e2]
    rfl
  | succ i =>
    rw [Nat.testBit_and, Nat.testBit_succ, Nat.testBit_succ, Nat.testBit_succ]
    have e1 : 2 * w / 2 = w := by omega
    have e2 : (2 * w - 1) / 2 = w - 1 := by omega
    have e3 : 2 * (w &&& (w - 1)) / 2 = w &&& (w - 1) := by omega
    rw [e1, e2, e3, Nat.testBit_and]
theorem xPc_o (w : Nat) : (2 * w + 1) &&& (2 * w + 1 - 1) = 2 * w := by
  apply Nat.eq_of_testBit_eq
  intro i
  cases i with
  | zero =>
    rw [Nat.testBit_and, Nat.testBit_zero, Nat.testBit_zero, Nat.testBit_zero]
    have e1 : (2 * w + 1 - 1) % 2 = 0 := by omega
    have e2 : 2 * w % 2 = 0 := by omega
    rw [e1, e2]
    simp
  | succ i =>
    rw [Nat.testBit_and, Nat.testBit_succ, Nat.testBit_succ, Nat.testBit_succ]
    have e1 : (2 * w + 1) / 2 = w := by omega
    have e2 : (2 * w + 1 - 1) / 2 = w := by omega
    have e3 : 2 * w / 2 = w := by omega
    rw [e1, e2, e3, Bool.and_self]
theorem xPc_dbl : ∀ (f w : Nat), xPc f (2 * w) = xPc f w
  | 0, _ => rfl
  | f + 1, w => by
      by_cases h : w = 0
      · subst h; rfl
      · have h2 : ¬ 2 * w = 0 := by omega
        rw [xPc, xPc, if_neg h, if_neg h2, xPc_e (by omega), xPc_dbl f]
theorem xPc_le : ∀ (k f u : Nat), u < 2 ^ k → xPc f u ≤ k
  | 0, f, u, h => by
      have : u = 0 := by simpa using h
      subst this
      cases f with
      | zero => exact Nat.le_refl _
      | succ f => exact Nat.le_refl _
  | k + 1, f, u, h => by
      rw [Nat.pow_succ] at h
      rcases Nat.mod_two_eq_zero_or_one u with e | e
      · have eu : u = 2 * (u / 2) := by omega
        rw [eu, xPc_dbl]
        have := xPc_le k f (u / 2) (by omega)
        omega
      · have eu : u = 2 * (u / 2) + 1 := by omega
        cases f with
        | zero => exact Nat.zero_le _
        | succ f =>
          rw [eu, xPc, if_neg (by omega), xPc_o, xPc_dbl]
          have := xPc_le k f (u / 2) (by omega)
          omega
theorem xPc_pos {f u : Nat} (h : u ≠ 0) : 1 ≤ xPc (f + 1) u := by
  rw [xPc, if_neg h]
  omega
theorem xPc_zero (f : Nat) : xPc f 0 = 0 := by
  cases f <;> rfl
theorem xPc_step {w : Int32} (h : w.toBitVec.toNat ≠ 0) : (w &&& (w - 1)).toBitVec.toNat = w.toBitVec.toNat &&& (w.toBitVec.toNat - 1) := by
  rw [Int32.toBitVec_and, Int32.toBitVec_sub, BitVec.toNat_and]
  congr 1
  have e1 : (1 : Int32).toBitVec.toNat = 1 := by decide
  have hb := w.toBitVec.isLt
  rw [BitVec.toNat_sub, e1]
  omega
theorem xPc_nz {w : Int32} : w.toInt = 0 ↔ w.toBitVec.toNat = 0 := by
  constructor
  · intro h
    have := (xi_nn (x := w) (by omega)).2
    omega
  · intro h
    have := xi_nat (x := w) (by omega)
    omega
section XBITS
variable {tab : Nat → Nat → Option rvE} {info : Nat → rvM} {rets : Nat → Option FieldType} {NM : Nat} {mth : Nat → Option Nat} {Gd : Nat → (xRes2 → Prop) → rvS → Prop} {Met : Nat → List rvV → rvH → (xRes2 → Prop) → Prop}
/-- the table of the method -/
def xBt (tab : Nat → Nat → Option rvE) (j : Nat) : Prop :=
  tab j 0 = some (.iconst 0, 1, 0, 0, 0, 0) ∧ tab j 1 = some (.istore_n 1, 1, 0, 0, 0, 0) ∧ tab j 2 = some (.iload_n 0, 1, 0, 0, 0, 0) ∧ tab j 3 = some (.istore_n 2, 1, 0, 0, 0, 0) ∧ tab j 4 = some (.iload_n 2, 1, 0, 0, 0, 0) ∧ tab j 5 = some (.ifCond .eq 15, 3, 0, 0, 0, 0) ∧ tab j 8 = some (.iinc 1 1, 3, 0, 0, 0, 0) ∧ tab j 11 = some (.iload_n 2, 1, 0, 0, 0, 0) ∧ tab j 12 = some (.iload_n 2, 1, 0, 0, 0, 0) ∧ tab j 13 = some (.iconst 1, 1, 0, 0, 0, 0) ∧ tab j 14 = some (.isub, 1, 0, 0, 0, 0) ∧ tab j 15 = some (.iand, 1, 0, 0, 0, 0) ∧ tab j 16 = some (.istore_n 2, 1, 0, 0, 0, 0) ∧ tab j 17 = some (.goto (-13), 3, 0, 0, 0, 0) ∧ tab j 20 = some (.iload_n 1, 1, 0, 0, 0, 0) ∧ tab j 21 = some (.ireturn, 1, 0, 0, 0, 0)
theorem xBt_loop (hc : xClo tab info rets NM mth Gd Met) {j : Nat} (hj : j < NM) (ht : xBt tab j) (hm : (info j).1 = 3) (hr : rets j = some .int) {Post : xRes2 → Prop} {b0 : Int × Int} {aw : rvH} : ∀ (f : Nat) (w : Int32) (n : Int), w.toBitVec.toNat < f → 0 ≤ n → n + xPc f w.toBitVec.toNat ≤ 1000 → Post (some (.inl (n + xPc f w.toBitVec.toNat, n + xPc f w.toBitVec.toNat)), aw) → Gd j Post (4, [.inl b0, .inl (n, n), .inl (w.toInt, w.toInt)], [], aw, 0, 0)
  | 0, w, n, h, _, _, _ => by omega
  | f + 1, w, n, h, hn, hb, hp => by
      have ht0 := ht
      have hc0 := hc
      obtain ⟨-, -, -, -, t4, t5, t8, t11, t12, t13, t14, t15, t16, t17, t20, t21⟩ := ht
      obtain ⟨hst, -, -, -, -, hret, -⟩ := hc
      refine hst j Post _ (5, [.inl b0, .inl (n, n), .inl (w.toInt, w.toInt)], [.inl (w.toInt, w.toInt)], aw, 0, 0) _ _ _ _ _ _ hj t4 rfl ?_
      by_cases hz : w.toInt = 0
      · have hz' := xPc_nz.mp hz
        rw [hz', xPc_zero] at hp
        refine hst j Post _ (20, [.inl b0, .inl (n, n), .inl (w.toInt, w.toInt)], [], aw, 0, 0) _ _ _ _ _ _ hj t5 (by rw [hz]; rfl) ?_
        refine hst j Post _ (21, [.inl b0, .inl (n, n), .inl (w.toInt, w.toInt)], [.inl (n, n)], aw, 0, 0) _ _ _ _ _ _ hj t20 rfl ?_
        refine hret j Post 21 _ _ aw 0 0 _ _ _ _ _ _ hj t21 (Or.inl ⟨rfl, (n, n), .int, rfl, hr, rfl⟩) (Nat.zero_le _) (Nat.zero_le _) ?_
        have e : n + ((0 : Nat) : Int) = n := by omega
        rw [e] at hp
        exact hp
      · have hz' : w.toBitVec.toNat ≠ 0 := fun e => hz (xPc_nz.mpr e)
        rw [xPc, if_neg hz'] at hb hp
        have hcmp : rvCmp .eq (w.toInt, w.toInt) (0, 0) = some false := by
          show (bif rvOne (w.toInt, w.toInt) && rvOne (0, 0) then some (decide (w.toInt = 0)) else _) = some false
          have e1 : rvOne (w.toInt, w.toInt) = true := decide_eq_true rfl
          have e2 : rvOne ((0 : Int), (0 : Int)) = true := decide_eq_true rfl
          rw [e1, e2, decide_eq_false hz]
          rfl
        refine hst j Post _ (8, [.inl b0, .inl (n, n), .inl (w.toInt, w.toInt)], [], aw, 0, 0) _ _ _ _ _ _ hj t5 ?_ ?_
        · show (match rvCmp .eq (w.toInt, w.toInt) (0, 0), rvJ 5 15 with
            | some true, some t => _
            | some false, some _ => _
            | _, _ => none) = _
          rw [hcmp]
          rfl
        have e1 : (Int32.ofInt n + Int32.ofInt 1).toInt = n + 1 := xi_add ⟨by omega, by omega⟩ ⟨by omega, by omega⟩ ⟨by omega, by omega⟩
        refine hst j Post _ (11, [.inl b0, .inl (n + 1, n + 1), .inl (w.toInt, w.toInt)], [], aw, 0, 0) _ _ _ _ _ _ hj t8 ?_ ?_
        · show ((bif Nat.blt 1 (info j).1 && rvIn (1, 1) (-2147483648) 2147483647 then some (11, [.inl b0, rvBin (· + ·) (n, n) (1, 1), .inl (w.toInt, w.toInt)], [], aw, 0, 0) else none) : Option rvS) = _
          rw [hm, rvBin_pt, e1]
          rfl
        refine hst j Post _ (12, [.inl b0, .inl (n + 1, n + 1), .inl (w.toInt, w.toInt)], [.inl (w.toInt, w.toInt)], aw, 0, 0) _ _ _ _ _ _ hj t11 rfl ?_
        refine hst j Post _ (13, [.inl b0, .inl (n + 1, n + 1), .inl (w.toInt, w.toInt)], [.inl (w.toInt, w.toInt), .inl (w.toInt, w.toInt)], aw, 0, 0) _ _ _ _ _ _ hj t12 rfl ?_
        refine hst j Post _ (14, [.inl b0, .inl (n + 1, n + 1), .inl (w.toInt, w.toInt)], [.inl (1, 1), .inl (w.toInt, w.toInt), .inl (w.toInt, w.toInt)], aw, 0, 0) _ _ _ _ _ _ hj t13 rfl ?_
        have e2 : Int32.ofInt 1 = 1 := by decide
        refine hst j Post _ (15, [.inl b0, .inl (n + 1, n + 1), .inl (w.toInt, w.toInt)], [.inl ((w - 1).toInt, (w - 1).toInt), .inl (w.toInt, w.toInt)], aw, 0, 0) _ _ _ _ _ _ hj t14 ?_ ?_
        · show (some (15, [.inl b0, .inl (n + 1, n + 1), .inl (w.toInt, w.toInt)], [rvBin (· - ·) (w.toInt, w.toInt) (1, 1), .inl (w.toInt, w.toInt)], aw, 0, 0) : Option rvS) = _
          rw [rvBin_pt, e2, Int32.ofInt_toInt]
        refine hst j Post _ (16, [.inl b0, .inl (n + 1, n + 1), .inl (w.toInt, w.toInt)], [.inl ((w &&& (w - 1)).toInt, (w &&& (w - 1)).toInt)], aw, 0, 0) _ _ _ _ _ _ hj t15 ?_ ?_
        · show (some (16, [.inl b0, .inl (n + 1, n + 1), .inl (w.toInt, w.toInt)], [rvBin (· &&& ·) (w.toInt, w.toInt) ((w - 1).toInt, (w - 1).toInt)], aw, 0, 0) : Option rvS) = _
          rw [rvBin_pt, Int32.ofInt_toInt, Int32.ofInt_toInt]
        refine hst j Post _ (17, [.inl b0, .inl (n + 1, n + 1), .inl ((w &&& (w - 1)).toInt, (w &&& (w - 1)).toInt)], [], aw, 0, 0) _ _ _ _ _ _ hj t16 ?_ ?_
        · show ((bif Nat.blt 2 (info j).1 then some (17, [.inl b0, .inl (n + 1, n + 1), .inl ((w &&& (w - 1)).toInt, (w &&& (w - 1)).toInt)], [], aw, 0, 0) else none) : Option rvS) = _
          rw [hm]
          rfl
        refine hst j Post _ (4, [.inl b0, .inl (n + 1, n + 1), .inl ((w &&& (w - 1)).toInt, (w &&& (w - 1)).toInt)], [], aw, 0, 0) _ _ _ _ _ _ hj t17 rfl ?_
        have hs := xPc_step hz'
        have hle : w.toBitVec.toNat &&& (w.toBitVec.toNat - 1) ≤ w.toBitVec.toNat - 1 := Nat.and_le_right
        have e3 : n + 1 + (xPc f (w.toBitVec.toNat &&& (w.toBitVec.toNat - 1)) : Nat) = n + ((xPc f (w.toBitVec.toNat &&& (w.toBitVec.toNat - 1)) + 1 : Nat) : Int) := by omega
        refine xBt_loop hc0 hj ht0 hm hr f (w &&& (w - 1)) (n + 1) ?_ ?_ ?_ ?_
        · rw [hs]; omega
        · omega
        · rw [hs, e3]; exact hb
        · rw [hs, e3]; exact hp
/-- the method, of any int -/
theorem xBt_met (hc : xClo tab info rets NM mth Gd Met) {j : Nat} (hj : j < NM) (hmj : mth j = none) (ht : xBt tab j) (hm : (info j).1 = 3) (hr : rets j = some .int) {Post : xRes2 → Prop} {z : Int} {aw : rvH} (hz : xIn32 z) (hp : ∀ c : Nat, c ≤ 32 → (z = 0 → c = 0) → (z ≠ 0 → 1 ≤ c) → (0 ≤ z → z ≤ 1023 → c ≤ 10) → Post (some (.inl ((c : Int), (c : Int))), aw)) : Met j [.inl (z, z)] aw Post := by
  have hw : (Int32.ofInt z).toInt = z := xi_of hz
  have hb := (Int32.ofInt z).toBitVec.isLt
  have h32 := xPc_le 32 (2 ^ 32) (Int32.ofInt z).toBitVec.toNat hb
  have hpo : Post (some (.inl (0 + ((xPc (2 ^ 32) (Int32.ofInt z).toBitVec.toNat : Nat) : Int), 0 + ((xPc (2 ^ 32) (Int32.ofInt z).toBitVec.toNat : Nat) : Int))), aw) := by
    have e : ∀ c : Nat, (0 : Int) + (c : Int) = (c : Int) := fun c => by omega
    rw [e]
    refine hp _ h32 (fun e0 => ?_) (fun e0 => ?_) (fun g1 g2 => ?_)
    · have : (Int32.ofInt z).toBitVec.toNat = 0 := xPc_nz.mp (by rw [hw]; exact e0)
      rw [this, xPc_zero]
    · have : (Int32.ofInt z).toBitVec.toNat ≠ 0 := fun e1 => e0 (by rw [← hw]; exact xPc_nz.mpr e1)
      exact xPc_pos (f := 2 ^ 32 - 1) this
    · have := (xi_nn (x := Int32.ofInt z) (by rw [hw]; exact g1)).2
      rw [hw] at this
      exact xPc_le 10 (2 ^ 32) _ (by
        have e10 : (2 : Nat) ^ 10 = 1024 := by decide
        omega)
  have hL := xBt_loop hc hj ht hm hr (Post := Post) (b0 := (z, z)) (aw := aw) (2 ^ 32) (Int32.ofInt z) 0 hb (Int.le_refl 0) (by omega) hpo
  rw [hw] at hL
  obtain ⟨t0, t1, t2, t3, -⟩ := ht
  refine hc.2.2.2.2.2.2.2.2 j Post [.inl (z, z)] aw hj hmj (by rw [hm]; show 1 ≤ 3; omega) ?_
  rw [hm]
  show Gd j Post (0, [.inl (z, z), rvU, rvU], [], aw, 0, 0)
  refine hc.1 j Post _ (1, [.inl (z, z), rvU, rvU], [.inl (0, 0)], aw, 0, 0) _ _ _ _ _ _ hj t0 rfl ?_
  refine hc.1 j Post _ (2, [.inl (z, z), .inl (0, 0), rvU], [], aw, 0, 0) _ _ _ _ _ _ hj t1 ?_ ?_
  · show ((bif Nat.blt 1 (info j).1 then some (2, [.inl (z, z), .inl (0, 0), rvU], [], aw, 0, 0) else none) : Option rvS) = _
    rw [hm]
    rfl
  refine hc.1 j Post _ (3, [.inl (z, z), .inl (0, 0), rvU], [.inl (z, z)], aw, 0, 0) _ _ _ _ _ _ hj t2 rfl ?_
  refine hc.1 j Post _ (4, [.inl (z, z), .inl (0, 0), .inl (z, z)], [], aw, 0, 0) _ _ _ _ _ _ hj t3 ?_ hL
  show ((bif Nat.blt 2 (info j).1 then some (4, [.inl (z, z), .inl (0, 0), .inl (z, z)], [], aw, 0, 0) else none) : Option rvS) = _
  rw [hm]
  rfl
end XBITS
