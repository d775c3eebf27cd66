/-! Both sides read a text alike (by hand), 6. -/
set_option maxRecDepth 100000
set_option linter.unusedSimpArgs false
theorem pd_pk_ok {b : Int} (h1 : -128 ≤ b) (h2 : b ≤ 127) : iAnd b 255 = if 0 ≤ b then b else b + 256 := by
  have h : ∀ d : Fin 256, iAnd (((d.1 : Nat) : Int) - 128) 255 = if 0 ≤ (((d.1 : Nat) : Int) - 128) then (((d.1 : Nat) : Int) - 128) else (((d.1 : Nat) : Int) - 128) + 256 := by decide +kernel
  have := h ⟨(b + 128).toNat, by omega⟩
  have e : (((b + 128).toNat : Nat) : Int) - 128 = b := by omega
  simp only [e] at this
  exact this
theorem pd_iMul_comm (a b : Int) : iMul a b = iMul b a := by
  show ((Int32.ofInt a) * (Int32.ofInt b)).toInt = ((Int32.ofInt b) * (Int32.ofInt a)).toInt
  rw [Int32.mul_comm]
def pd_hB8 (B : Nat → Int) : Prop := ∀ i, -128 ≤ B i ∧ B i ≤ 127
theorem pd_mSm {B : Nat → Int} (hb : pd_hB8 B) (p : Nat) : f_X12_isSmall (iAnd (B p) 255) = if pd_tLt (B p) = true then 1 else 0 := by
  rw [pd_pk_ok (hb p).1 (hb p).2]
  have := hb p
  unfold f_X12_isSmall
  by_cases h : pd_tLt (B p) = true
  · rw [if_pos h]
    have := pd_tLt_iff.mp h
    rw [if_pos (show 0 ≤ B p by omega), if_neg (by omega), if_neg (by omega)]
  · rw [if_neg h]
    have h2 : ¬ (97 ≤ B p ∧ B p ≤ 122) := fun q => h (pd_tLt_iff.mpr q)
    by_cases h0 : 0 ≤ B p
    · rw [if_pos h0]
      by_cases h1 : B p < 97
      · rw [if_pos h1]
      · rw [if_neg h1, if_pos (by omega)]
    · rw [if_neg h0, if_neg (by omega), if_pos (by omega)]
theorem pd_mDg {B : Nat → Int} (hb : pd_hB8 B) (p : Nat) : f_X12_isDigit (iAnd (B p) 255) = if pd_tDg (B p) = true then 1 else 0 := by
  rw [pd_pk_ok (hb p).1 (hb p).2]
  have := hb p
  unfold f_X12_isDigit
  by_cases h : pd_tDg (B p) = true
  · rw [if_pos h]
    have := pd_tDg_iff.mp h
    rw [if_pos (show 0 ≤ B p by omega), if_neg (by omega), if_neg (by omega)]
  · rw [if_neg h]
    have h2 : ¬ (48 ≤ B p ∧ B p ≤ 57) := fun q => h (pd_tDg_iff.mpr q)
    by_cases h0 : 0 ≤ B p
    · rw [if_pos h0]
      by_cases h1 : B p < 48
      · rw [if_pos h1]
      · rw [if_neg h1, if_pos (by omega)]
    · rw [if_neg h0, if_neg (by omega), if_pos (by omega)]
theorem pd_mPk {B : Nat → Int} {N p : Nat} {K : hH} (hB : ∀ i, K.1 30 i = B i) (h3 : K.1 29 3 = (N : Int)) (h4 : K.1 29 4 = (p : Int)) : f_X12_peek K = if p < N then iAnd (B p) 255 else -1 := by
  unfold f_X12_peek
  rw [h3, h4, Int.toNat_natCast, hB]
  by_cases h : p < N
  · rw [if_pos h, if_pos (by omega)]
  · rw [if_neg h, if_neg (by omega)]
theorem pd_mBlanks {B : Nat → Int} {N : Nat} (hN : N ≤ 940) (hb : pd_hB8 B) : ∀ (k p : Nat) (K : hH), (∀ i, K.1 30 i = B i) → K.1 29 3 = (N : Int) → K.1 29 4 = (p : Int) → p + k = N → f_X12_blanks k K = upI K 29 4 (pd_tSkip B k p : Nat)
  | 0, p, K, hB, h3, h4, hk => (pd_upI_self K 29 4 _ h4).symm
  | k + 1, p, K, hB, h3, h4, hk => by
    show (if _ then _ else if _ then _ else _) = upI K 29 4 ((if _ then _ else _ : Nat) : Int)
    have epk : f_X12_peek K = iAnd (B p) 255 := by rw [pd_mPk hB h3 h4, if_pos (by omega)]
    rw [epk, h4, pd_iad1 (by omega)]
    have ih := pd_mBlanks (B := B) hN hb k (p + 1) (upI K 29 4 ((p + 1 : Nat) : Int)) (fun i => by simp [upI, hB]) (by simp [upI, h3]) (by simp [upI]) (by omega)
    rw [pd_upI_upI] at ih
    have := hb p
    rw [pd_pk_ok this.1 this.2, ih]
    by_cases hx : pd_tBl (B p) = true
    · rw [if_pos hx]
      have : B p = 32 ∨ B p = 10 := by unfold pd_tBl at hx; simpa using hx
      rcases this with e | e <;> rw [e] <;> simp
    · rw [if_neg hx]
      have h1 : B p ≠ 32 := fun e => hx (by unfold pd_tBl; rw [e]; rfl)
      have h2 : B p ≠ 10 := fun e => hx (by unfold pd_tBl; rw [e]; rfl)
      rw [pd_upI_self K 29 4 _ h4]
      by_cases h0 : 0 ≤ B p
      · rw [if_pos h0, if_neg h1, if_neg h2]
      · rw [if_neg h0, if_neg (by omega), if_neg (by omega)]
/-- a byte of a run is taken -/
def pd_mStep (K : hH) : hH :=
  if K.1 29 13 < 7 then
    if K.1 29 13 < 3 then
      (upI (upI (upI (upL K 29 17 (((K.2.1 29 17) <<< ((Int32.ofInt 8).toInt64 &&& 63)) ||| ((Int32.ofInt (f_X12_peek K)).toInt64))) 29 14 (iSub (iAdd (iMul 10 (K.1 29 14)) (f_X12_peek K)) 48)) 29 13 (iAdd (K.1 29 13) 1)) 29 4 (iAdd (K.1 29 4) 1))
    else
      (upI (upI (upL K 29 17 (((K.2.1 29 17) <<< ((Int32.ofInt 8).toInt64 &&& 63)) ||| ((Int32.ofInt (f_X12_peek K)).toInt64))) 29 13 (iAdd (K.1 29 13) 1)) 29 4 (iAdd (K.1 29 4) 1))
  else
    if K.1 29 13 < 3 then
      (upI (upI (upI K 29 14 (iSub (iAdd (iMul 10 (K.1 29 14)) (f_X12_peek K)) 48)) 29 13 (iAdd (K.1 29 13) 1)) 29 4 (iAdd (K.1 29 4) 1))
    else
      (upI (upI K 29 13 (iAdd (K.1 29 13) 1)) 29 4 (iAdd (K.1 29 4) 1))
theorem pd_mRun_step (c s : Int) (k : Nat) (a : Int) (K : hH) : f_X12_run c s (k + 1) a K = if f_X12_isSmall (f_X12_peek K) = 0 ∧ f_X12_isDigit (f_X12_peek K) = 0 then (a, K) else f_X12_run c s k (if a = 0 then 0 else if f_X12_isSmall (f_X12_peek K) = s then 1 else 0) (pd_mStep K) := by
  conv => lhs; unfold f_X12_run
  unfold pd_mStep
  by_cases h1 : f_X12_isSmall (f_X12_peek K) = 0 <;> by_cases h2 : f_X12_isDigit (f_X12_peek K) = 0 <;> by_cases h3 : a = 0 <;> by_cases h4 : f_X12_isSmall (f_X12_peek K) = s <;> by_cases h5 : K.1 29 13 < 7 <;> by_cases h6 : K.1 29 13 < 3 <;> simp only [h1, h2, h3, h4, h5, h6, if_true, if_false, ite_true, ite_false, and_true, and_false, true_and, false_and, and_self] <;> simp_all
theorem pd_mStep_ok {B : Nat → Int} {N p n : Nat} {K : hH} (hb : pd_hB8 B) (hB : ∀ i, K.1 30 i = B i) (h3 : K.1 29 3 = (N : Int)) (h4 : K.1 29 4 = (p : Int)) (h13 : K.1 29 13 = (n : Int)) (hp : p < N) (hN : N ≤ 940) (hn : n ≤ 940) (ha : pd_tAn (B p) = true) :
    (pd_mStep K).1 29 4 = ((p + 1 : Nat) : Int) ∧ (pd_mStep K).1 29 13 = ((n + 1 : Nat) : Int) ∧ (pd_mStep K).1 29 14 = (if n < 3 then pd_tDn (K.1 29 14) (B p) else K.1 29 14) ∧ (pd_mStep K).2.1 29 17 = (if n < 7 then pd_c8 (K.2.1 29 17) (B p) else K.2.1 29 17) ∧ (∀ a b, ¬ (a = 29 ∧ (b = 4 ∨ b = 13 ∨ b = 14)) → (pd_mStep K).1 a b = K.1 a b) ∧ (∀ a b, ¬ (a = 29 ∧ b = 17) → (pd_mStep K).2.1 a b = K.2.1 a b) ∧ (pd_mStep K).2.2 = K.2.2 := by
  have h0 : 0 ≤ B p := by
    rcases pd_tAn_or ha with ⟨a1, -⟩ | ⟨-, a2⟩
    · have := pd_tDg_iff.mp a1; omega
    · have := pd_tLt_iff.mp a2; omega
  have epk : f_X12_peek K = B p := by rw [pd_mPk hB h3 h4, if_pos hp, pd_pk_ok (hb p).1 (hb p).2, if_pos h0]
  unfold pd_mStep
  rw [epk, h13, h4, pd_iad1 (by omega), pd_iad1 (by omega), pd_iMul_comm 10]
  by_cases k7 : n < 7
  · rw [if_pos (show (n : Int) < 7 by omega), if_pos k7]
    by_cases k3 : n < 3
    · rw [if_pos (show (n : Int) < 3 by omega), if_pos k3]
      exact ⟨by simp [upI, upL], by simp [upI, upL], by simp [upI, upL, pd_tDn], by simp [upI, upL, pd_c8], fun a b q => by simp only [upI, upL]; rw [if_neg (by omega), if_neg (by omega), if_neg (by omega)], fun a b q => by simp only [upI, upL]; rw [if_neg q], rfl⟩
    · rw [if_neg (show ¬ (n : Int) < 3 by omega), if_neg k3]
      exact ⟨by simp [upI, upL], by simp [upI, upL], by simp [upI, upL, pd_tDn], by simp [upI, upL, pd_c8], fun a b q => by simp only [upI, upL]; rw [if_neg (by omega), if_neg (by omega)], fun a b q => by simp only [upI, upL]; rw [if_neg q], rfl⟩
  · rw [if_neg (show ¬ (n : Int) < 7 by omega), if_neg k7]
    rw [if_neg (show ¬ (n : Int) < 3 by omega), if_neg (show ¬ n < 3 by omega)]
    exact ⟨by simp [upI, upL], by simp [upI, upL], by simp [upI, upL, pd_tDn], by simp [upI, upL, pd_c8], fun a b q => by simp only [upI, upL]; rw [if_neg (by omega), if_neg (by omega)], fun a b q => rfl, rfl⟩
theorem pd_bit2 (a : Int) (P : Prop) [Decidable P] : (if a = 0 then (0 : Int) else if P then 1 else 0) = 0 ∨ (if a = 0 then (0 : Int) else if P then 1 else 0) = 1 := by
  by_cases h : a = 0 <;> by_cases h2 : P <;> simp [h, h2]
theorem pd_mRun {B : Nat → Int} {N : Nat} (hN : N ≤ 940) (hb : pd_hB8 B) (c s : Int) : ∀ (k p n : Nat) (a : Int) (K : hH), (∀ i, K.1 30 i = B i) → K.1 29 3 = (N : Int) → K.1 29 4 = (p : Int) → K.1 29 13 = (n : Int) → p + k = N → n + k ≤ 940 → (a = 0 ∨ a = 1) →
    ∃ K', f_X12_run c s k a K = (if a = 1 ∧ (pd_tRun B k p).all (fun b => decide ((if pd_tLt b = true then 1 else 0 : Int) = s)) = true then 1 else 0, K') ∧ K'.1 29 4 = ((p + (pd_tRun B k p).length : Nat) : Int) ∧ K'.1 29 13 = ((n + (pd_tRun B k p).length : Nat) : Int) ∧ K'.1 29 14 = ((pd_tRun B k p).take (3 - n)).foldl pd_tDn (K.1 29 14) ∧ K'.2.1 29 17 = ((pd_tRun B k p).take (7 - n)).foldl pd_c8 (K.2.1 29 17) ∧ (∀ a b, ¬ (a = 29 ∧ (b = 4 ∨ b = 13 ∨ b = 14)) → K'.1 a b = K.1 a b) ∧ (∀ a b, ¬ (a = 29 ∧ b = 17) → K'.2.1 a b = K.2.1 a b) ∧ K'.2.2 = K.2.2
  | 0, p, n, a, K, hB, h3, h4, h13, hk, hn, ha => by
    refine ⟨K, ?_, by simp [pd_tRun, h4], by simp [pd_tRun, h13], by simp [pd_tRun], by simp [pd_tRun], fun a b _ => rfl, fun a b _ => rfl, rfl⟩
    show (a, K) = _
    rcases ha with rfl | rfl <;> simp [pd_tRun]
  | k + 1, p, n, a, K, hB, h3, h4, h13, hk, hn, ha => by
    rw [pd_mRun_step]
    have epk : f_X12_peek K = iAnd (B p) 255 := by rw [pd_mPk hB h3 h4, if_pos (by omega)]
    rw [epk, pd_mSm hb p, pd_mDg hb p]
    simp only [pd_if10]
    rw [show pd_tRun B (k + 1) p = if pd_tAn (B p) = true then B p :: pd_tRun B k (p + 1) else [] from rfl]
    by_cases han : pd_tAn (B p) = true
    · rw [if_pos han]
      have hne : ¬ (pd_tLt (B p) = false ∧ pd_tDg (B p) = false) := by
        rcases pd_tAn_or han with ⟨a1, a2⟩ | ⟨a1, a2⟩ <;> simp [a1, a2]
      rw [if_neg hne]
      obtain ⟨s1, s2, s3, s4, s5, s6, s7⟩ := pd_mStep_ok hb hB h3 h4 h13 (by omega) hN (by omega) han
      obtain ⟨K', e1, e2, e3, e4, e5, e6, e7, e8⟩ := pd_mRun hN hb c s k (p + 1) (n + 1) (if a = 0 then 0 else if (if pd_tLt (B p) = true then 1 else 0 : Int) = s then 1 else 0) (pd_mStep K) (fun i => by rw [s5 30 i (by omega)]; exact hB i) (by rw [s5 29 3 (by omega)]; exact h3) s1 s2 (by omega) (by omega) (pd_bit2 _ _)
      refine ⟨K', ?_, ?_, ?_, ?_, ?_, fun a b q => ?_, fun a b q => ?_, ?_⟩
      · rw [e1]
        congr 1
        rw [List.all_cons]
        rcases ha with rfl | rfl
        · simp
        · by_cases hs : (if pd_tLt (B p) = true then 1 else 0 : Int) = s
          · simp [hs]
          · simp [hs]
      · rw [e2, List.length_cons]; congr 1; omega
      · rw [e3, List.length_cons]; congr 1; omega
      · rw [e4, s3]
        by_cases k3 : n < 3
        · rw [if_pos k3, show 3 - n = (3 - (n + 1)) + 1 from by omega, List.take_succ_cons, List.foldl_cons]
        · rw [if_neg k3, show 3 - n = 0 from by omega, show 3 - (n + 1) = 0 from by omega]; simp
      · rw [e5, s4]
        by_cases k7 : n < 7
        · rw [if_pos k7, show 7 - n = (7 - (n + 1)) + 1 from by omega, List.take_succ_cons, List.foldl_cons]
        · rw [if_neg k7, show 7 - n = 0 from by omega, show 7 - (n + 1) = 0 from by omega]; simp
      · rw [e6 a b q, s5 a b q]
      · rw [e7 a b q, s6 a b q]
      · rw [e8, s7]
    · rw [if_neg han]
      have hne : pd_tLt (B p) = false ∧ pd_tDg (B p) = false := by
        unfold pd_tAn at han
        cases h1 : pd_tLt (B p) <;> cases h2 : pd_tDg (B p) <;> simp_all
      rw [if_pos hne]
      refine ⟨K, ?_, by simp [h4], by simp [h13], by simp, by simp, fun a b _ => rfl, fun a b _ => rfl, rfl⟩
      rcases ha with rfl | rfl <;> simp
