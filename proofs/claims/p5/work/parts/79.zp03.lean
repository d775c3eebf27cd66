/-! Both sides read a text alike (by hand), 3. -/
set_option maxRecDepth 100000
def pd_tSkip (B : Nat → Int) : Nat → Nat → Nat
  | 0, p => p
  | k + 1, p => if pd_tBl (B p) = true then pd_tSkip B k (p + 1) else p
def pd_tRun (B : Nat → Int) : Nat → Nat → List Int
  | 0, _ => []
  | k + 1, p => if pd_tAn (B p) = true then B p :: pd_tRun B k (p + 1) else []
def pd_tDn (n b : Int) : Int := iSub (iAdd (iMul n 10) b) 48
def pd_tRT (r : List Int) (p : Int) : pd_tT :=
  if r.all pd_tLt = true ∧ r.length ≤ 7 then (if pd_tIdx r = -1 then (5, 0, r, p) else (4, pd_tIdx r, r, p))
  else if r.all pd_tDg = true ∧ r.length ≤ 3 then (3, r.foldl pd_tDn 0, [], p) else (0, 0, [], p)
/-- the token that begins at p, and where it ends -/
def pd_tTk (B : Nat → Int) (lim N p : Nat) : pd_tT × Nat :=
  if lim < N ∧ lim ≤ p then ((0, 0, [], (lim : Int)), p)
  else if N ≤ p then ((1, 0, [], (p : Int)), p)
  else if pd_tAn (B p) = true then (pd_tRT (pd_tRun B (N - p) p) p, p + (pd_tRun B (N - p) p).length)
  else ((if pd_tSg (B p) = true then 2 else 0, B p, [], (p : Int)), p + 1)
def pd_tNx (B : Nat → Int) (lim N p : Nat) : pd_tT × Nat := pd_tTk B lim N (pd_tSkip B (N - p) p)
theorem pd_upI_self (H : hH) (p j : Nat) (v : Int) (h : H.1 p j = v) : upI H p j v = H := by
  obtain ⟨a, b⟩ := H
  unfold upI
  congr 1
  funext p' j'
  show (if p' = p ∧ j' = j then v else a p' j') = a p' j'
  split
  · rename_i e; rw [e.1, e.2]; exact h.symm
  · rfl
theorem pd_upI_upI (H : hH) (p j : Nat) (v w : Int) : upI (upI H p j v) p j w = upI H p j w := by
  obtain ⟨a, b⟩ := H
  unfold upI
  congr 1
  funext p' j'
  show (if p' = p ∧ j' = j then w else if p' = p ∧ j' = j then v else a p' j') = _
  split <;> rfl
theorem pd_tSkip_le {B : Nat → Int} : ∀ (k p : Nat), p ≤ pd_tSkip B k p ∧ pd_tSkip B k p ≤ p + k
  | 0, p => ⟨Nat.le_refl _, Nat.le_refl _⟩
  | k + 1, p => by
    show p ≤ (if _ then _ else _) ∧ (if _ then _ else _) ≤ _
    split
    · have := pd_tSkip_le (B := B) k (p + 1); omega
    · omega
theorem pd_tRun_len {B : Nat → Int} : ∀ (k p : Nat), (pd_tRun B k p).length ≤ k
  | 0, p => Nat.le_refl _
  | k + 1, p => by
    show (if pd_tAn (B p) = true then B p :: pd_tRun B k (p + 1) else [] : List Int).length ≤ _
    split
    · have := pd_tRun_len (B := B) k (p + 1); simp; omega
    · simp
theorem pd_tRun_an {B : Nat → Int} : ∀ (k p : Nat), ∀ b ∈ pd_tRun B k p, pd_tAn b = true
  | 0, p => by intro b hb; cases hb
  | k + 1, p => by
    show ∀ b ∈ (if pd_tAn (B p) = true then B p :: pd_tRun B k (p + 1) else [] : List Int), _
    split
    · rename_i h
      intro b hb
      rcases List.mem_cons.mp hb with rfl | hb
      · exact h
      · exact pd_tRun_an (B := B) k (p + 1) b hb
    · intro b hb; cases hb
theorem pd_iad1 {p : Nat} (h : p < 2147483647) : iAdd (p : Int) 1 = ((p + 1 : Nat) : Int) := iAdd_1 h
theorem pd_xBl (b : Int) : f_X9_isBlank b = if pd_tBl b = true then 1 else 0 := by
  unfold f_X9_isBlank pd_tBl
  by_cases h : b = 32 <;> by_cases h2 : b = 10 <;> simp [h, h2]
theorem pd_xDg (b : Int) : f_X9_isDigit b = if pd_tDg b = true then 1 else 0 := by
  unfold f_X9_isDigit pd_tDg
  by_cases h : b < 48 <;> by_cases h2 : 57 < b
  · rw [if_pos h, if_neg (by simp; omega)]
  · rw [if_pos h, if_neg (by simp; omega)]
  · rw [if_neg h, if_pos h2, if_neg (by simp; omega)]
  · rw [if_neg h, if_neg h2, if_pos (by simp; omega)]
theorem pd_xLt (b : Int) : f_X9_isLetter b = if pd_tLt b = true then 1 else 0 := by
  unfold f_X9_isLetter pd_tLt
  by_cases h : b < 97 <;> by_cases h2 : 122 < b
  · rw [if_pos h, if_neg (by simp; omega)]
  · rw [if_pos h, if_neg (by simp; omega)]
  · rw [if_neg h, if_pos h2, if_neg (by simp; omega)]
  · rw [if_neg h, if_neg h2, if_pos (by simp; omega)]
theorem pd_xSg (b : Int) : f_X9_isSignByte b = if pd_tSg b = true then 1 else 0 := by
  unfold f_X9_isSignByte pd_tSg
  by_cases h1 : b = 59 <;> by_cases h2 : b = 60 <;> by_cases h3 : b = 61 <;> by_cases h4 : b = 62 <;> by_cases h5 : b = 40 <;> by_cases h6 : b = 41 <;> simp [h1, h2, h3, h4, h5, h6]
theorem pd_if10 (c : Bool) : ((if c = true then 1 else 0 : Int) = 0) ↔ c = false := by cases c <;> simp
theorem pd_xBlanks (a : Int) {B : Nat → Int} {N : Nat} (hN : N ≤ 940) : ∀ (k p : Nat) (H : hH), (∀ i, H.1 5 i = B i) → H.1 4 2 = (N : Int) → H.1 4 8 = (p : Int) → p + k = N → f_X9_blanks a k H = upI H 4 8 (pd_tSkip B k p : Nat)
  | 0, p, H, hB, h2, h8, hk => (pd_upI_self H 4 8 _ h8).symm
  | k + 1, p, H, hB, h2, h8, hk => by
    show (if _ then (if _ then _ else _) else _) = upI H 4 8 ((if _ then _ else _ : Nat) : Int)
    rw [if_pos (by rw [h8, h2]; omega), pd_xBl, h8, hB]
    simp only [Int.toNat_natCast, pd_if10]
    by_cases hb : pd_tBl (B p) = true
    · rw [if_neg (by simp [hb]), if_pos hb, pd_iad1 (by omega)]
      rw [pd_xBlanks (B := B) a hN k (p + 1) _ (fun i => by simp [upI, hB]) (by simp [upI, h2]) (by simp [upI]) (by omega), pd_upI_upI]
    · rw [if_pos (by simpa using hb), if_neg hb]
      exact (pd_upI_self H 4 8 _ h8).symm
theorem pd_tAn_or {b : Int} (h : pd_tAn b = true) : (pd_tDg b = true ∧ pd_tLt b = false) ∨ (pd_tDg b = false ∧ pd_tLt b = true) := by
  unfold pd_tAn at h
  rcases Bool.or_eq_true_iff.mp h with h | h
  · left; refine ⟨h, ?_⟩
    have := pd_tDg_iff.mp h
    cases h9 : pd_tLt b
    · rfl
    · have := pd_tLt_iff.mp h9; omega
  · right; refine ⟨?_, h⟩
    have := pd_tLt_iff.mp h
    cases h9 : pd_tDg b
    · rfl
    · have := pd_tDg_iff.mp h9; omega
theorem pd_xRun {B : Nat → Int} {N : Nat} (hN : N ≤ 940) : ∀ (k p l d : Nat) (n : Int) (m : Int64) (H : hH), (∀ i, H.1 5 i = B i) → H.1 4 2 = (N : Int) → H.1 4 8 = (p : Int) → p + k = N → l + k ≤ 1000 → d + k ≤ 1000 →
    f_X9_run k (l : Int) (d : Int) n m H = (((l + ((pd_tRun B k p).filter pd_tLt).length : Nat) : Int), ((d + ((pd_tRun B k p).filter pd_tDg).length : Nat) : Int), ((pd_tRun B k p).filter pd_tDg).foldl pd_tDn n, ((pd_tRun B k p).filter pd_tLt).foldl f_X9_withLetter m, upI H 4 8 ((p + (pd_tRun B k p).length : Nat) : Int))
  | 0, p, l, d, n, m, H, hB, h2, h8, hk, _, _ => by
    show (_, _, _, _, _) = _
    simp only [pd_tRun, List.filter_nil, List.length_nil, List.foldl_nil, Nat.add_zero]
    rw [pd_upI_self H 4 8 _ h8]
  | k + 1, p, l, d, n, m, H, hB, h2, h8, hk, hl, hd => by
    have e1 := pd_xRun (B := B) hN k (p + 1) l (d + 1) (pd_tDn n (B p)) m (upI H 4 8 ((p + 1 : Nat) : Int)) (fun i => by simp [upI, hB]) (by simp [upI, h2]) (by simp [upI]) (by omega) (by omega) (by omega)
    have e2 := pd_xRun (B := B) hN k (p + 1) (l + 1) d n (f_X9_withLetter m (B p)) (upI H 4 8 ((p + 1 : Nat) : Int)) (fun i => by simp [upI, hB]) (by simp [upI, h2]) (by simp [upI]) (by omega) (by omega) (by omega)
    rw [pd_upI_upI] at e1 e2
    unfold f_X9_run
    rw [if_pos (by rw [h8, h2]; omega), pd_xDg, pd_xLt, h8, Int.toNat_natCast, hB]
    simp only [pd_if10]
    show _ = (_, _, _, _, _)
    rw [show pd_tRun B (k + 1) p = if pd_tAn (B p) = true then B p :: pd_tRun B k (p + 1) else [] from rfl]
    by_cases ha : pd_tAn (B p) = true
    · rw [if_pos ha]
      rcases pd_tAn_or ha with ⟨a1, a2⟩ | ⟨a1, a2⟩
      · rw [if_neg (by simp [a1]), if_pos a2]
        rw [pd_iad1 (by omega), pd_iad1 (by omega)]
        refine e1.trans ?_
        simp [a1, a2]
        exact ⟨by omega, by congr 1; omega⟩
      · rw [if_pos a1, if_neg (by simp [a2]), if_neg (by simp [a2])]
        rw [pd_iad1 (by omega), pd_iad1 (by omega)]
        refine e2.trans ?_
        simp [a1, a2]
        exact ⟨by omega, by congr 1; omega⟩
    · have a1 : pd_tDg (B p) = false := by unfold pd_tAn at ha; cases h : pd_tDg (B p) <;> simp_all
      have a2 : pd_tLt (B p) = false := by unfold pd_tAn at ha; cases h : pd_tLt (B p) <;> simp_all
      rw [if_pos a1, if_pos a2, if_neg ha]
      simp only [List.filter_nil, List.length_nil, List.foldl_nil, Nat.add_zero]
      rw [pd_upI_self H 4 8 _ h8]
