/-! Both sides read a sentence alike: the stack, one operand (by hand). -/
set_option linter.unusedSimpArgs false
/-- the reference's stack, its top first -/
def sR (K : hH) : List Int → Prop
  | [] => True
  | x :: s => K.1 46 s.length = x ∧ sR K s
theorem sR_keep {K K' : hH} : ∀ {S : List Int}, sR K S → (∀ i, i < S.length → K'.1 46 i = K.1 46 i) → sR K' S
  | [], _, _ => trivial
  | x :: s, h, hk => ⟨by rw [hk s.length (by rw [List.length_cons]; omega)]; exact h.1, sR_keep h.2 (fun i hi => hk i (by rw [List.length_cons]; omega))⟩
section SI
variable {B : Nat → Int} {N T c n d : Nat} {w : Int} {S : List Int} {H K K0 : hH}
/-- the reference alone: what nots and joins leave -/
def sQ (B : Nat → Int) (N c d n : Nat) (w : Int) (S : List Int) (K0 K : hH) : Prop :=
  pd_LR B 200 N c K ∧ K.1 29 48 = ((S.length : Nat) : Int) ∧ sR K S ∧ K.1 29 49 = (d : Int) ∧ K.1 29 47 = (n : Int) ∧ K.1 29 50 = w ∧ (∀ b, b < 4 → K.1 31 b = K0.1 31 b) ∧ (∀ b, K.2.1 34 b = K0.2.1 34 b)
theorem sn_sub1 {n : Nat} (h : n < 2147483647) : iSub ((n + 1 : Nat) : Int) 1 = (n : Int) := by
  have : iSub ((n + 1 : Nat) : Int) 1 = ((n + 1 : Nat) : Int) - 1 := iop_sub ⟨by omega, by omega⟩ ⟨by omega, by omega⟩ ⟨by omega, by omega⟩
  rw [this]; omega
/-- a code is written -/
theorem sQ_code (h : sQ B N c d n w S K0 K) (a1 a2 a3 : Int) : sQ B N c d n w S K0 (f_X12_code a1 a2 a3 K) := by
  obtain ⟨h1, h2, h3, h4, h5, h6, h7, h8⟩ := h
  have e : ∀ a b, a ≠ 33 → ¬ (a = 29 ∧ b = 46) → (f_X12_code a1 a2 a3 K).1 a b = K.1 a b := by
    intro a b n1 n2
    unfold f_X12_code
    simp only [upI]
    rw [if_neg (by omega), if_neg (by omega), if_neg (by omega), if_neg (by omega)]
  refine ⟨pd_LR_keep h1 (fun b => ?_) (fun b => e 30 b (by omega) (by omega)) (fun b => rfl) (fun b => rfl), by rw [e 29 48 (by omega) (by omega)]; exact h2, sR_keep h3 (fun i _ => e 46 i (by omega) (by omega)), by rw [e 29 49 (by omega) (by omega)]; exact h4, by rw [e 29 47 (by omega) (by omega)]; exact h5, by rw [e 29 50 (by omega) (by omega)]; exact h6, fun b hb => by rw [e 31 b (by omega) (by omega)]; exact h7 b hb, h8⟩
  by_cases q : b = 46
  · right; omega
  · left; exact e 29 b (by omega) (by omega)
/-- the top is taken off -/
theorem sQ_pop {x : Int} (hl : S.length < 1000) (h : sQ B N c d n w (x :: S) K0 K) : sQ B N c d n w S K0 (upI K 29 48 (iSub (K.1 29 48) 1)) := by
  obtain ⟨h1, h2, h3, h4, h5, h6, h7, h8⟩ := h
  have e : ∀ a b, ¬ (a = 29 ∧ b = 48) → (upI K 29 48 (iSub (K.1 29 48) 1)).1 a b = K.1 a b := by
    intro a b n1
    simp only [upI]
    rw [if_neg (by omega)]
  refine ⟨pd_LR_keep h1 (fun b => ?_) (fun b => e 30 b (by omega)) (fun b => rfl) (fun b => rfl), ?_, sR_keep h3.2 (fun i _ => e 46 i (by omega)), by rw [e 29 49 (by omega)]; exact h4, by rw [e 29 47 (by omega)]; exact h5, by rw [e 29 50 (by omega)]; exact h6, fun b hb => by rw [e 31 b (by omega)]; exact h7 b hb, h8⟩
  · by_cases q : b = 48
    · right; omega
    · left; exact e 29 b (by omega)
  · rw [h2, List.length_cons, sn_sub1 (by omega)]
    simp [upI]
theorem sQ_deep (hd : d + 1 ≤ 1000) (h : sQ B N c (d + 1) n w S K0 K) : sQ B N c d n w S K0 (upI K 29 49 (iSub (K.1 29 49) 1)) := by
  obtain ⟨h1, h2, h3, h4, h5, h6, h7, h8⟩ := h
  have e : ∀ a b, ¬ (a = 29 ∧ b = 49) → (upI K 29 49 (iSub (K.1 29 49) 1)).1 a b = K.1 a b := by
    intro a b n1
    simp only [upI]
    rw [if_neg (by omega)]
  refine ⟨pd_LR_keep h1 (fun b => ?_) (fun b => e 30 b (by omega)) (fun b => rfl) (fun b => rfl), by rw [e 29 48 (by omega)]; exact h2, sR_keep h3 (fun i _ => e 46 i (by omega)), ?_, by rw [e 29 47 (by omega)]; exact h5, by rw [e 29 50 (by omega)]; exact h6, fun b hb => by rw [e 31 b (by omega)]; exact h7 b hb, h8⟩
  · by_cases q : b = 49
    · right; omega
    · left; exact e 29 b (by omega)
  · rw [h4, sn_sub1 (by omega)]
    simp [upI]
theorem sn_top {x : Int} (h1 : K.1 29 48 = (((x :: S).length : Nat) : Int)) (h2 : sR K (x :: S)) (hl : S.length < 1000) : 0 < K.1 29 48 ∧ K.1 46 (iSub (K.1 29 48) 1).toNat = x := by
  rw [h1, List.length_cons, sn_sub1 (by omega), Int.toNat_natCast]
  exact ⟨by omega, h2.1⟩
/-- nots -/
theorem sn_ntl : ∀ (q k d : Nat) (S : List Int) (K : hH), q + S.length ≤ k → k < 1000 → d + q ≤ 1000 → (∀ x s, S = x :: s → x ≠ 20) → sQ B N c (d + q) n w (List.replicate q 20 ++ S) K0 K → sQ B N c d n w S K0 (f_X12_ntl k K)
  | 0, k, d, S, K, hk, hk2, hd, ht, h => by
    have h : sQ B N c d n w S K0 K := h
    match k with
    | 0 => exact h
    | k + 1 =>
      unfold f_X12_ntl
      match S, ht, h with
      | [], _, h =>
        have e : K.1 29 48 = 0 := h.2.1
        rw [if_neg (by rw [e]; omega)]
        exact h
      | x :: s, ht, h =>
        have hl : s.length < 1000 := by rw [List.length_cons] at hk; omega
        obtain ⟨t1, t2⟩ := sn_top h.2.1 h.2.2.1 hl
        rw [if_pos t1, if_neg (by rw [t2]; exact ht x s rfl)]
        exact h
  | q + 1, k, d, S, K, hk, hk2, hd, ht, h => by
    match k, hk, hk2 with
    | 0, hk, _ => omega
    | k + 1, hk, hk2 =>
      have h : sQ B N c (d + q + 1) n w (20 :: (List.replicate q 20 ++ S)) K0 K := h
      have hl : (List.replicate q 20 ++ S : List Int).length < 1000 := by rw [List.length_append, List.length_replicate]; omega
      obtain ⟨t1, t2⟩ := sn_top h.2.1 h.2.2.1 hl
      unfold f_X12_ntl
      rw [if_pos t1, if_pos t2]
      have e49 : iSub (K.1 29 49) 1 = iSub ((upI K 29 48 (iSub (K.1 29 48) 1)).1 29 49) 1 := by simp [upI]
      rw [e49]
      exact sn_ntl q k d S _ (by omega) (by omega) (by omega) ht (sQ_code (sQ_deep (by omega) (sQ_pop hl h)) 20 0 0)
theorem sn_nots {q : Nat} (hl : q + S.length < 1000) (hd : d + q ≤ 1000) (ht : ∀ x s, S = x :: s → x ≠ 20) (h : sQ B N c (d + q) n w (List.replicate q 20 ++ S) K0 K) : sQ B N c d n w S K0 (f_X12_nots K) := by
  unfold f_X12_nots
  rw [h.2.1, List.length_append, List.length_replicate, Int.toNat_natCast]
  exact sn_ntl q _ d S K (by omega) hl hd ht h
/-- joins with a word that binds as a1: the joins of A are taken off -/
theorem sn_jnl (a1 : Int) : ∀ (A : List Int) (k : Nat) (K : hH), A.length + S.length ≤ k → k < 1000 → (∀ x ∈ A, x = 21 ∨ (x = 22 ∧ a1 = 22)) → (∀ x s, S = x :: s → x ≠ 21 ∧ (x = 22 → a1 ≠ 22)) → sQ B N c d n w (A ++ S) K0 K → sQ B N c d n w S K0 (f_X12_jnl a1 k K)
  | [], k, K, hk, hk2, ha, ht, h => by
    have h : sQ B N c d n w S K0 K := h
    match k with
    | 0 => exact h
    | k + 1 =>
      unfold f_X12_jnl
      match S, ht, h with
      | [], _, h =>
        have e : K.1 29 48 = 0 := h.2.1
        rw [if_neg (by rw [e]; omega)]
        exact h
      | x :: s, ht, h =>
        have hl : s.length < 1000 := by rw [List.length_cons] at hk; omega
        obtain ⟨t1, t2⟩ := sn_top h.2.1 h.2.2.1 hl
        obtain ⟨u1, u2⟩ := ht x s rfl
        rw [if_pos t1, if_neg (by rw [t2]; exact u1), t2]
        by_cases q : x = 22
        · rw [if_pos q, if_neg (u2 q)]; exact h
        · rw [if_neg q]; exact h
  | x :: A, k, K, hk, hk2, ha, ht, h => by
    match k, hk, hk2 with
    | 0, hk, _ => rw [List.length_cons] at hk; omega
    | k + 1, hk, hk2 =>
      have h : sQ B N c d n w (x :: (A ++ S)) K0 K := h
      rw [List.length_cons] at hk
      have hl : (A ++ S).length < 1000 := by rw [List.length_append]; omega
      obtain ⟨t1, t2⟩ := sn_top h.2.1 h.2.2.1 hl
      have hrec := sn_jnl a1 A k (f_X12_code (K.1 46 ((iSub (K.1 29 48) 1)).toNat) 0 0 (upI K 29 48 (iSub (K.1 29 48) 1))) (by omega) (by omega) (fun y hy => ha y (List.mem_cons_of_mem _ hy)) ht (sQ_code (sQ_pop hl h) _ 0 0)
      unfold f_X12_jnl
      rw [if_pos t1]
      rcases ha x List.mem_cons_self with q | ⟨q, q2⟩
      · rw [if_pos (by rw [t2]; exact q)]; exact hrec
      · rw [if_neg (by rw [t2, q]; omega), if_pos (by rw [t2]; exact q), if_pos q2]; exact hrec
theorem sn_joins {a1 : Int} {A : List Int} (hl : A.length + S.length < 1000) (ha : ∀ x ∈ A, x = 21 ∨ (x = 22 ∧ a1 = 22)) (ht : ∀ x s, S = x :: s → x ≠ 21 ∧ (x = 22 → a1 ≠ 22)) (h : sQ B N c d n w (A ++ S) K0 K) : sQ B N c d n w S K0 (f_X12_joins a1 K) := by
  unfold f_X12_joins
  rw [h.2.1, List.length_append, Int.toNat_natCast]
  exact sn_jnl a1 A _ K (by omega) hl ha ht h
end SI
