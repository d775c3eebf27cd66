/-! Both sides read a text alike (by hand), 5. -/
set_option maxRecDepth 100000
set_option linter.unusedSimpArgs false
theorem pd_tTk_ok {B : Nat → Int} {lim N p : Nat} (hp : p ≤ N) : pd_tOk (pd_tTk B lim N p).1 ∧ p ≤ (pd_tTk B lim N p).2 ∧ (pd_tTk B lim N p).2 ≤ N ∧ (2 ≤ (pd_tTk B lim N p).1.1 → p < (pd_tTk B lim N p).2) := by
  unfold pd_tTk
  have tr : ∀ (v : Int) (k : Nat), k ≤ 3 → ∀ (q : Int), pd_tOk ((k, v, [], q) : pd_tT) := by
    intro v k hk q
    exact ⟨by show k ≤ 5; omega, fun h => by have : k = 4 := h; omega, fun h => by have : k = 5 := h; omega⟩
  by_cases h1 : lim < N ∧ lim ≤ p
  · rw [if_pos h1]
    exact ⟨tr _ _ (by omega) _, Nat.le_refl _, hp, fun h => absurd h (by show ¬ 2 ≤ 0; omega)⟩
  · rw [if_neg h1]
    by_cases h2 : N ≤ p
    · rw [if_pos h2]
      exact ⟨tr _ _ (by omega) _, Nat.le_refl _, hp, fun h => absurd h (by show ¬ 2 ≤ 1; omega)⟩
    · rw [if_neg h2]
      by_cases h3 : pd_tAn (B p) = true
      · rw [if_pos h3]
        have hl := pd_tRun_len (B := B) (N - p) p
        refine ⟨?_, Nat.le_add_right _ _, by show p + _ ≤ N; omega, fun _ => ?_⟩
        · show pd_tOk (pd_tRT _ _)
          unfold pd_tRT
          split
          · rename_i q
            have hv : pd_vR (pd_tRun B (N - p) p) := ⟨q.2, fun b hb => List.all_eq_true.mp q.1 b hb⟩
            split
            · rename_i e
              exact ⟨by show 5 ≤ 5; omega, fun h => absurd h (by show ¬ 5 = 4; omega), fun _ => ⟨hv, e⟩⟩
            · rename_i e
              refine ⟨by show 4 ≤ 5; omega, fun _ => ⟨hv, rfl, ?_⟩, fun h => absurd h (by show ¬ 4 = 5; omega)⟩
              rcases pd_tIdx_spec (pd_tRun B (N - p) p) with ⟨a, -⟩ | ⟨i, a, -⟩
              · exact absurd a e
              · show 0 ≤ pd_tIdx _; rw [a]; omega
          · split
            · exact tr _ _ (by omega) _
            · exact tr _ _ (by omega) _
        · obtain ⟨k, hk⟩ : ∃ k, N - p = k + 1 := ⟨N - p - 1, by omega⟩
          show p < p + (pd_tRun B (N - p) p).length
          rw [hk]
          show p < p + (if pd_tAn (B p) = true then B p :: pd_tRun B k (p + 1) else [] : List Int).length
          rw [if_pos h3]
          simp
      · rw [if_neg h3]
        refine ⟨?_, by show p ≤ p + 1; omega, by show p + 1 ≤ N; omega, fun _ => by show p < p + 1; omega⟩
        show pd_tOk (_, _, _, _)
        split
        · exact tr _ _ (by omega) _
        · exact tr _ _ (by omega) _
theorem pd_tNx_ok {B : Nat → Int} {lim N p : Nat} (hp : p ≤ N) : pd_tOk (pd_tNx B lim N p).1 ∧ p ≤ (pd_tNx B lim N p).2 ∧ (pd_tNx B lim N p).2 ≤ N ∧ (2 ≤ (pd_tNx B lim N p).1.1 → p < (pd_tNx B lim N p).2) := by
  have h := pd_tSkip_le (B := B) (N - p) p
  have := pd_tTk_ok (B := B) (lim := lim) (N := N) (p := pd_tSkip B (N - p) p) (by omega)
  unfold pd_tNx
  exact ⟨this.1, by omega, this.2.2.1, fun q => by have := this.2.2.2 q; omega⟩
/-- where the token c begins to be looked for -/
def pd_tPos (B : Nat → Int) (lim N : Nat) : Nat → Nat
  | 0 => 0
  | c + 1 => (pd_tNx B lim N (pd_tPos B lim N c)).2
def pd_tTok (B : Nat → Int) (lim N c : Nat) : pd_tT := (pd_tNx B lim N (pd_tPos B lim N c)).1
theorem pd_tPos_le {B : Nat → Int} {lim N : Nat} : ∀ c, pd_tPos B lim N c ≤ N
  | 0 => Nat.zero_le _
  | c + 1 => (pd_tNx_ok (pd_tPos_le c)).2.2.1
theorem pd_tTok_ok {B : Nat → Int} {lim N : Nat} (c : Nat) : pd_tOk (pd_tTok B lim N c) := (pd_tNx_ok (pd_tPos_le c)).1
theorem pd_xScan {B : Nat → Int} {N lim : Nat} (hN : N ≤ 940) {p c : Nat} {H : hH} (hB : ∀ i, H.1 5 i = B i) (h2 : H.1 4 2 = (N : Int)) (h8 : H.1 4 8 = (p : Int)) (h7 : H.1 4 7 = (c : Int)) (hw : pd_hW5 H) (hp : p ≤ N) :
    (f_X9_scanToken lim H).1 = (((pd_tNx B lim N p).1.1 : Nat) : Int) ∧ (f_X9_scanToken lim H).2.1 4 8 = (((pd_tNx B lim N p).2 : Nat) : Int) ∧ pd_cRow (f_X9_scanToken lim H).2 c (pd_tNx B lim N p).1 ∧ pd_cFr H (f_X9_scanToken lim H).2 c := by
  unfold f_X9_scanToken pd_tNx
  have ek : (H.1 4 2 - H.1 4 8).toNat = N - p := by rw [h2, h8]; omega
  rw [ek, pd_xBlanks (B := B) lim hN (N - p) p H hB h2 h8 (by omega)]
  have hs := pd_tSkip_le (B := B) (N - p) p
  have e := pd_xTok (B := B) (lim := lim) hN (p := pd_tSkip B (N - p) p) (c := c) (H := upI H 4 8 ((pd_tSkip B (N - p) p : Nat) : Int)) (fun i => by simp [upI, hB]) (by simp [upI, h2]) (by simp [upI]) (by simp [upI, h7]) (fun i hi => hw i hi) (by omega)
  refine ⟨e.1, e.2.1, e.2.2.1, fun a b n1 n2 n3 => ?_, e.2.2.2.2.1, e.2.2.2.2.2⟩
  rw [e.2.2.2.1 a b n1 n2 n3]
  simp only [upI]
  rw [if_neg n1]
def pd_bFr (H H' : hH) : Prop := (∀ a b, ¬ (a = 4 ∧ (b = 7 ∨ b = 8)) → a ≠ 7 → a ≠ 8 → a ≠ 9 → H'.1 a b = H.1 a b) ∧ (∀ a b, a ≠ 10 → H'.2.1 a b = H.2.1 a b) ∧ H'.2.2 = H.2.2
theorem pd_bk (k : Nat) (h : k ≤ 5) : (Int32.ofInt (k : Int)).toInt8.toInt32.toInt = (k : Int) := by
  have : ∀ i : Fin 6, (Int32.ofInt (i.1 : Int)).toInt8.toInt32.toInt = (i.1 : Int) := by decide
  exact this ⟨k, by omega⟩
def pd_cRows (B : Nat → Int) (lim N : Nat) (H : hH) (T : Nat) : Prop := ∀ j, j < T → H.1 7 j = (((pd_tTok B lim N j).1 : Nat) : Int) ∧ pd_cRow H j (pd_tTok B lim N j)
theorem pd_xAll {B : Nat → Int} {N lim : Nat} (hN : N ≤ 940) : ∀ (k c : Nat) (H : hH), k + c = 941 → c ≤ pd_tPos B lim N c → (∀ i, H.1 5 i = B i) → H.1 4 2 = (N : Int) → H.1 4 8 = ((pd_tPos B lim N c : Nat) : Int) → H.1 4 7 = (c : Int) → pd_hW5 H → pd_cRows B lim N H c →
    ∃ T, c < T ∧ T ≤ 941 ∧ (f_X9_all lim k 1 H).2.1 4 7 = (T : Int) ∧ pd_cRows B lim N (f_X9_all lim k 1 H).2 T ∧ (pd_tTok B lim N (T - 1)).1 ≤ 1 ∧ pd_bFr H (f_X9_all lim k 1 H).2
  | 0, c, H, hk, hc, _, _, _, _, _, _ => by
    have := pd_tPos_le (B := B) (lim := lim) (N := N) c
    omega
  | k + 1, c, H, hk, hc, hB, h2, h8, h7, hw, hrows => by
    have hpl := pd_tPos_le (B := B) (lim := lim) (N := N) c
    obtain ⟨s1, s2, s3, s4, s5, s6⟩ := pd_xScan (B := B) (lim := lim) hN hB h2 h8 h7 hw hpl
    have hok := pd_tTok_ok (B := B) (lim := lim) (N := N) c
    unfold f_X9_all
    rw [if_neg (show ¬ (1 : Int) = 0 by omega), if_pos (show H.1 4 7 < 941 by rw [h7]; omega)]
    have e7 : (f_X9_scanToken lim H).2.1 4 7 = (c : Int) := by rw [s4 4 7 (by omega) (by omega) (by omega)]; exact h7
    rw [h7, e7, Int.toNat_natCast, s1]
    have hkd : (pd_tNx B lim N (pd_tPos B lim N c)).1.1 ≤ 5 := hok.1
    rw [pd_bk _ hkd]
    generalize hS : (f_X9_scanToken lim H).2 = S at *
    generalize hkk : (pd_tNx B lim N (pd_tPos B lim N c)).1.1 = kd at *
    have e9 : (upI S 7 c (kd : Int)).1 7 c = (kd : Int) := by simp [upI]
    rw [e9, pd_iad1 (by omega)]
    have hrows' : pd_cRows B lim N (upI (upI S 7 c (kd : Int)) 4 7 ((c + 1 : Nat) : Int)) (c + 1) := by
      intro j hj
      by_cases hjc : j = c
      · subst hjc
        refine ⟨?_, ?_, ?_, ?_⟩
        · show (upI (upI S 7 j (kd : Int)) 4 7 ((j + 1 : Nat) : Int)).1 7 j = _
          simp only [upI]
          simp
          exact_mod_cast hkk.symm
        · have := s3.1; simp only [upI, pd_tTok]; simpa using this
        · have := s3.2.1; simp only [upI, pd_tTok]; simpa using this
        · have := s3.2.2; simp only [upI, pd_tTok]; simpa using this
      · obtain ⟨r1, r2, r3, r4⟩ := hrows j (by omega)
        have w1 : ∀ a, a ≠ 4 → (a = 7 ∨ a = 8 ∨ a = 9) → (upI (upI S 7 c (kd : Int)) 4 7 ((c + 1 : Nat) : Int)).1 a j = H.1 a j := by
          intro a h4 h
          simp only [upI]
          rw [if_neg (by omega), if_neg (by omega)]
          exact s4 a j (by omega) (by omega) (by omega)
        have w2 : (upI (upI S 7 c (kd : Int)) 4 7 ((c + 1 : Nat) : Int)).2.1 10 j = H.2.1 10 j := s5 10 j (by omega)
        refine ⟨?_, ?_, fun h => ?_, fun h => ?_⟩
        · rw [w1 7 (by omega) (by omega)]; exact r1
        · rw [w1 8 (by omega) (by omega)]; exact r2
        · rw [w1 9 (by omega) (by omega)]; exact r3 h
        · rw [w2]; exact r4 h
    have hfr : pd_bFr H (upI (upI S 7 c (kd : Int)) 4 7 ((c + 1 : Nat) : Int)) := by
      refine ⟨fun a b n1 n2 n3 n4 => ?_, fun a b n => s5 a b (by omega), s6⟩
      simp only [upI]
      rw [if_neg (by omega), if_neg (by omega)]
      exact s4 a b (by omega) (by omega) (by omega)
    have stop : kd ≤ 1 → ∃ T, c < T ∧ T ≤ 941 ∧ (f_X9_all lim k 0 (upI (upI S 7 c (kd : Int)) 4 7 ((c + 1 : Nat) : Int))).2.1 4 7 = (T : Int) ∧ pd_cRows B lim N (f_X9_all lim k 0 (upI (upI S 7 c (kd : Int)) 4 7 ((c + 1 : Nat) : Int))).2 T ∧ (pd_tTok B lim N (T - 1)).1 ≤ 1 ∧ pd_bFr H (f_X9_all lim k 0 (upI (upI S 7 c (kd : Int)) 4 7 ((c + 1 : Nat) : Int))).2 := by
      intro h1
      have e0 : ∀ G, f_X9_all lim k 0 G = (0, G) := by
        intro G
        cases k with
        | zero => rfl
        | succ k => unfold f_X9_all; rw [if_pos rfl]
      rw [e0]
      refine ⟨c + 1, by omega, by omega, ?_, hrows', ?_, hfr⟩
      · show (upI (upI S 7 c (kd : Int)) 4 7 ((c + 1 : Nat) : Int)).1 4 7 = _
        simp [upI]
      · show (pd_tNx B lim N (pd_tPos B lim N (c + 1 - 1))).1.1 ≤ 1
        rw [Nat.add_sub_cancel, hkk]; exact h1
    by_cases k1 : (kd : Int) = 1
    · rw [if_pos k1]; exact stop (by omega)
    · rw [if_neg k1]
      by_cases k0 : (kd : Int) = 0
      · rw [if_pos k0]; exact stop (by omega)
      · rw [if_neg k0]
        have hlt : pd_tPos B lim N c < pd_tPos B lim N (c + 1) := (pd_tNx_ok hpl).2.2.2 (by rw [hkk]; omega)
        have ih := pd_xAll (B := B) (lim := lim) hN k (c + 1) (upI (upI S 7 c (kd : Int)) 4 7 ((c + 1 : Nat) : Int)) (by omega) (by omega) (fun i => by rw [hfr.1 5 i (by omega) (by omega) (by omega) (by omega)]; exact hB i) (by rw [hfr.1 4 2 (by omega) (by omega) (by omega) (by omega)]; exact h2) (by simp only [upI]; simp; exact s2) (by simp [upI]) (fun i hi => by rw [hfr.2.1 6 i (by omega)]; exact hw i hi) hrows'
        obtain ⟨T, t1, t2, t3, t4, t5, t6⟩ := ih
        refine ⟨T, by omega, t2, t3, t4, t5, fun a b n1 n2 n3 n4 => ?_, fun a b n => ?_, ?_⟩
        · rw [t6.1 a b n1 n2 n3 n4]; exact hfr.1 a b n1 n2 n3 n4
        · rw [t6.2.1 a b n]; exact hfr.2.1 a b n
        · rw [t6.2.2]; exact hfr.2.2
/-- the class looks at the token c -/
def pd_LC (B : Nat → Int) (lim N T c : Nat) (H : hH) : Prop := c < T ∧ T ≤ 941 ∧ H.1 4 7 = (T : Int) ∧ H.1 4 9 = (c : Int) ∧ pd_cRows B lim N H T ∧ (pd_tTok B lim N (T - 1)).1 ≤ 1 ∧ pd_tC H (pd_tTok B lim N c) ∧ H.1 4 13 = 0
def pd_LR (B : Nat → Int) (lim N c : Nat) (K : hH) : Prop := K.1 29 4 = ((pd_tPos B lim N (c + 1) : Nat) : Int) ∧ K.1 29 3 = (N : Int) ∧ K.1 29 5 = (lim : Int) ∧ (∀ i, K.1 30 i = B i) ∧ pd_tR K (pd_tTok B lim N c) ∧ pd_hW8 K
theorem pd_adv_tC {B : Nat → Int} {lim N T c : Nat} {H : hH} (h7 : H.1 4 7 = (T : Int)) (h9 : iAdd (H.1 4 9) 1 = (c : Int)) (hc : c < T) (hr : pd_cRows B lim N H T) : (f_X9_advance H).1 4 9 = (c : Int) ∧ pd_tC (f_X9_advance H) (pd_tTok B lim N c) ∧ (∀ a b, ¬ (a = 4 ∧ (b = 9 ∨ b = 10 ∨ b = 11)) → (f_X9_advance H).1 a b = H.1 a b) ∧ (∀ a b, ¬ (a = 4 ∧ b = 12) → (f_X9_advance H).2.1 a b = H.2.1 a b) ∧ (f_X9_advance H).2.2 = H.2.2 := by
  unfold f_X9_advance
  rw [h9, h7, if_pos (by omega), Int.toNat_natCast]
  obtain ⟨r1, r2, r3, r4⟩ := hr c hc
  refine ⟨by simp [upI, upL], ⟨?_, fun h => ?_, fun h => ?_, ?_⟩, fun a b n => ?_, fun a b n => ?_, rfl⟩
  · simp [upI, upL, r1]
  · simp [upI, upL, r3 h]
  · simp [upI, upL, r4 h]
  · simp [upI, upL, r2]
  · simp only [upI, upL]
    rw [if_neg (by omega), if_neg (by omega), if_neg (by omega)]
  · simp only [upI, upL]
    rw [if_neg n]
/-- the class passes the token c -/
theorem pd_LC_adv {B : Nat → Int} {lim N T c : Nat} {H : hH} (h : pd_LC B lim N T c H) (hk : 2 ≤ (pd_tTok B lim N c).1) : pd_LC B lim N T (c + 1) (f_X9_advance H) ∧ (∀ a b, ¬ (a = 4 ∧ (b = 9 ∨ b = 10 ∨ b = 11)) → (f_X9_advance H).1 a b = H.1 a b) ∧ (∀ a b, ¬ (a = 4 ∧ b = 12) → (f_X9_advance H).2.1 a b = H.2.1 a b) ∧ (f_X9_advance H).2.2 = H.2.2 := by
  obtain ⟨h1, h2, h3, h4, h5, h6, h7, h8⟩ := h
  have hc : c + 1 < T := by
    by_cases e : c + 1 = T
    · have : T - 1 = c := by omega
      rw [this] at h6; omega
    · omega
  obtain ⟨a1, a2, a3, a4, a5⟩ := pd_adv_tC (B := B) (lim := lim) (N := N) h3 (c := c + 1) (by rw [h4, pd_iad1 (by omega)]) hc h5
  refine ⟨⟨hc, h2, ?_, a1, fun j hj => ?_, h6, a2, ?_⟩, a3, a4, a5⟩
  · rw [a3 4 7 (by omega)]; exact h3
  · obtain ⟨r1, r2, r3, r4⟩ := h5 j hj
    refine ⟨?_, ?_, fun h => ?_, fun h => ?_⟩
    · rw [a3 7 j (by omega)]; exact r1
    · rw [a3 8 j (by omega)]; exact r2
    · rw [a3 9 j (by omega)]; exact r3 h
    · rw [a4 10 j (by omega)]; exact r4 h
  · rw [a3 4 13 (by omega)]; exact h8
/-- writes elsewhere keep it -/
theorem pd_LC_keep {B : Nat → Int} {lim N T c : Nat} {H H' : hH} (h : pd_LC B lim N T c H) (k1 : ∀ a b, 4 ≤ a → a ≤ 10 → H'.1 a b = H.1 a b) (k2 : ∀ a b, 4 ≤ a → a ≤ 10 → H'.2.1 a b = H.2.1 a b) : pd_LC B lim N T c H' := by
  obtain ⟨h1, h2, h3, h4, h5, h6, ⟨t1, t2, t3, t4⟩, h8⟩ := h
  refine ⟨h1, h2, ?_, ?_, fun j hj => ?_, h6, ⟨?_, fun q => ?_, fun q => ?_, ?_⟩, ?_⟩
  · rw [k1 _ _ (by omega) (by omega)]; exact h3
  · rw [k1 _ _ (by omega) (by omega)]; exact h4
  · obtain ⟨r1, r2, r3, r4⟩ := h5 j hj
    refine ⟨?_, ?_, fun h => ?_, fun h => ?_⟩
    · rw [k1 _ _ (by omega) (by omega)]; exact r1
    · rw [k1 _ _ (by omega) (by omega)]; exact r2
    · rw [k1 _ _ (by omega) (by omega)]; exact r3 h
    · rw [k2 _ _ (by omega) (by omega)]; exact r4 h
  · rw [k1 _ _ (by omega) (by omega)]; exact t1
  · rw [k1 _ _ (by omega) (by omega)]; exact t2 q
  · rw [k2 _ _ (by omega) (by omega)]; exact t3 q
  · rw [k1 4 9 (by omega) (by omega), k1 _ _ (by omega) (by omega)]; exact t4
  · rw [k1 _ _ (by omega) (by omega)]; exact h8
theorem pd_LR_keep {B : Nat → Int} {lim N c : Nat} {K K' : hH} (h : pd_LR B lim N c K) (k1 : ∀ b, K'.1 29 b = K.1 29 b ∨ 15 ≤ b ∧ b ≠ 17) (k3 : ∀ b, K'.1 30 b = K.1 30 b) (k2 : ∀ b, K'.2.1 29 b = K.2.1 29 b) (k4 : ∀ b, K'.2.1 35 b = K.2.1 35 b) : pd_LR B lim N c K' := by
  obtain ⟨h1, h2, h3, h4, ⟨t1, t2, t3, t4⟩, h6⟩ := h
  have k : ∀ b, b < 15 → K'.1 29 b = K.1 29 b := fun b hb => by rcases k1 b with e | e; exact e; omega
  refine ⟨?_, ?_, ?_, fun i => ?_, ⟨?_, fun q => ?_, fun q => ?_, ?_⟩, fun i hi => ?_⟩
  · rw [k _ (by omega)]; exact h1
  · rw [k _ (by omega)]; exact h2
  · rw [k _ (by omega)]; exact h3
  · rw [k3]; exact h4 i
  · rw [k _ (by omega)]; exact t1
  · rw [k _ (by omega)]; exact t2 q
  · rw [k2]; exact t3 q
  · rw [k _ (by omega)]; exact t4
  · rw [k4]; exact h6 i hi
/-- the class begins to read -/
theorem pd_xBegin {B : Nat → Int} {N lim : Nat} (hN : N ≤ 940) {H : hH} (hB : ∀ i, H.1 5 i = B i) (h2 : H.1 4 2 = (N : Int)) (hw : pd_hW5 H) : ∃ T, pd_LC B lim N T 0 (f_X9_begin lim H) ∧ (∀ a b, (a < 4 ∨ 10 < a) → (f_X9_begin lim H).1 a b = H.1 a b) ∧ (∀ a b, (a < 4 ∨ 10 < a) → (f_X9_begin lim H).2.1 a b = H.2.1 a b) ∧ (f_X9_begin lim H).2.2 = H.2.2 := by
  obtain ⟨T, t1, t2, t3, t4, t5, t6⟩ := pd_xAll (B := B) (lim := lim) hN 941 0 (upI (upI H 4 8 0) 4 7 0) (by omega) (by omega) (fun i => by simp [upI, hB]) (by simp [upI, h2]) (by simp [upI, pd_tPos]) (by simp [upI]) (fun i hi => hw i hi) (fun j hj => by omega)
  unfold f_X9_begin f_X9_bgEnd
  generalize hG : (f_X9_all (lim : Int) 941 1 (upI (upI H 4 8 0) 4 7 0)).2 = G at *
  have hr : pd_cRows B lim N (upI (upI (upI G 4 13 0) 4 14 0) 4 9 (-1)) T := by
    intro j hj
    obtain ⟨r1, r2, r3, r4⟩ := t4 j hj
    refine ⟨?_, ?_, fun h => ?_, fun h => ?_⟩
    · simp [upI, r1]
    · simp [upI, r2]
    · simp [upI, r3 h]
    · simp [upI, r4 h]
  obtain ⟨a1, a2, a3, a4, a5⟩ := pd_adv_tC (B := B) (lim := lim) (N := N) (T := T) (c := 0) (H := upI (upI (upI G 4 13 0) 4 14 0) 4 9 (-1)) (by simp [upI, t3]) (by simp [upI]; decide) (by omega) hr
  refine ⟨T, ⟨by omega, t2, ?_, a1, fun j hj => ?_, t5, a2, ?_⟩, fun a b n => ?_, fun a b n => ?_, ?_⟩
  · rw [a3 4 7 (by omega)]; simp [upI, t3]
  · obtain ⟨r1, r2, r3, r4⟩ := hr j hj
    refine ⟨?_, ?_, fun h => ?_, fun h => ?_⟩
    · rw [a3 7 j (by omega)]; exact r1
    · rw [a3 8 j (by omega)]; exact r2
    · rw [a3 9 j (by omega)]; exact r3 h
    · rw [a4 10 j (by omega)]; exact r4 h
  · rw [a3 4 13 (by omega)]; simp [upI]
  · rw [a3 a b (by omega)]
    simp only [upI]
    rw [if_neg (by omega), if_neg (by omega), if_neg (by omega), t6.1 a b (by omega) (by omega) (by omega) (by omega)]
    simp only [upI]
    rw [if_neg (by omega), if_neg (by omega)]
  · rw [a4 a b (by omega)]
    exact t6.2.1 a b (by omega)
  · rw [a5]; exact t6.2.2
