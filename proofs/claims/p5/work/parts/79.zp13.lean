/-! Both sides read a text alike (by hand), 13. -/
set_option maxRecDepth 100000
set_option linter.unusedSimpArgs false
/-- behind a line: the semicolon -/
def pd_cEnd (X : Int × hH) : Int × hH := if X.1 = 0 then (0, X.2) else if (f_X9_passSign 59 X.2).1 = 0 then (0, (f_X9_passSign 59 X.2).2) else (1, (f_X9_passSign 59 X.2).2)
theorem pd_cLine_eq (H : hH) : f_X1_readLine H = if H.1 4 10 = 4 then (if 6 < H.1 4 11 then ((f_X9_fail 1 H).1, (f_X9_fail 1 H).2) else if 3 < H.1 4 11 then (if 3 < H.1 4 11 then pd_cEnd (f_X1_readTie (H.1 4 11) (f_X9_advance H)) else pd_cEnd (f_X1_readNew (H.1 4 11) (f_X9_advance H))) else if f_X10_isFull (H.1 4 11) H = 0 then (if 3 < H.1 4 11 then pd_cEnd (f_X1_readTie (H.1 4 11) (f_X9_advance H)) else pd_cEnd (f_X1_readNew (H.1 4 11) (f_X9_advance H))) else ((f_X9_fail 4 H).1, (f_X9_fail 4 H).2)) else ((f_X9_fail 1 H).1, (f_X9_fail 1 H).2) := rfl
theorem pd_mName_eq (s m b : Int) (K : hH) : f_X12_readName s m b K = if K.1 32 s.toNat = m then ((f_X12_bad 4 K).1, (f_X12_bad 4 K).2) else if (f_X12_fresh (iAdd b ((f_X12_next K).1 32 s.toNat)) (f_X12_next K)).1 = 0 then (0, (f_X12_fresh (iAdd b ((f_X12_next K).1 32 s.toNat)) (f_X12_next K)).2) else (1, upI (f_X12_fresh (iAdd b ((f_X12_next K).1 32 s.toNat)) (f_X12_next K)).2 32 s.toNat (iAdd ((f_X12_fresh (iAdd b ((f_X12_next K).1 32 s.toNat)) (f_X12_next K)).2.1 32 s.toNat) 1)) := rfl
/-- what a line and its semicolon come to, on both sides -/
def pd_LINE (B : Nat → Int) (lim N T c : Nat) (H K : hH) (x y : Int × hH) : Prop :=
  (x.1 = 0 ∧ (y.1 = 0 ∧ pd_FL x.2 y.2 ∨ y.1 = 1 ∧ (f_X12_sign 59 y.2).1 = 0 ∧ pd_FL x.2 (f_X12_sign 59 y.2).2)) ∨ (x.1 = 1 ∧ y.1 = 1 ∧ (f_X12_sign 59 y.2).1 = 1 ∧ ∃ c', c + 2 ≤ c' ∧ pd_LC B lim N T c' x.2 ∧ pd_LR B lim N c' (f_X12_sign 59 y.2).2 ∧ pd_TS 4 x.2 (f_X12_sign 59 y.2).2 ∧ x.2.2.2 = H.2.2 ∧ (f_X12_sign 59 y.2).2.1 29 19 = K.1 29 19)
theorem pd_LINE_of {B : Nat → Int} {lim N T c : Nat} (hN : N ≤ 940) (hb : pd_hB8 B) {H K H0 K0 : hH} {x y : Int × hH} (h : pd_OUT B lim N T (c + 1) H K x y) (h1 : H.2.2 = H0.2.2) (h2 : K.1 29 19 = K0.1 29 19) : pd_LINE B lim N T c H0 K0 (pd_cEnd x) y := by
  rcases h with ⟨a1, a2, a3⟩ | ⟨a1, a2, c', d1, d2, d3, d4, d5, d6⟩
  · left
    unfold pd_cEnd
    rw [if_pos a1]
    exact ⟨rfl, Or.inl ⟨a2, a3⟩⟩
  · unfold pd_cEnd
    rw [if_neg (show ¬ x.1 = 0 by omega)]
    rcases pd_pSign d2 d3 59 with ⟨s1, s2, s3⟩ | ⟨s1, s2, s3⟩
    · left
      rw [if_pos s1]
      exact ⟨rfl, Or.inr ⟨a2, s2, s3⟩⟩
    · right
      rw [s1, s2, if_neg (show ¬ (1 : Int) = 0 by omega)]
      obtain ⟨l1, w1, w2, w3⟩ := pd_LC_adv d2 s3
      obtain ⟨m1, m2⟩ := pd_LR_next hN hb d3
      refine ⟨rfl, a2, rfl, c' + 1, by omega, l1, m1, pd_TS_keep d4 (fun a b hab => ?_) (fun b => ?_) (fun b hb => ?_) (fun b => ?_), ?_, ?_⟩
      · exact w1 a b (by omega)
      · exact w2 62 b (by omega)
      · exact m2.1 32 b (by omega)
      · exact m2.2.1 34 b (by omega)
      · show (f_X9_advance x.2).2.2 = _; rw [w3, d5, h1]
      · show (f_X12_next y.2).1 29 19 = _; rw [m2.1 29 19 (by omega), d6, h2]
/-- a line -/
theorem pd_pLine {B : Nat → Int} {lim N T c : Nat} (hN : N ≤ 940) (hb : pd_hB8 B) {H K : hH} (h : pd_LC B lim N T c H) (h' : pd_LR B lim N c K) (ht : pd_TS 4 H K) : pd_LINE B lim N T c H K (f_X1_readLine H) (f_X12_line K) := by
  have hc := h.2.2.2.2.2.2.1
  have hok := pd_tTok_ok (B := B) (lim := lim) (N := N) c
  rw [pd_cLine_eq]
  unfold f_X12_line
  obtain ⟨-, w0⟩ := pd_pWord h h' (i := 0) (by omega) (w := 126943972648308) (by decide)
  obtain ⟨-, w1⟩ := pd_pWord h h' (i := 1) (by omega) (w := 1953653101) (by decide)
  obtain ⟨-, w2⟩ := pd_pWord h h' (i := 2) (by omega) (w := 123581014175598) (by decide)
  obtain ⟨-, w3⟩ := pd_pWord h h' (i := 3) (by omega) (w := 1835102827) (by decide)
  obtain ⟨-, w4⟩ := pd_pWord h h' (i := 4) (by omega) (w := 491394458995) (by decide)
  obtain ⟨-, w5⟩ := pd_pWord h h' (i := 5) (by omega) (w := 6840691) (by decide)
  obtain ⟨-, w6⟩ := pd_pWord h h' (i := 6) (by omega) (w := 448311616883) (by decide)
  rw [w0, w1, w2, w3, w4, w5, w6]
  clear w0 w1 w2 w3 w4 w5 w6
  have hfail : ∀ f, f ≠ 0 → pd_LINE B lim N T c H K ((f_X9_fail f H).1, (f_X9_fail f H).2) ((f_X12_bad f K).1, (f_X12_bad f K).2) := fun f hf => Or.inl ⟨rfl, Or.inl ⟨rfl, pd_FL_fail h h' hf⟩⟩
  by_cases h4 : (pd_tTok B lim N c).1 = 4
  · rw [hc.1, if_pos (show (((pd_tTok B lim N c).1 : Nat) : Int) = 4 by omega), hc.2.1 (by omega)]
    have hv0 := (hok.2.1 h4).2.2
    obtain ⟨v, hv⟩ : ∃ v : Nat, (pd_tTok B lim N c).2.1 = (v : Int) := ⟨(pd_tTok B lim N c).2.1.toNat, by omega⟩
    rw [hv]
    obtain ⟨l1, k1, k2, k3⟩ := pd_LC_adv h (by omega)
    obtain ⟨m1, m2⟩ := pd_LR_next hN hb h'
    have ht2 : pd_TS 4 (f_X9_advance H) (f_X12_next K) := by
      refine pd_TS_keep ht (fun a b hab => ?_) (fun b => ?_) (fun b hb => ?_) (fun b => ?_)
      · exact k1 a b (by omega)
      · exact k2 62 b (by omega)
      · exact m2.1 32 b (by omega)
      · exact m2.2.1 34 b (by omega)
    have mk : ∀ b, (f_X12_next K).1 32 b = K.1 32 b := fun b => m2.1 32 b (by omega)
    have m19 : (f_X12_next K).1 29 19 = K.1 29 19 := m2.1 29 19 (by omega)
    have hful : ∀ s : Nat, s < 4 → f_X10_isFull (s : Int) H = if H.1 61 s < ((pd_tMost s : Nat) : Int) then 0 else 1 := by
      intro s hs
      unfold f_X10_isFull
      have e : stx 0 (s : Int) = ((pd_tMost s : Nat) : Int) := by
        have : ∀ i : Fin 4, stx 0 ((i.1 : Nat) : Int) = ((pd_tMost i.1 : Nat) : Int) := by decide
        exact this ⟨s, hs⟩
      rw [e, Int.toNat_natCast]
    have mk4 : ∀ j : Nat, ((pd_tTok B lim N c).1 = 4 ∧ (v : Int) = ((j : Nat) : Int)) ↔ v = j := fun j => ⟨fun q => by have := q.2; omega, fun q => ⟨h4, by omega⟩⟩
    simp only [mk4]
    match v with
    | 0 =>
      rw [if_neg (show ¬ (6 : Int) < ((0 : Nat) : Int) by omega), if_neg (show ¬ (3 : Int) < ((0 : Nat) : Int) by omega), hful 0 (by omega), if_pos (rfl : (0 : Nat) = 0), if_neg (show ¬ (1 : Int) = 0 by omega), pd_mName_eq]
      obtain ⟨n, g1, g2, g3⟩ := ht.1 0 (by omega)
      rw [if_neg (show ¬ (0 : Nat) = 4 by omega)] at g1 g2
      rw [g2]
      show pd_LINE _ _ _ _ _ _ _ _ ((if K.1 32 0 = 4 then _ else _))
      rw [g3]
      by_cases hf : n < 4
      · have hf' : (n : Int) < ((pd_tMost 0 : Nat) : Int) := by show (n : Int) < 4; omega
        rw [if_pos hf', if_pos rfl, if_neg (show ¬ (n : Int) = 4 by omega)]
        have mk0 : (f_X12_next K).1 32 (0 : Int).toNat = (n : Int) := by rw [mk]; exact g3
        rw [mk0]
        exact pd_LINE_of hN hb (pd_pNewST hN hb l1 m1 ht2 (s := 0) (by omega) mk0 hf) k3 m19
      · have hn : n = 4 := by have : n ≤ 4 := g1; omega
        rw [if_neg (show ¬ (n : Int) < ((pd_tMost 0 : Nat) : Int) by show ¬ (n : Int) < 4; omega), if_neg (show ¬ (1 : Int) = 0 by omega), if_pos (show (n : Int) = 4 by omega)]
        exact hfail 4 (by omega)
    | 1 =>
      rw [if_neg (show ¬ (6 : Int) < ((1 : Nat) : Int) by omega), if_neg (show ¬ (3 : Int) < ((1 : Nat) : Int) by omega), hful 1 (by omega), if_neg (show ¬ (1 : Nat) = 0 by omega), if_pos (rfl : (0 : Int) = 0), if_pos (rfl : (1 : Nat) = 1), if_neg (show ¬ (1 : Int) = 0 by omega), pd_mName_eq]
      obtain ⟨n, g1, g2, g3⟩ := ht.1 1 (by omega)
      rw [if_neg (show ¬ (1 : Nat) = 4 by omega)] at g1 g2
      rw [g2]
      show pd_LINE _ _ _ _ _ _ _ _ ((if K.1 32 1 = 3 then _ else _))
      rw [g3]
      by_cases hf : n < 3
      · have hf' : (n : Int) < ((pd_tMost 1 : Nat) : Int) := by show (n : Int) < 3; omega
        rw [if_pos hf', if_pos rfl, if_neg (show ¬ (n : Int) = 3 by omega)]
        have mk0 : (f_X12_next K).1 32 (1 : Int).toNat = (n : Int) := by rw [mk]; exact g3
        rw [mk0]
        exact pd_LINE_of hN hb (pd_pNewST hN hb l1 m1 ht2 (s := 1) (by omega) mk0 hf) k3 m19
      · have hn : n = 3 := by have : n ≤ 3 := g1; omega
        rw [if_neg (show ¬ (n : Int) < ((pd_tMost 1 : Nat) : Int) by show ¬ (n : Int) < 3; omega), if_neg (show ¬ (1 : Int) = 0 by omega), if_pos (show (n : Int) = 3 by omega)]
        exact hfail 4 (by omega)
    | 2 =>
      rw [if_neg (show ¬ (6 : Int) < ((2 : Nat) : Int) by omega), if_neg (show ¬ (3 : Int) < ((2 : Nat) : Int) by omega), hful 2 (by omega), if_neg (show ¬ (2 : Nat) = 0 by omega), if_pos (rfl : (0 : Int) = 0), if_neg (show ¬ (2 : Nat) = 1 by omega), if_pos (rfl : (0 : Int) = 0), if_pos (rfl : (2 : Nat) = 2), if_neg (show ¬ (1 : Int) = 0 by omega), pd_mPers_eq]
      obtain ⟨n, g1, g2, g3⟩ := ht.1 2 (by omega)
      rw [if_neg (show ¬ (2 : Nat) = 4 by omega)] at g1 g2
      rw [g2, g3]
      by_cases hf : n < 10
      · have hf' : (n : Int) < ((pd_tMost 2 : Nat) : Int) := by show (n : Int) < 10; omega
        rw [if_pos hf', if_pos rfl, if_neg (show ¬ (n : Int) = 10 by omega)]
        have mk0 : (f_X12_next K).1 32 2 = (n : Int) := by rw [mk]; exact g3
        exact pd_LINE_of hN hb (pd_pPerson hN hb l1 m1 ht2 mk0 hf) k3 m19
      · have hn : n = 10 := by have : n ≤ 10 := g1; omega
        rw [if_neg (show ¬ (n : Int) < ((pd_tMost 2 : Nat) : Int) by show ¬ (n : Int) < 10; omega), if_neg (show ¬ (1 : Int) = 0 by omega), if_pos (show (n : Int) = 10 by omega)]
        exact hfail 4 (by omega)
    | 3 =>
      rw [if_neg (show ¬ (6 : Int) < ((3 : Nat) : Int) by omega), if_neg (show ¬ (3 : Int) < ((3 : Nat) : Int) by omega), hful 3 (by omega), if_neg (show ¬ (3 : Nat) = 0 by omega), if_pos (rfl : (0 : Int) = 0), if_neg (show ¬ (3 : Nat) = 1 by omega), if_pos (rfl : (0 : Int) = 0), if_neg (show ¬ (3 : Nat) = 2 by omega), if_pos (rfl : (0 : Int) = 0), if_pos (rfl : (3 : Nat) = 3), if_neg (show ¬ (1 : Int) = 0 by omega)]
      obtain ⟨n, g1, g2, g3⟩ := ht.1 3 (by omega)
      rw [if_neg (show ¬ (3 : Nat) = 4 by omega)] at g1 g2
      rw [g2, g3]
      by_cases hf : n < 3
      · have hf' : (n : Int) < ((pd_tMost 3 : Nat) : Int) := by show (n : Int) < 3; omega
        rw [if_pos hf', if_pos rfl, if_neg (show ¬ (n : Int) = 3 by omega)]
        have mk0 : (f_X12_next K).1 32 3 = (n : Int) := by rw [mk]; exact g3
        exact pd_LINE_of hN hb (pd_pMark hN hb l1 m1 ht2 mk0 hf) k3 m19
      · have hn : n = 3 := by have : n ≤ 3 := g1; omega
        rw [if_neg (show ¬ (n : Int) < ((pd_tMost 3 : Nat) : Int) by show ¬ (n : Int) < 3; omega), if_neg (show ¬ (1 : Int) = 0 by omega), if_pos (show (n : Int) = 3 by omega)]
        exact hfail 4 (by omega)
    | 4 =>
      rw [if_neg (show ¬ (6 : Int) < ((4 : Nat) : Int) by omega), if_pos (show (3 : Int) < ((4 : Nat) : Int) by omega), if_pos (show (3 : Int) < ((4 : Nat) : Int) by omega), if_neg (show ¬ (4 : Nat) = 0 by omega), if_pos (rfl : (0 : Int) = 0), if_neg (show ¬ (4 : Nat) = 1 by omega), if_pos (rfl : (0 : Int) = 0), if_neg (show ¬ (4 : Nat) = 2 by omega), if_pos (rfl : (0 : Int) = 0), if_neg (show ¬ (4 : Nat) = 3 by omega), if_pos (rfl : (0 : Int) = 0), if_pos (rfl : (4 : Nat) = 4), if_neg (show ¬ (1 : Int) = 0 by omega), pd_mPair_eq]
      apply pd_LINE_of hN hb (H := f_X9_advance H) (K := f_X12_next K) _ k3 m19
      rw [pd_cTie_eq]
      rcases pd_pTie1 hN hb l1 m1 ht2 with ⟨b1, b2, b3⟩ | ⟨p, K1, b1, b2, b3, b4, b5, b6, b7, b8, b9, b10⟩
      · left
        rw [if_pos b1]
        unfold pd_mPair2
        rw [if_pos b2]
        exact ⟨rfl, rfl, b3⟩
      · rw [b2, b3]
        dsimp only
        rw [if_neg (show ¬ (p : Int) = -1 by omega), if_pos (show ((4 : Nat) : Int) = 4 by omega)]
        rw [show K.1 32 1 = K1.1 32 1 by rw [b10, mk]]
        exact pd_OUT_le (pd_pPair2 hN hb b5 b6 b7 b1 b4 (w := 4) (s := 1) (to := 35) (cell := 65) (Or.inl ⟨rfl, rfl, rfl, rfl⟩)) (by omega) b8 b9
    | 5 =>
      rw [if_neg (show ¬ (6 : Int) < ((5 : Nat) : Int) by omega), if_pos (show (3 : Int) < ((5 : Nat) : Int) by omega), if_pos (show (3 : Int) < ((5 : Nat) : Int) by omega), if_neg (show ¬ (5 : Nat) = 0 by omega), if_pos (rfl : (0 : Int) = 0), if_neg (show ¬ (5 : Nat) = 1 by omega), if_pos (rfl : (0 : Int) = 0), if_neg (show ¬ (5 : Nat) = 2 by omega), if_pos (rfl : (0 : Int) = 0), if_neg (show ¬ (5 : Nat) = 3 by omega), if_pos (rfl : (0 : Int) = 0), if_neg (show ¬ (5 : Nat) = 4 by omega), if_pos (rfl : (0 : Int) = 0), if_pos (rfl : (5 : Nat) = 5), if_neg (show ¬ (1 : Int) = 0 by omega), pd_mPair_eq]
      apply pd_LINE_of hN hb (H := f_X9_advance H) (K := f_X12_next K) _ k3 m19
      rw [pd_cTie_eq]
      rcases pd_pTie1 hN hb l1 m1 ht2 with ⟨b1, b2, b3⟩ | ⟨p, K1, b1, b2, b3, b4, b5, b6, b7, b8, b9, b10⟩
      · left
        rw [if_pos b1]
        unfold pd_mPair2
        rw [if_pos b2]
        exact ⟨rfl, rfl, b3⟩
      · rw [b2, b3]
        dsimp only
        rw [if_neg (show ¬ (p : Int) = -1 by omega), if_neg (show ¬ ((5 : Nat) : Int) = 4 by omega)]
        rw [show K.1 32 3 = K1.1 32 3 by rw [b10, mk]]
        exact pd_OUT_le (pd_pPair2 hN hb b5 b6 b7 b1 b4 (w := 5) (s := 3) (to := 45) (cell := 54) (Or.inr ⟨rfl, rfl, rfl, rfl⟩)) (by omega) b8 b9
    | 6 =>
      rw [if_neg (show ¬ (6 : Int) < ((6 : Nat) : Int) by omega), if_pos (show (3 : Int) < ((6 : Nat) : Int) by omega), if_pos (show (3 : Int) < ((6 : Nat) : Int) by omega), if_neg (show ¬ (6 : Nat) = 0 by omega), if_pos (rfl : (0 : Int) = 0), if_neg (show ¬ (6 : Nat) = 1 by omega), if_pos (rfl : (0 : Int) = 0), if_neg (show ¬ (6 : Nat) = 2 by omega), if_pos (rfl : (0 : Int) = 0), if_neg (show ¬ (6 : Nat) = 3 by omega), if_pos (rfl : (0 : Int) = 0), if_neg (show ¬ (6 : Nat) = 4 by omega), if_pos (rfl : (0 : Int) = 0), if_neg (show ¬ (6 : Nat) = 5 by omega), if_pos (rfl : (0 : Int) = 0), if_pos (rfl : (6 : Nat) = 6), if_neg (show ¬ (1 : Int) = 0 by omega), pd_mHate_eq]
      apply pd_LINE_of hN hb (H := f_X9_advance H) (K := f_X12_next K) _ k3 m19
      rw [pd_cTie_eq]
      rcases pd_pTie1 hN hb l1 m1 ht2 with ⟨b1, b2, b3⟩ | ⟨p, K1, b1, b2, b3, b4, b5, b6, b7, b8, b9, b10⟩
      · left
        rw [if_pos b1]
        unfold pd_mHate2
        rw [if_pos b2]
        exact ⟨rfl, rfl, b3⟩
      · rw [b2, b3]
        dsimp only
        rw [if_neg (show ¬ (p : Int) = -1 by omega), if_neg (show ¬ ((6 : Nat) : Int) = 4 by omega)]
        exact pd_OUT_le (pd_pHate2 hN hb b5 b6 b7 b1 b4) (by omega) b8 b9
    | v + 7 =>
      rw [if_pos (show (6 : Int) < ((v + 7 : Nat) : Int) by omega)]
      simp only [show ¬ v + 7 = 0 by omega, show ¬ v + 7 = 1 by omega, show ¬ v + 7 = 2 by omega, show ¬ v + 7 = 3 by omega, show ¬ v + 7 = 4 by omega, show ¬ v + 7 = 5 by omega, show ¬ v + 7 = 6 by omega, if_false, if_true]
      exact hfail 1 (by omega)
  · rw [hc.1, if_neg (show ¬ (((pd_tTok B lim N c).1 : Nat) : Int) = 4 by omega)]
    simp only [h4, false_and, if_false, if_true]
    exact hfail 1 (by omega)
