/-! Both sides read a text alike (by hand), 10. -/
set_option maxRecDepth 100000
set_option linter.unusedSimpArgs false
theorem pd_upI_at (H : hH) (p j : Nat) (v : Int) : (upI H p j v).1 p j = v := by simp [upI]
theorem pd_upI_ne {H : hH} {p j a b : Nat} {v : Int} (h : ¬ (a = p ∧ b = j)) : (upI H p j v).1 a b = H.1 a b := by simp only [upI]; rw [if_neg h]
theorem pd_upI_L {H : hH} {p j : Nat} {v : Int} : (upI H p j v).2 = H.2 := rfl
def pd_OUT (B : Nat → Int) (lim N T c : Nat) (H K : hH) (x y : Int × hH) : Prop :=
  (x.1 = 0 ∧ y.1 = 0 ∧ pd_FL x.2 y.2) ∨ (x.1 = 1 ∧ y.1 = 1 ∧ ∃ c', c + 1 ≤ c' ∧ pd_LC B lim N T c' x.2 ∧ pd_LR B lim N c' y.2 ∧ pd_TS 4 x.2 y.2 ∧ x.2.2.2 = H.2.2 ∧ y.2.1 29 19 = K.1 29 19)
theorem pd_TS_inc {s n : Nat} {H K : hH} (h : pd_TS s H K) (hs : s < 4) (hn : K.1 32 s = (n : Int)) : pd_TS 4 H (upI K 32 s ((n + 1 : Nat) : Int)) := by
  obtain ⟨h1, h2, ⟨X, Y, x1, x2, x3⟩, ⟨Z, W, z1, z2, z3⟩, h5, h6⟩ := h
  have k : ∀ b, b ≠ s → (upI K 32 s ((n + 1 : Nat) : Int)).1 32 b = K.1 32 b := by
    intro b hb; simp only [upI]; rw [if_neg (fun q => hb q.2)]
  refine ⟨fun s' hs' => ?_, h2, ⟨X, Y, x1, fun p hp => ⟨?_, (x2 p hp).2⟩, x3⟩, ⟨Z, W, z1, fun p hp => ⟨?_, (z2 p hp).2⟩, z3⟩, fun p m hp hm => ?_, fun p hp => ?_⟩
  · obtain ⟨n9, a, b, c⟩ := h1 s' hs'
    by_cases e : s' = s
    · subst e
      rw [if_pos rfl] at a b
      refine ⟨n9 + 1, ?_, ?_, ?_⟩
      · rw [if_neg (show ¬ s' = 4 by omega)]; exact a
      · rw [if_neg (show ¬ s' = 4 by omega)]; exact b
      · have : n9 = n := by rw [hn] at c; omega
        subst this
        simp [upI]
    · rw [if_neg e] at a b
      refine ⟨n9, ?_, ?_, ?_⟩
      · rw [if_neg (show ¬ s' = 4 by omega)]; exact a
      · rw [if_neg (show ¬ s' = 4 by omega)]; exact b
      · rw [k _ e]; exact c
  · show (upI K _ _ _).1 32 (35 + p) = _; rw [k _ (by omega)]; exact (x2 p hp).1
  · show (upI K _ _ _).1 32 (45 + p) = _; rw [k _ (by omega)]; exact (z2 p hp).1
  · rw [k _ (by omega)]; exact h5 p m hp hm
  · rw [k _ (by omega)]; exact h6 p hp
theorem pd_LR_u {B : Nat → Int} {lim N c : Nat} {K : hH} (h : pd_LR B lim N c K) (b : Nat) (v : Int) : pd_LR B lim N c (upI K 32 b v) :=
  pd_LR_keep h (fun _ => Or.inl (by simp [upI])) (fun _ => by simp [upI]) (fun _ => rfl) (fun _ => rfl)
theorem pd_LC_u {B : Nat → Int} {lim N T c : Nat} {H : hH} (h : pd_LC B lim N T c H) {a : Nat} (ha : 10 < a) (b : Nat) (v : Int) : pd_LC B lim N T c (upI H a b v) :=
  pd_LC_keep h (fun a' b' h1 h2 => by simp only [upI]; rw [if_neg (by omega)]) (fun _ _ _ _ => rfl)

/-- a street or a tram -/
theorem pd_pNewST {B : Nat → Int} {lim N T c : Nat} (hN : N ≤ 940) (hb : pd_hB8 B) {H K : hH} (h : pd_LC B lim N T c H) (h' : pd_LR B lim N c K) (ht : pd_TS 4 H K) {s n : Nat} (hs : s < 2) (hn : K.1 32 s = (n : Int)) (hm : n < pd_tMost s) :
    pd_OUT B lim N T c H K (f_X1_readNew (s : Int) H) (if (f_X12_fresh (iAdd ((pd_tBase s : Nat) : Int) (n : Int)) K).1 = 0 then (0, (f_X12_fresh (iAdd ((pd_tBase s : Nat) : Int) (n : Int)) K).2) else (1, upI (f_X12_fresh (iAdd ((pd_tBase s : Nat) : Int) (n : Int)) K).2 32 s (iAdd ((f_X12_fresh (iAdd ((pd_tBase s : Nat) : Int) (n : Int)) K).2.1 32 s) 1))) := by
  have hm10 := pd_tMost_le (show s < 4 by omega)
  rcases pd_pFresh hN hb h h' ht (show s < 4 by omega) hn hm with ⟨f1, f2⟩ | ⟨a1, a2, a3, K1, a4, a5, a6, a7, a8, a9, a10⟩
  · left
    rw [if_pos f2]
    obtain ⟨g1, g2⟩ := f1 _ (f_X1_readNew (s : Int) H) rfl
    exact ⟨g1, rfl, g2⟩
  · right
    have e : f_X1_readNew (s : Int) H = (1, f_X9_advance (f_X10_addName (H.2.1 4 12) (s : Int) H).2) := by
      unfold f_X1_readNew
      rw [if_pos a1, if_pos a2, if_neg (by omega), if_neg (by omega)]
    rw [e, a4, if_neg (show ¬ (1 : Int) = 0 by omega)]
    dsimp only
    have hk : K1.1 32 s = (n : Int) := by rw [a8]; exact hn
    rw [hk, pd_iad1 (by omega)]
    exact ⟨rfl, rfl, c + 1, by omega, a5, pd_LR_u a6 _ _, pd_TS_inc a7 (by omega) hk, a10, by simp only [upI]; rw [if_neg (by omega)]; exact a9⟩
/-- a number is read and laid down -/
theorem pd_pPuts {B : Nat → Int} {lim N T c : Nat} (hN : N ≤ 940) (hb : pd_hB8 B) {H K : hH} (h : pd_LC B lim N T c H) (h' : pd_LR B lim N c K) (lo hi : Int) (to : Int) :
    ((f_X9_passNumber lo hi H).1 = -1 ∧ (f_X12_puts to lo hi K).1 = 0 ∧ pd_FL (f_X9_passNumber lo hi H).2 (f_X12_puts to lo hi K).2) ∨
    ∃ (n : Int) (K2 : hH), f_X9_passNumber lo hi H = (n, f_X9_advance H) ∧ f_X12_puts to lo hi K = (1, K2) ∧ lo ≤ n ∧ n ≤ hi ∧ pd_LC B lim N T (c + 1) (f_X9_advance H) ∧ pd_LR B lim N (c + 1) K2 ∧ (∀ b, K2.1 32 b = if b = to.toNat then n else K.1 32 b) ∧ (∀ b, K2.2.1 34 b = K.2.1 34 b) ∧ K2.1 29 19 = K.1 29 19 := by
  rcases pd_pNumber h h' lo hi with ⟨a1, a2, a3⟩ | ⟨n, a1, a2, a3, a4, a5⟩
  · left
    unfold f_X12_puts
    rw [if_pos a2]
    exact ⟨a1, rfl, a3⟩
  · right
    obtain ⟨m1, m2⟩ := pd_LR_next hN hb (pd_LR_18 h' n)
    refine ⟨n, _, a1, ?_, a3, a4, (pd_LC_adv h a5).1, pd_LR_u m1 to.toNat n, fun b => ?_, fun b => ?_, ?_⟩
    · unfold f_X12_puts
      rw [a2, if_neg (show ¬ (1 : Int) = 0 by omega)]
      dsimp only
      rw [m2.1 29 18 (by omega), pd_upI_at]
    · by_cases e : b = to.toNat
      · rw [e, pd_upI_at, if_pos rfl]
      · rw [pd_upI_ne (fun q => e q.2), if_neg e, m2.1 32 b (by omega), pd_upI_ne (by omega)]
    · exact m2.2.1 34 b (by omega)
    · rw [pd_upI_ne (by omega), m2.1 29 19 (by omega), pd_upI_ne (by omega)]
theorem pd_TS_k {s0 : Nat} {H K H' K' : hH} (h : pd_TS s0 H K) (k1 : ∀ a b, (a = 54 ∨ a = 61 ∨ 63 ≤ a ∧ a ≤ 65) → H'.1 a b = H.1 a b) (k2 : H'.2.1 62 = H.2.1 62) (k3 : ∀ b, (b < 4 ∨ 24 ≤ b ∧ b < 34 ∨ 35 ≤ b ∧ b < 85) → K'.1 32 b = K.1 32 b) (k4 : ∀ b, K'.2.1 34 b = K.2.1 34 b) : pd_TS s0 H' K' := pd_TS_keep h k1 (fun b => by rw [k2]) k3 k4
/-- a mark's share -/
theorem pd_pMark {B : Nat → Int} {lim N T c : Nat} (hN : N ≤ 940) (hb : pd_hB8 B) {H K : hH} (h : pd_LC B lim N T c H) (h' : pd_LR B lim N c K) (ht : pd_TS 4 H K) {n : Nat} (hn : K.1 32 3 = (n : Int)) (hm : n < 3) :
    pd_OUT B lim N T c H K (f_X1_readNew 3 H) (if (f_X12_fresh (iAdd 37 (n : Int)) K).1 = 0 then (0, (f_X12_fresh (iAdd 37 (n : Int)) K).2) else if (f_X12_puts (iAdd 85 (n : Int)) 0 40 (f_X12_fresh (iAdd 37 (n : Int)) K).2).1 = 0 then (0, (f_X12_puts (iAdd 85 (n : Int)) 0 40 (f_X12_fresh (iAdd 37 (n : Int)) K).2).2) else if (f_X12_puts (iAdd 88 (n : Int)) (f_X12_greater 1 ((f_X12_puts (iAdd 85 (n : Int)) 0 40 (f_X12_fresh (iAdd 37 (n : Int)) K).2).2.1 32 (iAdd 85 (n : Int)).toNat)) 40 (f_X12_puts (iAdd 85 (n : Int)) 0 40 (f_X12_fresh (iAdd 37 (n : Int)) K).2).2).1 = 0 then (0, (f_X12_puts (iAdd 88 (n : Int)) (f_X12_greater 1 ((f_X12_puts (iAdd 85 (n : Int)) 0 40 (f_X12_fresh (iAdd 37 (n : Int)) K).2).2.1 32 (iAdd 85 (n : Int)).toNat)) 40 (f_X12_puts (iAdd 85 (n : Int)) 0 40 (f_X12_fresh (iAdd 37 (n : Int)) K).2).2).2) else (1, upI (f_X12_puts (iAdd 88 (n : Int)) (f_X12_greater 1 ((f_X12_puts (iAdd 85 (n : Int)) 0 40 (f_X12_fresh (iAdd 37 (n : Int)) K).2).2.1 32 (iAdd 85 (n : Int)).toNat)) 40 (f_X12_puts (iAdd 85 (n : Int)) 0 40 (f_X12_fresh (iAdd 37 (n : Int)) K).2).2).2 32 3 (iAdd ((f_X12_puts (iAdd 88 (n : Int)) (f_X12_greater 1 ((f_X12_puts (iAdd 85 (n : Int)) 0 40 (f_X12_fresh (iAdd 37 (n : Int)) K).2).2.1 32 (iAdd 85 (n : Int)).toNat)) 40 (f_X12_puts (iAdd 85 (n : Int)) 0 40 (f_X12_fresh (iAdd 37 (n : Int)) K).2).2).2.1 32 3) 1))) := by
  have hF := pd_pFresh hN hb h h' ht (s := 3) (by omega) hn hm
  rcases hF with ⟨f1, f2⟩ | ⟨a1, a2, a3, K1, a4, a5, a6, a7, a8, a9, a10⟩
  · left
    have f2 : (f_X12_fresh (iAdd 37 (n : Int)) K).1 = 0 := f2
    rw [if_pos f2]
    obtain ⟨g1, g2⟩ := f1 _ (f_X1_readNew 3 H) rfl
    exact ⟨g1, rfl, g2⟩
  · have a4 : f_X12_fresh (iAdd 37 (n : Int)) K = (1, K1) := a4
    rw [a4, if_neg (show ¬ (1 : Int) = 0 by omega)]
    dsimp only
    have e : f_X1_readNew 3 H = (if (f_X1_readShare (n : Int) (f_X9_advance (f_X10_addName (H.2.1 4 12) 3 H).2)).1 = 0 then (0, (f_X1_readShare (n : Int) (f_X9_advance (f_X10_addName (H.2.1 4 12) 3 H).2)).2) else (1, (f_X1_readShare (n : Int) (f_X9_advance (f_X10_addName (H.2.1 4 12) 3 H).2)).2)) := by
      unfold f_X1_readNew
      have a3 : (f_X10_addName (H.2.1 4 12) 3 H).1 = (n : Int) := a3
      rw [if_pos a1, if_pos a2, if_neg (by omega), if_pos rfl, a3]
    rw [e]
    have a5 : pd_LC B lim N T (c + 1) (f_X9_advance (f_X10_addName (H.2.1 4 12) 3 H).2) := a5
    have a7 : pd_TS 3 (f_X9_advance (f_X10_addName (H.2.1 4 12) 3 H).2) K1 := a7
    have a10 : (f_X9_advance (f_X10_addName (H.2.1 4 12) 3 H).2).2.2 = H.2.2 := a10
    generalize f_X9_advance (f_X10_addName (H.2.1 4 12) 3 H).2 = H1 at *
    clear e a3
    have i85 : (iAdd 85 (n : Int)).toNat = 85 + n := by
      have : ∀ i : Fin 3, (iAdd 85 ((i.1 : Nat) : Int)).toNat = 85 + i.1 := by decide
      exact this ⟨n, hm⟩
    have i88 : (iAdd 88 (n : Int)).toNat = 88 + n := by
      have : ∀ i : Fin 3, (iAdd 88 ((i.1 : Nat) : Int)).toNat = 88 + i.1 := by decide
      exact this ⟨n, hm⟩
    rcases pd_pPuts hN hb a5 a6 0 40 (iAdd 85 (n : Int)) with ⟨b1, b2, b3⟩ | ⟨v, K2, b1, b2, b3, b4, b5, b6, b7, b8, b9⟩
    · left
      rw [if_pos b2]
      have : f_X1_readShare (n : Int) H1 = (0, (f_X9_passNumber 0 40 H1).2) := by
        unfold f_X1_readShare; rw [if_pos b1]
      rw [this, if_pos rfl]
      exact ⟨rfl, rfl, b3⟩
    · rw [b2, if_neg (show ¬ (1 : Int) = 0 by omega)]
      dsimp only
      have eg : f_X12_greater 1 (K2.1 32 (iAdd 85 (n : Int)).toNat) = xMm 0 v 1 := by
        rw [b7, if_pos rfl]
        unfold f_X12_greater xMm
        rfl
      rw [eg]
      have h2 : pd_LC B lim N T (c + 1 + 1) (upI (f_X9_advance H1) 66 n v) := pd_LC_u b5 (by omega) _ _
      obtain ⟨-, w1, w2, w3⟩ := pd_LC_adv a5 (show 2 ≤ (pd_tTok B lim N (c + 1)).1 from by
        rcases pd_pNumber a5 a6 0 40 with ⟨q, -⟩ | ⟨_, _, _, _, _, q⟩
        · rw [b1] at q; have : v = -1 := q; omega
        · exact q)
      have er : f_X1_readShare (n : Int) H1 = (if (upI (f_X9_passNumber (xMm 0 v 1) 40 (upI (f_X9_advance H1) 66 n v)).2 67 n (f_X9_passNumber (xMm 0 v 1) 40 (upI (f_X9_advance H1) 66 n v)).1).1 67 n = -1 then (0, upI (f_X9_passNumber (xMm 0 v 1) 40 (upI (f_X9_advance H1) 66 n v)).2 67 n (f_X9_passNumber (xMm 0 v 1) 40 (upI (f_X9_advance H1) 66 n v)).1) else (1, upI (f_X9_passNumber (xMm 0 v 1) 40 (upI (f_X9_advance H1) 66 n v)).2 67 n (f_X9_passNumber (xMm 0 v 1) 40 (upI (f_X9_advance H1) 66 n v)).1)) := by
        unfold f_X1_readShare
        rw [b1, if_neg (show ¬ v = -1 by omega), Int.toNat_natCast]
      rw [er]
      rcases pd_pPuts hN hb h2 b6 (xMm 0 v 1) 40 (iAdd 88 (n : Int)) with ⟨d1, d2, d3⟩ | ⟨u, K3, d1, d2, d3, d4, d5, d6, d7, d8, d9⟩
      · left
        rw [if_pos d2, d1]
        rw [if_pos (show (upI (f_X9_passNumber (xMm 0 v 1) 40 (upI (f_X9_advance H1) 66 n v)).2 67 n (-1)).1 67 n = -1 by simp [upI])]
        rw [if_pos rfl]
        refine ⟨rfl, rfl, ?_⟩
        obtain ⟨q1, q2, q3⟩ := d3
        exact ⟨by simp only [upI]; rw [if_neg (by omega)]; exact q1, by simp only [upI]; rw [if_neg (by omega)]; exact q2, by simp only [upI]; rw [if_neg (by omega)]; exact q3⟩
      · right
        have hv1 : ¬ u = -1 := by
          have : 0 ≤ xMm 0 v 1 := by unfold xMm; split <;> omega
          omega
        rw [d2, if_neg (show ¬ (1 : Int) = 0 by omega), d1]
        dsimp only
        rw [if_neg (show ¬ (upI (f_X9_advance (upI (f_X9_advance H1) 66 n v)) 67 n u).1 67 n = -1 by simp [upI]; exact hv1)]
        rw [if_neg (show ¬ (1 : Int) = 0 by omega)]
        have hk : K3.1 32 3 = (n : Int) := by
          rw [d7, if_neg (by omega), b7, if_neg (by omega), a8]; exact hn
        rw [hk, pd_iad1 (by omega)]
        have w4 := pd_LC_adv h2 (show 2 ≤ (pd_tTok B lim N (c + 1 + 1)).1 from by
          rcases pd_pNumber h2 b6 (xMm 0 v 1) 40 with ⟨q, -⟩ | ⟨_, _, _, _, _, q⟩
          · rw [d1] at q; have : u = -1 := q; omega
          · exact q)
        obtain ⟨-, y1, y2, y3⟩ := w4
        refine ⟨rfl, rfl, c + 1 + 1 + 1, by omega, pd_LC_u d5 (by omega) _ _, pd_LR_u d6 _ _, pd_TS_inc (pd_TS_k a7 (fun a b hab => ?_) ?_ (fun b hb => ?_) (fun b => ?_)) (by omega) hk, ?_, ?_⟩
        · rw [pd_upI_ne (by omega), y1 a b (by omega), pd_upI_ne (by omega), w1 a b (by omega)]
        · funext b
          show (f_X9_advance (upI (f_X9_advance H1) 66 n v)).2.1 62 b = _
          rw [y2 62 b (by omega)]
          exact w2 62 b (by omega)
        · rw [d7, if_neg (by omega), b7, if_neg (by omega)]
        · rw [d8, b8]
        · show (f_X9_advance (upI (f_X9_advance H1) 66 n v)).2.2 = _
          rw [y3]
          show (f_X9_advance H1).2.2 = _
          rw [w3, a10]
        · rw [pd_upI_ne (by omega), d9, b9, a9]
