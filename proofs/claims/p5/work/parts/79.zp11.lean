/-! Both sides read a text alike (by hand), 11. -/
set_option maxRecDepth 100000
set_option linter.unusedSimpArgs false
def pd_mPers3 (n : Int) (P : Int × hH) : Int × hH :=
  if P.1 = 0 then (0, P.2) else if f_X12_isWord 1635213689 P.2 = 0 then (1, upI P.2 32 2 (iAdd (P.2.1 32 2) 1)) else (1, upI (f_X12_next (upI P.2 32 34 (iOr (P.2.1 32 34) (iShl 1 n)))) 32 2 (iAdd ((f_X12_next (upI P.2 32 34 (iOr (P.2.1 32 34) (iShl 1 n)))).1 32 2) 1))
def pd_mPers2 (n : Int) (G : Int × hH) : Int × hH :=
  if G.1 = 0 then (0, G.2) else if f_X12_isWord 7168366 G.2 = 0 then (if f_X12_isWord 512970547566 G.2 = 0 then ((f_X12_bad 1 (upI G.2 32 (iAdd 4 n).toNat (G.2.1 29 18))).1, (f_X12_bad 1 (upI G.2 32 (iAdd 4 n).toNat (G.2.1 29 18))).2) else if f_X12_isWord 512970547566 G.2 = 0 then pd_mPers3 n (f_X12_puts (iAdd 24 n) 0 20 (f_X12_next (upI (upI G.2 32 (iAdd 4 n).toNat (G.2.1 29 18)) 32 (iAdd 14 n).toNat 0))) else pd_mPers3 n (f_X12_puts (iAdd 24 n) 0 20 (f_X12_next (upI (upI G.2 32 (iAdd 4 n).toNat (G.2.1 29 18)) 32 (iAdd 14 n).toNat 1)))) else if f_X12_isWord 512970547566 G.2 = 0 then pd_mPers3 n (f_X12_puts (iAdd 24 n) 0 20 (f_X12_next (upI (upI G.2 32 (iAdd 4 n).toNat (G.2.1 29 18)) 32 (iAdd 14 n).toNat 0))) else pd_mPers3 n (f_X12_puts (iAdd 24 n) 0 20 (f_X12_next (upI (upI G.2 32 (iAdd 4 n).toNat (G.2.1 29 18)) 32 (iAdd 14 n).toNat 1)))
def pd_mPers (n : Int) (F : Int × hH) : Int × hH := if F.1 = 0 then (0, F.2) else pd_mPers2 n (f_X12_takesName 20 (F.2.1 32 0) F.2)
theorem pd_mPers_eq (K : hH) : f_X12_readPerson K = if K.1 32 2 = 10 then ((f_X12_bad 4 K).1, (f_X12_bad 4 K).2) else pd_mPers (K.1 32 2) (f_X12_fresh (iAdd 27 (K.1 32 2)) (f_X12_next K)) := rfl
def pd_cPers3 (n : Int) (P : Int × hH) : Int × hH :=
  if (upI P.2 63 n.toNat P.1).1 63 n.toNat = -1 then (0, upI P.2 63 n.toNat P.1) else if f_X9_isAtWord 9 P.2 = 0 then (1, upI P.2 63 n.toNat P.1) else (1, f_X9_advance (upI (upI P.2 63 n.toNat P.1) 52 1 (iOr (P.2.1 52 1) (iShl 1 n))))
def pd_cPers2 (n : Int) (H : hH) : Int × hH :=
  if f_X9_isAtWord 8 H = 0 then (if f_X9_isAtWord 7 H = 0 then ((f_X9_fail 1 H).1, (f_X9_fail 1 H).2) else pd_cPers3 n (f_X9_passNumber 0 20 (f_X9_advance H))) else pd_cPers3 n (f_X9_passNumber 0 20 (f_X9_advance (upI H 60 7 (iOr (H.1 60 7) (iShl 1 n)))))
theorem pd_cPers_eq (n : Int) (H : hH) : f_X1_readPerson n H = if (f_X9_named 0 H).1 = -1 then (0, (f_X9_named 0 H).2) else pd_cPers2 n (f_X9_advance (upI (f_X9_named 0 H).2 53 n.toNat (f_X9_named 0 H).1)) := rfl
theorem pd_TS_mind {s0 n : Nat} {v : Int} {H K H' K' : hH} (h : pd_TS s0 H K) (k1 : ∀ a b, (a = 54 ∨ a = 61 ∨ a = 64 ∨ a = 65) → H'.1 a b = H.1 a b) (k1' : ∀ b, H'.1 63 b = if b = n then v else H.1 63 b) (k2 : ∀ b, H'.2.1 62 b = H.2.1 62 b) (k3 : ∀ b, (b < 4 ∨ 24 ≤ b ∧ b < 34 ∨ 35 ≤ b ∧ b < 85) → K'.1 32 b = if b = 24 + n then v else K.1 32 b) (hn : n < 10) (k4 : ∀ b, K'.2.1 34 b = K.2.1 34 b) : pd_TS s0 H' K' := by
  obtain ⟨h1, h2, ⟨X, Y, x1, x2, x3⟩, ⟨Z, W, z1, z2, z3⟩, h5, h6⟩ := h
  have k5 : ∀ b, (b < 4 ∨ 35 ≤ b ∧ b < 85) → K'.1 32 b = K.1 32 b := fun b hb => by rw [k3 b (by omega), if_neg (by omega)]
  refine ⟨fun s hs => ?_, fun s i hs hi => ?_, ⟨X, Y, fun t ht => ⟨?_, (x1 t ht).2⟩, fun p hp => ⟨?_, (x2 p hp).2⟩, x3⟩, ⟨Z, W, fun t ht => ⟨?_, (z1 t ht).2⟩, fun p hp => ⟨?_, (z2 p hp).2⟩, z3⟩, fun p m hp hm => ?_, fun p hp => ?_⟩
  · obtain ⟨n, a, b, c⟩ := h1 s hs
    exact ⟨n, a, by rw [k1 61 s (by omega)]; exact b, by rw [k5 _ (by omega)]; exact c⟩
  · rw [k1 61 s (by omega)] at hi
    obtain ⟨r, a, b, c⟩ := h2 s i hs hi
    exact ⟨r, a, by rw [k2]; exact b, by rw [k4]; exact c⟩
  · show H'.1 65 t = _; rw [k1 65 t (by omega)]; exact (x1 t ht).1
  · show K'.1 32 (35 + p) = _; rw [k5 _ (by omega)]; exact (x2 p hp).1
  · show H'.1 54 t = _; rw [k1 54 t (by omega)]; exact (z1 t ht).1
  · show K'.1 32 (45 + p) = _; rw [k5 _ (by omega)]; exact (z2 p hp).1
  · rw [k1 64 _ (by omega), k5 _ (by omega)]; exact h5 p m hp hm
  · rw [k1', k3 _ (by omega)]
    by_cases e : p = n
    · rw [if_pos e, if_pos (by omega)]
    · rw [if_neg e, if_neg (by omega)]; exact h6 p hp
theorem pd_ixn (n : Nat) (h : n < 10) : (iAdd 4 (n : Int)).toNat = 4 + n ∧ (iAdd 14 (n : Int)).toNat = 14 + n ∧ (iAdd 24 (n : Int)).toNat = 24 + n ∧ (iAdd 35 (n : Int)).toNat = 35 + n ∧ (iAdd 45 (n : Int)).toNat = 45 + n := by
  have : ∀ i : Fin 10, (iAdd 4 ((i.1 : Nat) : Int)).toNat = 4 + i.1 ∧ (iAdd 14 ((i.1 : Nat) : Int)).toNat = 14 + i.1 ∧ (iAdd 24 ((i.1 : Nat) : Int)).toNat = 24 + i.1 ∧ (iAdd 35 ((i.1 : Nat) : Int)).toNat = 35 + i.1 ∧ (iAdd 45 ((i.1 : Nat) : Int)).toNat = 45 + i.1 := by decide
  exact this ⟨n, h⟩
/-- behind man or woman: the minding, perhaps away -/
theorem pd_pPers3 {B : Nat → Int} {lim N T c : Nat} (hN : N ≤ 940) (hb : pd_hB8 B) {H K : hH} (h : pd_LC B lim N T c H) (h' : pd_LR B lim N c K) (ht : pd_TS 2 H K) {n : Nat} (hn : K.1 32 2 = (n : Int)) (hm : n < 10) :
    pd_OUT B lim N T c H K (pd_cPers3 (n : Int) (f_X9_passNumber 0 20 H)) (pd_mPers3 (n : Int) (f_X12_puts (iAdd 24 (n : Int)) 0 20 K)) := by
  obtain ⟨-, -, i24, -, -⟩ := pd_ixn n hm
  rcases pd_pPuts hN hb h h' 0 20 (iAdd 24 (n : Int)) with ⟨b1, b2, b3⟩ | ⟨v, K2, b1, b2, b3, b4, b5, b6, b7, b8, b9⟩
  · left
    unfold pd_cPers3 pd_mPers3
    rw [if_pos b2, b1, pd_upI_at, if_pos rfl]
    obtain ⟨q1, q2, q3⟩ := b3
    exact ⟨rfl, rfl, by rw [pd_upI_ne (by omega)]; exact q1, by rw [pd_upI_ne (by omega)]; exact q2, by rw [pd_upI_ne (by omega)]; exact q3⟩
  · right
    rw [b1, b2]
    unfold pd_cPers3 pd_mPers3
    dsimp only
    rw [if_neg (show ¬ (1 : Int) = 0 by omega), pd_upI_at, if_neg (show ¬ v = -1 by omega), Int.toNat_natCast]
    obtain ⟨-, w1, w2, w3⟩ := pd_LC_adv h (show 2 ≤ (pd_tTok B lim N c).1 from by
      rcases pd_pNumber h h' 0 20 with ⟨q, -⟩ | ⟨_, _, _, _, _, q⟩
      · rw [b1] at q; have : v = -1 := q; omega
      · exact q)
    obtain ⟨p1, p2⟩ := pd_pWord b5 b6 (i := 9) (by omega) (w := 1635213689) (by decide)
    have p1 : f_X9_isAtWord 9 (f_X9_advance H) = _ := p1
    have hk : K2.1 32 2 = (n : Int) := by rw [b7, if_neg (by omega)]; exact hn
    by_cases ha : (pd_tTok B lim N (c + 1)).1 = 4 ∧ (pd_tTok B lim N (c + 1)).2.1 = ((9 : Nat) : Int)
    · rw [p1, p2, if_pos ha, if_neg (show ¬ (1 : Int) = 0 by omega), if_neg (show ¬ (1 : Int) = 0 by omega)]
      have l5 : pd_LC B lim N T (c + 1) (upI (upI (f_X9_advance H) 63 n v) 52 1 (iOr ((f_X9_advance H).1 52 1) (iShl 1 (n : Int)))) := pd_LC_u (pd_LC_u b5 (by omega) _ _) (by omega) _ _
      obtain ⟨l6, y1, y2, y3⟩ := pd_LC_adv l5 (by omega)
      obtain ⟨m1, m2⟩ := pd_LR_next hN hb (pd_LR_u b6 34 (iOr (K2.1 32 34) (iShl 1 (n : Int))))
      have hk2 : (f_X12_next (upI K2 32 34 (iOr (K2.1 32 34) (iShl 1 (n : Int))))).1 32 2 = (n : Int) := by rw [m2.1 32 2 (by omega), pd_upI_ne (by omega)]; exact hk
      rw [hk2, pd_iad1 (by omega)]
      refine ⟨rfl, rfl, c + 1 + 1, by omega, l6, pd_LR_u m1 _ _, pd_TS_inc (pd_TS_mind (n := n) (v := v) ht (fun a b hab => ?_) (fun b => ?_) (fun b => ?_) (fun b hb => ?_) hm (fun b => ?_)) (by omega) hk2, ?_, ?_⟩
      · rw [y1 a b (by omega), pd_upI_ne (by omega), pd_upI_ne (by omega), w1 a b (by omega)]
      · rw [y1 63 b (by omega), pd_upI_ne (by omega)]
        by_cases e : b = n
        · rw [e, pd_upI_at, if_pos rfl]
        · rw [pd_upI_ne (by omega), if_neg e, w1 63 b (by omega)]
      · rw [y2 62 b (by omega)]; exact w2 62 b (by omega)
      · rw [m2.1 32 b (by omega), pd_upI_ne (by omega), b7, i24]
      · rw [m2.2.1 34 b (by omega)]; exact b8 b
      · show (f_X9_advance _).2.2 = _; rw [y3]; exact w3
      · rw [pd_upI_ne (by omega), m2.1 29 19 (by omega), pd_upI_ne (by omega)]; exact b9
    · rw [p1, p2, if_neg ha, if_pos rfl, if_pos rfl, hk, pd_iad1 (by omega)]
      refine ⟨rfl, rfl, c + 1, by omega, pd_LC_u b5 (by omega) _ _, pd_LR_u b6 _ _, pd_TS_inc (pd_TS_mind (n := n) (v := v) ht (fun a b hab => ?_) (fun b => ?_) (fun b => ?_) (fun b hb => ?_) hm (fun b => ?_)) (by omega) hk, ?_, ?_⟩
      · rw [pd_upI_ne (by omega), w1 a b (by omega)]
      · by_cases e : b = n
        · rw [e, pd_upI_at, if_pos rfl]
        · rw [pd_upI_ne (by omega), if_neg e, w1 63 b (by omega)]
      · exact w2 62 b (by omega)
      · rw [b7, i24]
      · exact b8 b
      · exact w3
      · rw [pd_upI_ne (by omega)]; exact b9
theorem pd_OUT_le {B : Nat → Int} {lim N T c c0 : Nat} {H K H0 K0 : hH} {x y : Int × hH} (h : pd_OUT B lim N T c H K x y) (hc : c0 ≤ c) (h1 : H.2.2 = H0.2.2) (h2 : K.1 29 19 = K0.1 29 19) : pd_OUT B lim N T c0 H0 K0 x y := by
  rcases h with h | ⟨a, b, c', d1, d2, d3, d4, d5, d6⟩
  · exact Or.inl h
  · exact Or.inr ⟨a, b, c', by omega, d2, d3, d4, by rw [d5, h1], by rw [d6, h2]⟩
/-- a person's line behind the street -/
theorem pd_pPers2 {B : Nat → Int} {lim N T c : Nat} (hN : N ≤ 940) (hb : pd_hB8 B) {H K : hH} (h : pd_LC B lim N T c H) (h' : pd_LR B lim N c K) (ht : pd_TS 2 H K) {n : Nat} (hn : K.1 32 2 = (n : Int)) (hm : n < 10) :
    pd_OUT B lim N T c H K (pd_cPers2 (n : Int) H) (pd_mPers2 (n : Int) (1, K)) := by
  obtain ⟨i4, i14, -, -, -⟩ := pd_ixn n hm
  obtain ⟨p1, p2⟩ := pd_pWord h h' (i := 8) (by omega) (w := 512970547566) (by decide)
  have p1 : f_X9_isAtWord 8 H = _ := p1
  obtain ⟨q1, q2⟩ := pd_pWord h h' (i := 7) (by omega) (w := 7168366) (by decide)
  have q1 : f_X9_isAtWord 7 H = _ := q1
  unfold pd_cPers2 pd_mPers2
  dsimp only
  rw [if_neg (show ¬ (1 : Int) = 0 by omega), p1, p2, q1, q2, i4, i14]
  have go : ∀ (H1 : hH) (k : Int), pd_LC B lim N T c H1 → (∀ a b, a ≠ 60 → H1.1 a b = H.1 a b) → H1.2 = H.2 → (pd_tTok B lim N c).1 = 4 → pd_OUT B lim N T c H K (pd_cPers3 (n : Int) (f_X9_passNumber 0 20 (f_X9_advance H1))) (pd_mPers3 (n : Int) (f_X12_puts (iAdd 24 (n : Int)) 0 20 (f_X12_next (upI (upI K 32 (4 + n) (K.1 29 18)) 32 (14 + n) k)))) := by
    intro H1 k hl hf1 hf2 h4
    obtain ⟨l1, w1, w2, w3⟩ := pd_LC_adv hl (by omega)
    obtain ⟨m1, m2⟩ := pd_LR_next hN hb (pd_LR_u (pd_LR_u h' (4 + n) (K.1 29 18)) (14 + n) k)
    have hk : (f_X12_next (upI (upI K 32 (4 + n) (K.1 29 18)) 32 (14 + n) k)).1 32 2 = (n : Int) := by rw [m2.1 32 2 (by omega), pd_upI_ne (by omega), pd_upI_ne (by omega)]; exact hn
    have ht2 : pd_TS 2 (f_X9_advance H1) (f_X12_next (upI (upI K 32 (4 + n) (K.1 29 18)) 32 (14 + n) k)) := by
      refine pd_TS_keep ht (fun a b hab => ?_) (fun b => ?_) (fun b hb => ?_) (fun b => ?_)
      · rw [w1 a b (by omega), hf1 a b (by omega)]
      · rw [w2 62 b (by omega), hf2]
      · rw [m2.1 32 b (by omega), pd_upI_ne (by omega), pd_upI_ne (by omega)]
      · rw [m2.2.1 34 b (by omega)]; rfl
    refine pd_OUT_le (pd_pPers3 hN hb l1 m1 ht2 hk hm) (by omega) ?_ ?_
    · rw [w3, hf2]
    · rw [m2.1 29 19 (by omega), pd_upI_ne (by omega), pd_upI_ne (by omega)]
  by_cases hW : (pd_tTok B lim N c).1 = 4 ∧ (pd_tTok B lim N c).2.1 = ((8 : Nat) : Int)
  · have hM : ¬ ((pd_tTok B lim N c).1 = 4 ∧ (pd_tTok B lim N c).2.1 = ((7 : Nat) : Int)) := fun q => by have := q.2; have := hW.2; omega
    rw [if_pos hW, if_neg hM, if_neg (show ¬ (1 : Int) = 0 by omega), if_pos (show (0 : Int) = 0 from rfl), if_neg (show ¬ (1 : Int) = 0 by omega), if_neg (show ¬ (1 : Int) = 0 by omega)]
    exact go _ 1 (pd_LC_u h (by omega) _ _) (fun a b hab => pd_upI_ne (by omega)) rfl hW.1
  · by_cases hM : (pd_tTok B lim N c).1 = 4 ∧ (pd_tTok B lim N c).2.1 = ((7 : Nat) : Int)
    · rw [if_neg hW, if_pos hM, if_pos (show (0 : Int) = 0 from rfl), if_neg (show ¬ (1 : Int) = 0 by omega), if_neg (show ¬ (1 : Int) = 0 by omega), if_pos (show (0 : Int) = 0 from rfl)]
      exact go H 0 h (fun a b _ => rfl) rfl hM.1
    · rw [if_neg hW, if_neg hM, if_pos (show (0 : Int) = 0 from rfl), if_pos (show (0 : Int) = 0 from rfl), if_pos (show (0 : Int) = 0 from rfl), if_pos (show (0 : Int) = 0 from rfl)]
      exact Or.inl ⟨rfl, rfl, pd_FL_fail h (pd_LR_u h' _ _) (by omega)⟩
theorem pd_pPerson {B : Nat → Int} {lim N T c : Nat} (hN : N ≤ 940) (hb : pd_hB8 B) {H K : hH} (h : pd_LC B lim N T c H) (h' : pd_LR B lim N c K) (ht : pd_TS 4 H K) {n : Nat} (hn : K.1 32 2 = (n : Int)) (hm : n < 10) :
    pd_OUT B lim N T c H K (f_X1_readNew 2 H) (pd_mPers (n : Int) (f_X12_fresh (iAdd 27 (n : Int)) K)) := by
  have hF := pd_pFresh hN hb h h' ht (s := 2) (by omega) hn hm
  rcases hF with ⟨f1, f2⟩ | ⟨a1, a2, a3, K1, a4, a5, a6, a7, a8, a9, a10⟩
  · left
    have f2 : (f_X12_fresh (iAdd 27 (n : Int)) K).1 = 0 := f2
    unfold pd_mPers
    rw [if_pos f2]
    obtain ⟨g1, g2⟩ := f1 _ (f_X1_readNew 2 H) rfl
    exact ⟨g1, rfl, g2⟩
  · have a4 : f_X12_fresh (iAdd 27 (n : Int)) K = (1, K1) := a4
    rw [a4]
    unfold pd_mPers
    rw [if_neg (show ¬ (1 : Int) = 0 by omega)]
    dsimp only
    have e : f_X1_readNew 2 H = f_X1_readPerson (n : Int) (f_X9_advance (f_X10_addName (H.2.1 4 12) 2 H).2) := by
      unfold f_X1_readNew
      have a3 : (f_X10_addName (H.2.1 4 12) 2 H).1 = (n : Int) := a3
      rw [if_pos a1, if_pos a2, if_pos rfl, a3]
    rw [e]
    have a5 : pd_LC B lim N T (c + 1) (f_X9_advance (f_X10_addName (H.2.1 4 12) 2 H).2) := a5
    have a7 : pd_TS 2 (f_X9_advance (f_X10_addName (H.2.1 4 12) 2 H).2) K1 := a7
    have a10 : (f_X9_advance (f_X10_addName (H.2.1 4 12) 2 H).2).2.2 = H.2.2 := a10
    generalize f_X9_advance (f_X10_addName (H.2.1 4 12) 2 H).2 = H1 at *
    clear e a3
    rw [pd_cPers_eq]
    unfold f_X12_takesName
    rcases pd_pNamed a5 a6 a7 (s := 0) (by omega) (by omega) with ⟨b1, b2, b3⟩ | ⟨m, b1, b2, b3, b4, b5⟩
    · left
      have b1 : (f_X9_named 0 H1).1 = -1 := b1
      have b2 : (f_X12_looksAt 20 (K1.1 32 0) K1).1 = 0 := b2
      have b3 : pd_FL (f_X9_named 0 H1).2 (f_X12_looksAt 20 (K1.1 32 0) K1).2 := b3
      rw [if_pos b1, if_pos b2]
      unfold pd_mPers2
      rw [if_pos rfl]
      exact ⟨rfl, rfl, b3⟩
    · have b1 : f_X9_named 0 H1 = ((m : Int), H1) := b1
      have b2 : f_X12_looksAt 20 (K1.1 32 0) K1 = (1, upI K1 29 18 (m : Int)) := b2
      rw [b1, b2]
      dsimp only
      rw [if_neg (show ¬ (m : Int) = -1 by omega), if_neg (show ¬ (1 : Int) = 0 by omega), Int.toNat_natCast]
      obtain ⟨l1, w1, w2, w3⟩ := pd_LC_adv (pd_LC_u a5 (show 10 < 53 by omega) n (m : Int)) b5
      obtain ⟨m1, m2⟩ := pd_LR_next hN hb (pd_LR_18 a6 (m : Int))
      have ht2 : pd_TS 2 (f_X9_advance (upI H1 53 n (m : Int))) (f_X12_next (upI K1 29 18 (m : Int))) := by
        refine pd_TS_keep a7 (fun a b hab => ?_) (fun b => ?_) (fun b hb => ?_) (fun b => ?_)
        · rw [w1 a b (by omega), pd_upI_ne (by omega)]
        · rw [w2 62 b (by omega)]; rfl
        · rw [m2.1 32 b (by omega), pd_upI_ne (by omega)]
        · rw [m2.2.1 34 b (by omega)]; rfl
      refine pd_OUT_le (pd_pPers2 hN hb l1 m1 ht2 (n := n) ?_ hm) (by omega) ?_ ?_
      · rw [m2.1 32 2 (by omega), pd_upI_ne (by omega), a8]; exact hn
      · rw [w3]; exact a10
      · rw [m2.1 29 19 (by omega), pd_upI_ne (by omega)]; exact a9
