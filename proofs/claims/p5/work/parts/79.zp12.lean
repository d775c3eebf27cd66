/-! Both sides read a text alike (by hand), 12. -/
set_option maxRecDepth 100000
set_option linter.unusedSimpArgs false
theorem pd_TBits_or {x y x' y' : Nat → Int} {p o : Nat} (h : pd_TBits x y) (hp : p < 10) (ho : o < 3) (h1 : ∀ t, t < 3 → x' t = if t = o then iOr (x o) (iShl 1 (p : Int)) else x t) (h2 : ∀ q, q < 10 → y' q = if q = p then iOr (y p) (iShl 1 (o : Int)) else y q) : pd_TBits x' y' := by
  obtain ⟨X, Y, x1, x2, x3⟩ := h
  refine ⟨fun t => if t = o then X o ||| 2 ^ p else X t, fun q => if q = p then Y p ||| 2 ^ o else Y q, fun t ht => ?_, fun q hq => ?_, fun q t hq ht => ?_⟩
  · rw [h1 t ht]
    by_cases e : t = o
    · simp only [e, if_true]
      rw [(x1 o ho).1]
      exact pd_bOr (X o) p (x1 o ho).2 hp
    · simp only [e, if_false]
      exact x1 t ht
  · rw [h2 q hq]
    by_cases e : q = p
    · simp only [e, if_true]
      rw [(x2 p hp).1]
      exact pd_bOr (Y p) o (x2 p hp).2 (by omega)
    · simp only [e, if_false]
      exact x2 q hq
  · dsimp only
    by_cases e1 : t = o <;> by_cases e2 : q = p
    · rw [if_pos e1, if_pos e2, pd_bTest, pd_bTest, e1, e2]; simp
    · rw [if_pos e1, if_neg e2, pd_bTest, x3 q o hq ho, e1]
      simp
      intro h; exact absurd h.symm e2
    · rw [if_neg e1, if_pos e2, pd_bTest, e2, x3 p t hp ht]
      simp
      intro h; exact absurd h.symm e1
    · rw [if_neg e1, if_neg e2]; exact x3 q t hq ht
theorem pd_TBits_eq {x y : Nat → Int} {p o : Nat} (h : pd_TBits x y) (hp : p < 10) (ho : o < 3) : f_X11_isIn (x o) (p : Int) = f_X12_bitOf (y p) (o : Int) := by
  obtain ⟨X, Y, x1, x2, x3⟩ := h
  rw [(x1 o ho).1, (x2 p hp).1, pd_bIn _ _ (x1 o ho).2 hp, pd_bOf _ _ (x2 p hp).2 (by omega), x3 p o hp ho]
def pd_mPair2 (a1 a2 a3 : Int) (G : Int × hH) : Int × hH :=
  if G.1 = 0 then (0, G.2) else if (f_X12_looksAt a2 a3 G.2).1 = 0 then (0, (f_X12_looksAt a2 a3 G.2).2) else if f_X12_bitOf ((f_X12_looksAt a2 a3 G.2).2.1 32 (iAdd a1 (G.2.1 29 18)).toNat) ((f_X12_looksAt a2 a3 G.2).2.1 29 18) = 0 then (1, f_X12_next (upI (f_X12_looksAt a2 a3 G.2).2 32 (iAdd a1 (G.2.1 29 18)).toNat (iOr ((f_X12_looksAt a2 a3 G.2).2.1 32 (iAdd a1 (G.2.1 29 18)).toNat) (iShl 1 ((f_X12_looksAt a2 a3 G.2).2.1 29 18))))) else ((f_X12_bad 3 (f_X12_looksAt a2 a3 G.2).2).1, (f_X12_bad 3 (f_X12_looksAt a2 a3 G.2).2).2)
theorem pd_mPair_eq (a1 a2 a3 : Int) (K : hH) : f_X12_pair a1 a2 a3 K = pd_mPair2 a1 a2 a3 (f_X12_takesName 27 ((f_X12_next K).1 32 2) (f_X12_next K)) := rfl
def pd_mHate2 (G : Int × hH) : Int × hH :=
  if G.1 = 0 then (0, G.2) else if (f_X12_looksAt 37 (G.2.1 32 3) G.2).1 = 0 then (0, (f_X12_looksAt 37 (G.2.1 32 3) G.2).2) else if 0 < (f_X12_looksAt 37 (G.2.1 32 3) G.2).2.1 32 (iAdd (iAdd 55 (iMul 3 (G.2.1 29 18))) ((f_X12_looksAt 37 (G.2.1 32 3) G.2).2.1 29 18)).toNat then ((f_X12_bad 3 (f_X12_looksAt 37 (G.2.1 32 3) G.2).2).1, (f_X12_bad 3 (f_X12_looksAt 37 (G.2.1 32 3) G.2).2).2) else ((f_X12_puts (iAdd (iAdd 55 (iMul 3 (G.2.1 29 18))) ((f_X12_looksAt 37 (G.2.1 32 3) G.2).2.1 29 18)) 1 20 (f_X12_next (f_X12_looksAt 37 (G.2.1 32 3) G.2).2)).1, (f_X12_puts (iAdd (iAdd 55 (iMul 3 (G.2.1 29 18))) ((f_X12_looksAt 37 (G.2.1 32 3) G.2).2.1 29 18)) 1 20 (f_X12_next (f_X12_looksAt 37 (G.2.1 32 3) G.2).2)).2)
theorem pd_mHate_eq (K : hH) : f_X12_readHate K = pd_mHate2 (f_X12_takesName 27 ((f_X12_next K).1 32 2) (f_X12_next K)) := rfl
theorem pd_TS_tie {H K H2 K2 : hH} (h : pd_TS 4 H K) {p o to cell : Nat} (hp : p < 10) (ho : o < 3) (hw : (to = 35 ∧ cell = 65) ∨ (to = 45 ∧ cell = 54)) (kH : ∀ a b, a ≠ 4 → ¬ (a = cell ∧ b = o) → H2.1 a b = H.1 a b) (kHo : H2.1 cell o = iOr (H.1 cell o) (iShl 1 (p : Int))) (kK : ∀ b, b ≠ to + p → K2.1 32 b = K.1 32 b) (kKo : K2.1 32 (to + p) = iOr (K.1 32 (to + p)) (iShl 1 (o : Int))) (k2 : ∀ b, H2.2.1 62 b = H.2.1 62 b) (k4 : ∀ b, K2.2.1 34 b = K.2.1 34 b) : pd_TS 4 H2 K2 := by
  obtain ⟨h1, h2, h3, h4, h5, h6⟩ := h
  refine ⟨fun s hs => ?_, fun s i hs hi => ?_, ?_, ?_, fun p' m hp' hm => ?_, fun p' hp' => ?_⟩
  · obtain ⟨n, a, b, c⟩ := h1 s hs
    exact ⟨n, a, by rw [kH 61 s (by omega) (by omega)]; exact b, by rw [kK s (by omega)]; exact c⟩
  · rw [kH 61 s (by omega) (by omega)] at hi
    obtain ⟨r, a, b, c⟩ := h2 s i hs hi
    exact ⟨r, a, by rw [k2]; exact b, by rw [k4]; exact c⟩
  · rcases hw with ⟨rfl, rfl⟩ | ⟨rfl, rfl⟩
    · refine pd_TBits_or h3 hp ho (fun t ht => ?_) (fun q hq => ?_)
      · by_cases e : t = o
        · rw [if_pos e, e]; exact kHo
        · rw [if_neg e]; exact kH 65 t (by omega) (by omega)
      · by_cases e : q = p
        · rw [if_pos e, e]; exact kKo
        · rw [if_neg e]; exact kK _ (by omega)
    · obtain ⟨X, Y, x1, x2, x3⟩ := h3
      refine ⟨X, Y, fun t ht => ⟨?_, (x1 t ht).2⟩, fun q hq => ⟨?_, (x2 q hq).2⟩, x3⟩
      · show H2.1 65 t = _; rw [kH 65 t (by omega) (by omega)]; exact (x1 t ht).1
      · show K2.1 32 (35 + q) = _; rw [kK _ (by omega)]; exact (x2 q hq).1
  · rcases hw with ⟨rfl, rfl⟩ | ⟨rfl, rfl⟩
    · obtain ⟨X, Y, x1, x2, x3⟩ := h4
      refine ⟨X, Y, fun t ht => ⟨?_, (x1 t ht).2⟩, fun q hq => ⟨?_, (x2 q hq).2⟩, x3⟩
      · show H2.1 54 t = _; rw [kH 54 t (by omega) (by omega)]; exact (x1 t ht).1
      · show K2.1 32 (45 + q) = _; rw [kK _ (by omega)]; exact (x2 q hq).1
    · refine pd_TBits_or h4 hp ho (fun t ht => ?_) (fun q hq => ?_)
      · by_cases e : t = o
        · rw [if_pos e, e]; exact kHo
        · rw [if_neg e]; exact kH 54 t (by omega) (by omega)
      · by_cases e : q = p
        · rw [if_pos e, e]; exact kKo
        · rw [if_neg e]; exact kK _ (by omega)
  · rw [kH 64 _ (by omega) (by omega), kK _ (by omega)]; exact h5 p' m hp' hm
  · rw [kH 63 _ (by omega) (by omega), kK _ (by omega)]; exact h6 p' hp'
theorem pd_TS_hate {H K H2 K2 : hH} (h : pd_TS 4 H K) {p o : Nat} {v : Int} (hp : p < 10) (ho : o < 3) (hv : 0 ≤ v) (kH : ∀ a b, a ≠ 4 → H2.1 a b = if a = 64 ∧ b = 3 * p + o then v else H.1 a b) (kK : ∀ b, K2.1 32 b = if b = 55 + (3 * p + o) then v else K.1 32 b) (k2 : ∀ b, H2.2.1 62 b = H.2.1 62 b) (k4 : ∀ b, K2.2.1 34 b = K.2.1 34 b) : pd_TS 4 H2 K2 := by
  obtain ⟨h1, h2, ⟨X, Y, x1, x2, x3⟩, ⟨Z, W, z1, z2, z3⟩, h5, h6⟩ := h
  refine ⟨fun s hs => ?_, fun s i hs hi => ?_, ⟨X, Y, fun t ht => ⟨?_, (x1 t ht).2⟩, fun p hp => ⟨?_, (x2 p hp).2⟩, x3⟩, ⟨Z, W, fun t ht => ⟨?_, (z1 t ht).2⟩, fun p hp => ⟨?_, (z2 p hp).2⟩, z3⟩, fun p' m hp' hm => ?_, fun p' hp' => ?_⟩
  · obtain ⟨n, a, b, c⟩ := h1 s hs
    exact ⟨n, a, by rw [kH 61 s (by omega), if_neg (by omega)]; exact b, by rw [kK _, if_neg (by omega)]; exact c⟩
  · rw [kH 61 s (by omega), if_neg (by omega)] at hi
    obtain ⟨r, a, b, c⟩ := h2 s i hs hi
    exact ⟨r, a, by rw [k2]; exact b, by rw [k4]; exact c⟩
  · show H2.1 65 t = _; rw [kH 65 t (by omega), if_neg (by omega)]; exact (x1 t ht).1
  · show K2.1 32 (35 + p) = _; rw [kK _, if_neg (by omega)]; exact (x2 p hp).1
  · show H2.1 54 t = _; rw [kH 54 t (by omega), if_neg (by omega)]; exact (z1 t ht).1
  · show K2.1 32 (45 + p) = _; rw [kK _, if_neg (by omega)]; exact (z2 p hp).1
  · rw [kH 64 _ (by omega), kK _]
    by_cases e : 3 * p' + m = 3 * p + o
    · rw [if_pos ⟨rfl, e⟩, if_pos (by omega)]; exact ⟨rfl, hv⟩
    · rw [if_neg (fun q => e q.2), if_neg (by omega)]; exact h5 p' m hp' hm
  · rw [kH 63 _ (by omega), if_neg (by omega), kK _, if_neg (by omega)]; exact h6 p' hp'
/-- the class ties: behind the person's name -/
def pd_cTie2 (w s p : Int) (H : hH) : Int × hH :=
  if (f_X9_named s H).1 = -1 then (0, (f_X9_named s H).2) else if f_X1_isTied w p (f_X9_named s H).1 (f_X9_named s H).2 = 0 then ((f_X1_tie w p (f_X9_named s H).1 (f_X9_advance (f_X9_named s H).2)).1, (f_X1_tie w p (f_X9_named s H).1 (f_X9_advance (f_X9_named s H).2)).2) else ((f_X9_fail 3 (f_X9_named s H).2).1, (f_X9_fail 3 (f_X9_named s H).2).2)
theorem pd_cTie_eq (w : Int) (H : hH) : f_X1_readTie w H = if (f_X9_named 2 H).1 = -1 then (0, (f_X9_named 2 H).2) else if w = 4 then pd_cTie2 w 1 (f_X9_named 2 H).1 (f_X9_advance (f_X9_named 2 H).2) else pd_cTie2 w 3 (f_X9_named 2 H).1 (f_X9_advance (f_X9_named 2 H).2) := rfl
/-- the person of a tie -/
theorem pd_pTie1 {B : Nat → Int} {lim N T c : Nat} (hN : N ≤ 940) (hb : pd_hB8 B) {H K : hH} (h : pd_LC B lim N T c H) (h' : pd_LR B lim N c K) (ht : pd_TS 4 H K) :
    ((f_X9_named 2 H).1 = -1 ∧ (f_X12_takesName 27 (K.1 32 2) K).1 = 0 ∧ pd_FL (f_X9_named 2 H).2 (f_X12_takesName 27 (K.1 32 2) K).2) ∨
    ∃ (p : Nat) (K1 : hH), p < 10 ∧ f_X9_named 2 H = ((p : Int), H) ∧ f_X12_takesName 27 (K.1 32 2) K = (1, K1) ∧ K1.1 29 18 = (p : Int) ∧ pd_LC B lim N T (c + 1) (f_X9_advance H) ∧ pd_LR B lim N (c + 1) K1 ∧ pd_TS 4 (f_X9_advance H) K1 ∧ (f_X9_advance H).2.2 = H.2.2 ∧ K1.1 29 19 = K.1 29 19 ∧ (∀ b, K1.1 32 b = K.1 32 b) := by
  unfold f_X12_takesName
  rcases pd_pNamed h h' ht (s := 2) (by omega) (by omega) with ⟨b1, b2, b3⟩ | ⟨m, b1, b2, b3, b4, b5⟩
  · left
    have b2 : (f_X12_looksAt 27 (K.1 32 2) K).1 = 0 := b2
    have b3 : pd_FL (f_X9_named 2 H).2 (f_X12_looksAt 27 (K.1 32 2) K).2 := b3
    rw [if_pos b2]
    exact ⟨b1, rfl, b3⟩
  · right
    have b2 : f_X12_looksAt 27 (K.1 32 2) K = (1, upI K 29 18 (m : Int)) := b2
    rw [b2, if_neg (show ¬ (1 : Int) = 0 by omega)]
    dsimp only
    obtain ⟨l1, w1, w2, w3⟩ := pd_LC_adv h b5
    obtain ⟨m1, m2⟩ := pd_LR_next hN hb (pd_LR_18 h' (m : Int))
    refine ⟨m, _, b4, b1, rfl, by rw [m2.1 29 18 (by omega), pd_upI_at], l1, m1, pd_TS_keep ht (fun a b hab => ?_) (fun b => ?_) (fun b hb => ?_) (fun b => ?_), w3, ?_, fun b => ?_⟩
    · rw [w1 a b (by omega)]
    · rw [w2 62 b (by omega)]
    · rw [m2.1 32 b (by omega), pd_upI_ne (by omega)]
    · rw [m2.2.1 34 b (by omega)]; rfl
    · rw [m2.1 29 19 (by omega), pd_upI_ne (by omega)]
    · rw [m2.1 32 b (by omega), pd_upI_ne (by omega)]
/-- rides, has -/
theorem pd_pPair2 {B : Nat → Int} {lim N T c : Nat} (hN : N ≤ 940) (hb : pd_hB8 B) {H K : hH} (h : pd_LC B lim N T c H) (h' : pd_LR B lim N c K) (ht : pd_TS 4 H K) {p w s to cell : Nat} (hp : p < 10) (hg : K.1 29 18 = (p : Int)) (hw : (w = 4 ∧ s = 1 ∧ to = 35 ∧ cell = 65) ∨ (w = 5 ∧ s = 3 ∧ to = 45 ∧ cell = 54)) :
    pd_OUT B lim N T c H K (pd_cTie2 (w : Int) (s : Int) (p : Int) H) (pd_mPair2 (to : Int) ((pd_tBase s : Nat) : Int) (K.1 32 s) (1, K)) := by
  have hs4 : s < 4 := by omega
  have hto : (iAdd (to : Int) (p : Int)).toNat = to + p := by
    obtain ⟨-, -, -, i35, i45⟩ := pd_ixn p hp
    rcases hw with ⟨-, -, rfl, -⟩ | ⟨-, -, rfl, -⟩
    · exact i35
    · exact i45
  unfold pd_cTie2 pd_mPair2
  dsimp only
  rw [if_neg (show ¬ (1 : Int) = 0 by omega), hg, hto]
  rcases pd_pNamed h h' ht hs4 (by omega) with ⟨b1, b2, b3⟩ | ⟨o, b1, b2, b3, b4, b5⟩
  · left
    rw [if_pos b1, if_pos b2]
    exact ⟨rfl, rfl, b3⟩
  · rw [b1, b2]
    dsimp only
    rw [if_neg (show ¬ (o : Int) = -1 by omega), if_neg (show ¬ (1 : Int) = 0 by omega), pd_upI_at, pd_upI_ne (by omega)]
    have ho : o < 3 := by rcases hw with ⟨-, rfl, -⟩ | ⟨-, rfl, -⟩ <;> exact b4
    have hbits : pd_TBits (fun t => H.1 cell t) (fun p => K.1 32 (to + p)) := by
      rcases hw with ⟨-, -, rfl, rfl⟩ | ⟨-, -, rfl, rfl⟩
      · exact ht.2.2.1
      · exact ht.2.2.2.1
    have etied : f_X1_isTied (w : Int) (p : Int) (o : Int) H = f_X12_bitOf (K.1 32 (to + p)) (o : Int) := by
      rw [← pd_TBits_eq hbits hp ho]
      unfold f_X1_isTied
      rcases hw with ⟨rfl, -, -, rfl⟩ | ⟨rfl, -, -, rfl⟩
      · rw [if_pos (by omega), Int.toNat_natCast]
      · rw [if_neg (by omega), if_pos (by omega), Int.toNat_natCast]
    rw [etied]
    by_cases hb0 : f_X12_bitOf (K.1 32 (to + p)) (o : Int) = 0
    · right
      rw [if_pos hb0, if_pos hb0]
      obtain ⟨l1, w1, w2, w3⟩ := pd_LC_adv h b5
      have et : f_X1_tie (w : Int) (p : Int) (o : Int) (f_X9_advance H) = (1, upI (f_X9_advance H) cell o (iOr ((f_X9_advance H).1 cell o) (iShl 1 (p : Int)))) := by
        unfold f_X1_tie
        rcases hw with ⟨rfl, -, -, rfl⟩ | ⟨rfl, -, -, rfl⟩
        · rw [if_pos (by omega), Int.toNat_natCast]
        · rw [if_neg (by omega), if_pos (by omega), Int.toNat_natCast]
      rw [et]
      have hc : 54 ≤ cell := by omega
      obtain ⟨m1, m2⟩ := pd_LR_next hN hb (pd_LR_u (pd_LR_18 h' (o : Int)) (to + p) (iOr (K.1 32 (to + p)) (iShl 1 (o : Int))))
      have kH : ∀ a b, a ≠ 4 → ¬ (a = cell ∧ b = o) → (upI (f_X9_advance H) cell o (iOr ((f_X9_advance H).1 cell o) (iShl 1 (p : Int)))).1 a b = H.1 a b := fun a b n1 n2 => by rw [pd_upI_ne n2, w1 a b (by omega)]
      have kHo : (upI (f_X9_advance H) cell o (iOr ((f_X9_advance H).1 cell o) (iShl 1 (p : Int)))).1 cell o = iOr (H.1 cell o) (iShl 1 (p : Int)) := by rw [pd_upI_at, w1 cell o (by omega)]
      have kK : ∀ b, b ≠ to + p → (f_X12_next (upI (upI K 29 18 (o : Int)) 32 (to + p) (iOr (K.1 32 (to + p)) (iShl 1 (o : Int))))).1 32 b = K.1 32 b := fun b n => by rw [m2.1 32 b (by omega), pd_upI_ne (by omega), pd_upI_ne (by omega)]
      have kKo : (f_X12_next (upI (upI K 29 18 (o : Int)) 32 (to + p) (iOr (K.1 32 (to + p)) (iShl 1 (o : Int))))).1 32 (to + p) = iOr (K.1 32 (to + p)) (iShl 1 (o : Int)) := by rw [m2.1 32 _ (by omega), pd_upI_at]
      refine ⟨rfl, rfl, c + 1, by omega, pd_LC_u l1 (by omega) _ _, m1, pd_TS_tie ht hp ho (by rcases hw with ⟨-, -, a, b⟩ | ⟨-, -, a, b⟩ <;> simp [a, b]) kH kHo kK kKo (fun b => ?_) (fun b => ?_), w3, ?_⟩
      · exact w2 62 b (by omega)
      · rw [m2.2.1 34 b (by omega)]; rfl
      · rw [m2.1 29 19 (by omega), pd_upI_ne (by omega), pd_upI_ne (by omega)]
    · left
      rw [if_neg hb0, if_neg hb0]
      exact ⟨rfl, rfl, pd_FL_fail h (pd_LR_18 h' _) (by omega)⟩

/-- hates -/
theorem pd_pHate2 {B : Nat → Int} {lim N T c : Nat} (hN : N ≤ 940) (hb : pd_hB8 B) {H K : hH} (h : pd_LC B lim N T c H) (h' : pd_LR B lim N c K) (ht : pd_TS 4 H K) {p : Nat} (hp : p < 10) (hg : K.1 29 18 = (p : Int)) :
    pd_OUT B lim N T c H K (pd_cTie2 6 3 (p : Int) H) (pd_mHate2 (1, K)) := by
  unfold pd_cTie2 pd_mHate2
  dsimp only
  rw [if_neg (show ¬ (1 : Int) = 0 by omega), hg]
  have hx : ∀ o : Nat, o < 3 → (iAdd (iAdd 55 (iMul 3 (p : Int))) (o : Int)).toNat = 55 + (3 * p + o) ∧ (iAdd (iMul (p : Int) 3) (o : Int)).toNat = 3 * p + o := by
    have : ∀ (p : Fin 10) (o : Fin 3), (iAdd (iAdd 55 (iMul 3 ((p.1 : Nat) : Int))) ((o.1 : Nat) : Int)).toNat = 55 + (3 * p.1 + o.1) ∧ (iAdd (iMul ((p.1 : Nat) : Int) 3) ((o.1 : Nat) : Int)).toNat = 3 * p.1 + o.1 := by decide
    intro o ho
    exact this ⟨p, hp⟩ ⟨o, ho⟩
  rcases pd_pNamed h h' ht (s := 3) (by omega) (by omega) with ⟨b1, b2, b3⟩ | ⟨o, b1, b2, b3, b4, b5⟩
  · left
    have b1 : (f_X9_named 3 H).1 = -1 := b1
    have b2 : (f_X12_looksAt 37 (K.1 32 3) K).1 = 0 := b2
    have b3 : pd_FL (f_X9_named 3 H).2 (f_X12_looksAt 37 (K.1 32 3) K).2 := b3
    rw [if_pos b1, if_pos b2]
    exact ⟨rfl, rfl, b3⟩
  · have b1 : f_X9_named 3 H = ((o : Int), H) := b1
    have b2 : f_X12_looksAt 37 (K.1 32 3) K = (1, upI K 29 18 (o : Int)) := b2
    have ho : o < 3 := b4
    rw [b1, b2]
    dsimp only
    obtain ⟨x1, x2⟩ := hx o ho
    rw [if_neg (show ¬ (o : Int) = -1 by omega), if_neg (show ¬ (1 : Int) = 0 by omega), pd_upI_at, x1, pd_upI_ne (by omega)]
    obtain ⟨g1, g2⟩ := ht.2.2.2.2.1 p o hp ho
    have etied : f_X1_isTied 6 (p : Int) (o : Int) H = if H.1 64 (3 * p + o) = 0 then 0 else 1 := by
      unfold f_X1_isTied
      rw [if_neg (by omega), if_neg (by omega), x2]
    rw [etied, ← g1]
    by_cases hz : H.1 64 (3 * p + o) = 0
    · rw [if_pos hz, if_pos rfl, if_neg (show ¬ 0 < H.1 64 (3 * p + o) by omega)]
      obtain ⟨l1, w1, w2, w3⟩ := pd_LC_adv h b5
      obtain ⟨m1, m2⟩ := pd_LR_next hN hb (pd_LR_18 h' (o : Int))
      have et : f_X1_tie 6 (p : Int) (o : Int) (f_X9_advance H) = if (f_X9_passNumber 1 20 (f_X9_advance H)).1 = -1 then (0, upI (f_X9_passNumber 1 20 (f_X9_advance H)).2 64 (3 * p + o) (f_X9_passNumber 1 20 (f_X9_advance H)).1) else (1, upI (f_X9_passNumber 1 20 (f_X9_advance H)).2 64 (3 * p + o) (f_X9_passNumber 1 20 (f_X9_advance H)).1) := by
        unfold f_X1_tie
        rw [if_neg (by omega), if_neg (by omega), x2]
      rw [et]
      rcases pd_pPuts hN hb l1 m1 1 20 (iAdd (iAdd 55 (iMul 3 (p : Int))) (o : Int)) with ⟨d1, d2, d3⟩ | ⟨v, K2, d1, d2, d3, d4, d5, d6, d7, d8, d9⟩
      · left
        rw [if_pos d1]
        obtain ⟨q1, q2, q3⟩ := d3
        exact ⟨rfl, d2, by rw [pd_upI_ne (by omega)]; exact q1, by rw [pd_upI_ne (by omega)]; exact q2, by rw [pd_upI_ne (by omega)]; exact q3⟩
      · right
        rw [d1, d2]
        dsimp only
        rw [if_neg (show ¬ v = -1 by omega)]
        obtain ⟨-, y1, y2, y3⟩ := pd_LC_adv l1 (show 2 ≤ (pd_tTok B lim N (c + 1)).1 from by
          rcases pd_pNumber l1 m1 1 20 with ⟨q, -⟩ | ⟨_, _, _, _, _, q⟩
          · rw [d1] at q; have : v = -1 := q; omega
          · exact q)
        refine ⟨rfl, rfl, c + 1 + 1, by omega, pd_LC_u d5 (by omega) _ _, d6, pd_TS_hate (v := v) ht hp ho (by omega) (fun a b n => ?_) (fun b => ?_) (fun b => ?_) (fun b => ?_), ?_, ?_⟩
        · by_cases e : a = 64 ∧ b = 3 * p + o
          · obtain ⟨rfl, rfl⟩ := e
            rw [pd_upI_at, if_pos ⟨rfl, rfl⟩]
          · rw [pd_upI_ne e, if_neg e, y1 a b (by omega), w1 a b (by omega)]
        · rw [d7, x1, m2.1 32 b (by omega), pd_upI_ne (by omega)]
        · show (f_X9_advance (f_X9_advance H)).2.1 62 b = _
          rw [y2 62 b (by omega), w2 62 b (by omega)]
        · rw [d8, m2.2.1 34 b (by omega)]; rfl
        · show (f_X9_advance (f_X9_advance H)).2.2 = _; rw [y3, w3]
        · rw [d9, m2.1 29 19 (by omega), pd_upI_ne (by omega)]
    · left
      rw [if_neg hz, if_neg (show ¬ (1 : Int) = 0 by omega), if_pos (show 0 < H.1 64 (3 * p + o) by omega)]
      exact ⟨rfl, rfl, pd_FL_fail h (pd_LR_18 h' _) (by omega)⟩
