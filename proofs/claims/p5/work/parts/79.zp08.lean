/-! Both sides read a text alike (by hand), 8. -/
set_option maxRecDepth 100000
set_option linter.unusedSimpArgs false
theorem pd_bOr (x p : Nat) (hx : x < 1024) (hp : p < 10) : iOr (x : Int) (iShl 1 (p : Int)) = ((x ||| 2 ^ p : Nat) : Int) ∧ (x ||| 2 ^ p) < 1024 := by
  refine ⟨?_, Nat.or_lt_two_pow (n := 10) hx (Nat.pow_lt_pow_right (a := 2) (by omega) hp)⟩
  have e1 : ∀ p : Fin 10, iShl 1 ((p.1 : Nat) : Int) = ((2 ^ p.1 : Nat) : Int) := by decide
  rw [e1 ⟨p, hp⟩]
  have hl : 2 ^ p < 1024 := Nat.pow_lt_pow_right (a := 2) (n := 10) (by omega) hp
  generalize 2 ^ p = y at *
  have hb : ∀ z : Nat, z < 1024 → Int32.ofInt (z : Int) = Int32.ofNat z := fun z _ => Int32.ofInt_eq_ofNat
  show (Int32.ofInt (x : Int) ||| Int32.ofInt (y : Int)).toInt = _
  rw [hb x hx, hb y hl]
  have e2 : Int32.ofNat x ||| Int32.ofNat y = Int32.ofNat (x ||| y) := by
    apply Int32.toBitVec_inj.mp
    show BitVec.ofNat 32 x ||| BitVec.ofNat 32 y = BitVec.ofNat 32 (x ||| y)
    apply BitVec.eq_of_toNat_eq
    have := Nat.or_lt_two_pow (n := 10) hx hl
    rw [BitVec.toNat_or, BitVec.toNat_ofNat, BitVec.toNat_ofNat, BitVec.toNat_ofNat, Nat.mod_eq_of_lt (by omega), Nat.mod_eq_of_lt (by omega), Nat.mod_eq_of_lt (by omega)]
  rw [e2]
  have := Nat.or_lt_two_pow (n := 10) hx hl
  exact Int32.toInt_ofNat_of_lt (by omega)
theorem pd_bIn (x p : Nat) (hx : x < 1024) (hp : p < 10) : f_X11_isIn (x : Int) (p : Int) = if x.testBit p = true then 1 else 0 := by
  have h : ∀ (x : Fin 1024) (p : Fin 10), f_X11_isIn ((x.1 : Nat) : Int) ((p.1 : Nat) : Int) = if x.1.testBit p.1 = true then 1 else 0 := by decide +kernel
  exact h ⟨x, hx⟩ ⟨p, hp⟩
theorem pd_bOf (x p : Nat) (hx : x < 1024) (hp : p < 10) : f_X12_bitOf (x : Int) (p : Int) = if x.testBit p = true then 1 else 0 := by
  have h : ∀ (x : Fin 1024) (p : Fin 10), f_X12_bitOf ((x.1 : Nat) : Int) ((p.1 : Nat) : Int) = if x.1.testBit p.1 = true then 1 else 0 := by decide +kernel
  exact h ⟨x, hx⟩ ⟨p, hp⟩
theorem pd_bTest (x p q : Nat) : (x ||| 2 ^ p).testBit q = (x.testBit q || decide (p = q)) := by
  rw [Nat.testBit_or, Nat.testBit_two_pow]
def pd_tMost (s : Nat) : Nat := [4, 3, 10, 3].getD s 0
def pd_tBase (s : Nat) : Nat := [20, 24, 27, 37].getD s 0
def pd_TBits (x y : Nat → Int) : Prop := ∃ X Y : Nat → Nat, (∀ t, t < 3 → x t = ((X t : Nat) : Int) ∧ X t < 1024) ∧ (∀ p, p < 10 → y p = ((Y p : Nat) : Int) ∧ Y p < 1024) ∧ ∀ p t, p < 10 → t < 3 → (X t).testBit p = (Y p).testBit t
/-- what both have read of the town is alike -/
def pd_TS (s0 : Nat) (H K : hH) : Prop :=
  (∀ s, s < 4 → ∃ n : Nat, (if s = s0 then n + 1 else n) ≤ pd_tMost s ∧ H.1 61 s = (((if s = s0 then n + 1 else n : Nat)) : Int) ∧ K.1 32 s = (n : Int)) ∧
  (∀ s i : Nat, s < 4 → (i : Int) < H.1 61 s → ∃ r, pd_vR r ∧ H.2.1 62 (10 * s + i) = pd_tF5 r ∧ K.2.1 34 (pd_tBase s + i) = pd_tF8 r) ∧
  pd_TBits (fun t => H.1 65 t) (fun p => K.1 32 (35 + p)) ∧ pd_TBits (fun m => H.1 54 m) (fun p => K.1 32 (45 + p)) ∧
  (∀ p m, p < 10 → m < 3 → H.1 64 (3 * p + m) = K.1 32 (55 + (3 * p + m)) ∧ 0 ≤ H.1 64 (3 * p + m)) ∧
  (∀ p, p < 10 → H.1 63 p = K.1 32 (24 + p))
theorem pd_tMost_le {s : Nat} (h : s < 4) : pd_tMost s ≤ 10 := by
  match s, h with
  | 0, _ => decide
  | 1, _ => decide
  | 2, _ => decide
  | 3, _ => decide
theorem pd_ix5 {s i : Nat} (hs : s < 4) (hi : i < 10) : (iAdd (iMul (s : Int) 10) (i : Int)).toNat = 10 * s + i := by
  have h : ∀ (s : Fin 4) (i : Fin 10), (iAdd (iMul ((s.1 : Nat) : Int) 10) ((i.1 : Nat) : Int)).toNat = 10 * s.1 + i.1 := by decide
  exact h ⟨s, hs⟩ ⟨i, hi⟩
theorem pd_ix8 {s i : Nat} (hs : s < 4) (hi : i < 10) : (iAdd ((pd_tBase s : Nat) : Int) (i : Int)).toNat = pd_tBase s + i := by
  have h : ∀ (s : Fin 4) (i : Fin 10), (iAdd ((pd_tBase s.1 : Nat) : Int) ((i.1 : Nat) : Int)).toNat = pd_tBase s.1 + i.1 := by decide
  exact h ⟨s, hs⟩ ⟨i, hi⟩
theorem pd_TS_find {s0 : Nat} {H K : hH} (h : pd_TS s0 H K) {s : Nat} (hs : s < 4) (hs0 : s ≠ s0) {r : List Int} (hr : pd_vR r) (hw : K.2.1 29 17 = pd_tF8 r) : f_X10_numberOf (pd_tF5 r) (s : Int) H = f_X12_find ((pd_tBase s : Nat) : Int) (K.1 32 s) K ∧ (f_X10_numberOf (pd_tF5 r) (s : Int) H = -1 ∨ ∃ n : Nat, f_X10_numberOf (pd_tF5 r) (s : Int) H = (n : Int) ∧ (n : Int) < H.1 61 s ∧ n < pd_tMost s) := by
  obtain ⟨n, h1, h2, h3⟩ := h.1 s hs
  rw [if_neg hs0] at h1 h2
  have hm := pd_tMost_le hs
  unfold f_X10_numberOf f_X12_find
  rw [Int.toNat_natCast, h2, h3, Int.toNat_natCast]
  refine ⟨pd_fstI_congr n 0 (fun j _ hj => ?_), ?_⟩
  · rw [pd_ix5 hs (by omega), pd_ix8 hs (by omega), hw]
    obtain ⟨r', q1, q2, q3⟩ := h.2.1 s j hs (by rw [h2]; omega)
    rw [q2, q3]
    rw [decide_eq_decide, pd_tF5_inj q1 hr, pd_tF8_inj q1 hr]
  · rcases pd_fstI_spec (p := fun i => decide (H.2.1 62 (iAdd (iMul (s : Int) 10) (i : Int)).toNat = pd_tF5 r)) n 0 with ⟨a, -⟩ | ⟨j, a, -, c, -⟩
    · exact Or.inl a
    · exact Or.inr ⟨j, a, by omega, by omega⟩
theorem pd_TS_keep {s0 : Nat} {H K H' K' : hH} (h : pd_TS s0 H K) (k1 : ∀ a b, (a = 54 ∨ a = 61 ∨ 63 ≤ a ∧ a ≤ 65) → H'.1 a b = H.1 a b) (k2 : ∀ b, H'.2.1 62 b = H.2.1 62 b) (k3 : ∀ b, (b < 4 ∨ 24 ≤ b ∧ b < 34 ∨ 35 ≤ b ∧ b < 85) → K'.1 32 b = K.1 32 b) (k4 : ∀ b, K'.2.1 34 b = K.2.1 34 b) : pd_TS s0 H' K' := by
  obtain ⟨h1, h2, ⟨X, Y, x1, x2, x3⟩, ⟨Z, W, z1, z2, z3⟩, h5, h6⟩ := h
  refine ⟨fun s hs => ?_, fun s i hs hi => ?_, ⟨X, Y, fun t ht => ⟨?_, (x1 t ht).2⟩, fun p hp => ⟨?_, (x2 p hp).2⟩, x3⟩, ⟨Z, W, fun t ht => ⟨?_, (z1 t ht).2⟩, fun p hp => ⟨?_, (z2 p hp).2⟩, z3⟩, fun p m hp hm => ?_, fun p hp => ?_⟩
  · obtain ⟨n, a, b, c⟩ := h1 s hs
    exact ⟨n, a, by rw [k1 61 s (by omega)]; exact b, by rw [k3 _ (by omega)]; exact c⟩
  · rw [k1 61 s (by omega)] at hi
    obtain ⟨r, a, b, c⟩ := h2 s i hs hi
    exact ⟨r, a, by rw [k2]; exact b, by rw [k4]; exact c⟩
  · show H'.1 65 t = _; rw [k1 65 t (by omega)]; exact (x1 t ht).1
  · show K'.1 32 (35 + p) = _; rw [k3 _ (by omega)]; exact (x2 p hp).1
  · show H'.1 54 t = _; rw [k1 54 t (by omega)]; exact (z1 t ht).1
  · show K'.1 32 (45 + p) = _; rw [k3 _ (by omega)]; exact (z2 p hp).1
  · rw [k1 64 _ (by omega), k3 _ (by omega)]; exact h5 p m hp hm
  · rw [k1 63 _ (by omega), k3 _ (by omega)]; exact h6 p hp
/-- both told the same fault -/
def pd_FL (H K : hH) : Prop := H.1 4 13 = K.1 29 15 ∧ H.1 4 14 = K.1 29 16 ∧ H.1 4 13 ≠ 0
theorem pd_FL_fail {B : Nat → Int} {lim N T c : Nat} {H K : hH} (h : pd_LC B lim N T c H) (h' : pd_LR B lim N c K) {f : Int} (hf : f ≠ 0) : pd_FL (f_X9_fail f H).2 (f_X12_bad f K).2 := by
  obtain ⟨-, -, -, -, -, -, ⟨-, -, -, t4⟩, -⟩ := h
  obtain ⟨-, -, -, -, ⟨-, -, -, r4⟩, -⟩ := h'
  refine ⟨?_, ?_, ?_⟩
  · simp [f_X9_fail, f_X12_bad, upI]
  · simp [f_X9_fail, f_X12_bad, upI, t4, r4]
  · simp [f_X9_fail, upI, hf]
theorem pd_LR_18 {B : Nat → Int} {lim N c : Nat} {K : hH} (h : pd_LR B lim N c K) (v : Int) : pd_LR B lim N c (upI K 29 18 v) := by
  refine pd_LR_keep h (fun b => ?_) (fun b => by simp [upI]) (fun b => rfl) (fun b => rfl)
  by_cases e : b = 18
  · right; omega
  · left; simp only [upI]; rw [if_neg (by omega)]
/-- a name of a sort is looked up -/
theorem pd_pNamed {B : Nat → Int} {lim N T c : Nat} {H K : hH} (h : pd_LC B lim N T c H) (h' : pd_LR B lim N c K) {s0 : Nat} (ht : pd_TS s0 H K) {s : Nat} (hs : s < 4) (hs0 : s ≠ s0) :
    ((f_X9_named s H).1 = -1 ∧ (f_X12_looksAt ((pd_tBase s : Nat) : Int) (K.1 32 s) K).1 = 0 ∧ pd_FL (f_X9_named s H).2 (f_X12_looksAt ((pd_tBase s : Nat) : Int) (K.1 32 s) K).2) ∨
    ∃ n : Nat, f_X9_named s H = ((n : Int), H) ∧ f_X12_looksAt ((pd_tBase s : Nat) : Int) (K.1 32 s) K = (1, upI K 29 18 (n : Int)) ∧ (n : Int) < H.1 61 s ∧ n < pd_tMost s ∧ 2 ≤ (pd_tTok B lim N c).1 := by
  have hc := h.2.2.2.2.2.2.1
  have hr := h'.2.2.2.2.1
  have hok := pd_tTok_ok (B := B) (lim := lim) (N := N) c
  unfold f_X9_named f_X12_looksAt
  rw [hc.1, pd_tR_name hr hok h'.2.2.2.2.2]
  by_cases h5 : (pd_tTok B lim N c).1 = 5
  · rw [if_pos (show (((pd_tTok B lim N c).1 : Nat) : Int) = 5 by omega), if_pos h5, if_neg (show ¬ (1 : Int) = 0 by omega), hc.2.2.1 h5]
    obtain ⟨e1, e2⟩ := pd_TS_find ht hs hs0 (hok.2.2 h5).1 (hr.2.2.1 (Or.inr h5))
    rw [← e1]
    rcases e2 with e2 | ⟨n, e2, e3, e4⟩
    · left
      rw [e2, if_pos rfl, if_pos (show (-1 : Int) < 0 by omega), if_pos (show (f_X12_bad 3 (upI K 29 18 (-1))).1 = 0 from rfl)]
      exact ⟨rfl, rfl, pd_FL_fail h (pd_LR_18 h' _) (by omega)⟩
    · right
      rw [e2, if_neg (by omega), if_neg (by omega)]
      exact ⟨n, rfl, rfl, e3, e4, by omega⟩
  · left
    rw [if_neg (show ¬ (((pd_tTok B lim N c).1 : Nat) : Int) = 5 by omega), if_neg h5, if_pos rfl]
    exact ⟨rfl, rfl, pd_FL_fail h h' (by omega)⟩
/-- a number is passed -/
theorem pd_pNumber {B : Nat → Int} {lim N T c : Nat} {H K : hH} (h : pd_LC B lim N T c H) (h' : pd_LR B lim N c K) (lo hi : Int) :
    ((f_X9_passNumber lo hi H).1 = -1 ∧ (f_X12_takes lo hi K).1 = 0 ∧ pd_FL (f_X9_passNumber lo hi H).2 (f_X12_takes lo hi K).2) ∨
    ∃ n : Int, f_X9_passNumber lo hi H = (n, f_X9_advance H) ∧ f_X12_takes lo hi K = (1, f_X12_next (upI K 29 18 n)) ∧ lo ≤ n ∧ n ≤ hi ∧ 2 ≤ (pd_tTok B lim N c).1 := by
  have hc := h.2.2.2.2.2.2.1
  have hr := h'.2.2.2.2.1
  have hok := pd_tTok_ok (B := B) (lim := lim) (N := N) c
  unfold f_X9_passNumber f_X12_takes
  by_cases h3 : (pd_tTok B lim N c).1 = 3
  · rw [hc.1, if_pos (show (((pd_tTok B lim N c).1 : Nat) : Int) = 3 by omega), if_pos ((pd_tR_kd hr hok).2.2.2.mpr h3), hc.2.1 (by omega), hr.2.1 (by omega)]
    unfold f_X11_isWithin f_X12_isIn
    by_cases a1 : (pd_tTok B lim N c).2.1 < lo
    · left
      rw [if_pos a1, if_pos rfl, if_pos rfl]
      exact ⟨rfl, rfl, pd_FL_fail h h' (by omega)⟩
    · by_cases a2 : hi < (pd_tTok B lim N c).2.1
      · left
        rw [if_neg a1, if_pos a2, if_pos rfl, if_pos rfl]
        exact ⟨rfl, rfl, pd_FL_fail h h' (by omega)⟩
      · right
        rw [if_neg a1, if_neg a2, if_neg (by omega), if_neg (by omega)]
        exact ⟨_, rfl, rfl, by omega, by omega, by omega⟩
  · left
    rw [hc.1, if_neg (show ¬ (((pd_tTok B lim N c).1 : Nat) : Int) = 3 by omega), if_neg (fun q => h3 ((pd_tR_kd hr hok).2.2.2.mp q))]
    exact ⟨rfl, rfl, pd_FL_fail h h' (by omega)⟩
/-- a sign is passed -/
theorem pd_pSign {B : Nat → Int} {lim N T c : Nat} {H K : hH} (h : pd_LC B lim N T c H) (h' : pd_LR B lim N c K) (v : Int) :
    ((f_X9_passSign v H).1 = 0 ∧ (f_X12_sign v K).1 = 0 ∧ pd_FL (f_X9_passSign v H).2 (f_X12_sign v K).2) ∨
    f_X9_passSign v H = (1, f_X9_advance H) ∧ f_X12_sign v K = (1, f_X12_next K) ∧ 2 ≤ (pd_tTok B lim N c).1 := by
  have hc := h.2.2.2.2.2.2.1
  have hr := h'.2.2.2.2.1
  have hok := pd_tTok_ok (B := B) (lim := lim) (N := N) c
  unfold f_X9_passSign f_X12_sign f_X9_isAtSign f_X12_isSign
  by_cases h2 : (pd_tTok B lim N c).1 = 2
  · rw [hc.1, if_pos (show (((pd_tTok B lim N c).1 : Nat) : Int) = 2 by omega), if_pos ((pd_tR_kd hr hok).2.2.1.mpr h2), hc.2.1 (by omega), hr.2.1 (by omega)]
    by_cases e : (pd_tTok B lim N c).2.1 = v
    · right
      rw [if_pos e, if_neg (by omega), if_neg (by omega)]
      exact ⟨rfl, rfl, by omega⟩
    · left
      rw [if_neg e, if_pos rfl, if_pos rfl]
      exact ⟨rfl, rfl, pd_FL_fail h h' (by omega)⟩
  · left
    rw [hc.1, if_neg (show ¬ (((pd_tTok B lim N c).1 : Nat) : Int) = 2 by omega), if_neg (fun q => h2 ((pd_tR_kd hr hok).2.2.1.mp q)), if_pos rfl, if_pos rfl]
    exact ⟨rfl, rfl, pd_FL_fail h h' (by omega)⟩
