/-! Both sides read a sentence alike: tokens, names (by hand). -/
set_option linter.unusedSimpArgs false
def sn_base (s : Nat) : Nat := [0, 4, 7, 17].getD s 0
/-- the names of the district are alike -/
def sN (H K : hH) : Prop := ∀ s, s < 4 → ∃ n : Nat, n ≤ pd_tMost s ∧ H.1 53 s = (n : Int) ∧ K.1 31 s = (n : Int) ∧ ∀ i, i < n → ∃ r, pd_vR r ∧ H.2.1 54 (10 * s + i) = pd_tF5 r ∧ K.2.1 34 (sn_base s + i) = pd_tF8 r
theorem sN_keep {H K H' K' : hH} (h : sN H K) (k1 : ∀ b, H'.1 53 b = H.1 53 b) (k2 : ∀ b, H'.2.1 54 b = H.2.1 54 b) (k3 : ∀ b, b < 4 → K'.1 31 b = K.1 31 b) (k4 : ∀ b, K'.2.1 34 b = K.2.1 34 b) : sN H' K' := by
  intro s hs
  obtain ⟨n, a, b, c, d⟩ := h s hs
  refine ⟨n, a, by rw [k1]; exact b, by rw [k3 s hs]; exact c, fun i hi => ?_⟩
  obtain ⟨r, e1, e2, e3⟩ := d i hi
  exact ⟨r, e1, by rw [k2]; exact e2, by rw [k4]; exact e3⟩
theorem sn_ix {s i : Nat} (hs : s < 4) (hi : i < 10) : (iAdd ((sn_base s : Nat) : Int) (i : Int)).toNat = sn_base s + i := by
  have h : ∀ (s : Fin 4) (i : Fin 10), (iAdd ((sn_base s.1 : Nat) : Int) ((i.1 : Nat) : Int)).toNat = sn_base s.1 + i.1 := by decide
  exact h ⟨s, hs⟩ ⟨i, hi⟩
section SN
variable {B : Nat → Int} {lim N T c : Nat} {H K : hH}
theorem sn_find (h : sN H K) {s : Nat} (hs : s < 4) {r : List Int} (hr : pd_vR r) (hw : K.2.1 29 17 = pd_tF8 r) : f_Y10_numberOf (pd_tF5 r) (s : Int) H = f_X12_find ((sn_base s : Nat) : Int) (K.1 31 s) K ∧ (f_Y10_numberOf (pd_tF5 r) (s : Int) H = -1 ∨ ∃ n : Nat, f_Y10_numberOf (pd_tF5 r) (s : Int) H = (n : Int)) := by
  obtain ⟨n, h1, h2, h3, h4⟩ := h s hs
  have hm := pd_tMost_le hs
  unfold f_Y10_numberOf f_X12_find
  rw [Int.toNat_natCast, h2, h3, Int.toNat_natCast]
  refine ⟨pd_fstI_congr n 0 (fun j _ hj => ?_), ?_⟩
  · rw [pd_ix5 hs (by omega), sn_ix hs (by omega), hw]
    obtain ⟨r', q1, q2, q3⟩ := h4 j (by omega)
    rw [q2, q3]
    rw [decide_eq_decide, pd_tF5_inj q1 hr, pd_tF8_inj q1 hr]
  · rcases pd_fstI_spec (p := fun i => decide (H.2.1 54 (iAdd (iMul (s : Int) 10) (i : Int)).toNat = pd_tF5 r)) n 0 with ⟨a, -⟩ | ⟨j, a, -, c, -⟩
    · exact Or.inl a
    · exact Or.inr ⟨j, a⟩
/-- a name of a sort is looked up -/
theorem sn_named (h : pd_LC B lim N T c H) (h' : pd_LR B lim N c K) (hn : sN H K) {s : Nat} (hs : s < 4) :
    ((f_Y9_named s H).1 = -1 ∧ (f_X12_looksAt ((sn_base s : Nat) : Int) (K.1 31 s) K).1 = 0 ∧ pd_FL (f_Y9_named s H).2 (f_X12_looksAt ((sn_base s : Nat) : Int) (K.1 31 s) K).2) ∨
    ∃ n : Nat, f_Y9_named s H = ((n : Int), H) ∧ f_X12_looksAt ((sn_base s : Nat) : Int) (K.1 31 s) K = (1, upI K 29 18 (n : Int)) ∧ 2 ≤ (pd_tTok B lim N c).1 := by
  have hc := h.2.2.2.2.2.2.1
  have hr := h'.2.2.2.2.1
  have hok := pd_tTok_ok (B := B) (lim := lim) (N := N) c
  unfold f_Y9_named f_X12_looksAt
  rw [hc.1, pd_tR_name hr hok h'.2.2.2.2.2]
  by_cases h5 : (pd_tTok B lim N c).1 = 5
  · rw [if_pos (show (((pd_tTok B lim N c).1 : Nat) : Int) = 5 by omega), if_pos h5, if_neg (show ¬ (1 : Int) = 0 by omega), hc.2.2.1 h5]
    obtain ⟨e1, e2⟩ := sn_find hn hs (hok.2.2 h5).1 (hr.2.2.1 (Or.inr h5))
    rw [← e1]
    rcases e2 with e2 | ⟨n, e2⟩
    · left
      rw [e2, if_pos rfl, if_pos (show (-1 : Int) < 0 by omega), if_pos (show (f_X12_bad 3 (upI K 29 18 (-1))).1 = 0 from rfl)]
      exact ⟨rfl, rfl, pd_FL_fail h (pd_LR_18 h' _) (by omega)⟩
    · right
      rw [e2, if_neg (by omega), if_neg (by omega)]
      exact ⟨n, rfl, rfl, by omega⟩
  · left
    rw [if_neg (show ¬ (((pd_tTok B lim N c).1 : Nat) : Int) = 5 by omega), if_neg h5, if_pos rfl]
    exact ⟨rfl, rfl, pd_FL_fail h h' (by omega)⟩
theorem sn_at (h : pd_LC B lim N T c H) (v : Int) : f_X9_isAtSign v H = if (pd_tTok B lim N c).1 = 2 ∧ (pd_tTok B lim N c).2.1 = v then 1 else 0 := by
  have hc := h.2.2.2.2.2.2.1
  unfold f_X9_isAtSign
  by_cases h2 : (pd_tTok B lim N c).1 = 2
  · rw [hc.1, if_pos (show (((pd_tTok B lim N c).1 : Nat) : Int) = 2 by omega), hc.2.1 (by omega)]
    by_cases e : (pd_tTok B lim N c).2.1 = v
    · rw [if_pos e, if_pos ⟨h2, e⟩]
    · rw [if_neg e, if_neg (fun q => e q.2)]
  · rw [hc.1, if_neg (show ¬ (((pd_tTok B lim N c).1 : Nat) : Int) = 2 by omega), if_neg (fun q => h2 q.1)]
theorem sn_is (h' : pd_LR B lim N c K) (v : Int) : f_X12_isSign v K = if (pd_tTok B lim N c).1 = 2 ∧ (pd_tTok B lim N c).2.1 = v then 1 else 0 := by
  have hr := h'.2.2.2.2.1
  have hok := pd_tTok_ok (B := B) (lim := lim) (N := N) c
  unfold f_X12_isSign
  by_cases h2 : (pd_tTok B lim N c).1 = 2
  · rw [if_pos ((pd_tR_kd hr hok).2.2.1.mpr h2), hr.2.1 (by omega)]
    by_cases e : (pd_tTok B lim N c).2.1 = v
    · rw [if_pos e, if_pos ⟨h2, e⟩]
    · rw [if_neg e, if_neg (fun q => e q.2)]
  · rw [if_neg (fun q => h2 ((pd_tR_kd hr hok).2.2.1.mp q)), if_neg (fun q => h2 q.1)]
/-- the token is the word i -/
abbrev sW (B : Nat → Int) (lim N c : Nat) (i : Nat) : Prop := (pd_tTok B lim N c).1 = 4 ∧ (pd_tTok B lim N c).2.1 = (i : Int)
theorem sn_wd (h' : pd_LR B lim N c K) {i : Nat} (hi : i < 23) {w : Int64} (hw : w = pd_tF8 (pd_tW.getD i [])) : f_X12_isWord w K = if sW B lim N c i then 1 else 0 := pd_tR_word h'.2.2.2.2.1 (pd_tTok_ok c) hi hw
theorem sn_wc (h : pd_LC B lim N T c H) (i : Nat) : f_X9_isAtWord (i : Int) H = if sW B lim N c i then 1 else 0 := by
  have hc := h.2.2.2.2.2.2.1
  unfold f_X9_isAtWord
  by_cases h4 : (pd_tTok B lim N c).1 = 4
  · rw [hc.1, if_pos (show (((pd_tTok B lim N c).1 : Nat) : Int) = 4 by omega), hc.2.1 (by omega)]
    by_cases e : (pd_tTok B lim N c).2.1 = (i : Int)
    · rw [if_pos e, if_pos (show sW B lim N c i from ⟨h4, e⟩)]
    · rw [if_neg e, if_neg (show ¬ sW B lim N c i from fun q => e q.2)]
  · rw [hc.1, if_neg (show ¬ (((pd_tTok B lim N c).1 : Nat) : Int) = 4 by omega), if_neg (show ¬ sW B lim N c i from fun q => h4 q.1)]
theorem sn_leaf (h' : pd_LR B lim N c K) : f_X12_leafOf K = if sW B lim N c 9 then 0 else if sW B lim N c 7 then 1 else if sW B lim N c 8 then 2 else if sW B lim N c 5 then 3 else if sW B lim N c 19 then 4 else if sW B lim N c 4 then 5 else if sW B lim N c 20 then 6 else if sW B lim N c 21 then 7 else if sW B lim N c 22 then 8 else -1 := by
  have hf : ∀ {x : Int} {p : Prop} [Decidable p] {a b : Int}, x = (if p then 1 else 0) → (if x = 0 then a else b) = if p then b else a := by
    intro x p _ a b e
    rw [e]
    by_cases hp : p
    · rw [if_pos hp, if_pos hp, if_neg (by omega)]
    · rw [if_neg hp, if_neg hp, if_pos rfl]
  unfold f_X12_leafOf
  rw [hf (sn_wd h' (i := 9) (by omega) (by decide)), hf (sn_wd h' (i := 7) (by omega) (by decide)), hf (sn_wd h' (i := 8) (by omega) (by decide)), hf (sn_wd h' (i := 5) (by omega) (by decide)), hf (sn_wd h' (i := 19) (by omega) (by decide)), hf (sn_wd h' (i := 4) (by omega) (by decide)), hf (sn_wd h' (i := 20) (by omega) (by decide)), hf (sn_wd h' (i := 21) (by omega) (by decide)), hf (sn_wd h' (i := 22) (by omega) (by decide))]
theorem sn_dn (n b : Nat) (hn : n < 100) (hb : b < 10) : pd_tDn (n : Int) (((48 + b : Nat) : Int)) = ((10 * n + b : Nat) : Int) := by
  have h : ∀ (n : Fin 100) (b : Fin 10), pd_tDn ((n.1 : Nat) : Int) (((48 + b.1 : Nat) : Int)) = ((10 * n.1 + b.1 : Nat) : Int) := by decide +kernel
  exact h ⟨n, hn⟩ ⟨b, hb⟩
theorem sn_num : ∀ (r : List Int) (n : Nat), r.all pd_tDg = true → (∃ k, k ≤ 3 ∧ r.length ≤ k ∧ n < 10 ^ (3 - k)) → ∃ m : Nat, r.foldl pd_tDn (n : Int) = (m : Int) ∧ m < 1000
  | [], n, _, h => by
    obtain ⟨k, h1, -, h3⟩ := h
    refine ⟨n, rfl, Nat.lt_of_lt_of_le h3 (Nat.pow_le_pow_right (n := 10) (by omega) (show 3 - k ≤ 3 by omega))⟩
  | b :: r, n, ha, h => by
    obtain ⟨k, h1, h2, h3⟩ := h
    rw [List.all_cons, Bool.and_eq_true] at ha
    have hb := pd_tDg_iff.mp ha.1
    rw [List.length_cons] at h2
    obtain ⟨d, rfl⟩ : ∃ d : Nat, b = ((48 + d : Nat) : Int) := ⟨(b - 48).toNat, by omega⟩
    have hp : n < 100 := Nat.lt_of_lt_of_le h3 (Nat.pow_le_pow_right (n := 10) (by omega) (show 3 - k ≤ 2 by omega))
    rw [List.foldl_cons, sn_dn n d hp (by omega)]
    refine sn_num r (10 * n + d) ha.2 ⟨k - 1, by omega, by omega, ?_⟩
    have e : 10 ^ (3 - (k - 1)) = 10 * 10 ^ (3 - k) := by
      rw [show 3 - (k - 1) = (3 - k) + 1 by omega, Nat.pow_succ, Nat.mul_comm]
    rw [e]
    omega
theorem sn_rng (h3 : (pd_tTok B lim N c).1 = 3) : 0 ≤ (pd_tTok B lim N c).2.1 ∧ (pd_tTok B lim N c).2.1 ≤ 999 := by
  unfold pd_tTok pd_tNx at h3 ⊢
  generalize pd_tSkip B (N - pd_tPos B lim N c) (pd_tPos B lim N c) = p at h3 ⊢
  unfold pd_tTk at h3 ⊢
  by_cases e1 : lim < N ∧ lim ≤ p
  · rw [if_pos e1] at h3; cases h3
  · rw [if_neg e1] at h3 ⊢
    by_cases e2 : N ≤ p
    · rw [if_pos e2] at h3; cases h3
    · rw [if_neg e2] at h3 ⊢
      by_cases e3 : pd_tAn (B p) = true
      · rw [if_pos e3] at h3 ⊢
        dsimp only at h3 ⊢
        generalize pd_tRun B (N - p) p = r at h3 ⊢
        unfold pd_tRT at h3 ⊢
        by_cases e4 : r.all pd_tLt = true ∧ r.length ≤ 7
        · rw [if_pos e4] at h3
          split at h3 <;> cases h3
        · rw [if_neg e4] at h3 ⊢
          by_cases e5 : r.all pd_tDg = true ∧ r.length ≤ 3
          · rw [if_pos e5]
            obtain ⟨m, m1, m2⟩ := sn_num r 0 e5.1 ⟨3, by omega, e5.2, by decide⟩
            have m1 : r.foldl pd_tDn 0 = (m : Int) := m1
            dsimp only
            rw [m1]
            omega
          · rw [if_neg e5] at h3
            cases h3
      · rw [if_neg e3] at h3
        dsimp only at h3
        split at h3 <;> cases h3
/-- a token that can be passed stands ahead of the limit -/
theorem sn_pos : ∀ c, 2 ≤ (pd_tTok B lim N c).1 → N ≤ lim ∨ pd_tPos B lim N c < lim := fun c h => by
  unfold pd_tTok pd_tNx at h
  have hs := (pd_tSkip_le (B := B) (N - pd_tPos B lim N c) (pd_tPos B lim N c)).1
  generalize pd_tSkip B (N - pd_tPos B lim N c) (pd_tPos B lim N c) = p at h hs
  unfold pd_tTk at h
  by_cases e1 : lim < N ∧ lim ≤ p
  · rw [if_pos e1] at h
    exact absurd h (by dsimp only; omega)
  · omega
end SN
