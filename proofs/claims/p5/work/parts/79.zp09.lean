/-! Both sides read a text alike (by hand), 9. -/
set_option maxRecDepth 100000
set_option linter.unusedSimpArgs false
theorem pd_pWord {B : Nat → Int} {lim N T c : Nat} {H K : hH} (h : pd_LC B lim N T c H) (h' : pd_LR B lim N c K) {i : Nat} (hi : i < 23) {w : Int64} (hw : w = pd_tF8 (pd_tW.getD i [])) : f_X9_isAtWord (i : Int) H = (if (pd_tTok B lim N c).1 = 4 ∧ (pd_tTok B lim N c).2.1 = (i : Int) then 1 else 0) ∧ f_X12_isWord w K = (if (pd_tTok B lim N c).1 = 4 ∧ (pd_tTok B lim N c).2.1 = (i : Int) then 1 else 0) := by
  have hc := h.2.2.2.2.2.2.1
  refine ⟨?_, pd_tR_word h'.2.2.2.2.1 (pd_tTok_ok c) hi hw⟩
  unfold f_X9_isAtWord
  by_cases h4 : (pd_tTok B lim N c).1 = 4
  · rw [hc.1, if_pos (show (((pd_tTok B lim N c).1 : Nat) : Int) = 4 by omega), hc.2.1 (by omega)]
    by_cases e : (pd_tTok B lim N c).2.1 = (i : Int)
    · rw [if_pos e, if_pos ⟨h4, e⟩]
    · rw [if_neg e, if_neg (fun q => e q.2)]
  · rw [hc.1, if_neg (show ¬ (((pd_tTok B lim N c).1 : Nat) : Int) = 4 by omega), if_neg (fun q => h4 q.1)]
theorem pd_to5 {s : Nat} (hs : s < 4) {n : Nat} (hn : n < 10) : (iAdd (iMul (s : Int) 10) (n : Int)).toNat = 10 * s + n := pd_ix5 hs hn
/-- a new name is read; the class counts it at once -/
theorem pd_pFresh {B : Nat → Int} {lim N T c : Nat} (hN : N ≤ 940) (hb : pd_hB8 B) {H K : hH} (h : pd_LC B lim N T c H) (h' : pd_LR B lim N c K) (ht : pd_TS 4 H K) {s n : Nat} (hs : s < 4) (hn : K.1 32 s = (n : Int)) (hm : n < pd_tMost s) :
    ((∀ R S : Int × hH, ((if H.1 4 10 = 5 then (if f_X10_isTold (H.2.1 4 12) H = 0 then R else ((f_X9_fail 3 H).1, (f_X9_fail 3 H).2)) else ((f_X9_fail 1 H).1, (f_X9_fail 1 H).2)) = S → S.1 = 0 ∧ pd_FL S.2 (f_X12_fresh (iAdd ((pd_tBase s : Nat) : Int) (n : Int)) K).2)) ∧ (f_X12_fresh (iAdd ((pd_tBase s : Nat) : Int) (n : Int)) K).1 = 0) ∨
    (H.1 4 10 = 5 ∧ f_X10_isTold (H.2.1 4 12) H = 0 ∧ (f_X10_addName (H.2.1 4 12) (s : Int) H).1 = (n : Int) ∧ ∃ K1, f_X12_fresh (iAdd ((pd_tBase s : Nat) : Int) (n : Int)) K = (1, K1) ∧ pd_LC B lim N T (c + 1) (f_X9_advance (f_X10_addName (H.2.1 4 12) (s : Int) H).2) ∧ pd_LR B lim N (c + 1) K1 ∧ pd_TS s (f_X9_advance (f_X10_addName (H.2.1 4 12) (s : Int) H).2) K1 ∧ (∀ b, K1.1 32 b = K.1 32 b) ∧ K1.1 29 19 = K.1 29 19 ∧ (f_X9_advance (f_X10_addName (H.2.1 4 12) (s : Int) H).2).2.2 = H.2.2) := by
  have hc := h.2.2.2.2.2.2.1
  have hr := h'.2.2.2.2.1
  have hok := pd_tTok_ok (B := B) (lim := lim) (N := N) c
  have hm10 := pd_tMost_le hs
  have eF : f_X12_fresh (iAdd ((pd_tBase s : Nat) : Int) (n : Int)) K = (if f_X12_isName K = 0 then ((f_X12_bad 1 K).1, (f_X12_bad 1 K).2) else if f_X12_find 20 (K.1 32 0) K < 0 then if f_X12_find 24 (K.1 32 1) K < 0 then if f_X12_find 27 (K.1 32 2) K < 0 then if f_X12_find 37 (K.1 32 3) K < 0 then (1, f_X12_next (upL K 34 (pd_tBase s + n) (K.2.1 29 17))) else ((f_X12_bad 3 K).1, (f_X12_bad 3 K).2) else ((f_X12_bad 3 K).1, (f_X12_bad 3 K).2) else ((f_X12_bad 3 K).1, (f_X12_bad 3 K).2) else ((f_X12_bad 3 K).1, (f_X12_bad 3 K).2)) := by
    unfold f_X12_fresh; rw [pd_ix8 hs (by omega)]
  rw [eF, pd_tR_name hr hok h'.2.2.2.2.2, hc.1]
  by_cases h5 : (pd_tTok B lim N c).1 = 5
  · rw [if_pos h5, if_neg (show ¬ (1 : Int) = 0 by omega)]
    have hv := (hok.2.2 h5).1
    have hw := hr.2.2.1 (Or.inr h5)
    rw [hc.2.2.1 h5]
    obtain ⟨a0, b0⟩ := pd_TS_find ht (s := 0) (by omega) (by omega) hv hw
    obtain ⟨a1, b1⟩ := pd_TS_find ht (s := 1) (by omega) (by omega) hv hw
    obtain ⟨a2, b2⟩ := pd_TS_find ht (s := 2) (by omega) (by omega) hv hw
    obtain ⟨a3, b3⟩ := pd_TS_find ht (s := 3) (by omega) (by omega) hv hw
    have a0 : f_X10_numberOf (pd_tF5 (pd_tTok B lim N c).2.2.1) ((0 : Nat) : Int) H = f_X12_find 20 (K.1 32 0) K := a0
    have a1 : f_X10_numberOf (pd_tF5 (pd_tTok B lim N c).2.2.1) ((1 : Nat) : Int) H = f_X12_find 24 (K.1 32 1) K := a1
    have a2 : f_X10_numberOf (pd_tF5 (pd_tTok B lim N c).2.2.1) ((2 : Nat) : Int) H = f_X12_find 27 (K.1 32 2) K := a2
    have a3 : f_X10_numberOf (pd_tF5 (pd_tTok B lim N c).2.2.1) ((3 : Nat) : Int) H = f_X12_find 37 (K.1 32 3) K := a3
    rcases pd_anyI_spec (p := fun i => decide (¬ f_X10_numberOf (pd_tF5 (pd_tTok B lim N c).2.2.1) (i : Int) H = -1)) 4 0 with ⟨q1, q2⟩ | ⟨q1, j, -, q3, q4⟩
    · right
      have z : ∀ j : Nat, j < 4 → f_X10_numberOf (pd_tF5 (pd_tTok B lim N c).2.2.1) (j : Int) H = -1 := by
        intro j hj
        have := q2 j (by omega) (by omega)
        simpa using this
      rw [← a0, ← a1, ← a2, ← a3, z 0 (by omega), z 1 (by omega), z 2 (by omega), z 3 (by omega)]
      simp only [show (-1 : Int) < 0 from by omega, if_true]
      have hcnt := ht.1 s hs
      obtain ⟨n', g1, g2, g3⟩ := hcnt
      rw [if_neg (show ¬ s = 4 by omega)] at g1 g2
      have en : n' = n := by rw [hn] at g3; omega
      subst en
      have eA : f_X10_addName (pd_tF5 (pd_tTok B lim N c).2.2.1) (s : Int) H = ((n' : Int), upI (upL H 62 (10 * s + n') (pd_tF5 (pd_tTok B lim N c).2.2.1)) 61 s ((n' + 1 : Nat) : Int)) := by
        unfold f_X10_addName
        rw [Int.toNat_natCast, g2, pd_ix5 hs (by omega), pd_iad1 (by omega)]
      rw [eA]
      have hl1 : pd_LC B lim N T c (upI (upL H 62 (10 * s + n') (pd_tF5 (pd_tTok B lim N c).2.2.1)) 61 s ((n' + 1 : Nat) : Int)) := pd_LC_keep h (fun a b h1 h2 => by simp only [upI, upL]; rw [if_neg (by omega)]) (fun a b h1 h2 => by simp only [upI, upL]; rw [if_neg (by omega)])
      obtain ⟨l1, l2, l3, l4⟩ := pd_LC_adv hl1 (by omega)
      have hl2 : pd_LR B lim N c (upL K 34 (pd_tBase s + n') (K.2.1 29 17)) := pd_LR_keep h' (fun b => Or.inl rfl) (fun b => rfl) (fun b => by simp only [upL]; rw [if_neg (by omega)]) (fun b => by simp only [upL]; rw [if_neg (by omega)])
      obtain ⟨m1, m2⟩ := pd_LR_next hN hb hl2
      refine ⟨by omega, q1, rfl, _, rfl, l1, m1, ?_, fun b => ?_, ?_, ?_⟩
      · obtain ⟨t1, t2, ⟨X, Y, x1, x2, x3⟩, ⟨Z, W, z1, z2, z3⟩, t5, t6⟩ := ht
        have kH : ∀ a b, a ≠ 4 → ¬ (a = 61 ∧ b = s) → (f_X9_advance (upI (upL H 62 (10 * s + n') (pd_tF5 (pd_tTok B lim N c).2.2.1)) 61 s ((n' + 1 : Nat) : Int))).1 a b = H.1 a b := by
          intro a b n1 n2
          rw [l2 a b (by omega)]
          simp only [upI, upL]; rw [if_neg n2]
        have kHs : (f_X9_advance (upI (upL H 62 (10 * s + n') (pd_tF5 (pd_tTok B lim N c).2.2.1)) 61 s ((n' + 1 : Nat) : Int))).1 61 s = ((n' + 1 : Nat) : Int) := by
          rw [l2 61 s (by omega)]; simp [upI, upL]
        have kL : ∀ b, (f_X9_advance (upI (upL H 62 (10 * s + n') (pd_tF5 (pd_tTok B lim N c).2.2.1)) 61 s ((n' + 1 : Nat) : Int))).2.1 62 b = if b = 10 * s + n' then pd_tF5 (pd_tTok B lim N c).2.2.1 else H.2.1 62 b := by
          intro b
          rw [l3 62 b (by omega)]
          simp only [upI, upL]
          by_cases e : b = 10 * s + n'
          · simp [e]
          · simp [e]
        have kK : ∀ b, (f_X12_next (upL K 34 (pd_tBase s + n') (K.2.1 29 17))).1 32 b = K.1 32 b := fun b => by rw [m2.1 32 b (by omega)]; rfl
        have kKL : ∀ b, (f_X12_next (upL K 34 (pd_tBase s + n') (K.2.1 29 17))).2.1 34 b = if b = pd_tBase s + n' then pd_tF8 (pd_tTok B lim N c).2.2.1 else K.2.1 34 b := by
          intro b
          rw [m2.2.1 34 b (by omega)]
          simp only [upL]
          by_cases e : b = pd_tBase s + n'
          · simp [e, hw]
          · simp [e]
        refine ⟨fun s' hs' => ?_, fun s' i hs' hi => ?_, ⟨X, Y, fun t ht => ⟨?_, (x1 t ht).2⟩, fun p hp => ⟨?_, (x2 p hp).2⟩, x3⟩, ⟨Z, W, fun t ht => ⟨?_, (z1 t ht).2⟩, fun p hp => ⟨?_, (z2 p hp).2⟩, z3⟩, fun p m hp hm => ?_, fun p hp => ?_⟩
        · by_cases e : s' = s
          · subst e
            exact ⟨n', by rw [if_pos rfl]; omega, by rw [if_pos rfl]; exact kHs, by rw [kK]; exact g3⟩
          · obtain ⟨n9, w1, w2, w3⟩ := t1 s' hs'
            rw [if_neg (show ¬ s' = 4 by omega)] at w1 w2
            exact ⟨n9, by rw [if_neg e]; exact w1, by rw [if_neg e, kH 61 s' (by omega) (by omega)]; exact w2, by rw [kK]; exact w3⟩
        · by_cases e : s' = s ∧ i = n'
          · obtain ⟨rfl, rfl⟩ := e
            exact ⟨_, hv, by rw [kL, if_pos rfl], by rw [kKL, if_pos rfl]⟩
          · have hi2 : (i : Int) < H.1 61 s' := by
              by_cases e2 : s' = s
              · subst e2; rw [kHs] at hi; rw [g2]; have : i ≠ n' := fun q => e ⟨rfl, q⟩; omega
              · rw [kH 61 s' (by omega) (by omega)] at hi; exact hi
            obtain ⟨r, w1, w2, w3⟩ := t2 s' i hs' hi2
            obtain ⟨n9, v1, v2, v3⟩ := t1 s' hs'
            rw [if_neg (show ¬ s' = 4 by omega)] at v1 v2
            have hi3 : i < pd_tMost s' := by rw [v2] at hi2; omega
            have d5 : 10 * s' + i ≠ 10 * s + n' := by
              have := pd_tMost_le hs'
              intro q; apply e; omega
            have d8 : pd_tBase s' + i ≠ pd_tBase s + n' := by
              intro q; apply e
              have hd : ∀ (s s' : Fin 4) (i j : Fin 10), i.1 < pd_tMost s.1 → j.1 < pd_tMost s'.1 → pd_tBase s.1 + i.1 = pd_tBase s'.1 + j.1 → s = s' ∧ i = j := by decide
              have := pd_tMost_le hs'
              have := hd ⟨s', hs'⟩ ⟨s, hs⟩ ⟨i, by omega⟩ ⟨n', by omega⟩ hi3 hm q
              exact ⟨congrArg Fin.val this.1, congrArg Fin.val this.2⟩
            exact ⟨r, w1, by rw [kL, if_neg d5]; exact w2, by rw [kKL, if_neg d8]; exact w3⟩
        · show (f_X9_advance _).1 65 t = _; rw [kH 65 t (by omega) (by omega)]; exact (x1 t ht).1
        · show (f_X12_next _).1 32 (35 + p) = _; rw [kK]; exact (x2 p hp).1
        · show (f_X9_advance _).1 54 t = _; rw [kH 54 t (by omega) (by omega)]; exact (z1 t ht).1
        · show (f_X12_next _).1 32 (45 + p) = _; rw [kK]; exact (z2 p hp).1
        · rw [kH 64 _ (by omega) (by omega), kK]; exact t5 p m hp hm
        · rw [kH 63 _ (by omega) (by omega), kK]; exact t6 p hp
      · rw [m2.1 32 b (by omega)]; rfl
      · rw [m2.1 29 19 (by omega)]; rfl
      · rw [l4]; rfl
    · left
      have hbad : (if f_X12_find 20 (K.1 32 0) K < 0 then if f_X12_find 24 (K.1 32 1) K < 0 then if f_X12_find 27 (K.1 32 2) K < 0 then if f_X12_find 37 (K.1 32 3) K < 0 then (1, f_X12_next (upL K 34 (pd_tBase s + n) (K.2.1 29 17))) else ((f_X12_bad 3 K).1, (f_X12_bad 3 K).2) else ((f_X12_bad 3 K).1, (f_X12_bad 3 K).2) else ((f_X12_bad 3 K).1, (f_X12_bad 3 K).2) else ((f_X12_bad 3 K).1, (f_X12_bad 3 K).2)) = (0, (f_X12_bad 3 K).2) := by
        have q5 : ¬ f_X10_numberOf (pd_tF5 (pd_tTok B lim N c).2.2.1) (j : Int) H = -1 := by simpa using q4
        have nn : ∀ z : Int, (z = -1 ∨ ∃ n : Nat, z = (n : Int) ∧ (n : Int) < H.1 61 j ∧ n < pd_tMost j) → ¬ z = -1 → ¬ z < 0 := by
          intro z hz h1
          rcases hz with hz | ⟨n, hz, -⟩
          · exact absurd hz h1
          · omega
        match j, q3, q5, nn with
        | 0, _, q5, nn => rw [← a0, if_neg (nn _ b0 q5)]; rfl
        | 1, _, q5, nn =>
          rw [← a1, if_neg (nn _ b1 q5)]
          split <;> rfl
        | 2, _, q5, nn =>
          rw [← a2, if_neg (nn _ b2 q5)]
          split
          · split <;> rfl
          · rfl
        | 3, _, q5, nn =>
          rw [← a3, if_neg (nn _ b3 q5)]
          split
          · split
            · split <;> rfl
            · rfl
          · rfl
      rw [hbad]
      refine ⟨fun R S hS => ?_, rfl⟩
      rw [if_pos (show (((pd_tTok B lim N c).1 : Nat) : Int) = 5 by omega), if_neg (show ¬ f_X10_isTold (pd_tF5 (pd_tTok B lim N c).2.2.1) H = 0 by intro q; rw [show f_X10_isTold (pd_tF5 (pd_tTok B lim N c).2.2.1) H = 1 from q1] at q; omega)] at hS
      rw [← hS]
      exact ⟨rfl, pd_FL_fail h h' (by omega)⟩
  · left
    rw [if_neg h5, if_pos rfl]
    refine ⟨fun R S hS => ?_, rfl⟩
    rw [if_neg (show ¬ (((pd_tTok B lim N c).1 : Nat) : Int) = 5 by omega)] at hS
    rw [← hS]
    exact ⟨rfl, pd_FL_fail h h' (by omega)⟩
