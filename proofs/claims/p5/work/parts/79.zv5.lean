/-! Both sides read a sentence alike: the levels (by hand). -/
set_option linter.unusedSimpArgs false
def gAl (one : hH → Int × hH) : Nat → hH → Int × hH
  | 0, H => (1, H)
  | k + 1, H =>
    if f_X9_isAtWord 17 H = 0 then
      (1, H)
    else
      if ((one (f_X9_advance H)).1) = 0 then
        (0, (one (f_X9_advance H)).2)
      else
        gAl one k (f_X6_addStep 17 0 0 (one (f_X9_advance H)).2)
def gAll (one : hH → Int × hH) (H : hH) : Int × hH :=
  if ((one H).1) = 0 then (0, (one H).2) else ((gAl one 200 (one H).2).1, (gAl one 200 (one H).2).2)
def gCl (all : hH → Int × hH) : Nat → hH → Int × hH
  | 0, H => (1, H)
  | k + 1, H =>
    if f_X9_isAtWord 16 H = 0 then
      (1, H)
    else
      if ((all (f_X9_advance H)).1) = 0 then
        (0, (all (f_X9_advance H)).2)
      else
        gCl all k (f_X6_addStep 16 0 0 (all (f_X9_advance H)).2)
def gCond (all : hH → Int × hH) (H : hH) : Int × hH :=
  if ((all H).1) = 0 then (0, (all H).2) else ((gCl all 200 (all H).2).1, (gCl all 200 (all H).2).2)
section SI
variable {B : Nat → Int} {N T : Nat} {K0 : hH}
def FOne (B : Nat → Int) (N T : Nat) (K0 : hH) (F : hH → Int × hH) (d : Nat) : Prop := ∀ c n S H K, sI B N T c n d 0 S K0 H K → ((F H).1 = 0 ∧ sBad (F H).2 K) ∨ ((F H).1 ≠ 0 ∧ ∃ c' n' q K', c < c' ∧ sGo K K' ∧ sI B N T c' n' (d + q) 1 (List.replicate q 20 ++ S) K0 (F H).2 K')
def FAll (B : Nat → Int) (N T : Nat) (K0 : hH) (F : hH → Int × hH) (d : Nat) : Prop := ∀ c n S H K, sTop 21 S → sI B N T c n d 0 S K0 H K → ((F H).1 = 0 ∧ sBad (F H).2 K) ∨ ((F H).1 ≠ 0 ∧ ∃ c' n' q A K', c < c' ∧ sGo K K' ∧ sI B N T c' n' (d + q) 1 (List.replicate q 20 ++ (A ++ S)) K0 (F H).2 K' ∧ (∀ x ∈ A, x = 21) ∧ ¬ sW B 200 N c' 17)
def FCond (B : Nat → Int) (N T : Nat) (K0 : hH) (F : hH → Int × hH) (d : Nat) : Prop := ∀ c n S H K, sTop 22 S → sI B N T c n d 0 S K0 H K → ((F H).1 = 0 ∧ sBad (F H).2 K) ∨ ((F H).1 ≠ 0 ∧ ∃ c' n' q A K', c < c' ∧ sGo K K' ∧ sI B N T c' n' (d + q) 1 (List.replicate q 20 ++ (A ++ S)) K0 (F H).2 K' ∧ (∀ x ∈ A, x = 21 ∨ x = 22) ∧ ¬ sW B 200 N c' 17 ∧ ¬ sW B 200 N c' 16)
theorem sn_len {q : Nat} {A S : List Int} {c : Nat} (h : (List.replicate q 20 ++ (A ++ S) : List Int).length ≤ c) : q + A.length + S.length ≤ c := by
  rw [List.length_append, List.length_append, List.length_replicate] at h
  omega
theorem sAl (hN : N ≤ 940) (hb : pd_hB8 B) {one : hH → Int × hH} {d : Nat} (h1 : FOne B N T K0 one d) : ∀ (k c n q : Nat) (A S : List Int) (H K : hH), 200 ≤ c + k → (∀ x ∈ A, x = 21) → sTop 21 S → sI B N T c n (d + q) 1 (List.replicate q 20 ++ (A ++ S)) K0 H K → ((gAl one k H).1 = 0 ∧ sBad (gAl one k H).2 K) ∨ ((gAl one k H).1 ≠ 0 ∧ ∃ c' n' q A K', c ≤ c' ∧ sGo K K' ∧ sI B N T c' n' (d + q) 1 (List.replicate q 20 ++ (A ++ S)) K0 (gAl one k H).2 K' ∧ (∀ x ∈ A, x = 21) ∧ ¬ sW B 200 N c' 17)
  | k, c, n, q, A, S, H, K, hk, hA, ht, h => by
    by_cases hw : sW B 200 N c 17
    · obtain ⟨l1, l2⟩ := sI_lt h (by have := hw.1; omega) hN
      match k, hk with
      | 0, hk => omega
      | k + 1, hk =>
        obtain ⟨hc, hq, hn, hp, hs, hd⟩ := h
        have hsl := sn_len hs
        obtain ⟨K', b1, b2⟩ := sn_and hN hb (by omega) (by omega) hA ht hw hq
        have hkd := pd_tR_kd hq.1.2.2.2.2.1 (pd_tTok_ok c)
        have g1 : sGo K K' := sBe_go hq.2.2.2.2.2.1 (fun x => by have := hkd.2.1.mp x; have := hw.1; omega) b1
        have hi : sI B N T (c + 1) n d 0 (21 :: S) K0 (f_X9_advance H) K' := ⟨sC_adv hc (by have := hw.1; omega), b2, hn, l2, by rw [List.length_cons]; omega, by omega⟩
        have ea : ¬ f_X9_isAtWord 17 H = 0 := by
          have := sn_wc hc.1 17
          rw [if_pos hw] at this
          rw [show (17 : Int) = ((17 : Nat) : Int) from rfl, this]
          omega
        unfold gAl
        rw [if_neg ea]
        rcases h1 (c + 1) n (21 :: S) _ K' hi with ⟨r1, r2⟩ | ⟨r1, c2, n2, q2, K2, s1, s2, s3⟩
        · rw [if_pos r1]
          exact Or.inl ⟨rfl, sGo_bad g1 r2⟩
        · rw [if_neg r1]
          obtain ⟨t1, t2, t3⟩ := s3
          rcases sAl hN hb h1 k c2 n2 q2 [21] S _ K2 (by omega) (fun x hx => by simpa using hx) ht ⟨sC_step 17 0 0 t1, t2, t3⟩ with ⟨u1, u2⟩ | ⟨u1, c3, n3, q3, A3, K3, u2, u3, u4⟩
          · exact Or.inl ⟨u1, sGo_bad (sGo_tr g1 s2) u2⟩
          · exact Or.inr ⟨u1, c3, n3, q3, A3, K3, by omega, sGo_tr (sGo_tr g1 s2) u3, u4⟩
    · have e : gAl one k H = (1, H) := by
        match k with
        | 0 => rfl
        | k + 1 =>
          unfold gAl
          rw [if_pos]
          have := sn_wc h.1.1 17
          rw [if_neg hw] at this
          exact this
      rw [e]
      exact Or.inr ⟨by dsimp only; omega, c, n, q, A, K, Nat.le_refl _, sGo_rfl K, h, hA, hw⟩
theorem sAll (hN : N ≤ 940) (hb : pd_hB8 B) {one all : hH → Int × hH} {d : Nat} (he : ∀ H, all H = gAll one H) (h1 : FOne B N T K0 one d) : FAll B N T K0 all d := by
  intro c n S H K ht h
  rw [he]
  unfold gAll
  rcases h1 c n S H K h with ⟨r1, r2⟩ | ⟨r1, c2, n2, q2, K2, s1, s2, s3⟩
  · rw [if_pos r1]
    exact Or.inl ⟨rfl, r2⟩
  · rw [if_neg r1]
    rcases sAl hN hb h1 200 c2 n2 q2 [] S _ K2 (by omega) (fun x hx => by cases hx) ht s3 with ⟨u1, u2⟩ | ⟨u1, c3, n3, q3, A3, K3, u2, u3, u4⟩
    · exact Or.inl ⟨u1, sGo_bad s2 u2⟩
    · exact Or.inr ⟨u1, c3, n3, q3, A3, K3, by omega, sGo_tr s2 u3, u4⟩
theorem sCl (hN : N ≤ 940) (hb : pd_hB8 B) {all : hH → Int × hH} {d : Nat} (h1 : FAll B N T K0 all d) : ∀ (k c n q : Nat) (A S : List Int) (H K : hH), 200 ≤ c + k → (∀ x ∈ A, x = 21 ∨ x = 22) → sTop 22 S → ¬ sW B 200 N c 17 → sI B N T c n (d + q) 1 (List.replicate q 20 ++ (A ++ S)) K0 H K → ((gCl all k H).1 = 0 ∧ sBad (gCl all k H).2 K) ∨ ((gCl all k H).1 ≠ 0 ∧ ∃ c' n' q A K', c ≤ c' ∧ sGo K K' ∧ sI B N T c' n' (d + q) 1 (List.replicate q 20 ++ (A ++ S)) K0 (gCl all k H).2 K' ∧ (∀ x ∈ A, x = 21 ∨ x = 22) ∧ ¬ sW B 200 N c' 17 ∧ ¬ sW B 200 N c' 16)
  | k, c, n, q, A, S, H, K, hk, hA, ht, h17, h => by
    by_cases hw : sW B 200 N c 16
    · obtain ⟨l1, l2⟩ := sI_lt h (by have := hw.1; omega) hN
      match k, hk with
      | 0, hk => omega
      | k + 1, hk =>
        obtain ⟨hc, hq, hn, hp, hs, hd⟩ := h
        have hsl := sn_len hs
        obtain ⟨K', b1, b2⟩ := sn_or hN hb (by omega) (by omega) hA ht hw hq
        have hkd := pd_tR_kd hq.1.2.2.2.2.1 (pd_tTok_ok c)
        have g1 : sGo K K' := sBe_go hq.2.2.2.2.2.1 (fun x => by have := hkd.2.1.mp x; have := hw.1; omega) b1
        have hi : sI B N T (c + 1) n d 0 (22 :: S) K0 (f_X9_advance H) K' := ⟨sC_adv hc (by have := hw.1; omega), b2, hn, l2, by rw [List.length_cons]; omega, by omega⟩
        have ea : ¬ f_X9_isAtWord 16 H = 0 := by
          have := sn_wc hc.1 16
          rw [if_pos hw] at this
          rw [show (16 : Int) = ((16 : Nat) : Int) from rfl, this]
          omega
        have ht2 : sTop 21 (22 :: S) := fun x s e => by
          injection e with e1 e2
          omega
        unfold gCl
        rw [if_neg ea]
        rcases h1 (c + 1) n (22 :: S) _ K' ht2 hi with ⟨r1, r2⟩ | ⟨r1, c2, n2, q2, A2, K2, s1, s2, s3, s4, s5⟩
        · rw [if_pos r1]
          exact Or.inl ⟨rfl, sGo_bad g1 r2⟩
        · rw [if_neg r1]
          obtain ⟨t1, t2, t3⟩ := s3
          have eA : A2 ++ (22 :: S) = (A2 ++ [22]) ++ S := by rw [List.append_assoc]; rfl
          rw [eA] at t2 t3
          rcases sCl hN hb h1 k c2 n2 q2 (A2 ++ [22]) S _ K2 (by omega) (fun x hx => by
            rcases List.mem_append.mp hx with hx | hx
            · exact Or.inl (s4 x hx)
            · exact Or.inr (by simpa using hx)) ht s5 ⟨sC_step 16 0 0 t1, t2, t3⟩ with ⟨u1, u2⟩ | ⟨u1, c3, n3, q3, A3, K3, u2, u3, u4⟩
          · exact Or.inl ⟨u1, sGo_bad (sGo_tr g1 s2) u2⟩
          · exact Or.inr ⟨u1, c3, n3, q3, A3, K3, by omega, sGo_tr (sGo_tr g1 s2) u3, u4⟩
    · have e : gCl all k H = (1, H) := by
        match k with
        | 0 => rfl
        | k + 1 =>
          unfold gCl
          rw [if_pos]
          have := sn_wc h.1.1 16
          rw [if_neg hw] at this
          exact this
      rw [e]
      exact Or.inr ⟨by dsimp only; omega, c, n, q, A, K, Nat.le_refl _, sGo_rfl K, h, hA, h17, hw⟩
theorem sCond (hN : N ≤ 940) (hb : pd_hB8 B) {all cond : hH → Int × hH} {d : Nat} (he : ∀ H, cond H = gCond all H) (h1 : FAll B N T K0 all d) : FCond B N T K0 cond d := by
  intro c n S H K ht h
  rw [he]
  unfold gCond
  have ht1 : sTop 21 S := fun x s e => ⟨(ht x s e).1, (ht x s e).2.1, fun _ => by omega⟩
  rcases h1 c n S H K ht1 h with ⟨r1, r2⟩ | ⟨r1, c2, n2, q2, A2, K2, s1, s2, s3, s4, s5⟩
  · rw [if_pos r1]
    exact Or.inl ⟨rfl, r2⟩
  · rw [if_neg r1]
    rcases sCl hN hb h1 200 c2 n2 q2 A2 S _ K2 (by omega) (fun x hx => Or.inl (s4 x hx)) ht s5 s3 with ⟨u1, u2⟩ | ⟨u1, c3, n3, q3, A3, K3, u2, u3, u4⟩
    · exact Or.inl ⟨u1, sGo_bad s2 u2⟩
    · exact Or.inr ⟨u1, c3, n3, q3, A3, K3, by omega, sGo_tr s2 u3, u4⟩
end SI
