/-! Both sides read a sentence alike: behind an operand (by hand). -/
set_option linter.unusedSimpArgs false
section SI
variable {B : Nat → Int} {N T c n d q : Nat} {w : Int} {S A : List Int} {H K K0 : hH}
/-- the top may stand below what nots and joins take off -/
def sTop (a1 : Int) (S : List Int) : Prop := ∀ x s, S = x :: s → x ≠ 20 ∧ x ≠ 21 ∧ (x = 22 → a1 ≠ 22)
theorem sTop_ap {a1 : Int} (hA : ∀ x ∈ A, x = 21 ∨ x = 22) (ht : sTop a1 S) : ∀ x s, A ++ S = x :: s → x ≠ 20 := by
  intro x s e
  match A, hA, e with
  | [], _, e => exact (ht x s e).1
  | y :: A, hA, e =>
    have e : y :: (A ++ S) = x :: s := e
    injection e with e1 e2
    rcases hA y List.mem_cons_self with r | r <;> omega
/-- nots, then joins -/
theorem sn_nj (hl : S.length + A.length + q < 1000) (hd : d + q ≤ 1000) (a1 : Int) (hA : ∀ x ∈ A, x = 21 ∨ (x = 22 ∧ a1 = 22)) (ht : sTop a1 S) (h : sQ B N c (d + q) n w (List.replicate q 20 ++ (A ++ S)) K0 K) : sQ B N c d n w (A ++ S) K0 (f_X12_nots K) ∧ sQ B N c d n w S K0 (f_X12_joins a1 (f_X12_nots K)) := by
  have h1 : sQ B N c d n w (A ++ S) K0 (f_X12_nots K) := sn_nots (by rw [List.length_append]; omega) hd (sTop_ap (fun x hx => by rcases hA x hx with r | r; exact Or.inl r; exact Or.inr r.1) ht) h
  exact ⟨h1, sn_joins (by omega) hA (fun x s e => ⟨(ht x s e).2.1, (ht x s e).2.2⟩) h1⟩
/-- 'and' behind an operand -/
theorem sn_and (hN : N ≤ 940) (hb : pd_hB8 B) (hl : S.length + A.length + q < 950) (hd : d + q ≤ 1000) (hA : ∀ x ∈ A, x = 21) (ht : sTop 21 S) (hw : sW B 200 N c 17) (h : sQ B N c (d + q) n w (List.replicate q 20 ++ (A ++ S)) K0 K) : ∃ K', f_X12_behind K = (1, K') ∧ sQ B N (c + 1) d n 0 (21 :: S) K0 K' := by
  obtain ⟨h1, h2⟩ := sn_nj (a1 := 21) (by omega) hd (fun x hx => Or.inl (hA x hx)) ht h
  have e1 : ¬ f_X12_isWord 6385252 (f_X12_nots K) = 0 := by rw [sn_wd h1.1 (i := 17) (by omega) (by decide), if_pos hw]; omega
  have e2 : ¬ f_X12_isWord 6385252 (f_X12_joins 21 (f_X12_nots K)) = 0 := by rw [sn_wd h2.1 (i := 17) (by omega) (by decide), if_pos hw]; omega
  refine ⟨_, ?_, sQ_next hN hb (sQ_whole 0 (sQ_push (by omega) 21 h2))⟩
  unfold f_X12_behind
  rw [if_neg e1, if_neg e1, if_neg e2]
/-- 'or' behind an operand -/
theorem sn_or (hN : N ≤ 940) (hb : pd_hB8 B) (hl : S.length + A.length + q < 950) (hd : d + q ≤ 1000) (hA : ∀ x ∈ A, x = 21 ∨ x = 22) (ht : sTop 22 S) (hw : sW B 200 N c 16) (h : sQ B N c (d + q) n w (List.replicate q 20 ++ (A ++ S)) K0 K) : ∃ K', f_X12_behind K = (1, K') ∧ sQ B N (c + 1) d n 0 (22 :: S) K0 K' := by
  obtain ⟨h1, h2⟩ := sn_nj (a1 := 22) (by omega) hd (fun x hx => by rcases hA x hx with r | r; exact Or.inl r; exact Or.inr ⟨r, rfl⟩) ht h
  have hn17 : ¬ sW B 200 N c 17 := fun x => by
    have a := hw.2
    have b := x.2
    omega
  have e1 : f_X12_isWord 6385252 (f_X12_nots K) = 0 := by rw [sn_wd h1.1 (i := 17) (by omega) (by decide), if_neg hn17]
  have e3 : ¬ f_X12_isWord 28530 (f_X12_nots K) = 0 := by rw [sn_wd h1.1 (i := 16) (by omega) (by decide), if_pos hw]; omega
  have e2 : f_X12_isWord 6385252 (f_X12_joins 22 (f_X12_nots K)) = 0 := by rw [sn_wd h2.1 (i := 17) (by omega) (by decide), if_neg hn17]
  refine ⟨_, ?_, sQ_next hN hb (sQ_whole 0 (sQ_push (by omega) 22 h2))⟩
  unfold f_X12_behind
  rw [if_pos e1, if_neg e3, if_pos e1, if_pos e2]
/-- neither: a sign or a fault -/
theorem sn_nei (hl : S.length + A.length + q < 950) (hd : d + q ≤ 1000) (hA : ∀ x ∈ A, x = 21 ∨ x = 22) (ht : sTop 22 S) (hn17 : ¬ sW B 200 N c 17) (hn16 : ¬ sW B 200 N c 16) (h : sQ B N c (d + q) n w (List.replicate q 20 ++ (A ++ S)) K0 K) : ∃ J, J = f_X12_joins 22 (f_X12_nots K) ∧ sQ B N c d n w S K0 J ∧ f_X12_behind K = if f_X12_isSign 41 J = 0 then ((f_X12_bad 1 J).1, (f_X12_bad 1 J).2) else if J.1 29 48 = 0 then ((f_X12_bad 1 J).1, (f_X12_bad 1 J).2) else (1, f_X12_next (upI (upI J 29 48 (iSub (J.1 29 48) 1)) 29 49 (iSub (J.1 29 49) 1))) := by
  obtain ⟨h1, h2⟩ := sn_nj (a1 := 22) (by omega) hd (fun x hx => by rcases hA x hx with r | r; exact Or.inl r; exact Or.inr ⟨r, rfl⟩) ht h
  have e1 : f_X12_isWord 6385252 (f_X12_nots K) = 0 := by rw [sn_wd h1.1 (i := 17) (by omega) (by decide), if_neg hn17]
  have e3 : f_X12_isWord 28530 (f_X12_nots K) = 0 := by rw [sn_wd h1.1 (i := 16) (by omega) (by decide), if_neg hn16]
  refine ⟨_, rfl, h2, ?_⟩
  unfold f_X12_behind
  rw [if_pos e1, if_pos e3]
theorem sn_close (hN : N ≤ 940) (hb : pd_hB8 B) (hl : S.length + A.length + q < 949) (hd : d + 1 + q ≤ 1000) (hA : ∀ x ∈ A, x = 21 ∨ x = 22) (h2 : (pd_tTok B 200 N c).1 = 2) (h41 : (pd_tTok B 200 N c).2.1 = 41) (h : sQ B N c (d + 1 + q) n w (List.replicate q 20 ++ (A ++ (23 :: S))) K0 K) : ∃ K', f_X12_behind K = (1, K') ∧ sQ B N (c + 1) d n w S K0 K' := by
  have ht : sTop 22 (23 :: S) := fun x s e => by
    injection e with e1 e2
    omega
  obtain ⟨J, -, j2, j3⟩ := sn_nei (by rw [List.length_cons]; omega) hd hA ht (fun x => by have := x.1; omega) (fun x => by have := x.1; omega) h
  refine ⟨f_X12_next (upI (upI J 29 48 (iSub (J.1 29 48) 1)) 29 49 (iSub (J.1 29 49) 1)), ?_, sQ_next hN hb ?_⟩
  · rw [j3, if_neg (by rw [sn_is j2.1, if_pos ⟨h2, h41⟩]; omega), if_neg (by rw [j2.2.1, List.length_cons]; omega)]
  · have hp := sQ_pop (by omega) j2
    have e49 : iSub (J.1 29 49) 1 = iSub ((upI J 29 48 (iSub (J.1 29 48) 1)).1 29 49) 1 := by simp [upI]
    rw [e49]
    exact sQ_deep (by omega) hp
/-- no sign to close: the fault is told -/
theorem sn_noclose (hl : S.length + A.length + q < 950) (hd : d + q ≤ 1000) (hA : ∀ x ∈ A, x = 21 ∨ x = 22) (ht : sTop 22 S) (hn17 : ¬ sW B 200 N c 17) (hn16 : ¬ sW B 200 N c 16) (hc : sC B N T c n K0 H) (h : sQ B N c (d + q) n 1 (List.replicate q 20 ++ (A ++ S)) K0 K) (h41 : S = [] ∧ (pd_tTok B 200 N c).1 ≠ 1 ∨ S ≠ [] ∧ ¬ ((pd_tTok B 200 N c).1 = 2 ∧ (pd_tTok B 200 N c).2.1 = 41)) : sBad (f_X9_fail 1 H).2 K := by
  obtain ⟨J, j1, j2, j3⟩ := sn_nei hl hd hA ht hn17 hn16 h
  have hf : pd_FL (f_X9_fail 1 H).2 (f_X12_bad 1 J).2 := pd_FL_fail hc.1 j2.1 (by omega)
  have hkd := (pd_tR_kd h.1.2.2.2.2.1 (pd_tTok_ok c)).2.1
  by_cases k1 : (pd_tTok B 200 N c).1 = 1
  · rcases h41 with ⟨-, x⟩ | ⟨x, -⟩
    · exact absurd k1 x
    · refine ⟨1, (iSub (-1) ((f_X12_bad 1 J).2.1 29 16), (f_X12_bad 1 J).2), fun k => ?_, by dsimp only, hf⟩
      show f_X12_smain (k + 1) K = _
      unfold f_X12_smain
      rw [if_neg (by rw [h.2.2.2.2.2.1]; omega), if_pos (hkd.mpr k1), ← j1, if_pos]
      rw [j2.2.1]
      match S, x with
      | [], x => exact absurd rfl x
      | y :: s, _ => rw [List.length_cons]; omega
  · refine sBe_bad h.2.2.2.2.2.1 (fun x => k1 (hkd.mp x)) (K' := (f_X12_bad 1 J).2) ?_ hf
    rw [j3]
    have ex : ((f_X12_bad 1 J).1, (f_X12_bad 1 J).2) = (0, (f_X12_bad 1 J).2) := rfl
    by_cases k2 : (pd_tTok B 200 N c).1 = 2 ∧ (pd_tTok B 200 N c).2.1 = 41
    · rcases h41 with ⟨x, -⟩ | ⟨-, x⟩
      · rw [if_neg (by rw [sn_is j2.1, if_pos k2]; omega), if_pos (by rw [j2.2.1, x]; rfl), ex]
      · exact absurd k2 x
    · rw [if_pos (by rw [sn_is j2.1, if_neg k2]), ex]
end SI
