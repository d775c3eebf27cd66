/-! Both sides read a text alike (by hand), 15. -/
set_option maxRecDepth 100000
set_option linter.unusedSimpArgs false
theorem pd_k22_adv (H : hH) : (f_X9_advance H).2.2 = H.2.2 := by
  unfold f_X9_advance; split <;> rfl
theorem pd_k22_num (a b : Int) (H : hH) : (f_X9_passNumber a b H).2.2.2 = H.2.2 := by
  unfold f_X9_passNumber
  split
  · split
    · rfl
    · exact pd_k22_adv H
  · rfl
theorem pd_k22_sign (a : Int) (H : hH) : (f_X9_passSign a H).2.2.2 = H.2.2 := by
  unfold f_X9_passSign
  split
  · rfl
  · exact pd_k22_adv H
theorem pd_k22_named (a : Int) (H : hH) : (f_X9_named a H).2.2.2 = H.2.2 := by
  unfold f_X9_named
  split
  · split <;> rfl
  · rfl
theorem pd_k22_P3 (n : Int) (P : Int × hH) : (pd_cPers3 n P).2.2.2 = P.2.2.2 := by
  unfold pd_cPers3
  split
  · rfl
  · split
    · rfl
    · exact pd_k22_adv _
theorem pd_k22_P2 (n : Int) (H : hH) : (pd_cPers2 n H).2.2.2 = H.2.2 := by
  unfold pd_cPers2
  split
  · split
    · rfl
    · rw [pd_k22_P3, pd_k22_num, pd_k22_adv]
  · rw [pd_k22_P3, pd_k22_num, pd_k22_adv]; rfl
theorem pd_k22_pers (n : Int) (H : hH) : (f_X1_readPerson n H).2.2.2 = H.2.2 := by
  rw [pd_cPers_eq]
  split
  · exact pd_k22_named _ _
  · rw [pd_k22_P2, pd_k22_adv]; exact pd_k22_named _ _
theorem pd_k22_share (n : Int) (H : hH) : (f_X1_readShare n H).2.2.2 = H.2.2 := by
  have e : ∀ v, (f_X9_passNumber v 40 (upI (f_X9_passNumber 0 40 H).2 66 n.toNat (f_X9_passNumber 0 40 H).1)).2.2.2 = H.2.2 := fun v => by
    rw [pd_k22_num]; exact pd_k22_num _ _ _
  unfold f_X1_readShare
  split
  · exact pd_k22_num _ _ _
  · split
    · exact e _
    · exact e _
theorem pd_k22_tie (w p o : Int) (H : hH) : (f_X1_tie w p o H).2.2.2 = H.2.2 := by
  unfold f_X1_tie
  split
  · rfl
  · split
    · rfl
    · split
      · exact pd_k22_num _ _ _
      · exact pd_k22_num _ _ _
theorem pd_k22_tie2 (w s p : Int) (H : hH) : (pd_cTie2 w s p H).2.2.2 = H.2.2 := by
  unfold pd_cTie2
  split
  · exact pd_k22_named _ _
  · split
    · show (f_X1_tie _ _ _ _).2.2.2 = _
      rw [pd_k22_tie, pd_k22_adv]; exact pd_k22_named _ _
    · exact pd_k22_named _ _
theorem pd_k22_rtie (w : Int) (H : hH) : (f_X1_readTie w H).2.2.2 = H.2.2 := by
  rw [pd_cTie_eq]
  split
  · exact pd_k22_named _ _
  · split
    · rw [pd_k22_tie2, pd_k22_adv]; exact pd_k22_named _ _
    · rw [pd_k22_tie2, pd_k22_adv]; exact pd_k22_named _ _
theorem pd_k22_new (s : Int) (H : hH) : (f_X1_readNew s H).2.2.2 = H.2.2 := by
  have e : (f_X9_advance (f_X10_addName (H.2.1 4 12) s H).2).2.2 = H.2.2 := by rw [pd_k22_adv]; rfl
  unfold f_X1_readNew
  split
  · split
    · split
      · show (f_X1_readPerson _ _).2.2.2 = _
        rw [pd_k22_pers]; exact e
      · split
        · split
          · show (f_X1_readShare _ _).2.2.2 = _
            rw [pd_k22_share]; exact e
          · show (f_X1_readShare _ _).2.2.2 = _
            rw [pd_k22_share]; exact e
        · exact e
    · rfl
  · rfl
theorem pd_k22_end (X : Int × hH) : (pd_cEnd X).2.2.2 = X.2.2.2 := by
  unfold pd_cEnd
  split
  · rfl
  · split
    · exact pd_k22_sign _ _
    · exact pd_k22_sign _ _
theorem pd_k22_line (H : hH) : (f_X1_readLine H).2.2.2 = H.2.2 := by
  rw [pd_cLine_eq]
  have a : ∀ w, (pd_cEnd (f_X1_readTie w (f_X9_advance H))).2.2.2 = H.2.2 := fun w => by rw [pd_k22_end, pd_k22_rtie, pd_k22_adv]
  have b : ∀ w, (pd_cEnd (f_X1_readNew w (f_X9_advance H))).2.2.2 = H.2.2 := fun w => by rw [pd_k22_end, pd_k22_new, pd_k22_adv]
  by_cases h1 : H.1 4 10 = 4
  · rw [if_pos h1]
    by_cases h2 : 6 < H.1 4 11
    · rw [if_pos h2]; rfl
    · rw [if_neg h2]
      by_cases h3 : 3 < H.1 4 11
      · rw [if_pos h3, if_pos h3]; exact a _
      · rw [if_neg h3, if_neg h3]
        split
        · exact b _
        · rfl
  · rw [if_neg h1]; rfl
theorem pd_k22_main : ∀ (k : Nat) (i : Int) (H : hH) (r : Int × hH), f_X1_rmain k i H = some r → r.2.2.2 = H.2.2
  | 0, _, _, _, h => by cases h
  | k + 1, i, H, r, h => by
    unfold f_X1_rmain at h
    split at h
    · split at h
      · have e := Option.some.inj h
        subst e
        show (f_X2_gatherSets H).2.2 = _
        rw [(pd_gK_gs H).1]
      · split at h
        · have e := Option.some.inj h
          subst e
          exact pd_k22_line H
        · rw [pd_k22_main k _ _ r h]; exact pd_k22_line H
    · have e := Option.some.inj h
      subst e
      rfl
/-- both district() answer alike; the references stay -/
theorem pd_pDistrict2 {B : Nat → Int} {N : Nat} (hN : N ≤ 940) (hb : pd_hB8 B) {H K : hH} (hB : ∀ i, H.1 5 i = B i) (h2 : H.1 4 2 = (N : Int)) (hw5 : pd_hW5 H) (hz : ∀ a b, 60 ≤ a → H.1 a b = 0) (hB' : ∀ i, K.1 30 i = B i) (h2' : K.1 29 2 = (N : Int)) (hw8 : pd_hW8 K) :
    ∃ r r', f_X1_read 941 H = some r ∧ f_X12_district 941 K = some r' ∧ r'.1 = (if r.2.1 4 13 = 0 then r.1 else iSub (-1) (r.2.1 4 14)) ∧ r.2.2.2 = (f_X1_pre H).2.2 := by
  obtain ⟨r, r', a, b, c, -⟩ := pd_pDistrict hN hb hB h2 hw5 hz hB' h2' hw8
  obtain ⟨p1, p2, p3, p4⟩ := pd_pre_ok H
  obtain ⟨T, b1, b2, b3, b4⟩ := pd_xBegin (B := B) (lim := 900) hN (H := f_X1_pre H) (fun i => by rw [p1 5 i (by omega) (by omega) (by omega) (by omega)]; exact hB i) (by rw [p1 4 2 (by omega) (by omega) (by omega) (by omega)]; exact h2) (fun i hi => by rw [p4]; exact hw5 i hi)
  exact ⟨r, r', a, b, c, (pd_k22_main _ _ _ _ a).trans b4⟩
