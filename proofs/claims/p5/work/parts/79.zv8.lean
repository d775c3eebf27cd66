/-! Both sides read a sentence alike: the whole (by hand). -/
set_option linter.unusedSimpArgs false
theorem sn_scp47 (w1 : Int) : ∀ (k : Nat) (i : Int) (H : hH), (f_X12_scp w1 k i H).2.1 29 47 = H.1 29 47
  | 0, i, H => rfl
  | k + 1, i, H => by
    unfold f_X12_scp
    split
    · rw [sn_scp47 w1 k]
      simp [upI]
    · rfl
theorem sn_stail (w1 : Int) (H : hH) : (f_X12_stail w1 H).1 = H.1 29 47 := by
  unfold f_X12_stail
  dsimp only
  rw [sn_scp47]
  simp [upI]
/-- both sentence() answer alike -/
theorem pSentence {B : Nat → Int} {N : Nat} (hN : N ≤ 940) (hb : pd_hB8 B) {H K : hH} (hB : ∀ i, H.1 5 i = B i) (h2 : H.1 4 2 = (N : Int)) (hw5 : pd_hW5 H) (hB' : ∀ i, K.1 30 i = B i) (h2' : K.1 29 2 = (N : Int)) (hw8 : pd_hW8 K) (hn : sN H K) :
    ∃ k r, f_X12_sentence k K = some r ∧ r.1 = (f_X11_sentence H).1 ∧ r.2.1 29 15 = (f_X11_sentence H).2.1 0 14 := by
  have hi : ∀ a b, a < 60 → (f_X6_init (upN H)).1 a b = H.1 a b := fun a b ha => by
    unfold f_X6_init
    simp [upN, upR]
  -- the class begins
  obtain ⟨H0, hH0⟩ : ∃ H0, H0 = upI (upR (upR (f_X6_init (upN H)) 14 1 (some 52)) 14 2 (some 60)) 14 3 0 := ⟨_, rfl⟩
  have e1 : ∀ a b, ¬ (a = 14 ∧ b = 3) → H0.1 a b = H.1 a b := fun a b q => by
    rw [hH0]
    unfold f_X6_init
    simp only [upI, upR, upN]
    rw [if_neg (by omega)]
  have e2 : H0.2.1 = H.2.1 := by rw [hH0]; rfl
  obtain ⟨T, b1, b2, b3, b4⟩ := pd_xBegin (B := B) (lim := 200) hN (H := H0) (fun i => by rw [e1 5 i (by omega)]; exact hB i) (by rw [e1 4 2 (by omega)]; exact h2) (fun i hi => by rw [e2]; exact hw5 i hi)
  have b1 : pd_LC B 200 N T 0 (f_X9_begin 200 H0) := b1
  have b2 : ∀ (a b : Nat), a < 4 ∨ 10 < a → (f_X9_begin 200 H0).1 a b = H0.1 a b := b2
  have b3 : ∀ (a b : Nat), a < 4 ∨ 10 < a → (f_X9_begin 200 H0).2.1 a b = H0.2.1 a b := b3
  -- the reference begins
  obtain ⟨Z, hZ⟩ : ∃ Z, Z = upI (upI (upI (upI (upI (upI (f_X12_taken 200 (upI K 29 0 0)) 29 15 0) 29 46 0) 29 47 0) 29 48 0) 29 49 1) 29 50 0 := ⟨_, rfl⟩
  have z0 : ∀ a b, a ≠ 29 → Z.1 a b = K.1 a b := fun a b ha => by
    rw [hZ]
    unfold f_X12_taken
    simp only [upI]
    simp [ha]
  have z1 : Z.2.1 = K.2.1 := by rw [hZ]; rfl
  have z4 : Z.1 29 4 = ((0 : Nat) : Int) := by rw [hZ]; simp [upI, f_X12_taken]
  have z3 : Z.1 29 3 = (N : Int) := by rw [hZ]; simp [upI, f_X12_taken, h2']
  have z5 : Z.1 29 5 = ((200 : Nat) : Int) := by rw [hZ]; simp [upI, f_X12_taken]
  have z47 : Z.1 29 47 = ((0 : Nat) : Int) := by rw [hZ]; simp [upI, f_X12_taken]
  have z48 : Z.1 29 48 = ((0 : Nat) : Int) := by rw [hZ]; simp [upI, f_X12_taken]
  have z49 : Z.1 29 49 = ((1 : Nat) : Int) := by rw [hZ]; simp [upI, f_X12_taken]
  have z15 : Z.1 29 15 = 0 := by rw [hZ]; simp [upI, f_X12_taken]
  have z50 : Z.1 29 50 = 0 := by rw [hZ]; simp [upI, f_X12_taken]
  have zB : ∀ i, Z.1 30 i = B i := fun i => by rw [z0 30 i (by omega)]; exact hB' i
  obtain ⟨m1, m2, m3, m4, m5⟩ := pd_mNext (lim := 200) hN hb zB z3 z5 z4 (Nat.zero_le N)
  have hLR : pd_LR B 200 N 0 (f_X12_next Z) := by
    refine ⟨m1, ?_, ?_, fun i => ?_, m2, fun i hi => ?_⟩
    · rw [m3 29 3 (by omega)]; exact z3
    · rw [m3 29 5 (by omega)]; exact z5
    · rw [m3 30 i (by omega)]; exact zB i
    · rw [m4 35 i (by omega), z1]; exact hw8 i hi
  have hq : sQ B N 0 1 0 0 [] K (f_X12_next Z) := ⟨hLR, by rw [m3 29 48 (by omega)]; exact z48, trivial, by rw [m3 29 49 (by omega)]; exact z49, by rw [m3 29 47 (by omega)]; exact z47, by rw [m3 29 50 (by omega)]; exact z50, fun b hb => by rw [m3 31 b (by omega), z0 31 b (by omega)], fun b => by rw [m4 34 b (by omega), z1]⟩
  have hc : sC B N T 0 0 K (f_X9_begin 200 H0) := ⟨b1, sN_keep hn (fun b => by rw [b2 53 b (by omega), e1 53 b (by omega)]) (fun b => by rw [b3 54 b (by omega), e2]) (fun _ _ => rfl) (fun _ => rfl), by rw [b2 14 3 (by omega), hH0]; simp [upI]⟩
  have hs : sI B N T 0 0 1 0 [] K (f_X9_begin 200 H0) (f_X12_next Z) := ⟨hc, hq, by omega, Nat.zero_le _, Nat.le_refl _, by omega⟩
  have hZ' : ∀ k, f_X12_sentence k K = f_X12_smain k (f_X12_next Z) := fun k => by rw [hZ]; rfl
  have hsnt : f_X11_sentence H = f_X11_snt (f_X7_read (f_X6_init (upN H))).1 (f_X7_read (f_X6_init (upN H))).2 := rfl
  have hrd : f_X7_read (f_X6_init (upN H)) = if (f_X7_cond8 (f_X9_begin 200 H0)).1 = 0 then ((f_X7_cond8 (f_X9_begin 200 H0)).2.1 14 3, (f_X7_cond8 (f_X9_begin 200 H0)).2) else if ((f_X7_cond8 (f_X9_begin 200 H0)).2.1 4 10) = 1 then ((f_X7_cond8 (f_X9_begin 200 H0)).2.1 14 3, (f_X7_cond8 (f_X9_begin 200 H0)).2) else ((f_X9_fail 1 (f_X7_cond8 (f_X9_begin 200 H0)).2).2.1 14 3, (f_X9_fail 1 (f_X7_cond8 (f_X9_begin 200 H0)).2).2) := by rw [hH0]; rfl
  rw [hsnt]
  -- a fault that both tell
  have bad : ∀ (a : Int) (G : hH), sBad G (f_X12_next Z) → ∃ k r, f_X12_sentence k K = some r ∧ r.1 = (f_X11_snt a G).1 ∧ r.2.1 29 15 = (f_X11_snt a G).2.1 0 14 := by
    intro a G h
    obtain ⟨j, r, r1, r2, r3⟩ := h
    refine ⟨0 + j, r, by rw [hZ', r1], ?_⟩
    unfold f_X11_snt
    rw [if_neg r3.2.2]
    refine ⟨?_, ?_⟩
    · rw [r2]
      dsimp only
      rw [r3.2.1]
    · rw [← r3.1]
      simp [upI]
  rcases sn_c8 hN hb 0 0 [] _ _ (fun x s e => by cases e) hs with ⟨r1, r2⟩ | ⟨r1, c', n', q, A, K', s1, s2, s3, s4, s5, s6⟩
  · rw [hrd, if_pos r1]
    exact bad _ _ r2
  · obtain ⟨t1, t2, t3, t4, t5, t6⟩ := id s3
    have hc' := sI_c s3
    have hsl := sn_len t5
    have hcc := t1.1.2.2.2.2.2.2.1
    have h0 : (f_X7_cond8 (f_X9_begin 200 H0)).2.1 4 13 = 0 := t1.1.2.2.2.2.2.2.2
    rw [hrd, if_neg r1, hcc.1]
    by_cases k1 : (pd_tTok B 200 N c').1 = 1
    · rw [if_pos (show (((pd_tTok B 200 N c').1 : Nat) : Int) = 1 by omega)]
      obtain ⟨⟨j, hj⟩, hz⟩ := s2
      obtain ⟨J1, J2⟩ := sn_nj (a1 := 22) (by omega) (by omega) (fun x hx => by rcases s4 x hx with r | r; exact Or.inl r; exact Or.inr ⟨r, rfl⟩) (fun x s e => by cases e) t2
      have hkd := (pd_tR_kd t2.1.2.2.2.2.1 (pd_tTok_ok c')).2.1
      refine ⟨(0 + 1) + j, f_X12_stail 0 (f_X12_joins 22 (f_X12_nots K')), ?_, ?_, ?_⟩
      · rw [hZ', hj]
        unfold f_X12_smain
        rw [if_neg (by rw [t2.2.2.2.2.2.1]; omega), if_pos (hkd.mpr k1), if_neg]
        rw [J2.2.1]
        show ¬ (0 : Int) < ((([] : List Int).length : Nat) : Int)
        simp
      · rw [sn_stail, J2.2.2.2.2.1]
        unfold f_X11_snt
        rw [if_pos h0]
        exact t1.2.2.symm
      · rw [zf_f_X12_stail, zf_f_X12_joins, zf_f_X12_nots, hz, m3 29 15 (by omega), z15]
        unfold f_X11_snt
        rw [if_pos h0]
        simp [upI, upR, h0]
    · rw [if_neg (show ¬ (((pd_tTok B 200 N c').1 : Nat) : Int) = 1 by omega)]
      exact bad _ _ (sGo_bad s2 (sn_noclose (by show 0 + A.length + q < 950; omega) (by omega) s4 (fun x s e => by cases e) s5 s6 t1 t2 (Or.inl ⟨rfl, k1⟩)))
