/-! Both sides read a sentence alike: a whole operand (by hand). -/
set_option linter.unusedSimpArgs false
section SI
variable {B : Nat → Int} {N T c n d : Nat} {w : Int} {S : List Int} {H K K0 : hH}
theorem sn_begins (v : Int) : ¬ f_X7_beginsOne v = 0 ↔ (18 ≤ v ∧ v ≤ 22) ∨ (7 ≤ v ∧ v ≤ 9) ∨ v = 5 ∨ v = 4 := by
  unfold f_X7_beginsOne f_X11_isWithin
  split <;> split at * <;> (try split at *) <;> (try split at *) <;> (try split at *) <;> (try split at *) <;> omega
theorem sn_rep (q : Nat) (S : List Int) : List.replicate q 20 ++ (20 :: S) = List.replicate (q + 1) 20 ++ S := by
  rw [List.replicate_succ']
  simp
theorem sQ_pp (hl : S.length < 1000) (hd : d < 1000) (x : Int) (h : sQ B N c d n w S K0 K) : sQ B N c (d + 1) n w (x :: S) K0 (sPush x K).2 := by
  have h2 := sQ_deeper hd (sQ_push hl x h)
  have e : (upI (upI K 46 (K.1 29 48).toNat x) 29 48 (iAdd (K.1 29 48) 1)).1 29 49 = K.1 29 49 := by simp [upI]
  rw [e] at h2
  exact h2
/-- the operand begins here; both count it and pass its first token -/
theorem sn_begin (hN : N ≤ 940) (hb : pd_hB8 B) {one cond : hH → Int × hH} (h : sI B N T c n d 0 S K0 H K) (hd : d ≤ 8) (hk : 2 ≤ (pd_tTok B 200 N c).1) (hc : ¬ (f_X9_isAtSign 40 H = 0 ∧ ¬ (H.1 4 10 = 4 ∧ ¬ f_X7_beginsOne (H.1 4 11) = 0))) (hr : ¬ (f_X12_isWord 7237492 K = 0 ∧ f_X12_isSign 40 K = 0 ∧ f_X12_leafOf K < 0)) : ((gOne one cond H).1 = 0 ∧ sBad (gOne one cond H).2 K) ∨
    ∃ H1 K1, H1 = f_X9_advance (upI H 14 3 (iAdd (H.1 14 3) 1)) ∧ sC B N T (c + 1) (n + 1) K0 H1 ∧ sQ B N (c + 1) d (n + 1) 0 S K0 K1 ∧ n + 1 ≤ 20 ∧ c + 1 ≤ pd_tPos B 200 N (c + 1) ∧
      gOne one cond H = (if f_X9_isAtSign 40 H = 0 then if H.1 4 11 = 18 then ((one H1).1, f_X6_addStep 18 0 0 (one H1).2) else gLeaf (H.1 4 11) H1 else gPar cond H1) ∧
      f_X12_operand K = (if f_X12_isWord 7237492 K = 0 then if f_X12_isSign 40 K = 0 then sLeaf (f_X12_leafOf K) K1 else sPush 23 K1 else sPush 20 K1) := by
  obtain ⟨h1, h2, h3, h4, h5, h6⟩ := h
  have eg : gOne one cond H = gX one cond H := by unfold gOne; rw [if_neg hc]
  have eo : f_X12_operand K = sX K := by rw [sn_op, if_neg hr]
  by_cases hn : n = 20
  · left
    have e1 : gX one cond H = ((f_X9_fail 4 H).1, (f_X9_fail 4 H).2) := by unfold gX; rw [if_neg (by rw [h1.2.2]; omega)]
    have e2 : sX K = ((f_X12_bad 4 K).1, (f_X12_bad 4 K).2) := by unfold sX; rw [if_pos (by rw [h2.2.2.2.2.1]; omega)]
    rw [eg, e1]
    exact ⟨rfl, sOp_bad h2.2.2.2.2.2.1 (K' := (f_X12_bad 4 K).2) (by rw [eo, e2]; rfl) (pd_FL_fail h1.1 h2.1 (by omega))⟩
  · right
    refine ⟨_, f_X12_next (upI K 29 47 (iAdd (K.1 29 47) 1)), rfl, sC_adv (sC_inc (by omega) h1) hk, sQ_next hN hb (sQ_inc (by omega) h2), by omega, sn_up1 h4 hk, ?_, ?_⟩
    · rw [eg]; unfold gX; rw [if_pos (by rw [h1.2.2]; omega)]
    · rw [eo]; unfold sX; rw [if_neg (by rw [h2.2.2.2.2.1]; omega), if_neg (by rw [h2.2.2.2.1]; omega)]
theorem sn_lf (hN : N ≤ 940) (hb : pd_hB8 B) {c0 : Nat} {K1 : hH} (hq0 : pd_LR B 200 N c0 K) (h4 : (pd_tTok B 200 N c0).1 = 4) {v : Int} (hv : (pd_tTok B 200 N c0).2.1 = v) (hbg : ¬ f_X7_beginsOne v = 0) (h18 : v ≠ 18) (hc : sC B N T c n K0 H) (hq : sQ B N c d n 0 S K0 K1) (hp : c ≤ pd_tPos B 200 N c) : sLf B N T c n d S K0 (gLeaf v H) (sLeaf (f_X12_leafOf K) K1) := by
  have hq2 := sQ_whole 1 hq
  have e0 : (upI K1 29 50 1).1 31 = K1.1 31 := by funext b; simp [upI]
  have hl := sn_leaf hq0
  have hcase : v = 9 ∨ v = 7 ∨ v = 8 ∨ v = 5 ∨ v = 19 ∨ v = 4 ∨ v = 20 ∨ v = 21 ∨ v = 22 := by
    have := (sn_begins v).mp hbg
    omega
  have low : ∀ l : Int, l < 3 → sLf B N T c n d S K0 (1, f_X6_addStep v 0 0 H) (sLeaf l K1) := by
    intro l h3
    right
    unfold sLeaf
    rw [if_pos h3]
    exact ⟨rfl, rfl, c, Nat.le_refl _, hp, sC_step _ _ _ hc, sQ_code hq2 _ _ _⟩
  have cmp : ∀ l : Int, ¬ l < 6 → (v = 20 ∨ v = 21 ∨ v = 22) → sLf B N T c n d S K0 (gLeaf v H) (sLeaf l K1) := by
    intro l h6 hv
    unfold gLeaf sLeaf
    rw [if_neg (by omega), if_neg (by omega), if_neg (by omega), if_pos hv, if_neg (by omega), if_neg h6]
    exact sn_lcomp hN hb hc hq hp v l
  rcases hcase with e | e | e | e | e | e | e | e | e
  · have : f_X12_leafOf K = 0 := by rw [hl]; simp [sW, h4, hv, e]
    rw [this]
    have : gLeaf v H = (1, f_X6_addStep v 0 0 H) := by unfold gLeaf; rw [if_neg (by omega), if_neg (by omega), if_neg (by omega), if_neg (by omega)]
    rw [this]
    exact low 0 (by omega)
  · have : f_X12_leafOf K = 1 := by rw [hl]; simp [sW, h4, hv, e]
    rw [this]
    have : gLeaf v H = (1, f_X6_addStep v 0 0 H) := by unfold gLeaf; rw [if_neg (by omega), if_neg (by omega), if_neg (by omega), if_neg (by omega)]
    rw [this]
    exact low 1 (by omega)
  · have : f_X12_leafOf K = 2 := by rw [hl]; simp [sW, h4, hv, e]
    rw [this]
    have : gLeaf v H = (1, f_X6_addStep v 0 0 H) := by unfold gLeaf; rw [if_neg (by omega), if_neg (by omega), if_neg (by omega), if_neg (by omega)]
    rw [this]
    exact low 2 (by omega)
  · have : f_X12_leafOf K = 3 := by rw [hl]; simp [sW, h4, hv, e]
    rw [this]
    unfold gLeaf sLeaf
    rw [if_pos e, if_neg (show ¬ (3 : Int) < 3 by omega), if_pos (show (3 : Int) < 6 by omega), if_pos rfl]
    exact sn_lnamed hN hb hc hq2 hp v 3 (s := 3) (by omega) (by rw [e0])
  · have : f_X12_leafOf K = 4 := by rw [hl]; simp [sW, h4, hv, e]
    rw [this]
    unfold gLeaf sLeaf
    rw [if_neg (by omega), if_pos e, if_neg (show ¬ (4 : Int) < 3 by omega), if_pos (show (4 : Int) < 6 by omega), if_neg (show ¬ (4 : Int) = 3 by omega), if_pos rfl]
    exact sn_lnamed hN hb hc hq2 hp v 4 (s := 0) (by omega) (by rw [e0])
  · have : f_X12_leafOf K = 5 := by rw [hl]; simp [sW, h4, hv, e]
    rw [this]
    unfold gLeaf sLeaf
    rw [if_neg (by omega), if_neg (by omega), if_pos e, if_neg (show ¬ (5 : Int) < 3 by omega), if_pos (show (5 : Int) < 6 by omega), if_neg (show ¬ (5 : Int) = 3 by omega), if_neg (show ¬ (5 : Int) = 4 by omega)]
    exact sn_lnamed hN hb hc hq2 hp v 5 (s := 1) (by omega) (by rw [e0])
  · have : f_X12_leafOf K = 6 := by rw [hl]; simp [sW, h4, hv, e]
    rw [this]
    exact cmp 6 (by omega) (by omega)
  · have : f_X12_leafOf K = 7 := by rw [hl]; simp [sW, h4, hv, e]
    rw [this]
    exact cmp 7 (by omega) (by omega)
  · have : f_X12_leafOf K = 8 := by rw [hl]; simp [sW, h4, hv, e]
    rw [this]
    exact cmp 8 (by omega) (by omega)
theorem sOne (hN : N ≤ 940) (hb : pd_hB8 B) {one cond F : hH → Int × hH} (hF : ∀ H, F H = gOne one cond H) (hd : d ≤ 8) (h1 : FOne B N T K0 one (d + 1)) (h2 : FCond B N T K0 cond (d + 1)) : FOne B N T K0 F d := by
  intro c n S H K h
  rw [hF]
  obtain ⟨hc, hq, hn, hp, hs, hd9⟩ := id h
  have hcc := hc.1.2.2.2.2.2.2.1
  have w0 := hq.2.2.2.2.2.1
  have hc940 := sI_c h
  by_cases k40 : (pd_tTok B 200 N c).1 = 2 ∧ (pd_tTok B 200 N c).2.1 = 40
  · -- a parenthesis
    have a40 : ¬ f_X9_isAtSign 40 H = 0 := by rw [sn_at hc.1, if_pos k40]; omega
    have b40 : ¬ f_X12_isSign 40 K = 0 := by rw [sn_is hq.1, if_pos k40]; omega
    have b18 : f_X12_isWord 7237492 K = 0 := by rw [sn_wd hq.1 (i := 18) (by omega) (by decide), if_neg (fun x => by have := x.1; omega)]
    rcases sn_begin (one := one) (cond := cond) hN hb h hd (by omega) (fun x => a40 x.1) (fun x => b40 x.2.1) with e | ⟨H1, K1, -, c1, q1, n1, p1, eg, eo⟩
    · exact Or.inl e
    · rw [if_neg a40] at eg
      rw [if_pos b18, if_neg b40] at eo
      rw [eg]
      have q2 := sQ_pp (by omega) (by omega) 23 q1
      have g1 : sGo K (sPush 23 K1).2 := sOp_go w0 (by rw [eo]; rfl)
      have ht : sTop 22 (23 :: S) := fun x s e => by
        injection e with e1 e2
        omega
      unfold gPar
      rcases h2 (c + 1) (n + 1) (23 :: S) H1 _ ht ⟨c1, q2, n1, p1, by rw [List.length_cons]; omega, by omega⟩ with ⟨r1, r2⟩ | ⟨r1, c2, n2, q, A, K2, s1, s2, s3, s4, s5, s6⟩
      · rw [if_pos r1]
        exact Or.inl ⟨rfl, sGo_bad g1 r2⟩
      · rw [if_neg r1]
        obtain ⟨t1, t2, t3, t4, t5, t6⟩ := id s3
        have hsl := sn_len t5
        have hc2 := sI_c s3
        rw [List.length_cons] at hsl
        by_cases kc : (pd_tTok B 200 N c2).1 = 2 ∧ (pd_tTok B 200 N c2).2.1 = 41
        · have ep : f_X9_passSign 41 (cond H1).2 = (1, f_X9_advance (cond H1).2) := by
            unfold f_X9_passSign
            rw [if_neg (by rw [sn_at t1.1, if_pos kc]; omega)]
          obtain ⟨K3, v1, v2⟩ := sn_close hN hb (by omega) (by omega) s4 kc.1 kc.2 t2
          have hkd := pd_tR_kd t2.1.2.2.2.2.1 (pd_tTok_ok c2)
          have g3 : sGo K2 K3 := sBe_go t2.2.2.2.2.2.1 (fun x => by have := hkd.2.1.mp x; omega) v1
          rw [ep, if_neg (by dsimp only; omega)]
          exact Or.inr ⟨by dsimp only; omega, c2 + 1, n2, 0, K3, by omega, sGo_tr g1 (sGo_tr s2 g3), sC_adv t1 (by omega), v2, t3, sn_up1 t4 (by omega), (by show S.length ≤ c2 + 1; omega), by omega⟩
        · have ep : f_X9_passSign 41 (cond H1).2 = (0, (f_X9_fail 1 (cond H1).2).2) := by
            unfold f_X9_passSign
            rw [if_pos (by rw [sn_at t1.1, if_neg kc])]
            rfl
          rw [ep, if_pos rfl]
          exact Or.inl ⟨rfl, sGo_bad (sGo_tr g1 s2) (sn_noclose (by rw [List.length_cons]; omega) (by omega) s4 ht s5 s6 t1 t2 (Or.inr ⟨by simp, kc⟩))⟩
  · have a40 : f_X9_isAtSign 40 H = 0 := by rw [sn_at hc.1, if_neg k40]
    have b40 : f_X12_isSign 40 K = 0 := by rw [sn_is hq.1, if_neg k40]
    by_cases k4 : (pd_tTok B 200 N c).1 = 4 ∧ ¬ f_X7_beginsOne (pd_tTok B 200 N c).2.1 = 0
    · obtain ⟨k4, kb⟩ := k4
      have e10 : H.1 4 10 = 4 := by rw [hcc.1, k4]; rfl
      have e11 : H.1 4 11 = (pd_tTok B 200 N c).2.1 := hcc.2.1 (by omega)
      have hcl : ¬ (f_X9_isAtSign 40 H = 0 ∧ ¬ (H.1 4 10 = 4 ∧ ¬ f_X7_beginsOne (H.1 4 11) = 0)) := fun x => x.2 ⟨e10, by rw [e11]; exact kb⟩
      by_cases k18 : (pd_tTok B 200 N c).2.1 = 18
      · -- not
        have b18 : ¬ f_X12_isWord 7237492 K = 0 := by rw [sn_wd hq.1 (i := 18) (by omega) (by decide), if_pos (show sW B 200 N c 18 from ⟨k4, k18⟩)]; omega
        rcases sn_begin (one := one) (cond := cond) hN hb h hd (by omega) hcl (fun x => b18 x.1) with e | ⟨H1, K1, -, c1, q1, n1, p1, eg, eo⟩
        · exact Or.inl e
        · rw [if_pos a40, if_pos (by rw [e11]; exact k18)] at eg
          rw [if_neg b18] at eo
          rw [eg]
          have q2 := sQ_pp (by omega) (by omega) 20 q1
          have g1 : sGo K (sPush 20 K1).2 := sOp_go w0 (by rw [eo]; rfl)
          rcases h1 (c + 1) (n + 1) (20 :: S) H1 _ ⟨c1, q2, n1, p1, by rw [List.length_cons]; omega, by omega⟩ with ⟨r1, r2⟩ | ⟨r1, c2, n2, q, K2, s1, s2, s3⟩
          · exact Or.inl ⟨r1, sBad_step _ _ _ (sGo_bad g1 r2)⟩
          · obtain ⟨t1, t2⟩ := s3
            rw [sn_rep, show d + 1 + q = d + (q + 1) by omega] at t2
            exact Or.inr ⟨r1, c2, n2, q + 1, K2, by omega, sGo_tr g1 s2, sC_step _ _ _ t1, t2⟩
      · -- a leaf
        have b18 : f_X12_isWord 7237492 K = 0 := by rw [sn_wd hq.1 (i := 18) (by omega) (by decide), if_neg (fun x => k18 x.2)]
        have bl : ¬ f_X12_leafOf K < 0 := by
          have hcase := (sn_begins _).mp kb
          have hcase : (pd_tTok B 200 N c).2.1 = 9 ∨ (pd_tTok B 200 N c).2.1 = 7 ∨ (pd_tTok B 200 N c).2.1 = 8 ∨ (pd_tTok B 200 N c).2.1 = 5 ∨ (pd_tTok B 200 N c).2.1 = 19 ∨ (pd_tTok B 200 N c).2.1 = 4 ∨ (pd_tTok B 200 N c).2.1 = 20 ∨ (pd_tTok B 200 N c).2.1 = 21 ∨ (pd_tTok B 200 N c).2.1 = 22 := by omega
          rw [sn_leaf hq.1]
          rcases hcase with e | e | e | e | e | e | e | e | e <;> simp [sW, k4, e]
        rcases sn_begin (one := one) (cond := cond) hN hb h hd (by omega) hcl (fun x => bl x.2.2) with e | ⟨H1, K1, -, c1, q1, n1, p1, eg, eo⟩
        · exact Or.inl e
        · rw [if_pos a40, if_neg (by rw [e11]; exact k18), e11] at eg
          rw [if_pos b18, if_pos b40] at eo
          rw [eg]
          rcases sn_lf hN hb hq.1 k4 rfl kb k18 c1 q1 p1 with ⟨r1, r2, r3⟩ | ⟨r1, r2, c2, r3, r4, r5, r6⟩
          · refine Or.inl ⟨r1, sOp_bad w0 (K' := (sLeaf (f_X12_leafOf K) K1).2) ?_ r3⟩
            rw [eo, ← r2]
          · refine Or.inr ⟨by rw [r1]; omega, c2, n + 1, 0, (sLeaf (f_X12_leafOf K) K1).2, by omega, sOp_go w0 (by rw [eo, ← r2]), r5, r6, n1, r4, (by show S.length ≤ c2; omega), by omega⟩
    · -- nothing that begins an operand
      have eg : gOne one cond H = ((f_X9_fail 1 H).1, (f_X9_fail 1 H).2) := by
        unfold gOne
        rw [if_pos]
        refine ⟨a40, fun x => k4 ?_⟩
        have x1 := x.1
        rw [hcc.1] at x1
        have x1 : (pd_tTok B 200 N c).1 = 4 := by omega
        have x2 := x.2
        rw [hcc.2.1 (by omega)] at x2
        exact ⟨x1, x2⟩
      have hno : ∀ i : Nat, (18 ≤ i ∧ i ≤ 22) ∨ (7 ≤ i ∧ i ≤ 9) ∨ i = 5 ∨ i = 4 → ¬ sW B 200 N c i := by
        intro i hi x
        refine k4 ⟨x.1, (sn_begins _).mpr ?_⟩
        rw [x.2]
        omega
      have eo : f_X12_operand K = ((f_X12_bad 1 K).1, (f_X12_bad 1 K).2) := by
        rw [sn_op, if_pos]
        refine ⟨by rw [sn_wd hq.1 (i := 18) (by omega) (by decide), if_neg (hno 18 (by omega))], b40, ?_⟩
        rw [sn_leaf hq.1, if_neg (hno 9 (by omega)), if_neg (hno 7 (by omega)), if_neg (hno 8 (by omega)), if_neg (hno 5 (by omega)), if_neg (hno 19 (by omega)), if_neg (hno 4 (by omega)), if_neg (hno 20 (by omega)), if_neg (hno 21 (by omega)), if_neg (hno 22 (by omega))]
        omega
      rw [eg]
      exact Or.inl ⟨rfl, sOp_bad w0 (K' := (f_X12_bad 1 K).2) (by rw [eo]; rfl) (pd_FL_fail hc.1 hq.1 (by omega))⟩
end SI
