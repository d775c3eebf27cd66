/-! Both sides read a sentence alike: the eight levels (written by wip/p42/gen_sn7.py). -/
set_option linter.unusedSimpArgs false
section SI
variable {B : Nat → Int} {N T : Nat} {K0 : hH}
theorem sn_o0 (hN : N ≤ 940) (hb : pd_hB8 B) : FOne B N T K0 f_X7_one0 9 := by
  intro c n S H K h
  left
  refine ⟨one0_0 H, ?_⟩
  obtain ⟨hc, hq, hn, hp, hs, hd9⟩ := id h
  have hcc := hc.1.2.2.2.2.2.2.1
  have w0 := hq.2.2.2.2.2.1
  have x9 : sX K = ((f_X12_bad 4 K).1, (f_X12_bad 4 K).2) := by
    unfold sX
    by_cases e : K.1 29 47 = 20
    · rw [if_pos e]
    · rw [if_neg e, if_pos (by rw [hq.2.2.2.1]; omega)]
  have four : f_X7_one0 H = ((f_X9_fail 4 H).1, (f_X9_fail 4 H).2) → ¬ (f_X12_isWord 7237492 K = 0 ∧ f_X12_isSign 40 K = 0 ∧ f_X12_leafOf K < 0) → sBad (f_X7_one0 H).2 K := by
    intro e hr
    rw [e]
    exact sOp_bad w0 (K' := (f_X12_bad 4 K).2) (by rw [sn_op, if_neg hr, x9]; rfl) (pd_FL_fail hc.1 hq.1 (by omega))
  have same : (if H.1 14 3 < 20 then ((f_X9_fail 4 H).1, (f_X9_fail 4 H).2) else ((f_X9_fail 4 H).1, (f_X9_fail 4 H).2)) = ((f_X9_fail 4 H).1, (f_X9_fail 4 H).2) := by split <;> rfl
  by_cases k40 : (pd_tTok B 200 N c).1 = 2 ∧ (pd_tTok B 200 N c).2.1 = 40
  · have a40 : ¬ f_X9_isAtSign 40 H = 0 := by rw [sn_at hc.1, if_pos k40]; omega
    have b40 : ¬ f_X12_isSign 40 K = 0 := by rw [sn_is hq.1, if_pos k40]; omega
    refine four ?_ (fun x => b40 x.2.1)
    unfold f_X7_one0
    rw [if_neg a40, same]
  · have a40 : f_X9_isAtSign 40 H = 0 := by rw [sn_at hc.1, if_neg k40]
    have b40 : f_X12_isSign 40 K = 0 := by rw [sn_is hq.1, if_neg k40]
    by_cases k4 : (pd_tTok B 200 N c).1 = 4 ∧ ¬ f_X7_beginsOne (pd_tTok B 200 N c).2.1 = 0
    · obtain ⟨k4, kb⟩ := k4
      have e10 : H.1 4 10 = 4 := by rw [hcc.1, k4]; rfl
      have e11 : H.1 4 11 = (pd_tTok B 200 N c).2.1 := hcc.2.1 (by omega)
      refine four ?_ (fun x => ?_)
      · unfold f_X7_one0
        rw [if_pos a40, if_pos e10, if_neg (by rw [e11]; exact kb), same]
      · by_cases k18 : (pd_tTok B 200 N c).2.1 = 18
        · have b18 : ¬ f_X12_isWord 7237492 K = 0 := by rw [sn_wd hq.1 (i := 18) (by omega) (by decide), if_pos (show sW B 200 N c 18 from ⟨k4, k18⟩)]; omega
          exact b18 x.1
        · have hcase := (sn_begins _).mp kb
          have hcase : (pd_tTok B 200 N c).2.1 = 9 ∨ (pd_tTok B 200 N c).2.1 = 7 ∨ (pd_tTok B 200 N c).2.1 = 8 ∨ (pd_tTok B 200 N c).2.1 = 5 ∨ (pd_tTok B 200 N c).2.1 = 19 ∨ (pd_tTok B 200 N c).2.1 = 4 ∨ (pd_tTok B 200 N c).2.1 = 20 ∨ (pd_tTok B 200 N c).2.1 = 21 ∨ (pd_tTok B 200 N c).2.1 = 22 := by omega
          have bl : ¬ f_X12_leafOf K < 0 := by
            rw [sn_leaf hq.1]
            rcases hcase with e | e | e | e | e | e | e | e | e <;> simp [sW, k4, e]
          exact bl x.2.2
    · have eg : f_X7_one0 H = ((f_X9_fail 1 H).1, (f_X9_fail 1 H).2) := by
        unfold f_X7_one0
        rw [if_pos a40]
        by_cases q4 : H.1 4 10 = 4
        · rw [if_pos q4]
          have q4' := q4
          rw [hcc.1] at q4'
          have q4' : (pd_tTok B 200 N c).1 = 4 := by omega
          rw [if_pos]
          by_cases z : f_X7_beginsOne (H.1 4 11) = 0
          · exact z
          · rw [hcc.2.1 (by omega)] at z
            exact absurd ⟨q4', z⟩ k4
        · rw [if_neg q4]
      have hno : ∀ i : Nat, (18 ≤ i ∧ i ≤ 22) ∨ (7 ≤ i ∧ i ≤ 9) ∨ i = 5 ∨ i = 4 → ¬ sW B 200 N c i := by
        intro i hi x
        refine k4 ⟨x.1, (sn_begins _).mpr ?_⟩
        rw [x.2]
        omega
      have eo : f_X12_operand K = ((f_X12_bad 1 K).1, (f_X12_bad 1 K).2) := by
        rw [sn_op, if_pos]
        refine ⟨by rw [sn_wd hq.1 (i := 18) (by omega) (by decide), if_neg (hno 18 (by omega))], b40, ?_⟩
        rw [sn_leaf hq.1, if_neg (hno 9 (by omega)), if_neg (hno 7 (by omega)), if_neg (hno 8 (by omega)), if_neg (hno 5 (by omega)), if_neg (hno 19 (by omega)), if_neg (hno 4 (by omega)), if_neg (hno 20 (by omega)), if_neg (hno 21 (by omega)), if_neg (hno 22 (by omega))]
        omega
      rw [eg]
      exact sOp_bad w0 (K' := (f_X12_bad 1 K).2) (by rw [eo]; rfl) (pd_FL_fail hc.1 hq.1 (by omega))
theorem sn_c0 (hN : N ≤ 940) (hb : pd_hB8 B) : FCond B N T K0 f_X7_cond0 9 := by
  intro c n S H K _ h
  rcases sn_o0 hN hb c n S H K h with ⟨r1, r2⟩ | ⟨r1, -⟩
  · left
    have ea : f_X7_all0 H = (0, (f_X7_one0 H).2) := by unfold f_X7_all0; rw [if_pos r1]
    have ec : f_X7_cond0 H = (0, (f_X7_one0 H).2) := by unfold f_X7_cond0; rw [ea, if_pos rfl]
    rw [ec]
    exact ⟨rfl, r2⟩
  · exact absurd (one0_0 H) r1
theorem sn_e1 (H : hH) : f_X7_one1 H = gOne f_X7_one0 f_X7_cond0 H := by
  by_cases h1 : f_X9_isAtSign 40 H = 0
  · by_cases h2 : H.1 4 10 = 4
    · by_cases h3 : f_X7_beginsOne (H.1 4 11) = 0
      · unfold f_X7_one1 gOne
        rw [if_pos h1, if_pos h2, if_pos h3, if_pos ⟨h1, fun q => q.2 h3⟩]
      · have eg : gOne f_X7_one0 f_X7_cond0 H = gX f_X7_one0 f_X7_cond0 H := by unfold gOne; rw [if_neg (fun q => q.2 ⟨h2, h3⟩)]
        rw [eg]
        unfold f_X7_one1 gX
        simp only [if_pos h1, if_pos h2, if_neg h3]
        rfl
    · unfold f_X7_one1 gOne
      rw [if_pos h1, if_neg h2, if_pos ⟨h1, fun q => h2 q.1⟩]
  · have eg : gOne f_X7_one0 f_X7_cond0 H = gX f_X7_one0 f_X7_cond0 H := by unfold gOne; rw [if_neg (fun q => h1 q.1)]
    rw [eg]
    unfold f_X7_one1 gX
    simp only [if_neg h1]
    unfold gPar
    simp only [if_pos (cond0_0 _)]
theorem sn_al1 : ∀ (k : Nat) (H : hH), f_X7_al1 k H = gAl f_X7_one1 k H
  | 0, H => rfl
  | k + 1, H => by
    unfold f_X7_al1 gAl
    rw [sn_al1 k]
theorem sn_cl1 : ∀ (k : Nat) (H : hH), f_X7_cl1 k H = gCl f_X7_all1 k H
  | 0, H => rfl
  | k + 1, H => by
    unfold f_X7_cl1 gCl
    rw [sn_cl1 k]
theorem sn_o1 (hN : N ≤ 940) (hb : pd_hB8 B) : FOne B N T K0 f_X7_one1 8 := sOne hN hb sn_e1 (by omega) (sn_o0 hN hb) (sn_c0 hN hb)
theorem sn_c1 (hN : N ≤ 940) (hb : pd_hB8 B) : FCond B N T K0 f_X7_cond1 8 := sCond hN hb (all := f_X7_all1) (fun H => by unfold f_X7_cond1 gCond; rw [sn_cl1]) (sAll hN hb (one := f_X7_one1) (fun H => by unfold f_X7_all1 gAll; rw [sn_al1]) (sn_o1 hN hb))
theorem sn_e2 (H : hH) : f_X7_one2 H = gOne f_X7_one1 f_X7_cond1 H := by
  by_cases h1 : f_X9_isAtSign 40 H = 0
  · by_cases h2 : H.1 4 10 = 4
    · by_cases h3 : f_X7_beginsOne (H.1 4 11) = 0
      · unfold f_X7_one2 gOne
        rw [if_pos h1, if_pos h2, if_pos h3, if_pos ⟨h1, fun q => q.2 h3⟩]
      · have eg : gOne f_X7_one1 f_X7_cond1 H = gX f_X7_one1 f_X7_cond1 H := by unfold gOne; rw [if_neg (fun q => q.2 ⟨h2, h3⟩)]
        rw [eg]
        unfold f_X7_one2 gX
        simp only [if_pos h1, if_pos h2, if_neg h3]
        rfl
    · unfold f_X7_one2 gOne
      rw [if_pos h1, if_neg h2, if_pos ⟨h1, fun q => h2 q.1⟩]
  · have eg : gOne f_X7_one1 f_X7_cond1 H = gX f_X7_one1 f_X7_cond1 H := by unfold gOne; rw [if_neg (fun q => h1 q.1)]
    rw [eg]
    unfold f_X7_one2 gX
    simp only [if_neg h1]
    rfl
theorem sn_al2 : ∀ (k : Nat) (H : hH), f_X7_al2 k H = gAl f_X7_one2 k H
  | 0, H => rfl
  | k + 1, H => by
    unfold f_X7_al2 gAl
    rw [sn_al2 k]
theorem sn_cl2 : ∀ (k : Nat) (H : hH), f_X7_cl2 k H = gCl f_X7_all2 k H
  | 0, H => rfl
  | k + 1, H => by
    unfold f_X7_cl2 gCl
    rw [sn_cl2 k]
theorem sn_o2 (hN : N ≤ 940) (hb : pd_hB8 B) : FOne B N T K0 f_X7_one2 7 := sOne hN hb sn_e2 (by omega) (sn_o1 hN hb) (sn_c1 hN hb)
theorem sn_c2 (hN : N ≤ 940) (hb : pd_hB8 B) : FCond B N T K0 f_X7_cond2 7 := sCond hN hb (all := f_X7_all2) (fun H => by unfold f_X7_cond2 gCond; rw [sn_cl2]) (sAll hN hb (one := f_X7_one2) (fun H => by unfold f_X7_all2 gAll; rw [sn_al2]) (sn_o2 hN hb))
theorem sn_e3 (H : hH) : f_X7_one3 H = gOne f_X7_one2 f_X7_cond2 H := by
  by_cases h1 : f_X9_isAtSign 40 H = 0
  · by_cases h2 : H.1 4 10 = 4
    · by_cases h3 : f_X7_beginsOne (H.1 4 11) = 0
      · unfold f_X7_one3 gOne
        rw [if_pos h1, if_pos h2, if_pos h3, if_pos ⟨h1, fun q => q.2 h3⟩]
      · have eg : gOne f_X7_one2 f_X7_cond2 H = gX f_X7_one2 f_X7_cond2 H := by unfold gOne; rw [if_neg (fun q => q.2 ⟨h2, h3⟩)]
        rw [eg]
        unfold f_X7_one3 gX
        simp only [if_pos h1, if_pos h2, if_neg h3]
        rfl
    · unfold f_X7_one3 gOne
      rw [if_pos h1, if_neg h2, if_pos ⟨h1, fun q => h2 q.1⟩]
  · have eg : gOne f_X7_one2 f_X7_cond2 H = gX f_X7_one2 f_X7_cond2 H := by unfold gOne; rw [if_neg (fun q => h1 q.1)]
    rw [eg]
    unfold f_X7_one3 gX
    simp only [if_neg h1]
    rfl
theorem sn_al3 : ∀ (k : Nat) (H : hH), f_X7_al3 k H = gAl f_X7_one3 k H
  | 0, H => rfl
  | k + 1, H => by
    unfold f_X7_al3 gAl
    rw [sn_al3 k]
theorem sn_cl3 : ∀ (k : Nat) (H : hH), f_X7_cl3 k H = gCl f_X7_all3 k H
  | 0, H => rfl
  | k + 1, H => by
    unfold f_X7_cl3 gCl
    rw [sn_cl3 k]
theorem sn_o3 (hN : N ≤ 940) (hb : pd_hB8 B) : FOne B N T K0 f_X7_one3 6 := sOne hN hb sn_e3 (by omega) (sn_o2 hN hb) (sn_c2 hN hb)
theorem sn_c3 (hN : N ≤ 940) (hb : pd_hB8 B) : FCond B N T K0 f_X7_cond3 6 := sCond hN hb (all := f_X7_all3) (fun H => by unfold f_X7_cond3 gCond; rw [sn_cl3]) (sAll hN hb (one := f_X7_one3) (fun H => by unfold f_X7_all3 gAll; rw [sn_al3]) (sn_o3 hN hb))
theorem sn_e4 (H : hH) : f_X7_one4 H = gOne f_X7_one3 f_X7_cond3 H := by
  by_cases h1 : f_X9_isAtSign 40 H = 0
  · by_cases h2 : H.1 4 10 = 4
    · by_cases h3 : f_X7_beginsOne (H.1 4 11) = 0
      · unfold f_X7_one4 gOne
        rw [if_pos h1, if_pos h2, if_pos h3, if_pos ⟨h1, fun q => q.2 h3⟩]
      · have eg : gOne f_X7_one3 f_X7_cond3 H = gX f_X7_one3 f_X7_cond3 H := by unfold gOne; rw [if_neg (fun q => q.2 ⟨h2, h3⟩)]
        rw [eg]
        unfold f_X7_one4 gX
        simp only [if_pos h1, if_pos h2, if_neg h3]
        rfl
    · unfold f_X7_one4 gOne
      rw [if_pos h1, if_neg h2, if_pos ⟨h1, fun q => h2 q.1⟩]
  · have eg : gOne f_X7_one3 f_X7_cond3 H = gX f_X7_one3 f_X7_cond3 H := by unfold gOne; rw [if_neg (fun q => h1 q.1)]
    rw [eg]
    unfold f_X7_one4 gX
    simp only [if_neg h1]
    rfl
theorem sn_al4 : ∀ (k : Nat) (H : hH), f_X7_al4 k H = gAl f_X7_one4 k H
  | 0, H => rfl
  | k + 1, H => by
    unfold f_X7_al4 gAl
    rw [sn_al4 k]
theorem sn_cl4 : ∀ (k : Nat) (H : hH), f_X7_cl4 k H = gCl f_X7_all4 k H
  | 0, H => rfl
  | k + 1, H => by
    unfold f_X7_cl4 gCl
    rw [sn_cl4 k]
theorem sn_o4 (hN : N ≤ 940) (hb : pd_hB8 B) : FOne B N T K0 f_X7_one4 5 := sOne hN hb sn_e4 (by omega) (sn_o3 hN hb) (sn_c3 hN hb)
theorem sn_c4 (hN : N ≤ 940) (hb : pd_hB8 B) : FCond B N T K0 f_X7_cond4 5 := sCond hN hb (all := f_X7_all4) (fun H => by unfold f_X7_cond4 gCond; rw [sn_cl4]) (sAll hN hb (one := f_X7_one4) (fun H => by unfold f_X7_all4 gAll; rw [sn_al4]) (sn_o4 hN hb))
theorem sn_e5 (H : hH) : f_X7_one5 H = gOne f_X7_one4 f_X7_cond4 H := by
  by_cases h1 : f_X9_isAtSign 40 H = 0
  · by_cases h2 : H.1 4 10 = 4
    · by_cases h3 : f_X7_beginsOne (H.1 4 11) = 0
      · unfold f_X7_one5 gOne
        rw [if_pos h1, if_pos h2, if_pos h3, if_pos ⟨h1, fun q => q.2 h3⟩]
      · have eg : gOne f_X7_one4 f_X7_cond4 H = gX f_X7_one4 f_X7_cond4 H := by unfold gOne; rw [if_neg (fun q => q.2 ⟨h2, h3⟩)]
        rw [eg]
        unfold f_X7_one5 gX
        simp only [if_pos h1, if_pos h2, if_neg h3]
        rfl
    · unfold f_X7_one5 gOne
      rw [if_pos h1, if_neg h2, if_pos ⟨h1, fun q => h2 q.1⟩]
  · have eg : gOne f_X7_one4 f_X7_cond4 H = gX f_X7_one4 f_X7_cond4 H := by unfold gOne; rw [if_neg (fun q => h1 q.1)]
    rw [eg]
    unfold f_X7_one5 gX
    simp only [if_neg h1]
    rfl
theorem sn_al5 : ∀ (k : Nat) (H : hH), f_X7_al5 k H = gAl f_X7_one5 k H
  | 0, H => rfl
  | k + 1, H => by
    unfold f_X7_al5 gAl
    rw [sn_al5 k]
theorem sn_cl5 : ∀ (k : Nat) (H : hH), f_X7_cl5 k H = gCl f_X7_all5 k H
  | 0, H => rfl
  | k + 1, H => by
    unfold f_X7_cl5 gCl
    rw [sn_cl5 k]
theorem sn_o5 (hN : N ≤ 940) (hb : pd_hB8 B) : FOne B N T K0 f_X7_one5 4 := sOne hN hb sn_e5 (by omega) (sn_o4 hN hb) (sn_c4 hN hb)
theorem sn_c5 (hN : N ≤ 940) (hb : pd_hB8 B) : FCond B N T K0 f_X7_cond5 4 := sCond hN hb (all := f_X7_all5) (fun H => by unfold f_X7_cond5 gCond; rw [sn_cl5]) (sAll hN hb (one := f_X7_one5) (fun H => by unfold f_X7_all5 gAll; rw [sn_al5]) (sn_o5 hN hb))
theorem sn_e6 (H : hH) : f_X7_one6 H = gOne f_X7_one5 f_X7_cond5 H := by
  by_cases h1 : f_X9_isAtSign 40 H = 0
  · by_cases h2 : H.1 4 10 = 4
    · by_cases h3 : f_X7_beginsOne (H.1 4 11) = 0
      · unfold f_X7_one6 gOne
        rw [if_pos h1, if_pos h2, if_pos h3, if_pos ⟨h1, fun q => q.2 h3⟩]
      · have eg : gOne f_X7_one5 f_X7_cond5 H = gX f_X7_one5 f_X7_cond5 H := by unfold gOne; rw [if_neg (fun q => q.2 ⟨h2, h3⟩)]
        rw [eg]
        unfold f_X7_one6 gX
        simp only [if_pos h1, if_pos h2, if_neg h3]
        rfl
    · unfold f_X7_one6 gOne
      rw [if_pos h1, if_neg h2, if_pos ⟨h1, fun q => h2 q.1⟩]
  · have eg : gOne f_X7_one5 f_X7_cond5 H = gX f_X7_one5 f_X7_cond5 H := by unfold gOne; rw [if_neg (fun q => h1 q.1)]
    rw [eg]
    unfold f_X7_one6 gX
    simp only [if_neg h1]
    rfl
theorem sn_al6 : ∀ (k : Nat) (H : hH), f_X7_al6 k H = gAl f_X7_one6 k H
  | 0, H => rfl
  | k + 1, H => by
    unfold f_X7_al6 gAl
    rw [sn_al6 k]
theorem sn_cl6 : ∀ (k : Nat) (H : hH), f_X7_cl6 k H = gCl f_X7_all6 k H
  | 0, H => rfl
  | k + 1, H => by
    unfold f_X7_cl6 gCl
    rw [sn_cl6 k]
theorem sn_o6 (hN : N ≤ 940) (hb : pd_hB8 B) : FOne B N T K0 f_X7_one6 3 := sOne hN hb sn_e6 (by omega) (sn_o5 hN hb) (sn_c5 hN hb)
theorem sn_c6 (hN : N ≤ 940) (hb : pd_hB8 B) : FCond B N T K0 f_X7_cond6 3 := sCond hN hb (all := f_X7_all6) (fun H => by unfold f_X7_cond6 gCond; rw [sn_cl6]) (sAll hN hb (one := f_X7_one6) (fun H => by unfold f_X7_all6 gAll; rw [sn_al6]) (sn_o6 hN hb))
theorem sn_e7 (H : hH) : f_X7_one7 H = gOne f_X7_one6 f_X7_cond6 H := by
  by_cases h1 : f_X9_isAtSign 40 H = 0
  · by_cases h2 : H.1 4 10 = 4
    · by_cases h3 : f_X7_beginsOne (H.1 4 11) = 0
      · unfold f_X7_one7 gOne
        rw [if_pos h1, if_pos h2, if_pos h3, if_pos ⟨h1, fun q => q.2 h3⟩]
      · have eg : gOne f_X7_one6 f_X7_cond6 H = gX f_X7_one6 f_X7_cond6 H := by unfold gOne; rw [if_neg (fun q => q.2 ⟨h2, h3⟩)]
        rw [eg]
        unfold f_X7_one7 gX
        simp only [if_pos h1, if_pos h2, if_neg h3]
        rfl
    · unfold f_X7_one7 gOne
      rw [if_pos h1, if_neg h2, if_pos ⟨h1, fun q => h2 q.1⟩]
  · have eg : gOne f_X7_one6 f_X7_cond6 H = gX f_X7_one6 f_X7_cond6 H := by unfold gOne; rw [if_neg (fun q => h1 q.1)]
    rw [eg]
    unfold f_X7_one7 gX
    simp only [if_neg h1]
    rfl
theorem sn_al7 : ∀ (k : Nat) (H : hH), f_X7_al7 k H = gAl f_X7_one7 k H
  | 0, H => rfl
  | k + 1, H => by
    unfold f_X7_al7 gAl
    rw [sn_al7 k]
theorem sn_cl7 : ∀ (k : Nat) (H : hH), f_X7_cl7 k H = gCl f_X7_all7 k H
  | 0, H => rfl
  | k + 1, H => by
    unfold f_X7_cl7 gCl
    rw [sn_cl7 k]
theorem sn_o7 (hN : N ≤ 940) (hb : pd_hB8 B) : FOne B N T K0 f_X7_one7 2 := sOne hN hb sn_e7 (by omega) (sn_o6 hN hb) (sn_c6 hN hb)
theorem sn_c7 (hN : N ≤ 940) (hb : pd_hB8 B) : FCond B N T K0 f_X7_cond7 2 := sCond hN hb (all := f_X7_all7) (fun H => by unfold f_X7_cond7 gCond; rw [sn_cl7]) (sAll hN hb (one := f_X7_one7) (fun H => by unfold f_X7_all7 gAll; rw [sn_al7]) (sn_o7 hN hb))
theorem sn_e8 (H : hH) : f_X7_one8 H = gOne f_X7_one7 f_X7_cond7 H := by
  by_cases h1 : f_X9_isAtSign 40 H = 0
  · by_cases h2 : H.1 4 10 = 4
    · by_cases h3 : f_X7_beginsOne (H.1 4 11) = 0
      · unfold f_X7_one8 gOne
        rw [if_pos h1, if_pos h2, if_pos h3, if_pos ⟨h1, fun q => q.2 h3⟩]
      · have eg : gOne f_X7_one7 f_X7_cond7 H = gX f_X7_one7 f_X7_cond7 H := by unfold gOne; rw [if_neg (fun q => q.2 ⟨h2, h3⟩)]
        rw [eg]
        unfold f_X7_one8 gX
        simp only [if_pos h1, if_pos h2, if_neg h3]
        rfl
    · unfold f_X7_one8 gOne
      rw [if_pos h1, if_neg h2, if_pos ⟨h1, fun q => h2 q.1⟩]
  · have eg : gOne f_X7_one7 f_X7_cond7 H = gX f_X7_one7 f_X7_cond7 H := by unfold gOne; rw [if_neg (fun q => h1 q.1)]
    rw [eg]
    unfold f_X7_one8 gX
    simp only [if_neg h1]
    rfl
theorem sn_al8 : ∀ (k : Nat) (H : hH), f_X7_al8 k H = gAl f_X7_one8 k H
  | 0, H => rfl
  | k + 1, H => by
    unfold f_X7_al8 gAl
    rw [sn_al8 k]
theorem sn_cl8 : ∀ (k : Nat) (H : hH), f_X7_cl8 k H = gCl f_X7_all8 k H
  | 0, H => rfl
  | k + 1, H => by
    unfold f_X7_cl8 gCl
    rw [sn_cl8 k]
theorem sn_o8 (hN : N ≤ 940) (hb : pd_hB8 B) : FOne B N T K0 f_X7_one8 1 := sOne hN hb sn_e8 (by omega) (sn_o7 hN hb) (sn_c7 hN hb)
theorem sn_c8 (hN : N ≤ 940) (hb : pd_hB8 B) : FCond B N T K0 f_X7_cond8 1 := sCond hN hb (all := f_X7_all8) (fun H => by unfold f_X7_cond8 gCond; rw [sn_cl8]) (sAll hN hb (one := f_X7_one8) (fun H => by unfold f_X7_all8 gAll; rw [sn_al8]) (sn_o8 hN hb))
end SI
