/-! Both sides read a sentence alike: one operand (by hand). -/
set_option linter.unusedSimpArgs false
def sPush (x : Int) (K1 : hH) : Int × hH := (1, (upI (upI (upI K1 46 (K1.1 29 48).toNat x) 29 48 (iAdd (K1.1 29 48) 1)) 29 49 (iAdd (K1.1 29 49) 1)))
def sName (l b m : Int) (K2 : hH) : Int × hH := if (f_X12_looksAt b m K2).1 = 0 then (0, (f_X12_looksAt b m K2).2) else (1, f_X12_next (f_X12_code l 0 ((f_X12_looksAt b m K2).2.1 29 18) (f_X12_looksAt b m K2).2))
def sComp (l : Int) (K1 : hH) : Int × hH :=
  if K1.1 29 11 = 3 then
    if K1.1 29 14 < 60 then ((f_X12_bad 1 (upI K1 29 50 1)).1, (f_X12_bad 1 (upI K1 29 50 1)).2)
    else if 62 < K1.1 29 14 then ((f_X12_bad 1 (upI K1 29 50 1)).1, (f_X12_bad 1 (upI K1 29 50 1)).2)
    else if (f_X12_next (upI K1 29 50 1)).1 29 11 = 2 then (1, f_X12_next (f_X12_code l (K1.1 29 14) ((f_X12_next (upI K1 29 50 1)).1 29 14) (f_X12_next (upI K1 29 50 1))))
    else ((f_X12_bad 1 (f_X12_next (upI K1 29 50 1))).1, (f_X12_bad 1 (f_X12_next (upI K1 29 50 1))).2)
  else ((f_X12_bad 1 (upI K1 29 50 1)).1, (f_X12_bad 1 (upI K1 29 50 1)).2)
def sLeaf (l : Int) (K1 : hH) : Int × hH :=
  if l < 3 then (1, f_X12_code l 0 0 (upI K1 29 50 1)) else
    if l < 6 then
      if l = 3 then sName l 17 (K1.1 31 3) (upI K1 29 50 1) else if l = 4 then sName l 0 (K1.1 31 0) (upI K1 29 50 1) else sName l 4 (K1.1 31 1) (upI K1 29 50 1)
    else sComp l K1
def sX (K : hH) : Int × hH :=
  if K.1 29 47 = 20 then ((f_X12_bad 4 K).1, (f_X12_bad 4 K).2) else
    if 8 < K.1 29 49 then ((f_X12_bad 4 K).1, (f_X12_bad 4 K).2) else
      if f_X12_isWord 7237492 K = 0 then
        if f_X12_isSign 40 K = 0 then sLeaf (f_X12_leafOf K) (f_X12_next (upI K 29 47 (iAdd (K.1 29 47) 1)))
        else sPush 23 (f_X12_next (upI K 29 47 (iAdd (K.1 29 47) 1)))
      else sPush 20 (f_X12_next (upI K 29 47 (iAdd (K.1 29 47) 1)))
theorem sn_op (K : hH) : f_X12_operand K = if f_X12_isWord 7237492 K = 0 ∧ f_X12_isSign 40 K = 0 ∧ f_X12_leafOf K < 0 then ((f_X12_bad 1 K).1, (f_X12_bad 1 K).2) else sX K := by
  by_cases h1 : f_X12_isWord 7237492 K = 0
  · by_cases h2 : f_X12_isSign 40 K = 0
    · by_cases h3 : f_X12_leafOf K < 0
      · rw [if_pos ⟨h1, h2, h3⟩]
        unfold f_X12_operand
        rw [if_pos h1, if_pos h2, if_pos h3]
      · rw [if_neg (fun q => h3 q.2.2)]
        unfold f_X12_operand sX
        simp only [if_pos h1, if_pos h2, if_neg h3]
        rfl
    · rw [if_neg (fun q => h2 q.2.1)]
      unfold f_X12_operand sX
      simp only [if_pos h1, if_neg h2]
      rfl
  · rw [if_neg (fun q => h1 q.1)]
    unfold f_X12_operand sX
    simp only [if_neg h1]
    rfl
def gPar (cond : hH → Int × hH) (H1 : hH) : Int × hH := if (cond H1).1 = 0 then (0, (cond H1).2) else if (f_X9_passSign 41 (cond H1).2).1 = 0 then (0, (f_X9_passSign 41 (cond H1).2).2) else (1, (f_X9_passSign 41 (cond H1).2).2)
def gLeaf (v : Int) (H1 : hH) : Int × hH :=
  if v = 5 then ((f_X7_readNamed v 3 H1).1, (f_X7_readNamed v 3 H1).2) else
    if v = 19 then ((f_X7_readNamed v 0 H1).1, (f_X7_readNamed v 0 H1).2) else
      if v = 4 then ((f_X7_readNamed v 1 H1).1, (f_X7_readNamed v 1 H1).2) else
        if v = 20 ∨ v = 21 ∨ v = 22 then ((f_X7_readComparison v H1).1, (f_X7_readComparison v H1).2) else (1, f_X6_addStep v 0 0 H1)
def gX (one cond : hH → Int × hH) (H : hH) : Int × hH :=
  if H.1 14 3 < 20 then
    if f_X9_isAtSign 40 H = 0 then
      if H.1 4 11 = 18 then ((one (f_X9_advance (upI H 14 3 (iAdd (H.1 14 3) 1)))).1, f_X6_addStep 18 0 0 (one (f_X9_advance (upI H 14 3 (iAdd (H.1 14 3) 1)))).2)
      else gLeaf (H.1 4 11) (f_X9_advance (upI H 14 3 (iAdd (H.1 14 3) 1)))
    else gPar cond (f_X9_advance (upI H 14 3 (iAdd (H.1 14 3) 1)))
  else ((f_X9_fail 4 H).1, (f_X9_fail 4 H).2)
def gOne (one cond : hH → Int × hH) (H : hH) : Int × hH := if f_X9_isAtSign 40 H = 0 ∧ ¬ (H.1 4 10 = 4 ∧ ¬ f_X7_beginsOne (H.1 4 11) = 0) then ((f_X9_fail 1 H).1, (f_X9_fail 1 H).2) else gX one cond H
section SI
variable {B : Nat → Int} {N T c n d : Nat} {w : Int} {S : List Int} {H K K0 : hH}
theorem sn_up1 (hp : c ≤ pd_tPos B 200 N c) (hk : 2 ≤ (pd_tTok B 200 N c).1) : c + 1 ≤ pd_tPos B 200 N (c + 1) := by
  have hp2 := (pd_tNx_ok (B := B) (lim := 200) (N := N) (pd_tPos_le c)).2.2.2 hk
  have hp2 : pd_tPos B 200 N c < pd_tPos B 200 N (c + 1) := hp2
  omega
/-- what a leaf leaves -/
def sLf (B : Nat → Int) (N T c n d : Nat) (S : List Int) (K0 : hH) (x y : Int × hH) : Prop :=
  (x.1 = 0 ∧ y.1 = 0 ∧ pd_FL x.2 y.2) ∨ (x.1 = 1 ∧ y.1 = 1 ∧ ∃ c', c ≤ c' ∧ c' ≤ pd_tPos B 200 N c' ∧ sC B N T c' n K0 x.2 ∧ sQ B N c' d n 1 S K0 y.2)
theorem sn_lnamed (hN : N ≤ 940) (hb : pd_hB8 B) (hc : sC B N T c n K0 H) (hq : sQ B N c d n 1 S K0 K) (hp : c ≤ pd_tPos B 200 N c) (v l : Int) {s : Nat} (hs : s < 4) {m : Int} (hm : m = K.1 31 s) : sLf B N T c n d S K0 (f_X7_readNamed v (s : Int) H) (sName l ((sn_base s : Nat) : Int) m K) := by
  subst hm
  unfold f_X7_readNamed sName
  rcases sn_named hc.1 hq.1 (sQ_N hq hc.2.1) hs with ⟨e1, e2, e3⟩ | ⟨k, e1, e2, e3⟩
  · left
    rw [if_pos e1, if_pos e2]
    exact ⟨rfl, rfl, e3⟩
  · right
    rw [e1, e2, if_neg (by dsimp only; omega), if_neg (by dsimp only; omega)]
    exact ⟨rfl, rfl, c + 1, by omega, sn_up1 hp e3, sC_adv (sC_step _ _ _ hc) e3, sQ_next hN hb (sQ_code (sQ_18 _ hq) _ _ _)⟩
theorem sn_lcomp (hN : N ≤ 940) (hb : pd_hB8 B) (hc : sC B N T c n K0 H) (hq : sQ B N c d n w S K0 K) (hp : c ≤ pd_tPos B 200 N c) (v l : Int) : sLf B N T c n d S K0 (f_X7_readComparison v H) (sComp l K) := by
  have hq2 := sQ_whole 1 hq
  have hok := pd_tTok_ok (B := B) (lim := 200) (N := N) c
  have hr := hq.1.2.2.2.2.1
  have hf : pd_FL (f_X9_fail 1 H).2 (f_X12_bad 1 (upI K 29 50 1)).2 := pd_FL_fail hc.1 hq2.1 (by omega)
  -- behind one of the three signs
  have go : ∀ z : Int, (pd_tTok B 200 N c).1 = 2 → (pd_tTok B 200 N c).2.1 = z → 60 ≤ z → z ≤ 62 → sLf B N T c n d S K0 (if ((f_X9_passNumber 0 999 (f_X9_advance H)).1) = (-1) then (0, (f_X6_addStep v (H.1 4 11) ((f_X9_passNumber 0 999 (f_X9_advance H)).1) (f_X9_passNumber 0 999 (f_X9_advance H)).2)) else (1, (f_X6_addStep v (H.1 4 11) ((f_X9_passNumber 0 999 (f_X9_advance H)).1) (f_X9_passNumber 0 999 (f_X9_advance H)).2))) (sComp l K) := by
    intro z k2 kz z1 z2
    have hc1 := sC_adv hc (by omega)
    have hq3 := sQ_next hN hb hq2
    have hr3 := hq3.1.2.2.2.2.1
    have hok3 := pd_tTok_ok (B := B) (lim := 200) (N := N) (c + 1)
    have hp1 := sn_up1 hp (by omega)
    have e14 : K.1 29 14 = z := by rw [hr.2.1 (Or.inl k2)]; exact kz
    have es : sComp l K = if (f_X12_next (upI K 29 50 1)).1 29 11 = 2 then (1, f_X12_next (f_X12_code l (K.1 29 14) ((f_X12_next (upI K 29 50 1)).1 29 14) (f_X12_next (upI K 29 50 1)))) else ((f_X12_bad 1 (f_X12_next (upI K 29 50 1))).1, (f_X12_bad 1 (f_X12_next (upI K 29 50 1))).2) := by
      unfold sComp
      rw [if_pos ((pd_tR_kd hr hok).2.2.1.mpr k2), if_neg (by omega), if_neg (by omega)]
    rw [es]
    rcases pd_pNumber hc1.1 hq3.1 0 999 with ⟨a1, a2, a3⟩ | ⟨m, a1, a2, a3, a4, a5⟩
    · left
      rw [if_pos a1]
      by_cases k3 : (pd_tTok B 200 N (c + 1)).1 = 3
      · exfalso
        obtain ⟨r1, r2⟩ := sn_rng k3
        have hx : ¬ (f_X12_takes 0 999 (f_X12_next (upI K 29 50 1))).1 = 0 := by
          unfold f_X12_takes
          rw [if_pos ((pd_tR_kd hr3 hok3).2.2.2.mpr k3), hr3.2.1 (by omega)]
          unfold f_X12_isIn
          rw [if_neg (by omega)]
          dsimp only
          omega
        exact hx a2
      · rw [if_neg (fun q => k3 ((pd_tR_kd hr3 hok3).2.2.2.mp q))]
        refine ⟨rfl, rfl, FL_step _ _ _ ?_⟩
        have e : f_X9_passNumber 0 999 (f_X9_advance H) = ((-1), (f_X9_fail 1 (f_X9_advance H)).2) := by
          unfold f_X9_passNumber
          rw [hc1.1.2.2.2.2.2.2.1.1, if_neg (show ¬ (((pd_tTok B 200 N (c + 1)).1 : Nat) : Int) = 3 by omega)]
        rw [e]
        exact pd_FL_fail hc1.1 hq3.1 (by omega)
    · right
      have k3 : (pd_tTok B 200 N (c + 1)).1 = 3 := by
        by_cases k3 : (pd_tTok B 200 N (c + 1)).1 = 3
        · exact k3
        · exfalso
          have hx : (f_X9_passNumber 0 999 (f_X9_advance H)).1 = -1 := by
            unfold f_X9_passNumber
            rw [hc1.1.2.2.2.2.2.2.1.1, if_neg (show ¬ (((pd_tTok B 200 N (c + 1)).1 : Nat) : Int) = 3 by omega)]
          rw [a1] at hx
          have hx : m = -1 := hx
          omega
      rw [a1, if_neg (by dsimp only; omega), if_pos ((pd_tR_kd hr3 hok3).2.2.2.mpr k3)]
      exact ⟨rfl, rfl, c + 2, by omega, sn_up1 hp1 a5, sC_step _ _ _ (sC_adv hc1 a5), sQ_next hN hb (sQ_code hq3 _ _ _)⟩
  have at1 : ∀ z : Int, (pd_tTok B 200 N c).1 = 2 → (pd_tTok B 200 N c).2.1 = z → ¬ f_X9_isAtSign z H = 0 := fun z k2 kz => by
    rw [sn_at hc.1, if_pos ⟨k2, kz⟩]; omega
  have at0 : ∀ z : Int, ¬ ((pd_tTok B 200 N c).1 = 2 ∧ (pd_tTok B 200 N c).2.1 = z) → f_X9_isAtSign z H = 0 := fun z k => by
    rw [sn_at hc.1, if_neg k]
  unfold f_X7_readComparison
  by_cases k2 : (pd_tTok B 200 N c).1 = 2
  · by_cases z0 : (pd_tTok B 200 N c).2.1 = 60
    · rw [if_neg (at1 60 k2 z0)]; exact go 60 k2 z0 (by omega) (by omega)
    · rw [if_pos (at0 60 (fun q => z0 q.2))]
      by_cases z1 : (pd_tTok B 200 N c).2.1 = 61
      · rw [if_neg (at1 61 k2 z1)]; exact go 61 k2 z1 (by omega) (by omega)
      · rw [if_pos (at0 61 (fun q => z1 q.2))]
        by_cases z2 : (pd_tTok B 200 N c).2.1 = 62
        · rw [if_neg (at1 62 k2 z2)]; exact go 62 k2 z2 (by omega) (by omega)
        · rw [if_pos (at0 62 (fun q => z2 q.2))]
          left
          refine ⟨rfl, ?_⟩
          unfold sComp
          rw [if_pos ((pd_tR_kd hr hok).2.2.1.mpr k2), hr.2.1 (Or.inl k2)]
          by_cases u1 : (pd_tTok B 200 N c).2.1 < 60
          · rw [if_pos u1]; exact ⟨rfl, hf⟩
          · rw [if_neg u1, if_pos (by omega)]; exact ⟨rfl, hf⟩
  · rw [if_pos (at0 60 (fun q => k2 q.1)), if_pos (at0 61 (fun q => k2 q.1)), if_pos (at0 62 (fun q => k2 q.1))]
    left
    refine ⟨rfl, ?_⟩
    unfold sComp
    rw [if_neg (fun q => k2 ((pd_tR_kd hr hok).2.2.1.mp q))]
    exact ⟨rfl, hf⟩
end SI
