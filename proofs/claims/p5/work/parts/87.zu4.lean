/-! Both sentence() at the loop's head (by hand). -/
theorem st_K {T pl : List Nat} {aw : rvH} {g : Nat → Nat} (h : gS T pl aw) (hg : ∀ k, k < 52 → pl[k]? = some (g k)) {p m j : Nat} (hp : p < 52) (hm : m < 52) (hj : j ≠ 1000) (ht : xTyp xRgn (60 + p) j = some (.inr (2, m))) : hK g aw p j m := by
  obtain ⟨i, c, a, b, c1, c2⟩ := gh_st h hp
  obtain ⟨x, x1, x2⟩ := gh_r2 c1 c2 ht
  have e1 := hg p hp
  rw [a] at e1
  have e2 := hg m hm
  rw [x1] at e2
  unfold hK
  rw [if_neg hj, ← Option.some.inj e1, ← Option.some.inj e2]
  exact x2
theorem hV_R {aw : rvH} {i j x : Nat} (h : hV aw i j (rf x)) : hR aw i j x := by
  obtain ⟨c, a, -, b⟩ := h
  exact ⟨c, a, b⟩
theorem rz_no : ∀ k : Fin 52, ∀ x ∈ [35, 41, 97, 103, 49], rzPl[k.1]? ≠ some x := by decide
/-- names of cells for the class's sentence -/
theorem gs_mk {T pl : List Nat} {aw : rvH} {t0 c nr : Nat} (hp : pl = rzPl) (h : gS T pl aw) (hk : KN aw) (hF : HF t0 aw) (h10 : ∃ fs, aw[t0]? = some (.inl (10, fs))) (hc : hV aw t0 0 (rf c)) (hn : hV aw t0 1 (rf nr)) : ∃ g : Nat → Nat, (∀ a b, g a = g b → a = b) ∧ (∀ n, 60 ≤ n → g n = aw.length + (n - 60)) ∧ (∀ k, k < 52 → pl[k]? = some (g k)) ∧ g 52 = t0 ∧ g 53 = c ∧ g 54 = nr ∧ g 56 = 35 := by
  subst hp
  have hlen := gh_len h
  have hlt : ∀ {i q : Nat}, T[i]? = some q → i < aw.length := fun e => by rw [hlen]; exact (List.getElem?_eq_some_iff.mp e).1
  obtain ⟨t35, tI⟩ := HF_T rfl h hF
  have t97 : T[97]? = some 0 := tI 0 (by omega)
  have t103 : T[103]? = some 0 := tI 1 (by omega)
  have tt : T[t0]? = some 6 := hV_T h t35 rfl hF.2.2.2.2.1
  have tc : T[c]? = some 7 := hV_T h tt rfl hc
  have tn : T[nr]? = some 8 := hV_T h tt rfl hn
  have hT : ∀ k, k < 52 → ∃ i, rzPl[k]? = some i ∧ T[i]? = some (60 + k) := fun k hk => by
    obtain ⟨i, c, a, b, -⟩ := gh_st h hk
    exact ⟨i, a, b⟩
  have ob : ∀ k, (k = 41 ∨ k = 49) → ∃ fs, aw[k]? = some (.inl (2, fs)) := fun k hk' => hk.1 k (by
    rcases hk' with rfl | rfl
    · omega
    · exact Or.inr (Or.inr ⟨0, by omega, rfl⟩))
  have rowc : ∀ {y q : Nat}, T[y]? = some q → (q = 7 ∨ q = 8) → ∀ fs, aw[y]? ≠ some (.inl (2, fs)) := by
    intro y q hy hq fs e
    obtain ⟨c', e1, e2⟩ := gh_at h hy
    rw [e] at e1
    have e1 := Option.some.inj e1
    subst e1
    rcases hq with rfl | rfl <;> exact absurd e2 id
  have ne41 : t0 ≠ 41 ∧ t0 ≠ 49 ∧ c ≠ 41 ∧ c ≠ 49 ∧ nr ≠ 41 ∧ nr ≠ 49 := by
    obtain ⟨f1, e1⟩ := ob 41 (Or.inl rfl)
    obtain ⟨f2, e2⟩ := ob 49 (Or.inr rfl)
    obtain ⟨f3, e3⟩ := h10
    refine ⟨fun q => ?_, fun q => ?_, fun q => ?_, fun q => ?_, fun q => ?_, fun q => ?_⟩
    · rw [q, e1] at e3; cases e3
    · rw [q, e2] at e3; cases e3
    · subst q; exact rowc tc (Or.inl rfl) f1 e1
    · subst q; exact rowc tc (Or.inl rfl) f2 e2
    · subst q; exact rowc tn (Or.inr rfl) f1 e1
    · subst q; exact rowc tn (Or.inr rfl) f2 e2
  have l41 : 41 < aw.length ∧ 49 < aw.length := by
    obtain ⟨f1, e1⟩ := ob 41 (Or.inl rfl)
    obtain ⟨f2, e2⟩ := ob 49 (Or.inr rfl)
    exact ⟨(List.getElem?_eq_some_iff.mp e1).1, (List.getElem?_eq_some_iff.mp e2).1⟩
  have nT : ∀ {i j p q : Nat}, T[i]? = some p → T[j]? = some q → p ≠ q → i ≠ j := fun e1 e2 hpq e => by
    rw [e, e2] at e1
    exact hpq (Option.some.inj e1).symm
  obtain ⟨g, hg⟩ : ∃ g : Nat → Nat, g = fun n => if n < 52 then rzPl.getD n 0 else if n = 52 then t0 else if n = 53 then c else if n = 54 then nr else if n = 55 then 41 else if n = 56 then 35 else if n = 57 then 97 else if n = 58 then 103 else if n = 59 then 49 else aw.length + (n - 60) := ⟨_, rfl⟩
  have gp : ∀ k, k < 52 → rzPl[k]? = some (g k) := fun k hk => by
    obtain ⟨i, a, -⟩ := hT k hk
    rw [hg]; dsimp only
    rw [if_pos hk, List.getD_eq_getElem?_getD, a]; rfl
  have gT : ∀ k, k < 52 → T[g k]? = some (60 + k) := fun k hk => by
    obtain ⟨i, a, b⟩ := hT k hk
    have := gp k hk
    rw [a] at this
    rw [← Option.some.inj this]; exact b
  have g52 : g 52 = t0 := by rw [hg]; rfl
  have g53 : g 53 = c := by rw [hg]; rfl
  have g54 : g 54 = nr := by rw [hg]; rfl
  have g55 : g 55 = 41 := by rw [hg]; rfl
  have g56 : g 56 = 35 := by rw [hg]; rfl
  have g57 : g 57 = 97 := by rw [hg]; rfl
  have g58 : g 58 = 103 := by rw [hg]; rfl
  have g59 : g 59 = 49 := by rw [hg]; rfl
  have g60 : ∀ n, 60 ≤ n → g n = aw.length + (n - 60) := fun n hn => by
    rw [hg]; dsimp only
    rw [if_neg (by omega), if_neg (by omega), if_neg (by omega), if_neg (by omega), if_neg (by omega), if_neg (by omega), if_neg (by omega), if_neg (by omega), if_neg (by omega)]
  have glt : ∀ n, n < 60 → g n < aw.length := by
    intro n hn
    by_cases h52 : n < 52
    · exact hlt (gT n h52)
    · have : n = 52 ∨ n = 53 ∨ n = 54 ∨ n = 55 ∨ n = 56 ∨ n = 57 ∨ n = 58 ∨ n = 59 := by omega
      rcases this with rfl | rfl | rfl | rfl | rfl | rfl | rfl | rfl
      · rw [g52]; exact hlt tt
      · rw [g53]; exact hlt tc
      · rw [g54]; exact hlt tn
      · rw [g55]; exact l41.1
      · rw [g56]; exact hlt t35
      · rw [g57]; exact hlt t97
      · rw [g58]; exact hlt t103
      · rw [g59]; exact l41.2
  -- a strong cell is none of the others
  have hst : ∀ a b, a < 52 → 52 ≤ b → b < 60 → g a ≠ g b := by
    intro a b ha hb1 hb2 e
    have ta := gT a ha
    have no : ∀ x ∈ [35, 41, 97, 103, 49], g a ≠ x := fun x hx q => by
      have := gp a ha
      rw [q] at this
      exact rz_no ⟨a, ha⟩ x hx this
    have : b = 52 ∨ b = 53 ∨ b = 54 ∨ b = 55 ∨ b = 56 ∨ b = 57 ∨ b = 58 ∨ b = 59 := by omega
    rcases this with rfl | rfl | rfl | rfl | rfl | rfl | rfl | rfl
    · rw [g52] at e; exact nT ta tt (by omega) e
    · rw [g53] at e; exact nT ta tc (by omega) e
    · rw [g54] at e; exact nT ta tn (by omega) e
    · rw [g55] at e; exact no 41 (by decide) e
    · rw [g56] at e; exact no 35 (by decide) e
    · rw [g57] at e; exact no 97 (by decide) e
    · rw [g58] at e; exact no 103 (by decide) e
    · rw [g59] at e; exact no 49 (by decide) e
  have p1 : t0 ≠ c := nT tt tc (by omega)
  have p2 : t0 ≠ nr := nT tt tn (by omega)
  have p3 : c ≠ nr := nT tc tn (by omega)
  have p4 : t0 ≠ 35 ∧ t0 ≠ 97 ∧ t0 ≠ 103 := ⟨nT tt t35 (by omega), nT tt t97 (by omega), nT tt t103 (by omega)⟩
  have p5 : c ≠ 35 ∧ c ≠ 97 ∧ c ≠ 103 := ⟨nT tc t35 (by omega), nT tc t97 (by omega), nT tc t103 (by omega)⟩
  have p6 : nr ≠ 35 ∧ nr ≠ 97 ∧ nr ≠ 103 := ⟨nT tn t35 (by omega), nT tn t97 (by omega), nT tn t103 (by omega)⟩
  have hot : ∀ a b, 52 ≤ a → a < b → b < 60 → g a ≠ g b := by
    intro a b ha hab hb e
    have h1 : a = 52 ∨ a = 53 ∨ a = 54 ∨ a = 55 ∨ a = 56 ∨ a = 57 ∨ a = 58 := by omega
    have h2 : b = 53 ∨ b = 54 ∨ b = 55 ∨ b = 56 ∨ b = 57 ∨ b = 58 ∨ b = 59 := by omega
    rcases h1 with rfl | rfl | rfl | rfl | rfl | rfl | rfl <;> rcases h2 with rfl | rfl | rfl | rfl | rfl | rfl | rfl <;> first | omega | (simp only [g52, g53, g54, g55, g56, g57, g58, g59] at e; omega)
  have hinj : ∀ a b, g a = g b → a = b := by
    have half : ∀ a b, a < b → g a ≠ g b := by
      intro a b hab e
      by_cases hb : b < 60
      · by_cases ha : a < 52
        · by_cases hb2 : b < 52
          · have h1 := gT a ha
            rw [e, gT b hb2] at h1
            have := Option.some.inj h1
            omega
          · exact hst a b ha (by omega) hb e
        · exact hot a b (by omega) hab hb e
      · by_cases ha : a < 60
        · have := glt a ha
          rw [e, g60 b (by omega)] at this
          omega
        · rw [g60 a (by omega), g60 b (by omega)] at e
          omega
    intro a b e
    rcases Nat.lt_trichotomy a b with q | q | q
    · exact absurd e (half a b q)
    · exact q
    · exact absurd e.symm (half b a q)
  exact ⟨g, hinj, g60, gp, g52, g53, g54, g56⟩
def gsR : List (Nat × Nat × Nat) := [(0, 0, 4), (0, 1, 56), (0, 8, 14), (4, 0, 5), (4, 1, 6), (4, 3, 7), (4, 4, 8), (4, 5, 9), (4, 6, 10), (14, 0, 4), (56, 0, 52), (52, 0, 53), (52, 1, 54)]
def gmR : List (Nat × Nat × Nat) := [(29, 1, 30), (29, 6, 31), (29, 7, 32), (29, 8, 33), (29, 9, 34), (29, 10, 35), (29, 45, 46)]
theorem gs_RZ (g : Nat → Nat) (aw : rvH) : RZ (upR (upR (f_X6_init (upN (ghH g aw gsR 60))) 14 1 (some 52)) 14 2 (some 60)).2.2.1 := by
  unfold RZ rzL rsL rtL
  simp only [List.cons_append, List.nil_append, List.forall_mem_cons]
  refine ⟨?_, ?_, ?_, ?_, ?_, ?_, ?_, ?_, ?_, ?_, ?_, ?_, ?_, ?_, ?_, ?_, ?_, ?_, fun q hq => by cases hq⟩ <;> rfl
theorem gm_RMs (g : Nat → Nat) (aw : rvH) : RMs (ghH g aw gmR 60).2.2.1 := by
  refine ⟨?_, rfl⟩
  unfold RM rmL
  simp only [List.forall_mem_cons]
  refine ⟨?_, ?_, ?_, ?_, ?_, ?_, fun q hq => by cases hq⟩ <;> rfl
