/-! image and restore of the class: rows of ints too (by hand). -/
section IMG2
variable {X L M S J : Nat} {ti : Nat → Nat} {aw : rvH}
theorem sp_imageX2 (h1 : hV aw X 1 (rf L)) (h4 : hV aw X 4 (rf M)) (h6 : hV aw X 6 (rf S)) (hM : ∀ n, n < 2 → hV aw M n (rf (ti n))) (hS : K5 aw S) (hne : ∀ n, n < 2 → ti n ≠ X) (k : Int) : PCM rvTab rvInf rvRet 316 rvMth 310 [rf X, pt k] aw (fun res => (∀ n : Nat, k = (n : Int) → n < 2 → CFp (ti n) L aw res.2 ∧ ∃ aw1, RXa (ti n) aw aw1 ∧ K0 aw1 res.2) ∧ ((k < 0 ∨ 1 < k) → Fr aw res.2 ∧ K0 aw res.2)) := by
  have hj : 310 < 316 := by decide
  refine PCM_of (fun _ _ => ?_)
  have key : Pr rvTab rvInf rvRet 316 rvMth 310 (fun res => (∀ n : Nat, k = (n : Int) → n < 2 → CFp (ti n) L aw res.2 ∧ ∃ aw1, RXa (ti n) aw aw1 ∧ K0 aw1 res.2) ∧ ((k < 0 ∨ 1 < k) → Fr aw res.2 ∧ K0 aw res.2)) 0 [rf X, pt k] [] aw := by
    refine Pr_ld 1 hj rfl rfl rfl rfl ?_
    refine Pr_cst 2 hj rfl rfl rfl ?_
    refine Pr_cst 3 hj rfl rfl rfl ?_
    refine Pr_callS rfl rfl rfl rfl (sp_isWithin k 0 1 aw) (fun res hr => ?_)
    obtain ⟨r1, r2⟩ := hr
    rw [r1, r2]
    refine Pr_ifc (t := 11) hj rfl rfl (fun hne2 => ?_) (fun he => ?_)
    · have hk : ¬ k < 0 ∧ ¬ 1 < k := by
        have hne2 : ¬ (if k < 0 then (0 : Int) else if 1 < k then 0 else 1) = 0 := hne2
        by_cases c : k < 0
        · rw [if_pos c] at hne2; exact absurd rfl hne2
        · rw [if_neg c] at hne2
          by_cases c2 : 1 < k
          · rw [if_pos c2] at hne2; exact absurd rfl hne2
          · exact ⟨c, c2⟩
      obtain ⟨n, rfl⟩ : ∃ n : Nat, k = (n : Int) := ⟨k.toNat, by omega⟩
      have hn : n < 2 := by omega
      refine Pr_ld 12 hj rfl rfl rfl rfl ?_
      refine Pr_gfV hj rfl (by decide) rfl h4 ?_
      refine Pr_ld 16 hj rfl rfl rfl rfl ?_
      refine Pr_aald hj rfl (hM n hn) ?_
      refine Pr_ld 18 hj rfl rfl rfl rfl ?_
      refine Pr_gfV hj rfl (by decide) rfl h1 ?_
      refine Pr_callV rfl (Or.inl ⟨_, rfl⟩) rfl rfl (PCM_and (sp_copyFrom (ti n) L aw) (sp_copyRows (ti n) L aw)) (fun res2 hc => ?_)
      obtain ⟨hc, hcr⟩ := hc
      have h6' := cf_old hc (fun q => hne n hn q.1.symm) h6
      refine Pr_ld 25 hj rfl rfl rfl rfl ?_
      refine Pr_gfV hj rfl (by decide) rfl h6' ?_
      refine Pr_ld 29 hj rfl rfl rfl rfl ?_
      refine Pr_ld 30 hj rfl rfl rfl rfl ?_
      refine Pr_gf hj rfl (by decide) (fun fs w e1 e2 => ?_)
      refine Pr_step hj rfl (evn rfl) (fun kc ks o' hs => ?_)
      have w1 : K0 res2.2 o'.2.2.2.1 := k0Step rfl hs
      obtain ⟨q1, q2, q3, q4⟩ := aast5_ok (cf_K5 hc hS) hs
      rw [q1, q2, q3]
      refine Pr_ld 35 hj rfl rfl rfl rfl ?_
      refine Pr_gf hj rfl (by decide) (fun fs w e1 e2 => ?_)
      refine Pr_ld 39 hj rfl rfl rfl rfl ?_
      refine Pr_cst 40 hj rfl rfl rfl ?_
      refine Pr_step hj rfl (evn rfl) (fun kc2 ks2 o2 hs2 => ?_)
      have w2 : K0 o'.2.2.2.1 o2.2.2.2.1 := k0Step rfl hs2
      have hf : Fr o'.2.2.2.1 o2.2.2.2.1 := frStep rfl hs2
      obtain ⟨p1, p2, p3⟩ := bast_ok hs2
      rw [p1, p2, p3]
      refine Pr_cst 42 hj rfl rfl rfl ?_
      refine Pr_ret rfl (Or.inl rfl) ⟨fun m hm _ => ?_, fun hbad => by omega⟩
      have : m = n := by omega
      subst this
      exact ⟨cf_Fr (cf_Fr hc q4) hf, _, hcr, K0_trans w1 w2⟩
    · have hk : k < 0 ∨ 1 < k := by
        have he : (if k < 0 then (0 : Int) else if 1 < k then 0 else 1) = 0 := he
        by_cases c : k < 0
        · exact Or.inl c
        · rw [if_neg c] at he
          by_cases c2 : 1 < k
          · exact Or.inr c2
          · rw [if_neg c2] at he; cases he
      refine Pr_cst 10 hj rfl rfl rfl ?_
      exact Pr_ret rfl (Or.inl rfl) ⟨fun n hn hn2 => by omega, fun _ => ⟨Fr_refl _, K0_refl _⟩⟩
  exact key 0 0
theorem sp_restoreX2 {P : Nat} (hx : exH aw) (h1 : hV aw X 1 (rf L)) (h3 : hV aw X 3 (rf P)) (h4 : hV aw X 4 (rf M)) (h5 : hV aw X 5 (rf J)) (hM : ∀ n, n < 2 → hV aw M n (rf (ti n))) (hLX : L ≠ X) (k : Int) : PCM rvTab rvInf rvRet 316 rvMth 311 [rf X, pt k] aw (fun res => (∀ n : Nat, k = (n : Int) → n < 2 → ¬ ghI aw J n = 0 → RSp L P (ti n) aw res.2 ∧ ∃ aw1, RXa L aw aw1 ∧ K0 aw1 res.2) ∧ ((k < 0 ∨ 1 < k ∨ ∃ n : Nat, k = (n : Int) ∧ ghI aw J n = 0) → Fr aw res.2 ∧ K0 aw res.2)) := by
  have hj : 311 < 316 := by decide
  refine PCM_of (fun _ _ => ?_)
  have key : Pr rvTab rvInf rvRet 316 rvMth 311 (fun res => (∀ n : Nat, k = (n : Int) → n < 2 → ¬ ghI aw J n = 0 → RSp L P (ti n) aw res.2 ∧ ∃ aw1, RXa L aw aw1 ∧ K0 aw1 res.2) ∧ ((k < 0 ∨ 1 < k ∨ ∃ n : Nat, k = (n : Int) ∧ ghI aw J n = 0) → Fr aw res.2 ∧ K0 aw res.2)) 0 [rf X, pt k] [] aw := by
    refine Pr_ld 1 hj rfl rfl rfl rfl ?_
    refine Pr_cst 2 hj rfl rfl rfl ?_
    refine Pr_cst 3 hj rfl rfl rfl ?_
    refine Pr_callS rfl rfl rfl rfl (sp_isWithin k 0 1 aw) (fun res hr => ?_)
    obtain ⟨r1, r2⟩ := hr
    rw [r1, r2]
    have out : ∀ (h : (k < 0 ∨ 1 < k) ∨ ∃ n : Nat, k = (n : Int) ∧ ghI aw J n = 0), Pr rvTab rvInf rvRet 316 rvMth 311 (fun res => (∀ n : Nat, k = (n : Int) → n < 2 → ¬ ghI aw J n = 0 → RSp L P (ti n) aw res.2 ∧ ∃ aw1, RXa L aw aw1 ∧ K0 aw1 res.2) ∧ ((k < 0 ∨ 1 < k ∨ ∃ n : Nat, k = (n : Int) ∧ ghI aw J n = 0) → Fr aw res.2 ∧ K0 aw res.2)) 18 [rf X, pt k] [] aw := by
      intro h
      refine Pr_cst 19 hj rfl rfl rfl ?_
      refine Pr_ret rfl (Or.inl rfl) ⟨fun n hn hn2 hf => ?_, fun _ => ⟨Fr_refl _, K0_refl _⟩⟩
      exfalso
      rcases h with h | ⟨m, hm, h⟩
      · omega
      · have : m = n := by omega
        subst this
        exact hf h
    refine Pr_ifc (t := 18) hj rfl rfl (fun he => ?_) (fun hne2 => ?_)
    · refine out (Or.inl ?_)
      have he : (if k < 0 then (0 : Int) else if 1 < k then 0 else 1) = 0 := he
      by_cases c : k < 0
      · exact Or.inl c
      · rw [if_neg c] at he
        by_cases c2 : 1 < k
        · exact Or.inr c2
        · rw [if_neg c2] at he; cases he
    · have hk : ¬ k < 0 ∧ ¬ 1 < k := by
        have hne2 : ¬ (if k < 0 then (0 : Int) else if 1 < k then 0 else 1) = 0 := hne2
        by_cases c : k < 0
        · rw [if_pos c] at hne2; exact absurd rfl hne2
        · rw [if_neg c] at hne2
          by_cases c2 : 1 < k
          · rw [if_pos c2] at hne2; exact absurd rfl hne2
          · exact ⟨c, c2⟩
      obtain ⟨n, rfl⟩ : ∃ n : Nat, k = (n : Int) := ⟨k.toNat, by omega⟩
      have hn : n < 2 := by omega
      refine Pr_ld 10 hj rfl rfl rfl rfl ?_
      refine Pr_gfV hj rfl (by decide) rfl h5 ?_
      refine Pr_ld 14 hj rfl rfl rfl rfl ?_
      refine Pr_bald hj rfl hx ?_
      refine Pr_ifc (t := 20) hj rfl rfl (fun hf => ?_) (fun hf => ?_)
      · have hf : ¬ ghI aw J n = 0 := hf
        refine Pr_ld 21 hj rfl rfl rfl rfl ?_
        refine Pr_gfV hj rfl (by decide) rfl h1 ?_
        refine Pr_ld 25 hj rfl rfl rfl rfl ?_
        refine Pr_gfV hj rfl (by decide) rfl h4 ?_
        refine Pr_ld 29 hj rfl rfl rfl rfl ?_
        refine Pr_aald hj rfl (hM n hn) ?_
        refine Pr_callV rfl (Or.inl ⟨_, rfl⟩) rfl rfl (PCM_and (sp_copyFrom L (ti n) aw) (sp_copyRows L (ti n) aw)) (fun res2 hc => ?_)
        obtain ⟨hc, hcr⟩ := hc
        refine Pr_ld 34 hj rfl rfl rfl rfl ?_
        refine Pr_ld 35 hj rfl rfl rfl rfl ?_
        refine Pr_gf hj rfl (by decide) (fun fs w e1 e2 => ?_)
        refine Pr_ld 39 hj rfl rfl rfl rfl ?_
        refine Pr_step hj rfl (evn rfl) (fun kc ks o' hs => ?_)
        have hz := tStep hs
        have hheap : o'.2.2.2.1 = res2.2 := hz.2.2 rfl
        have hsh : ∃ w', o'.1 = 40 ∧ o'.2.1 = [rf X, pt (n : Int)] ∧ o'.2.2.1 = w' :: rf X :: (res2.1.toList ++ []) := by
          simp only [rvStep] at hs
          split at hs
          · rename_i x' k' st' hst
            have hst := (List.cons.inj (List.cons.inj hst).2).2
            subst hst
            split at hs
            · split at hs
              · cases hs; exact ⟨_, rfl, rfl, rfl⟩
              · cases hs
            · split at hs
              · cases hs; exact ⟨_, rfl, rfl, rfl⟩
              · cases hs
            · cases hs
          · cases hs
        obtain ⟨w', q1, q2, q3⟩ := hsh
        rw [q1, q2, q3, hheap]
        refine Pr_pfC hj rfl (fun gs ge => ?_)
        have hf2 := Fr_set ge (kp_put (v := w') (rfl : (!prF 11 13) = true))
        have w2 := K0_set (c' := .inl (11, gs.set 13 w')) ge (fun n d ov q => by cases q)
        generalize (List.set res2.2 X (Sum.inl (11, gs.set 13 w'))) = aw2 at hf2 w2 ⊢
        refine Pr_ld 44 hj rfl rfl rfl rfl ?_
        refine Pr_gfV hj rfl (by decide) rfl (hV_Fr hf2 (cf_old hc (fun q => hLX q.1.symm) h3)) ?_
        refine Pr_callV rfl (Or.inl ⟨_, rfl⟩) rfl rfl (sp_forget2 P aw2) (fun res3 hu => ?_)
        obtain ⟨hu, w3⟩ := hu
        refine Pr_cst 51 hj rfl rfl rfl ?_
        refine Pr_ret rfl (Or.inl rfl) ⟨fun m hm _ _ => ?_, fun hbad => ?_⟩
        · have : m = n := by omega
          subst this
          exact ⟨⟨res2.2, aw2, res3.2, hc, hf2, hu, Fr_refl _⟩, _, hcr, K0_trans w2 w3⟩
        · exfalso
          rcases hbad with hb | hb | ⟨m, hm, hb⟩
          · omega
          · omega
          · have : m = n := by omega
            subst this
            exact hf hb
      · have hf : ghI aw J n = 0 := hf
        exact out (Or.inr ⟨n, rfl, hf⟩)
  exact key 0 0
end IMG2
