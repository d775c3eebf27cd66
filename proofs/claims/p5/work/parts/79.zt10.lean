/-! image and restore of the class (by hand). -/
theorem Pr_bald {tab : Nat → Nat → Option rvE} {info : Nat → rvM} {rets : Nat → Option FieldType} {NM : Nat} {mth : Nat → Option Nat} {j pc len a1 a2 a3 wi : Nat} {al st : List rvV} {aw : rvH} {Post : xRes2 → Prop} {p x : Nat} (hj : j < NM) (ht : tab j pc = some (.baload, len, a1, a2, a3, wi)) (hx : exH aw) (h : Pr tab info rets NM mth j Post (pc + 1) al (pt (ghI aw p x) :: st) aw) : Pr tab info rets NM mth j Post pc al (pt (x : Int) :: rf p :: st) aw := by
  refine Pr_step hj ht (evn rfl) (fun kc ks o' he => ?_)
  simp only [rvStep, pt, rf] at he
  have key : ∀ (q n : Nat) (d : rvV) (ov : List (Nat × rvV)) (i : Nat), q < 3 → aw[p]? = some (.inr (q, n, d, ov)) → rvIdx ((x : Int), (x : Int)) n = some i → rvLook d ov i = pt (ghI aw p x) := by
    intro q n d ov i hq e hi
    have hl := rvIdx_pos hi
    have hix : i = x := by
      unfold rvIdx at hi
      obtain ⟨-, hi⟩ := rv_bif hi
      rw [← hi]; exact Int.toNat_natCast x
    subst hix
    have hc : exC (.inr (q, n, d, ov)) := exH_get hx e
    obtain ⟨a, ha⟩ := (ex_look hc.1 hc.2 (j := i)).2.1 hq
    have hs : xSlot (.inr (q, n, d, ov)) i = some (rvLook d ov i) := by
      show (bif Nat.blt i n then some (rvLook d ov i) else none) = _
      rw [show Nat.blt i n = true from Nat.ble_eq_true_of_le hl]
      rfl
    have hv := ex_slot hc hs
    rw [ha] at hv hs
    obtain ⟨a1, a2⟩ := a
    have e12 : a1 = a2 := hv.1
    subst e12
    rw [ha]
    unfold ghI
    rw [e]
    dsimp only
    rw [hs]
  split at he
  · rename_i n d ov e
    split at he
    · rename_i i hi
      have he := Option.some.inj he
      subst he
      show Pr tab info rets NM mth j Post (pc + 1) al (rvLook d ov i :: st) aw
      rw [key 1 n d ov i (by omega) e hi]
      exact h
    · cases he
  · rename_i n d ov e
    split at he
    · rename_i i hi
      have he := Option.some.inj he
      subst he
      show Pr tab info rets NM mth j Post (pc + 1) al (rvLook d ov i :: st) aw
      rw [key 2 n d ov i (by omega) e hi]
      exact h
    · cases he
  · cases he
/-- a store that leaves what matters -/
theorem Pr_stN {tab : Nat → Nat → Option rvE} {info : Nat → rvM} {rets : Nat → Option FieldType} {NM : Nat} {mth : Nat → Option Nat} {j pc len a1 a2 a3 wi : Nat} {i : Instr} {al st st' : List rvV} {aw : rvH} {Post : xRes2 → Prop} (hj : j < NM) (ht : tab j pc = some (i, len, a1, a2, a3, wi)) (hn : ¬ evCr i) (hh : hmOk i a1 a2 = true) (he : ∀ (BC BS : Nat) (kc ks : Nat) (o' : rvS), rvStep rvTy rvNf rvTxt [] BC BS (info j).1 i a1 a2 a3 pc al st aw kc ks = some o' → o'.1 = pc + 1 ∧ o'.2.1 = al ∧ o'.2.2.1 = st') (h : ∀ aw', Fr aw aw' → Pr tab info rets NM mth j Post (pc + 1) al st' aw') : Pr tab info rets NM mth j Post pc al st aw := by
  refine Pr_step hj ht hn (fun kc ks o' hs => ?_)
  obtain ⟨e1, e2, e3⟩ := he _ _ kc ks o' hs
  rw [e1, e2, e3]
  exact h _ (frStep hh hs)
theorem bast_ok {sc : List (Int × Int)} {BC BS mL a1 a2 a3 pc kc ks : Nat} {al st : List rvV} {aw : rvH} {o : rvS} {v x w : rvV} (h : rvStep rvTy rvNf rvTxt sc BC BS mL .bastore a1 a2 a3 pc al (v :: x :: w :: st) aw kc ks = some o) : o.1 = pc + 1 ∧ o.2.1 = al ∧ o.2.2.1 = st := by
  simp only [rvStep] at h
  split at h
  · rename_i v' x' k' st' hst
    have hst := (List.cons.inj (List.cons.inj (List.cons.inj hst).2).2).2
    subst hst
    split at h
    · split at h
      · obtain ⟨-, rfl⟩ := rv_bif h
        exact ⟨rfl, rfl, rfl⟩
      · cases h
    · split at h
      · obtain ⟨-, rfl⟩ := rv_bif h
        exact ⟨rfl, rfl, rfl⟩
      · cases h
    · cases h
  · cases h
/-- a row of sentences -/
def K5 (aw : rvH) (p : Nat) : Prop := ∃ n d ov, aw[p]? = some (.inr (5, n, d, ov))
theorem K5_Fr {aw aw' : rvH} {p : Nat} (h : Fr aw aw') (hk : K5 aw p) : K5 aw' p := by
  obtain ⟨n, d, ov, e⟩ := hk
  obtain ⟨c', e', k⟩ := h.2.1 p _ e
  rcases c' with ⟨ci, fs⟩ | ⟨q, n', d', ov'⟩
  · exact absurd k id
  · obtain ⟨rfl, rfl, -⟩ := k
    exact ⟨_, _, _, e'⟩
theorem K5_set {aw : rvH} {p a ci : Nat} {fs fs' : List rvV} (e : aw[a]? = some (.inl (ci, fs))) (hk : K5 aw p) : K5 (aw.set a (.inl (ci, fs'))) p := by
  obtain ⟨n, d, ov, e'⟩ := hk
  have hne : a ≠ p := fun q => by
    subst q
    rw [e] at e'
    cases e'
  exact ⟨n, d, ov, by rw [List.getElem?_set_ne hne]; exact e'⟩
theorem aast5_ok {sc : List (Int × Int)} {BC BS mL a1 a2 a3 pc kc ks p : Nat} {al st : List rvV} {aw : rvH} {o : rvS} {v : rvV} {x : Int} (hk : K5 aw p) (h : rvStep rvTy rvNf rvTxt sc BC BS mL .aastore a1 a2 a3 pc al (v :: pt x :: rf p :: st) aw kc ks = some o) : o.1 = pc + 1 ∧ o.2.1 = al ∧ o.2.2.1 = st ∧ Fr aw o.2.2.2.1 := by
  obtain ⟨n, d, ov, e⟩ := hk
  simp only [rvStep, pt, rf] at h
  rw [e] at h
  dsimp only at h
  split at h
  · rename_i i hi
    split at h
    · obtain ⟨-, rfl⟩ := rv_bif h
      exact ⟨rfl, rfl, rfl, Fr_set e (kp_row (by decide))⟩
    · split at h
      · obtain ⟨-, rfl⟩ := rv_bif h
        exact ⟨rfl, rfl, rfl, Fr_set e (kp_row (by decide))⟩
      · cases h
    · cases h
  · cases h
theorem cf_Fr {a b : Nat} {aw aw' aw'' : rvH} (h : CFp a b aw aw') (hf : Fr aw' aw'') : CFp a b aw aw'' := by
  obtain ⟨fs, gs, v, e1, e2, e3, e4, e5⟩ := h
  exact ⟨fs, gs, v, e1, e2, e3, e4, Fr_trans e5 hf⟩
theorem cf_K5 {a b p : Nat} {aw aw' : rvH} (h : CFp a b aw aw') (hk : K5 aw p) : K5 aw' p := by
  obtain ⟨fs, gs, v, e1, e2, e3, e4, e5⟩ := h
  exact K5_Fr e5 (K5_set e1 hk)
theorem sp_isWithin (k lo hi : Int) (aw : rvH) : PCM rvTab rvInf rvRet 316 rvMth 149 [pt k, pt lo, pt hi] aw (fun res => res.1 = some (pt (if k < lo then 0 else if hi < k then 0 else 1)) ∧ res.2 = aw) := by
  have hj : 149 < 316 := by decide
  refine PCM_of (fun _ _ => ?_)
  have key : Pr rvTab rvInf rvRet 316 rvMth 149 (fun res => res.1 = some (pt (if k < lo then 0 else if hi < k then 0 else 1)) ∧ res.2 = aw) 0 [pt k, pt lo, pt hi] [] aw := by
    refine Pr_ld 1 hj rfl rfl rfl rfl ?_
    refine Pr_ld 2 hj rfl rfl rfl rfl ?_
    refine Pr_icmp (t := 14) hj rfl rfl (fun h => ?_) (fun h => ?_)
    · have h : k < lo := h
      rw [if_pos h]
      refine Pr_cst 15 hj rfl rfl rfl ?_
      exact Pr_ret rfl (Or.inl rfl) ⟨rfl, rfl⟩
    · have h : ¬ k < lo := h
      rw [if_neg h]
      refine Pr_ld 6 hj rfl rfl rfl rfl ?_
      refine Pr_ld 7 hj rfl rfl rfl rfl ?_
      refine Pr_icmp (t := 14) hj rfl rfl (fun h2 => ?_) (fun h2 => ?_)
      · have h2 : hi < k := h2
        rw [if_pos h2]
        refine Pr_cst 15 hj rfl rfl rfl ?_
        exact Pr_ret rfl (Or.inl rfl) ⟨rfl, rfl⟩
      · have h2 : ¬ hi < k := h2
        rw [if_neg h2]
        refine Pr_cst 11 hj rfl rfl rfl ?_
        refine Pr_goto 15 hj rfl rfl ?_
        exact Pr_ret rfl (Or.inl rfl) ⟨rfl, rfl⟩
  exact key 0 0
theorem sp_forget (P : Nat) (aw : rvH) : PCM rvTab rvInf rvRet 316 rvMth 236 [rf P] aw (fun res => Up aw res.2 P 1 (pt 0)) := by
  have hj : 236 < 316 := by decide
  refine PCM_of (fun _ _ => ?_)
  have key : Pr rvTab rvInf rvRet 316 rvMth 236 (fun res => Up aw res.2 P 1 (pt 0)) 0 [rf P] [] aw := by
    refine Pr_ld 1 hj rfl rfl rfl rfl ?_
    refine Pr_cst 2 hj rfl rfl rfl ?_
    refine Pr_pf hj rfl rfl (fun aw1 hu => ?_)
    exact Pr_ret rfl (Or.inr (Or.inr rfl)) hu
  exact key 0 0
section IMG
variable {X L M S J : Nat} {ti : Nat → Nat} {aw : rvH}
theorem sp_imageX (h1 : hV aw X 1 (rf L)) (h4 : hV aw X 4 (rf M)) (h6 : hV aw X 6 (rf S)) (hM : ∀ n, n < 2 → hV aw M n (rf (ti n))) (hS : K5 aw S) (hne : ∀ n, n < 2 → ti n ≠ X) (k : Int) : PCM rvTab rvInf rvRet 316 rvMth 310 [rf X, pt k] aw (fun res => (∀ n : Nat, k = (n : Int) → n < 2 → CFp (ti n) L aw res.2) ∧ ((k < 0 ∨ 1 < k) → Fr aw res.2)) := by
  have hj : 310 < 316 := by decide
  refine PCM_of (fun _ _ => ?_)
  have key : Pr rvTab rvInf rvRet 316 rvMth 310 (fun res => (∀ n : Nat, k = (n : Int) → n < 2 → CFp (ti n) L aw res.2) ∧ ((k < 0 ∨ 1 < k) → Fr aw res.2)) 0 [rf X, pt k] [] aw := by
    refine Pr_ld 1 hj rfl rfl rfl rfl ?_
    refine Pr_cst 2 hj rfl rfl rfl ?_
    refine Pr_cst 3 hj rfl rfl rfl ?_
    refine Pr_callS rfl rfl rfl rfl (sp_isWithin k 0 1 aw) (fun res hr => ?_)
    obtain ⟨r1, r2⟩ := hr
    rw [r1, r2]
    refine Pr_ifc (t := 11) hj rfl rfl (fun hne2 => ?_) (fun he => ?_)
    · have hk : ¬ k < 0 ∧ ¬ 1 < k := by
        have hne2 : ¬ (if k < 0 then (0 : Int) else if 1 < k then 0 else 1) = 0 := hne2
        by_cases c : k < 0
        · rw [if_pos c] at hne2; exact absurd rfl hne2
        · rw [if_neg c] at hne2
          by_cases c2 : 1 < k
          · rw [if_pos c2] at hne2; exact absurd rfl hne2
          · exact ⟨c, c2⟩
      obtain ⟨n, rfl⟩ : ∃ n : Nat, k = (n : Int) := ⟨k.toNat, by omega⟩
      have hn : n < 2 := by omega
      refine Pr_ld 12 hj rfl rfl rfl rfl ?_
      refine Pr_gfV hj rfl (by decide) rfl h4 ?_
      refine Pr_ld 16 hj rfl rfl rfl rfl ?_
      refine Pr_aald hj rfl (hM n hn) ?_
      refine Pr_ld 18 hj rfl rfl rfl rfl ?_
      refine Pr_gfV hj rfl (by decide) rfl h1 ?_
      refine Pr_callV rfl (Or.inl ⟨_, rfl⟩) rfl rfl (sp_copyFrom (ti n) L aw) (fun res2 hc => ?_)
      have h6' := cf_old hc (fun q => hne n hn q.1.symm) h6
      refine Pr_ld 25 hj rfl rfl rfl rfl ?_
      refine Pr_gfV hj rfl (by decide) rfl h6' ?_
      refine Pr_ld 29 hj rfl rfl rfl rfl ?_
      refine Pr_ld 30 hj rfl rfl rfl rfl ?_
      refine Pr_gf hj rfl (by decide) (fun fs w e1 e2 => ?_)
      refine Pr_step hj rfl (evn rfl) (fun kc ks o' hs => ?_)
      obtain ⟨q1, q2, q3, q4⟩ := aast5_ok (cf_K5 hc hS) hs
      rw [q1, q2, q3]
      refine Pr_ld 35 hj rfl rfl rfl rfl ?_
      refine Pr_gf hj rfl (by decide) (fun fs w e1 e2 => ?_)
      refine Pr_ld 39 hj rfl rfl rfl rfl ?_
      refine Pr_cst 40 hj rfl rfl rfl ?_
      refine Pr_stN hj rfl (evn rfl) rfl (fun BC BS kc ks o' hs => bast_ok hs) (fun aw3 hf => ?_)
      refine Pr_cst 42 hj rfl rfl rfl ?_
      refine Pr_ret rfl (Or.inl rfl) ⟨fun m hm _ => ?_, fun hbad => by omega⟩
      have : m = n := by omega
      subst this
      exact cf_Fr (cf_Fr hc q4) hf
    · have hk : k < 0 ∨ 1 < k := by
        have he : (if k < 0 then (0 : Int) else if 1 < k then 0 else 1) = 0 := he
        by_cases c : k < 0
        · exact Or.inl c
        · rw [if_neg c] at he
          by_cases c2 : 1 < k
          · exact Or.inr c2
          · rw [if_neg c2] at he; cases he
      refine Pr_cst 10 hj rfl rfl rfl ?_
      exact Pr_ret rfl (Or.inl rfl) ⟨fun n hn hn2 => by omega, fun _ => Fr_refl _⟩
  exact key 0 0
/-- restore: what it leaves -/
def RSp (L P a : Nat) (aw aw' : rvH) : Prop := ∃ aw1 aw2 aw3, CFp L a aw aw1 ∧ Fr aw1 aw2 ∧ Up aw2 aw3 P 1 (pt 0) ∧ Fr aw3 aw'
theorem sp_restoreX {P : Nat} (hx : exH aw) (h1 : hV aw X 1 (rf L)) (h3 : hV aw X 3 (rf P)) (h4 : hV aw X 4 (rf M)) (h5 : hV aw X 5 (rf J)) (hM : ∀ n, n < 2 → hV aw M n (rf (ti n))) (hLX : L ≠ X) (k : Int) : PCM rvTab rvInf rvRet 316 rvMth 311 [rf X, pt k] aw (fun res => (∀ n : Nat, k = (n : Int) → n < 2 → ¬ ghI aw J n = 0 → RSp L P (ti n) aw res.2) ∧ ((k < 0 ∨ 1 < k ∨ ∃ n : Nat, k = (n : Int) ∧ ghI aw J n = 0) → Fr aw res.2)) := by
  have hj : 311 < 316 := by decide
  refine PCM_of (fun _ _ => ?_)
  have key : Pr rvTab rvInf rvRet 316 rvMth 311 (fun res => (∀ n : Nat, k = (n : Int) → n < 2 → ¬ ghI aw J n = 0 → RSp L P (ti n) aw res.2) ∧ ((k < 0 ∨ 1 < k ∨ ∃ n : Nat, k = (n : Int) ∧ ghI aw J n = 0) → Fr aw res.2)) 0 [rf X, pt k] [] aw := by
    refine Pr_ld 1 hj rfl rfl rfl rfl ?_
    refine Pr_cst 2 hj rfl rfl rfl ?_
    refine Pr_cst 3 hj rfl rfl rfl ?_
    refine Pr_callS rfl rfl rfl rfl (sp_isWithin k 0 1 aw) (fun res hr => ?_)
    obtain ⟨r1, r2⟩ := hr
    rw [r1, r2]
    have out : ∀ (h : (k < 0 ∨ 1 < k) ∨ ∃ n : Nat, k = (n : Int) ∧ ghI aw J n = 0), Pr rvTab rvInf rvRet 316 rvMth 311 (fun res => (∀ n : Nat, k = (n : Int) → n < 2 → ¬ ghI aw J n = 0 → RSp L P (ti n) aw res.2) ∧ ((k < 0 ∨ 1 < k ∨ ∃ n : Nat, k = (n : Int) ∧ ghI aw J n = 0) → Fr aw res.2)) 18 [rf X, pt k] [] aw := by
      intro h
      refine Pr_cst 19 hj rfl rfl rfl ?_
      refine Pr_ret rfl (Or.inl rfl) ⟨fun n hn hn2 hf => ?_, fun _ => Fr_refl _⟩
      exfalso
      rcases h with h | ⟨m, hm, h⟩
      · omega
      · have : m = n := by omega
        subst this
        exact hf h
    refine Pr_ifc (t := 18) hj rfl rfl (fun he => ?_) (fun hne2 => ?_)
    · refine out (Or.inl ?_)
      have he : (if k < 0 then (0 : Int) else if 1 < k then 0 else 1) = 0 := he
      by_cases c : k < 0
      · exact Or.inl c
      · rw [if_neg c] at he
        by_cases c2 : 1 < k
        · exact Or.inr c2
        · rw [if_neg c2] at he; cases he
    · have hk : ¬ k < 0 ∧ ¬ 1 < k := by
        have hne2 : ¬ (if k < 0 then (0 : Int) else if 1 < k then 0 else 1) = 0 := hne2
        by_cases c : k < 0
        · rw [if_pos c] at hne2; exact absurd rfl hne2
        · rw [if_neg c] at hne2
          by_cases c2 : 1 < k
          · rw [if_pos c2] at hne2; exact absurd rfl hne2
          · exact ⟨c, c2⟩
      obtain ⟨n, rfl⟩ : ∃ n : Nat, k = (n : Int) := ⟨k.toNat, by omega⟩
      have hn : n < 2 := by omega
      refine Pr_ld 10 hj rfl rfl rfl rfl ?_
      refine Pr_gfV hj rfl (by decide) rfl h5 ?_
      refine Pr_ld 14 hj rfl rfl rfl rfl ?_
      refine Pr_bald hj rfl hx ?_
      refine Pr_ifc (t := 20) hj rfl rfl (fun hf => ?_) (fun hf => ?_)
      · have hf : ¬ ghI aw J n = 0 := hf
        refine Pr_ld 21 hj rfl rfl rfl rfl ?_
        refine Pr_gfV hj rfl (by decide) rfl h1 ?_
        refine Pr_ld 25 hj rfl rfl rfl rfl ?_
        refine Pr_gfV hj rfl (by decide) rfl h4 ?_
        refine Pr_ld 29 hj rfl rfl rfl rfl ?_
        refine Pr_aald hj rfl (hM n hn) ?_
        refine Pr_callV rfl (Or.inl ⟨_, rfl⟩) rfl rfl (sp_copyFrom L (ti n) aw) (fun res2 hc => ?_)
        refine Pr_ld 34 hj rfl rfl rfl rfl ?_
        refine Pr_ld 35 hj rfl rfl rfl rfl ?_
        refine Pr_gf hj rfl (by decide) (fun fs w e1 e2 => ?_)
        refine Pr_ld 39 hj rfl rfl rfl rfl ?_
        refine Pr_step hj rfl (evn rfl) (fun kc ks o' hs => ?_)
        have hz := tStep hs
        have hheap : o'.2.2.2.1 = res2.2 := hz.2.2 rfl
        have hsh : ∃ w', o'.1 = 40 ∧ o'.2.1 = [rf X, pt (n : Int)] ∧ o'.2.2.1 = w' :: rf X :: (res2.1.toList ++ []) := by
          simp only [rvStep] at hs
          split at hs
          · rename_i x' k' st' hst
            have hst := (List.cons.inj (List.cons.inj hst).2).2
            subst hst
            split at hs
            · split at hs
              · cases hs; exact ⟨_, rfl, rfl, rfl⟩
              · cases hs
            · split at hs
              · cases hs; exact ⟨_, rfl, rfl, rfl⟩
              · cases hs
            · cases hs
          · cases hs
        obtain ⟨w', q1, q2, q3⟩ := hsh
        rw [q1, q2, q3, hheap]
        refine Pr_pfN hj rfl rfl (fun aw2 hf2 => ?_)
        refine Pr_ld 44 hj rfl rfl rfl rfl ?_
        refine Pr_gfV hj rfl (by decide) rfl (hV_Fr hf2 (cf_old hc (fun q => hLX q.1.symm) h3)) ?_
        refine Pr_callV rfl (Or.inl ⟨_, rfl⟩) rfl rfl (sp_forget P aw2) (fun res3 hu => ?_)
        refine Pr_cst 51 hj rfl rfl rfl ?_
        refine Pr_ret rfl (Or.inl rfl) ⟨fun m hm _ _ => ?_, fun hbad => ?_⟩
        · have : m = n := by omega
          subst this
          exact ⟨res2.2, aw2, res3.2, hc, hf2, hu, Fr_refl _⟩
        · exfalso
          rcases hbad with hb | hb | ⟨m, hm, hb⟩
          · omega
          · omega
          · have : m = n := by omega
            subst this
            exact hf hb
      · have hf : ghI aw J n = 0 := hf
        exact out (Or.inr ⟨n, rfl, hf⟩)
  exact key 0 0
end IMG
