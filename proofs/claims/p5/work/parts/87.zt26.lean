/-! count on both sides (by hand). -/
theorem Pr_tsw {tab : Nat → Nat → Option rvE} {info : Nat → rvM} {rets : Nat → Option FieldType} {NM : Nat} {mth : Nat → Option Nat} {j pc len a1 a2 a3 wi : Nat} {al st : List rvV} {aw : rvH} {Post : xRes2 → Prop} {dflt lo hi a : Int} {offs : Array Int} (td : Nat) (hj : j < NM) (ht : tab j pc = some (.tableswitch dflt lo hi offs, len, a1, a2, a3, wi)) (hd : rvJ pc dflt = some td) (h1 : (a < lo ∨ hi < a) → Pr tab info rets NM mth j Post td al st aw) (h2 : lo ≤ a → a ≤ hi → ∀ off t, offs[(a - lo).toNat]? = some off → rvJ pc off = some t → Pr tab info rets NM mth j Post t al st aw) : Pr tab info rets NM mth j Post pc al (pt a :: st) aw := by
  refine Pr_step hj ht (evn rfl) (fun kc ks o' he => ?_)
  simp only [rvStep, pt] at he
  by_cases hc : a < lo ∨ hi < a
  · have hb : (decide (a < lo) || decide (hi < a)) = true := by
      rcases hc with hc | hc
      · rw [decide_eq_true hc]; rfl
      · rw [decide_eq_true hc, Bool.or_true]
    rw [hb, cond_true, hd] at he
    have he := Option.some.inj he
    subst he
    exact h1 hc
  · have hb : (decide (a < lo) || decide (hi < a)) = false := by
      rw [decide_eq_false (fun q => hc (Or.inl q)), decide_eq_false (fun q => hc (Or.inr q))]; rfl
    rw [hb, cond_false] at he
    obtain ⟨-, he⟩ := rv_bifo he
    split at he
    · rename_i off ho
      split at he
      · rename_i t hT
        have he := Option.some.inj he
        subst he
        exact h2 (by omega) (by omega) off t ho hT
      · cases he
    · cases he
theorem hI_gh {aw : rvH} {p j : Nat} {z : Int} (h : hI aw p j z) : ghI aw p j = z := by
  obtain ⟨c, e1, e2⟩ := h
  unfold ghI
  rw [e1]
  dsimp only
  rw [e2]
/-- the number of sets -/
def sM (a b : Int) : Int := iop (· + ·) (iop (· + ·) 5 a) b
/-- what both answer -/
def cA (s : Nat → Int) (N k : Int) : Int := if k < 0 ∨ 5 < k then -1 else if k < 4 then s k.toNat else if k = 4 then sM (s 0) (s 1) else N
theorem sp_setCount {aw : rvH} {t c : Nat} {d : rvV} {ov : List (Nat × rvV)} (hx : exH aw) (h0 : hV aw t 0 (rf c)) (hc : aw[c]? = some (.inr (0, 4, d, ov))) : PCM rvTab rvInf rvRet 316 rvMth 151 [rf t] aw (fun res => res.1 = some (pt (sM (ghI aw c 0) (ghI aw c 1))) ∧ res.2 = aw) := by
  have hj : 151 < 316 := by decide
  refine PCM_of (fun _ _ => ?_)
  have key : Pr rvTab rvInf rvRet 316 rvMth 151 (fun res => res.1 = some (pt (sM (ghI aw c 0) (ghI aw c 1))) ∧ res.2 = aw) 0 [rf t] [] aw := by
    refine Pr_cst 1 hj rfl rfl rfl ?_
    refine Pr_ld 2 hj rfl rfl rfl rfl ?_
    refine Pr_gfV hj rfl (by decide) rfl h0 ?_
    refine Pr_cst 6 hj rfl rfl rfl ?_
    refine Pr_iald (x := 0) hj rfl hc (by omega) ?_
    rw [row_look hx (by omega) hc (by omega : 0 < 4)]
    refine Pr_bin hj rfl rfl ?_
    refine Pr_ld 9 hj rfl rfl rfl rfl ?_
    refine Pr_gfV hj rfl (by decide) rfl h0 ?_
    refine Pr_cst 13 hj rfl rfl rfl ?_
    refine Pr_iald (x := 1) hj rfl hc (by omega) ?_
    rw [row_look hx (by omega) hc (by omega : 1 < 4)]
    refine Pr_bin hj rfl rfl ?_
    exact Pr_ret rfl (Or.inl rfl) ⟨rfl, rfl⟩
  exact key 0 0
theorem sp_setMany {aw : rvH} {fs : List rvV} {d : rvV} {ov : List (Nat × rvV)} (hx : exH aw) (hM : MC aw fs) (hc : aw[111]? = some (.inr (0, 296, d, ov))) : PCM rvTab rvInf rvRet 316 rvMth 175 [rf 109] aw (fun res => res.1 = some (pt (sM (ghI aw 111 0) (ghI aw 111 1))) ∧ res.2 = aw) := by
  have hj : 175 < 316 := by decide
  refine PCM_of (fun _ _ => ?_)
  have key : Pr rvTab rvInf rvRet 316 rvMth 175 (fun res => res.1 = some (pt (sM (ghI aw 111 0) (ghI aw 111 1))) ∧ res.2 = aw) 0 [rf 109] [] aw := by
    refine Pr_cst 1 hj rfl rfl rfl ?_
    refine Pr_ld 2 hj rfl rfl rfl rfl ?_
    refine Pr_gfX hj rfl (by decide) hM.1 hM.2.1 ?_
    refine Pr_cst 6 hj rfl rfl rfl ?_
    refine Pr_iald (x := 0) hj rfl hc (by omega) ?_
    rw [row_look hx (by omega) hc (by omega : 0 < 296)]
    refine Pr_bin hj rfl rfl ?_
    refine Pr_ld 9 hj rfl rfl rfl rfl ?_
    refine Pr_gfX hj rfl (by decide) hM.1 hM.2.1 ?_
    refine Pr_cst 13 hj rfl rfl rfl ?_
    refine Pr_iald (x := 1) hj rfl hc (by omega) ?_
    rw [row_look hx (by omega) hc (by omega : 1 < 296)]
    refine Pr_bin hj rfl rfl ?_
    exact Pr_ret rfl (Or.inl rfl) ⟨rfl, rfl⟩
  exact key 0 0
theorem sp_countX {aw : rvH} {t c : Nat} {d : rvV} {ov : List (Nat × rvV)} {s : Nat → Int} {N : Int} (hx : exH aw) (hC : HC aw) (hL : hV aw 35 0 (rf t)) (h0 : hV aw t 0 (rf c)) (hc : aw[c]? = some (.inr (0, 4, d, ov))) (hs : ∀ i, i < 4 → ghI aw c i = s i) (hN : ghI aw 1 2 = N) (k : Int) : PCM rvTab rvInf rvRet 316 rvMth 312 [rf 0, pt k] aw (fun res => res.1 = some (pt (cA s N k)) ∧ res.2 = aw) := by
  have hj : 312 < 316 := by decide
  have c0 := hC (0, 0, 1) (by decide)
  have c1 := hC (0, 1, 35) (by decide)
  refine PCM_of (fun _ _ => ?_)
  have key : Pr rvTab rvInf rvRet 316 rvMth 312 (fun res => res.1 = some (pt (cA s N k)) ∧ res.2 = aw) 0 [rf 0, pt k] [] aw := by
    refine Pr_ld 1 hj rfl rfl rfl rfl ?_
    refine Pr_tsw 72 hj rfl rfl (fun h => ?_) (fun h1 h2 off tt ho hT => ?_)
    · have e : cA s N k = -1 := if_pos h
      rw [e]
      refine Pr_cst 73 hj rfl rfl rfl ?_
      exact Pr_ret rfl (Or.inl rfl) ⟨rfl, rfl⟩
    · have hne : ¬ (k < 0 ∨ 5 < k) := by omega
      by_cases h4 : k < 4
      · obtain ⟨n, rfl⟩ : ∃ n : Nat, k = (n : Int) := ⟨k.toNat, by omega⟩
        have hn : n < 4 := by omega
        have e : cA s N (n : Int) = s n := by
          unfold cA
          rw [if_neg hne, if_pos h4, Int.toNat_natCast]
        have ht : tt = 40 := by
          have : n = 0 ∨ n = 1 ∨ n = 2 ∨ n = 3 := by omega
          rcases this with rfl | rfl | rfl | rfl
          all_goals
            have ho := Option.some.inj ho
            subst ho
            exact (Option.some.inj hT).symm
        subst ht
        rw [e]
        refine Pr_ld 41 hj rfl rfl rfl rfl ?_
        refine Pr_gfV hj rfl (by decide) rfl c1 ?_
        refine Pr_gfV hj rfl (by decide) rfl hL ?_
        refine Pr_gfV hj rfl (by decide) rfl h0 ?_
        refine Pr_ld 51 hj rfl rfl rfl rfl ?_
        refine Pr_iald hj rfl hc hn ?_
        rw [row_look hx (by omega) hc hn, hs n hn]
        exact Pr_ret rfl (Or.inl rfl) ⟨rfl, rfl⟩
      · by_cases h5 : k = 4
        · subst h5
          have e : cA s N 4 = sM (s 0) (s 1) := rfl
          have ho := Option.some.inj ho
          subst ho
          have ht := (Option.some.inj hT).symm
          subst ht
          rw [e]
          refine Pr_ld 54 hj rfl rfl rfl rfl ?_
          refine Pr_gfV hj rfl (by decide) rfl c1 ?_
          refine Pr_gfV hj rfl (by decide) rfl hL ?_
          refine Pr_callV rfl (Or.inl ⟨_, rfl⟩) rfl rfl (sp_setCount hx h0 hc) (fun res hr => ?_)
          obtain ⟨r1, r2⟩ := hr
          rw [r1, r2, hs 0 (by omega), hs 1 (by omega)]
          exact Pr_ret rfl (Or.inl rfl) ⟨rfl, rfl⟩
        · have h5 : k = 5 := by omega
          subst h5
          have e : cA s N 5 = N := rfl
          have ho := Option.some.inj ho
          subst ho
          have ht := (Option.some.inj hT).symm
          subst ht
          rw [e]
          refine Pr_ld 65 hj rfl rfl rfl rfl ?_
          refine Pr_gfV hj rfl (by decide) rfl c0 ?_
          refine Pr_gf hj rfl (by decide) (fun fs w e1 e2 => ?_)
          obtain ⟨z, rfl, hz⟩ := int_fld hx e1 e2 rfl
          rw [← hI_gh hz, hN]
          exact Pr_ret rfl (Or.inl rfl) ⟨rfl, rfl⟩
  exact key 0 0
theorem sp_countM {aw : rvH} {fs : List rvV} {d : rvV} {ov : List (Nat × rvV)} {N : Int} (hx : exH aw) (hM : MC aw fs) (hc : aw[111]? = some (.inr (0, 296, d, ov))) (hN : ghI aw 109 2 = N) (k : Int) : PCM rvTab rvInf rvRet 316 rvMth 313 [rf 109, pt k] aw (fun res => res.1 = some (pt (cA (ghI aw 111) N k))) := by
  have hj : 313 < 316 := by decide
  refine PCM_of (fun _ _ => ?_)
  have key : Pr rvTab rvInf rvRet 316 rvMth 313 (fun res => res.1 = some (pt (cA (ghI aw 111) N k))) 0 [rf 109, pt k] [] aw := by
    refine Pr_ld 1 hj rfl rfl rfl rfl ?_
    refine Pr_cst 2 hj rfl rfl rfl ?_
    refine Pr_pfX hj rfl hM.1 ?_
    obtain ⟨aw1, haw1⟩ : ∃ aw1, aw1 = aw.set 109 (.inl (12, fs.set 0 (pt 0))) := ⟨_, rfl⟩
    have hl := (List.getElem?_eq_some_iff.mp hM.1).1
    rw [← haw1]
    have hM1 : MC aw1 (fs.set 0 (pt 0)) := by
      refine ⟨by rw [haw1]; exact List.getElem?_set_self hl, ?_, ?_, ?_⟩
      · rw [List.getElem?_set_ne (by decide)]; exact hM.2.1
      · rw [List.getElem?_set_ne (by decide)]; exact hM.2.2.1
      · rw [List.getElem?_set_ne (by decide)]; exact hM.2.2.2
    have hx1 : exH aw1 := by
      rw [haw1]
      exact exH_set hx (exC_set (exH_get hx hM.1) ⟨⟨rfl, by decide, by decide⟩, _, rfl⟩)
    have hc1 : aw1[111]? = some (.inr (0, 296, d, ov)) := by rw [haw1, List.getElem?_set_ne (by omega)]; exact hc
    have hs : ∀ i, ghI aw1 111 i = ghI aw 111 i := fun i => ghI_same (by rw [hc1, hc]) i
    refine Pr_ld 6 hj rfl rfl rfl rfl ?_
    refine Pr_tsw 61 hj rfl rfl (fun h => ?_) (fun h1 h2 off tt ho hT => ?_)
    · have e : cA (ghI aw 111) N k = -1 := if_pos h
      rw [e]
      refine Pr_cst 62 hj rfl rfl rfl ?_
      exact Pr_ret rfl (Or.inl rfl) rfl
    · have hne : ¬ (k < 0 ∨ 5 < k) := by omega
      by_cases h4 : k < 4
      · obtain ⟨n, rfl⟩ : ∃ n : Nat, k = (n : Int) := ⟨k.toNat, by omega⟩
        have hn : n < 4 := by omega
        have e : cA (ghI aw 111) N (n : Int) = ghI aw 111 n := by
          unfold cA
          rw [if_neg hne, if_pos h4, Int.toNat_natCast]
        have ht : tt = 44 := by
          have : n = 0 ∨ n = 1 ∨ n = 2 ∨ n = 3 := by omega
          rcases this with rfl | rfl | rfl | rfl
          all_goals
            have ho := Option.some.inj ho
            subst ho
            exact (Option.some.inj hT).symm
        subst ht
        rw [e]
        refine Pr_ld 45 hj rfl rfl rfl rfl ?_
        refine Pr_gfX hj rfl (by decide) hM1.1 hM1.2.1 ?_
        refine Pr_ld 49 hj rfl rfl rfl rfl ?_
        refine Pr_iald hj rfl hc1 (by omega) ?_
        rw [row_look hx1 (by omega) hc1 (by omega : n < 296), hs]
        exact Pr_ret rfl (Or.inl rfl) rfl
      · by_cases h5 : k = 4
        · subst h5
          have e : cA (ghI aw 111) N 4 = sM (ghI aw 111 0) (ghI aw 111 1) := rfl
          have ho := Option.some.inj ho
          subst ho
          have ht := (Option.some.inj hT).symm
          subst ht
          rw [e]
          refine Pr_ld 52 hj rfl rfl rfl rfl ?_
          refine Pr_callV rfl (Or.inl ⟨_, rfl⟩) rfl rfl (sp_setMany hx1 hM1 hc1) (fun res hr => ?_)
          obtain ⟨r1, r2⟩ := hr
          rw [r1, hs 0, hs 1]
          exact Pr_ret rfl (Or.inl rfl) rfl
        · have h5 : k = 5 := by omega
          subst h5
          have e : cA (ghI aw 111) N 5 = N := rfl
          have ho := Option.some.inj ho
          subst ho
          have ht := (Option.some.inj hT).symm
          subst ht
          rw [e]
          refine Pr_ld 57 hj rfl rfl rfl rfl ?_
          refine Pr_gf hj rfl (by decide) (fun gs w e1 e2 => ?_)
          obtain ⟨z, rfl, hz⟩ := int_fld hx1 e1 e2 rfl
          have hz2 : hI aw 109 2 z := by
            rw [hM1.1] at e1
            have e1 := (Prod.mk.inj (Sum.inl.inj (Option.some.inj e1))).2
            rw [← e1, List.getElem?_set_ne (by decide)] at e2
            exact ⟨_, hM.1, e2⟩
          rw [← hI_gh hz2, hN]
          exact Pr_ret rfl (Or.inl rfl) rfl
  exact key 0 0
