/-! The reference's spared: the state is told as before (by hand). -/
section PU
variable {tab : Nat → Nat → Option rvE} {info : Nat → rvM} {rets : Nat → Option FieldType} {NM : Nat} {mth : Nat → Option Nat}
variable {j pc len a1 a2 a3 wi : Nat} {i : Instr} {al st : List rvV} {aw : rvH} {Post : xRes2 → Prop}
theorem Pr_ifcU {c : ClassFile.Cond} {off : Int} {t : Nat} {r : Option rvV} (hj : j < NM) (ht : tab j pc = some (.ifCond c off, len, a1, a2, a3, wi)) (hT : rvJ pc off = some t) (h1 : Pr tab info rets NM mth j Post t al [] aw) (h2 : Pr tab info rets NM mth j Post (pc + 3) al [] aw) : Pr tab info rets NM mth j Post pc al (r.toList ++ []) aw := by
  refine Pr_step hj ht (evn rfl) (fun kc ks o' he => ?_)
  cases r with
  | none => cases he
  | some v =>
    cases v with
    | inr q => cases he
    | inl a =>
      have he : (match rvCmp c a (0, 0), rvJ pc off with
        | some true, some t => some (t, al, ([] : List rvV), aw, kc, ks)
        | some false, some _ => some (pc + 3, al, [], aw, kc, ks)
        | _, _ => none) = some o' := he
      rw [hT] at he
      split at he
      · rename_i t' _ e2
        have e2 := Option.some.inj e2
        subst e2
        have e := Option.some.inj he
        subst e
        exact h1
      · have e := Option.some.inj he
        subst e
        exact h2
      · cases he
theorem Pr_ialdZ {p n : Nat} {z : Int} {d : rvV} {ov : List (Nat × rvV)} (hj : j < NM) (ht : tab j pc = some (.iaload, len, a1, a2, a3, wi)) (e : aw[p]? = some (.inr (0, n, d, ov))) (h : ∀ x : Nat, z = (x : Int) → x < n → Pr tab info rets NM mth j Post (pc + 1) al (rvLook d ov x :: st) aw) : Pr tab info rets NM mth j Post pc al (pt z :: rf p :: st) aw := by
  refine Pr_step hj ht (evn rfl) (fun kc ks o' he => ?_)
  simp only [rvStep, pt, rf] at he
  rw [e] at he
  have he : (match rvIdx (z, z) n with
      | some j => some (pc + 1, al, rvLook d ov j :: st, aw, kc, ks)
      | none => none) = some o' := he
  split at he
  · rename_i x hx
    have hb : (bif decide (z = z) && (decide (0 ≤ z) && decide (z < (n : Int))) then some z.toNat else none) = some x := hx
    obtain ⟨hb, hx⟩ := rv_bif hb
    obtain ⟨-, hb⟩ := rv_and hb
    obtain ⟨b1, b2⟩ := rv_and hb
    have b1 := of_decide_eq_true b1
    have b2 := of_decide_eq_true b2
    have he := Option.some.inj he
    subst he
    exact h x (by omega) (by omega)
  · cases he
theorem Pr_no {r : Option rvV} (hj : j < NM) (ht : tab j pc = some (i, len, a1, a2, a3, wi)) (hn : ¬ evCr i) (he : ∀ BC BS mL kc ks, rvStep rvTy rvNf rvTxt [] BC BS mL i a1 a2 a3 pc al st aw kc ks = none) : Pr tab info rets NM mth j Post pc al st aw := by
  refine Pr_step hj ht hn (fun kc ks o' h => ?_)
  rw [he] at h
  cases h
theorem Pr_callS0 {idx j2 : Nat} (ht : tab j pc = some (.invokestatic idx, len, j2, a2, a3, wi)) (h8 : Nat.beq a3 8 = false) (hm : mth j2 = none) (hp : rvPop a2 st [] = none) : Pr tab info rets NM mth j Post pc al st aw := by
  intro kc ks P hP
  obtain ⟨as', rest', hi, -, hj⟩ := Ev_call hP ht (Or.inl ⟨⟨_, rfl⟩, h8, hm⟩)
  obtain ⟨i0, l0, b2, b3, bw, as0, rest0, ht', hp', -⟩ := hi
  obtain ⟨rfl, -, -, rfl, rfl, -⟩ := ev_row ht ht'
  have hp' : rvPop a2 st [] = some (as0, rest0) := hp'
  rw [hp] at hp'
  cases hp'
end PU
theorem spM_te : (rvEn 290).all (fun ch => ch.2.all (fun q => teRow 98 q.1 q.2)) = true := by decide +kernel
theorem spM_nx : (rvEn 290).all (fun ch => ch.2.all (fun q => noX q.2)) = true := by decide +kernel
set_option maxHeartbeats 1000000 in
theorem sp_sparedM {O : Nat} {fs : List rvV} {aw : rvH} (hx : exH aw) (e9 : aw[109]? = some (.inl (12, fs))) (h6 : fs[6]? = some (rf 111)) (h20 : fs[20]? = some (rf O)) (hO1 : O ≠ 109) (hO2 : O ≠ 111) (e1 : ∃ d ov, aw[111]? = some (.inr (0, 296, d, ov))) (k m n : Int) : PCM rvTab rvInf rvRet 316 rvMth 290 [rf 109, pt k, pt m, pt n] aw (fun res => ∀ i, ghI res.2 111 i = ghI aw 111 i) := by
  obtain ⟨d, ov, e1⟩ := e1
  have hj : 290 < 316 := by decide
  have lk : ∀ x, x < 296 → rvLook d ov x = pt (ghI aw 111 x) := fun x hl => row_look hx (by omega) e1 hl
  have same : ∀ aw' : rvH, aw'[111]? = aw[111]? → ∀ i, ghI aw' 111 i = ghI aw 111 i := fun aw' h i => ghI_same h i
  refine PCM_of (fun _ _ => ?_)
  -- the end behind both stores
  have fin : ∀ (al : List rvV) (aw' : rvH) (x : Nat) (a : Int), x < 296 → aw'[111]? = some (.inr (0, 296, d, rvUp (rvUp ov x (pt a)) x (pt (ghI aw 111 x)))) → Pr rvTab rvInf rvRet 316 rvMth 290 (fun res => ∀ i, ghI res.2 111 i = ghI aw 111 i) 98 al [] aw' := by
    intro al aw' x a hl e
    refine te_run spM_te spM_nx (fun r i => ?_)
    show ghI aw' 111 i = ghI aw 111 i
    have ew := ghI_row e i
    have e0 := ghI_row e1 i
    rw [ew, e0, rvLook_up, rvLook_up]
    by_cases hi : i = x
    · subst hi
      rw [if_pos rfl, lk i hl]
    · rw [if_neg hi, if_neg hi]
  -- what the first phase keeps
  have bad : ∀ (al : List rvV) (aw' : rvH), aw'[111]? = aw[111]? → Pr rvTab rvInf rvRet 316 rvMth 290 (fun res => ∀ i, ghI res.2 111 i = ghI aw 111 i) 43 al [] aw' := by
    intro al aw' h
    refine Pr_cst 44 hj rfl rfl rfl ?_
    exact Pr_ret rfl (Or.inl rfl) (same aw' h)
  have main : ∀ (gs : List rvV) (aw2 : rvH), aw2[109]? = some (.inl (12, gs)) → gs[6]? = some (rf 111) → gs[20]? = some (rf O) → aw2[111]? = some (.inr (0, 296, d, ov)) → Pr rvTab rvInf rvRet 316 rvMth 290 (fun res => ∀ i, ghI res.2 111 i = ghI aw 111 i) 45 [rf 109, pt k, pt m, pt n, rvU, rvU] [] aw2 := by
    intro gs aw2 g9 g6 g20 g1
    refine Pr_ld 46 hj rfl rfl rfl rfl ?_
    refine Pr_gfX hj rfl (by decide) g9 g6 ?_
    refine Pr_cst 51 hj rfl rfl rfl ?_
    refine Pr_ld 52 hj rfl rfl rfl rfl ?_
    refine Pr_bin hj rfl rfl ?_
    refine Pr_ialdZ hj rfl g1 (fun x hxe hl => ?_)
    rw [lk x hl]
    refine Pr_st 56 [rf 109, pt k, pt m, pt n, pt (ghI aw 111 x), rvU] hj rfl (Or.inl ⟨rfl, rfl⟩) rfl ?_
    refine Pr_ld 57 hj rfl rfl rfl rfl ?_
    refine Pr_gfX hj rfl (by decide) g9 g6 ?_
    refine Pr_cst 62 hj rfl rfl rfl ?_
    refine Pr_ld 63 hj rfl rfl rfl rfl ?_
    refine Pr_bin hj rfl rfl ?_
    rw [hxe]
    refine Pr_ld 65 hj rfl rfl rfl rfl ?_
    refine Pr_ld 66 hj rfl rfl rfl rfl ?_
    refine Pr_gfX hj rfl (by decide) g9 g6 ?_
    refine Pr_cst 71 hj rfl rfl rfl ?_
    refine Pr_cst 72 hj rfl rfl rfl ?_
    refine Pr_ld 73 hj rfl rfl rfl rfl ?_
    refine Pr_bin hj rfl rfl ?_
    refine Pr_bin hj rfl rfl ?_
    refine Pr_ld 76 hj rfl rfl rfl rfl ?_
    refine Pr_bin hj rfl rfl ?_
    refine Pr_ialdZ hj rfl g1 (fun y _ hy => ?_)
    rw [lk y hy]
    refine Pr_bin hj rfl rfl ?_
    obtain ⟨a, ha⟩ : ∃ a : Int, a = iop (· - ·) n (ghI aw 111 y) := ⟨_, rfl⟩
    rw [← ha]
    refine Pr_iast hj rfl g1 hl ?_
    obtain ⟨aw3, hw3⟩ : ∃ w, w = aw2.set 111 (.inr (0, 296, d, rvUp ov x (pt a))) := ⟨_, rfl⟩
    rw [← hw3]
    have l111 : 111 < aw2.length := (List.getElem?_eq_some_iff.mp g1).1
    have w9 : aw3[109]? = some (.inl (12, gs)) := by rw [hw3, List.getElem?_set_ne (by omega)]; exact g9
    have w1 : aw3[111]? = some (.inr (0, 296, d, rvUp ov x (pt a))) := by rw [hw3]; exact List.getElem?_set_self l111
    refine Pr_ld 81 hj rfl rfl rfl rfl ?_
    refine Pr_ld 82 hj rfl rfl rfl rfl ?_
    refine Pr_callV rfl (Or.inl ⟨_, rfl⟩) rfl rfl (sp_least w9 g20 hO1 hO2 _) (fun res hres => ?_)
    obtain ⟨r, aw4⟩ := res
    obtain ⟨q9, q1⟩ := hres
    have q9 : aw4[109]? = aw3[109]? := q9
    have q1 : aw4[111]? = aw3[111]? := q1
    show Pr rvTab rvInf rvRet 316 rvMth 290 _ 85 _ (r.toList ++ []) aw4
    have go : ∀ u : rvV, Pr rvTab rvInf rvRet 316 rvMth 290 (fun res => ∀ i, ghI res.2 111 i = ghI aw 111 i) 87 [rf 109, pt k, pt m, pt n, pt (ghI aw 111 x), u] [] aw4 := by
      intro u
      refine Pr_ld 88 hj rfl rfl rfl rfl ?_
      refine Pr_gfX hj rfl (by decide) (q9.trans w9) g6 ?_
      refine Pr_cst 93 hj rfl rfl rfl ?_
      refine Pr_ld 94 hj rfl rfl rfl rfl ?_
      refine Pr_bin hj rfl rfl ?_
      rw [hxe]
      refine Pr_ld 97 hj rfl rfl rfl rfl ?_
      refine Pr_iast hj rfl (q1.trans w1) hl ?_
      refine fin _ _ x a hl ?_
      have l4 : 111 < aw4.length := (List.getElem?_eq_some_iff.mp (q1.trans w1)).1
      exact List.getElem?_set_self l4
    refine Pr_step hj rfl (evn rfl) (fun kc ks o' he => ?_)
    cases r with
    | none => cases he
    | some v =>
      cases v with
      | inr q => cases he
      | inl b =>
        have he : (bif Nat.blt 5 (rvInf 290).1 then some ((85 + 2 : Nat), rvSet [rf 109, pt k, pt m, pt n, pt (ghI aw 111 x), rvU] 5 (.inl b), ([] : List rvV), aw4, kc, ks) else none) = some o' := he
        obtain ⟨-, e⟩ := rv_bif he
        subst e
        exact go (.inl b)
  have key : Pr rvTab rvInf rvRet 316 rvMth 290 (fun res => ∀ i, ghI res.2 111 i = ghI aw 111 i) 0 [rf 109, pt k, pt m, pt n, rvU, rvU] [] aw := by
    refine Pr_ld 1 hj rfl rfl rfl rfl ?_
    refine Pr_cst 2 hj rfl rfl rfl ?_
    refine Pr_pfX hj rfl e9 ?_
    obtain ⟨aw1, hw1⟩ : ∃ w, w = aw.set 109 (.inl (12, fs.set 0 (pt 0))) := ⟨_, rfl⟩
    obtain ⟨gs, hgs⟩ : ∃ g, g = fs.set 0 (pt 0) := ⟨_, rfl⟩
    rw [← hgs] at hw1 ⊢
    rw [← hw1]
    have l9 : 109 < aw.length := (List.getElem?_eq_some_iff.mp e9).1
    have g9 : aw1[109]? = some (.inl (12, gs)) := by rw [hw1]; exact List.getElem?_set_self l9
    have g6 : gs[6]? = some (rf 111) := by rw [hgs, List.getElem?_set_ne (by omega)]; exact h6
    have g20 : gs[20]? = some (rf O) := by rw [hgs, List.getElem?_set_ne (by omega)]; exact h20
    have g1 : aw1[111]? = some (.inr (0, 296, d, ov)) := by rw [hw1, List.getElem?_set_ne (by omega)]; exact e1
    have b1 : aw1[111]? = aw[111]? := g1.trans e1.symm
    refine Pr_ld 6 hj rfl rfl rfl rfl ?_
    refine Pr_ld 7 hj rfl rfl rfl rfl ?_
    refine Pr_callV rfl (Or.inl ⟨_, rfl⟩) rfl rfl (sp_eq (j := 186) rfl _ _) (fun res hres => ?_)
    rw [hres]
    refine Pr_ifcU hj rfl (t := 43) rfl (bad _ _ b1) ?_
    refine Pr_ld 14 hj rfl rfl rfl rfl ?_
    refine Pr_ld 15 hj rfl rfl rfl rfl ?_
    refine Pr_callV rfl (Or.inl ⟨_, rfl⟩) rfl rfl (sp_eq (j := 183) rfl _ _) (fun res hres => ?_)
    rw [hres]
    refine Pr_ifcU hj rfl (t := 43) rfl (bad _ _ b1) ?_
    refine Pr_ld 22 hj rfl rfl rfl rfl ?_
    refine Pr_cst 23 hj rfl rfl rfl ?_
    refine Pr_cst 25 hj rfl rfl rfl ?_
    refine Pr_callS rfl rfl rfl rfl (sp_eq (j := 160) rfl _ _) (fun res hres => ?_)
    rw [hres]
    refine Pr_ifcU hj rfl (t := 43) rfl (bad _ _ b1) ?_
    refine Pr_ld 32 hj rfl rfl rfl rfl ?_
    refine Pr_ld 33 hj rfl rfl rfl rfl ?_
    refine Pr_callV rfl (Or.inl ⟨_, rfl⟩) rfl rfl (sp_least g9 g20 hO1 hO2 _) (fun res hres => ?_)
    obtain ⟨r, aw2⟩ := res
    obtain ⟨q9, q1⟩ := hres
    have q9 : aw2[109]? = aw1[109]? := q9
    have q1 : aw2[111]? = aw1[111]? := q1
    show Pr rvTab rvInf rvRet 316 rvMth 290 _ 36 _ (r.toList ++ []) aw2
    refine Pr_ld 37 hj rfl rfl rfl rfl ?_
    cases r with
    | none => exact Pr_callS0 rfl rfl rfl rfl
    | some v =>
      refine Pr_callS rfl rfl rfl rfl (sp_eq (j := 162) rfl _ _) (fun res hres => ?_)
      rw [hres]
      refine Pr_ifcU hj rfl (t := 45) rfl (main gs aw2 (q9.trans g9) g6 g20 (q1.trans g1)) ?_
      exact bad _ _ (q1.trans b1)
  exact key 0 0
