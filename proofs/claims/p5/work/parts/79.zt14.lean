/-! image and restore of the reference (by hand). -/
/-- rows of ints stay -/
def K0 (aw aw' : rvH) : Prop := ∀ (k n : Nat) (d : rvV) (ov : List (Nat × rvV)), aw[k]? = some (.inr (0, n, d, ov)) → aw'[k]? = some (.inr (0, n, d, ov))
theorem K0_refl (aw : rvH) : K0 aw aw := fun _ _ _ _ h => h
theorem K0_trans {aw aw' aw'' : rvH} (h : K0 aw aw') (h' : K0 aw' aw'') : K0 aw aw'' := fun k n d ov e => h' k n d ov (h k n d ov e)
theorem K0_set {aw : rvH} {k : Nat} {c c' : rvC} (e : aw[k]? = some c) (h : ∀ n d ov, c ≠ .inr (0, n, d, ov)) : K0 aw (aw.set k c') := by
  intro m n d ov hm
  have hne : k ≠ m := fun q => by
    subst q
    rw [e] at hm
    exact h n d ov (Option.some.inj hm)
  rw [List.getElem?_set_ne hne]
  exact hm
theorem K0_app {aw : rvH} {c : rvC} : K0 aw (aw ++ [c]) := fun m n d ov hm => by
  rw [List.getElem?_append_left (List.getElem?_eq_some_iff.mp hm).1]
  exact hm
def ni (i : Instr) : Bool := match i with
  | .iastore => false
  | _ => true
theorem k0Step {sc : List (Int × Int)} {BC BS mL a1 a2 a3 pc kc ks : Nat} {i : Instr} {al st : List rvV} {aw : rvH} {o : rvS} (hm : ni i = true) (h : rvStep rvTy rvNf rvTxt sc BC BS mL i a1 a2 a3 pc al st aw kc ks = some o) : K0 aw o.2.2.2.1 := by
  by_cases hb : hpB i = true
  · rw [(tStep h).2.2 hb]
    exact K0_refl _
  · cases i
    case putfield idx =>
      simp only [rvStep] at h
      split at h
      · split at h
        · rename_i ci fs e
          obtain ⟨hc, rfl⟩ := rv_bif h
          exact K0_set e (fun n d ov q => by cases q)
        · cases h
      · cases h
    case iastore => cases hm
    case bastore =>
      simp only [rvStep] at h
      split at h
      · split at h
        · rename_i n d ov e
          split at h
          · obtain ⟨hc, rfl⟩ := rv_bif h
            exact K0_set e (fun n d ov q => by cases q)
          · cases h
        · rename_i n d ov e
          split at h
          · obtain ⟨hc, rfl⟩ := rv_bif h
            exact K0_set e (fun n d ov q => by cases q)
          · cases h
        · cases h
      · cases h
    case lastore =>
      simp only [rvStep] at h
      split at h
      · split at h
        · rename_i n d ov e
          split at h
          · cases h
            exact K0_set e (fun n d ov q => by cases q)
          · cases h
        · cases h
      · cases h
    case aastore =>
      simp only [rvStep] at h
      split at h
      · split at h
        · rename_i q n d ov e
          split at h
          · split at h
            · obtain ⟨hc, rfl⟩ := rv_bif h
              refine K0_set e (fun n d ov w => ?_)
              cases w
              cases hc
            · split at h
              · obtain ⟨hc, rfl⟩ := rv_bif h
                refine K0_set e (fun n d ov w => ?_)
                cases w
                cases hc
              · cases h
            · cases h
          · cases h
        · cases h
      · cases h
    case new idx =>
      obtain ⟨hc, rfl⟩ := rv_bif h
      exact K0_app
    case newarray t =>
      simp only [rvStep] at h
      split at h
      · obtain ⟨hc, rfl⟩ := rv_bif h
        exact K0_app
      · cases h
    case anewarray t =>
      simp only [rvStep] at h
      split at h
      · obtain ⟨hc, rfl⟩ := rv_bif h
        exact K0_app
      · cases h
    all_goals exact absurd rfl hb
theorem row_look {aw : rvH} {p q n x : Nat} {d : rvV} {ov : List (Nat × rvV)} (hx : exH aw) (hq : q < 3) (e : aw[p]? = some (.inr (q, n, d, ov))) (hl : x < n) : rvLook d ov x = pt (ghI aw p x) := by
  have hc : exC (.inr (q, n, d, ov)) := exH_get hx e
  obtain ⟨a, ha⟩ := (ex_look hc.1 hc.2 (j := x)).2.1 hq
  have hs : xSlot (.inr (q, n, d, ov)) x = some (rvLook d ov x) := by
    show (bif Nat.blt x n then some (rvLook d ov x) else none) = _
    rw [show Nat.blt x n = true from Nat.ble_eq_true_of_le hl]
    rfl
  have hv := ex_slot hc hs
  rw [ha] at hv hs
  obtain ⟨a1, a2⟩ := a
  have e12 : a1 = a2 := hv.1
  subst e12
  rw [ha]
  unfold ghI
  rw [e]
  dsimp only
  rw [hs]
/-- a row's number, told by its parts -/
theorem ghI_row {aw : rvH} {p q n : Nat} {d : rvV} {ov : List (Nat × rvV)} (e : aw[p]? = some (.inr (q, n, d, ov))) (x : Nat) : ghI aw p x = if x < n then (match rvLook d ov x with
    | .inl (a, _) => a
    | _ => 0) else 0 := by
  unfold ghI
  rw [e]
  dsimp only
  have hs : xSlot (.inr (q, n, d, ov)) x = (bif Nat.blt x n then some (rvLook d ov x) else none) := rfl
  rw [hs]
  by_cases h : x < n
  · rw [show Nat.blt x n = true from Nat.ble_eq_true_of_le h, if_pos h]
    cases rvLook d ov x with
    | inl a => rfl
    | inr b => rfl
  · have : Nat.blt x n = false := by
      cases hb : Nat.blt x n with
      | false => rfl
      | true => exact absurd (rv_blt hb) h
    rw [this, if_neg h]
    rfl
theorem ghI_same {aw aw' : rvH} {p : Nat} (h : aw'[p]? = aw[p]?) (x : Nat) : ghI aw' p x = ghI aw p x := by
  unfold ghI
  rw [h]
theorem K0_ghI {aw aw' : rvH} {p n : Nat} {d : rvV} {ov : List (Nat × rvV)} (h : K0 aw aw') (e : aw[p]? = some (.inr (0, n, d, ov))) (x : Nat) : ghI aw' p x = ghI aw p x := ghI_same ((h p n d ov e).trans e.symm) x
section PQ
variable {tab : Nat → Nat → Option rvE} {info : Nat → rvM} {rets : Nat → Option FieldType} {NM : Nat} {mth : Nat → Option Nat}
variable {j pc len a1 a2 a3 wi : Nat} {i : Instr} {al st : List rvV} {aw : rvH} {Post : xRes2 → Prop}
theorem Pr_iald {p x n : Nat} {d : rvV} {ov : List (Nat × rvV)} (hj : j < NM) (ht : tab j pc = some (.iaload, len, a1, a2, a3, wi)) (e : aw[p]? = some (.inr (0, n, d, ov))) (hl : x < n) (h : Pr tab info rets NM mth j Post (pc + 1) al (rvLook d ov x :: st) aw) : Pr tab info rets NM mth j Post pc al (pt (x : Int) :: rf p :: st) aw := by
  refine Pr_step hj ht (evn rfl) (fun kc ks o' he => ?_)
  simp only [rvStep, pt, rf] at he
  rw [e] at he
  have he : (match rvIdx ((x : Int), (x : Int)) n with
      | some j => some (pc + 1, al, rvLook d ov j :: st, aw, kc, ks)
      | none => none) = some o' := he
  rw [rvIdx_n hl] at he
  have he := Option.some.inj he
  subst he
  exact h
theorem Pr_iast {p x n : Nat} {a : Int} {d : rvV} {ov : List (Nat × rvV)} (hj : j < NM) (ht : tab j pc = some (.iastore, len, a1, a2, a3, wi)) (e : aw[p]? = some (.inr (0, n, d, ov))) (hl : x < n) (h : Pr tab info rets NM mth j Post (pc + 1) al st (aw.set p (.inr (0, n, d, rvUp ov x (pt a))))) : Pr tab info rets NM mth j Post pc al (pt a :: pt (x : Int) :: rf p :: st) aw := by
  refine Pr_step hj ht (evn rfl) (fun kc ks o' he => ?_)
  simp only [rvStep, pt, rf] at he
  rw [e] at he
  have he : (match rvIdx ((x : Int), (x : Int)) n with
      | some j => some (pc + 1, al, st, aw.set p (.inr (0, n, d, rvUp ov j (pt a))), kc, ks)
      | none => none) = some o' := he
  rw [rvIdx_n hl] at he
  have he := Option.some.inj he
  subst he
  exact h
theorem Pr_pfX {p ci f idx : Nat} {v : rvV} {fs : List rvV} (hj : j < NM) (ht : tab j pc = some (.putfield idx, len, ci, f, a3, wi)) (e : aw[p]? = some (.inl (ci, fs))) (h : Pr tab info rets NM mth j Post (pc + 3) al st (aw.set p (.inl (ci, fs.set f v)))) : Pr tab info rets NM mth j Post pc al (v :: rf p :: st) aw := by
  refine Pr_step hj ht (evn rfl) (fun kc ks o' he => ?_)
  have he : (match aw[p]? with
      | some (.inl (ci', fs)) => bif Nat.beq ci' ci && (rvFit (rvTy ci' f) v && Nat.blt f (rvLen fs)) then some (pc + 3, al, st, aw.set p (.inl (ci', fs.set f v)), kc, ks) else none
      | _ => none) = some o' := he
  rw [e] at he
  obtain ⟨hb, rfl⟩ := rv_bif he
  exact h
/-- a field of an object that is told -/
theorem Pr_gfX {p ci f idx : Nat} {v : rvV} {fs : List rvV} (hj : j < NM) (ht : tab j pc = some (.getfield idx, len, ci, f, a3, wi)) (h0 : ¬ ci = 100) (e : aw[p]? = some (.inl (ci, fs))) (hv : fs[f]? = some v) (h : Pr tab info rets NM mth j Post (pc + 3) al (v :: st) aw) : Pr tab info rets NM mth j Post pc al (rf p :: st) aw := by
  refine Pr_gf hj ht h0 (fun fs' w e1 e2 => ?_)
  rw [e] at e1
  have e1 := (Prod.mk.inj (Sum.inl.inj (Option.some.inj e1))).2
  subst e1
  rw [hv] at e2
  rw [← Option.some.inj e2]
  exact h
end PQ
theorem sp_isInM (k lo hi : Int) (aw : rvH) : PCM rvTab rvInf rvRet 316 rvMth 160 [pt k, pt lo, pt hi] aw (fun res => res.1 = some (pt (if k < lo then 0 else if hi < k then 0 else 1)) ∧ res.2 = aw) := by
  have hj : 160 < 316 := by decide
  refine PCM_of (fun _ _ => ?_)
  have key : Pr rvTab rvInf rvRet 316 rvMth 160 (fun res => res.1 = some (pt (if k < lo then 0 else if hi < k then 0 else 1)) ∧ res.2 = aw) 0 [pt k, pt lo, pt hi] [] aw := by
    refine Pr_ld 1 hj rfl rfl rfl rfl ?_
    refine Pr_ld 2 hj rfl rfl rfl rfl ?_
    refine Pr_icmp (t := 14) hj rfl rfl (fun h => ?_) (fun h => ?_)
    · have h : k < lo := h
      rw [if_pos h]
      refine Pr_cst 15 hj rfl rfl rfl ?_
      exact Pr_ret rfl (Or.inl rfl) ⟨rfl, rfl⟩
    · have h : ¬ k < lo := h
      rw [if_neg h]
      refine Pr_ld 6 hj rfl rfl rfl rfl ?_
      refine Pr_ld 7 hj rfl rfl rfl rfl ?_
      refine Pr_icmp (t := 14) hj rfl rfl (fun h2 => ?_) (fun h2 => ?_)
      · have h2 : hi < k := h2
        rw [if_pos h2]
        refine Pr_cst 15 hj rfl rfl rfl ?_
        exact Pr_ret rfl (Or.inl rfl) ⟨rfl, rfl⟩
      · have h2 : ¬ hi < k := h2
        rw [if_neg h2]
        refine Pr_cst 11 hj rfl rfl rfl ?_
        refine Pr_goto 15 hj rfl rfl ?_
        exact Pr_ret rfl (Or.inl rfl) ⟨rfl, rfl⟩
  exact key 0 0
theorem i_296 {n i : Nat} (hn : n < 2) (hi : i < 1000) : iop (· + ·) (iop (· * ·) 296 (n : Int)) (i : Int) = ((296 * n + i : Nat) : Int) := by
  have h1 : iop (· * ·) 296 (n : Int) = ((296 * n : Nat) : Int) := by
    have : n = 0 ∨ n = 1 := by omega
    rcases this with rfl | rfl <;> decide
  rw [h1]
  have := iop_add (a := ((296 * n : Nat) : Int)) (b := (i : Int)) ⟨by omega, by omega⟩ ⟨by omega, by omega⟩ ⟨by omega, by omega⟩
  rw [this]
  omega
/-- the rest of a method stores no int -/
def tlRow (p0 pc : Nat) (e : rvE) : Bool := Nat.blt pc p0 || (ni e.1 && (sqB e.1 pc (fun t => Nat.ble p0 t) && (match e.1 with
  | .invokevirtual _ => false
  | .invokespecial _ => false
  | .invokestatic _ => false
  | _ => true)))
theorem tl_run {j p0 : Nat} (hk : (rvEn j).all (fun ch => ch.2.all (fun q => tlRow p0 q.1 q.2)) = true) (hx : (rvEn j).all (fun ch => ch.2.all (fun q => noX q.2)) = true) {al st : List rvV} {aw : rvH} {Post : xRes2 → Prop} (hP : ∀ r aw', K0 aw aw' → Post (r, aw')) : Pr rvTab rvInf rvRet 316 rvMth j Post p0 al st aw := by
  intro kc ks
  have hrow : ∀ {pc : Nat} {e : rvE}, rvTab j pc = some e → tlRow p0 pc e = true := fun ht => rows_all (f := tlRow p0) hk ht
  refine T_run (R := fun o => p0 ≤ o.1 ∧ K0 aw o.2.2.2.1) (noX_ok hx) ?_ ?_ ?_ ?_ _ ⟨Nat.le_refl _, K0_refl _⟩
  · intro o o' i len a1 a2 a3 wi ht hs hr
    rcases rv_or' (hrow ht) with h | h
    · have := rv_blt h
      have := hr.1
      omega
    · obtain ⟨h1, h⟩ := rv_and h
      obtain ⟨h2, -⟩ := rv_and h
      exact ⟨rv_ble ((tStep hs).1 _ h2), K0_trans hr.2 (k0Step h1 hs)⟩
  · intro o o' idx len a1 a2 a3 wi ht h8 hs hr
    rcases rv_or' (hrow ht) with h | h
    · have := rv_blt h
      have := hr.1
      omega
    · obtain ⟨h1, h⟩ := rv_and h
      obtain ⟨-, h⟩ := rv_and h
      cases h
  · intro pc al st aw' kc ks j2 as rest hr hi hm
    obtain ⟨i, len, a2, a3, wi, ht, hc⟩ := xInv_cr hi
    rcases rv_or' (hrow ht) with h | h
    · have := rv_blt h
      have := hr.1
      omega
    · obtain ⟨h1, h⟩ := rv_and h
      obtain ⟨-, h⟩ := rv_and h
      rcases hc with ⟨⟨x, rfl⟩, -⟩ | ⟨x, rfl⟩ | ⟨⟨x, rfl⟩, -⟩ <;> cases h
  · intro o i len a1 a2 a3 wi ht hi hr
    exact hP _ _ hr.2
/-- the reference's cells -/
def MC (aw : rvH) (fs : List rvV) : Prop := aw[109]? = some (.inl (12, fs)) ∧ fs[6]? = some (rf 111) ∧ fs[52]? = some (rf 128) ∧ fs[54]? = some (rf 130)
def IMp (n : Nat) (aw aw' : rvH) : Prop := (∀ i, i < 296 → ghI aw' 128 (296 * n + i) = ghI aw 111 i) ∧ (∀ x, (x < 296 * n ∨ 296 * n + 296 ≤ x) → ghI aw' 128 x = ghI aw 128 x) ∧ ∀ x, ghI aw' 111 x = ghI aw 111 x
theorem im_tl : (rvEn 127).all (fun ch => ch.2.all (fun q => tlRow 49 q.1 q.2)) = true := by decide +kernel
theorem im_nx : (rvEn 127).all (fun ch => ch.2.all (fun q => noX q.2)) = true := by decide +kernel
theorem im_loop {n : Nat} (hn : n < 2) {aw : rvH} {fs : List rvV} {d0 ds : rvV} {ov0 os : List (Nat × rvV)} (hx : exH aw) (hM : MC aw fs) (h128 : aw[128]? = some (.inr (0, 592, d0, ov0))) (h111 : aw[111]? = some (.inr (0, 296, ds, os))) : ∀ (f i : Nat) (ov : List (Nat × rvV)), i + f = 296 → (∀ x, rvLook d0 ov x = if 296 * n ≤ x ∧ x < 296 * n + i then pt (ghI aw 111 (x - 296 * n)) else rvLook d0 ov0 x) → Pr rvTab rvInf rvRet 316 rvMth 127 (fun res => IMp n aw res.2) 18 [rf 109, pt (n : Int), pt (i : Int)] [] (aw.set 128 (.inr (0, 592, d0, ov))) := by
  have hj : 127 < 316 := by decide
  have hl128 := (List.getElem?_eq_some_iff.mp h128).1
  have c128 : ∀ ov : List (Nat × rvV), (aw.set 128 (.inr (0, 592, d0, ov)))[128]? = some (.inr (0, 592, d0, ov)) := fun ov => List.getElem?_set_self hl128
  have c109 : ∀ ov : List (Nat × rvV), (aw.set 128 (.inr (0, 592, d0, ov)))[109]? = some (.inl (12, fs)) := fun ov => by rw [List.getElem?_set_ne (by omega)]; exact hM.1
  have c111 : ∀ ov : List (Nat × rvV), (aw.set 128 (.inr (0, 592, d0, ov)))[111]? = some (.inr (0, 296, ds, os)) := fun ov => by rw [List.getElem?_set_ne (by omega)]; exact h111
  intro f
  induction f with
  | zero =>
    intro i ov hi hov
    have hi : i = 296 := by omega
    subst hi
    refine Pr_ld 19 hj rfl rfl rfl rfl ?_
    refine Pr_cst 22 hj rfl rfl rfl ?_
    refine Pr_icmp (t := 49) hj rfl rfl (fun _ => ?_) (fun h => ?_)
    · refine tl_run im_tl im_nx (fun r aw' hk => ?_)
      have e1 : ∀ x, ghI aw' 128 x = ghI (aw.set 128 (.inr (0, 592, d0, ov))) 128 x := fun x => K0_ghI hk (c128 ov) x
      refine ⟨fun i hi => ?_, fun x hx => ?_, fun x => ?_⟩
      · rw [e1, ghI_row (c128 ov), if_pos (by omega), hov, if_pos (by omega)]
        show ghI aw 111 (296 * n + i - 296 * n) = _
        rw [show 296 * n + i - 296 * n = i by omega]
      · rw [e1, ghI_row (c128 ov), ghI_row h128, hov, if_neg (show ¬ (296 * n ≤ x ∧ x < 296 * n + 296) by omega)]
      · rw [K0_ghI hk (c111 ov) x, ghI_row (c111 ov), ghI_row h111]
    · have h : ((296 : Nat) : Int) < 296 := h
      omega
  | succ f ih =>
    intro i ov hi hov
    refine Pr_ld 19 hj rfl rfl rfl rfl ?_
    refine Pr_cst 22 hj rfl rfl rfl ?_
    refine Pr_icmp (t := 49) hj rfl rfl (fun h => ?_) (fun _ => ?_)
    · have h : ¬ (i : Int) < 296 := h
      omega
    refine Pr_ld 26 hj rfl rfl rfl rfl ?_
    refine Pr_gfX hj rfl (by decide) (c109 ov) hM.2.2.1 ?_
    refine Pr_cst 32 hj rfl rfl rfl ?_
    refine Pr_ld 33 hj rfl rfl rfl rfl ?_
    refine Pr_bin hj rfl rfl ?_
    refine Pr_ld 35 hj rfl rfl rfl rfl ?_
    refine Pr_bin hj rfl rfl ?_
    rw [i_296 hn (by omega)]
    refine Pr_ld 37 hj rfl rfl rfl rfl ?_
    refine Pr_gfX hj rfl (by decide) (c109 ov) hM.2.1 ?_
    refine Pr_ld 41 hj rfl rfl rfl rfl ?_
    refine Pr_iald hj rfl (c111 ov) (by omega) ?_
    rw [row_look hx (by omega) h111 (by omega : i < 296)]
    refine Pr_iast hj rfl (c128 ov) (by omega) ?_
    rw [List.set_set]
    refine Pr_iinc (al' := [rf 109, pt (n : Int), pt ((i + 1 : Nat) : Int)]) hj rfl rfl ?_ ?_
    · rw [iAdd_1 (by omega)]; rfl
    refine Pr_goto 18 hj rfl rfl ?_
    refine ih (i + 1) _ (by omega) (fun x => ?_)
    rw [look_up]
    by_cases e : x = 296 * n + i
    · rw [if_pos e, if_pos (by omega), e, show 296 * n + i - 296 * n = i by omega]
    · rw [if_neg e, hov]
      by_cases c : 296 * n ≤ x ∧ x < 296 * n + i
      · rw [if_pos c, if_pos (by omega)]
      · rw [if_neg c, if_neg (by omega)]
theorem sp_imageM {aw : rvH} {fs : List rvV} (hx : exH aw) (hM : MC aw fs) (h128 : ∃ d ov, aw[128]? = some (.inr (0, 592, d, ov))) (h111 : ∃ d ov, aw[111]? = some (.inr (0, 296, d, ov))) (k : Int) : PCM rvTab rvInf rvRet 316 rvMth 127 [rf 109, pt k] aw (fun res => (∀ n : Nat, k = (n : Int) → n < 2 → IMp n aw res.2) ∧ ((k < 0 ∨ 1 < k) → K0 aw res.2)) := by
  have hj : 127 < 316 := by decide
  obtain ⟨d0, ov0, h128⟩ := h128
  obtain ⟨ds, os, h111⟩ := h111
  refine PCM_of (fun _ _ => ?_)
  have key : Pr rvTab rvInf rvRet 316 rvMth 127 (fun res => (∀ n : Nat, k = (n : Int) → n < 2 → IMp n aw res.2) ∧ ((k < 0 ∨ 1 < k) → K0 aw res.2)) 0 [rf 109, pt k, rvU] [] aw := by
    refine Pr_ld 1 hj rfl rfl rfl rfl ?_
    refine Pr_cst 2 hj rfl rfl rfl ?_
    refine Pr_pfX hj rfl hM.1 ?_
    obtain ⟨aw1, haw1⟩ : ∃ aw1, aw1 = aw.set 109 (.inl (12, fs.set 0 (pt 0))) := ⟨_, rfl⟩
    have hl := (List.getElem?_eq_some_iff.mp hM.1).1
    rw [← haw1]
    have hk0 : K0 aw aw1 := by rw [haw1]; exact K0_set hM.1 (fun n d ov q => by cases q)
    have hM1 : MC aw1 (fs.set 0 (pt 0)) := by
      refine ⟨by rw [haw1]; exact List.getElem?_set_self hl, ?_, ?_, ?_⟩
      · rw [List.getElem?_set_ne (by decide)]; exact hM.2.1
      · rw [List.getElem?_set_ne (by decide)]; exact hM.2.2.1
      · rw [List.getElem?_set_ne (by decide)]; exact hM.2.2.2
    have hx1 : exH aw1 := by
      rw [haw1]
      exact exH_set hx (exC_set (exH_get hx hM.1) ⟨⟨rfl, by decide, by decide⟩, _, rfl⟩)
    refine Pr_ld 6 hj rfl rfl rfl rfl ?_
    refine Pr_cst 7 hj rfl rfl rfl ?_
    refine Pr_cst 8 hj rfl rfl rfl ?_
    refine Pr_callS rfl rfl rfl rfl (sp_isInM k 0 1 aw1) (fun res hr => ?_)
    obtain ⟨r1, r2⟩ := hr
    rw [r1, r2]
    refine Pr_ifc (t := 16) hj rfl rfl (fun hne2 => ?_) (fun he => ?_)
    · have hk : ¬ k < 0 ∧ ¬ 1 < k := by
        have hne2 : ¬ (if k < 0 then (0 : Int) else if 1 < k then 0 else 1) = 0 := hne2
        by_cases c : k < 0
        · rw [if_pos c] at hne2; exact absurd rfl hne2
        · rw [if_neg c] at hne2
          by_cases c2 : 1 < k
          · rw [if_pos c2] at hne2; exact absurd rfl hne2
          · exact ⟨c, c2⟩
      obtain ⟨n, rfl⟩ : ∃ n : Nat, k = (n : Int) := ⟨k.toNat, by omega⟩
      have hn : n < 2 := by omega
      refine Pr_cst 17 hj rfl rfl rfl ?_
      refine Pr_st 18 [rf 109, pt (n : Int), pt 0] (k := 2) hj rfl (Or.inr (Or.inr (Or.inl ⟨_, rfl, rfl, rfl⟩))) rfl ?_
      have hset : aw1 = aw1.set 128 (.inr (0, 592, d0, ov0)) := by
        have h := hk0 128 _ _ _ h128
        obtain ⟨hl, he⟩ := List.getElem?_eq_some_iff.mp h
        rw [← he, List.set_getElem_self]
      have hlp := im_loop hn hx1 hM1 (hk0 128 _ _ _ h128) (hk0 111 _ _ _ h111) 296 0 ov0 rfl (fun x => by rw [if_neg (by omega)])
      rw [← hset] at hlp
      intro kc ks P hP
      refine Ev_mono (fun res hr => ?_) (hlp kc ks P hP)
      refine ⟨hr.1, fun m hm hm2 => ?_, fun hbad => by omega⟩
      have : m = n := by omega
      subst this
      obtain ⟨q1, q2, q3⟩ := hr.2
      exact ⟨fun i hi => by rw [q1 i hi, K0_ghI hk0 h111], fun x hx => by rw [q2 x hx, K0_ghI hk0 h128], fun x => by rw [q3 x, K0_ghI hk0 h111]⟩
    · have hk : k < 0 ∨ 1 < k := by
        have he : (if k < 0 then (0 : Int) else if 1 < k then 0 else 1) = 0 := he
        by_cases c : k < 0
        · exact Or.inl c
        · rw [if_neg c] at he
          by_cases c2 : 1 < k
          · exact Or.inr c2
          · rw [if_neg c2] at he; cases he
      refine Pr_cst 15 hj rfl rfl rfl ?_
      exact Pr_ret rfl (Or.inl rfl) ⟨fun n hn hn2 => by omega, fun _ => hk0⟩
  exact key 0 0
/-! restore -/
def REp (n : Nat) (aw aw' : rvH) : Prop := (∀ i, i < 296 → ghI aw' 111 i = ghI aw 128 (296 * n + i)) ∧ ∀ x, ghI aw' 128 x = ghI aw 128 x
theorem re_tl : (rvEn 128).all (fun ch => ch.2.all (fun q => tlRow 58 q.1 q.2)) = true := by decide +kernel
theorem re_nx : (rvEn 128).all (fun ch => ch.2.all (fun q => noX q.2)) = true := by decide +kernel
theorem re_loop {n : Nat} (hn : n < 2) {aw : rvH} {fs : List rvV} {d0 ds : rvV} {ov0 os : List (Nat × rvV)} (hx : exH aw) (hM : MC aw fs) (h128 : aw[128]? = some (.inr (0, 592, d0, ov0))) (h111 : aw[111]? = some (.inr (0, 296, ds, os))) : ∀ (f i : Nat) (ov : List (Nat × rvV)), i + f = 296 → (∀ x, x < i → rvLook ds ov x = pt (ghI aw 128 (296 * n + x))) → Pr rvTab rvInf rvRet 316 rvMth 128 (fun res => REp n aw res.2) 27 [rf 109, pt (n : Int), pt (i : Int)] [] (aw.set 111 (.inr (0, 296, ds, ov))) := by
  have hj : 128 < 316 := by decide
  have hl111 := (List.getElem?_eq_some_iff.mp h111).1
  have c111 : ∀ ov : List (Nat × rvV), (aw.set 111 (.inr (0, 296, ds, ov)))[111]? = some (.inr (0, 296, ds, ov)) := fun ov => List.getElem?_set_self hl111
  have c109 : ∀ ov : List (Nat × rvV), (aw.set 111 (.inr (0, 296, ds, ov)))[109]? = some (.inl (12, fs)) := fun ov => by rw [List.getElem?_set_ne (by omega)]; exact hM.1
  have c128 : ∀ ov : List (Nat × rvV), (aw.set 111 (.inr (0, 296, ds, ov)))[128]? = some (.inr (0, 592, d0, ov0)) := fun ov => by rw [List.getElem?_set_ne (by omega)]; exact h128
  intro f
  induction f with
  | zero =>
    intro i ov hi hov
    have hi : i = 296 := by omega
    subst hi
    refine Pr_ld 28 hj rfl rfl rfl rfl ?_
    refine Pr_cst 31 hj rfl rfl rfl ?_
    refine Pr_icmp (t := 58) hj rfl rfl (fun _ => ?_) (fun h => ?_)
    · refine tl_run re_tl re_nx (fun r aw' hk => ?_)
      refine ⟨fun i hi => ?_, fun x => ?_⟩
      · rw [K0_ghI hk (c111 ov), ghI_row (c111 ov), if_pos hi, hov i hi]
      · rw [K0_ghI hk (c128 ov) x, ghI_row (c128 ov), ghI_row h128]
    · have h : ((296 : Nat) : Int) < 296 := h
      omega
  | succ f ih =>
    intro i ov hi hov
    refine Pr_ld 28 hj rfl rfl rfl rfl ?_
    refine Pr_cst 31 hj rfl rfl rfl ?_
    refine Pr_icmp (t := 58) hj rfl rfl (fun h => ?_) (fun _ => ?_)
    · have h : ¬ (i : Int) < 296 := h
      omega
    refine Pr_ld 35 hj rfl rfl rfl rfl ?_
    refine Pr_gfX hj rfl (by decide) (c109 ov) hM.2.1 ?_
    refine Pr_ld 39 hj rfl rfl rfl rfl ?_
    refine Pr_ld 40 hj rfl rfl rfl rfl ?_
    refine Pr_gfX hj rfl (by decide) (c109 ov) hM.2.2.1 ?_
    refine Pr_cst 46 hj rfl rfl rfl ?_
    refine Pr_ld 47 hj rfl rfl rfl rfl ?_
    refine Pr_bin hj rfl rfl ?_
    refine Pr_ld 49 hj rfl rfl rfl rfl ?_
    refine Pr_bin hj rfl rfl ?_
    rw [i_296 hn (by omega)]
    refine Pr_iald hj rfl (c128 ov) (by omega) ?_
    rw [row_look hx (by omega) h128 (by omega : 296 * n + i < 592)]
    refine Pr_iast hj rfl (c111 ov) (by omega) ?_
    rw [List.set_set]
    refine Pr_iinc (al' := [rf 109, pt (n : Int), pt ((i + 1 : Nat) : Int)]) hj rfl rfl ?_ ?_
    · rw [iAdd_1 (by omega)]; rfl
    refine Pr_goto 27 hj rfl rfl ?_
    refine ih (i + 1) _ (by omega) (fun x hx2 => ?_)
    rw [look_up]
    by_cases e : x = i
    · rw [if_pos e, e]
    · rw [if_neg e]
      exact hov x (by omega)
theorem sp_restoreM {aw : rvH} {fs : List rvV} (hx : exH aw) (hM : MC aw fs) (h128 : ∃ d ov, aw[128]? = some (.inr (0, 592, d, ov))) (h111 : ∃ d ov, aw[111]? = some (.inr (0, 296, d, ov))) (h130 : ∃ q d ov, aw[130]? = some (.inr (q, 2, d, ov)) ∧ q < 3) (k : Int) : PCM rvTab rvInf rvRet 316 rvMth 128 [rf 109, pt k] aw (fun res => (∀ n : Nat, k = (n : Int) → n < 2 → ¬ ghI aw 130 n = 0 → REp n aw res.2) ∧ ((k < 0 ∨ 1 < k ∨ ∃ n : Nat, k = (n : Int) ∧ ghI aw 130 n = 0) → K0 aw res.2)) := by
  have hj : 128 < 316 := by decide
  obtain ⟨d0, ov0, h128⟩ := h128
  obtain ⟨ds, os, h111⟩ := h111
  obtain ⟨q3, d3, o3, h130, hq3⟩ := h130
  refine PCM_of (fun _ _ => ?_)
  have key : Pr rvTab rvInf rvRet 316 rvMth 128 (fun res => (∀ n : Nat, k = (n : Int) → n < 2 → ¬ ghI aw 130 n = 0 → REp n aw res.2) ∧ ((k < 0 ∨ 1 < k ∨ ∃ n : Nat, k = (n : Int) ∧ ghI aw 130 n = 0) → K0 aw res.2)) 0 [rf 109, pt k, rvU] [] aw := by
    refine Pr_ld 1 hj rfl rfl rfl rfl ?_
    refine Pr_cst 2 hj rfl rfl rfl ?_
    refine Pr_pfX hj rfl hM.1 ?_
    obtain ⟨aw1, haw1⟩ : ∃ aw1, aw1 = aw.set 109 (.inl (12, fs.set 0 (pt 0))) := ⟨_, rfl⟩
    have hl := (List.getElem?_eq_some_iff.mp hM.1).1
    rw [← haw1]
    have hk0 : K0 aw aw1 := by rw [haw1]; exact K0_set hM.1 (fun n d ov q => by cases q)
    have hM1 : MC aw1 (fs.set 0 (pt 0)) := by
      refine ⟨by rw [haw1]; exact List.getElem?_set_self hl, ?_, ?_, ?_⟩
      · rw [List.getElem?_set_ne (by decide)]; exact hM.2.1
      · rw [List.getElem?_set_ne (by decide)]; exact hM.2.2.1
      · rw [List.getElem?_set_ne (by decide)]; exact hM.2.2.2
    have hx1 : exH aw1 := by
      rw [haw1]
      exact exH_set hx (exC_set (exH_get hx hM.1) ⟨⟨rfl, by decide, by decide⟩, _, rfl⟩)
    have f130 : ∀ x, ghI aw1 130 x = ghI aw 130 x := fun x => ghI_same (by rw [haw1, List.getElem?_set_ne (by omega)]) x
    refine Pr_ld 6 hj rfl rfl rfl rfl ?_
    refine Pr_cst 7 hj rfl rfl rfl ?_
    refine Pr_cst 8 hj rfl rfl rfl ?_
    refine Pr_callS rfl rfl rfl rfl (sp_isInM k 0 1 aw1) (fun res hr => ?_)
    obtain ⟨r1, r2⟩ := hr
    rw [r1, r2]
    have out : ∀ (h : (k < 0 ∨ 1 < k) ∨ ∃ n : Nat, k = (n : Int) ∧ ghI aw 130 n = 0), Pr rvTab rvInf rvRet 316 rvMth 128 (fun res => (∀ n : Nat, k = (n : Int) → n < 2 → ¬ ghI aw 130 n = 0 → REp n aw res.2) ∧ ((k < 0 ∨ 1 < k ∨ ∃ n : Nat, k = (n : Int) ∧ ghI aw 130 n = 0) → K0 aw res.2)) 23 [rf 109, pt k, rvU] [] aw1 := by
      intro h
      refine Pr_cst 24 hj rfl rfl rfl ?_
      refine Pr_ret rfl (Or.inl rfl) ⟨fun n hn hn2 hf => ?_, fun _ => hk0⟩
      exfalso
      rcases h with h | ⟨m, hm, h⟩
      · omega
      · have : m = n := by omega
        subst this
        exact hf h
    refine Pr_ifc (t := 23) hj rfl rfl (fun he => ?_) (fun hne2 => ?_)
    · refine out (Or.inl ?_)
      have he : (if k < 0 then (0 : Int) else if 1 < k then 0 else 1) = 0 := he
      by_cases c : k < 0
      · exact Or.inl c
      · rw [if_neg c] at he
        by_cases c2 : 1 < k
        · exact Or.inr c2
        · rw [if_neg c2] at he; cases he
    · have hk : ¬ k < 0 ∧ ¬ 1 < k := by
        have hne2 : ¬ (if k < 0 then (0 : Int) else if 1 < k then 0 else 1) = 0 := hne2
        by_cases c : k < 0
        · rw [if_pos c] at hne2; exact absurd rfl hne2
        · rw [if_neg c] at hne2
          by_cases c2 : 1 < k
          · rw [if_pos c2] at hne2; exact absurd rfl hne2
          · exact ⟨c, c2⟩
      obtain ⟨n, rfl⟩ : ∃ n : Nat, k = (n : Int) := ⟨k.toNat, by omega⟩
      have hn : n < 2 := by omega
      refine Pr_ld 15 hj rfl rfl rfl rfl ?_
      refine Pr_gfX hj rfl (by decide) hM1.1 hM1.2.2.2 ?_
      refine Pr_ld 19 hj rfl rfl rfl rfl ?_
      refine Pr_bald hj rfl hx1 ?_
      rw [f130]
      refine Pr_ifc (t := 25) hj rfl rfl (fun hf => ?_) (fun hf => ?_)
      · have hf : ¬ ghI aw 130 n = 0 := hf
        refine Pr_cst 26 hj rfl rfl rfl ?_
        refine Pr_st 27 [rf 109, pt (n : Int), pt 0] (k := 2) hj rfl (Or.inr (Or.inr (Or.inl ⟨_, rfl, rfl, rfl⟩))) rfl ?_
        have hset : aw1 = aw1.set 111 (.inr (0, 296, ds, os)) := by
          have h := hk0 111 _ _ _ h111
          obtain ⟨hl, he⟩ := List.getElem?_eq_some_iff.mp h
          rw [← he, List.set_getElem_self]
        have hlp := re_loop hn hx1 hM1 (hk0 128 _ _ _ h128) (hk0 111 _ _ _ h111) 296 0 os rfl (fun x hx => absurd hx (Nat.not_lt_zero _))
        rw [← hset] at hlp
        intro kc ks P hP
        refine Ev_mono (fun res hr => ?_) (hlp kc ks P hP)
        refine ⟨hr.1, fun m hm hm2 _ => ?_, fun hbad => ?_⟩
        · have : m = n := by omega
          subst this
          obtain ⟨q1, q2⟩ := hr.2
          exact ⟨fun i hi => by rw [q1 i hi, K0_ghI hk0 h128], fun x => by rw [q2 x, K0_ghI hk0 h128]⟩
        · exfalso
          rcases hbad with hb | hb | ⟨m, hm, hb⟩
          · omega
          · omega
          · have : m = n := by omega
            subst this
            exact hf hb
      · exact out (Or.inr ⟨n, rfl, hf⟩)
  exact key 0 0
