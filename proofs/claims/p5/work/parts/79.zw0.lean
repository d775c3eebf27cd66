/-! image and restore of the reference: the names (by hand, after zt14). -/
/-- rows of longs stay -/
def K3 (aw aw' : rvH) : Prop := ∀ (k n : Nat) (d : rvV) (ov : List (Nat × rvV)), aw[k]? = some (.inr (3, n, d, ov)) → aw'[k]? = some (.inr (3, n, d, ov))
theorem K3_refl (aw : rvH) : K3 aw aw := fun _ _ _ _ h => h
theorem K3_trans {aw aw' aw'' : rvH} (h : K3 aw aw') (h' : K3 aw' aw'') : K3 aw aw'' := fun k n d ov e => h' k n d ov (h k n d ov e)
theorem K3_set {aw : rvH} {k : Nat} {c c' : rvC} (e : aw[k]? = some c) (h : ∀ n d ov, c ≠ .inr (3, n, d, ov)) : K3 aw (aw.set k c') := by
  intro m n d ov hm
  have hne : k ≠ m := fun q => by
    subst q
    rw [e] at hm
    exact h n d ov (Option.some.inj hm)
  rw [List.getElem?_set_ne hne]
  exact hm
theorem K3_app {aw : rvH} {c : rvC} : K3 aw (aw ++ [c]) := fun m n d ov hm => by
  rw [List.getElem?_append_left (List.getElem?_eq_some_iff.mp hm).1]
  exact hm
def ni3 (i : Instr) : Bool := match i with
  | .lastore => false
  | _ => true
theorem k3Step {sc : List (Int × Int)} {BC BS mL a1 a2 a3 pc kc ks : Nat} {i : Instr} {al st : List rvV} {aw : rvH} {o : rvS} (hm : ni3 i = true) (h : rvStep rvTy rvNf rvTxt sc BC BS mL i a1 a2 a3 pc al st aw kc ks = some o) : K3 aw o.2.2.2.1 := by
  by_cases hb : hpB i = true
  · rw [(tStep h).2.2 hb]
    exact K3_refl _
  · cases i
    case putfield idx =>
      simp only [rvStep] at h
      split at h
      · split at h
        · rename_i ci fs e
          obtain ⟨hc, rfl⟩ := rv_bif h
          exact K3_set e (fun n d ov q => by cases q)
        · cases h
      · cases h
    case bastore =>
      simp only [rvStep] at h
      split at h
      · split at h
        · rename_i n d ov e
          split at h
          · obtain ⟨hc, rfl⟩ := rv_bif h
            exact K3_set e (fun n d ov q => by cases q)
          · cases h
        · rename_i n d ov e
          split at h
          · obtain ⟨hc, rfl⟩ := rv_bif h
            exact K3_set e (fun n d ov q => by cases q)
          · cases h
        · cases h
      · cases h
    case lastore => cases hm
    case iastore =>
      simp only [rvStep] at h
      split at h
      · split at h
        · rename_i n d ov e
          split at h
          · cases h
            exact K3_set e (fun n d ov q => by cases q)
          · cases h
        · cases h
      · cases h
    case aastore =>
      simp only [rvStep] at h
      split at h
      · split at h
        · rename_i q n d ov e
          split at h
          · split at h
            · obtain ⟨hc, rfl⟩ := rv_bif h
              refine K3_set e (fun n d ov w => ?_)
              cases w
              cases hc
            · split at h
              · obtain ⟨hc, rfl⟩ := rv_bif h
                refine K3_set e (fun n d ov w => ?_)
                cases w
                cases hc
              · cases h
            · cases h
          · cases h
        · cases h
      · cases h
    case new idx =>
      obtain ⟨hc, rfl⟩ := rv_bif h
      exact K3_app
    case newarray t =>
      simp only [rvStep] at h
      split at h
      · obtain ⟨hc, rfl⟩ := rv_bif h
        exact K3_app
      · cases h
    case anewarray t =>
      simp only [rvStep] at h
      split at h
      · obtain ⟨hc, rfl⟩ := rv_bif h
        exact K3_app
      · cases h
    all_goals exact absurd rfl hb
theorem ghL_row {aw : rvH} {p q n : Nat} {d : rvV} {ov : List (Nat × rvV)} (e : aw[p]? = some (.inr (q, n, d, ov))) (x : Nat) : ghL aw p x = if x < n then (match rvLook d ov x with
    | .inr (1, z) => rvLd z
    | _ => 0) else 0 := by
  unfold ghL
  rw [e]
  dsimp only
  have hs : xSlot (.inr (q, n, d, ov)) x = (bif Nat.blt x n then some (rvLook d ov x) else none) := rfl
  rw [hs]
  by_cases h : x < n
  · rw [show Nat.blt x n = true from Nat.ble_eq_true_of_le h, if_pos h]
    show (match some (rvLook d ov x) with
      | some (.inr (1, z)) => rvLd z
      | _ => 0) = _
    split
    · rename_i z hz
      rw [Option.some.inj hz]
      rfl
    · rename_i hne
      split
      · rename_i z hz
        exact absurd (by rw [hz]) (hne z)
      · rfl
  · have : Nat.blt x n = false := by
      cases hb : Nat.blt x n with
      | false => rfl
      | true => exact absurd (rv_blt hb) h
    rw [this, if_neg h]
    rfl
theorem ghL_same {aw aw' : rvH} {p : Nat} (h : aw'[p]? = aw[p]?) (x : Nat) : ghL aw' p x = ghL aw p x := by
  unfold ghL
  rw [h]
theorem K3_ghL {aw aw' : rvH} {p n : Nat} {d : rvV} {ov : List (Nat × rvV)} (h : K3 aw aw') (e : aw[p]? = some (.inr (3, n, d, ov))) (x : Nat) : ghL aw' p x = ghL aw p x := ghL_same ((h p n d ov e).trans e.symm) x
section PQ
variable {tab : Nat → Nat → Option rvE} {info : Nat → rvM} {rets : Nat → Option FieldType} {NM : Nat} {mth : Nat → Option Nat}
variable {j pc len a1 a2 a3 wi : Nat} {i : Instr} {al st : List rvV} {aw : rvH} {Post : xRes2 → Prop}
theorem Pr_lald {p x n : Nat} {d : rvV} {ov : List (Nat × rvV)} (hj : j < NM) (ht : tab j pc = some (.laload, len, a1, a2, a3, wi)) (e : aw[p]? = some (.inr (3, n, d, ov))) (hl : x < n) (h : ∀ z, rvLook d ov x = .inr (1, z) → Pr tab info rets NM mth j Post (pc + 1) al (.inr (1, z) :: st) aw) : Pr tab info rets NM mth j Post pc al (pt (x : Int) :: rf p :: st) aw := by
  refine Pr_step hj ht (evn rfl) (fun kc ks o' he => ?_)
  simp only [rvStep, pt, rf] at he
  rw [e] at he
  have he : (match rvIdx ((x : Int), (x : Int)) n with
      | some j => (match rvLook d ov j with
        | .inr (1, z) => some (pc + 1, al, .inr (1, z) :: st, aw, kc, ks)
        | _ => none)
      | none => none) = some o' := he
  rw [rvIdx_n hl] at he
  have he : (match rvLook d ov x with
        | .inr (1, z) => some (pc + 1, al, .inr (1, z) :: st, aw, kc, ks)
        | _ => none) = some o' := he
  split at he
  · rename_i z hz
    have he := Option.some.inj he
    subst he
    exact h z hz
  · cases he
theorem Pr_last {p x n z : Nat} {d : rvV} {ov : List (Nat × rvV)} (hj : j < NM) (ht : tab j pc = some (.lastore, len, a1, a2, a3, wi)) (e : aw[p]? = some (.inr (3, n, d, ov))) (hl : x < n) (h : Pr tab info rets NM mth j Post (pc + 1) al st (aw.set p (.inr (3, n, d, rvUp ov x (.inr (1, z)))))) : Pr tab info rets NM mth j Post pc al (.inr (1, z) :: pt (x : Int) :: rf p :: st) aw := by
  refine Pr_step hj ht (evn rfl) (fun kc ks o' he => ?_)
  simp only [rvStep, pt, rf] at he
  rw [e] at he
  have he : (match rvIdx ((x : Int), (x : Int)) n with
      | some j => some (pc + 1, al, st, aw.set p (.inr (3, n, d, rvUp ov j (.inr (1, z)))), kc, ks)
      | none => none) = some o' := he
  rw [rvIdx_n hl] at he
  have he := Option.some.inj he
  subst he
  exact h
end PQ
/-- the rest of a method stores no long -/
def tlRow3 (p0 pc : Nat) (e : rvE) : Bool := Nat.blt pc p0 || (ni3 e.1 && (sqB e.1 pc (fun t => Nat.ble p0 t) && (match e.1 with
  | .invokevirtual _ => false
  | .invokespecial _ => false
  | .invokestatic _ => false
  | _ => true)))
theorem tl_run3 {j p0 : Nat} (hk : (rvEn j).all (fun ch => ch.2.all (fun q => tlRow3 p0 q.1 q.2)) = true) (hx : (rvEn j).all (fun ch => ch.2.all (fun q => noX q.2)) = true) {al st : List rvV} {aw : rvH} {Post : xRes2 → Prop} (hP : ∀ r aw', K3 aw aw' → Post (r, aw')) : Pr rvTab rvInf rvRet 316 rvMth j Post p0 al st aw := by
  intro kc ks
  have hrow : ∀ {pc : Nat} {e : rvE}, rvTab j pc = some e → tlRow3 p0 pc e = true := fun ht => rows_all (f := tlRow3 p0) hk ht
  refine T_run (R := fun o => p0 ≤ o.1 ∧ K3 aw o.2.2.2.1) (noX_ok hx) ?_ ?_ ?_ ?_ _ ⟨Nat.le_refl _, K3_refl _⟩
  · intro o o' i len a1 a2 a3 wi ht hs hr
    rcases rv_or' (hrow ht) with h | h
    · have := rv_blt h
      have := hr.1
      omega
    · obtain ⟨h1, h⟩ := rv_and h
      obtain ⟨h2, -⟩ := rv_and h
      exact ⟨rv_ble ((tStep hs).1 _ h2), K3_trans hr.2 (k3Step h1 hs)⟩
  · intro o o' idx len a1 a2 a3 wi ht h8 hs hr
    rcases rv_or' (hrow ht) with h | h
    · have := rv_blt h
      have := hr.1
      omega
    · obtain ⟨h1, h⟩ := rv_and h
      obtain ⟨-, h⟩ := rv_and h
      cases h
  · intro pc al st aw' kc ks j2 as rest hr hi hm
    obtain ⟨i, len, a2, a3, wi, ht, hc⟩ := xInv_cr hi
    rcases rv_or' (hrow ht) with h | h
    · have := rv_blt h
      have := hr.1
      omega
    · obtain ⟨h1, h⟩ := rv_and h
      obtain ⟨-, h⟩ := rv_and h
      rcases hc with ⟨⟨x, rfl⟩, -⟩ | ⟨x, rfl⟩ | ⟨⟨x, rfl⟩, -⟩ <;> cases h
  · intro o i len a1 a2 a3 wi ht hi hr
    exact hP _ _ hr.2
/-- the reference's rows -/
def MN (fs : List rvV) : Prop := fs[9]? = some (rf 114) ∧ fs[53]? = some (rf 129)
def IMn (n : Nat) (aw aw' : rvH) : Prop := (∀ i, i < 20 → ghL aw' 129 (20 * n + i) = ghL aw 114 i) ∧ (∀ x, (x < 20 * n ∨ 20 * n + 20 ≤ x) → ghL aw' 129 x = ghL aw 129 x) ∧ ∀ x, ghL aw' 114 x = ghL aw 114 x
theorem i_20 {n i : Nat} (hn : n < 2) (hi : i < 1000) : iop (· + ·) (iop (· * ·) 20 (n : Int)) (i : Int) = ((20 * n + i : Nat) : Int) := by
  have h1 : iop (· * ·) 20 (n : Int) = ((20 * n : Nat) : Int) := by
    have : n = 0 ∨ n = 1 := by omega
    rcases this with rfl | rfl <;> decide
  rw [h1]
  have := iop_add (a := ((20 * n : Nat) : Int)) (b := (i : Int)) ⟨by omega, by omega⟩ ⟨by omega, by omega⟩ ⟨by omega, by omega⟩
  rw [this]
  omega
theorem imn_tl : (rvEn 127).all (fun ch => ch.2.all (fun q => tlRow3 80 q.1 q.2)) = true := by decide +kernel
theorem imn_nm {n : Nat} (hn : n < 2) {aw : rvH} {fs : List rvV} {d1 d2 : rvV} {o1 o2 : List (Nat × rvV)} (hM : aw[109]? = some (.inl (12, fs))) (hN : MN fs) (h114 : aw[114]? = some (.inr (3, 40, d1, o1))) (h129 : aw[129]? = some (.inr (3, 40, d2, o2))) : ∀ (f i : Nat) (ov : List (Nat × rvV)), i + f = 20 → (∀ x, rvLook d2 ov x = if 20 * n ≤ x ∧ x < 20 * n + i then rvLook d1 o1 (x - 20 * n) else rvLook d2 o2 x) → Pr rvTab rvInf rvRet 316 rvMth 127 (fun res => IMn n aw res.2) 51 [rf 109, pt (n : Int), pt (i : Int)] [] (aw.set 129 (.inr (3, 40, d2, ov))) := by
  have hj : 127 < 316 := by decide
  have hl := (List.getElem?_eq_some_iff.mp h129).1
  have c129 : ∀ ov : List (Nat × rvV), (aw.set 129 (.inr (3, 40, d2, ov)))[129]? = some (.inr (3, 40, d2, ov)) := fun ov => List.getElem?_set_self hl
  have c109 : ∀ ov : List (Nat × rvV), (aw.set 129 (.inr (3, 40, d2, ov)))[109]? = some (.inl (12, fs)) := fun ov => by rw [List.getElem?_set_ne (by omega)]; exact hM
  have c114 : ∀ ov : List (Nat × rvV), (aw.set 129 (.inr (3, 40, d2, ov)))[114]? = some (.inr (3, 40, d1, o1)) := fun ov => by rw [List.getElem?_set_ne (by omega)]; exact h114
  intro f
  induction f with
  | zero =>
    intro i ov hi hov
    have hi : i = 20 := by omega
    subst hi
    refine Pr_ld 52 hj rfl rfl rfl rfl ?_
    refine Pr_cst 54 hj rfl rfl rfl ?_
    refine Pr_icmp (t := 80) hj rfl rfl (fun _ => ?_) (fun h => ?_)
    · refine tl_run3 imn_tl im_nx (fun r aw' hk => ?_)
      have e1 : ∀ x, ghL aw' 129 x = ghL (aw.set 129 (.inr (3, 40, d2, ov))) 129 x := fun x => K3_ghL hk (c129 ov) x
      refine ⟨fun i hi => ?_, fun x hx => ?_, fun x => ?_⟩
      · rw [e1, ghL_row (c129 ov), ghL_row h114, if_pos (by omega), if_pos (by omega), hov, if_pos (by omega), show 20 * n + i - 20 * n = i by omega]
      · rw [e1, ghL_row (c129 ov), ghL_row h129, hov, if_neg (show ¬ (20 * n ≤ x ∧ x < 20 * n + 20) by omega)]
      · rw [K3_ghL hk (c114 ov) x, ghL_row (c114 ov), ghL_row h114]
    · have h : ((20 : Nat) : Int) < 20 := h
      omega
  | succ f ih =>
    intro i ov hi hov
    refine Pr_ld 52 hj rfl rfl rfl rfl ?_
    refine Pr_cst 54 hj rfl rfl rfl ?_
    refine Pr_icmp (t := 80) hj rfl rfl (fun h => ?_) (fun _ => ?_)
    · have h : ¬ (i : Int) < 20 := h
      omega
    refine Pr_ld 58 hj rfl rfl rfl rfl ?_
    refine Pr_gfX hj rfl (by decide) (c109 ov) hN.2 ?_
    refine Pr_cst 63 hj rfl rfl rfl ?_
    refine Pr_ld 64 hj rfl rfl rfl rfl ?_
    refine Pr_bin hj rfl rfl ?_
    refine Pr_ld 66 hj rfl rfl rfl rfl ?_
    refine Pr_bin hj rfl rfl ?_
    rw [i_20 hn (by omega)]
    refine Pr_ld 68 hj rfl rfl rfl rfl ?_
    refine Pr_gfX hj rfl (by decide) (c109 ov) hN.1 ?_
    refine Pr_ld 72 hj rfl rfl rfl rfl ?_
    refine Pr_lald hj rfl (c114 ov) (by omega) (fun z hz => ?_)
    refine Pr_last hj rfl (c129 ov) (by omega) ?_
    rw [List.set_set]
    refine Pr_iinc (al' := [rf 109, pt (n : Int), pt ((i + 1 : Nat) : Int)]) hj rfl rfl ?_ ?_
    · rw [iAdd_1 (by omega)]; rfl
    refine Pr_goto 51 hj rfl rfl ?_
    refine ih (i + 1) _ (by omega) (fun x => ?_)
    rw [look_up]
    by_cases e : x = 20 * n + i
    · rw [if_pos e, if_pos (by omega), e, show 20 * n + i - 20 * n = i by omega, hz]
    · rw [if_neg e, hov]
      by_cases c : 20 * n ≤ x ∧ x < 20 * n + i
      · rw [if_pos c, if_pos (by omega)]
      · rw [if_neg c, if_neg (by omega)]
theorem set_at {aw : rvH} {k : Nat} {c : rvC} (h : aw[k]? = some c) : aw = aw.set k c := by
  obtain ⟨hl, he⟩ := List.getElem?_eq_some_iff.mp h
  rw [← he, List.set_getElem_self]
theorem Pr_mono {j pc : Nat} {al st : List rvV} {aw : rvH} {P Q : xRes2 → Prop} (h : ∀ res, P res → Q res) (hp : Pr rvTab rvInf rvRet 316 rvMth j P pc al st aw) : Pr rvTab rvInf rvRet 316 rvMth j Q pc al st aw := by
  intro kc ks R hR
  exact Ev_mono (fun res hr => ⟨hr.1, h _ hr.2⟩) (hp kc ks R hR)
theorem imn_loop {n : Nat} (hn : n < 2) {aw : rvH} {fs : List rvV} {d0 ds d1 d2 : rvV} {ov0 os o1 o2 : List (Nat × rvV)} (hx : exH aw) (hM : MC aw fs) (hN : MN fs) (h128 : aw[128]? = some (.inr (0, 592, d0, ov0))) (h111 : aw[111]? = some (.inr (0, 296, ds, os))) (h114 : aw[114]? = some (.inr (3, 40, d1, o1))) (h129 : aw[129]? = some (.inr (3, 40, d2, o2))) : ∀ (f i : Nat) (ov : List (Nat × rvV)), i + f = 296 → Pr rvTab rvInf rvRet 316 rvMth 127 (fun res => IMn n aw res.2) 18 [rf 109, pt (n : Int), pt (i : Int)] [] (aw.set 128 (.inr (0, 592, d0, ov))) := by
  have hj : 127 < 316 := by decide
  have hl128 := (List.getElem?_eq_some_iff.mp h128).1
  have c128 : ∀ ov : List (Nat × rvV), (aw.set 128 (.inr (0, 592, d0, ov)))[128]? = some (.inr (0, 592, d0, ov)) := fun ov => List.getElem?_set_self hl128
  have cn : ∀ (ov : List (Nat × rvV)) {k : Nat} {c : rvC}, aw[k]? = some c → k ≠ 128 → (aw.set 128 (.inr (0, 592, d0, ov)))[k]? = some c := fun ov k c e hk => by rw [List.getElem?_set_ne (by omega)]; exact e
  intro f
  induction f with
  | zero =>
    intro i ov hi
    have hi : i = 296 := by omega
    subst hi
    refine Pr_ld 19 hj rfl rfl rfl rfl ?_
    refine Pr_cst 22 hj rfl rfl rfl ?_
    refine Pr_icmp (t := 49) hj rfl rfl (fun _ => ?_) (fun h => ?_)
    · refine Pr_cst 50 hj rfl rfl rfl ?_
      refine Pr_st 51 [rf 109, pt (n : Int), pt 0] (k := 2) hj rfl (Or.inr (Or.inr (Or.inl ⟨_, rfl, rfl, rfl⟩))) rfl ?_
      have hlp := imn_nm hn (cn ov hM.1 (by omega)) hN (cn ov h114 (by omega)) (cn ov h129 (by omega)) 20 0 o2 rfl (fun x => by rw [if_neg (by omega)])
      rw [← set_at (cn ov h129 (by omega))] at hlp
      have l114 : ∀ x, ghL (aw.set 128 (.inr (0, 592, d0, ov))) 114 x = ghL aw 114 x := fun x => ghL_same ((cn ov h114 (by omega)).trans h114.symm) x
      have l129 : ∀ x, ghL (aw.set 128 (.inr (0, 592, d0, ov))) 129 x = ghL aw 129 x := fun x => ghL_same ((cn ov h129 (by omega)).trans h129.symm) x
      refine Pr_mono (fun res hr => ?_) hlp
      obtain ⟨q1, q2, q3⟩ := hr
      exact ⟨fun i hi => by rw [q1 i hi, l114], fun x hx => by rw [q2 x hx, l129], fun x => by rw [q3, l114]⟩
    · have h : ((296 : Nat) : Int) < 296 := h
      omega
  | succ f ih =>
    intro i ov hi
    refine Pr_ld 19 hj rfl rfl rfl rfl ?_
    refine Pr_cst 22 hj rfl rfl rfl ?_
    refine Pr_icmp (t := 49) hj rfl rfl (fun h => ?_) (fun _ => ?_)
    · have h : ¬ (i : Int) < 296 := h
      omega
    refine Pr_ld 26 hj rfl rfl rfl rfl ?_
    refine Pr_gfX hj rfl (by decide) (cn ov hM.1 (by omega)) hM.2.2.1 ?_
    refine Pr_cst 32 hj rfl rfl rfl ?_
    refine Pr_ld 33 hj rfl rfl rfl rfl ?_
    refine Pr_bin hj rfl rfl ?_
    refine Pr_ld 35 hj rfl rfl rfl rfl ?_
    refine Pr_bin hj rfl rfl ?_
    rw [i_296 hn (by omega)]
    refine Pr_ld 37 hj rfl rfl rfl rfl ?_
    refine Pr_gfX hj rfl (by decide) (cn ov hM.1 (by omega)) hM.2.1 ?_
    refine Pr_ld 41 hj rfl rfl rfl rfl ?_
    refine Pr_iald hj rfl (cn ov h111 (by omega)) (by omega) ?_
    rw [row_look hx (by omega) h111 (by omega : i < 296)]
    refine Pr_iast hj rfl (c128 ov) (by omega) ?_
    rw [List.set_set]
    refine Pr_iinc (al' := [rf 109, pt (n : Int), pt ((i + 1 : Nat) : Int)]) hj rfl rfl ?_ ?_
    · rw [iAdd_1 (by omega)]; rfl
    refine Pr_goto 18 hj rfl rfl ?_
    exact ih (i + 1) _ (by omega)
theorem sp_imageN {aw : rvH} {fs : List rvV} (hx : exH aw) (hM : MC aw fs) (h128 : ∃ d ov, aw[128]? = some (.inr (0, 592, d, ov))) (h111 : ∃ d ov, aw[111]? = some (.inr (0, 296, d, ov))) (hN : MN fs) (h114 : ∃ d ov, aw[114]? = some (.inr (3, 40, d, ov))) (h129 : ∃ d ov, aw[129]? = some (.inr (3, 40, d, ov))) (k : Int) : PCM rvTab rvInf rvRet 316 rvMth 127 [rf 109, pt k] aw (fun res => (∀ n : Nat, k = (n : Int) → n < 2 → IMn n aw res.2) ∧ ((k < 0 ∨ 1 < k) → K3 aw res.2)) := by
  have hj : 127 < 316 := by decide
  obtain ⟨d0, ov0, h128⟩ := h128
  obtain ⟨ds, os, h111⟩ := h111
  obtain ⟨d1, o1, h114⟩ := h114
  obtain ⟨d2, o2, h129⟩ := h129
  refine PCM_of (fun _ _ => ?_)
  have key : Pr rvTab rvInf rvRet 316 rvMth 127 (fun res => (∀ n : Nat, k = (n : Int) → n < 2 → IMn n aw res.2) ∧ ((k < 0 ∨ 1 < k) → K3 aw res.2)) 0 [rf 109, pt k, rvU] [] aw := by
    refine Pr_ld 1 hj rfl rfl rfl rfl ?_
    refine Pr_cst 2 hj rfl rfl rfl ?_
    refine Pr_pfX hj rfl hM.1 ?_
    obtain ⟨aw1, haw1⟩ : ∃ aw1, aw1 = aw.set 109 (.inl (12, fs.set 0 (pt 0))) := ⟨_, rfl⟩
    have hl := (List.getElem?_eq_some_iff.mp hM.1).1
    rw [← haw1]
    have hk3 : K3 aw aw1 := by rw [haw1]; exact K3_set hM.1 (fun n d ov q => by cases q)
    have k9 : ∀ {k : Nat} {c : rvC}, aw[k]? = some c → k ≠ 109 → aw1[k]? = some c := fun e hk => by rw [haw1, List.getElem?_set_ne (by omega)]; exact e
    have hN1 : MN (fs.set 0 (pt 0)) := ⟨by rw [List.getElem?_set_ne (by decide)]; exact hN.1, by rw [List.getElem?_set_ne (by decide)]; exact hN.2⟩
    have hM1 : MC aw1 (fs.set 0 (pt 0)) := by
      refine ⟨by rw [haw1]; exact List.getElem?_set_self hl, ?_, ?_, ?_⟩
      · rw [List.getElem?_set_ne (by decide)]; exact hM.2.1
      · rw [List.getElem?_set_ne (by decide)]; exact hM.2.2.1
      · rw [List.getElem?_set_ne (by decide)]; exact hM.2.2.2
    have hx1 : exH aw1 := by
      rw [haw1]
      exact exH_set hx (exC_set (exH_get hx hM.1) ⟨⟨rfl, by decide, by decide⟩, _, rfl⟩)
    refine Pr_ld 6 hj rfl rfl rfl rfl ?_
    refine Pr_cst 7 hj rfl rfl rfl ?_
    refine Pr_cst 8 hj rfl rfl rfl ?_
    refine Pr_callS rfl rfl rfl rfl (sp_isInM k 0 1 aw1) (fun res hr => ?_)
    obtain ⟨r1, r2⟩ := hr
    rw [r1, r2]
    refine Pr_ifc (t := 16) hj rfl rfl (fun hne2 => ?_) (fun he => ?_)
    · have hk : ¬ k < 0 ∧ ¬ 1 < k := by
        have hne2 : ¬ (if k < 0 then (0 : Int) else if 1 < k then 0 else 1) = 0 := hne2
        by_cases c : k < 0
        · rw [if_pos c] at hne2; exact absurd rfl hne2
        · rw [if_neg c] at hne2
          by_cases c2 : 1 < k
          · rw [if_pos c2] at hne2; exact absurd rfl hne2
          · exact ⟨c, c2⟩
      obtain ⟨n, rfl⟩ : ∃ n : Nat, k = (n : Int) := ⟨k.toNat, by omega⟩
      have hn : n < 2 := by omega
      refine Pr_cst 17 hj rfl rfl rfl ?_
      refine Pr_st 18 [rf 109, pt (n : Int), pt 0] (k := 2) hj rfl (Or.inr (Or.inr (Or.inl ⟨_, rfl, rfl, rfl⟩))) rfl ?_
      have hlp := imn_loop hn hx1 hM1 hN1 (k9 h128 (by omega)) (k9 h111 (by omega)) (k9 h114 (by omega)) (k9 h129 (by omega)) 296 0 ov0 rfl
      rw [← set_at (k9 h128 (by omega))] at hlp
      refine Pr_mono (fun res hr => ?_) hlp
      refine ⟨fun m hm hm2 => ?_, fun hbad => by omega⟩
      have : m = n := by omega
      subst this
      obtain ⟨q1, q2, q3⟩ := hr
      exact ⟨fun i hi => by rw [q1 i hi, K3_ghL hk3 h114], fun x hx => by rw [q2 x hx, K3_ghL hk3 h129], fun x => by rw [q3 x, K3_ghL hk3 h114]⟩
    · have hk : k < 0 ∨ 1 < k := by
        have he : (if k < 0 then (0 : Int) else if 1 < k then 0 else 1) = 0 := he
        by_cases c : k < 0
        · exact Or.inl c
        · rw [if_neg c] at he
          by_cases c2 : 1 < k
          · exact Or.inr c2
          · rw [if_neg c2] at he; cases he
      refine Pr_cst 15 hj rfl rfl rfl ?_
      exact Pr_ret rfl (Or.inl rfl) ⟨fun n hn hn2 => by omega, fun _ => hk3⟩
  exact key 0 0
/-! restore -/
def REn (n : Nat) (aw aw' : rvH) : Prop := (∀ i, i < 20 → ghL aw' 114 i = ghL aw 129 (20 * n + i)) ∧ ∀ x, ghL aw' 129 x = ghL aw 129 x
theorem ren_tl : (rvEn 128).all (fun ch => ch.2.all (fun q => tlRow3 89 q.1 q.2)) = true := by decide +kernel
theorem ren_nm {n : Nat} (hn : n < 2) {aw : rvH} {fs : List rvV} {d1 d2 : rvV} {o1 o2 : List (Nat × rvV)} (hM : aw[109]? = some (.inl (12, fs))) (hN : MN fs) (h114 : aw[114]? = some (.inr (3, 40, d1, o1))) (h129 : aw[129]? = some (.inr (3, 40, d2, o2))) : ∀ (f i : Nat) (ov : List (Nat × rvV)), i + f = 20 → (∀ x, x < i → rvLook d1 ov x = rvLook d2 o2 (20 * n + x)) → Pr rvTab rvInf rvRet 316 rvMth 128 (fun res => REn n aw res.2) 60 [rf 109, pt (n : Int), pt (i : Int)] [] (aw.set 114 (.inr (3, 40, d1, ov))) := by
  have hj : 128 < 316 := by decide
  have hl := (List.getElem?_eq_some_iff.mp h114).1
  have c114 : ∀ ov : List (Nat × rvV), (aw.set 114 (.inr (3, 40, d1, ov)))[114]? = some (.inr (3, 40, d1, ov)) := fun ov => List.getElem?_set_self hl
  have c109 : ∀ ov : List (Nat × rvV), (aw.set 114 (.inr (3, 40, d1, ov)))[109]? = some (.inl (12, fs)) := fun ov => by rw [List.getElem?_set_ne (by omega)]; exact hM
  have c129 : ∀ ov : List (Nat × rvV), (aw.set 114 (.inr (3, 40, d1, ov)))[129]? = some (.inr (3, 40, d2, o2)) := fun ov => by rw [List.getElem?_set_ne (by omega)]; exact h129
  intro f
  induction f with
  | zero =>
    intro i ov hi hov
    have hi : i = 20 := by omega
    subst hi
    refine Pr_ld 61 hj rfl rfl rfl rfl ?_
    refine Pr_cst 63 hj rfl rfl rfl ?_
    refine Pr_icmp (t := 89) hj rfl rfl (fun _ => ?_) (fun h => ?_)
    · refine tl_run3 ren_tl re_nx (fun r aw' hk => ?_)
      refine ⟨fun i hi => ?_, fun x => ?_⟩
      · rw [K3_ghL hk (c114 ov), ghL_row (c114 ov), ghL_row h129, if_pos (by omega), if_pos (by omega), hov i hi]
      · rw [K3_ghL hk (c129 ov) x, ghL_row (c129 ov), ghL_row h129]
    · have h : ((20 : Nat) : Int) < 20 := h
      omega
  | succ f ih =>
    intro i ov hi hov
    refine Pr_ld 61 hj rfl rfl rfl rfl ?_
    refine Pr_cst 63 hj rfl rfl rfl ?_
    refine Pr_icmp (t := 89) hj rfl rfl (fun h => ?_) (fun _ => ?_)
    · have h : ¬ (i : Int) < 20 := h
      omega
    refine Pr_ld 67 hj rfl rfl rfl rfl ?_
    refine Pr_gfX hj rfl (by decide) (c109 ov) hN.1 ?_
    refine Pr_ld 71 hj rfl rfl rfl rfl ?_
    refine Pr_ld 72 hj rfl rfl rfl rfl ?_
    refine Pr_gfX hj rfl (by decide) (c109 ov) hN.2 ?_
    refine Pr_cst 77 hj rfl rfl rfl ?_
    refine Pr_ld 78 hj rfl rfl rfl rfl ?_
    refine Pr_bin hj rfl rfl ?_
    refine Pr_ld 80 hj rfl rfl rfl rfl ?_
    refine Pr_bin hj rfl rfl ?_
    rw [i_20 hn (by omega)]
    refine Pr_lald hj rfl (c129 ov) (by omega) (fun z hz => ?_)
    refine Pr_last hj rfl (c114 ov) (by omega) ?_
    rw [List.set_set]
    refine Pr_iinc (al' := [rf 109, pt (n : Int), pt ((i + 1 : Nat) : Int)]) hj rfl rfl ?_ ?_
    · rw [iAdd_1 (by omega)]; rfl
    refine Pr_goto 60 hj rfl rfl ?_
    refine ih (i + 1) _ (by omega) (fun x hx2 => ?_)
    rw [look_up]
    by_cases e : x = i
    · rw [if_pos e, e, hz]
    · rw [if_neg e]
      exact hov x (by omega)
theorem ren_loop {n : Nat} (hn : n < 2) {aw : rvH} {fs : List rvV} {d0 ds d1 d2 : rvV} {ov0 os o1 o2 : List (Nat × rvV)} (hx : exH aw) (hM : MC aw fs) (hN : MN fs) (h128 : aw[128]? = some (.inr (0, 592, d0, ov0))) (h111 : aw[111]? = some (.inr (0, 296, ds, os))) (h114 : aw[114]? = some (.inr (3, 40, d1, o1))) (h129 : aw[129]? = some (.inr (3, 40, d2, o2))) : ∀ (f i : Nat) (ov : List (Nat × rvV)), i + f = 296 → Pr rvTab rvInf rvRet 316 rvMth 128 (fun res => REn n aw res.2) 27 [rf 109, pt (n : Int), pt (i : Int)] [] (aw.set 111 (.inr (0, 296, ds, ov))) := by
  have hj : 128 < 316 := by decide
  have hl111 := (List.getElem?_eq_some_iff.mp h111).1
  have c111 : ∀ ov : List (Nat × rvV), (aw.set 111 (.inr (0, 296, ds, ov)))[111]? = some (.inr (0, 296, ds, ov)) := fun ov => List.getElem?_set_self hl111
  have cn : ∀ (ov : List (Nat × rvV)) {k : Nat} {c : rvC}, aw[k]? = some c → k ≠ 111 → (aw.set 111 (.inr (0, 296, ds, ov)))[k]? = some c := fun ov k c e hk => by rw [List.getElem?_set_ne (by omega)]; exact e
  intro f
  induction f with
  | zero =>
    intro i ov hi
    have hi : i = 296 := by omega
    subst hi
    refine Pr_ld 28 hj rfl rfl rfl rfl ?_
    refine Pr_cst 31 hj rfl rfl rfl ?_
    refine Pr_icmp (t := 58) hj rfl rfl (fun _ => ?_) (fun h => ?_)
    · refine Pr_cst 59 hj rfl rfl rfl ?_
      refine Pr_st 60 [rf 109, pt (n : Int), pt 0] (k := 2) hj rfl (Or.inr (Or.inr (Or.inl ⟨_, rfl, rfl, rfl⟩))) rfl ?_
      have hlp := ren_nm hn (cn ov hM.1 (by omega)) hN (cn ov h114 (by omega)) (cn ov h129 (by omega)) 20 0 o1 rfl (fun x hx => absurd hx (Nat.not_lt_zero _))
      rw [← set_at (cn ov h114 (by omega))] at hlp
      have l129 : ∀ x, ghL (aw.set 111 (.inr (0, 296, ds, ov))) 129 x = ghL aw 129 x := fun x => ghL_same ((cn ov h129 (by omega)).trans h129.symm) x
      refine Pr_mono (fun res hr => ?_) hlp
      obtain ⟨q1, q2⟩ := hr
      exact ⟨fun i hi => by rw [q1 i hi, l129], fun x => by rw [q2, l129]⟩
    · have h : ((296 : Nat) : Int) < 296 := h
      omega
  | succ f ih =>
    intro i ov hi
    refine Pr_ld 28 hj rfl rfl rfl rfl ?_
    refine Pr_cst 31 hj rfl rfl rfl ?_
    refine Pr_icmp (t := 58) hj rfl rfl (fun h => ?_) (fun _ => ?_)
    · have h : ¬ (i : Int) < 296 := h
      omega
    refine Pr_ld 35 hj rfl rfl rfl rfl ?_
    refine Pr_gfX hj rfl (by decide) (cn ov hM.1 (by omega)) hM.2.1 ?_
    refine Pr_ld 39 hj rfl rfl rfl rfl ?_
    refine Pr_ld 40 hj rfl rfl rfl rfl ?_
    refine Pr_gfX hj rfl (by decide) (cn ov hM.1 (by omega)) hM.2.2.1 ?_
    refine Pr_cst 46 hj rfl rfl rfl ?_
    refine Pr_ld 47 hj rfl rfl rfl rfl ?_
    refine Pr_bin hj rfl rfl ?_
    refine Pr_ld 49 hj rfl rfl rfl rfl ?_
    refine Pr_bin hj rfl rfl ?_
    rw [i_296 hn (by omega)]
    refine Pr_iald hj rfl (cn ov h128 (by omega)) (by omega) ?_
    rw [row_look hx (by omega) h128 (by omega : 296 * n + i < 592)]
    refine Pr_iast hj rfl (c111 ov) (by omega) ?_
    rw [List.set_set]
    refine Pr_iinc (al' := [rf 109, pt (n : Int), pt ((i + 1 : Nat) : Int)]) hj rfl rfl ?_ ?_
    · rw [iAdd_1 (by omega)]; rfl
    refine Pr_goto 27 hj rfl rfl ?_
    exact ih (i + 1) _ (by omega)
theorem sp_restoreN {aw : rvH} {fs : List rvV} (hx : exH aw) (hM : MC aw fs) (h128 : ∃ d ov, aw[128]? = some (.inr (0, 592, d, ov))) (h111 : ∃ d ov, aw[111]? = some (.inr (0, 296, d, ov))) (hN : MN fs) (h114 : ∃ d ov, aw[114]? = some (.inr (3, 40, d, ov))) (h129 : ∃ d ov, aw[129]? = some (.inr (3, 40, d, ov))) (h130 : ∃ q d ov, aw[130]? = some (.inr (q, 2, d, ov)) ∧ q < 3) (k : Int) : PCM rvTab rvInf rvRet 316 rvMth 128 [rf 109, pt k] aw (fun res => (∀ n : Nat, k = (n : Int) → n < 2 → ¬ ghI aw 130 n = 0 → REn n aw res.2) ∧ ((k < 0 ∨ 1 < k ∨ ∃ n : Nat, k = (n : Int) ∧ ghI aw 130 n = 0) → K3 aw res.2)) := by
  have hj : 128 < 316 := by decide
  obtain ⟨d0, ov0, h128⟩ := h128
  obtain ⟨ds, os, h111⟩ := h111
  obtain ⟨d1, o1, h114⟩ := h114
  obtain ⟨d2, o2, h129⟩ := h129
  obtain ⟨q3, d3, o3, h130, hq3⟩ := h130
  refine PCM_of (fun _ _ => ?_)
  have key : Pr rvTab rvInf rvRet 316 rvMth 128 (fun res => (∀ n : Nat, k = (n : Int) → n < 2 → ¬ ghI aw 130 n = 0 → REn n aw res.2) ∧ ((k < 0 ∨ 1 < k ∨ ∃ n : Nat, k = (n : Int) ∧ ghI aw 130 n = 0) → K3 aw res.2)) 0 [rf 109, pt k, rvU] [] aw := by
    refine Pr_ld 1 hj rfl rfl rfl rfl ?_
    refine Pr_cst 2 hj rfl rfl rfl ?_
    refine Pr_pfX hj rfl hM.1 ?_
    obtain ⟨aw1, haw1⟩ : ∃ aw1, aw1 = aw.set 109 (.inl (12, fs.set 0 (pt 0))) := ⟨_, rfl⟩
    have hl := (List.getElem?_eq_some_iff.mp hM.1).1
    rw [← haw1]
    have hk3 : K3 aw aw1 := by rw [haw1]; exact K3_set hM.1 (fun n d ov q => by cases q)
    have k9 : ∀ {k : Nat} {c : rvC}, aw[k]? = some c → k ≠ 109 → aw1[k]? = some c := fun e hk => by rw [haw1, List.getElem?_set_ne (by omega)]; exact e
    have hN1 : MN (fs.set 0 (pt 0)) := ⟨by rw [List.getElem?_set_ne (by decide)]; exact hN.1, by rw [List.getElem?_set_ne (by decide)]; exact hN.2⟩
    have hM1 : MC aw1 (fs.set 0 (pt 0)) := by
      refine ⟨by rw [haw1]; exact List.getElem?_set_self hl, ?_, ?_, ?_⟩
      · rw [List.getElem?_set_ne (by decide)]; exact hM.2.1
      · rw [List.getElem?_set_ne (by decide)]; exact hM.2.2.1
      · rw [List.getElem?_set_ne (by decide)]; exact hM.2.2.2
    have hx1 : exH aw1 := by
      rw [haw1]
      exact exH_set hx (exC_set (exH_get hx hM.1) ⟨⟨rfl, by decide, by decide⟩, _, rfl⟩)
    have f130 : ∀ x, ghI aw1 130 x = ghI aw 130 x := fun x => ghI_same (by rw [haw1, List.getElem?_set_ne (by omega)]) x
    refine Pr_ld 6 hj rfl rfl rfl rfl ?_
    refine Pr_cst 7 hj rfl rfl rfl ?_
    refine Pr_cst 8 hj rfl rfl rfl ?_
    refine Pr_callS rfl rfl rfl rfl (sp_isInM k 0 1 aw1) (fun res hr => ?_)
    obtain ⟨r1, r2⟩ := hr
    rw [r1, r2]
    have out : ∀ (h : (k < 0 ∨ 1 < k) ∨ ∃ n : Nat, k = (n : Int) ∧ ghI aw 130 n = 0), Pr rvTab rvInf rvRet 316 rvMth 128 (fun res => (∀ n : Nat, k = (n : Int) → n < 2 → ¬ ghI aw 130 n = 0 → REn n aw res.2) ∧ ((k < 0 ∨ 1 < k ∨ ∃ n : Nat, k = (n : Int) ∧ ghI aw 130 n = 0) → K3 aw res.2)) 23 [rf 109, pt k, rvU] [] aw1 := by
      intro h
      refine Pr_cst 24 hj rfl rfl rfl ?_
      refine Pr_ret rfl (Or.inl rfl) ⟨fun n hn hn2 hf => ?_, fun _ => hk3⟩
      exfalso
      rcases h with h | ⟨m, hm, h⟩
      · omega
      · have : m = n := by omega
        subst this
        exact hf h
    refine Pr_ifc (t := 23) hj rfl rfl (fun he => ?_) (fun hne2 => ?_)
    · refine out (Or.inl ?_)
      have he : (if k < 0 then (0 : Int) else if 1 < k then 0 else 1) = 0 := he
      by_cases c : k < 0
      · exact Or.inl c
      · rw [if_neg c] at he
        by_cases c2 : 1 < k
        · exact Or.inr c2
        · rw [if_neg c2] at he; cases he
    · have hk : ¬ k < 0 ∧ ¬ 1 < k := by
        have hne2 : ¬ (if k < 0 then (0 : Int) else if 1 < k then 0 else 1) = 0 := hne2
        by_cases c : k < 0
        · rw [if_pos c] at hne2; exact absurd rfl hne2
        · rw [if_neg c] at hne2
          by_cases c2 : 1 < k
          · rw [if_pos c2] at hne2; exact absurd rfl hne2
          · exact ⟨c, c2⟩
      obtain ⟨n, rfl⟩ : ∃ n : Nat, k = (n : Int) := ⟨k.toNat, by omega⟩
      have hn : n < 2 := by omega
      refine Pr_ld 15 hj rfl rfl rfl rfl ?_
      refine Pr_gfX hj rfl (by decide) hM1.1 hM1.2.2.2 ?_
      refine Pr_ld 19 hj rfl rfl rfl rfl ?_
      refine Pr_bald hj rfl hx1 ?_
      rw [f130]
      refine Pr_ifc (t := 25) hj rfl rfl (fun hf => ?_) (fun hf => ?_)
      · have hf : ¬ ghI aw 130 n = 0 := hf
        refine Pr_cst 26 hj rfl rfl rfl ?_
        refine Pr_st 27 [rf 109, pt (n : Int), pt 0] (k := 2) hj rfl (Or.inr (Or.inr (Or.inl ⟨_, rfl, rfl, rfl⟩))) rfl ?_
        have hlp := ren_loop hn hx1 hM1 hN1 (k9 h128 (by omega)) (k9 h111 (by omega)) (k9 h114 (by omega)) (k9 h129 (by omega)) 296 0 os rfl
        rw [← set_at (k9 h111 (by omega))] at hlp
        refine Pr_mono (fun res hr => ?_) hlp
        refine ⟨fun m hm hm2 _ => ?_, fun hbad => ?_⟩
        · have : m = n := by omega
          subst this
          obtain ⟨q1, q2⟩ := hr
          exact ⟨fun i hi => by rw [q1 i hi, K3_ghL hk3 h129], fun x => by rw [q2 x, K3_ghL hk3 h129]⟩
        · exfalso
          rcases hbad with hb | hb | ⟨m, hm, hb⟩
          · omega
          · omega
          · have : m = n := by omega
            subst this
            exact hf hb
      · exact out (Or.inr ⟨n, rfl, hf⟩)
  exact key 0 0
