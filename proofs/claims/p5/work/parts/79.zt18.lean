/-! The class's reader: what it leaves (by hand). -/
/-- the rest of a method is neutral -/
def nrRow (p0 pc : Nat) (e : rvE) : Bool := Nat.blt pc p0 || (ntRow e && (noX e && (match e.1 with
  | .ireturn => true
  | .lreturn => true
  | .return_ => true
  | .invokevirtual _ => Nat.ble p0 (pc + 3)
  | .invokestatic _ => Nat.ble p0 (pc + 3)
  | .invokespecial _ => false
  | i => sqB i pc (fun t => Nat.ble p0 t))))
theorem nr_run {j p0 : Nat} (hk : (rvEn j).all (fun ch => ch.2.all (fun q => nrRow p0 q.1 q.2)) = true) (hx : (rvEn j).all (fun ch => ch.2.all (fun q => noX q.2)) = true) {al st : List rvV} {aw : rvH} {Post : xRes2 → Prop} (hP : ∀ r aw', Fr aw aw' → Post (r, aw')) : Pr rvTab rvInf rvRet 316 rvMth j Post p0 al st aw := by
  intro kc ks
  have hrow : ∀ {pc : Nat} {e : rvE}, rvTab j pc = some e → nrRow p0 pc e = true := fun ht => rows_all (f := nrRow p0) hk ht
  refine T_run (R := fun o => p0 ≤ o.1 ∧ Fr aw o.2.2.2.1) (noX_ok hx) ?_ ?_ ?_ ?_ _ ⟨Nat.le_refl _, Fr_refl _⟩
  · intro o o' i len a1 a2 a3 wi ht hs hr
    rcases rv_or' (hrow ht) with h | h
    · have := rv_blt h
      have := hr.1
      omega
    · obtain ⟨h1, h⟩ := rv_and h
      obtain ⟨-, h⟩ := rv_and h
      have hm := (rv_and h1).1
      have hf := Fr_trans hr.2 (frStep hm hs)
      cases i
      case invokevirtual x => exact absurd hs (fun q => ev_no (Or.inr (Or.inl ⟨_, rfl⟩)) q)
      case invokestatic x => exact absurd hs (fun q => ev_no (Or.inl ⟨_, rfl⟩) q)
      case invokespecial x => exact absurd hs (fun q => ev_no (Or.inr (Or.inr (Or.inl ⟨_, rfl⟩))) q)
      case ireturn => exact absurd hs (fun q => ev_no (Or.inr (Or.inr (Or.inr (Or.inl rfl)))) q)
      case lreturn => exact absurd hs (fun q => ev_no (Or.inr (Or.inr (Or.inr (Or.inr (Or.inl rfl))))) q)
      case return_ => exact absurd hs (fun q => ev_no (Or.inr (Or.inr (Or.inr (Or.inr (Or.inr rfl))))) q)
      all_goals exact ⟨rv_ble ((tStep hs).1 _ h), hf⟩
  · intro o o' idx len a1 a2 a3 wi ht h8 hs hr
    rcases rv_or' (hrow ht) with h | h
    · have := rv_blt h
      have := hr.1
      omega
    · obtain ⟨h1, h⟩ := rv_and h
      obtain ⟨-, h⟩ := rv_and h
      obtain ⟨f1, f2, f3⟩ := frCopy hs
      exact ⟨by rw [f2]; exact rv_ble h, Fr_trans hr.2 f1⟩
  · intro pc al st aw' kc ks j2 as rest hr hi hm
    obtain ⟨i, len, a2, a3, wi, ht, hc⟩ := xInv_cr hi
    rcases rv_or' (hrow ht) with h | h
    · have := rv_blt h
      have := hr.1
      omega
    · obtain ⟨h1, h⟩ := rv_and h
      obtain ⟨-, h⟩ := rv_and h
      have h1 := (rv_and h1).2
      have key : ∀ b : Bool, (b || ((rvMth j2).isSome || ntS j2)) = true → b = false → ntS j2 = true := by
        intro b hb e
        rw [e, hm] at hb
        exact hb
      rcases hc with ⟨⟨x, rfl⟩, hc⟩ | ⟨x, rfl⟩ | ⟨⟨x, rfl⟩, hc⟩
      · exact ⟨_, sp_neutral (key _ h1 hc) as aw', fun res hres kc' ks' => ⟨rv_ble h, Fr_trans hr.2 hres⟩⟩
      · exact ⟨_, sp_neutral (key false h1 rfl) as aw', fun res hres kc' ks' => ⟨rv_ble h, Fr_trans hr.2 hres⟩⟩
      · cases h
  · intro o i len a1 a2 a3 wi ht hi hr
    exact hP _ _ hr.2
/-- old slots stay but those of n -/
def Hn (n : Nat) (aw aw' : rvH) : Prop := aw.length ≤ aw'.length ∧ ∀ (k j : Nat) (v : rvV), k < aw.length → k ≠ n → hV aw k j v → hV aw' k j v
theorem Hn_refl (n : Nat) (aw : rvH) : Hn n aw aw := ⟨Nat.le_refl _, fun _ _ _ _ _ h => h⟩
theorem Hn_Up {n m j : Nat} {v : rvV} {aw0 aw aw' : rvH} (h : Hn n aw0 aw) (hu : Up aw aw' n j v) : Hn n aw0 aw' := ⟨by rw [hu.1]; exact h.1, fun k m w hk hn hv => hu.2.1 k m w (fun q => hn q.1) (h.2 k m w hk hn hv)⟩
theorem Hn_app {n : Nat} {aw0 aw : rvH} {c : rvC} (h : Hn n aw0 aw) : Hn n aw0 (aw ++ [c]) := by
  refine ⟨by rw [List.length_append]; exact Nat.le_trans h.1 (Nat.le_add_right _ _), fun k m w hk hn hv => ?_⟩
  obtain ⟨d, e, p, s⟩ := h.2 k m w hk hn hv
  exact ⟨d, by rw [List.getElem?_append_left (List.getElem?_eq_some_iff.mp e).1]; exact e, p, s⟩
theorem hV_app {aw : rvH} {c : rvC} {k j : Nat} {v : rvV} (h : hV aw k j v) : hV (aw ++ [c]) k j v := by
  obtain ⟨d, e, p, s⟩ := h
  exact ⟨d, by rw [List.getElem?_append_left (List.getElem?_eq_some_iff.mp e).1]; exact e, p, s⟩
section PN
variable {tab : Nat → Nat → Option rvE} {info : Nat → rvM} {rets : Nat → Option FieldType} {NM : Nat} {mth : Nat → Option Nat}
variable {j pc len a1 a2 a3 wi : Nat} {i : Instr} {al st : List rvV} {aw : rvH} {Post : xRes2 → Prop}
theorem Pr_newa {t : ArrayType} {x : Int} (hj : j < NM) (ht : tab j pc = some (.newarray t, len, a1, a2, a3, wi)) (h : ∀ c, no11 c = true → Pr tab info rets NM mth j Post (pc + 2) al (rf aw.length :: st) (aw ++ [c])) : Pr tab info rets NM mth j Post pc al (pt x :: st) aw := by
  refine Pr_step hj ht (evn rfl) (fun kc ks o' he => ?_)
  simp only [rvStep, pt] at he
  obtain ⟨-, rfl⟩ := rv_bif he
  exact h _ rfl
theorem Pr_new {idx : Nat} (hj : j < NM) (ht : tab j pc = some (.new idx, len, a1, a2, a3, wi)) (hn : (!Nat.beq a1 11) = true) (h : ∀ c, no11 c = true → Pr tab info rets NM mth j Post (pc + 3) al (rf aw.length :: st) (aw ++ [c])) : Pr tab info rets NM mth j Post pc al st aw := by
  refine Pr_step hj ht (evn rfl) (fun kc ks o' he => ?_)
  simp only [rvStep] at he
  obtain ⟨-, rfl⟩ := rv_bif he
  exact h _ hn
theorem Pr_obj {idx p : Nat} (ht : tab j pc = some (.invokespecial idx, len, a1, a2, a3, wi)) (h9 : Nat.beq a3 9 = true) (h : Pr tab info rets NM mth j Post (pc + 3) al st aw) : Pr tab info rets NM mth j Post pc al (rf p :: st) aw := by
  intro kc ks P hE
  obtain ⟨b1, b2⟩ := Ev_obj hE ht h9
  exact (Ev_clo tab info rets NM mth).2.2.1 j _ pc al p st aw kc ks idx len a1 a2 a3 wi b2 ht h9 b1 (h kc ks P ((Ev_inv hE).2.2.1 idx len a1 a2 a3 wi p st ht h9 rfl))
end PN
theorem sp_townInit (n : Nat) (aw : rvH) : PCM rvTab rvInf rvRet 316 rvMth 129 [rf n] aw (fun res => res.1 = none ∧ Hn n aw res.2) := by
  have hj : 129 < 316 := by decide
  refine PCM_of (fun _ _ => ?_)
  have key : Pr rvTab rvInf rvRet 316 rvMth 129 (fun res => res.1 = none ∧ Hn n aw res.2) 0 [rf n] [] aw := by
    have h0 := Hn_refl n aw
    refine Pr_ld 1 hj rfl rfl rfl rfl ?_
    refine Pr_obj rfl rfl ?_
    refine Pr_ld 5 hj rfl rfl rfl rfl ?_
    refine Pr_cst 6 hj rfl rfl rfl ?_
    refine Pr_newa hj rfl (fun c1 _ => ?_)
    have h0 := Hn_app (c := c1) h0
    refine Pr_pf hj rfl rfl (fun aw1 hu => ?_)
    have h0 := Hn_Up (m := 0) h0 hu
    refine Pr_ld 12 hj rfl rfl rfl rfl ?_
    refine Pr_cst 14 hj rfl rfl rfl ?_
    refine Pr_newa hj rfl (fun c1 _ => ?_)
    have h0 := Hn_app (c := c1) h0
    refine Pr_pf hj rfl rfl (fun aw1 hu => ?_)
    have h0 := Hn_Up (m := 0) h0 hu
    refine Pr_ld 20 hj rfl rfl rfl rfl ?_
    refine Pr_cst 22 hj rfl rfl rfl ?_
    refine Pr_newa hj rfl (fun c1 _ => ?_)
    have h0 := Hn_app (c := c1) h0
    refine Pr_pf hj rfl rfl (fun aw1 hu => ?_)
    have h0 := Hn_Up (m := 0) h0 hu
    refine Pr_ld 28 hj rfl rfl rfl rfl ?_
    refine Pr_cst 30 hj rfl rfl rfl ?_
    refine Pr_newa hj rfl (fun c1 _ => ?_)
    have h0 := Hn_app (c := c1) h0
    refine Pr_pf hj rfl rfl (fun aw1 hu => ?_)
    have h0 := Hn_Up (m := 0) h0 hu
    refine Pr_ld 36 hj rfl rfl rfl rfl ?_
    refine Pr_cst 37 hj rfl rfl rfl ?_
    refine Pr_newa hj rfl (fun c1 _ => ?_)
    have h0 := Hn_app (c := c1) h0
    refine Pr_pf hj rfl rfl (fun aw1 hu => ?_)
    have h0 := Hn_Up (m := 0) h0 hu
    refine Pr_ld 43 hj rfl rfl rfl rfl ?_
    refine Pr_cst 44 hj rfl rfl rfl ?_
    refine Pr_newa hj rfl (fun c1 _ => ?_)
    have h0 := Hn_app (c := c1) h0
    refine Pr_pf hj rfl rfl (fun aw1 hu => ?_)
    have h0 := Hn_Up (m := 0) h0 hu
    refine Pr_ld 50 hj rfl rfl rfl rfl ?_
    refine Pr_cst 51 hj rfl rfl rfl ?_
    refine Pr_newa hj rfl (fun c1 _ => ?_)
    have h0 := Hn_app (c := c1) h0
    refine Pr_pf hj rfl rfl (fun aw1 hu => ?_)
    have h0 := Hn_Up (m := 0) h0 hu
    exact Pr_ret rfl (Or.inr (Or.inr rfl)) ⟨rfl, h0⟩
  exact key 0 0
theorem bi_nr : (rvEn 130).all (fun ch => ch.2.all (fun q => nrRow 5 q.1 q.2)) = true := by decide +kernel
theorem bi_nx : (rvEn 130).all (fun ch => ch.2.all (fun q => noX q.2)) = true := by decide +kernel
theorem sp_beginIn (b : Nat) (v : rvV) (aw : rvH) (hv : rvIsL v = false) (hA : rvIsA v = true) : PCM rvTab rvInf rvRet 316 rvMth 130 [rf b, v] aw (fun res => ∃ aw1, Up aw aw1 b 0 v ∧ Fr aw1 res.2) := by
  have hj : 130 < 316 := by decide
  refine PCM_of (fun _ hl => ?_)
  have key : Pr rvTab rvInf rvRet 316 rvMth 130 (fun res => ∃ aw1, Up aw aw1 b 0 v ∧ Fr aw1 res.2) 0 [rf b, v] [] aw := by
    refine Pr_ld 1 hj rfl rfl rfl rfl ?_
    refine Pr_ld 2 hj rfl rfl rfl rfl ?_
    refine Pr_pf hj rfl rfl (fun aw1 hu => ?_)
    exact nr_run bi_nr bi_nx (fun r aw' hf => ⟨aw1, hu, hf⟩)
  have e : rvEnt [rf b, v] ++ List.replicate ((rvInf 130).1 - rvLen (rvEnt [rf b, v])) rvU = [rf b, v] := by
    have : rvEnt [rf b, v] = [rf b, v] := by
      show (bif rvIsL (rf b) then _ else rf b :: (bif rvIsL v then v :: rvU :: rvEnt [] else v :: rvEnt [])) = _
      rw [hv]
      rfl
    rw [this]
    rfl
  rw [e]
  exact key 0 0
theorem rd_nr : (rvEn 17).all (fun ch => ch.2.all (fun q => nrRow 27 q.1 q.2)) = true := by decide +kernel
theorem rd_nx : (rvEn 17).all (fun ch => ch.2.all (fun q => noX q.2)) = true := by decide +kernel
/-- what the class's reader leaves -/
def RDp (d b : Nat) (aw aw' : rvH) : Prop := (∀ (k j : Nat) (v : rvV), k < aw.length → ¬ (k = b ∧ j = 0) → k ≠ d → hV aw k j v → hV aw' k j v) ∧ hV aw' b 0 (rf aw.length)
theorem sp_readX (d b : Nat) (aw : rvH) (hd : d < aw.length) (hb : b < aw.length) (hdb : d ≠ b) : PCM rvTab rvInf rvRet 316 rvMth 17 [rf d, rf b] aw (fun res => RDp d b aw res.2) := by
  have hj : 17 < 316 := by decide
  refine PCM_of (fun _ _ => ?_)
  have key : Pr rvTab rvInf rvRet 316 rvMth 17 (fun res => RDp d b aw res.2) 0 [rf d, rf b, rvU] [] aw := by
    refine Pr_ld 1 hj rfl rfl rfl rfl ?_
    refine Pr_new hj rfl rfl (fun c _ => ?_)
    refine Pr_dup hj rfl ?_
    refine Pr_callV rfl (Or.inr ⟨⟨_, rfl⟩, rfl⟩) rfl rfl (sp_townInit aw.length (aw ++ [c])) (fun res hn => ?_)
    obtain ⟨r1, hn⟩ := hn
    have a1 : ∀ (k j : Nat) (v : rvV), k < aw.length → hV aw k j v → hV res.2 k j v := fun k j v hk hv => hn.2 k j v (by rw [List.length_append]; omega) (by omega) (hV_app hv)
    rw [r1]
    refine Pr_pf hj rfl rfl (fun aw2 hu2 => ?_)
    refine Pr_ld 12 hj rfl rfl rfl rfl ?_
    refine Pr_ld 13 hj rfl rfl rfl rfl ?_
    refine Pr_pf hj rfl rfl (fun aw3 hu3 => ?_)
    refine Pr_ld 17 hj rfl rfl rfl rfl ?_
    refine Pr_gfV hj rfl (by decide) rfl hu3.2.2 ?_
    refine Pr_ld 21 hj rfl rfl rfl rfl ?_
    refine Pr_gfV hj rfl (by decide) rfl (hu3.2.1 d 1 _ (fun q => by omega) hu2.2.2) ?_
    refine Pr_callV rfl (Or.inl ⟨_, rfl⟩) rfl rfl (sp_beginIn b (rf aw.length) aw3 rfl rfl) (fun res2 hb2 => ?_)
    obtain ⟨aw4, hu4, hf⟩ := hb2
    refine nr_run rd_nr rd_nx (fun r aw' hf2 => ⟨fun k j v hk hne hkd hv => ?_, hV_Fr (Fr_trans hf hf2) hu4.2.2⟩)
    exact hV_Fr (Fr_trans hf hf2) (hu4.2.1 k j v hne (hu3.2.1 k j v (fun q => hkd q.1) (hu2.2.1 k j v (fun q => hkd q.1) (a1 k j v hk hv))))
  exact key 0 0
