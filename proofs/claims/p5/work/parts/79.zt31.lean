/-! Spared: behind it the reference's state is told as before; the class's image leaves the reference's cells (by hand). -/
theorem Ev_rel {tab : Nat → Nat → Option rvE} {info : Nat → rvM} {rets : Nat → Option FieldType} {NM : Nat} {mth : Nat → Option Nat} {Rl : rvH → rvH → Prop} (r0 : ∀ aw, Rl aw aw) (rt : ∀ {a b c : rvH}, Rl a b → Rl b c → Rl a c) {S : Nat → Bool} (hS : ∀ (j pc : Nat) (i : Instr) (len a1 a2 a3 wi : Nat), j < NM → S j = true → tab j pc = some (i, len, a1, a2, a3, wi) → (∀ {BC BS mL pc' kc ks : Nat} {al st : List rvV} {aw : rvH} {o : rvS}, rvStep rvTy rvNf rvTxt [] BC BS mL i a1 a2 a3 pc' al st aw kc ks = some o → Rl aw o.2.2.2.1) ∧ ((((∃ x, i = .invokestatic x) ∧ Nat.beq a3 8 = false) ∨ (∃ x, i = .invokevirtual x) ∨ ((∃ x, i = .invokespecial x) ∧ Nat.beq a3 9 = false)) → mth a1 = none → S a1 = true) ∧ (((∃ x, i = .invokestatic x) ∧ Nat.beq a3 8 = true) → ∀ {BF BL pc' kc ks : Nat} {al st : List rvV} {aw : rvH} {o : rvS}, rvCopy BF BL pc' al st aw kc ks = some o → Rl aw o.2.2.2.1)) {j : Nat} {as : List rvV} {aw : rvH} {P : xRes2 → Prop} (hj : S j = true) (h : EvM tab info rets NM mth j as aw P) : EvM tab info rets NM mth j as aw (fun res => P res ∧ Rl aw res.2) := by
  have hE := Ev_clo tab info rets NM mth
  refine (h (fun j P o => Ev tab info rets NM mth j P o ∧ ∀ aw0, S j = true → Rl aw0 o.2.2.2.1 → Ev tab info rets NM mth j (fun res => P res ∧ Rl aw0 res.2) o) (fun j as aw P => EvM tab info rets NM mth j as aw P ∧ (S j = true → EvM tab info rets NM mth j as aw (fun res => P res ∧ Rl aw res.2))) ⟨?_, ?_, ?_, ?_, ?_, ?_, ?_, ?_⟩).2 hj
  · intro j P o o' i len a1 a2 a3 wi h1 h2 h3 h4
    refine ⟨hE.1 j P o o' i len a1 a2 a3 wi h1 h2 h3 h4.1, fun aw0 hs hf => ?_⟩
    exact hE.1 j _ o o' i len a1 a2 a3 wi h1 h2 h3 (h4.2 aw0 hs (rt hf ((hS j _ i len a1 a2 a3 wi h1 hs h2).1 h3)))
  · intro j P o o' idx len a1 a2 a3 wi h1 h2 h3 h4 h5
    refine ⟨hE.2.1 j P o o' idx len a1 a2 a3 wi h1 h2 h3 h4 h5.1, fun aw0 hs hf => ?_⟩
    exact hE.2.1 j _ o o' idx len a1 a2 a3 wi h1 h2 h3 h4 (h5.2 aw0 hs (rt hf ((hS j _ _ len a1 a2 a3 wi h1 hs h2).2.2 ⟨⟨_, rfl⟩, h3⟩ h4)))
  · intro j P pc al i rest aw kc ks idx len a1 a2 a3 wi h1 h2 h3 h4 h5
    exact ⟨hE.2.2.1 j P pc al i rest aw kc ks idx len a1 a2 a3 wi h1 h2 h3 h4 h5.1, fun aw0 hs hf => hE.2.2.1 j _ pc al i rest aw kc ks idx len a1 a2 a3 wi h1 h2 h3 h4 (h5.2 aw0 hs hf)⟩
  · intro j P Q pc al st aw kc ks j2 as rest h1 h2 h3 h4
    refine ⟨hE.2.2.2.1 j P Q pc al st aw kc ks j2 as rest h1 h2 h3.1 (fun res hr => (h4 res hr).1), fun aw0 hs hf => ?_⟩
    obtain ⟨i, len, a2, a3, wi, ht, hc⟩ := xInv_cr h2
    have hn := (EvM_none h3.1).1
    have hs2 := (hS j _ i len j2 a2 a3 wi h1 hs ht).2.1 hc hn
    exact hE.2.2.2.1 j _ _ pc al st aw kc ks j2 as rest h1 h2 (h3.2 hs2) (fun res hr => (h4 res hr.1).2 aw0 hs (rt hf hr.2))
  · intro j P pc al st aw kc ks i len a1 a2 a3 wi h1 h2 h3 h4 h5 h6
    exact ⟨hE.2.2.2.2.1 j P pc al st aw kc ks i len a1 a2 a3 wi h1 h2 h3 h4 h5 h6, fun aw0 hs hf => hE.2.2.2.2.1 j _ pc al st aw kc ks i len a1 a2 a3 wi h1 h2 h3 h4 h5 ⟨h6, hf⟩⟩
  · intro j P pc al k x y rest aw kc ks idx len a1 a2 a3 wi h1 h2 h3 h4 h5 h6 h7 h8 h9 ha hb hd
    exact ⟨hE.2.2.2.2.2.1 j P pc al k x y rest aw kc ks idx len a1 a2 a3 wi h1 h2 h3 h4 h5 h6 h7 h8 h9 ha hb hd.1, fun aw0 hs hf => hE.2.2.2.2.2.1 j _ pc al k x y rest aw kc ks idx len a1 a2 a3 wi h1 h2 h3 h4 h5 h6 h7 h8 h9 ha hb (hd.2 aw0 hs hf)⟩
  · intro j P pc al x rest aw kc ks idx len a1 a2 a3 wi h1 h2 h3 h4 h5 h6 h7 h8 h9 hd
    exact ⟨hE.2.2.2.2.2.2.1 j P pc al x rest aw kc ks idx len a1 a2 a3 wi h1 h2 h3 h4 h5 h6 h7 h8 h9 (fun n n1 n2 => (hd n n1 n2).1), fun aw0 hs hf => hE.2.2.2.2.2.2.1 j _ pc al x rest aw kc ks idx len a1 a2 a3 wi h1 h2 h3 h4 h5 h6 h7 h8 h9 (fun n n1 n2 => (hd n n1 n2).2 aw0 hs hf)⟩
  · intro j P as aw h1 h2 h3 h4
    exact ⟨hE.2.2.2.2.2.2.2 j P as aw h1 h2 h3 h4.1, fun hs => hE.2.2.2.2.2.2.2 j _ as aw h1 h2 h3 (h4.2 aw hs (r0 aw))⟩
/-- methods that write no cell, and what they call -/
def eqS (n : Nat) : Bool := [0, 32, 50, 160, 162, 172, 173, 175, 176, 177, 178, 182, 183, 186].any (Nat.beq n)
def clRow (S : Nat → Bool) (e : rvE) : Bool := match e with
  | (.invokestatic _, _, a1, _, a3, _) => Nat.beq a3 8 || ((rvMth a1).isSome || S a1)
  | (.invokevirtual _, _, a1, _, _, _) => (rvMth a1).isSome || S a1
  | (.invokespecial _, _, a1, _, a3, _) => Nat.beq a3 9 || ((rvMth a1).isSome || S a1)
  | _ => true
theorem clRow_ok {S : Nat → Bool} {i : Instr} {len a1 a2 a3 wi : Nat} (h2 : clRow S (i, len, a1, a2, a3, wi) = true) (hc : ((∃ x, i = .invokestatic x) ∧ Nat.beq a3 8 = false) ∨ (∃ x, i = .invokevirtual x) ∨ ((∃ x, i = .invokespecial x) ∧ Nat.beq a3 9 = false)) (hm : rvMth a1 = none) : S a1 = true := by
  have key : ∀ b : Bool, (b || ((rvMth a1).isSome || S a1)) = true → b = false → S a1 = true := by
    intro b hb e
    rw [e, hm] at hb
    exact hb
  rcases hc with ⟨⟨x, rfl⟩, hc⟩ | ⟨x, rfl⟩ | ⟨⟨x, rfl⟩, hc⟩
  · exact key _ h2 hc
  · exact key false h2 rfl
  · exact key _ h2 hc
def n8 (e : rvE) : Bool := match e with
  | (.invokestatic _, _, _, _, a3, _) => !Nat.beq a3 8
  | _ => true
theorem n8_ok {i : Instr} {len a1 a2 a3 wi : Nat} (h : n8 (i, len, a1, a2, a3, wi) = true) (hc : (∃ x, i = .invokestatic x) ∧ Nat.beq a3 8 = true) : False := by
  obtain ⟨⟨x, rfl⟩, h8⟩ := hc
  have h : (!Nat.beq a3 8) = true := h
  rw [h8] at h
  cases h
def eqRow (e : rvE) : Bool := hpB e.1 && (n8 e && clRow eqS e)
def eqTb (j : Nat) : Bool := (rvEn j).all (fun ch => ch.2.all (fun q => eqRow q.2))
theorem eqTb_all : [0, 32, 50, 160, 162, 172, 173, 175, 176, 177, 178, 182, 183, 186].all eqTb = true := by decide +kernel
theorem any_mem {l : List Nat} {n : Nat} (h : l.any (Nat.beq n) = true) : n ∈ l := by
  obtain ⟨x, h1, h2⟩ := List.any_eq_true.mp h
  have := rv_beq h2
  subst this
  exact h1
/-- no cell changes -/
theorem sp_eq {j : Nat} (hj : eqS j = true) (as : List rvV) (aw : rvH) : PCM rvTab rvInf rvRet 316 rvMth j as aw (fun res => res.2 = aw) := fun P hP => EvM_mono (fun res h => ⟨h.1, h.2.symm⟩) (Ev_rel (Rl := fun a b => a = b) (S := eqS) (fun _ => rfl) (fun h h' => h.trans h') (fun j pc i len a1 a2 a3 wi _ hs ht => by
  have h := rows_all (f := fun _ e => eqRow e) (List.all_eq_true.mp eqTb_all j (any_mem hs)) ht
  obtain ⟨h1, h⟩ := rv_and h
  obtain ⟨h2, h3⟩ := rv_and h
  refine ⟨fun h => ((tStep h).2.2 h1).symm, fun hc hm => clRow_ok h3 hc hm, fun hc => absurd (n8_ok h2 hc) id⟩) hj hP)
/-- the rest of a method writes no cell -/
def teRow (p0 pc : Nat) (e : rvE) : Bool := Nat.blt pc p0 || (hpB e.1 && (match e with
  | (.invokevirtual _, _, a1, _) => eqS a1 && Nat.ble p0 (pc + 3)
  | (.invokestatic _, _, a1, _, a3, _) => !Nat.beq a3 8 && (eqS a1 && Nat.ble p0 (pc + 3))
  | (.invokespecial _, _) => false
  | (.ireturn, _) => true
  | (.lreturn, _) => true
  | (.return_, _) => true
  | (i, _) => sqB i pc (fun t => Nat.ble p0 t)))
theorem te_run {j p0 : Nat} (hk : (rvEn j).all (fun ch => ch.2.all (fun q => teRow p0 q.1 q.2)) = true) (hx : (rvEn j).all (fun ch => ch.2.all (fun q => noX q.2)) = true) {al st : List rvV} {aw : rvH} {Post : xRes2 → Prop} (hP : ∀ r, Post (r, aw)) : Pr rvTab rvInf rvRet 316 rvMth j Post p0 al st aw := by
  intro kc ks
  have hrow : ∀ {pc : Nat} {e : rvE}, p0 ≤ pc → rvTab j pc = some e → hpB e.1 = true ∧ teRow p0 pc e = true ∧ Nat.blt pc p0 = false := fun {pc e} hp ht => by
    have h := rows_all (f := teRow p0) hk ht
    have hb : Nat.blt pc p0 = false := by
      cases hb : Nat.blt pc p0 with
      | false => rfl
      | true => have := rv_blt hb; omega
    rcases rv_or' h with h' | h'
    · rw [hb] at h'; cases h'
    · exact ⟨(rv_and h').1, h, hb⟩
  refine T_run (R := fun o => p0 ≤ o.1 ∧ o.2.2.2.1 = aw) (noX_ok hx) ?_ ?_ ?_ ?_ _ ⟨Nat.le_refl _, rfl⟩
  · intro o o' i len a1 a2 a3 wi ht hs hr
    obtain ⟨h1, h2, h3⟩ := hrow hr.1 ht
    have e := ((tStep hs).2.2 h1)
    have gen : sqB i o.1 (fun t => Nat.ble p0 t) = true → p0 ≤ o'.1 ∧ o'.2.2.2.1 = aw := fun h => ⟨rv_ble ((tStep hs).1 _ h), e.trans hr.2⟩
    unfold teRow at h2
    rw [h3, Bool.false_or] at h2
    have h2 := (rv_and h2).2
    cases i
    case invokevirtual => cases hs
    case invokestatic => cases hs
    case invokespecial => cases hs
    case ireturn => cases hs
    case lreturn => cases hs
    case return_ => cases hs
    all_goals exact gen h2
  · intro o o' idx len a1 a2 a3 wi ht h8 hs hr
    obtain ⟨h1, h2, h3⟩ := hrow hr.1 ht
    unfold teRow at h2
    rw [h3, Bool.false_or] at h2
    obtain ⟨h4, -⟩ := rv_and (rv_and h2).2
    rw [h8] at h4
    cases h4
  · intro pc al st aw' kc ks j2 as rest hr hi hm
    obtain ⟨i, len, a2, a3, wi, ht, hc⟩ := xInv_cr hi
    obtain ⟨h1, h2, h3⟩ := hrow hr.1 ht
    unfold teRow at h2
    rw [h3, Bool.false_or] at h2
    have h2 := (rv_and h2).2
    have e : aw' = aw := hr.2
    subst e
    have fin : eqS j2 = true → Nat.ble p0 (pc + 3) = true → ∃ Q, PCM rvTab rvInf rvRet 316 rvMth j2 as aw' Q ∧ ∀ res, Q res → ∀ kc' ks' : Nat, p0 ≤ pc + 3 ∧ res.2 = aw' := fun q1 q2 => ⟨_, sp_eq q1 as aw', fun res hq _ _ => ⟨rv_ble q2, hq⟩⟩
    rcases hc with ⟨⟨x, rfl⟩, -⟩ | ⟨x, rfl⟩ | ⟨⟨x, rfl⟩, -⟩
    · obtain ⟨-, h2⟩ := rv_and h2
      obtain ⟨q1, q2⟩ := rv_and h2
      exact fin q1 q2
    · obtain ⟨q1, q2⟩ := rv_and h2
      exact fin q1 q2
    · cases h2
  · intro o i len a1 a2 a3 wi ht hi hr
    have e := hr.2
    show Post (o.2.2.1.head?, o.2.2.2.1)
    rw [e]
    exact hP _
/-- laysSets writes its own row alone -/
def lyTr (i : Instr) (a1 a2 : Nat) (p : List (Option Nat)) : List (Option Nat) := match i with
  | .aload_n k => bif Nat.beq k.val 0 then some 0 :: p else []
  | .getfield _ => (match p with
    | some r :: p => (bif Nat.beq r 0 && (Nat.beq a1 12 && Nat.beq a2 20) then some 1 else none) :: p
    | none :: p => none :: p
    | [] => [])
  | .iload_n _ => none :: p
  | .iconst _ => none :: p
  | .bipush _ => none :: p
  | .iadd => none :: p.drop 2
  | .ishl => none :: p.drop 2
  | .ior => none :: p.drop 2
  | .irem => none :: p.drop 2
  | .iaload => none :: p.drop 2
  | .dup2 => (match p with
    | a :: b :: p => a :: b :: a :: b :: p
    | _ => [])
  | _ => []
theorem Mt_d2 {ad : Nat → Nat} {p : List (Option Nat)} {st : List rvV} {v w : rvV} (h : Mt ad p (v :: w :: st)) : Mt ad (p.drop 2) st := fun k r e => by
  rw [List.getElem?_drop] at e
  have := h (2 + k) r e
  rw [show 2 + k = k + 2 from by omega] at this
  exact this
theorem lyTr_ok {O : Nat} {fs : List rvV} {BC BS mL a1 a2 a3 pc kc ks : Nat} {i : Instr} {al st : List rvV} {aw : rvH} {o : rvS} {p : List (Option Nat)} (h0 : al[0]? = some (rf 109)) (e9 : aw[109]? = some (.inl (12, fs))) (hf : fs[20]? = some (rf O)) (hm : Mt (fun n => if n = 0 then 109 else O) p st) (h : rvStep rvTy rvNf rvTxt [] BC BS mL i a1 a2 a3 pc al st aw kc ks = some o) : Mt (fun n => if n = 0 then 109 else O) (lyTr i a1 a2 p) o.2.2.1 := by
  have nn : ∀ {p : List (Option Nat)} {st : List rvV} {v : rvV}, Mt (fun n => if n = 0 then 109 else O) p st → Mt (fun n => if n = 0 then 109 else O) (none :: p) (v :: st) := fun h => Mt_c h (fun r e => by cases e)
  have bin : ∀ {z : rvV} {x y : rvV} {st' : List rvV}, st = x :: y :: st' → o.2.2.1 = z :: st' → Mt (fun n => if n = 0 then 109 else O) (none :: p.drop 2) o.2.2.1 := by
    intro z x y st' e1 e2
    rw [e1] at hm
    rw [e2]
    exact nn (Mt_d2 hm)
  cases i
  case aload_n k =>
    show Mt _ (bif Nat.beq k.val 0 then some 0 :: p else []) o.2.2.1
    cases hb : Nat.beq k.val 0 with
    | false => exact Mt_nil
    | true =>
      have hk := rv_beq hb
      simp only [rvStep] at h
      rw [hk, h0] at h
      have h := Option.some.inj h
      rw [← h]
      exact Mt_c hm (fun r e => by rw [← Option.some.inj e]; rfl)
  case getfield idx =>
    cases p with
    | nil => exact Mt_nil
    | cons x p =>
      have hst : ∃ v st', st = v :: st' ∧ ∃ w, o.2.2.1 = w :: st' ∧ (v = rf 109 → a1 = 12 → a2 = 20 → w = rf O) := by
        simp only [rvStep] at h
        split at h
        · rename_i k st'
          split at h
          · rename_i ci fs' e
            obtain ⟨hc, h⟩ := rv_bifo h
            have hc := rv_beq hc
            split at h
            · rename_i w e2
              cases h
              refine ⟨_, st', rfl, w, rfl, fun e3 e4 e5 => ?_⟩
              have e3 : k = 109 := (Prod.mk.inj (Sum.inr.inj e3)).2
              subst e3
              rw [e9] at e
              have e := Option.some.inj e
              have e := Sum.inl.inj e
              have e6 := (Prod.mk.inj e).2
              rw [← e6, e5, hf] at e2
              exact (Option.some.inj e2).symm
            · cases h
          · cases h
        · rename_i jj st'
          obtain ⟨hc, rfl⟩ := rv_bif h
          exact ⟨_, st', rfl, _, rfl, fun e3 => by cases (Prod.mk.inj (Sum.inr.inj e3)).1⟩
        · cases h
      obtain ⟨v, st', rfl, w, hw, hk⟩ := hst
      rw [hw]
      have hm' := Mt_tl hm
      cases x with
      | none => exact nn hm'
      | some r0 =>
        show Mt _ ((bif Nat.beq r0 0 && (Nat.beq a1 12 && Nat.beq a2 20) then some 1 else none) :: p) (w :: st')
        refine Mt_c hm' (fun r e => ?_)
        cases hb : (Nat.beq r0 0 && (Nat.beq a1 12 && Nat.beq a2 20)) with
        | false => rw [hb] at e; cases e
        | true =>
          rw [hb, cond_true] at e
          have e := Option.some.inj e
          subst e
          obtain ⟨b1, b2⟩ := rv_and hb
          obtain ⟨b2, b3⟩ := rv_and b2
          have b1 := rv_beq b1
          subst b1
          have hv : v = rf 109 := Option.some.inj (hm 0 0 rfl)
          exact hk hv (rv_beq b2) (rv_beq b3)
  case iload_n k =>
    have hst : ∃ w, o.2.2.1 = w :: st := by
      simp only [rvStep] at h
      split at h
      · cases h; exact ⟨_, rfl⟩
      · cases h
    obtain ⟨w, hw⟩ := hst
    rw [hw]
    exact nn hm
  case iconst z =>
    have hst : ∃ w, o.2.2.1 = w :: st := by
      obtain ⟨-, rfl⟩ := rv_bif h
      exact ⟨_, rfl⟩
    obtain ⟨w, hw⟩ := hst
    rw [hw]
    exact nn hm
  case bipush z =>
    have hst : ∃ w, o.2.2.1 = w :: st := by
      obtain ⟨-, rfl⟩ := rv_bif h
      exact ⟨_, rfl⟩
    obtain ⟨w, hw⟩ := hst
    rw [hw]
    exact nn hm
  case iadd =>
    simp only [rvStep] at h
    split at h
    · cases h; exact bin rfl rfl
    · cases h
  case ishl =>
    simp only [rvStep] at h
    split at h
    · cases h; exact bin rfl rfl
    · cases h
  case ior =>
    simp only [rvStep] at h
    split at h
    · cases h; exact bin rfl rfl
    · cases h
  case irem =>
    simp only [rvStep] at h
    split at h
    · obtain ⟨-, rfl⟩ := rv_bif h; exact bin rfl rfl
    · cases h
  case iaload =>
    have hst : ∃ x y z st', st = x :: y :: st' ∧ o.2.2.1 = z :: st' := by
      simp only [rvStep] at h
      split at h
      · split at h
        · split at h
          · cases h; exact ⟨_, _, _, _, rfl, rfl⟩
          · cases h
        · cases h
      · split at h
        · split at h
          · obtain ⟨-, rfl⟩ := rv_bif h; exact ⟨_, _, _, _, rfl, rfl⟩
          · cases h
        · cases h
      · split at h
        · split at h
          · obtain ⟨-, rfl⟩ := rv_bif h; exact ⟨_, _, _, _, rfl, rfl⟩
          · cases h
        · cases h
      · cases h
    obtain ⟨x, y, z, st', e1, e2⟩ := hst
    exact bin e1 e2
  case dup2 =>
    have hst : ∃ x y st', st = x :: y :: st' ∧ o.2.2.1 = x :: y :: x :: y :: st' := by
      simp only [rvStep] at h
      split at h
      · revert h
        rename_i v w st'
        cases (rvIsL v || rvIsL w) with
        | true => intro h; cases h
        | false => intro h; cases h; exact ⟨_, _, _, rfl, rfl⟩
      · cases h
    obtain ⟨x, y, st', rfl, e2⟩ := hst
    rw [e2]
    match p, hm with
    | [], _ => exact Mt_nil
    | [_], _ => exact Mt_nil
    | a :: b :: p, hm =>
      have ha : ∀ r, a = some r → x = rf (if r = 0 then 109 else O) := fun r e => Option.some.inj (hm 0 r (by rw [e]; rfl))
      have hb : ∀ r, b = some r → y = rf (if r = 0 then 109 else O) := fun r e => Option.some.inj (hm 1 r (by rw [e]; rfl))
      exact Mt_c (Mt_c hm hb) ha
  all_goals exact Mt_nil
def lyL : List (Nat × List (Option Nat)) := [(1, [none]), (3, [none]), (5, [none, none]), (9, [some 0]), (12, [some 1]), (13, [none, some 1]), (14, [none, none, some 1]), (22, [none]), (24, [none]), (25, [some 0, none]), (28, [none, none]), (29, [none, none, none]), (30, [none, none]), (34, [some 0]), (35, [none, some 0]), (45, [some 0]), (48, [some 1]), (49, [none, some 1]), (50, [none, some 1, none, some 1]), (51, [none, none, some 1]), (52, [none, none, none, some 1]), (53, [none, none, none, none, some 1]), (54, [none, none, none, some 1]), (55, [none, none, some 1]), (57, [some 0]), (60, [some 1]), (61, [none, some 1]), (62, [some 0, none, some 1]), (65, [none, none, some 1]), (67, [none, none, none, some 1]), (68, [none, none, none, none, some 1]), (69, [none, none, none, some 1]), (70, [none, none, some 1]), (71, [none, some 1]), (72, [none, some 1, none, some 1]), (73, [none, none, some 1]), (74, [none, none, none, some 1]), (75, [none, none, none, none, some 1]), (76, [none, none, none, some 1]), (77, [none, none, some 1]), (79, [some 0]), (82, [some 1]), (83, [none, some 1]), (84, [none, none, some 1]), (85, [none, none, none, some 1]), (86, [none, none, some 1]), (87, [none, some 1]), (88, [none, some 1, none, some 1]), (89, [none, none, some 1]), (90, [none, none, none, some 1]), (91, [none, none, none, none, some 1]), (92, [none, none, none, some 1]), (93, [none, none, some 1]), (95, [some 0]), (98, [some 1]), (99, [none, some 1]), (100, [some 0, none, some 1]), (103, [none, none, some 1]), (105, [none, none, none, some 1]), (106, [none, none, none, none, some 1]), (107, [none, none, none, some 1]), (108, [none, none, some 1]), (109, [none, some 1]), (110, [none, some 1, none, some 1]), (111, [none, none, some 1]), (112, [none, none, none, some 1]), (113, [none, none, none, none, some 1]), (114, [none, none, none, some 1]), (115, [none, none, some 1]), (117, [none]), (119, [none]), (120, [some 0, none]), (123, [none, none]), (124, [none, none, none]), (125, [none, none]), (129, [some 0]), (132, [none]), (134, [none, none]), (135, [none, none, none]), (136, [none, none]), (137, [none]), (138, [none, none]), (145, [some 0]), (148, [some 1]), (149, [none, some 1]), (150, [some 0, none, some 1]), (153, [none, none, some 1]), (154, [none, none, none, some 1]), (155, [none, none, some 1]), (156, [none, some 1]), (157, [none, none, some 1]), (158, [none, some 1]), (159, [none, some 1, none, some 1]), (160, [none, none, some 1]), (161, [none, none, none, some 1]), (162, [none, none, none, none, some 1]), (163, [none, none, none, some 1]), (164, [none, none, some 1])]
def lyP (pc : Nat) : List (Option Nat) := match lyL.find? (fun q => Nat.beq q.1 pc) with
  | some q => q.2
  | none => []
def lyRow (pc : Nat) (e : rvE) : Bool := match e with
  | (.invokevirtual _, _, a1, _) => eqS a1 && (lyP (pc + 3)).isEmpty
  | (.invokestatic _, _, a1, _, a3, _) => !Nat.beq a3 8 && (eqS a1 && (lyP (pc + 3)).isEmpty)
  | (.invokespecial _, _) => false
  | (.ireturn, _) => true
  | (.lreturn, _) => true
  | (.return_, _) => true
  | (.iastore, _) => decide ((lyP pc)[2]? = some (some 1)) && (lyP (pc + 1)).isEmpty
  | (i, _, a1, a2, _) => hpB i && (lcB i && sqB i pc (fun t => (lyP t).isEmpty || decide (lyP t = lyTr i a1 a2 (lyP pc))))
theorem ly_rows : (rvEn 29).all (fun ch => ch.2.all (fun q => lyRow q.1 q.2)) = true := by decide +kernel
theorem ly_nx : (rvEn 29).all (fun ch => ch.2.all (fun q => noX q.2)) = true := by decide +kernel
theorem sp_lays {O : Nat} {fs : List rvV} {aw : rvH} (e9 : aw[109]? = some (.inl (12, fs))) (hf : fs[20]? = some (rf O)) (h1 : O ≠ 109) (h2 : O ≠ 111) : PCM rvTab rvInf rvRet 316 rvMth 29 [rf 109] aw (fun res => res.2[109]? = aw[109]? ∧ res.2[111]? = aw[111]?) := by
  refine PCM_of (fun _ _ => ?_)
  have hrow : ∀ {pc : Nat} {e : rvE}, rvTab 29 pc = some e → lyRow pc e = true := fun ht => rows_all (f := lyRow) ly_rows ht
  refine T_run (R := fun o => o.2.1[0]? = some (rf 109) ∧ o.2.2.2.1[109]? = aw[109]? ∧ o.2.2.2.1[111]? = aw[111]? ∧ Mt (fun n => if n = 0 then 109 else O) (lyP o.1) o.2.2.1) (noX_ok ly_nx) ?_ ?_ ?_ ?_ _ ⟨rfl, rfl, rfl, Mt_e (by show (lyP 0).isEmpty = true; decide)⟩
  · intro o o' i len a1 a2 a3 wi ht hs hr
    obtain ⟨r0, r1, r2, r3⟩ := hr
    have h := hrow ht
    have gen : (hpB i && (lcB i && sqB i o.1 (fun t => (lyP t).isEmpty || decide (lyP t = lyTr i a1 a2 (lyP o.1))))) = true → o'.2.1[0]? = some (rf 109) ∧ o'.2.2.2.1[109]? = aw[109]? ∧ o'.2.2.2.1[111]? = aw[111]? ∧ Mt (fun n => if n = 0 then 109 else O) (lyP o'.1) o'.2.2.1 := by
      intro h
      obtain ⟨g1, h⟩ := rv_and h
      obtain ⟨g2, g3⟩ := rv_and h
      have e := (tStep hs).2.2 g1
      refine ⟨(tStep hs).2.1 g2 109 r0, by rw [e]; exact r1, by rw [e]; exact r2, ?_⟩
      rcases rv_or' ((tStep hs).1 _ g3) with g | g
      · exact Mt_e g
      · rw [of_decide_eq_true g]
        exact lyTr_ok r0 (r1.trans e9) hf r3 hs
    cases i
    case invokevirtual => cases hs
    case invokestatic => cases hs
    case invokespecial => cases hs
    case ireturn => cases hs
    case lreturn => cases hs
    case return_ => cases hs
    case iastore =>
      have h : (decide ((lyP o.1)[2]? = some (some 1)) && (lyP (o.1 + 1)).isEmpty) = true := h
      obtain ⟨g1, g2⟩ := rv_and h
      have e2 := r3 2 1 (of_decide_eq_true g1)
      simp only [rvStep] at hs
      split at hs
      · rename_i v x k st hst
        rw [hst] at e2
        have e2 : (.inr (2, k) : rvV) = rf O := Option.some.inj e2
        have e2 : k = O := (Prod.mk.inj (Sum.inr.inj e2)).2
        subst e2
        split at hs
        · rename_i n d ov e3
          split at hs
          · cases hs
            exact ⟨r0, by show (o.2.2.2.1.set _ _)[109]? = _; rw [List.getElem?_set_ne h1]; exact r1, by show (o.2.2.2.1.set _ _)[111]? = _; rw [List.getElem?_set_ne h2]; exact r2, Mt_e g2⟩
          · cases hs
        · cases hs
      · cases hs
    all_goals exact gen h
  · intro o o' idx len a1 a2 a3 wi ht h8 hs hr
    have h : (!Nat.beq a3 8 && (eqS a1 && (lyP (o.1 + 3)).isEmpty)) = true := hrow ht
    obtain ⟨h4, -⟩ := rv_and h
    rw [h8] at h4
    cases h4
  · intro pc al st aw' kc ks j2 as rest hr hi hm
    obtain ⟨r0, r1, r2, r3⟩ := hr
    obtain ⟨i, len, a2, a3, wi, ht, hc⟩ := xInv_cr hi
    have h := hrow ht
    have fin : eqS j2 = true → (lyP (pc + 3)).isEmpty = true → ∃ Q, PCM rvTab rvInf rvRet 316 rvMth j2 as aw' Q ∧ ∀ res, Q res → ∀ kc' ks' : Nat, al[0]? = some (rf 109) ∧ res.2[109]? = aw[109]? ∧ res.2[111]? = aw[111]? ∧ Mt (fun n => if n = 0 then 109 else O) (lyP (pc + 3)) (res.1.toList ++ rest) := fun q1 q2 => ⟨_, sp_eq q1 as aw', fun res hq _ _ => ⟨r0, by rw [hq]; exact r1, by rw [hq]; exact r2, Mt_e q2⟩⟩
    rcases hc with ⟨⟨x, rfl⟩, -⟩ | ⟨x, rfl⟩ | ⟨⟨x, rfl⟩, -⟩
    · have h : (!Nat.beq a3 8 && (eqS j2 && (lyP (pc + 3)).isEmpty)) = true := h
      obtain ⟨-, h2⟩ := rv_and h
      obtain ⟨q1, q2⟩ := rv_and h2
      exact fin q1 q2
    · have h : (eqS j2 && (lyP (pc + 3)).isEmpty) = true := h
      obtain ⟨q1, q2⟩ := rv_and h
      exact fin q1 q2
    · cases h
  · intro o i len a1 a2 a3 wi ht hi hr
    exact ⟨hr.2.1, hr.2.2.1⟩
theorem le_te : (rvEn 51).all (fun ch => ch.2.all (fun q => teRow 4 q.1 q.2)) = true := by decide +kernel
theorem le_nx : (rvEn 51).all (fun ch => ch.2.all (fun q => noX q.2)) = true := by decide +kernel
theorem sp_least {O : Nat} {fs : List rvV} {aw : rvH} (e9 : aw[109]? = some (.inl (12, fs))) (hf : fs[20]? = some (rf O)) (h1 : O ≠ 109) (h2 : O ≠ 111) (m : rvV) : PCM rvTab rvInf rvRet 316 rvMth 51 [rf 109, m] aw (fun res => res.2[109]? = aw[109]? ∧ res.2[111]? = aw[111]?) := by
  refine PCM_of (fun _ _ => ?_)
  have hj : 51 < 316 := by decide
  have key : ∀ al : List rvV, al[0]? = some (rf 109) → Pr rvTab rvInf rvRet 316 rvMth 51 (fun res => res.2[109]? = aw[109]? ∧ res.2[111]? = aw[111]?) 0 al [] aw := by
    intro al h0
    refine Pr_ld 1 hj rfl rfl h0 rfl ?_
    refine Pr_callV rfl (Or.inl ⟨_, rfl⟩) rfl rfl (sp_lays e9 hf h1 h2) (fun res hres => ?_)
    exact te_run le_te le_nx (fun r => hres)
  exact key _ rfl 0 0
