/-! The neutral methods; the methods above them (by hand). -/
def ntS (n : Nat) : Bool := !([17, 58, 75, 86, 129, 130, 185, 235, 236, 254, 255, 256, 257, 259, 261, 265, 268, 270, 272, 273, 301, 303, 310, 311, 316].any (Nat.beq n))
def ntRow (e : rvE) : Bool := hmOk e.1 e.2.2.1 e.2.2.2.1 && (match e with
  | (.invokestatic _, _, a1, _, a3, _) => Nat.beq a3 8 || ((rvMth a1).isSome || ntS a1)
  | (.invokevirtual _, _, a1, _, _, _) => (rvMth a1).isSome || ntS a1
  | (.invokespecial _, _, a1, _, a3, _) => Nat.beq a3 9 || ((rvMth a1).isSome || ntS a1)
  | _ => true)
def ntTb (j : Nat) : Bool := !ntS j || (rvEn j).all (fun ch => ch.2.all (fun q => ntRow q.2))
theorem ntTb_0 : (List.range 80).all ntTb = true := by decide +kernel
theorem ntTb_1 : (List.range 80).all (fun j => ntTb (j + 80)) = true := by decide +kernel
theorem ntTb_2 : (List.range 80).all (fun j => ntTb (j + 160)) = true := by decide +kernel
theorem ntTb_3 : (List.range 76).all (fun j => ntTb (j + 240)) = true := by decide +kernel
theorem ntTb_all {j : Nat} (h : j < 316) : ntTb j = true := by
  by_cases h1 : j < 80
  · exact List.all_eq_true.mp ntTb_0 j (List.mem_range.mpr h1)
  · by_cases h2 : j < 160
    · have := List.all_eq_true.mp ntTb_1 (j - 80) (List.mem_range.mpr (by omega))
      rwa [show j - 80 + 80 = j by omega] at this
    · by_cases h3 : j < 240
      · have := List.all_eq_true.mp ntTb_2 (j - 160) (List.mem_range.mpr (by omega))
        rwa [show j - 160 + 160 = j by omega] at this
      · have := List.all_eq_true.mp ntTb_3 (j - 240) (List.mem_range.mpr (by omega))
        rwa [show j - 240 + 240 = j by omega] at this
theorem nt_rows : ∀ (j pc : Nat) (i : Instr) (len a1 a2 a3 wi : Nat), j < 316 → ntS j = true → rvTab j pc = some (i, len, a1, a2, a3, wi) → hmOk i a1 a2 = true ∧ (((∃ x, i = .invokestatic x) ∧ Nat.beq a3 8 = false) ∨ (∃ x, i = .invokevirtual x) ∨ ((∃ x, i = .invokespecial x) ∧ Nat.beq a3 9 = false) → rvMth a1 = none → ntS a1 = true) := by
  intro j pc i len a1 a2 a3 wi hj hs ht
  have h := ntTb_all hj
  have h : (!ntS j || (rvEn j).all (fun ch => ch.2.all (fun q => ntRow q.2))) = true := h
  rw [hs] at h
  have h := rows_all (f := fun _ e => ntRow e) h ht
  obtain ⟨h1, h2⟩ := rv_and h
  refine ⟨h1, fun hc hm => ?_⟩
  have key : ∀ b : Bool, (b || ((rvMth a1).isSome || ntS a1)) = true → b = false → ntS a1 = true := by
    intro b hb e
    rw [e, hm] at hb
    exact hb
  rcases hc with ⟨⟨x, rfl⟩, hc⟩ | ⟨x, rfl⟩ | ⟨⟨x, rfl⟩, hc⟩
  · exact key _ h2 hc
  · exact key false h2 rfl
  · exact key _ h2 hc
theorem sp_neutral {j : Nat} (hj : ntS j = true) (as : List rvV) (aw : rvH) : PCM rvTab rvInf rvRet 316 rvMth j as aw (fun res => Fr aw res.2) := fun P hP => Ev_neutral nt_rows hj hP
/-! The methods above: places of the stack that are known, and whether the trial has the life's town. -/
def mvTr (i : Instr) (a1 a2 : Nat) (p : List (Option Nat)) : List (Option Nat) := match i with
  | .aload_n k => bif Nat.beq k.val 0 then some 0 :: p else []
  | .getfield _ => (match p with
    | some r :: p => (bif Nat.beq r 0 && Nat.beq a1 11 then (bif Nat.beq a2 1 then some 1 else bif Nat.beq a2 2 then some 2 else bif Nat.beq a2 3 then some 3 else none) else none) :: p
    | none :: p => none :: p
    | [] => [])
  | .iload _ => none :: p
  | .iload_n _ => none :: p
  | .iconst _ => none :: p
  | .bipush _ => none :: p
  | .sipush _ => none :: p
  | _ => []
def Mt (ad : Nat → Nat) (p : List (Option Nat)) (st : List rvV) : Prop := ∀ (k r : Nat), p[k]? = some (some r) → st[k]? = some (rf (ad r))
theorem Mt_nil {ad : Nat → Nat} {st : List rvV} : Mt ad [] st := fun k r h => by cases h
theorem Mt_c {ad : Nat → Nat} {p : List (Option Nat)} {st : List rvV} {v : rvV} {x : Option Nat} (h : Mt ad p st) (hx : ∀ r, x = some r → v = rf (ad r)) : Mt ad (x :: p) (v :: st) := fun k r e => by
  match k, e with
  | 0, e =>
    have e : some x = some (some r) := e
    show some v = _
    rw [hx r (Option.some.inj e)]
  | k + 1, e => exact h k r e
theorem Mt_tl {ad : Nat → Nat} {p : List (Option Nat)} {st : List rvV} {v : rvV} {x : Option Nat} (h : Mt ad (x :: p) (v :: st)) : Mt ad p st := fun k r e => h (k + 1) r e
theorem mvTr_ok {ad : Nat → Nat} {sc : List (Int × Int)} {BC BS mL a1 a2 a3 pc kc ks : Nat} {i : Instr} {al st : List rvV} {aw : rvH} {o : rvS} {p : List (Option Nat)} (h0 : al[0]? = some (rf (ad 0))) (hf : ∀ r, 1 ≤ r → r ≤ 3 → hV aw (ad 0) r (rf (ad r))) (hm : Mt ad p st) (h : rvStep rvTy rvNf rvTxt sc BC BS mL i a1 a2 a3 pc al st aw kc ks = some o) : Mt ad (mvTr i a1 a2 p) o.2.2.1 := by
  cases i
  case aload_n k =>
    show Mt ad (bif Nat.beq k.val 0 then some 0 :: p else []) o.2.2.1
    cases hb : Nat.beq k.val 0 with
    | false => exact Mt_nil
    | true =>
      have hk := rv_beq hb
      simp only [rvStep] at h
      rw [hk, h0] at h
      have h := Option.some.inj h
      rw [← h]
      exact Mt_c hm (fun r e => by rw [← Option.some.inj e])
  case getfield idx =>
    cases p with
    | nil => exact Mt_nil
    | cons x p =>
      have hst : ∃ v st', st = v :: st' ∧ ∃ w, o.2.2.1 = w :: st' ∧ (v = rf (ad 0) → a1 = 11 → hV aw (ad 0) a2 w ∨ prF 11 a2 = false) := by
        simp only [rvStep] at h
        split at h
        · rename_i k st'
          split at h
          · rename_i ci fs e
            obtain ⟨hc, h⟩ := rv_bifo h
            have hc := rv_beq hc
            split at h
            · rename_i w e2
              cases h
              refine ⟨_, st', rfl, w, rfl, fun e3 e4 => ?_⟩
              have e3 : k = ad 0 := (Prod.mk.inj (Sum.inr.inj e3)).2
              subst e3
              cases hp : prF 11 a2 with
              | false => exact Or.inr rfl
              | true =>
                left
                exact hV_fs e e2 (by rw [hc, e4]; exact hp)
            · cases h
          · cases h
        · rename_i jj st'
          obtain ⟨hc, rfl⟩ := rv_bif h
          exact ⟨_, st', rfl, _, rfl, fun e3 => by cases (Prod.mk.inj (Sum.inr.inj e3)).1⟩
        · cases h
      obtain ⟨v, st', rfl, w, hw, hk⟩ := hst
      rw [hw]
      have hm' := Mt_tl hm
      cases x with
      | none => exact Mt_c (x := none) hm' (fun r e => by cases e)
      | some r0 =>
        show Mt ad ((bif Nat.beq r0 0 && Nat.beq a1 11 then (bif Nat.beq a2 1 then some 1 else bif Nat.beq a2 2 then some 2 else bif Nat.beq a2 3 then some 3 else none) else none) :: p) (w :: st')
        have hv : v = rf (ad r0) := Option.some.inj (hm 0 r0 rfl)
        refine Mt_c hm' (fun r e => ?_)
        cases hb : (Nat.beq r0 0 && Nat.beq a1 11) with
        | false => rw [hb] at e; cases e
        | true =>
          rw [hb, cond_true] at e
          obtain ⟨b1, b2⟩ := rv_and hb
          have b1 := rv_beq b1
          have b2 := rv_beq b2
          subst b1
          have hk := hk hv b2
          have fin : ∀ q, 1 ≤ q → q ≤ 3 → a2 = q → w = rf (ad q) := by
            intro q q1 q2 e
            subst e
            rcases hk with hk | hk
            · exact hV_one hk (hf _ q1 q2)
            · have : prF 11 a2 = true := by
                have : a2 = 1 ∨ a2 = 2 ∨ a2 = 3 := by omega
                rcases this with rfl | rfl | rfl <;> rfl
              rw [this] at hk; cases hk
          cases c1 : Nat.beq a2 1 with
          | true =>
            rw [c1, cond_true] at e
            rw [← Option.some.inj e]
            exact fin 1 (by omega) (by omega) (rv_beq c1)
          | false =>
            rw [c1, cond_false] at e
            cases c2 : Nat.beq a2 2 with
            | true =>
              rw [c2, cond_true] at e
              rw [← Option.some.inj e]
              exact fin 2 (by omega) (by omega) (rv_beq c2)
            | false =>
              rw [c2, cond_false] at e
              cases c3 : Nat.beq a2 3 with
              | true =>
                rw [c3, cond_true] at e
                rw [← Option.some.inj e]
                exact fin 3 (by omega) (by omega) (rv_beq c3)
              | false => rw [c3] at e; cases e
  case iload k =>
    simp only [rvStep] at h
    split at h
    · cases h; exact Mt_c hm (fun r e => by cases e)
    · cases h
  case iload_n k =>
    simp only [rvStep] at h
    split at h
    · cases h; exact Mt_c hm (fun r e => by cases e)
    · cases h
  case iconst n => obtain ⟨hc, rfl⟩ := rv_bif h; exact Mt_c hm (fun r e => by cases e)
  case bipush n => obtain ⟨hc, rfl⟩ := rv_bif h; exact Mt_c hm (fun r e => by cases e)
  case sipush n => obtain ⟨hc, rfl⟩ := rv_bif h; exact Mt_c hm (fun r e => by cases e)
  all_goals exact Mt_nil
