/-! Rows of a method, all at once. -/
theorem rows_all {j : Nat} {f : Nat → rvE → Bool} (h : (rvEn j).all (fun ch => ch.2.all (fun q => f q.1 q.2)) = true) {pc : Nat} {e : rvE} (ht : rvTab j pc = some e) : f pc e = true := by
  have hf : rvFind2 (rvEn j) pc = some e := ht
  obtain ⟨ch, h1, h2⟩ := rvFind2_mem hf
  exact List.all_eq_true.mp (List.all_eq_true.mp h ch h1) _ h2
/-- no call of the machine's own but arraycopy -/
def noX (e : rvE) : Bool := match e with
  | (.invokespecial _, _, _, _, a3, _) => !Nat.beq a3 9
  | (.invokestatic _, _, a1, _, a3, _) => (rvMth a1).isNone || Nat.beq a3 8
  | _ => true
theorem noX_ok {j : Nat} (h : (rvEn j).all (fun ch => ch.2.all (fun q => noX q.2)) = true) : ∀ (pc : Nat) (idx len a1 a2 a3 wi : Nat), (rvTab j pc = some (.invokespecial idx, len, a1, a2, a3, wi) → Nat.beq a3 9 = false) ∧ (rvTab j pc = some (.invokestatic idx, len, a1, a2, a3, wi) → rvMth a1 = none ∨ Nat.beq a3 8 = true) := by
  intro pc idx len a1 a2 a3 wi
  refine ⟨fun ht => ?_, fun ht => ?_⟩
  · have := rows_all (f := fun _ e => noX e) h ht
    have : (!Nat.beq a3 9) = true := this
    cases hb : Nat.beq a3 9 with
    | false => rfl
    | true => rw [hb] at this; cases this
  · have := rows_all (f := fun _ e => noX e) h ht
    have : ((rvMth a1).isNone || Nat.beq a3 8) = true := this
    rcases rv_or' this with e | e
    · left
      cases hm : rvMth a1 with
      | none => rfl
      | some k => rw [hm] at e; cases e
    · exact Or.inr e
/-! Life's copyFrom: what it leaves. -/
def CFp (a b : Nat) (aw aw' : rvH) : Prop := ∃ (fs gs : List rvV) (v : rvV), aw[a]? = some (.inl (2, fs)) ∧ aw[b]? = some (.inl (2, gs)) ∧ gs[0]? = some v ∧ 0 < fs.length ∧ Fr (aw.set a (.inl (2, fs.set 0 v))) aw'
theorem cf_new {a b : Nat} {aw aw' : rvH} {v : rvV} (h : CFp a b aw aw') (hv : hV aw b 0 v) : hV aw' a 0 v := by
  obtain ⟨fs, gs, w, e1, e2, e3, e4, e5⟩ := h
  obtain ⟨c, q1, -, q2⟩ := hv
  rw [e2] at q1
  have q1 := Option.some.inj q1
  subst q1
  have q2 : gs[0]? = some v := q2
  rw [e3] at q2
  have q2 := Option.some.inj q2
  subst q2
  exact hV_Fr e5 (hV_new e1 rfl e4)
theorem cf_old {a b k j : Nat} {aw aw' : rvH} {v : rvV} (h : CFp a b aw aw') (hne : ¬ (k = a ∧ j = 0)) (hv : hV aw k j v) : hV aw' k j v := by
  obtain ⟨fs, gs, w, e1, e2, e3, e4, e5⟩ := h
  exact hV_Fr e5 (hV_put e1 hne hv)
theorem cf_len {a b : Nat} {aw aw' : rvH} (h : CFp a b aw aw') : aw.length ≤ aw'.length := by
  obtain ⟨fs, gs, w, e1, e2, e3, e4, e5⟩ := h
  have := e5.1
  rw [List.length_set] at this
  exact this
def cfRow (pc : Nat) (e : rvE) : Bool := Nat.blt pc 8 || (hmOk e.1 e.2.2.1 e.2.2.2.1 && sqB e.1 pc (fun t => Nat.ble 8 t))
theorem cf_rows : (rvEn 185).all (fun ch => ch.2.all (fun q => cfRow q.1 q.2)) = true := by decide +kernel
theorem cf_nox : (rvEn 185).all (fun ch => ch.2.all (fun q => noX q.2)) = true := by decide +kernel
theorem cf_nocall : (rvEn 185).all (fun ch => ch.2.all (fun q => match q.2 with
  | (.invokevirtual _, _) => false
  | (.invokespecial _, _) => false
  | (.invokestatic _, _, _, _, a3, _) => Nat.beq a3 8 && Nat.ble 8 q.1
  | (.ireturn, _) => Nat.ble 8 q.1
  | (.return_, _) => Nat.ble 8 q.1
  | (.lreturn, _) => Nat.ble 8 q.1
  | _ => true)) = true := by decide +kernel
def cfR (a b : Nat) (aw : rvH) (o : rvS) : Prop := (o.1 = 0 ∧ o.2.1 = [rf a, rf b] ∧ o.2.2.1 = [] ∧ o.2.2.2.1 = aw) ∨ (o.1 = 1 ∧ o.2.1 = [rf a, rf b] ∧ o.2.2.1 = [rf a] ∧ o.2.2.2.1 = aw) ∨ (o.1 = 2 ∧ o.2.1 = [rf a, rf b] ∧ o.2.2.1 = [rf b, rf a] ∧ o.2.2.2.1 = aw) ∨ (o.1 = 5 ∧ (∃ gs v, aw[b]? = some (.inl (2, gs)) ∧ gs[0]? = some v ∧ o.2.2.1 = [v, rf a]) ∧ o.2.2.2.1 = aw) ∨ (8 ≤ o.1 ∧ CFp a b aw o.2.2.2.1)
theorem sp_copyFrom (a b : Nat) (aw : rvH) : PCM rvTab rvInf rvRet 316 rvMth 185 [rf a, rf b] aw (fun res => CFp a b aw res.2) := by
  refine PCM_of (fun _ _ => ?_)
  refine T_run (R := cfR a b aw) (noX_ok cf_nox) ?_ ?_ ?_ ?_ _ (Or.inl ⟨rfl, rfl, rfl, rfl⟩)
  · intro o o' i len a1 a2 a3 wi ht hs hr
    rcases hr with ⟨e1, e2, e3, e4⟩ | ⟨e1, e2, e3, e4⟩ | ⟨e1, e2, e3, e4⟩ | ⟨e1, ⟨gs, v, e2, e3, e5⟩, e4⟩ | ⟨e1, e2⟩
    · rw [e1] at ht
      have hi : (Instr.aload_n 0, 1, 0, 0, 0, 0) = (i, len, a1, a2, a3, wi) := Option.some.inj ht
      obtain ⟨rfl, -⟩ := Prod.mk.inj hi
      rw [e1, e2, e3, e4] at hs
      have hs := Option.some.inj hs
      subst hs
      exact Or.inr (Or.inl ⟨rfl, rfl, rfl, rfl⟩)
    · rw [e1] at ht
      have hi : (Instr.aload_n 1, 1, 0, 0, 0, 0) = (i, len, a1, a2, a3, wi) := Option.some.inj ht
      obtain ⟨rfl, -⟩ := Prod.mk.inj hi
      rw [e1, e2, e3, e4] at hs
      have hs := Option.some.inj hs
      subst hs
      exact Or.inr (Or.inr (Or.inl ⟨rfl, rfl, rfl, rfl⟩))
    · rw [e1] at ht
      have ht0 : rvTab 185 2 = some (Instr.getfield 27, 3, 2, 0, 0, 480) := rfl
      obtain ⟨rfl, -, rfl, rfl, rfl, -⟩ := ev_row ht0 ht
      rw [e3] at hs
      obtain ⟨fs, w, q1, q2, rfl⟩ := j_gf (by decide) hs
      rw [e4] at q1 ⊢
      exact Or.inr (Or.inr (Or.inr (Or.inl ⟨by rw [e1], ⟨fs, w, q1, q2, rfl⟩, rfl⟩)))
    · rw [e1] at ht
      have ht0 : rvTab 185 5 = some (Instr.putfield 27, 3, 2, 0, 0, 480) := rfl
      obtain ⟨rfl, -, rfl, rfl, rfl, -⟩ := ev_row ht0 ht
      rw [e5, e4] at hs
      simp only [rvStep] at hs
      split at hs
      · rename_i ci fs hc
        obtain ⟨hb, rfl⟩ := rv_bif hs
        obtain ⟨hb, hb2⟩ := rv_and hb
        have hci : ci = 2 := rv_beq hb
        subst hci
        have hl : 0 < fs.length := by
          cases fs with
          | nil => have := (rv_and hb2).2; cases this
          | cons x t => exact Nat.succ_pos _
        exact Or.inr (Or.inr (Or.inr (Or.inr ⟨by rw [e1]; exact Nat.le_refl _, ⟨fs, gs, v, hc, e2, e3, hl, Fr_refl _⟩⟩)))
      · cases hs
    · have hr := rows_all (f := cfRow) cf_rows ht
      rcases rv_or' hr with hr | hr
      · have := rv_blt hr; omega
      · obtain ⟨h1, h2⟩ := rv_and hr
        have hz := tStep hs
        have h8 := rv_ble (hz.1 _ h2)
        obtain ⟨fs, gs, w, q1, q2, q3, q4, q5⟩ := e2
        exact Or.inr (Or.inr (Or.inr (Or.inr ⟨h8, fs, gs, w, q1, q2, q3, q4, Fr_trans q5 (frStep h1 hs)⟩)))
  · intro o o' idx len a1 a2 a3 wi ht h8 hs hr
    have hc := rows_all (f := fun pc e => match e with
      | (.invokevirtual _, _) => false
      | (.invokespecial _, _) => false
      | (.invokestatic _, _, _, _, a3, _) => Nat.beq a3 8 && Nat.ble 8 pc
      | (.ireturn, _) => Nat.ble 8 pc
      | (.return_, _) => Nat.ble 8 pc
      | (.lreturn, _) => Nat.ble 8 pc
      | _ => true) cf_nocall ht
    have hc := rv_ble (rv_and hc).2
    obtain ⟨f1, f2, f3⟩ := frCopy hs
    rcases hr with ⟨e1, -⟩ | ⟨e1, -⟩ | ⟨e1, -⟩ | ⟨e1, -⟩ | ⟨e1, e2⟩
    · omega
    · omega
    · omega
    · omega
    · obtain ⟨fs, gs, w, q1, q2, q3, q4, q5⟩ := e2
      exact Or.inr (Or.inr (Or.inr (Or.inr ⟨by omega, fs, gs, w, q1, q2, q3, q4, Fr_trans q5 f1⟩)))
  · intro pc al st aw' kc ks j2 as rest hr hi hm
    obtain ⟨i, len, a2, a3, wi, ht, hc⟩ := xInv_cr hi
    have hq := rows_all (f := fun pc e => match e with
      | (.invokevirtual _, _) => false
      | (.invokespecial _, _) => false
      | (.invokestatic _, _, _, _, a3, _) => Nat.beq a3 8 && Nat.ble 8 pc
      | (.ireturn, _) => Nat.ble 8 pc
      | (.return_, _) => Nat.ble 8 pc
      | (.lreturn, _) => Nat.ble 8 pc
      | _ => true) cf_nocall ht
    rcases hc with ⟨⟨x, rfl⟩, hc⟩ | ⟨x, rfl⟩ | ⟨⟨x, rfl⟩, hc⟩
    · rw [(rv_and hq).1] at hc; cases hc
    · cases hq
    · cases hq
  · intro o i len a1 a2 a3 wi ht hi hr
    have hq := rows_all (f := fun pc e => match e with
      | (.invokevirtual _, _) => false
      | (.invokespecial _, _) => false
      | (.invokestatic _, _, _, _, a3, _) => Nat.beq a3 8 && Nat.ble 8 pc
      | (.ireturn, _) => Nat.ble 8 pc
      | (.return_, _) => Nat.ble 8 pc
      | (.lreturn, _) => Nat.ble 8 pc
      | _ => true) cf_nocall ht
    have h8 : 8 ≤ o.1 := by rcases hi with rfl | rfl | rfl <;> exact rv_ble hq
    rcases hr with ⟨e1, -⟩ | ⟨e1, -⟩ | ⟨e1, -⟩ | ⟨e1, -⟩ | ⟨e1, e2⟩
    · omega
    · omega
    · omega
    · omega
    · exact e2
