/-! The new town's class; old towns' rows behind the class's reader (by hand). -/
def rcSq (pc : Nat) (e : rvE) : Bool := Nat.blt pc 4 || (match e.1 with
  | .ireturn => true
  | .lreturn => true
  | .return_ => true
  | .invokevirtual _ => true
  | .invokestatic _ => true
  | .invokespecial _ => true
  | i => nw11 i e.2.2.1 && sqB i pc (fun t => Nat.ble 4 t))
theorem rc_rows : (rvEn 17).all (fun ch => ch.2.all (fun q => rcSq q.1 q.2)) = true := by decide +kernel
theorem rc_call : (rvEn 17).all (fun ch => ch.2.all (fun q => match q.2 with
  | (.invokevirtual _, _) => Nat.ble 4 q.1
  | (.invokestatic _, _) => Nat.ble 4 q.1
  | (.invokespecial _, _) => Nat.ble 4 q.1
  | (.ireturn, _) => Nat.ble 4 q.1
  | (.lreturn, _) => Nat.ble 4 q.1
  | (.return_, _) => Nat.ble 4 q.1
  | _ => Nat.ble 4 q.1 || (Nat.beq q.1 0 || Nat.beq q.1 1))) = true := by decide +kernel
theorem sp_readCls (as : List rvV) (aw : rvH) : PCM rvTab rvInf rvRet 316 rvMth 17 as aw (fun res => ∃ fs, res.2[aw.length]? = some (.inl (10, fs))) := by
  refine PCM_of (fun _ _ => ?_)
  have fin : ∀ {gs : List rvV} {aw' : rvH}, Fw (aw ++ [.inl (10, gs)]) aw' → ∃ fs, aw'[aw.length]? = some (.inl (10, fs)) := by
    intro gs aw' hw
    exact c10_Fw hw ⟨gs, by rw [List.getElem?_append_right (Nat.le_refl _), Nat.sub_self]; rfl⟩
  refine T_run (R := fun o => (o.1 = 0 ∧ o.2.2.2.1 = aw) ∨ (o.1 = 1 ∧ o.2.2.2.1 = aw) ∨ (4 ≤ o.1 ∧ ∃ gs, Fw (aw ++ [.inl (10, gs)]) o.2.2.2.1)) (noX_ok rd_nx) ?_ ?_ ?_ ?_ _ (Or.inl ⟨rfl, rfl⟩)
  · intro o o' i len a1 a2 a3 wi ht hs hr
    rcases hr with ⟨e1, e2⟩ | ⟨e1, e2⟩ | ⟨e1, gs, e2⟩
    · rw [e1] at ht
      have ht0 : rvTab 17 0 = some (.aload_n 0, 1, 0, 0, 0, 0) := rfl
      obtain ⟨rfl, -, rfl, rfl, rfl, -⟩ := ev_row ht0 ht
      have hz := tStep hs
      refine Or.inr (Or.inl ⟨?_, by rw [hz.2.2 rfl, e2]⟩)
      have := hz.1 (fun t => Nat.beq t 1) (by rw [e1]; rfl)
      exact rv_beq this
    · rw [e1] at ht
      have ht0 : rvTab 17 1 = some (.new 15, 3, 10, 0, 0, (match rvTab 17 1 with
        | some e => e.2.2.2.2.2
        | none => 0)) := rfl
      obtain ⟨rfl, -, rfl, rfl, rfl, -⟩ := ev_row ht0 ht
      simp only [rvStep] at hs
      obtain ⟨-, rfl⟩ := rv_bif hs
      refine Or.inr (Or.inr ⟨by rw [e1]; exact Nat.le_refl _, (List.range (rvNf 10)).map (fun k => rvDef (rvTy 10 k)), ?_⟩)
      rw [e2]
      exact Fw_refl _
    · have hq := rows_all (f := rcSq) rc_rows ht
      rcases rv_or' hq with h | h
      · have := rv_blt h
        omega
      · cases i
        case invokevirtual x => exact absurd hs (fun q => ev_no (Or.inr (Or.inl ⟨_, rfl⟩)) q)
        case invokestatic x => exact absurd hs (fun q => ev_no (Or.inl ⟨_, rfl⟩) q)
        case invokespecial x => exact absurd hs (fun q => ev_no (Or.inr (Or.inr (Or.inl ⟨_, rfl⟩))) q)
        case ireturn => exact absurd hs (fun q => ev_no (Or.inr (Or.inr (Or.inr (Or.inl rfl)))) q)
        case lreturn => exact absurd hs (fun q => ev_no (Or.inr (Or.inr (Or.inr (Or.inr (Or.inl rfl))))) q)
        case return_ => exact absurd hs (fun q => ev_no (Or.inr (Or.inr (Or.inr (Or.inr (Or.inr rfl))))) q)
        all_goals
          obtain ⟨h1, h2⟩ := rv_and h
          exact Or.inr (Or.inr ⟨rv_ble ((tStep hs).1 _ h2), gs, Fw_trans e2 (fwStep h1 hs)⟩)
  · intro o o' idx len a1 a2 a3 wi ht h8 hs hr
    have hq := rows_all (f := fun pc e => match e with
      | (.invokevirtual _, _) => Nat.ble 4 pc
      | (.invokestatic _, _) => Nat.ble 4 pc
      | (.invokespecial _, _) => Nat.ble 4 pc
      | (.ireturn, _) => Nat.ble 4 pc
      | (.lreturn, _) => Nat.ble 4 pc
      | (.return_, _) => Nat.ble 4 pc
      | _ => Nat.ble 4 pc || (Nat.beq pc 0 || Nat.beq pc 1)) rc_call ht
    have h4 := rv_ble hq
    obtain ⟨f1, f2, f3⟩ := frCopy hs
    rcases hr with ⟨e1, -⟩ | ⟨e1, -⟩ | ⟨e1, gs, e2⟩
    · omega
    · omega
    · exact Or.inr (Or.inr ⟨by omega, gs, Fw_trans e2 (fwCopy hs)⟩)
  · intro pc al st aw' kc ks j2 as' rest hr hi hm
    obtain ⟨i, len, a2, a3, wi, ht, hc⟩ := xInv_cr hi
    have hq := rows_all (f := fun pc e => match e with
      | (.invokevirtual _, _) => Nat.ble 4 pc
      | (.invokestatic _, _) => Nat.ble 4 pc
      | (.invokespecial _, _) => Nat.ble 4 pc
      | (.ireturn, _) => Nat.ble 4 pc
      | (.lreturn, _) => Nat.ble 4 pc
      | (.return_, _) => Nat.ble 4 pc
      | _ => Nat.ble 4 pc || (Nat.beq pc 0 || Nat.beq pc 1)) rc_call ht
    have h4 : 4 ≤ pc := by
      rcases hc with ⟨⟨x, rfl⟩, -⟩ | ⟨x, rfl⟩ | ⟨⟨x, rfl⟩, -⟩ <;> exact rv_ble hq
    rcases hr with ⟨e1, -⟩ | ⟨e1, -⟩ | ⟨e1, gs, e2⟩
    · have e1 : pc = 0 := e1
      omega
    · have e1 : pc = 1 := e1
      omega
    · exact ⟨_, sp_kinds j2 as' aw', fun res hres kc' ks' => Or.inr (Or.inr ⟨by show 4 ≤ pc + 3; omega, gs, Fw_trans e2 hres⟩)⟩
  · intro o i len a1 a2 a3 wi ht hi hr
    have hq := rows_all (f := fun pc e => match e with
      | (.invokevirtual _, _) => Nat.ble 4 pc
      | (.invokestatic _, _) => Nat.ble 4 pc
      | (.invokespecial _, _) => Nat.ble 4 pc
      | (.ireturn, _) => Nat.ble 4 pc
      | (.lreturn, _) => Nat.ble 4 pc
      | (.return_, _) => Nat.ble 4 pc
      | _ => Nat.ble 4 pc || (Nat.beq pc 0 || Nat.beq pc 1)) rc_call ht
    have h4 : 4 ≤ o.1 := by
      rcases hi with rfl | rfl | rfl <;> exact rv_ble hq
    rcases hr with ⟨e1, -⟩ | ⟨e1, -⟩ | ⟨e1, gs, e2⟩
    · omega
    · omega
    · exact fin e2
