def rvEc (own : String) (cc : ByteArray) (ini : Bool) (q : Nat × rvE) : Bool := match q with
  | (pc, i, len, a1, a2, a3, wi) => decide (decode cc pc = .ok (i, rvSz i len)) && (rvAux own ini i a1 a2 wi && rvCk rvYn rvKd 316 own i a1 a2 a3 wi)
def rvTc (own : String) (cc : ByteArray) (ini : Bool) (l : List (Nat × List (Nat × rvE))) : Bool := l.all (fun ch => ch.2.all (rvEc own cc ini))
theorem rvTc_ok {own : String} {cc : ByteArray} {ini : Bool} {l : List (Nat × List (Nat × rvE))} (h : rvTc own cc ini l = true) : rvTk rvYn rvKd 316 own cc ini (rvFind2 l) := by
  intro pc i len a1 a2 a3 wi hf
  obtain ⟨ch, h1, h2⟩ := rvFind2_mem hf
  have h3 := List.all_eq_true.mp (List.all_eq_true.mp h ch h1) _ h2
  obtain ⟨g1, g2⟩ := rv_and (show (decide (decode cc pc = .ok (i, rvSz i len)) && (rvAux own ini i a1 a2 wi && rvCk rvYn rvKd 316 own i a1 a2 a3 wi)) = true from h3)
  obtain ⟨g2, g3⟩ := rv_and g2
  exact ⟨of_decide_eq_true g1, g2, g3⟩
def rvMb (j : Nat) : Bool := (plainName (rvYn j).cls || (rvMth j).isSome) && (decide ((rvYn j).cls ≠ "java/lang/invoke/MethodHandle") && (decide ((rvYn j).cls ≠ "java/lang/invoke/VarHandle") && (decide ((parseMethodDescriptor (rvYn j).desc).map (fun d => d.parameters.length) = some (rvKd j).2) && (rvCw (rvMi j).1 (rvYn j) (rvInf j).1 (rvRet j) && (rvW (rvMi j).2.1 (.initialized (rvYn j).cls) &&
  (bif Nat.beq (rvKd j).1 0 then rvW (rvMi j).2.2.1 (.instanceMethod (rvYn j)) && (rvW (rvMi j).2.2.2 (.selects (rvYn j).cls (rvYn j) (rvYn j)) && ((Nat.blt (rvInf j).2.2.2.2.2 13 && decide (rvCn (rvInf j).2.2.2.2.2 = (rvYn j).cls)) || (Nat.beq (rvInf j).2.2.2.2.2 100 && decide ((rvYn j).cls = "java/lang/String"))))
   else bif Nat.beq (rvKd j).1 1 then rvW (rvMi j).2.2.1 (.static (rvYn j))
   else Nat.beq (rvKd j).1 2 && (rvW (rvMi j).2.2.1 (.instanceMethod (rvYn j)) && (decide ((rvYn j).name = "<init>") && decide (rvRet j = none)))))))))
theorem rvMb_ok {j : Nat} (h : rvMb j = true) : rvMp rvYn rvCd rvInf rvRet rvKd j := by
  obtain ⟨h1, h⟩ := rv_and h
  obtain ⟨h2, h⟩ := rv_and h
  obtain ⟨h3, h⟩ := rv_and h
  obtain ⟨h4, h⟩ := rv_and h
  obtain ⟨h5, h⟩ := rv_and h
  obtain ⟨h6, h⟩ := rv_and h
  refine ⟨trivial, ⟨of_decide_eq_true h2, of_decide_eq_true h3, of_decide_eq_true h4⟩, rvCw_ok h5, rvW_ok h6, fun e => ?_, fun e => ?_, fun e => ?_⟩
  · rw [e] at h
    obtain ⟨g1, g2⟩ := rv_and (show (rvW (rvMi j).2.2.1 (.instanceMethod (rvYn j)) && (rvW (rvMi j).2.2.2 (.selects (rvYn j).cls (rvYn j) (rvYn j)) && ((Nat.blt (rvInf j).2.2.2.2.2 13 && decide (rvCn (rvInf j).2.2.2.2.2 = (rvYn j).cls)) || (Nat.beq (rvInf j).2.2.2.2.2 100 && decide ((rvYn j).cls = "java/lang/String"))))) = true from h)
    obtain ⟨g2, g3⟩ := rv_and g2
    refine ⟨rvW_ok g1, rvW_ok g2, ?_⟩
    rcases rv_or' g3 with q | q
    · exact Or.inl ⟨rv_blt (rv_and q).1, of_decide_eq_true (rv_and q).2⟩
    · exact Or.inr ⟨rv_beq (rv_and q).1, of_decide_eq_true (rv_and q).2⟩
  · rw [e] at h
    exact rvW_ok (show rvW (rvMi j).2.2.1 (.static (rvYn j)) = true from h)
  · rw [e] at h
    obtain ⟨g1, g2⟩ := rv_and (show (rvW (rvMi j).2.2.1 (.instanceMethod (rvYn j)) && (decide ((rvYn j).name = "<init>") && decide (rvRet j = none))) = true from h)
    obtain ⟨g2, g3⟩ := rv_and g2
    exact ⟨rvW_ok g1, of_decide_eq_true g2, of_decide_eq_true g3⟩
def rvMc (j : Nat) : Bool := match rvMth j with
  | none => true
  | some 0 => decide (rvYn j = Lib.Math.max.name) && (decide (rvCd j = Lib.Math.max.code) && (Nat.beq (rvInf j).1 2 && decide (rvRet j = some .int)))
  | some 1 => decide (rvYn j = Lib.Math.min.name) && (decide (rvCd j = Lib.Math.min.code) && (Nat.beq (rvInf j).1 2 && decide (rvRet j = some .int)))
  | some 2 => decide (rvYn j = Lib.Math.abs.name) && (decide (rvCd j = Lib.Math.abs.code) && (Nat.beq (rvInf j).1 1 && decide (rvRet j = some .int)))
  | _ => false
theorem rvMc_ok {j k : Nat} (h : rvMc j = true) (hk : rvMth j = some k) : rvMk rvYn rvCd rvInf rvRet j k := by
  unfold rvMc at h
  rw [hk] at h
  split at h
  · rename_i e; cases e
  · rename_i e
    cases e
    obtain ⟨h1, h2⟩ := rv_and h
    obtain ⟨h2, h3⟩ := rv_and h2
    obtain ⟨h3, h4⟩ := rv_and h3
    exact Or.inl ⟨rfl, of_decide_eq_true h1, of_decide_eq_true h2, rv_beq h3, of_decide_eq_true h4⟩
  · rename_i e
    cases e
    obtain ⟨h1, h2⟩ := rv_and h
    obtain ⟨h2, h3⟩ := rv_and h2
    obtain ⟨h3, h4⟩ := rv_and h3
    exact Or.inr (Or.inl ⟨rfl, of_decide_eq_true h1, of_decide_eq_true h2, rv_beq h3, of_decide_eq_true h4⟩)
  · rename_i e
    cases e
    obtain ⟨h1, h2⟩ := rv_and h
    obtain ⟨h2, h3⟩ := rv_and h2
    obtain ⟨h3, h4⟩ := rv_and h3
    exact Or.inr (Or.inr ⟨rfl, of_decide_eq_true h1, of_decide_eq_true h2, rv_beq h3, of_decide_eq_true h4⟩)
  · cases h
theorem rvMb_pn {j : Nat} (h : rvMb j = true) (hk : rvMth j = none) : plainName (rvYn j).cls = true := by
  obtain ⟨h1, -⟩ := rv_and h
  rcases rv_or' h1 with e | e
  · exact e
  · rw [hk] at e
    cases e
def rvJc (j : Nat) : Bool := (rvMb j && rvMc j) && rvTc (rvYn j).cls (rvCd j) (decide ((rvYn j).name = "<init>")) (rvEn j)
