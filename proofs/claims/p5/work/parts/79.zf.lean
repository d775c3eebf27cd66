/-! The tables' rows are as exact runs want them. -/
def exRowB (i : Instr) (a1 : Nat) : Bool := match i with
  | .ldc2_w _ => Nat.beq (rvLe (rvLd a1)) a1
  | .anewarray _ => Nat.blt 3 a1
  | _ => true
theorem exRowB_ok {i : Instr} {a1 : Nat} (h : exRowB i a1 = true) : exRow i a1 := by
  unfold exRowB at h
  split at h
  · exact ⟨rvLd a1, (rv_beq h).symm⟩
  · exact rv_blt h
  · rename_i h1 h2
    unfold exRow
    split
    · exact absurd rfl (h1 _)
    · exact absurd rfl (h2 _)
    · trivial
def exTb (j : Nat) : Bool := (rvEn j).all (fun ch => ch.2.all (fun q => exRowB q.2.1 q.2.2.2.1))
theorem exTb_0 : (List.range 80).all exTb = true := by decide +kernel
theorem exTb_1 : (List.range 80).all (fun j => exTb (j + 80)) = true := by decide +kernel
theorem exTb_2 : (List.range 80).all (fun j => exTb (j + 160)) = true := by decide +kernel
theorem exTb_3 : (List.range 76).all (fun j => exTb (j + 240)) = true := by decide +kernel
theorem exTb_all {j : Nat} (h : j < 316) : exTb j = true := by
  by_cases h1 : j < 80
  · exact List.all_eq_true.mp exTb_0 j (List.mem_range.mpr h1)
  · by_cases h2 : j < 160
    · have := List.all_eq_true.mp exTb_1 (j - 80) (List.mem_range.mpr (by omega))
      rwa [show j - 80 + 80 = j by omega] at this
    · by_cases h3 : j < 240
      · have := List.all_eq_true.mp exTb_2 (j - 160) (List.mem_range.mpr (by omega))
        rwa [show j - 160 + 160 = j by omega] at this
      · have := List.all_eq_true.mp exTb_3 (j - 240) (List.mem_range.mpr (by omega))
        rwa [show j - 240 + 240 = j by omega] at this
theorem jw : jRows rvTab 316 := by
  intro j pc i len a1 a2 a3 wi hj hf
  have hf : rvFind2 (rvEn j) pc = some (i, len, a1, a2, a3, wi) := hf
  obtain ⟨ch, h1, h2⟩ := rvFind2_mem hf
  exact exRowB_ok (List.all_eq_true.mp (List.all_eq_true.mp (exTb_all hj) ch h1) _ h2)
