/-! The least family that a run's rules close (without the split of an interval), and what its members say of the next step: runs of exact states as a relation. -/
section EV
variable (tab : Nat → Nat → Option rvE) (info : Nat → rvM) (rets : Nat → Option FieldType) (NM : Nat) (mth : Nat → Option Nat)
def xCle (Gd : Nat → (xRes2 → Prop) → rvS → Prop) (Met : Nat → List rvV → rvH → (xRes2 → Prop) → Prop) : Prop :=
  (∀ (j : Nat) (Post : xRes2 → Prop) (o o' : rvS) (i : Instr) (len a1 a2 a3 wi : Nat), j < NM → tab j o.1 = some (i, len, a1, a2, a3, wi) → rvStep rvTy rvNf rvTxt [] (info j).2.2.1 (info j).2.2.2.1 (info j).1 i a1 a2 a3 o.1 o.2.1 o.2.2.1 o.2.2.2.1 o.2.2.2.2.1 o.2.2.2.2.2 = some o' → Gd j Post o' → Gd j Post o) ∧
  (∀ (j : Nat) (Post : xRes2 → Prop) (o o' : rvS) (idx len a1 a2 a3 wi : Nat), j < NM → tab j o.1 = some (.invokestatic idx, len, a1, a2, a3, wi) → Nat.beq a3 8 = true → rvCopy (info j).2.1 (info j).2.2.2.2.1 o.1 o.2.1 o.2.2.1 o.2.2.2.1 o.2.2.2.2.1 o.2.2.2.2.2 = some o' → Gd j Post o' → Gd j Post o) ∧
  (∀ (j : Nat) (Post : xRes2 → Prop) (pc : Nat) (al : List rvV) (i : Nat) (rest : List rvV) (aw : rvH) (kc ks idx len a1 a2 a3 wi : Nat), j < NM → tab j pc = some (.invokespecial idx, len, a1, a2, a3, wi) → Nat.beq a3 9 = true → (Nat.ble 1 (info j).2.1 && Nat.ble (rvWd rest + 12) (info j).2.2.2.2.1) = true → Gd j Post (pc + 3, al, rest, aw, kc, ks) → Gd j Post (pc, al, .inr (2, i) :: rest, aw, kc, ks)) ∧
  (∀ (j : Nat) (Post Q : xRes2 → Prop) (pc : Nat) (al st : List rvV) (aw : rvH) (kc ks j2 : Nat) (as rest : List rvV), j < NM → xInv tab info j pc st aw kc ks j2 as rest → Met j2 as aw Q → (∀ res, Q res → Gd j Post (pc + 3, al, res.1.toList ++ rest, res.2, kc + (info j2).2.2.1, ks + (info j2).2.2.2.1)) → Gd j Post (pc, al, st, aw, kc, ks)) ∧
  (∀ (j : Nat) (Post : xRes2 → Prop) (pc : Nat) (al st : List rvV) (aw : rvH) (kc ks : Nat) (i : Instr) (len a1 a2 a3 wi : Nat), j < NM → tab j pc = some (i, len, a1, a2, a3, wi) → xRetP rets j i st → kc ≤ (info j).2.2.1 → ks ≤ (info j).2.2.2.1 → Post (st.head?, aw) → Gd j Post (pc, al, st, aw, kc, ks)) ∧
  (∀ (j : Nat) (Post : xRes2 → Prop) (pc : Nat) (al : List rvV) (k : Nat) (x y : Int) (rest : List rvV) (aw : rvH) (kc ks idx len a1 a2 a3 wi : Nat), j < NM → tab j pc = some (.invokestatic idx, len, a1, a2, a3, wi) → Nat.beq a3 0 = true → mth a1 = some k → k < 2 → xIn32 x → xIn32 y → 1 ≤ (info j).2.1 → rvWd rest + 13 ≤ (info j).2.2.2.2.1 → kc ≤ (info j).2.2.1 → ks ≤ (info j).2.2.2.1 → Gd j Post (pc + 3, al, .inl (xMm k x y, xMm k x y) :: rest, aw, kc, ks) → Gd j Post (pc, al, .inl (y, y) :: .inl (x, x) :: rest, aw, kc, ks)) ∧
  (∀ (j : Nat) (Post : xRes2 → Prop) (pc : Nat) (al : List rvV) (x : Int) (rest : List rvV) (aw : rvH) (kc ks idx len a1 a2 a3 wi : Nat), j < NM → tab j pc = some (.invokestatic idx, len, a1, a2, a3, wi) → Nat.beq a3 0 = true → mth a1 = some 2 → xIn32 x → 1 ≤ (info j).2.1 → rvWd rest + 13 ≤ (info j).2.2.2.2.1 → kc ≤ (info j).2.2.1 → ks ≤ (info j).2.2.2.1 → (∀ n, xIn32 n → (xIn32 (-x) → n = if 0 ≤ x then x else -x) → Gd j Post (pc + 3, al, .inl (n, n) :: rest, aw, kc, ks)) → Gd j Post (pc, al, .inl (x, x) :: rest, aw, kc, ks)) ∧
  (∀ (j : Nat) (Post : xRes2 → Prop) (as : List rvV) (aw : rvH), j < NM → mth j = none → rvLen (rvEnt as) ≤ (info j).1 → Gd j Post (0, rvEnt as ++ List.replicate ((info j).1 - rvLen (rvEnt as)) rvU, [], aw, 0, 0) → Met j as aw Post)
theorem xClo_e {Gd : Nat → (xRes2 → Prop) → rvS → Prop} {Met : Nat → List rvV → rvH → (xRes2 → Prop) → Prop} (h : xClo tab info rets NM mth Gd Met) : xCle tab info rets NM mth Gd Met := ⟨h.1, h.2.2⟩
def Ev (j : Nat) (P : xRes2 → Prop) (o : rvS) : Prop := ∀ (Gd : Nat → (xRes2 → Prop) → rvS → Prop) (Met : Nat → List rvV → rvH → (xRes2 → Prop) → Prop), xCle tab info rets NM mth Gd Met → Gd j P o
def EvM (j : Nat) (as : List rvV) (aw : rvH) (P : xRes2 → Prop) : Prop := ∀ (Gd : Nat → (xRes2 → Prop) → rvS → Prop) (Met : Nat → List rvV → rvH → (xRes2 → Prop) → Prop), xCle tab info rets NM mth Gd Met → Met j as aw P
theorem Ev_clo : xCle tab info rets NM mth (Ev tab info rets NM mth) (EvM tab info rets NM mth) := by
  refine ⟨?_, ?_, ?_, ?_, ?_, ?_, ?_, ?_⟩
  · intro j P o o' i len a1 a2 a3 wi h1 h2 h3 h4 Gd Met hc
    exact hc.1 j P o o' i len a1 a2 a3 wi h1 h2 h3 (h4 Gd Met hc)
  · intro j P o o' idx len a1 a2 a3 wi h1 h2 h3 h4 h5 Gd Met hc
    exact hc.2.1 j P o o' idx len a1 a2 a3 wi h1 h2 h3 h4 (h5 Gd Met hc)
  · intro j P pc al i rest aw kc ks idx len a1 a2 a3 wi h1 h2 h3 h4 h5 Gd Met hc
    exact hc.2.2.1 j P pc al i rest aw kc ks idx len a1 a2 a3 wi h1 h2 h3 h4 (h5 Gd Met hc)
  · intro j P Q pc al st aw kc ks j2 as rest h1 h2 h3 h4 Gd Met hc
    exact hc.2.2.2.1 j P Q pc al st aw kc ks j2 as rest h1 h2 (h3 Gd Met hc) (fun res hq => h4 res hq Gd Met hc)
  · intro j P pc al st aw kc ks i len a1 a2 a3 wi h1 h2 h3 h4 h5 h6 Gd Met hc
    exact hc.2.2.2.2.1 j P pc al st aw kc ks i len a1 a2 a3 wi h1 h2 h3 h4 h5 h6
  · intro j P pc al k x y rest aw kc ks idx len a1 a2 a3 wi h1 h2 h3 h4 h5 h6 h7 h8 h9 ha hb hd Gd Met hc
    exact hc.2.2.2.2.2.1 j P pc al k x y rest aw kc ks idx len a1 a2 a3 wi h1 h2 h3 h4 h5 h6 h7 h8 h9 ha hb (hd Gd Met hc)
  · intro j P pc al x rest aw kc ks idx len a1 a2 a3 wi h1 h2 h3 h4 h5 h6 h7 h8 h9 hd Gd Met hc
    exact hc.2.2.2.2.2.2.1 j P pc al x rest aw kc ks idx len a1 a2 a3 wi h1 h2 h3 h4 h5 h6 h7 h8 h9 (fun n n1 n2 => hd n n1 n2 Gd Met hc)
  · intro j P as aw h1 h2 h3 h4 Gd Met hc
    exact hc.2.2.2.2.2.2.2 j P as aw h1 h2 h3 (h4 Gd Met hc)
end EV
section EVI
variable {tab : Nat → Nat → Option rvE} {info : Nat → rvM} {rets : Nat → Option FieldType} {NM : Nat} {mth : Nat → Option Nat}
theorem EvM_none {j : Nat} {as : List rvV} {aw : rvH} {P : xRes2 → Prop} (h : EvM tab info rets NM mth j as aw P) : mth j = none ∧ Ev tab info rets NM mth j P (0, rvEnt as ++ List.replicate ((info j).1 - rvLen (rvEnt as)) rvU, [], aw, 0, 0) := by
  have hE := Ev_clo tab info rets NM mth
  exact (h (Ev tab info rets NM mth) (fun j as aw P => EvM tab info rets NM mth j as aw P ∧ mth j = none ∧ Ev tab info rets NM mth j P (0, rvEnt as ++ List.replicate ((info j).1 - rvLen (rvEnt as)) rvU, [], aw, 0, 0)) ⟨hE.1, hE.2.1, hE.2.2.1, fun j P Q pc al st aw kc ks j2 as rest h1 h2 h3 h4 => hE.2.2.2.1 j P Q pc al st aw kc ks j2 as rest h1 h2 h3.1 h4, hE.2.2.2.2.1, hE.2.2.2.2.2.1, hE.2.2.2.2.2.2.1, fun j P as aw h1 h2 h3 h4 => ⟨hE.2.2.2.2.2.2.2 j P as aw h1 h2 h3 h4, h2, h4⟩⟩).2
theorem xInv_one {j pc kc ks j2 j3 : Nat} {st as rest as' rest' : List rvV} {aw : rvH} (h : xInv tab info j pc st aw kc ks j2 as rest) (h' : xInv tab info j pc st aw kc ks j3 as' rest') : j2 = j3 ∧ as = as' ∧ rest = rest' := by
  obtain ⟨i, len, a2, a3, wi, as0, rest0, ht, hp, -, -, -, -, -, hc⟩ := h
  obtain ⟨i', len', a2', a3', wi', as0', rest0', ht', hp', -, -, -, -, -, hc'⟩ := h'
  have e := ht.symm.trans ht'
  injection e with e
  injection e with e1 e
  injection e with e2 e
  injection e with e3 e
  injection e with e4 e
  injection e with e5 e6
  subst e1; subst e3; subst e4; subst e5
  have e7 := hp.symm.trans hp'
  injection e7 with e7
  injection e7 with e8 e9
  subst e8; subst e9
  refine ⟨rfl, ?_⟩
  rcases hc with ⟨⟨x, rfl⟩, -, b1, b2⟩ | ⟨hi, v, b1, b2, -⟩
  · rcases hc' with ⟨-, -, c1, c2⟩ | ⟨hi', -⟩
    · exact ⟨b1.trans c1.symm, b2.symm.trans c2⟩
    · rcases hi' with ⟨y, q⟩ | ⟨⟨y, q⟩, -⟩ <;> cases q
  · rcases hc' with ⟨⟨x, rfl⟩, -⟩ | ⟨-, v', c1, c2, -⟩
    · rcases hi with ⟨y, q⟩ | ⟨⟨y, q⟩, -⟩ <;> cases q
    · have e := b1.symm.trans c1
      injection e with e1 e2
      subst e1; subst e2
      exact ⟨b2.trans c2.symm, rfl⟩
/-- the next step of a member of the least family -/
def EvV (tab : Nat → Nat → Option rvE) (info : Nat → rvM) (rets : Nat → Option FieldType) (NM : Nat) (mth : Nat → Option Nat) (j : Nat) (P : xRes2 → Prop) (o : rvS) : Prop :=
  (∀ (i : Instr) (len a1 a2 a3 wi : Nat) (o' : rvS), tab j o.1 = some (i, len, a1, a2, a3, wi) → rvStep rvTy rvNf rvTxt [] (info j).2.2.1 (info j).2.2.2.1 (info j).1 i a1 a2 a3 o.1 o.2.1 o.2.2.1 o.2.2.2.1 o.2.2.2.2.1 o.2.2.2.2.2 = some o' → Ev tab info rets NM mth j P o') ∧
  (∀ (idx len a1 a2 a3 wi : Nat) (o' : rvS), tab j o.1 = some (.invokestatic idx, len, a1, a2, a3, wi) → Nat.beq a3 8 = true → rvCopy (info j).2.1 (info j).2.2.2.2.1 o.1 o.2.1 o.2.2.1 o.2.2.2.1 o.2.2.2.2.1 o.2.2.2.2.2 = some o' → Ev tab info rets NM mth j P o') ∧
  (∀ (idx len a1 a2 a3 wi i : Nat) (rest : List rvV), tab j o.1 = some (.invokespecial idx, len, a1, a2, a3, wi) → Nat.beq a3 9 = true → o.2.2.1 = .inr (2, i) :: rest → Ev tab info rets NM mth j P (o.1 + 3, o.2.1, rest, o.2.2.2.1, o.2.2.2.2.1, o.2.2.2.2.2)) ∧
  (∀ (j2 : Nat) (as rest : List rvV), xInv tab info j o.1 o.2.2.1 o.2.2.2.1 o.2.2.2.2.1 o.2.2.2.2.2 j2 as rest → mth j2 = none → ∃ Q, EvM tab info rets NM mth j2 as o.2.2.2.1 Q ∧ ∀ res, Q res → Ev tab info rets NM mth j P (o.1 + 3, o.2.1, res.1.toList ++ rest, res.2, o.2.2.2.2.1 + (info j2).2.2.1, o.2.2.2.2.2 + (info j2).2.2.2.1)) ∧
  (∀ (i : Instr) (len a1 a2 a3 wi : Nat), tab j o.1 = some (i, len, a1, a2, a3, wi) → xRetP rets j i o.2.2.1 → P (o.2.2.1.head?, o.2.2.2.1)) ∧
  (∀ (idx len a1 a2 a3 wi k : Nat) (x y : Int) (rest : List rvV), tab j o.1 = some (.invokestatic idx, len, a1, a2, a3, wi) → Nat.beq a3 0 = true → mth a1 = some k → k < 2 → o.2.2.1 = .inl (y, y) :: .inl (x, x) :: rest → Ev tab info rets NM mth j P (o.1 + 3, o.2.1, .inl (xMm k x y, xMm k x y) :: rest, o.2.2.2.1, o.2.2.2.2.1, o.2.2.2.2.2)) ∧
  (∀ (idx len a1 a2 a3 wi : Nat) (x : Int) (rest : List rvV), tab j o.1 = some (.invokestatic idx, len, a1, a2, a3, wi) → Nat.beq a3 0 = true → mth a1 = some 2 → o.2.2.1 = .inl (x, x) :: rest → ∀ n, xIn32 n → (xIn32 (-x) → n = if 0 ≤ x then x else -x) → Ev tab info rets NM mth j P (o.1 + 3, o.2.1, .inl (n, n) :: rest, o.2.2.2.1, o.2.2.2.2.1, o.2.2.2.2.2))
theorem ev_ret {i : Instr} {st : List rvV} {j : Nat} (h : xRetP rets j i st) : i = .ireturn ∨ i = .lreturn ∨ i = .return_ := by
  rcases h with ⟨h, -⟩ | ⟨h, -⟩ | ⟨h, -⟩
  · exact Or.inl h
  · exact Or.inr (Or.inl h)
  · exact Or.inr (Or.inr h)
/-- an instruction that is a call or a return -/
def evCr (i : Instr) : Prop := (∃ x, i = .invokestatic x) ∨ (∃ x, i = .invokevirtual x) ∨ (∃ x, i = .invokespecial x) ∨ i = .ireturn ∨ i = .lreturn ∨ i = .return_
theorem ev_no {i : Instr} (hi : evCr i) {BC BS mL a1 a2 a3 pc kc ks : Nat} {al st : List rvV} {aw : rvH} {o' : rvS} (h : rvStep rvTy rvNf rvTxt [] BC BS mL i a1 a2 a3 pc al st aw kc ks = some o') : False := by
  rcases hi with ⟨x, rfl⟩ | ⟨x, rfl⟩ | ⟨x, rfl⟩ | rfl | rfl | rfl
  all_goals
    have h : (none : Option rvS) = some o' := h
    cases h
theorem xInv_cr {j pc kc ks j2 : Nat} {st as rest : List rvV} {aw : rvH} (h : xInv tab info j pc st aw kc ks j2 as rest) : ∃ i len a2 a3 wi, tab j pc = some (i, len, j2, a2, a3, wi) ∧ (((∃ x, i = .invokestatic x) ∧ Nat.beq a3 8 = false) ∨ (∃ x, i = .invokevirtual x) ∨ ((∃ x, i = .invokespecial x) ∧ Nat.beq a3 9 = false)) := by
  obtain ⟨i, len, a2, a3, wi, as0, rest0, ht, -, -, -, -, -, -, hc⟩ := h
  refine ⟨i, len, a2, a3, wi, ht, ?_⟩
  rcases hc with ⟨h1, h2, -⟩ | ⟨h1 | h1, -⟩
  · exact Or.inl ⟨h1, h2⟩
  · exact Or.inr (Or.inl h1)
  · exact Or.inr (Or.inr h1)
theorem ev_row {e : Option rvE} {i i' : Instr} {len a1 a2 a3 wi len' a1' a2' a3' wi' : Nat} (h : e = some (i, len, a1, a2, a3, wi)) (h' : e = some (i', len', a1', a2', a3', wi')) : i = i' ∧ len = len' ∧ a1 = a1' ∧ a2 = a2' ∧ a3 = a3' ∧ wi = wi' := by
  rw [h] at h'
  injection h' with e
  injection e with e1 e
  injection e with e2 e
  injection e with e3 e
  injection e with e4 e
  injection e with e5 e6
  exact ⟨e1, e2, e3, e4, e5, e6⟩
theorem ev_89 {a : Nat} (h : Nat.beq a 8 = true) (h' : Nat.beq a 0 = true) : False := by
  have h := rv_beq h
  have h' := rv_beq h'
  omega
set_option maxHeartbeats 2000000 in
theorem Ev_inv {j : Nat} {P : xRes2 → Prop} {o : rvS} (h : Ev tab info rets NM mth j P o) : EvV tab info rets NM mth j P o := by
  have hE := Ev_clo tab info rets NM mth
  refine (h (fun j P o => Ev tab info rets NM mth j P o ∧ EvV tab info rets NM mth j P o) (EvM tab info rets NM mth) ⟨?_, ?_, ?_, ?_, ?_, ?_, ?_, ?_⟩).2
  · intro j P o o' i len a1 a2 a3 wi hj ht hs hg
    refine ⟨hE.1 j P o o' i len a1 a2 a3 wi hj ht hs hg.1, ?_, ?_, ?_, ?_, ?_, ?_, ?_⟩
    · intro i' len' a1' a2' a3' wi' o2 ht' hs'
      obtain ⟨rfl, -, rfl, rfl, rfl, -⟩ := ev_row ht ht'
      rw [hs] at hs'
      injection hs' with e
      rw [← e]
      exact hg.1
    · intro idx len' a1' a2' a3' wi' o2 ht'
      obtain ⟨rfl, -, rfl, rfl, rfl, -⟩ := ev_row ht ht'
      exact absurd hs (fun q => ev_no (Or.inl ⟨_, rfl⟩) q)
    · intro idx len' a1' a2' a3' wi' k rest ht'
      obtain ⟨rfl, -, rfl, rfl, rfl, -⟩ := ev_row ht ht'
      exact absurd hs (fun q => ev_no (Or.inr (Or.inr (Or.inl ⟨_, rfl⟩))) q)
    · intro j2 as rest hi
      obtain ⟨i', len', a2', a3', wi', ht', hc⟩ := xInv_cr hi
      obtain ⟨rfl, -, rfl, rfl, rfl, -⟩ := ev_row ht ht'
      rcases hc with ⟨hc, -⟩ | hc | ⟨hc, -⟩
      · exact absurd hs (fun q => ev_no (Or.inl hc) q)
      · exact absurd hs (fun q => ev_no (Or.inr (Or.inl hc)) q)
      · exact absurd hs (fun q => ev_no (Or.inr (Or.inr (Or.inl hc))) q)
    · intro i' len' a1' a2' a3' wi' ht' hr
      obtain ⟨rfl, -, rfl, rfl, rfl, -⟩ := ev_row ht ht'
      exact absurd hs (fun q => ev_no (Or.inr (Or.inr (Or.inr (ev_ret hr)))) q)
    · intro idx len' a1' a2' a3' wi' k x y rest ht'
      obtain ⟨rfl, -, rfl, rfl, rfl, -⟩ := ev_row ht ht'
      exact absurd hs (fun q => ev_no (Or.inl ⟨_, rfl⟩) q)
    · intro idx len' a1' a2' a3' wi' x rest ht'
      obtain ⟨rfl, -, rfl, rfl, rfl, -⟩ := ev_row ht ht'
      exact absurd hs (fun q => ev_no (Or.inl ⟨_, rfl⟩) q)
  · intro j P o o' idx len a1 a2 a3 wi hj ht h8 hs hg
    refine ⟨hE.2.1 j P o o' idx len a1 a2 a3 wi hj ht h8 hs hg.1, ?_, ?_, ?_, ?_, ?_, ?_, ?_⟩
    · intro i' len' a1' a2' a3' wi' o2 ht' hs'
      obtain ⟨rfl, -, rfl, rfl, rfl, -⟩ := ev_row ht ht'
      exact absurd hs' (fun q => ev_no (Or.inl ⟨_, rfl⟩) q)
    · intro idx' len' a1' a2' a3' wi' o2 ht' h8' hs'
      obtain ⟨-, -, rfl, rfl, rfl, -⟩ := ev_row ht ht'
      rw [hs] at hs'
      injection hs' with e
      rw [← e]
      exact hg.1
    · intro idx' len' a1' a2' a3' wi' k rest ht'
      cases (ev_row ht ht').1
    · intro j2 as rest hi
      obtain ⟨i', len', a2', a3', wi', ht', hc⟩ := xInv_cr hi
      obtain ⟨rfl, -, rfl, rfl, rfl, -⟩ := ev_row ht ht'
      rcases hc with ⟨-, hc⟩ | ⟨x, hc⟩ | ⟨⟨x, hc⟩, -⟩
      · rw [h8] at hc; cases hc
      · cases hc
      · cases hc
    · intro i' len' a1' a2' a3' wi' ht' hr
      obtain ⟨rfl, -⟩ := ev_row ht ht'
      rcases ev_ret hr with q | q | q <;> cases q
    · intro idx' len' a1' a2' a3' wi' k x y rest ht' h0
      obtain ⟨-, -, -, -, rfl, -⟩ := ev_row ht ht'
      exact absurd (ev_89 h8 h0) id
    · intro idx' len' a1' a2' a3' wi' x rest ht' h0
      obtain ⟨-, -, -, -, rfl, -⟩ := ev_row ht ht'
      exact absurd (ev_89 h8 h0) id
  · intro j P pc al k rest aw kc ks idx len a1 a2 a3 wi hj ht h9 hb hg
    refine ⟨hE.2.2.1 j P pc al k rest aw kc ks idx len a1 a2 a3 wi hj ht h9 hb hg.1, ?_, ?_, ?_, ?_, ?_, ?_, ?_⟩
    · intro i' len' a1' a2' a3' wi' o2 ht' hs'
      obtain ⟨rfl, -, rfl, rfl, rfl, -⟩ := ev_row ht ht'
      exact absurd hs' (fun q => ev_no (Or.inr (Or.inr (Or.inl ⟨_, rfl⟩))) q)
    · intro idx' len' a1' a2' a3' wi' o2 ht'
      cases (ev_row ht ht').1
    · intro idx' len' a1' a2' a3' wi' k' rest' ht' h9' hst
      have hst : (.inr (2, k) :: rest : List rvV) = .inr (2, k') :: rest' := hst
      injection hst with e1 e2
      rw [← e2]
      exact hg.1
    · intro j2 as rest' hi
      obtain ⟨i', len', a2', a3', wi', ht', hc⟩ := xInv_cr hi
      obtain ⟨rfl, -, rfl, rfl, rfl, -⟩ := ev_row ht ht'
      rcases hc with ⟨⟨x, hc⟩, -⟩ | ⟨x, hc⟩ | ⟨-, hc⟩
      · cases hc
      · cases hc
      · rw [h9] at hc; cases hc
    · intro i' len' a1' a2' a3' wi' ht' hr
      obtain ⟨rfl, -⟩ := ev_row ht ht'
      rcases ev_ret hr with q | q | q <;> cases q
    · intro idx' len' a1' a2' a3' wi' k' x y rest' ht'
      cases (ev_row ht ht').1
    · intro idx' len' a1' a2' a3' wi' x rest' ht'
      cases (ev_row ht ht').1
  · intro j P Q pc al st aw kc ks j2 as rest hj hi hm hg
    refine ⟨hE.2.2.2.1 j P Q pc al st aw kc ks j2 as rest hj hi hm (fun res hq => (hg res hq).1), ?_, ?_, ?_, ?_, ?_, ?_, ?_⟩
    · intro i' len' a1' a2' a3' wi' o2 ht' hs'
      obtain ⟨i, len, a2, a3, wi, ht, hc⟩ := xInv_cr hi
      obtain ⟨rfl, -, rfl, rfl, rfl, -⟩ := ev_row ht ht'
      rcases hc with ⟨hc, -⟩ | hc | ⟨hc, -⟩
      · exact absurd hs' (fun q => ev_no (Or.inl hc) q)
      · exact absurd hs' (fun q => ev_no (Or.inr (Or.inl hc)) q)
      · exact absurd hs' (fun q => ev_no (Or.inr (Or.inr (Or.inl hc))) q)
    · intro idx' len' a1' a2' a3' wi' o2 ht' h8
      obtain ⟨i, len, a2, a3, wi, ht, hc⟩ := xInv_cr hi
      obtain ⟨rfl, -, rfl, rfl, rfl, -⟩ := ev_row ht ht'
      rcases hc with ⟨-, hc⟩ | ⟨x, hc⟩ | ⟨⟨x, hc⟩, -⟩
      · rw [h8] at hc; cases hc
      · cases hc
      · cases hc
    · intro idx' len' a1' a2' a3' wi' k' rest' ht' h9
      obtain ⟨i, len, a2, a3, wi, ht, hc⟩ := xInv_cr hi
      obtain ⟨rfl, -, rfl, rfl, rfl, -⟩ := ev_row ht ht'
      rcases hc with ⟨⟨x, hc⟩, -⟩ | ⟨x, hc⟩ | ⟨-, hc⟩
      · cases hc
      · cases hc
      · rw [h9] at hc; cases hc
    · intro j3 as' rest' hi' hn
      obtain ⟨rfl, rfl, rfl⟩ := xInv_one hi hi'
      exact ⟨Q, hm, fun res hq => (hg res hq).1⟩
    · intro i' len' a1' a2' a3' wi' ht' hr
      obtain ⟨i, len, a2, a3, wi, ht, hc⟩ := xInv_cr hi
      obtain ⟨rfl, -⟩ := ev_row ht ht'
      rcases hc with ⟨⟨x, rfl⟩, -⟩ | ⟨x, rfl⟩ | ⟨⟨x, rfl⟩, -⟩
      all_goals rcases ev_ret hr with q | q | q <;> cases q
    · intro idx' len' a1' a2' a3' wi' k x y rest' ht' h0 hmk
      obtain ⟨i, len, a2, a3, wi, ht, hc⟩ := xInv_cr hi
      obtain ⟨rfl, -, rfl, -⟩ := ev_row ht ht'
      rw [(EvM_none hm).1] at hmk
      cases hmk
    · intro idx' len' a1' a2' a3' wi' x rest' ht' h0 hmk
      obtain ⟨i, len, a2, a3, wi, ht, hc⟩ := xInv_cr hi
      obtain ⟨rfl, -, rfl, -⟩ := ev_row ht ht'
      rw [(EvM_none hm).1] at hmk
      cases hmk
  · intro j P pc al st aw kc ks i len a1 a2 a3 wi hj ht hr h1 h2 hp
    have hrr := ev_ret hr
    refine ⟨hE.2.2.2.2.1 j P pc al st aw kc ks i len a1 a2 a3 wi hj ht hr h1 h2 hp, ?_, ?_, ?_, ?_, ?_, ?_, ?_⟩
    · intro i' len' a1' a2' a3' wi' o2 ht' hs'
      obtain ⟨rfl, -, rfl, rfl, rfl, -⟩ := ev_row ht ht'
      exact absurd hs' (fun q => ev_no (Or.inr (Or.inr (Or.inr hrr))) q)
    · intro idx' len' a1' a2' a3' wi' o2 ht'
      obtain ⟨rfl, -⟩ := ev_row ht ht'
      rcases hrr with q | q | q <;> cases q
    · intro idx' len' a1' a2' a3' wi' k' rest' ht'
      obtain ⟨rfl, -⟩ := ev_row ht ht'
      rcases hrr with q | q | q <;> cases q
    · intro j2 as rest' hi
      obtain ⟨i', len', a2', a3', wi', ht', hc⟩ := xInv_cr hi
      obtain ⟨rfl, -⟩ := ev_row ht ht'
      rcases hc with ⟨⟨x, rfl⟩, -⟩ | ⟨x, rfl⟩ | ⟨⟨x, rfl⟩, -⟩
      all_goals rcases hrr with q | q | q <;> cases q
    · intro i' len' a1' a2' a3' wi' ht' hr'
      exact hp
    · intro idx' len' a1' a2' a3' wi' k x y rest' ht'
      obtain ⟨rfl, -⟩ := ev_row ht ht'
      rcases hrr with q | q | q <;> cases q
    · intro idx' len' a1' a2' a3' wi' x rest' ht'
      obtain ⟨rfl, -⟩ := ev_row ht ht'
      rcases hrr with q | q | q <;> cases q
  · intro j P pc al k x y rest aw kc ks idx len a1 a2 a3 wi hj ht h0 hm hk hx hy b1 b2 b3 b4 hg
    refine ⟨hE.2.2.2.2.2.1 j P pc al k x y rest aw kc ks idx len a1 a2 a3 wi hj ht h0 hm hk hx hy b1 b2 b3 b4 hg.1, ?_, ?_, ?_, ?_, ?_, ?_, ?_⟩
    · intro i' len' a1' a2' a3' wi' o2 ht' hs'
      obtain ⟨rfl, -, rfl, rfl, rfl, -⟩ := ev_row ht ht'
      exact absurd hs' (fun q => ev_no (Or.inl ⟨_, rfl⟩) q)
    · intro idx' len' a1' a2' a3' wi' o2 ht' h8
      obtain ⟨-, -, -, -, rfl, -⟩ := ev_row ht ht'
      exact absurd (ev_89 h8 h0) id
    · intro idx' len' a1' a2' a3' wi' k' rest' ht'
      cases (ev_row ht ht').1
    · intro j2 as rest' hi hn
      obtain ⟨i', len', a2', a3', wi', ht', hc⟩ := xInv_cr hi
      obtain ⟨-, -, rfl, -⟩ := ev_row ht ht'
      rw [hn] at hm
      cases hm
    · intro i' len' a1' a2' a3' wi' ht' hr
      obtain ⟨rfl, -⟩ := ev_row ht ht'
      rcases ev_ret hr with q | q | q <;> cases q
    · intro idx' len' a1' a2' a3' wi' k' x' y' rest' ht' h0' hm' hk' hst
      obtain ⟨-, -, rfl, -⟩ := ev_row ht ht'
      rw [hm] at hm'
      injection hm' with e
      subst e
      have hst : (.inl (y, y) :: .inl (x, x) :: rest : List rvV) = .inl (y', y') :: .inl (x', x') :: rest' := hst
      injection hst with e1 e2
      injection e2 with e2 e3
      injection e1 with e1
      injection e1 with e1
      injection e2 with e2
      injection e2 with e2
      subst e1; subst e2; subst e3
      exact hg.1
    · intro idx' len' a1' a2' a3' wi' x' rest' ht' h0' hm'
      obtain ⟨-, -, rfl, -⟩ := ev_row ht ht'
      rw [hm] at hm'
      injection hm' with e
      exact absurd hk (by omega)
  · intro j P pc al x rest aw kc ks idx len a1 a2 a3 wi hj ht h0 hm hx b1 b2 b3 b4 hg
    refine ⟨hE.2.2.2.2.2.2.1 j P pc al x rest aw kc ks idx len a1 a2 a3 wi hj ht h0 hm hx b1 b2 b3 b4 (fun n n1 n2 => (hg n n1 n2).1), ?_, ?_, ?_, ?_, ?_, ?_, ?_⟩
    · intro i' len' a1' a2' a3' wi' o2 ht' hs'
      obtain ⟨rfl, -, rfl, rfl, rfl, -⟩ := ev_row ht ht'
      exact absurd hs' (fun q => ev_no (Or.inl ⟨_, rfl⟩) q)
    · intro idx' len' a1' a2' a3' wi' o2 ht' h8
      obtain ⟨-, -, -, -, rfl, -⟩ := ev_row ht ht'
      exact absurd (ev_89 h8 h0) id
    · intro idx' len' a1' a2' a3' wi' k' rest' ht'
      cases (ev_row ht ht').1
    · intro j2 as rest' hi hn
      obtain ⟨i', len', a2', a3', wi', ht', hc⟩ := xInv_cr hi
      obtain ⟨-, -, rfl, -⟩ := ev_row ht ht'
      rw [hn] at hm
      cases hm
    · intro i' len' a1' a2' a3' wi' ht' hr
      obtain ⟨rfl, -⟩ := ev_row ht ht'
      rcases ev_ret hr with q | q | q <;> cases q
    · intro idx' len' a1' a2' a3' wi' k' x' y' rest' ht' h0' hm' hk'
      obtain ⟨-, -, rfl, -⟩ := ev_row ht ht'
      rw [hm] at hm'
      injection hm' with e
      exact absurd hk' (by omega)
    · intro idx' len' a1' a2' a3' wi' x' rest' ht' h0' hm' hst
      have hst : (.inl (x, x) :: rest : List rvV) = .inl (x', x') :: rest' := hst
      injection hst with e1 e2
      injection e1 with e1
      injection e1 with e1
      subst e1; subst e2
      exact fun n n1 n2 => (hg n n1 n2).1
  · exact fun j P as aw h1 h2 h3 h4 => hE.2.2.2.2.2.2.2 j P as aw h1 h2 h3 h4.1
end EVI
