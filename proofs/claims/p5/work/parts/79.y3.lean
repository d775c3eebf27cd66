/-! Exact heaps as functions, and what an exact run does to them: a rule an instruction. -/
/-- numbers, longs, references that are surely there, how many cells -/
abbrev hH : Type := (Nat → Nat → Int) × (Nat → Nat → Int64) × (Nat → Nat → Option Nat) × Nat
def hI (aw : rvH) (p j : Nat) (z : Int) : Prop := ∃ c, aw[p]? = some c ∧ xSlot c j = some (.inl (z, z))
def hL (aw : rvH) (p j : Nat) (n : Int64) : Prop := ∃ c, aw[p]? = some c ∧ xSlot c j = some (.inr (1, rvLe n))
def hR (aw : rvH) (p j k : Nat) : Prop := ∃ c, aw[p]? = some c ∧ xSlot c j = some (.inr (2, k))
/-- a row's length -/
def hN (aw : rvH) (p n : Nat) : Prop := ∃ q d ov, aw[p]? = some (.inr (q, n, d, ov))
/-- what a reference's slot tells; the slot 1000 of a row is its length -/
def hK (g : Nat → Nat) (aw : rvH) (p j k : Nat) : Prop := if j = 1000 then hN aw (g p) k else hR aw (g p) j (g k)
/-- g: the places of the cells that are told of, by their numbers; the last of H: the number of the next new cell -/
def RH (g : Nat → Nat) (aw : rvH) (H : hH) : Prop := exH aw ∧ (∀ p j z, hI aw (g p) j z → H.1 p j = z) ∧ (∀ p j n, hL aw (g p) j n → H.2.1 p j = n) ∧ (∀ p j k, H.2.2.1 p j = some k → hK g aw p j k) ∧ g H.2.2.2 = aw.length ∧ (∀ p j, aw.length ≤ g p → H.1 p j = 0 ∧ H.2.1 p j = 0) ∧ (∀ a b, g a = g b → a = b) ∧ ∀ p j, xIn32 (H.1 p j)
abbrev pt (z : Int) : rvV := .inl (z, z)
abbrev lg (n : Int64) : rvV := .inr (1, rvLe n)
abbrev rf (p : Nat) : rvV := .inr (2, p)
def upI (H : hH) (p j : Nat) (v : Int) : hH := (fun p' j' => if p' = p ∧ j' = j then v else H.1 p' j', H.2)
def upL (H : hH) (p j : Nat) (v : Int64) : hH := (H.1, fun p' j' => if p' = p ∧ j' = j then v else H.2.1 p' j', H.2.2)
def upR (H : hH) (p j : Nat) (v : Option Nat) : hH := (H.1, H.2.1, fun p' j' => if p' = p ∧ j' = j then v else H.2.2.1 p' j', H.2.2.2)
def upN (H : hH) : hH := (H.1, H.2.1, H.2.2.1, H.2.2.2 + 1)
theorem rvLe_inj {a b : Int64} (h : rvLe a = rvLe b) : a = b := by
  have h2 := congrArg rvLd h
  rwa [rvLe_ok, rvLe_ok] at h2
/-- a slot is written -/
def hPut (aw : rvH) (p j : Nat) (v : rvV) (aw' : rvH) : Prop := ∃ c c', aw[p]? = some c ∧ aw' = aw.set p c' ∧ (∀ m, m ≠ j → xSlot c' m = xSlot c m) ∧ xSlot c' j = some v ∧ (xSlot c j).isSome ∧ ∀ q n d ov, c = .inr (q, n, d, ov) → ∃ d' ov', c' = .inr (q, n, d', ov')
theorem hPut_get {aw aw' : rvH} {p j q m : Nat} {v : rvV} (h : hPut aw p j v aw') (hne : ¬ (q = p ∧ m = j)) {w : rvV} (hw : ∃ c, aw'[q]? = some c ∧ xSlot c m = some w) : ∃ c, aw[q]? = some c ∧ xSlot c m = some w := by
  obtain ⟨c, c', h1, rfl, h3, h4, -⟩ := h
  obtain ⟨d, d1, d2⟩ := hw
  rw [List.getElem?_set] at d1
  by_cases hpq : p = q
  · subst hpq
    have hlt := (List.getElem?_eq_some_iff.mp h1).1
    simp [hlt] at d1
    subst d1
    refine ⟨c, h1, ?_⟩
    rw [← h3 m (fun e => hne ⟨rfl, e⟩)]
    exact d2
  · simp [hpq] at d1
    exact ⟨d, d1, d2⟩
theorem hPut_set {aw aw' : rvH} {p j q m : Nat} {v : rvV} (h : hPut aw p j v aw') (hne : ¬ (q = p ∧ m = j)) {w : rvV} (hw : ∃ c, aw[q]? = some c ∧ xSlot c m = some w) : ∃ c, aw'[q]? = some c ∧ xSlot c m = some w := by
  obtain ⟨c, c', h1, rfl, h3, h4, -⟩ := h
  obtain ⟨d, d1, d2⟩ := hw
  by_cases hpq : p = q
  · subst hpq
    have hlt := (List.getElem?_eq_some_iff.mp h1).1
    have e : c = d := by rw [h1] at d1; exact Option.some.inj d1
    subst e
    refine ⟨c', by rw [List.getElem?_set]; simp [hlt], ?_⟩
    rw [h3 m (fun e => hne ⟨rfl, e⟩)]
    exact d2
  · exact ⟨d, by rw [List.getElem?_set]; simp [hpq]; exact d1, d2⟩
theorem hPut_self {aw aw' : rvH} {p j : Nat} {v w : rvV} (h : hPut aw p j v aw') (hw : ∃ c, aw'[p]? = some c ∧ xSlot c j = some w) : w = v := by
  obtain ⟨c, c', h1, rfl, h3, h4, -⟩ := h
  obtain ⟨d, d1, d2⟩ := hw
  have hlt := (List.getElem?_eq_some_iff.mp h1).1
  rw [List.getElem?_set] at d1
  simp [hlt] at d1
  subst d1
  rw [h4] at d2
  exact (Option.some.inj d2).symm
theorem hPut_at {aw aw' : rvH} {p j : Nat} {v : rvV} (h : hPut aw p j v aw') : ∃ c, aw'[p]? = some c ∧ xSlot c j = some v := by
  obtain ⟨c, c', h1, rfl, h3, h4, -⟩ := h
  have hlt := (List.getElem?_eq_some_iff.mp h1).1
  exact ⟨c', by rw [List.getElem?_set]; simp [hlt], h4⟩
theorem hPut_len {aw aw' : rvH} {p j : Nat} {v : rvV} (h : hPut aw p j v aw') : aw'.length = aw.length ∧ p < aw.length := by
  obtain ⟨c, c', h1, rfl, -⟩ := h
  exact ⟨by rw [List.length_set], (List.getElem?_eq_some_iff.mp h1).1⟩
theorem hPut_N {aw aw' : rvH} {p j q n : Nat} {v : rvV} (h : hPut aw p j v aw') (hw : hN aw q n) : hN aw' q n := by
  obtain ⟨c, c', h1, rfl, -, -, -, h6⟩ := h
  obtain ⟨q0, d, ov, d1⟩ := hw
  by_cases hpq : p = q
  · subst hpq
    have hlt := (List.getElem?_eq_some_iff.mp h1).1
    have e : c = .inr (q0, n, d, ov) := by rw [h1] at d1; exact Option.some.inj d1
    obtain ⟨d', ov', e2⟩ := h6 q0 n d ov e
    exact ⟨q0, d', ov', by rw [List.getElem?_set, e2]; simp [hlt]⟩
  · exact ⟨q0, d, ov, by rw [List.getElem?_set]; simp [hpq]; exact d1⟩
/-- what is told of references and lengths stays, but for the slot -/
theorem hPut_K {g : Nat → Nat} {aw aw' : rvH} {p j p' j' k : Nat} {v : rvV} (h : hPut aw (g p) j v aw') (hi : ∀ a b, g a = g b → a = b) (hne : ¬ (p' = p ∧ j' = j)) (hw : hK g aw p' j' k) : hK g aw' p' j' k := by
  unfold hK at hw ⊢
  split at hw
  · rename_i e
    rw [if_pos e]
    exact hPut_N h hw
  · rename_i e
    rw [if_neg e]
    exact hPut_set h (fun q => hne ⟨hi _ _ q.1, q.2⟩) hw
/-- a reference is not lost by a store of a number -/
def hNr (aw : rvH) (p j : Nat) : Prop := ∀ k, ¬ hR aw p j k
theorem RH_putI {g : Nat → Nat} {aw aw' : rvH} {H : hH} {p j : Nat} {v : Int} (h : RH g aw H) (hp : hPut aw (g p) j (pt v) aw') (hx : exH aw') (hn : hNr aw (g p) j) (hv : xIn32 v) : RH g aw' (upI H p j v) := by
  obtain ⟨h1, h2, h3, h4, h5, h6, h7, h8⟩ := h
  obtain ⟨l1, l2⟩ := hPut_len hp
  have hne : ∀ p' j', ¬ (p' = p ∧ j' = j) → ¬ (g p' = g p ∧ j' = j) := fun p' j' e q => e ⟨h7 _ _ q.1, q.2⟩
  refine ⟨hx, fun p' j' z hz => ?_, fun p' j' n hz => ?_, fun p' j' k hk => ?_, by rw [l1]; exact h5, fun p' j' hl => ?_, h7, fun p' j' => ?_⟩
  · show (if p' = p ∧ j' = j then v else H.1 p' j') = z
    by_cases e : p' = p ∧ j' = j
    · rw [if_pos e]
      obtain ⟨rfl, rfl⟩ := e
      have := hPut_self hp hz
      injection this with e
      injection e with e _
      exact e.symm
    · rw [if_neg e]
      exact h2 p' j' z (hPut_get hp (hne _ _ e) hz)
  · by_cases e : p' = p ∧ j' = j
    · obtain ⟨rfl, rfl⟩ := e
      have := hPut_self hp hz
      cases this
    · exact h3 p' j' n (hPut_get hp (hne _ _ e) hz)
  · have hk2 := h4 p' j' k hk
    clear hk
    by_cases e : p' = p ∧ j' = j
    · obtain ⟨rfl, rfl⟩ := e
      unfold hK at hk2 ⊢
      split at hk2
      · rename_i e9
        rw [if_pos e9]
        exact hPut_N hp hk2
      · exact absurd hk2 (hn (g k))
    · exact hPut_K hp h7 e hk2
  · rw [l1] at hl
    refine ⟨?_, (h6 p' j' hl).2⟩
    show (if p' = p ∧ j' = j then v else H.1 p' j') = 0
    rw [if_neg (fun e => by rw [e.1] at hl; omega)]
    exact (h6 p' j' hl).1
  · show xIn32 (if p' = p ∧ j' = j then v else H.1 p' j')
    split
    · exact hv
    · exact h8 p' j'
theorem RH_putL {g : Nat → Nat} {aw aw' : rvH} {H : hH} {p j : Nat} {v : Int64} (h : RH g aw H) (hp : hPut aw (g p) j (lg v) aw') (hx : exH aw') (hn : hNr aw (g p) j) : RH g aw' (upL H p j v) := by
  obtain ⟨h1, h2, h3, h4, h5, h6, h7, h8⟩ := h
  obtain ⟨l1, l2⟩ := hPut_len hp
  have hne : ∀ p' j', ¬ (p' = p ∧ j' = j) → ¬ (g p' = g p ∧ j' = j) := fun p' j' e q => e ⟨h7 _ _ q.1, q.2⟩
  refine ⟨hx, fun p' j' z hz => ?_, fun p' j' n hz => ?_, fun p' j' k hk => ?_, by rw [l1]; exact h5, fun p' j' hl => ?_, h7, h8⟩
  · by_cases e : p' = p ∧ j' = j
    · obtain ⟨rfl, rfl⟩ := e
      have := hPut_self hp hz
      cases this
    · exact h2 p' j' z (hPut_get hp (hne _ _ e) hz)
  · show (if p' = p ∧ j' = j then v else H.2.1 p' j') = n
    by_cases e : p' = p ∧ j' = j
    · rw [if_pos e]
      obtain ⟨rfl, rfl⟩ := e
      have := hPut_self hp hz
      injection this with e
      injection e with _ e
      exact (rvLe_inj e).symm
    · rw [if_neg e]
      exact h3 p' j' n (hPut_get hp (hne _ _ e) hz)
  · have hk2 := h4 p' j' k hk
    clear hk
    by_cases e : p' = p ∧ j' = j
    · obtain ⟨rfl, rfl⟩ := e
      unfold hK at hk2 ⊢
      split at hk2
      · rename_i e9
        rw [if_pos e9]
        exact hPut_N hp hk2
      · exact absurd hk2 (hn (g k))
    · exact hPut_K hp h7 e hk2
  · rw [l1] at hl
    refine ⟨(h6 p' j' hl).1, ?_⟩
    show (if p' = p ∧ j' = j then v else H.2.1 p' j') = 0
    rw [if_neg (fun e => by rw [e.1] at hl; omega)]
    exact (h6 p' j' hl).2
theorem RH_putR {g : Nat → Nat} {aw aw' : rvH} {H : hH} {p j : Nat} {v : Nat} (h : RH g aw H) (hp : hPut aw (g p) j (rf (g v)) aw') (hx : exH aw') (hj : ¬ j = 1000) : RH g aw' (upR H p j (some v)) := by
  obtain ⟨h1, h2, h3, h4, h5, h6, h7, h8⟩ := h
  obtain ⟨l1, l2⟩ := hPut_len hp
  have hne : ∀ p' j', ¬ (p' = p ∧ j' = j) → ¬ (g p' = g p ∧ j' = j) := fun p' j' e q => e ⟨h7 _ _ q.1, q.2⟩
  refine ⟨hx, fun p' j' z hz => ?_, fun p' j' n hz => ?_, fun p' j' k hk => ?_, by rw [l1]; exact h5, fun p' j' hl => ?_, h7, h8⟩
  · by_cases e : p' = p ∧ j' = j
    · obtain ⟨rfl, rfl⟩ := e
      have := hPut_self hp hz
      cases this
    · exact h2 p' j' z (hPut_get hp (hne _ _ e) hz)
  · by_cases e : p' = p ∧ j' = j
    · obtain ⟨rfl, rfl⟩ := e
      have := hPut_self hp hz
      cases this
    · exact h3 p' j' n (hPut_get hp (hne _ _ e) hz)
  · have hk2 : (if p' = p ∧ j' = j then some v else H.2.2.1 p' j') = some k := hk
    by_cases e : p' = p ∧ j' = j
    · rw [if_pos e] at hk2
      clear hk
      obtain ⟨rfl, rfl⟩ := e
      rw [← Option.some.inj hk2]
      unfold hK
      rw [if_neg hj]
      exact hPut_at hp
    · rw [if_neg e] at hk2
      exact hPut_K hp h7 e (h4 p' j' k hk2)
  · rw [l1] at hl
    exact h6 p' j' hl
/-- all that is known is forgotten: there is such an H -/
theorem RH_any {g : Nat → Nat} {aw : rvH} {n : Nat} (h : exH aw) (hg : g n = aw.length) (hi : ∀ a b, g a = g b → a = b) : ∃ H, RH g aw H := by
  refine ⟨(fun p j => match aw[g p]? with
    | some c => (match xSlot c j with
      | some (.inl a) => a.1
      | _ => 0)
    | none => 0, fun p j => match aw[g p]? with
    | some c => (match xSlot c j with
      | some (.inr (1, z)) => rvLd z
      | _ => 0)
    | none => 0, fun _ _ => none, n), h, fun p j z hz => ?_, fun p j n hz => ?_, fun p j k hk => (by cases hk), hg, fun p j hl => ?_, hi, fun p j => ?_⟩
  · obtain ⟨c, h1, h2⟩ := hz
    dsimp only
    rw [h1]
    dsimp only
    rw [h2]
  · obtain ⟨c, h1, h2⟩ := hz
    dsimp only
    rw [h1]
    dsimp only
    rw [h2]
    exact rvLe_ok n
  · have e : aw[g p]? = none := List.getElem?_eq_none hl
    dsimp only
    rw [e]
    exact ⟨rfl, rfl⟩
  · dsimp only
    cases hc : aw[g p]? with
    | none => exact (show xIn32 0 from ⟨by decide, by decide⟩)
    | some c =>
      dsimp only
      cases hs : xSlot c j with
      | none => exact (show xIn32 0 from ⟨by decide, by decide⟩)
      | some w =>
        have hx : exV w := by
          have hC := exH_get h hc
          rcases c with ⟨ci, fs⟩ | ⟨q, n, d, ov⟩
          · exact (hC j w hs).1
          · have hs : (bif Nat.blt j n then some (rvLook d ov j) else none) = some w := hs
            obtain ⟨-, e⟩ := rv_bif hs
            rw [← e]
            exact (ex_look hC.1 hC.2).1
        rcases w with a | w
        · exact hx.2
        · exact (show xIn32 0 from ⟨by decide, by decide⟩)
section JR
variable (g : Nat → Nat) (tab : Nat → Nat → Option rvE) (info : Nat → rvM) (rets : Nat → Option FieldType) (NM : Nat) (mth : Nat → Option Nat)
/-- from here all exact runs that end, end so -/
def J (j : Nat) (Post : xRes2 → Prop) (pc : Nat) (al st : List rvV) (H : hH) : Prop := ∀ (aw : rvH) (kc ks : Nat), RH g aw H → exL al → exL st → PC tab info rets NM mth j Post (pc, al, st, aw, kc, ks)
/-- a method: its answer, the heap behind it -/
def SP (j : Nat) (as : List rvV) (H : hH) (r : Option rvV) (H' : hH) : Prop := ∀ aw : rvH, RH g aw H → exL as → PCM tab info rets NM mth j as aw (fun res => res.1 = r ∧ RH g res.2 H')
def jRows : Prop := ∀ (j pc : Nat) (i : Instr) (len a1 a2 a3 wi : Nat), j < NM → tab j pc = some (i, len, a1, a2, a3, wi) → exRow i a1
end JR
section JRS
variable {g : Nat → Nat} {tab : Nat → Nat → Option rvE} {info : Nat → rvM} {rets : Nat → Option FieldType} {NM : Nat} {mth : Nat → Option Nat}
variable {j pc len a1 a2 a3 wi : Nat} {i : Instr} {al st : List rvV} {H : hH} {Post : xRes2 → Prop}
theorem J_step (hw : jRows tab NM) (hj : j < NM) (ht : tab j pc = some (i, len, a1, a2, a3, wi)) (hn : ¬ evCr i)
    (k : ∀ (aw : rvH) (kc ks : Nat) (o' : rvS), RH g aw H → exL al → exL st → exO o' → rvStep rvTy rvNf rvTxt [] (info j).2.2.1 (info j).2.2.2.1 (info j).1 i a1 a2 a3 pc al st aw kc ks = some o' → ∃ H', RH g o'.2.2.2.1 H' ∧ J g tab info rets NM mth j Post o'.1 o'.2.1 o'.2.2.1 H') : J g tab info rets NM mth j Post pc al st H := by
  intro aw kc ks hR ha hs P hP
  obtain ⟨o', h1, h2⟩ := Ev_some hP ht hn
  have hx := rvStep_ex (hw j pc i len a1 a2 a3 wi hj ht) ha hs hR.1 h1
  obtain ⟨H', h3, h4⟩ := k aw kc ks o' hR ha hs hx h1
  exact (Ev_clo tab info rets NM mth).1 j _ _ o' i len a1 a2 a3 wi hj ht h1 (h4 o'.2.2.2.1 o'.2.2.2.2.1 o'.2.2.2.2.2 h3 hx.1 hx.2.1 P h2)
/-- an instruction that leaves the cells as they are and whose next state is known -/
theorem J_pure {pc' : Nat} {al' st' : List rvV} (hw : jRows tab NM) (hj : j < NM) (ht : tab j pc = some (i, len, a1, a2, a3, wi)) (hn : ¬ evCr i) (he : ∀ (BC BS : Nat) (aw : rvH) (kc ks : Nat) (o' : rvS), rvStep rvTy rvNf rvTxt [] BC BS (info j).1 i a1 a2 a3 pc al st aw kc ks = some o' → o' = (pc', al', st', aw, kc, ks)) (h : J g tab info rets NM mth j Post pc' al' st' H) : J g tab info rets NM mth j Post pc al st H := by
  refine J_step hw hj ht hn (fun aw kc ks o' hR ha hs hx h1 => ?_)
  have e := he _ _ aw kc ks o' h1
  subst e
  exact ⟨H, hR, h⟩
def cmpP (c : ClassFile.Cond) (a b : Int) : Prop := match c with
  | .eq => a = b
  | .ne => ¬ a = b
  | .lt => a < b
  | .ge => ¬ a < b
  | .gt => b < a
  | .le => ¬ b < a
def cmpN (c : ClassFile.Cond) (a b : Int) : Prop := match c with
  | .eq => ¬ a = b
  | .ne => a = b
  | .lt => ¬ a < b
  | .ge => a < b
  | .gt => ¬ b < a
  | .le => b < a
theorem cmp_N {c : ClassFile.Cond} {a b : Int} (h : ¬ cmpP c a b) : cmpN c a b := by
  cases c
  case eq => exact h
  case ne => exact Classical.not_not.mp h
  case lt => exact h
  case ge => exact Classical.not_not.mp h
  case gt => exact h
  case le => exact Classical.not_not.mp h
theorem rvLt_p2 (a b : Int) : rvLt (a, a) (b, b) = some (decide (a < b)) := by
  unfold rvLt
  by_cases h : a < b
  · simp [h]
  · have h2 : b ≤ a := by omega
    simp [h, h2]
theorem rvEq_p2 (a b : Int) : rvEq (a, a) (b, b) = some (decide (a = b)) := by
  unfold rvEq
  have h1 : rvOne (a, a) = true := decide_eq_true rfl
  have h2 : rvOne (b, b) = true := decide_eq_true rfl
  rw [h1, h2]
  rfl
theorem rvCmp_p2 (c : ClassFile.Cond) (a b : Int) : (∃ z, rvCmp c (a, a) (b, b) = some z ∧ (z = true ↔ cmpP c a b)) := by
  cases c
  case eq => exact ⟨_, rvEq_p2 a b, decide_eq_true_iff⟩
  case ne =>
    refine ⟨!decide (a = b), ?_, ?_⟩
    · show rvNo (rvEq (a, a) (b, b)) = _
      rw [rvEq_p2]
      rfl
    · show _ ↔ ¬ a = b
      by_cases h : a = b
      · rw [decide_eq_true h]; simp [h]
      · rw [decide_eq_false h]; simp [h]
  case lt => exact ⟨_, rvLt_p2 a b, decide_eq_true_iff⟩
  case ge =>
    refine ⟨!decide (a < b), ?_, ?_⟩
    · show rvNo (rvLt (a, a) (b, b)) = _
      rw [rvLt_p2]
      rfl
    · show _ ↔ ¬ a < b
      by_cases h : a < b
      · rw [decide_eq_true h]
        exact ⟨(fun q => by cases q), (fun q => absurd (by assumption) q)⟩
      · rw [decide_eq_false h]
        exact ⟨(fun _ => by assumption), fun _ => rfl⟩
  case gt => exact ⟨_, rvLt_p2 b a, decide_eq_true_iff⟩
  case le =>
    refine ⟨!decide (b < a), ?_, ?_⟩
    · show rvNo (rvLt (b, b) (a, a)) = _
      rw [rvLt_p2]
      rfl
    · show _ ↔ ¬ b < a
      by_cases h : b < a
      · rw [decide_eq_true h]
        exact ⟨(fun q => by cases q), (fun q => absurd (by assumption) q)⟩
      · rw [decide_eq_false h]
        exact ⟨(fun _ => by assumption), fun _ => rfl⟩
theorem J_icmp {c : ClassFile.Cond} {off : Int} {t : Nat} {a b : Int} (hw : jRows tab NM) (hj : j < NM) (ht : tab j pc = some (.if_icmp c off, len, a1, a2, a3, wi)) (hn : ¬ evCr (.if_icmp c off)) (hT : rvJ pc off = some t) (h1 : cmpP c a b → J g tab info rets NM mth j Post t al st H) (h2 : cmpN c a b → J g tab info rets NM mth j Post (pc + 3) al st H) : J g tab info rets NM mth j Post pc al (pt b :: pt a :: st) H := by
  refine J_step hw hj ht hn (fun aw kc ks o' hR ha hs hx he => ?_)
  have he : (match rvCmp c (a, a) (b, b), rvJ pc off with
      | some true, some t => some (t, al, st, aw, kc, ks)
      | some false, some _ => some (pc + 3, al, st, aw, kc, ks)
      | _, _ => none) = some o' := he
  rw [hT] at he
  obtain ⟨z, hz, hc⟩ := rvCmp_p2 c a b
  rw [hz] at he
  cases z with
  | true =>
    have e := Option.some.inj he
    subst e
    exact ⟨H, hR, h1 (hc.mp rfl)⟩
  | false =>
    have e := Option.some.inj he
    subst e
    exact ⟨H, hR, h2 (cmp_N (fun q => by cases hc.mpr q))⟩
theorem J_ifc {c : ClassFile.Cond} {off : Int} {t : Nat} {a : Int} (hw : jRows tab NM) (hj : j < NM) (ht : tab j pc = some (.ifCond c off, len, a1, a2, a3, wi)) (hn : ¬ evCr (.ifCond c off)) (hT : rvJ pc off = some t) (h1 : cmpP c a 0 → J g tab info rets NM mth j Post t al st H) (h2 : cmpN c a 0 → J g tab info rets NM mth j Post (pc + 3) al st H) : J g tab info rets NM mth j Post pc al (pt a :: st) H := by
  refine J_step hw hj ht hn (fun aw kc ks o' hR ha hs hx he => ?_)
  have he : (match rvCmp c (a, a) (0, 0), rvJ pc off with
      | some true, some t => some (t, al, st, aw, kc, ks)
      | some false, some _ => some (pc + 3, al, st, aw, kc, ks)
      | _, _ => none) = some o' := he
  rw [hT] at he
  obtain ⟨z, hz, hc⟩ := rvCmp_p2 c a 0
  rw [hz] at he
  cases z with
  | true =>
    have e := Option.some.inj he
    subst e
    exact ⟨H, hR, h1 (hc.mp rfl)⟩
  | false =>
    have e := Option.some.inj he
    subst e
    exact ⟨H, hR, h2 (cmp_N (fun q => by cases hc.mpr q))⟩
/-- numbers -/
def iop (f : Int32 → Int32 → Int32) (a b : Int) : Int := (f (Int32.ofInt a) (Int32.ofInt b)).toInt
theorem rvBin_p2 (f : Int32 → Int32 → Int32) (a b : Int) : rvBin f (a, a) (b, b) = pt (iop f a b) := by
  unfold rvBin
  have h1 : rvOne (a, a) = true := decide_eq_true rfl
  have h2 : rvOne (b, b) = true := decide_eq_true rfl
  rw [h1, h2]
  rfl
def opF (i : Instr) : Option (Int32 → Int32 → Int32) := match i with
  | .iadd => some (· + ·)
  | .isub => some (· - ·)
  | .imul => some (· * ·)
  | .iand => some (· &&& ·)
  | .ior => some (· ||| ·)
  | .ishl => some (fun x y => x <<< (y &&& 31))
  | .ishr => some (fun x y => x >>> (y &&& 31))
  | .iushr => some (fun x y => (x.toUInt32 >>> (y.toUInt32 &&& Int32.toUInt32 31)).toInt32)
  | _ => none
theorem J_bin {f : Int32 → Int32 → Int32} {a b : Int} (hw : jRows tab NM) (hj : j < NM) (ht : tab j pc = some (i, len, a1, a2, a3, wi)) (hf : opF i = some f) (h : J g tab info rets NM mth j Post (pc + 1) al (pt (iop f a b) :: st) H) : J g tab info rets NM mth j Post pc al (pt b :: pt a :: st) H := by
  have hn : ¬ evCr i := by
    intro q
    rcases q with ⟨x, rfl⟩ | ⟨x, rfl⟩ | ⟨x, rfl⟩ | rfl | rfl | rfl <;> cases hf
  refine J_pure hw hj ht hn (fun BC BS aw kc ks o' he => ?_) h
  rw [← rvBin_p2]
  unfold opF at hf
  split at hf
  all_goals first
    | (cases hf; done)
    | (cases hf; exact (Option.some.inj he).symm)
theorem J_iinc {k : Nat} {n a : Int} {al' : List rvV} (hw : jRows tab NM) (hj : j < NM) (ht : tab j pc = some (.iinc k n, len, a1, a2, a3, wi)) (hn : ¬ evCr (.iinc k n)) (hv : al[k]? = some (pt a)) (hs : rvSet al k (pt (iop (· + ·) a n)) = al') (h : J g tab info rets NM mth j Post (pc + 3) al' st H) : J g tab info rets NM mth j Post pc al st H := by
  refine J_pure hw hj ht hn (fun BC BS aw kc ks o' he => ?_) h
  simp only [rvStep, hv] at he
  obtain ⟨-, e⟩ := rv_bif he
  rw [← e, ← hs, rvBin_p2]
/-- fields -/
theorem hI_of {aw : rvH} {H : hH} {p j : Nat} {c : rvC} {a : Int × Int} (h : RH g aw H) (hc : aw[g p]? = some c) (hs : xSlot c j = some (.inl a)) (hx : exV (.inl a)) : a = (H.1 p j, H.1 p j) := by
  obtain ⟨a1, a2⟩ := a
  have e : a1 = a2 := hx.1
  subst e
  rw [h.2.1 p j a1 ⟨c, hc, hs⟩]
theorem hL_of {aw : rvH} {H : hH} {p j : Nat} {c : rvC} {z : Nat} (h : RH g aw H) (hc : aw[g p]? = some c) (hs : xSlot c j = some (.inr (1, z))) (hx : exV (.inr (1, z))) : z = rvLe (H.2.1 p j) := by
  obtain ⟨n, rfl⟩ := hx
  rw [h.2.2.1 p j n ⟨c, hc, hs⟩]
def isIT (ty : FieldType) : Bool := match ty with
  | .int => true
  | .boolean => true
  | _ => false
def isLT (ty : FieldType) : Bool := match ty with
  | .long => true
  | _ => false
def isRT (ty : FieldType) : Bool := match ty with
  | .object _ => true
  | .array _ => true
  | _ => false
theorem exF_I {ty : FieldType} {v : rvV} (h : exF ty v) (ht : isIT ty = true) : ∃ a, v = .inl a := by
  obtain ⟨-, h⟩ := h
  cases ty
  case int => exact h
  case boolean => exact h
  all_goals cases ht
theorem exF_L {ty : FieldType} {v : rvV} (h : exF ty v) (ht : isLT ty = true) : ∃ z, v = .inr (1, z) := by
  obtain ⟨-, h⟩ := h
  cases ty
  case long => exact h
  all_goals cases ht
theorem j_gf {aw : rvH} {p ci f pc0 kc ks BC BS mL idx : Nat} {al st : List rvV} {o' : rvS} (h0 : ¬ ci = 100) (h : rvStep rvTy rvNf rvTxt [] BC BS mL (.getfield idx) ci f a3 pc0 al (rf p :: st) aw kc ks = some o') : ∃ fs w, aw[p]? = some (.inl (ci, fs)) ∧ fs[f]? = some w ∧ o' = (pc0 + 3, al, w :: st, aw, kc, ks) := by
  simp only [rvStep, rf] at h
  split at h
  · rename_i ci' fs e
    obtain ⟨hc, h2⟩ := rv_bifo h
    have hc2 := rv_beq hc
    clear h hc
    subst hc2
    split at h2
    · rename_i w e2
      exact ⟨fs, w, e, e2, (Option.some.inj h2).symm⟩
    · cases h2
  · cases h
theorem J_gfI {p ci f idx : Nat} (hw : jRows tab NM) (hj : j < NM) (ht : tab j pc = some (.getfield idx, len, ci, f, a3, wi)) (hn : ¬ evCr (.getfield idx)) (h0 : ¬ ci = 100) (hty : isIT (rvTy ci f) = true) (h : xIn32 (H.1 p f) → J g tab info rets NM mth j Post (pc + 3) al (pt (H.1 p f) :: st) H) : J g tab info rets NM mth j Post pc al (rf (g p) :: st) H := by
  refine J_step hw hj ht hn (fun aw kc ks o' hR ha hs hx he => ?_)
  obtain ⟨fs, w, e1, e2, rfl⟩ := j_gf h0 he
  have hF := exH_get hR.1 e1 f w e2
  obtain ⟨a, rfl⟩ := exF_I hF hty
  have hz : xIn32 a.1 := hF.1.2
  rw [hI_of hR e1 e2 hF.1] at hz ⊢
  exact ⟨H, hR, h hz⟩
theorem J_gfL {p ci f idx : Nat} (hw : jRows tab NM) (hj : j < NM) (ht : tab j pc = some (.getfield idx, len, ci, f, a3, wi)) (hn : ¬ evCr (.getfield idx)) (h0 : ¬ ci = 100) (hty : isLT (rvTy ci f) = true) (h : J g tab info rets NM mth j Post (pc + 3) al (lg (H.2.1 p f) :: st) H) : J g tab info rets NM mth j Post pc al (rf (g p) :: st) H := by
  refine J_step hw hj ht hn (fun aw kc ks o' hR ha hs hx he => ?_)
  obtain ⟨fs, w, e1, e2, rfl⟩ := j_gf h0 he
  have hF := exH_get hR.1 e1 f w e2
  obtain ⟨z, rfl⟩ := exF_L hF hty
  rw [hL_of hR e1 e2 hF.1]
  exact ⟨H, hR, h⟩
theorem J_gfR {p ci f k idx : Nat} (hw : jRows tab NM) (hj : j < NM) (ht : tab j pc = some (.getfield idx, len, ci, f, a3, wi)) (hn : ¬ evCr (.getfield idx)) (h0 : ¬ ci = 100) (hf : ¬ f = 1000) (hk : H.2.2.1 p f = some k) (h : J g tab info rets NM mth j Post (pc + 3) al (rf (g k) :: st) H) : J g tab info rets NM mth j Post pc al (rf (g p) :: st) H := by
  refine J_step hw hj ht hn (fun aw kc ks o' hR ha hs hx he => ?_)
  obtain ⟨fs, w, e1, e2, rfl⟩ := j_gf h0 he
  have hk2 := hR.2.2.2.1 p f k hk
  unfold hK at hk2
  rw [if_neg hf] at hk2
  obtain ⟨c, c1, c2⟩ := hk2
  rw [e1] at c1
  have e := Option.some.inj c1
  subst e
  have c2 : fs[f]? = some (rf (g k)) := c2
  rw [e2] at c2
  rw [Option.some.inj c2]
  exact ⟨H, hR, h⟩
theorem rvLen_e9 : ∀ fs : List rvV, rvLen fs = fs.length
  | [] => rfl
  | a :: t => by
      show rvLen t + 1 = t.length + 1
      rw [rvLen_e9 t]
theorem j_pf {aw : rvH} {p ci f pc0 kc ks BC BS mL idx : Nat} {v : rvV} {al st : List rvV} {o' : rvS} (h : rvStep rvTy rvNf rvTxt [] BC BS mL (.putfield idx) ci f a3 pc0 al (v :: rf p :: st) aw kc ks = some o') : ∃ fs aw', aw[p]? = some (.inl (ci, fs)) ∧ hPut aw p f v aw' ∧ o' = (pc0 + 3, al, st, aw', kc, ks) ∧ f < fs.length := by
  simp only [rvStep, rf] at h
  split at h
  · rename_i ci' fs e
    obtain ⟨hc0, h2⟩ := rv_bif h
    obtain ⟨hc1, hc2⟩ := rv_and hc0
    have hc3 := rv_beq hc1
    clear h hc0 hc1
    subst hc3
    have hl := rv_blt (rv_and hc2).2
    rw [rvLen_e9] at hl
    refine ⟨fs, aw.set p (.inl (ci', fs.set f v)), e, ⟨_, _, e, rfl, fun m hm => ?_, ?_, ?_, fun q n d ov e9 => by cases e9⟩, h2.symm, hl⟩
    · show (fs.set f v)[m]? = fs[m]?
      rw [List.getElem?_set, if_neg (fun q => hm q.symm)]
    · show (fs.set f v)[f]? = some v
      rw [List.getElem?_set]
      simp [hl]
    · show (fs[f]?).isSome = true
      rw [List.getElem?_eq_getElem hl]
      rfl
  · cases h
theorem hNr_F {aw : rvH} {p ci f : Nat} {fs : List rvV} (hx : exH aw) (h1 : aw[p]? = some (.inl (ci, fs))) (hty : isIT (rvTy ci f) = true ∨ isLT (rvTy ci f) = true) : hNr aw p f := by
  intro k hk
  obtain ⟨c, c1, c2⟩ := hk
  rw [h1] at c1
  have e := Option.some.inj c1
  subst e
  have c2 : fs[f]? = some (rf k) := c2
  have hF := exH_get hx h1 f _ c2
  rcases hty with hty | hty
  · obtain ⟨a, e⟩ := exF_I hF hty
    cases e
  · obtain ⟨a, e⟩ := exF_L hF hty
    cases e
theorem J_pfI {p ci f idx : Nat} {v : Int} (hw : jRows tab NM) (hj : j < NM) (ht : tab j pc = some (.putfield idx, len, ci, f, a3, wi)) (hn : ¬ evCr (.putfield idx)) (hty : isIT (rvTy ci f) = true) (h : J g tab info rets NM mth j Post (pc + 3) al st (upI H p f v)) : J g tab info rets NM mth j Post pc al (pt v :: rf (g p) :: st) H := by
  refine J_step hw hj ht hn (fun aw kc ks o' hR ha hs hx he => ?_)
  obtain ⟨fs, aw', e1, e2, rfl, -⟩ := j_pf he
  exact ⟨_, RH_putI hR e2 hx.2.2 (hNr_F hR.1 e1 (Or.inl hty)) (exL_hd hs).2, h⟩
theorem J_pfL {p ci f idx : Nat} {v : Int64} (hw : jRows tab NM) (hj : j < NM) (ht : tab j pc = some (.putfield idx, len, ci, f, a3, wi)) (hn : ¬ evCr (.putfield idx)) (hty : isLT (rvTy ci f) = true) (h : J g tab info rets NM mth j Post (pc + 3) al st (upL H p f v)) : J g tab info rets NM mth j Post pc al (lg v :: rf (g p) :: st) H := by
  refine J_step hw hj ht hn (fun aw kc ks o' hR ha hs hx he => ?_)
  obtain ⟨fs, aw', e1, e2, rfl, -⟩ := j_pf he
  exact ⟨_, RH_putL hR e2 hx.2.2 (hNr_F hR.1 e1 (Or.inr hty)), h⟩
theorem J_pfR {p ci f k idx : Nat} (hw : jRows tab NM) (hj : j < NM) (ht : tab j pc = some (.putfield idx, len, ci, f, a3, wi)) (hn : ¬ evCr (.putfield idx)) (hf : ¬ f = 1000) (h : J g tab info rets NM mth j Post (pc + 3) al st (upR H p f (some k))) : J g tab info rets NM mth j Post pc al (rf (g k) :: rf (g p) :: st) H := by
  refine J_step hw hj ht hn (fun aw kc ks o' hR ha hs hx he => ?_)
  obtain ⟨fs, aw', e1, e2, rfl, -⟩ := j_pf he
  exact ⟨_, RH_putR hR e2 hx.2.2 hf, h⟩
/-- rows -/
theorem rvIdx_one {x : Int} {n k : Nat} (h : rvIdx (x, x) n = some k) : 0 ≤ x ∧ k = x.toNat ∧ k < n := by
  obtain ⟨hc, hj⟩ := rv_bif h
  obtain ⟨-, hb⟩ := rv_and hc
  obtain ⟨hb, hd⟩ := rv_and hb
  have q1 := of_decide_eq_true hb
  have q2 := of_decide_eq_true hd
  have q1 : 0 ≤ x := q1
  have q2 : x < (n : Int) := q2
  have hj : x.toNat = k := hj
  exact ⟨q1, hj.symm, by omega⟩
theorem j_slot {q n k : Nat} {d : rvV} {ov : List (Nat × rvV)} (h : k < n) : xSlot (.inr (q, n, d, ov)) k = some (rvLook d ov k) := by
  show (bif Nat.blt k n then some (rvLook d ov k) else none) = _
  rw [show Nat.blt k n = true from Nat.ble_eq_true_of_le h]
  rfl
theorem J_iald {p : Nat} {x : Int} (hw : jRows tab NM) (hj : j < NM) (ht : tab j pc = some (i, len, a1, a2, a3, wi)) (hi : i = .iaload ∨ i = .baload) (h : 0 ≤ x → xIn32 (H.1 p x.toNat) → J g tab info rets NM mth j Post (pc + 1) al (pt (H.1 p x.toNat) :: st) H) : J g tab info rets NM mth j Post pc al (pt x :: rf (g p) :: st) H := by
  have hn : ¬ evCr i := by
    intro q
    rcases hi with rfl | rfl <;> (rcases q with ⟨x, q⟩ | ⟨x, q⟩ | ⟨x, q⟩ | q | q | q <;> cases q)
  refine J_step hw hj ht hn (fun aw kc ks o' hR ha hs hx he => ?_)
  have key : ∃ (q n k : Nat) (d : rvV) (ov : List (Nat × rvV)), q < 3 ∧ aw[g p]? = some (.inr (q, n, d, ov)) ∧ rvIdx (x, x) n = some k ∧ o' = (pc + 1, al, rvLook d ov k :: st, aw, kc, ks) := by
    rcases hi with rfl | rfl
    · simp only [rvStep, pt, lg, rf] at he
      split at he
      · rename_i n d ov e
        split at he
        · rename_i k hk
          exact ⟨0, n, k, d, ov, by decide, e, hk, (Option.some.inj he).symm⟩
        · cases he
      · cases he
    · simp only [rvStep, pt, lg, rf] at he
      split at he
      · rename_i n d ov e
        split at he
        · rename_i k hk
          exact ⟨1, n, k, d, ov, by decide, e, hk, (Option.some.inj he).symm⟩
        · cases he
      · rename_i n d ov e
        split at he
        · rename_i k hk
          exact ⟨2, n, k, d, ov, by decide, e, hk, (Option.some.inj he).symm⟩
        · cases he
      · cases he
  obtain ⟨q, n, k, d, ov, hq, e, hk, rfl⟩ := key
  obtain ⟨b1, b2, b3⟩ := rvIdx_one hk
  have hE := ex_look (j := k) (exH_get hR.1 e).1 (exH_get hR.1 e).2
  obtain ⟨a, ha9⟩ := hE.2.1 hq
  have hsl : xSlot (.inr (q, n, d, ov)) k = some (.inl a) := by rw [j_slot b3, ha9]
  have hv := hE.1
  rw [ha9] at hv ⊢
  have hz : xIn32 a.1 := hv.2
  rw [hI_of hR e hsl hv, b2] at hz ⊢
  exact ⟨H, hR, h b1 hz⟩
theorem J_lald {p : Nat} {x : Int} (hw : jRows tab NM) (hj : j < NM) (ht : tab j pc = some (.laload, len, a1, a2, a3, wi)) (hn : ¬ evCr .laload) (h : 0 ≤ x → J g tab info rets NM mth j Post (pc + 1) al (lg (H.2.1 p x.toNat) :: st) H) : J g tab info rets NM mth j Post pc al (pt x :: rf (g p) :: st) H := by
  refine J_step hw hj ht hn (fun aw kc ks o' hR ha hs hx he => ?_)
  simp only [rvStep, pt, lg, rf] at he
  split at he
  · rename_i n d ov e
    split at he
    · rename_i k hk
      split at he
      · rename_i z hz
        have e9 := Option.some.inj he
        subst e9
        obtain ⟨b1, b2, b3⟩ := rvIdx_one hk
        have hE := ex_look (j := k) (exH_get hR.1 e).1 (exH_get hR.1 e).2
        rw [hz] at hE
        have hsl : xSlot (.inr (3, n, d, ov)) k = some (.inr (1, z)) := by rw [j_slot b3, hz]
        rw [hL_of hR e hsl hE.1, b2]
        exact ⟨H, hR, h b1⟩
      · cases he
    · cases he
  · cases he
theorem j_put {aw : rvH} {p q n k : Nat} {d v : rvV} {ov : List (Nat × rvV)} (e : aw[p]? = some (.inr (q, n, d, ov))) (hk : k < n) : hPut aw p k v (aw.set p (.inr (q, n, d, rvUp ov k v))) := by
  refine ⟨_, _, e, rfl, fun m hm => ?_, ?_, ?_, fun q9 n9 d9 ov9 e9 => ?_⟩
  · exact xSlot_row hm
  · exact xSlot_rowJ hk
  · rw [j_slot hk]
    rfl
  · injection e9 with e9
    injection e9 with e1 e9
    injection e9 with e2 e9
    rw [← e1, ← e2]
    exact ⟨_, _, rfl⟩
theorem hNr_E {aw : rvH} {p q n k : Nat} {d : rvV} {ov : List (Nat × rvV)} (hx : exH aw) (e : aw[p]? = some (.inr (q, n, d, ov))) (hq : q < 4) : hNr aw p k := by
  intro k2 hk2
  obtain ⟨c, c1, c2⟩ := hk2
  rw [e] at c1
  have e9 := Option.some.inj c1
  subst e9
  have hE := ex_look (j := k) (exH_get hx e).1 (exH_get hx e).2
  have c2 : (bif Nat.blt k n then some (rvLook d ov k) else none) = some (rf k2) := c2
  obtain ⟨-, c3⟩ := rv_bif c2
  rw [c3] at hE
  by_cases h3 : q = 3
  · obtain ⟨z, hz⟩ := hE.2.2 h3
    cases hz
  · obtain ⟨z, hz⟩ := hE.2.1 (by omega)
    cases hz
theorem J_iast {p : Nat} {x v : Int} (hw : jRows tab NM) (hj : j < NM) (ht : tab j pc = some (i, len, a1, a2, a3, wi)) (hi : i = .iastore ∨ i = .bastore) (h : 0 ≤ x → J g tab info rets NM mth j Post (pc + 1) al st (upI H p x.toNat v)) : J g tab info rets NM mth j Post pc al (pt v :: pt x :: rf (g p) :: st) H := by
  have hn : ¬ evCr i := by
    intro q
    rcases hi with rfl | rfl <;> (rcases q with ⟨x, q⟩ | ⟨x, q⟩ | ⟨x, q⟩ | q | q | q <;> cases q)
  refine J_step hw hj ht hn (fun aw kc ks o' hR ha hs hx he => ?_)
  have key : ∃ (q n k : Nat) (d : rvV) (ov : List (Nat × rvV)), q < 3 ∧ aw[g p]? = some (.inr (q, n, d, ov)) ∧ rvIdx (x, x) n = some k ∧ o' = (pc + 1, al, st, aw.set (g p) (.inr (q, n, d, rvUp ov k (pt v))), kc, ks) := by
    rcases hi with rfl | rfl
    · simp only [rvStep, pt, lg, rf] at he
      split at he
      · rename_i n d ov e
        split at he
        · rename_i k hk
          exact ⟨0, n, k, d, ov, by decide, e, hk, (Option.some.inj he).symm⟩
        · cases he
      · cases he
    · simp only [rvStep, pt, lg, rf] at he
      split at he
      · rename_i n d ov e
        split at he
        · rename_i k hk
          obtain ⟨-, e9⟩ := rv_bif he
          exact ⟨1, n, k, d, ov, by decide, e, hk, e9.symm⟩
        · cases he
      · rename_i n d ov e
        split at he
        · rename_i k hk
          obtain ⟨-, e9⟩ := rv_bif he
          exact ⟨2, n, k, d, ov, by decide, e, hk, e9.symm⟩
        · cases he
      · cases he
  obtain ⟨q, n, k, d, ov, hq, e, hk, rfl⟩ := key
  obtain ⟨b1, b2, b3⟩ := rvIdx_one hk
  subst b2
  exact ⟨_, RH_putI hR (j_put e b3) hx.2.2 (hNr_E hR.1 e (by omega)) (exL_hd hs).2, h b1⟩
theorem J_last {p : Nat} {x : Int} {v : Int64} (hw : jRows tab NM) (hj : j < NM) (ht : tab j pc = some (.lastore, len, a1, a2, a3, wi)) (hn : ¬ evCr .lastore) (h : 0 ≤ x → J g tab info rets NM mth j Post (pc + 1) al st (upL H p x.toNat v)) : J g tab info rets NM mth j Post pc al (lg v :: pt x :: rf (g p) :: st) H := by
  refine J_step hw hj ht hn (fun aw kc ks o' hR ha hs hx he => ?_)
  simp only [rvStep, pt, lg, rf] at he
  split at he
  · rename_i n d ov e
    split at he
    · rename_i k hk
      have e9 := Option.some.inj he
      subst e9
      obtain ⟨b1, b2, b3⟩ := rvIdx_one hk
      subst b2
      exact ⟨_, RH_putL hR (j_put e b3) hx.2.2 (hNr_E hR.1 e (by decide)), h b1⟩
    · cases he
  · cases he
/-- a static row -/
theorem J_ialdS {z : Nat} {x : Int} (hw : jRows tab NM) (hj : j < NM) (ht : tab j pc = some (.iaload, len, a1, a2, a3, wi)) (hn : ¬ evCr .iaload) (h : ∀ b : Int, 0 ≤ x → (rvTxt (10 + z))[x.toNat]? = some b → J g tab info rets NM mth j Post (pc + 1) al (pt b :: st) H) : J g tab info rets NM mth j Post pc al (pt x :: .inr (10, z) :: st) H := by
  refine J_step hw hj ht hn (fun aw kc ks o' hR ha hs hx he => ?_)
  simp only [rvStep, pt, lg, rf] at he
  split at he
  · rename_i k hk
    split at he
    · rename_i b hb
      obtain ⟨-, e9⟩ := rv_bif he
      subst e9
      obtain ⟨b1, b2, b3⟩ := rvIdx_one hk
      subst b2
      exact ⟨H, hR, h b b1 hb⟩
    · cases he
  · cases he
/-- a row's length -/
theorem J_len {p n : Nat} (hw : jRows tab NM) (hj : j < NM) (ht : tab j pc = some (.arraylength, len, a1, a2, a3, wi)) (hn : ¬ evCr .arraylength) (hk : H.2.2.1 p 1000 = some n) (h : J g tab info rets NM mth j Post (pc + 1) al (pt (n : Int) :: st) H) : J g tab info rets NM mth j Post pc al (rf (g p) :: st) H := by
  refine J_step hw hj ht hn (fun aw kc ks o' hR ha hs hx he => ?_)
  have hk2 := hR.2.2.2.1 p 1000 n hk
  unfold hK at hk2
  rw [if_pos rfl] at hk2
  obtain ⟨q, d, ov, e⟩ := hk2
  simp only [rvStep, pt, lg, rf] at he
  rw [e] at he
  obtain ⟨-, e9⟩ := rv_bif he
  rw [← e9]
  exact ⟨H, hR, h⟩
/-- longs -/
theorem rvLe_nb (n : Int64) : Nat.beq (rvLe n) 0 = false := rfl
theorem J_lb {f : Int64 → Int64 → Int64} {x y : Int64} (hw : jRows tab NM) (hj : j < NM) (ht : tab j pc = some (i, len, a1, a2, a3, wi)) (hi : (i = .lor ∧ f = (· ||| ·)) ∨ (i = .land ∧ f = (· &&& ·))) (h : J g tab info rets NM mth j Post (pc + 1) al (lg (f x y) :: st) H) : J g tab info rets NM mth j Post pc al (lg y :: lg x :: st) H := by
  have hn : ¬ evCr i := by
    intro q
    rcases hi with ⟨rfl, -⟩ | ⟨rfl, -⟩ <;> (rcases q with ⟨x, q⟩ | ⟨x, q⟩ | ⟨x, q⟩ | q | q | q <;> cases q)
  have e2 : rvLb f (rvLe x) (rvLe y) = lg (f x y) := by
    unfold rvLb
    rw [rvLe_nb, rvLe_nb, rvLe_ok, rvLe_ok]
    rfl
  refine J_pure hw hj ht hn (fun BC BS aw kc ks o' he => ?_) h
  rw [← e2]
  rcases hi with ⟨rfl, rfl⟩ | ⟨rfl, rfl⟩
  · exact (Option.some.inj he).symm
  · exact (Option.some.inj he).symm
theorem J_lshl {x : Int64} {y : Int} (hw : jRows tab NM) (hj : j < NM) (ht : tab j pc = some (.lshl, len, a1, a2, a3, wi)) (hn : ¬ evCr .lshl) (h : J g tab info rets NM mth j Post (pc + 1) al (lg (x <<< ((Int32.ofInt y).toInt64 &&& 63)) :: st) H) : J g tab info rets NM mth j Post pc al (pt y :: lg x :: st) H := by
  refine J_pure hw hj ht hn (fun BC BS aw kc ks o' he => ?_) h
  have e2 : rvLs (fun x y => x <<< (y.toInt64 &&& 63)) (rvLe x) (y, y) = lg (x <<< ((Int32.ofInt y).toInt64 &&& 63)) := by
    unfold rvLs
    rw [rvLe_nb, rvLe_ok, show rvOne (y, y) = true from decide_eq_true rfl]
    rfl
  rw [← e2]
  exact (Option.some.inj he).symm
theorem J_i2l {x : Int} (hw : jRows tab NM) (hj : j < NM) (ht : tab j pc = some (.i2l, len, a1, a2, a3, wi)) (hn : ¬ evCr .i2l) (h : J g tab info rets NM mth j Post (pc + 1) al (lg (Int32.ofInt x).toInt64 :: st) H) : J g tab info rets NM mth j Post pc al (pt x :: st) H := by
  refine J_pure hw hj ht hn (fun BC BS aw kc ks o' he => ?_) h
  have e2 : rvLw (x, x) = lg (Int32.ofInt x).toInt64 := by
    unfold rvLw
    rw [show rvOne (x, x) = true from decide_eq_true rfl]
    rfl
  rw [← e2]
  exact (Option.some.inj he).symm
theorem J_lcmp {x y : Int64} (hw : jRows tab NM) (hj : j < NM) (ht : tab j pc = some (.lcmp, len, a1, a2, a3, wi)) (hn : ¬ evCr .lcmp) (h : J g tab info rets NM mth j Post (pc + 1) al (pt (lg_cmp x y).toInt :: st) H) : J g tab info rets NM mth j Post pc al (lg y :: lg x :: st) H := by
  refine J_pure hw hj ht hn (fun BC BS aw kc ks o' he => ?_) h
  have e2 : rvLc (rvLe x) (rvLe y) = pt (lg_cmp x y).toInt := by
    unfold rvLc
    rw [rvLe_nb, rvLe_nb, rvLe_ok, rvLe_ok]
    rfl
  rw [← e2]
  exact (Option.some.inj he).symm
theorem J_i2b {x : Int} (hw : jRows tab NM) (hj : j < NM) (ht : tab j pc = some (.i2b, len, a1, a2, a3, wi)) (hn : ¬ evCr .i2b) (h : J g tab info rets NM mth j Post (pc + 1) al (pt (Int32.ofInt x).toInt8.toInt32.toInt :: st) H) : J g tab info rets NM mth j Post pc al (pt x :: st) H := by
  refine J_pure hw hj ht hn (fun BC BS aw kc ks o' he => ?_) h
  have he : some (pc + 1, al, (bif rvOne (x, x) then rvK (Int32.ofInt x).toInt8.toInt32.toInt else .inl (-128, 127)) :: st, aw, kc, ks) = some o' := he
  rw [show rvOne (x, x) = true from decide_eq_true rfl] at he
  exact (Option.some.inj he).symm
/-- calls -/
theorem J_callS {as rest : List rvV} {r : Option rvV} {H' : hH} {idx j2 : Nat} (hw : jRows tab NM) (ht : tab j pc = some (.invokestatic idx, len, j2, a2, a3, wi)) (h8 : Nat.beq a3 8 = false) (hm : mth j2 = none) (hp : rvPop a2 st [] = some (as, rest)) (hs : SP g tab info rets NM mth j2 as H r H') (h : J g tab info rets NM mth j Post (pc + 3) al (r.toList ++ rest) H') : J g tab info rets NM mth j Post pc al st H := by
  intro aw kc ks hR ha hst P hP
  obtain ⟨as', rest', hi, -, hj⟩ := Ev_call hP ht (Or.inl ⟨⟨_, rfl⟩, h8, hm⟩)
  have e : as' = as ∧ rest' = rest := by
    obtain ⟨i0, l0, b2, b3, bw, as0, rest0, ht', hp', -, -, -, -, -, hc⟩ := hi
    obtain ⟨rfl, -, -, rfl, rfl, -⟩ := ev_row ht ht'
    have hp' : rvPop a2 st [] = some (as0, rest0) := hp'
    rw [hp] at hp'
    injection hp' with e
    injection e with e1 e2
    rcases hc with ⟨-, -, q1, q2⟩ | ⟨hc, -⟩
    · exact ⟨q1.trans e1.symm, q2.symm.trans e2.symm⟩
    · rcases hc with ⟨x, q⟩ | ⟨⟨x, q⟩, -⟩ <;> cases q
  obtain ⟨rfl, rfl⟩ := e
  obtain ⟨x1, x2⟩ := ex_invA hi hst
  obtain ⟨Qc, q1, q2⟩ := (Ev_inv hP).2.2.2.1 j2 as' rest' hi hm
  refine (Ev_clo tab info rets NM mth).2.2.2.1 j _ _ pc al st aw kc ks j2 as' rest' hj hi (PCM_ex hw x1 hR.1 _ (hs aw hR x1 Qc q1)) (fun res hres => ?_)
  obtain ⟨⟨r1, r2, r3⟩, rx⟩ := hres
  have h9 := h res.2 (kc + (info j2).2.2.1) (ks + (info j2).2.2.2.1) r3 ha (ex_app (by rw [← r2]; exact ex_opt rx.1) x2) P
  rw [← r2] at h9
  exact h9 (q2 res r1)
theorem J_callV {as0 rest : List rvV} {r : Option rvV} {H' : hH} {p j2 : Nat} (hw : jRows tab NM) (ht : tab j pc = some (i, len, j2, a2, a3, wi)) (hi0 : (∃ x, i = .invokevirtual x) ∨ ((∃ x, i = .invokespecial x) ∧ Nat.beq a3 9 = false)) (hm : mth j2 = none) (hp : rvPop a2 st [] = some (as0, rf p :: rest)) (hs : SP g tab info rets NM mth j2 (rf p :: as0) H r H') (h : J g tab info rets NM mth j Post (pc + 3) al (r.toList ++ rest) H') : J g tab info rets NM mth j Post pc al st H := by
  intro aw kc ks hR ha hst P hP
  obtain ⟨as', rest', hi, -, hj⟩ := Ev_call hP ht (Or.inr hi0)
  have e : as' = rf p :: as0 ∧ rest' = rest := by
    obtain ⟨i1, l0, b2, b3, bw, as1, rest1, ht', hp', -, -, -, -, -, hc⟩ := hi
    obtain ⟨rfl, -, -, rfl, rfl, -⟩ := ev_row ht ht'
    have hp' : rvPop a2 st [] = some (as1, rest1) := hp'
    rw [hp] at hp'
    injection hp' with e
    injection e with e1 e2
    rcases hc with ⟨⟨x, hc⟩, -⟩ | ⟨-, v, q1, q2, -⟩
    · rcases hi0 with ⟨y, q⟩ | ⟨⟨y, q⟩, -⟩
      · rw [hc] at q; cases q
      · rw [hc] at q; cases q
    · rw [← e2] at q1
      injection q1 with q3 q4
      rw [q2, ← q3, ← e1]
      exact ⟨rfl, q4.symm⟩
  obtain ⟨rfl, rfl⟩ := e
  obtain ⟨x1, x2⟩ := ex_invA hi hst
  obtain ⟨Qc, q1, q2⟩ := (Ev_inv hP).2.2.2.1 j2 _ rest' hi hm
  refine (Ev_clo tab info rets NM mth).2.2.2.1 j _ _ pc al st aw kc ks j2 _ rest' hj hi (PCM_ex hw x1 hR.1 _ (hs aw hR x1 Qc q1)) (fun res hres => ?_)
  obtain ⟨⟨r1, r2, r3⟩, rx⟩ := hres
  have h9 := h res.2 (kc + (info j2).2.2.1) (ks + (info j2).2.2.2.1) r3 ha (ex_app (by rw [← r2]; exact ex_opt rx.1) x2) P
  rw [← r2] at h9
  exact h9 (q2 res r1)
/-- a return -/
theorem J_ret (ht : tab j pc = some (i, len, a1, a2, a3, wi)) (hi : i = .ireturn ∨ i = .lreturn ∨ i = .return_) (hP : ∀ aw, RH g aw H → Post (st.head?, aw)) : J g tab info rets NM mth j Post pc al st H := by
  intro aw kc ks hR ha hst P hE
  obtain ⟨b1, b2, b3, hj⟩ := Ev_room hE ht hi
  exact (Ev_clo tab info rets NM mth).2.2.2.2.1 j _ pc al st aw kc ks i len a1 a2 a3 wi hj ht b1 b2 b3 ⟨(Ev_inv hE).2.2.2.2.1 i len a1 a2 a3 wi ht b1, hP aw hR⟩
theorem J_SP {as : List rvV} {r : Option rvV} {H' : hH} (hj : j < NM) (hl : rvLen (rvEnt as) ≤ (info j).1) (h : J g tab info rets NM mth j (fun res => res.1 = r ∧ RH g res.2 H') 0 (rvEnt as ++ List.replicate ((info j).1 - rvLen (rvEnt as)) rvU) [] H) : SP g tab info rets NM mth j as H r H' := by
  intro aw hR ha P hE
  obtain ⟨hm, hE⟩ := EvM_none hE
  refine (Ev_clo tab info rets NM mth).2.2.2.2.2.2.2 j _ as aw hj hm hl (h aw 0 0 hR (ex_app (ex_ent ha) (fun v hv => ?_)) (fun v hv => by cases hv) P hE)
  rw [(List.mem_replicate.mp hv).2]
  exact exV_U
theorem J_in (h : (∀ p j, xIn32 (H.1 p j)) → J g tab info rets NM mth j Post pc al st H) : J g tab info rets NM mth j Post pc al st H := fun aw kc ks hR ha hs => h hR.2.2.2.2.2.2.2 aw kc ks hR ha hs
theorem SP_in {as : List rvV} {r : Option rvV} {H' : hH} (h : exL as → SP g tab info rets NM mth j as H r H') : SP g tab info rets NM mth j as H r H' := fun aw hR ha => h ha aw hR ha
/-- an instruction that is no call, nor a return -/
def evB (i : Instr) : Bool := match i with
  | .invokestatic _ => false
  | .invokevirtual _ => false
  | .invokespecial _ => false
  | .ireturn => false
  | .lreturn => false
  | .return_ => false
  | _ => true
theorem evn {i : Instr} (h : evB i = true) : ¬ evCr i := by
  intro q
  rcases q with ⟨x, rfl⟩ | ⟨x, rfl⟩ | ⟨x, rfl⟩ | rfl | rfl | rfl <;> cases h
end JRS
