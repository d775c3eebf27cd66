/-! One method's run, its callees by what is known of them (by hand). -/
section TR
variable {tab : Nat → Nat → Option rvE} {info : Nat → rvM} {rets : Nat → Option FieldType} {NM : Nat} {mth : Nat → Option Nat}
theorem T_run {j : Nat} {R : rvS → Prop} {Post : xRes2 → Prop}
    (hx : ∀ (pc : Nat) (idx len a1 a2 a3 wi : Nat), (tab j pc = some (.invokespecial idx, len, a1, a2, a3, wi) → Nat.beq a3 9 = false) ∧ (tab j pc = some (.invokestatic idx, len, a1, a2, a3, wi) → mth a1 = none ∨ Nat.beq a3 8 = true))
    (h1 : ∀ (o o' : rvS) (i : Instr) (len a1 a2 a3 wi : Nat), tab j o.1 = some (i, len, a1, a2, a3, wi) → rvStep rvTy rvNf rvTxt [] (info j).2.2.1 (info j).2.2.2.1 (info j).1 i a1 a2 a3 o.1 o.2.1 o.2.2.1 o.2.2.2.1 o.2.2.2.2.1 o.2.2.2.2.2 = some o' → R o → R o')
    (h2 : ∀ (o o' : rvS) (idx len a1 a2 a3 wi : Nat), tab j o.1 = some (.invokestatic idx, len, a1, a2, a3, wi) → Nat.beq a3 8 = true → rvCopy (info j).2.1 (info j).2.2.2.2.1 o.1 o.2.1 o.2.2.1 o.2.2.2.1 o.2.2.2.2.1 o.2.2.2.2.2 = some o' → R o → R o')
    (h4 : ∀ (pc : Nat) (al st : List rvV) (aw : rvH) (kc ks j2 : Nat) (as rest : List rvV), R (pc, al, st, aw, kc, ks) → xInv tab info j pc st aw kc ks j2 as rest → mth j2 = none → ∃ Q, PCM tab info rets NM mth j2 as aw Q ∧ ∀ res, Q res → ∀ kc' ks', R (pc + 3, al, res.1.toList ++ rest, res.2, kc', ks'))
    (h5 : ∀ (o : rvS) (i : Instr) (len a1 a2 a3 wi : Nat), tab j o.1 = some (i, len, a1, a2, a3, wi) → (i = .ireturn ∨ i = .lreturn ∨ i = .return_) → R o → Post (o.2.2.1.head?, o.2.2.2.1)) :
    ∀ o, R o → PC tab info rets NM mth j Post o := by
  intro o ho P hP
  have hE := Ev_clo tab info rets NM mth
  refine (hP (fun j' P o => Ev tab info rets NM mth j' P o ∧ (j' = j → R o → Ev tab info rets NM mth j' (fun res => P res ∧ Post res) o)) (EvM tab info rets NM mth) ⟨?_, ?_, ?_, ?_, ?_, ?_, ?_, ?_⟩).2 rfl ho
  · intro j' P o o' i len a1 a2 a3 wi q1 q2 q3 q4
    refine ⟨hE.1 j' P o o' i len a1 a2 a3 wi q1 q2 q3 q4.1, fun e hr => ?_⟩
    subst e
    exact hE.1 j' _ o o' i len a1 a2 a3 wi q1 q2 q3 (q4.2 rfl (h1 o o' i len a1 a2 a3 wi q2 q3 hr))
  · intro j' P o o' idx len a1 a2 a3 wi q1 q2 q3 q4 q5
    refine ⟨hE.2.1 j' P o o' idx len a1 a2 a3 wi q1 q2 q3 q4 q5.1, fun e hr => ?_⟩
    subst e
    exact hE.2.1 j' _ o o' idx len a1 a2 a3 wi q1 q2 q3 q4 (q5.2 rfl (h2 o o' idx len a1 a2 a3 wi q2 q3 q4 hr))
  · intro j' P pc al i rest aw kc ks idx len a1 a2 a3 wi q1 q2 q3 q4 q5
    refine ⟨hE.2.2.1 j' P pc al i rest aw kc ks idx len a1 a2 a3 wi q1 q2 q3 q4 q5.1, fun e hr => ?_⟩
    subst e
    rw [(hx pc idx len a1 a2 a3 wi).1 q2] at q3
    cases q3
  · intro j' P Q pc al st aw kc ks j2 as rest q1 q2 q3 q4
    refine ⟨hE.2.2.2.1 j' P Q pc al st aw kc ks j2 as rest q1 q2 q3 (fun res hr => (q4 res hr).1), fun e hr => ?_⟩
    subst e
    obtain ⟨Q2, m1, m2⟩ := h4 pc al st aw kc ks j2 as rest hr q2 (EvM_none q3).1
    exact hE.2.2.2.1 j' _ _ pc al st aw kc ks j2 as rest q1 q2 (m1 Q q3) (fun res hres => (q4 res hres.1).2 rfl (m2 res hres.2 _ _))
  · intro j' P pc al st aw kc ks i len a1 a2 a3 wi q1 q2 q3 q4 q5 q6
    refine ⟨hE.2.2.2.2.1 j' P pc al st aw kc ks i len a1 a2 a3 wi q1 q2 q3 q4 q5 q6, fun e hr => ?_⟩
    subst e
    exact hE.2.2.2.2.1 j' _ pc al st aw kc ks i len a1 a2 a3 wi q1 q2 q3 q4 q5 ⟨q6, h5 _ i len a1 a2 a3 wi q2 (ev_ret q3) hr⟩
  · intro j' P pc al k x y rest aw kc ks idx len a1 a2 a3 wi q1 q2 q3 q4 q5 q6 q7 q8 q9 qa qb qd
    refine ⟨hE.2.2.2.2.2.1 j' P pc al k x y rest aw kc ks idx len a1 a2 a3 wi q1 q2 q3 q4 q5 q6 q7 q8 q9 qa qb qd.1, fun e hr => ?_⟩
    subst e
    rcases (hx pc idx len a1 a2 a3 wi).2 q2 with e | e
    · rw [e] at q4; cases q4
    · exact absurd (ev_89 e q3) id
  · intro j' P pc al x rest aw kc ks idx len a1 a2 a3 wi q1 q2 q3 q4 q5 q6 q7 q8 q9 qd
    refine ⟨hE.2.2.2.2.2.2.1 j' P pc al x rest aw kc ks idx len a1 a2 a3 wi q1 q2 q3 q4 q5 q6 q7 q8 q9 (fun n n1 n2 => (qd n n1 n2).1), fun e hr => ?_⟩
    subst e
    rcases (hx pc idx len a1 a2 a3 wi).2 q2 with e | e
    · rw [e] at q4; cases q4
    · exact absurd (ev_89 e q3) id
  · intro j' P as aw q1 q2 q3 q4
    exact hE.2.2.2.2.2.2.2 j' P as aw q1 q2 q3 q4.1
theorem PCM_of {j : Nat} {as : List rvV} {aw : rvH} {Q : xRes2 → Prop} (h : j < NM → rvLen (rvEnt as) ≤ (info j).1 → PC tab info rets NM mth j Q (0, rvEnt as ++ List.replicate ((info j).1 - rvLen (rvEnt as)) rvU, [], aw, 0, 0)) : PCM tab info rets NM mth j as aw Q := by
  intro P hP
  have hE := Ev_clo tab info rets NM mth
  refine (hP (Ev tab info rets NM mth) (fun j as aw P => EvM tab info rets NM mth j as aw P ∧ ∀ Q : xRes2 → Prop, (j < NM → rvLen (rvEnt as) ≤ (info j).1 → PC tab info rets NM mth j Q (0, rvEnt as ++ List.replicate ((info j).1 - rvLen (rvEnt as)) rvU, [], aw, 0, 0)) → EvM tab info rets NM mth j as aw (fun res => P res ∧ Q res)) ⟨hE.1, hE.2.1, hE.2.2.1, fun j P Q pc al st aw kc ks j2 as rest h1 h2 h3 h4 => hE.2.2.2.1 j P Q pc al st aw kc ks j2 as rest h1 h2 h3.1 h4, hE.2.2.2.2.1, hE.2.2.2.2.2.1, hE.2.2.2.2.2.2.1, fun j P as aw h1 h2 h3 h4 => ⟨hE.2.2.2.2.2.2.2 j P as aw h1 h2 h3 h4, fun Q hQ => hE.2.2.2.2.2.2.2 j _ as aw h1 h2 h3 (hQ h1 h3 P h4)⟩⟩).2 Q h
end TR
/-! A slot that only few methods write. -/
def prC (c : rvC) (j : Nat) : Bool := match c with
  | .inl (ci, _) => prF ci j
  | .inr (q, _, _, _) => Nat.beq q 4
def hV (aw : rvH) (k j : Nat) (v : rvV) : Prop := ∃ c, aw[k]? = some c ∧ prC c j = true ∧ xSlot c j = some v
theorem kp_slot {c c' : rvC} {j : Nat} (h : kpC c c') (hp : prC c j = true) : prC c' j = true ∧ xSlot c' j = xSlot c j := by
  rcases c with ⟨ci, fs⟩ | ⟨q, n, d, ov⟩
  · rcases c' with ⟨ci', fs'⟩ | ⟨q', n', d', ov'⟩
    · obtain ⟨rfl, h⟩ := h
      exact ⟨hp, h j hp⟩
    · exact absurd h id
  · rcases c' with ⟨ci', fs'⟩ | ⟨q', n', d', ov'⟩
    · exact absurd h id
    · obtain ⟨rfl, rfl, h⟩ := h
      have hq : q' = 4 := rv_beq hp
      obtain ⟨rfl, rfl⟩ := h hq
      exact ⟨hp, rfl⟩
theorem hV_Fr {aw aw' : rvH} {k j : Nat} {v : rvV} (h : Fr aw aw') (hv : hV aw k j v) : hV aw' k j v := by
  obtain ⟨c, e, hp, hs⟩ := hv
  obtain ⟨c', e', hk⟩ := h.2.1 k c e
  obtain ⟨p1, p2⟩ := kp_slot hk hp
  exact ⟨c', e', p1, p2.trans hs⟩
theorem hV_one {aw : rvH} {k j : Nat} {v w : rvV} (h : hV aw k j v) (h' : hV aw k j w) : v = w := by
  obtain ⟨c, e, -, hs⟩ := h
  obtain ⟨c', e', -, hs'⟩ := h'
  rw [e] at e'
  have e' := Option.some.inj e'
  subst e'
  rw [hs] at hs'
  exact Option.some.inj hs'
theorem hV_ne {aw : rvH} {k m j : Nat} {c : rvC} {v : rvV} (hne : k ≠ m) (h : hV aw k j v) : hV (aw.set m c) k j v := by
  obtain ⟨d, e, hp, hs⟩ := h
  exact ⟨d, by rw [List.getElem?_set_ne (Ne.symm hne)]; exact e, hp, hs⟩
theorem hV_put {aw : rvH} {m ci f : Nat} {fs : List rvV} {w : rvV} (e : aw[m]? = some (.inl (ci, fs))) {k j : Nat} {v : rvV} (hne : ¬ (k = m ∧ j = f)) (h : hV aw k j v) : hV (aw.set m (.inl (ci, fs.set f w))) k j v := by
  by_cases hk : k = m
  · subst hk
    obtain ⟨d, e', hp, hs⟩ := h
    rw [e] at e'
    have e' := Option.some.inj e'
    subst e'
    have hl := (List.getElem?_eq_some_iff.mp e).1
    refine ⟨_, List.getElem?_set_self hl, hp, ?_⟩
    have hs : fs[j]? = some v := hs
    show (fs.set f w)[j]? = some v
    rw [List.getElem?_set_ne (fun q => hne ⟨rfl, q.symm⟩)]
    exact hs
  · exact hV_ne hk h
theorem hV_new {aw : rvH} {m ci f : Nat} {fs : List rvV} {w : rvV} (e : aw[m]? = some (.inl (ci, fs))) (hp : prF ci f = true) (hf : f < fs.length) : hV (aw.set m (.inl (ci, fs.set f w))) m f w := by
  have hl := (List.getElem?_eq_some_iff.mp e).1
  refine ⟨_, List.getElem?_set_self hl, hp, ?_⟩
  show (fs.set f w)[f]? = some w
  exact List.getElem?_set_self hf
