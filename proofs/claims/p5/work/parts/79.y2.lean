/-! The checker's contracts of exact runs; what is shown of all answers of exact runs (partial correctness). -/
section RSC
variable {tab : Nat → Nat → Option rvE} {info : Nat → rvM} {rets : Nat → Option FieldType} {NM : Nat} {mth : Nat → Option Nat}
def exR (res : xRes2) : Prop := (∀ v, res.1 = some v → exV v) ∧ exH res.2
theorem ex_pop : ∀ (n : Nat) {st acc as rest : List rvV}, rvPop n st acc = some (as, rest) → exL st → exL acc → exL as ∧ exL rest
  | 0, st, acc, as, rest, h, hs, ha => by
      simp only [rvPop, Option.some.injEq, Prod.mk.injEq] at h
      obtain ⟨rfl, rfl⟩ := h
      exact ⟨ha, hs⟩
  | n + 1, [], acc, as, rest, h, _, _ => by cases h
  | n + 1, v :: t, acc, as, rest, h, hs, ha => ex_pop n (acc := v :: acc) h (exL_tl hs) (exL_c (exL_hd hs) ha)
theorem ex_ent : ∀ {as : List rvV}, exL as → exL (rvEnt as)
  | [], h => h
  | v :: t, h => by
      unfold rvEnt
      cases rvIsL v
      · exact exL_c (exL_hd h) (ex_ent (exL_tl h))
      · exact exL_c (exL_hd h) (exL_c exV_U (ex_ent (exL_tl h)))
theorem ex_app {a b : List rvV} (h1 : exL a) (h2 : exL b) : exL (a ++ b) := fun v hv => by
  rcases List.mem_append.mp hv with e | e
  · exact h1 v e
  · exact h2 v e
theorem ex_invA {j pc kc ks j2 : Nat} {st as rest : List rvV} {aw : rvH} (h : xInv tab info j pc st aw kc ks j2 as rest) (hs : exL st) : exL as ∧ exL rest := by
  obtain ⟨i, len, a2, a3, wi, as0, rest0, ht, hp, -, -, -, -, -, hc⟩ := h
  obtain ⟨h1, h2⟩ := ex_pop a2 hp hs (fun v hv => by cases hv)
  rcases hc with ⟨-, -, rfl, rfl⟩ | ⟨-, v, rfl, rfl, -⟩
  · exact ⟨h1, h2⟩
  · exact ⟨exL_c (exL_hd h2) h1, exL_tl h2⟩
theorem ex_opt {o : Option rvV} (h : ∀ v, o = some v → exV v) : exL o.toList := fun v hv => by
  cases o with
  | none => cases hv
  | some w =>
    have e := List.mem_singleton.mp hv
    rw [e]
    exact h w rfl
theorem ex_Mm {k : Nat} {x y : Int} (hx : xIn32 x) (hy : xIn32 y) : xIn32 (xMm k x y) := by
  unfold xMm
  split
  · split
    · exact hy
    · exact hx
  · split
    · exact hy
    · exact hx
theorem Ev_mono {j : Nat} {P Q : xRes2 → Prop} {o : rvS} (h : ∀ res, P res → Q res) (he : Ev tab info rets NM mth j P o) : Ev tab info rets NM mth j Q o := by
  have hE := Ev_clo tab info rets NM mth
  exact he (fun j P o => ∀ Q : xRes2 → Prop, (∀ res, P res → Q res) → Ev tab info rets NM mth j Q o) (fun j as aw P => ∀ Q : xRes2 → Prop, (∀ res, P res → Q res) → EvM tab info rets NM mth j as aw Q)
    ⟨fun j P o o' i len a1 a2 a3 wi h1 h2 h3 h4 Q hq => hE.1 j Q o o' i len a1 a2 a3 wi h1 h2 h3 (h4 Q hq),
     fun j P o o' idx len a1 a2 a3 wi h1 h2 h3 h4 h5 Q hq => hE.2.1 j Q o o' idx len a1 a2 a3 wi h1 h2 h3 h4 (h5 Q hq),
     fun j P pc al i rest aw kc ks idx len a1 a2 a3 wi h1 h2 h3 h4 h5 Q hq => hE.2.2.1 j Q pc al i rest aw kc ks idx len a1 a2 a3 wi h1 h2 h3 h4 (h5 Q hq),
     fun j P R pc al st aw kc ks j2 as rest h1 h2 h3 h4 Q hq => hE.2.2.2.1 j Q R pc al st aw kc ks j2 as rest h1 h2 (h3 R (fun _ q => q)) (fun res hr => h4 res hr Q hq),
     fun j P pc al st aw kc ks i len a1 a2 a3 wi h1 h2 h3 h4 h5 h6 Q hq => hE.2.2.2.2.1 j Q pc al st aw kc ks i len a1 a2 a3 wi h1 h2 h3 h4 h5 (hq _ h6),
     fun j P pc al k x y rest aw kc ks idx len a1 a2 a3 wi h1 h2 h3 h4 h5 h6 h7 h8 h9 ha hb hd Q hq => hE.2.2.2.2.2.1 j Q pc al k x y rest aw kc ks idx len a1 a2 a3 wi h1 h2 h3 h4 h5 h6 h7 h8 h9 ha hb (hd Q hq),
     fun j P pc al x rest aw kc ks idx len a1 a2 a3 wi h1 h2 h3 h4 h5 h6 h7 h8 h9 hd Q hq => hE.2.2.2.2.2.2.1 j Q pc al x rest aw kc ks idx len a1 a2 a3 wi h1 h2 h3 h4 h5 h6 h7 h8 h9 (fun n n1 n2 => hd n n1 n2 Q hq),
     fun j P as aw h1 h2 h3 h4 Q hq => hE.2.2.2.2.2.2.2 j Q as aw h1 h2 h3 (h4 Q hq)⟩ Q h
def EvX (tab : Nat → Nat → Option rvE) (info : Nat → rvM) (rets : Nat → Option FieldType) (NM : Nat) (mth : Nat → Option Nat) (j : Nat) (Post : xRes2 → Prop) (o : rvS) : Prop := exO o → Ev tab info rets NM mth j (fun res => Post res ∧ exR res) o
def EvXM (tab : Nat → Nat → Option rvE) (info : Nat → rvM) (rets : Nat → Option FieldType) (NM : Nat) (mth : Nat → Option Nat) (j : Nat) (as : List rvV) (aw : rvH) (Q : xRes2 → Prop) : Prop := exL as → exH aw → EvM tab info rets NM mth j as aw (fun res => Q res ∧ exR res)
theorem EvX_clo (hL : ∀ (j pc : Nat) (i : Instr) (len a1 a2 a3 wi : Nat), j < NM → tab j pc = some (i, len, a1, a2, a3, wi) → exRow i a1) : xClo tab info rets NM mth (EvX tab info rets NM mth) (EvXM tab info rets NM mth) := by
  have hE := Ev_clo tab info rets NM mth
  refine ⟨?_, ?_, ?_, ?_, ?_, ?_, ?_, ?_, ?_⟩
  · intro j Post o o' i len a1 a2 a3 wi hj ht hs hg he
    exact hE.1 j _ o o' i len a1 a2 a3 wi hj ht hs (hg (rvStep_ex (hL j o.1 i len a1 a2 a3 wi hj ht) he.1 he.2.1 he.2.2 hs))
  · intro j Post pc al st a aw kc ks hg he
    obtain ⟨e1, e2, e3⟩ := he
    obtain ⟨b1, b2⟩ := exL_hd e2
    obtain ⟨a1, a2⟩ := a
    have b1 : a1 = a2 := b1
    subst b1
    exact hg a1 (Int.le_refl _) (Int.le_refl _) b2 ⟨e1, e2, e3⟩
  · intro j Post o o' idx len a1 a2 a3 wi hj ht h8 hs hg he
    exact hE.2.1 j _ o o' idx len a1 a2 a3 wi hj ht h8 hs (hg (rvCopy_ex he.1 he.2.1 he.2.2 hs))
  · intro j Post pc al i rest aw kc ks idx len a1 a2 a3 wi hj ht h9 hb hg he
    exact hE.2.2.1 j _ pc al i rest aw kc ks idx len a1 a2 a3 wi hj ht h9 hb (hg ⟨he.1, exL_tl he.2.1, he.2.2⟩)
  · intro j Post Q pc al st aw kc ks j2 as rest hj hi hm hg he
    obtain ⟨x1, x2⟩ := ex_invA hi he.2.1
    exact hE.2.2.2.1 j _ (fun res => Q res ∧ exR res) pc al st aw kc ks j2 as rest hj hi (hm x1 he.2.2) (fun res hr => hg res hr.1 ⟨he.1, ex_app (ex_opt hr.2.1) x2, hr.2.2⟩)
  · intro j Post pc al st aw kc ks i len a1 a2 a3 wi hj ht hr h1 h2 hp he
    refine hE.2.2.2.2.1 j _ pc al st aw kc ks i len a1 a2 a3 wi hj ht hr h1 h2 ⟨hp, fun v hv => ?_, he.2.2⟩
    cases st with
    | nil => cases hv
    | cons w t =>
      have e : some w = some v := hv
      rw [← Option.some.inj e]
      exact exL_hd he.2.1
  · intro j Post pc al k x y rest aw kc ks idx len a1 a2 a3 wi hj ht h0 hm hk hx hy b1 b2 b3 b4 hg he
    exact hE.2.2.2.2.2.1 j _ pc al k x y rest aw kc ks idx len a1 a2 a3 wi hj ht h0 hm hk hx hy b1 b2 b3 b4 (hg ⟨he.1, exL_c ⟨rfl, ex_Mm hx hy⟩ (exL_tl (exL_tl he.2.1)), he.2.2⟩)
  · intro j Post pc al x rest aw kc ks idx len a1 a2 a3 wi hj ht h0 hm hx b1 b2 b3 b4 hg he
    exact hE.2.2.2.2.2.2.1 j _ pc al x rest aw kc ks idx len a1 a2 a3 wi hj ht h0 hm hx b1 b2 b3 b4 (fun n n1 n2 => hg n n1 n2 ⟨he.1, exL_c ⟨rfl, n1⟩ (exL_tl he.2.1), he.2.2⟩)
  · intro j Post as aw hj hm hl hg e1 e2
    refine hE.2.2.2.2.2.2.2 j _ as aw hj hm hl (hg ⟨ex_app (ex_ent e1) (fun v hv => ?_), (fun v hv => by cases hv), e2⟩)
    rw [(List.mem_replicate.mp hv).2]
    exact exV_U
/-- partial correctness: an exact run that ends, ends so -/
def PC (tab : Nat → Nat → Option rvE) (info : Nat → rvM) (rets : Nat → Option FieldType) (NM : Nat) (mth : Nat → Option Nat) (j : Nat) (Post : xRes2 → Prop) (o : rvS) : Prop := ∀ P, Ev tab info rets NM mth j P o → Ev tab info rets NM mth j (fun res => P res ∧ Post res) o
def PCM (tab : Nat → Nat → Option rvE) (info : Nat → rvM) (rets : Nat → Option FieldType) (NM : Nat) (mth : Nat → Option Nat) (j : Nat) (as : List rvV) (aw : rvH) (Q : xRes2 → Prop) : Prop := ∀ P, EvM tab info rets NM mth j as aw P → EvM tab info rets NM mth j as aw (fun res => P res ∧ Q res)
theorem PCM_ex (hL : ∀ (j pc : Nat) (i : Instr) (len a1 a2 a3 wi : Nat), j < NM → tab j pc = some (i, len, a1, a2, a3, wi) → exRow i a1) {j : Nat} {as : List rvV} {aw : rvH} (h1 : exL as) (h2 : exH aw) : PCM tab info rets NM mth j as aw exR := by
  intro P h
  have hX := EvX_clo (tab := tab) (info := info) (rets := rets) (NM := NM) (mth := mth) hL
  exact h (EvX tab info rets NM mth) (EvXM tab info rets NM mth) (xClo_e _ _ _ _ _ hX) h1 h2
/-- what is not a call, nor a return, goes on -/
theorem Ev_some {j : Nat} {P : xRes2 → Prop} {o : rvS} {i : Instr} {len a1 a2 a3 wi : Nat} (h : Ev tab info rets NM mth j P o) (ht : tab j o.1 = some (i, len, a1, a2, a3, wi)) (hn : ¬ evCr i) : ∃ o', rvStep rvTy rvNf rvTxt [] (info j).2.2.1 (info j).2.2.2.1 (info j).1 i a1 a2 a3 o.1 o.2.1 o.2.2.1 o.2.2.2.1 o.2.2.2.2.1 o.2.2.2.2.2 = some o' ∧ Ev tab info rets NM mth j P o' := by
  have hE := Ev_clo tab info rets NM mth
  have h2 := h (fun j P o => Ev tab info rets NM mth j P o ∧ ∀ (i : Instr) (len a1 a2 a3 wi : Nat), tab j o.1 = some (i, len, a1, a2, a3, wi) → ¬ evCr i → ∃ o', rvStep rvTy rvNf rvTxt [] (info j).2.2.1 (info j).2.2.2.1 (info j).1 i a1 a2 a3 o.1 o.2.1 o.2.2.1 o.2.2.2.1 o.2.2.2.2.1 o.2.2.2.2.2 = some o') (EvM tab info rets NM mth)
    ⟨fun j P o o' i len a1 a2 a3 wi h1 h2 h3 h4 => ⟨hE.1 j P o o' i len a1 a2 a3 wi h1 h2 h3 h4.1, fun i' len' a1' a2' a3' wi' ht' _ => by
        obtain ⟨rfl, -, rfl, rfl, rfl, -⟩ := ev_row h2 ht'
        exact ⟨o', h3⟩⟩,
     fun j P o o' idx len a1 a2 a3 wi h1 h2 h3 h4 h5 => ⟨hE.2.1 j P o o' idx len a1 a2 a3 wi h1 h2 h3 h4 h5.1, fun i' len' a1' a2' a3' wi' ht' hn' => by
        obtain ⟨rfl, -⟩ := ev_row h2 ht'
        exact absurd (Or.inl ⟨_, rfl⟩) hn'⟩,
     fun j P pc al i rest aw kc ks idx len a1 a2 a3 wi h1 h2 h3 h4 h5 => ⟨hE.2.2.1 j P pc al i rest aw kc ks idx len a1 a2 a3 wi h1 h2 h3 h4 h5.1, fun i' len' a1' a2' a3' wi' ht' hn' => by
        obtain ⟨rfl, -⟩ := ev_row h2 ht'
        exact absurd (Or.inr (Or.inr (Or.inl ⟨_, rfl⟩))) hn'⟩,
     fun j P R pc al st aw kc ks j2 as rest h1 h2 h3 h4 => ⟨hE.2.2.2.1 j P R pc al st aw kc ks j2 as rest h1 h2 h3 (fun res hr => (h4 res hr).1), fun i' len' a1' a2' a3' wi' ht' hn' => by
        obtain ⟨i, len, a2, a3, wi, ht, hc⟩ := xInv_cr h2
        obtain ⟨rfl, -⟩ := ev_row ht ht'
        rcases hc with ⟨hc, -⟩ | hc | ⟨hc, -⟩
        · exact absurd (Or.inl hc) hn'
        · exact absurd (Or.inr (Or.inl hc)) hn'
        · exact absurd (Or.inr (Or.inr (Or.inl hc))) hn'⟩,
     fun j P pc al st aw kc ks i len a1 a2 a3 wi h1 h2 h3 h4 h5 h6 => ⟨hE.2.2.2.2.1 j P pc al st aw kc ks i len a1 a2 a3 wi h1 h2 h3 h4 h5 h6, fun i' len' a1' a2' a3' wi' ht' hn' => by
        obtain ⟨rfl, -⟩ := ev_row h2 ht'
        exact absurd (Or.inr (Or.inr (Or.inr (ev_ret h3)))) hn'⟩,
     fun j P pc al k x y rest aw kc ks idx len a1 a2 a3 wi h1 h2 h3 h4 h5 h6 h7 h8 h9 ha hb hd => ⟨hE.2.2.2.2.2.1 j P pc al k x y rest aw kc ks idx len a1 a2 a3 wi h1 h2 h3 h4 h5 h6 h7 h8 h9 ha hb hd.1, fun i' len' a1' a2' a3' wi' ht' hn' => by
        obtain ⟨rfl, -⟩ := ev_row h2 ht'
        exact absurd (Or.inl ⟨_, rfl⟩) hn'⟩,
     fun j P pc al x rest aw kc ks idx len a1 a2 a3 wi h1 h2 h3 h4 h5 h6 h7 h8 h9 hd => ⟨hE.2.2.2.2.2.2.1 j P pc al x rest aw kc ks idx len a1 a2 a3 wi h1 h2 h3 h4 h5 h6 h7 h8 h9 (fun n n1 n2 => (hd n n1 n2).1), fun i' len' a1' a2' a3' wi' ht' hn' => by
        obtain ⟨rfl, -⟩ := ev_row h2 ht'
        exact absurd (Or.inl ⟨_, rfl⟩) hn'⟩,
     fun j P as aw h1 h2 h3 h4 => hE.2.2.2.2.2.2.2 j P as aw h1 h2 h3 h4.1⟩
  obtain ⟨o', ho⟩ := h2.2 i len a1 a2 a3 wi ht hn
  exact ⟨o', ho, (Ev_inv h).1 i len a1 a2 a3 wi o' ht ho⟩
/-- a call of a method that is no step of its own -/
def evCa (mth : Nat → Option Nat) (i : Instr) (a1 a3 : Nat) : Prop := ((∃ x, i = .invokestatic x) ∧ Nat.beq a3 8 = false ∧ mth a1 = none) ∨ (∃ x, i = .invokevirtual x) ∨ ((∃ x, i = .invokespecial x) ∧ Nat.beq a3 9 = false)
theorem Ev_call {j : Nat} {P : xRes2 → Prop} {o : rvS} {i : Instr} {len a1 a2 a3 wi : Nat} (h : Ev tab info rets NM mth j P o) (ht : tab j o.1 = some (i, len, a1, a2, a3, wi)) (hn : evCa mth i a1 a3) : ∃ as rest, xInv tab info j o.1 o.2.2.1 o.2.2.2.1 o.2.2.2.2.1 o.2.2.2.2.2 a1 as rest ∧ mth a1 = none ∧ j < NM := by
  have hE := Ev_clo tab info rets NM mth
  have h2 := h (fun j P o => Ev tab info rets NM mth j P o ∧ ∀ (i : Instr) (len a1 a2 a3 wi : Nat), tab j o.1 = some (i, len, a1, a2, a3, wi) → evCa mth i a1 a3 → ∃ as rest, xInv tab info j o.1 o.2.2.1 o.2.2.2.1 o.2.2.2.2.1 o.2.2.2.2.2 a1 as rest ∧ mth a1 = none ∧ j < NM) (EvM tab info rets NM mth)
    ⟨fun j P o o' i len a1 a2 a3 wi h1 h2 h3 h4 => ⟨hE.1 j P o o' i len a1 a2 a3 wi h1 h2 h3 h4.1, fun i' len' a1' a2' a3' wi' ht' hn' => by
        obtain ⟨rfl, -, rfl, rfl, rfl, -⟩ := ev_row h2 ht'
        rcases hn' with ⟨hc, -⟩ | hc | ⟨hc, -⟩
        · exact absurd h3 (fun q => ev_no (Or.inl hc) q)
        · exact absurd h3 (fun q => ev_no (Or.inr (Or.inl hc)) q)
        · exact absurd h3 (fun q => ev_no (Or.inr (Or.inr (Or.inl hc))) q)⟩,
     fun j P o o' idx len a1 a2 a3 wi h1 h2 h3 h4 h5 => ⟨hE.2.1 j P o o' idx len a1 a2 a3 wi h1 h2 h3 h4 h5.1, fun i' len' a1' a2' a3' wi' ht' hn' => by
        obtain ⟨rfl, -, rfl, rfl, rfl, -⟩ := ev_row h2 ht'
        rcases hn' with ⟨-, hc, -⟩ | ⟨x, hc⟩ | ⟨⟨x, hc⟩, -⟩
        · rw [h3] at hc; cases hc
        · cases hc
        · cases hc⟩,
     fun j P pc al i rest aw kc ks idx len a1 a2 a3 wi h1 h2 h3 h4 h5 => ⟨hE.2.2.1 j P pc al i rest aw kc ks idx len a1 a2 a3 wi h1 h2 h3 h4 h5.1, fun i' len' a1' a2' a3' wi' ht' hn' => by
        obtain ⟨rfl, -, rfl, rfl, rfl, -⟩ := ev_row h2 ht'
        rcases hn' with ⟨⟨x, hc⟩, -⟩ | ⟨x, hc⟩ | ⟨-, hc⟩
        · cases hc
        · cases hc
        · rw [h3] at hc; cases hc⟩,
     fun j P R pc al st aw kc ks j2 as rest h1 h2 h3 h4 => ⟨hE.2.2.2.1 j P R pc al st aw kc ks j2 as rest h1 h2 h3 (fun res hr => (h4 res hr).1), fun i' len' a1' a2' a3' wi' ht' hn' => by
        obtain ⟨i, len, a2, a3, wi, ht, hc⟩ := xInv_cr h2
        obtain ⟨rfl, -, rfl, rfl, rfl, -⟩ := ev_row ht ht'
        exact ⟨as, rest, h2, (EvM_none h3).1, h1⟩⟩,
     fun j P pc al st aw kc ks i len a1 a2 a3 wi h1 h2 h3 h4 h5 h6 => ⟨hE.2.2.2.2.1 j P pc al st aw kc ks i len a1 a2 a3 wi h1 h2 h3 h4 h5 h6, fun i' len' a1' a2' a3' wi' ht' hn' => by
        obtain ⟨rfl, -⟩ := ev_row h2 ht'
        rcases hn' with ⟨⟨x, rfl⟩, -⟩ | ⟨x, rfl⟩ | ⟨⟨x, rfl⟩, -⟩
        all_goals rcases ev_ret h3 with q | q | q <;> cases q⟩,
     fun j P pc al k x y rest aw kc ks idx len a1 a2 a3 wi h1 h2 h3 h4 h5 h6 h7 h8 h9 ha hb hd => ⟨hE.2.2.2.2.2.1 j P pc al k x y rest aw kc ks idx len a1 a2 a3 wi h1 h2 h3 h4 h5 h6 h7 h8 h9 ha hb hd.1, fun i' len' a1' a2' a3' wi' ht' hn' => by
        obtain ⟨rfl, -, rfl, rfl, rfl, -⟩ := ev_row h2 ht'
        rcases hn' with ⟨-, -, hc⟩ | ⟨x, hc⟩ | ⟨⟨x, hc⟩, -⟩
        · rw [h4] at hc; cases hc
        · cases hc
        · cases hc⟩,
     fun j P pc al x rest aw kc ks idx len a1 a2 a3 wi h1 h2 h3 h4 h5 h6 h7 h8 h9 hd => ⟨hE.2.2.2.2.2.2.1 j P pc al x rest aw kc ks idx len a1 a2 a3 wi h1 h2 h3 h4 h5 h6 h7 h8 h9 (fun n n1 n2 => (hd n n1 n2).1), fun i' len' a1' a2' a3' wi' ht' hn' => by
        obtain ⟨rfl, -, rfl, rfl, rfl, -⟩ := ev_row h2 ht'
        rcases hn' with ⟨-, -, hc⟩ | ⟨x, hc⟩ | ⟨⟨x, hc⟩, -⟩
        · rw [h4] at hc; cases hc
        · cases hc
        · cases hc⟩,
     fun j P as aw h1 h2 h3 h4 => hE.2.2.2.2.2.2.2 j P as aw h1 h2 h3 h4.1⟩
  exact h2.2 i len a1 a2 a3 wi ht hn
/-- a return: room is left -/
theorem Ev_room {j : Nat} {P : xRes2 → Prop} {o : rvS} {i : Instr} {len a1 a2 a3 wi : Nat} (h : Ev tab info rets NM mth j P o) (ht : tab j o.1 = some (i, len, a1, a2, a3, wi)) (hn : i = .ireturn ∨ i = .lreturn ∨ i = .return_) : xRetP rets j i o.2.2.1 ∧ o.2.2.2.2.1 ≤ (info j).2.2.1 ∧ o.2.2.2.2.2 ≤ (info j).2.2.2.1 ∧ j < NM := by
  have hE := Ev_clo tab info rets NM mth
  have h2 := h (fun j P o => Ev tab info rets NM mth j P o ∧ ∀ (i : Instr) (len a1 a2 a3 wi : Nat), tab j o.1 = some (i, len, a1, a2, a3, wi) → (i = .ireturn ∨ i = .lreturn ∨ i = .return_) → xRetP rets j i o.2.2.1 ∧ o.2.2.2.2.1 ≤ (info j).2.2.1 ∧ o.2.2.2.2.2 ≤ (info j).2.2.2.1 ∧ j < NM) (EvM tab info rets NM mth)
    ⟨fun j P o o' i len a1 a2 a3 wi h1 h2 h3 h4 => ⟨hE.1 j P o o' i len a1 a2 a3 wi h1 h2 h3 h4.1, fun i' len' a1' a2' a3' wi' ht' hn' => by
        obtain ⟨rfl, -, rfl, rfl, rfl, -⟩ := ev_row h2 ht'
        exact absurd h3 (fun q => ev_no (Or.inr (Or.inr (Or.inr hn'))) q)⟩,
     fun j P o o' idx len a1 a2 a3 wi h1 h2 h3 h4 h5 => ⟨hE.2.1 j P o o' idx len a1 a2 a3 wi h1 h2 h3 h4 h5.1, fun i' len' a1' a2' a3' wi' ht' hn' => by
        obtain ⟨rfl, -⟩ := ev_row h2 ht'
        rcases hn' with q | q | q <;> cases q⟩,
     fun j P pc al i rest aw kc ks idx len a1 a2 a3 wi h1 h2 h3 h4 h5 => ⟨hE.2.2.1 j P pc al i rest aw kc ks idx len a1 a2 a3 wi h1 h2 h3 h4 h5.1, fun i' len' a1' a2' a3' wi' ht' hn' => by
        obtain ⟨rfl, -⟩ := ev_row h2 ht'
        rcases hn' with q | q | q <;> cases q⟩,
     fun j P R pc al st aw kc ks j2 as rest h1 h2 h3 h4 => ⟨hE.2.2.2.1 j P R pc al st aw kc ks j2 as rest h1 h2 h3 (fun res hr => (h4 res hr).1), fun i' len' a1' a2' a3' wi' ht' hn' => by
        obtain ⟨i, len, a2, a3, wi, ht, hc⟩ := xInv_cr h2
        obtain ⟨rfl, -⟩ := ev_row ht ht'
        rcases hc with ⟨⟨x, rfl⟩, -⟩ | ⟨x, rfl⟩ | ⟨⟨x, rfl⟩, -⟩
        all_goals rcases hn' with q | q | q <;> cases q⟩,
     fun j P pc al st aw kc ks i len a1 a2 a3 wi h1 h2 h3 h4 h5 h6 => ⟨hE.2.2.2.2.1 j P pc al st aw kc ks i len a1 a2 a3 wi h1 h2 h3 h4 h5 h6, fun i' len' a1' a2' a3' wi' ht' hn' => by
        obtain ⟨rfl, -⟩ := ev_row h2 ht'
        exact ⟨h3, h4, h5, h1⟩⟩,
     fun j P pc al k x y rest aw kc ks idx len a1 a2 a3 wi h1 h2 h3 h4 h5 h6 h7 h8 h9 ha hb hd => ⟨hE.2.2.2.2.2.1 j P pc al k x y rest aw kc ks idx len a1 a2 a3 wi h1 h2 h3 h4 h5 h6 h7 h8 h9 ha hb hd.1, fun i' len' a1' a2' a3' wi' ht' hn' => by
        obtain ⟨rfl, -⟩ := ev_row h2 ht'
        rcases hn' with q | q | q <;> cases q⟩,
     fun j P pc al x rest aw kc ks idx len a1 a2 a3 wi h1 h2 h3 h4 h5 h6 h7 h8 h9 hd => ⟨hE.2.2.2.2.2.2.1 j P pc al x rest aw kc ks idx len a1 a2 a3 wi h1 h2 h3 h4 h5 h6 h7 h8 h9 (fun n n1 n2 => (hd n n1 n2).1), fun i' len' a1' a2' a3' wi' ht' hn' => by
        obtain ⟨rfl, -⟩ := ev_row h2 ht'
        rcases hn' with q | q | q <;> cases q⟩,
     fun j P as aw h1 h2 h3 h4 => hE.2.2.2.2.2.2.2 j P as aw h1 h2 h3 h4.1⟩
  exact h2.2 i len a1 a2 a3 wi ht hn
/-- Object's constructor: room is left -/
theorem Ev_obj {j : Nat} {P : xRes2 → Prop} {o : rvS} {idx len a1 a2 a3 wi : Nat} (h : Ev tab info rets NM mth j P o) (ht : tab j o.1 = some (.invokespecial idx, len, a1, a2, a3, wi)) (hn : Nat.beq a3 9 = true) : (Nat.ble 1 (info j).2.1 && Nat.ble (rvWd o.2.2.1.tail + 12) (info j).2.2.2.2.1) = true ∧ j < NM := by
  have hE := Ev_clo tab info rets NM mth
  have h2 := h (fun j P o => Ev tab info rets NM mth j P o ∧ ∀ (i : Instr) (len a1 a2 a3 wi : Nat), tab j o.1 = some (i, len, a1, a2, a3, wi) → (∃ x, i = .invokespecial x) → Nat.beq a3 9 = true → (Nat.ble 1 (info j).2.1 && Nat.ble (rvWd o.2.2.1.tail + 12) (info j).2.2.2.2.1) = true ∧ j < NM) (EvM tab info rets NM mth)
    ⟨fun j P o o' i len a1 a2 a3 wi h1 h2 h3 h4 => ⟨hE.1 j P o o' i len a1 a2 a3 wi h1 h2 h3 h4.1, fun i' len' a1' a2' a3' wi' ht' hi' hn' => by
        obtain ⟨rfl, -, rfl, rfl, rfl, -⟩ := ev_row h2 ht'
        exact absurd h3 (fun q => ev_no (Or.inr (Or.inr (Or.inl hi'))) q)⟩,
     fun j P o o' idx len a1 a2 a3 wi h1 h2 h3 h4 h5 => ⟨hE.2.1 j P o o' idx len a1 a2 a3 wi h1 h2 h3 h4 h5.1, fun i' len' a1' a2' a3' wi' ht' hi' hn' => by
        obtain ⟨rfl, -⟩ := ev_row h2 ht'
        obtain ⟨x, e⟩ := hi'
        cases e⟩,
     fun j P pc al i rest aw kc ks idx len a1 a2 a3 wi h1 h2 h3 h4 h5 => ⟨hE.2.2.1 j P pc al i rest aw kc ks idx len a1 a2 a3 wi h1 h2 h3 h4 h5.1, fun i' len' a1' a2' a3' wi' ht' hi' hn' => by
        exact ⟨h4, h1⟩⟩,
     fun j P R pc al st aw kc ks j2 as rest h1 h2 h3 h4 => ⟨hE.2.2.2.1 j P R pc al st aw kc ks j2 as rest h1 h2 h3 (fun res hr => (h4 res hr).1), fun i' len' a1' a2' a3' wi' ht' hi' hn' => by
        obtain ⟨i, len, a2, a3, wi, ht, hc⟩ := xInv_cr h2
        obtain ⟨rfl, -, -, -, rfl, -⟩ := ev_row ht ht'
        obtain ⟨x, e⟩ := hi'
        rcases hc with ⟨⟨y, q⟩, -⟩ | ⟨y, q⟩ | ⟨-, q⟩
        · rw [e] at q; cases q
        · rw [e] at q; cases q
        · rw [hn'] at q; cases q⟩,
     fun j P pc al st aw kc ks i len a1 a2 a3 wi h1 h2 h3 h4 h5 h6 => ⟨hE.2.2.2.2.1 j P pc al st aw kc ks i len a1 a2 a3 wi h1 h2 h3 h4 h5 h6, fun i' len' a1' a2' a3' wi' ht' hi' hn' => by
        obtain ⟨rfl, -⟩ := ev_row h2 ht'
        obtain ⟨x, e⟩ := hi'
        rcases ev_ret h3 with q | q | q <;> (rw [q] at e; cases e)⟩,
     fun j P pc al k x y rest aw kc ks idx len a1 a2 a3 wi h1 h2 h3 h4 h5 h6 h7 h8 h9 ha hb hd => ⟨hE.2.2.2.2.2.1 j P pc al k x y rest aw kc ks idx len a1 a2 a3 wi h1 h2 h3 h4 h5 h6 h7 h8 h9 ha hb hd.1, fun i' len' a1' a2' a3' wi' ht' hi' hn' => by
        obtain ⟨rfl, -⟩ := ev_row h2 ht'
        obtain ⟨x, e⟩ := hi'
        cases e⟩,
     fun j P pc al x rest aw kc ks idx len a1 a2 a3 wi h1 h2 h3 h4 h5 h6 h7 h8 h9 hd => ⟨hE.2.2.2.2.2.2.1 j P pc al x rest aw kc ks idx len a1 a2 a3 wi h1 h2 h3 h4 h5 h6 h7 h8 h9 (fun n n1 n2 => (hd n n1 n2).1), fun i' len' a1' a2' a3' wi' ht' hi' hn' => by
        obtain ⟨rfl, -⟩ := ev_row h2 ht'
        obtain ⟨x, e⟩ := hi'
        cases e⟩,
     fun j P as aw h1 h2 h3 h4 => hE.2.2.2.2.2.2.2 j P as aw h1 h2 h3 h4.1⟩
  exact h2.2 _ len a1 a2 a3 wi ht ⟨_, rfl⟩ hn
/-- Math.max, Math.min: room is left -/
theorem Ev_mm {j : Nat} {P : xRes2 → Prop} {o : rvS} {i : Instr} {len a1 a2 a3 wi : Nat} (h : Ev tab info rets NM mth j P o) (ht : tab j o.1 = some (i, len, a1, a2, a3, wi)) (hn : ∃ x k, i = .invokestatic x ∧ Nat.beq a3 0 = true ∧ mth a1 = some k ∧ k < 2) : 1 ≤ (info j).2.1 ∧ (rvWd (o.2.2.1.drop 2) + 13 ≤ (info j).2.2.2.2.1) ∧ o.2.2.2.2.1 ≤ (info j).2.2.1 ∧ o.2.2.2.2.2 ≤ (info j).2.2.2.1 := by
  have hE := Ev_clo tab info rets NM mth
  have h2 := h (fun j P o => Ev tab info rets NM mth j P o ∧ ∀ (i : Instr) (len a1 a2 a3 wi : Nat), tab j o.1 = some (i, len, a1, a2, a3, wi) → (∃ x k, i = .invokestatic x ∧ Nat.beq a3 0 = true ∧ mth a1 = some k ∧ k < 2) → 1 ≤ (info j).2.1 ∧ (rvWd (o.2.2.1.drop 2) + 13 ≤ (info j).2.2.2.2.1) ∧ o.2.2.2.2.1 ≤ (info j).2.2.1 ∧ o.2.2.2.2.2 ≤ (info j).2.2.2.1) (EvM tab info rets NM mth)
    ⟨fun j P o o' i len a1 a2 a3 wi h1 h2 h3 h4 => ⟨hE.1 j P o o' i len a1 a2 a3 wi h1 h2 h3 h4.1, fun i' len' a1' a2' a3' wi' ht' hn' => by
        obtain ⟨rfl, -, rfl, rfl, rfl, -⟩ := ev_row h2 ht'
        obtain ⟨x, k, rfl, -⟩ := hn'
        exact absurd h3 (fun q => ev_no (Or.inl ⟨_, rfl⟩) q)⟩,
     fun j P o o' idx len a1 a2 a3 wi h1 h2 h3 h4 h5 => ⟨hE.2.1 j P o o' idx len a1 a2 a3 wi h1 h2 h3 h4 h5.1, fun i' len' a1' a2' a3' wi' ht' hn' => by
        obtain ⟨-, -, -, -, rfl, -⟩ := ev_row h2 ht'
        obtain ⟨x, k, -, e0, -⟩ := hn'
        exact absurd (ev_89 h3 e0) id⟩,
     fun j P pc al i rest aw kc ks idx len a1 a2 a3 wi h1 h2 h3 h4 h5 => ⟨hE.2.2.1 j P pc al i rest aw kc ks idx len a1 a2 a3 wi h1 h2 h3 h4 h5.1, fun i' len' a1' a2' a3' wi' ht' hn' => by
        obtain ⟨rfl, -⟩ := ev_row h2 ht'
        obtain ⟨x, k, e, -⟩ := hn'
        cases e⟩,
     fun j P R pc al st aw kc ks j2 as rest h1 h2 h3 h4 => ⟨hE.2.2.2.1 j P R pc al st aw kc ks j2 as rest h1 h2 h3 (fun res hr => (h4 res hr).1), fun i' len' a1' a2' a3' wi' ht' hn' => by
        obtain ⟨i, len, a2, a3, wi, ht, hc⟩ := xInv_cr h2
        obtain ⟨rfl, -⟩ := ev_row ht ht'
        obtain ⟨x, k, -, -, e, -⟩ := hn'
        obtain ⟨-, -, rfl, -⟩ := ev_row ht ht'
        rw [(EvM_none h3).1] at e
        cases e⟩,
     fun j P pc al st aw kc ks i len a1 a2 a3 wi h1 h2 h3 h4 h5 h6 => ⟨hE.2.2.2.2.1 j P pc al st aw kc ks i len a1 a2 a3 wi h1 h2 h3 h4 h5 h6, fun i' len' a1' a2' a3' wi' ht' hn' => by
        obtain ⟨rfl, -⟩ := ev_row h2 ht'
        obtain ⟨x, k, e, -⟩ := hn'
        rcases ev_ret h3 with q | q | q <;> (rw [q] at e; cases e)⟩,
     fun j P pc al k x y rest aw kc ks idx len a1 a2 a3 wi h1 h2 h3 h4 h5 h6 h7 h8 h9 ha hb hd => ⟨hE.2.2.2.2.2.1 j P pc al k x y rest aw kc ks idx len a1 a2 a3 wi h1 h2 h3 h4 h5 h6 h7 h8 h9 ha hb hd.1, fun i' len' a1' a2' a3' wi' ht' hn' => by
        obtain ⟨-, -, rfl, -⟩ := ev_row h2 ht'
        exact ⟨h8, h9, ha, hb⟩⟩,
     fun j P pc al x rest aw kc ks idx len a1 a2 a3 wi h1 h2 h3 h4 h5 h6 h7 h8 h9 hd => ⟨hE.2.2.2.2.2.2.1 j P pc al x rest aw kc ks idx len a1 a2 a3 wi h1 h2 h3 h4 h5 h6 h7 h8 h9 (fun n n1 n2 => (hd n n1 n2).1), fun i' len' a1' a2' a3' wi' ht' hn' => by
        obtain ⟨-, -, rfl, -⟩ := ev_row h2 ht'
        obtain ⟨x2, k2, -, -, e, e2⟩ := hn'
        rw [h4] at e
        injection e with e
        exact absurd e2 (by omega)⟩,
     fun j P as aw h1 h2 h3 h4 => hE.2.2.2.2.2.2.2 j P as aw h1 h2 h3 h4.1⟩
  exact h2.2 i len a1 a2 a3 wi ht hn
end RSC
