/-! A method above, held against its table (by hand). -/
/-- a call: whether the trial has the life's town behind it -/
def mvCall (d : Bool) (j2 n : Nat) (p : List (Option Nat)) (lv : Bool) : Option Bool :=
  bif ntS j2 then some lv
  else bif Nat.beq j2 185 && Nat.beq n 1 then (match p with
    | some 1 :: some 2 :: _ => some true
    | some 2 :: some 1 :: _ => bif lv then some true else none
    | _ => none)
  else bif Nat.beq j2 256 && Nat.beq n 1 then (match p with
    | some 1 :: some 3 :: _ => some lv
    | some 2 :: some 3 :: _ => bif lv then some true else none
    | _ => none)
  else bif Nat.beq j2 273 && Nat.beq n 1 then (match p with
    | some 1 :: some 3 :: _ => some lv
    | _ => none)
  else bif Nat.beq j2 255 && (Nat.beq n 3 && d) then (match p with
    | _ :: _ :: _ :: some 0 :: _ => some false
    | _ => none)
  else none
def mvRow (d : Bool) (pat : Nat → List (Option Nat)) (lev : Nat → Bool) (pc : Nat) (e : rvE) : Bool := noX e && (match e with
  | (.invokevirtual _, _, a1, a2, _, _) => (match mvCall d a1 a2 (pat pc) (lev pc) with
    | some l => (pat (pc + 3)).isEmpty && (!lev (pc + 3) || l)
    | none => false)
  | (.invokestatic _, _, a1, _, a3, _) => !Nat.beq a3 8 && (ntS a1 && ((pat (pc + 3)).isEmpty && (!lev (pc + 3) || lev pc)))
  | (.invokespecial _, _, _, _, _, _) => false
  | (.ireturn, _, _, _, _, _) => true
  | (.lreturn, _, _, _, _, _) => true
  | (.return_, _, _, _, _, _) => true
  | (i, _, a1, a2, _, _) => hmOk i a1 a2 && (lcB i && sqB i pc (fun t => (!lev t || lev pc) && ((pat t).isEmpty || decide (pat t = mvTr i a1 a2 (pat pc))))))
def mvOk (d : Bool) (j : Nat) (pat : Nat → List (Option Nat)) (lev : Nat → Bool) : Bool := (rvEn j).all (fun ch => ch.2.all (fun q => mvRow d pat lev q.1 q.2)) && ((pat 0).isEmpty && !lev 0)
section MV
variable {L B P W t0 X : Nat} {Z : Nat → Prop} {E : Nat → Nat → rvV → Prop}
/-- the places by number -/
def adX (X L B P : Nat) : Nat → Nat := fun n => match n with
  | 0 => X
  | 1 => L
  | 2 => B
  | _ => P
def mvR (X L B P W : Nat) (Z : Nat → Prop) (E : Nat → Nat → rvV → Prop) (t0 : Nat) (pat : Nat → List (Option Nat)) (lev : Nat → Bool) (o : rvS) : Prop := o.2.1[0]? = some (rf X) ∧ TI L B P W Z E t0 (lev o.1) o.2.2.2.1 ∧ Mt (adX X L B P) (pat o.1) o.2.2.1
theorem TI_mono {l l' : Bool} {aw : rvH} (h : TI L B P W Z E t0 l aw) (hl : (!l' || l) = true) : TI L B P W Z E t0 l' aw := by
  cases l' with
  | false => exact TI_lv h
  | true =>
    have hl : l = true := hl
    rw [hl] at h
    exact h
theorem Mt_e {ad : Nat → Nat} {p : List (Option Nat)} {st : List rvV} (h : p.isEmpty = true) : Mt ad p st := by
  cases p with
  | nil => exact Mt_nil
  | cons x t => cases h
theorem pop1 {st as rest : List rvV} (h : rvPop 1 st [] = some (as, rest)) : ∃ v, st = v :: rest ∧ as = [v] := by
  cases st with
  | nil => cases h
  | cons v t =>
    have h := Option.some.inj h
    obtain ⟨h1, h2⟩ := Prod.mk.inj h
    exact ⟨v, by rw [h2], h1.symm⟩
theorem pop3 {st as rest : List rvV} (h : rvPop 3 st [] = some (as, rest)) : ∃ a b c, st = c :: b :: a :: rest ∧ as = [a, b, c] := by
  rcases st with _ | ⟨c, _ | ⟨b, _ | ⟨a, t⟩⟩⟩
  · cases h
  · cases h
  · cases h
  · have h := Option.some.inj h
    obtain ⟨h1, h2⟩ := Prod.mk.inj h
    exact ⟨a, b, c, by rw [h2], h1.symm⟩
theorem b_and {a b : Bool} (h : (a && b) = true) : a = true ∧ b = true := rv_and h
theorem mv_call {d : Bool} (hs : SC L B P W Z E) (hX : ∀ r, 1 ≤ r → r ≤ 3 → E X r (rf (adX X L B P r))) (hD : d = true → ∀ (as : List rvV) (aw : rvH), TI L B P W Z E t0 false aw → PCM rvTab rvInf rvRet 316 rvMth 255 (rf X :: as) aw (fun res => TI L B P W Z E t0 false res.2)) {j2 n : Nat} {st as0 rest : List rvV} {v : rvV} {p : List (Option Nat)} {lv l : Bool} {aw : rvH} (hc : mvCall d j2 n p lv = some l) (hp : rvPop n st [] = some (as0, v :: rest)) (hm : Mt (adX X L B P) p st) (h : TI L B P W Z E t0 lv aw) : PCM rvTab rvInf rvRet 316 rvMth j2 (v :: as0) aw (fun res => TI L B P W Z E t0 l res.2) := by
  unfold mvCall at hc
  have mono : ∀ {Q Q' : xRes2 → Prop}, (∀ res, Q res → Q' res) → PCM rvTab rvInf rvRet 316 rvMth j2 (v :: as0) aw Q → PCM rvTab rvInf rvRet 316 rvMth j2 (v :: as0) aw Q' := fun hq hpc P hP => EvM_mono (fun res hr => ⟨hr.1, hq res hr.2⟩) (hpc P hP)
  have two : n = 1 → ∀ a b : Nat, p[0]? = some (some a) → p[1]? = some (some b) → as0 = [rf (adX X L B P a)] ∧ v = rf (adX X L B P b) := by
    intro hn a b h0 h1
    subst hn
    obtain ⟨w, e1, e2⟩ := pop1 hp
    have q0 := hm 0 a h0
    have q1 := hm 1 b h1
    rw [e1] at q0 q1
    have q0 : w = _ := Option.some.inj q0
    have q1 : v = _ := Option.some.inj q1
    exact ⟨by rw [e2, q0], q1⟩
  have s5 := hs.2.2.2.2.1
  have s6 := hs.2.2.2.2.2.1
  cases c0 : ntS j2 with
  | true =>
    rw [c0, cond_true] at hc
    have hc := Option.some.inj hc
    subst hc
    exact mono (fun res hr => TI_Fr h hr) (sp_neutral c0 _ _)
  | false =>
    rw [c0, cond_false] at hc
    cases c1 : (Nat.beq j2 185 && Nat.beq n 1) with
    | true =>
      rw [c1, cond_true] at hc
      obtain ⟨b1, b2⟩ := b_and c1
      have b1 := rv_beq b1
      have b2 := rv_beq b2
      subst b1
      split at hc
      · rename_i t
        obtain ⟨e1, e2⟩ := two b2 1 2 rfl rfl
        rw [e1, e2]
        have hc := Option.some.inj hc
        rw [← hc]
        rw [e1, e2] at mono
        exact mono (fun res hr => TI_cfB hs h h.2.1 hr) (sp_copyFrom _ _ aw)
      · rename_i t
        obtain ⟨e1, e2⟩ := two b2 2 1 rfl rfl
        rw [e1, e2]
        cases lv with
        | false => cases hc
        | true =>
          have hc := Option.some.inj hc
          rw [← hc]
          rw [e1, e2] at mono
          exact mono (fun res hr => TI_cfL hs h (h.2.2.1 rfl) hr) (sp_copyFrom _ _ aw)
      · cases hc
    | false =>
      rw [c1, cond_false] at hc
      cases c2 : (Nat.beq j2 256 && Nat.beq n 1) with
      | true =>
        rw [c2, cond_true] at hc
        obtain ⟨b1, b2⟩ := b_and c2
        have b1 := rv_beq b1
        have b2 := rv_beq b2
        subst b1
        split at hc
        · rename_i t
          obtain ⟨e1, e2⟩ := two b2 1 3 rfl rfl
          rw [e1, e2]
          have hc := Option.some.inj hc
          rw [← hc]
          exact sp_keep hs h h.2.1 (Ne.symm s5)
        · rename_i t
          obtain ⟨e1, e2⟩ := two b2 2 3 rfl rfl
          rw [e1, e2]
          cases lv with
          | false => cases hc
          | true =>
            have hc := Option.some.inj hc
            rw [← hc]
            exact sp_keep hs h (h.2.2.1 rfl) (Ne.symm s6)
        · cases hc
      | false =>
        rw [c2, cond_false] at hc
        cases c3 : (Nat.beq j2 273 && Nat.beq n 1) with
        | true =>
          rw [c3, cond_true] at hc
          obtain ⟨b1, b2⟩ := b_and c3
          have b1 := rv_beq b1
          have b2 := rv_beq b2
          subst b1
          split at hc
          · rename_i t
            obtain ⟨e1, e2⟩ := two b2 1 3 rfl rfl
            rw [e1, e2]
            have hc := Option.some.inj hc
            rw [← hc]
            exact sp_back hs h
          · cases hc
        | false =>
          rw [c3, cond_false] at hc
          cases c4 : (Nat.beq j2 255 && (Nat.beq n 3 && d)) with
          | false => rw [c4] at hc; cases hc
          | true =>
            rw [c4, cond_true] at hc
            obtain ⟨b1, b2⟩ := b_and c4
            obtain ⟨b2, b3⟩ := b_and b2
            have b1 := rv_beq b1
            have b2 := rv_beq b2
            subst b1; subst b2
            split at hc
            · rename_i x y z t
              obtain ⟨a, b, c, e1, e2⟩ := pop3 hp
              have q := hm 3 0 rfl
              rw [e1] at q
              have q : v = _ := Option.some.inj q
              have hc := Option.some.inj hc
              rw [← hc, q]
              exact hD b3 as0 aw (TI_lv h)
            · cases hc
theorem mv_ok {d : Bool} (hs : SC L B P W Z E) (hX : ∀ r, 1 ≤ r → r ≤ 3 → E X r (rf (adX X L B P r))) (hD : d = true → ∀ (as : List rvV) (aw : rvH), TI L B P W Z E t0 false aw → PCM rvTab rvInf rvRet 316 rvMth 255 (rf X :: as) aw (fun res => TI L B P W Z E t0 false res.2)) {j : Nat} {pat : Nat → List (Option Nat)} {lev : Nat → Bool} (hk : mvOk d j pat lev = true) {as : List rvV} {aw : rvH} (h : TI L B P W Z E t0 false aw) : PCM rvTab rvInf rvRet 316 rvMth j (rf X :: as) aw (fun res => TI L B P W Z E t0 false res.2) := by
  obtain ⟨hk, hk2⟩ := b_and hk
  obtain ⟨hk2, hk3⟩ := b_and hk2
  have hk3 : lev 0 = false := by
    cases e : lev 0 with
    | false => rfl
    | true => rw [e] at hk3; cases hk3
  have hrow : ∀ {pc : Nat} {e : rvE}, rvTab j pc = some e → mvRow d pat lev pc e = true := fun ht => rows_all (f := mvRow d pat lev) hk ht
  have hfld : ∀ {l : Bool} {aw : rvH}, TI L B P W Z E t0 l aw → ∀ r, 1 ≤ r → r ≤ 3 → hV aw (adX X L B P 0) r (rf (adX X L B P r)) := fun h r h1 h2 => h.1 _ _ _ (hX r h1 h2)
  refine PCM_of (fun _ _ => ?_)
  refine T_run (R := mvR X L B P W Z E t0 pat lev) ?_ ?_ ?_ ?_ ?_ _ ⟨rfl, by rw [show lev (0 : Nat) = false from hk3]; exact h, Mt_e hk2⟩
  · intro pc idx len a1 a2 a3 wi
    have q : ∀ e, rvTab j pc = some e → noX e = true := fun e ht => (b_and (hrow ht)).1
    refine ⟨fun ht => ?_, fun ht => ?_⟩
    · have : (!Nat.beq a3 9) = true := q _ ht
      cases hb : Nat.beq a3 9 with
      | false => rfl
      | true => rw [hb] at this; cases this
    · have : ((rvMth a1).isNone || Nat.beq a3 8) = true := q _ ht
      rcases rv_or' this with e | e
      · left
        cases hm : rvMth a1 with
        | none => rfl
        | some k => rw [hm] at e; cases e
      · exact Or.inr e
  · intro o o' i len a1 a2 a3 wi ht hst hr
    obtain ⟨r1, r2, r3⟩ := hr
    have hro := (b_and (hrow ht)).2
    have hz := tStep hst
    have gen : (hmOk i a1 a2 && (lcB i && sqB i o.1 (fun t => (!lev t || lev o.1) && ((pat t).isEmpty || decide (pat t = mvTr i a1 a2 (pat o.1)))))) = true → mvR X L B P W Z E t0 pat lev o' := by
      intro hg
      obtain ⟨g1, g2⟩ := b_and hg
      obtain ⟨g2, g3⟩ := b_and g2
      have g3 := hz.1 _ g3
      obtain ⟨g3, g4⟩ := b_and g3
      refine ⟨hz.2.1 g2 X r1, TI_mono (TI_Fr r2 (frStep g1 hst)) g3, ?_⟩
      rcases rv_or' g4 with g4 | g4
      · exact Mt_e g4
      · rw [of_decide_eq_true g4]
        exact mvTr_ok r1 (hfld r2) r3 hst
    cases i
    case invokevirtual x => exact absurd hst (fun q => ev_no (Or.inr (Or.inl ⟨_, rfl⟩)) q)
    case invokestatic x => exact absurd hst (fun q => ev_no (Or.inl ⟨_, rfl⟩) q)
    case invokespecial x => exact absurd hst (fun q => ev_no (Or.inr (Or.inr (Or.inl ⟨_, rfl⟩))) q)
    case ireturn => exact absurd hst (fun q => ev_no (Or.inr (Or.inr (Or.inr (Or.inl rfl)))) q)
    case lreturn => exact absurd hst (fun q => ev_no (Or.inr (Or.inr (Or.inr (Or.inr (Or.inl rfl))))) q)
    case return_ => exact absurd hst (fun q => ev_no (Or.inr (Or.inr (Or.inr (Or.inr (Or.inr rfl))))) q)
    all_goals exact gen hro
  · intro o o' idx len a1 a2 a3 wi ht h8 hst hr
    have hro := (b_and (hrow ht)).2
    have hro : (!Nat.beq a3 8 && (ntS a1 && ((pat (o.1 + 3)).isEmpty && (!lev (o.1 + 3) || lev o.1)))) = true := hro
    have := (b_and hro).1
    rw [h8] at this
    cases this
  · intro pc al st aw1 kc ks j2 as' rest hr hi hm
    obtain ⟨r1, r2, r3⟩ := hr
    obtain ⟨i, len, a2, a3, wi, as0, rest0, ht, hp, -, -, -, -, -, hc⟩ := hi
    have hro := (b_and (hrow ht)).2
    rcases hc with ⟨⟨x, rfl⟩, h8, e1, e2⟩ | ⟨⟨x, rfl⟩ | ⟨⟨x, rfl⟩, -⟩, v, e1, e2, -⟩
    · have hro : (!Nat.beq a3 8 && (ntS j2 && ((pat (pc + 3)).isEmpty && (!lev (pc + 3) || lev pc)))) = true := hro
      obtain ⟨g1, g2⟩ := b_and hro
      obtain ⟨g2, g3⟩ := b_and g2
      obtain ⟨g3, g4⟩ := b_and g3
      exact ⟨_, sp_neutral g2 as' aw1, fun res hres kc' ks' => ⟨r1, TI_mono (TI_Fr r2 hres) g4, Mt_e g3⟩⟩
    · have hro : (match mvCall d j2 a2 (pat pc) (lev pc) with
        | some l => (pat (pc + 3)).isEmpty && (!lev (pc + 3) || l)
        | none => false) = true := hro
      cases hcall : mvCall d j2 a2 (pat pc) (lev pc) with
      | none => rw [hcall] at hro; cases hro
      | some l =>
        rw [hcall] at hro
        have hro : ((pat (pc + 3)).isEmpty && (!lev (pc + 3) || l)) = true := hro
        obtain ⟨g3, g4⟩ := b_and hro
        rw [e1] at hp
        rw [e2]
        exact ⟨_, mv_call hs hX hD hcall hp r3 r2, fun res hres kc' ks' => ⟨r1, TI_mono hres g4, Mt_e g3⟩⟩
    · cases hro
  · intro o i len a1 a2 a3 wi ht hi hr
    exact TI_lv hr.2.1
end MV
