/-! What stays when nothing but neutral methods run (by hand). -/
/-- what of an object stays -/
def prF (ci j : Nat) : Bool := (Nat.beq ci 2 && (Nat.beq j 0 || Nat.ble 6 j)) || ((Nat.beq ci 1 && (Nat.beq j 1 || Nat.beq j 2)) || (Nat.beq ci 3 || ((Nat.beq ci 11 && Nat.blt j 13) || (Nat.beq ci 10 && Nat.blt j 7))))
/-- a cell stays as far as it matters -/
def kpC (c c' : rvC) : Prop := match c, c' with
  | .inl (ci, fs), .inl (ci', fs') => ci' = ci ∧ ∀ j, prF ci j = true → fs'[j]? = fs[j]?
  | .inr (q, n, d, ov), .inr (q', n', d', ov') => q' = q ∧ n' = n ∧ (q = 4 → d' = d ∧ ov' = ov)
  | _, _ => False
def Fr (aw aw' : rvH) : Prop := aw.length ≤ aw'.length ∧ (∀ (k : Nat) (c : rvC), aw[k]? = some c → (∃ c', aw'[k]? = some c' ∧ kpC c c')) ∧ ∀ (k : Nat) (fs : List rvV), aw'[k]? = some (.inl (11, fs)) → k < aw.length
theorem kpC_refl (c : rvC) : kpC c c := by
  rcases c with ⟨ci, fs⟩ | ⟨q, n, d, ov⟩
  · exact ⟨rfl, fun _ _ => rfl⟩
  · exact ⟨rfl, rfl, fun _ => ⟨rfl, rfl⟩⟩
theorem kpC_trans {c c' c'' : rvC} (h : kpC c c') (h' : kpC c' c'') : kpC c c'' := by
  rcases c with ⟨ci, fs⟩ | ⟨q, n, d, ov⟩
  · rcases c' with ⟨ci', fs'⟩ | ⟨q', n', d', ov'⟩
    · rcases c'' with ⟨ci'', fs''⟩ | ⟨q'', n'', d'', ov''⟩
      · obtain ⟨rfl, h⟩ := h
        obtain ⟨rfl, h'⟩ := h'
        exact ⟨rfl, fun j hj => (h' j hj).trans (h j hj)⟩
      · exact absurd h' id
    · exact absurd h id
  · rcases c' with ⟨ci', fs'⟩ | ⟨q', n', d', ov'⟩
    · exact absurd h id
    · rcases c'' with ⟨ci'', fs''⟩ | ⟨q'', n'', d'', ov''⟩
      · exact absurd h' id
      · obtain ⟨rfl, rfl, h⟩ := h
        obtain ⟨rfl, rfl, h'⟩ := h'
        exact ⟨rfl, rfl, fun hq => ⟨(h' hq).1.trans (h hq).1, (h' hq).2.trans (h hq).2⟩⟩
theorem Fr_refl (aw : rvH) : Fr aw aw := ⟨Nat.le_refl _, fun _ c h => ⟨c, h, kpC_refl c⟩, fun k fs h => (List.getElem?_eq_some_iff.mp h).1⟩
theorem Fr_trans {aw aw' aw'' : rvH} (h : Fr aw aw') (h' : Fr aw' aw'') : Fr aw aw'' := by
  refine ⟨Nat.le_trans h.1 h'.1, fun k c e => ?_, fun k fs e => ?_⟩
  · obtain ⟨c', e', k1⟩ := h.2.1 k c e
    obtain ⟨c'', e'', k2⟩ := h'.2.1 k c' e'
    exact ⟨c'', e'', kpC_trans k1 k2⟩
  · have hl := h'.2.2 k fs e
    have e1 := List.getElem?_eq_getElem hl
    obtain ⟨c'', e'', k2⟩ := h'.2.1 k _ e1
    rw [e] at e''
    have e'' := Option.some.inj e''
    rw [← e''] at k2
    cases hc : aw'[k] with
    | inl x =>
      rw [hc] at k2 e1
      obtain ⟨ci, gs⟩ := x
      have : ci = 11 := k2.1.symm
      subst this
      exact h.2.2 k gs e1
    | inr x =>
      rw [hc] at k2
      exact absurd k2 id
theorem Fr_set {aw : rvH} {k : Nat} {c c' : rvC} (e : aw[k]? = some c) (h : kpC c c') : Fr aw (aw.set k c') := by
  refine ⟨by rw [List.length_set]; exact Nat.le_refl _, fun m d hd => ?_, fun m fs hm => ?_⟩
  · by_cases hm : k = m
    · subst hm
      rw [e] at hd
      have hd := Option.some.inj hd
      subst hd
      have hl := (List.getElem?_eq_some_iff.mp e).1
      exact ⟨c', by rw [List.getElem?_set_self hl], h⟩
    · exact ⟨d, by rw [List.getElem?_set_ne hm]; exact hd, kpC_refl d⟩
  · have := (List.getElem?_eq_some_iff.mp hm).1
    rw [List.length_set] at this
    exact this
def no11 (c : rvC) : Bool := match c with
  | .inl (ci, _) => !Nat.beq ci 11
  | .inr _ => true
theorem Fr_app {aw : rvH} {c : rvC} (hc : no11 c = true) : Fr aw (aw ++ [c]) := by
  refine ⟨by rw [List.length_append]; exact Nat.le_add_right _ _, fun k d hd => ⟨d, ?_, kpC_refl d⟩, fun k fs hk => ?_⟩
  · rw [List.getElem?_append_left (List.getElem?_eq_some_iff.mp hd).1]
    exact hd
  · by_cases hl : k < aw.length
    · exact hl
    · exfalso
      rw [List.getElem?_append_right (by omega)] at hk
      have h0 : k - aw.length = 0 := by
        have := (List.getElem?_eq_some_iff.mp hk).1
        have : k - aw.length < 1 := this
        omega
      rw [h0] at hk
      have hk : c = _ := Option.some.inj hk
      rw [hk] at hc
      cases hc
/-- a row of code that leaves what matters -/
def hmOk (i : Instr) (a1 a2 : Nat) : Bool := match i with
  | .putfield _ => !prF a1 a2
  | .aastore => false
  | .new _ => !Nat.beq a1 11
  | _ => true
theorem kp_put {ci a2 : Nat} {fs : List rvV} {v : rvV} (h : (!prF ci a2) = true) : kpC (.inl (ci, fs)) (.inl (ci, fs.set a2 v)) := by
  refine ⟨rfl, fun j hj => ?_⟩
  have hne : a2 ≠ j := fun e => by
    subst e
    rw [hj] at h
    cases h
  rw [List.getElem?_set_ne hne]
theorem kp_row {q n : Nat} {d d' : rvV} {ov ov' : List (Nat × rvV)} (h : q ≠ 4) : kpC (.inr (q, n, d, ov)) (.inr (q, n, d', ov')) := ⟨rfl, rfl, fun e => absurd e h⟩
theorem frStep {sc : List (Int × Int)} {BC BS mL a1 a2 a3 pc kc ks : Nat} {i : Instr} {al st : List rvV} {aw : rvH} {o : rvS} (hm : hmOk i a1 a2 = true) (h : rvStep rvTy rvNf rvTxt sc BC BS mL i a1 a2 a3 pc al st aw kc ks = some o) : Fr aw o.2.2.2.1 := by
  by_cases hb : hpB i = true
  · rw [(tStep h).2.2 hb]
    exact Fr_refl _
  · cases i
    case putfield idx =>
      simp only [rvStep] at h
      split at h
      · split at h
        · rename_i ci fs e
          obtain ⟨hc, rfl⟩ := rv_bif h
          have hc := rv_beq (rv_and hc).1
          subst hc
          exact Fr_set e (kp_put hm)
        · cases h
      · cases h
    case iastore =>
      simp only [rvStep] at h
      split at h
      · split at h
        · rename_i n d ov e
          split at h
          · cases h
            exact Fr_set e (kp_row (by decide))
          · cases h
        · cases h
      · cases h
    case bastore =>
      simp only [rvStep] at h
      split at h
      · split at h
        · rename_i n d ov e
          split at h
          · obtain ⟨hc, rfl⟩ := rv_bif h
            exact Fr_set e (kp_row (by decide))
          · cases h
        · rename_i n d ov e
          split at h
          · obtain ⟨hc, rfl⟩ := rv_bif h
            exact Fr_set e (kp_row (by decide))
          · cases h
        · cases h
      · cases h
    case lastore =>
      simp only [rvStep] at h
      split at h
      · split at h
        · rename_i n d ov e
          split at h
          · cases h
            exact Fr_set e (kp_row (by decide))
          · cases h
        · cases h
      · cases h
    case aastore => cases hm
    case new idx =>
      obtain ⟨hc, rfl⟩ := rv_bif h
      exact Fr_app hm
    case newarray t =>
      simp only [rvStep] at h
      split at h
      · obtain ⟨hc, rfl⟩ := rv_bif h
        exact Fr_app rfl
      · cases h
    case anewarray t =>
      simp only [rvStep] at h
      split at h
      · obtain ⟨hc, rfl⟩ := rv_bif h
        exact Fr_app rfl
      · cases h
    all_goals exact absurd rfl hb
theorem frCopy {BF BL pc kc ks : Nat} {al st : List rvV} {aw : rvH} {o : rvS} (h : rvCopy BF BL pc al st aw kc ks = some o) : Fr aw o.2.2.2.1 ∧ o.1 = pc + 3 ∧ o.2.1 = al := by
  unfold rvCopy at h
  split at h
  · split at h
    · rename_i m d ov m' d' ov' e1 e2
      obtain ⟨hc, rfl⟩ := rv_bif h
      exact ⟨Fr_set e2 (kp_row (by decide)), rfl, rfl⟩
    · cases h
  · cases h
/-- methods that are neutral: what they leave as it was -/
theorem Ev_neutral {tab : Nat → Nat → Option rvE} {info : Nat → rvM} {rets : Nat → Option FieldType} {NM : Nat} {mth : Nat → Option Nat} {S : Nat → Bool} (hS : ∀ (j pc : Nat) (i : Instr) (len a1 a2 a3 wi : Nat), j < NM → S j = true → tab j pc = some (i, len, a1, a2, a3, wi) → hmOk i a1 a2 = true ∧ (((∃ x, i = .invokestatic x) ∧ Nat.beq a3 8 = false) ∨ (∃ x, i = .invokevirtual x) ∨ ((∃ x, i = .invokespecial x) ∧ Nat.beq a3 9 = false) → mth a1 = none → S a1 = true)) {j : Nat} {as : List rvV} {aw : rvH} {P : xRes2 → Prop} (hj : S j = true) (h : EvM tab info rets NM mth j as aw P) : EvM tab info rets NM mth j as aw (fun res => P res ∧ Fr aw res.2) := by
  have hE := Ev_clo tab info rets NM mth
  refine (h (fun j P o => Ev tab info rets NM mth j P o ∧ ∀ aw0, S j = true → Fr aw0 o.2.2.2.1 → Ev tab info rets NM mth j (fun res => P res ∧ Fr aw0 res.2) o) (fun j as aw P => EvM tab info rets NM mth j as aw P ∧ (S j = true → EvM tab info rets NM mth j as aw (fun res => P res ∧ Fr aw res.2))) ⟨?_, ?_, ?_, ?_, ?_, ?_, ?_, ?_⟩).2 hj
  · intro j P o o' i len a1 a2 a3 wi h1 h2 h3 h4
    refine ⟨hE.1 j P o o' i len a1 a2 a3 wi h1 h2 h3 h4.1, fun aw0 hs hf => ?_⟩
    exact hE.1 j _ o o' i len a1 a2 a3 wi h1 h2 h3 (h4.2 aw0 hs (Fr_trans hf (frStep (hS j _ i len a1 a2 a3 wi h1 hs h2).1 h3)))
  · intro j P o o' idx len a1 a2 a3 wi h1 h2 h3 h4 h5
    refine ⟨hE.2.1 j P o o' idx len a1 a2 a3 wi h1 h2 h3 h4 h5.1, fun aw0 hs hf => ?_⟩
    exact hE.2.1 j _ o o' idx len a1 a2 a3 wi h1 h2 h3 h4 (h5.2 aw0 hs (Fr_trans hf (frCopy h4).1))
  · intro j P pc al i rest aw kc ks idx len a1 a2 a3 wi h1 h2 h3 h4 h5
    exact ⟨hE.2.2.1 j P pc al i rest aw kc ks idx len a1 a2 a3 wi h1 h2 h3 h4 h5.1, fun aw0 hs hf => hE.2.2.1 j _ pc al i rest aw kc ks idx len a1 a2 a3 wi h1 h2 h3 h4 (h5.2 aw0 hs hf)⟩
  · intro j P Q pc al st aw kc ks j2 as rest h1 h2 h3 h4
    refine ⟨hE.2.2.2.1 j P Q pc al st aw kc ks j2 as rest h1 h2 h3.1 (fun res hr => (h4 res hr).1), fun aw0 hs hf => ?_⟩
    obtain ⟨i, len, a2, a3, wi, ht, hc⟩ := xInv_cr h2
    have hn := (EvM_none h3.1).1
    have hs2 := (hS j _ i len j2 a2 a3 wi h1 hs ht).2 hc hn
    exact hE.2.2.2.1 j _ _ pc al st aw kc ks j2 as rest h1 h2 (h3.2 hs2) (fun res hr => (h4 res hr.1).2 aw0 hs (Fr_trans hf hr.2))
  · intro j P pc al st aw kc ks i len a1 a2 a3 wi h1 h2 h3 h4 h5 h6
    exact ⟨hE.2.2.2.2.1 j P pc al st aw kc ks i len a1 a2 a3 wi h1 h2 h3 h4 h5 h6, fun aw0 hs hf => hE.2.2.2.2.1 j _ pc al st aw kc ks i len a1 a2 a3 wi h1 h2 h3 h4 h5 ⟨h6, hf⟩⟩
  · intro j P pc al k x y rest aw kc ks idx len a1 a2 a3 wi h1 h2 h3 h4 h5 h6 h7 h8 h9 ha hb hd
    exact ⟨hE.2.2.2.2.2.1 j P pc al k x y rest aw kc ks idx len a1 a2 a3 wi h1 h2 h3 h4 h5 h6 h7 h8 h9 ha hb hd.1, fun aw0 hs hf => hE.2.2.2.2.2.1 j _ pc al k x y rest aw kc ks idx len a1 a2 a3 wi h1 h2 h3 h4 h5 h6 h7 h8 h9 ha hb (hd.2 aw0 hs hf)⟩
  · intro j P pc al x rest aw kc ks idx len a1 a2 a3 wi h1 h2 h3 h4 h5 h6 h7 h8 h9 hd
    exact ⟨hE.2.2.2.2.2.2.1 j P pc al x rest aw kc ks idx len a1 a2 a3 wi h1 h2 h3 h4 h5 h6 h7 h8 h9 (fun n n1 n2 => (hd n n1 n2).1), fun aw0 hs hf => hE.2.2.2.2.2.2.1 j _ pc al x rest aw kc ks idx len a1 a2 a3 wi h1 h2 h3 h4 h5 h6 h7 h8 h9 (fun n n1 n2 => (hd n n1 n2).2 aw0 hs hf)⟩
  · intro j P as aw h1 h2 h3 h4
    exact ⟨hE.2.2.2.2.2.2.2 j P as aw h1 h2 h3 h4.1, fun hs => hE.2.2.2.2.2.2.2 j _ as aw h1 h2 h3 (h4.2 aw hs (Fr_refl aw))⟩
