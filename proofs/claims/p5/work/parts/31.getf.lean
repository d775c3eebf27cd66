/-! Fields are read: of a strong cell what is known of the slot, else what its type says. -/
def xWi (S : xS) (pc : Nat) (al st : List xV) (ah : List xC) (Q : xQ) : xS := (pc, al, st, ah, S.2.2.2.2.1, Q, S.2.2.2.2.2.2.1, S.2.2.2.2.2.2.2)
theorem xWi_ok {rg : Nat → xG} {fm : xF → List Int → List Nat → List Nat → rvH → Prop} (hf : xFm fm) {S : xS} {aw : rvH} {kc ks pc : Nat} {r r' : List Int} {T pl : List Nat} {al st : List xV} {ah : List xC} {cl cs : List rvV} {Q : xQ}
    (hst : xSt r' T pl ah aw) (hhp : xHp rg T pl aw) (hfs : ∀ f ∈ S.2.2.2.2.1, fm f r T pl aw) (hkc : kc = S.2.2.2.2.2.2.1) (hks : ks = S.2.2.2.2.2.2.2) (hr : ∃ t, r' = r ++ t) (hal : xRs r' T pl al cl) (hs : xRs r' T pl st cs) (hQ : xQs Q r') : xRel rg fm (xWi S pc al st ah Q) (pc, cl, cs, aw, kc, ks) := by
  obtain ⟨t, rfl⟩ := hr
  exact ⟨r ++ t, T, pl, rfl, hal, hs, hst, hhp, fun f hf9 => hf f r t T pl aw (hfs f hf9), hQ, hkc, hks⟩
/-- what is known of a slot of a constant index -/
def xFind (o : List ((Nat × Int × Int) × xV)) (j : Int) : Option xV := match o with
  | [] => none
  | (q, v) :: o => bif decide (q.2.1 = 0) && decide (q.2.2 = j) then some v else xFind o j
theorem xFind_ok {r : List Int} {T pl : List Nat} {c : rvC} {j : Nat} {v : xV} : ∀ {o : List ((Nat × Int × Int) × xV)}, xFind o (j : Int) = some v → (∀ q ∈ o, xOv r T pl c q) → ∃ w, xSlot c j = some w ∧ xR r T pl v w
  | [], h, _ => by cases h
  | (q, u) :: o, h, ho => by
      unfold xFind at h
      cases hc : (decide (q.2.1 = 0) && decide (q.2.2 = (j : Int))) with
      | true =>
        rw [hc] at h
        cases h
        obtain ⟨c1, c2⟩ := rv_and hc
        have c1 := of_decide_eq_true c1
        have c2 := of_decide_eq_true c2
        obtain ⟨-, i, w, h1, h2, h3⟩ := ho _ List.mem_cons_self
        rw [xSm_val, c1, c2] at h1
        have e : i = j := by omega
        subst e
        exact ⟨w, h2, h3⟩
      | false =>
        rw [hc] at h
        exact xFind_ok h (fun p hp => ho p (List.mem_cons_of_mem _ hp))
/-- a value of a type of references -/
theorem xTy_ref {r : List Int} {T pl : List Nat} {q : Nat × Nat} {c : rvV} (h : xTy T pl (.inr q) c) : xR r T pl (.inr q) c :=
  xR_grow (r := []) ⟨⟨r, rfl⟩, ⟨[], (List.append_nil T).symm⟩, ⟨[], (List.append_nil pl).symm⟩⟩ h
/-- the strong cell k knows another list of slots -/
theorem xSt_put {r : List Int} {T pl : List Nat} {ah : List xC} {aw : rvH} {k i g : Nat} {o o' : List ((Nat × Int × Int) × xV)} {c : rvC} (h : xSt r T pl ah aw) (hk : ah[k]? = some (g, o)) (hi : pl[k]? = some i) (hc : aw[i]? = some c) (ho : ∀ q ∈ o', xOv r T pl c q) : xSt r T pl (ah.set k (g, o')) aw := by
  refine ⟨by rw [List.length_set]; exact h.1, fun k2 s hs => ?_⟩
  rw [List.getElem?_set] at hs
  by_cases hkk : k = k2
  · subst hkk
    have hl := (List.getElem?_eq_some_iff.mp hk).1
    simp [hl] at hs
    subst hs
    obtain ⟨i2, c2, h1, h2, h3, -⟩ := h.2 k (g, o) hk
    have e : i2 = i := by rw [hi] at h1; exact (Option.some.inj h1).symm
    subst e
    exact ⟨i2, c, hi, h2, hc, ho⟩
  · simp [hkk] at hs
    exact h.2 k2 s hs
def xGetf (rg : Nat → xG) (a1 a2 : Nat) (S : xS) : Option (List xS) := match S with
  | (pc, al, st, ah, fs, Q, kc, ks) => match st with
    | .inr (2, k) :: st => (match ah[k]? with
      | some (g, ov) => (match rg g with
        | .inl (ci, fts) => bif Nat.beq ci a1 then (match xFind ov (a2 : Int) with
          | some v => some [xNx S (pc + 3) al (v :: st) Q]
          | none => (match fts[a2]? with
            | some (.inl t) => some [xWi S (pc + 3) al ((xNew t Q).2 :: st) (ah.set k (g, ((0, 0, (a2 : Int)), (xNew t Q).2) :: ov)) (xNew t Q).1]
            | some (.inr q) => some [xNx S (pc + 3) al (.inr q :: st) Q]
            | none => none)) else none
        | .inr _ => none)
      | none => none)
    | .inr (20, g) :: st => (match rg g with
      | .inl (ci, fts) => bif Nat.beq ci a1 then (match fts[a2]? with
        | some (.inl t) => some [xNx S (pc + 3) al ((xNew t Q).2 :: st) (xNew t Q).1]
        | some (.inr q) => some [xNx S (pc + 3) al (.inr q :: st) Q]
        | none => none) else none
      | .inr _ => none)
    | _ => none
theorem xCell_obj {T pl : List Nat} {ci : Nat} {fts : List xT} {c : rvC} (h : xCell T pl (.inl (ci, fts)) c) : ∃ fs : List rvV, c = .inl (ci, fs) ∧ fs.length = fts.length ∧ ∀ (f : Nat) (ty : xT) (v : rvV), fts[f]? = some ty → fs[f]? = some v → xTy T pl ty v := by
  rcases c with ⟨cj, fs⟩ | c
  · obtain ⟨h1, h2, h3⟩ := h
    subst h1
    exact ⟨fs, rfl, h2, h3⟩
  · exact absurd h id
theorem xCell_fld {T pl : List Nat} {fts : List xT} {fs : List rvV} {f : Nat} {ty : xT} (hlen : fs.length = fts.length) (h : ∀ (f : Nat) (ty : xT) (v : rvV), fts[f]? = some ty → fs[f]? = some v → xTy T pl ty v) (hf : fts[f]? = some ty) : ∃ w, fs[f]? = some w ∧ xTy T pl ty w := by
  have hl := (List.getElem?_eq_some_iff.mp hf).1
  have h2 : fs[f]? = some fs[f] := List.getElem?_eq_getElem (by omega)
  exact ⟨_, h2, h f ty _ hf h2⟩
set_option maxHeartbeats 1000000 in
theorem xp_getfield {rg : Nat → xG} {fm : xF → List Int → List Nat → List Nat → rvH → Prop} {sc : List (Int × Int)} {BC BS mL a1 a2 a3 pc kc ks n : Nat} {al st : List xV} {ah : List xC} {fs : List xF} {Q : xQ} {Ss : List xS} {o : rvS} (hf : xFm fm) (hs : xGetf rg a1 a2 (pc, al, st, ah, fs, Q, kc, ks) = some Ss) (h : xRel rg fm (pc, al, st, ah, fs, Q, kc, ks) o) :
    xOk rg fm Ss (rvStep rvTy rvNf rvTxt sc BC BS mL (.getfield n) a1 a2 a3 o.1 o.2.1 o.2.2.1 o.2.2.2.1 o.2.2.2.2.1 o.2.2.2.2.2) := by
  obtain ⟨r, T, pl, cl, cs, aw, rfl, hl, hst, hS, hP, hF, hQ⟩ := xRel_out h
  dsimp only at hl hst hS hF hQ ⊢
  simp only [xGetf] at hs
  have same : ∃ t, r = r ++ t := ⟨[], (List.append_nil r).symm⟩
  split at hs
  · rename_i k st
    obtain ⟨c0, ds, rfl, ⟨i, hi, rfl⟩, hst3⟩ := xRs_cons hst
    split at hs
    · rename_i g ov hk
      obtain ⟨i2, c, p1, p2, p3, p4⟩ := hS.2 k (g, ov) hk
      have e : i2 = i := by rw [hi] at p1; exact (Option.some.inj p1).symm
      subst e
      have hcell := hP.2 i2 g c p2 p3
      split at hs
      · rename_i ci fts hg
        rw [hg] at hcell
        obtain ⟨fl, rfl, hlen, hty⟩ := xCell_obj hcell
        cases hb : Nat.beq ci a1 with
        | false => rw [hb] at hs; cases hs
        | true =>
          rw [hb] at hs
          simp only [cond_true] at hs
          split at hs
          · rename_i v hv
            cases hs
            obtain ⟨w, hw, hvw⟩ := xFind_ok hv p4
            have hw : fl[a2]? = some w := hw
            exact Or.inl ⟨_, _, (by simp only [rvStep, p3, hb, hw] <;> rfl), List.mem_singleton.mpr rfl, xNx_ok hf hS hP hF rfl rfl same hl (xRs_c hvw hst3) hQ⟩
          · split at hs
            · rename_i t ht
              cases hs
              obtain ⟨w, hw, z, z1, z2, z3, rfl⟩ := xCell_fld hlen hty ht
              obtain ⟨r', hr, hQ2, hv⟩ := xNew_ok (a := t) T pl hQ z1 z2 z3
              have gr := xG_r (T := T) (pl := pl) hr
              obtain ⟨tr, rfl⟩ := hr
              refine Or.inl ⟨_, _, (by simp only [rvStep, p3, hb, hw] <;> rfl), List.mem_singleton.mpr rfl, xWi_ok (r := r) hf ?_ hP hF rfl rfl ⟨tr, rfl⟩ (xRs_grow gr hl) (xRs_c hv (xRs_grow gr hst3)) hQ2⟩
              refine xSt_put (xSt_app tr hS) hk hi p3 (fun q hq => ?_)
              rcases List.mem_cons.mp hq with e | hq
              · rw [e]
                refine ⟨(fun p hp => by cases hp), a2, _, ?_, hw, hv⟩
                rw [xSm_val]
                show 0 * _ + (a2 : Int) = a2
                omega
              · exact xOv_grow gr (p4 q hq)
            · rename_i q ht
              cases hs
              obtain ⟨w, hw, hv⟩ := xCell_fld hlen hty ht
              exact Or.inl ⟨_, _, (by simp only [rvStep, p3, hb, hw] <;> rfl), List.mem_singleton.mpr rfl, xNx_ok hf hS hP hF rfl rfl same hl (xRs_c (xTy_ref hv) hst3) hQ⟩
            · cases hs
      · cases hs
    · cases hs
  · rename_i g st
    obtain ⟨c0, ds, rfl, ⟨hg40, i, hi, rfl⟩, hst3⟩ := xRs_cons hst
    have hlt : i < aw.length := by rw [hP.1]; exact (List.getElem?_eq_some_iff.mp hi).1
    have p3 : aw[i]? = some aw[i] := List.getElem?_eq_getElem hlt
    have hcell := hP.2 i g _ hi p3
    split at hs
    · rename_i ci fts hg
      rw [hg] at hcell
      obtain ⟨fl, hfl, hlen, hty⟩ := xCell_obj hcell
      rw [hfl] at p3
      cases hb : Nat.beq ci a1 with
      | false => rw [hb] at hs; cases hs
      | true =>
        rw [hb] at hs
        simp only [cond_true] at hs
        split at hs
        · rename_i t ht
          cases hs
          obtain ⟨w, hw, z, z1, z2, z3, rfl⟩ := xCell_fld hlen hty ht
          obtain ⟨r', hr, hQ2, hv⟩ := xNew_ok (a := t) T pl hQ z1 z2 z3
          have gr := xG_r (T := T) (pl := pl) hr
          exact Or.inl ⟨_, _, (by simp only [rvStep, p3, hb, hw] <;> rfl), List.mem_singleton.mpr rfl, xNx_ok hf hS hP hF rfl rfl hr (xRs_grow gr hl) (xRs_c hv (xRs_grow gr hst3)) hQ2⟩
        · rename_i q ht
          cases hs
          obtain ⟨w, hw, hv⟩ := xCell_fld hlen hty ht
          exact Or.inl ⟨_, _, (by simp only [rvStep, p3, hb, hw] <;> rfl), List.mem_singleton.mpr rfl, xNx_ok hf hS hP hF rfl rfl same hl (xRs_c (xTy_ref hv) hst3) hQ⟩
        · cases hs
    · cases hs
  · cases hs
