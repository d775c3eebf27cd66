/-! Numbers are read from rows. -/
theorem rvIdx_pt {z : Int} {n : Nat} (h0 : 0 ≤ z) (h1 : z < (n : Int)) : rvIdx (z, z) n = some z.toNat := by
  unfold rvIdx
  rw [rvOne_pt]
  simp [h0, h1]
/-- an index is surely within a row -/
noncomputable def xBnd (d : Nat) (Q : xQ) (x : Nat × Int × Int) (n : Nat) : Bool := xEnt Q.1 Q.2 d (xSm x) && xEnt Q.1 Q.2 d (xSub (xK ((n : Int) - 1)) (xSm x))
theorem xBnd_ok {d : Nat} {Q : xQ} {r : List Int} {x : Nat × Int × Int} {n : Nat} (h : xQs Q r) (hb : xBnd d Q x n = true) : 0 ≤ xVal r (xSm x) ∧ xVal r (xSm x) < (n : Int) := by
  obtain ⟨g1, g2⟩ := rv_and hb
  have h1 := xEnt_ok h.1 h.2.1 d g1
  have h2 := xEnt_ok h.1 h.2.1 d g2
  rw [xSub_ok, xK_ok] at h2
  omega
noncomputable def xLd (rg : Nat → xG) (d : Nat) (kd : Nat → Bool) (S : xS) : Option (List xS) := match S with
  | (pc, al, st, ah, fs, Q, kc, ks) => match st with
    | .inl x :: .inr (2, k) :: st => (match ah[k]? with
      | some (g, ov) => (match rg g with
        | .inr (q, n, p, sg) => bif kd q && (xBnd d Q x n && Nat.blt 0 p) then (match xFindL Q x ov with
          | some v => some [xNx S (pc + 1) al (v :: st) Q]
          | none => (match xHull sg (xResid Q p x) with
            | some t => some [xWi S (pc + 1) al ((xNew t Q).2 :: st) (ah.set k (g, (x, (xNew t Q).2) :: ov)) (xNew t Q).1]
            | none => none)) else none
        | .inl _ => none)
      | none => none)
    | .inl x :: .inr (20, g) :: st => (match rg g with
      | .inr (q, n, p, sg) => bif kd q && (xBnd d Q x n && Nat.blt 0 p) then (match xHull sg (xResid Q p x) with
        | some t => some [xNx S (pc + 1) al ((xNew t Q).2 :: st) (xNew t Q).1]
        | none => none) else none
      | .inl _ => none)
    | _ => none
theorem xCell_row {T pl : List Nat} {q n p : Nat} {sg : List (Nat × xT)} {c : rvC} (h : xCell T pl (.inr (q, n, p, sg)) c) : ∃ (d : rvV) (ov : List (Nat × rvV)), c = .inr (q, n, d, ov) ∧ ∀ j, j < n → xTy T pl (xAt sg (j % p)) (rvLook d ov j) := by
  rcases c with c | ⟨q2, n2, d, ov⟩
  · exact absurd h id
  · obtain ⟨h1, h2, h3⟩ := h
    subst h1; subst h2
    exact ⟨d, ov, rfl, h3⟩
theorem xRow_ty {T pl : List Nat} {n p j : Nat} {sg : List (Nat × xT)} {d : rvV} {ov : List (Nat × rvV)} {Q : xQ} {r : List Int} {x : Nat × Int × Int} {t : Int × Int} (hty : ∀ j, j < n → xTy T pl (xAt sg (j % p)) (rvLook d ov j)) (h : xQs Q r) (hp : 0 < p) (hj : xVal r (xSm x) = (j : Int)) (hn : j < n) (hh : xHull sg (xResid Q p x) = some t) : ∃ z : Int, t.1 ≤ z ∧ z ≤ t.2 ∧ xIn32 z ∧ rvLook d ov j = .inl (z, z) := by
  obtain ⟨u, g1, g2, g3⟩ := xHull_ok hh (xResid_ok h hp hj)
  have h9 := hty j hn
  rw [g1] at h9
  obtain ⟨z, z1, z2, z3, z4⟩ := h9
  exact ⟨z, by omega, by omega, z3, z4⟩
set_option maxHeartbeats 1000000 in
theorem xp_iaload {rg : Nat → xG} {fm : xF → List Int → List Nat → List Nat → rvH → Prop} {sc : List (Int × Int)} {BC BS mL a1 a2 a3 pc kc ks d : Nat} {al st : List xV} {ah : List xC} {fs : List xF} {Q : xQ} {Ss : List xS} {o : rvS} (hf : xFm fm) (hs : xLd rg d (fun q => Nat.beq q 0) (pc, al, st, ah, fs, Q, kc, ks) = some Ss) (h : xRel rg fm (pc, al, st, ah, fs, Q, kc, ks) o) :
    xOk rg fm Ss (rvStep rvTy rvNf rvTxt sc BC BS mL (.iaload) a1 a2 a3 o.1 o.2.1 o.2.2.1 o.2.2.2.1 o.2.2.2.2.1 o.2.2.2.2.2) := by
  obtain ⟨r, T, pl, cl, cs, aw, rfl, hl, hst, hS, hP, hF, hQ⟩ := xRel_out h
  dsimp only at hl hst hS hF hQ ⊢
  simp only [xLd] at hs
  have same : ∃ t, r = r ++ t := ⟨[], (List.append_nil r).symm⟩
  have stp : ∀ (z : Int) (i q n : Nat) (dv : rvV) (ov : List (Nat × rvV)) (ds : List rvV), (fun q => Nat.beq q 0) q = true → aw[i]? = some (.inr (q, n, dv, ov)) → 0 ≤ z → z < (n : Int) → rvStep rvTy rvNf rvTxt sc BC BS mL (.iaload) a1 a2 a3 pc cl (.inl (z, z) :: .inr (2, i) :: ds) aw kc ks = some (pc + 1, cl, rvLook dv ov z.toNat :: ds, aw, kc, ks) := by
    intro z i q n dv ov ds hq hc h0 h1
    have e := rv_beq hq
    subst e
    simp only [rvStep, hc, rvIdx_pt h0 h1]
  split at hs
  · rename_i x k st
    obtain ⟨c0, ds, rfl, hx, hst2⟩ := xRs_cons hst
    obtain ⟨c1, ds, rfl, ⟨i, hi, rfl⟩, hst3⟩ := xRs_cons hst2
    obtain ⟨z, rfl, ez, z32, wx⟩ := xR_pt hx
    split at hs
    · rename_i g ov hk
      obtain ⟨i2, c, p1, p2, p3, p4⟩ := hS.2 k (g, ov) hk
      have e : i2 = i := by rw [hi] at p1; exact (Option.some.inj p1).symm
      subst e
      have hcell := hP.2 i2 g c p2 p3
      split at hs
      · rename_i q n p sg hg
        rw [hg] at hcell
        obtain ⟨dv, cv, rfl, hty⟩ := xCell_row hcell
        cases hb : ((fun q => Nat.beq q 0) q && (xBnd d Q x n && Nat.blt 0 p)) with
        | false => rw [hb] at hs; cases hs
        | true =>
          rw [hb] at hs
          simp only [cond_true] at hs
          obtain ⟨b1, b2⟩ := rv_and hb
          obtain ⟨b2, b3⟩ := rv_and b2
          have b3 := rv_blt b3
          obtain ⟨l1, l2⟩ := xBnd_ok hQ b2
          rw [← ez] at l1 l2
          have hj : xVal r (xSm x) = ((z.toNat : Nat) : Int) := by rw [← ez]; omega
          have hn : z.toNat < n := by omega
          split at hs
          · rename_i v hv
            cases hs
            obtain ⟨w, hw, hvw⟩ := xFindL_ok hQ hj hv p4
            have hbl : Nat.blt z.toNat n = true := Nat.ble_eq_true_of_le hn
            have hw : (bif Nat.blt z.toNat n then some (rvLook dv cv z.toNat) else none) = some w := hw
            rw [hbl] at hw
            have hw : rvLook dv cv z.toNat = w := Option.some.inj hw
            exact Or.inl ⟨_, _, stp z i2 q n dv cv ds b1 p3 l1 l2, List.mem_singleton.mpr rfl, xNx_ok hf hS hP hF rfl rfl same hl (xRs_c (by rw [hw]; exact hvw) hst3) hQ⟩
          · split at hs
            · rename_i t ht
              cases hs
              obtain ⟨y, y1, y2, y3, y4⟩ := xRow_ty hty hQ b3 hj hn ht
              obtain ⟨r', hr, hQ2, hv⟩ := xNew_ok (a := t) T pl hQ y1 y2 y3
              have gr := xG_r (T := T) (pl := pl) hr
              obtain ⟨tr, rfl⟩ := hr
              refine Or.inl ⟨_, _, stp z i2 q n dv cv ds b1 p3 l1 l2, List.mem_singleton.mpr rfl, xWi_ok (r := r) hf ?_ hP hF rfl rfl ⟨tr, rfl⟩ (xRs_grow gr hl) (xRs_c (by rw [y4]; exact hv) (xRs_grow gr hst3)) hQ2⟩
              refine xSt_put (xSt_app tr hS) hk hi p3 (fun b hb9 => ?_)
              rcases List.mem_cons.mp hb9 with e | hb9
              · rw [e]
                have hbl : Nat.blt z.toNat n = true := Nat.ble_eq_true_of_le hn
                refine ⟨(fun c hc => by have := wx c hc; rw [List.length_append]; omega), z.toNat, .inl (y, y), ?_, ?_, hv⟩
                · rw [← hj]
                  unfold xVal
                  rw [xEv_grow wx]
                · show (bif Nat.blt z.toNat n then some (rvLook dv cv z.toNat) else none) = some (.inl (y, y))
                  rw [hbl, y4]
                  rfl
              · exact xOv_grow gr (p4 b hb9)
            · cases hs
      · cases hs
    · cases hs
  · rename_i x g st
    obtain ⟨c0, ds, rfl, hx, hst2⟩ := xRs_cons hst
    obtain ⟨c1, ds, rfl, ⟨hg40, i, hi, rfl⟩, hst3⟩ := xRs_cons hst2
    obtain ⟨z, rfl, ez, z32, wx⟩ := xR_pt hx
    have hlt : i < aw.length := by rw [hP.1]; exact (List.getElem?_eq_some_iff.mp hi).1
    have p3 : aw[i]? = some aw[i] := List.getElem?_eq_getElem hlt
    have hcell := hP.2 i g _ hi p3
    split at hs
    · rename_i q n p sg hg
      rw [hg] at hcell
      obtain ⟨dv, cv, hcv, hty⟩ := xCell_row hcell
      rw [hcv] at p3
      cases hb : ((fun q => Nat.beq q 0) q && (xBnd d Q x n && Nat.blt 0 p)) with
      | false => rw [hb] at hs; cases hs
      | true =>
        rw [hb] at hs
        simp only [cond_true] at hs
        obtain ⟨b1, b2⟩ := rv_and hb
        obtain ⟨b2, b3⟩ := rv_and b2
        have b3 := rv_blt b3
        obtain ⟨l1, l2⟩ := xBnd_ok hQ b2
        rw [← ez] at l1 l2
        have hj : xVal r (xSm x) = ((z.toNat : Nat) : Int) := by rw [← ez]; omega
        have hn : z.toNat < n := by omega
        split at hs
        · rename_i t ht
          cases hs
          obtain ⟨y, y1, y2, y3, y4⟩ := xRow_ty hty hQ b3 hj hn ht
          obtain ⟨r', hr, hQ2, hv⟩ := xNew_ok (a := t) T pl hQ y1 y2 y3
          have gr := xG_r (T := T) (pl := pl) hr
          exact Or.inl ⟨_, _, stp z i q n dv cv ds b1 p3 l1 l2, List.mem_singleton.mpr rfl, xNx_ok hf hS hP hF rfl rfl hr (xRs_grow gr hl) (xRs_c (by rw [y4]; exact hv) (xRs_grow gr hst3)) hQ2⟩
        · cases hs
    · cases hs
  · cases hs
set_option maxHeartbeats 1000000 in
theorem xp_baload {rg : Nat → xG} {fm : xF → List Int → List Nat → List Nat → rvH → Prop} {sc : List (Int × Int)} {BC BS mL a1 a2 a3 pc kc ks d : Nat} {al st : List xV} {ah : List xC} {fs : List xF} {Q : xQ} {Ss : List xS} {o : rvS} (hf : xFm fm) (hs : xLd rg d (fun q => Nat.beq q 1 || Nat.beq q 2) (pc, al, st, ah, fs, Q, kc, ks) = some Ss) (h : xRel rg fm (pc, al, st, ah, fs, Q, kc, ks) o) :
    xOk rg fm Ss (rvStep rvTy rvNf rvTxt sc BC BS mL (.baload) a1 a2 a3 o.1 o.2.1 o.2.2.1 o.2.2.2.1 o.2.2.2.2.1 o.2.2.2.2.2) := by
  obtain ⟨r, T, pl, cl, cs, aw, rfl, hl, hst, hS, hP, hF, hQ⟩ := xRel_out h
  dsimp only at hl hst hS hF hQ ⊢
  simp only [xLd] at hs
  have same : ∃ t, r = r ++ t := ⟨[], (List.append_nil r).symm⟩
  have stp : ∀ (z : Int) (i q n : Nat) (dv : rvV) (ov : List (Nat × rvV)) (ds : List rvV), (fun q => Nat.beq q 1 || Nat.beq q 2) q = true → aw[i]? = some (.inr (q, n, dv, ov)) → 0 ≤ z → z < (n : Int) → rvStep rvTy rvNf rvTxt sc BC BS mL (.baload) a1 a2 a3 pc cl (.inl (z, z) :: .inr (2, i) :: ds) aw kc ks = some (pc + 1, cl, rvLook dv ov z.toNat :: ds, aw, kc, ks) := by
    intro z i q n dv ov ds hq hc h0 h1
    rcases rv_or' hq with e | e
    · have e := rv_beq e
      subst e
      simp only [rvStep, hc, rvIdx_pt h0 h1]
    · have e := rv_beq e
      subst e
      simp only [rvStep, hc, rvIdx_pt h0 h1]
  split at hs
  · rename_i x k st
    obtain ⟨c0, ds, rfl, hx, hst2⟩ := xRs_cons hst
    obtain ⟨c1, ds, rfl, ⟨i, hi, rfl⟩, hst3⟩ := xRs_cons hst2
    obtain ⟨z, rfl, ez, z32, wx⟩ := xR_pt hx
    split at hs
    · rename_i g ov hk
      obtain ⟨i2, c, p1, p2, p3, p4⟩ := hS.2 k (g, ov) hk
      have e : i2 = i := by rw [hi] at p1; exact (Option.some.inj p1).symm
      subst e
      have hcell := hP.2 i2 g c p2 p3
      split at hs
      · rename_i q n p sg hg
        rw [hg] at hcell
        obtain ⟨dv, cv, rfl, hty⟩ := xCell_row hcell
        cases hb : ((fun q => Nat.beq q 1 || Nat.beq q 2) q && (xBnd d Q x n && Nat.blt 0 p)) with
        | false => rw [hb] at hs; cases hs
        | true =>
          rw [hb] at hs
          simp only [cond_true] at hs
          obtain ⟨b1, b2⟩ := rv_and hb
          obtain ⟨b2, b3⟩ := rv_and b2
          have b3 := rv_blt b3
          obtain ⟨l1, l2⟩ := xBnd_ok hQ b2
          rw [← ez] at l1 l2
          have hj : xVal r (xSm x) = ((z.toNat : Nat) : Int) := by rw [← ez]; omega
          have hn : z.toNat < n := by omega
          split at hs
          · rename_i v hv
            cases hs
            obtain ⟨w, hw, hvw⟩ := xFindL_ok hQ hj hv p4
            have hbl : Nat.blt z.toNat n = true := Nat.ble_eq_true_of_le hn
            have hw : (bif Nat.blt z.toNat n then some (rvLook dv cv z.toNat) else none) = some w := hw
            rw [hbl] at hw
            have hw : rvLook dv cv z.toNat = w := Option.some.inj hw
            exact Or.inl ⟨_, _, stp z i2 q n dv cv ds b1 p3 l1 l2, List.mem_singleton.mpr rfl, xNx_ok hf hS hP hF rfl rfl same hl (xRs_c (by rw [hw]; exact hvw) hst3) hQ⟩
          · split at hs
            · rename_i t ht
              cases hs
              obtain ⟨y, y1, y2, y3, y4⟩ := xRow_ty hty hQ b3 hj hn ht
              obtain ⟨r', hr, hQ2, hv⟩ := xNew_ok (a := t) T pl hQ y1 y2 y3
              have gr := xG_r (T := T) (pl := pl) hr
              obtain ⟨tr, rfl⟩ := hr
              refine Or.inl ⟨_, _, stp z i2 q n dv cv ds b1 p3 l1 l2, List.mem_singleton.mpr rfl, xWi_ok (r := r) hf ?_ hP hF rfl rfl ⟨tr, rfl⟩ (xRs_grow gr hl) (xRs_c (by rw [y4]; exact hv) (xRs_grow gr hst3)) hQ2⟩
              refine xSt_put (xSt_app tr hS) hk hi p3 (fun b hb9 => ?_)
              rcases List.mem_cons.mp hb9 with e | hb9
              · rw [e]
                have hbl : Nat.blt z.toNat n = true := Nat.ble_eq_true_of_le hn
                refine ⟨(fun c hc => by have := wx c hc; rw [List.length_append]; omega), z.toNat, .inl (y, y), ?_, ?_, hv⟩
                · rw [← hj]
                  unfold xVal
                  rw [xEv_grow wx]
                · show (bif Nat.blt z.toNat n then some (rvLook dv cv z.toNat) else none) = some (.inl (y, y))
                  rw [hbl, y4]
                  rfl
              · exact xOv_grow gr (p4 b hb9)
            · cases hs
      · cases hs
    · cases hs
  · rename_i x g st
    obtain ⟨c0, ds, rfl, hx, hst2⟩ := xRs_cons hst
    obtain ⟨c1, ds, rfl, ⟨hg40, i, hi, rfl⟩, hst3⟩ := xRs_cons hst2
    obtain ⟨z, rfl, ez, z32, wx⟩ := xR_pt hx
    have hlt : i < aw.length := by rw [hP.1]; exact (List.getElem?_eq_some_iff.mp hi).1
    have p3 : aw[i]? = some aw[i] := List.getElem?_eq_getElem hlt
    have hcell := hP.2 i g _ hi p3
    split at hs
    · rename_i q n p sg hg
      rw [hg] at hcell
      obtain ⟨dv, cv, hcv, hty⟩ := xCell_row hcell
      rw [hcv] at p3
      cases hb : ((fun q => Nat.beq q 1 || Nat.beq q 2) q && (xBnd d Q x n && Nat.blt 0 p)) with
      | false => rw [hb] at hs; cases hs
      | true =>
        rw [hb] at hs
        simp only [cond_true] at hs
        obtain ⟨b1, b2⟩ := rv_and hb
        obtain ⟨b2, b3⟩ := rv_and b2
        have b3 := rv_blt b3
        obtain ⟨l1, l2⟩ := xBnd_ok hQ b2
        rw [← ez] at l1 l2
        have hj : xVal r (xSm x) = ((z.toNat : Nat) : Int) := by rw [← ez]; omega
        have hn : z.toNat < n := by omega
        split at hs
        · rename_i t ht
          cases hs
          obtain ⟨y, y1, y2, y3, y4⟩ := xRow_ty hty hQ b3 hj hn ht
          obtain ⟨r', hr, hQ2, hv⟩ := xNew_ok (a := t) T pl hQ y1 y2 y3
          have gr := xG_r (T := T) (pl := pl) hr
          exact Or.inl ⟨_, _, stp z i q n dv cv ds b1 p3 l1 l2, List.mem_singleton.mpr rfl, xNx_ok hf hS hP hF rfl rfl hr (xRs_grow gr hl) (xRs_c (by rw [y4]; exact hv) (xRs_grow gr hst3)) hQ2⟩
        · cases hs
    · cases hs
  · cases hs
