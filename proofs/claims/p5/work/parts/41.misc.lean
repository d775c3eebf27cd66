/-! Texts, static rows, constants, a switch of a known number; references are written into rows. -/
/-- the range of all the numbers of a list -/
def xSpan (l : List Int) : Option (Int × Int) := match l with
  | [] => none
  | a :: t => (match xSpan t with
    | some b => some (min a b.1, max a b.2)
    | none => some (a, a))
theorem xSpan_ok : ∀ {l : List Int} {b : Int × Int} {z : Int}, xSpan l = some b → z ∈ l → b.1 ≤ z ∧ z ≤ b.2
  | [], _, _, _, hz => by cases hz
  | a :: t, b, z, hb, hz => by
      unfold xSpan at hb
      split at hb
      · rename_i c hc
        cases hb
        show min a c.1 ≤ z ∧ z ≤ max a c.2
        rcases List.mem_cons.mp hz with e | hz
        · subst e; omega
        · have := xSpan_ok hc hz; omega
      · rename_i hn
        cases hb
        rcases List.mem_cons.mp hz with e | hz
        · subst e; exact ⟨Int.le_refl _, Int.le_refl _⟩
        · cases t with
          | nil => cases hz
          | cons y t =>
            exfalso
            unfold xSpan at hn
            split at hn <;> cases hn
noncomputable def xMisc (rg : Nat → xG) (d : Nat) (i : Instr) (a1 a2 : Nat) (S : xS) : Option (List xS) := match S with
  | (pc, al, st, ah, fs, Q, kc, ks) => match i with
    | .ldc _ => bif Nat.beq a1 50 then (bif Nat.blt a2 2147483648 then some [xNx S (pc + 2) al (xKv (a2 : Int) :: st) Q] else none) else some [xNx S (pc + 2) al (.inr (3, a1) :: st) Q]
    | .getstatic _ => bif Nat.beq a1 0 then some [xNx S (pc + 3) al (xKv 1 :: st) Q] else bif Nat.beq a1 1 then some [xNx S (pc + 3) al (.inr (6, 0) :: st) Q] else some [xNx S (pc + 3) al (.inr (10, a1 - 2) :: st) Q]
    | .getfield _ => (match st with
      | .inr (3, j) :: st => bif Nat.beq a1 100 && Nat.blt j 6 then (bif Nat.beq a2 0 then some [xNx S (pc + 3) al (.inr (4, j) :: st) Q] else some [xNx S (pc + 3) al (xKv 0 :: st) Q]) else none
      | _ => none)
    | .arraylength => (match st with
      | .inr (4, j) :: st => bif Nat.blt j 6 then some [xNx S (pc + 1) al (xKv ((rvTxt j).length : Int) :: st) Q] else none
      | .inr (10, j) :: st => bif Nat.blt j 2 then some [xNx S (pc + 1) al (xKv ((rvTxt (10 + j)).length : Int) :: st) Q] else none
      | _ => none)
    | .baload => (match st with
      | .inl x :: .inr (4, z) :: st => bif Nat.blt z 6 && xBnd d Q x (rvTxt z).length then (match xSpan (rvTxt z) with
        | some t => some [xNx S (pc + 1) al ((xNew t Q).2 :: st) (xNew t Q).1]
        | none => none) else none
      | _ => none)
    | .iaload => (match st with
      | .inl x :: .inr (10, z) :: st => bif Nat.blt z 2 && xBnd d Q x (rvTxt (10 + z)).length then (match xItv Q x with
        | some a => (match xSpan (((rvTxt (10 + z)).drop a.1.toNat).take (a.2 - a.1 + 1).toNat) with
          | some t => some [xNx S (pc + 1) al ((xNew t Q).2 :: st) (xNew t Q).1]
          | none => none)
        | none => none) else none
      | _ => none)
    | .lookupswitch dflt ps => (match st with
      | .inl v :: st => (match xItv Q v with
        | some a => bif decide (a.1 = a.2) && (ps.toList.zip (ps.toList.drop 1)).all (fun q => decide (q.1.1 < q.2.1)) then (match rvJ pc (Op.lookupswitch.offset ps.toList dflt a.1) with
          | some t => some [xNx S t al st Q]
          | none => none) else none
        | none => none)
      | _ => none)
    | _ => none
section XPM
variable {rg : Nat → xG} {fm : xF → List Int → List Nat → List Nat → rvH → Prop} {sc : List (Int × Int)} {BC BS mL a1 a2 a3 pc kc ks d : Nat} {al st : List xV} {ah : List xC} {fs : List xF} {Q : xQ} {Ss : List xS} {o : rvS}
theorem xR_q {r : List Int} {T pl : List Nat} {t k : Nat} (h : t = 3 ∨ t = 4 ∨ t = 10) : xR r T pl (.inr (t, k)) (.inr (t, k)) := by
  rcases h with rfl | rfl | rfl <;> rfl
set_option maxHeartbeats 1000000 in
theorem xp_ldc (hf : xFm fm) {n : Nat} (hs : xMisc rg d (.ldc n) a1 a2 (pc, al, st, ah, fs, Q, kc, ks) = some Ss) (h : xRel rg fm (pc, al, st, ah, fs, Q, kc, ks) o) : xOk rg fm Ss (rvStep rvTy rvNf rvTxt sc BC BS mL (.ldc n) a1 a2 a3 o.1 o.2.1 o.2.2.1 o.2.2.2.1 o.2.2.2.2.1 o.2.2.2.2.2) := by
  obtain ⟨r, T, pl, cl, cs, aw, rfl, hl, hst, hS, hP, hF, hQ⟩ := xRel_out h
  dsimp only at hl hst hS hF hQ ⊢
  simp only [xMisc] at hs
  have same : ∃ t, r = r ++ t := ⟨[], (List.append_nil r).symm⟩
  cases hc : Nat.beq a1 50 with
  | true =>
    rw [hc] at hs
    simp only [cond_true] at hs
    obtain ⟨h2, rfl⟩ := rv_bif hs
    have h3 := rv_blt h2
    exact Or.inl ⟨_, _, (by simp only [rvStep, hc, h2] <;> rfl), List.mem_singleton.mpr rfl, xNx_ok hf hS hP hF rfl rfl same hl (xRs_c (xR_K r T pl ⟨by omega, by omega⟩) hst) hQ⟩
  | false =>
    rw [hc] at hs
    simp only [cond_false] at hs
    cases hs
    exact Or.inl ⟨_, _, (by simp only [rvStep, hc] <;> rfl), List.mem_singleton.mpr rfl, xNx_ok hf hS hP hF rfl rfl same hl (xRs_c (xR_q (Or.inl rfl)) hst) hQ⟩
set_option maxHeartbeats 1000000 in
theorem xp_getstatic (hf : xFm fm) {n : Nat} (hs : xMisc rg d (.getstatic n) a1 a2 (pc, al, st, ah, fs, Q, kc, ks) = some Ss) (h : xRel rg fm (pc, al, st, ah, fs, Q, kc, ks) o) : xOk rg fm Ss (rvStep rvTy rvNf rvTxt sc BC BS mL (.getstatic n) a1 a2 a3 o.1 o.2.1 o.2.2.1 o.2.2.2.1 o.2.2.2.2.1 o.2.2.2.2.2) := by
  obtain ⟨r, T, pl, cl, cs, aw, rfl, hl, hst, hS, hP, hF, hQ⟩ := xRel_out h
  dsimp only at hl hst hS hF hQ ⊢
  simp only [xMisc] at hs
  have same : ∃ t, r = r ++ t := ⟨[], (List.append_nil r).symm⟩
  cases hc : Nat.beq a1 0 with
  | true =>
    rw [hc] at hs
    cases hs
    exact Or.inl ⟨_, _, (by simp only [rvStep, hc] <;> rfl), List.mem_singleton.mpr rfl, xNx_ok hf hS hP hF rfl rfl same hl (xRs_c (xR_K r T pl ⟨by omega, by omega⟩) hst) hQ⟩
  | false =>
    rw [hc] at hs
    cases h1 : Nat.beq a1 1 with
    | true =>
      rw [h1] at hs
      cases hs
      exact Or.inl ⟨_, _, (by simp only [rvStep, hc, h1] <;> rfl), List.mem_singleton.mpr rfl, xNx_ok hf hS hP hF rfl rfl same hl (xRs_c (Or.inl ⟨0, rfl⟩) hst) hQ⟩
    | false =>
      rw [h1] at hs
      cases hs
      exact Or.inl ⟨_, _, (by simp only [rvStep, hc, h1] <;> rfl), List.mem_singleton.mpr rfl, xNx_ok hf hS hP hF rfl rfl same hl (xRs_c (xR_q (Or.inr (Or.inr rfl))) hst) hQ⟩
set_option maxHeartbeats 1000000 in
theorem xp_getfieldT (hf : xFm fm) {n : Nat} (hs : xMisc rg d (.getfield n) a1 a2 (pc, al, st, ah, fs, Q, kc, ks) = some Ss) (h : xRel rg fm (pc, al, st, ah, fs, Q, kc, ks) o) : xOk rg fm Ss (rvStep rvTy rvNf rvTxt sc BC BS mL (.getfield n) a1 a2 a3 o.1 o.2.1 o.2.2.1 o.2.2.2.1 o.2.2.2.2.1 o.2.2.2.2.2) := by
  obtain ⟨r, T, pl, cl, cs, aw, rfl, hl, hst, hS, hP, hF, hQ⟩ := xRel_out h
  dsimp only at hl hst hS hF hQ ⊢
  simp only [xMisc] at hs
  have same : ∃ t, r = r ++ t := ⟨[], (List.append_nil r).symm⟩
  split at hs
  · rename_i j st
    obtain ⟨c, ds, rfl, hv, hst3⟩ := xRs_cons hst
    have hv : c = .inr (3, j) := hv
    subst hv
    cases hb : (Nat.beq a1 100 && Nat.blt j 6) with
    | false => rw [hb] at hs; cases hs
    | true =>
      rw [hb] at hs
      simp only [cond_true] at hs
      cases h2 : Nat.beq a2 0 with
      | true =>
        rw [h2] at hs
        cases hs
        exact Or.inl ⟨_, _, (by simp only [rvStep, hb, h2] <;> rfl), List.mem_singleton.mpr rfl, xNx_ok hf hS hP hF rfl rfl same hl (xRs_c (xR_q (Or.inr (Or.inl rfl))) hst3) hQ⟩
      | false =>
        rw [h2] at hs
        cases hs
        exact Or.inl ⟨_, _, (by simp only [rvStep, hb, h2] <;> rfl), List.mem_singleton.mpr rfl, xNx_ok hf hS hP hF rfl rfl same hl (xRs_c (xR_K r T pl ⟨by omega, by omega⟩) hst3) hQ⟩
  · cases hs
theorem rvTxt_len {j : Nat} (h : j < 12) : xIn32 ((rvTxt j).length : Int) := by
  have := (rvTxt_in j h).1
  exact ⟨by omega, by omega⟩
theorem rvTxt_i {j : Nat} {z : Int} (h : j < 12) (hz : z ∈ rvTxt j) : xIn32 z := by
  have := (rvTxt_in j h).2 z hz
  rw [← this]
  exact xi_in _
set_option maxHeartbeats 1000000 in
theorem xp_arraylengthT (hf : xFm fm) (hs : xMisc rg d (.arraylength) a1 a2 (pc, al, st, ah, fs, Q, kc, ks) = some Ss) (h : xRel rg fm (pc, al, st, ah, fs, Q, kc, ks) o) : xOk rg fm Ss (rvStep rvTy rvNf rvTxt sc BC BS mL (.arraylength) a1 a2 a3 o.1 o.2.1 o.2.2.1 o.2.2.2.1 o.2.2.2.2.1 o.2.2.2.2.2) := by
  obtain ⟨r, T, pl, cl, cs, aw, rfl, hl, hst, hS, hP, hF, hQ⟩ := xRel_out h
  dsimp only at hl hst hS hF hQ ⊢
  simp only [xMisc] at hs
  have same : ∃ t, r = r ++ t := ⟨[], (List.append_nil r).symm⟩
  split at hs
  · rename_i j st
    obtain ⟨c, ds, rfl, hv, hst3⟩ := xRs_cons hst
    have hv : c = .inr (4, j) := hv
    subst hv
    obtain ⟨hb, rfl⟩ := rv_bif hs
    have h6 := rv_blt hb
    exact Or.inl ⟨_, _, (by simp only [rvStep, hb] <;> rfl), List.mem_singleton.mpr rfl, xNx_ok hf hS hP hF rfl rfl same hl (xRs_c (xR_K r T pl (rvTxt_len (by omega))) hst3) hQ⟩
  · rename_i j st
    obtain ⟨c, ds, rfl, hv, hst3⟩ := xRs_cons hst
    have hv : c = .inr (10, j) := hv
    subst hv
    obtain ⟨hb, rfl⟩ := rv_bif hs
    have h6 := rv_blt hb
    exact Or.inl ⟨_, _, (by simp only [rvStep, hb] <;> rfl), List.mem_singleton.mpr rfl, xNx_ok hf hS hP hF rfl rfl same hl (xRs_c (xR_K r T pl (rvTxt_len (by omega))) hst3) hQ⟩
  · cases hs
set_option maxHeartbeats 1000000 in
theorem xp_baloadT (hf : xFm fm) (hs : xMisc rg d (.baload) a1 a2 (pc, al, st, ah, fs, Q, kc, ks) = some Ss) (h : xRel rg fm (pc, al, st, ah, fs, Q, kc, ks) o) : xOk rg fm Ss (rvStep rvTy rvNf rvTxt sc BC BS mL (.baload) a1 a2 a3 o.1 o.2.1 o.2.2.1 o.2.2.2.1 o.2.2.2.2.1 o.2.2.2.2.2) := by
  obtain ⟨r, T, pl, cl, cs, aw, rfl, hl, hst, hS, hP, hF, hQ⟩ := xRel_out h
  dsimp only at hl hst hS hF hQ ⊢
  simp only [xMisc] at hs
  split at hs
  · rename_i x z st
    obtain ⟨c0, ds, rfl, hx, hst2⟩ := xRs_cons hst
    obtain ⟨c1, ds, rfl, hv, hst3⟩ := xRs_cons hst2
    have hv : c1 = .inr (4, z) := hv
    subst hv
    obtain ⟨y, rfl, ey, y32, wx⟩ := xR_pt hx
    cases hb : (Nat.blt z 6 && xBnd d Q x (rvTxt z).length) with
    | false => rw [hb] at hs; cases hs
    | true =>
      rw [hb] at hs
      simp only [cond_true] at hs
      obtain ⟨b1, b2⟩ := rv_and hb
      have b6 := rv_blt b1
      obtain ⟨l1, l2⟩ := xBnd_ok hQ b2
      rw [← ey] at l1 l2
      have hlt : y.toNat < (rvTxt z).length := by omega
      have hg : (rvTxt z)[y.toNat]? = some (rvTxt z)[y.toNat] := List.getElem?_eq_getElem hlt
      have hm : (rvTxt z)[y.toNat] ∈ rvTxt z := List.getElem_mem hlt
      split at hs
      · rename_i t ht
        cases hs
        obtain ⟨s1, s2⟩ := xSpan_ok ht hm
        obtain ⟨r', hr, hQ2, hw⟩ := xNew_ok (a := t) T pl hQ s1 s2 (rvTxt_i (by omega) hm)
        have gr := xG_r (T := T) (pl := pl) hr
        exact Or.inl ⟨_, _, (by simp only [rvStep, rvIdx_pt l1 l2, hg, b1] <;> rfl), List.mem_singleton.mpr rfl, xNx_ok hf hS hP hF rfl rfl hr (xRs_grow gr hl) (xRs_c hw (xRs_grow gr hst3)) hQ2⟩
      · cases hs
  · cases hs
set_option maxHeartbeats 1000000 in
theorem xp_ialoadT (hf : xFm fm) (hs : xMisc rg d (.iaload) a1 a2 (pc, al, st, ah, fs, Q, kc, ks) = some Ss) (h : xRel rg fm (pc, al, st, ah, fs, Q, kc, ks) o) : xOk rg fm Ss (rvStep rvTy rvNf rvTxt sc BC BS mL (.iaload) a1 a2 a3 o.1 o.2.1 o.2.2.1 o.2.2.2.1 o.2.2.2.2.1 o.2.2.2.2.2) := by
  obtain ⟨r, T, pl, cl, cs, aw, rfl, hl, hst, hS, hP, hF, hQ⟩ := xRel_out h
  dsimp only at hl hst hS hF hQ ⊢
  simp only [xMisc] at hs
  split at hs
  · rename_i x z st
    obtain ⟨c0, ds, rfl, hx, hst2⟩ := xRs_cons hst
    obtain ⟨c1, ds, rfl, hv, hst3⟩ := xRs_cons hst2
    have hv : c1 = .inr (10, z) := hv
    subst hv
    obtain ⟨y, rfl, ey, y32, wx⟩ := xR_pt hx
    cases hb : (Nat.blt z 2 && xBnd d Q x (rvTxt (10 + z)).length) with
    | false => rw [hb] at hs; cases hs
    | true =>
      rw [hb] at hs
      simp only [cond_true] at hs
      obtain ⟨b1, b2⟩ := rv_and hb
      have b6 := rv_blt b1
      obtain ⟨l1, l2⟩ := xBnd_ok hQ b2
      rw [← ey] at l1 l2
      have hlt : y.toNat < (rvTxt (10 + z)).length := by omega
      have hg : (rvTxt (10 + z))[y.toNat]? = some (rvTxt (10 + z))[y.toNat] := List.getElem?_eq_getElem hlt
      split at hs
      · rename_i a ha
        obtain ⟨i1, i2⟩ := xItv_ok hQ ha
        rw [← ey] at i1 i2
        have hm : (rvTxt (10 + z))[y.toNat] ∈ ((rvTxt (10 + z)).drop a.1.toNat).take (a.2 - a.1 + 1).toNat := by
          refine List.mem_of_getElem? (i := y.toNat - a.1.toNat) ?_
          rw [List.getElem?_take]
          have hlt2 : y.toNat - a.1.toNat < (a.2 - a.1 + 1).toNat := by omega
          simp only [hlt2, if_true]
          rw [List.getElem?_drop, ← hg]
          congr 1
          omega
        have hm2 : (rvTxt (10 + z))[y.toNat] ∈ rvTxt (10 + z) := List.getElem_mem hlt
        split at hs
        · rename_i t ht
          cases hs
          obtain ⟨s1, s2⟩ := xSpan_ok ht hm
          obtain ⟨r', hr, hQ2, hw⟩ := xNew_ok (a := t) T pl hQ s1 s2 (rvTxt_i (by omega) hm2)
          have gr := xG_r (T := T) (pl := pl) hr
          exact Or.inl ⟨_, _, (by simp only [rvStep, rvIdx_pt l1 l2, hg, b1] <;> rfl), List.mem_singleton.mpr rfl, xNx_ok hf hS hP hF rfl rfl hr (xRs_grow gr hl) (xRs_c hw (xRs_grow gr hst3)) hQ2⟩
        · cases hs
      · cases hs
  · cases hs
set_option maxHeartbeats 1000000 in
theorem xp_lookupswitch (hf : xFm fm) {dflt : Int} {ps : Array (Int × Int)} (hs : xMisc rg d (.lookupswitch dflt ps) a1 a2 (pc, al, st, ah, fs, Q, kc, ks) = some Ss) (h : xRel rg fm (pc, al, st, ah, fs, Q, kc, ks) o) : xOk rg fm Ss (rvStep rvTy rvNf rvTxt sc BC BS mL (.lookupswitch dflt ps) a1 a2 a3 o.1 o.2.1 o.2.2.1 o.2.2.2.1 o.2.2.2.2.1 o.2.2.2.2.2) := by
  obtain ⟨r, T, pl, cl, cs, aw, rfl, hl, hst, hS, hP, hF, hQ⟩ := xRel_out h
  dsimp only at hl hst hS hF hQ ⊢
  simp only [xMisc] at hs
  have same : ∃ t, r = r ++ t := ⟨[], (List.append_nil r).symm⟩
  split at hs
  · rename_i x st
    obtain ⟨c0, ds, rfl, hx, hst3⟩ := xRs_cons hst
    obtain ⟨y, rfl, ey, y32, wx⟩ := xR_pt hx
    split at hs
    · rename_i a ha
      obtain ⟨i1, i2⟩ := xItv_ok hQ ha
      rw [← ey] at i1 i2
      cases hb : (decide (a.1 = a.2) && (ps.toList.zip (ps.toList.drop 1)).all (fun q => decide (q.1.1 < q.2.1))) with
      | false => rw [hb] at hs; cases hs
      | true =>
        rw [hb] at hs
        simp only [cond_true] at hs
        obtain ⟨b1, b2⟩ := rv_and hb
        have b1 := of_decide_eq_true b1
        have e : a.1 = y := by omega
        rw [e] at hs
        split at hs
        · rename_i t ht
          cases hs
          exact Or.inl ⟨_, _, (by simp only [rvStep, rvOne_pt, b2, Bool.and_self, cond_true, ht] <;> rfl), List.mem_singleton.mpr rfl, xNx_ok hf hS hP hF rfl rfl same hl hst3 hQ⟩
        · cases hs
    · cases hs
  · cases hs
end XPM
