/-! Lengths of rows; longs and references are read from rows. -/
/-- the region of a reference -/
def xRef (ah : List xC) (v : xV) : Option Nat := match v with
  | .inr (2, k) => (match ah[k]? with
    | some s => some s.1
    | none => none)
  | .inr (20, g) => some g
  | _ => none
theorem xRef_ok {rg : Nat → xG} {r : List Int} {T pl : List Nat} {ah : List xC} {aw : rvH} {v : xV} {c : rvV} {g : Nat} (hS : xSt r T pl ah aw) (hP : xHp rg T pl aw) (hv : xR r T pl v c) (h : xRef ah v = some g) : ∃ (i : Nat) (b : rvC), c = .inr (2, i) ∧ T[i]? = some g ∧ aw[i]? = some b ∧ xCell T pl (rg g) b := by
  unfold xRef at h
  split at h
  · rename_i k
    split at h
    · rename_i s hk
      cases h
      obtain ⟨i, hi, rfl⟩ := hv
      obtain ⟨i2, b, p1, p2, p3, -⟩ := hS.2 k s hk
      have e : i2 = i := by rw [hi] at p1; exact (Option.some.inj p1).symm
      subst e
      exact ⟨i2, b, rfl, p2, p3, hP.2 i2 s.1 b p2 p3⟩
    · cases h
  · cases h
    obtain ⟨-, i, hi, rfl⟩ := hv
    have hlt : i < aw.length := by rw [hP.1]; exact (List.getElem?_eq_some_iff.mp hi).1
    have p3 : aw[i]? = some aw[i] := List.getElem?_eq_getElem hlt
    exact ⟨i, _, rfl, hi, p3, hP.2 i _ _ hi p3⟩
  · cases h
def xLen (rg : Nat → xG) (S : xS) : Option (List xS) := match S with
  | (pc, al, st, ah, fs, Q, kc, ks) => match st with
    | v :: st => (match xRef ah v with
      | some g => (match rg g with
        | .inr (_, n, _, _) => bif Nat.blt n 2147483648 then some [xNx S (pc + 1) al (xKv (n : Int) :: st) Q] else none
        | .inl _ => none)
      | none => none)
    | _ => none
/-- a type of longs -/
def xLgT (ty : xT) : Bool := match ty with
  | .inr (1, 0) => true
  | _ => false
theorem xLgT_ok {ty : xT} (h : xLgT ty = true) : ty = .inr (1, 0) := by
  unfold xLgT at h
  split at h
  · rfl
  · cases h
noncomputable def xLdl (rg : Nat → xG) (d : Nat) (S : xS) : Option (List xS) := match S with
  | (pc, al, st, ah, fs, Q, kc, ks) => match st with
    | .inl x :: v :: st => (match xRef ah v with
      | some g => (match rg g with
        | .inr (3, n, p, sg) => bif xBnd d Q x n && (Nat.beq p 1 && xLgT (xAt sg 0)) then some [xNx S (pc + 1) al (.inr (1, 0) :: st) Q] else none
        | _ => none)
      | none => none)
    | _ => none
noncomputable def xLda (rg : Nat → xG) (d : Nat) (S : xS) : Option (List xS) := match S with
  | (pc, al, st, ah, fs, Q, kc, ks) => match st with
    | .inl x :: v :: st => (match xRef ah v with
      | some g => (match rg g with
        | .inr (q, n, p, sg) => bif (Nat.beq q 4 || Nat.beq q 5) && (Nat.beq p 1 && xBnd d Q x n) then (match xAt sg 0 with
          | .inr t => some [xNx S (pc + 1) al (.inr t :: st) Q]
          | .inl _ => none) else none
        | _ => none)
      | none => none)
    | _ => none
section XPL
variable {rg : Nat → xG} {fm : xF → List Int → List Nat → List Nat → rvH → Prop} {sc : List (Int × Int)} {BC BS mL a1 a2 a3 pc kc ks d : Nat} {al st : List xV} {ah : List xC} {fs : List xF} {Q : xQ} {Ss : List xS} {o : rvS}
set_option maxHeartbeats 1000000 in
theorem xp_arraylength (hf : xFm fm) (hs : xLen rg (pc, al, st, ah, fs, Q, kc, ks) = some Ss) (h : xRel rg fm (pc, al, st, ah, fs, Q, kc, ks) o) : xOk rg fm Ss (rvStep rvTy rvNf rvTxt sc BC BS mL (.arraylength) a1 a2 a3 o.1 o.2.1 o.2.2.1 o.2.2.2.1 o.2.2.2.2.1 o.2.2.2.2.2) := by
  obtain ⟨r, T, pl, cl, cs, aw, rfl, hl, hst, hS, hP, hF, hQ⟩ := xRel_out h
  dsimp only at hl hst hS hF hQ ⊢
  simp only [xLen] at hs
  have same : ∃ t, r = r ++ t := ⟨[], (List.append_nil r).symm⟩
  split at hs
  · rename_i v st
    obtain ⟨c0, ds, rfl, hv, hst3⟩ := xRs_cons hst
    split at hs
    · rename_i g hg
      obtain ⟨i, b, rfl, p2, p3, hcell⟩ := xRef_ok hS hP hv hg
      split at hs
      · rename_i q n p sg hr
        rw [hr] at hcell
        obtain ⟨dv, cv, rfl, -⟩ := xCell_row hcell
        obtain ⟨hc, rfl⟩ := rv_bif hs
        have hn := rv_blt hc
        exact Or.inl ⟨_, _, (by simp only [rvStep, p3, hc] <;> rfl), List.mem_singleton.mpr rfl, xNx_ok hf hS hP hF rfl rfl same hl (xRs_c (xR_K r T pl ⟨by omega, by omega⟩) hst3) hQ⟩
      · cases hs
    · cases hs
  · cases hs
set_option maxHeartbeats 1000000 in
theorem xp_laload (hf : xFm fm) (hs : xLdl rg d (pc, al, st, ah, fs, Q, kc, ks) = some Ss) (h : xRel rg fm (pc, al, st, ah, fs, Q, kc, ks) o) : xOk rg fm Ss (rvStep rvTy rvNf rvTxt sc BC BS mL (.laload) a1 a2 a3 o.1 o.2.1 o.2.2.1 o.2.2.2.1 o.2.2.2.2.1 o.2.2.2.2.2) := by
  obtain ⟨r, T, pl, cl, cs, aw, rfl, hl, hst, hS, hP, hF, hQ⟩ := xRel_out h
  dsimp only at hl hst hS hF hQ ⊢
  simp only [xLdl] at hs
  have same : ∃ t, r = r ++ t := ⟨[], (List.append_nil r).symm⟩
  split at hs
  · rename_i x v st
    obtain ⟨c0, ds, rfl, hx, hst2⟩ := xRs_cons hst
    obtain ⟨c1, ds, rfl, hv, hst3⟩ := xRs_cons hst2
    obtain ⟨z, rfl, ez, z32, wx⟩ := xR_pt hx
    split at hs
    · rename_i g hg
      obtain ⟨i, b, rfl, p2, p3, hcell⟩ := xRef_ok hS hP hv hg
      split at hs
      · rename_i n p sg hr
        rw [hr] at hcell
        obtain ⟨dv, cv, rfl, hty⟩ := xCell_row hcell
        obtain ⟨hd0, rfl⟩ := rv_bif hs
        obtain ⟨hd1, hd2⟩ := rv_and hd0
        obtain ⟨hd3, hc3⟩ := rv_and hd2
        have hd4 := rv_beq hd3
        clear hd0 hd2 hd3
        subst hd4
        obtain ⟨l1, l2⟩ := xBnd_ok hQ hd1
        rw [← ez] at l1 l2
        have hlt : z.toNat < n := by omega
        have h9 := hty z.toNat hlt
        rw [Nat.mod_one, xLgT_ok hc3] at h9
        obtain ⟨w, hw⟩ : ∃ w, rvLook dv cv z.toNat = .inr (1, w) := h9
        exact Or.inl ⟨(pc + 1, cl, .inr (1, w) :: ds, aw, kc, ks), _, (by simp only [rvStep, p3, rvIdx_pt l1 l2, hw]), List.mem_singleton.mpr rfl, xNx_ok hf hS hP hF rfl rfl same hl (xRs_c ⟨w, rfl⟩ hst3) hQ⟩
      · cases hs
    · cases hs
  · cases hs
set_option maxHeartbeats 1000000 in
theorem xp_aaload (hf : xFm fm) (hs : xLda rg d (pc, al, st, ah, fs, Q, kc, ks) = some Ss) (h : xRel rg fm (pc, al, st, ah, fs, Q, kc, ks) o) : xOk rg fm Ss (rvStep rvTy rvNf rvTxt sc BC BS mL (.aaload) a1 a2 a3 o.1 o.2.1 o.2.2.1 o.2.2.2.1 o.2.2.2.2.1 o.2.2.2.2.2) := by
  obtain ⟨r, T, pl, cl, cs, aw, rfl, hl, hst, hS, hP, hF, hQ⟩ := xRel_out h
  dsimp only at hl hst hS hF hQ ⊢
  simp only [xLda] at hs
  have same : ∃ t, r = r ++ t := ⟨[], (List.append_nil r).symm⟩
  split at hs
  · rename_i x v st
    obtain ⟨c0, ds, rfl, hx, hst2⟩ := xRs_cons hst
    obtain ⟨c1, ds, rfl, hv, hst3⟩ := xRs_cons hst2
    obtain ⟨z, rfl, ez, z32, wx⟩ := xR_pt hx
    split at hs
    · rename_i g hg
      obtain ⟨i, b, rfl, p2, p3, hcell⟩ := xRef_ok hS hP hv hg
      split at hs
      · rename_i q n p sg hr
        rw [hr] at hcell
        obtain ⟨dv, cv, rfl, hty⟩ := xCell_row hcell
        cases hb : ((Nat.beq q 4 || Nat.beq q 5) && (Nat.beq p 1 && xBnd d Q x n)) with
        | false => rw [hb] at hs; cases hs
        | true =>
          rw [hb] at hs
          simp only [cond_true] at hs
          obtain ⟨b1, b2⟩ := rv_and hb
          obtain ⟨b2, b3⟩ := rv_and b2
          obtain ⟨l1, l2⟩ := xBnd_ok hQ b3
          rw [← ez] at l1 l2
          have hp := rv_beq b2
          subst hp
          have h9 := hty z.toNat (by omega)
          rw [Nat.mod_one] at h9
          split at hs
          · rename_i t ht
            cases hs
            rw [ht] at h9
            have stp : rvStep rvTy rvNf rvTxt sc BC BS mL (.aaload) a1 a2 a3 pc cl (.inl (z, z) :: .inr (2, i) :: ds) aw kc ks = some (pc + 1, cl, rvLook dv cv z.toNat :: ds, aw, kc, ks) := by
              rcases rv_or' b1 with e | e
              · have e := rv_beq e
                subst e
                simp only [rvStep, p3, rvIdx_pt l1 l2]
              · have e := rv_beq e
                subst e
                simp only [rvStep, p3, rvIdx_pt l1 l2]
            exact Or.inl ⟨_, _, stp, List.mem_singleton.mpr rfl, xNx_ok hf hS hP hF rfl rfl same hl (xRs_c (xTy_ref h9) hst3) hQ⟩
          · cases hs
      · cases hs
    · cases hs
  · cases hs
end XPL
