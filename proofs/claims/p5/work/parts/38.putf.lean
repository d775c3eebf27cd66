/-! putfield: the checker's step. fk: the facts that a store leaves. -/
def xFk (rg : Nat → xG) (fm : xF → List Int → List Nat → List Nat → rvH → Prop) (fk : Nat → Nat × Int × Int → xQ → List xC → xF → Bool) : Prop :=
  ∀ (f : xF) (g i j : Nat) (x : Nat × Int × Int) (Q : xQ) (ah : List xC) (r : List Int) (T pl : List Nat) (aw : rvH) (c c' : rvC), xQs Q r → xSt r T pl ah aw → T[i]? = some g → aw[i]? = some c → xVal r (xSm x) = (j : Int) → (∀ m, m ≠ j → xSlot c' m = xSlot c m) → xHp rg T pl (aw.set i c') → fk g x Q ah f = true → fm f r T pl aw → fm f r T pl (aw.set i c')
theorem rvLen_len : ∀ l : List rvV, rvLen l = l.length
  | [] => rfl
  | _ :: t => by
      show rvLen t + 1 = t.length + 1
      rw [rvLen_len t]
noncomputable def xPutf (rg : Nat → xG) (fk : Nat → Nat × Int × Int → xQ → List xC → xF → Bool) (d a1 a2 : Nat) (S : xS) : Option (List xS) := match S with
  | (pc, al, st, ah, fs, Q, kc, ks) => match st with
    | v :: .inr (2, k) :: st => (match ah[k]? with
      | some (g, ov) => (match rg g with
        | .inl (ci, fts) => (match fts[a2]? with
          | some ty => bif Nat.beq ci a1 && xFit d Q ah (rvTy ci a2) ty v then some [(pc + 3, al, st, (xKillO g a2 ah).set k (g, ((0, 0, (a2 : Int)), v) :: ov.filter (xKeepO a2)), fs.filter (fk g (0, 0, (a2 : Int)) Q ah), Q, kc, ks)] else none
          | none => none)
        | .inr _ => none)
      | none => none)
    | v :: .inr (20, g) :: st => (match rg g with
      | .inl (ci, fts) => (match fts[a2]? with
        | some ty => bif Nat.beq ci a1 && xFit d Q ah (rvTy ci a2) ty v then some [(pc + 3, al, st, xKillO g a2 ah, fs.filter (fk g (0, 0, (a2 : Int)) Q ah), Q, kc, ks)] else none
        | none => none)
      | .inr _ => none)
    | _ => none
set_option maxHeartbeats 1000000 in
theorem xp_putfield {rg : Nat → xG} {fm : xF → List Int → List Nat → List Nat → rvH → Prop} {fk : Nat → Nat × Int × Int → xQ → List xC → xF → Bool} {sc : List (Int × Int)} {BC BS mL a1 a2 a3 pc kc ks n d : Nat} {al st : List xV} {ah : List xC} {fs : List xF} {Q : xQ} {Ss : List xS} {o : rvS} (hk0 : xFk rg fm fk) (hs : xPutf rg fk d a1 a2 (pc, al, st, ah, fs, Q, kc, ks) = some Ss) (h : xRel rg fm (pc, al, st, ah, fs, Q, kc, ks) o) :
    xOk rg fm Ss (rvStep rvTy rvNf rvTxt sc BC BS mL (.putfield n) a1 a2 a3 o.1 o.2.1 o.2.2.1 o.2.2.2.1 o.2.2.2.2.1 o.2.2.2.2.2) := by
  obtain ⟨r, T, pl, cl, cs, aw, rfl, hl, hst, hS, hP, hF, hQ⟩ := xRel_out h
  dsimp only at hl hst hS hF hQ ⊢
  simp only [xPutf] at hs
  have hx : xVal r (xSm (0, 0, (a2 : Int))) = ((a2 : Nat) : Int) := by
    rw [xSm_val]
    show 0 * _ + (a2 : Int) = a2
    omega
  split at hs
  · rename_i v k st
    obtain ⟨c0, ds, rfl, hv, hst2⟩ := xRs_cons hst
    obtain ⟨c1, ds, rfl, ⟨i, hi, rfl⟩, hst3⟩ := xRs_cons hst2
    split at hs
    · rename_i g ov hk
      obtain ⟨i2, c, p1, p2, p3, p4⟩ := hS.2 k (g, ov) hk
      have e : i2 = i := by rw [hi] at p1; exact (Option.some.inj p1).symm
      subst e
      have hcell := hP.2 i2 g c p2 p3
      split at hs
      · rename_i ci fts hg
        have hcell2 := hcell
        rw [hg] at hcell2
        obtain ⟨fl, rfl, hlen, hty⟩ := xCell_obj hcell2
        split at hs
        · rename_i ty hty2
          obtain ⟨hb, rfl⟩ := rv_bif hs
          obtain ⟨b1, b2⟩ := rv_and hb
          obtain ⟨f1, f2⟩ := xFit_ok hQ hS hv b2
          have hla : a2 < fl.length := by
            have := (List.getElem?_eq_some_iff.mp hty2).1
            omega
          have hbl : Nat.blt a2 (rvLen fl) = true := by rw [rvLen_len]; exact Nat.ble_eq_true_of_le hla
          have hP2 := xHp_put hP p2 hg p3 hty2 f2
          exact Or.inl ⟨(pc + 3, cl, ds, aw.set i2 (.inl (ci, fl.set a2 c0)), kc, ks), _, (by simp only [rvStep, p3, b1, f1, hbl, Bool.and_self, cond_true]), List.mem_singleton.mpr rfl, r, T, pl, rfl, hl, hst3, xSt_putK hS hk hi p2 p3 hla hv, hP2, fun f hf9 => hk0 f g i2 a2 _ Q ah r T pl aw _ _ hQ hS p2 p3 hx (fun m hm => xSlot_put (Ne.symm hm)) hP2 (List.mem_filter.mp hf9).2 (hF f (List.mem_filter.mp hf9).1), hQ, rfl, rfl⟩
        · cases hs
      · cases hs
    · cases hs
  · rename_i v g st
    obtain ⟨c0, ds, rfl, hv, hst2⟩ := xRs_cons hst
    obtain ⟨c1, ds, rfl, ⟨hg40, i, hi, rfl⟩, hst3⟩ := xRs_cons hst2
    have hlt : i < aw.length := by rw [hP.1]; exact (List.getElem?_eq_some_iff.mp hi).1
    have p3 : aw[i]? = some aw[i] := List.getElem?_eq_getElem hlt
    have hcell := hP.2 i g _ hi p3
    split at hs
    · rename_i ci fts hg
      rw [hg] at hcell
      obtain ⟨fl, hfl, hlen, hty⟩ := xCell_obj hcell
      rw [hfl] at p3
      split at hs
      · rename_i ty hty2
        obtain ⟨hb, rfl⟩ := rv_bif hs
        obtain ⟨b1, b2⟩ := rv_and hb
        obtain ⟨f1, f2⟩ := xFit_ok hQ hS hv b2
        have hla : a2 < fl.length := by
          have := (List.getElem?_eq_some_iff.mp hty2).1
          omega
        have hbl : Nat.blt a2 (rvLen fl) = true := by rw [rvLen_len]; exact Nat.ble_eq_true_of_le hla
        have hP2 := xHp_put hP hi hg p3 hty2 f2
        exact Or.inl ⟨(pc + 3, cl, ds, aw.set i (.inl (ci, fl.set a2 c0)), kc, ks), _, (by simp only [rvStep, p3, b1, f1, hbl, Bool.and_self, cond_true]), List.mem_singleton.mpr rfl, r, T, pl, rfl, hl, hst3, xSt_putO hS hi p3, hP2, fun f hf9 => hk0 f g i a2 _ Q ah r T pl aw _ _ hQ hS hi p3 hx (fun m hm => xSlot_put (Ne.symm hm)) hP2 (List.mem_filter.mp hf9).2 (hF f (List.mem_filter.mp hf9).1), hQ, rfl, rfl⟩
      · cases hs
    · cases hs
  · cases hs
