/-! A byte's last eight bits, as a number from 0 on: two cases. -/
theorem xi_255 : ∀ n : Nat, n < 256 → (Int32.ofInt ((n : Int) - 128) &&& Int32.ofInt 255).toInt = bif Nat.ble 128 n then (n : Int) - 128 else (n : Int) + 128 := by decide +kernel
noncomputable def xA255 (S : xS) : Option (List xS) := match S with
  | (pc, al, st, _, _, Q, _, _) => match st with
    | .inl b :: .inl a :: st => (match xItv Q a with
      | some u => bif xPt Q b 255 && (decide (-128 ≤ u.1) && decide (u.2 ≤ 127)) then some (xJ S (pc + 1) al (.inl a :: st) (xOl (xKnow (xSm a) Q)) ++ xJ S (pc + 1) al (.inl (a.1, a.2.1, a.2.2 + 256) :: st) (xOl (xKnow (xSub (xK (-1)) (xSm a)) Q))) else none
      | none => none)
    | _ => none
theorem xp_a255 {rg : Nat → xG} {fm : xF → List Int → List Nat → List Nat → rvH → Prop} {sc : List (Int × Int)} {BC BS mL a1 a2 a3 : Nat} {S : xS} {Ss : List xS} {o : rvS} (hf : xFm fm) (hs : xA255 S = some Ss) (h : xRel rg fm S o) : xOk rg fm Ss (rvStep rvTy rvNf rvTxt sc BC BS mL (.iand) a1 a2 a3 o.1 o.2.1 o.2.2.1 o.2.2.2.1 o.2.2.2.2.1 o.2.2.2.2.2) := by
  obtain ⟨pc, al, st, ah, fs, Q, kc, ks⟩ := S
  obtain ⟨r, T, pl, cl, cs, aw, rfl, hl, hst, hS, hP, hF, hQ⟩ := xRel_out h
  dsimp only at hl hst hS hF hQ ⊢
  simp only [xA255] at hs
  have same : ∃ t, r = r ++ t := ⟨[], (List.append_nil r).symm⟩
  split at hs
  · rename_i b a st
    obtain ⟨c1, ds, rfl, hb, k1⟩ := xRs_cons hst
    obtain ⟨c2, ds, rfl, ha, k2⟩ := xRs_cons k1
    obtain ⟨w, rfl, ew, -, -⟩ := xR_pt hb
    obtain ⟨z, rfl, ez, z32, wz⟩ := xR_pt ha
    split at hs
    · rename_i u hu
      obtain ⟨hc, rfl⟩ := rv_bif hs
      obtain ⟨b1, e2⟩ := rv_and hc
      obtain ⟨b2, b3⟩ := rv_and e2
      have b2 := of_decide_eq_true b2
      have b3 := of_decide_eq_true b3
      obtain ⟨u1, u2⟩ := xItv_ok hQ hu
      rw [← ez] at u1 u2
      have hw := xPt_ok hQ b1
      have hw : w = 255 := by omega
      subst hw
      have key := xi_255 (z + 128).toNat (by omega)
      have e9 : (((z + 128).toNat : Nat) : Int) - 128 = z := by omega
      rw [e9] at key
      by_cases h0 : 0 ≤ z
      · have hbl : Nat.ble 128 (z + 128).toNat = true := Nat.ble_eq_true_of_le (by omega)
        rw [hbl] at key
        have key : (Int32.ofInt z &&& Int32.ofInt 255).toInt = z := key
        obtain ⟨Q2, hm, hQ2, -⟩ := xOl_ok (l := xSm a) hQ (by rw [← ez]; exact h0)
        refine Or.inl ⟨(pc + 1, cl, .inl (z, z) :: ds, aw, kc, ks), _, ?_, List.mem_append.mpr (Or.inl (List.mem_map.mpr ⟨Q2, hm, rfl⟩)), xNx_ok hf hS hP hF rfl rfl same hl (xRs_c ha k2) hQ2⟩
        show some (pc + 1, cl, rvBin (· &&& ·) (z, z) (255, 255) :: ds, aw, kc, ks) = _
        rw [rvBin_pt, key]
      · have hbl : Nat.ble 128 (z + 128).toNat = false := by
          cases h9 : Nat.ble 128 (z + 128).toNat with
          | false => rfl
          | true => have := rv_ble h9; omega
        rw [hbl] at key
        have key : (Int32.ofInt z &&& Int32.ofInt 255).toInt = (((z + 128).toNat : Nat) : Int) + 128 := key
        have key : (Int32.ofInt z &&& Int32.ofInt 255).toInt = z + 256 := by rw [key]; omega
        obtain ⟨Q2, hm, hQ2, -⟩ := xOl_ok (l := xSub (xK (-1)) (xSm a)) hQ (by rw [xSub_ok, xK_ok, ← ez]; omega)
        have hv : xR r T pl (.inl (a.1, a.2.1, a.2.2 + 256)) (.inl (z + 256, z + 256)) := by
          have e1 : xVal r (xSm (a.1, a.2.1, a.2.2 + 256)) = z + 256 := by
            rw [ez, xSm_val, xSm_val]
            show a.2.1 * r.getD a.1 0 + (a.2.2 + 256) = a.2.1 * r.getD a.1 0 + a.2.2 + 256
            omega
          refine ⟨?_, ?_, by rw [e1]⟩
          · have e2 : (xSm (a.1, a.2.1, a.2.2 + 256)).1 = (xSm a).1 := by
              unfold xSm
              cases decide (a.2.1 = 0) <;> rfl
            rw [e2]
            exact wz
          · rw [e1]
            exact ⟨by omega, by omega⟩
        refine Or.inl ⟨(pc + 1, cl, .inl (z + 256, z + 256) :: ds, aw, kc, ks), _, ?_, List.mem_append.mpr (Or.inr (List.mem_map.mpr ⟨Q2, hm, rfl⟩)), xNx_ok hf hS hP hF rfl rfl same hl (xRs_c hv k2) hQ2⟩
        show some (pc + 1, cl, rvBin (· &&& ·) (z, z) (255, 255) :: ds, aw, kc, ks) = _
        rw [rvBin_pt, key]
    · cases hs
  · cases hs
