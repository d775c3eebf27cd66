/-! Longs are written into rows: nothing is kept of them. -/
noncomputable def xStl (rg : Nat → xG) (d : Nat) (S : xS) : Option (List xS) := match S with
  | (pc, al, st, ah, fs, Q, kc, ks) => match st with
    | .inr (1, _) :: .inl x :: v :: st => (match xRef ah v with
      | some g => (match rg g with
        | .inr (3, n, _, _) => bif xBnd d Q x n then some [xNx S (pc + 1) al st Q] else none
        | _ => none)
      | none => none)
    | _ => none
set_option maxHeartbeats 1000000 in
theorem xp_lastore {rg : Nat → xG} {fm : xF → List Int → List Nat → List Nat → rvH → Prop} {sc : List (Int × Int)} {BC BS mL a1 a2 a3 pc kc ks d : Nat} {al st : List xV} {ah : List xC} {fs : List xF} {Q : xQ} {Ss : List xS} {o : rvS} (hf : xFm fm) (hs : xStl rg d (pc, al, st, ah, fs, Q, kc, ks) = some Ss) (h : xRel rg fm (pc, al, st, ah, fs, Q, kc, ks) o) :
    xOk rg fm Ss (rvStep rvTy rvNf rvTxt sc BC BS mL (.lastore) a1 a2 a3 o.1 o.2.1 o.2.2.1 o.2.2.2.1 o.2.2.2.2.1 o.2.2.2.2.2) := by
  obtain ⟨r, T, pl, cl, cs, aw, rfl, hl, hst, hS, hP, hF, hQ⟩ := xRel_out h
  dsimp only at hl hst hS hF hQ ⊢
  simp only [xStl] at hs
  have same : ∃ t, r = r ++ t := ⟨[], (List.append_nil r).symm⟩
  split at hs
  · rename_i lg x v st
    obtain ⟨c9, ds, rfl, hlg, hst1⟩ := xRs_cons hst
    obtain ⟨c0, ds, rfl, hx, hst2⟩ := xRs_cons hst1
    obtain ⟨c1, ds, rfl, hv, hst3⟩ := xRs_cons hst2
    obtain ⟨z9, rfl, -⟩ := xR_lc hlg
    obtain ⟨z, rfl, ez, z32, wx⟩ := xR_pt hx
    split at hs
    · rename_i g hg
      obtain ⟨i, b, rfl, p2, p3, hcell⟩ := xRef_ok hS hP hv hg
      split at hs
      · rename_i n p sg hr
        rw [hr] at hcell
        obtain ⟨dv, cv, rfl, -⟩ := xCell_row hcell
        obtain ⟨hc, rfl⟩ := rv_bif hs
        obtain ⟨l1, l2⟩ := xBnd_ok hQ hc
        rw [← ez] at l1 l2
        exact Or.inl ⟨_, _, (by simp only [rvStep, p3, rvIdx_pt l1 l2] <;> rfl), List.mem_singleton.mpr rfl, xNx_ok hf hS hP hF rfl rfl same hl hst3 hQ⟩
      · cases hs
    · cases hs
  · cases hs
