/-! Longs are written into rows: of the long that is written nothing is told. -/
def xLgV (v : xV) : Bool := match v with
  | .inr (1, 0) => true
  | _ => false
theorem xLgV_ok {v : xV} (h : xLgV v = true) : v = .inr (1, 0) := by
  unfold xLgV at h
  split at h
  · rfl
  · cases h
theorem xSt_genL {r : List Int} {T pl : List Nat} {ah : List xC} {aw : rvH} {i g j : Nat} {c c' : rvC} {kp : (Nat × Int × Int) × xV → Bool} (hS : xSt r T pl ah aw) (hi : T[i]? = some g) (hc : aw[i]? = some c) (hsl : ∀ m, m ≠ j → xSlot c' m = xSlot c m) (hL : ∃ z, xSlot c' j = some (.inr (1, z))) (hkp : ∀ q, kp q = true → q.2 = .inr (1, 0) ∨ ∀ m : Nat, xVal r (xSm q.1) = (m : Int) → m ≠ j) :
    xSt r T pl (xKillG g kp ah) (aw.set i c') := by
  refine ⟨by unfold xKillG; rw [List.length_map]; exact hS.1, fun k s hs => ?_⟩
  unfold xKillG at hs
  rw [List.getElem?_map] at hs
  cases hk : ah[k]? with
  | none => rw [hk] at hs; cases hs
  | some s0 =>
    rw [hk] at hs
    have hs : (bif Nat.beq s0.1 g then (s0.1, s0.2.filter kp) else s0) = s := Option.some.inj hs
    obtain ⟨i2, c2, h1, h2, h3, h4⟩ := hS.2 k s0 hk
    by_cases hii : i = i2
    · subst hii
      have e : s0.1 = g := by rw [hi] at h2; exact (Option.some.inj h2).symm
      have hb : Nat.beq s0.1 g = true := by rw [e]; exact Nat.beq_refl g
      rw [hb] at hs
      have hs : (s0.1, s0.2.filter kp) = s := hs
      subst hs
      have hlt := (List.getElem?_eq_some_iff.mp hc).1
      refine ⟨i, c', h1, h2, by rw [List.getElem?_set]; simp [hlt], fun q hq => ?_⟩
      obtain ⟨hq1, hq2⟩ := List.mem_filter.mp hq
      have ec : c2 = c := by rw [hc] at h3; exact (Option.some.inj h3).symm
      subst ec
      obtain ⟨w1, m, v, e1, e2, e3⟩ := h4 q hq1
      by_cases hmj : m = j
      · subst hmj
        rcases hkp q hq2 with e | e
        · obtain ⟨z, hz⟩ := hL
          refine ⟨w1, m, .inr (1, z), e1, hz, ?_⟩
          rw [e]
          exact ⟨z, rfl⟩
        · exact absurd rfl (e m e1)
      · exact ⟨w1, m, v, e1, by rw [hsl m hmj]; exact e2, e3⟩
    · have h3' : (aw.set i c')[i2]? = some c2 := by
        rw [List.getElem?_set]
        simp [hii]
        exact h3
      cases hb : Nat.beq s0.1 g with
      | true =>
        rw [hb] at hs
        have hs : (s0.1, s0.2.filter kp) = s := hs
        subst hs
        exact ⟨i2, c2, h1, h2, h3', fun q hq => h4 q (List.mem_filter.mp hq).1⟩
      | false =>
        rw [hb] at hs
        have hs : s0 = s := hs
        subst hs
        exact ⟨i2, c2, h1, h2, h3', h4⟩
noncomputable def xStl (rg : Nat → xG) (fk : Nat → Nat × Int × Int → xQ → List xC → xF → Bool) (d : Nat) (S : xS) : Option (List xS) := match S with
  | (pc, al, st, ah, fs, Q, kc, ks) => match st with
    | .inr (1, _) :: .inl x :: v :: st => (match xRef ah v with
      | some g => (match rg g with
        | .inr (3, n, p, sg) => bif xBnd d Q x n && (Nat.beq p 1 && xLgT (xAt sg 0)) then some [(pc + 1, al, st, xKillG g (fun b => xLgV b.2 || xApart d Q b.1 x) ah, fs.filter (fk g x Q ah), Q, kc, ks)] else none
        | _ => none)
      | none => none)
    | _ => none
set_option maxHeartbeats 1000000 in
theorem xp_lastore {rg : Nat → xG} {fm : xF → List Int → List Nat → List Nat → rvH → Prop} {fk : Nat → Nat × Int × Int → xQ → List xC → xF → Bool} {sc : List (Int × Int)} {BC BS mL a1 a2 a3 pc kc ks d : Nat} {al st : List xV} {ah : List xC} {fs : List xF} {Q : xQ} {Ss : List xS} {o : rvS} (hk0 : xFk rg fm fk) (hs : xStl rg fk d (pc, al, st, ah, fs, Q, kc, ks) = some Ss) (h : xRel rg fm (pc, al, st, ah, fs, Q, kc, ks) o) :
    xOk rg fm Ss (rvStep rvTy rvNf rvTxt sc BC BS mL (.lastore) a1 a2 a3 o.1 o.2.1 o.2.2.1 o.2.2.2.1 o.2.2.2.2.1 o.2.2.2.2.2) := by
  obtain ⟨r, T, pl, cl, cs, aw, rfl, hl, hst, hS, hP, hF, hQ⟩ := xRel_out h
  dsimp only at hl hst hS hF hQ ⊢
  simp only [xStl] at hs
  split at hs
  · rename_i lg x v st
    obtain ⟨c9, ds, rfl, hlg, hst1⟩ := xRs_cons hst
    obtain ⟨c0, ds, rfl, hx, hst2⟩ := xRs_cons hst1
    obtain ⟨c1, ds, rfl, hv, hst3⟩ := xRs_cons hst2
    obtain ⟨z9, rfl, -⟩ := xR_lc hlg
    obtain ⟨z, rfl, ez, z32, wx⟩ := xR_pt hx
    split at hs
    · rename_i g hg
      obtain ⟨i, b, rfl, p2, p3, hcell⟩ := xRef_ok hS hP hv hg
      split at hs
      · rename_i n p sg hr
        rw [hr] at hcell
        obtain ⟨dv, cv, rfl, -⟩ := xCell_row hcell
        obtain ⟨hd0, rfl⟩ := rv_bif hs
        obtain ⟨hd1, hd2⟩ := rv_and hd0
        obtain ⟨hd3, hc3⟩ := rv_and hd2
        have hd4 := rv_beq hd3
        clear hd0 hd2 hd3
        subst hd4
        obtain ⟨l1, l2⟩ := xBnd_ok hQ hd1
        rw [← ez] at l1 l2
        have hj : xVal r (xSm x) = ((z.toNat : Nat) : Int) := by rw [← ez]; omega
        have hn : z.toNat < n := by omega
        have hP2 := xHp_row hP p2 hr p3 (j := z.toNat) (w := .inr (1, z9)) (by rw [Nat.mod_one, xLgT_ok hc3]; exact ⟨z9, rfl⟩)
        have hsl : ∀ m, m ≠ z.toNat → xSlot (.inr (3, n, dv, rvUp cv z.toNat (.inr (1, z9)))) m = xSlot (.inr (3, n, dv, cv)) m := fun m hm => xSlot_row hm
        refine Or.inl ⟨(pc + 1, cl, ds, aw.set i (.inr (3, n, dv, rvUp cv z.toNat (.inr (1, z9)))), kc, ks), _, (by simp only [rvStep, p3, rvIdx_pt l1 l2]), List.mem_singleton.mpr rfl, r, T, pl, rfl, hl, hst3, xSt_genL hS p2 p3 hsl ⟨z9, xSlot_rowJ hn⟩ ?_, hP2, fun f hf9 => hk0 f g i z.toNat x Q ah r T pl aw _ _ hQ hS p2 p3 hj hsl hP2 (List.mem_filter.mp hf9).2 (hF f (List.mem_filter.mp hf9).1), hQ, rfl, rfl⟩
        intro q hq
        rcases rv_or' hq with e | e
        · exact Or.inl (xLgV_ok e)
        · refine Or.inr (fun m hm e2 => ?_)
          have := xApart_ok hQ e
          rw [hm, hj, e2] at this
          exact this rfl
      · cases hs
    · cases hs
  · cases hs
